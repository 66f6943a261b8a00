/-- v where P holds, among the first i -/
def goA (f : Nat → Int32) (P : Nat → Bool) (v : Nat → Int32) (i : Nat) : Nat → Int32 := fun t => if t < i ∧ P t = true then v t else f t
theorem goA_self (f : Nat → Int32) (P : Nat → Bool) (v : Nat → Int32) (i : Nat) : goA f P v i i = f i := if_neg (fun h => Nat.lt_irrefl _ h.1)
theorem goA_zero (f : Nat → Int32) (P : Nat → Bool) (v : Nat → Int32) : goA f P v 0 = f := by funext t; exact if_neg (fun h => Nat.not_lt_zero _ h.1)
theorem goA_yes {f : Nat → Int32} {P : Nat → Bool} {v : Nat → Int32} {i : Nat} (h : P i = true) : upd (goA f P v i) i (v i) = goA f P v (i + 1) := by
  funext t
  unfold upd goA
  by_cases e : t = i
  · subst e; simp [h]
  · by_cases e2 : t < i
    · simp [e, e2, show t < i + 1 by omega]
    · simp [e, e2, show ¬ t < i + 1 by omega]
theorem goA_no {f : Nat → Int32} {P : Nat → Bool} {v : Nat → Int32} {i : Nat} (h : ¬ P i = true) : goA f P v i = goA f P v (i + 1) := by
  funext t
  unfold goA
  by_cases e : t = i
  · subst e; simp [h]
  · by_cases e2 : t < i
    · simp [e2, show t < i + 1 by omega]
    · simp [e2, show ¬ t < i + 1 by omega]
section CLS
variable {p : Program} {l : Launch} {e : Env} {R : Room} {s : State} {m : MethodId} {args : Array Value} {below : List Frame} {meth : Method} {c : Code} {H : Heap} {locs : List Loc} {cells slots : Nat} {Q : State → Prop}
variable {cc : ByteArray} {nL : Nat} {own : String} {pc : Nat} {ls : Array Slot} {rest : List Value} {D : va_G} {cA : ClassId} {a : Adr} {S X : Mem} {I : Nat → Prop} {H0 : Heap} {A0 : Nat → Prop}
set_option maxHeartbeats 4000000 in
set_option maxRecDepth 100000 in
theorem c_X7_add (l : Launch) (D : va_G) (cA : ClassId) (a : Adr) (S X : Mem) (I : Nat → Prop) (hd : Hd nT a I) (f : Int32) (to : Int32) (pu : Int32) {T : Nat} (hnT : S 85 0 = nI T) (hT : T < 30) : MI l yX7_add cX7_add 5 (some .int) 1 22 D cA a S X I [.ref (a 85), .int f, .int to, .int pu] (fun r S1 X1 => r = (nI T) ∧ S1 = (up (up (up (up (up (up S 20 (upd (S 20) T to)) 21 (upd (S 21) T pu)) 22 (upd (S 22) T f)) 23 (upd (S 23) T (-1))) 24 (upd (S 24) T (-1))) 85 (fun _ => nI T + 1)) ∧ X1 = X) := by
  refine mGo (by decide) (Nat.le_of_ble_eq_true rfl) ?_
  intro p e s m args below meth c ls C0 hr hlk hK hP hS hl hargs
  obtain ⟨H, hHe⟩ : ∃ H, H = s.heap := ⟨_, rfl⟩
  obtain ⟨locs, hlo⟩ : ∃ L : List Loc, L = [] := ⟨_, rfl⟩
  have hP : WP D cA a S X I H := hHe ▸ hP
  have hS : va_S (AI a I) s.heap H locs := by rw [hHe, hlo]; exact hS
  rw [← hHe, ← hlo]
  have hA : ∀ q, AI a I q → AI a I q := fun _ h => h
  refine lv_aload_n C0.1 C0.2.1 dX7_add_0 rfl (lv_at hl 0 rfl) ?_
  refine g85_number (v := nI T) C0 hK hP (hd.1 _ (by decide)) fl_X7_32 hnT dX7_add_1 ?_
  refine lv_istore (lv' := [(4, .int (nI T)), (0, .ref (a 85)), (1, .int f), (2, .int to), (3, .int pu)]) C0.1 C0.2.1 dX7_add_4 hl (by decide) rfl (fun ls hl => ?_)
  refine lv_aload_n C0.1 C0.2.1 dX7_add_6 rfl (lv_at hl 1 rfl) ?_
  refine g85_wish C0 hK hP (hd.1 _ (by decide)) fl_X7_14 dX7_add_7 ?_
  refine lv_iload C0.1 C0.2.1 dX7_add_10 (lv_at hl 0 rfl) ?_
  refine lv_iload_n C0.1 C0.2.1 dX7_add_12 rfl (lv_at hl 3 rfl) ?_
  refine k_X5_set 20 (by decide) hd (by decide) (by decide) C0 hK hP hS hA hl.1 ml_X7_40 ⟨Nat.le_of_ble_eq_true rfl, Nat.le_of_ble_eq_true rfl⟩ ⟨Nat.zero_le _, Nat.zero_le _⟩ (Nat.le_of_ble_eq_true rfl) dX7_add_13 (fun H locs hP hS => ?_)
  have hP : WP D cA a (up S 20 (us (S 20) 30 (nI T) to)) X I H := hP
  have hP : WP D cA a (up S 20 (upd (S 20) T to)) X I H := WP.congr hP (fun k => by
      by_cases h_20 : k = 20
      · subst h_20; exact ((us_nI (show T < 30 by omega) (by decide)) : (us (S 20) 30 (nI T) to) = (upd (S 20) T to))
      simp only [up, h_20, if_false]) (fun _ => rfl)
  refine lv_aload_n C0.1 C0.2.1 dX7_add_16 rfl (lv_at hl 1 rfl) ?_
  refine g85_purse C0 hK hP (hd.1 _ (by decide)) fl_X7_20 dX7_add_17 ?_
  refine lv_iload C0.1 C0.2.1 dX7_add_20 (lv_at hl 0 rfl) ?_
  refine lv_iload_n C0.1 C0.2.1 dX7_add_22 rfl (lv_at hl 4 rfl) ?_
  refine k_X5_set 21 (by decide) hd (by decide) (by decide) C0 hK hP hS hA hl.1 ml_X7_40 ⟨Nat.le_of_ble_eq_true rfl, Nat.le_of_ble_eq_true rfl⟩ ⟨Nat.zero_le _, Nat.zero_le _⟩ (Nat.le_of_ble_eq_true rfl) dX7_add_23 (fun H locs hP hS => ?_)
  have hP : WP D cA a (up (up S 20 (upd (S 20) T to)) 21 (us (S 21) 30 (nI T) pu)) X I H := hP
  have hP : WP D cA a (up (up S 20 (upd (S 20) T to)) 21 (upd (S 21) T pu)) X I H := WP.congr hP (fun k => by
      by_cases h_20 : k = 20
      · subst h_20; exact (rfl : (upd (S 20) T to) = (upd (S 20) T to))
      by_cases h_21 : k = 21
      · subst h_21; exact ((us_nI (show T < 30 by omega) (by decide)) : (us (S 21) 30 (nI T) pu) = (upd (S 21) T pu))
      simp only [up, h_20, h_21, if_false]) (fun _ => rfl)
  refine lv_aload_n C0.1 C0.2.1 dX7_add_26 rfl (lv_at hl 1 rfl) ?_
  refine g85_landing C0 hK hP (hd.1 _ (by decide)) fl_X7_23 dX7_add_27 ?_
  refine lv_iload C0.1 C0.2.1 dX7_add_30 (lv_at hl 0 rfl) ?_
  refine lv_iload_n C0.1 C0.2.1 dX7_add_32 rfl (lv_at hl 2 rfl) ?_
  refine k_X5_set 22 (by decide) hd (by decide) (by decide) C0 hK hP hS hA hl.1 ml_X7_40 ⟨Nat.le_of_ble_eq_true rfl, Nat.le_of_ble_eq_true rfl⟩ ⟨Nat.zero_le _, Nat.zero_le _⟩ (Nat.le_of_ble_eq_true rfl) dX7_add_33 (fun H locs hP hS => ?_)
  have hP : WP D cA a (up (up (up S 20 (upd (S 20) T to)) 21 (upd (S 21) T pu)) 22 (us (S 22) 30 (nI T) f)) X I H := hP
  have hP : WP D cA a (up (up (up S 20 (upd (S 20) T to)) 21 (upd (S 21) T pu)) 22 (upd (S 22) T f)) X I H := WP.congr hP (fun k => by
      by_cases h_20 : k = 20
      · subst h_20; exact (rfl : (upd (S 20) T to) = (upd (S 20) T to))
      by_cases h_21 : k = 21
      · subst h_21; exact (rfl : (upd (S 21) T pu) = (upd (S 21) T pu))
      by_cases h_22 : k = 22
      · subst h_22; exact ((us_nI (show T < 30 by omega) (by decide)) : (us (S 22) 30 (nI T) f) = (upd (S 22) T f))
      simp only [up, h_20, h_21, h_22, if_false]) (fun _ => rfl)
  refine lv_aload_n C0.1 C0.2.1 dX7_add_36 rfl (lv_at hl 1 rfl) ?_
  refine g85_punt C0 hK hP (hd.1 _ (by decide)) fl_X7_26 dX7_add_37 ?_
  refine lv_iload C0.1 C0.2.1 dX7_add_40 (lv_at hl 0 rfl) ?_
  refine lv_iconst (v := (-1)) C0.1 C0.2.1 dX7_add_42 (by decide) ?_
  refine k_X5_set 23 (by decide) hd (by decide) (by decide) C0 hK hP hS hA hl.1 ml_X7_40 ⟨Nat.le_of_ble_eq_true rfl, Nat.le_of_ble_eq_true rfl⟩ ⟨Nat.zero_le _, Nat.zero_le _⟩ (Nat.le_of_ble_eq_true rfl) dX7_add_43 (fun H locs hP hS => ?_)
  have hP : WP D cA a (up (up (up (up S 20 (upd (S 20) T to)) 21 (upd (S 21) T pu)) 22 (upd (S 22) T f)) 23 (us (S 23) 30 (nI T) (-1))) X I H := hP
  have hP : WP D cA a (up (up (up (up S 20 (upd (S 20) T to)) 21 (upd (S 21) T pu)) 22 (upd (S 22) T f)) 23 (upd (S 23) T (-1))) X I H := WP.congr hP (fun k => by
      by_cases h_20 : k = 20
      · subst h_20; exact (rfl : (upd (S 20) T to) = (upd (S 20) T to))
      by_cases h_21 : k = 21
      · subst h_21; exact (rfl : (upd (S 21) T pu) = (upd (S 21) T pu))
      by_cases h_22 : k = 22
      · subst h_22; exact (rfl : (upd (S 22) T f) = (upd (S 22) T f))
      by_cases h_23 : k = 23
      · subst h_23; exact ((us_nI (show T < 30 by omega) (by decide)) : (us (S 23) 30 (nI T) (-1)) = (upd (S 23) T (-1)))
      simp only [up, h_20, h_21, h_22, h_23, if_false]) (fun _ => rfl)
  refine lv_aload_n C0.1 C0.2.1 dX7_add_46 rfl (lv_at hl 1 rfl) ?_
  refine g85_cameAt C0 hK hP (hd.1 _ (by decide)) fl_X7_29 dX7_add_47 ?_
  refine lv_iload C0.1 C0.2.1 dX7_add_50 (lv_at hl 0 rfl) ?_
  refine lv_iconst (v := (-1)) C0.1 C0.2.1 dX7_add_52 (by decide) ?_
  refine k_X5_set 24 (by decide) hd (by decide) (by decide) C0 hK hP hS hA hl.1 ml_X7_40 ⟨Nat.le_of_ble_eq_true rfl, Nat.le_of_ble_eq_true rfl⟩ ⟨Nat.zero_le _, Nat.zero_le _⟩ (Nat.le_of_ble_eq_true rfl) dX7_add_53 (fun H locs hP hS => ?_)
  have hP : WP D cA a (up (up (up (up (up S 20 (upd (S 20) T to)) 21 (upd (S 21) T pu)) 22 (upd (S 22) T f)) 23 (upd (S 23) T (-1))) 24 (us (S 24) 30 (nI T) (-1))) X I H := hP
  have hP : WP D cA a (up (up (up (up (up S 20 (upd (S 20) T to)) 21 (upd (S 21) T pu)) 22 (upd (S 22) T f)) 23 (upd (S 23) T (-1))) 24 (upd (S 24) T (-1))) X I H := WP.congr hP (fun k => by
      by_cases h_20 : k = 20
      · subst h_20; exact (rfl : (upd (S 20) T to) = (upd (S 20) T to))
      by_cases h_21 : k = 21
      · subst h_21; exact (rfl : (upd (S 21) T pu) = (upd (S 21) T pu))
      by_cases h_22 : k = 22
      · subst h_22; exact (rfl : (upd (S 22) T f) = (upd (S 22) T f))
      by_cases h_23 : k = 23
      · subst h_23; exact (rfl : (upd (S 23) T (-1)) = (upd (S 23) T (-1)))
      by_cases h_24 : k = 24
      · subst h_24; exact ((us_nI (show T < 30 by omega) (by decide)) : (us (S 24) 30 (nI T) (-1)) = (upd (S 24) T (-1)))
      simp only [up, h_20, h_21, h_22, h_23, h_24, if_false]) (fun _ => rfl)
  refine lv_aload_n C0.1 C0.2.1 dX7_add_56 rfl (lv_at hl 1 rfl) ?_
  refine lv_dup C0.1 C0.2.1 dX7_add_57 rfl ?_
  refine g85_number (v := nI T) C0 hK hP (hd.1 _ (by decide)) fl_X7_32 hnT dX7_add_58 ?_
  refine lv_iconst (v := 1) C0.1 C0.2.1 dX7_add_61 (by decide) ?_
  refine lv_iadd C0.1 C0.2.1 dX7_add_62 ?_
  refine p85_number (x := ((nI T) + 1)) C0 hK hP hS hA (hd.1 _ (by decide)) hd.2.2 fl_X7_32 dX7_add_63 (fun H locs hP hS => ?_)
  have hP : WP D cA a (up (up (up (up (up (up S 20 (upd (S 20) T to)) 21 (upd (S 21) T pu)) 22 (upd (S 22) T f)) 23 (upd (S 23) T (-1))) 24 (upd (S 24) T (-1))) 85 (fun _ => (nI T) + 1)) X I H := hP
  refine lv_iload C0.1 C0.2.1 dX7_add_66 (lv_at hl 0 rfl) ?_
  exact retI C0 hr hlk hP hS ⟨rfl, rfl, rfl⟩ dX7_add_68
theorem k_X7_add {n : List Nat} (hd : Hd n a I) (hsub : ∀ k ∈ nT, k ∈ n) (C0 : CallFix p m c cc nL s args GW own) (hK : KK D cA s) (hP : WP D cA a S X I H) {f : Int32} {to : Int32} {pu : Int32} {T : Nat} (hnT : S 85 0 = nI T) (hT : T < 30) {v : Int32} (hv : (nI T) = v) (hS : va_S A0 H0 H locs) (hA : ∀ q, AI a I q → A0 q) (hls : ls.size = nL) {idx : Nat} (hlink : Cond.methodLink own idx yX7_add ∈ GW) (hR : 2 ≤ R.frames ∧ 46 ≤ R.locals) (hcs : cells ≤ R.cells ∧ slots ≤ R.slots) (hrest : (rest.map fun v => v.category).sum ≤ 8) (hdg : decode cc pc = .ok (.invokevirtual idx, 3)) (kk : ∀ (H1 : Heap) (locs1 : List Loc), WP D cA a (up (up (up (up (up (up S 20 (upd (S 20) T to)) 21 (upd (S 21) T pu)) 22 (upd (S 22) T f)) 23 (upd (S 23) T (-1))) 24 (upd (S 24) T (-1))) 85 (fun _ => nI T + 1)) X I H1 → va_S A0 H0 H1 locs1 → W p l e R s m args below meth c H1 locs1 cells slots Q (F0 m (pc + 3) ls (.int v :: rest))) : W p l e R s m args below meth c H locs cells slots Q (F0 m pc ls (.int pu :: .int to :: .int f :: .ref (a 85) :: rest)) := by
  subst hv
  exact goI (rV (n := 3) (c_X7_add l D cA a S X I (hd.sub hsub) f to pu hnT hT) C0 hlink im_X7_add se_X7_add in_X7 co_X7_add ⟨rfl, by decide⟩ hR hK hP (hd.1 _ (hsub _ (by decide))) rfl rfl rfl hls hrest rfl hdg hcs) hS hA (fun r S1 X1 H1 locs1 hp hP1 hS1 => by obtain ⟨rfl, rfl, rfl⟩ := hp; exact kk H1 locs1 hP1 hS1)
set_option maxHeartbeats 4000000 in
set_option maxRecDepth 100000 in
theorem c_X7_hasCome (l : Launch) (D : va_G) (cA : ClassId) (a : Adr) (S X : Mem) (I : Nat → Prop) (hd : Hd nT a I) (t : Nat) (ht : t < 30) : MI l yX7_hasCome cX7_hasCome 2 (some .boolean) 1 21 D cA a S X I [.ref (a 85), .int (nI t)] (fun r S1 X1 => r = (bI (!decide (S 24 t = -1))) ∧ S1 = S ∧ X1 = X) := by
  refine mGo (by decide) (Nat.le_of_ble_eq_true rfl) ?_
  intro p e s m args below meth c ls C0 hr hlk hK hP hS hl hargs
  obtain ⟨H, hHe⟩ : ∃ H, H = s.heap := ⟨_, rfl⟩
  obtain ⟨locs, hlo⟩ : ∃ L : List Loc, L = [] := ⟨_, rfl⟩
  have hP : WP D cA a S X I H := hHe ▸ hP
  have hS : va_S (AI a I) s.heap H locs := by rw [hHe, hlo]; exact hS
  rw [← hHe, ← hlo]
  have hA : ∀ q, AI a I q → AI a I q := fun _ h => h
  refine lv_aload_n C0.1 C0.2.1 dX7_hasCome_0 rfl (lv_at hl 0 rfl) ?_
  refine g85_cameAt C0 hK hP (hd.1 _ (by decide)) fl_X7_29 dX7_hasCome_1 ?_
  refine lv_iload_n C0.1 C0.2.1 dX7_hasCome_4 rfl (lv_at hl 1 rfl) ?_
  refine k_X5_get (v := S 24 t) 24 (by decide) hd (by decide) (by decide) C0 hK hP (rg_nI (show t < 30 by omega) (by decide)) hS hA hl.1 ml_X7_44 ⟨Nat.le_of_ble_eq_true rfl, Nat.le_of_ble_eq_true rfl⟩ ⟨Nat.zero_le _, Nat.zero_le _⟩ (Nat.le_of_ble_eq_true rfl) dX7_hasCome_5 (fun H locs hP hS => ?_)
  refine lv_iconst (v := (-1)) C0.1 C0.2.1 dX7_hasCome_8 (by decide) ?_
  refine lv_icmp_eq (tgt := 16) C0.1 C0.2.1 dX7_hasCome_9 (by decide) (fun c_9 => ?_) (fun c_9 => ?_)
  · refine lv_iconst (v := 0) C0.1 C0.2.1 dX7_hasCome_16 (by decide) ?_
    exact retZ C0 hr hlk hP hS rfl ⟨by simp [bI, c_9], rfl, rfl⟩ dX7_hasCome_17
  · refine lv_iconst (v := 1) C0.1 C0.2.1 dX7_hasCome_12 (by decide) ?_
    refine lv_goto (tgt := 17) C0.1 C0.2.1 dX7_hasCome_13 (by decide) ?_
    exact retZ C0 hr hlk hP hS rfl ⟨by simp [bI, c_9], rfl, rfl⟩ dX7_hasCome_17
theorem k_X7_hasCome {n : List Nat} (hd : Hd n a I) (hsub : ∀ k ∈ nT, k ∈ n) (C0 : CallFix p m c cc nL s args GW own) (hK : KK D cA s) (hP : WP D cA a S X I H) {t : Nat} (ht : t < 30) {v : Int32} (hv : (bI (!decide (S 24 t = -1))) = v) (hS : va_S A0 H0 H locs) (hA : ∀ q, AI a I q → A0 q) (hls : ls.size = nL) {idx : Nat} (hlink : Cond.methodLink own idx yX7_hasCome ∈ GW) (hR : 2 ≤ R.frames ∧ 42 ≤ R.locals) (hcs : cells ≤ R.cells ∧ slots ≤ R.slots) (hrest : (rest.map fun v => v.category).sum ≤ 8) (hdg : decode cc pc = .ok (.invokevirtual idx, 3)) (kk : ∀ (H1 : Heap) (locs1 : List Loc), WP D cA a S X I H1 → va_S A0 H0 H1 locs1 → W p l e R s m args below meth c H1 locs1 cells slots Q (F0 m (pc + 3) ls (.int v :: rest))) : W p l e R s m args below meth c H locs cells slots Q (F0 m pc ls (.int (nI t) :: .ref (a 85) :: rest)) := by
  subst hv
  exact goI (rV (n := 1) (c_X7_hasCome l D cA a S X I (hd.sub hsub) t ht) C0 hlink im_X7_hasCome se_X7_hasCome in_X7 co_X7_hasCome ⟨rfl, by decide⟩ hR hK hP (hd.1 _ (hsub _ (by decide))) rfl rfl rfl hls hrest rfl hdg hcs) hS hA (fun r S1 X1 H1 locs1 hp hP1 hS1 => by obtain ⟨rfl, rfl, rfl⟩ := hp; exact kk H1 locs1 hP1 hS1)
set_option maxHeartbeats 4000000 in
set_option maxRecDepth 100000 in
theorem c_X7_rides (l : Launch) (D : va_G) (cA : ClassId) (a : Adr) (S X : Mem) (I : Nat → Prop) (hd : Hd nT a I) (t : Nat) (ht : t < 30) : MI l yX7_rides cX7_rides 2 (some .boolean) 1 21 D cA a S X I [.ref (a 85), .int (nI t)] (fun r S1 X1 => r = (bI (!decide (S 23 t = -1))) ∧ S1 = S ∧ X1 = X) := by
  refine mGo (by decide) (Nat.le_of_ble_eq_true rfl) ?_
  intro p e s m args below meth c ls C0 hr hlk hK hP hS hl hargs
  obtain ⟨H, hHe⟩ : ∃ H, H = s.heap := ⟨_, rfl⟩
  obtain ⟨locs, hlo⟩ : ∃ L : List Loc, L = [] := ⟨_, rfl⟩
  have hP : WP D cA a S X I H := hHe ▸ hP
  have hS : va_S (AI a I) s.heap H locs := by rw [hHe, hlo]; exact hS
  rw [← hHe, ← hlo]
  have hA : ∀ q, AI a I q → AI a I q := fun _ h => h
  refine lv_aload_n C0.1 C0.2.1 dX7_rides_0 rfl (lv_at hl 0 rfl) ?_
  refine g85_punt C0 hK hP (hd.1 _ (by decide)) fl_X7_26 dX7_rides_1 ?_
  refine lv_iload_n C0.1 C0.2.1 dX7_rides_4 rfl (lv_at hl 1 rfl) ?_
  refine k_X5_get (v := S 23 t) 23 (by decide) hd (by decide) (by decide) C0 hK hP (rg_nI (show t < 30 by omega) (by decide)) hS hA hl.1 ml_X7_44 ⟨Nat.le_of_ble_eq_true rfl, Nat.le_of_ble_eq_true rfl⟩ ⟨Nat.zero_le _, Nat.zero_le _⟩ (Nat.le_of_ble_eq_true rfl) dX7_rides_5 (fun H locs hP hS => ?_)
  refine lv_iconst (v := (-1)) C0.1 C0.2.1 dX7_rides_8 (by decide) ?_
  refine lv_icmp_eq (tgt := 16) C0.1 C0.2.1 dX7_rides_9 (by decide) (fun c_9 => ?_) (fun c_9 => ?_)
  · refine lv_iconst (v := 0) C0.1 C0.2.1 dX7_rides_16 (by decide) ?_
    exact retZ C0 hr hlk hP hS rfl ⟨by simp [bI, c_9], rfl, rfl⟩ dX7_rides_17
  · refine lv_iconst (v := 1) C0.1 C0.2.1 dX7_rides_12 (by decide) ?_
    refine lv_goto (tgt := 17) C0.1 C0.2.1 dX7_rides_13 (by decide) ?_
    exact retZ C0 hr hlk hP hS rfl ⟨by simp [bI, c_9], rfl, rfl⟩ dX7_rides_17
theorem k_X7_rides {n : List Nat} (hd : Hd n a I) (hsub : ∀ k ∈ nT, k ∈ n) (C0 : CallFix p m c cc nL s args GW own) (hK : KK D cA s) (hP : WP D cA a S X I H) {t : Nat} (ht : t < 30) {v : Int32} (hv : (bI (!decide (S 23 t = -1))) = v) (hS : va_S A0 H0 H locs) (hA : ∀ q, AI a I q → A0 q) (hls : ls.size = nL) {idx : Nat} (hlink : Cond.methodLink own idx yX7_rides ∈ GW) (hR : 2 ≤ R.frames ∧ 42 ≤ R.locals) (hcs : cells ≤ R.cells ∧ slots ≤ R.slots) (hrest : (rest.map fun v => v.category).sum ≤ 8) (hdg : decode cc pc = .ok (.invokevirtual idx, 3)) (kk : ∀ (H1 : Heap) (locs1 : List Loc), WP D cA a S X I H1 → va_S A0 H0 H1 locs1 → W p l e R s m args below meth c H1 locs1 cells slots Q (F0 m (pc + 3) ls (.int v :: rest))) : W p l e R s m args below meth c H locs cells slots Q (F0 m pc ls (.int (nI t) :: .ref (a 85) :: rest)) := by
  subst hv
  exact goI (rV (n := 1) (c_X7_rides l D cA a S X I (hd.sub hsub) t ht) C0 hlink im_X7_rides se_X7_rides in_X7 co_X7_rides ⟨rfl, by decide⟩ hR hK hP (hd.1 _ (hsub _ (by decide))) rfl rfl rfl hls hrest rfl hdg hcs) hS hA (fun r S1 X1 H1 locs1 hp hP1 hS1 => by obtain ⟨rfl, rfl, rfl⟩ := hp; exact kk H1 locs1 hP1 hS1)
set_option maxHeartbeats 4000000 in
set_option maxRecDepth 100000 in
theorem c_X7_waitsAt (l : Launch) (D : va_G) (cA : ClassId) (a : Adr) (S X : Mem) (I : Nat → Prop) (hd : Hd nT a I) (t : Nat) (x : Int32) (ht : t < 30) : MI l yX7_waitsAt cX7_waitsAt 3 (some .boolean) 1 21 D cA a S X I [.ref (a 85), .int (nI t), .int x] (fun r S1 X1 => r = (bI (decide (S 22 t = x) && decide (S 24 t = -1))) ∧ S1 = S ∧ X1 = X) := by
  refine mGo (by decide) (Nat.le_of_ble_eq_true rfl) ?_
  intro p e s m args below meth c ls C0 hr hlk hK hP hS hl hargs
  obtain ⟨H, hHe⟩ : ∃ H, H = s.heap := ⟨_, rfl⟩
  obtain ⟨locs, hlo⟩ : ∃ L : List Loc, L = [] := ⟨_, rfl⟩
  have hP : WP D cA a S X I H := hHe ▸ hP
  have hS : va_S (AI a I) s.heap H locs := by rw [hHe, hlo]; exact hS
  rw [← hHe, ← hlo]
  have hA : ∀ q, AI a I q → AI a I q := fun _ h => h
  refine lv_aload_n C0.1 C0.2.1 dX7_waitsAt_0 rfl (lv_at hl 0 rfl) ?_
  refine g85_landing C0 hK hP (hd.1 _ (by decide)) fl_X7_23 dX7_waitsAt_1 ?_
  refine lv_iload_n C0.1 C0.2.1 dX7_waitsAt_4 rfl (lv_at hl 1 rfl) ?_
  refine k_X5_get (v := S 22 t) 22 (by decide) hd (by decide) (by decide) C0 hK hP (rg_nI (show t < 30 by omega) (by decide)) hS hA hl.1 ml_X7_44 ⟨Nat.le_of_ble_eq_true rfl, Nat.le_of_ble_eq_true rfl⟩ ⟨Nat.zero_le _, Nat.zero_le _⟩ (Nat.le_of_ble_eq_true rfl) dX7_waitsAt_5 (fun H locs hP hS => ?_)
  refine lv_iload_n C0.1 C0.2.1 dX7_waitsAt_8 rfl (lv_at hl 2 rfl) ?_
  refine lv_icmp_ne (tgt := 28) C0.1 C0.2.1 dX7_waitsAt_9 (by decide) (fun c_9 => ?_) (fun c_9 => ?_)
  · refine lv_iconst (v := 0) C0.1 C0.2.1 dX7_waitsAt_28 (by decide) ?_
    exact retZ C0 hr hlk hP hS rfl ⟨by simp [bI, c_9], rfl, rfl⟩ dX7_waitsAt_29
  · refine lv_aload_n C0.1 C0.2.1 dX7_waitsAt_12 rfl (lv_at hl 0 rfl) ?_
    refine g85_cameAt C0 hK hP (hd.1 _ (by decide)) fl_X7_29 dX7_waitsAt_13 ?_
    refine lv_iload_n C0.1 C0.2.1 dX7_waitsAt_16 rfl (lv_at hl 1 rfl) ?_
    refine k_X5_get (v := S 24 t) 24 (by decide) hd (by decide) (by decide) C0 hK hP (rg_nI (show t < 30 by omega) (by decide)) hS hA hl.1 ml_X7_44 ⟨Nat.le_of_ble_eq_true rfl, Nat.le_of_ble_eq_true rfl⟩ ⟨Nat.zero_le _, Nat.zero_le _⟩ (Nat.le_of_ble_eq_true rfl) dX7_waitsAt_17 (fun H locs hP hS => ?_)
    refine lv_iconst (v := (-1)) C0.1 C0.2.1 dX7_waitsAt_20 (by decide) ?_
    refine lv_icmp_ne (tgt := 28) C0.1 C0.2.1 dX7_waitsAt_21 (by decide) (fun c_21 => ?_) (fun c_21 => ?_)
    · refine lv_iconst (v := 0) C0.1 C0.2.1 dX7_waitsAt_28 (by decide) ?_
      exact retZ C0 hr hlk hP hS rfl ⟨by simp [bI, c_9, c_21], rfl, rfl⟩ dX7_waitsAt_29
    · refine lv_iconst (v := 1) C0.1 C0.2.1 dX7_waitsAt_24 (by decide) ?_
      refine lv_goto (tgt := 29) C0.1 C0.2.1 dX7_waitsAt_25 (by decide) ?_
      exact retZ C0 hr hlk hP hS rfl ⟨by simp [bI, c_9, c_21], rfl, rfl⟩ dX7_waitsAt_29
theorem k_X7_waitsAt {n : List Nat} (hd : Hd n a I) (hsub : ∀ k ∈ nT, k ∈ n) (C0 : CallFix p m c cc nL s args GW own) (hK : KK D cA s) (hP : WP D cA a S X I H) {t : Nat} {x : Int32} (ht : t < 30) {v : Int32} (hv : (bI (decide (S 22 t = x) && decide (S 24 t = -1))) = v) (hS : va_S A0 H0 H locs) (hA : ∀ q, AI a I q → A0 q) (hls : ls.size = nL) {idx : Nat} (hlink : Cond.methodLink own idx yX7_waitsAt ∈ GW) (hR : 2 ≤ R.frames ∧ 43 ≤ R.locals) (hcs : cells ≤ R.cells ∧ slots ≤ R.slots) (hrest : (rest.map fun v => v.category).sum ≤ 8) (hdg : decode cc pc = .ok (.invokevirtual idx, 3)) (kk : ∀ (H1 : Heap) (locs1 : List Loc), WP D cA a S X I H1 → va_S A0 H0 H1 locs1 → W p l e R s m args below meth c H1 locs1 cells slots Q (F0 m (pc + 3) ls (.int v :: rest))) : W p l e R s m args below meth c H locs cells slots Q (F0 m pc ls (.int x :: .int (nI t) :: .ref (a 85) :: rest)) := by
  subst hv
  exact goI (rV (n := 2) (c_X7_waitsAt l D cA a S X I (hd.sub hsub) t x ht) C0 hlink im_X7_waitsAt se_X7_waitsAt in_X7 co_X7_waitsAt ⟨rfl, by decide⟩ hR hK hP (hd.1 _ (hsub _ (by decide))) rfl rfl rfl hls hrest rfl hdg hcs) hS hA (fun r S1 X1 H1 locs1 hp hP1 hS1 => by obtain ⟨rfl, rfl, rfl⟩ := hp; exact kk H1 locs1 hP1 hS1)
set_option maxHeartbeats 4000000 in
set_option maxRecDepth 100000 in
theorem c_X7_getIn (l : Launch) (D : va_G) (cA : ClassId) (a : Adr) (S X : Mem) (I : Nat → Prop) (hd : Hd nT a I) (t : Nat) (x : Int32) (to : Int32) (ht : t < 30) : MV l yX7_getIn cX7_getIn 4 none 2 44 D cA a S X I [.ref (a 85), .int (nI t), .int x, .int to] (fun S1 X1 => S1 = (up (up (up S 21 (upd (S 21) t (S 21 t + -to))) 22 (upd (S 22) t (-1))) 23 (upd (S 23) t x)) ∧ X1 = X) := by
  refine mGo (by decide) (Nat.le_of_ble_eq_true rfl) ?_
  intro p e s m args below meth c ls C0 hr hlk hK hP hS hl hargs
  obtain ⟨H, hHe⟩ : ∃ H, H = s.heap := ⟨_, rfl⟩
  obtain ⟨locs, hlo⟩ : ∃ L : List Loc, L = [] := ⟨_, rfl⟩
  have hP : WP D cA a S X I H := hHe ▸ hP
  have hS : va_S (AI a I) s.heap H locs := by rw [hHe, hlo]; exact hS
  rw [← hHe, ← hlo]
  have hA : ∀ q, AI a I q → AI a I q := fun _ h => h
  refine lv_aload_n C0.1 C0.2.1 dX7_getIn_0 rfl (lv_at hl 0 rfl) ?_
  refine g85_purse C0 hK hP (hd.1 _ (by decide)) fl_X7_20 dX7_getIn_1 ?_
  refine lv_iload_n C0.1 C0.2.1 dX7_getIn_4 rfl (lv_at hl 1 rfl) ?_
  refine lv_iload_n C0.1 C0.2.1 dX7_getIn_5 rfl (lv_at hl 3 rfl) ?_
  refine lv_ineg C0.1 C0.2.1 dX7_getIn_6 ?_
  refine k_X5_add 21 (by decide) hd (by decide) (by decide) C0 hK hP hS hA hl.1 ml_X7_48 ⟨Nat.le_of_ble_eq_true rfl, Nat.le_of_ble_eq_true rfl⟩ ⟨Nat.zero_le _, Nat.zero_le _⟩ (Nat.le_of_ble_eq_true rfl) dX7_getIn_7 (fun H locs hP hS => ?_)
  have hP : WP D cA a (up S 21 (us (S 21) 30 (nI t) (rg (S 21) 30 (nI t) + (-to)))) X I H := hP
  have hP : WP D cA a (up S 21 (upd (S 21) t ((S 21 t) + (-to)))) X I H := WP.congr hP (fun k => by
      by_cases h_21 : k = 21
      · subst h_21; exact ((show us (S 21) 30 (nI t) (rg (S 21) 30 (nI t) + (-to)) = upd (S 21) t ((S 21 t) + (-to)) from (us_nI (show t < 30 by omega) (by decide)).trans (congrArg (fun z => upd (S 21) t (z + (-to))) (rg_nI (show t < 30 by omega) (by decide)))) : (us (S 21) 30 (nI t) (rg (S 21) 30 (nI t) + (-to))) = (upd (S 21) t ((S 21 t) + (-to))))
      simp only [up, h_21, if_false]) (fun _ => rfl)
  refine lv_aload_n C0.1 C0.2.1 dX7_getIn_10 rfl (lv_at hl 0 rfl) ?_
  refine g85_landing C0 hK hP (hd.1 _ (by decide)) fl_X7_23 dX7_getIn_11 ?_
  refine lv_iload_n C0.1 C0.2.1 dX7_getIn_14 rfl (lv_at hl 1 rfl) ?_
  refine lv_iconst (v := (-1)) C0.1 C0.2.1 dX7_getIn_15 (by decide) ?_
  refine k_X5_set 22 (by decide) hd (by decide) (by decide) C0 hK hP hS hA hl.1 ml_X7_40 ⟨Nat.le_of_ble_eq_true rfl, Nat.le_of_ble_eq_true rfl⟩ ⟨Nat.zero_le _, Nat.zero_le _⟩ (Nat.le_of_ble_eq_true rfl) dX7_getIn_16 (fun H locs hP hS => ?_)
  have hP : WP D cA a (up (up S 21 (upd (S 21) t ((S 21 t) + (-to)))) 22 (us (S 22) 30 (nI t) (-1))) X I H := hP
  have hP : WP D cA a (up (up S 21 (upd (S 21) t ((S 21 t) + (-to)))) 22 (upd (S 22) t (-1))) X I H := WP.congr hP (fun k => by
      by_cases h_21 : k = 21
      · subst h_21; exact (rfl : (upd (S 21) t ((S 21 t) + (-to))) = (upd (S 21) t ((S 21 t) + (-to))))
      by_cases h_22 : k = 22
      · subst h_22; exact ((us_nI (show t < 30 by omega) (by decide)) : (us (S 22) 30 (nI t) (-1)) = (upd (S 22) t (-1)))
      simp only [up, h_21, h_22, if_false]) (fun _ => rfl)
  refine lv_aload_n C0.1 C0.2.1 dX7_getIn_19 rfl (lv_at hl 0 rfl) ?_
  refine g85_punt C0 hK hP (hd.1 _ (by decide)) fl_X7_26 dX7_getIn_20 ?_
  refine lv_iload_n C0.1 C0.2.1 dX7_getIn_23 rfl (lv_at hl 1 rfl) ?_
  refine lv_iload_n C0.1 C0.2.1 dX7_getIn_24 rfl (lv_at hl 2 rfl) ?_
  refine k_X5_set 23 (by decide) hd (by decide) (by decide) C0 hK hP hS hA hl.1 ml_X7_40 ⟨Nat.le_of_ble_eq_true rfl, Nat.le_of_ble_eq_true rfl⟩ ⟨Nat.zero_le _, Nat.zero_le _⟩ (Nat.le_of_ble_eq_true rfl) dX7_getIn_25 (fun H locs hP hS => ?_)
  have hP : WP D cA a (up (up (up S 21 (upd (S 21) t ((S 21 t) + (-to)))) 22 (upd (S 22) t (-1))) 23 (us (S 23) 30 (nI t) x)) X I H := hP
  have hP : WP D cA a (up (up (up S 21 (upd (S 21) t ((S 21 t) + (-to)))) 22 (upd (S 22) t (-1))) 23 (upd (S 23) t x)) X I H := WP.congr hP (fun k => by
      by_cases h_21 : k = 21
      · subst h_21; exact (rfl : (upd (S 21) t ((S 21 t) + (-to))) = (upd (S 21) t ((S 21 t) + (-to))))
      by_cases h_22 : k = 22
      · subst h_22; exact (rfl : (upd (S 22) t (-1)) = (upd (S 22) t (-1)))
      by_cases h_23 : k = 23
      · subst h_23; exact ((us_nI (show t < 30 by omega) (by decide)) : (us (S 23) 30 (nI t) x) = (upd (S 23) t x))
      simp only [up, h_21, h_22, h_23, if_false]) (fun _ => rfl)
  exact retV C0 hr hlk hP hS ⟨rfl, rfl⟩ dX7_getIn_28
theorem k_X7_getIn {n : List Nat} (hd : Hd n a I) (hsub : ∀ k ∈ nT, k ∈ n) (C0 : CallFix p m c cc nL s args GW own) (hK : KK D cA s) (hP : WP D cA a S X I H) {t : Nat} {x : Int32} {to : Int32} (ht : t < 30) (hS : va_S A0 H0 H locs) (hA : ∀ q, AI a I q → A0 q) (hls : ls.size = nL) {idx : Nat} (hlink : Cond.methodLink own idx yX7_getIn ∈ GW) (hR : 3 ≤ R.frames ∧ 67 ≤ R.locals) (hcs : cells ≤ R.cells ∧ slots ≤ R.slots) (hrest : (rest.map fun v => v.category).sum ≤ 8) (hdg : decode cc pc = .ok (.invokevirtual idx, 3)) (kk : ∀ (H1 : Heap) (locs1 : List Loc), WP D cA a (up (up (up S 21 (upd (S 21) t (S 21 t + -to))) 22 (upd (S 22) t (-1))) 23 (upd (S 23) t x)) X I H1 → va_S A0 H0 H1 locs1 → W p l e R s m args below meth c H1 locs1 cells slots Q (F0 m (pc + 3) ls rest)) : W p l e R s m args below meth c H locs cells slots Q (F0 m pc ls (.int to :: .int x :: .int (nI t) :: .ref (a 85) :: rest)) := by
  exact goV (rV (n := 3) (c_X7_getIn l D cA a S X I (hd.sub hsub) t x to ht) C0 hlink im_X7_getIn se_X7_getIn in_X7 co_X7_getIn ⟨rfl, by decide⟩ hR hK hP (hd.1 _ (hsub _ (by decide))) rfl rfl rfl hls hrest rfl hdg hcs) hS hA (fun S1 X1 H1 locs1 hp hP1 hS1 => by obtain ⟨rfl, rfl⟩ := hp; exact kk H1 locs1 hP1 hS1)
set_option maxHeartbeats 4000000 in
set_option maxRecDepth 100000 in
theorem c_X7_getOut (l : Launch) (D : va_G) (cA : ClassId) (a : Adr) (S X : Mem) (I : Nat → Prop) (hd : Hd nT a I) (x : Int32) (y : Int32) (h : Int32) {T : Nat} (hnT : S 85 0 = nI T) (hT30 : T ≤ 30) : MI l yX7_getOut cX7_getOut 6 (some .int) 1 22 D cA a S X I [.ref (a 85), .int x, .int y, .int h] (fun r S1 X1 => r = (nI (cnt (fun t => decide ((S 23) t = x) && decide ((S 20) t = y)) T)) ∧ S1 = (up (up (up S 23 (goA (S 23) (fun t => decide ((S 23) t = x)) (fun _ => -1) T)) 22 (goA (S 22) (fun t => decide ((S 23) t = x)) (fun _ => y) T)) 24 (goA (S 24) (fun t => decide ((S 23) t = x) && decide ((S 20) t = y)) (fun _ => h) T)) ∧ X1 = X) := by
  refine mGo (by decide) (Nat.le_of_ble_eq_true rfl) ?_
  intro p e s m args below meth c ls C0 hr hlk hK hP hS hl hargs
  obtain ⟨H, hHe⟩ : ∃ H, H = s.heap := ⟨_, rfl⟩
  obtain ⟨locs, hlo⟩ : ∃ L : List Loc, L = [] := ⟨_, rfl⟩
  have hP : WP D cA a S X I H := hHe ▸ hP
  have hS : va_S (AI a I) s.heap H locs := by rw [hHe, hlo]; exact hS
  rw [← hHe, ← hlo]
  have hA : ∀ q, AI a I q → AI a I q := fun _ h => h
  refine lv_iconst (v := 0) C0.1 C0.2.1 dX7_getOut_0 (by decide) ?_
  refine lv_istore (lv' := [(4, .int 0), (0, .ref (a 85)), (1, .int x), (2, .int y), (3, .int h)]) C0.1 C0.2.1 dX7_getOut_1 hl (by decide) rfl (fun ls hl => ?_)
  refine lv_iconst (v := 0) C0.1 C0.2.1 dX7_getOut_3 (by decide) ?_
  refine lv_istore (lv' := [(5, .int 0), (4, .int 0), (0, .ref (a 85)), (1, .int x), (2, .int y), (3, .int h)]) C0.1 C0.2.1 dX7_getOut_4 hl (by decide) rfl (fun ls hl => ?_)
  have loop6 : ∀ (n : Nat) (i : Nat) (f : Int32), (i ≤ T) → (T + 1 ≤ i + n) → (f = nI (cnt (fun t => decide (S 23 t = x) && decide (S 20 t = y)) i)) → ∀ (H : Heap) (locs : List Loc) (ls : Array Slot), WP D cA a (up (up (up S 23 (goA (S 23) (fun t => decide (S 23 t = x)) (fun _ => -1) i)) 22 (goA (S 22) (fun t => decide (S 23 t = x)) (fun _ => y) i)) 24 (goA (S 24) (fun t => decide (S 23 t = x) && decide (S 20 t = y)) (fun _ => h) i)) X I H → va_S (AI a I) s.heap H locs → lv_has ls 6 [(5, .int (nI i)), (4, .int f), (0, .ref (a 85)), (1, .int x), (2, .int y), (3, .int h)] → W p l e { frames := 1, cells := 0, slots := 0, locals := 22 } s m args below meth c H locs (0) (0) (MQ below (QpI D cA a I (fun r S1 X1 => r = (nI (cnt (fun t => decide ((S 23) t = x) && decide ((S 20) t = y)) T)) ∧ S1 = (up (up (up S 23 (goA (S 23) (fun t => decide ((S 23) t = x)) (fun _ => -1) T)) 22 (goA (S 22) (fun t => decide ((S 23) t = x)) (fun _ => y) T)) 24 (goA (S 24) (fun t => decide ((S 23) t = x) && decide ((S 20) t = y)) (fun _ => h) T)) ∧ X1 = X)) args s 0 0 (AI a I)) (F0 m 6 ls []) := by
    intro n
    induction n with
    | zero => intro i f hi hf hcn; exfalso; omega
    | succ n ih6 =>
      intro i f hi hf hcn H locs ls hP hS hl
      refine lv_iload C0.1 C0.2.1 dX7_getOut_6 (lv_at hl 0 rfl) ?_
      refine lv_aload_n C0.1 C0.2.1 dX7_getOut_8 rfl (lv_at hl 2 rfl) ?_
      refine g85_number (v := nI T) C0 hK hP (hd.1 _ (by decide)) fl_X7_32 hnT dX7_getOut_9 ?_
      refine lv_icmp_ge (tgt := 80) C0.1 C0.2.1 dX7_getOut_12 (by decide) (fun c_12 => ?_) (fun c_12 => ?_)
      · have hge : T ≤ i := (nI_leI (by omega) (by omega)).mp c_12
        refine lv_iload C0.1 C0.2.1 dX7_getOut_80 (lv_at hl 1 rfl) ?_
        exact retI C0 hr hlk hP hS ⟨by rw [hcn, show i = T by omega], by rw [show i = T by omega], rfl⟩ dX7_getOut_82
      · have hlt : i < T := Nat.not_le.mp fun q => c_12 (nI_le q (by omega))
        refine lv_aload_n C0.1 C0.2.1 dX7_getOut_15 rfl (lv_at hl 2 rfl) ?_
        refine g85_punt C0 hK hP (hd.1 _ (by decide)) fl_X7_26 dX7_getOut_16 ?_
        refine lv_iload C0.1 C0.2.1 dX7_getOut_19 (lv_at hl 0 rfl) ?_
        refine k_X5_get (v := S 23 i) 23 (by decide) hd (by decide) (by decide) C0 hK hP ((rg_nI (show i < 30 by omega) (by decide)).trans (show (goA (S 23) (fun t => decide (S 23 t = x)) (fun _ => -1) i) i = S 23 i from goA_self _ _ _ _)) hS hA hl.1 ml_X7_44 ⟨Nat.le_of_ble_eq_true rfl, Nat.le_of_ble_eq_true rfl⟩ ⟨Nat.zero_le _, Nat.zero_le _⟩ (Nat.le_of_ble_eq_true rfl) dX7_getOut_21 (fun H locs hP hS => ?_)
        refine lv_iload_n C0.1 C0.2.1 dX7_getOut_24 rfl (lv_at hl 3 rfl) ?_
        refine lv_icmp_ne (tgt := 74) C0.1 C0.2.1 dX7_getOut_25 (by decide) (fun c_25 => ?_) (fun c_25 => ?_)
        · refine lv_iinc (v := nI (i + 1)) (lv' := [(5, .int (nI (i + 1))), (4, .int f), (0, .ref (a 85)), (1, .int x), (2, .int y), (3, .int h)]) C0.1 C0.2.1 dX7_getOut_74 hl (k := 0) rfl (nI_1 _) (by decide) rfl (fun ls hl => ?_)
          refine lv_goto (tgt := 6) C0.1 C0.2.1 dX7_getOut_77 (by decide) ?_
          have hP : WP D cA a (up (up (up S 23 (goA (S 23) (fun t => decide (S 23 t = x)) (fun _ => -1) (i + 1))) 22 (goA (S 22) (fun t => decide (S 23 t = x)) (fun _ => y) (i + 1))) 24 (goA (S 24) (fun t => decide (S 23 t = x) && decide (S 20 t = y)) (fun _ => h) (i + 1))) X I H := WP.congr hP (fun k => by
              by_cases h_23 : k = 23
              · subst h_23; exact (goA_no (by simp [c_25]) : (goA (S 23) (fun t => decide (S 23 t = x)) (fun _ => -1) i) = (goA (S 23) (fun t => decide (S 23 t = x)) (fun _ => -1) (i + 1)))
              by_cases h_22 : k = 22
              · subst h_22; exact (goA_no (by simp [c_25]) : (goA (S 22) (fun t => decide (S 23 t = x)) (fun _ => y) i) = (goA (S 22) (fun t => decide (S 23 t = x)) (fun _ => y) (i + 1)))
              by_cases h_24 : k = 24
              · subst h_24; exact (goA_no (by simp [c_25]) : (goA (S 24) (fun t => decide (S 23 t = x) && decide (S 20 t = y)) (fun _ => h) i) = (goA (S 24) (fun t => decide (S 23 t = x) && decide (S 20 t = y)) (fun _ => h) (i + 1)))
              simp only [up, h_23, h_22, h_24, if_false]) (fun _ => rfl)
          exact ih6 (i + 1) _ (by omega) (by omega) (by rw [hcn, cnt_no (by simp [c_25])]) _ _ _ hP hS (lv_sub hl [0, 1, 2, 3, 4, 5] rfl)
        · refine lv_aload_n C0.1 C0.2.1 dX7_getOut_28 rfl (lv_at hl 2 rfl) ?_
          refine g85_punt C0 hK hP (hd.1 _ (by decide)) fl_X7_26 dX7_getOut_29 ?_
          refine lv_iload C0.1 C0.2.1 dX7_getOut_32 (lv_at hl 0 rfl) ?_
          refine lv_iconst (v := (-1)) C0.1 C0.2.1 dX7_getOut_34 (by decide) ?_
          refine k_X5_set 23 (by decide) hd (by decide) (by decide) C0 hK hP hS hA hl.1 ml_X7_40 ⟨Nat.le_of_ble_eq_true rfl, Nat.le_of_ble_eq_true rfl⟩ ⟨Nat.zero_le _, Nat.zero_le _⟩ (Nat.le_of_ble_eq_true rfl) dX7_getOut_35 (fun H locs hP hS => ?_)
          have hP : WP D cA a (up (up (up S 22 (goA (S 22) (fun t => decide (S 23 t = x)) (fun _ => y) i)) 24 (goA (S 24) (fun t => decide (S 23 t = x) && decide (S 20 t = y)) (fun _ => h) i)) 23 (us (goA (S 23) (fun t => decide (S 23 t = x)) (fun _ => -1) i) 30 (nI i) (-1))) X I H := WP.congr (show WP D cA a (up (up (up (up S 23 (goA (S 23) (fun t => decide (S 23 t = x)) (fun _ => -1) i)) 22 (goA (S 22) (fun t => decide (S 23 t = x)) (fun _ => y) i)) 24 (goA (S 24) (fun t => decide (S 23 t = x) && decide (S 20 t = y)) (fun _ => h) i)) 23 (us (goA (S 23) (fun t => decide (S 23 t = x)) (fun _ => -1) i) 30 (nI i) (-1))) X I H from hP) (fun k => by
              by_cases h_22 : k = 22
              · subst h_22; rfl
              by_cases h_24 : k = 24
              · subst h_24; rfl
              by_cases h_23 : k = 23
              · subst h_23; rfl
              simp only [up, h_22, h_24, h_23, if_false]) (fun _ => rfl)
          have hP : WP D cA a (up (up (up S 22 (goA (S 22) (fun t => decide (S 23 t = x)) (fun _ => y) i)) 24 (goA (S 24) (fun t => decide (S 23 t = x) && decide (S 20 t = y)) (fun _ => h) i)) 23 (upd (goA (S 23) (fun t => decide (S 23 t = x)) (fun _ => -1) i) i (-1))) X I H := WP.congr hP (fun k => by
              by_cases h_22 : k = 22
              · subst h_22; exact (rfl : (goA (S 22) (fun t => decide (S 23 t = x)) (fun _ => y) i) = (goA (S 22) (fun t => decide (S 23 t = x)) (fun _ => y) i))
              by_cases h_24 : k = 24
              · subst h_24; exact (rfl : (goA (S 24) (fun t => decide (S 23 t = x) && decide (S 20 t = y)) (fun _ => h) i) = (goA (S 24) (fun t => decide (S 23 t = x) && decide (S 20 t = y)) (fun _ => h) i))
              by_cases h_23 : k = 23
              · subst h_23; exact ((us_nI (show i < 30 by omega) (by decide)) : (us (goA (S 23) (fun t => decide (S 23 t = x)) (fun _ => -1) i) 30 (nI i) (-1)) = (upd (goA (S 23) (fun t => decide (S 23 t = x)) (fun _ => -1) i) i (-1)))
              simp only [up, h_22, h_24, h_23, if_false]) (fun _ => rfl)
          refine lv_aload_n C0.1 C0.2.1 dX7_getOut_38 rfl (lv_at hl 2 rfl) ?_
          refine g85_landing C0 hK hP (hd.1 _ (by decide)) fl_X7_23 dX7_getOut_39 ?_
          refine lv_iload C0.1 C0.2.1 dX7_getOut_42 (lv_at hl 0 rfl) ?_
          refine lv_iload_n C0.1 C0.2.1 dX7_getOut_44 rfl (lv_at hl 4 rfl) ?_
          refine k_X5_set 22 (by decide) hd (by decide) (by decide) C0 hK hP hS hA hl.1 ml_X7_40 ⟨Nat.le_of_ble_eq_true rfl, Nat.le_of_ble_eq_true rfl⟩ ⟨Nat.zero_le _, Nat.zero_le _⟩ (Nat.le_of_ble_eq_true rfl) dX7_getOut_45 (fun H locs hP hS => ?_)
          have hP : WP D cA a (up (up (up S 24 (goA (S 24) (fun t => decide (S 23 t = x) && decide (S 20 t = y)) (fun _ => h) i)) 23 (upd (goA (S 23) (fun t => decide (S 23 t = x)) (fun _ => -1) i) i (-1))) 22 (us (goA (S 22) (fun t => decide (S 23 t = x)) (fun _ => y) i) 30 (nI i) y)) X I H := WP.congr (show WP D cA a (up (up (up (up S 22 (goA (S 22) (fun t => decide (S 23 t = x)) (fun _ => y) i)) 24 (goA (S 24) (fun t => decide (S 23 t = x) && decide (S 20 t = y)) (fun _ => h) i)) 23 (upd (goA (S 23) (fun t => decide (S 23 t = x)) (fun _ => -1) i) i (-1))) 22 (us (goA (S 22) (fun t => decide (S 23 t = x)) (fun _ => y) i) 30 (nI i) y)) X I H from hP) (fun k => by
              by_cases h_24 : k = 24
              · subst h_24; rfl
              by_cases h_23 : k = 23
              · subst h_23; rfl
              by_cases h_22 : k = 22
              · subst h_22; rfl
              simp only [up, h_24, h_23, h_22, if_false]) (fun _ => rfl)
          have hP : WP D cA a (up (up (up S 24 (goA (S 24) (fun t => decide (S 23 t = x) && decide (S 20 t = y)) (fun _ => h) i)) 23 (upd (goA (S 23) (fun t => decide (S 23 t = x)) (fun _ => -1) i) i (-1))) 22 (upd (goA (S 22) (fun t => decide (S 23 t = x)) (fun _ => y) i) i y)) X I H := WP.congr hP (fun k => by
              by_cases h_24 : k = 24
              · subst h_24; exact (rfl : (goA (S 24) (fun t => decide (S 23 t = x) && decide (S 20 t = y)) (fun _ => h) i) = (goA (S 24) (fun t => decide (S 23 t = x) && decide (S 20 t = y)) (fun _ => h) i))
              by_cases h_23 : k = 23
              · subst h_23; exact (rfl : (upd (goA (S 23) (fun t => decide (S 23 t = x)) (fun _ => -1) i) i (-1)) = (upd (goA (S 23) (fun t => decide (S 23 t = x)) (fun _ => -1) i) i (-1)))
              by_cases h_22 : k = 22
              · subst h_22; exact ((us_nI (show i < 30 by omega) (by decide)) : (us (goA (S 22) (fun t => decide (S 23 t = x)) (fun _ => y) i) 30 (nI i) y) = (upd (goA (S 22) (fun t => decide (S 23 t = x)) (fun _ => y) i) i y))
              simp only [up, h_24, h_23, h_22, if_false]) (fun _ => rfl)
          refine lv_aload_n C0.1 C0.2.1 dX7_getOut_48 rfl (lv_at hl 2 rfl) ?_
          refine g85_wish C0 hK hP (hd.1 _ (by decide)) fl_X7_14 dX7_getOut_49 ?_
          refine lv_iload C0.1 C0.2.1 dX7_getOut_52 (lv_at hl 0 rfl) ?_
          refine k_X5_get (v := S 20 i) 20 (by decide) hd (by decide) (by decide) C0 hK hP (rg_nI (show i < 30 by omega) (by decide)) hS hA hl.1 ml_X7_44 ⟨Nat.le_of_ble_eq_true rfl, Nat.le_of_ble_eq_true rfl⟩ ⟨Nat.zero_le _, Nat.zero_le _⟩ (Nat.le_of_ble_eq_true rfl) dX7_getOut_54 (fun H locs hP hS => ?_)
          refine lv_iload_n C0.1 C0.2.1 dX7_getOut_57 rfl (lv_at hl 4 rfl) ?_
          refine lv_icmp_ne (tgt := 74) C0.1 C0.2.1 dX7_getOut_58 (by decide) (fun c_58 => ?_) (fun c_58 => ?_)
          · refine lv_iinc (v := nI (i + 1)) (lv' := [(5, .int (nI (i + 1))), (4, .int f), (0, .ref (a 85)), (1, .int x), (2, .int y), (3, .int h)]) C0.1 C0.2.1 dX7_getOut_74 hl (k := 0) rfl (nI_1 _) (by decide) rfl (fun ls hl => ?_)
            refine lv_goto (tgt := 6) C0.1 C0.2.1 dX7_getOut_77 (by decide) ?_
            have hP : WP D cA a (up (up (up S 23 (goA (S 23) (fun t => decide (S 23 t = x)) (fun _ => -1) (i + 1))) 22 (goA (S 22) (fun t => decide (S 23 t = x)) (fun _ => y) (i + 1))) 24 (goA (S 24) (fun t => decide (S 23 t = x) && decide (S 20 t = y)) (fun _ => h) (i + 1))) X I H := WP.congr hP (fun k => by
                by_cases h_24 : k = 24
                · subst h_24; exact (goA_no (by simp [c_58]) : (goA (S 24) (fun t => decide (S 23 t = x) && decide (S 20 t = y)) (fun _ => h) i) = (goA (S 24) (fun t => decide (S 23 t = x) && decide (S 20 t = y)) (fun _ => h) (i + 1)))
                by_cases h_23 : k = 23
                · subst h_23; exact (goA_yes (decide_eq_true c_25) : (upd (goA (S 23) (fun t => decide (S 23 t = x)) (fun _ => -1) i) i (-1)) = (goA (S 23) (fun t => decide (S 23 t = x)) (fun _ => -1) (i + 1)))
                by_cases h_22 : k = 22
                · subst h_22; exact (goA_yes (decide_eq_true c_25) : (upd (goA (S 22) (fun t => decide (S 23 t = x)) (fun _ => y) i) i y) = (goA (S 22) (fun t => decide (S 23 t = x)) (fun _ => y) (i + 1)))
                simp only [up, h_24, h_23, h_22, if_false]) (fun _ => rfl)
            exact ih6 (i + 1) _ (by omega) (by omega) (by rw [hcn, cnt_no (by simp [c_58])]) _ _ _ hP hS (lv_sub hl [0, 1, 2, 3, 4, 5] rfl)
          · refine lv_aload_n C0.1 C0.2.1 dX7_getOut_61 rfl (lv_at hl 2 rfl) ?_
            refine g85_cameAt C0 hK hP (hd.1 _ (by decide)) fl_X7_29 dX7_getOut_62 ?_
            refine lv_iload C0.1 C0.2.1 dX7_getOut_65 (lv_at hl 0 rfl) ?_
            refine lv_iload_n C0.1 C0.2.1 dX7_getOut_67 rfl (lv_at hl 5 rfl) ?_
            refine k_X5_set 24 (by decide) hd (by decide) (by decide) C0 hK hP hS hA hl.1 ml_X7_40 ⟨Nat.le_of_ble_eq_true rfl, Nat.le_of_ble_eq_true rfl⟩ ⟨Nat.zero_le _, Nat.zero_le _⟩ (Nat.le_of_ble_eq_true rfl) dX7_getOut_68 (fun H locs hP hS => ?_)
            have hP : WP D cA a (up (up (up S 23 (upd (goA (S 23) (fun t => decide (S 23 t = x)) (fun _ => -1) i) i (-1))) 22 (upd (goA (S 22) (fun t => decide (S 23 t = x)) (fun _ => y) i) i y)) 24 (us (goA (S 24) (fun t => decide (S 23 t = x) && decide (S 20 t = y)) (fun _ => h) i) 30 (nI i) h)) X I H := WP.congr (show WP D cA a (up (up (up (up S 24 (goA (S 24) (fun t => decide (S 23 t = x) && decide (S 20 t = y)) (fun _ => h) i)) 23 (upd (goA (S 23) (fun t => decide (S 23 t = x)) (fun _ => -1) i) i (-1))) 22 (upd (goA (S 22) (fun t => decide (S 23 t = x)) (fun _ => y) i) i y)) 24 (us (goA (S 24) (fun t => decide (S 23 t = x) && decide (S 20 t = y)) (fun _ => h) i) 30 (nI i) h)) X I H from hP) (fun k => by
                by_cases h_23 : k = 23
                · subst h_23; rfl
                by_cases h_22 : k = 22
                · subst h_22; rfl
                by_cases h_24 : k = 24
                · subst h_24; rfl
                simp only [up, h_23, h_22, h_24, if_false]) (fun _ => rfl)
            have hP : WP D cA a (up (up (up S 23 (upd (goA (S 23) (fun t => decide (S 23 t = x)) (fun _ => -1) i) i (-1))) 22 (upd (goA (S 22) (fun t => decide (S 23 t = x)) (fun _ => y) i) i y)) 24 (upd (goA (S 24) (fun t => decide (S 23 t = x) && decide (S 20 t = y)) (fun _ => h) i) i h)) X I H := WP.congr hP (fun k => by
                by_cases h_23 : k = 23
                · subst h_23; exact (rfl : (upd (goA (S 23) (fun t => decide (S 23 t = x)) (fun _ => -1) i) i (-1)) = (upd (goA (S 23) (fun t => decide (S 23 t = x)) (fun _ => -1) i) i (-1)))
                by_cases h_22 : k = 22
                · subst h_22; exact (rfl : (upd (goA (S 22) (fun t => decide (S 23 t = x)) (fun _ => y) i) i y) = (upd (goA (S 22) (fun t => decide (S 23 t = x)) (fun _ => y) i) i y))
                by_cases h_24 : k = 24
                · subst h_24; exact ((us_nI (show i < 30 by omega) (by decide)) : (us (goA (S 24) (fun t => decide (S 23 t = x) && decide (S 20 t = y)) (fun _ => h) i) 30 (nI i) h) = (upd (goA (S 24) (fun t => decide (S 23 t = x) && decide (S 20 t = y)) (fun _ => h) i) i h))
                simp only [up, h_23, h_22, h_24, if_false]) (fun _ => rfl)
            refine lv_iinc (v := f + 1) (lv' := [(4, .int (f + 1)), (5, .int (nI i)), (0, .ref (a 85)), (1, .int x), (2, .int y), (3, .int h)]) C0.1 C0.2.1 dX7_getOut_71 hl (k := 1) rfl rfl (by decide) rfl (fun ls hl => ?_)
            refine lv_iinc (v := nI (i + 1)) (lv' := [(5, .int (nI (i + 1))), (4, .int (f + 1)), (0, .ref (a 85)), (1, .int x), (2, .int y), (3, .int h)]) C0.1 C0.2.1 dX7_getOut_74 hl (k := 1) rfl (nI_1 _) (by decide) rfl (fun ls hl => ?_)
            refine lv_goto (tgt := 6) C0.1 C0.2.1 dX7_getOut_77 (by decide) ?_
            have hP : WP D cA a (up (up (up S 23 (goA (S 23) (fun t => decide (S 23 t = x)) (fun _ => -1) (i + 1))) 22 (goA (S 22) (fun t => decide (S 23 t = x)) (fun _ => y) (i + 1))) 24 (goA (S 24) (fun t => decide (S 23 t = x) && decide (S 20 t = y)) (fun _ => h) (i + 1))) X I H := WP.congr hP (fun k => by
                by_cases h_23 : k = 23
                · subst h_23; exact (goA_yes (decide_eq_true c_25) : (upd (goA (S 23) (fun t => decide (S 23 t = x)) (fun _ => -1) i) i (-1)) = (goA (S 23) (fun t => decide (S 23 t = x)) (fun _ => -1) (i + 1)))
                by_cases h_22 : k = 22
                · subst h_22; exact (goA_yes (decide_eq_true c_25) : (upd (goA (S 22) (fun t => decide (S 23 t = x)) (fun _ => y) i) i y) = (goA (S 22) (fun t => decide (S 23 t = x)) (fun _ => y) (i + 1)))
                by_cases h_24 : k = 24
                · subst h_24; exact (goA_yes (by simp [c_25, c_58]) : (upd (goA (S 24) (fun t => decide (S 23 t = x) && decide (S 20 t = y)) (fun _ => h) i) i h) = (goA (S 24) (fun t => decide (S 23 t = x) && decide (S 20 t = y)) (fun _ => h) (i + 1)))
                simp only [up, h_23, h_22, h_24, if_false]) (fun _ => rfl)
            exact ih6 (i + 1) _ (by omega) (by omega) (by rw [hcn, cnt_yes (by simp [c_25, c_58]), nI_1]) _ _ _ hP hS (lv_sub hl [0, 1, 2, 3, 4, 5] rfl)
  have hP : WP D cA a (up (up (up S 23 (goA (S 23) (fun t => decide (S 23 t = x)) (fun _ => -1) 0)) 22 (goA (S 22) (fun t => decide (S 23 t = x)) (fun _ => y) 0)) 24 (goA (S 24) (fun t => decide (S 23 t = x) && decide (S 20 t = y)) (fun _ => h) 0)) X I H := WP.congr hP (fun k => by rw [goA_zero, goA_zero, goA_zero, up_self, up_self, up_self]) (fun _ => rfl)
  exact loop6 (T + 1) 0 0 (by omega) (by omega) nI_0.symm _ _ _ hP hS (lv_sub hl [0, 1, 2, 3, 4, 5] rfl)
theorem k_X7_getOut {n : List Nat} (hd : Hd n a I) (hsub : ∀ k ∈ nT, k ∈ n) (C0 : CallFix p m c cc nL s args GW own) (hK : KK D cA s) (hP : WP D cA a S X I H) {x : Int32} {y : Int32} {h : Int32} {T : Nat} (hnT : S 85 0 = nI T) (hT30 : T ≤ 30) {v : Int32} (hv : (nI (cnt (fun t => decide ((S 23) t = x) && decide ((S 20) t = y)) T)) = v) (hS : va_S A0 H0 H locs) (hA : ∀ q, AI a I q → A0 q) (hls : ls.size = nL) {idx : Nat} (hlink : Cond.methodLink own idx yX7_getOut ∈ GW) (hR : 2 ≤ R.frames ∧ 47 ≤ R.locals) (hcs : cells ≤ R.cells ∧ slots ≤ R.slots) (hrest : (rest.map fun v => v.category).sum ≤ 8) (hdg : decode cc pc = .ok (.invokevirtual idx, 3)) (kk : ∀ (H1 : Heap) (locs1 : List Loc), WP D cA a (up (up (up S 23 (goA (S 23) (fun t => decide ((S 23) t = x)) (fun _ => -1) T)) 22 (goA (S 22) (fun t => decide ((S 23) t = x)) (fun _ => y) T)) 24 (goA (S 24) (fun t => decide ((S 23) t = x) && decide ((S 20) t = y)) (fun _ => h) T)) X I H1 → va_S A0 H0 H1 locs1 → W p l e R s m args below meth c H1 locs1 cells slots Q (F0 m (pc + 3) ls (.int v :: rest))) : W p l e R s m args below meth c H locs cells slots Q (F0 m pc ls (.int h :: .int y :: .int x :: .ref (a 85) :: rest)) := by
  subst hv
  exact goI (rV (n := 3) (c_X7_getOut l D cA a S X I (hd.sub hsub) x y h hnT hT30) C0 hlink im_X7_getOut se_X7_getOut in_X7 co_X7_getOut ⟨rfl, by decide⟩ hR hK hP (hd.1 _ (hsub _ (by decide))) rfl rfl rfl hls hrest rfl hdg hcs) hS hA (fun r S1 X1 H1 locs1 hp hP1 hS1 => by obtain ⟨rfl, rfl, rfl⟩ := hp; exact kk H1 locs1 hP1 hS1)
set_option maxHeartbeats 4000000 in
set_option maxRecDepth 100000 in
theorem c_X7_waitingAt (l : Launch) (D : va_G) (cA : ClassId) (a : Adr) (S X : Mem) (I : Nat → Prop) (hd : Hd nT a I) (x : Int32) {T : Nat} (hnT : S 85 0 = nI T) (hT30 : T ≤ 30) : MI l yX7_waitingAt cX7_waitingAt 4 (some .int) 2 43 D cA a S X I [.ref (a 85), .int x] (fun r S1 X1 => r = (nI (cnt (fun t => decide ((S 22) t = x) && decide ((S 24) t = -1)) T)) ∧ S1 = S ∧ X1 = X) := by
  refine mGo (by decide) (Nat.le_of_ble_eq_true rfl) ?_
  intro p e s m args below meth c ls C0 hr hlk hK hP hS hl hargs
  obtain ⟨H, hHe⟩ : ∃ H, H = s.heap := ⟨_, rfl⟩
  obtain ⟨locs, hlo⟩ : ∃ L : List Loc, L = [] := ⟨_, rfl⟩
  have hP : WP D cA a S X I H := hHe ▸ hP
  have hS : va_S (AI a I) s.heap H locs := by rw [hHe, hlo]; exact hS
  rw [← hHe, ← hlo]
  have hA : ∀ q, AI a I q → AI a I q := fun _ h => h
  refine lv_iconst (v := 0) C0.1 C0.2.1 dX7_waitingAt_0 (by decide) ?_
  refine lv_istore_n (lv' := [(2, .int 0), (0, .ref (a 85)), (1, .int x)]) C0.1 C0.2.1 dX7_waitingAt_1 rfl hl (by decide) rfl (fun ls hl => ?_)
  refine lv_iconst (v := 0) C0.1 C0.2.1 dX7_waitingAt_2 (by decide) ?_
  refine lv_istore_n (lv' := [(3, .int 0), (2, .int 0), (0, .ref (a 85)), (1, .int x)]) C0.1 C0.2.1 dX7_waitingAt_3 rfl hl (by decide) rfl (fun ls hl => ?_)
  have loop4 : ∀ (n : Nat) (i : Nat) (f : Int32), (i ≤ T) → (T + 1 ≤ i + n) → (f = nI (cnt (fun t => decide (S 22 t = x) && decide (S 24 t = -1)) i)) → ∀ (H : Heap) (locs : List Loc) (ls : Array Slot), WP D cA a S X I H → va_S (AI a I) s.heap H locs → lv_has ls 4 [(3, .int (nI i)), (2, .int f), (0, .ref (a 85)), (1, .int x)] → W p l e { frames := 2, cells := 0, slots := 0, locals := 43 } s m args below meth c H locs (0) (0) (MQ below (QpI D cA a I (fun r S1 X1 => r = (nI (cnt (fun t => decide ((S 22) t = x) && decide ((S 24) t = -1)) T)) ∧ S1 = S ∧ X1 = X)) args s 0 0 (AI a I)) (F0 m 4 ls []) := by
    intro n
    induction n with
    | zero => intro i f hi hf hcn; exfalso; omega
    | succ n ih4 =>
      intro i f hi hf hcn H locs ls hP hS hl
      refine lv_iload_n C0.1 C0.2.1 dX7_waitingAt_4 rfl (lv_at hl 0 rfl) ?_
      refine lv_aload_n C0.1 C0.2.1 dX7_waitingAt_5 rfl (lv_at hl 2 rfl) ?_
      refine g85_number (v := nI T) C0 hK hP (hd.1 _ (by decide)) fl_X7_32 hnT dX7_waitingAt_6 ?_
      refine lv_icmp_ge (tgt := 30) C0.1 C0.2.1 dX7_waitingAt_9 (by decide) (fun c_9 => ?_) (fun c_9 => ?_)
      · have hge : T ≤ i := (nI_leI (by omega) (by omega)).mp c_9
        refine lv_iload_n C0.1 C0.2.1 dX7_waitingAt_30 rfl (lv_at hl 1 rfl) ?_
        exact retI C0 hr hlk hP hS ⟨by rw [hcn, show i = T by omega], rfl, rfl⟩ dX7_waitingAt_31
      · have hlt : i < T := Nat.not_le.mp fun q => c_9 (nI_le q (by omega))
        refine lv_aload_n C0.1 C0.2.1 dX7_waitingAt_12 rfl (lv_at hl 2 rfl) ?_
        refine lv_iload_n C0.1 C0.2.1 dX7_waitingAt_13 rfl (lv_at hl 0 rfl) ?_
        refine lv_iload_n C0.1 C0.2.1 dX7_waitingAt_14 rfl (lv_at hl 3 rfl) ?_
        refine k_X7_waitsAt hd (by decide) C0 hK hP (by omega) (v := bI (decide (S 22 i = x) && decide (S 24 i = -1))) rfl hS hA hl.1 ml_X7_51 ⟨Nat.le_of_ble_eq_true rfl, Nat.le_of_ble_eq_true rfl⟩ ⟨Nat.zero_le _, Nat.zero_le _⟩ (Nat.le_of_ble_eq_true rfl) dX7_waitingAt_15 (fun H locs hP hS => ?_)
        refine lv_if_eq (tgt := 24) C0.1 C0.2.1 dX7_waitingAt_18 (by decide) (fun c_18 => ?_) (fun c_18 => ?_)
        · have c_18 := bI_eq c_18
          refine lv_iinc (v := nI (i + 1)) (lv' := [(3, .int (nI (i + 1))), (2, .int f), (0, .ref (a 85)), (1, .int x)]) C0.1 C0.2.1 dX7_waitingAt_24 hl (k := 0) rfl (nI_1 _) (by decide) rfl (fun ls hl => ?_)
          refine lv_goto (tgt := 4) C0.1 C0.2.1 dX7_waitingAt_27 (by decide) ?_
          exact ih4 (i + 1) _ (by omega) (by omega) (by rw [hcn, cnt_no (by rw [c_18]; exact Bool.false_ne_true)]) _ _ _ hP hS (lv_sub hl [0, 1, 2, 3] rfl)
        · have c_18 := bI_ne c_18
          refine lv_iinc (v := f + 1) (lv' := [(2, .int (f + 1)), (3, .int (nI i)), (0, .ref (a 85)), (1, .int x)]) C0.1 C0.2.1 dX7_waitingAt_21 hl (k := 1) rfl rfl (by decide) rfl (fun ls hl => ?_)
          refine lv_iinc (v := nI (i + 1)) (lv' := [(3, .int (nI (i + 1))), (2, .int (f + 1)), (0, .ref (a 85)), (1, .int x)]) C0.1 C0.2.1 dX7_waitingAt_24 hl (k := 1) rfl (nI_1 _) (by decide) rfl (fun ls hl => ?_)
          refine lv_goto (tgt := 4) C0.1 C0.2.1 dX7_waitingAt_27 (by decide) ?_
          exact ih4 (i + 1) _ (by omega) (by omega) (by rw [hcn, cnt_yes c_18, nI_1]) _ _ _ hP hS (lv_sub hl [0, 1, 2, 3] rfl)
  exact loop4 (T + 1) 0 0 (by omega) (by omega) nI_0.symm _ _ _ hP hS (lv_sub hl [0, 1, 2, 3] rfl)
theorem k_X7_waitingAt {n : List Nat} (hd : Hd n a I) (hsub : ∀ k ∈ nT, k ∈ n) (C0 : CallFix p m c cc nL s args GW own) (hK : KK D cA s) (hP : WP D cA a S X I H) {x : Int32} {T : Nat} (hnT : S 85 0 = nI T) (hT30 : T ≤ 30) {v : Int32} (hv : (nI (cnt (fun t => decide ((S 22) t = x) && decide ((S 24) t = -1)) T)) = v) (hS : va_S A0 H0 H locs) (hA : ∀ q, AI a I q → A0 q) (hls : ls.size = nL) {idx : Nat} (hlink : Cond.methodLink own idx yX7_waitingAt ∈ GW) (hR : 3 ≤ R.frames ∧ 66 ≤ R.locals) (hcs : cells ≤ R.cells ∧ slots ≤ R.slots) (hrest : (rest.map fun v => v.category).sum ≤ 8) (hdg : decode cc pc = .ok (.invokevirtual idx, 3)) (kk : ∀ (H1 : Heap) (locs1 : List Loc), WP D cA a S X I H1 → va_S A0 H0 H1 locs1 → W p l e R s m args below meth c H1 locs1 cells slots Q (F0 m (pc + 3) ls (.int v :: rest))) : W p l e R s m args below meth c H locs cells slots Q (F0 m pc ls (.int x :: .ref (a 85) :: rest)) := by
  subst hv
  exact goI (rV (n := 1) (c_X7_waitingAt l D cA a S X I (hd.sub hsub) x hnT hT30) C0 hlink im_X7_waitingAt se_X7_waitingAt in_X7 co_X7_waitingAt ⟨rfl, by decide⟩ hR hK hP (hd.1 _ (hsub _ (by decide))) rfl rfl rfl hls hrest rfl hdg hcs) hS hA (fun r S1 X1 H1 locs1 hp hP1 hS1 => by obtain ⟨rfl, rfl, rfl⟩ := hp; exact kk H1 locs1 hP1 hS1)
set_option maxHeartbeats 4000000 in
set_option maxRecDepth 100000 in
theorem c_X7_comeTo (l : Launch) (D : va_G) (cA : ClassId) (a : Adr) (S X : Mem) (I : Nat → Prop) (hd : Hd nT a I) (x : Int32) {T : Nat} (hnT : S 85 0 = nI T) (hT30 : T ≤ 30) : MI l yX7_comeTo cX7_comeTo 2 (some .int) 3 66 D cA a S X I [.ref (a 85), .int x] (fun r S1 X1 => r = (nI (cnt (fun j => decide ((S 22) j = x)) T) - nI (cnt (fun t => decide ((S 22) t = x) && decide ((S 24) t = -1)) T)) ∧ S1 = S ∧ X1 = X) := by
  refine mGo (by decide) (Nat.le_of_ble_eq_true rfl) ?_
  intro p e s m args below meth c ls C0 hr hlk hK hP hS hl hargs
  obtain ⟨H, hHe⟩ : ∃ H, H = s.heap := ⟨_, rfl⟩
  obtain ⟨locs, hlo⟩ : ∃ L : List Loc, L = [] := ⟨_, rfl⟩
  have hP : WP D cA a S X I H := hHe ▸ hP
  have hS : va_S (AI a I) s.heap H locs := by rw [hHe, hlo]; exact hS
  rw [← hHe, ← hlo]
  have hA : ∀ q, AI a I q → AI a I q := fun _ h => h
  refine lv_aload_n C0.1 C0.2.1 dX7_comeTo_0 rfl (lv_at hl 0 rfl) ?_
  refine g85_landing C0 hK hP (hd.1 _ (by decide)) fl_X7_23 dX7_comeTo_1 ?_
  refine lv_iload_n C0.1 C0.2.1 dX7_comeTo_4 rfl (lv_at hl 1 rfl) ?_
  refine lv_aload_n C0.1 C0.2.1 dX7_comeTo_5 rfl (lv_at hl 0 rfl) ?_
  refine g85_number (v := nI T) C0 hK hP (hd.1 _ (by decide)) fl_X7_32 hnT dX7_comeTo_6 ?_
  refine k_X5_howMany (v := nI (cnt (fun j => decide ((S 22) j = x)) T)) 22 (by decide) hd (by decide) (by decide) C0 hK hP (show T ≤ 30 by omega) rfl hS hA hl.1 ml_X7_55 ⟨Nat.le_of_ble_eq_true rfl, Nat.le_of_ble_eq_true rfl⟩ ⟨Nat.zero_le _, Nat.zero_le _⟩ (Nat.le_of_ble_eq_true rfl) dX7_comeTo_9 (fun H locs hP hS => ?_)
  refine lv_aload_n C0.1 C0.2.1 dX7_comeTo_12 rfl (lv_at hl 0 rfl) ?_
  refine lv_iload_n C0.1 C0.2.1 dX7_comeTo_13 rfl (lv_at hl 1 rfl) ?_
  refine k_X7_waitingAt hd (by decide) C0 hK hP hnT hT30 (v := nI (cnt (fun t => decide ((S 22) t = x) && decide ((S 24) t = -1)) T)) rfl hS hA hl.1 ml_X7_59 ⟨Nat.le_of_ble_eq_true rfl, Nat.le_of_ble_eq_true rfl⟩ ⟨Nat.zero_le _, Nat.zero_le _⟩ (Nat.le_of_ble_eq_true rfl) dX7_comeTo_14 (fun H locs hP hS => ?_)
  refine lv_isub C0.1 C0.2.1 dX7_comeTo_17 ?_
  exact retI C0 hr hlk hP hS ⟨rfl, rfl, rfl⟩ dX7_comeTo_18
theorem k_X7_comeTo {n : List Nat} (hd : Hd n a I) (hsub : ∀ k ∈ nT, k ∈ n) (C0 : CallFix p m c cc nL s args GW own) (hK : KK D cA s) (hP : WP D cA a S X I H) {x : Int32} {T : Nat} (hnT : S 85 0 = nI T) (hT30 : T ≤ 30) {v : Int32} (hv : (nI (cnt (fun j => decide ((S 22) j = x)) T) - nI (cnt (fun t => decide ((S 22) t = x) && decide ((S 24) t = -1)) T)) = v) (hS : va_S A0 H0 H locs) (hA : ∀ q, AI a I q → A0 q) (hls : ls.size = nL) {idx : Nat} (hlink : Cond.methodLink own idx yX7_comeTo ∈ GW) (hR : 4 ≤ R.frames ∧ 87 ≤ R.locals) (hcs : cells ≤ R.cells ∧ slots ≤ R.slots) (hrest : (rest.map fun v => v.category).sum ≤ 8) (hdg : decode cc pc = .ok (.invokevirtual idx, 3)) (kk : ∀ (H1 : Heap) (locs1 : List Loc), WP D cA a S X I H1 → va_S A0 H0 H1 locs1 → W p l e R s m args below meth c H1 locs1 cells slots Q (F0 m (pc + 3) ls (.int v :: rest))) : W p l e R s m args below meth c H locs cells slots Q (F0 m pc ls (.int x :: .ref (a 85) :: rest)) := by
  subst hv
  exact goI (rV (n := 1) (c_X7_comeTo l D cA a S X I (hd.sub hsub) x hnT hT30) C0 hlink im_X7_comeTo se_X7_comeTo in_X7 co_X7_comeTo ⟨rfl, by decide⟩ hR hK hP (hd.1 _ (hsub _ (by decide))) rfl rfl rfl hls hrest rfl hdg hcs) hS hA (fun r S1 X1 H1 locs1 hp hP1 hS1 => by obtain ⟨rfl, rfl, rfl⟩ := hp; exact kk H1 locs1 hP1 hS1)
set_option maxHeartbeats 4000000 in
set_option maxRecDepth 100000 in
theorem c_X7_riding (l : Launch) (D : va_G) (cA : ClassId) (a : Adr) (S X : Mem) (I : Nat → Prop) (hd : Hd nT a I) {T : Nat} (hnT : S 85 0 = nI T) (hT30 : T ≤ 30) : MI l yX7_riding cX7_riding 1 (some .int) 1 24 D cA a S X I [.ref (a 85)] (fun r S1 X1 => r = (nI T - nI (cnt (fun j => decide ((S 23) j = -1)) T)) ∧ S1 = S ∧ X1 = X) := by
  refine mGo (by decide) (Nat.le_of_ble_eq_true rfl) ?_
  intro p e s m args below meth c ls C0 hr hlk hK hP hS hl hargs
  obtain ⟨H, hHe⟩ : ∃ H, H = s.heap := ⟨_, rfl⟩
  obtain ⟨locs, hlo⟩ : ∃ L : List Loc, L = [] := ⟨_, rfl⟩
  have hP : WP D cA a S X I H := hHe ▸ hP
  have hS : va_S (AI a I) s.heap H locs := by rw [hHe, hlo]; exact hS
  rw [← hHe, ← hlo]
  have hA : ∀ q, AI a I q → AI a I q := fun _ h => h
  refine lv_aload_n C0.1 C0.2.1 dX7_riding_0 rfl (lv_at hl 0 rfl) ?_
  refine g85_number (v := nI T) C0 hK hP (hd.1 _ (by decide)) fl_X7_32 hnT dX7_riding_1 ?_
  refine lv_aload_n C0.1 C0.2.1 dX7_riding_4 rfl (lv_at hl 0 rfl) ?_
  refine g85_punt C0 hK hP (hd.1 _ (by decide)) fl_X7_26 dX7_riding_5 ?_
  refine lv_iconst (v := (-1)) C0.1 C0.2.1 dX7_riding_8 (by decide) ?_
  refine lv_aload_n C0.1 C0.2.1 dX7_riding_9 rfl (lv_at hl 0 rfl) ?_
  refine g85_number (v := nI T) C0 hK hP (hd.1 _ (by decide)) fl_X7_32 hnT dX7_riding_10 ?_
  refine k_X5_howMany (v := nI (cnt (fun j => decide ((S 23) j = (-1))) T)) 23 (by decide) hd (by decide) (by decide) C0 hK hP (show T ≤ 30 by omega) rfl hS hA hl.1 ml_X7_55 ⟨Nat.le_of_ble_eq_true rfl, Nat.le_of_ble_eq_true rfl⟩ ⟨Nat.zero_le _, Nat.zero_le _⟩ (Nat.le_of_ble_eq_true rfl) dX7_riding_13 (fun H locs hP hS => ?_)
  refine lv_isub C0.1 C0.2.1 dX7_riding_16 ?_
  exact retI C0 hr hlk hP hS ⟨rfl, rfl, rfl⟩ dX7_riding_17
theorem k_X7_riding {n : List Nat} (hd : Hd n a I) (hsub : ∀ k ∈ nT, k ∈ n) (C0 : CallFix p m c cc nL s args GW own) (hK : KK D cA s) (hP : WP D cA a S X I H) {T : Nat} (hnT : S 85 0 = nI T) (hT30 : T ≤ 30) {v : Int32} (hv : (nI T - nI (cnt (fun j => decide ((S 23) j = -1)) T)) = v) (hS : va_S A0 H0 H locs) (hA : ∀ q, AI a I q → A0 q) (hls : ls.size = nL) {idx : Nat} (hlink : Cond.methodLink own idx yX7_riding ∈ GW) (hR : 2 ≤ R.frames ∧ 44 ≤ R.locals) (hcs : cells ≤ R.cells ∧ slots ≤ R.slots) (hrest : (rest.map fun v => v.category).sum ≤ 8) (hdg : decode cc pc = .ok (.invokevirtual idx, 3)) (kk : ∀ (H1 : Heap) (locs1 : List Loc), WP D cA a S X I H1 → va_S A0 H0 H1 locs1 → W p l e R s m args below meth c H1 locs1 cells slots Q (F0 m (pc + 3) ls (.int v :: rest))) : W p l e R s m args below meth c H locs cells slots Q (F0 m pc ls (.ref (a 85) :: rest)) := by
  subst hv
  exact goI (rV (n := 0) (c_X7_riding l D cA a S X I (hd.sub hsub)  hnT hT30) C0 hlink im_X7_riding se_X7_riding in_X7 co_X7_riding ⟨rfl, by decide⟩ hR hK hP (hd.1 _ (hsub _ (by decide))) rfl rfl rfl hls hrest rfl hdg hcs) hS hA (fun r S1 X1 H1 locs1 hp hP1 hS1 => by obtain ⟨rfl, rfl, rfl⟩ := hp; exact kk H1 locs1 hP1 hS1)
set_option maxHeartbeats 4000000 in
set_option maxRecDepth 100000 in
theorem c_X7_come (l : Launch) (D : va_G) (cA : ClassId) (a : Adr) (S X : Mem) (I : Nat → Prop) (hd : Hd nT a I) {T : Nat} (hnT : S 85 0 = nI T) (hT30 : T ≤ 30) : MI l yX7_come cX7_come 1 (some .int) 1 24 D cA a S X I [.ref (a 85)] (fun r S1 X1 => r = (nI T - nI (cnt (fun j => decide ((S 24) j = -1)) T)) ∧ S1 = S ∧ X1 = X) := by
  refine mGo (by decide) (Nat.le_of_ble_eq_true rfl) ?_
  intro p e s m args below meth c ls C0 hr hlk hK hP hS hl hargs
  obtain ⟨H, hHe⟩ : ∃ H, H = s.heap := ⟨_, rfl⟩
  obtain ⟨locs, hlo⟩ : ∃ L : List Loc, L = [] := ⟨_, rfl⟩
  have hP : WP D cA a S X I H := hHe ▸ hP
  have hS : va_S (AI a I) s.heap H locs := by rw [hHe, hlo]; exact hS
  rw [← hHe, ← hlo]
  have hA : ∀ q, AI a I q → AI a I q := fun _ h => h
  refine lv_aload_n C0.1 C0.2.1 dX7_come_0 rfl (lv_at hl 0 rfl) ?_
  refine g85_number (v := nI T) C0 hK hP (hd.1 _ (by decide)) fl_X7_32 hnT dX7_come_1 ?_
  refine lv_aload_n C0.1 C0.2.1 dX7_come_4 rfl (lv_at hl 0 rfl) ?_
  refine g85_cameAt C0 hK hP (hd.1 _ (by decide)) fl_X7_29 dX7_come_5 ?_
  refine lv_iconst (v := (-1)) C0.1 C0.2.1 dX7_come_8 (by decide) ?_
  refine lv_aload_n C0.1 C0.2.1 dX7_come_9 rfl (lv_at hl 0 rfl) ?_
  refine g85_number (v := nI T) C0 hK hP (hd.1 _ (by decide)) fl_X7_32 hnT dX7_come_10 ?_
  refine k_X5_howMany (v := nI (cnt (fun j => decide ((S 24) j = (-1))) T)) 24 (by decide) hd (by decide) (by decide) C0 hK hP (show T ≤ 30 by omega) rfl hS hA hl.1 ml_X7_55 ⟨Nat.le_of_ble_eq_true rfl, Nat.le_of_ble_eq_true rfl⟩ ⟨Nat.zero_le _, Nat.zero_le _⟩ (Nat.le_of_ble_eq_true rfl) dX7_come_13 (fun H locs hP hS => ?_)
  refine lv_isub C0.1 C0.2.1 dX7_come_16 ?_
  exact retI C0 hr hlk hP hS ⟨rfl, rfl, rfl⟩ dX7_come_17
theorem k_X7_come {n : List Nat} (hd : Hd n a I) (hsub : ∀ k ∈ nT, k ∈ n) (C0 : CallFix p m c cc nL s args GW own) (hK : KK D cA s) (hP : WP D cA a S X I H) {T : Nat} (hnT : S 85 0 = nI T) (hT30 : T ≤ 30) {v : Int32} (hv : (nI T - nI (cnt (fun j => decide ((S 24) j = -1)) T)) = v) (hS : va_S A0 H0 H locs) (hA : ∀ q, AI a I q → A0 q) (hls : ls.size = nL) {idx : Nat} (hlink : Cond.methodLink own idx yX7_come ∈ GW) (hR : 2 ≤ R.frames ∧ 44 ≤ R.locals) (hcs : cells ≤ R.cells ∧ slots ≤ R.slots) (hrest : (rest.map fun v => v.category).sum ≤ 8) (hdg : decode cc pc = .ok (.invokevirtual idx, 3)) (kk : ∀ (H1 : Heap) (locs1 : List Loc), WP D cA a S X I H1 → va_S A0 H0 H1 locs1 → W p l e R s m args below meth c H1 locs1 cells slots Q (F0 m (pc + 3) ls (.int v :: rest))) : W p l e R s m args below meth c H locs cells slots Q (F0 m pc ls (.ref (a 85) :: rest)) := by
  subst hv
  exact goI (rV (n := 0) (c_X7_come l D cA a S X I (hd.sub hsub)  hnT hT30) C0 hlink im_X7_come se_X7_come in_X7 co_X7_come ⟨rfl, by decide⟩ hR hK hP (hd.1 _ (hsub _ (by decide))) rfl rfl rfl hls hrest rfl hdg hcs) hS hA (fun r S1 X1 H1 locs1 hp hP1 hS1 => by obtain ⟨rfl, rfl, rfl⟩ := hp; exact kk H1 locs1 hP1 hS1)
set_option maxHeartbeats 4000000 in
set_option maxRecDepth 100000 in
theorem c_X7_waiting (l : Launch) (D : va_G) (cA : ClassId) (a : Adr) (S X : Mem) (I : Nat → Prop) (hd : Hd nT a I) {T : Nat} (hnT : S 85 0 = nI T) (hT30 : T ≤ 30) : MI l yX7_waiting cX7_waiting 1 (some .int) 2 44 D cA a S X I [.ref (a 85)] (fun r S1 X1 => r = (nI T - (nI T - nI (cnt (fun j => decide ((S 23) j = -1)) T)) - (nI T - nI (cnt (fun j => decide ((S 24) j = -1)) T))) ∧ S1 = S ∧ X1 = X) := by
  refine mGo (by decide) (Nat.le_of_ble_eq_true rfl) ?_
  intro p e s m args below meth c ls C0 hr hlk hK hP hS hl hargs
  obtain ⟨H, hHe⟩ : ∃ H, H = s.heap := ⟨_, rfl⟩
  obtain ⟨locs, hlo⟩ : ∃ L : List Loc, L = [] := ⟨_, rfl⟩
  have hP : WP D cA a S X I H := hHe ▸ hP
  have hS : va_S (AI a I) s.heap H locs := by rw [hHe, hlo]; exact hS
  rw [← hHe, ← hlo]
  have hA : ∀ q, AI a I q → AI a I q := fun _ h => h
  refine lv_aload_n C0.1 C0.2.1 dX7_waiting_0 rfl (lv_at hl 0 rfl) ?_
  refine g85_number (v := nI T) C0 hK hP (hd.1 _ (by decide)) fl_X7_32 hnT dX7_waiting_1 ?_
  refine lv_aload_n C0.1 C0.2.1 dX7_waiting_4 rfl (lv_at hl 0 rfl) ?_
  refine k_X7_riding hd (by decide) C0 hK hP hnT hT30 (v := nI T - nI (cnt (fun j => decide ((S 23) j = -1)) T)) rfl hS hA hl.1 ml_X7_62 ⟨Nat.le_of_ble_eq_true rfl, Nat.le_of_ble_eq_true rfl⟩ ⟨Nat.zero_le _, Nat.zero_le _⟩ (Nat.le_of_ble_eq_true rfl) dX7_waiting_5 (fun H locs hP hS => ?_)
  refine lv_isub C0.1 C0.2.1 dX7_waiting_8 ?_
  refine lv_aload_n C0.1 C0.2.1 dX7_waiting_9 rfl (lv_at hl 0 rfl) ?_
  refine k_X7_come hd (by decide) C0 hK hP hnT hT30 (v := nI T - nI (cnt (fun j => decide ((S 24) j = -1)) T)) rfl hS hA hl.1 ml_X7_66 ⟨Nat.le_of_ble_eq_true rfl, Nat.le_of_ble_eq_true rfl⟩ ⟨Nat.zero_le _, Nat.zero_le _⟩ (Nat.le_of_ble_eq_true rfl) dX7_waiting_10 (fun H locs hP hS => ?_)
  refine lv_isub C0.1 C0.2.1 dX7_waiting_13 ?_
  exact retI C0 hr hlk hP hS ⟨rfl, rfl, rfl⟩ dX7_waiting_14
theorem k_X7_waiting {n : List Nat} (hd : Hd n a I) (hsub : ∀ k ∈ nT, k ∈ n) (C0 : CallFix p m c cc nL s args GW own) (hK : KK D cA s) (hP : WP D cA a S X I H) {T : Nat} (hnT : S 85 0 = nI T) (hT30 : T ≤ 30) {v : Int32} (hv : (nI T - (nI T - nI (cnt (fun j => decide ((S 23) j = -1)) T)) - (nI T - nI (cnt (fun j => decide ((S 24) j = -1)) T))) = v) (hS : va_S A0 H0 H locs) (hA : ∀ q, AI a I q → A0 q) (hls : ls.size = nL) {idx : Nat} (hlink : Cond.methodLink own idx yX7_waiting ∈ GW) (hR : 3 ≤ R.frames ∧ 64 ≤ R.locals) (hcs : cells ≤ R.cells ∧ slots ≤ R.slots) (hrest : (rest.map fun v => v.category).sum ≤ 8) (hdg : decode cc pc = .ok (.invokevirtual idx, 3)) (kk : ∀ (H1 : Heap) (locs1 : List Loc), WP D cA a S X I H1 → va_S A0 H0 H1 locs1 → W p l e R s m args below meth c H1 locs1 cells slots Q (F0 m (pc + 3) ls (.int v :: rest))) : W p l e R s m args below meth c H locs cells slots Q (F0 m pc ls (.ref (a 85) :: rest)) := by
  subst hv
  exact goI (rV (n := 0) (c_X7_waiting l D cA a S X I (hd.sub hsub)  hnT hT30) C0 hlink im_X7_waiting se_X7_waiting in_X7 co_X7_waiting ⟨rfl, by decide⟩ hR hK hP (hd.1 _ (hsub _ (by decide))) rfl rfl rfl hls hrest rfl hdg hcs) hS hA (fun r S1 X1 H1 locs1 hp hP1 hS1 => by obtain ⟨rfl, rfl, rfl⟩ := hp; exact kk H1 locs1 hP1 hS1)
end CLS
