theorem wyS_at {S : Mem} {u b en lv0 h : Nat} (hb : b < 8) (hen : en < 196) (hbe : S 17 u = nI b) (hene : S 3 b = nI en) (hlv : S 2 (h % 12) = nI lv0) : wyS S u (S 17 u) (lvS S h) = wayS (okS S (nI u) (nI lv0)) en := by
  unfold wyS celS lvS
  rw [hbe, nI_clamp (by omega), hene, nI_clamp (by omega), hlv]
theorem TW.bound {S : Mem} {P L u : Nat} (hT : TW S P L) (hu : u < P) : ∃ b, b < L ∧ S 17 u = nI b ∧ (S 4 u = nI b ∨ S 5 u = nI b) := by
  obtain ⟨x, y, hx, hy, _, e4, e5⟩ := hT.1 u hu
  rcases hT.2.2.2.1 u hu with e | e
  · exact ⟨x, hx, e.trans e4, Or.inl e4⟩
  · exact ⟨y, hy, e.trans e5, Or.inr e5⟩
section CLS
variable {p : Program} {l : Launch} {e : Env} {R : Room} {s : State} {m : MethodId} {args : Array Value} {below : List Frame} {meth : Method} {c : Code} {H : Heap} {locs : List Loc} {cells slots : Nat} {Q : State → Prop}
variable {cc : ByteArray} {nL : Nat} {own : String} {pc : Nat} {ls : Array Slot} {rest : List Value} {D : va_G} {cA : ClassId} {a : Adr} {S X : Mem} {I : Nat → Prop} {H0 : Heap} {A0 : Nat → Prop}
set_option maxHeartbeats 4000000 in
set_option maxRecDepth 100000 in
theorem c_X6_stepOn (l : Launch) (D : va_G) (cA : ClassId) (a : Adr) (S X : Mem) (I : Nat → Prop) (hd : Hd nT a I) (u : Nat) {P : Nat} {L : Nat} (hC : CacheOk S X P) (hTW : TW S P L) (hu : u < P) {h : Nat} (hnH : S 86 0 = nI h) (hh : h < 2 ^ 31) : MV l yX6_stepOn cX6_stepOn 4 none 4 98 D cA a S X I [.ref (a 86), .int (nI u)] (fun S1 X1 => S1 = stepM S u h ∧ CacheOk S X1 P ∧ (∀ k, k ≠ 13 → k ≠ 14 → k ≠ 15 → X1 k = X k)) := by
  refine mGo (by decide) (Nat.le_of_ble_eq_true rfl) ?_
  intro p e s m args below meth c ls C0 hr hlk hK hP hS hl hargs
  obtain ⟨H, hHe⟩ : ∃ H, H = s.heap := ⟨_, rfl⟩
  obtain ⟨locs, hlo⟩ : ∃ L : List Loc, L = [] := ⟨_, rfl⟩
  have hP : WP D cA a S X I H := hHe ▸ hP
  have hS : va_S (AI a I) s.heap H locs := by rw [hHe, hlo]; exact hS
  rw [← hHe, ← hlo]
  have hA : ∀ q, AI a I q → AI a I q := fun _ h => h
  obtain ⟨hLnk, hP6, hL8, h17, h16, h8, h3, h2⟩ := id hTW
  obtain ⟨ce, hce196, hce⟩ := h16 u hu
  obtain ⟨lv0, hlv25, hlv⟩ := h2 (h % 12) (Nat.mod_lt _ (by decide))
  obtain ⟨b, hb, hbe, hbend⟩ := hTW.bound hu
  obtain ⟨en, hen, hene⟩ := h3 b hb
  refine lv_aload_n C0.1 C0.2.1 dX6_stepOn_0 rfl (lv_at hl 0 rfl) ?_
  refine g86_charts C0 hK hP (hd.1 _ (by decide)) fl_X6_52 dX6_stepOn_1 ?_
  refine lv_iload_n C0.1 C0.2.1 dX6_stepOn_4 rfl (lv_at hl 1 rfl) ?_
  refine lv_aload_n C0.1 C0.2.1 dX6_stepOn_5 rfl (lv_at hl 0 rfl) ?_
  refine g86_bound C0 hK hP (hd.1 _ (by decide)) fl_X6_20 dX6_stepOn_6 ?_
  refine lv_iload_n C0.1 C0.2.1 dX6_stepOn_9 rfl (lv_at hl 1 rfl) ?_
  refine k_X5_get (v := nI b) 17 (by decide) hd (by decide) (by decide) C0 hK hP ((rg_nI (show u < 6 by omega) (by decide)).trans hbe) hS hA hl.1 ml_X6_77 ⟨Nat.le_of_ble_eq_true rfl, Nat.le_of_ble_eq_true rfl⟩ ⟨Nat.zero_le _, Nat.zero_le _⟩ (Nat.le_of_ble_eq_true rfl) dX6_stepOn_10 (fun H locs hP hS => ?_)
  refine lv_aload_n C0.1 C0.2.1 dX6_stepOn_13 rfl (lv_at hl 0 rfl) ?_
  refine k_X6_level hd (by decide) C0 hK hP hnH hh (v := nI lv0) hlv hS hA hl.1 ml_X6_80 ⟨Nat.le_of_ble_eq_true rfl, Nat.le_of_ble_eq_true rfl⟩ ⟨Nat.zero_le _, Nat.zero_le _⟩ (Nat.le_of_ble_eq_true rfl) dX6_stepOn_14 (fun H locs hP hS => ?_)
  refine k_X1_chartOf hd (by decide) C0 hK hP  hS hA hl.1 ml_X6_94 ⟨Nat.le_of_ble_eq_true rfl, Nat.le_of_ble_eq_true rfl⟩ ⟨Nat.zero_le _, Nat.zero_le _⟩ (Nat.le_of_ble_eq_true rfl) dX6_stepOn_17 (fun v_4 S_2 X_3 H locs hx_1 hP hS => ?_)
  obtain ⟨hs1, hxf, hx14, hx13, hr1⟩ := hx_1
  rw [hs1] at hP
  subst hr1
  obtain ⟨hC1, B, hB, hBe, hW⟩ := chart_ok hC hP6 hu hlv25 rfl (show b < 8 by omega) hbend hene hen hx14 hx13
  rw [hBe]
  refine lv_istore_n (lv' := [(2, .int (nI B)), (0, .ref (a 86)), (1, .int (nI u))]) C0.1 C0.2.1 dX6_stepOn_20 rfl hl (by decide) rfl (fun ls hl => ?_)
  refine lv_aload_n C0.1 C0.2.1 dX6_stepOn_21 rfl (lv_at hl 1 rfl) ?_
  refine g86_charts C0 hK hP (hd.1 _ (by decide)) fl_X6_52 dX6_stepOn_22 ?_
  refine lv_iload_n C0.1 C0.2.1 dX6_stepOn_25 rfl (lv_at hl 0 rfl) ?_
  refine lv_aload_n C0.1 C0.2.1 dX6_stepOn_26 rfl (lv_at hl 1 rfl) ?_
  refine g86_cell C0 hK hP (hd.1 _ (by decide)) fl_X6_14 dX6_stepOn_27 ?_
  refine lv_iload_n C0.1 C0.2.1 dX6_stepOn_30 rfl (lv_at hl 2 rfl) ?_
  refine k_X5_get (v := nI ce) 16 (by decide) hd (by decide) (by decide) C0 hK hP ((rg_nI (show u < 6 by omega) (by decide)).trans hce) hS hA hl.1 ml_X6_77 ⟨Nat.le_of_ble_eq_true rfl, Nat.le_of_ble_eq_true rfl⟩ ⟨Nat.zero_le _, Nat.zero_le _⟩ (Nat.le_of_ble_eq_true rfl) dX6_stepOn_31 (fun H locs hP hS => ?_)
  refine k_X1_nextStep hd (by decide) C0 hK hP  (v := nxt (X_3 13) (nI B) (nI ce)) rfl hS hA hl.1 ml_X6_175 ⟨Nat.le_of_ble_eq_true rfl, Nat.le_of_ble_eq_true rfl⟩ ⟨Nat.zero_le _, Nat.zero_le _⟩ (Nat.le_of_ble_eq_true rfl) dX6_stepOn_34 (fun H locs hP hS => ?_)
  have hnx : nxt (X_3 13) (nI B) (nI ce) = nxW (wyS S u (S 17 u) (lvS S h)) (S 16 u).toNatClampNeg := by rw [wyS_at (by omega) hen hbe hene hlv, hce, nI_clamp (by omega)]; exact nxt_nxW hB hce196 hW
  obtain ⟨N, hN⟩ : ∃ N, N = nxW (wyS S u (S 17 u) (lvS S h)) (S 16 u).toNatClampNeg := ⟨_, rfl⟩
  rw [hnx, ← hN]
  refine lv_istore_n (lv' := [(3, .int N), (2, .int (nI B)), (0, .ref (a 86)), (1, .int (nI u))]) C0.1 C0.2.1 dX6_stepOn_37 rfl hl (by decide) rfl (fun ls hl => ?_)
  refine lv_iload_n C0.1 C0.2.1 dX6_stepOn_38 rfl (lv_at hl 0 rfl) ?_
  refine lv_iconst (v := (-1)) C0.1 C0.2.1 dX6_stepOn_39 (by decide) ?_
  refine lv_icmp_eq (tgt := 61) C0.1 C0.2.1 dX6_stepOn_40 (by decide) (fun c_40 => ?_) (fun c_40 => ?_)
  · exact retV C0 hr hlk hP hS ⟨by unfold stepM; rw [if_pos (hN.symm.trans c_40)], hC1, hxf⟩ dX6_stepOn_61
  · refine lv_aload_n C0.1 C0.2.1 dX6_stepOn_43 rfl (lv_at hl 2 rfl) ?_
    refine g86_cell C0 hK hP (hd.1 _ (by decide)) fl_X6_14 dX6_stepOn_44 ?_
    refine lv_iload_n C0.1 C0.2.1 dX6_stepOn_47 rfl (lv_at hl 3 rfl) ?_
    refine lv_iload_n C0.1 C0.2.1 dX6_stepOn_48 rfl (lv_at hl 0 rfl) ?_
    refine k_X5_set 16 (by decide) hd (by decide) (by decide) C0 hK hP hS hA hl.1 ml_X6_67 ⟨Nat.le_of_ble_eq_true rfl, Nat.le_of_ble_eq_true rfl⟩ ⟨Nat.zero_le _, Nat.zero_le _⟩ (Nat.le_of_ble_eq_true rfl) dX6_stepOn_49 (fun H locs hP hS => ?_)
    have hP : WP D cA a (up S 16 (us (S 16) 6 (nI u) N)) X_3 I H := hP
    have hP : WP D cA a (up S 16 (upd (S 16) u N)) X_3 I H := WP.congr hP (fun k => by
        by_cases h_16 : k = 16
        · subst h_16; exact ((us_nI (show u < 6 by omega) (by decide)) : (us (S 16) 6 (nI u) N) = (upd (S 16) u N))
        simp only [up, h_16, if_false]) (fun _ => rfl)
    refine lv_aload_n C0.1 C0.2.1 dX6_stepOn_52 rfl (lv_at hl 2 rfl) ?_
    refine g86_steps C0 hK hP (hd.1 _ (by decide)) fl_X6_26 dX6_stepOn_53 ?_
    refine lv_iload_n C0.1 C0.2.1 dX6_stepOn_56 rfl (lv_at hl 3 rfl) ?_
    refine lv_iconst (v := 1) C0.1 C0.2.1 dX6_stepOn_57 (by decide) ?_
    refine k_X5_add 19 (by decide) hd (by decide) (by decide) C0 hK hP hS hA hl.1 ml_X6_166 ⟨Nat.le_of_ble_eq_true rfl, Nat.le_of_ble_eq_true rfl⟩ ⟨Nat.zero_le _, Nat.zero_le _⟩ (Nat.le_of_ble_eq_true rfl) dX6_stepOn_58 (fun H locs hP hS => ?_)
    have hP : WP D cA a (up (up S 16 (upd (S 16) u N)) 19 (us (S 19) 6 (nI u) (rg (S 19) 6 (nI u) + 1))) X_3 I H := hP
    have hP : WP D cA a (up (up S 16 (upd (S 16) u N)) 19 (upd (S 19) u ((S 19 u) + 1))) X_3 I H := WP.congr hP (fun k => by
        by_cases h_16 : k = 16
        · subst h_16; exact (rfl : (upd (S 16) u N) = (upd (S 16) u N))
        by_cases h_19 : k = 19
        · subst h_19; exact ((show us (S 19) 6 (nI u) (rg (S 19) 6 (nI u) + 1) = upd (S 19) u ((S 19 u) + 1) from (us_nI (show u < 6 by omega) (by decide)).trans (congrArg (fun z => upd (S 19) u (z + 1)) (rg_nI (show u < 6 by omega) (by decide)))) : (us (S 19) 6 (nI u) (rg (S 19) 6 (nI u) + 1)) = (upd (S 19) u ((S 19 u) + 1)))
        simp only [up, h_16, h_19, if_false]) (fun _ => rfl)
    exact retV C0 hr hlk hP hS ⟨by unfold stepM; rw [if_neg (fun q => c_40 (hN.trans q)), ← hN], hC1, hxf⟩ dX6_stepOn_61
theorem k_X6_stepOn {n : List Nat} (hd : Hd n a I) (hsub : ∀ k ∈ nT, k ∈ n) (C0 : CallFix p m c cc nL s args GW own) (hK : KK D cA s) (hP : WP D cA a S X I H) {u : Nat} {P : Nat} {L : Nat} (hC : CacheOk S X P) (hTW : TW S P L) (hu : u < P) {h : Nat} (hnH : S 86 0 = nI h) (hh : h < 2 ^ 31) (hS : va_S A0 H0 H locs) (hA : ∀ q, AI a I q → A0 q) (hls : ls.size = nL) {idx : Nat} (hlink : Cond.methodLink own idx yX6_stepOn ∈ GW) (hR : 5 ≤ R.frames ∧ 121 ≤ R.locals) (hcs : cells ≤ R.cells ∧ slots ≤ R.slots) (hrest : (rest.map fun v => v.category).sum ≤ 8) (hdg : decode cc pc = .ok (.invokevirtual idx, 3)) (kk : ∀ (S1 X1 : Mem) (H1 : Heap) (locs1 : List Loc), (fun S1 X1 => S1 = stepM S u h ∧ CacheOk S X1 P ∧ (∀ k, k ≠ 13 → k ≠ 14 → k ≠ 15 → X1 k = X k)) S1 X1 → WP D cA a S1 X1 I H1 → va_S A0 H0 H1 locs1 → W p l e R s m args below meth c H1 locs1 cells slots Q (F0 m (pc + 3) ls rest)) : W p l e R s m args below meth c H locs cells slots Q (F0 m pc ls (.int (nI u) :: .ref (a 86) :: rest)) := by
  exact goV (rV (n := 1) (c_X6_stepOn l D cA a S X I (hd.sub hsub) u hC hTW hu hnH hh) C0 hlink im_X6_stepOn se_X6_stepOn in_X6 co_X6_stepOn ⟨rfl, by decide⟩ hR hK hP (hd.1 _ (hsub _ (by decide))) rfl rfl rfl hls hrest rfl hdg hcs) hS hA kk
set_option maxHeartbeats 4000000 in
set_option maxRecDepth 100000 in
theorem c_X6_wayLeft (l : Launch) (D : va_G) (cA : ClassId) (a : Adr) (S X : Mem) (I : Nat → Prop) (hd : Hd nT a I) (u : Nat) {P : Nat} {L : Nat} (hC : CacheOk S X P) (hTW : TW S P L) (hu : u < P) {h : Nat} (hnH : S 86 0 = nI h) (hh : h < 2 ^ 31) : MI l yX6_wayLeft cX6_wayLeft 2 (some .int) 4 98 D cA a S X I [.ref (a 86), .int (nI u)] (fun r S1 X1 => r = wyS S u (S 17 u) (lvS S h) (S 16 u).toNatClampNeg ∧ S1 = S ∧ CacheOk S X1 P ∧ (∀ k, k ≠ 13 → k ≠ 14 → k ≠ 15 → X1 k = X k)) := by
  refine mGo (by decide) (Nat.le_of_ble_eq_true rfl) ?_
  intro p e s m args below meth c ls C0 hr hlk hK hP hS hl hargs
  obtain ⟨H, hHe⟩ : ∃ H, H = s.heap := ⟨_, rfl⟩
  obtain ⟨locs, hlo⟩ : ∃ L : List Loc, L = [] := ⟨_, rfl⟩
  have hP : WP D cA a S X I H := hHe ▸ hP
  have hS : va_S (AI a I) s.heap H locs := by rw [hHe, hlo]; exact hS
  rw [← hHe, ← hlo]
  have hA : ∀ q, AI a I q → AI a I q := fun _ h => h
  obtain ⟨hLnk, hP6, hL8, h17, h16, h8, h3, h2⟩ := id hTW
  obtain ⟨ce, hce196, hce⟩ := h16 u hu
  obtain ⟨lv0, hlv25, hlv⟩ := h2 (h % 12) (Nat.mod_lt _ (by decide))
  obtain ⟨b, hb, hbe, hbend⟩ := hTW.bound hu
  obtain ⟨en, hen, hene⟩ := h3 b hb
  refine lv_aload_n C0.1 C0.2.1 dX6_wayLeft_0 rfl (lv_at hl 0 rfl) ?_
  refine g86_charts C0 hK hP (hd.1 _ (by decide)) fl_X6_52 dX6_wayLeft_1 ?_
  refine lv_aload_n C0.1 C0.2.1 dX6_wayLeft_4 rfl (lv_at hl 0 rfl) ?_
  refine g86_charts C0 hK hP (hd.1 _ (by decide)) fl_X6_52 dX6_wayLeft_5 ?_
  refine lv_iload_n C0.1 C0.2.1 dX6_wayLeft_8 rfl (lv_at hl 1 rfl) ?_
  refine lv_aload_n C0.1 C0.2.1 dX6_wayLeft_9 rfl (lv_at hl 0 rfl) ?_
  refine g86_bound C0 hK hP (hd.1 _ (by decide)) fl_X6_20 dX6_wayLeft_10 ?_
  refine lv_iload_n C0.1 C0.2.1 dX6_wayLeft_13 rfl (lv_at hl 1 rfl) ?_
  refine k_X5_get (v := nI b) 17 (by decide) hd (by decide) (by decide) C0 hK hP ((rg_nI (show u < 6 by omega) (by decide)).trans hbe) hS hA hl.1 ml_X6_77 ⟨Nat.le_of_ble_eq_true rfl, Nat.le_of_ble_eq_true rfl⟩ ⟨Nat.zero_le _, Nat.zero_le _⟩ (Nat.le_of_ble_eq_true rfl) dX6_wayLeft_14 (fun H locs hP hS => ?_)
  refine lv_aload_n C0.1 C0.2.1 dX6_wayLeft_17 rfl (lv_at hl 0 rfl) ?_
  refine k_X6_level hd (by decide) C0 hK hP hnH hh (v := nI lv0) hlv hS hA hl.1 ml_X6_80 ⟨Nat.le_of_ble_eq_true rfl, Nat.le_of_ble_eq_true rfl⟩ ⟨Nat.zero_le _, Nat.zero_le _⟩ (Nat.le_of_ble_eq_true rfl) dX6_wayLeft_18 (fun H locs hP hS => ?_)
  refine k_X1_chartOf hd (by decide) C0 hK hP  hS hA hl.1 ml_X6_94 ⟨Nat.le_of_ble_eq_true rfl, Nat.le_of_ble_eq_true rfl⟩ ⟨Nat.zero_le _, Nat.zero_le _⟩ (Nat.le_of_ble_eq_true rfl) dX6_wayLeft_21 (fun v_4 S_2 X_3 H locs hx_1 hP hS => ?_)
  obtain ⟨hs1, hxf, hx14, hx13, hr1⟩ := hx_1
  rw [hs1] at hP
  subst hr1
  obtain ⟨hC1, B, hB, hBe, hW⟩ := chart_ok hC hP6 hu hlv25 rfl (show b < 8 by omega) hbend hene hen hx14 hx13
  rw [hBe]
  refine lv_aload_n C0.1 C0.2.1 dX6_wayLeft_24 rfl (lv_at hl 0 rfl) ?_
  refine g86_cell C0 hK hP (hd.1 _ (by decide)) fl_X6_14 dX6_wayLeft_25 ?_
  refine lv_iload_n C0.1 C0.2.1 dX6_wayLeft_28 rfl (lv_at hl 1 rfl) ?_
  refine k_X5_get (v := nI ce) 16 (by decide) hd (by decide) (by decide) C0 hK hP ((rg_nI (show u < 6 by omega) (by decide)).trans hce) hS hA hl.1 ml_X6_77 ⟨Nat.le_of_ble_eq_true rfl, Nat.le_of_ble_eq_true rfl⟩ ⟨Nat.zero_le _, Nat.zero_le _⟩ (Nat.le_of_ble_eq_true rfl) dX6_wayLeft_29 (fun H locs hP hS => ?_)
  refine k_X1_way hd (by decide) C0 hK hP  (v := rg (X_3 13) 58800 ((nI B) + (nI ce))) rfl hS hA hl.1 ml_X6_100 ⟨Nat.le_of_ble_eq_true rfl, Nat.le_of_ble_eq_true rfl⟩ ⟨Nat.zero_le _, Nat.zero_le _⟩ (Nat.le_of_ble_eq_true rfl) dX6_wayLeft_32 (fun H locs hP hS => ?_)
  exact retI C0 hr hlk hP hS ⟨by rw [wyS_at (by omega) hen hbe hene hlv, hce, nI_clamp (by omega), rg_at hB hce196]; exact hW ce hce196, rfl, hC1, hxf⟩ dX6_wayLeft_35
theorem k_X6_wayLeft {n : List Nat} (hd : Hd n a I) (hsub : ∀ k ∈ nT, k ∈ n) (C0 : CallFix p m c cc nL s args GW own) (hK : KK D cA s) (hP : WP D cA a S X I H) {u : Nat} {P : Nat} {L : Nat} (hC : CacheOk S X P) (hTW : TW S P L) (hu : u < P) {h : Nat} (hnH : S 86 0 = nI h) (hh : h < 2 ^ 31) (hS : va_S A0 H0 H locs) (hA : ∀ q, AI a I q → A0 q) (hls : ls.size = nL) {idx : Nat} (hlink : Cond.methodLink own idx yX6_wayLeft ∈ GW) (hR : 5 ≤ R.frames ∧ 119 ≤ R.locals) (hcs : cells ≤ R.cells ∧ slots ≤ R.slots) (hrest : (rest.map fun v => v.category).sum ≤ 8) (hdg : decode cc pc = .ok (.invokevirtual idx, 3)) (kk : ∀ (v : Int32) (S1 X1 : Mem) (H1 : Heap) (locs1 : List Loc), (fun r S1 X1 => r = wyS S u (S 17 u) (lvS S h) (S 16 u).toNatClampNeg ∧ S1 = S ∧ CacheOk S X1 P ∧ (∀ k, k ≠ 13 → k ≠ 14 → k ≠ 15 → X1 k = X k)) v S1 X1 → WP D cA a S1 X1 I H1 → va_S A0 H0 H1 locs1 → W p l e R s m args below meth c H1 locs1 cells slots Q (F0 m (pc + 3) ls (.int v :: rest))) : W p l e R s m args below meth c H locs cells slots Q (F0 m pc ls (.int (nI u) :: .ref (a 86) :: rest)) := by
  exact goI (rV (n := 1) (c_X6_wayLeft l D cA a S X I (hd.sub hsub) u hC hTW hu hnH hh) C0 hlink im_X6_wayLeft se_X6_wayLeft in_X6 co_X6_wayLeft ⟨rfl, by decide⟩ hR hK hP (hd.1 _ (hsub _ (by decide))) rfl rfl rfl hls hrest rfl hdg hcs) hS hA kk
set_option maxHeartbeats 4000000 in
set_option maxRecDepth 100000 in
theorem c_X6_chainLeft (l : Launch) (D : va_G) (cA : ClassId) (a : Adr) (S X : Mem) (I : Nat → Prop) (hd : Hd nT a I) (t : Nat) (ht : t < 30) : MI l yX6_chainLeft cX6_chainLeft 4 (some .int) 2 43 D cA a S X I [.ref (a 86), .int (nI t)] (fun r S1 X1 => r = (if S 23 t = -1 then lnI (X 10) (S 22 t) (S 20 t) else if lnI (X 10) (rg (S 17) 6 (S 23 t)) (S 20 t) = -1 then -1 else lnI (X 10) (rg (S 17) 6 (S 23 t)) (S 20 t) + 1) ∧ S1 = S ∧ X1 = X) := by
  refine mGo (by decide) (Nat.le_of_ble_eq_true rfl) ?_
  intro p e s m args below meth c ls C0 hr hlk hK hP hS hl hargs
  obtain ⟨H, hHe⟩ : ∃ H, H = s.heap := ⟨_, rfl⟩
  obtain ⟨locs, hlo⟩ : ∃ L : List Loc, L = [] := ⟨_, rfl⟩
  have hP : WP D cA a S X I H := hHe ▸ hP
  have hS : va_S (AI a I) s.heap H locs := by rw [hHe, hlo]; exact hS
  rw [← hHe, ← hlo]
  have hA : ∀ q, AI a I q → AI a I q := fun _ h => h
  refine lv_aload_n C0.1 C0.2.1 dX6_chainLeft_0 rfl (lv_at hl 0 rfl) ?_
  refine g86_travellers C0 hK hP (hd.1 _ (by decide)) fl_X6_32 dX6_chainLeft_1 ?_
  refine g85_wish C0 hK hP (hd.1 _ (by decide)) fl_X6_110 dX6_chainLeft_4 ?_
  refine lv_iload_n C0.1 C0.2.1 dX6_chainLeft_7 rfl (lv_at hl 1 rfl) ?_
  refine k_X5_get (v := S 20 t) 20 (by decide) hd (by decide) (by decide) C0 hK hP (rg_nI (show t < 30 by omega) (by decide)) hS hA hl.1 ml_X6_77 ⟨Nat.le_of_ble_eq_true rfl, Nat.le_of_ble_eq_true rfl⟩ ⟨Nat.zero_le _, Nat.zero_le _⟩ (Nat.le_of_ble_eq_true rfl) dX6_chainLeft_8 (fun H locs hP hS => ?_)
  refine lv_istore_n (lv' := [(2, .int (S 20 t)), (0, .ref (a 86)), (1, .int (nI t))]) C0.1 C0.2.1 dX6_chainLeft_11 rfl hl (by decide) rfl (fun ls hl => ?_)
  refine lv_aload_n C0.1 C0.2.1 dX6_chainLeft_12 rfl (lv_at hl 1 rfl) ?_
  refine g86_travellers C0 hK hP (hd.1 _ (by decide)) fl_X6_32 dX6_chainLeft_13 ?_
  refine lv_iload_n C0.1 C0.2.1 dX6_chainLeft_16 rfl (lv_at hl 2 rfl) ?_
  refine k_X7_rides hd (by decide) C0 hK hP (by omega) (v := bI (!decide (S 23 t = -1))) rfl hS hA hl.1 ml_X6_113 ⟨Nat.le_of_ble_eq_true rfl, Nat.le_of_ble_eq_true rfl⟩ ⟨Nat.zero_le _, Nat.zero_le _⟩ (Nat.le_of_ble_eq_true rfl) dX6_chainLeft_17 (fun H locs hP hS => ?_)
  refine lv_if_ne (tgt := 43) C0.1 C0.2.1 dX6_chainLeft_20 (by decide) (fun c_20 => ?_) (fun c_20 => ?_)
  · have c_20 := bI_ne c_20
    refine lv_aload_n C0.1 C0.2.1 dX6_chainLeft_43 rfl (lv_at hl 1 rfl) ?_
    refine g86_chains C0 hK hP (hd.1 _ (by decide)) fl_X6_48 dX6_chainLeft_44 ?_
    refine lv_aload_n C0.1 C0.2.1 dX6_chainLeft_47 rfl (lv_at hl 1 rfl) ?_
    refine g86_bound C0 hK hP (hd.1 _ (by decide)) fl_X6_20 dX6_chainLeft_48 ?_
    refine lv_aload_n C0.1 C0.2.1 dX6_chainLeft_51 rfl (lv_at hl 1 rfl) ?_
    refine g86_travellers C0 hK hP (hd.1 _ (by decide)) fl_X6_32 dX6_chainLeft_52 ?_
    refine g85_punt C0 hK hP (hd.1 _ (by decide)) fl_X6_124 dX6_chainLeft_55 ?_
    refine lv_iload_n C0.1 C0.2.1 dX6_chainLeft_58 rfl (lv_at hl 2 rfl) ?_
    refine k_X5_get (v := S 23 t) 23 (by decide) hd (by decide) (by decide) C0 hK hP (rg_nI (show t < 30 by omega) (by decide)) hS hA hl.1 ml_X6_77 ⟨Nat.le_of_ble_eq_true rfl, Nat.le_of_ble_eq_true rfl⟩ ⟨Nat.zero_le _, Nat.zero_le _⟩ (Nat.le_of_ble_eq_true rfl) dX6_chainLeft_59 (fun H locs hP hS => ?_)
    refine k_X5_get (v := rg (S 17) 6 (S 23 t)) 17 (by decide) hd (by decide) (by decide) C0 hK hP rfl hS hA hl.1 ml_X6_77 ⟨Nat.le_of_ble_eq_true rfl, Nat.le_of_ble_eq_true rfl⟩ ⟨Nat.zero_le _, Nat.zero_le _⟩ (Nat.le_of_ble_eq_true rfl) dX6_chainLeft_62 (fun H locs hP hS => ?_)
    refine lv_iload_n C0.1 C0.2.1 dX6_chainLeft_65 rfl (lv_at hl 0 rfl) ?_
    refine k_X0_length hd (by decide) C0 hK hP  (v := lnI (X 10) (rg (S 17) 6 (S 23 t)) (S 20 t)) rfl hS hA hl.1 ml_X6_119 ⟨Nat.le_of_ble_eq_true rfl, Nat.le_of_ble_eq_true rfl⟩ ⟨Nat.zero_le _, Nat.zero_le _⟩ (Nat.le_of_ble_eq_true rfl) dX6_chainLeft_66 (fun H locs hP hS => ?_)
    refine lv_istore_n (lv' := [(3, .int (lnI (X 10) (rg (S 17) 6 (S 23 t)) (S 20 t))), (2, .int (S 20 t)), (0, .ref (a 86)), (1, .int (nI t))]) C0.1 C0.2.1 dX6_chainLeft_69 rfl hl (by decide) rfl (fun ls hl => ?_)
    refine lv_iload_n C0.1 C0.2.1 dX6_chainLeft_70 rfl (lv_at hl 0 rfl) ?_
    refine lv_iconst (v := (-1)) C0.1 C0.2.1 dX6_chainLeft_71 (by decide) ?_
    refine lv_icmp_ne (tgt := 79) C0.1 C0.2.1 dX6_chainLeft_72 (by decide) (fun c_72 => ?_) (fun c_72 => ?_)
    · refine lv_iload_n C0.1 C0.2.1 dX6_chainLeft_79 rfl (lv_at hl 0 rfl) ?_
      refine lv_iconst (v := 1) C0.1 C0.2.1 dX6_chainLeft_80 (by decide) ?_
      refine lv_iadd C0.1 C0.2.1 dX6_chainLeft_81 ?_
      have hr0 := c_20
      exact retI C0 hr hlk hP hS ⟨by rw [if_neg (by simpa using c_20)]; exact (if_neg c_72).symm, rfl, rfl⟩ dX6_chainLeft_82
    · refine lv_iconst (v := (-1)) C0.1 C0.2.1 dX6_chainLeft_75 (by decide) ?_
      refine lv_goto (tgt := 82) C0.1 C0.2.1 dX6_chainLeft_76 (by decide) ?_
      have hr0 := c_20
      exact retI C0 hr hlk hP hS ⟨by rw [if_neg (by simpa using c_20)]; exact (if_pos c_72).symm, rfl, rfl⟩ dX6_chainLeft_82
  · have c_20 := bI_eq c_20
    refine lv_aload_n C0.1 C0.2.1 dX6_chainLeft_23 rfl (lv_at hl 1 rfl) ?_
    refine g86_chains C0 hK hP (hd.1 _ (by decide)) fl_X6_48 dX6_chainLeft_24 ?_
    refine lv_aload_n C0.1 C0.2.1 dX6_chainLeft_27 rfl (lv_at hl 1 rfl) ?_
    refine g86_travellers C0 hK hP (hd.1 _ (by decide)) fl_X6_32 dX6_chainLeft_28 ?_
    refine g85_landing C0 hK hP (hd.1 _ (by decide)) fl_X6_116 dX6_chainLeft_31 ?_
    refine lv_iload_n C0.1 C0.2.1 dX6_chainLeft_34 rfl (lv_at hl 2 rfl) ?_
    refine k_X5_get (v := S 22 t) 22 (by decide) hd (by decide) (by decide) C0 hK hP (rg_nI (show t < 30 by omega) (by decide)) hS hA hl.1 ml_X6_77 ⟨Nat.le_of_ble_eq_true rfl, Nat.le_of_ble_eq_true rfl⟩ ⟨Nat.zero_le _, Nat.zero_le _⟩ (Nat.le_of_ble_eq_true rfl) dX6_chainLeft_35 (fun H locs hP hS => ?_)
    refine lv_iload_n C0.1 C0.2.1 dX6_chainLeft_38 rfl (lv_at hl 0 rfl) ?_
    refine k_X0_length hd (by decide) C0 hK hP  (v := lnI (X 10) (S 22 t) (S 20 t)) rfl hS hA hl.1 ml_X6_119 ⟨Nat.le_of_ble_eq_true rfl, Nat.le_of_ble_eq_true rfl⟩ ⟨Nat.zero_le _, Nat.zero_le _⟩ (Nat.le_of_ble_eq_true rfl) dX6_chainLeft_39 (fun H locs hP hS => ?_)
    have hr0 := c_20
    exact retI C0 hr hlk hP hS ⟨by rw [if_pos (by simpa using c_20)], rfl, rfl⟩ dX6_chainLeft_42
theorem k_X6_chainLeft {n : List Nat} (hd : Hd n a I) (hsub : ∀ k ∈ nT, k ∈ n) (C0 : CallFix p m c cc nL s args GW own) (hK : KK D cA s) (hP : WP D cA a S X I H) {t : Nat} (ht : t < 30) {v : Int32} (hv : (if S 23 t = -1 then lnI (X 10) (S 22 t) (S 20 t) else if lnI (X 10) (rg (S 17) 6 (S 23 t)) (S 20 t) = -1 then -1 else lnI (X 10) (rg (S 17) 6 (S 23 t)) (S 20 t) + 1) = v) (hS : va_S A0 H0 H locs) (hA : ∀ q, AI a I q → A0 q) (hls : ls.size = nL) {idx : Nat} (hlink : Cond.methodLink own idx yX6_chainLeft ∈ GW) (hR : 3 ≤ R.frames ∧ 66 ≤ R.locals) (hcs : cells ≤ R.cells ∧ slots ≤ R.slots) (hrest : (rest.map fun v => v.category).sum ≤ 8) (hdg : decode cc pc = .ok (.invokevirtual idx, 3)) (kk : ∀ (H1 : Heap) (locs1 : List Loc), WP D cA a S X I H1 → va_S A0 H0 H1 locs1 → W p l e R s m args below meth c H1 locs1 cells slots Q (F0 m (pc + 3) ls (.int v :: rest))) : W p l e R s m args below meth c H locs cells slots Q (F0 m pc ls (.int (nI t) :: .ref (a 86) :: rest)) := by
  subst hv
  exact goI (rV (n := 1) (c_X6_chainLeft l D cA a S X I (hd.sub hsub) t ht) C0 hlink im_X6_chainLeft se_X6_chainLeft in_X6 co_X6_chainLeft ⟨rfl, by decide⟩ hR hK hP (hd.1 _ (hsub _ (by decide))) rfl rfl rfl hls hrest rfl hdg hcs) hS hA (fun r S1 X1 H1 locs1 hp hP1 hS1 => by obtain ⟨rfl, rfl, rfl⟩ := hp; exact kk H1 locs1 hP1 hS1)
set_option maxHeartbeats 4000000 in
set_option maxRecDepth 100000 in
theorem c_X6_goOn (l : Launch) (D : va_G) (cA : ClassId) (a : Adr) (S X : Mem) (I : Nat → Prop) (hd : Hd nT a I) {P : Nat} {L : Nat} {T : Nat} {h : Nat} (hnP : S 82 0 = nI P) (hnT : S 85 0 = nI T) (hT30 : T ≤ 30) (hnH : S 86 0 = nI h) (hh : h < 2 ^ 31) (hC : CacheOk S X P) (hTW : TW S P L) : MI l yX6_goOn cX6_goOn 3 (some .int) 5 121 D cA a S X I [.ref (a 86)] (fun r S1 X1 => r = cameM (FX X) S P T h ∧ S1 = hourM (FX X) S P T h ∧ CacheOk S X1 P ∧ (∀ k, k ≠ 13 → k ≠ 14 → k ≠ 15 → X1 k = X k)) := by
  refine mGo (by decide) (Nat.le_of_ble_eq_true rfl) ?_
  intro p e s m args below meth c ls C0 hr hlk hK hP hS hl hargs
  obtain ⟨H, hHe⟩ : ∃ H, H = s.heap := ⟨_, rfl⟩
  obtain ⟨locs, hlo⟩ : ∃ L : List Loc, L = [] := ⟨_, rfl⟩
  have hP : WP D cA a S X I H := hHe ▸ hP
  have hS : va_S (AI a I) s.heap H locs := by rw [hHe, hlo]; exact hS
  rw [← hHe, ← hlo]
  have hA : ∀ q, AI a I q → AI a I q := fun _ h => h
  have hP6 := hTW.2.1
  refine lv_iconst (v := 0) C0.1 C0.2.1 dX6_goOn_0 (by decide) ?_
  refine lv_istore_n (lv' := [(1, .int 0), (0, .ref (a 86))]) C0.1 C0.2.1 dX6_goOn_1 rfl hl (by decide) rfl (fun ls hl => ?_)
  refine lv_iconst (v := 0) C0.1 C0.2.1 dX6_goOn_2 (by decide) ?_
  refine lv_istore_n (lv' := [(2, .int 0), (1, .int 0), (0, .ref (a 86))]) C0.1 C0.2.1 dX6_goOn_3 rfl hl (by decide) rfl (fun ls hl => ?_)
  have loop4 : ∀ (n : Nat) (i : Nat) (f : Int32), (i ≤ P) → (P + 1 ≤ i + n) → (f = (landM (FX X) S T h i).2) → ∀ (H : Heap) (locs : List Loc) (ls : Array Slot), WP D cA a (landM (FX X) S T h i).1 X I H → va_S (AI a I) s.heap H locs → lv_has ls 3 [(2, .int (nI i)), (1, .int f), (0, .ref (a 86))] → W p l e { frames := 5, cells := 0, slots := 0, locals := 121 } s m args below meth c H locs (0) (0) (MQ below (QpI D cA a I (fun r S1 X1 => r = cameM (FX X) S P T h ∧ S1 = hourM (FX X) S P T h ∧ CacheOk S X1 P ∧ (∀ k, k ≠ 13 → k ≠ 14 → k ≠ 15 → X1 k = X k))) args s 0 0 (AI a I)) (F0 m 4 ls []) := by
    intro n
    induction n with
    | zero => intro i f hi hf hcm; exfalso; omega
    | succ n ih4 =>
      intro i f hi hf hcm H locs ls hP hS hl
      refine lv_iload_n C0.1 C0.2.1 dX6_goOn_4 rfl (lv_at hl 0 rfl) ?_
      refine lv_aload_n C0.1 C0.2.1 dX6_goOn_5 rfl (lv_at hl 2 rfl) ?_
      refine g86_fleet C0 hK hP (hd.1 _ (by decide)) fl_X6_44 dX6_goOn_6 ?_
      refine g82_number (v := nI P) C0 hK hP (hd.1 _ (by decide)) fl_X6_103 ((congrFun (landM_sta (FX X) S T h i 82 (by omega)) 0).trans hnP) dX6_goOn_9 ?_
      refine lv_icmp_ge (tgt := 37) C0.1 C0.2.1 dX6_goOn_12 (by decide) (fun c_12 => ?_) (fun c_12 => ?_)
      · have hge : P ≤ i := (nI_leI (by omega) (by omega)).mp c_12
        refine lv_iconst (v := 0) C0.1 C0.2.1 dX6_goOn_37 (by decide) ?_
        refine lv_istore_n (lv' := [(2, .int 0), (1, .int f), (0, .ref (a 86))]) C0.1 C0.2.1 dX6_goOn_38 rfl hl (by decide) rfl (fun ls hl => ?_)
        have loop39 : ∀ (n : Nat) (q : Nat) (Xv : Mem), (q ≤ P) → (P + 1 ≤ q + n) → (CacheOk S Xv P) → (∀ k, k ≠ 13 → k ≠ 14 → k ≠ 15 → Xv k = X k) → ∀ (H : Heap) (locs : List Loc) (ls : Array Slot), WP D cA a (stepsM (landM (FX X) S T h P).1 h q) Xv I H → va_S (AI a I) s.heap H locs → lv_has ls 3 [(2, .int (nI q)), (1, .int ((landM (FX X) S T h P).2)), (0, .ref (a 86))] → W p l e { frames := 5, cells := 0, slots := 0, locals := 121 } s m args below meth c H locs (0) (0) (MQ below (QpI D cA a I (fun r S1 X1 => r = cameM (FX X) S P T h ∧ S1 = hourM (FX X) S P T h ∧ CacheOk S X1 P ∧ (∀ k, k ≠ 13 → k ≠ 14 → k ≠ 15 → X1 k = X k))) args s 0 0 (AI a I)) (F0 m 39 ls []) := by
          intro n
          induction n with
          | zero => intro q Xv hiq hfq hCi hXf; exfalso; omega
          | succ n ih39 =>
            intro q Xv hiq hfq hCi hXf H locs ls hP hS hl
            refine lv_iload_n C0.1 C0.2.1 dX6_goOn_39 rfl (lv_at hl 0 rfl) ?_
            refine lv_aload_n C0.1 C0.2.1 dX6_goOn_40 rfl (lv_at hl 2 rfl) ?_
            refine g86_fleet C0 hK hP (hd.1 _ (by decide)) fl_X6_44 dX6_goOn_41 ?_
            refine g82_number (v := nI P) C0 hK hP (hd.1 _ (by decide)) fl_X6_103 ((congrFun (stepsM_sta _ h q 82 (by omega)) 0).trans ((congrFun (landM_sta (FX X) S T h P 82 (by omega)) 0).trans hnP)) dX6_goOn_44 ?_
            refine lv_icmp_ge (tgt := 61) C0.1 C0.2.1 dX6_goOn_47 (by decide) (fun c_47 => ?_) (fun c_47 => ?_)
            · have hgeq : P ≤ q := (nI_leI (by omega) (by omega)).mp c_47
              refine lv_aload_n C0.1 C0.2.1 dX6_goOn_61 rfl (lv_at hl 2 rfl) ?_
              refine lv_dup C0.1 C0.2.1 dX6_goOn_62 rfl ?_
              refine g86_hour (v := nI h) C0 hK hP (hd.1 _ (by decide)) fl_X6_56 ((congrFun (stepsM_86 _ h q) 0).trans ((congrFun (landM_86 (FX X) S T h P) 0).trans hnH)) dX6_goOn_63 ?_
              refine lv_iconst (v := 1) C0.1 C0.2.1 dX6_goOn_66 (by decide) ?_
              refine lv_iadd C0.1 C0.2.1 dX6_goOn_67 ?_
              refine p86_hour (x := ((nI h) + 1)) C0 hK hP hS hA (hd.1 _ (by decide)) hd.2.2 fl_X6_56 dX6_goOn_68 (fun H locs hP hS => ?_)
              have hP : WP D cA a (up (stepsM (landM (FX X) S T h P).1 h q) 86 (fun _ => (nI h) + 1)) Xv I H := hP
              refine lv_iload_n C0.1 C0.2.1 dX6_goOn_71 rfl (lv_at hl 1 rfl) ?_
              have hqP : q = P := by omega
              exact retI C0 hr hlk hP hS ⟨rfl, by rw [hqP, nI_1]; rfl, hCi, hXf⟩ dX6_goOn_72
            · have hltq : q < P := Nat.not_le.mp fun q => c_47 (nI_le q (by omega))
              refine lv_aload_n C0.1 C0.2.1 dX6_goOn_50 rfl (lv_at hl 2 rfl) ?_
              refine lv_iload_n C0.1 C0.2.1 dX6_goOn_51 rfl (lv_at hl 0 rfl) ?_
              refine k_X6_stepOn hd (by decide) C0 hK hP (hCi.sta ((landM_sta (FX X) S T h P).tr (stepsM_sta _ h q))) (stepsM_TW (landM_TW hTW P) q hiq) hltq ((congrFun (stepsM_86 _ h q) 0).trans ((congrFun (landM_86 (FX X) S T h P) 0).trans hnH)) hh hS hA hl.1 ml_X6_133 ⟨Nat.le_of_ble_eq_true rfl, Nat.le_of_ble_eq_true rfl⟩ ⟨Nat.zero_le _, Nat.zero_le _⟩ (Nat.le_of_ble_eq_true rfl) dX6_goOn_52 (fun S_2 X_3 H locs hx_1 hP hS => ?_)
              obtain ⟨rfl, hCs, hXs⟩ := hx_1
              refine lv_iinc (v := nI (q + 1)) (lv' := [(2, .int (nI (q + 1))), (1, .int ((landM (FX X) S T h P).2)), (0, .ref (a 86))]) C0.1 C0.2.1 dX6_goOn_55 hl (k := 0) rfl (nI_1 _) (by decide) rfl (fun ls hl => ?_)
              refine lv_goto (tgt := 39) C0.1 C0.2.1 dX6_goOn_58 (by decide) ?_
              have hC2 : CacheOk S X_3 P := hCs.sta (fun k hk => ((((landM_sta (FX X) S T h P).tr (stepsM_sta _ h q)) k hk)).symm)
              exact ih39 (q + 1) X_3 (by omega) (by omega) hC2 (fun k a1 a2 a3 => (hXs k a1 a2 a3).trans (hXf k a1 a2 a3)) _ _ _ hP hS (lv_sub hl [0, 1, 2] rfl)
        have hP : WP D cA a (stepsM (landM (FX X) S T h P).1 h 0) X I H := by rw [show i = P by omega] at hP; exact hP
        rw [show i = P by omega] at hcm
        subst hcm
        exact loop39 (P + 1) 0 X (by omega) (by omega) hC (fun _ _ _ _ => rfl) _ _ _ hP hS (lv_sub hl [0, 1, 2] rfl)
      · have hlt : i < P := Nat.not_le.mp fun q => c_12 (nI_le q (by omega))
        refine lv_aload_n C0.1 C0.2.1 dX6_goOn_15 rfl (lv_at hl 2 rfl) ?_
        refine lv_iload_n C0.1 C0.2.1 dX6_goOn_16 rfl (lv_at hl 0 rfl) ?_
        refine k_X6_hasLanded hd (by decide) C0 hK hP (by omega) (v := bI (lndM (landM (FX X) S T h i).1 i)) rfl hS hA hl.1 ml_X6_127 ⟨Nat.le_of_ble_eq_true rfl, Nat.le_of_ble_eq_true rfl⟩ ⟨Nat.zero_le _, Nat.zero_le _⟩ (Nat.le_of_ble_eq_true rfl) dX6_goOn_17 (fun H locs hP hS => ?_)
        refine lv_if_eq (tgt := 31) C0.1 C0.2.1 dX6_goOn_20 (by decide) (fun c_20 => ?_) (fun c_20 => ?_)
        · have c_20 := bI_eq c_20
          refine lv_iinc (v := nI (i + 1)) (lv' := [(2, .int (nI (i + 1))), (1, .int f), (0, .ref (a 86))]) C0.1 C0.2.1 dX6_goOn_31 hl (k := 0) rfl (nI_1 _) (by decide) rfl (fun ls hl => ?_)
          refine lv_goto (tgt := 4) C0.1 C0.2.1 dX6_goOn_34 (by decide) ?_
          have hP : WP D cA a (landM (FX X) S T h (i + 1)).1 X I H := by rw [show landM (FX X) S T h (i + 1) = _ from if_neg (by rw [c_20]; exact Bool.false_ne_true)]; exact hP
          exact ih4 (i + 1) _ (by omega) (by omega) (by rw [show landM (FX X) S T h (i + 1) = _ from if_neg (by rw [c_20]; exact Bool.false_ne_true), hcm]) _ _ _ hP hS (lv_sub hl [0, 1, 2] rfl)
        · have c_20 := bI_ne c_20
          have hTi := landM_TW (F := FX X) (T := T) (h := h) hTW i
          obtain ⟨r, hr6, hr8⟩ := hTi.2.2.2.2.2.1 i hlt
          refine lv_iload_n C0.1 C0.2.1 dX6_goOn_23 rfl (lv_at hl 1 rfl) ?_
          refine lv_aload_n C0.1 C0.2.1 dX6_goOn_24 rfl (lv_at hl 2 rfl) ?_
          refine lv_iload_n C0.1 C0.2.1 dX6_goOn_25 rfl (lv_at hl 0 rfl) ?_
          refine k_X6_turnRound hd (by decide) C0 hK hP (by omega) ((congrFun (landM_sta (FX X) S T h i 85 (by omega)) 0).trans hnT) hT30 ((congrFun (landM_86 (FX X) S T h i) 0).trans hnH) hh hr8 hr6 (v := outN (landM (FX X) S T h i).1 (nI i) (((landM (FX X) S T h i).1 17) i) T) rfl hS hA hl.1 ml_X6_130 ⟨Nat.le_of_ble_eq_true rfl, Nat.le_of_ble_eq_true rfl⟩ ⟨Nat.zero_le _, Nat.zero_le _⟩ (Nat.le_of_ble_eq_true rfl) dX6_goOn_26 (fun H locs hP hS => ?_)
          have hP : WP D cA a (turnM (FX X) (landM (FX X) S T h i).1 i T h) X I H := hP
          refine lv_iadd C0.1 C0.2.1 dX6_goOn_29 ?_
          refine lv_istore_n (lv' := [(1, .int (f + (outN (landM (FX X) S T h i).1 (nI i) (((landM (FX X) S T h i).1 17) i) T))), (2, .int (nI i)), (0, .ref (a 86))]) C0.1 C0.2.1 dX6_goOn_30 rfl hl (by decide) rfl (fun ls hl => ?_)
          refine lv_iinc (v := nI (i + 1)) (lv' := [(2, .int (nI (i + 1))), (1, .int (f + (outN (landM (FX X) S T h i).1 (nI i) (((landM (FX X) S T h i).1 17) i) T))), (0, .ref (a 86))]) C0.1 C0.2.1 dX6_goOn_31 hl (k := 1) rfl (nI_1 _) (by decide) rfl (fun ls hl => ?_)
          refine lv_goto (tgt := 4) C0.1 C0.2.1 dX6_goOn_34 (by decide) ?_
          have hP : WP D cA a (landM (FX X) S T h (i + 1)).1 X I H := by rw [show landM (FX X) S T h (i + 1) = _ from if_pos c_20]; exact hP
          exact ih4 (i + 1) _ (by omega) (by omega) (by rw [show landM (FX X) S T h (i + 1) = _ from if_pos c_20, hcm]) _ _ _ hP hS (lv_sub hl [0, 1, 2] rfl)
  have hP : WP D cA a (landM (FX X) S T h 0).1 X I H := hP
  exact loop4 (P + 1) 0 0 (by omega) (by omega) rfl _ _ _ hP hS (lv_sub hl [0, 1, 2] rfl)
theorem k_X6_goOn {n : List Nat} (hd : Hd n a I) (hsub : ∀ k ∈ nT, k ∈ n) (C0 : CallFix p m c cc nL s args GW own) (hK : KK D cA s) (hP : WP D cA a S X I H) {P : Nat} {L : Nat} {T : Nat} {h : Nat} (hnP : S 82 0 = nI P) (hnT : S 85 0 = nI T) (hT30 : T ≤ 30) (hnH : S 86 0 = nI h) (hh : h < 2 ^ 31) (hC : CacheOk S X P) (hTW : TW S P L) (hS : va_S A0 H0 H locs) (hA : ∀ q, AI a I q → A0 q) (hls : ls.size = nL) {idx : Nat} (hlink : Cond.methodLink own idx yX6_goOn ∈ GW) (hR : 6 ≤ R.frames ∧ 143 ≤ R.locals) (hcs : cells ≤ R.cells ∧ slots ≤ R.slots) (hrest : (rest.map fun v => v.category).sum ≤ 8) (hdg : decode cc pc = .ok (.invokevirtual idx, 3)) (kk : ∀ (v : Int32) (S1 X1 : Mem) (H1 : Heap) (locs1 : List Loc), (fun r S1 X1 => r = cameM (FX X) S P T h ∧ S1 = hourM (FX X) S P T h ∧ CacheOk S X1 P ∧ (∀ k, k ≠ 13 → k ≠ 14 → k ≠ 15 → X1 k = X k)) v S1 X1 → WP D cA a S1 X1 I H1 → va_S A0 H0 H1 locs1 → W p l e R s m args below meth c H1 locs1 cells slots Q (F0 m (pc + 3) ls (.int v :: rest))) : W p l e R s m args below meth c H locs cells slots Q (F0 m pc ls (.ref (a 86) :: rest)) := by
  exact goI (rV (n := 0) (c_X6_goOn l D cA a S X I (hd.sub hsub)  hnP hnT hT30 hnH hh hC hTW) C0 hlink im_X6_goOn se_X6_goOn in_X6 co_X6_goOn ⟨rfl, by decide⟩ hR hK hP (hd.1 _ (hsub _ (by decide))) rfl rfl rfl hls hrest rfl hdg hcs) hS hA kk
end CLS
