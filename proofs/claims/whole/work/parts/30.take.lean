section CLS
variable {p : Program} {l : Launch} {e : Env} {R : Room} {s : State} {m : MethodId} {args : Array Value} {below : List Frame} {meth : Method} {c : Code} {H : Heap} {locs : List Loc} {cells slots : Nat} {Q : State → Prop}
variable {cc : ByteArray} {nL : Nat} {own : String} {pc : Nat} {ls : Array Slot} {rest : List Value} {D : va_G} {cA : ClassId} {a : Adr} {S X : Mem} {I : Nat → Prop} {H0 : Heap} {A0 : Nat → Prop}
set_option maxHeartbeats 4000000 in
set_option maxRecDepth 100000 in
theorem c_X7_takeOver (l : Launch) (D : va_G) (cA : ClassId) (a : Adr) (S X : Mem) (I : Nat → Prop) (hd : Hd nE a I) : MV l yX7_takeOver cX7_takeOver 2 none 2 43 D cA a S X I [.ref (a 85), .ref (a 87)] (fun S1 X1 => S1 = (up (up (up (up (up (up S 85 (fun _ => X 87 0)) 20 (tk (S 20) (X 29) 30)) 21 (tk (S 21) (X 30) 30)) 22 (tk (S 22) (X 31) 30)) 23 (tk (S 23) (X 32) 30)) 24 (tk (S 24) (X 33) 30)) ∧ X1 = X) := by
  refine mGo (by decide) (Nat.le_of_ble_eq_true rfl) ?_
  intro p e s m args below meth c ls C0 hr hlk hK hP hS hl hargs
  obtain ⟨H, hHe⟩ : ∃ H, H = s.heap := ⟨_, rfl⟩
  obtain ⟨locs, hlo⟩ : ∃ L : List Loc, L = [] := ⟨_, rfl⟩
  have hP : WP D cA a S X I H := hHe ▸ hP
  have hS : va_S (AI a I) s.heap H locs := by rw [hHe, hlo]; exact hS
  rw [← hHe, ← hlo]
  have hA : ∀ q, AI a I q → AI a I q := fun _ h => h
  refine lv_aload_n C0.1 C0.2.1 dX7_takeOver_0 rfl (lv_at hl 0 rfl) ?_
  refine lv_aload_n C0.1 C0.2.1 dX7_takeOver_1 rfl (lv_at hl 1 rfl) ?_
  refine g87_number (v := X 87 0) C0 hK hP (hd.1 _ (by decide)) fl_X7_32 rfl dX7_takeOver_2 ?_
  refine p85_number (x := (X 87 0)) C0 hK hP hS hA (hd.1 _ (by decide)) hd.2.2 fl_X7_32 dX7_takeOver_5 (fun H locs hP hS => ?_)
  have hP : WP D cA a (up S 85 (fun _ => X 87 0)) X I H := hP
  refine lv_aload_n C0.1 C0.2.1 dX7_takeOver_8 rfl (lv_at hl 0 rfl) ?_
  refine g85_wish C0 hK hP (hd.1 _ (by decide)) fl_X7_14 dX7_takeOver_9 ?_
  refine lv_aload_n C0.1 C0.2.1 dX7_takeOver_12 rfl (lv_at hl 1 rfl) ?_
  refine g87_wish C0 hK hP (hd.1 _ (by decide)) fl_X7_14 dX7_takeOver_13 ?_
  refine k_X5_takeOver 20 29 (by decide) (by decide) (by decide) rfl hd (by decide) (by decide) (by decide) (by decide) C0 hK hP hS hA hl.1 ml_X7_36 ⟨Nat.le_of_ble_eq_true rfl, Nat.le_of_ble_eq_true rfl⟩ ⟨Nat.zero_le _, Nat.zero_le _⟩ (Nat.le_of_ble_eq_true rfl) dX7_takeOver_16 (fun H locs hP hS => ?_)
  have hP : WP D cA a (up (up S 85 (fun _ => X 87 0)) 20 (tk (S 20) (X 29) 30)) X I H := hP
  refine lv_aload_n C0.1 C0.2.1 dX7_takeOver_19 rfl (lv_at hl 0 rfl) ?_
  refine g85_purse C0 hK hP (hd.1 _ (by decide)) fl_X7_20 dX7_takeOver_20 ?_
  refine lv_aload_n C0.1 C0.2.1 dX7_takeOver_23 rfl (lv_at hl 1 rfl) ?_
  refine g87_purse C0 hK hP (hd.1 _ (by decide)) fl_X7_20 dX7_takeOver_24 ?_
  refine k_X5_takeOver 21 30 (by decide) (by decide) (by decide) rfl hd (by decide) (by decide) (by decide) (by decide) C0 hK hP hS hA hl.1 ml_X7_36 ⟨Nat.le_of_ble_eq_true rfl, Nat.le_of_ble_eq_true rfl⟩ ⟨Nat.zero_le _, Nat.zero_le _⟩ (Nat.le_of_ble_eq_true rfl) dX7_takeOver_27 (fun H locs hP hS => ?_)
  have hP : WP D cA a (up (up (up S 85 (fun _ => X 87 0)) 20 (tk (S 20) (X 29) 30)) 21 (tk (S 21) (X 30) 30)) X I H := hP
  refine lv_aload_n C0.1 C0.2.1 dX7_takeOver_30 rfl (lv_at hl 0 rfl) ?_
  refine g85_landing C0 hK hP (hd.1 _ (by decide)) fl_X7_23 dX7_takeOver_31 ?_
  refine lv_aload_n C0.1 C0.2.1 dX7_takeOver_34 rfl (lv_at hl 1 rfl) ?_
  refine g87_landing C0 hK hP (hd.1 _ (by decide)) fl_X7_23 dX7_takeOver_35 ?_
  refine k_X5_takeOver 22 31 (by decide) (by decide) (by decide) rfl hd (by decide) (by decide) (by decide) (by decide) C0 hK hP hS hA hl.1 ml_X7_36 ⟨Nat.le_of_ble_eq_true rfl, Nat.le_of_ble_eq_true rfl⟩ ⟨Nat.zero_le _, Nat.zero_le _⟩ (Nat.le_of_ble_eq_true rfl) dX7_takeOver_38 (fun H locs hP hS => ?_)
  have hP : WP D cA a (up (up (up (up S 85 (fun _ => X 87 0)) 20 (tk (S 20) (X 29) 30)) 21 (tk (S 21) (X 30) 30)) 22 (tk (S 22) (X 31) 30)) X I H := hP
  refine lv_aload_n C0.1 C0.2.1 dX7_takeOver_41 rfl (lv_at hl 0 rfl) ?_
  refine g85_punt C0 hK hP (hd.1 _ (by decide)) fl_X7_26 dX7_takeOver_42 ?_
  refine lv_aload_n C0.1 C0.2.1 dX7_takeOver_45 rfl (lv_at hl 1 rfl) ?_
  refine g87_punt C0 hK hP (hd.1 _ (by decide)) fl_X7_26 dX7_takeOver_46 ?_
  refine k_X5_takeOver 23 32 (by decide) (by decide) (by decide) rfl hd (by decide) (by decide) (by decide) (by decide) C0 hK hP hS hA hl.1 ml_X7_36 ⟨Nat.le_of_ble_eq_true rfl, Nat.le_of_ble_eq_true rfl⟩ ⟨Nat.zero_le _, Nat.zero_le _⟩ (Nat.le_of_ble_eq_true rfl) dX7_takeOver_49 (fun H locs hP hS => ?_)
  have hP : WP D cA a (up (up (up (up (up S 85 (fun _ => X 87 0)) 20 (tk (S 20) (X 29) 30)) 21 (tk (S 21) (X 30) 30)) 22 (tk (S 22) (X 31) 30)) 23 (tk (S 23) (X 32) 30)) X I H := hP
  refine lv_aload_n C0.1 C0.2.1 dX7_takeOver_52 rfl (lv_at hl 0 rfl) ?_
  refine g85_cameAt C0 hK hP (hd.1 _ (by decide)) fl_X7_29 dX7_takeOver_53 ?_
  refine lv_aload_n C0.1 C0.2.1 dX7_takeOver_56 rfl (lv_at hl 1 rfl) ?_
  refine g87_cameAt C0 hK hP (hd.1 _ (by decide)) fl_X7_29 dX7_takeOver_57 ?_
  refine k_X5_takeOver 24 33 (by decide) (by decide) (by decide) rfl hd (by decide) (by decide) (by decide) (by decide) C0 hK hP hS hA hl.1 ml_X7_36 ⟨Nat.le_of_ble_eq_true rfl, Nat.le_of_ble_eq_true rfl⟩ ⟨Nat.zero_le _, Nat.zero_le _⟩ (Nat.le_of_ble_eq_true rfl) dX7_takeOver_60 (fun H locs hP hS => ?_)
  have hP : WP D cA a (up (up (up (up (up (up S 85 (fun _ => X 87 0)) 20 (tk (S 20) (X 29) 30)) 21 (tk (S 21) (X 30) 30)) 22 (tk (S 22) (X 31) 30)) 23 (tk (S 23) (X 32) 30)) 24 (tk (S 24) (X 33) 30)) X I H := hP
  exact retV C0 hr hlk hP hS ⟨rfl, rfl⟩ dX7_takeOver_63
theorem k_X7_takeOver {n : List Nat} (hd : Hd n a I) (hsub : ∀ k ∈ nE, k ∈ n) (C0 : CallFix p m c cc nL s args GW own) (hK : KK D cA s) (hP : WP D cA a S X I H) (hS : va_S A0 H0 H locs) (hA : ∀ q, AI a I q → A0 q) (hls : ls.size = nL) {idx : Nat} (hlink : Cond.methodLink own idx yX7_takeOver ∈ GW) (hR : 3 ≤ R.frames ∧ 64 ≤ R.locals) (hcs : cells ≤ R.cells ∧ slots ≤ R.slots) (hrest : (rest.map fun v => v.category).sum ≤ 8) (hdg : decode cc pc = .ok (.invokevirtual idx, 3)) (kk : ∀ (H1 : Heap) (locs1 : List Loc), WP D cA a (up (up (up (up (up (up S 85 (fun _ => X 87 0)) 20 (tk (S 20) (X 29) 30)) 21 (tk (S 21) (X 30) 30)) 22 (tk (S 22) (X 31) 30)) 23 (tk (S 23) (X 32) 30)) 24 (tk (S 24) (X 33) 30)) X I H1 → va_S A0 H0 H1 locs1 → W p l e R s m args below meth c H1 locs1 cells slots Q (F0 m (pc + 3) ls rest)) : W p l e R s m args below meth c H locs cells slots Q (F0 m pc ls (.ref (a 87) :: .ref (a 85) :: rest)) := by
  exact goV (rV (n := 1) (c_X7_takeOver l D cA a S X I (hd.sub hsub)  ) C0 hlink im_X7_takeOver se_X7_takeOver in_X7 co_X7_takeOver ⟨rfl, by decide⟩ hR hK hP (hd.1 _ (hsub _ (by decide))) rfl rfl rfl hls hrest rfl hdg hcs) hS hA (fun S1 X1 H1 locs1 hp hP1 hS1 => by obtain ⟨rfl, rfl⟩ := hp; exact kk H1 locs1 hP1 hS1)
set_option maxHeartbeats 4000000 in
set_option maxRecDepth 100000 in
theorem c_X6_takeOver (l : Launch) (D : va_G) (cA : ClassId) (a : Adr) (S X : Mem) (I : Nat → Prop) (hd : Hd nE a I) : MV l yX6_takeOver cX6_takeOver 2 none 3 64 D cA a S X I [.ref (a 86), .ref (a 88)] (fun S1 X1 => S1 = (up (up (up (up (up (up (up (up (up (up (up S 86 (fun _ => X 88 0)) 16 (tk (S 16) (X 25) 6)) 17 (tk (S 17) (X 26) 6)) 18 (tk (S 18) (X 27) 6)) 19 (tk (S 19) (X 28) 6)) 85 (fun _ => X 87 0)) 20 (tk (S 20) (X 29) 30)) 21 (tk (S 21) (X 30) 30)) 22 (tk (S 22) (X 31) 30)) 23 (tk (S 23) (X 32) 30)) 24 (tk (S 24) (X 33) 30)) ∧ X1 = X) := by
  refine mGo (by decide) (Nat.le_of_ble_eq_true rfl) ?_
  intro p e s m args below meth c ls C0 hr hlk hK hP hS hl hargs
  obtain ⟨H, hHe⟩ : ∃ H, H = s.heap := ⟨_, rfl⟩
  obtain ⟨locs, hlo⟩ : ∃ L : List Loc, L = [] := ⟨_, rfl⟩
  have hP : WP D cA a S X I H := hHe ▸ hP
  have hS : va_S (AI a I) s.heap H locs := by rw [hHe, hlo]; exact hS
  rw [← hHe, ← hlo]
  have hA : ∀ q, AI a I q → AI a I q := fun _ h => h
  refine lv_aload_n C0.1 C0.2.1 dX6_takeOver_0 rfl (lv_at hl 0 rfl) ?_
  refine lv_aload_n C0.1 C0.2.1 dX6_takeOver_1 rfl (lv_at hl 1 rfl) ?_
  refine g88_hour (v := X 88 0) C0 hK hP (hd.1 _ (by decide)) fl_X6_56 rfl dX6_takeOver_2 ?_
  refine p86_hour (x := (X 88 0)) C0 hK hP hS hA (hd.1 _ (by decide)) hd.2.2 fl_X6_56 dX6_takeOver_5 (fun H locs hP hS => ?_)
  have hP : WP D cA a (up S 86 (fun _ => X 88 0)) X I H := hP
  refine lv_aload_n C0.1 C0.2.1 dX6_takeOver_8 rfl (lv_at hl 0 rfl) ?_
  refine g86_cell C0 hK hP (hd.1 _ (by decide)) fl_X6_14 dX6_takeOver_9 ?_
  refine lv_aload_n C0.1 C0.2.1 dX6_takeOver_12 rfl (lv_at hl 1 rfl) ?_
  refine g88_cell C0 hK hP (hd.1 _ (by decide)) fl_X6_14 dX6_takeOver_13 ?_
  refine k_X5_takeOver 16 25 (by decide) (by decide) (by decide) rfl hd (by decide) (by decide) (by decide) (by decide) C0 hK hP hS hA hl.1 ml_X6_60 ⟨Nat.le_of_ble_eq_true rfl, Nat.le_of_ble_eq_true rfl⟩ ⟨Nat.zero_le _, Nat.zero_le _⟩ (Nat.le_of_ble_eq_true rfl) dX6_takeOver_16 (fun H locs hP hS => ?_)
  have hP : WP D cA a (up (up S 86 (fun _ => X 88 0)) 16 (tk (S 16) (X 25) 6)) X I H := hP
  refine lv_aload_n C0.1 C0.2.1 dX6_takeOver_19 rfl (lv_at hl 0 rfl) ?_
  refine g86_bound C0 hK hP (hd.1 _ (by decide)) fl_X6_20 dX6_takeOver_20 ?_
  refine lv_aload_n C0.1 C0.2.1 dX6_takeOver_23 rfl (lv_at hl 1 rfl) ?_
  refine g88_bound C0 hK hP (hd.1 _ (by decide)) fl_X6_20 dX6_takeOver_24 ?_
  refine k_X5_takeOver 17 26 (by decide) (by decide) (by decide) rfl hd (by decide) (by decide) (by decide) (by decide) C0 hK hP hS hA hl.1 ml_X6_60 ⟨Nat.le_of_ble_eq_true rfl, Nat.le_of_ble_eq_true rfl⟩ ⟨Nat.zero_le _, Nat.zero_le _⟩ (Nat.le_of_ble_eq_true rfl) dX6_takeOver_27 (fun H locs hP hS => ?_)
  have hP : WP D cA a (up (up (up S 86 (fun _ => X 88 0)) 16 (tk (S 16) (X 25) 6)) 17 (tk (S 17) (X 26) 6)) X I H := hP
  refine lv_aload_n C0.1 C0.2.1 dX6_takeOver_30 rfl (lv_at hl 0 rfl) ?_
  refine g86_takings C0 hK hP (hd.1 _ (by decide)) fl_X6_23 dX6_takeOver_31 ?_
  refine lv_aload_n C0.1 C0.2.1 dX6_takeOver_34 rfl (lv_at hl 1 rfl) ?_
  refine g88_takings C0 hK hP (hd.1 _ (by decide)) fl_X6_23 dX6_takeOver_35 ?_
  refine k_X5_takeOver 18 27 (by decide) (by decide) (by decide) rfl hd (by decide) (by decide) (by decide) (by decide) C0 hK hP hS hA hl.1 ml_X6_60 ⟨Nat.le_of_ble_eq_true rfl, Nat.le_of_ble_eq_true rfl⟩ ⟨Nat.zero_le _, Nat.zero_le _⟩ (Nat.le_of_ble_eq_true rfl) dX6_takeOver_38 (fun H locs hP hS => ?_)
  have hP : WP D cA a (up (up (up (up S 86 (fun _ => X 88 0)) 16 (tk (S 16) (X 25) 6)) 17 (tk (S 17) (X 26) 6)) 18 (tk (S 18) (X 27) 6)) X I H := hP
  refine lv_aload_n C0.1 C0.2.1 dX6_takeOver_41 rfl (lv_at hl 0 rfl) ?_
  refine g86_steps C0 hK hP (hd.1 _ (by decide)) fl_X6_26 dX6_takeOver_42 ?_
  refine lv_aload_n C0.1 C0.2.1 dX6_takeOver_45 rfl (lv_at hl 1 rfl) ?_
  refine g88_steps C0 hK hP (hd.1 _ (by decide)) fl_X6_26 dX6_takeOver_46 ?_
  refine k_X5_takeOver 19 28 (by decide) (by decide) (by decide) rfl hd (by decide) (by decide) (by decide) (by decide) C0 hK hP hS hA hl.1 ml_X6_60 ⟨Nat.le_of_ble_eq_true rfl, Nat.le_of_ble_eq_true rfl⟩ ⟨Nat.zero_le _, Nat.zero_le _⟩ (Nat.le_of_ble_eq_true rfl) dX6_takeOver_49 (fun H locs hP hS => ?_)
  have hP : WP D cA a (up (up (up (up (up S 86 (fun _ => X 88 0)) 16 (tk (S 16) (X 25) 6)) 17 (tk (S 17) (X 26) 6)) 18 (tk (S 18) (X 27) 6)) 19 (tk (S 19) (X 28) 6)) X I H := hP
  refine lv_aload_n C0.1 C0.2.1 dX6_takeOver_52 rfl (lv_at hl 0 rfl) ?_
  refine g86_travellers C0 hK hP (hd.1 _ (by decide)) fl_X6_32 dX6_takeOver_53 ?_
  refine lv_aload_n C0.1 C0.2.1 dX6_takeOver_56 rfl (lv_at hl 1 rfl) ?_
  refine g88_travellers C0 hK hP (hd.1 _ (by decide)) fl_X6_32 dX6_takeOver_57 ?_
  refine k_X7_takeOver hd sId C0 hK hP  hS hA hl.1 ml_X6_64 ⟨Nat.le_of_ble_eq_true rfl, Nat.le_of_ble_eq_true rfl⟩ ⟨Nat.zero_le _, Nat.zero_le _⟩ (Nat.le_of_ble_eq_true rfl) dX6_takeOver_60 (fun H locs hP hS => ?_)
  have hP : WP D cA a (up (up (up (up (up (up (up (up (up (up (up S 86 (fun _ => X 88 0)) 16 (tk (S 16) (X 25) 6)) 17 (tk (S 17) (X 26) 6)) 18 (tk (S 18) (X 27) 6)) 19 (tk (S 19) (X 28) 6)) 85 (fun _ => X 87 0)) 20 (tk (S 20) (X 29) 30)) 21 (tk (S 21) (X 30) 30)) 22 (tk (S 22) (X 31) 30)) 23 (tk (S 23) (X 32) 30)) 24 (tk (S 24) (X 33) 30)) X I H := hP
  exact retV C0 hr hlk hP hS ⟨rfl, rfl⟩ dX6_takeOver_63
theorem k_X6_takeOver {n : List Nat} (hd : Hd n a I) (hsub : ∀ k ∈ nE, k ∈ n) (C0 : CallFix p m c cc nL s args GW own) (hK : KK D cA s) (hP : WP D cA a S X I H) (hS : va_S A0 H0 H locs) (hA : ∀ q, AI a I q → A0 q) (hls : ls.size = nL) {idx : Nat} (hlink : Cond.methodLink own idx yX6_takeOver ∈ GW) (hR : 4 ≤ R.frames ∧ 85 ≤ R.locals) (hcs : cells ≤ R.cells ∧ slots ≤ R.slots) (hrest : (rest.map fun v => v.category).sum ≤ 8) (hdg : decode cc pc = .ok (.invokevirtual idx, 3)) (kk : ∀ (H1 : Heap) (locs1 : List Loc), WP D cA a (up (up (up (up (up (up (up (up (up (up (up S 86 (fun _ => X 88 0)) 16 (tk (S 16) (X 25) 6)) 17 (tk (S 17) (X 26) 6)) 18 (tk (S 18) (X 27) 6)) 19 (tk (S 19) (X 28) 6)) 85 (fun _ => X 87 0)) 20 (tk (S 20) (X 29) 30)) 21 (tk (S 21) (X 30) 30)) 22 (tk (S 22) (X 31) 30)) 23 (tk (S 23) (X 32) 30)) 24 (tk (S 24) (X 33) 30)) X I H1 → va_S A0 H0 H1 locs1 → W p l e R s m args below meth c H1 locs1 cells slots Q (F0 m (pc + 3) ls rest)) : W p l e R s m args below meth c H locs cells slots Q (F0 m pc ls (.ref (a 88) :: .ref (a 86) :: rest)) := by
  exact goV (rV (n := 1) (c_X6_takeOver l D cA a S X I (hd.sub hsub)  ) C0 hlink im_X6_takeOver se_X6_takeOver in_X6 co_X6_takeOver ⟨rfl, by decide⟩ hR hK hP (hd.1 _ (hsub _ (by decide))) rfl rfl rfl hls hrest rfl hdg hcs) hS hA (fun S1 X1 H1 locs1 hp hP1 hS1 => by obtain ⟨rfl, rfl⟩ := hp; exact kk H1 locs1 hP1 hS1)
end CLS
