/-! WHAT THE REFERENCE TELLS. -/
def lnA (S : Mem) (x q : Nat) (t : Nat) : Bool := decide (S 22 t = nI x) && decide (bI (!decide (S 24 t = -1)) = if q = 3 then 1 else 0)
theorem lnA_2 (S : Mem) (x T : Nat) : nI (cnt (lnA S x 2) T) = nI (cnt (fun t => decide (S 22 t = nI x) && decide (S 24 t = -1)) T) := congrArg nI (cnt_congr fun j _ => by
  unfold lnA
  rw [if_neg (by omega)]
  by_cases h : S 24 j = -1 <;> simp [h, bI])
theorem lnA_3 (S : Mem) (x T : Nat) : nI (cnt (lnA S x 3) T) = nI (cnt (fun t => decide (S 22 t = nI x) && !decide (S 24 t = -1)) T) := congrArg nI (cnt_congr fun j _ => by
  unfold lnA
  rw [if_pos rfl]
  by_cases h : S 24 j = -1 <;> simp [h, bI])
abbrev lnB (S : Mem) (x j : Nat) : Bool := decide (S 4 j = nI x) || decide (S 5 j = nI x)
theorem lnB_t {S : Mem} {P L x j : Nat} (hL : Lnk S P L) (hL8 : L ≤ 8) (hj : j < P) (hx : x < 8) (h : ¬ acrI S j x = -1) : lnB S x j = true := by
  rcases acr_cases hL hL8 hj hx with ⟨-, -, -, h4 | h4, -⟩ | ⟨h1, -⟩
  · simp [lnB, h4]
  · simp [lnB, h4]
  · exact absurd h1 h
theorem lnB_f {S : Mem} {P L x j : Nat} (hL : Lnk S P L) (hL8 : L ≤ 8) (hj : j < P) (hx : x < 8) (h : acrI S j x = -1) : ¬ lnB S x j = true := by
  rcases acr_cases hL hL8 hj hx with ⟨h1, h2, -⟩ | ⟨-, h2⟩
  · rw [h1] at h; exact absurd h (nI_neg (by omega))
  · intro h3
    simp only [lnB, Bool.or_eq_true, decide_eq_true_eq] at h3
    exact h2 h3
section CLS
variable {p : Program} {l : Launch} {e : Env} {R : Room} {s : State} {m : MethodId} {args : Array Value} {below : List Frame} {meth : Method} {c : Code} {H : Heap} {locs : List Loc} {cells slots : Nat} {Q : State → Prop}
variable {cc : ByteArray} {nL : Nat} {own : String} {pc : Nat} {ls : Array Slot} {rest : List Value} {D : va_G} {cA : ClassId} {a : Adr} {S X : Mem} {I : Nat → Prop} {H0 : Heap} {A0 : Nat → Prop}
set_option maxHeartbeats 4000000 in
set_option maxRecDepth 100000 in
theorem c_X9_puntTold (l : Launch) (D : va_G) (cA : ClassId) (a : Adr) (S X : Mem) (I : Nat → Prop) (hd : Hd nM a I) (u : Nat) (w : Int32) {P : Nat} {L : Nat} {T : Nat} {h : Nat} (hnP : S 82 0 = nI P) (hnT : S 85 0 = nI T) (hT30 : T ≤ 30) (hnH : S 86 0 = nI h) (hh : h < 2 ^ 31) (hTW : TW S P L) (hu : u < P) : NI l yX9_puntTold cX9_puntTold 3 (some .int) 4 94 D cA a S X I [.ref (a 20), .int (nI u), .int w] (fun r S1 X1 => r = punS S T h u w ∧ S1 = S ∧ ∀ k, k ≠ 15 → X1 k = X k) := by
  refine nGo (by decide) (Nat.le_of_ble_eq_true rfl) ?_
  intro p e s m args below meth c ls C0 hr hlk hK hP hS hl hargs
  obtain ⟨H, hHe⟩ : ∃ H, H = s.heap := ⟨_, rfl⟩
  obtain ⟨locs, hlo⟩ : ∃ L : List Loc, L = [] := ⟨_, rfl⟩
  have hP : WQ D cA a S X I H := hHe ▸ hP
  have hS : va_S (AI a I) s.heap H locs := by rw [hHe, hlo]; exact hS
  rw [← hHe, ← hlo]
  have hA : ∀ q, AI a I q → AI a I q := fun _ h => h
  obtain ⟨hLnk, hP6, hL8, h17, h16, h8, h3, h2⟩ := id hTW
  obtain ⟨ce, hce196, hce⟩ := h16 u hu
  obtain ⟨b, hb, hbe, hbend⟩ := hTW.bound hu
  obtain ⟨en, hen, hene⟩ := h3 b hb
  refine lv_iload_n C0.1 C0.2.1 dX9_puntTold_0 rfl (lv_at hl 2 rfl) ?_
  by_cases k_1_0 : w = 0
  · refine lv_tableIn (off := 47) (tgt := 48) C0.1 C0.2.1 dX9_puntTold_1 (by rw [k_1_0]; decide) (by rw [k_1_0]; decide) (by rw [k_1_0]; decide) (by decide) ?_
    refine lv_aload_n C0.1 C0.2.1 dX9_puntTold_48 rfl (lv_at hl 0 rfl) ?_
    refine lv_iload_n C0.1 C0.2.1 dX9_puntTold_49 rfl (lv_at hl 1 rfl) ?_
    refine lv_iconst (v := 0) C0.1 C0.2.1 dX9_puntTold_50 (by decide) ?_
    refine k_X9_go_0 hd sId C0 hK hP (by omega) (v := S 16 u) rfl hS hA hl.1 ml_X9_77 ⟨Nat.le_of_ble_eq_true rfl, Nat.le_of_ble_eq_true rfl⟩ ⟨Nat.zero_le _, Nat.zero_le _⟩ (Nat.le_of_ble_eq_true rfl) dX9_puntTold_51 (fun H locs hP hS => ?_)
    refine lv_bipush (v := 14) C0.1 C0.2.1 dX9_puntTold_54 (by decide) ?_
    refine lv_irem C0.1 C0.2.1 dX9_puntTold_56 (by decide) ?_
    exact rtI C0 hr hlk hP hS ⟨by unfold punS; rw [k_1_0]; rfl, rfl, fun _ _ => rfl⟩ dX9_puntTold_57
  by_cases k_1_1 : w = 1
  · refine lv_tableIn (off := 57) (tgt := 58) C0.1 C0.2.1 dX9_puntTold_1 (by rw [k_1_1]; decide) (by rw [k_1_1]; decide) (by rw [k_1_1]; decide) (by decide) ?_
    refine lv_aload_n C0.1 C0.2.1 dX9_puntTold_58 rfl (lv_at hl 0 rfl) ?_
    refine lv_iload_n C0.1 C0.2.1 dX9_puntTold_59 rfl (lv_at hl 1 rfl) ?_
    refine lv_iconst (v := 0) C0.1 C0.2.1 dX9_puntTold_60 (by decide) ?_
    refine k_X9_go_0 hd sId C0 hK hP (by omega) (v := S 16 u) rfl hS hA hl.1 ml_X9_77 ⟨Nat.le_of_ble_eq_true rfl, Nat.le_of_ble_eq_true rfl⟩ ⟨Nat.zero_le _, Nat.zero_le _⟩ (Nat.le_of_ble_eq_true rfl) dX9_puntTold_61 (fun H locs hP hS => ?_)
    refine lv_bipush (v := 14) C0.1 C0.2.1 dX9_puntTold_64 (by decide) ?_
    refine lv_idiv C0.1 C0.2.1 dX9_puntTold_66 (by decide) ?_
    exact rtI C0 hr hlk hP hS ⟨by unfold punS; rw [k_1_1]; rfl, rfl, fun _ _ => rfl⟩ dX9_puntTold_67
  by_cases k_1_2 : w = 2
  · refine lv_tableIn (off := 67) (tgt := 68) C0.1 C0.2.1 dX9_puntTold_1 (by rw [k_1_2]; decide) (by rw [k_1_2]; decide) (by rw [k_1_2]; decide) (by decide) ?_
    refine lv_aload_n C0.1 C0.2.1 dX9_puntTold_68 rfl (lv_at hl 0 rfl) ?_
    refine lv_iload_n C0.1 C0.2.1 dX9_puntTold_69 rfl (lv_at hl 1 rfl) ?_
    refine lv_iconst (v := 1) C0.1 C0.2.1 dX9_puntTold_70 (by decide) ?_
    refine k_X9_go_1 hd sId C0 hK hP (by omega) (v := S 17 u) rfl hS hA hl.1 ml_X9_77 ⟨Nat.le_of_ble_eq_true rfl, Nat.le_of_ble_eq_true rfl⟩ ⟨Nat.zero_le _, Nat.zero_le _⟩ (Nat.le_of_ble_eq_true rfl) dX9_puntTold_71 (fun H locs hP hS => ?_)
    exact rtI C0 hr hlk hP hS ⟨by unfold punS; rw [k_1_2]; rfl, rfl, fun _ _ => rfl⟩ dX9_puntTold_74
  by_cases k_1_3 : w = 3
  · refine lv_tableIn (off := 74) (tgt := 75) C0.1 C0.2.1 dX9_puntTold_1 (by rw [k_1_3]; decide) (by rw [k_1_3]; decide) (by rw [k_1_3]; decide) (by decide) ?_
    refine lv_aload_n C0.1 C0.2.1 dX9_puntTold_75 rfl (lv_at hl 0 rfl) ?_
    refine lv_iload_n C0.1 C0.2.1 dX9_puntTold_76 rfl (lv_at hl 1 rfl) ?_
    refine k_X9_ridersOf hd sId C0 hK hP hnT hT30 (v := nI (cnt (fun j => decide ((S 23) j = (nI u))) T)) rfl hS hA hl.1 ml_X9_119 ⟨Nat.le_of_ble_eq_true rfl, Nat.le_of_ble_eq_true rfl⟩ ⟨Nat.zero_le _, Nat.zero_le _⟩ (Nat.le_of_ble_eq_true rfl) dX9_puntTold_77 (fun H locs hP hS => ?_)
    exact rtI C0 hr hlk hP hS ⟨by unfold punS; rw [k_1_3]; rfl, rfl, fun _ _ => rfl⟩ dX9_puntTold_80
  by_cases k_1_4 : w = 4
  · refine lv_tableIn (off := 80) (tgt := 81) C0.1 C0.2.1 dX9_puntTold_1 (by rw [k_1_4]; decide) (by rw [k_1_4]; decide) (by rw [k_1_4]; decide) (by decide) ?_
    refine lv_aload_n C0.1 C0.2.1 dX9_puntTold_81 rfl (lv_at hl 0 rfl) ?_
    refine lv_iload_n C0.1 C0.2.1 dX9_puntTold_82 rfl (lv_at hl 1 rfl) ?_
    refine lv_iconst (v := 5) C0.1 C0.2.1 dX9_puntTold_83 (by decide) ?_
    refine k_X9_pu_5 hd sId C0 hK hP (by omega) (v := S 9 u) rfl hS hA hl.1 ml_X9_66 ⟨Nat.le_of_ble_eq_true rfl, Nat.le_of_ble_eq_true rfl⟩ ⟨Nat.zero_le _, Nat.zero_le _⟩ (Nat.le_of_ble_eq_true rfl) dX9_puntTold_84 (fun H locs hP hS => ?_)
    exact rtI C0 hr hlk hP hS ⟨by unfold punS; rw [k_1_4]; rfl, rfl, fun _ _ => rfl⟩ dX9_puntTold_87
  by_cases k_1_5 : w = 5
  · refine lv_tableIn (off := 87) (tgt := 88) C0.1 C0.2.1 dX9_puntTold_1 (by rw [k_1_5]; decide) (by rw [k_1_5]; decide) (by rw [k_1_5]; decide) (by decide) ?_
    refine lv_aload_n C0.1 C0.2.1 dX9_puntTold_88 rfl (lv_at hl 0 rfl) ?_
    refine lv_iload_n C0.1 C0.2.1 dX9_puntTold_89 rfl (lv_at hl 1 rfl) ?_
    refine k_X9_isAground hd sId C0 hK hP (by omega) hce196 hce hnH hh (v := bI (!flt S (nI u) (S 16 u) (lvS S h))) rfl hS hA hl.1 ml_X9_122 ⟨Nat.le_of_ble_eq_true rfl, Nat.le_of_ble_eq_true rfl⟩ ⟨Nat.zero_le _, Nat.zero_le _⟩ (Nat.le_of_ble_eq_true rfl) dX9_puntTold_90 (fun H locs hP hS => ?_)
    refine lv_if_eq (tgt := 100) C0.1 C0.2.1 dX9_puntTold_93 (by decide) (fun c_93 => ?_) (fun c_93 => ?_)
    · have c_93 := bI_eq c_93
      refine lv_iconst (v := 0) C0.1 C0.2.1 dX9_puntTold_100 (by decide) ?_
      exact rtI C0 hr hlk hP hS ⟨by unfold punS; rw [k_1_5]; show _ = bI _; rw [c_93]; rfl, rfl, fun _ _ => rfl⟩ dX9_puntTold_101
    · have c_93 := bI_ne c_93
      refine lv_iconst (v := 1) C0.1 C0.2.1 dX9_puntTold_96 (by decide) ?_
      refine lv_goto (tgt := 101) C0.1 C0.2.1 dX9_puntTold_97 (by decide) ?_
      exact rtI C0 hr hlk hP hS ⟨by unfold punS; rw [k_1_5]; show _ = bI _; rw [c_93]; rfl, rfl, fun _ _ => rfl⟩ dX9_puntTold_101
  by_cases k_1_6 : w = 6
  · refine lv_tableIn (off := 101) (tgt := 102) C0.1 C0.2.1 dX9_puntTold_1 (by rw [k_1_6]; decide) (by rw [k_1_6]; decide) (by rw [k_1_6]; decide) (by decide) ?_
    refine lv_aload_n C0.1 C0.2.1 dX9_puntTold_102 rfl (lv_at hl 0 rfl) ?_
    refine lv_iload_n C0.1 C0.2.1 dX9_puntTold_103 rfl (lv_at hl 1 rfl) ?_
    refine lv_aload_n C0.1 C0.2.1 dX9_puntTold_104 rfl (lv_at hl 0 rfl) ?_
    refine lv_iload_n C0.1 C0.2.1 dX9_puntTold_105 rfl (lv_at hl 1 rfl) ?_
    refine k_X9_boundCell hd sId C0 hK hP (by omega) (show b < 8 by omega) hbe (v := nI en) hene hS hA hl.1 ml_X9_125 ⟨Nat.le_of_ble_eq_true rfl, Nat.le_of_ble_eq_true rfl⟩ ⟨Nat.zero_le _, Nat.zero_le _⟩ (Nat.le_of_ble_eq_true rfl) dX9_puntTold_106 (fun H locs hP hS => ?_)
    refine lv_aload_n C0.1 C0.2.1 dX9_puntTold_109 rfl (lv_at hl 0 rfl) ?_
    refine k_X9_level hd sId C0 hK hP hnH hh (v := lvS S h) rfl hS hA hl.1 ml_X9_80 ⟨Nat.le_of_ble_eq_true rfl, Nat.le_of_ble_eq_true rfl⟩ ⟨Nat.zero_le _, Nat.zero_le _⟩ (Nat.le_of_ble_eq_true rfl) dX9_puntTold_110 (fun H locs hP hS => ?_)
    refine k_X9_look hd sId C0 hK hP (by omega) (by omega) hS hA hl.1 ml_X9_128 ⟨Nat.le_of_ble_eq_true rfl, Nat.le_of_ble_eq_true rfl⟩ ⟨Nat.zero_le _, Nat.zero_le _⟩ (Nat.le_of_ble_eq_true rfl) dX9_puntTold_113 (fun S_2 X_3 H locs hx_1 hP hS => ?_)
    obtain ⟨hs1, hWy, hXk⟩ := hx_1
    rw [hs1] at hP
    refine lv_aload_n C0.1 C0.2.1 dX9_puntTold_116 rfl (lv_at hl 0 rfl) ?_
    refine g20 C0 hK hP (hd.1 _ (by decide)) 12 (by decide) fl_X9_31 rfl dX9_puntTold_117 ?_
    refine lv_aload_n C0.1 C0.2.1 dX9_puntTold_120 rfl (lv_at hl 0 rfl) ?_
    refine lv_iload_n C0.1 C0.2.1 dX9_puntTold_121 rfl (lv_at hl 1 rfl) ?_
    refine lv_iconst (v := 0) C0.1 C0.2.1 dX9_puntTold_122 (by decide) ?_
    refine k_X9_go_0 hd sId C0 hK hP (by omega) (v := nI ce) hce hS hA hl.1 ml_X9_77 ⟨Nat.le_of_ble_eq_true rfl, Nat.le_of_ble_eq_true rfl⟩ ⟨Nat.zero_le _, Nat.zero_le _⟩ (Nat.le_of_ble_eq_true rfl) dX9_puntTold_123 (fun H locs hP hS => ?_)
    refine mld (k := 7) (by decide) C0 hK hP (hd.1 _ (by decide)) (v := X_3 15 ce) (vp_in_nI (show ce < 196 by omega) (by decide)) ((rg_in (n := 196) (vp_in_nI (show ce < 196 by omega) (by decide))).symm.trans (rg_nI (show ce < 196 by omega) (by decide))) dX9_puntTold_126 ?_
    exact rtI C0 hr hlk hP hS ⟨by unfold punS; rw [k_1_6]; show X_3 15 ce = wyS S u (S 17 u) (lvS S h) (S 16 u).toNatClampNeg; rw [wyS_is (by omega) hen hbe hene, hce, nI_clamp (by omega)]; exact hWy ce hce196, rfl, hXk⟩ dX9_puntTold_127
  by_cases k_1_7 : w = 7
  · refine lv_tableIn (off := 127) (tgt := 128) C0.1 C0.2.1 dX9_puntTold_1 (by rw [k_1_7]; decide) (by rw [k_1_7]; decide) (by rw [k_1_7]; decide) (by decide) ?_
    refine lv_aload_n C0.1 C0.2.1 dX9_puntTold_128 rfl (lv_at hl 0 rfl) ?_
    refine lv_iload_n C0.1 C0.2.1 dX9_puntTold_129 rfl (lv_at hl 1 rfl) ?_
    refine lv_iconst (v := 2) C0.1 C0.2.1 dX9_puntTold_130 (by decide) ?_
    refine k_X9_go_2 hd sId C0 hK hP (by omega) (v := S 18 u) rfl hS hA hl.1 ml_X9_77 ⟨Nat.le_of_ble_eq_true rfl, Nat.le_of_ble_eq_true rfl⟩ ⟨Nat.zero_le _, Nat.zero_le _⟩ (Nat.le_of_ble_eq_true rfl) dX9_puntTold_131 (fun H locs hP hS => ?_)
    exact rtI C0 hr hlk hP hS ⟨by unfold punS; rw [k_1_7]; rfl, rfl, fun _ _ => rfl⟩ dX9_puntTold_134
  refine lv_tableOut (tgt := 135) C0.1 C0.2.1 dX9_puntTold_1 (sw_out7 k_1_0 k_1_1 k_1_2 k_1_3 k_1_4 k_1_5 k_1_6 k_1_7) (by decide) ?_
  refine lv_aload_n C0.1 C0.2.1 dX9_puntTold_135 rfl (lv_at hl 0 rfl) ?_
  refine lv_iload_n C0.1 C0.2.1 dX9_puntTold_136 rfl (lv_at hl 1 rfl) ?_
  refine lv_iconst (v := 3) C0.1 C0.2.1 dX9_puntTold_137 (by decide) ?_
  refine k_X9_go_3 hd sId C0 hK hP (by omega) (v := S 19 u) rfl hS hA hl.1 ml_X9_77 ⟨Nat.le_of_ble_eq_true rfl, Nat.le_of_ble_eq_true rfl⟩ ⟨Nat.zero_le _, Nat.zero_le _⟩ (Nat.le_of_ble_eq_true rfl) dX9_puntTold_138 (fun H locs hP hS => ?_)
  exact rtI C0 hr hlk hP hS ⟨by unfold punS; rw [if_neg k_1_0, if_neg k_1_1, if_neg k_1_2, if_neg k_1_3, if_neg k_1_4, if_neg k_1_5, if_neg k_1_6, if_neg k_1_7], rfl, fun _ _ => rfl⟩ dX9_puntTold_141
theorem k_X9_puntTold {n : List Nat} (hd : Hd n a I) (hsub : ∀ k ∈ nM, k ∈ n) (C0 : CallFix p m c cc nL s args GW own) (hK : KK D cA s) (hP : WQ D cA a S X I H) {u : Nat} {w : Int32} {P : Nat} {L : Nat} {T : Nat} {h : Nat} (hnP : S 82 0 = nI P) (hnT : S 85 0 = nI T) (hT30 : T ≤ 30) (hnH : S 86 0 = nI h) (hh : h < 2 ^ 31) (hTW : TW S P L) (hu : u < P) (hS : va_S A0 H0 H locs) (hA : ∀ q, AI a I q → A0 q) (hls : ls.size = nL) {idx : Nat} (hlink : Cond.methodLink own idx yX9_puntTold ∈ GW) (hR : 5 ≤ R.frames ∧ 116 ≤ R.locals) (hcs : cells ≤ R.cells ∧ slots ≤ R.slots) (hrest : (rest.map fun v => v.category).sum ≤ 8) (hdg : decode cc pc = .ok (.invokevirtual idx, 3)) (kk : ∀ (v : Int32) (S1 X1 : Mem) (H1 : Heap) (locs1 : List Loc), (fun r S1 X1 => r = punS S T h u w ∧ S1 = S ∧ ∀ k, k ≠ 15 → X1 k = X k) v S1 X1 → WQ D cA a S1 X1 I H1 → va_S A0 H0 H1 locs1 → W p l e R s m args below meth c H1 locs1 cells slots Q (F0 m (pc + 3) ls (.int v :: rest))) : W p l e R s m args below meth c H locs cells slots Q (F0 m pc ls (.int w :: .int (nI u) :: .ref (a 20) :: rest)) := by
  exact hoI (qV (n := 2) (c_X9_puntTold l D cA a S X I (hd.sub hsub) u w hnP hnT hT30 hnH hh hTW hu) C0 hlink im_X9_puntTold se_X9_puntTold in_X9 co_X9_puntTold ⟨rfl, by decide⟩ hR hK hP (hd.1 _ (hsub _ (by decide))) rfl rfl rfl hls hrest rfl hdg hcs) hS hA kk
set_option maxHeartbeats 4000000 in
set_option maxRecDepth 100000 in
theorem c_X9_travellerTold (l : Launch) (D : va_G) (cA : ClassId) (a : Adr) (S X : Mem) (I : Nat → Prop) (hd : Hd nM a I) (t : Nat) (q : Nat) {P : Nat} {L : Nat} {T : Nat} (hnP : S 82 0 = nI P) (hnL : S 81 0 = nI L) (hnT : S 85 0 = nI T) (hT30 : T ≤ 30) (hTW : TW S P L) (hTl : TlW S P) (hTr : TrW S P L T) (ht : t < T) (hq : q < 7) : NI l yX9_travellerTold cX9_travellerTold 3 (some .int) 4 92 D cA a S X I [.ref (a 20), .int (nI t), .int (nI q)] (fun r S1 X1 => r = trvS S P t (nI q) ∧ S1 = S ∧ ∀ k, k ≠ 10 → k ≠ 12 → X1 k = X k) := by
  refine nGo (by decide) (Nat.le_of_ble_eq_true rfl) ?_
  intro p e s m args below meth c ls C0 hr hlk hK hP hS hl hargs
  obtain ⟨H, hHe⟩ : ∃ H, H = s.heap := ⟨_, rfl⟩
  obtain ⟨locs, hlo⟩ : ∃ L : List Loc, L = [] := ⟨_, rfl⟩
  have hP : WQ D cA a S X I H := hHe ▸ hP
  have hS : va_S (AI a I) s.heap H locs := by rw [hHe, hlo]; exact hS
  rw [← hHe, ← hlo]
  have hA : ∀ q, AI a I q → AI a I q := fun _ h => h
  obtain ⟨hLnk, hP6, hL8, h17, h16, h8, h3, h2⟩ := id hTW
  refine lv_iload_n C0.1 C0.2.1 dX9_travellerTold_0 rfl (lv_at hl 2 rfl) ?_
  have hq9 : q = 0 ∨ q = 1 ∨ q = 2 ∨ q = 3 ∨ q = 4 ∨ q = 5 ∨ q = 6 := by omega
  rcases hq9 with rfl | rfl | rfl | rfl | rfl | rfl | rfl
  · have hl : lv_has ls 3 [(0, .ref (a 20)), (1, .int (nI t)), (2, .int 0)] := hl
    refine lv_tableOut (tgt := 102) C0.1 C0.2.1 dX9_travellerTold_1 (by decide) (by decide) ?_
    refine lv_aload_n C0.1 C0.2.1 dX9_travellerTold_102 rfl (lv_at hl 0 rfl) ?_
    refine lv_iload_n C0.1 C0.2.1 dX9_travellerTold_103 rfl (lv_at hl 1 rfl) ?_
    refine lv_iload_n C0.1 C0.2.1 dX9_travellerTold_104 rfl (lv_at hl 2 rfl) ?_
    refine k_X9_who_0 hd sId C0 hK hP (by omega) (v := S 20 t) rfl hS hA hl.1 ml_X9_116 ⟨Nat.le_of_ble_eq_true rfl, Nat.le_of_ble_eq_true rfl⟩ ⟨Nat.zero_le _, Nat.zero_le _⟩ (Nat.le_of_ble_eq_true rfl) dX9_travellerTold_105 (fun H locs hP hS => ?_)
    exact rtI C0 hr hlk hP hS ⟨rfl, rfl, fun _ _ _ => rfl⟩ dX9_travellerTold_108
  · have hl : lv_has ls 3 [(0, .ref (a 20)), (1, .int (nI t)), (2, .int 1)] := hl
    refine lv_tableOut (tgt := 102) C0.1 C0.2.1 dX9_travellerTold_1 (by decide) (by decide) ?_
    refine lv_aload_n C0.1 C0.2.1 dX9_travellerTold_102 rfl (lv_at hl 0 rfl) ?_
    refine lv_iload_n C0.1 C0.2.1 dX9_travellerTold_103 rfl (lv_at hl 1 rfl) ?_
    refine lv_iload_n C0.1 C0.2.1 dX9_travellerTold_104 rfl (lv_at hl 2 rfl) ?_
    refine k_X9_who_1 hd sId C0 hK hP (by omega) (v := S 21 t) rfl hS hA hl.1 ml_X9_116 ⟨Nat.le_of_ble_eq_true rfl, Nat.le_of_ble_eq_true rfl⟩ ⟨Nat.zero_le _, Nat.zero_le _⟩ (Nat.le_of_ble_eq_true rfl) dX9_travellerTold_105 (fun H locs hP hS => ?_)
    exact rtI C0 hr hlk hP hS ⟨rfl, rfl, fun _ _ _ => rfl⟩ dX9_travellerTold_108
  · have hl : lv_has ls 3 [(0, .ref (a 20)), (1, .int (nI t)), (2, .int 2)] := hl
    refine lv_tableOut (tgt := 102) C0.1 C0.2.1 dX9_travellerTold_1 (by decide) (by decide) ?_
    refine lv_aload_n C0.1 C0.2.1 dX9_travellerTold_102 rfl (lv_at hl 0 rfl) ?_
    refine lv_iload_n C0.1 C0.2.1 dX9_travellerTold_103 rfl (lv_at hl 1 rfl) ?_
    refine lv_iload_n C0.1 C0.2.1 dX9_travellerTold_104 rfl (lv_at hl 2 rfl) ?_
    refine k_X9_who_2 hd sId C0 hK hP (by omega) (v := S 22 t) rfl hS hA hl.1 ml_X9_116 ⟨Nat.le_of_ble_eq_true rfl, Nat.le_of_ble_eq_true rfl⟩ ⟨Nat.zero_le _, Nat.zero_le _⟩ (Nat.le_of_ble_eq_true rfl) dX9_travellerTold_105 (fun H locs hP hS => ?_)
    exact rtI C0 hr hlk hP hS ⟨rfl, rfl, fun _ _ _ => rfl⟩ dX9_travellerTold_108
  · have hl : lv_has ls 3 [(0, .ref (a 20)), (1, .int (nI t)), (2, .int 3)] := hl
    refine lv_tableOut (tgt := 102) C0.1 C0.2.1 dX9_travellerTold_1 (by decide) (by decide) ?_
    refine lv_aload_n C0.1 C0.2.1 dX9_travellerTold_102 rfl (lv_at hl 0 rfl) ?_
    refine lv_iload_n C0.1 C0.2.1 dX9_travellerTold_103 rfl (lv_at hl 1 rfl) ?_
    refine lv_iload_n C0.1 C0.2.1 dX9_travellerTold_104 rfl (lv_at hl 2 rfl) ?_
    refine k_X9_who_3 hd sId C0 hK hP (by omega) (v := S 23 t) rfl hS hA hl.1 ml_X9_116 ⟨Nat.le_of_ble_eq_true rfl, Nat.le_of_ble_eq_true rfl⟩ ⟨Nat.zero_le _, Nat.zero_le _⟩ (Nat.le_of_ble_eq_true rfl) dX9_travellerTold_105 (fun H locs hP hS => ?_)
    exact rtI C0 hr hlk hP hS ⟨rfl, rfl, fun _ _ _ => rfl⟩ dX9_travellerTold_108
  · have hl : lv_has ls 3 [(0, .ref (a 20)), (1, .int (nI t)), (2, .int 4)] := hl
    refine lv_tableIn (off := 27) (tgt := 28) C0.1 C0.2.1 dX9_travellerTold_1 (by decide) (by decide) (by decide) (by decide) ?_
    refine lv_aload_n C0.1 C0.2.1 dX9_travellerTold_28 rfl (lv_at hl 0 rfl) ?_
    refine lv_iload_n C0.1 C0.2.1 dX9_travellerTold_29 rfl (lv_at hl 1 rfl) ?_
    refine k_X9_hasCome hd sId C0 hK hP (by omega) (v := bI (!decide (S 24 t = -1))) rfl hS hA hl.1 ml_X9_144 ⟨Nat.le_of_ble_eq_true rfl, Nat.le_of_ble_eq_true rfl⟩ ⟨Nat.zero_le _, Nat.zero_le _⟩ (Nat.le_of_ble_eq_true rfl) dX9_travellerTold_30 (fun H locs hP hS => ?_)
    refine lv_if_eq (tgt := 40) C0.1 C0.2.1 dX9_travellerTold_33 (by decide) (fun c_33 => ?_) (fun c_33 => ?_)
    · have c_33 := bI_eq c_33
      refine lv_iconst (v := 0) C0.1 C0.2.1 dX9_travellerTold_40 (by decide) ?_
      exact rtI C0 hr hlk hP hS ⟨by show _ = bI _; rw [c_33]; rfl, rfl, fun _ _ _ => rfl⟩ dX9_travellerTold_41
    · have c_33 := bI_ne c_33
      refine lv_iconst (v := 1) C0.1 C0.2.1 dX9_travellerTold_36 (by decide) ?_
      refine lv_goto (tgt := 41) C0.1 C0.2.1 dX9_travellerTold_37 (by decide) ?_
      exact rtI C0 hr hlk hP hS ⟨by show _ = bI _; rw [c_33]; rfl, rfl, fun _ _ _ => rfl⟩ dX9_travellerTold_41
  · have hl : lv_has ls 3 [(0, .ref (a 20)), (1, .int (nI t)), (2, .int 5)] := hl
    refine lv_tableIn (off := 41) (tgt := 42) C0.1 C0.2.1 dX9_travellerTold_1 (by decide) (by decide) (by decide) (by decide) ?_
    refine lv_aload_n C0.1 C0.2.1 dX9_travellerTold_42 rfl (lv_at hl 0 rfl) ?_
    refine lv_iload_n C0.1 C0.2.1 dX9_travellerTold_43 rfl (lv_at hl 1 rfl) ?_
    refine lv_iconst (v := 3) C0.1 C0.2.1 dX9_travellerTold_44 (by decide) ?_
    refine k_X9_who_3 hd sId C0 hK hP (by omega) (v := S 23 t) rfl hS hA hl.1 ml_X9_116 ⟨Nat.le_of_ble_eq_true rfl, Nat.le_of_ble_eq_true rfl⟩ ⟨Nat.zero_le _, Nat.zero_le _⟩ (Nat.le_of_ble_eq_true rfl) dX9_travellerTold_45 (fun H locs hP hS => ?_)
    refine lv_iconst (v := (-1)) C0.1 C0.2.1 dX9_travellerTold_48 (by decide) ?_
    refine lv_icmp_ne (tgt := 71) C0.1 C0.2.1 dX9_travellerTold_49 (by decide) (fun c_49 => ?_) (fun c_49 => ?_)
    · obtain ⟨pi_, bi, wi, hpi, hbi, hwi, e23, e22, -, e17, e20, hlen⟩ : ∃ p b w, p < P ∧ b < L ∧ w < L ∧ S 23 t = nI p ∧ S 22 t = -1 ∧ S 24 t = -1 ∧ S 17 p = nI b ∧ S 20 t = nI w ∧ lenM S P b w ≠ -1 := by rcases (hTr t ht).2.1 with ⟨h9, _⟩ | h9; exact absurd h9 c_49; exact h9
      refine lv_iconst (v := 1) C0.1 C0.2.1 dX9_travellerTold_71 (by decide) ?_
      refine lv_aload_n C0.1 C0.2.1 dX9_travellerTold_72 rfl (lv_at hl 0 rfl) ?_
      refine lv_aload_n C0.1 C0.2.1 dX9_travellerTold_73 rfl (lv_at hl 0 rfl) ?_
      refine lv_aload_n C0.1 C0.2.1 dX9_travellerTold_74 rfl (lv_at hl 0 rfl) ?_
      refine lv_iload_n C0.1 C0.2.1 dX9_travellerTold_75 rfl (lv_at hl 1 rfl) ?_
      refine lv_iconst (v := 3) C0.1 C0.2.1 dX9_travellerTold_76 (by decide) ?_
      refine k_X9_who_3 hd sId C0 hK hP (by omega) (v := nI pi_) e23 hS hA hl.1 ml_X9_116 ⟨Nat.le_of_ble_eq_true rfl, Nat.le_of_ble_eq_true rfl⟩ ⟨Nat.zero_le _, Nat.zero_le _⟩ (Nat.le_of_ble_eq_true rfl) dX9_travellerTold_77 (fun H locs hP hS => ?_)
      refine lv_iconst (v := 1) C0.1 C0.2.1 dX9_travellerTold_80 (by decide) ?_
      refine k_X9_go_1 hd sId C0 hK hP (by omega) (v := nI bi) e17 hS hA hl.1 ml_X9_77 ⟨Nat.le_of_ble_eq_true rfl, Nat.le_of_ble_eq_true rfl⟩ ⟨Nat.zero_le _, Nat.zero_le _⟩ (Nat.le_of_ble_eq_true rfl) dX9_travellerTold_81 (fun H locs hP hS => ?_)
      refine lv_aload_n C0.1 C0.2.1 dX9_travellerTold_84 rfl (lv_at hl 0 rfl) ?_
      refine lv_iload_n C0.1 C0.2.1 dX9_travellerTold_85 rfl (lv_at hl 1 rfl) ?_
      refine lv_iconst (v := 0) C0.1 C0.2.1 dX9_travellerTold_86 (by decide) ?_
      refine k_X9_who_0 hd sId C0 hK hP (by omega) (v := nI wi) e20 hS hA hl.1 ml_X9_116 ⟨Nat.le_of_ble_eq_true rfl, Nat.le_of_ble_eq_true rfl⟩ ⟨Nat.zero_le _, Nat.zero_le _⟩ (Nat.le_of_ble_eq_true rfl) dX9_travellerTold_87 (fun H locs hP hS => ?_)
      refine k_X9_chainFrom hd sId C0 hK hP hnP hP6 hnL hL8 hLnk hTl hbi hwi hS hA hl.1 ml_X9_147 ⟨Nat.le_of_ble_eq_true rfl, Nat.le_of_ble_eq_true rfl⟩ ⟨Nat.zero_le _, Nat.zero_le _⟩ (Nat.le_of_ble_eq_true rfl) dX9_travellerTold_90 (fun v_4 S_2 X_3 H locs hx_1 hP hS => ?_)
      obtain ⟨hrv, hs1, hXk⟩ := hx_1
      rw [hs1] at hP
      subst hrv
      refine lv_iadd C0.1 C0.2.1 dX9_travellerTold_93 ?_
      exact rtI C0 hr hlk hP hS ⟨by show _ = chlM S P t; unfold chlM; rw [if_neg c_49, e23, nv_nI (by omega), e17, e20, nv_nI (by omega), nv_nI (by omega), Int32.add_comm], rfl, hXk⟩ dX9_travellerTold_94
    · obtain ⟨⟨wi, hwi, hwe⟩, h2t, -⟩ := hTr t ht
      obtain ⟨xi, hxi, hxe⟩ : ∃ x, x < L ∧ S 22 t = nI x := by rcases h2t with ⟨_, h9⟩ | ⟨p9, b9, w9, h9, _, _, h8, _⟩; exact h9; exact absurd (h8.symm.trans c_49) (nI_neg (by omega))
      refine lv_aload_n C0.1 C0.2.1 dX9_travellerTold_52 rfl (lv_at hl 0 rfl) ?_
      refine lv_aload_n C0.1 C0.2.1 dX9_travellerTold_53 rfl (lv_at hl 0 rfl) ?_
      refine lv_iload_n C0.1 C0.2.1 dX9_travellerTold_54 rfl (lv_at hl 1 rfl) ?_
      refine lv_iconst (v := 2) C0.1 C0.2.1 dX9_travellerTold_55 (by decide) ?_
      refine k_X9_who_2 hd sId C0 hK hP (by omega) (v := nI xi) hxe hS hA hl.1 ml_X9_116 ⟨Nat.le_of_ble_eq_true rfl, Nat.le_of_ble_eq_true rfl⟩ ⟨Nat.zero_le _, Nat.zero_le _⟩ (Nat.le_of_ble_eq_true rfl) dX9_travellerTold_56 (fun H locs hP hS => ?_)
      refine lv_aload_n C0.1 C0.2.1 dX9_travellerTold_59 rfl (lv_at hl 0 rfl) ?_
      refine lv_iload_n C0.1 C0.2.1 dX9_travellerTold_60 rfl (lv_at hl 1 rfl) ?_
      refine lv_iconst (v := 0) C0.1 C0.2.1 dX9_travellerTold_61 (by decide) ?_
      refine k_X9_who_0 hd sId C0 hK hP (by omega) (v := nI wi) hwe hS hA hl.1 ml_X9_116 ⟨Nat.le_of_ble_eq_true rfl, Nat.le_of_ble_eq_true rfl⟩ ⟨Nat.zero_le _, Nat.zero_le _⟩ (Nat.le_of_ble_eq_true rfl) dX9_travellerTold_62 (fun H locs hP hS => ?_)
      refine k_X9_chainFrom hd sId C0 hK hP hnP hP6 hnL hL8 hLnk hTl hxi hwi hS hA hl.1 ml_X9_147 ⟨Nat.le_of_ble_eq_true rfl, Nat.le_of_ble_eq_true rfl⟩ ⟨Nat.zero_le _, Nat.zero_le _⟩ (Nat.le_of_ble_eq_true rfl) dX9_travellerTold_65 (fun v_8 S_6 X_7 H locs hx_5 hP hS => ?_)
      obtain ⟨hrv, hs1, hXk⟩ := hx_5
      rw [hs1] at hP
      subst hrv
      refine lv_goto (tgt := 94) C0.1 C0.2.1 dX9_travellerTold_68 (by decide) ?_
      exact rtI C0 hr hlk hP hS ⟨by show _ = chlM S P t; unfold chlM; rw [if_pos c_49, hxe, hwe, nv_nI (by omega), nv_nI (by omega)], rfl, hXk⟩ dX9_travellerTold_94
  · have hl : lv_has ls 3 [(0, .ref (a 20)), (1, .int (nI t)), (2, .int 6)] := hl
    refine lv_tableIn (off := 94) (tgt := 95) C0.1 C0.2.1 dX9_travellerTold_1 (by decide) (by decide) (by decide) (by decide) ?_
    refine lv_aload_n C0.1 C0.2.1 dX9_travellerTold_95 rfl (lv_at hl 0 rfl) ?_
    refine lv_iload_n C0.1 C0.2.1 dX9_travellerTold_96 rfl (lv_at hl 1 rfl) ?_
    refine lv_iconst (v := 4) C0.1 C0.2.1 dX9_travellerTold_97 (by decide) ?_
    refine k_X9_who_4 hd sId C0 hK hP (by omega) (v := S 24 t) rfl hS hA hl.1 ml_X9_116 ⟨Nat.le_of_ble_eq_true rfl, Nat.le_of_ble_eq_true rfl⟩ ⟨Nat.zero_le _, Nat.zero_le _⟩ (Nat.le_of_ble_eq_true rfl) dX9_travellerTold_98 (fun H locs hP hS => ?_)
    exact rtI C0 hr hlk hP hS ⟨rfl, rfl, fun _ _ _ => rfl⟩ dX9_travellerTold_101
theorem k_X9_travellerTold {n : List Nat} (hd : Hd n a I) (hsub : ∀ k ∈ nM, k ∈ n) (C0 : CallFix p m c cc nL s args GW own) (hK : KK D cA s) (hP : WQ D cA a S X I H) {t : Nat} {q : Nat} {P : Nat} {L : Nat} {T : Nat} (hnP : S 82 0 = nI P) (hnL : S 81 0 = nI L) (hnT : S 85 0 = nI T) (hT30 : T ≤ 30) (hTW : TW S P L) (hTl : TlW S P) (hTr : TrW S P L T) (ht : t < T) (hq : q < 7) (hS : va_S A0 H0 H locs) (hA : ∀ q, AI a I q → A0 q) (hls : ls.size = nL) {idx : Nat} (hlink : Cond.methodLink own idx yX9_travellerTold ∈ GW) (hR : 5 ≤ R.frames ∧ 114 ≤ R.locals) (hcs : cells ≤ R.cells ∧ slots ≤ R.slots) (hrest : (rest.map fun v => v.category).sum ≤ 8) (hdg : decode cc pc = .ok (.invokevirtual idx, 3)) (kk : ∀ (v : Int32) (S1 X1 : Mem) (H1 : Heap) (locs1 : List Loc), (fun r S1 X1 => r = trvS S P t (nI q) ∧ S1 = S ∧ ∀ k, k ≠ 10 → k ≠ 12 → X1 k = X k) v S1 X1 → WQ D cA a S1 X1 I H1 → va_S A0 H0 H1 locs1 → W p l e R s m args below meth c H1 locs1 cells slots Q (F0 m (pc + 3) ls (.int v :: rest))) : W p l e R s m args below meth c H locs cells slots Q (F0 m pc ls (.int (nI q) :: .int (nI t) :: .ref (a 20) :: rest)) := by
  exact hoI (qV (n := 2) (c_X9_travellerTold l D cA a S X I (hd.sub hsub) t q hnP hnL hnT hT30 hTW hTl hTr ht hq) C0 hlink im_X9_travellerTold se_X9_travellerTold in_X9 co_X9_travellerTold ⟨rfl, by decide⟩ hR hK hP (hd.1 _ (hsub _ (by decide))) rfl rfl rfl hls hrest rfl hdg hcs) hS hA kk
set_option maxHeartbeats 4000000 in
set_option maxRecDepth 100000 in
theorem c_X9_landingTold (l : Launch) (D : va_G) (cA : ClassId) (a : Adr) (S X : Mem) (I : Nat → Prop) (hd : Hd nM a I) (x : Nat) (q : Nat) {P : Nat} {L : Nat} {T : Nat} (hnP : S 82 0 = nI P) (hnT : S 85 0 = nI T) (hT30 : T ≤ 30) (hTW : TW S P L) (hx : x < L) (hq : q < 5) : NI l yX9_landingTold cX9_landingTold 5 (some .int) 2 44 D cA a S X I [.ref (a 20), .int (nI x), .int (nI q)] (fun r S1 X1 => r = (lanS S P T x (nI q)) ∧ S1 = S ∧ X1 = X) := by
  refine nGo (by decide) (Nat.le_of_ble_eq_true rfl) ?_
  intro p e s m args below meth c ls C0 hr hlk hK hP hS hl hargs
  obtain ⟨H, hHe⟩ : ∃ H, H = s.heap := ⟨_, rfl⟩
  obtain ⟨locs, hlo⟩ : ∃ L : List Loc, L = [] := ⟨_, rfl⟩
  have hP : WQ D cA a S X I H := hHe ▸ hP
  have hS : va_S (AI a I) s.heap H locs := by rw [hHe, hlo]; exact hS
  rw [← hHe, ← hlo]
  have hA : ∀ q, AI a I q → AI a I q := fun _ h => h
  obtain ⟨hLnk, hP6, hL8, h17, h16, h8, h3, h2⟩ := id hTW
  refine lv_iload_n C0.1 C0.2.1 dX9_landingTold_0 rfl (lv_at hl 2 rfl) ?_
  refine lv_iconst (v := 2) C0.1 C0.2.1 dX9_landingTold_1 (by decide) ?_
  refine lv_icmp_ge (tgt := 31) C0.1 C0.2.1 dX9_landingTold_2 (by decide) (fun c_2 => ?_) (fun c_2 => ?_)
  · refine lv_iconst (v := 0) C0.1 C0.2.1 dX9_landingTold_31 (by decide) ?_
    refine lv_istore_n (lv' := [(3, .int 0), (0, .ref (a 20)), (1, .int (nI x)), (2, .int (nI q))]) C0.1 C0.2.1 dX9_landingTold_32 rfl hl (by decide) rfl (fun ls hl => ?_)
    refine lv_iconst (v := 0) C0.1 C0.2.1 dX9_landingTold_33 (by decide) ?_
    refine lv_istore (lv' := [(4, .int 0), (3, .int 0), (0, .ref (a 20)), (1, .int (nI x)), (2, .int (nI q))]) C0.1 C0.2.1 dX9_landingTold_34 hl (by decide) rfl (fun ls hl => ?_)
    have loop36 : ∀ (n : Nat) (i : Nat) (f : Int32), (i ≤ T) → (T + 1 ≤ i + n) → (f = nI (cnt (lnA S x q) i)) → (q = 4 → i = 0) → ∀ (H : Heap) (locs : List Loc) (ls : Array Slot), WQ D cA a S X I H → va_S (AI a I) s.heap H locs → lv_has ls 5 [(4, .int (nI i)), (3, .int f), (0, .ref (a 20)), (1, .int (nI x)), (2, .int (nI q))] → W p l e { frames := 2, cells := 0, slots := 0, locals := 44 } s m args below meth c H locs (0) (0) (MQ below (QqI D cA a I (fun r S1 X1 => r = (lanS S P T x (nI q)) ∧ S1 = S ∧ X1 = X)) args s 0 0 (AI a I)) (F0 m 36 ls []) := by
      intro n
      induction n with
      | zero => intro i f hi hf hcn hz; exfalso; omega
      | succ n ih36 =>
        intro i f hi hf hcn hz H locs ls hP hS hl
        refine lv_iload C0.1 C0.2.1 dX9_landingTold_36 (lv_at hl 0 rfl) ?_
        refine lv_aload_n C0.1 C0.2.1 dX9_landingTold_38 rfl (lv_at hl 2 rfl) ?_
        refine g20i (v := nI T) C0 hK hP (hd.1 _ (by decide)) 8 (by decide) fl_X9_113 rfl hnT dX9_landingTold_39 ?_
        refine lv_icmp_ge (tgt := 94) C0.1 C0.2.1 dX9_landingTold_42 (by decide) (fun c_42 => ?_) (fun c_42 => ?_)
        · have hge : T ≤ i := (nI_leI (by omega) (by omega)).mp c_42
          have hf4 : (q ≠ 4 → f = nI (cnt (lnA S x q) T)) ∧ (q = 4 → f = 0) := ⟨fun _ => by rw [hcn, show i = T by omega], fun h9 => by rw [hcn, hz h9]; exact nI_0⟩
          refine lv_iconst (v := 0) C0.1 C0.2.1 dX9_landingTold_94 (by decide) ?_
          refine lv_istore (lv' := [(4, .int 0), (3, .int f), (0, .ref (a 20)), (1, .int (nI x)), (2, .int (nI q))]) C0.1 C0.2.1 dX9_landingTold_95 hl (by decide) rfl (fun ls hl => ?_)
          have loop97 : ∀ (n : Nat) (j : Nat) (f2 : Int32), (j ≤ P) → (P + 1 ≤ j + n) → ((q = 4 → f2 = nI (cnt (lnB S x) j)) ∧ (q ≠ 4 → f2 = f)) → ∀ (H : Heap) (locs : List Loc) (ls : Array Slot), WQ D cA a S X I H → va_S (AI a I) s.heap H locs → lv_has ls 5 [(4, .int (nI j)), (3, .int f2), (0, .ref (a 20)), (1, .int (nI x)), (2, .int (nI q))] → W p l e { frames := 2, cells := 0, slots := 0, locals := 44 } s m args below meth c H locs (0) (0) (MQ below (QqI D cA a I (fun r S1 X1 => r = (lanS S P T x (nI q)) ∧ S1 = S ∧ X1 = X)) args s 0 0 (AI a I)) (F0 m 97 ls []) := by
            intro n
            induction n with
            | zero => intro j f2 hij hfj hpj; exfalso; omega
            | succ n ih97 =>
              intro j f2 hij hfj hpj H locs ls hP hS hl
              refine lv_iload C0.1 C0.2.1 dX9_landingTold_97 (lv_at hl 0 rfl) ?_
              refine lv_aload_n C0.1 C0.2.1 dX9_landingTold_99 rfl (lv_at hl 2 rfl) ?_
              refine g20i (v := nI P) C0 hK hP (hd.1 _ (by decide)) 6 (by decide) fl_X9_51 rfl hnP dX9_landingTold_100 ?_
              refine lv_icmp_ge (tgt := 136) C0.1 C0.2.1 dX9_landingTold_103 (by decide) (fun c_103 => ?_) (fun c_103 => ?_)
              · have hgej : P ≤ j := (nI_leI (by omega) (by omega)).mp c_103
                refine lv_iload_n C0.1 C0.2.1 dX9_landingTold_136 rfl (lv_at hl 1 rfl) ?_
                have hq2 : 2 ≤ q := (nI_leI (a := 2) (by omega) (by omega)).mp c_2
                have hr9 : f2 = lanS S P T x (nI q) := by
                  have h9 : q = 2 ∨ q = 3 ∨ q = 4 := by omega
                  rcases h9 with h9 | h9 | h9
                  · rw [hpj.2 (by omega), hf4.1 (by omega), h9]; exact lnA_2 S x T
                  · rw [hpj.2 (by omega), hf4.1 (by omega), h9]; exact lnA_3 S x T
                  · rw [hpj.1 h9, show j = P by omega, h9]; rfl
                exact rtI C0 hr hlk hP hS ⟨hr9, rfl, rfl⟩ dX9_landingTold_137
              · have hltj : j < P := Nat.not_le.mp fun q => c_103 (nI_le q (by omega))
                refine lv_iload_n C0.1 C0.2.1 dX9_landingTold_106 rfl (lv_at hl 4 rfl) ?_
                refine lv_iconst (v := 4) C0.1 C0.2.1 dX9_landingTold_107 (by decide) ?_
                refine lv_icmp_ne (tgt := 136) C0.1 C0.2.1 dX9_landingTold_108 (by decide) (fun c_108 => ?_) (fun c_108 => ?_)
                · refine lv_iload_n C0.1 C0.2.1 dX9_landingTold_136 rfl (lv_at hl 1 rfl) ?_
                  have hq2 : 2 ≤ q := (nI_leI (a := 2) (by omega) (by omega)).mp c_2
                  have hr9 : f2 = lanS S P T x (nI q) := by
                    have h9 : q = 2 ∨ q = 3 ∨ q = 4 := by omega
                    rcases h9 with h9 | h9 | h9
                    · rw [hpj.2 (by omega), hf4.1 (by omega), h9]; exact lnA_2 S x T
                    · rw [hpj.2 (by omega), hf4.1 (by omega), h9]; exact lnA_3 S x T
                    · exact absurd (by rw [h9]; rfl) c_108
                  exact rtI C0 hr hlk hP hS ⟨hr9, rfl, rfl⟩ dX9_landingTold_137
                · refine lv_iload_n C0.1 C0.2.1 dX9_landingTold_111 rfl (lv_at hl 1 rfl) ?_
                  refine lv_aload_n C0.1 C0.2.1 dX9_landingTold_112 rfl (lv_at hl 2 rfl) ?_
                  refine lv_iload C0.1 C0.2.1 dX9_landingTold_113 (lv_at hl 0 rfl) ?_
                  refine lv_iload_n C0.1 C0.2.1 dX9_landingTold_115 rfl (lv_at hl 3 rfl) ?_
                  refine k_X9_across hd sId C0 hK hP (by omega) (v := acrI S j x) rfl hS hA hl.1 ml_X9_134 ⟨Nat.le_of_ble_eq_true rfl, Nat.le_of_ble_eq_true rfl⟩ ⟨Nat.zero_le _, Nat.zero_le _⟩ (Nat.le_of_ble_eq_true rfl) dX9_landingTold_116 (fun H locs hP hS => ?_)
                  refine lv_iconst (v := (-1)) C0.1 C0.2.1 dX9_landingTold_119 (by decide) ?_
                  refine lv_icmp_eq (tgt := 127) C0.1 C0.2.1 dX9_landingTold_120 (by decide) (fun c_120 => ?_) (fun c_120 => ?_)
                  · refine lv_iconst (v := 0) C0.1 C0.2.1 dX9_landingTold_127 (by decide) ?_
                    refine lv_iadd C0.1 C0.2.1 dX9_landingTold_128 ?_
                    refine lv_istore_n (lv' := [(3, .int (f2 + 0)), (4, .int (nI j)), (0, .ref (a 20)), (1, .int (nI x)), (2, .int (nI q))]) C0.1 C0.2.1 dX9_landingTold_129 rfl hl (by decide) rfl (fun ls hl => ?_)
                    refine lv_iinc (v := nI (j + 1)) (lv' := [(4, .int (nI (j + 1))), (3, .int (f2 + 0)), (0, .ref (a 20)), (1, .int (nI x)), (2, .int (nI q))]) C0.1 C0.2.1 dX9_landingTold_130 hl (k := 1) rfl (nI_1 _) (by decide) rfl (fun ls hl => ?_)
                    refine lv_goto (tgt := 97) C0.1 C0.2.1 dX9_landingTold_133 (by decide) ?_
                    exact ih97 (j + 1) _ (by omega) (by omega) (by have h4 : q = 4 := nI_inj (b := 4) (by omega) (by omega) c_108; exact ⟨fun _ => by rw [hpj.1 h4, cnt_no (lnB_f hLnk hL8 (by omega) (by omega) c_120), Int32.add_zero], fun h9 => absurd h4 h9⟩) _ _ _ hP hS (lv_sub hl [0, 1, 2, 3, 4] rfl)
                  · refine lv_iconst (v := 1) C0.1 C0.2.1 dX9_landingTold_123 (by decide) ?_
                    refine lv_goto (tgt := 128) C0.1 C0.2.1 dX9_landingTold_124 (by decide) ?_
                    refine lv_iadd C0.1 C0.2.1 dX9_landingTold_128 ?_
                    refine lv_istore_n (lv' := [(3, .int (f2 + 1)), (4, .int (nI j)), (0, .ref (a 20)), (1, .int (nI x)), (2, .int (nI q))]) C0.1 C0.2.1 dX9_landingTold_129 rfl hl (by decide) rfl (fun ls hl => ?_)
                    refine lv_iinc (v := nI (j + 1)) (lv' := [(4, .int (nI (j + 1))), (3, .int (f2 + 1)), (0, .ref (a 20)), (1, .int (nI x)), (2, .int (nI q))]) C0.1 C0.2.1 dX9_landingTold_130 hl (k := 1) rfl (nI_1 _) (by decide) rfl (fun ls hl => ?_)
                    refine lv_goto (tgt := 97) C0.1 C0.2.1 dX9_landingTold_133 (by decide) ?_
                    exact ih97 (j + 1) _ (by omega) (by omega) (by have h4 : q = 4 := nI_inj (b := 4) (by omega) (by omega) c_108; exact ⟨fun _ => by rw [hpj.1 h4, cnt_yes (lnB_t hLnk hL8 (by omega) (by omega) c_120), nI_1], fun h9 => absurd h4 h9⟩) _ _ _ hP hS (lv_sub hl [0, 1, 2, 3, 4] rfl)
          exact loop97 (P + 1) 0 _ (by omega) (by omega) ⟨fun h9 => (hf4.2 h9).trans nI_0.symm, fun _ => rfl⟩ _ _ _ hP hS (lv_sub hl [0, 1, 2, 3, 4] rfl)
        · have hlt : i < T := Nat.not_le.mp fun q => c_42 (nI_le q (by omega))
          refine lv_iload_n C0.1 C0.2.1 dX9_landingTold_45 rfl (lv_at hl 4 rfl) ?_
          refine lv_iconst (v := 4) C0.1 C0.2.1 dX9_landingTold_46 (by decide) ?_
          refine lv_icmp_ge (tgt := 94) C0.1 C0.2.1 dX9_landingTold_47 (by decide) (fun c_47 => ?_) (fun c_47 => ?_)
          · have hf4 : (q ≠ 4 → f = nI (cnt (lnA S x q) T)) ∧ (q = 4 → f = 0) := ⟨fun h9 => absurd ((nI_leI (a := 4) (by omega) (by omega)).mp c_47) (by omega), fun h9 => by rw [hcn, hz h9]; exact nI_0⟩
            refine lv_iconst (v := 0) C0.1 C0.2.1 dX9_landingTold_94 (by decide) ?_
            refine lv_istore (lv' := [(4, .int 0), (3, .int f), (0, .ref (a 20)), (1, .int (nI x)), (2, .int (nI q))]) C0.1 C0.2.1 dX9_landingTold_95 hl (by decide) rfl (fun ls hl => ?_)
            have loop97 : ∀ (n : Nat) (j : Nat) (f2 : Int32), (j ≤ P) → (P + 1 ≤ j + n) → ((q = 4 → f2 = nI (cnt (lnB S x) j)) ∧ (q ≠ 4 → f2 = f)) → ∀ (H : Heap) (locs : List Loc) (ls : Array Slot), WQ D cA a S X I H → va_S (AI a I) s.heap H locs → lv_has ls 5 [(4, .int (nI j)), (3, .int f2), (0, .ref (a 20)), (1, .int (nI x)), (2, .int (nI q))] → W p l e { frames := 2, cells := 0, slots := 0, locals := 44 } s m args below meth c H locs (0) (0) (MQ below (QqI D cA a I (fun r S1 X1 => r = (lanS S P T x (nI q)) ∧ S1 = S ∧ X1 = X)) args s 0 0 (AI a I)) (F0 m 97 ls []) := by
              intro n
              induction n with
              | zero => intro j f2 hij hfj hpj; exfalso; omega
              | succ n ih97 =>
                intro j f2 hij hfj hpj H locs ls hP hS hl
                refine lv_iload C0.1 C0.2.1 dX9_landingTold_97 (lv_at hl 0 rfl) ?_
                refine lv_aload_n C0.1 C0.2.1 dX9_landingTold_99 rfl (lv_at hl 2 rfl) ?_
                refine g20i (v := nI P) C0 hK hP (hd.1 _ (by decide)) 6 (by decide) fl_X9_51 rfl hnP dX9_landingTold_100 ?_
                refine lv_icmp_ge (tgt := 136) C0.1 C0.2.1 dX9_landingTold_103 (by decide) (fun c_103 => ?_) (fun c_103 => ?_)
                · have hgej : P ≤ j := (nI_leI (by omega) (by omega)).mp c_103
                  refine lv_iload_n C0.1 C0.2.1 dX9_landingTold_136 rfl (lv_at hl 1 rfl) ?_
                  have hq2 : 2 ≤ q := (nI_leI (a := 2) (by omega) (by omega)).mp c_2
                  have hr9 : f2 = lanS S P T x (nI q) := by
                    have h9 : q = 2 ∨ q = 3 ∨ q = 4 := by omega
                    rcases h9 with h9 | h9 | h9
                    · rw [hpj.2 (by omega), hf4.1 (by omega), h9]; exact lnA_2 S x T
                    · rw [hpj.2 (by omega), hf4.1 (by omega), h9]; exact lnA_3 S x T
                    · rw [hpj.1 h9, show j = P by omega, h9]; rfl
                  exact rtI C0 hr hlk hP hS ⟨hr9, rfl, rfl⟩ dX9_landingTold_137
                · have hltj : j < P := Nat.not_le.mp fun q => c_103 (nI_le q (by omega))
                  refine lv_iload_n C0.1 C0.2.1 dX9_landingTold_106 rfl (lv_at hl 4 rfl) ?_
                  refine lv_iconst (v := 4) C0.1 C0.2.1 dX9_landingTold_107 (by decide) ?_
                  refine lv_icmp_ne (tgt := 136) C0.1 C0.2.1 dX9_landingTold_108 (by decide) (fun c_108 => ?_) (fun c_108 => ?_)
                  · refine lv_iload_n C0.1 C0.2.1 dX9_landingTold_136 rfl (lv_at hl 1 rfl) ?_
                    have hq2 : 2 ≤ q := (nI_leI (a := 2) (by omega) (by omega)).mp c_2
                    have hr9 : f2 = lanS S P T x (nI q) := by
                      have h9 : q = 2 ∨ q = 3 ∨ q = 4 := by omega
                      rcases h9 with h9 | h9 | h9
                      · rw [hpj.2 (by omega), hf4.1 (by omega), h9]; exact lnA_2 S x T
                      · rw [hpj.2 (by omega), hf4.1 (by omega), h9]; exact lnA_3 S x T
                      · exact absurd (by rw [h9]; rfl) c_108
                    exact rtI C0 hr hlk hP hS ⟨hr9, rfl, rfl⟩ dX9_landingTold_137
                  · refine lv_iload_n C0.1 C0.2.1 dX9_landingTold_111 rfl (lv_at hl 1 rfl) ?_
                    refine lv_aload_n C0.1 C0.2.1 dX9_landingTold_112 rfl (lv_at hl 2 rfl) ?_
                    refine lv_iload C0.1 C0.2.1 dX9_landingTold_113 (lv_at hl 0 rfl) ?_
                    refine lv_iload_n C0.1 C0.2.1 dX9_landingTold_115 rfl (lv_at hl 3 rfl) ?_
                    refine k_X9_across hd sId C0 hK hP (by omega) (v := acrI S j x) rfl hS hA hl.1 ml_X9_134 ⟨Nat.le_of_ble_eq_true rfl, Nat.le_of_ble_eq_true rfl⟩ ⟨Nat.zero_le _, Nat.zero_le _⟩ (Nat.le_of_ble_eq_true rfl) dX9_landingTold_116 (fun H locs hP hS => ?_)
                    refine lv_iconst (v := (-1)) C0.1 C0.2.1 dX9_landingTold_119 (by decide) ?_
                    refine lv_icmp_eq (tgt := 127) C0.1 C0.2.1 dX9_landingTold_120 (by decide) (fun c_120 => ?_) (fun c_120 => ?_)
                    · refine lv_iconst (v := 0) C0.1 C0.2.1 dX9_landingTold_127 (by decide) ?_
                      refine lv_iadd C0.1 C0.2.1 dX9_landingTold_128 ?_
                      refine lv_istore_n (lv' := [(3, .int (f2 + 0)), (4, .int (nI j)), (0, .ref (a 20)), (1, .int (nI x)), (2, .int (nI q))]) C0.1 C0.2.1 dX9_landingTold_129 rfl hl (by decide) rfl (fun ls hl => ?_)
                      refine lv_iinc (v := nI (j + 1)) (lv' := [(4, .int (nI (j + 1))), (3, .int (f2 + 0)), (0, .ref (a 20)), (1, .int (nI x)), (2, .int (nI q))]) C0.1 C0.2.1 dX9_landingTold_130 hl (k := 1) rfl (nI_1 _) (by decide) rfl (fun ls hl => ?_)
                      refine lv_goto (tgt := 97) C0.1 C0.2.1 dX9_landingTold_133 (by decide) ?_
                      exact ih97 (j + 1) _ (by omega) (by omega) (by have h4 : q = 4 := nI_inj (b := 4) (by omega) (by omega) c_108; exact ⟨fun _ => by rw [hpj.1 h4, cnt_no (lnB_f hLnk hL8 (by omega) (by omega) c_120), Int32.add_zero], fun h9 => absurd h4 h9⟩) _ _ _ hP hS (lv_sub hl [0, 1, 2, 3, 4] rfl)
                    · refine lv_iconst (v := 1) C0.1 C0.2.1 dX9_landingTold_123 (by decide) ?_
                      refine lv_goto (tgt := 128) C0.1 C0.2.1 dX9_landingTold_124 (by decide) ?_
                      refine lv_iadd C0.1 C0.2.1 dX9_landingTold_128 ?_
                      refine lv_istore_n (lv' := [(3, .int (f2 + 1)), (4, .int (nI j)), (0, .ref (a 20)), (1, .int (nI x)), (2, .int (nI q))]) C0.1 C0.2.1 dX9_landingTold_129 rfl hl (by decide) rfl (fun ls hl => ?_)
                      refine lv_iinc (v := nI (j + 1)) (lv' := [(4, .int (nI (j + 1))), (3, .int (f2 + 1)), (0, .ref (a 20)), (1, .int (nI x)), (2, .int (nI q))]) C0.1 C0.2.1 dX9_landingTold_130 hl (k := 1) rfl (nI_1 _) (by decide) rfl (fun ls hl => ?_)
                      refine lv_goto (tgt := 97) C0.1 C0.2.1 dX9_landingTold_133 (by decide) ?_
                      exact ih97 (j + 1) _ (by omega) (by omega) (by have h4 : q = 4 := nI_inj (b := 4) (by omega) (by omega) c_108; exact ⟨fun _ => by rw [hpj.1 h4, cnt_yes (lnB_t hLnk hL8 (by omega) (by omega) c_120), nI_1], fun h9 => absurd h4 h9⟩) _ _ _ hP hS (lv_sub hl [0, 1, 2, 3, 4] rfl)
            exact loop97 (P + 1) 0 _ (by omega) (by omega) ⟨fun h9 => (hf4.2 h9).trans nI_0.symm, fun _ => rfl⟩ _ _ _ hP hS (lv_sub hl [0, 1, 2, 3, 4] rfl)
          · have hq4 : q < 4 := Nat.not_le.mp fun h9 => c_47 (nI_le (a := 4) h9 (by omega))
            refine lv_iload_n C0.1 C0.2.1 dX9_landingTold_50 rfl (lv_at hl 1 rfl) ?_
            refine lv_aload_n C0.1 C0.2.1 dX9_landingTold_51 rfl (lv_at hl 2 rfl) ?_
            refine lv_iload C0.1 C0.2.1 dX9_landingTold_52 (lv_at hl 0 rfl) ?_
            refine lv_iconst (v := 2) C0.1 C0.2.1 dX9_landingTold_54 (by decide) ?_
            refine k_X9_who_2 hd sId C0 hK hP (by omega) (v := S 22 i) rfl hS hA hl.1 ml_X9_116 ⟨Nat.le_of_ble_eq_true rfl, Nat.le_of_ble_eq_true rfl⟩ ⟨Nat.zero_le _, Nat.zero_le _⟩ (Nat.le_of_ble_eq_true rfl) dX9_landingTold_55 (fun H locs hP hS => ?_)
            refine lv_iload_n C0.1 C0.2.1 dX9_landingTold_58 rfl (lv_at hl 3 rfl) ?_
            refine lv_icmp_ne (tgt := 85) C0.1 C0.2.1 dX9_landingTold_59 (by decide) (fun c_59 => ?_) (fun c_59 => ?_)
            · refine lv_iconst (v := 0) C0.1 C0.2.1 dX9_landingTold_85 (by decide) ?_
              refine lv_iadd C0.1 C0.2.1 dX9_landingTold_86 ?_
              refine lv_istore_n (lv' := [(3, .int (f + 0)), (4, .int (nI i)), (0, .ref (a 20)), (1, .int (nI x)), (2, .int (nI q))]) C0.1 C0.2.1 dX9_landingTold_87 rfl hl (by decide) rfl (fun ls hl => ?_)
              refine lv_iinc (v := nI (i + 1)) (lv' := [(4, .int (nI (i + 1))), (3, .int (f + 0)), (0, .ref (a 20)), (1, .int (nI x)), (2, .int (nI q))]) C0.1 C0.2.1 dX9_landingTold_88 hl (k := 1) rfl (nI_1 _) (by decide) rfl (fun ls hl => ?_)
              refine lv_goto (tgt := 36) C0.1 C0.2.1 dX9_landingTold_91 (by decide) ?_
              exact ih36 (i + 1) _ (by omega) (by omega) (by rw [hcn, cnt_no (by unfold lnA; rw [decide_eq_false c_59]; exact Bool.false_ne_true), Int32.add_zero]) (fun h9 => absurd h9 (by omega)) _ _ _ hP hS (lv_sub hl [0, 1, 2, 3, 4] rfl)
            · refine lv_aload_n C0.1 C0.2.1 dX9_landingTold_62 rfl (lv_at hl 2 rfl) ?_
              refine lv_iload C0.1 C0.2.1 dX9_landingTold_63 (lv_at hl 0 rfl) ?_
              refine k_X9_hasCome hd sId C0 hK hP (by omega) (v := bI (!decide (S 24 i = -1))) rfl hS hA hl.1 ml_X9_144 ⟨Nat.le_of_ble_eq_true rfl, Nat.le_of_ble_eq_true rfl⟩ ⟨Nat.zero_le _, Nat.zero_le _⟩ (Nat.le_of_ble_eq_true rfl) dX9_landingTold_65 (fun H locs hP hS => ?_)
              refine lv_iload_n C0.1 C0.2.1 dX9_landingTold_68 rfl (lv_at hl 4 rfl) ?_
              refine lv_iconst (v := 3) C0.1 C0.2.1 dX9_landingTold_69 (by decide) ?_
              refine lv_icmp_ne (tgt := 77) C0.1 C0.2.1 dX9_landingTold_70 (by decide) (fun c_70 => ?_) (fun c_70 => ?_)
              · refine lv_iconst (v := 0) C0.1 C0.2.1 dX9_landingTold_77 (by decide) ?_
                refine lv_icmp_ne (tgt := 85) C0.1 C0.2.1 dX9_landingTold_78 (by decide) (fun c_78 => ?_) (fun c_78 => ?_)
                · refine lv_iconst (v := 0) C0.1 C0.2.1 dX9_landingTold_85 (by decide) ?_
                  refine lv_iadd C0.1 C0.2.1 dX9_landingTold_86 ?_
                  refine lv_istore_n (lv' := [(3, .int (f + 0)), (4, .int (nI i)), (0, .ref (a 20)), (1, .int (nI x)), (2, .int (nI q))]) C0.1 C0.2.1 dX9_landingTold_87 rfl hl (by decide) rfl (fun ls hl => ?_)
                  refine lv_iinc (v := nI (i + 1)) (lv' := [(4, .int (nI (i + 1))), (3, .int (f + 0)), (0, .ref (a 20)), (1, .int (nI x)), (2, .int (nI q))]) C0.1 C0.2.1 dX9_landingTold_88 hl (k := 1) rfl (nI_1 _) (by decide) rfl (fun ls hl => ?_)
                  refine lv_goto (tgt := 36) C0.1 C0.2.1 dX9_landingTold_91 (by decide) ?_
                  exact ih36 (i + 1) _ (by omega) (by omega) (by rw [hcn, cnt_no (by unfold lnA; rw [if_neg (show ¬ q = 3 from fun e9 => c_70 (by rw [e9]; rfl)), decide_eq_false c_78, Bool.and_false]; exact Bool.false_ne_true), Int32.add_zero]) (fun h9 => absurd h9 (by omega)) _ _ _ hP hS (lv_sub hl [0, 1, 2, 3, 4] rfl)
                · refine lv_iconst (v := 1) C0.1 C0.2.1 dX9_landingTold_81 (by decide) ?_
                  refine lv_goto (tgt := 86) C0.1 C0.2.1 dX9_landingTold_82 (by decide) ?_
                  refine lv_iadd C0.1 C0.2.1 dX9_landingTold_86 ?_
                  refine lv_istore_n (lv' := [(3, .int (f + 1)), (4, .int (nI i)), (0, .ref (a 20)), (1, .int (nI x)), (2, .int (nI q))]) C0.1 C0.2.1 dX9_landingTold_87 rfl hl (by decide) rfl (fun ls hl => ?_)
                  refine lv_iinc (v := nI (i + 1)) (lv' := [(4, .int (nI (i + 1))), (3, .int (f + 1)), (0, .ref (a 20)), (1, .int (nI x)), (2, .int (nI q))]) C0.1 C0.2.1 dX9_landingTold_88 hl (k := 1) rfl (nI_1 _) (by decide) rfl (fun ls hl => ?_)
                  refine lv_goto (tgt := 36) C0.1 C0.2.1 dX9_landingTold_91 (by decide) ?_
                  exact ih36 (i + 1) _ (by omega) (by omega) (by rw [hcn, cnt_yes (by unfold lnA; rw [decide_eq_true c_59, if_neg (show ¬ q = 3 from fun e9 => c_70 (by rw [e9]; rfl)), decide_eq_true c_78]; rfl), nI_1]) (fun h9 => absurd h9 (by omega)) _ _ _ hP hS (lv_sub hl [0, 1, 2, 3, 4] rfl)
              · refine lv_iconst (v := 1) C0.1 C0.2.1 dX9_landingTold_73 (by decide) ?_
                refine lv_goto (tgt := 78) C0.1 C0.2.1 dX9_landingTold_74 (by decide) ?_
                refine lv_icmp_ne (tgt := 85) C0.1 C0.2.1 dX9_landingTold_78 (by decide) (fun c_78 => ?_) (fun c_78 => ?_)
                · refine lv_iconst (v := 0) C0.1 C0.2.1 dX9_landingTold_85 (by decide) ?_
                  refine lv_iadd C0.1 C0.2.1 dX9_landingTold_86 ?_
                  refine lv_istore_n (lv' := [(3, .int (f + 0)), (4, .int (nI i)), (0, .ref (a 20)), (1, .int (nI x)), (2, .int (nI q))]) C0.1 C0.2.1 dX9_landingTold_87 rfl hl (by decide) rfl (fun ls hl => ?_)
                  refine lv_iinc (v := nI (i + 1)) (lv' := [(4, .int (nI (i + 1))), (3, .int (f + 0)), (0, .ref (a 20)), (1, .int (nI x)), (2, .int (nI q))]) C0.1 C0.2.1 dX9_landingTold_88 hl (k := 1) rfl (nI_1 _) (by decide) rfl (fun ls hl => ?_)
                  refine lv_goto (tgt := 36) C0.1 C0.2.1 dX9_landingTold_91 (by decide) ?_
                  exact ih36 (i + 1) _ (by omega) (by omega) (by rw [hcn, cnt_no (by unfold lnA; rw [if_pos (show q = 3 from nI_inj (b := 3) (by omega) (by omega) c_70), decide_eq_false c_78, Bool.and_false]; exact Bool.false_ne_true), Int32.add_zero]) (fun h9 => absurd h9 (by omega)) _ _ _ hP hS (lv_sub hl [0, 1, 2, 3, 4] rfl)
                · refine lv_iconst (v := 1) C0.1 C0.2.1 dX9_landingTold_81 (by decide) ?_
                  refine lv_goto (tgt := 86) C0.1 C0.2.1 dX9_landingTold_82 (by decide) ?_
                  refine lv_iadd C0.1 C0.2.1 dX9_landingTold_86 ?_
                  refine lv_istore_n (lv' := [(3, .int (f + 1)), (4, .int (nI i)), (0, .ref (a 20)), (1, .int (nI x)), (2, .int (nI q))]) C0.1 C0.2.1 dX9_landingTold_87 rfl hl (by decide) rfl (fun ls hl => ?_)
                  refine lv_iinc (v := nI (i + 1)) (lv' := [(4, .int (nI (i + 1))), (3, .int (f + 1)), (0, .ref (a 20)), (1, .int (nI x)), (2, .int (nI q))]) C0.1 C0.2.1 dX9_landingTold_88 hl (k := 1) rfl (nI_1 _) (by decide) rfl (fun ls hl => ?_)
                  refine lv_goto (tgt := 36) C0.1 C0.2.1 dX9_landingTold_91 (by decide) ?_
                  exact ih36 (i + 1) _ (by omega) (by omega) (by rw [hcn, cnt_yes (by unfold lnA; rw [decide_eq_true c_59, if_pos (show q = 3 from nI_inj (b := 3) (by omega) (by omega) c_70), decide_eq_true c_78]; rfl), nI_1]) (fun h9 => absurd h9 (by omega)) _ _ _ hP hS (lv_sub hl [0, 1, 2, 3, 4] rfl)
    exact loop36 (T + 1) 0 _ (by omega) (by omega) nI_0.symm (fun _ => rfl) _ _ _ hP hS (lv_sub hl [0, 1, 2, 3, 4] rfl)
  · refine lv_iload_n C0.1 C0.2.1 dX9_landingTold_5 rfl (lv_at hl 2 rfl) ?_
    refine lv_if_ne (tgt := 21) C0.1 C0.2.1 dX9_landingTold_6 (by decide) (fun c_6 => ?_) (fun c_6 => ?_)
    · refine lv_aload_n C0.1 C0.2.1 dX9_landingTold_21 rfl (lv_at hl 0 rfl) ?_
      refine g20 C0 hK hP (hd.1 _ (by decide)) 5 (by decide) fl_X9_19 rfl dX9_landingTold_22 ?_
      refine lv_iload_n C0.1 C0.2.1 dX9_landingTold_25 rfl (lv_at hl 1 rfl) ?_
      refine mld (k := 3) (by decide) C0 hK hP (hd.1 _ (by decide)) (v := S 3 x) (vp_in_nI (show x < 8 by omega) (by decide)) ((rg_in (n := 8) (vp_in_nI (show x < 8 by omega) (by decide))).symm.trans (rg_nI (show x < 8 by omega) (by decide))) dX9_landingTold_26 ?_
      refine lv_bipush (v := 14) C0.1 C0.2.1 dX9_landingTold_27 (by decide) ?_
      refine lv_idiv C0.1 C0.2.1 dX9_landingTold_29 (by decide) ?_
      exact rtI C0 hr hlk hP hS ⟨by rw [show q = 1 by have h9 : q < 2 := Nat.not_le.mp fun h9 => c_2 (nI_le (a := 2) h9 (by omega)); have h8 : ¬ q = 0 := fun h8 => c_6 (by rw [h8]; rfl); omega]; rfl, rfl, rfl⟩ dX9_landingTold_30
    · refine lv_aload_n C0.1 C0.2.1 dX9_landingTold_9 rfl (lv_at hl 0 rfl) ?_
      refine g20 C0 hK hP (hd.1 _ (by decide)) 5 (by decide) fl_X9_19 rfl dX9_landingTold_10 ?_
      refine lv_iload_n C0.1 C0.2.1 dX9_landingTold_13 rfl (lv_at hl 1 rfl) ?_
      refine mld (k := 3) (by decide) C0 hK hP (hd.1 _ (by decide)) (v := S 3 x) (vp_in_nI (show x < 8 by omega) (by decide)) ((rg_in (n := 8) (vp_in_nI (show x < 8 by omega) (by decide))).symm.trans (rg_nI (show x < 8 by omega) (by decide))) dX9_landingTold_14 ?_
      refine lv_bipush (v := 14) C0.1 C0.2.1 dX9_landingTold_15 (by decide) ?_
      refine lv_irem C0.1 C0.2.1 dX9_landingTold_17 (by decide) ?_
      refine lv_goto (tgt := 30) C0.1 C0.2.1 dX9_landingTold_18 (by decide) ?_
      exact rtI C0 hr hlk hP hS ⟨by rw [show q = 0 from nI_inj (b := 0) (by omega) (by omega) c_6]; rfl, rfl, rfl⟩ dX9_landingTold_30
theorem k_X9_landingTold {n : List Nat} (hd : Hd n a I) (hsub : ∀ k ∈ nM, k ∈ n) (C0 : CallFix p m c cc nL s args GW own) (hK : KK D cA s) (hP : WQ D cA a S X I H) {x : Nat} {q : Nat} {P : Nat} {L : Nat} {T : Nat} (hnP : S 82 0 = nI P) (hnT : S 85 0 = nI T) (hT30 : T ≤ 30) (hTW : TW S P L) (hx : x < L) (hq : q < 5) {v : Int32} (hv : (lanS S P T x (nI q)) = v) (hS : va_S A0 H0 H locs) (hA : ∀ q, AI a I q → A0 q) (hls : ls.size = nL) {idx : Nat} (hlink : Cond.methodLink own idx yX9_landingTold ∈ GW) (hR : 3 ≤ R.frames ∧ 68 ≤ R.locals) (hcs : cells ≤ R.cells ∧ slots ≤ R.slots) (hrest : (rest.map fun v => v.category).sum ≤ 8) (hdg : decode cc pc = .ok (.invokevirtual idx, 3)) (kk : ∀ (H1 : Heap) (locs1 : List Loc), WQ D cA a S X I H1 → va_S A0 H0 H1 locs1 → W p l e R s m args below meth c H1 locs1 cells slots Q (F0 m (pc + 3) ls (.int v :: rest))) : W p l e R s m args below meth c H locs cells slots Q (F0 m pc ls (.int (nI q) :: .int (nI x) :: .ref (a 20) :: rest)) := by
  subst hv
  exact hoI (qV (n := 2) (c_X9_landingTold l D cA a S X I (hd.sub hsub) x q hnP hnT hT30 hTW hx hq) C0 hlink im_X9_landingTold se_X9_landingTold in_X9 co_X9_landingTold ⟨rfl, by decide⟩ hR hK hP (hd.1 _ (hsub _ (by decide))) rfl rfl rfl hls hrest rfl hdg hcs) hS hA (fun r S1 X1 H1 locs1 hp hP1 hS1 => by obtain ⟨rfl, rfl, rfl⟩ := hp; exact kk H1 locs1 hP1 hS1)
set_option maxHeartbeats 4000000 in
set_option maxRecDepth 100000 in
theorem c_X9_counted (l : Launch) (D : va_G) (cA : ClassId) (a : Adr) (S X : Mem) (I : Nat → Prop) (hd : Hd nM a I) (q : Nat) {P : Nat} {L : Nat} {T : Nat} {h : Nat} (hnP : S 82 0 = nI P) (hnL : S 81 0 = nI L) (hnT : S 85 0 = nI T) (hT30 : T ≤ 30) (hnH : S 86 0 = nI h) (hh : h < 2 ^ 31) (hTW : TW S P L) (hq : q < 11) : NI l yX9_counted cX9_counted 4 (some .int) 4 87 D cA a S X I [.ref (a 20), .int (nI q)] (fun r S1 X1 => r = (couS S P L T h (nI q)) ∧ S1 = S ∧ X1 = X) := by
  refine nGo (by decide) (Nat.le_of_ble_eq_true rfl) ?_
  intro p e s m args below meth c ls C0 hr hlk hK hP hS hl hargs
  obtain ⟨H, hHe⟩ : ∃ H, H = s.heap := ⟨_, rfl⟩
  obtain ⟨locs, hlo⟩ : ∃ L : List Loc, L = [] := ⟨_, rfl⟩
  have hP : WQ D cA a S X I H := hHe ▸ hP
  have hS : va_S (AI a I) s.heap H locs := by rw [hHe, hlo]; exact hS
  rw [← hHe, ← hlo]
  have hA : ∀ q, AI a I q → AI a I q := fun _ h => h
  obtain ⟨hLnk, hP6, hL8, h17, h16, h8, h3, h2⟩ := id hTW
  refine lv_iconst (v := 0) C0.1 C0.2.1 dX9_counted_0 (by decide) ?_
  refine lv_istore_n (lv' := [(2, .int 0), (0, .ref (a 20)), (1, .int (nI q))]) C0.1 C0.2.1 dX9_counted_1 rfl hl (by decide) rfl (fun ls hl => ?_)
  refine lv_iload_n C0.1 C0.2.1 dX9_counted_2 rfl (lv_at hl 2 rfl) ?_
  have hq9 : q = 0 ∨ q = 1 ∨ q = 2 ∨ q = 3 ∨ q = 4 ∨ q = 5 ∨ q = 6 ∨ q = 7 ∨ q = 8 ∨ q = 9 ∨ q = 10 := by omega
  rcases hq9 with rfl | rfl | rfl | rfl | rfl | rfl | rfl | rfl | rfl | rfl | rfl
  · have hl : lv_has ls 4 [(2, .int 0), (0, .ref (a 20)), (1, .int 0)] := hl
    refine lv_tableIn (off := 57) (tgt := 60) C0.1 C0.2.1 dX9_counted_3 (by decide) (by decide) (by decide) (by decide) ?_
    refine lv_aload_n C0.1 C0.2.1 dX9_counted_60 rfl (lv_at hl 1 rfl) ?_
    refine g20i (v := nI h) C0 hK hP (hd.1 _ (by decide)) 9 (by decide) fl_X9_54 rfl hnH dX9_counted_61 ?_
    exact rtI C0 hr hlk hP hS ⟨rfl, rfl, rfl⟩ dX9_counted_64
  · have hl : lv_has ls 4 [(2, .int 0), (0, .ref (a 20)), (1, .int 1)] := hl
    refine lv_tableIn (off := 62) (tgt := 65) C0.1 C0.2.1 dX9_counted_3 (by decide) (by decide) (by decide) (by decide) ?_
    refine lv_aload_n C0.1 C0.2.1 dX9_counted_65 rfl (lv_at hl 1 rfl) ?_
    refine k_X9_level hd sId C0 hK hP hnH hh (v := lvS S h) rfl hS hA hl.1 ml_X9_80 ⟨Nat.le_of_ble_eq_true rfl, Nat.le_of_ble_eq_true rfl⟩ ⟨Nat.zero_le _, Nat.zero_le _⟩ (Nat.le_of_ble_eq_true rfl) dX9_counted_66 (fun H locs hP hS => ?_)
    exact rtI C0 hr hlk hP hS ⟨rfl, rfl, rfl⟩ dX9_counted_69
  · have hl : lv_has ls 4 [(2, .int 0), (0, .ref (a 20)), (1, .int 2)] := hl
    refine lv_tableIn (off := 67) (tgt := 70) C0.1 C0.2.1 dX9_counted_3 (by decide) (by decide) (by decide) (by decide) ?_
    refine lv_aload_n C0.1 C0.2.1 dX9_counted_70 rfl (lv_at hl 1 rfl) ?_
    refine g20i (v := nI L) C0 hK hP (hd.1 _ (by decide)) 4 (by decide) fl_X9_48 rfl hnL dX9_counted_71 ?_
    exact rtI C0 hr hlk hP hS ⟨rfl, rfl, rfl⟩ dX9_counted_74
  · have hl : lv_has ls 4 [(2, .int 0), (0, .ref (a 20)), (1, .int 3)] := hl
    refine lv_tableIn (off := 72) (tgt := 75) C0.1 C0.2.1 dX9_counted_3 (by decide) (by decide) (by decide) (by decide) ?_
    refine lv_aload_n C0.1 C0.2.1 dX9_counted_75 rfl (lv_at hl 1 rfl) ?_
    refine g20i (v := nI P) C0 hK hP (hd.1 _ (by decide)) 6 (by decide) fl_X9_51 rfl hnP dX9_counted_76 ?_
    exact rtI C0 hr hlk hP hS ⟨rfl, rfl, rfl⟩ dX9_counted_79
  · have hl : lv_has ls 4 [(2, .int 0), (0, .ref (a 20)), (1, .int 4)] := hl
    refine lv_tableIn (off := 77) (tgt := 80) C0.1 C0.2.1 dX9_counted_3 (by decide) (by decide) (by decide) (by decide) ?_
    refine lv_aload_n C0.1 C0.2.1 dX9_counted_80 rfl (lv_at hl 1 rfl) ?_
    refine g20i (v := nI T) C0 hK hP (hd.1 _ (by decide)) 8 (by decide) fl_X9_113 rfl hnT dX9_counted_81 ?_
    exact rtI C0 hr hlk hP hS ⟨rfl, rfl, rfl⟩ dX9_counted_84
  · have hl : lv_has ls 4 [(2, .int 0), (0, .ref (a 20)), (1, .int 5)] := hl
    refine lv_tableIn (off := 186) (tgt := 189) C0.1 C0.2.1 dX9_counted_3 (by decide) (by decide) (by decide) (by decide) ?_
    refine lv_iconst (v := 0) C0.1 C0.2.1 dX9_counted_189 (by decide) ?_
    refine lv_istore_n (lv' := [(3, .int 0), (2, .int 0), (0, .ref (a 20)), (1, .int 5)]) C0.1 C0.2.1 dX9_counted_190 rfl hl (by decide) rfl (fun ls hl => ?_)
    have loop191 : ∀ (n : Nat) (i : Nat) (f : Int32), (i ≤ T) → (T + 1 ≤ i + n) → (f = nI (cnt (fun t => decide (S 24 t = -1) && decide (S 23 t = -1)) i)) → ∀ (H : Heap) (locs : List Loc) (ls : Array Slot), WQ D cA a S X I H → va_S (AI a I) s.heap H locs → lv_has ls 4 [(3, .int (nI i)), (2, .int f), (0, .ref (a 20)), (1, .int 5)] → W p l e { frames := 4, cells := 0, slots := 0, locals := 87 } s m args below meth c H locs (0) (0) (MQ below (QqI D cA a I (fun r S1 X1 => r = (couS S P L T h (nI 5)) ∧ S1 = S ∧ X1 = X)) args s 0 0 (AI a I)) (F0 m 191 ls []) := by
      intro n
      induction n with
      | zero => intro i f hi hf hcn; exfalso; omega
      | succ n ih191 =>
        intro i f hi hf hcn H locs ls hP hS hl
        refine lv_iload_n C0.1 C0.2.1 dX9_counted_191 rfl (lv_at hl 0 rfl) ?_
        refine lv_aload_n C0.1 C0.2.1 dX9_counted_192 rfl (lv_at hl 2 rfl) ?_
        refine g20i (v := nI T) C0 hK hP (hd.1 _ (by decide)) 8 (by decide) fl_X9_113 rfl hnT dX9_counted_193 ?_
        refine lv_icmp_ge (tgt := 246) C0.1 C0.2.1 dX9_counted_196 (by decide) (fun c_196 => ?_) (fun c_196 => ?_)
        · have hge : T ≤ i := (nI_leI (by omega) (by omega)).mp c_196
          refine lv_iload_n C0.1 C0.2.1 dX9_counted_246 rfl (lv_at hl 1 rfl) ?_
          exact rtI C0 hr hlk hP hS ⟨by rw [hcn, show i = T by omega]; rfl, rfl, rfl⟩ dX9_counted_247
        · have hlt : i < T := Nat.not_le.mp fun q => c_196 (nI_le q (by omega))
          refine lv_iload_n C0.1 C0.2.1 dX9_counted_199 rfl (lv_at hl 1 rfl) ?_
          refine lv_aload_n C0.1 C0.2.1 dX9_counted_200 rfl (lv_at hl 2 rfl) ?_
          refine lv_iload_n C0.1 C0.2.1 dX9_counted_201 rfl (lv_at hl 0 rfl) ?_
          refine k_X9_hasCome hd sId C0 hK hP (by omega) (v := bI (!decide (S 24 i = -1))) rfl hS hA hl.1 ml_X9_144 ⟨Nat.le_of_ble_eq_true rfl, Nat.le_of_ble_eq_true rfl⟩ ⟨Nat.zero_le _, Nat.zero_le _⟩ (Nat.le_of_ble_eq_true rfl) dX9_counted_202 (fun H locs hP hS => ?_)
          refine lv_if_eq (tgt := 213) C0.1 C0.2.1 dX9_counted_205 (by decide) (fun c_205 => ?_) (fun c_205 => ?_)
          · have c_205 := bI_eq c_205
            have e24 : S 24 i = -1 := by simpa using c_205
            refine lv_aload_n C0.1 C0.2.1 dX9_counted_213 rfl (lv_at hl 2 rfl) ?_
            refine lv_iload_n C0.1 C0.2.1 dX9_counted_214 rfl (lv_at hl 0 rfl) ?_
            refine lv_iconst (v := 3) C0.1 C0.2.1 dX9_counted_215 (by decide) ?_
            refine k_X9_who_3 hd sId C0 hK hP (by omega) (v := S 23 i) rfl hS hA hl.1 ml_X9_116 ⟨Nat.le_of_ble_eq_true rfl, Nat.le_of_ble_eq_true rfl⟩ ⟨Nat.zero_le _, Nat.zero_le _⟩ (Nat.le_of_ble_eq_true rfl) dX9_counted_216 (fun H locs hP hS => ?_)
            refine lv_iconst (v := (-1)) C0.1 C0.2.1 dX9_counted_219 (by decide) ?_
            refine lv_icmp_eq (tgt := 228) C0.1 C0.2.1 dX9_counted_220 (by decide) (fun c_220 => ?_) (fun c_220 => ?_)
            · refine lv_iconst (v := 5) C0.1 C0.2.1 dX9_counted_228 (by decide) ?_
              refine lv_iload_n C0.1 C0.2.1 dX9_counted_229 rfl (lv_at hl 3 rfl) ?_
              refine lv_icmp_ne (tgt := 237) C0.1 C0.2.1 dX9_counted_230 (by decide) (fun c_230 => ?_) (fun c_230 => ?_)
              · refine lv_iconst (v := 0) C0.1 C0.2.1 dX9_counted_237 (by decide) ?_
                refine lv_iadd C0.1 C0.2.1 dX9_counted_238 ?_
                refine lv_istore_n (lv' := [(2, .int (f + 0)), (3, .int (nI i)), (0, .ref (a 20)), (1, .int 5)]) C0.1 C0.2.1 dX9_counted_239 rfl hl (by decide) rfl (fun ls hl => ?_)
                refine lv_iinc (v := nI (i + 1)) (lv' := [(3, .int (nI (i + 1))), (2, .int (f + 0)), (0, .ref (a 20)), (1, .int 5)]) C0.1 C0.2.1 dX9_counted_240 hl (k := 1) rfl (nI_1 _) (by decide) rfl (fun ls hl => ?_)
                refine lv_goto (tgt := 191) C0.1 C0.2.1 dX9_counted_243 (by decide) ?_
                exact ih191 (i + 1) _ (by omega) (by omega) (absurd c_230 (by decide)) _ _ _ hP hS (lv_sub hl [0, 1, 2, 3] rfl)
              · refine lv_iconst (v := 1) C0.1 C0.2.1 dX9_counted_233 (by decide) ?_
                refine lv_goto (tgt := 238) C0.1 C0.2.1 dX9_counted_234 (by decide) ?_
                refine lv_iadd C0.1 C0.2.1 dX9_counted_238 ?_
                refine lv_istore_n (lv' := [(2, .int (f + 1)), (3, .int (nI i)), (0, .ref (a 20)), (1, .int 5)]) C0.1 C0.2.1 dX9_counted_239 rfl hl (by decide) rfl (fun ls hl => ?_)
                refine lv_iinc (v := nI (i + 1)) (lv' := [(3, .int (nI (i + 1))), (2, .int (f + 1)), (0, .ref (a 20)), (1, .int 5)]) C0.1 C0.2.1 dX9_counted_240 hl (k := 1) rfl (nI_1 _) (by decide) rfl (fun ls hl => ?_)
                refine lv_goto (tgt := 191) C0.1 C0.2.1 dX9_counted_243 (by decide) ?_
                exact ih191 (i + 1) _ (by omega) (by omega) (by rw [hcn, cnt_yes (by simp [e24, c_220]), nI_1]) _ _ _ hP hS (lv_sub hl [0, 1, 2, 3] rfl)
            · refine lv_bipush (v := 6) C0.1 C0.2.1 dX9_counted_223 (by decide) ?_
              refine lv_goto (tgt := 229) C0.1 C0.2.1 dX9_counted_225 (by decide) ?_
              refine lv_iload_n C0.1 C0.2.1 dX9_counted_229 rfl (lv_at hl 3 rfl) ?_
              refine lv_icmp_ne (tgt := 237) C0.1 C0.2.1 dX9_counted_230 (by decide) (fun c_230 => ?_) (fun c_230 => ?_)
              · refine lv_iconst (v := 0) C0.1 C0.2.1 dX9_counted_237 (by decide) ?_
                refine lv_iadd C0.1 C0.2.1 dX9_counted_238 ?_
                refine lv_istore_n (lv' := [(2, .int (f + 0)), (3, .int (nI i)), (0, .ref (a 20)), (1, .int 5)]) C0.1 C0.2.1 dX9_counted_239 rfl hl (by decide) rfl (fun ls hl => ?_)
                refine lv_iinc (v := nI (i + 1)) (lv' := [(3, .int (nI (i + 1))), (2, .int (f + 0)), (0, .ref (a 20)), (1, .int 5)]) C0.1 C0.2.1 dX9_counted_240 hl (k := 1) rfl (nI_1 _) (by decide) rfl (fun ls hl => ?_)
                refine lv_goto (tgt := 191) C0.1 C0.2.1 dX9_counted_243 (by decide) ?_
                exact ih191 (i + 1) _ (by omega) (by omega) (by rw [hcn, cnt_no (by simp [e24, c_220]), Int32.add_zero]) _ _ _ hP hS (lv_sub hl [0, 1, 2, 3] rfl)
              · refine lv_iconst (v := 1) C0.1 C0.2.1 dX9_counted_233 (by decide) ?_
                refine lv_goto (tgt := 238) C0.1 C0.2.1 dX9_counted_234 (by decide) ?_
                refine lv_iadd C0.1 C0.2.1 dX9_counted_238 ?_
                refine lv_istore_n (lv' := [(2, .int (f + 1)), (3, .int (nI i)), (0, .ref (a 20)), (1, .int 5)]) C0.1 C0.2.1 dX9_counted_239 rfl hl (by decide) rfl (fun ls hl => ?_)
                refine lv_iinc (v := nI (i + 1)) (lv' := [(3, .int (nI (i + 1))), (2, .int (f + 1)), (0, .ref (a 20)), (1, .int 5)]) C0.1 C0.2.1 dX9_counted_240 hl (k := 1) rfl (nI_1 _) (by decide) rfl (fun ls hl => ?_)
                refine lv_goto (tgt := 191) C0.1 C0.2.1 dX9_counted_243 (by decide) ?_
                exact ih191 (i + 1) _ (by omega) (by omega) (absurd c_230 (by decide)) _ _ _ hP hS (lv_sub hl [0, 1, 2, 3] rfl)
          · have c_205 := bI_ne c_205
            have e24 : ¬ S 24 i = -1 := by simpa using c_205
            refine lv_bipush (v := 7) C0.1 C0.2.1 dX9_counted_208 (by decide) ?_
            refine lv_goto (tgt := 229) C0.1 C0.2.1 dX9_counted_210 (by decide) ?_
            refine lv_iload_n C0.1 C0.2.1 dX9_counted_229 rfl (lv_at hl 3 rfl) ?_
            refine lv_icmp_ne (tgt := 237) C0.1 C0.2.1 dX9_counted_230 (by decide) (fun c_230 => ?_) (fun c_230 => ?_)
            · refine lv_iconst (v := 0) C0.1 C0.2.1 dX9_counted_237 (by decide) ?_
              refine lv_iadd C0.1 C0.2.1 dX9_counted_238 ?_
              refine lv_istore_n (lv' := [(2, .int (f + 0)), (3, .int (nI i)), (0, .ref (a 20)), (1, .int 5)]) C0.1 C0.2.1 dX9_counted_239 rfl hl (by decide) rfl (fun ls hl => ?_)
              refine lv_iinc (v := nI (i + 1)) (lv' := [(3, .int (nI (i + 1))), (2, .int (f + 0)), (0, .ref (a 20)), (1, .int 5)]) C0.1 C0.2.1 dX9_counted_240 hl (k := 1) rfl (nI_1 _) (by decide) rfl (fun ls hl => ?_)
              refine lv_goto (tgt := 191) C0.1 C0.2.1 dX9_counted_243 (by decide) ?_
              exact ih191 (i + 1) _ (by omega) (by omega) (by rw [hcn, cnt_no (by simp [e24]), Int32.add_zero]) _ _ _ hP hS (lv_sub hl [0, 1, 2, 3] rfl)
            · refine lv_iconst (v := 1) C0.1 C0.2.1 dX9_counted_233 (by decide) ?_
              refine lv_goto (tgt := 238) C0.1 C0.2.1 dX9_counted_234 (by decide) ?_
              refine lv_iadd C0.1 C0.2.1 dX9_counted_238 ?_
              refine lv_istore_n (lv' := [(2, .int (f + 1)), (3, .int (nI i)), (0, .ref (a 20)), (1, .int 5)]) C0.1 C0.2.1 dX9_counted_239 rfl hl (by decide) rfl (fun ls hl => ?_)
              refine lv_iinc (v := nI (i + 1)) (lv' := [(3, .int (nI (i + 1))), (2, .int (f + 1)), (0, .ref (a 20)), (1, .int 5)]) C0.1 C0.2.1 dX9_counted_240 hl (k := 1) rfl (nI_1 _) (by decide) rfl (fun ls hl => ?_)
              refine lv_goto (tgt := 191) C0.1 C0.2.1 dX9_counted_243 (by decide) ?_
              exact ih191 (i + 1) _ (by omega) (by omega) (absurd c_230 (by decide)) _ _ _ hP hS (lv_sub hl [0, 1, 2, 3] rfl)
    exact loop191 (T + 1) 0 0 (by omega) (by omega) nI_0.symm _ _ _ hP hS (lv_sub hl [0, 1, 2, 3] rfl)
  · have hl : lv_has ls 4 [(2, .int 0), (0, .ref (a 20)), (1, .int 6)] := hl
    refine lv_tableIn (off := 186) (tgt := 189) C0.1 C0.2.1 dX9_counted_3 (by decide) (by decide) (by decide) (by decide) ?_
    refine lv_iconst (v := 0) C0.1 C0.2.1 dX9_counted_189 (by decide) ?_
    refine lv_istore_n (lv' := [(3, .int 0), (2, .int 0), (0, .ref (a 20)), (1, .int 6)]) C0.1 C0.2.1 dX9_counted_190 rfl hl (by decide) rfl (fun ls hl => ?_)
    have loop191 : ∀ (n : Nat) (i : Nat) (f : Int32), (i ≤ T) → (T + 1 ≤ i + n) → (f = nI (cnt (fun t => decide (S 24 t = -1) && !decide (S 23 t = -1)) i)) → ∀ (H : Heap) (locs : List Loc) (ls : Array Slot), WQ D cA a S X I H → va_S (AI a I) s.heap H locs → lv_has ls 4 [(3, .int (nI i)), (2, .int f), (0, .ref (a 20)), (1, .int 6)] → W p l e { frames := 4, cells := 0, slots := 0, locals := 87 } s m args below meth c H locs (0) (0) (MQ below (QqI D cA a I (fun r S1 X1 => r = (couS S P L T h (nI 6)) ∧ S1 = S ∧ X1 = X)) args s 0 0 (AI a I)) (F0 m 191 ls []) := by
      intro n
      induction n with
      | zero => intro i f hi hf hcn; exfalso; omega
      | succ n ih191 =>
        intro i f hi hf hcn H locs ls hP hS hl
        refine lv_iload_n C0.1 C0.2.1 dX9_counted_191 rfl (lv_at hl 0 rfl) ?_
        refine lv_aload_n C0.1 C0.2.1 dX9_counted_192 rfl (lv_at hl 2 rfl) ?_
        refine g20i (v := nI T) C0 hK hP (hd.1 _ (by decide)) 8 (by decide) fl_X9_113 rfl hnT dX9_counted_193 ?_
        refine lv_icmp_ge (tgt := 246) C0.1 C0.2.1 dX9_counted_196 (by decide) (fun c_196 => ?_) (fun c_196 => ?_)
        · have hge : T ≤ i := (nI_leI (by omega) (by omega)).mp c_196
          refine lv_iload_n C0.1 C0.2.1 dX9_counted_246 rfl (lv_at hl 1 rfl) ?_
          exact rtI C0 hr hlk hP hS ⟨by rw [hcn, show i = T by omega]; rfl, rfl, rfl⟩ dX9_counted_247
        · have hlt : i < T := Nat.not_le.mp fun q => c_196 (nI_le q (by omega))
          refine lv_iload_n C0.1 C0.2.1 dX9_counted_199 rfl (lv_at hl 1 rfl) ?_
          refine lv_aload_n C0.1 C0.2.1 dX9_counted_200 rfl (lv_at hl 2 rfl) ?_
          refine lv_iload_n C0.1 C0.2.1 dX9_counted_201 rfl (lv_at hl 0 rfl) ?_
          refine k_X9_hasCome hd sId C0 hK hP (by omega) (v := bI (!decide (S 24 i = -1))) rfl hS hA hl.1 ml_X9_144 ⟨Nat.le_of_ble_eq_true rfl, Nat.le_of_ble_eq_true rfl⟩ ⟨Nat.zero_le _, Nat.zero_le _⟩ (Nat.le_of_ble_eq_true rfl) dX9_counted_202 (fun H locs hP hS => ?_)
          refine lv_if_eq (tgt := 213) C0.1 C0.2.1 dX9_counted_205 (by decide) (fun c_205 => ?_) (fun c_205 => ?_)
          · have c_205 := bI_eq c_205
            have e24 : S 24 i = -1 := by simpa using c_205
            refine lv_aload_n C0.1 C0.2.1 dX9_counted_213 rfl (lv_at hl 2 rfl) ?_
            refine lv_iload_n C0.1 C0.2.1 dX9_counted_214 rfl (lv_at hl 0 rfl) ?_
            refine lv_iconst (v := 3) C0.1 C0.2.1 dX9_counted_215 (by decide) ?_
            refine k_X9_who_3 hd sId C0 hK hP (by omega) (v := S 23 i) rfl hS hA hl.1 ml_X9_116 ⟨Nat.le_of_ble_eq_true rfl, Nat.le_of_ble_eq_true rfl⟩ ⟨Nat.zero_le _, Nat.zero_le _⟩ (Nat.le_of_ble_eq_true rfl) dX9_counted_216 (fun H locs hP hS => ?_)
            refine lv_iconst (v := (-1)) C0.1 C0.2.1 dX9_counted_219 (by decide) ?_
            refine lv_icmp_eq (tgt := 228) C0.1 C0.2.1 dX9_counted_220 (by decide) (fun c_220 => ?_) (fun c_220 => ?_)
            · refine lv_iconst (v := 5) C0.1 C0.2.1 dX9_counted_228 (by decide) ?_
              refine lv_iload_n C0.1 C0.2.1 dX9_counted_229 rfl (lv_at hl 3 rfl) ?_
              refine lv_icmp_ne (tgt := 237) C0.1 C0.2.1 dX9_counted_230 (by decide) (fun c_230 => ?_) (fun c_230 => ?_)
              · refine lv_iconst (v := 0) C0.1 C0.2.1 dX9_counted_237 (by decide) ?_
                refine lv_iadd C0.1 C0.2.1 dX9_counted_238 ?_
                refine lv_istore_n (lv' := [(2, .int (f + 0)), (3, .int (nI i)), (0, .ref (a 20)), (1, .int 6)]) C0.1 C0.2.1 dX9_counted_239 rfl hl (by decide) rfl (fun ls hl => ?_)
                refine lv_iinc (v := nI (i + 1)) (lv' := [(3, .int (nI (i + 1))), (2, .int (f + 0)), (0, .ref (a 20)), (1, .int 6)]) C0.1 C0.2.1 dX9_counted_240 hl (k := 1) rfl (nI_1 _) (by decide) rfl (fun ls hl => ?_)
                refine lv_goto (tgt := 191) C0.1 C0.2.1 dX9_counted_243 (by decide) ?_
                exact ih191 (i + 1) _ (by omega) (by omega) (by rw [hcn, cnt_no (by simp [e24, c_220]), Int32.add_zero]) _ _ _ hP hS (lv_sub hl [0, 1, 2, 3] rfl)
              · refine lv_iconst (v := 1) C0.1 C0.2.1 dX9_counted_233 (by decide) ?_
                refine lv_goto (tgt := 238) C0.1 C0.2.1 dX9_counted_234 (by decide) ?_
                refine lv_iadd C0.1 C0.2.1 dX9_counted_238 ?_
                refine lv_istore_n (lv' := [(2, .int (f + 1)), (3, .int (nI i)), (0, .ref (a 20)), (1, .int 6)]) C0.1 C0.2.1 dX9_counted_239 rfl hl (by decide) rfl (fun ls hl => ?_)
                refine lv_iinc (v := nI (i + 1)) (lv' := [(3, .int (nI (i + 1))), (2, .int (f + 1)), (0, .ref (a 20)), (1, .int 6)]) C0.1 C0.2.1 dX9_counted_240 hl (k := 1) rfl (nI_1 _) (by decide) rfl (fun ls hl => ?_)
                refine lv_goto (tgt := 191) C0.1 C0.2.1 dX9_counted_243 (by decide) ?_
                exact ih191 (i + 1) _ (by omega) (by omega) (absurd c_230 (by decide)) _ _ _ hP hS (lv_sub hl [0, 1, 2, 3] rfl)
            · refine lv_bipush (v := 6) C0.1 C0.2.1 dX9_counted_223 (by decide) ?_
              refine lv_goto (tgt := 229) C0.1 C0.2.1 dX9_counted_225 (by decide) ?_
              refine lv_iload_n C0.1 C0.2.1 dX9_counted_229 rfl (lv_at hl 3 rfl) ?_
              refine lv_icmp_ne (tgt := 237) C0.1 C0.2.1 dX9_counted_230 (by decide) (fun c_230 => ?_) (fun c_230 => ?_)
              · refine lv_iconst (v := 0) C0.1 C0.2.1 dX9_counted_237 (by decide) ?_
                refine lv_iadd C0.1 C0.2.1 dX9_counted_238 ?_
                refine lv_istore_n (lv' := [(2, .int (f + 0)), (3, .int (nI i)), (0, .ref (a 20)), (1, .int 6)]) C0.1 C0.2.1 dX9_counted_239 rfl hl (by decide) rfl (fun ls hl => ?_)
                refine lv_iinc (v := nI (i + 1)) (lv' := [(3, .int (nI (i + 1))), (2, .int (f + 0)), (0, .ref (a 20)), (1, .int 6)]) C0.1 C0.2.1 dX9_counted_240 hl (k := 1) rfl (nI_1 _) (by decide) rfl (fun ls hl => ?_)
                refine lv_goto (tgt := 191) C0.1 C0.2.1 dX9_counted_243 (by decide) ?_
                exact ih191 (i + 1) _ (by omega) (by omega) (absurd c_230 (by decide)) _ _ _ hP hS (lv_sub hl [0, 1, 2, 3] rfl)
              · refine lv_iconst (v := 1) C0.1 C0.2.1 dX9_counted_233 (by decide) ?_
                refine lv_goto (tgt := 238) C0.1 C0.2.1 dX9_counted_234 (by decide) ?_
                refine lv_iadd C0.1 C0.2.1 dX9_counted_238 ?_
                refine lv_istore_n (lv' := [(2, .int (f + 1)), (3, .int (nI i)), (0, .ref (a 20)), (1, .int 6)]) C0.1 C0.2.1 dX9_counted_239 rfl hl (by decide) rfl (fun ls hl => ?_)
                refine lv_iinc (v := nI (i + 1)) (lv' := [(3, .int (nI (i + 1))), (2, .int (f + 1)), (0, .ref (a 20)), (1, .int 6)]) C0.1 C0.2.1 dX9_counted_240 hl (k := 1) rfl (nI_1 _) (by decide) rfl (fun ls hl => ?_)
                refine lv_goto (tgt := 191) C0.1 C0.2.1 dX9_counted_243 (by decide) ?_
                exact ih191 (i + 1) _ (by omega) (by omega) (by rw [hcn, cnt_yes (by simp [e24, c_220]), nI_1]) _ _ _ hP hS (lv_sub hl [0, 1, 2, 3] rfl)
          · have c_205 := bI_ne c_205
            have e24 : ¬ S 24 i = -1 := by simpa using c_205
            refine lv_bipush (v := 7) C0.1 C0.2.1 dX9_counted_208 (by decide) ?_
            refine lv_goto (tgt := 229) C0.1 C0.2.1 dX9_counted_210 (by decide) ?_
            refine lv_iload_n C0.1 C0.2.1 dX9_counted_229 rfl (lv_at hl 3 rfl) ?_
            refine lv_icmp_ne (tgt := 237) C0.1 C0.2.1 dX9_counted_230 (by decide) (fun c_230 => ?_) (fun c_230 => ?_)
            · refine lv_iconst (v := 0) C0.1 C0.2.1 dX9_counted_237 (by decide) ?_
              refine lv_iadd C0.1 C0.2.1 dX9_counted_238 ?_
              refine lv_istore_n (lv' := [(2, .int (f + 0)), (3, .int (nI i)), (0, .ref (a 20)), (1, .int 6)]) C0.1 C0.2.1 dX9_counted_239 rfl hl (by decide) rfl (fun ls hl => ?_)
              refine lv_iinc (v := nI (i + 1)) (lv' := [(3, .int (nI (i + 1))), (2, .int (f + 0)), (0, .ref (a 20)), (1, .int 6)]) C0.1 C0.2.1 dX9_counted_240 hl (k := 1) rfl (nI_1 _) (by decide) rfl (fun ls hl => ?_)
              refine lv_goto (tgt := 191) C0.1 C0.2.1 dX9_counted_243 (by decide) ?_
              exact ih191 (i + 1) _ (by omega) (by omega) (by rw [hcn, cnt_no (by simp [e24]), Int32.add_zero]) _ _ _ hP hS (lv_sub hl [0, 1, 2, 3] rfl)
            · refine lv_iconst (v := 1) C0.1 C0.2.1 dX9_counted_233 (by decide) ?_
              refine lv_goto (tgt := 238) C0.1 C0.2.1 dX9_counted_234 (by decide) ?_
              refine lv_iadd C0.1 C0.2.1 dX9_counted_238 ?_
              refine lv_istore_n (lv' := [(2, .int (f + 1)), (3, .int (nI i)), (0, .ref (a 20)), (1, .int 6)]) C0.1 C0.2.1 dX9_counted_239 rfl hl (by decide) rfl (fun ls hl => ?_)
              refine lv_iinc (v := nI (i + 1)) (lv' := [(3, .int (nI (i + 1))), (2, .int (f + 1)), (0, .ref (a 20)), (1, .int 6)]) C0.1 C0.2.1 dX9_counted_240 hl (k := 1) rfl (nI_1 _) (by decide) rfl (fun ls hl => ?_)
              refine lv_goto (tgt := 191) C0.1 C0.2.1 dX9_counted_243 (by decide) ?_
              exact ih191 (i + 1) _ (by omega) (by omega) (absurd c_230 (by decide)) _ _ _ hP hS (lv_sub hl [0, 1, 2, 3] rfl)
    exact loop191 (T + 1) 0 0 (by omega) (by omega) nI_0.symm _ _ _ hP hS (lv_sub hl [0, 1, 2, 3] rfl)
  · have hl : lv_has ls 4 [(2, .int 0), (0, .ref (a 20)), (1, .int 7)] := hl
    refine lv_tableIn (off := 186) (tgt := 189) C0.1 C0.2.1 dX9_counted_3 (by decide) (by decide) (by decide) (by decide) ?_
    refine lv_iconst (v := 0) C0.1 C0.2.1 dX9_counted_189 (by decide) ?_
    refine lv_istore_n (lv' := [(3, .int 0), (2, .int 0), (0, .ref (a 20)), (1, .int 7)]) C0.1 C0.2.1 dX9_counted_190 rfl hl (by decide) rfl (fun ls hl => ?_)
    have loop191 : ∀ (n : Nat) (i : Nat) (f : Int32), (i ≤ T) → (T + 1 ≤ i + n) → (f = nI (cnt (fun t => !decide (S 24 t = -1)) i)) → ∀ (H : Heap) (locs : List Loc) (ls : Array Slot), WQ D cA a S X I H → va_S (AI a I) s.heap H locs → lv_has ls 4 [(3, .int (nI i)), (2, .int f), (0, .ref (a 20)), (1, .int 7)] → W p l e { frames := 4, cells := 0, slots := 0, locals := 87 } s m args below meth c H locs (0) (0) (MQ below (QqI D cA a I (fun r S1 X1 => r = (couS S P L T h (nI 7)) ∧ S1 = S ∧ X1 = X)) args s 0 0 (AI a I)) (F0 m 191 ls []) := by
      intro n
      induction n with
      | zero => intro i f hi hf hcn; exfalso; omega
      | succ n ih191 =>
        intro i f hi hf hcn H locs ls hP hS hl
        refine lv_iload_n C0.1 C0.2.1 dX9_counted_191 rfl (lv_at hl 0 rfl) ?_
        refine lv_aload_n C0.1 C0.2.1 dX9_counted_192 rfl (lv_at hl 2 rfl) ?_
        refine g20i (v := nI T) C0 hK hP (hd.1 _ (by decide)) 8 (by decide) fl_X9_113 rfl hnT dX9_counted_193 ?_
        refine lv_icmp_ge (tgt := 246) C0.1 C0.2.1 dX9_counted_196 (by decide) (fun c_196 => ?_) (fun c_196 => ?_)
        · have hge : T ≤ i := (nI_leI (by omega) (by omega)).mp c_196
          refine lv_iload_n C0.1 C0.2.1 dX9_counted_246 rfl (lv_at hl 1 rfl) ?_
          exact rtI C0 hr hlk hP hS ⟨by rw [hcn, show i = T by omega]; rfl, rfl, rfl⟩ dX9_counted_247
        · have hlt : i < T := Nat.not_le.mp fun q => c_196 (nI_le q (by omega))
          refine lv_iload_n C0.1 C0.2.1 dX9_counted_199 rfl (lv_at hl 1 rfl) ?_
          refine lv_aload_n C0.1 C0.2.1 dX9_counted_200 rfl (lv_at hl 2 rfl) ?_
          refine lv_iload_n C0.1 C0.2.1 dX9_counted_201 rfl (lv_at hl 0 rfl) ?_
          refine k_X9_hasCome hd sId C0 hK hP (by omega) (v := bI (!decide (S 24 i = -1))) rfl hS hA hl.1 ml_X9_144 ⟨Nat.le_of_ble_eq_true rfl, Nat.le_of_ble_eq_true rfl⟩ ⟨Nat.zero_le _, Nat.zero_le _⟩ (Nat.le_of_ble_eq_true rfl) dX9_counted_202 (fun H locs hP hS => ?_)
          refine lv_if_eq (tgt := 213) C0.1 C0.2.1 dX9_counted_205 (by decide) (fun c_205 => ?_) (fun c_205 => ?_)
          · have c_205 := bI_eq c_205
            have e24 : S 24 i = -1 := by simpa using c_205
            refine lv_aload_n C0.1 C0.2.1 dX9_counted_213 rfl (lv_at hl 2 rfl) ?_
            refine lv_iload_n C0.1 C0.2.1 dX9_counted_214 rfl (lv_at hl 0 rfl) ?_
            refine lv_iconst (v := 3) C0.1 C0.2.1 dX9_counted_215 (by decide) ?_
            refine k_X9_who_3 hd sId C0 hK hP (by omega) (v := S 23 i) rfl hS hA hl.1 ml_X9_116 ⟨Nat.le_of_ble_eq_true rfl, Nat.le_of_ble_eq_true rfl⟩ ⟨Nat.zero_le _, Nat.zero_le _⟩ (Nat.le_of_ble_eq_true rfl) dX9_counted_216 (fun H locs hP hS => ?_)
            refine lv_iconst (v := (-1)) C0.1 C0.2.1 dX9_counted_219 (by decide) ?_
            refine lv_icmp_eq (tgt := 228) C0.1 C0.2.1 dX9_counted_220 (by decide) (fun c_220 => ?_) (fun c_220 => ?_)
            · refine lv_iconst (v := 5) C0.1 C0.2.1 dX9_counted_228 (by decide) ?_
              refine lv_iload_n C0.1 C0.2.1 dX9_counted_229 rfl (lv_at hl 3 rfl) ?_
              refine lv_icmp_ne (tgt := 237) C0.1 C0.2.1 dX9_counted_230 (by decide) (fun c_230 => ?_) (fun c_230 => ?_)
              · refine lv_iconst (v := 0) C0.1 C0.2.1 dX9_counted_237 (by decide) ?_
                refine lv_iadd C0.1 C0.2.1 dX9_counted_238 ?_
                refine lv_istore_n (lv' := [(2, .int (f + 0)), (3, .int (nI i)), (0, .ref (a 20)), (1, .int 7)]) C0.1 C0.2.1 dX9_counted_239 rfl hl (by decide) rfl (fun ls hl => ?_)
                refine lv_iinc (v := nI (i + 1)) (lv' := [(3, .int (nI (i + 1))), (2, .int (f + 0)), (0, .ref (a 20)), (1, .int 7)]) C0.1 C0.2.1 dX9_counted_240 hl (k := 1) rfl (nI_1 _) (by decide) rfl (fun ls hl => ?_)
                refine lv_goto (tgt := 191) C0.1 C0.2.1 dX9_counted_243 (by decide) ?_
                exact ih191 (i + 1) _ (by omega) (by omega) (by rw [hcn, cnt_no (by simp [e24, c_220]), Int32.add_zero]) _ _ _ hP hS (lv_sub hl [0, 1, 2, 3] rfl)
              · refine lv_iconst (v := 1) C0.1 C0.2.1 dX9_counted_233 (by decide) ?_
                refine lv_goto (tgt := 238) C0.1 C0.2.1 dX9_counted_234 (by decide) ?_
                refine lv_iadd C0.1 C0.2.1 dX9_counted_238 ?_
                refine lv_istore_n (lv' := [(2, .int (f + 1)), (3, .int (nI i)), (0, .ref (a 20)), (1, .int 7)]) C0.1 C0.2.1 dX9_counted_239 rfl hl (by decide) rfl (fun ls hl => ?_)
                refine lv_iinc (v := nI (i + 1)) (lv' := [(3, .int (nI (i + 1))), (2, .int (f + 1)), (0, .ref (a 20)), (1, .int 7)]) C0.1 C0.2.1 dX9_counted_240 hl (k := 1) rfl (nI_1 _) (by decide) rfl (fun ls hl => ?_)
                refine lv_goto (tgt := 191) C0.1 C0.2.1 dX9_counted_243 (by decide) ?_
                exact ih191 (i + 1) _ (by omega) (by omega) (absurd c_230 (by decide)) _ _ _ hP hS (lv_sub hl [0, 1, 2, 3] rfl)
            · refine lv_bipush (v := 6) C0.1 C0.2.1 dX9_counted_223 (by decide) ?_
              refine lv_goto (tgt := 229) C0.1 C0.2.1 dX9_counted_225 (by decide) ?_
              refine lv_iload_n C0.1 C0.2.1 dX9_counted_229 rfl (lv_at hl 3 rfl) ?_
              refine lv_icmp_ne (tgt := 237) C0.1 C0.2.1 dX9_counted_230 (by decide) (fun c_230 => ?_) (fun c_230 => ?_)
              · refine lv_iconst (v := 0) C0.1 C0.2.1 dX9_counted_237 (by decide) ?_
                refine lv_iadd C0.1 C0.2.1 dX9_counted_238 ?_
                refine lv_istore_n (lv' := [(2, .int (f + 0)), (3, .int (nI i)), (0, .ref (a 20)), (1, .int 7)]) C0.1 C0.2.1 dX9_counted_239 rfl hl (by decide) rfl (fun ls hl => ?_)
                refine lv_iinc (v := nI (i + 1)) (lv' := [(3, .int (nI (i + 1))), (2, .int (f + 0)), (0, .ref (a 20)), (1, .int 7)]) C0.1 C0.2.1 dX9_counted_240 hl (k := 1) rfl (nI_1 _) (by decide) rfl (fun ls hl => ?_)
                refine lv_goto (tgt := 191) C0.1 C0.2.1 dX9_counted_243 (by decide) ?_
                exact ih191 (i + 1) _ (by omega) (by omega) (by rw [hcn, cnt_no (by simp [e24, c_220]), Int32.add_zero]) _ _ _ hP hS (lv_sub hl [0, 1, 2, 3] rfl)
              · refine lv_iconst (v := 1) C0.1 C0.2.1 dX9_counted_233 (by decide) ?_
                refine lv_goto (tgt := 238) C0.1 C0.2.1 dX9_counted_234 (by decide) ?_
                refine lv_iadd C0.1 C0.2.1 dX9_counted_238 ?_
                refine lv_istore_n (lv' := [(2, .int (f + 1)), (3, .int (nI i)), (0, .ref (a 20)), (1, .int 7)]) C0.1 C0.2.1 dX9_counted_239 rfl hl (by decide) rfl (fun ls hl => ?_)
                refine lv_iinc (v := nI (i + 1)) (lv' := [(3, .int (nI (i + 1))), (2, .int (f + 1)), (0, .ref (a 20)), (1, .int 7)]) C0.1 C0.2.1 dX9_counted_240 hl (k := 1) rfl (nI_1 _) (by decide) rfl (fun ls hl => ?_)
                refine lv_goto (tgt := 191) C0.1 C0.2.1 dX9_counted_243 (by decide) ?_
                exact ih191 (i + 1) _ (by omega) (by omega) (absurd c_230 (by decide)) _ _ _ hP hS (lv_sub hl [0, 1, 2, 3] rfl)
          · have c_205 := bI_ne c_205
            have e24 : ¬ S 24 i = -1 := by simpa using c_205
            refine lv_bipush (v := 7) C0.1 C0.2.1 dX9_counted_208 (by decide) ?_
            refine lv_goto (tgt := 229) C0.1 C0.2.1 dX9_counted_210 (by decide) ?_
            refine lv_iload_n C0.1 C0.2.1 dX9_counted_229 rfl (lv_at hl 3 rfl) ?_
            refine lv_icmp_ne (tgt := 237) C0.1 C0.2.1 dX9_counted_230 (by decide) (fun c_230 => ?_) (fun c_230 => ?_)
            · refine lv_iconst (v := 0) C0.1 C0.2.1 dX9_counted_237 (by decide) ?_
              refine lv_iadd C0.1 C0.2.1 dX9_counted_238 ?_
              refine lv_istore_n (lv' := [(2, .int (f + 0)), (3, .int (nI i)), (0, .ref (a 20)), (1, .int 7)]) C0.1 C0.2.1 dX9_counted_239 rfl hl (by decide) rfl (fun ls hl => ?_)
              refine lv_iinc (v := nI (i + 1)) (lv' := [(3, .int (nI (i + 1))), (2, .int (f + 0)), (0, .ref (a 20)), (1, .int 7)]) C0.1 C0.2.1 dX9_counted_240 hl (k := 1) rfl (nI_1 _) (by decide) rfl (fun ls hl => ?_)
              refine lv_goto (tgt := 191) C0.1 C0.2.1 dX9_counted_243 (by decide) ?_
              exact ih191 (i + 1) _ (by omega) (by omega) (absurd c_230 (by decide)) _ _ _ hP hS (lv_sub hl [0, 1, 2, 3] rfl)
            · refine lv_iconst (v := 1) C0.1 C0.2.1 dX9_counted_233 (by decide) ?_
              refine lv_goto (tgt := 238) C0.1 C0.2.1 dX9_counted_234 (by decide) ?_
              refine lv_iadd C0.1 C0.2.1 dX9_counted_238 ?_
              refine lv_istore_n (lv' := [(2, .int (f + 1)), (3, .int (nI i)), (0, .ref (a 20)), (1, .int 7)]) C0.1 C0.2.1 dX9_counted_239 rfl hl (by decide) rfl (fun ls hl => ?_)
              refine lv_iinc (v := nI (i + 1)) (lv' := [(3, .int (nI (i + 1))), (2, .int (f + 1)), (0, .ref (a 20)), (1, .int 7)]) C0.1 C0.2.1 dX9_counted_240 hl (k := 1) rfl (nI_1 _) (by decide) rfl (fun ls hl => ?_)
              refine lv_goto (tgt := 191) C0.1 C0.2.1 dX9_counted_243 (by decide) ?_
              exact ih191 (i + 1) _ (by omega) (by omega) (by rw [hcn, cnt_yes (by simp [e24]), nI_1]) _ _ _ hP hS (lv_sub hl [0, 1, 2, 3] rfl)
    exact loop191 (T + 1) 0 0 (by omega) (by omega) nI_0.symm _ _ _ hP hS (lv_sub hl [0, 1, 2, 3] rfl)
  · have hl : lv_has ls 4 [(2, .int 0), (0, .ref (a 20)), (1, .int 8)] := hl
    refine lv_tableIn (off := 82) (tgt := 85) C0.1 C0.2.1 dX9_counted_3 (by decide) (by decide) (by decide) (by decide) ?_
    refine lv_iconst (v := 0) C0.1 C0.2.1 dX9_counted_85 (by decide) ?_
    refine lv_istore_n (lv' := [(3, .int 0), (2, .int 0), (0, .ref (a 20)), (1, .int 8)]) C0.1 C0.2.1 dX9_counted_86 rfl hl (by decide) rfl (fun ls hl => ?_)
    have loop87 : ∀ (n : Nat) (i : Nat) (f : Int32), (i ≤ P) → (P + 1 ≤ i + n) → (f = smI (S 18) i) → ∀ (H : Heap) (locs : List Loc) (ls : Array Slot), WQ D cA a S X I H → va_S (AI a I) s.heap H locs → lv_has ls 4 [(3, .int (nI i)), (2, .int f), (0, .ref (a 20)), (1, .int 8)] → W p l e { frames := 4, cells := 0, slots := 0, locals := 87 } s m args below meth c H locs (0) (0) (MQ below (QqI D cA a I (fun r S1 X1 => r = (couS S P L T h (nI 8)) ∧ S1 = S ∧ X1 = X)) args s 0 0 (AI a I)) (F0 m 87 ls []) := by
      intro n
      induction n with
      | zero => intro i f hi hf hcn; exfalso; omega
      | succ n ih87 =>
        intro i f hi hf hcn H locs ls hP hS hl
        refine lv_iload_n C0.1 C0.2.1 dX9_counted_87 rfl (lv_at hl 0 rfl) ?_
        refine lv_aload_n C0.1 C0.2.1 dX9_counted_88 rfl (lv_at hl 2 rfl) ?_
        refine g20i (v := nI P) C0 hK hP (hd.1 _ (by decide)) 6 (by decide) fl_X9_51 rfl hnP dX9_counted_89 ?_
        refine lv_icmp_ge (tgt := 110) C0.1 C0.2.1 dX9_counted_92 (by decide) (fun c_92 => ?_) (fun c_92 => ?_)
        · have hge : P ≤ i := (nI_leI (by omega) (by omega)).mp c_92
          refine lv_iload_n C0.1 C0.2.1 dX9_counted_110 rfl (lv_at hl 1 rfl) ?_
          exact rtI C0 hr hlk hP hS ⟨by rw [hcn, show i = P by omega]; rfl, rfl, rfl⟩ dX9_counted_111
        · have hlt : i < P := Nat.not_le.mp fun q => c_92 (nI_le q (by omega))
          refine lv_iload_n C0.1 C0.2.1 dX9_counted_95 rfl (lv_at hl 1 rfl) ?_
          refine lv_aload_n C0.1 C0.2.1 dX9_counted_96 rfl (lv_at hl 2 rfl) ?_
          refine lv_iload_n C0.1 C0.2.1 dX9_counted_97 rfl (lv_at hl 0 rfl) ?_
          refine lv_iconst (v := 2) C0.1 C0.2.1 dX9_counted_98 (by decide) ?_
          refine k_X9_go_2 hd sId C0 hK hP (by omega) (v := S 18 i) rfl hS hA hl.1 ml_X9_77 ⟨Nat.le_of_ble_eq_true rfl, Nat.le_of_ble_eq_true rfl⟩ ⟨Nat.zero_le _, Nat.zero_le _⟩ (Nat.le_of_ble_eq_true rfl) dX9_counted_99 (fun H locs hP hS => ?_)
          refine lv_iadd C0.1 C0.2.1 dX9_counted_102 ?_
          refine lv_istore_n (lv' := [(2, .int (f + (S 18 i))), (3, .int (nI i)), (0, .ref (a 20)), (1, .int 8)]) C0.1 C0.2.1 dX9_counted_103 rfl hl (by decide) rfl (fun ls hl => ?_)
          refine lv_iinc (v := nI (i + 1)) (lv' := [(3, .int (nI (i + 1))), (2, .int (f + (S 18 i))), (0, .ref (a 20)), (1, .int 8)]) C0.1 C0.2.1 dX9_counted_104 hl (k := 1) rfl (nI_1 _) (by decide) rfl (fun ls hl => ?_)
          refine lv_goto (tgt := 87) C0.1 C0.2.1 dX9_counted_107 (by decide) ?_
          exact ih87 (i + 1) _ (by omega) (by omega) (by rw [hcn]; rfl) _ _ _ hP hS (lv_sub hl [0, 1, 2, 3] rfl)
    exact loop87 (P + 1) 0 0 (by omega) (by omega) rfl _ _ _ hP hS (lv_sub hl [0, 1, 2, 3] rfl)
  · have hl : lv_has ls 4 [(2, .int 0), (0, .ref (a 20)), (1, .int 9)] := hl
    refine lv_tableIn (off := 109) (tgt := 112) C0.1 C0.2.1 dX9_counted_3 (by decide) (by decide) (by decide) (by decide) ?_
    refine lv_iconst (v := 0) C0.1 C0.2.1 dX9_counted_112 (by decide) ?_
    refine lv_istore_n (lv' := [(3, .int 0), (2, .int 0), (0, .ref (a 20)), (1, .int 9)]) C0.1 C0.2.1 dX9_counted_113 rfl hl (by decide) rfl (fun ls hl => ?_)
    have loop114 : ∀ (n : Nat) (i : Nat) (f : Int32), (i ≤ P) → (P + 1 ≤ i + n) → (f = nI (cnt (fun p => !flt S (nI p) (S 16 p) (lvS S h)) i)) → ∀ (H : Heap) (locs : List Loc) (ls : Array Slot), WQ D cA a S X I H → va_S (AI a I) s.heap H locs → lv_has ls 4 [(3, .int (nI i)), (2, .int f), (0, .ref (a 20)), (1, .int 9)] → W p l e { frames := 4, cells := 0, slots := 0, locals := 87 } s m args below meth c H locs (0) (0) (MQ below (QqI D cA a I (fun r S1 X1 => r = (couS S P L T h (nI 9)) ∧ S1 = S ∧ X1 = X)) args s 0 0 (AI a I)) (F0 m 114 ls []) := by
      intro n
      induction n with
      | zero => intro i f hi hf hcn; exfalso; omega
      | succ n ih114 =>
        intro i f hi hf hcn H locs ls hP hS hl
        refine lv_iload_n C0.1 C0.2.1 dX9_counted_114 rfl (lv_at hl 0 rfl) ?_
        refine lv_aload_n C0.1 C0.2.1 dX9_counted_115 rfl (lv_at hl 2 rfl) ?_
        refine g20i (v := nI P) C0 hK hP (hd.1 _ (by decide)) 6 (by decide) fl_X9_51 rfl hnP dX9_counted_116 ?_
        refine lv_icmp_ge (tgt := 144) C0.1 C0.2.1 dX9_counted_119 (by decide) (fun c_119 => ?_) (fun c_119 => ?_)
        · have hge : P ≤ i := (nI_leI (by omega) (by omega)).mp c_119
          refine lv_iload_n C0.1 C0.2.1 dX9_counted_144 rfl (lv_at hl 1 rfl) ?_
          exact rtI C0 hr hlk hP hS ⟨by rw [hcn, show i = P by omega]; rfl, rfl, rfl⟩ dX9_counted_145
        · have hlt : i < P := Nat.not_le.mp fun q => c_119 (nI_le q (by omega))
          obtain ⟨ce, hce196, hce⟩ := h16 i hlt
          refine lv_iload_n C0.1 C0.2.1 dX9_counted_122 rfl (lv_at hl 1 rfl) ?_
          refine lv_aload_n C0.1 C0.2.1 dX9_counted_123 rfl (lv_at hl 2 rfl) ?_
          refine lv_iload_n C0.1 C0.2.1 dX9_counted_124 rfl (lv_at hl 0 rfl) ?_
          refine k_X9_isAground hd sId C0 hK hP (by omega) hce196 hce hnH hh (v := bI (!flt S (nI i) (S 16 i) (lvS S h))) rfl hS hA hl.1 ml_X9_122 ⟨Nat.le_of_ble_eq_true rfl, Nat.le_of_ble_eq_true rfl⟩ ⟨Nat.zero_le _, Nat.zero_le _⟩ (Nat.le_of_ble_eq_true rfl) dX9_counted_125 (fun H locs hP hS => ?_)
          refine lv_if_eq (tgt := 135) C0.1 C0.2.1 dX9_counted_128 (by decide) (fun c_128 => ?_) (fun c_128 => ?_)
          · have c_128 := bI_eq c_128
            refine lv_iconst (v := 0) C0.1 C0.2.1 dX9_counted_135 (by decide) ?_
            refine lv_iadd C0.1 C0.2.1 dX9_counted_136 ?_
            refine lv_istore_n (lv' := [(2, .int (f + 0)), (3, .int (nI i)), (0, .ref (a 20)), (1, .int 9)]) C0.1 C0.2.1 dX9_counted_137 rfl hl (by decide) rfl (fun ls hl => ?_)
            refine lv_iinc (v := nI (i + 1)) (lv' := [(3, .int (nI (i + 1))), (2, .int (f + 0)), (0, .ref (a 20)), (1, .int 9)]) C0.1 C0.2.1 dX9_counted_138 hl (k := 1) rfl (nI_1 _) (by decide) rfl (fun ls hl => ?_)
            refine lv_goto (tgt := 114) C0.1 C0.2.1 dX9_counted_141 (by decide) ?_
            exact ih114 (i + 1) _ (by omega) (by omega) (by rw [hcn, cnt_no (by rw [c_128]; exact Bool.false_ne_true), Int32.add_zero]) _ _ _ hP hS (lv_sub hl [0, 1, 2, 3] rfl)
          · have c_128 := bI_ne c_128
            refine lv_iconst (v := 1) C0.1 C0.2.1 dX9_counted_131 (by decide) ?_
            refine lv_goto (tgt := 136) C0.1 C0.2.1 dX9_counted_132 (by decide) ?_
            refine lv_iadd C0.1 C0.2.1 dX9_counted_136 ?_
            refine lv_istore_n (lv' := [(2, .int (f + 1)), (3, .int (nI i)), (0, .ref (a 20)), (1, .int 9)]) C0.1 C0.2.1 dX9_counted_137 rfl hl (by decide) rfl (fun ls hl => ?_)
            refine lv_iinc (v := nI (i + 1)) (lv' := [(3, .int (nI (i + 1))), (2, .int (f + 1)), (0, .ref (a 20)), (1, .int 9)]) C0.1 C0.2.1 dX9_counted_138 hl (k := 1) rfl (nI_1 _) (by decide) rfl (fun ls hl => ?_)
            refine lv_goto (tgt := 114) C0.1 C0.2.1 dX9_counted_141 (by decide) ?_
            exact ih114 (i + 1) _ (by omega) (by omega) (by rw [hcn, cnt_yes c_128, nI_1]) _ _ _ hP hS (lv_sub hl [0, 1, 2, 3] rfl)
    exact loop114 (P + 1) 0 0 (by omega) (by omega) nI_0.symm _ _ _ hP hS (lv_sub hl [0, 1, 2, 3] rfl)
  · have hl : lv_has ls 4 [(2, .int 0), (0, .ref (a 20)), (1, .int 10)] := hl
    refine lv_tableIn (off := 143) (tgt := 146) C0.1 C0.2.1 dX9_counted_3 (by decide) (by decide) (by decide) (by decide) ?_
    refine lv_iconst (v := 0) C0.1 C0.2.1 dX9_counted_146 (by decide) ?_
    refine lv_istore_n (lv' := [(3, .int 0), (2, .int 0), (0, .ref (a 20)), (1, .int 10)]) C0.1 C0.2.1 dX9_counted_147 rfl hl (by decide) rfl (fun ls hl => ?_)
    have loop148 : ∀ (n : Nat) (i : Nat) (f : Int32), (i ≤ 196) → (196 + 1 ≤ i + n) → (f = nI (cnt (fun j => decide (dpt S (nI j) (lvS S h) < S 1 j)) i)) → ∀ (H : Heap) (locs : List Loc) (ls : Array Slot), WQ D cA a S X I H → va_S (AI a I) s.heap H locs → lv_has ls 4 [(3, .int (nI i)), (2, .int f), (0, .ref (a 20)), (1, .int 10)] → W p l e { frames := 4, cells := 0, slots := 0, locals := 87 } s m args below meth c H locs (0) (0) (MQ below (QqI D cA a I (fun r S1 X1 => r = (couS S P L T h (nI 10)) ∧ S1 = S ∧ X1 = X)) args s 0 0 (AI a I)) (F0 m 148 ls []) := by
      intro n
      induction n with
      | zero => intro i f hi hf hcn; exfalso; omega
      | succ n ih148 =>
        intro i f hi hf hcn H locs ls hP hS hl
        refine lv_iload_n C0.1 C0.2.1 dX9_counted_148 rfl (lv_at hl 0 rfl) ?_
        refine lv_sipush (v := 196) C0.1 C0.2.1 dX9_counted_149 (by decide) ?_
        refine lv_icmp_ge (tgt := 187) C0.1 C0.2.1 dX9_counted_152 (by decide) (fun c_152 => ?_) (fun c_152 => ?_)
        · have hge : 196 ≤ i := (nI_leI (by omega) (by omega)).mp c_152
          refine lv_iload_n C0.1 C0.2.1 dX9_counted_187 rfl (lv_at hl 1 rfl) ?_
          exact rtI C0 hr hlk hP hS ⟨by rw [hcn, show i = 196 by omega]; rfl, rfl, rfl⟩ dX9_counted_188
        · have hlt : i < 196 := Nat.not_le.mp fun q => c_152 (nI_le q (by omega))
          refine lv_iload_n C0.1 C0.2.1 dX9_counted_155 rfl (lv_at hl 1 rfl) ?_
          refine lv_aload_n C0.1 C0.2.1 dX9_counted_156 rfl (lv_at hl 2 rfl) ?_
          refine lv_iload_n C0.1 C0.2.1 dX9_counted_157 rfl (lv_at hl 0 rfl) ?_
          refine lv_aload_n C0.1 C0.2.1 dX9_counted_158 rfl (lv_at hl 2 rfl) ?_
          refine k_X9_level hd sId C0 hK hP hnH hh (v := lvS S h) rfl hS hA hl.1 ml_X9_80 ⟨Nat.le_of_ble_eq_true rfl, Nat.le_of_ble_eq_true rfl⟩ ⟨Nat.zero_le _, Nat.zero_le _⟩ (Nat.le_of_ble_eq_true rfl) dX9_counted_159 (fun H locs hP hS => ?_)
          refine k_X9_depth hd sId C0 hK hP (by omega) (v := dpt S (nI i) (lvS S h)) rfl hS hA hl.1 ml_X9_63 ⟨Nat.le_of_ble_eq_true rfl, Nat.le_of_ble_eq_true rfl⟩ ⟨Nat.zero_le _, Nat.zero_le _⟩ (Nat.le_of_ble_eq_true rfl) dX9_counted_162 (fun H locs hP hS => ?_)
          refine lv_aload_n C0.1 C0.2.1 dX9_counted_165 rfl (lv_at hl 2 rfl) ?_
          refine g20 C0 hK hP (hd.1 _ (by decide)) 2 (by decide) fl_X9_13 rfl dX9_counted_166 ?_
          refine lv_iload_n C0.1 C0.2.1 dX9_counted_169 rfl (lv_at hl 0 rfl) ?_
          refine mld (k := 1) (by decide) C0 hK hP (hd.1 _ (by decide)) (v := S 1 i) (vp_in_nI (show i < 196 by omega) (by decide)) ((rg_in (n := 196) (vp_in_nI (show i < 196 by omega) (by decide))).symm.trans (rg_nI (show i < 196 by omega) (by decide))) dX9_counted_170 ?_
          refine lv_icmp_ge (tgt := 178) C0.1 C0.2.1 dX9_counted_171 (by decide) (fun c_171 => ?_) (fun c_171 => ?_)
          · refine lv_iconst (v := 0) C0.1 C0.2.1 dX9_counted_178 (by decide) ?_
            refine lv_iadd C0.1 C0.2.1 dX9_counted_179 ?_
            refine lv_istore_n (lv' := [(2, .int (f + 0)), (3, .int (nI i)), (0, .ref (a 20)), (1, .int 10)]) C0.1 C0.2.1 dX9_counted_180 rfl hl (by decide) rfl (fun ls hl => ?_)
            refine lv_iinc (v := nI (i + 1)) (lv' := [(3, .int (nI (i + 1))), (2, .int (f + 0)), (0, .ref (a 20)), (1, .int 10)]) C0.1 C0.2.1 dX9_counted_181 hl (k := 1) rfl (nI_1 _) (by decide) rfl (fun ls hl => ?_)
            refine lv_goto (tgt := 148) C0.1 C0.2.1 dX9_counted_184 (by decide) ?_
            exact ih148 (i + 1) _ (by omega) (by omega) (by rw [hcn, cnt_no (by rw [decide_eq_false (Int32.not_lt.mpr c_171)]; exact Bool.false_ne_true), Int32.add_zero]) _ _ _ hP hS (lv_sub hl [0, 1, 2, 3] rfl)
          · refine lv_iconst (v := 1) C0.1 C0.2.1 dX9_counted_174 (by decide) ?_
            refine lv_goto (tgt := 179) C0.1 C0.2.1 dX9_counted_175 (by decide) ?_
            refine lv_iadd C0.1 C0.2.1 dX9_counted_179 ?_
            refine lv_istore_n (lv' := [(2, .int (f + 1)), (3, .int (nI i)), (0, .ref (a 20)), (1, .int 10)]) C0.1 C0.2.1 dX9_counted_180 rfl hl (by decide) rfl (fun ls hl => ?_)
            refine lv_iinc (v := nI (i + 1)) (lv' := [(3, .int (nI (i + 1))), (2, .int (f + 1)), (0, .ref (a 20)), (1, .int 10)]) C0.1 C0.2.1 dX9_counted_181 hl (k := 1) rfl (nI_1 _) (by decide) rfl (fun ls hl => ?_)
            refine lv_goto (tgt := 148) C0.1 C0.2.1 dX9_counted_184 (by decide) ?_
            exact ih148 (i + 1) _ (by omega) (by omega) (by rw [hcn, cnt_yes (decide_eq_true (Int32.not_le.mp c_171)), nI_1]) _ _ _ hP hS (lv_sub hl [0, 1, 2, 3] rfl)
    exact loop148 (196 + 1) 0 0 (by omega) (by omega) nI_0.symm _ _ _ hP hS (lv_sub hl [0, 1, 2, 3] rfl)
theorem k_X9_counted {n : List Nat} (hd : Hd n a I) (hsub : ∀ k ∈ nM, k ∈ n) (C0 : CallFix p m c cc nL s args GW own) (hK : KK D cA s) (hP : WQ D cA a S X I H) {q : Nat} {P : Nat} {L : Nat} {T : Nat} {h : Nat} (hnP : S 82 0 = nI P) (hnL : S 81 0 = nI L) (hnT : S 85 0 = nI T) (hT30 : T ≤ 30) (hnH : S 86 0 = nI h) (hh : h < 2 ^ 31) (hTW : TW S P L) (hq : q < 11) {v : Int32} (hv : (couS S P L T h (nI q)) = v) (hS : va_S A0 H0 H locs) (hA : ∀ q, AI a I q → A0 q) (hls : ls.size = nL) {idx : Nat} (hlink : Cond.methodLink own idx yX9_counted ∈ GW) (hR : 5 ≤ R.frames ∧ 110 ≤ R.locals) (hcs : cells ≤ R.cells ∧ slots ≤ R.slots) (hrest : (rest.map fun v => v.category).sum ≤ 8) (hdg : decode cc pc = .ok (.invokevirtual idx, 3)) (kk : ∀ (H1 : Heap) (locs1 : List Loc), WQ D cA a S X I H1 → va_S A0 H0 H1 locs1 → W p l e R s m args below meth c H1 locs1 cells slots Q (F0 m (pc + 3) ls (.int v :: rest))) : W p l e R s m args below meth c H locs cells slots Q (F0 m pc ls (.int (nI q) :: .ref (a 20) :: rest)) := by
  subst hv
  exact hoI (qV (n := 1) (c_X9_counted l D cA a S X I (hd.sub hsub) q hnP hnL hnT hT30 hnH hh hTW hq) C0 hlink im_X9_counted se_X9_counted in_X9 co_X9_counted ⟨rfl, by decide⟩ hR hK hP (hd.1 _ (hsub _ (by decide))) rfl rfl rfl hls hrest rfl hdg hcs) hS hA (fun r S1 X1 H1 locs1 hp hP1 hS1 => by obtain ⟨rfl, rfl, rfl⟩ := hp; exact kk H1 locs1 hP1 hS1)
set_option maxHeartbeats 4000000 in
set_option maxRecDepth 100000 in
theorem c_X9_crossingAt (l : Launch) (D : va_G) (cA : ClassId) (a : Adr) (S X : Mem) (I : Nat → Prop) (hd : Hd nM a I) (u : Nat) (lv : Int32) {P : Nat} {L : Nat} (hTW : TW S P L) (hu : u < P) : NI l yX9_crossingAt cX9_crossingAt 3 (some .int) 4 94 D cA a S X I [.ref (a 20), .int (nI u), .int lv] (fun r S1 X1 => r = crsS S u lv ∧ S1 = S ∧ ∀ k, k ≠ 15 → X1 k = X k) := by
  refine nGo (by decide) (Nat.le_of_ble_eq_true rfl) ?_
  intro p e s m args below meth c ls C0 hr hlk hK hP hS hl hargs
  obtain ⟨H, hHe⟩ : ∃ H, H = s.heap := ⟨_, rfl⟩
  obtain ⟨locs, hlo⟩ : ∃ L : List Loc, L = [] := ⟨_, rfl⟩
  have hP : WQ D cA a S X I H := hHe ▸ hP
  have hS : va_S (AI a I) s.heap H locs := by rw [hHe, hlo]; exact hS
  rw [← hHe, ← hlo]
  have hA : ∀ q, AI a I q → AI a I q := fun _ h => h
  obtain ⟨hLnk, hP6, hL8, h17, h16, h8, h3, h2⟩ := id hTW
  obtain ⟨hm, gl, hhm, hgl, -, e4, e5⟩ := hLnk u hu
  obtain ⟨chm, hchm, hchme⟩ := h3 hm hhm
  obtain ⟨cgl, hcgl, hcgle⟩ := h3 gl hgl
  refine lv_aload_n C0.1 C0.2.1 dX9_crossingAt_0 rfl (lv_at hl 0 rfl) ?_
  refine lv_iload_n C0.1 C0.2.1 dX9_crossingAt_1 rfl (lv_at hl 1 rfl) ?_
  refine lv_aload_n C0.1 C0.2.1 dX9_crossingAt_2 rfl (lv_at hl 0 rfl) ?_
  refine g20 C0 hK hP (hd.1 _ (by decide)) 5 (by decide) fl_X9_19 rfl dX9_crossingAt_3 ?_
  refine lv_aload_n C0.1 C0.2.1 dX9_crossingAt_6 rfl (lv_at hl 0 rfl) ?_
  refine lv_iload_n C0.1 C0.2.1 dX9_crossingAt_7 rfl (lv_at hl 1 rfl) ?_
  refine lv_iconst (v := 1) C0.1 C0.2.1 dX9_crossingAt_8 (by decide) ?_
  refine k_X9_pu_1 hd sId C0 hK hP (by omega) (v := nI gl) e5 hS hA hl.1 ml_X9_66 ⟨Nat.le_of_ble_eq_true rfl, Nat.le_of_ble_eq_true rfl⟩ ⟨Nat.zero_le _, Nat.zero_le _⟩ (Nat.le_of_ble_eq_true rfl) dX9_crossingAt_9 (fun H locs hP hS => ?_)
  refine mld (k := 3) (by decide) C0 hK hP (hd.1 _ (by decide)) (v := nI cgl) (vp_in_nI (show gl < 8 by omega) (by decide)) ((rg_in (n := 8) (vp_in_nI (show gl < 8 by omega) (by decide))).symm.trans ((rg_nI (show gl < 8 by omega) (by decide)).trans hcgle)) dX9_crossingAt_12 ?_
  refine lv_iload_n C0.1 C0.2.1 dX9_crossingAt_13 rfl (lv_at hl 2 rfl) ?_
  refine k_X9_look hd sId C0 hK hP (by omega) (by omega) hS hA hl.1 ml_X9_128 ⟨Nat.le_of_ble_eq_true rfl, Nat.le_of_ble_eq_true rfl⟩ ⟨Nat.zero_le _, Nat.zero_le _⟩ (Nat.le_of_ble_eq_true rfl) dX9_crossingAt_14 (fun S_2 X_3 H locs hx_1 hP hS => ?_)
  obtain ⟨hs1, hWy, hXk⟩ := hx_1
  rw [hs1] at hP
  refine lv_aload_n C0.1 C0.2.1 dX9_crossingAt_17 rfl (lv_at hl 0 rfl) ?_
  refine g20 C0 hK hP (hd.1 _ (by decide)) 12 (by decide) fl_X9_31 rfl dX9_crossingAt_18 ?_
  refine lv_aload_n C0.1 C0.2.1 dX9_crossingAt_21 rfl (lv_at hl 0 rfl) ?_
  refine g20 C0 hK hP (hd.1 _ (by decide)) 5 (by decide) fl_X9_19 rfl dX9_crossingAt_22 ?_
  refine lv_aload_n C0.1 C0.2.1 dX9_crossingAt_25 rfl (lv_at hl 0 rfl) ?_
  refine lv_iload_n C0.1 C0.2.1 dX9_crossingAt_26 rfl (lv_at hl 1 rfl) ?_
  refine lv_iconst (v := 0) C0.1 C0.2.1 dX9_crossingAt_27 (by decide) ?_
  refine k_X9_pu_0 hd sId C0 hK hP (by omega) (v := nI hm) e4 hS hA hl.1 ml_X9_66 ⟨Nat.le_of_ble_eq_true rfl, Nat.le_of_ble_eq_true rfl⟩ ⟨Nat.zero_le _, Nat.zero_le _⟩ (Nat.le_of_ble_eq_true rfl) dX9_crossingAt_28 (fun H locs hP hS => ?_)
  refine mld (k := 3) (by decide) C0 hK hP (hd.1 _ (by decide)) (v := nI chm) (vp_in_nI (show hm < 8 by omega) (by decide)) ((rg_in (n := 8) (vp_in_nI (show hm < 8 by omega) (by decide))).symm.trans ((rg_nI (show hm < 8 by omega) (by decide)).trans hchme)) dX9_crossingAt_31 ?_
  refine mld (k := 7) (by decide) C0 hK hP (hd.1 _ (by decide)) (v := X_3 15 chm) (vp_in_nI (show chm < 196 by omega) (by decide)) ((rg_in (n := 196) (vp_in_nI (show chm < 196 by omega) (by decide))).symm.trans (rg_nI (show chm < 196 by omega) (by decide))) dX9_crossingAt_32 ?_
  exact rtI C0 hr hlk hP hS ⟨by unfold crsS wyS celS; rw [e4, e5, nI_clamp (by omega), nI_clamp (by omega), hchme, hcgle, nI_clamp (by omega), nI_clamp (by omega)]; exact hWy chm hchm, rfl, hXk⟩ dX9_crossingAt_33
theorem k_X9_crossingAt {n : List Nat} (hd : Hd n a I) (hsub : ∀ k ∈ nM, k ∈ n) (C0 : CallFix p m c cc nL s args GW own) (hK : KK D cA s) (hP : WQ D cA a S X I H) {u : Nat} {lv : Int32} {P : Nat} {L : Nat} (hTW : TW S P L) (hu : u < P) (hS : va_S A0 H0 H locs) (hA : ∀ q, AI a I q → A0 q) (hls : ls.size = nL) {idx : Nat} (hlink : Cond.methodLink own idx yX9_crossingAt ∈ GW) (hR : 5 ≤ R.frames ∧ 116 ≤ R.locals) (hcs : cells ≤ R.cells ∧ slots ≤ R.slots) (hrest : (rest.map fun v => v.category).sum ≤ 8) (hdg : decode cc pc = .ok (.invokevirtual idx, 3)) (kk : ∀ (v : Int32) (S1 X1 : Mem) (H1 : Heap) (locs1 : List Loc), (fun r S1 X1 => r = crsS S u lv ∧ S1 = S ∧ ∀ k, k ≠ 15 → X1 k = X k) v S1 X1 → WQ D cA a S1 X1 I H1 → va_S A0 H0 H1 locs1 → W p l e R s m args below meth c H1 locs1 cells slots Q (F0 m (pc + 3) ls (.int v :: rest))) : W p l e R s m args below meth c H locs cells slots Q (F0 m pc ls (.int lv :: .int (nI u) :: .ref (a 20) :: rest)) := by
  exact hoI (qV (n := 2) (c_X9_crossingAt l D cA a S X I (hd.sub hsub) u lv hTW hu) C0 hlink im_X9_crossingAt se_X9_crossingAt in_X9 co_X9_crossingAt ⟨rfl, by decide⟩ hR hK hP (hd.1 _ (hsub _ (by decide))) rfl rfl rfl hls hrest rfl hdg hcs) hS hA kk
end CLS
