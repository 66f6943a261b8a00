/-- the landing's cell by the class's words -/
theorem fnd3 {S : Mem} {L k : Nat} (hL : L ≤ 8) : fndF (fun j => decide (rg (S 3) 8 (nI j) = nI k)) 0 L = fndF (fun j => decide (S 3 j = nI k)) 0 L := fndF_congr L 0 fun j _ h => by rw [rg_nI (by omega) (by decide)]
theorem stk_eq {S : Mem} {h : Nat} : cnt (fun j => decide (dpt S (nI j) (lvS S h) < rg (S 1) 196 (nI j))) 196 = stkN S h := cnt_congr fun j hj => by rw [rg_nI hj (by decide)]
noncomputable def crsS (S : Mem) (p : Nat) (lv : Int32) : Int32 := wyS S p (S 5 p) lv (celS S (S 4 p))
def dgL (f : Nat → Int32) : Nat → Int64 → Int64
  | 0, d => d
  | n + 1, d => dgL f n d * 31 + (f n).toInt64
def dgP (f g : Nat → Int32) : Nat → Int64 → Int64
  | 0, d => d
  | n + 1, d => (dgP f g n d * 31 + (f n).toInt64) * 31 + (g n).toInt64
def dgO (g : Nat → Nat → Int32) (m : Nat) : Nat → Int64 → Int64
  | 0, d => d
  | n + 1, d => dgL (g n) m (dgO g m n d)
theorem dgL_zero (f : Nat → Int32) (d : Int64) : dgL f 0 d = d := rfl
theorem dgL_succ (f : Nat → Int32) (n : Nat) (d : Int64) : dgL f (n + 1) d = dgL f n d * 31 + (f n).toInt64 := rfl
theorem dgO_zero (g : Nat → Nat → Int32) (m : Nat) (d : Int64) : dgO g m 0 d = d := rfl
theorem dgO_succ (g : Nat → Nat → Int32) (m n : Nat) (d : Int64) : dgO g m (n + 1) d = dgL (g n) m (dgO g m n d) := rfl
noncomputable def digS (S : Mem) (P L T h : Nat) : Int64 := dgO (fun t w => trvS S P t (nI w)) 7 T (dgO (fun p w => punS S T h p (nI w)) 9 P (dgO (fun x w => lanS S P T x (nI w)) 5 L (dgP (S 0) (S 1) 196 (dgL (S 2) 12 (dgL (fun w => couS S P L T h (nI w)) 11 557)))))
section CLS
variable {p : Program} {l : Launch} {e : Env} {R : Room} {s : State} {m : MethodId} {args : Array Value} {below : List Frame} {meth : Method} {c : Code} {H : Heap} {locs : List Loc} {cells slots : Nat} {Q : State → Prop}
variable {cc : ByteArray} {nL : Nat} {own : String} {pc : Nat} {ls : Array Slot} {rest : List Value} {D : va_G} {cA : ClassId} {a : Adr} {S X : Mem} {I : Nat → Prop} {H0 : Heap} {A0 : Nat → Prop}
set_option maxHeartbeats 4000000 in
set_option maxRecDepth 100000 in
theorem c_X8_tellPunt (l : Launch) (D : va_G) (cA : ClassId) (a : Adr) (S X : Mem) (I : Nat → Prop) (hd : Hd nF a I) (u : Nat) (w : Int32) {P : Nat} {L : Nat} {T : Nat} {h : Nat} (hnP : S 82 0 = nI P) (hnT : S 85 0 = nI T) (hT30 : T ≤ 30) (hnH : S 86 0 = nI h) (hh : h < 2 ^ 31) (hC : CacheOk S X P) (hTW : TW S P L) (hu : u < P) : MI l yX8_tellPunt cX8_tellPunt 3 (some .int) 5 119 D cA a S X I [.ref (a 89), .int (nI u), .int w] (fun r S1 X1 => r = punS S T h u w ∧ S1 = S ∧ CacheOk S X1 P ∧ (∀ k, k ≠ 13 → k ≠ 14 → k ≠ 15 → X1 k = X k)) := by
  refine mGo (by decide) (Nat.le_of_ble_eq_true rfl) ?_
  intro p e s m args below meth c ls C0 hr hlk hK hP hS hl hargs
  obtain ⟨H, hHe⟩ : ∃ H, H = s.heap := ⟨_, rfl⟩
  obtain ⟨locs, hlo⟩ : ∃ L : List Loc, L = [] := ⟨_, rfl⟩
  have hP : WP D cA a S X I H := hHe ▸ hP
  have hS : va_S (AI a I) s.heap H locs := by rw [hHe, hlo]; exact hS
  rw [← hHe, ← hlo]
  have hA : ∀ q, AI a I q → AI a I q := fun _ h => h
  obtain ⟨hLnk, hP6, hL8, h17, h16, h8, h3, h2⟩ := id hTW
  refine lv_iload_n C0.1 C0.2.1 dX8_tellPunt_0 rfl (lv_at hl 2 rfl) ?_
  by_cases k_1_0 : w = 0
  · refine lv_tableIn (off := 47) (tgt := 48) C0.1 C0.2.1 dX8_tellPunt_1 (by rw [k_1_0]; decide) (by rw [k_1_0]; decide) (by rw [k_1_0]; decide) (by decide) ?_
    refine lv_aload_n C0.1 C0.2.1 dX8_tellPunt_48 rfl (lv_at hl 0 rfl) ?_
    refine g89_now C0 hK hP (hd.1 _ (by decide)) fl_X8_53 dX8_tellPunt_49 ?_
    refine g86_cell C0 hK hP (hd.1 _ (by decide)) fl_X8_117 dX8_tellPunt_52 ?_
    refine lv_iload_n C0.1 C0.2.1 dX8_tellPunt_55 rfl (lv_at hl 1 rfl) ?_
    refine k_X5_get (v := S 16 u) 16 (by decide) hd (by decide) (by decide) C0 hK hP (rg_nI (show u < 6 by omega) (by decide)) hS hA hl.1 ml_X8_104 ⟨Nat.le_of_ble_eq_true rfl, Nat.le_of_ble_eq_true rfl⟩ ⟨Nat.zero_le _, Nat.zero_le _⟩ (Nat.le_of_ble_eq_true rfl) dX8_tellPunt_56 (fun H locs hP hS => ?_)
    refine k_X8_columnOf hd s0 C0 hK hP  (v := (S 16 u) - (S 16 u) / 14 * 14) rfl hS hA hl.1 ml_X8_154 ⟨Nat.le_of_ble_eq_true rfl, Nat.le_of_ble_eq_true rfl⟩ ⟨Nat.zero_le _, Nat.zero_le _⟩ (Nat.le_of_ble_eq_true rfl) dX8_tellPunt_59 (fun H locs hP hS => ?_)
    exact retI C0 hr hlk hP hS ⟨by unfold punS; rw [k_1_0]; rfl, rfl, hC, fun _ _ _ _ => rfl⟩ dX8_tellPunt_62
  by_cases k_1_1 : w = 1
  · refine lv_tableIn (off := 62) (tgt := 63) C0.1 C0.2.1 dX8_tellPunt_1 (by rw [k_1_1]; decide) (by rw [k_1_1]; decide) (by rw [k_1_1]; decide) (by decide) ?_
    refine lv_aload_n C0.1 C0.2.1 dX8_tellPunt_63 rfl (lv_at hl 0 rfl) ?_
    refine g89_now C0 hK hP (hd.1 _ (by decide)) fl_X8_53 dX8_tellPunt_64 ?_
    refine g86_cell C0 hK hP (hd.1 _ (by decide)) fl_X8_117 dX8_tellPunt_67 ?_
    refine lv_iload_n C0.1 C0.2.1 dX8_tellPunt_70 rfl (lv_at hl 1 rfl) ?_
    refine k_X5_get (v := S 16 u) 16 (by decide) hd (by decide) (by decide) C0 hK hP (rg_nI (show u < 6 by omega) (by decide)) hS hA hl.1 ml_X8_104 ⟨Nat.le_of_ble_eq_true rfl, Nat.le_of_ble_eq_true rfl⟩ ⟨Nat.zero_le _, Nat.zero_le _⟩ (Nat.le_of_ble_eq_true rfl) dX8_tellPunt_71 (fun H locs hP hS => ?_)
    refine k_X8_rowOf hd s0 C0 hK hP  (v := (S 16 u) / 14) rfl hS hA hl.1 ml_X8_157 ⟨Nat.le_of_ble_eq_true rfl, Nat.le_of_ble_eq_true rfl⟩ ⟨Nat.zero_le _, Nat.zero_le _⟩ (Nat.le_of_ble_eq_true rfl) dX8_tellPunt_74 (fun H locs hP hS => ?_)
    exact retI C0 hr hlk hP hS ⟨by unfold punS; rw [k_1_1]; rfl, rfl, hC, fun _ _ _ _ => rfl⟩ dX8_tellPunt_77
  by_cases k_1_2 : w = 2
  · refine lv_tableIn (off := 77) (tgt := 78) C0.1 C0.2.1 dX8_tellPunt_1 (by rw [k_1_2]; decide) (by rw [k_1_2]; decide) (by rw [k_1_2]; decide) (by decide) ?_
    refine lv_aload_n C0.1 C0.2.1 dX8_tellPunt_78 rfl (lv_at hl 0 rfl) ?_
    refine g89_now C0 hK hP (hd.1 _ (by decide)) fl_X8_53 dX8_tellPunt_79 ?_
    refine g86_bound C0 hK hP (hd.1 _ (by decide)) fl_X8_160 dX8_tellPunt_82 ?_
    refine lv_iload_n C0.1 C0.2.1 dX8_tellPunt_85 rfl (lv_at hl 1 rfl) ?_
    refine k_X5_get (v := S 17 u) 17 (by decide) hd (by decide) (by decide) C0 hK hP (rg_nI (show u < 6 by omega) (by decide)) hS hA hl.1 ml_X8_104 ⟨Nat.le_of_ble_eq_true rfl, Nat.le_of_ble_eq_true rfl⟩ ⟨Nat.zero_le _, Nat.zero_le _⟩ (Nat.le_of_ble_eq_true rfl) dX8_tellPunt_86 (fun H locs hP hS => ?_)
    exact retI C0 hr hlk hP hS ⟨by unfold punS; rw [k_1_2]; rfl, rfl, hC, fun _ _ _ _ => rfl⟩ dX8_tellPunt_89
  by_cases k_1_3 : w = 3
  · refine lv_tableIn (off := 89) (tgt := 90) C0.1 C0.2.1 dX8_tellPunt_1 (by rw [k_1_3]; decide) (by rw [k_1_3]; decide) (by rw [k_1_3]; decide) (by decide) ?_
    refine lv_aload_n C0.1 C0.2.1 dX8_tellPunt_90 rfl (lv_at hl 0 rfl) ?_
    refine g89_now C0 hK hP (hd.1 _ (by decide)) fl_X8_53 dX8_tellPunt_91 ?_
    refine g86_travellers C0 hK hP (hd.1 _ (by decide)) fl_X8_163 dX8_tellPunt_94 ?_
    refine g85_punt C0 hK hP (hd.1 _ (by decide)) fl_X8_167 dX8_tellPunt_97 ?_
    refine lv_iload_n C0.1 C0.2.1 dX8_tellPunt_100 rfl (lv_at hl 1 rfl) ?_
    refine lv_aload_n C0.1 C0.2.1 dX8_tellPunt_101 rfl (lv_at hl 0 rfl) ?_
    refine g89_now C0 hK hP (hd.1 _ (by decide)) fl_X8_53 dX8_tellPunt_102 ?_
    refine g86_travellers C0 hK hP (hd.1 _ (by decide)) fl_X8_163 dX8_tellPunt_105 ?_
    refine g85_number (v := nI T) C0 hK hP (hd.1 _ (by decide)) fl_X8_172 hnT dX8_tellPunt_108 ?_
    refine k_X5_howMany (v := nI (cnt (fun j => decide ((S 23) j = (nI u))) T)) 23 (by decide) hd (by decide) (by decide) C0 hK hP (show T ≤ 30 by omega) rfl hS hA hl.1 ml_X8_124 ⟨Nat.le_of_ble_eq_true rfl, Nat.le_of_ble_eq_true rfl⟩ ⟨Nat.zero_le _, Nat.zero_le _⟩ (Nat.le_of_ble_eq_true rfl) dX8_tellPunt_111 (fun H locs hP hS => ?_)
    exact retI C0 hr hlk hP hS ⟨by unfold punS; rw [k_1_3]; rfl, rfl, hC, fun _ _ _ _ => rfl⟩ dX8_tellPunt_114
  by_cases k_1_4 : w = 4
  · refine lv_tableIn (off := 114) (tgt := 115) C0.1 C0.2.1 dX8_tellPunt_1 (by rw [k_1_4]; decide) (by rw [k_1_4]; decide) (by rw [k_1_4]; decide) (by decide) ?_
    refine lv_aload_n C0.1 C0.2.1 dX8_tellPunt_115 rfl (lv_at hl 0 rfl) ?_
    refine g89_fleet C0 hK hP (hd.1 _ (by decide)) fl_X8_26 dX8_tellPunt_116 ?_
    refine g82_toll C0 hK hP (hd.1 _ (by decide)) fl_X8_148 dX8_tellPunt_119 ?_
    refine lv_iload_n C0.1 C0.2.1 dX8_tellPunt_122 rfl (lv_at hl 1 rfl) ?_
    refine k_X5_get (v := S 9 u) 9 (by decide) hd (by decide) (by decide) C0 hK hP (rg_nI (show u < 6 by omega) (by decide)) hS hA hl.1 ml_X8_104 ⟨Nat.le_of_ble_eq_true rfl, Nat.le_of_ble_eq_true rfl⟩ ⟨Nat.zero_le _, Nat.zero_le _⟩ (Nat.le_of_ble_eq_true rfl) dX8_tellPunt_123 (fun H locs hP hS => ?_)
    exact retI C0 hr hlk hP hS ⟨by unfold punS; rw [k_1_4]; rfl, rfl, hC, fun _ _ _ _ => rfl⟩ dX8_tellPunt_126
  by_cases k_1_5 : w = 5
  · refine lv_tableIn (off := 126) (tgt := 127) C0.1 C0.2.1 dX8_tellPunt_1 (by rw [k_1_5]; decide) (by rw [k_1_5]; decide) (by rw [k_1_5]; decide) (by decide) ?_
    refine lv_aload_n C0.1 C0.2.1 dX8_tellPunt_127 rfl (lv_at hl 0 rfl) ?_
    refine g89_now C0 hK hP (hd.1 _ (by decide)) fl_X8_53 dX8_tellPunt_128 ?_
    refine lv_iload_n C0.1 C0.2.1 dX8_tellPunt_131 rfl (lv_at hl 1 rfl) ?_
    refine k_X6_isAground hd sTF C0 hK hP (by omega) hnH hh (v := bI (!flt S (nI u) (S 16 u) (lvS S h))) rfl hS hA hl.1 ml_X8_173 ⟨Nat.le_of_ble_eq_true rfl, Nat.le_of_ble_eq_true rfl⟩ ⟨Nat.zero_le _, Nat.zero_le _⟩ (Nat.le_of_ble_eq_true rfl) dX8_tellPunt_132 (fun H locs hP hS => ?_)
    refine lv_if_eq (tgt := 142) C0.1 C0.2.1 dX8_tellPunt_135 (by decide) (fun c_135 => ?_) (fun c_135 => ?_)
    · have c_135 := bI_eq c_135
      refine lv_iconst (v := 0) C0.1 C0.2.1 dX8_tellPunt_142 (by decide) ?_
      exact retI C0 hr hlk hP hS ⟨by unfold punS; rw [k_1_5]; show _ = bI _; rw [c_135]; rfl, rfl, hC, fun _ _ _ _ => rfl⟩ dX8_tellPunt_143
    · have c_135 := bI_ne c_135
      refine lv_iconst (v := 1) C0.1 C0.2.1 dX8_tellPunt_138 (by decide) ?_
      refine lv_goto (tgt := 143) C0.1 C0.2.1 dX8_tellPunt_139 (by decide) ?_
      exact retI C0 hr hlk hP hS ⟨by unfold punS; rw [k_1_5]; show _ = bI _; rw [c_135]; rfl, rfl, hC, fun _ _ _ _ => rfl⟩ dX8_tellPunt_143
  by_cases k_1_6 : w = 6
  · refine lv_tableIn (off := 143) (tgt := 144) C0.1 C0.2.1 dX8_tellPunt_1 (by rw [k_1_6]; decide) (by rw [k_1_6]; decide) (by rw [k_1_6]; decide) (by decide) ?_
    refine lv_aload_n C0.1 C0.2.1 dX8_tellPunt_144 rfl (lv_at hl 0 rfl) ?_
    refine g89_now C0 hK hP (hd.1 _ (by decide)) fl_X8_53 dX8_tellPunt_145 ?_
    refine lv_iload_n C0.1 C0.2.1 dX8_tellPunt_148 rfl (lv_at hl 1 rfl) ?_
    refine k_X6_wayLeft hd sTF C0 hK hP hC hTW hu hnH hh hS hA hl.1 ml_X8_177 ⟨Nat.le_of_ble_eq_true rfl, Nat.le_of_ble_eq_true rfl⟩ ⟨Nat.zero_le _, Nat.zero_le _⟩ (Nat.le_of_ble_eq_true rfl) dX8_tellPunt_149 (fun v_4 S_2 X_3 H locs hx_1 hP hS => ?_)
    obtain ⟨hr6, hs1, hC1, hxf⟩ := hx_1
    rw [hs1] at hP
    have hs6 : S = S := rfl
    exact retI C0 hr hlk hP hS ⟨by unfold punS; rw [k_1_6]; exact hr6, hs6, hC1, hxf⟩ dX8_tellPunt_152
  by_cases k_1_7 : w = 7
  · refine lv_tableIn (off := 152) (tgt := 153) C0.1 C0.2.1 dX8_tellPunt_1 (by rw [k_1_7]; decide) (by rw [k_1_7]; decide) (by rw [k_1_7]; decide) (by decide) ?_
    refine lv_aload_n C0.1 C0.2.1 dX8_tellPunt_153 rfl (lv_at hl 0 rfl) ?_
    refine g89_now C0 hK hP (hd.1 _ (by decide)) fl_X8_53 dX8_tellPunt_154 ?_
    refine g86_takings C0 hK hP (hd.1 _ (by decide)) fl_X8_180 dX8_tellPunt_157 ?_
    refine lv_iload_n C0.1 C0.2.1 dX8_tellPunt_160 rfl (lv_at hl 1 rfl) ?_
    refine k_X5_get (v := S 18 u) 18 (by decide) hd (by decide) (by decide) C0 hK hP (rg_nI (show u < 6 by omega) (by decide)) hS hA hl.1 ml_X8_104 ⟨Nat.le_of_ble_eq_true rfl, Nat.le_of_ble_eq_true rfl⟩ ⟨Nat.zero_le _, Nat.zero_le _⟩ (Nat.le_of_ble_eq_true rfl) dX8_tellPunt_161 (fun H locs hP hS => ?_)
    exact retI C0 hr hlk hP hS ⟨by unfold punS; rw [k_1_7]; rfl, rfl, hC, fun _ _ _ _ => rfl⟩ dX8_tellPunt_164
  refine lv_tableOut (tgt := 165) C0.1 C0.2.1 dX8_tellPunt_1 (sw_out7 k_1_0 k_1_1 k_1_2 k_1_3 k_1_4 k_1_5 k_1_6 k_1_7) (by decide) ?_
  refine lv_aload_n C0.1 C0.2.1 dX8_tellPunt_165 rfl (lv_at hl 0 rfl) ?_
  refine g89_now C0 hK hP (hd.1 _ (by decide)) fl_X8_53 dX8_tellPunt_166 ?_
  refine g86_steps C0 hK hP (hd.1 _ (by decide)) fl_X8_183 dX8_tellPunt_169 ?_
  refine lv_iload_n C0.1 C0.2.1 dX8_tellPunt_172 rfl (lv_at hl 1 rfl) ?_
  refine k_X5_get (v := S 19 u) 19 (by decide) hd (by decide) (by decide) C0 hK hP (rg_nI (show u < 6 by omega) (by decide)) hS hA hl.1 ml_X8_104 ⟨Nat.le_of_ble_eq_true rfl, Nat.le_of_ble_eq_true rfl⟩ ⟨Nat.zero_le _, Nat.zero_le _⟩ (Nat.le_of_ble_eq_true rfl) dX8_tellPunt_173 (fun H locs hP hS => ?_)
  exact retI C0 hr hlk hP hS ⟨by unfold punS; rw [if_neg k_1_0, if_neg k_1_1, if_neg k_1_2, if_neg k_1_3, if_neg k_1_4, if_neg k_1_5, if_neg k_1_6, if_neg k_1_7], rfl, hC, fun _ _ _ _ => rfl⟩ dX8_tellPunt_176
theorem k_X8_tellPunt {n : List Nat} (hd : Hd n a I) (hsub : ∀ k ∈ nF, k ∈ n) (C0 : CallFix p m c cc nL s args GW own) (hK : KK D cA s) (hP : WP D cA a S X I H) {u : Nat} {w : Int32} {P : Nat} {L : Nat} {T : Nat} {h : Nat} (hnP : S 82 0 = nI P) (hnT : S 85 0 = nI T) (hT30 : T ≤ 30) (hnH : S 86 0 = nI h) (hh : h < 2 ^ 31) (hC : CacheOk S X P) (hTW : TW S P L) (hu : u < P) (hS : va_S A0 H0 H locs) (hA : ∀ q, AI a I q → A0 q) (hls : ls.size = nL) {idx : Nat} (hlink : Cond.methodLink own idx yX8_tellPunt ∈ GW) (hR : 6 ≤ R.frames ∧ 141 ≤ R.locals) (hcs : cells ≤ R.cells ∧ slots ≤ R.slots) (hrest : (rest.map fun v => v.category).sum ≤ 8) (hdg : decode cc pc = .ok (.invokevirtual idx, 3)) (kk : ∀ (v : Int32) (S1 X1 : Mem) (H1 : Heap) (locs1 : List Loc), (fun r S1 X1 => r = punS S T h u w ∧ S1 = S ∧ CacheOk S X1 P ∧ (∀ k, k ≠ 13 → k ≠ 14 → k ≠ 15 → X1 k = X k)) v S1 X1 → WP D cA a S1 X1 I H1 → va_S A0 H0 H1 locs1 → W p l e R s m args below meth c H1 locs1 cells slots Q (F0 m (pc + 3) ls (.int v :: rest))) : W p l e R s m args below meth c H locs cells slots Q (F0 m pc ls (.int w :: .int (nI u) :: .ref (a 89) :: rest)) := by
  exact goI (rV (n := 2) (c_X8_tellPunt l D cA a S X I (hd.sub hsub) u w hnP hnT hT30 hnH hh hC hTW hu) C0 hlink im_X8_tellPunt se_X8_tellPunt in_X8 co_X8_tellPunt ⟨rfl, by decide⟩ hR hK hP (hd.1 _ (hsub _ (by decide))) rfl rfl rfl hls hrest rfl hdg hcs) hS hA kk
set_option maxHeartbeats 4000000 in
set_option maxRecDepth 100000 in
theorem c_X8_tellTraveller (l : Launch) (D : va_G) (cA : ClassId) (a : Adr) (S X : Mem) (I : Nat → Prop) (hd : Hd nF a I) (t : Nat) (w : Int32) {P : Nat} {L : Nat} {T : Nat} (hnT : S 85 0 = nI T) (hT30 : T ≤ 30) (hCh : ChainsOk S X P) (hTW : TW S P L) (hTr : TrW S P L T) (ht : t < T) : MI l yX8_tellTraveller cX8_tellTraveller 4 (some .int) 3 66 D cA a S X I [.ref (a 89), .int (nI t), .int w] (fun r S1 X1 => r = (trvS S P t w) ∧ S1 = S ∧ X1 = X) := by
  refine mGo (by decide) (Nat.le_of_ble_eq_true rfl) ?_
  intro p e s m args below meth c ls C0 hr hlk hK hP hS hl hargs
  obtain ⟨H, hHe⟩ : ∃ H, H = s.heap := ⟨_, rfl⟩
  obtain ⟨locs, hlo⟩ : ∃ L : List Loc, L = [] := ⟨_, rfl⟩
  have hP : WP D cA a S X I H := hHe ▸ hP
  have hS : va_S (AI a I) s.heap H locs := by rw [hHe, hlo]; exact hS
  rw [← hHe, ← hlo]
  have hA : ∀ q, AI a I q → AI a I q := fun _ h => h
  obtain ⟨hLnk, hP6, hL8, h17, h16, h8, h3, h2⟩ := id hTW
  refine lv_aload_n C0.1 C0.2.1 dX8_tellTraveller_0 rfl (lv_at hl 0 rfl) ?_
  refine g89_now C0 hK hP (hd.1 _ (by decide)) fl_X8_53 dX8_tellTraveller_1 ?_
  refine g86_travellers C0 hK hP (hd.1 _ (by decide)) fl_X8_163 dX8_tellTraveller_4 ?_
  refine lv_astore_n (lv' := [(3, .ref (a 85)), (0, .ref (a 89)), (1, .int (nI t)), (2, .int w)]) C0.1 C0.2.1 dX8_tellTraveller_7 rfl hl (by decide) rfl (fun ls hl => ?_)
  refine lv_iload_n C0.1 C0.2.1 dX8_tellTraveller_8 rfl (lv_at hl 3 rfl) ?_
  by_cases k_9_0 : w = 0
  · refine lv_tableIn (off := 39) (tgt := 48) C0.1 C0.2.1 dX8_tellTraveller_9 (by rw [k_9_0]; decide) (by rw [k_9_0]; decide) (by rw [k_9_0]; decide) (by decide) ?_
    refine lv_aload_n C0.1 C0.2.1 dX8_tellTraveller_48 rfl (lv_at hl 0 rfl) ?_
    refine g85_wish C0 hK hP (hd.1 _ (by decide)) fl_X8_192 dX8_tellTraveller_49 ?_
    refine lv_iload_n C0.1 C0.2.1 dX8_tellTraveller_52 rfl (lv_at hl 2 rfl) ?_
    refine k_X5_get (v := S 20 t) 20 (by decide) hd (by decide) (by decide) C0 hK hP (rg_nI (show t < 30 by omega) (by decide)) hS hA hl.1 ml_X8_104 ⟨Nat.le_of_ble_eq_true rfl, Nat.le_of_ble_eq_true rfl⟩ ⟨Nat.zero_le _, Nat.zero_le _⟩ (Nat.le_of_ble_eq_true rfl) dX8_tellTraveller_53 (fun H locs hP hS => ?_)
    exact retI C0 hr hlk hP hS ⟨by unfold trvS; rw [k_9_0]; rfl, rfl, rfl⟩ dX8_tellTraveller_56
  by_cases k_9_1 : w = 1
  · refine lv_tableIn (off := 48) (tgt := 57) C0.1 C0.2.1 dX8_tellTraveller_9 (by rw [k_9_1]; decide) (by rw [k_9_1]; decide) (by rw [k_9_1]; decide) (by decide) ?_
    refine lv_aload_n C0.1 C0.2.1 dX8_tellTraveller_57 rfl (lv_at hl 0 rfl) ?_
    refine g85_purse C0 hK hP (hd.1 _ (by decide)) fl_X8_195 dX8_tellTraveller_58 ?_
    refine lv_iload_n C0.1 C0.2.1 dX8_tellTraveller_61 rfl (lv_at hl 2 rfl) ?_
    refine k_X5_get (v := S 21 t) 21 (by decide) hd (by decide) (by decide) C0 hK hP (rg_nI (show t < 30 by omega) (by decide)) hS hA hl.1 ml_X8_104 ⟨Nat.le_of_ble_eq_true rfl, Nat.le_of_ble_eq_true rfl⟩ ⟨Nat.zero_le _, Nat.zero_le _⟩ (Nat.le_of_ble_eq_true rfl) dX8_tellTraveller_62 (fun H locs hP hS => ?_)
    exact retI C0 hr hlk hP hS ⟨by unfold trvS; rw [k_9_1]; rfl, rfl, rfl⟩ dX8_tellTraveller_65
  by_cases k_9_2 : w = 2
  · refine lv_tableIn (off := 57) (tgt := 66) C0.1 C0.2.1 dX8_tellTraveller_9 (by rw [k_9_2]; decide) (by rw [k_9_2]; decide) (by rw [k_9_2]; decide) (by decide) ?_
    refine lv_aload_n C0.1 C0.2.1 dX8_tellTraveller_66 rfl (lv_at hl 0 rfl) ?_
    refine g85_landing C0 hK hP (hd.1 _ (by decide)) fl_X8_198 dX8_tellTraveller_67 ?_
    refine lv_iload_n C0.1 C0.2.1 dX8_tellTraveller_70 rfl (lv_at hl 2 rfl) ?_
    refine k_X5_get (v := S 22 t) 22 (by decide) hd (by decide) (by decide) C0 hK hP (rg_nI (show t < 30 by omega) (by decide)) hS hA hl.1 ml_X8_104 ⟨Nat.le_of_ble_eq_true rfl, Nat.le_of_ble_eq_true rfl⟩ ⟨Nat.zero_le _, Nat.zero_le _⟩ (Nat.le_of_ble_eq_true rfl) dX8_tellTraveller_71 (fun H locs hP hS => ?_)
    exact retI C0 hr hlk hP hS ⟨by unfold trvS; rw [k_9_2]; rfl, rfl, rfl⟩ dX8_tellTraveller_74
  by_cases k_9_3 : w = 3
  · refine lv_tableIn (off := 66) (tgt := 75) C0.1 C0.2.1 dX8_tellTraveller_9 (by rw [k_9_3]; decide) (by rw [k_9_3]; decide) (by rw [k_9_3]; decide) (by decide) ?_
    refine lv_aload_n C0.1 C0.2.1 dX8_tellTraveller_75 rfl (lv_at hl 0 rfl) ?_
    refine g85_punt C0 hK hP (hd.1 _ (by decide)) fl_X8_167 dX8_tellTraveller_76 ?_
    refine lv_iload_n C0.1 C0.2.1 dX8_tellTraveller_79 rfl (lv_at hl 2 rfl) ?_
    refine k_X5_get (v := S 23 t) 23 (by decide) hd (by decide) (by decide) C0 hK hP (rg_nI (show t < 30 by omega) (by decide)) hS hA hl.1 ml_X8_104 ⟨Nat.le_of_ble_eq_true rfl, Nat.le_of_ble_eq_true rfl⟩ ⟨Nat.zero_le _, Nat.zero_le _⟩ (Nat.le_of_ble_eq_true rfl) dX8_tellTraveller_80 (fun H locs hP hS => ?_)
    exact retI C0 hr hlk hP hS ⟨by unfold trvS; rw [k_9_3]; rfl, rfl, rfl⟩ dX8_tellTraveller_83
  by_cases k_9_4 : w = 4
  · refine lv_tableIn (off := 75) (tgt := 84) C0.1 C0.2.1 dX8_tellTraveller_9 (by rw [k_9_4]; decide) (by rw [k_9_4]; decide) (by rw [k_9_4]; decide) (by decide) ?_
    refine lv_aload_n C0.1 C0.2.1 dX8_tellTraveller_84 rfl (lv_at hl 0 rfl) ?_
    refine lv_iload_n C0.1 C0.2.1 dX8_tellTraveller_85 rfl (lv_at hl 2 rfl) ?_
    refine k_X7_hasCome hd sTF C0 hK hP (by omega) (v := bI (!decide (S 24 t = -1))) rfl hS hA hl.1 ml_X8_201 ⟨Nat.le_of_ble_eq_true rfl, Nat.le_of_ble_eq_true rfl⟩ ⟨Nat.zero_le _, Nat.zero_le _⟩ (Nat.le_of_ble_eq_true rfl) dX8_tellTraveller_86 (fun H locs hP hS => ?_)
    refine lv_if_eq (tgt := 96) C0.1 C0.2.1 dX8_tellTraveller_89 (by decide) (fun c_89 => ?_) (fun c_89 => ?_)
    · have c_89 := bI_eq c_89
      refine lv_iconst (v := 0) C0.1 C0.2.1 dX8_tellTraveller_96 (by decide) ?_
      exact retI C0 hr hlk hP hS ⟨by unfold trvS; rw [k_9_4]; show _ = bI _; rw [c_89]; rfl, rfl, rfl⟩ dX8_tellTraveller_97
    · have c_89 := bI_ne c_89
      refine lv_iconst (v := 1) C0.1 C0.2.1 dX8_tellTraveller_92 (by decide) ?_
      refine lv_goto (tgt := 97) C0.1 C0.2.1 dX8_tellTraveller_93 (by decide) ?_
      exact retI C0 hr hlk hP hS ⟨by unfold trvS; rw [k_9_4]; show _ = bI _; rw [c_89]; rfl, rfl, rfl⟩ dX8_tellTraveller_97
  by_cases k_9_5 : w = 5
  · refine lv_tableIn (off := 89) (tgt := 98) C0.1 C0.2.1 dX8_tellTraveller_9 (by rw [k_9_5]; decide) (by rw [k_9_5]; decide) (by rw [k_9_5]; decide) (by decide) ?_
    refine lv_aload_n C0.1 C0.2.1 dX8_tellTraveller_98 rfl (lv_at hl 1 rfl) ?_
    refine g89_now C0 hK hP (hd.1 _ (by decide)) fl_X8_53 dX8_tellTraveller_99 ?_
    refine lv_iload_n C0.1 C0.2.1 dX8_tellTraveller_102 rfl (lv_at hl 2 rfl) ?_
    refine k_X6_chainLeft hd sTF C0 hK hP (by omega) (v := if S 23 t = -1 then lnI (X 10) (S 22 t) (S 20 t) else if lnI (X 10) (rg (S 17) 6 (S 23 t)) (S 20 t) = -1 then -1 else lnI (X 10) (rg (S 17) 6 (S 23 t)) (S 20 t) + 1) rfl hS hA hl.1 ml_X8_204 ⟨Nat.le_of_ble_eq_true rfl, Nat.le_of_ble_eq_true rfl⟩ ⟨Nat.zero_le _, Nat.zero_le _⟩ (Nat.le_of_ble_eq_true rfl) dX8_tellTraveller_103 (fun H locs hP hS => ?_)
    exact retI C0 hr hlk hP hS ⟨by unfold trvS; rw [k_9_5]; exact chl_eq hTW hTr hCh ht, rfl, rfl⟩ dX8_tellTraveller_106
  refine lv_tableOut (tgt := 107) C0.1 C0.2.1 dX8_tellTraveller_9 (sw_out5 k_9_0 k_9_1 k_9_2 k_9_3 k_9_4 k_9_5) (by decide) ?_
  refine lv_aload_n C0.1 C0.2.1 dX8_tellTraveller_107 rfl (lv_at hl 0 rfl) ?_
  refine g85_cameAt C0 hK hP (hd.1 _ (by decide)) fl_X8_207 dX8_tellTraveller_108 ?_
  refine lv_iload_n C0.1 C0.2.1 dX8_tellTraveller_111 rfl (lv_at hl 2 rfl) ?_
  refine k_X5_get (v := S 24 t) 24 (by decide) hd (by decide) (by decide) C0 hK hP (rg_nI (show t < 30 by omega) (by decide)) hS hA hl.1 ml_X8_104 ⟨Nat.le_of_ble_eq_true rfl, Nat.le_of_ble_eq_true rfl⟩ ⟨Nat.zero_le _, Nat.zero_le _⟩ (Nat.le_of_ble_eq_true rfl) dX8_tellTraveller_112 (fun H locs hP hS => ?_)
  exact retI C0 hr hlk hP hS ⟨by unfold trvS; rw [if_neg k_9_0, if_neg k_9_1, if_neg k_9_2, if_neg k_9_3, if_neg k_9_4, if_neg k_9_5], rfl, rfl⟩ dX8_tellTraveller_115
theorem k_X8_tellTraveller {n : List Nat} (hd : Hd n a I) (hsub : ∀ k ∈ nF, k ∈ n) (C0 : CallFix p m c cc nL s args GW own) (hK : KK D cA s) (hP : WP D cA a S X I H) {t : Nat} {w : Int32} {P : Nat} {L : Nat} {T : Nat} (hnT : S 85 0 = nI T) (hT30 : T ≤ 30) (hCh : ChainsOk S X P) (hTW : TW S P L) (hTr : TrW S P L T) (ht : t < T) {v : Int32} (hv : (trvS S P t w) = v) (hS : va_S A0 H0 H locs) (hA : ∀ q, AI a I q → A0 q) (hls : ls.size = nL) {idx : Nat} (hlink : Cond.methodLink own idx yX8_tellTraveller ∈ GW) (hR : 4 ≤ R.frames ∧ 89 ≤ R.locals) (hcs : cells ≤ R.cells ∧ slots ≤ R.slots) (hrest : (rest.map fun v => v.category).sum ≤ 8) (hdg : decode cc pc = .ok (.invokevirtual idx, 3)) (kk : ∀ (H1 : Heap) (locs1 : List Loc), WP D cA a S X I H1 → va_S A0 H0 H1 locs1 → W p l e R s m args below meth c H1 locs1 cells slots Q (F0 m (pc + 3) ls (.int v :: rest))) : W p l e R s m args below meth c H locs cells slots Q (F0 m pc ls (.int w :: .int (nI t) :: .ref (a 89) :: rest)) := by
  subst hv
  exact goI (rV (n := 2) (c_X8_tellTraveller l D cA a S X I (hd.sub hsub) t w hnT hT30 hCh hTW hTr ht) C0 hlink im_X8_tellTraveller se_X8_tellTraveller in_X8 co_X8_tellTraveller ⟨rfl, by decide⟩ hR hK hP (hd.1 _ (hsub _ (by decide))) rfl rfl rfl hls hrest rfl hdg hcs) hS hA (fun r S1 X1 H1 locs1 hp hP1 hS1 => by obtain ⟨rfl, rfl, rfl⟩ := hp; exact kk H1 locs1 hP1 hS1)
set_option maxHeartbeats 4000000 in
set_option maxRecDepth 100000 in
theorem c_X8_tellLanding (l : Launch) (D : va_G) (cA : ClassId) (a : Adr) (S X : Mem) (I : Nat → Prop) (hd : Hd nF a I) (x : Nat) (w : Int32) {P : Nat} {L : Nat} {T : Nat} (hnP : S 82 0 = nI P) (hnT : S 85 0 = nI T) (hT30 : T ≤ 30) (hTW : TW S P L) (hx : x < L) : MI l yX8_tellLanding cX8_tellLanding 3 (some .int) 4 87 D cA a S X I [.ref (a 89), .int (nI x), .int w] (fun r S1 X1 => r = (lanS S P T x w) ∧ S1 = S ∧ X1 = X) := by
  refine mGo (by decide) (Nat.le_of_ble_eq_true rfl) ?_
  intro p e s m args below meth c ls C0 hr hlk hK hP hS hl hargs
  obtain ⟨H, hHe⟩ : ∃ H, H = s.heap := ⟨_, rfl⟩
  obtain ⟨locs, hlo⟩ : ∃ L : List Loc, L = [] := ⟨_, rfl⟩
  have hP : WP D cA a S X I H := hHe ▸ hP
  have hS : va_S (AI a I) s.heap H locs := by rw [hHe, hlo]; exact hS
  rw [← hHe, ← hlo]
  have hA : ∀ q, AI a I q → AI a I q := fun _ h => h
  obtain ⟨hLnk, hP6, hL8, h17, h16, h8, h3, h2⟩ := id hTW
  refine lv_iload_n C0.1 C0.2.1 dX8_tellLanding_0 rfl (lv_at hl 2 rfl) ?_
  by_cases k_1_0 : w = 0
  · refine lv_tableIn (off := 31) (tgt := 32) C0.1 C0.2.1 dX8_tellLanding_1 (by rw [k_1_0]; decide) (by rw [k_1_0]; decide) (by rw [k_1_0]; decide) (by decide) ?_
    refine lv_aload_n C0.1 C0.2.1 dX8_tellLanding_32 rfl (lv_at hl 0 rfl) ?_
    refine g89_landings C0 hK hP (hd.1 _ (by decide)) fl_X8_19 dX8_tellLanding_33 ?_
    refine g81_cell C0 hK hP (hd.1 _ (by decide)) fl_X8_140 dX8_tellLanding_36 ?_
    refine lv_iload_n C0.1 C0.2.1 dX8_tellLanding_39 rfl (lv_at hl 1 rfl) ?_
    refine k_X5_get (v := S 3 x) 3 (by decide) hd (by decide) (by decide) C0 hK hP (rg_nI (show x < 8 by omega) (by decide)) hS hA hl.1 ml_X8_104 ⟨Nat.le_of_ble_eq_true rfl, Nat.le_of_ble_eq_true rfl⟩ ⟨Nat.zero_le _, Nat.zero_le _⟩ (Nat.le_of_ble_eq_true rfl) dX8_tellLanding_40 (fun H locs hP hS => ?_)
    refine k_X8_columnOf hd s0 C0 hK hP  (v := (S 3 x) - (S 3 x) / 14 * 14) rfl hS hA hl.1 ml_X8_154 ⟨Nat.le_of_ble_eq_true rfl, Nat.le_of_ble_eq_true rfl⟩ ⟨Nat.zero_le _, Nat.zero_le _⟩ (Nat.le_of_ble_eq_true rfl) dX8_tellLanding_43 (fun H locs hP hS => ?_)
    exact retI C0 hr hlk hP hS ⟨by unfold lanS; rw [k_1_0]; rfl, rfl, rfl⟩ dX8_tellLanding_46
  by_cases k_1_1 : w = 1
  · refine lv_tableIn (off := 46) (tgt := 47) C0.1 C0.2.1 dX8_tellLanding_1 (by rw [k_1_1]; decide) (by rw [k_1_1]; decide) (by rw [k_1_1]; decide) (by decide) ?_
    refine lv_aload_n C0.1 C0.2.1 dX8_tellLanding_47 rfl (lv_at hl 0 rfl) ?_
    refine g89_landings C0 hK hP (hd.1 _ (by decide)) fl_X8_19 dX8_tellLanding_48 ?_
    refine g81_cell C0 hK hP (hd.1 _ (by decide)) fl_X8_140 dX8_tellLanding_51 ?_
    refine lv_iload_n C0.1 C0.2.1 dX8_tellLanding_54 rfl (lv_at hl 1 rfl) ?_
    refine k_X5_get (v := S 3 x) 3 (by decide) hd (by decide) (by decide) C0 hK hP (rg_nI (show x < 8 by omega) (by decide)) hS hA hl.1 ml_X8_104 ⟨Nat.le_of_ble_eq_true rfl, Nat.le_of_ble_eq_true rfl⟩ ⟨Nat.zero_le _, Nat.zero_le _⟩ (Nat.le_of_ble_eq_true rfl) dX8_tellLanding_55 (fun H locs hP hS => ?_)
    refine k_X8_rowOf hd s0 C0 hK hP  (v := (S 3 x) / 14) rfl hS hA hl.1 ml_X8_157 ⟨Nat.le_of_ble_eq_true rfl, Nat.le_of_ble_eq_true rfl⟩ ⟨Nat.zero_le _, Nat.zero_le _⟩ (Nat.le_of_ble_eq_true rfl) dX8_tellLanding_58 (fun H locs hP hS => ?_)
    exact retI C0 hr hlk hP hS ⟨by unfold lanS; rw [k_1_1]; rfl, rfl, rfl⟩ dX8_tellLanding_61
  by_cases k_1_2 : w = 2
  · refine lv_tableIn (off := 61) (tgt := 62) C0.1 C0.2.1 dX8_tellLanding_1 (by rw [k_1_2]; decide) (by rw [k_1_2]; decide) (by rw [k_1_2]; decide) (by decide) ?_
    refine lv_aload_n C0.1 C0.2.1 dX8_tellLanding_62 rfl (lv_at hl 0 rfl) ?_
    refine g89_now C0 hK hP (hd.1 _ (by decide)) fl_X8_53 dX8_tellLanding_63 ?_
    refine g86_travellers C0 hK hP (hd.1 _ (by decide)) fl_X8_163 dX8_tellLanding_66 ?_
    refine lv_iload_n C0.1 C0.2.1 dX8_tellLanding_69 rfl (lv_at hl 1 rfl) ?_
    refine k_X7_waitingAt hd sTF C0 hK hP hnT hT30 (v := nI (cnt (fun t => decide ((S 22) t = (nI x)) && decide ((S 24) t = -1)) T)) rfl hS hA hl.1 ml_X8_213 ⟨Nat.le_of_ble_eq_true rfl, Nat.le_of_ble_eq_true rfl⟩ ⟨Nat.zero_le _, Nat.zero_le _⟩ (Nat.le_of_ble_eq_true rfl) dX8_tellLanding_70 (fun H locs hP hS => ?_)
    exact retI C0 hr hlk hP hS ⟨by unfold lanS; rw [k_1_2]; rfl, rfl, rfl⟩ dX8_tellLanding_73
  by_cases k_1_3 : w = 3
  · refine lv_tableIn (off := 73) (tgt := 74) C0.1 C0.2.1 dX8_tellLanding_1 (by rw [k_1_3]; decide) (by rw [k_1_3]; decide) (by rw [k_1_3]; decide) (by decide) ?_
    refine lv_aload_n C0.1 C0.2.1 dX8_tellLanding_74 rfl (lv_at hl 0 rfl) ?_
    refine g89_now C0 hK hP (hd.1 _ (by decide)) fl_X8_53 dX8_tellLanding_75 ?_
    refine g86_travellers C0 hK hP (hd.1 _ (by decide)) fl_X8_163 dX8_tellLanding_78 ?_
    refine lv_iload_n C0.1 C0.2.1 dX8_tellLanding_81 rfl (lv_at hl 1 rfl) ?_
    refine k_X7_comeTo hd sTF C0 hK hP hnT hT30 (v := nI (cnt (fun j => decide ((S 22) j = (nI x))) T) - nI (cnt (fun t => decide ((S 22) t = (nI x)) && decide ((S 24) t = -1)) T)) rfl hS hA hl.1 ml_X8_216 ⟨Nat.le_of_ble_eq_true rfl, Nat.le_of_ble_eq_true rfl⟩ ⟨Nat.zero_le _, Nat.zero_le _⟩ (Nat.le_of_ble_eq_true rfl) dX8_tellLanding_82 (fun H locs hP hS => ?_)
    exact retI C0 hr hlk hP hS ⟨by unfold lanS; rw [k_1_3]; exact comeTo_eq S T (nI x), rfl, rfl⟩ dX8_tellLanding_85
  refine lv_tableOut (tgt := 86) C0.1 C0.2.1 dX8_tellLanding_1 (sw_out3 k_1_0 k_1_1 k_1_2 k_1_3) (by decide) ?_
  refine lv_aload_n C0.1 C0.2.1 dX8_tellLanding_86 rfl (lv_at hl 0 rfl) ?_
  refine g89_fleet C0 hK hP (hd.1 _ (by decide)) fl_X8_26 dX8_tellLanding_87 ?_
  refine lv_iload_n C0.1 C0.2.1 dX8_tellLanding_90 rfl (lv_at hl 1 rfl) ?_
  refine k_X2_puntsFrom hd sTF C0 hK hP hnP hP6 (v := nI (cnt (fun j => decide ((S 4) j = (nI x))) P) + nI (cnt (fun j => decide ((S 5) j = (nI x))) P)) rfl hS hA hl.1 ml_X8_219 ⟨Nat.le_of_ble_eq_true rfl, Nat.le_of_ble_eq_true rfl⟩ ⟨Nat.zero_le _, Nat.zero_le _⟩ (Nat.le_of_ble_eq_true rfl) dX8_tellLanding_91 (fun H locs hP hS => ?_)
  exact retI C0 hr hlk hP hS ⟨by unfold lanS; rw [if_neg k_1_0, if_neg k_1_1, if_neg k_1_2, if_neg k_1_3]; exact punts_eq hLnk hL8 (by omega), rfl, rfl⟩ dX8_tellLanding_94
theorem k_X8_tellLanding {n : List Nat} (hd : Hd n a I) (hsub : ∀ k ∈ nF, k ∈ n) (C0 : CallFix p m c cc nL s args GW own) (hK : KK D cA s) (hP : WP D cA a S X I H) {x : Nat} {w : Int32} {P : Nat} {L : Nat} {T : Nat} (hnP : S 82 0 = nI P) (hnT : S 85 0 = nI T) (hT30 : T ≤ 30) (hTW : TW S P L) (hx : x < L) {v : Int32} (hv : (lanS S P T x w) = v) (hS : va_S A0 H0 H locs) (hA : ∀ q, AI a I q → A0 q) (hls : ls.size = nL) {idx : Nat} (hlink : Cond.methodLink own idx yX8_tellLanding ∈ GW) (hR : 5 ≤ R.frames ∧ 109 ≤ R.locals) (hcs : cells ≤ R.cells ∧ slots ≤ R.slots) (hrest : (rest.map fun v => v.category).sum ≤ 8) (hdg : decode cc pc = .ok (.invokevirtual idx, 3)) (kk : ∀ (H1 : Heap) (locs1 : List Loc), WP D cA a S X I H1 → va_S A0 H0 H1 locs1 → W p l e R s m args below meth c H1 locs1 cells slots Q (F0 m (pc + 3) ls (.int v :: rest))) : W p l e R s m args below meth c H locs cells slots Q (F0 m pc ls (.int w :: .int (nI x) :: .ref (a 89) :: rest)) := by
  subst hv
  exact goI (rV (n := 2) (c_X8_tellLanding l D cA a S X I (hd.sub hsub) x w hnP hnT hT30 hTW hx) C0 hlink im_X8_tellLanding se_X8_tellLanding in_X8 co_X8_tellLanding ⟨rfl, by decide⟩ hR hK hP (hd.1 _ (hsub _ (by decide))) rfl rfl rfl hls hrest rfl hdg hcs) hS hA (fun r S1 X1 H1 locs1 hp hP1 hS1 => by obtain ⟨rfl, rfl, rfl⟩ := hp; exact kk H1 locs1 hP1 hS1)
set_option maxHeartbeats 4000000 in
set_option maxRecDepth 100000 in
theorem c_X8_tellCount (l : Launch) (D : va_G) (cA : ClassId) (a : Adr) (S X : Mem) (I : Nat → Prop) (hd : Hd nF a I) (w : Int32) {P : Nat} {L : Nat} {T : Nat} {h : Nat} (hnP : S 82 0 = nI P) (hnL : S 81 0 = nI L) (hnT : S 85 0 = nI T) (hT30 : T ≤ 30) (hnH : S 86 0 = nI h) (hh : h < 2 ^ 31) (hTW : TW S P L) (hTr : TrW S P L T) : MI l yX8_tellCount cX8_tellCount 2 (some .int) 5 105 D cA a S X I [.ref (a 89), .int w] (fun r S1 X1 => r = (couS S P L T h w) ∧ S1 = S ∧ X1 = X) := by
  refine mGo (by decide) (Nat.le_of_ble_eq_true rfl) ?_
  intro p e s m args below meth c ls C0 hr hlk hK hP hS hl hargs
  obtain ⟨H, hHe⟩ : ∃ H, H = s.heap := ⟨_, rfl⟩
  obtain ⟨locs, hlo⟩ : ∃ L : List Loc, L = [] := ⟨_, rfl⟩
  have hP : WP D cA a S X I H := hHe ▸ hP
  have hS : va_S (AI a I) s.heap H locs := by rw [hHe, hlo]; exact hS
  rw [← hHe, ← hlo]
  have hA : ∀ q, AI a I q → AI a I q := fun _ h => h
  obtain ⟨hLnk, hP6, hL8, h17, h16, h8, h3, h2⟩ := id hTW
  refine lv_iload_n C0.1 C0.2.1 dX8_tellCount_0 rfl (lv_at hl 1 rfl) ?_
  by_cases k_1_0 : w = 0
  · refine lv_tableIn (off := 55) (tgt := 56) C0.1 C0.2.1 dX8_tellCount_1 (by rw [k_1_0]; decide) (by rw [k_1_0]; decide) (by rw [k_1_0]; decide) (by decide) ?_
    refine lv_aload_n C0.1 C0.2.1 dX8_tellCount_56 rfl (lv_at hl 0 rfl) ?_
    refine g89_now C0 hK hP (hd.1 _ (by decide)) fl_X8_53 dX8_tellCount_57 ?_
    refine g86_hour (v := nI h) C0 hK hP (hd.1 _ (by decide)) fl_X8_228 hnH dX8_tellCount_60 ?_
    exact retI C0 hr hlk hP hS ⟨by unfold couS; rw [k_1_0]; rfl, rfl, rfl⟩ dX8_tellCount_63
  by_cases k_1_1 : w = 1
  · refine lv_tableIn (off := 63) (tgt := 64) C0.1 C0.2.1 dX8_tellCount_1 (by rw [k_1_1]; decide) (by rw [k_1_1]; decide) (by rw [k_1_1]; decide) (by decide) ?_
    refine lv_aload_n C0.1 C0.2.1 dX8_tellCount_64 rfl (lv_at hl 0 rfl) ?_
    refine g89_now C0 hK hP (hd.1 _ (by decide)) fl_X8_53 dX8_tellCount_65 ?_
    refine k_X6_level hd sTF C0 hK hP hnH hh (v := S 2 (h % 12)) rfl hS hA hl.1 ml_X8_100 ⟨Nat.le_of_ble_eq_true rfl, Nat.le_of_ble_eq_true rfl⟩ ⟨Nat.zero_le _, Nat.zero_le _⟩ (Nat.le_of_ble_eq_true rfl) dX8_tellCount_68 (fun H locs hP hS => ?_)
    exact retI C0 hr hlk hP hS ⟨by unfold couS; rw [k_1_1]; rfl, rfl, rfl⟩ dX8_tellCount_71
  by_cases k_1_2 : w = 2
  · refine lv_tableIn (off := 71) (tgt := 72) C0.1 C0.2.1 dX8_tellCount_1 (by rw [k_1_2]; decide) (by rw [k_1_2]; decide) (by rw [k_1_2]; decide) (by decide) ?_
    refine lv_aload_n C0.1 C0.2.1 dX8_tellCount_72 rfl (lv_at hl 0 rfl) ?_
    refine g89_landings C0 hK hP (hd.1 _ (by decide)) fl_X8_19 dX8_tellCount_73 ?_
    refine g81_number (v := nI L) C0 hK hP (hd.1 _ (by decide)) fl_X8_127 hnL dX8_tellCount_76 ?_
    exact retI C0 hr hlk hP hS ⟨by unfold couS; rw [k_1_2]; rfl, rfl, rfl⟩ dX8_tellCount_79
  by_cases k_1_3 : w = 3
  · refine lv_tableIn (off := 79) (tgt := 80) C0.1 C0.2.1 dX8_tellCount_1 (by rw [k_1_3]; decide) (by rw [k_1_3]; decide) (by rw [k_1_3]; decide) (by decide) ?_
    refine lv_aload_n C0.1 C0.2.1 dX8_tellCount_80 rfl (lv_at hl 0 rfl) ?_
    refine g89_fleet C0 hK hP (hd.1 _ (by decide)) fl_X8_26 dX8_tellCount_81 ?_
    refine g82_number (v := nI P) C0 hK hP (hd.1 _ (by decide)) fl_X8_120 hnP dX8_tellCount_84 ?_
    exact retI C0 hr hlk hP hS ⟨by unfold couS; rw [k_1_3]; rfl, rfl, rfl⟩ dX8_tellCount_87
  by_cases k_1_4 : w = 4
  · refine lv_tableIn (off := 87) (tgt := 88) C0.1 C0.2.1 dX8_tellCount_1 (by rw [k_1_4]; decide) (by rw [k_1_4]; decide) (by rw [k_1_4]; decide) (by decide) ?_
    refine lv_aload_n C0.1 C0.2.1 dX8_tellCount_88 rfl (lv_at hl 0 rfl) ?_
    refine g89_now C0 hK hP (hd.1 _ (by decide)) fl_X8_53 dX8_tellCount_89 ?_
    refine g86_travellers C0 hK hP (hd.1 _ (by decide)) fl_X8_163 dX8_tellCount_92 ?_
    refine g85_number (v := nI T) C0 hK hP (hd.1 _ (by decide)) fl_X8_172 hnT dX8_tellCount_95 ?_
    exact retI C0 hr hlk hP hS ⟨by unfold couS; rw [k_1_4]; rfl, rfl, rfl⟩ dX8_tellCount_98
  by_cases k_1_5 : w = 5
  · refine lv_tableIn (off := 98) (tgt := 99) C0.1 C0.2.1 dX8_tellCount_1 (by rw [k_1_5]; decide) (by rw [k_1_5]; decide) (by rw [k_1_5]; decide) (by decide) ?_
    refine lv_aload_n C0.1 C0.2.1 dX8_tellCount_99 rfl (lv_at hl 0 rfl) ?_
    refine g89_now C0 hK hP (hd.1 _ (by decide)) fl_X8_53 dX8_tellCount_100 ?_
    refine g86_travellers C0 hK hP (hd.1 _ (by decide)) fl_X8_163 dX8_tellCount_103 ?_
    refine k_X7_waiting hd sTF C0 hK hP hnT hT30 (v := nI T - (nI T - nI (cnt (fun j => decide ((S 23) j = -1)) T)) - (nI T - nI (cnt (fun j => decide ((S 24) j = -1)) T))) rfl hS hA hl.1 ml_X8_231 ⟨Nat.le_of_ble_eq_true rfl, Nat.le_of_ble_eq_true rfl⟩ ⟨Nat.zero_le _, Nat.zero_le _⟩ (Nat.le_of_ble_eq_true rfl) dX8_tellCount_106 (fun H locs hP hS => ?_)
    exact retI C0 hr hlk hP hS ⟨by unfold couS; rw [k_1_5]; exact waiting_eq hTr, rfl, rfl⟩ dX8_tellCount_109
  by_cases k_1_6 : w = 6
  · refine lv_tableIn (off := 109) (tgt := 110) C0.1 C0.2.1 dX8_tellCount_1 (by rw [k_1_6]; decide) (by rw [k_1_6]; decide) (by rw [k_1_6]; decide) (by decide) ?_
    refine lv_aload_n C0.1 C0.2.1 dX8_tellCount_110 rfl (lv_at hl 0 rfl) ?_
    refine g89_now C0 hK hP (hd.1 _ (by decide)) fl_X8_53 dX8_tellCount_111 ?_
    refine g86_travellers C0 hK hP (hd.1 _ (by decide)) fl_X8_163 dX8_tellCount_114 ?_
    refine k_X7_riding hd sTF C0 hK hP hnT hT30 (v := nI T - nI (cnt (fun j => decide ((S 23) j = -1)) T)) rfl hS hA hl.1 ml_X8_234 ⟨Nat.le_of_ble_eq_true rfl, Nat.le_of_ble_eq_true rfl⟩ ⟨Nat.zero_le _, Nat.zero_le _⟩ (Nat.le_of_ble_eq_true rfl) dX8_tellCount_117 (fun H locs hP hS => ?_)
    exact retI C0 hr hlk hP hS ⟨by unfold couS; rw [k_1_6]; exact riding_eq hTr, rfl, rfl⟩ dX8_tellCount_120
  by_cases k_1_7 : w = 7
  · refine lv_tableIn (off := 120) (tgt := 121) C0.1 C0.2.1 dX8_tellCount_1 (by rw [k_1_7]; decide) (by rw [k_1_7]; decide) (by rw [k_1_7]; decide) (by decide) ?_
    refine lv_aload_n C0.1 C0.2.1 dX8_tellCount_121 rfl (lv_at hl 0 rfl) ?_
    refine g89_now C0 hK hP (hd.1 _ (by decide)) fl_X8_53 dX8_tellCount_122 ?_
    refine g86_travellers C0 hK hP (hd.1 _ (by decide)) fl_X8_163 dX8_tellCount_125 ?_
    refine k_X7_come hd sTF C0 hK hP hnT hT30 (v := nI T - nI (cnt (fun j => decide ((S 24) j = -1)) T)) rfl hS hA hl.1 ml_X8_237 ⟨Nat.le_of_ble_eq_true rfl, Nat.le_of_ble_eq_true rfl⟩ ⟨Nat.zero_le _, Nat.zero_le _⟩ (Nat.le_of_ble_eq_true rfl) dX8_tellCount_128 (fun H locs hP hS => ?_)
    exact retI C0 hr hlk hP hS ⟨by unfold couS; rw [k_1_7]; exact come_eq S T, rfl, rfl⟩ dX8_tellCount_131
  by_cases k_1_8 : w = 8
  · refine lv_tableIn (off := 131) (tgt := 132) C0.1 C0.2.1 dX8_tellCount_1 (by rw [k_1_8]; decide) (by rw [k_1_8]; decide) (by rw [k_1_8]; decide) (by decide) ?_
    refine lv_aload_n C0.1 C0.2.1 dX8_tellCount_132 rfl (lv_at hl 0 rfl) ?_
    refine g89_now C0 hK hP (hd.1 _ (by decide)) fl_X8_53 dX8_tellCount_133 ?_
    refine k_X6_takingsInAll hd sTF C0 hK hP hnP hP6 (v := smI (S 18) P) rfl hS hA hl.1 ml_X8_240 ⟨Nat.le_of_ble_eq_true rfl, Nat.le_of_ble_eq_true rfl⟩ ⟨Nat.zero_le _, Nat.zero_le _⟩ (Nat.le_of_ble_eq_true rfl) dX8_tellCount_136 (fun H locs hP hS => ?_)
    exact retI C0 hr hlk hP hS ⟨by unfold couS; rw [k_1_8]; rfl, rfl, rfl⟩ dX8_tellCount_139
  by_cases k_1_9 : w = 9
  · refine lv_tableIn (off := 139) (tgt := 140) C0.1 C0.2.1 dX8_tellCount_1 (by rw [k_1_9]; decide) (by rw [k_1_9]; decide) (by rw [k_1_9]; decide) (by decide) ?_
    refine lv_aload_n C0.1 C0.2.1 dX8_tellCount_140 rfl (lv_at hl 0 rfl) ?_
    refine g89_now C0 hK hP (hd.1 _ (by decide)) fl_X8_53 dX8_tellCount_141 ?_
    refine k_X6_puntsAground hd sTF C0 hK hP hnP hP6 hnH hh (v := nI (cnt (fun p => !flt S (nI p) ((S 16) p) (lvS S h)) P)) rfl hS hA hl.1 ml_X8_243 ⟨Nat.le_of_ble_eq_true rfl, Nat.le_of_ble_eq_true rfl⟩ ⟨Nat.zero_le _, Nat.zero_le _⟩ (Nat.le_of_ble_eq_true rfl) dX8_tellCount_144 (fun H locs hP hS => ?_)
    exact retI C0 hr hlk hP hS ⟨by unfold couS; rw [k_1_9]; rfl, rfl, rfl⟩ dX8_tellCount_147
  refine lv_tableOut (tgt := 148) C0.1 C0.2.1 dX8_tellCount_1 (sw_out9 k_1_0 k_1_1 k_1_2 k_1_3 k_1_4 k_1_5 k_1_6 k_1_7 k_1_8 k_1_9) (by decide) ?_
  refine lv_aload_n C0.1 C0.2.1 dX8_tellCount_148 rfl (lv_at hl 0 rfl) ?_
  refine g89_plain C0 hK hP (hd.1 _ (by decide)) fl_X8_12 dX8_tellCount_149 ?_
  refine lv_aload_n C0.1 C0.2.1 dX8_tellCount_152 rfl (lv_at hl 0 rfl) ?_
  refine g89_now C0 hK hP (hd.1 _ (by decide)) fl_X8_53 dX8_tellCount_153 ?_
  refine k_X6_level hd sTF C0 hK hP hnH hh (v := S 2 (h % 12)) rfl hS hA hl.1 ml_X8_100 ⟨Nat.le_of_ble_eq_true rfl, Nat.le_of_ble_eq_true rfl⟩ ⟨Nat.zero_le _, Nat.zero_le _⟩ (Nat.le_of_ble_eq_true rfl) dX8_tellCount_156 (fun H locs hP hS => ?_)
  refine k_X4_stakesShown hd sTF C0 hK hP  (v := nI (cnt (fun j => decide (dpt S (nI j) (S 2 (h % 12)) < rg (S 1) 196 (nI j))) 196)) rfl hS hA hl.1 ml_X8_246 ⟨Nat.le_of_ble_eq_true rfl, Nat.le_of_ble_eq_true rfl⟩ ⟨Nat.zero_le _, Nat.zero_le _⟩ (Nat.le_of_ble_eq_true rfl) dX8_tellCount_159 (fun H locs hP hS => ?_)
  exact retI C0 hr hlk hP hS ⟨by unfold couS; rw [if_neg k_1_0, if_neg k_1_1, if_neg k_1_2, if_neg k_1_3, if_neg k_1_4, if_neg k_1_5, if_neg k_1_6, if_neg k_1_7, if_neg k_1_8, if_neg k_1_9]; exact congrArg nI stk_eq, rfl, rfl⟩ dX8_tellCount_162
theorem k_X8_tellCount {n : List Nat} (hd : Hd n a I) (hsub : ∀ k ∈ nF, k ∈ n) (C0 : CallFix p m c cc nL s args GW own) (hK : KK D cA s) (hP : WP D cA a S X I H) {w : Int32} {P : Nat} {L : Nat} {T : Nat} {h : Nat} (hnP : S 82 0 = nI P) (hnL : S 81 0 = nI L) (hnT : S 85 0 = nI T) (hT30 : T ≤ 30) (hnH : S 86 0 = nI h) (hh : h < 2 ^ 31) (hTW : TW S P L) (hTr : TrW S P L T) {v : Int32} (hv : (couS S P L T h w) = v) (hS : va_S A0 H0 H locs) (hA : ∀ q, AI a I q → A0 q) (hls : ls.size = nL) {idx : Nat} (hlink : Cond.methodLink own idx yX8_tellCount ∈ GW) (hR : 6 ≤ R.frames ∧ 126 ≤ R.locals) (hcs : cells ≤ R.cells ∧ slots ≤ R.slots) (hrest : (rest.map fun v => v.category).sum ≤ 8) (hdg : decode cc pc = .ok (.invokevirtual idx, 3)) (kk : ∀ (H1 : Heap) (locs1 : List Loc), WP D cA a S X I H1 → va_S A0 H0 H1 locs1 → W p l e R s m args below meth c H1 locs1 cells slots Q (F0 m (pc + 3) ls (.int v :: rest))) : W p l e R s m args below meth c H locs cells slots Q (F0 m pc ls (.int w :: .ref (a 89) :: rest)) := by
  subst hv
  exact goI (rV (n := 1) (c_X8_tellCount l D cA a S X I (hd.sub hsub) w hnP hnL hnT hT30 hnH hh hTW hTr) C0 hlink im_X8_tellCount se_X8_tellCount in_X8 co_X8_tellCount ⟨rfl, by decide⟩ hR hK hP (hd.1 _ (hsub _ (by decide))) rfl rfl rfl hls hrest rfl hdg hcs) hS hA (fun r S1 X1 H1 locs1 hp hP1 hS1 => by obtain ⟨rfl, rfl, rfl⟩ := hp; exact kk H1 locs1 hP1 hS1)
set_option maxHeartbeats 4000000 in
set_option maxRecDepth 100000 in
theorem c_X8_crossingAt (l : Launch) (D : va_G) (cA : ClassId) (a : Adr) (S X : Mem) (I : Nat → Prop) (hd : Hd nF a I) (u : Nat) (z : Nat) {P : Nat} {L : Nat} (hC : CacheOk S X P) (hTW : TW S P L) (hu : u < P) (hv25 : z < 25) : MI l yX8_crossingAt cX8_crossingAt 4 (some .int) 4 98 D cA a S X I [.ref (a 89), .int (nI u), .int (nI z)] (fun r S1 X1 => r = crsS S u (nI z) ∧ S1 = S ∧ CacheOk S X1 P ∧ (∀ k, k ≠ 13 → k ≠ 14 → k ≠ 15 → X1 k = X k)) := by
  refine mGo (by decide) (Nat.le_of_ble_eq_true rfl) ?_
  intro p e s m args below meth c ls C0 hr hlk hK hP hS hl hargs
  obtain ⟨H, hHe⟩ : ∃ H, H = s.heap := ⟨_, rfl⟩
  obtain ⟨locs, hlo⟩ : ∃ L : List Loc, L = [] := ⟨_, rfl⟩
  have hP : WP D cA a S X I H := hHe ▸ hP
  have hS : va_S (AI a I) s.heap H locs := by rw [hHe, hlo]; exact hS
  rw [← hHe, ← hlo]
  have hA : ∀ q, AI a I q → AI a I q := fun _ h => h
  obtain ⟨hLnk, hP6, hL8, h17, h16, h8, h3, h2⟩ := id hTW
  obtain ⟨hm, gl, hhm, hgl, -, e4, e5⟩ := hLnk u hu
  obtain ⟨ce, hce196, hce⟩ := h3 hm hhm
  obtain ⟨en, hen, hene⟩ := h3 gl hgl
  refine lv_aload_n C0.1 C0.2.1 dX8_crossingAt_0 rfl (lv_at hl 0 rfl) ?_
  refine g89_charts C0 hK hP (hd.1 _ (by decide)) fl_X8_44 dX8_crossingAt_1 ?_
  refine lv_iload_n C0.1 C0.2.1 dX8_crossingAt_4 rfl (lv_at hl 1 rfl) ?_
  refine lv_aload_n C0.1 C0.2.1 dX8_crossingAt_5 rfl (lv_at hl 0 rfl) ?_
  refine g89_fleet C0 hK hP (hd.1 _ (by decide)) fl_X8_26 dX8_crossingAt_6 ?_
  refine g82_goal C0 hK hP (hd.1 _ (by decide)) fl_X8_252 dX8_crossingAt_9 ?_
  refine lv_iload_n C0.1 C0.2.1 dX8_crossingAt_12 rfl (lv_at hl 1 rfl) ?_
  refine k_X5_get (v := nI gl) 5 (by decide) hd (by decide) (by decide) C0 hK hP ((rg_nI (show u < 6 by omega) (by decide)).trans e5) hS hA hl.1 ml_X8_104 ⟨Nat.le_of_ble_eq_true rfl, Nat.le_of_ble_eq_true rfl⟩ ⟨Nat.zero_le _, Nat.zero_le _⟩ (Nat.le_of_ble_eq_true rfl) dX8_crossingAt_13 (fun H locs hP hS => ?_)
  refine lv_iload_n C0.1 C0.2.1 dX8_crossingAt_16 rfl (lv_at hl 2 rfl) ?_
  refine k_X1_chartOf hd sTF C0 hK hP  hS hA hl.1 ml_X8_255 ⟨Nat.le_of_ble_eq_true rfl, Nat.le_of_ble_eq_true rfl⟩ ⟨Nat.zero_le _, Nat.zero_le _⟩ (Nat.le_of_ble_eq_true rfl) dX8_crossingAt_17 (fun v_4 S_2 X_3 H locs hx_1 hP hS => ?_)
  obtain ⟨hs1, hxf, hx14, hx13, hr1⟩ := hx_1
  rw [hs1] at hP
  subst hr1
  obtain ⟨hC1, B, hB, hBe, hW⟩ := chart_ok hC hP6 hu hv25 rfl (show gl < 8 by omega) (Or.inr e5) hene hen hx14 hx13
  rw [hBe]
  refine lv_istore_n (lv' := [(3, .int (nI B)), (0, .ref (a 89)), (1, .int (nI u)), (2, .int (nI z))]) C0.1 C0.2.1 dX8_crossingAt_20 rfl hl (by decide) rfl (fun ls hl => ?_)
  refine lv_aload_n C0.1 C0.2.1 dX8_crossingAt_21 rfl (lv_at hl 1 rfl) ?_
  refine g89_charts C0 hK hP (hd.1 _ (by decide)) fl_X8_44 dX8_crossingAt_22 ?_
  refine lv_iload_n C0.1 C0.2.1 dX8_crossingAt_25 rfl (lv_at hl 0 rfl) ?_
  refine lv_aload_n C0.1 C0.2.1 dX8_crossingAt_26 rfl (lv_at hl 1 rfl) ?_
  refine g89_landings C0 hK hP (hd.1 _ (by decide)) fl_X8_19 dX8_crossingAt_27 ?_
  refine g81_cell C0 hK hP (hd.1 _ (by decide)) fl_X8_140 dX8_crossingAt_30 ?_
  refine lv_aload_n C0.1 C0.2.1 dX8_crossingAt_33 rfl (lv_at hl 1 rfl) ?_
  refine g89_fleet C0 hK hP (hd.1 _ (by decide)) fl_X8_26 dX8_crossingAt_34 ?_
  refine g82_home C0 hK hP (hd.1 _ (by decide)) fl_X8_258 dX8_crossingAt_37 ?_
  refine lv_iload_n C0.1 C0.2.1 dX8_crossingAt_40 rfl (lv_at hl 2 rfl) ?_
  refine k_X5_get (v := nI hm) 4 (by decide) hd (by decide) (by decide) C0 hK hP ((rg_nI (show u < 6 by omega) (by decide)).trans e4) hS hA hl.1 ml_X8_104 ⟨Nat.le_of_ble_eq_true rfl, Nat.le_of_ble_eq_true rfl⟩ ⟨Nat.zero_le _, Nat.zero_le _⟩ (Nat.le_of_ble_eq_true rfl) dX8_crossingAt_41 (fun H locs hP hS => ?_)
  refine k_X5_get (v := nI ce) 3 (by decide) hd (by decide) (by decide) C0 hK hP ((rg_nI (show hm < 8 by omega) (by decide)).trans hce) hS hA hl.1 ml_X8_104 ⟨Nat.le_of_ble_eq_true rfl, Nat.le_of_ble_eq_true rfl⟩ ⟨Nat.zero_le _, Nat.zero_le _⟩ (Nat.le_of_ble_eq_true rfl) dX8_crossingAt_44 (fun H locs hP hS => ?_)
  refine k_X1_way hd sTF C0 hK hP  (v := rg (X_3 13) 58800 ((nI B) + (nI ce))) rfl hS hA hl.1 ml_X8_261 ⟨Nat.le_of_ble_eq_true rfl, Nat.le_of_ble_eq_true rfl⟩ ⟨Nat.zero_le _, Nat.zero_le _⟩ (Nat.le_of_ble_eq_true rfl) dX8_crossingAt_47 (fun H locs hP hS => ?_)
  exact retI C0 hr hlk hP hS ⟨by unfold crsS wyS celS; rw [e5, e4, nI_clamp (by omega), nI_clamp (by omega), hene, hce, nI_clamp (by omega), nI_clamp (by omega), rg_at hB hce196]; exact hW ce hce196, rfl, hC1, hxf⟩ dX8_crossingAt_50
theorem k_X8_crossingAt {n : List Nat} (hd : Hd n a I) (hsub : ∀ k ∈ nF, k ∈ n) (C0 : CallFix p m c cc nL s args GW own) (hK : KK D cA s) (hP : WP D cA a S X I H) {u : Nat} {z : Nat} {P : Nat} {L : Nat} (hC : CacheOk S X P) (hTW : TW S P L) (hu : u < P) (hv25 : z < 25) (hS : va_S A0 H0 H locs) (hA : ∀ q, AI a I q → A0 q) (hls : ls.size = nL) {idx : Nat} (hlink : Cond.methodLink own idx yX8_crossingAt ∈ GW) (hR : 5 ≤ R.frames ∧ 121 ≤ R.locals) (hcs : cells ≤ R.cells ∧ slots ≤ R.slots) (hrest : (rest.map fun v => v.category).sum ≤ 8) (hdg : decode cc pc = .ok (.invokevirtual idx, 3)) (kk : ∀ (v : Int32) (S1 X1 : Mem) (H1 : Heap) (locs1 : List Loc), (fun r S1 X1 => r = crsS S u (nI z) ∧ S1 = S ∧ CacheOk S X1 P ∧ (∀ k, k ≠ 13 → k ≠ 14 → k ≠ 15 → X1 k = X k)) v S1 X1 → WP D cA a S1 X1 I H1 → va_S A0 H0 H1 locs1 → W p l e R s m args below meth c H1 locs1 cells slots Q (F0 m (pc + 3) ls (.int v :: rest))) : W p l e R s m args below meth c H locs cells slots Q (F0 m pc ls (.int (nI z) :: .int (nI u) :: .ref (a 89) :: rest)) := by
  exact goI (rV (n := 2) (c_X8_crossingAt l D cA a S X I (hd.sub hsub) u z hC hTW hu hv25) C0 hlink im_X8_crossingAt se_X8_crossingAt in_X8 co_X8_crossingAt ⟨rfl, by decide⟩ hR hK hP (hd.1 _ (hsub _ (by decide))) rfl rfl rfl hls hrest rfl hdg hcs) hS hA kk
end CLS
