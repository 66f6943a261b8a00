/-! THE LAW'S CASES: a call of the class and the same call of the reference, answers compared. -/
abbrev LawC (s : State) (D : va_G) (cA cL : ClassId) (a : Adr) (og scr Ls : Nat) (xs : Nat → Int32) : Prop := (Hd nF a IF) ∧ (∀ k, IF k → a k ≠ og) ∧ (KK D cA s) ∧ (XX (fun q => s.heap.size ≤ q) s) ∧ (NC3 s) ∧ (ArrOfT s cL .long) ∧ (NY s) ∧ (∀ k, IF k → s.heap.size ≤ a k) ∧ (s.heap.size ≤ og) ∧ (va_X scr Ls xs s s.heap) ∧ (scr < s.heap.size) ∧ (Ls ≤ 3584)
theorem LawC.hd {s : State} {D : va_G} {cA cL : ClassId} {a : Adr} {og scr Ls : Nat} {xs : Nat → Int32} (h : LawC s D cA cL a og scr Ls xs) : Hd nF a IF := h.1
theorem LawC.hne {s : State} {D : va_G} {cA cL : ClassId} {a : Adr} {og scr Ls : Nat} {xs : Nat → Int32} (h : LawC s D cA cL a og scr Ls xs) : ∀ k, IF k → a k ≠ og := h.2.1
theorem LawC.hK {s : State} {D : va_G} {cA cL : ClassId} {a : Adr} {og scr Ls : Nat} {xs : Nat → Int32} (h : LawC s D cA cL a og scr Ls xs) : KK D cA s := h.2.2.1
theorem LawC.hX {s : State} {D : va_G} {cA cL : ClassId} {a : Adr} {og scr Ls : Nat} {xs : Nat → Int32} (h : LawC s D cA cL a og scr Ls xs) : XX (fun q => s.heap.size ≤ q) s := h.2.2.2.1
theorem LawC.hN {s : State} {D : va_G} {cA cL : ClassId} {a : Adr} {og scr Ls : Nat} {xs : Nat → Int32} (h : LawC s D cA cL a og scr Ls xs) : NC3 s := h.2.2.2.2.1
theorem LawC.hAr {s : State} {D : va_G} {cA cL : ClassId} {a : Adr} {og scr Ls : Nat} {xs : Nat → Int32} (h : LawC s D cA cL a og scr Ls xs) : ArrOfT s cL .long := h.2.2.2.2.2.1
theorem LawC.hY {s : State} {D : va_G} {cA cL : ClassId} {a : Adr} {og scr Ls : Nat} {xs : Nat → Int32} (h : LawC s D cA cL a og scr Ls xs) : NY s := h.2.2.2.2.2.2.1
theorem LawC.haA {s : State} {D : va_G} {cA cL : ClassId} {a : Adr} {og scr Ls : Nat} {xs : Nat → Int32} (h : LawC s D cA cL a og scr Ls xs) : ∀ k, IF k → s.heap.size ≤ a k := h.2.2.2.2.2.2.2.1
theorem LawC.hoA {s : State} {D : va_G} {cA cL : ClassId} {a : Adr} {og scr Ls : Nat} {xs : Nat → Int32} (h : LawC s D cA cL a og scr Ls xs) : s.heap.size ≤ og := h.2.2.2.2.2.2.2.2.1
theorem LawC.hXs {s : State} {D : va_G} {cA cL : ClassId} {a : Adr} {og scr Ls : Nat} {xs : Nat → Int32} (h : LawC s D cA cL a og scr Ls xs) : va_X scr Ls xs s s.heap := h.2.2.2.2.2.2.2.2.2.1
theorem LawC.hbl {s : State} {D : va_G} {cA cL : ClassId} {a : Adr} {og scr Ls : Nat} {xs : Nat → Int32} (h : LawC s D cA cL a og scr Ls xs) : scr < s.heap.size := h.2.2.2.2.2.2.2.2.2.2.1
theorem LawC.hL {s : State} {D : va_G} {cA cL : ClassId} {a : Adr} {og scr Ls : Nat} {xs : Nat → Int32} (h : LawC s D cA cL a og scr Ls xs) : Ls ≤ 3584 := h.2.2.2.2.2.2.2.2.2.2.2
abbrev LawI (s : State) (D : va_G) (cA cL : ClassId) (a b : Adr) (og : Nat) (S X Z : Mem) (P L T h : Nat) (f : Nat → Int64) (H : Heap) (locs : List Loc) : Prop := (Hd nM b IM) ∧ (AP a b og s.heap.size) ∧ (OKS S X P L T h) ∧ (WP D cA a S X IF H) ∧ (WQ D cA b S Z IM H) ∧ (va_at D vwCl (og, lcell cL f) H) ∧ (va_S (fun q => s.heap.size ≤ q) s.heap H locs)
theorem LawC.al {s : State} {D : va_G} {cA cL : ClassId} {a : Adr} {og scr Ls : Nat} {xs : Nat → Int32} (h : LawC s D cA cL a og scr Ls xs) {H : Heap} (hz : s.heap.size ≤ H.size) : ∀ q, AL a H.size og q → s.heap.size ≤ q := fun q hq => by
  rcases hq with (⟨k, hk, e⟩ | hq) | hq
  · exact e ▸ h.haA k hk
  · omega
  · exact hq ▸ h.hoA
theorem LawC.ai {s : State} {D : va_G} {cA cL : ClassId} {a : Adr} {og scr Ls : Nat} {xs : Nat → Int32} (h : LawC s D cA cL a og scr Ls xs) : ∀ q, AI a IF q → s.heap.size ≤ q := fun q hq => by
  obtain ⟨k, hk, e⟩ := hq
  exact e ▸ h.haA k hk
theorem not_le_P {P : Nat} (h6 : P ≤ 6) (h : (!decide ((6 : Int32) ≤ nI P)) = true) : P < 6 := by
  refine Nat.lt_of_le_of_ne h6 fun e => ?_
  subst e
  exact absurd h (by decide)
theorem not_le_L {L : Nat} (h8 : L ≤ 8) (h : (!decide ((8 : Int32) ≤ nI L)) = true) : L < 8 := by
  refine Nat.lt_of_le_of_ne h8 fun e => ?_
  subst e
  exact absurd h (by decide)
theorem not_le_T {T : Nat} (h30 : T ≤ 30) (h : (!decide ((30 : Int32) ≤ nI T)) = true) : T < 30 := by
  refine Nat.lt_of_le_of_ne h30 fun e => ?_
  subst e
  exact absurd h (by decide)
theorem nv_100 {x : Int32} (h : inB x 1 100 = true) : nv x ≤ 100 := by
  obtain ⟨N, hN, e⟩ := in_nat (m := 100) (by decide) (show inB x 0 (nI 100) = true from in_low h)
  rw [e, nv_nI (by omega)]
  exact hN
section LAWK
variable {p : Program} {l : Launch} {e : Env} {s : State} {m : MethodId} {args : Array Value} {below : List Frame} {meth : Method} {c : Code} {H : Heap} {locs : List Loc} {cells slots : Nat} {Q : State → Prop}
variable {ls : Array Slot} {D : va_G} {cA cL : ClassId} {a b : Adr} {S X Z : Mem} {og scr Ls i P L T h : Nat} {xs : Nat → Int32} {f : Nat → Int64}

set_option maxHeartbeats 4000000 in
set_option maxRecDepth 100000 in
theorem k_setGround (hfl : l.stackTraces = false) (C0 : CallFix p m c cL_law 9 s args GW RL) (hC : LawC s D cA cL a og scr Ls xs) (hi : i + 7 ≤ Ls) (hh : h + 500 < 2 ^ 31) (hI : LawI s D cA cL a b og S X Z P L T h f H locs) (hl : lv_has ls 9 (lv5 scr i og a b)) (hf : cells + 20 ≤ 601024 ∧ slots + 400 ≤ 7293033) (kk : ∀ (b1 : Adr) (S1 X1 Z1 : Mem) (P1 L1 T1 h1 : Nat) (f1 : Nat → Int64) (H1 : Heap) (locs1 : List Loc) (ls1 : Array Slot), LawI s D cA cL a b1 og S1 X1 Z1 P1 L1 T1 h1 f1 H1 locs1 → h1 ≤ h + 100 → lv_has ls1 9 (lv5 scr i og a b1) → W p l e room_1 s m args below meth c H1 locs1 (cells + 20) (slots + 400) Q (F0 m 1477 ls1 [])) : W p l e room_1 s m args below meth c H locs cells slots Q (F0 m 136 ls []) := by
  obtain ⟨hdb, hAP, ok, hP, hQ, hO, hS⟩ := hI
  have hbA : ¬ (fun q : Nat => s.heap.size ≤ q) scr := Nat.not_le.mpr hC.hbl
  have hz0 : s.heap.size ≤ H.size := hS.1
  have hl : lv_has ls 9 [(4, .int (nI i)), (3, .ref og), (2, .ref (b 20)), (1, .ref (a 89)), (0, .ref scr)] := hl
  refine lv_aload_n C0.1 C0.2.1 dL_law_136 rfl (lv_at hl 3 rfl) ?_
  refine larg (k := 1) (p0 := 4) (p4 := 0) C0 hC.hXs hC.hbl hbA hS hl rfl rfl (by decide) (by omega) hC.hL dL_law_137 dL_law_138 dL_law_140 dL_law_141 dL_law_142 ?_
  refine larg (k := 2) (p0 := 4) (p4 := 0) C0 hC.hXs hC.hbl hbA hS hl rfl rfl (by decide) (by omega) hC.hL dL_law_143 dL_law_144 dL_law_146 dL_law_147 dL_law_148 ?_
  refine larg (k := 3) (p0 := 4) (p4 := 0) C0 hC.hXs hC.hbl hbA hS hl rfl rfl (by decide) (by omega) hC.hL dL_law_149 dL_law_150 dL_law_152 dL_law_153 dL_law_154 ?_
  refine lv_aload_n C0.1 C0.2.1 dL_law_155 rfl (lv_at hl 1 rfl) ?_
  refine hoLw (n := 5) (w_setGround l hfl D cA cL a S X H.size og f hC.hd hC.hne ok (by omega) (xs (i + 1)) (xs (i + 2)) (xs (i + 3))) C0 ml_L_77 sm_L_setGround in_L co_L_setGround ⟨by decide, by decide, by decide⟩ ⟨Nat.le_of_ble_eq_true rfl, Nat.le_of_ble_eq_true rfl⟩ hC.hK hC.hX hC.hN hC.hAr hP hO hS (hC.al hz0) rfl hl.1 rfl dL_law_156 ⟨show cells + 2 ≤ 601024 by omega, show slots + 12 ≤ 7293033 by omega⟩ (fun r S1 X1 f1 H1 locs hp hP hO hk hS => ?_)
  obtain ⟨hk5, hyes, hno⟩ := hp
  have hQ := wq_keep hQ hAP hk
  have hz1 : s.heap.size ≤ H1.size := hS.1
  refine lv_istore (lv' := [(5, .int r), (4, .int (nI i)), (3, .ref og), (2, .ref (b 20)), (1, .ref (a 89)), (0, .ref scr)]) C0.1 C0.2.1 dL_law_159 hl (by decide) rfl (fun ls hl => ?_)
  refine lv_aload_n C0.1 C0.2.1 dL_law_161 rfl (lv_at hl 3 rfl) ?_
  refine larg (k := 1) (p0 := 5) (p4 := 1) C0 hC.hXs hC.hbl hbA hS hl rfl rfl (by decide) (by omega) hC.hL dL_law_162 dL_law_163 dL_law_165 dL_law_166 dL_law_167 ?_
  refine larg (k := 2) (p0 := 5) (p4 := 1) C0 hC.hXs hC.hbl hbA hS hl rfl rfl (by decide) (by omega) hC.hL dL_law_168 dL_law_169 dL_law_171 dL_law_172 dL_law_173 ?_
  refine larg (k := 3) (p0 := 5) (p4 := 1) C0 hC.hXs hC.hbl hbA hS hl rfl rfl (by decide) (by omega) hC.hL dL_law_174 dL_law_175 dL_law_177 dL_law_178 dL_law_179 ?_
  refine hoIF (qV (n := 3) (c_X9_setGround l D cA b S Z IM hdb (xs (i + 1)) (xs (i + 2)) (xs (i + 3))) C0 ml_L_82 im_X9_setGround se_X9_setGround in_X9 co_X9_setGround ⟨rfl, by decide⟩ ⟨Nat.le_of_ble_eq_true rfl, Nat.le_of_ble_eq_true rfl⟩ hC.hK hQ (hdb.1 20 (by decide)) rfl rfl rfl hl.1 (Nat.le_of_ble_eq_true rfl) rfl dL_law_180 ⟨show cells + 2 + 0 ≤ 601024 by omega, show slots + 12 + 0 ≤ 7293033 by omega⟩) hS (ap_ai hAP) (fun r6 S2 Z1 H2 locs hp2 hQ hkp hS => ?_)
  have hP := wp_keep hP hAP hkp
  have hO := og_keep hO hAP hkp
  obtain ⟨hz, hyes2, hno2⟩ := hp2
  refine lv_istore (lv' := [(6, .int r6), (5, .int r), (4, .int (nI i)), (3, .ref og), (2, .ref (b 20)), (1, .ref (a 89)), (0, .ref scr)]) C0.1 C0.2.1 dL_law_183 hl (by decide) rfl (fun ls hl => ?_)
  have hke : kd (plB (xs (i + 1)) (xs (i + 2))) (inB (xs (i + 3)) 0 20) (true) 1 2 9 = kd (plB (xs (i + 1)) (xs (i + 2))) (inB (xs (i + 3)) 0 20) (true) 1 2 3 := kd_t3
  have hkk : r = Z1 87 0 := hk5.trans (hke.trans hz.symm)
  by_cases h0 : kd (plB (xs (i + 1)) (xs (i + 2))) (inB (xs (i + 3)) 0 20) (true) 1 2 9 = 0
  · obtain ⟨hv, e1, hrel⟩ := hyes h0
    obtain ⟨hr6, e2⟩ := hyes2 (hke.symm.trans h0)
    obtain ⟨q1, q2, q3⟩ := kd_inv (by decide) (by decide) (by decide) h0
    rw [e1] at hP
    rw [e2] at hQ
    rw [hrel] at hP
    refine ltail (i := i) (scr := scr) C0 hC.hAr hC.hK hdb hAP rfl hP hQ hO hS hkk (fun _ => hv.trans (congrArg Int32.toInt64 hr6.symm)) ⟨Nat.le_of_ble_eq_true rfl, Nat.le_of_ble_eq_true rfl⟩ ⟨show cells + 2 + 0 ≤ 601024 by omega, show slots + 12 + 0 ≤ 7293033 by omega⟩ hl dL_law_185 dL_law_186 dL_law_189 dL_law_191 dL_law_196 dL_law_198 dL_law_201 dL_law_202 dL_law_203 dL_law_204 dL_law_206 dL_law_207 dL_law_208 dL_law_213 (by decide) (fun H3 locs hP hQ hO hS => ?_)
    exact W.widen (by omega) (by omega) (kk b _ _ Z1 (P) (L) (T) (h) f1 H3 locs ls ⟨hdb, hAP, ok.setGround q2, hP, hQ, hO, hS⟩ (by omega) (lv_sub hl [2, 3, 4, 5, 6] rfl))
  · obtain ⟨e1, e3⟩ := hno h0
    have e2 := hno2 (fun q9 => h0 (hke.trans q9))
    rw [e1, e3] at hP
    rw [e2] at hQ
    refine ltail (i := i) (scr := scr) C0 hC.hAr hC.hK hdb hAP rfl hP hQ hO hS hkk (fun q9 => absurd (hk5.symm.trans q9) h0) ⟨Nat.le_of_ble_eq_true rfl, Nat.le_of_ble_eq_true rfl⟩ ⟨show cells + 2 + 0 ≤ 601024 by omega, show slots + 12 + 0 ≤ 7293033 by omega⟩ hl dL_law_185 dL_law_186 dL_law_189 dL_law_191 dL_law_196 dL_law_198 dL_law_201 dL_law_202 dL_law_203 dL_law_204 dL_law_206 dL_law_207 dL_law_208 dL_law_213 (by decide) (fun H3 locs hP hQ hO hS => ?_)
    exact W.widen (by omega) (by omega) (kk b _ _ Z1 (P) (L) (T) (h) f1 H3 locs ls ⟨hdb, hAP, ok, hP, hQ, hO, hS⟩ (by omega) (lv_sub hl [2, 3, 4, 5, 6] rfl))
set_option maxHeartbeats 4000000 in
set_option maxRecDepth 100000 in
theorem k_setWater (hfl : l.stackTraces = false) (C0 : CallFix p m c cL_law 9 s args GW RL) (hC : LawC s D cA cL a og scr Ls xs) (hi : i + 7 ≤ Ls) (hh : h + 500 < 2 ^ 31) (hI : LawI s D cA cL a b og S X Z P L T h f H locs) (hl : lv_has ls 9 (lv5 scr i og a b)) (hf : cells + 20 ≤ 601024 ∧ slots + 400 ≤ 7293033) (kk : ∀ (b1 : Adr) (S1 X1 Z1 : Mem) (P1 L1 T1 h1 : Nat) (f1 : Nat → Int64) (H1 : Heap) (locs1 : List Loc) (ls1 : Array Slot), LawI s D cA cL a b1 og S1 X1 Z1 P1 L1 T1 h1 f1 H1 locs1 → h1 ≤ h + 100 → lv_has ls1 9 (lv5 scr i og a b1) → W p l e room_1 s m args below meth c H1 locs1 (cells + 20) (slots + 400) Q (F0 m 1477 ls1 [])) : W p l e room_1 s m args below meth c H locs cells slots Q (F0 m 216 ls []) := by
  obtain ⟨hdb, hAP, ok, hP, hQ, hO, hS⟩ := hI
  have hbA : ¬ (fun q : Nat => s.heap.size ≤ q) scr := Nat.not_le.mpr hC.hbl
  have hz0 : s.heap.size ≤ H.size := hS.1
  have hl : lv_has ls 9 [(4, .int (nI i)), (3, .ref og), (2, .ref (b 20)), (1, .ref (a 89)), (0, .ref scr)] := hl
  refine lv_aload_n C0.1 C0.2.1 dL_law_216 rfl (lv_at hl 3 rfl) ?_
  refine larg (k := 1) (p0 := 4) (p4 := 0) C0 hC.hXs hC.hbl hbA hS hl rfl rfl (by decide) (by omega) hC.hL dL_law_217 dL_law_218 dL_law_220 dL_law_221 dL_law_222 ?_
  refine larg (k := 2) (p0 := 4) (p4 := 0) C0 hC.hXs hC.hbl hbA hS hl rfl rfl (by decide) (by omega) hC.hL dL_law_223 dL_law_224 dL_law_226 dL_law_227 dL_law_228 ?_
  refine lv_aload_n C0.1 C0.2.1 dL_law_229 rfl (lv_at hl 1 rfl) ?_
  refine hoLw (n := 4) (w_setWater l hfl D cA cL a S X H.size og f hC.hd hC.hne ok (by omega) (xs (i + 1)) (xs (i + 2))) C0 ml_L_87 sm_L_setWater in_L co_L_setWater ⟨by decide, by decide, by decide⟩ ⟨Nat.le_of_ble_eq_true rfl, Nat.le_of_ble_eq_true rfl⟩ hC.hK hC.hX hC.hN hC.hAr hP hO hS (hC.al hz0) rfl hl.1 rfl dL_law_230 ⟨show cells + 2 ≤ 601024 by omega, show slots + 12 ≤ 7293033 by omega⟩ (fun r S1 X1 f1 H1 locs hp hP hO hk hS => ?_)
  obtain ⟨hk5, hyes, hno⟩ := hp
  have hQ := wq_keep hQ hAP hk
  have hz1 : s.heap.size ≤ H1.size := hS.1
  refine lv_istore (lv' := [(5, .int r), (4, .int (nI i)), (3, .ref og), (2, .ref (b 20)), (1, .ref (a 89)), (0, .ref scr)]) C0.1 C0.2.1 dL_law_233 hl (by decide) rfl (fun ls hl => ?_)
  refine lv_aload_n C0.1 C0.2.1 dL_law_235 rfl (lv_at hl 3 rfl) ?_
  refine larg (k := 1) (p0 := 5) (p4 := 1) C0 hC.hXs hC.hbl hbA hS hl rfl rfl (by decide) (by omega) hC.hL dL_law_236 dL_law_237 dL_law_239 dL_law_240 dL_law_241 ?_
  refine larg (k := 2) (p0 := 5) (p4 := 1) C0 hC.hXs hC.hbl hbA hS hl rfl rfl (by decide) (by omega) hC.hL dL_law_242 dL_law_243 dL_law_245 dL_law_246 dL_law_247 ?_
  refine hoIF (qV (n := 2) (c_X9_setWater l D cA b S Z IM hdb (xs (i + 1)) (xs (i + 2))) C0 ml_L_90 im_X9_setWater se_X9_setWater in_X9 co_X9_setWater ⟨rfl, by decide⟩ ⟨Nat.le_of_ble_eq_true rfl, Nat.le_of_ble_eq_true rfl⟩ hC.hK hQ (hdb.1 20 (by decide)) rfl rfl rfl hl.1 (Nat.le_of_ble_eq_true rfl) rfl dL_law_248 ⟨show cells + 2 + 0 ≤ 601024 by omega, show slots + 12 + 0 ≤ 7293033 by omega⟩) hS (ap_ai hAP) (fun r6 S2 Z1 H2 locs hp2 hQ hkp hS => ?_)
  have hP := wp_keep hP hAP hkp
  have hO := og_keep hO hAP hkp
  obtain ⟨hz, hyes2, hno2⟩ := hp2
  refine lv_istore (lv' := [(6, .int r6), (5, .int r), (4, .int (nI i)), (3, .ref og), (2, .ref (b 20)), (1, .ref (a 89)), (0, .ref scr)]) C0.1 C0.2.1 dL_law_251 hl (by decide) rfl (fun ls hl => ?_)
  have hke : kd (oneB (xs (i + 1)) 12) (inB (xs (i + 2)) 0 24) (true) 1 2 9 = kd (oneB (xs (i + 1)) 12) (inB (xs (i + 2)) 0 24) (true) 1 2 3 := kd_t3
  have hkk : r = Z1 87 0 := hk5.trans (hke.trans hz.symm)
  by_cases h0 : kd (oneB (xs (i + 1)) 12) (inB (xs (i + 2)) 0 24) (true) 1 2 9 = 0
  · obtain ⟨hv, e1, hrel⟩ := hyes h0
    obtain ⟨hr6, e2⟩ := hyes2 (hke.symm.trans h0)
    obtain ⟨q1, q2, q3⟩ := kd_inv (by decide) (by decide) (by decide) h0
    rw [e1] at hP
    rw [e2] at hQ
    rw [hrel] at hP
    refine ltail (i := i) (scr := scr) C0 hC.hAr hC.hK hdb hAP rfl hP hQ hO hS hkk (fun _ => hv.trans (congrArg Int32.toInt64 hr6.symm)) ⟨Nat.le_of_ble_eq_true rfl, Nat.le_of_ble_eq_true rfl⟩ ⟨show cells + 2 + 0 ≤ 601024 by omega, show slots + 12 + 0 ≤ 7293033 by omega⟩ hl dL_law_253 dL_law_254 dL_law_257 dL_law_259 dL_law_264 dL_law_266 dL_law_269 dL_law_270 dL_law_271 dL_law_272 dL_law_274 dL_law_275 dL_law_276 dL_law_281 (by decide) (fun H3 locs hP hQ hO hS => ?_)
    exact W.widen (by omega) (by omega) (kk b _ _ Z1 (P) (L) (T) (h) f1 H3 locs ls ⟨hdb, hAP, ok.setWater q2, hP, hQ, hO, hS⟩ (by omega) (lv_sub hl [2, 3, 4, 5, 6] rfl))
  · obtain ⟨e1, e3⟩ := hno h0
    have e2 := hno2 (fun q9 => h0 (hke.trans q9))
    rw [e1, e3] at hP
    rw [e2] at hQ
    refine ltail (i := i) (scr := scr) C0 hC.hAr hC.hK hdb hAP rfl hP hQ hO hS hkk (fun q9 => absurd (hk5.symm.trans q9) h0) ⟨Nat.le_of_ble_eq_true rfl, Nat.le_of_ble_eq_true rfl⟩ ⟨show cells + 2 + 0 ≤ 601024 by omega, show slots + 12 + 0 ≤ 7293033 by omega⟩ hl dL_law_253 dL_law_254 dL_law_257 dL_law_259 dL_law_264 dL_law_266 dL_law_269 dL_law_270 dL_law_271 dL_law_272 dL_law_274 dL_law_275 dL_law_276 dL_law_281 (by decide) (fun H3 locs hP hQ hO hS => ?_)
    exact W.widen (by omega) (by omega) (kk b _ _ Z1 (P) (L) (T) (h) f1 H3 locs ls ⟨hdb, hAP, ok, hP, hQ, hO, hS⟩ (by omega) (lv_sub hl [2, 3, 4, 5, 6] rfl))
set_option maxHeartbeats 4000000 in
set_option maxRecDepth 100000 in
theorem k_setStake (hfl : l.stackTraces = false) (C0 : CallFix p m c cL_law 9 s args GW RL) (hC : LawC s D cA cL a og scr Ls xs) (hi : i + 7 ≤ Ls) (hh : h + 500 < 2 ^ 31) (hI : LawI s D cA cL a b og S X Z P L T h f H locs) (hl : lv_has ls 9 (lv5 scr i og a b)) (hf : cells + 20 ≤ 601024 ∧ slots + 400 ≤ 7293033) (kk : ∀ (b1 : Adr) (S1 X1 Z1 : Mem) (P1 L1 T1 h1 : Nat) (f1 : Nat → Int64) (H1 : Heap) (locs1 : List Loc) (ls1 : Array Slot), LawI s D cA cL a b1 og S1 X1 Z1 P1 L1 T1 h1 f1 H1 locs1 → h1 ≤ h + 100 → lv_has ls1 9 (lv5 scr i og a b1) → W p l e room_1 s m args below meth c H1 locs1 (cells + 20) (slots + 400) Q (F0 m 1477 ls1 [])) : W p l e room_1 s m args below meth c H locs cells slots Q (F0 m 284 ls []) := by
  obtain ⟨hdb, hAP, ok, hP, hQ, hO, hS⟩ := hI
  have hbA : ¬ (fun q : Nat => s.heap.size ≤ q) scr := Nat.not_le.mpr hC.hbl
  have hz0 : s.heap.size ≤ H.size := hS.1
  have hl : lv_has ls 9 [(4, .int (nI i)), (3, .ref og), (2, .ref (b 20)), (1, .ref (a 89)), (0, .ref scr)] := hl
  refine lv_aload_n C0.1 C0.2.1 dL_law_284 rfl (lv_at hl 3 rfl) ?_
  refine larg (k := 1) (p0 := 4) (p4 := 0) C0 hC.hXs hC.hbl hbA hS hl rfl rfl (by decide) (by omega) hC.hL dL_law_285 dL_law_286 dL_law_288 dL_law_289 dL_law_290 ?_
  refine larg (k := 2) (p0 := 4) (p4 := 0) C0 hC.hXs hC.hbl hbA hS hl rfl rfl (by decide) (by omega) hC.hL dL_law_291 dL_law_292 dL_law_294 dL_law_295 dL_law_296 ?_
  refine larg (k := 3) (p0 := 4) (p4 := 0) C0 hC.hXs hC.hbl hbA hS hl rfl rfl (by decide) (by omega) hC.hL dL_law_297 dL_law_298 dL_law_300 dL_law_301 dL_law_302 ?_
  refine lv_aload_n C0.1 C0.2.1 dL_law_303 rfl (lv_at hl 1 rfl) ?_
  refine hoLw (n := 5) (w_setStake l hfl D cA cL a S X H.size og f hC.hd hC.hne ok (by omega) (xs (i + 1)) (xs (i + 2)) (xs (i + 3))) C0 ml_L_91 sm_L_setStake in_L co_L_setStake ⟨by decide, by decide, by decide⟩ ⟨Nat.le_of_ble_eq_true rfl, Nat.le_of_ble_eq_true rfl⟩ hC.hK hC.hX hC.hN hC.hAr hP hO hS (hC.al hz0) rfl hl.1 rfl dL_law_304 ⟨show cells + 2 ≤ 601024 by omega, show slots + 12 ≤ 7293033 by omega⟩ (fun r S1 X1 f1 H1 locs hp hP hO hk hS => ?_)
  obtain ⟨hk5, hyes, hno⟩ := hp
  have hQ := wq_keep hQ hAP hk
  have hz1 : s.heap.size ≤ H1.size := hS.1
  refine lv_istore (lv' := [(5, .int r), (4, .int (nI i)), (3, .ref og), (2, .ref (b 20)), (1, .ref (a 89)), (0, .ref scr)]) C0.1 C0.2.1 dL_law_307 hl (by decide) rfl (fun ls hl => ?_)
  refine lv_aload_n C0.1 C0.2.1 dL_law_309 rfl (lv_at hl 3 rfl) ?_
  refine larg (k := 1) (p0 := 5) (p4 := 1) C0 hC.hXs hC.hbl hbA hS hl rfl rfl (by decide) (by omega) hC.hL dL_law_310 dL_law_311 dL_law_313 dL_law_314 dL_law_315 ?_
  refine larg (k := 2) (p0 := 5) (p4 := 1) C0 hC.hXs hC.hbl hbA hS hl rfl rfl (by decide) (by omega) hC.hL dL_law_316 dL_law_317 dL_law_319 dL_law_320 dL_law_321 ?_
  refine larg (k := 3) (p0 := 5) (p4 := 1) C0 hC.hXs hC.hbl hbA hS hl rfl rfl (by decide) (by omega) hC.hL dL_law_322 dL_law_323 dL_law_325 dL_law_326 dL_law_327 ?_
  refine hoIF (qV (n := 3) (c_X9_setStake l D cA b S Z IM hdb (xs (i + 1)) (xs (i + 2)) (xs (i + 3))) C0 ml_L_93 im_X9_setStake se_X9_setStake in_X9 co_X9_setStake ⟨rfl, by decide⟩ ⟨Nat.le_of_ble_eq_true rfl, Nat.le_of_ble_eq_true rfl⟩ hC.hK hQ (hdb.1 20 (by decide)) rfl rfl rfl hl.1 (Nat.le_of_ble_eq_true rfl) rfl dL_law_328 ⟨show cells + 2 + 0 ≤ 601024 by omega, show slots + 12 + 0 ≤ 7293033 by omega⟩) hS (ap_ai hAP) (fun r6 S2 Z1 H2 locs hp2 hQ hkp hS => ?_)
  have hP := wp_keep hP hAP hkp
  have hO := og_keep hO hAP hkp
  obtain ⟨hz, hyes2, hno2⟩ := hp2
  refine lv_istore (lv' := [(6, .int r6), (5, .int r), (4, .int (nI i)), (3, .ref og), (2, .ref (b 20)), (1, .ref (a 89)), (0, .ref scr)]) C0.1 C0.2.1 dL_law_331 hl (by decide) rfl (fun ls hl => ?_)
  have hke : kd (plB (xs (i + 1)) (xs (i + 2))) (inB (xs (i + 3)) 0 9) (true) 1 2 9 = kd (plB (xs (i + 1)) (xs (i + 2))) (inB (xs (i + 3)) 0 9) (true) 1 2 3 := kd_t3
  have hkk : r = Z1 87 0 := hk5.trans (hke.trans hz.symm)
  by_cases h0 : kd (plB (xs (i + 1)) (xs (i + 2))) (inB (xs (i + 3)) 0 9) (true) 1 2 9 = 0
  · obtain ⟨hv, e1, hrel⟩ := hyes h0
    obtain ⟨hr6, e2⟩ := hyes2 (hke.symm.trans h0)
    obtain ⟨q1, q2, q3⟩ := kd_inv (by decide) (by decide) (by decide) h0
    rw [e1] at hP
    rw [e2] at hQ
    rw [hrel] at hP
    refine ltail (i := i) (scr := scr) C0 hC.hAr hC.hK hdb hAP rfl hP hQ hO hS hkk (fun _ => hv.trans (congrArg Int32.toInt64 hr6.symm)) ⟨Nat.le_of_ble_eq_true rfl, Nat.le_of_ble_eq_true rfl⟩ ⟨show cells + 2 + 0 ≤ 601024 by omega, show slots + 12 + 0 ≤ 7293033 by omega⟩ hl dL_law_333 dL_law_334 dL_law_337 dL_law_339 dL_law_344 dL_law_346 dL_law_349 dL_law_350 dL_law_351 dL_law_352 dL_law_354 dL_law_355 dL_law_356 dL_law_361 (by decide) (fun H3 locs hP hQ hO hS => ?_)
    exact W.widen (by omega) (by omega) (kk b _ _ Z1 (P) (L) (T) (h) f1 H3 locs ls ⟨hdb, hAP, ok.setStake, hP, hQ, hO, hS⟩ (by omega) (lv_sub hl [2, 3, 4, 5, 6] rfl))
  · obtain ⟨e1, e3⟩ := hno h0
    have e2 := hno2 (fun q9 => h0 (hke.trans q9))
    rw [e1, e3] at hP
    rw [e2] at hQ
    refine ltail (i := i) (scr := scr) C0 hC.hAr hC.hK hdb hAP rfl hP hQ hO hS hkk (fun q9 => absurd (hk5.symm.trans q9) h0) ⟨Nat.le_of_ble_eq_true rfl, Nat.le_of_ble_eq_true rfl⟩ ⟨show cells + 2 + 0 ≤ 601024 by omega, show slots + 12 + 0 ≤ 7293033 by omega⟩ hl dL_law_333 dL_law_334 dL_law_337 dL_law_339 dL_law_344 dL_law_346 dL_law_349 dL_law_350 dL_law_351 dL_law_352 dL_law_354 dL_law_355 dL_law_356 dL_law_361 (by decide) (fun H3 locs hP hQ hO hS => ?_)
    exact W.widen (by omega) (by omega) (kk b _ _ Z1 (P) (L) (T) (h) f1 H3 locs ls ⟨hdb, hAP, ok, hP, hQ, hO, hS⟩ (by omega) (lv_sub hl [2, 3, 4, 5, 6] rfl))
set_option maxHeartbeats 4000000 in
set_option maxRecDepth 100000 in
theorem k_cell (hfl : l.stackTraces = false) (C0 : CallFix p m c cL_law 9 s args GW RL) (hC : LawC s D cA cL a og scr Ls xs) (hi : i + 7 ≤ Ls) (hh : h + 500 < 2 ^ 31) (hI : LawI s D cA cL a b og S X Z P L T h f H locs) (hl : lv_has ls 9 (lv5 scr i og a b)) (hf : cells + 20 ≤ 601024 ∧ slots + 400 ≤ 7293033) (kk : ∀ (b1 : Adr) (S1 X1 Z1 : Mem) (P1 L1 T1 h1 : Nat) (f1 : Nat → Int64) (H1 : Heap) (locs1 : List Loc) (ls1 : Array Slot), LawI s D cA cL a b1 og S1 X1 Z1 P1 L1 T1 h1 f1 H1 locs1 → h1 ≤ h + 100 → lv_has ls1 9 (lv5 scr i og a b1) → W p l e room_1 s m args below meth c H1 locs1 (cells + 20) (slots + 400) Q (F0 m 1477 ls1 [])) : W p l e room_1 s m args below meth c H locs cells slots Q (F0 m 364 ls []) := by
  obtain ⟨hdb, hAP, ok, hP, hQ, hO, hS⟩ := hI
  have hbA : ¬ (fun q : Nat => s.heap.size ≤ q) scr := Nat.not_le.mpr hC.hbl
  have hz0 : s.heap.size ≤ H.size := hS.1
  have hl : lv_has ls 9 [(4, .int (nI i)), (3, .ref og), (2, .ref (b 20)), (1, .ref (a 89)), (0, .ref scr)] := hl
  refine lv_aload_n C0.1 C0.2.1 dL_law_364 rfl (lv_at hl 3 rfl) ?_
  refine larg (k := 1) (p0 := 4) (p4 := 0) C0 hC.hXs hC.hbl hbA hS hl rfl rfl (by decide) (by omega) hC.hL dL_law_365 dL_law_366 dL_law_368 dL_law_369 dL_law_370 ?_
  refine larg (k := 2) (p0 := 4) (p4 := 0) C0 hC.hXs hC.hbl hbA hS hl rfl rfl (by decide) (by omega) hC.hL dL_law_371 dL_law_372 dL_law_374 dL_law_375 dL_law_376 ?_
  refine larg (k := 3) (p0 := 4) (p4 := 0) C0 hC.hXs hC.hbl hbA hS hl rfl rfl (by decide) (by omega) hC.hL dL_law_377 dL_law_378 dL_law_380 dL_law_381 dL_law_382 ?_
  refine lv_aload_n C0.1 C0.2.1 dL_law_383 rfl (lv_at hl 1 rfl) ?_
  refine hoLw (n := 5) (w_cell l hfl D cA cL a S X H.size og f hC.hd hC.hne ok (by omega) (xs (i + 1)) (xs (i + 2)) (xs (i + 3))) C0 ml_L_94 sm_L_cell in_L co_L_cell ⟨by decide, by decide, by decide⟩ ⟨Nat.le_of_ble_eq_true rfl, Nat.le_of_ble_eq_true rfl⟩ hC.hK hC.hX hC.hN hC.hAr hP hO hS (hC.al hz0) rfl hl.1 rfl dL_law_384 ⟨show cells + 1 ≤ 601024 by omega, show slots + 6 ≤ 7293033 by omega⟩ (fun r S1 X1 f1 H1 locs hp hP hO hk hS => ?_)
  obtain ⟨hk5, hyes, hno⟩ := hp
  have hQ := wq_keep hQ hAP hk
  have hz1 : s.heap.size ≤ H1.size := hS.1
  refine lv_istore (lv' := [(5, .int r), (4, .int (nI i)), (3, .ref og), (2, .ref (b 20)), (1, .ref (a 89)), (0, .ref scr)]) C0.1 C0.2.1 dL_law_387 hl (by decide) rfl (fun ls hl => ?_)
  refine lv_aload_n C0.1 C0.2.1 dL_law_389 rfl (lv_at hl 3 rfl) ?_
  refine larg (k := 1) (p0 := 5) (p4 := 1) C0 hC.hXs hC.hbl hbA hS hl rfl rfl (by decide) (by omega) hC.hL dL_law_390 dL_law_391 dL_law_393 dL_law_394 dL_law_395 ?_
  refine larg (k := 2) (p0 := 5) (p4 := 1) C0 hC.hXs hC.hbl hbA hS hl rfl rfl (by decide) (by omega) hC.hL dL_law_396 dL_law_397 dL_law_399 dL_law_400 dL_law_401 ?_
  refine larg (k := 3) (p0 := 5) (p4 := 1) C0 hC.hXs hC.hbl hbA hS hl rfl rfl (by decide) (by omega) hC.hL dL_law_402 dL_law_403 dL_law_405 dL_law_406 dL_law_407 ?_
  refine hoIF (qV (n := 3) (c_X9_cell l D cA b S Z IM hdb (xs (i + 1)) (xs (i + 2)) (xs (i + 3)) ok.1.1 ok.2.1.2.1 ok.1.2.1 ok.2.1.2.2.1 ok.1.2.2.2.2 (by omega)) C0 ml_L_96 im_X9_cell se_X9_cell in_X9 co_X9_cell ⟨rfl, by decide⟩ ⟨Nat.le_of_ble_eq_true rfl, Nat.le_of_ble_eq_true rfl⟩ hC.hK hQ (hdb.1 20 (by decide)) rfl rfl rfl hl.1 (Nat.le_of_ble_eq_true rfl) rfl dL_law_408 ⟨show cells + 1 + 0 ≤ 601024 by omega, show slots + 6 + 0 ≤ 7293033 by omega⟩) hS (ap_ai hAP) (fun r6 S2 Z1 H2 locs hp2 hQ hkp hS => ?_)
  have hP := wp_keep hP hAP hkp
  have hO := og_keep hO hAP hkp
  obtain ⟨hz, hyes2, hno2⟩ := hp2
  refine lv_istore (lv' := [(6, .int r6), (5, .int r), (4, .int (nI i)), (3, .ref og), (2, .ref (b 20)), (1, .ref (a 89)), (0, .ref scr)]) C0.1 C0.2.1 dL_law_411 hl (by decide) rfl (fun ls hl => ?_)
  have hke : kd (plB (xs (i + 1)) (xs (i + 2)) && oneB (xs (i + 3)) 6) (true) (true) 1 9 9 = kd (plB (xs (i + 1)) (xs (i + 2)) && oneB (xs (i + 3)) 6) (true) (true) 1 2 3 := kd_t2
  have hkk : r = Z1 87 0 := hk5.trans (hke.trans hz.symm)
  by_cases h0 : kd (plB (xs (i + 1)) (xs (i + 2)) && oneB (xs (i + 3)) 6) (true) (true) 1 9 9 = 0
  · obtain ⟨hv, e1, hrel⟩ := hyes h0
    obtain ⟨hr6, e2⟩ := hyes2 (hke.symm.trans h0)
    obtain ⟨q1, q2, q3⟩ := kd_inv (by decide) (by decide) (by decide) h0
    rw [e1] at hP
    rw [e2] at hQ
    rw [hrel] at hP
    refine ltail (i := i) (scr := scr) C0 hC.hAr hC.hK hdb hAP rfl hP hQ hO hS hkk (fun _ => hv.trans (congrArg Int32.toInt64 hr6.symm)) ⟨Nat.le_of_ble_eq_true rfl, Nat.le_of_ble_eq_true rfl⟩ ⟨show cells + 1 + 0 ≤ 601024 by omega, show slots + 6 + 0 ≤ 7293033 by omega⟩ hl dL_law_413 dL_law_414 dL_law_417 dL_law_419 dL_law_424 dL_law_426 dL_law_429 dL_law_430 dL_law_431 dL_law_432 dL_law_434 dL_law_435 dL_law_436 dL_law_441 (by decide) (fun H3 locs hP hQ hO hS => ?_)
    exact W.widen (by omega) (by omega) (kk b _ _ Z1 (P) (L) (T) (h) f1 H3 locs ls ⟨hdb, hAP, ok, hP, hQ, hO, hS⟩ (by omega) (lv_sub hl [2, 3, 4, 5, 6] rfl))
  · obtain ⟨e1, e3⟩ := hno h0
    have e2 := hno2 (fun q9 => h0 (hke.trans q9))
    rw [e1, e3] at hP
    rw [e2] at hQ
    refine ltail (i := i) (scr := scr) C0 hC.hAr hC.hK hdb hAP rfl hP hQ hO hS hkk (fun q9 => absurd (hk5.symm.trans q9) h0) ⟨Nat.le_of_ble_eq_true rfl, Nat.le_of_ble_eq_true rfl⟩ ⟨show cells + 1 + 0 ≤ 601024 by omega, show slots + 6 + 0 ≤ 7293033 by omega⟩ hl dL_law_413 dL_law_414 dL_law_417 dL_law_419 dL_law_424 dL_law_426 dL_law_429 dL_law_430 dL_law_431 dL_law_432 dL_law_434 dL_law_435 dL_law_436 dL_law_441 (by decide) (fun H3 locs hP hQ hO hS => ?_)
    exact W.widen (by omega) (by omega) (kk b _ _ Z1 (P) (L) (T) (h) f1 H3 locs ls ⟨hdb, hAP, ok, hP, hQ, hO, hS⟩ (by omega) (lv_sub hl [2, 3, 4, 5, 6] rfl))
set_option maxHeartbeats 4000000 in
set_option maxRecDepth 100000 in
theorem k_addLanding (hfl : l.stackTraces = false) (C0 : CallFix p m c cL_law 9 s args GW RL) (hC : LawC s D cA cL a og scr Ls xs) (hi : i + 7 ≤ Ls) (hh : h + 500 < 2 ^ 31) (hI : LawI s D cA cL a b og S X Z P L T h f H locs) (hl : lv_has ls 9 (lv5 scr i og a b)) (hf : cells + 20 ≤ 601024 ∧ slots + 400 ≤ 7293033) (kk : ∀ (b1 : Adr) (S1 X1 Z1 : Mem) (P1 L1 T1 h1 : Nat) (f1 : Nat → Int64) (H1 : Heap) (locs1 : List Loc) (ls1 : Array Slot), LawI s D cA cL a b1 og S1 X1 Z1 P1 L1 T1 h1 f1 H1 locs1 → h1 ≤ h + 100 → lv_has ls1 9 (lv5 scr i og a b1) → W p l e room_1 s m args below meth c H1 locs1 (cells + 20) (slots + 400) Q (F0 m 1477 ls1 [])) : W p l e room_1 s m args below meth c H locs cells slots Q (F0 m 444 ls []) := by
  obtain ⟨hdb, hAP, ok, hP, hQ, hO, hS⟩ := hI
  have hbA : ¬ (fun q : Nat => s.heap.size ≤ q) scr := Nat.not_le.mpr hC.hbl
  have hz0 : s.heap.size ≤ H.size := hS.1
  have hl : lv_has ls 9 [(4, .int (nI i)), (3, .ref og), (2, .ref (b 20)), (1, .ref (a 89)), (0, .ref scr)] := hl
  refine lv_aload_n C0.1 C0.2.1 dL_law_444 rfl (lv_at hl 3 rfl) ?_
  refine larg (k := 1) (p0 := 4) (p4 := 0) C0 hC.hXs hC.hbl hbA hS hl rfl rfl (by decide) (by omega) hC.hL dL_law_445 dL_law_446 dL_law_448 dL_law_449 dL_law_450 ?_
  refine larg (k := 2) (p0 := 4) (p4 := 0) C0 hC.hXs hC.hbl hbA hS hl rfl rfl (by decide) (by omega) hC.hL dL_law_451 dL_law_452 dL_law_454 dL_law_455 dL_law_456 ?_
  refine lv_aload_n C0.1 C0.2.1 dL_law_457 rfl (lv_at hl 1 rfl) ?_
  refine hoLw (n := 4) (w_addLanding l hfl D cA cL a S X H.size og f hC.hd hC.hne ok (by omega) (xs (i + 1)) (xs (i + 2))) C0 ml_L_97 sm_L_addLanding in_L co_L_addLanding ⟨by decide, by decide, by decide⟩ ⟨Nat.le_of_ble_eq_true rfl, Nat.le_of_ble_eq_true rfl⟩ hC.hK hC.hX hC.hN hC.hAr hP hO hS (hC.al hz0) rfl hl.1 rfl dL_law_458 ⟨show cells + 2 ≤ 601024 by omega, show slots + 12 ≤ 7293033 by omega⟩ (fun r S1 X1 f1 H1 locs hp hP hO hk hS => ?_)
  obtain ⟨hk5, hyes, hno⟩ := hp
  have hQ := wq_keep hQ hAP hk
  have hz1 : s.heap.size ≤ H1.size := hS.1
  refine lv_istore (lv' := [(5, .int r), (4, .int (nI i)), (3, .ref og), (2, .ref (b 20)), (1, .ref (a 89)), (0, .ref scr)]) C0.1 C0.2.1 dL_law_461 hl (by decide) rfl (fun ls hl => ?_)
  refine lv_aload_n C0.1 C0.2.1 dL_law_463 rfl (lv_at hl 3 rfl) ?_
  refine larg (k := 1) (p0 := 5) (p4 := 1) C0 hC.hXs hC.hbl hbA hS hl rfl rfl (by decide) (by omega) hC.hL dL_law_464 dL_law_465 dL_law_467 dL_law_468 dL_law_469 ?_
  refine larg (k := 2) (p0 := 5) (p4 := 1) C0 hC.hXs hC.hbl hbA hS hl rfl rfl (by decide) (by omega) hC.hL dL_law_470 dL_law_471 dL_law_473 dL_law_474 dL_law_475 ?_
  refine hoIF (qV (n := 2) (c_X9_addLanding l D cA b S Z IM hdb (xs (i + 1)) (xs (i + 2)) ok.1.2.1 ok.2.1.2.2.1) C0 ml_L_99 im_X9_addLanding se_X9_addLanding in_X9 co_X9_addLanding ⟨rfl, by decide⟩ ⟨Nat.le_of_ble_eq_true rfl, Nat.le_of_ble_eq_true rfl⟩ hC.hK hQ (hdb.1 20 (by decide)) rfl rfl rfl hl.1 (Nat.le_of_ble_eq_true rfl) rfl dL_law_476 ⟨show cells + 2 + 0 ≤ 601024 by omega, show slots + 12 + 0 ≤ 7293033 by omega⟩) hS (ap_ai hAP) (fun r6 S2 Z1 H2 locs hp2 hQ hkp hS => ?_)
  have hP := wp_keep hP hAP hkp
  have hO := og_keep hO hAP hkp
  obtain ⟨hz, hyes2, hno2⟩ := hp2
  refine lv_istore (lv' := [(6, .int r6), (5, .int r), (4, .int (nI i)), (3, .ref og), (2, .ref (b 20)), (1, .ref (a 89)), (0, .ref scr)]) C0.1 C0.2.1 dL_law_479 hl (by decide) rfl (fun ls hl => ?_)
  have hke : kd (plB (xs (i + 1)) (xs (i + 2))) (true) (decide ((fndF (fun j => decide (rg (S 3) 8 (nI j) = (xs (i + 1)) + 14 * (xs (i + 2)))) 0 L) = -1) && !decide (8 ≤ nI L)) 1 9 2 = kd (plB (xs (i + 1)) (xs (i + 2))) (true) (decide ((fndF (fun j => decide (rg (S 3) 8 (nI j) = (xs (i + 1)) + 14 * (xs (i + 2)))) 0 L) = -1) && !decide (8 ≤ nI L)) 1 9 2 := Eq.refl _
  have hkk : r = Z1 87 0 := hk5.trans (hke.trans hz.symm)
  by_cases h0 : kd (plB (xs (i + 1)) (xs (i + 2))) (true) (decide ((fndF (fun j => decide (rg (S 3) 8 (nI j) = (xs (i + 1)) + 14 * (xs (i + 2)))) 0 L) = -1) && !decide (8 ≤ nI L)) 1 9 2 = 0
  · obtain ⟨hv, e1, hrel⟩ := hyes h0
    obtain ⟨hr6, e2⟩ := hyes2 (hke.symm.trans h0)
    obtain ⟨q1, q2, q3⟩ := kd_inv (by decide) (by decide) (by decide) h0
    rw [e1] at hP
    rw [e2] at hQ
    rw [hrel] at hP
    refine ltail (i := i) (scr := scr) C0 hC.hAr hC.hK hdb hAP rfl hP hQ hO hS hkk (fun _ => hv.trans (congrArg Int32.toInt64 (ok.1.2.1.trans hr6.symm))) ⟨Nat.le_of_ble_eq_true rfl, Nat.le_of_ble_eq_true rfl⟩ ⟨show cells + 2 + 0 ≤ 601024 by omega, show slots + 12 + 0 ≤ 7293033 by omega⟩ hl dL_law_481 dL_law_482 dL_law_485 dL_law_487 dL_law_492 dL_law_494 dL_law_497 dL_law_498 dL_law_499 dL_law_500 dL_law_502 dL_law_503 dL_law_504 dL_law_509 (by decide) (fun H3 locs hP hQ hO hS => ?_)
    exact W.widen (by omega) (by omega) (kk b _ _ Z1 (P) (L + 1) (T) (h) f1 H3 locs ls ⟨hdb, hAP, (by obtain ⟨c9, hc9, e9⟩ := cel_nat q1; simp only [Bool.and_eq_true] at q3; exact ok.addLanding hc9 e9 (not_le_L ok.2.1.2.2.1 q3.2)), hP, hQ, hO, hS⟩ (by omega) (lv_sub hl [2, 3, 4, 5, 6] rfl))
  · obtain ⟨e1, e3⟩ := hno h0
    have e2 := hno2 (fun q9 => h0 (hke.trans q9))
    rw [e1, e3] at hP
    rw [e2] at hQ
    refine ltail (i := i) (scr := scr) C0 hC.hAr hC.hK hdb hAP rfl hP hQ hO hS hkk (fun q9 => absurd (hk5.symm.trans q9) h0) ⟨Nat.le_of_ble_eq_true rfl, Nat.le_of_ble_eq_true rfl⟩ ⟨show cells + 2 + 0 ≤ 601024 by omega, show slots + 12 + 0 ≤ 7293033 by omega⟩ hl dL_law_481 dL_law_482 dL_law_485 dL_law_487 dL_law_492 dL_law_494 dL_law_497 dL_law_498 dL_law_499 dL_law_500 dL_law_502 dL_law_503 dL_law_504 dL_law_509 (by decide) (fun H3 locs hP hQ hO hS => ?_)
    exact W.widen (by omega) (by omega) (kk b _ _ Z1 (P) (L) (T) (h) f1 H3 locs ls ⟨hdb, hAP, ok, hP, hQ, hO, hS⟩ (by omega) (lv_sub hl [2, 3, 4, 5, 6] rfl))
set_option maxHeartbeats 4000000 in
set_option maxRecDepth 100000 in
theorem k_launch (hfl : l.stackTraces = false) (C0 : CallFix p m c cL_law 9 s args GW RL) (hC : LawC s D cA cL a og scr Ls xs) (hi : i + 7 ≤ Ls) (hh : h + 500 < 2 ^ 31) (hI : LawI s D cA cL a b og S X Z P L T h f H locs) (hl : lv_has ls 9 (lv5 scr i og a b)) (hf : cells + 20 ≤ 601024 ∧ slots + 400 ≤ 7293033) (kk : ∀ (b1 : Adr) (S1 X1 Z1 : Mem) (P1 L1 T1 h1 : Nat) (f1 : Nat → Int64) (H1 : Heap) (locs1 : List Loc) (ls1 : Array Slot), LawI s D cA cL a b1 og S1 X1 Z1 P1 L1 T1 h1 f1 H1 locs1 → h1 ≤ h + 100 → lv_has ls1 9 (lv5 scr i og a b1) → W p l e room_1 s m args below meth c H1 locs1 (cells + 20) (slots + 400) Q (F0 m 1477 ls1 [])) : W p l e room_1 s m args below meth c H locs cells slots Q (F0 m 512 ls []) := by
  obtain ⟨hdb, hAP, ok, hP, hQ, hO, hS⟩ := hI
  have hbA : ¬ (fun q : Nat => s.heap.size ≤ q) scr := Nat.not_le.mpr hC.hbl
  have hz0 : s.heap.size ≤ H.size := hS.1
  have hl : lv_has ls 9 [(4, .int (nI i)), (3, .ref og), (2, .ref (b 20)), (1, .ref (a 89)), (0, .ref scr)] := hl
  refine lv_aload_n C0.1 C0.2.1 dL_law_512 rfl (lv_at hl 3 rfl) ?_
  refine larg (k := 1) (p0 := 4) (p4 := 0) C0 hC.hXs hC.hbl hbA hS hl rfl rfl (by decide) (by omega) hC.hL dL_law_513 dL_law_514 dL_law_516 dL_law_517 dL_law_518 ?_
  refine larg (k := 2) (p0 := 4) (p4 := 0) C0 hC.hXs hC.hbl hbA hS hl rfl rfl (by decide) (by omega) hC.hL dL_law_519 dL_law_520 dL_law_522 dL_law_523 dL_law_524 ?_
  refine larg (k := 3) (p0 := 4) (p4 := 0) C0 hC.hXs hC.hbl hbA hS hl rfl rfl (by decide) (by omega) hC.hL dL_law_525 dL_law_526 dL_law_528 dL_law_529 dL_law_530 ?_
  refine larg (k := 4) (p0 := 4) (p4 := 0) C0 hC.hXs hC.hbl hbA hS hl rfl rfl (by decide) (by omega) hC.hL dL_law_531 dL_law_532 dL_law_534 dL_law_535 dL_law_536 ?_
  refine larg (k := 5) (p0 := 4) (p4 := 0) C0 hC.hXs hC.hbl hbA hS hl rfl rfl (by decide) (by omega) hC.hL dL_law_537 dL_law_538 dL_law_540 dL_law_541 dL_law_542 ?_
  refine largb (k := 6) (p0 := 4) (p4 := 0) C0 hC.hXs hC.hbl hbA hS hl rfl rfl (by decide) (by omega) hC.hL dL_law_543 dL_law_544 dL_law_546 dL_law_548 dL_law_549 ?_
  refine lv_aload_n C0.1 C0.2.1 dL_law_550 rfl (lv_at hl 1 rfl) ?_
  refine hoLw (n := 8) (w_launch l hfl D cA cL a S X H.size og f hC.hd hC.hne ok (by omega) (xs (i + 1)) (xs (i + 2)) (xs (i + 3)) (xs (i + 4)) (xs (i + 5)) (xs (i + 6))) C0 ml_L_100 sm_L_launch in_L co_L_launch ⟨by decide, by decide, by decide⟩ ⟨Nat.le_of_ble_eq_true rfl, Nat.le_of_ble_eq_true rfl⟩ hC.hK hC.hX hC.hN hC.hAr hP hO hS (hC.al hz0) rfl hl.1 rfl dL_law_551 ⟨show cells + 7 ≤ 601024 by omega, show slots + 42 ≤ 7293033 by omega⟩ (fun r S1 X1 f1 H1 locs hp hP hO hk hS => ?_)
  obtain ⟨hk5, hyes, hno⟩ := hp
  have hQ := wq_keep hQ hAP hk
  have hz1 : s.heap.size ≤ H1.size := hS.1
  refine lv_istore (lv' := [(5, .int r), (4, .int (nI i)), (3, .ref og), (2, .ref (b 20)), (1, .ref (a 89)), (0, .ref scr)]) C0.1 C0.2.1 dL_law_554 hl (by decide) rfl (fun ls hl => ?_)
  refine lv_aload_n C0.1 C0.2.1 dL_law_556 rfl (lv_at hl 3 rfl) ?_
  refine larg (k := 1) (p0 := 5) (p4 := 1) C0 hC.hXs hC.hbl hbA hS hl rfl rfl (by decide) (by omega) hC.hL dL_law_557 dL_law_558 dL_law_560 dL_law_561 dL_law_562 ?_
  refine larg (k := 2) (p0 := 5) (p4 := 1) C0 hC.hXs hC.hbl hbA hS hl rfl rfl (by decide) (by omega) hC.hL dL_law_563 dL_law_564 dL_law_566 dL_law_567 dL_law_568 ?_
  refine larg (k := 3) (p0 := 5) (p4 := 1) C0 hC.hXs hC.hbl hbA hS hl rfl rfl (by decide) (by omega) hC.hL dL_law_569 dL_law_570 dL_law_572 dL_law_573 dL_law_574 ?_
  refine larg (k := 4) (p0 := 5) (p4 := 1) C0 hC.hXs hC.hbl hbA hS hl rfl rfl (by decide) (by omega) hC.hL dL_law_575 dL_law_576 dL_law_578 dL_law_579 dL_law_580 ?_
  refine larg (k := 5) (p0 := 5) (p4 := 1) C0 hC.hXs hC.hbl hbA hS hl rfl rfl (by decide) (by omega) hC.hL dL_law_581 dL_law_582 dL_law_584 dL_law_585 dL_law_586 ?_
  refine largb (k := 6) (p0 := 5) (p4 := 1) C0 hC.hXs hC.hbl hbA hS hl rfl rfl (by decide) (by omega) hC.hL dL_law_587 dL_law_588 dL_law_590 dL_law_592 dL_law_593 ?_
  refine hoY (qVY (n := 6) (c_X9_launch l D cA b S Z H1.size hdb (xs (i + 1)) (xs (i + 2)) (xs (i + 3)) (xs (i + 4)) (xs (i + 5)) (xs (i + 6)) ok.1.1 ok.1.2.1 ok.2.1.2.1 ok.2.1.2.2.1) C0 ml_L_103 im_X9_launch se_X9_launch in_X9 co_X9_launch ⟨rfl, by decide⟩ rfl ⟨Nat.le_of_ble_eq_true rfl, Nat.le_of_ble_eq_true rfl⟩ hC.hK hC.hY hQ rfl hl.1 (Nat.le_of_ble_eq_true rfl) rfl dL_law_594 ⟨show cells + 7 + 1 ≤ 601024 by omega, show slots + 42 + 6 ≤ 7293033 by omega⟩) hS (ap_af hAP hz1) (fun r6 S2 Z1 H2 locs hp2 hQ hkp hS => ?_)
  have hkp := afb (P := fun _ => True) hkp
  have hP := wp_keep hP hAP hkp
  have hO := og_keep hO hAP hkp
  obtain ⟨hz, hyes2, hno2⟩ := hp2
  refine lv_istore (lv' := [(6, .int r6), (5, .int r), (4, .int (nI i)), (3, .ref og), (2, .ref (b 20)), (1, .ref (a 89)), (0, .ref scr)]) C0.1 C0.2.1 dL_law_597 hl (by decide) rfl (fun ls hl => ?_)
  have hke : kd (oneB (xs (i + 1)) (nI L) && oneB (xs (i + 2)) (nI L)) (!decide ((xs (i + 1)) = (xs (i + 2))) && inB (xs (i + 3)) 1 4 && inB (xs (i + 4)) 2 12 && inB (xs (i + 5)) 1 6 && inB (xs (i + 6)) 0 50) (!decide (6 ≤ nI P)) 1 2 3 = kd (oneB (xs (i + 1)) (nI L) && oneB (xs (i + 2)) (nI L)) (!decide ((xs (i + 1)) = (xs (i + 2))) && inB (xs (i + 3)) 1 4 && inB (xs (i + 4)) 2 12 && inB (xs (i + 5)) 1 6 && inB (xs (i + 6)) 0 50) (!decide (6 ≤ nI P)) 1 2 3 := Eq.refl _
  have hkk : r = Z1 87 0 := hk5.trans (hke.trans hz.symm)
  by_cases h0 : kd (oneB (xs (i + 1)) (nI L) && oneB (xs (i + 2)) (nI L)) (!decide ((xs (i + 1)) = (xs (i + 2))) && inB (xs (i + 3)) 1 4 && inB (xs (i + 4)) 2 12 && inB (xs (i + 5)) 1 6 && inB (xs (i + 6)) 0 50) (!decide (6 ≤ nI P)) 1 2 3 = 0
  · obtain ⟨hv, e1, hrel⟩ := hyes h0
    obtain ⟨hr6, e2⟩ := hyes2 (hke.symm.trans h0)
    obtain ⟨q1, q2, q3⟩ := kd_inv (by decide) (by decide) (by decide) h0
    rw [e1] at hP
    rw [e2] at hQ
    rw [hrel] at hP
    refine ltail (i := i) (scr := scr) C0 hC.hAr hC.hK hdb hAP rfl hP hQ hO hS hkk (fun _ => hv.trans (congrArg Int32.toInt64 hr6.symm)) ⟨Nat.le_of_ble_eq_true rfl, Nat.le_of_ble_eq_true rfl⟩ ⟨show cells + 7 + 1 ≤ 601024 by omega, show slots + 42 + 6 ≤ 7293033 by omega⟩ hl dL_law_599 dL_law_600 dL_law_603 dL_law_605 dL_law_610 dL_law_612 dL_law_615 dL_law_616 dL_law_617 dL_law_618 dL_law_620 dL_law_621 dL_law_622 dL_law_627 (by decide) (fun H3 locs hP hQ hO hS => ?_)
    exact W.widen (by omega) (by omega) (kk b _ _ Z1 (P + 1) (L) (T) (h) f1 H3 locs ls ⟨hdb, hAP, (by obtain ⟨y1, y2⟩ := Bool.and_eq_true_iff.mp q1; obtain ⟨z6, z5⟩ := Bool.and_eq_true_iff.mp q2; obtain ⟨z7, z4⟩ := Bool.and_eq_true_iff.mp z6; obtain ⟨z8, z3⟩ := Bool.and_eq_true_iff.mp z7; obtain ⟨z1, z2⟩ := Bool.and_eq_true_iff.mp z8; exact ok.launch y1 y2 (by simpa using z1) z4 z5 (not_le_P ok.2.1.2.1 q3)), hP, hQ, hO, hS⟩ (by omega) (lv_sub hl [2, 3, 4, 5, 6] rfl))
  · obtain ⟨e1, e3⟩ := hno h0
    have e2 := hno2 (fun q9 => h0 (hke.trans q9))
    rw [e1, e3] at hP
    rw [e2] at hQ
    refine ltail (i := i) (scr := scr) C0 hC.hAr hC.hK hdb hAP rfl hP hQ hO hS hkk (fun q9 => absurd (hk5.symm.trans q9) h0) ⟨Nat.le_of_ble_eq_true rfl, Nat.le_of_ble_eq_true rfl⟩ ⟨show cells + 7 + 1 ≤ 601024 by omega, show slots + 42 + 6 ≤ 7293033 by omega⟩ hl dL_law_599 dL_law_600 dL_law_603 dL_law_605 dL_law_610 dL_law_612 dL_law_615 dL_law_616 dL_law_617 dL_law_618 dL_law_620 dL_law_621 dL_law_622 dL_law_627 (by decide) (fun H3 locs hP hQ hO hS => ?_)
    exact W.widen (by omega) (by omega) (kk b _ _ Z1 (P) (L) (T) (h) f1 H3 locs ls ⟨hdb, hAP, ok, hP, hQ, hO, hS⟩ (by omega) (lv_sub hl [2, 3, 4, 5, 6] rfl))
set_option maxHeartbeats 4000000 in
set_option maxRecDepth 100000 in
theorem k_setToll (hfl : l.stackTraces = false) (C0 : CallFix p m c cL_law 9 s args GW RL) (hC : LawC s D cA cL a og scr Ls xs) (hi : i + 7 ≤ Ls) (hh : h + 500 < 2 ^ 31) (hI : LawI s D cA cL a b og S X Z P L T h f H locs) (hl : lv_has ls 9 (lv5 scr i og a b)) (hf : cells + 20 ≤ 601024 ∧ slots + 400 ≤ 7293033) (kk : ∀ (b1 : Adr) (S1 X1 Z1 : Mem) (P1 L1 T1 h1 : Nat) (f1 : Nat → Int64) (H1 : Heap) (locs1 : List Loc) (ls1 : Array Slot), LawI s D cA cL a b1 og S1 X1 Z1 P1 L1 T1 h1 f1 H1 locs1 → h1 ≤ h + 100 → lv_has ls1 9 (lv5 scr i og a b1) → W p l e room_1 s m args below meth c H1 locs1 (cells + 20) (slots + 400) Q (F0 m 1477 ls1 [])) : W p l e room_1 s m args below meth c H locs cells slots Q (F0 m 630 ls []) := by
  obtain ⟨hdb, hAP, ok, hP, hQ, hO, hS⟩ := hI
  have hbA : ¬ (fun q : Nat => s.heap.size ≤ q) scr := Nat.not_le.mpr hC.hbl
  have hz0 : s.heap.size ≤ H.size := hS.1
  have hl : lv_has ls 9 [(4, .int (nI i)), (3, .ref og), (2, .ref (b 20)), (1, .ref (a 89)), (0, .ref scr)] := hl
  refine lv_aload_n C0.1 C0.2.1 dL_law_630 rfl (lv_at hl 3 rfl) ?_
  refine larg (k := 1) (p0 := 4) (p4 := 0) C0 hC.hXs hC.hbl hbA hS hl rfl rfl (by decide) (by omega) hC.hL dL_law_631 dL_law_632 dL_law_634 dL_law_635 dL_law_636 ?_
  refine larg (k := 2) (p0 := 4) (p4 := 0) C0 hC.hXs hC.hbl hbA hS hl rfl rfl (by decide) (by omega) hC.hL dL_law_637 dL_law_638 dL_law_640 dL_law_641 dL_law_642 ?_
  refine lv_aload_n C0.1 C0.2.1 dL_law_643 rfl (lv_at hl 1 rfl) ?_
  refine hoLw (n := 4) (w_setToll l hfl D cA cL a S X H.size og f hC.hd hC.hne ok (by omega) (xs (i + 1)) (xs (i + 2))) C0 ml_L_104 sm_L_setToll in_L co_L_setToll ⟨by decide, by decide, by decide⟩ ⟨Nat.le_of_ble_eq_true rfl, Nat.le_of_ble_eq_true rfl⟩ hC.hK hC.hX hC.hN hC.hAr hP hO hS (hC.al hz0) rfl hl.1 rfl dL_law_644 ⟨show cells + 2 ≤ 601024 by omega, show slots + 12 ≤ 7293033 by omega⟩ (fun r S1 X1 f1 H1 locs hp hP hO hk hS => ?_)
  obtain ⟨hk5, hyes, hno⟩ := hp
  have hQ := wq_keep hQ hAP hk
  have hz1 : s.heap.size ≤ H1.size := hS.1
  refine lv_istore (lv' := [(5, .int r), (4, .int (nI i)), (3, .ref og), (2, .ref (b 20)), (1, .ref (a 89)), (0, .ref scr)]) C0.1 C0.2.1 dL_law_647 hl (by decide) rfl (fun ls hl => ?_)
  refine lv_aload_n C0.1 C0.2.1 dL_law_649 rfl (lv_at hl 3 rfl) ?_
  refine larg (k := 1) (p0 := 5) (p4 := 1) C0 hC.hXs hC.hbl hbA hS hl rfl rfl (by decide) (by omega) hC.hL dL_law_650 dL_law_651 dL_law_653 dL_law_654 dL_law_655 ?_
  refine larg (k := 2) (p0 := 5) (p4 := 1) C0 hC.hXs hC.hbl hbA hS hl rfl rfl (by decide) (by omega) hC.hL dL_law_656 dL_law_657 dL_law_659 dL_law_660 dL_law_661 ?_
  refine hoIF (qV (n := 2) (c_X9_setToll l D cA b S Z IM hdb (xs (i + 1)) (xs (i + 2)) ok.1.1 ok.2.1.2.1) C0 ml_L_106 im_X9_setToll se_X9_setToll in_X9 co_X9_setToll ⟨rfl, by decide⟩ ⟨Nat.le_of_ble_eq_true rfl, Nat.le_of_ble_eq_true rfl⟩ hC.hK hQ (hdb.1 20 (by decide)) rfl rfl rfl hl.1 (Nat.le_of_ble_eq_true rfl) rfl dL_law_662 ⟨show cells + 2 + 0 ≤ 601024 by omega, show slots + 12 + 0 ≤ 7293033 by omega⟩) hS (ap_ai hAP) (fun r6 S2 Z1 H2 locs hp2 hQ hkp hS => ?_)
  have hP := wp_keep hP hAP hkp
  have hO := og_keep hO hAP hkp
  obtain ⟨hz, hyes2, hno2⟩ := hp2
  refine lv_istore (lv' := [(6, .int r6), (5, .int r), (4, .int (nI i)), (3, .ref og), (2, .ref (b 20)), (1, .ref (a 89)), (0, .ref scr)]) C0.1 C0.2.1 dL_law_665 hl (by decide) rfl (fun ls hl => ?_)
  have hke : kd (oneB (xs (i + 1)) (nI P)) (inB (xs (i + 2)) 0 50) (true) 1 2 9 = kd (oneB (xs (i + 1)) (nI P)) (inB (xs (i + 2)) 0 50) (true) 1 2 3 := kd_t3
  have hkk : r = Z1 87 0 := hk5.trans (hke.trans hz.symm)
  by_cases h0 : kd (oneB (xs (i + 1)) (nI P)) (inB (xs (i + 2)) 0 50) (true) 1 2 9 = 0
  · obtain ⟨hv, e1, hrel⟩ := hyes h0
    obtain ⟨hr6, e2⟩ := hyes2 (hke.symm.trans h0)
    obtain ⟨q1, q2, q3⟩ := kd_inv (by decide) (by decide) (by decide) h0
    rw [e1] at hP
    rw [e2] at hQ
    rw [hrel] at hP
    refine ltail (i := i) (scr := scr) C0 hC.hAr hC.hK hdb hAP rfl hP hQ hO hS hkk (fun _ => hv.trans (congrArg Int32.toInt64 hr6.symm)) ⟨Nat.le_of_ble_eq_true rfl, Nat.le_of_ble_eq_true rfl⟩ ⟨show cells + 2 + 0 ≤ 601024 by omega, show slots + 12 + 0 ≤ 7293033 by omega⟩ hl dL_law_667 dL_law_668 dL_law_671 dL_law_673 dL_law_678 dL_law_680 dL_law_683 dL_law_684 dL_law_685 dL_law_686 dL_law_688 dL_law_689 dL_law_690 dL_law_695 (by decide) (fun H3 locs hP hQ hO hS => ?_)
    exact W.widen (by omega) (by omega) (kk b _ _ Z1 (P) (L) (T) (h) f1 H3 locs ls ⟨hdb, hAP, ok.setToll q2, hP, hQ, hO, hS⟩ (by omega) (lv_sub hl [2, 3, 4, 5, 6] rfl))
  · obtain ⟨e1, e3⟩ := hno h0
    have e2 := hno2 (fun q9 => h0 (hke.trans q9))
    rw [e1, e3] at hP
    rw [e2] at hQ
    refine ltail (i := i) (scr := scr) C0 hC.hAr hC.hK hdb hAP rfl hP hQ hO hS hkk (fun q9 => absurd (hk5.symm.trans q9) h0) ⟨Nat.le_of_ble_eq_true rfl, Nat.le_of_ble_eq_true rfl⟩ ⟨show cells + 2 + 0 ≤ 601024 by omega, show slots + 12 + 0 ≤ 7293033 by omega⟩ hl dL_law_667 dL_law_668 dL_law_671 dL_law_673 dL_law_678 dL_law_680 dL_law_683 dL_law_684 dL_law_685 dL_law_686 dL_law_688 dL_law_689 dL_law_690 dL_law_695 (by decide) (fun H3 locs hP hQ hO hS => ?_)
    exact W.widen (by omega) (by omega) (kk b _ _ Z1 (P) (L) (T) (h) f1 H3 locs ls ⟨hdb, hAP, ok, hP, hQ, hO, hS⟩ (by omega) (lv_sub hl [2, 3, 4, 5, 6] rfl))
set_option maxHeartbeats 4000000 in
set_option maxRecDepth 100000 in
theorem k_punt (hfl : l.stackTraces = false) (C0 : CallFix p m c cL_law 9 s args GW RL) (hC : LawC s D cA cL a og scr Ls xs) (hi : i + 7 ≤ Ls) (hh : h + 500 < 2 ^ 31) (hI : LawI s D cA cL a b og S X Z P L T h f H locs) (hl : lv_has ls 9 (lv5 scr i og a b)) (hf : cells + 20 ≤ 601024 ∧ slots + 400 ≤ 7293033) (kk : ∀ (b1 : Adr) (S1 X1 Z1 : Mem) (P1 L1 T1 h1 : Nat) (f1 : Nat → Int64) (H1 : Heap) (locs1 : List Loc) (ls1 : Array Slot), LawI s D cA cL a b1 og S1 X1 Z1 P1 L1 T1 h1 f1 H1 locs1 → h1 ≤ h + 100 → lv_has ls1 9 (lv5 scr i og a b1) → W p l e room_1 s m args below meth c H1 locs1 (cells + 20) (slots + 400) Q (F0 m 1477 ls1 [])) : W p l e room_1 s m args below meth c H locs cells slots Q (F0 m 698 ls []) := by
  obtain ⟨hdb, hAP, ok, hP, hQ, hO, hS⟩ := hI
  have hbA : ¬ (fun q : Nat => s.heap.size ≤ q) scr := Nat.not_le.mpr hC.hbl
  have hz0 : s.heap.size ≤ H.size := hS.1
  have hl : lv_has ls 9 [(4, .int (nI i)), (3, .ref og), (2, .ref (b 20)), (1, .ref (a 89)), (0, .ref scr)] := hl
  refine lv_aload_n C0.1 C0.2.1 dL_law_698 rfl (lv_at hl 3 rfl) ?_
  refine larg (k := 1) (p0 := 4) (p4 := 0) C0 hC.hXs hC.hbl hbA hS hl rfl rfl (by decide) (by omega) hC.hL dL_law_699 dL_law_700 dL_law_702 dL_law_703 dL_law_704 ?_
  refine larg (k := 2) (p0 := 4) (p4 := 0) C0 hC.hXs hC.hbl hbA hS hl rfl rfl (by decide) (by omega) hC.hL dL_law_705 dL_law_706 dL_law_708 dL_law_709 dL_law_710 ?_
  refine lv_aload_n C0.1 C0.2.1 dL_law_711 rfl (lv_at hl 1 rfl) ?_
  refine hoLw (n := 4) (w_punt l hfl D cA cL a S X H.size og f hC.hd hC.hne ok (by omega) (xs (i + 1)) (xs (i + 2))) C0 ml_L_107 sm_L_punt in_L co_L_punt ⟨by decide, by decide, by decide⟩ ⟨Nat.le_of_ble_eq_true rfl, Nat.le_of_ble_eq_true rfl⟩ hC.hK hC.hX hC.hN hC.hAr hP hO hS (hC.al hz0) rfl hl.1 rfl dL_law_712 ⟨show cells + 1 ≤ 601024 by omega, show slots + 6 ≤ 7293033 by omega⟩ (fun r S1 X1 f1 H1 locs hp hP hO hk hS => ?_)
  obtain ⟨hk5, hyes, hno⟩ := hp
  have hQ := wq_keep hQ hAP hk
  have hz1 : s.heap.size ≤ H1.size := hS.1
  refine lv_istore (lv' := [(5, .int r), (4, .int (nI i)), (3, .ref og), (2, .ref (b 20)), (1, .ref (a 89)), (0, .ref scr)]) C0.1 C0.2.1 dL_law_715 hl (by decide) rfl (fun ls hl => ?_)
  refine lv_aload_n C0.1 C0.2.1 dL_law_717 rfl (lv_at hl 3 rfl) ?_
  refine larg (k := 1) (p0 := 5) (p4 := 1) C0 hC.hXs hC.hbl hbA hS hl rfl rfl (by decide) (by omega) hC.hL dL_law_718 dL_law_719 dL_law_721 dL_law_722 dL_law_723 ?_
  refine larg (k := 2) (p0 := 5) (p4 := 1) C0 hC.hXs hC.hbl hbA hS hl rfl rfl (by decide) (by omega) hC.hL dL_law_724 dL_law_725 dL_law_727 dL_law_728 dL_law_729 ?_
  refine hoIF (qV (n := 2) (c_X9_punt l D cA b S Z IM hdb (xs (i + 1)) (xs (i + 2)) ok.1.1 ok.1.2.2.1 ok.1.2.2.2.1 ok.1.2.2.2.2 (by omega) ok.2.1) C0 ml_L_109 im_X9_punt se_X9_punt in_X9 co_X9_punt ⟨rfl, by decide⟩ ⟨Nat.le_of_ble_eq_true rfl, Nat.le_of_ble_eq_true rfl⟩ hC.hK hQ (hdb.1 20 (by decide)) rfl rfl rfl hl.1 (Nat.le_of_ble_eq_true rfl) rfl dL_law_730 ⟨show cells + 1 + 0 ≤ 601024 by omega, show slots + 6 + 0 ≤ 7293033 by omega⟩) hS (ap_ai hAP) (fun r6 S2 Z1 H2 locs hp2 hQ hkp hS => ?_)
  have hP := wp_keep hP hAP hkp
  have hO := og_keep hO hAP hkp
  obtain ⟨hz, hyes2, hno2⟩ := hp2
  refine lv_istore (lv' := [(6, .int r6), (5, .int r), (4, .int (nI i)), (3, .ref og), (2, .ref (b 20)), (1, .ref (a 89)), (0, .ref scr)]) C0.1 C0.2.1 dL_law_733 hl (by decide) rfl (fun ls hl => ?_)
  have hke : kd (oneB (xs (i + 1)) (nI P) && oneB (xs (i + 2)) 9) (true) (true) 1 9 9 = kd (oneB (xs (i + 1)) (nI P) && oneB (xs (i + 2)) 9) (true) (true) 1 2 3 := kd_t2
  have hkk : r = Z1 87 0 := hk5.trans (hke.trans hz.symm)
  by_cases h0 : kd (oneB (xs (i + 1)) (nI P) && oneB (xs (i + 2)) 9) (true) (true) 1 9 9 = 0
  · obtain ⟨hv, e1, hrel⟩ := hyes h0
    obtain ⟨hr6, e2⟩ := hyes2 (hke.symm.trans h0)
    obtain ⟨q1, q2, q3⟩ := kd_inv (by decide) (by decide) (by decide) h0
    rw [e1] at hP
    rw [e2] at hQ
    refine ltail (i := i) (scr := scr) C0 hC.hAr hC.hK hdb hAP rfl hP hQ hO hS hkk (fun _ => hv.trans (congrArg Int32.toInt64 hr6.symm)) ⟨Nat.le_of_ble_eq_true rfl, Nat.le_of_ble_eq_true rfl⟩ ⟨show cells + 1 + 0 ≤ 601024 by omega, show slots + 6 + 0 ≤ 7293033 by omega⟩ hl dL_law_735 dL_law_736 dL_law_739 dL_law_741 dL_law_746 dL_law_748 dL_law_751 dL_law_752 dL_law_753 dL_law_754 dL_law_756 dL_law_757 dL_law_758 dL_law_763 (by decide) (fun H3 locs hP hQ hO hS => ?_)
    exact W.widen (by omega) (by omega) (kk b _ _ Z1 (P) (L) (T) (h) f1 H3 locs ls ⟨hdb, hAP, ok.look hrel.1 (hrel.2 10 (by omega) (by omega) (by omega)) (hrel.2 11 (by omega) (by omega) (by omega)), hP, hQ, hO, hS⟩ (by omega) (lv_sub hl [2, 3, 4, 5, 6] rfl))
  · obtain ⟨e1, e3⟩ := hno h0
    have e2 := hno2 (fun q9 => h0 (hke.trans q9))
    rw [e1, e3] at hP
    rw [e2] at hQ
    refine ltail (i := i) (scr := scr) C0 hC.hAr hC.hK hdb hAP rfl hP hQ hO hS hkk (fun q9 => absurd (hk5.symm.trans q9) h0) ⟨Nat.le_of_ble_eq_true rfl, Nat.le_of_ble_eq_true rfl⟩ ⟨show cells + 1 + 0 ≤ 601024 by omega, show slots + 6 + 0 ≤ 7293033 by omega⟩ hl dL_law_735 dL_law_736 dL_law_739 dL_law_741 dL_law_746 dL_law_748 dL_law_751 dL_law_752 dL_law_753 dL_law_754 dL_law_756 dL_law_757 dL_law_758 dL_law_763 (by decide) (fun H3 locs hP hQ hO hS => ?_)
    exact W.widen (by omega) (by omega) (kk b _ _ Z1 (P) (L) (T) (h) f1 H3 locs ls ⟨hdb, hAP, ok, hP, hQ, hO, hS⟩ (by omega) (lv_sub hl [2, 3, 4, 5, 6] rfl))
set_option maxHeartbeats 4000000 in
set_option maxRecDepth 100000 in
theorem k_addTraveller (hfl : l.stackTraces = false) (C0 : CallFix p m c cL_law 9 s args GW RL) (hC : LawC s D cA cL a og scr Ls xs) (hi : i + 7 ≤ Ls) (hh : h + 500 < 2 ^ 31) (hI : LawI s D cA cL a b og S X Z P L T h f H locs) (hl : lv_has ls 9 (lv5 scr i og a b)) (hf : cells + 20 ≤ 601024 ∧ slots + 400 ≤ 7293033) (kk : ∀ (b1 : Adr) (S1 X1 Z1 : Mem) (P1 L1 T1 h1 : Nat) (f1 : Nat → Int64) (H1 : Heap) (locs1 : List Loc) (ls1 : Array Slot), LawI s D cA cL a b1 og S1 X1 Z1 P1 L1 T1 h1 f1 H1 locs1 → h1 ≤ h + 100 → lv_has ls1 9 (lv5 scr i og a b1) → W p l e room_1 s m args below meth c H1 locs1 (cells + 20) (slots + 400) Q (F0 m 1477 ls1 [])) : W p l e room_1 s m args below meth c H locs cells slots Q (F0 m 766 ls []) := by
  obtain ⟨hdb, hAP, ok, hP, hQ, hO, hS⟩ := hI
  have hbA : ¬ (fun q : Nat => s.heap.size ≤ q) scr := Nat.not_le.mpr hC.hbl
  have hz0 : s.heap.size ≤ H.size := hS.1
  have hl : lv_has ls 9 [(4, .int (nI i)), (3, .ref og), (2, .ref (b 20)), (1, .ref (a 89)), (0, .ref scr)] := hl
  refine lv_aload_n C0.1 C0.2.1 dL_law_766 rfl (lv_at hl 3 rfl) ?_
  refine larg (k := 1) (p0 := 4) (p4 := 0) C0 hC.hXs hC.hbl hbA hS hl rfl rfl (by decide) (by omega) hC.hL dL_law_767 dL_law_768 dL_law_770 dL_law_771 dL_law_772 ?_
  refine larg (k := 2) (p0 := 4) (p4 := 0) C0 hC.hXs hC.hbl hbA hS hl rfl rfl (by decide) (by omega) hC.hL dL_law_773 dL_law_774 dL_law_776 dL_law_777 dL_law_778 ?_
  refine larg (k := 3) (p0 := 4) (p4 := 0) C0 hC.hXs hC.hbl hbA hS hl rfl rfl (by decide) (by omega) hC.hL dL_law_779 dL_law_780 dL_law_782 dL_law_783 dL_law_784 ?_
  refine lv_aload_n C0.1 C0.2.1 dL_law_785 rfl (lv_at hl 1 rfl) ?_
  refine hoLw (n := 5) (w_addTraveller l hfl D cA cL a S X H.size og f hC.hd hC.hne ok (by omega) (xs (i + 1)) (xs (i + 2)) (xs (i + 3))) C0 ml_L_110 sm_L_addTraveller in_L co_L_addTraveller ⟨by decide, by decide, by decide⟩ ⟨Nat.le_of_ble_eq_true rfl, Nat.le_of_ble_eq_true rfl⟩ hC.hK hC.hX hC.hN hC.hAr hP hO hS (hC.al hz0) rfl hl.1 rfl dL_law_786 ⟨show cells + 4 ≤ 601024 by omega, show slots + 24 ≤ 7293033 by omega⟩ (fun r S1 X1 f1 H1 locs hp hP hO hk hS => ?_)
  obtain ⟨hk5, hyes, hno⟩ := hp
  have hQ := wq_keep hQ hAP hk
  have hz1 : s.heap.size ≤ H1.size := hS.1
  refine lv_istore (lv' := [(5, .int r), (4, .int (nI i)), (3, .ref og), (2, .ref (b 20)), (1, .ref (a 89)), (0, .ref scr)]) C0.1 C0.2.1 dL_law_789 hl (by decide) rfl (fun ls hl => ?_)
  refine lv_aload_n C0.1 C0.2.1 dL_law_791 rfl (lv_at hl 3 rfl) ?_
  refine larg (k := 1) (p0 := 5) (p4 := 1) C0 hC.hXs hC.hbl hbA hS hl rfl rfl (by decide) (by omega) hC.hL dL_law_792 dL_law_793 dL_law_795 dL_law_796 dL_law_797 ?_
  refine larg (k := 2) (p0 := 5) (p4 := 1) C0 hC.hXs hC.hbl hbA hS hl rfl rfl (by decide) (by omega) hC.hL dL_law_798 dL_law_799 dL_law_801 dL_law_802 dL_law_803 ?_
  refine larg (k := 3) (p0 := 5) (p4 := 1) C0 hC.hXs hC.hbl hbA hS hl rfl rfl (by decide) (by omega) hC.hL dL_law_804 dL_law_805 dL_law_807 dL_law_808 dL_law_809 ?_
  refine hoY (qVY (n := 3) (c_X9_addTraveller l D cA b S Z H1.size hdb (xs (i + 1)) (xs (i + 2)) (xs (i + 3)) ok.1.2.1 ok.1.2.2.1 ok.2.1.2.2.1 ok.1.2.2.2.1) C0 ml_L_112 im_X9_addTraveller se_X9_addTraveller in_X9 co_X9_addTraveller ⟨rfl, by decide⟩ rfl ⟨Nat.le_of_ble_eq_true rfl, Nat.le_of_ble_eq_true rfl⟩ hC.hK hC.hY hQ rfl hl.1 (Nat.le_of_ble_eq_true rfl) rfl dL_law_810 ⟨show cells + 4 + 1 ≤ 601024 by omega, show slots + 24 + 5 ≤ 7293033 by omega⟩) hS (ap_af hAP hz1) (fun r6 S2 Z1 H2 locs hp2 hQ hkp hS => ?_)
  have hkp := afb (P := fun _ => True) hkp
  have hP := wp_keep hP hAP hkp
  have hO := og_keep hO hAP hkp
  obtain ⟨hz, hyes2, hno2⟩ := hp2
  refine lv_istore (lv' := [(6, .int r6), (5, .int r), (4, .int (nI i)), (3, .ref og), (2, .ref (b 20)), (1, .ref (a 89)), (0, .ref scr)]) C0.1 C0.2.1 dL_law_813 hl (by decide) rfl (fun ls hl => ?_)
  have hke : kd (oneB (xs (i + 1)) (nI L) && oneB (xs (i + 2)) (nI L)) (!decide ((xs (i + 1)) = (xs (i + 2))) && inB (xs (i + 3)) 0 1000) (!decide (30 ≤ nI T)) 1 2 3 = kd (oneB (xs (i + 1)) (nI L) && oneB (xs (i + 2)) (nI L)) (!decide ((xs (i + 1)) = (xs (i + 2))) && inB (xs (i + 3)) 0 1000) (!decide (30 ≤ nI T)) 1 2 3 := Eq.refl _
  have hkk : r = Z1 87 0 := hk5.trans (hke.trans hz.symm)
  by_cases h0 : kd (oneB (xs (i + 1)) (nI L) && oneB (xs (i + 2)) (nI L)) (!decide ((xs (i + 1)) = (xs (i + 2))) && inB (xs (i + 3)) 0 1000) (!decide (30 ≤ nI T)) 1 2 3 = 0
  · obtain ⟨hv, e1, hrel⟩ := hyes h0
    obtain ⟨hr6, e2⟩ := hyes2 (hke.symm.trans h0)
    obtain ⟨q1, q2, q3⟩ := kd_inv (by decide) (by decide) (by decide) h0
    rw [e1] at hP
    rw [e2] at hQ
    rw [hrel] at hP
    refine ltail (i := i) (scr := scr) C0 hC.hAr hC.hK hdb hAP rfl hP hQ hO hS hkk (fun _ => hv.trans (congrArg Int32.toInt64 hr6.symm)) ⟨Nat.le_of_ble_eq_true rfl, Nat.le_of_ble_eq_true rfl⟩ ⟨show cells + 4 + 1 ≤ 601024 by omega, show slots + 24 + 5 ≤ 7293033 by omega⟩ hl dL_law_815 dL_law_816 dL_law_819 dL_law_821 dL_law_826 dL_law_828 dL_law_831 dL_law_832 dL_law_833 dL_law_834 dL_law_836 dL_law_837 dL_law_838 dL_law_843 (by decide) (fun H3 locs hP hQ hO hS => ?_)
    exact W.widen (by omega) (by omega) (kk b _ _ Z1 (P) (L) (T + 1) (h) f1 H3 locs ls ⟨hdb, hAP, (by obtain ⟨y1, y2⟩ := Bool.and_eq_true_iff.mp q1; exact ok.addTraveller y1 y2 (not_le_T ok.1.2.2.2.1 q3)), hP, hQ, hO, hS⟩ (by omega) (lv_sub hl [2, 3, 4, 5, 6] rfl))
  · obtain ⟨e1, e3⟩ := hno h0
    have e2 := hno2 (fun q9 => h0 (hke.trans q9))
    rw [e1, e3] at hP
    rw [e2] at hQ
    refine ltail (i := i) (scr := scr) C0 hC.hAr hC.hK hdb hAP rfl hP hQ hO hS hkk (fun q9 => absurd (hk5.symm.trans q9) h0) ⟨Nat.le_of_ble_eq_true rfl, Nat.le_of_ble_eq_true rfl⟩ ⟨show cells + 4 + 1 ≤ 601024 by omega, show slots + 24 + 5 ≤ 7293033 by omega⟩ hl dL_law_815 dL_law_816 dL_law_819 dL_law_821 dL_law_826 dL_law_828 dL_law_831 dL_law_832 dL_law_833 dL_law_834 dL_law_836 dL_law_837 dL_law_838 dL_law_843 (by decide) (fun H3 locs hP hQ hO hS => ?_)
    exact W.widen (by omega) (by omega) (kk b _ _ Z1 (P) (L) (T) (h) f1 H3 locs ls ⟨hdb, hAP, ok, hP, hQ, hO, hS⟩ (by omega) (lv_sub hl [2, 3, 4, 5, 6] rfl))
set_option maxHeartbeats 4000000 in
set_option maxRecDepth 100000 in
theorem k_traveller (hfl : l.stackTraces = false) (C0 : CallFix p m c cL_law 9 s args GW RL) (hC : LawC s D cA cL a og scr Ls xs) (hi : i + 7 ≤ Ls) (hh : h + 500 < 2 ^ 31) (hI : LawI s D cA cL a b og S X Z P L T h f H locs) (hl : lv_has ls 9 (lv5 scr i og a b)) (hf : cells + 20 ≤ 601024 ∧ slots + 400 ≤ 7293033) (kk : ∀ (b1 : Adr) (S1 X1 Z1 : Mem) (P1 L1 T1 h1 : Nat) (f1 : Nat → Int64) (H1 : Heap) (locs1 : List Loc) (ls1 : Array Slot), LawI s D cA cL a b1 og S1 X1 Z1 P1 L1 T1 h1 f1 H1 locs1 → h1 ≤ h + 100 → lv_has ls1 9 (lv5 scr i og a b1) → W p l e room_1 s m args below meth c H1 locs1 (cells + 20) (slots + 400) Q (F0 m 1477 ls1 [])) : W p l e room_1 s m args below meth c H locs cells slots Q (F0 m 846 ls []) := by
  obtain ⟨hdb, hAP, ok, hP, hQ, hO, hS⟩ := hI
  have hbA : ¬ (fun q : Nat => s.heap.size ≤ q) scr := Nat.not_le.mpr hC.hbl
  have hz0 : s.heap.size ≤ H.size := hS.1
  have hl : lv_has ls 9 [(4, .int (nI i)), (3, .ref og), (2, .ref (b 20)), (1, .ref (a 89)), (0, .ref scr)] := hl
  refine lv_aload_n C0.1 C0.2.1 dL_law_846 rfl (lv_at hl 3 rfl) ?_
  refine larg (k := 1) (p0 := 4) (p4 := 0) C0 hC.hXs hC.hbl hbA hS hl rfl rfl (by decide) (by omega) hC.hL dL_law_847 dL_law_848 dL_law_850 dL_law_851 dL_law_852 ?_
  refine larg (k := 2) (p0 := 4) (p4 := 0) C0 hC.hXs hC.hbl hbA hS hl rfl rfl (by decide) (by omega) hC.hL dL_law_853 dL_law_854 dL_law_856 dL_law_857 dL_law_858 ?_
  refine lv_aload_n C0.1 C0.2.1 dL_law_859 rfl (lv_at hl 1 rfl) ?_
  refine hoLw (n := 4) (w_traveller l hfl D cA cL a S X H.size og f hC.hd hC.hne ok (by omega) (xs (i + 1)) (xs (i + 2))) C0 ml_L_113 sm_L_traveller in_L co_L_traveller ⟨by decide, by decide, by decide⟩ ⟨Nat.le_of_ble_eq_true rfl, Nat.le_of_ble_eq_true rfl⟩ hC.hK hC.hX hC.hN hC.hAr hP hO hS (hC.al hz0) rfl hl.1 rfl dL_law_860 ⟨show cells + 1 ≤ 601024 by omega, show slots + 6 ≤ 7293033 by omega⟩ (fun r S1 X1 f1 H1 locs hp hP hO hk hS => ?_)
  obtain ⟨hk5, hyes, hno⟩ := hp
  have hQ := wq_keep hQ hAP hk
  have hz1 : s.heap.size ≤ H1.size := hS.1
  refine lv_istore (lv' := [(5, .int r), (4, .int (nI i)), (3, .ref og), (2, .ref (b 20)), (1, .ref (a 89)), (0, .ref scr)]) C0.1 C0.2.1 dL_law_863 hl (by decide) rfl (fun ls hl => ?_)
  refine lv_aload_n C0.1 C0.2.1 dL_law_865 rfl (lv_at hl 3 rfl) ?_
  refine larg (k := 1) (p0 := 5) (p4 := 1) C0 hC.hXs hC.hbl hbA hS hl rfl rfl (by decide) (by omega) hC.hL dL_law_866 dL_law_867 dL_law_869 dL_law_870 dL_law_871 ?_
  refine larg (k := 2) (p0 := 5) (p4 := 1) C0 hC.hXs hC.hbl hbA hS hl rfl rfl (by decide) (by omega) hC.hL dL_law_872 dL_law_873 dL_law_875 dL_law_876 dL_law_877 ?_
  refine hoIF (qV (n := 2) (c_X9_traveller l D cA b S Z IM hdb (xs (i + 1)) (xs (i + 2)) ok.1.1 ok.1.2.1 ok.1.2.2.1 ok.1.2.2.2.1 ok.2.1 ok.2.2.2.1 ok.2.2.1) C0 ml_L_115 im_X9_traveller se_X9_traveller in_X9 co_X9_traveller ⟨rfl, by decide⟩ ⟨Nat.le_of_ble_eq_true rfl, Nat.le_of_ble_eq_true rfl⟩ hC.hK hQ (hdb.1 20 (by decide)) rfl rfl rfl hl.1 (Nat.le_of_ble_eq_true rfl) rfl dL_law_878 ⟨show cells + 1 + 0 ≤ 601024 by omega, show slots + 6 + 0 ≤ 7293033 by omega⟩) hS (ap_ai hAP) (fun r6 S2 Z1 H2 locs hp2 hQ hkp hS => ?_)
  have hP := wp_keep hP hAP hkp
  have hO := og_keep hO hAP hkp
  obtain ⟨hz, hyes2, hno2⟩ := hp2
  refine lv_istore (lv' := [(6, .int r6), (5, .int r), (4, .int (nI i)), (3, .ref og), (2, .ref (b 20)), (1, .ref (a 89)), (0, .ref scr)]) C0.1 C0.2.1 dL_law_881 hl (by decide) rfl (fun ls hl => ?_)
  have hke : kd (oneB (xs (i + 1)) (nI T) && oneB (xs (i + 2)) 7) (true) (true) 1 9 9 = kd (oneB (xs (i + 1)) (nI T) && oneB (xs (i + 2)) 7) (true) (true) 1 2 3 := kd_t2
  have hkk : r = Z1 87 0 := hk5.trans (hke.trans hz.symm)
  by_cases h0 : kd (oneB (xs (i + 1)) (nI T) && oneB (xs (i + 2)) 7) (true) (true) 1 9 9 = 0
  · obtain ⟨hv, e1, hrel⟩ := hyes h0
    obtain ⟨hr6, e2⟩ := hyes2 (hke.symm.trans h0)
    obtain ⟨q1, q2, q3⟩ := kd_inv (by decide) (by decide) (by decide) h0
    rw [e1] at hP
    rw [e2] at hQ
    rw [hrel] at hP
    refine ltail (i := i) (scr := scr) C0 hC.hAr hC.hK hdb hAP rfl hP hQ hO hS hkk (fun _ => hv.trans (congrArg Int32.toInt64 hr6.symm)) ⟨Nat.le_of_ble_eq_true rfl, Nat.le_of_ble_eq_true rfl⟩ ⟨show cells + 1 + 0 ≤ 601024 by omega, show slots + 6 + 0 ≤ 7293033 by omega⟩ hl dL_law_883 dL_law_884 dL_law_887 dL_law_889 dL_law_894 dL_law_896 dL_law_899 dL_law_900 dL_law_901 dL_law_902 dL_law_904 dL_law_905 dL_law_906 dL_law_911 (by decide) (fun H3 locs hP hQ hO hS => ?_)
    exact W.widen (by omega) (by omega) (kk b _ _ Z1 (P) (L) (T) (h) f1 H3 locs ls ⟨hdb, hAP, ok, hP, hQ, hO, hS⟩ (by omega) (lv_sub hl [2, 3, 4, 5, 6] rfl))
  · obtain ⟨e1, e3⟩ := hno h0
    have e2 := hno2 (fun q9 => h0 (hke.trans q9))
    rw [e1, e3] at hP
    rw [e2] at hQ
    refine ltail (i := i) (scr := scr) C0 hC.hAr hC.hK hdb hAP rfl hP hQ hO hS hkk (fun q9 => absurd (hk5.symm.trans q9) h0) ⟨Nat.le_of_ble_eq_true rfl, Nat.le_of_ble_eq_true rfl⟩ ⟨show cells + 1 + 0 ≤ 601024 by omega, show slots + 6 + 0 ≤ 7293033 by omega⟩ hl dL_law_883 dL_law_884 dL_law_887 dL_law_889 dL_law_894 dL_law_896 dL_law_899 dL_law_900 dL_law_901 dL_law_902 dL_law_904 dL_law_905 dL_law_906 dL_law_911 (by decide) (fun H3 locs hP hQ hO hS => ?_)
    exact W.widen (by omega) (by omega) (kk b _ _ Z1 (P) (L) (T) (h) f1 H3 locs ls ⟨hdb, hAP, ok, hP, hQ, hO, hS⟩ (by omega) (lv_sub hl [2, 3, 4, 5, 6] rfl))
set_option maxHeartbeats 4000000 in
set_option maxRecDepth 100000 in
theorem k_landing (hfl : l.stackTraces = false) (C0 : CallFix p m c cL_law 9 s args GW RL) (hC : LawC s D cA cL a og scr Ls xs) (hi : i + 7 ≤ Ls) (hh : h + 500 < 2 ^ 31) (hI : LawI s D cA cL a b og S X Z P L T h f H locs) (hl : lv_has ls 9 (lv5 scr i og a b)) (hf : cells + 20 ≤ 601024 ∧ slots + 400 ≤ 7293033) (kk : ∀ (b1 : Adr) (S1 X1 Z1 : Mem) (P1 L1 T1 h1 : Nat) (f1 : Nat → Int64) (H1 : Heap) (locs1 : List Loc) (ls1 : Array Slot), LawI s D cA cL a b1 og S1 X1 Z1 P1 L1 T1 h1 f1 H1 locs1 → h1 ≤ h + 100 → lv_has ls1 9 (lv5 scr i og a b1) → W p l e room_1 s m args below meth c H1 locs1 (cells + 20) (slots + 400) Q (F0 m 1477 ls1 [])) : W p l e room_1 s m args below meth c H locs cells slots Q (F0 m 914 ls []) := by
  obtain ⟨hdb, hAP, ok, hP, hQ, hO, hS⟩ := hI
  have hbA : ¬ (fun q : Nat => s.heap.size ≤ q) scr := Nat.not_le.mpr hC.hbl
  have hz0 : s.heap.size ≤ H.size := hS.1
  have hl : lv_has ls 9 [(4, .int (nI i)), (3, .ref og), (2, .ref (b 20)), (1, .ref (a 89)), (0, .ref scr)] := hl
  refine lv_aload_n C0.1 C0.2.1 dL_law_914 rfl (lv_at hl 3 rfl) ?_
  refine larg (k := 1) (p0 := 4) (p4 := 0) C0 hC.hXs hC.hbl hbA hS hl rfl rfl (by decide) (by omega) hC.hL dL_law_915 dL_law_916 dL_law_918 dL_law_919 dL_law_920 ?_
  refine larg (k := 2) (p0 := 4) (p4 := 0) C0 hC.hXs hC.hbl hbA hS hl rfl rfl (by decide) (by omega) hC.hL dL_law_921 dL_law_922 dL_law_924 dL_law_925 dL_law_926 ?_
  refine lv_aload_n C0.1 C0.2.1 dL_law_927 rfl (lv_at hl 1 rfl) ?_
  refine hoLw (n := 4) (w_landing l hfl D cA cL a S X H.size og f hC.hd hC.hne ok (by omega) (xs (i + 1)) (xs (i + 2))) C0 ml_L_116 sm_L_landing in_L co_L_landing ⟨by decide, by decide, by decide⟩ ⟨Nat.le_of_ble_eq_true rfl, Nat.le_of_ble_eq_true rfl⟩ hC.hK hC.hX hC.hN hC.hAr hP hO hS (hC.al hz0) rfl hl.1 rfl dL_law_928 ⟨show cells + 1 ≤ 601024 by omega, show slots + 6 ≤ 7293033 by omega⟩ (fun r S1 X1 f1 H1 locs hp hP hO hk hS => ?_)
  obtain ⟨hk5, hyes, hno⟩ := hp
  have hQ := wq_keep hQ hAP hk
  have hz1 : s.heap.size ≤ H1.size := hS.1
  refine lv_istore (lv' := [(5, .int r), (4, .int (nI i)), (3, .ref og), (2, .ref (b 20)), (1, .ref (a 89)), (0, .ref scr)]) C0.1 C0.2.1 dL_law_931 hl (by decide) rfl (fun ls hl => ?_)
  refine lv_aload_n C0.1 C0.2.1 dL_law_933 rfl (lv_at hl 3 rfl) ?_
  refine larg (k := 1) (p0 := 5) (p4 := 1) C0 hC.hXs hC.hbl hbA hS hl rfl rfl (by decide) (by omega) hC.hL dL_law_934 dL_law_935 dL_law_937 dL_law_938 dL_law_939 ?_
  refine larg (k := 2) (p0 := 5) (p4 := 1) C0 hC.hXs hC.hbl hbA hS hl rfl rfl (by decide) (by omega) hC.hL dL_law_940 dL_law_941 dL_law_943 dL_law_944 dL_law_945 ?_
  refine hoIF (qV (n := 2) (c_X9_landing l D cA b S Z IM hdb (xs (i + 1)) (xs (i + 2)) ok.1.1 ok.1.2.1 ok.1.2.2.1 ok.1.2.2.2.1 ok.2.1) C0 ml_L_118 im_X9_landing se_X9_landing in_X9 co_X9_landing ⟨rfl, by decide⟩ ⟨Nat.le_of_ble_eq_true rfl, Nat.le_of_ble_eq_true rfl⟩ hC.hK hQ (hdb.1 20 (by decide)) rfl rfl rfl hl.1 (Nat.le_of_ble_eq_true rfl) rfl dL_law_946 ⟨show cells + 1 + 0 ≤ 601024 by omega, show slots + 6 + 0 ≤ 7293033 by omega⟩) hS (ap_ai hAP) (fun r6 S2 Z1 H2 locs hp2 hQ hkp hS => ?_)
  have hP := wp_keep hP hAP hkp
  have hO := og_keep hO hAP hkp
  obtain ⟨hz, hyes2, hno2⟩ := hp2
  refine lv_istore (lv' := [(6, .int r6), (5, .int r), (4, .int (nI i)), (3, .ref og), (2, .ref (b 20)), (1, .ref (a 89)), (0, .ref scr)]) C0.1 C0.2.1 dL_law_949 hl (by decide) rfl (fun ls hl => ?_)
  have hke : kd (oneB (xs (i + 1)) (nI L) && oneB (xs (i + 2)) 5) (true) (true) 1 9 9 = kd (oneB (xs (i + 1)) (nI L) && oneB (xs (i + 2)) 5) (true) (true) 1 2 3 := kd_t2
  have hkk : r = Z1 87 0 := hk5.trans (hke.trans hz.symm)
  by_cases h0 : kd (oneB (xs (i + 1)) (nI L) && oneB (xs (i + 2)) 5) (true) (true) 1 9 9 = 0
  · obtain ⟨hv, e1, hrel⟩ := hyes h0
    obtain ⟨hr6, e2⟩ := hyes2 (hke.symm.trans h0)
    obtain ⟨q1, q2, q3⟩ := kd_inv (by decide) (by decide) (by decide) h0
    rw [e1] at hP
    rw [e2] at hQ
    rw [hrel] at hP
    refine ltail (i := i) (scr := scr) C0 hC.hAr hC.hK hdb hAP rfl hP hQ hO hS hkk (fun _ => hv.trans (congrArg Int32.toInt64 hr6.symm)) ⟨Nat.le_of_ble_eq_true rfl, Nat.le_of_ble_eq_true rfl⟩ ⟨show cells + 1 + 0 ≤ 601024 by omega, show slots + 6 + 0 ≤ 7293033 by omega⟩ hl dL_law_951 dL_law_952 dL_law_955 dL_law_957 dL_law_962 dL_law_964 dL_law_967 dL_law_968 dL_law_969 dL_law_970 dL_law_972 dL_law_973 dL_law_974 dL_law_979 (by decide) (fun H3 locs hP hQ hO hS => ?_)
    exact W.widen (by omega) (by omega) (kk b _ _ Z1 (P) (L) (T) (h) f1 H3 locs ls ⟨hdb, hAP, ok, hP, hQ, hO, hS⟩ (by omega) (lv_sub hl [2, 3, 4, 5, 6] rfl))
  · obtain ⟨e1, e3⟩ := hno h0
    have e2 := hno2 (fun q9 => h0 (hke.trans q9))
    rw [e1, e3] at hP
    rw [e2] at hQ
    refine ltail (i := i) (scr := scr) C0 hC.hAr hC.hK hdb hAP rfl hP hQ hO hS hkk (fun q9 => absurd (hk5.symm.trans q9) h0) ⟨Nat.le_of_ble_eq_true rfl, Nat.le_of_ble_eq_true rfl⟩ ⟨show cells + 1 + 0 ≤ 601024 by omega, show slots + 6 + 0 ≤ 7293033 by omega⟩ hl dL_law_951 dL_law_952 dL_law_955 dL_law_957 dL_law_962 dL_law_964 dL_law_967 dL_law_968 dL_law_969 dL_law_970 dL_law_972 dL_law_973 dL_law_974 dL_law_979 (by decide) (fun H3 locs hP hQ hO hS => ?_)
    exact W.widen (by omega) (by omega) (kk b _ _ Z1 (P) (L) (T) (h) f1 H3 locs ls ⟨hdb, hAP, ok, hP, hQ, hO, hS⟩ (by omega) (lv_sub hl [2, 3, 4, 5, 6] rfl))
set_option maxHeartbeats 4000000 in
set_option maxRecDepth 100000 in
theorem k_pass (hfl : l.stackTraces = false) (C0 : CallFix p m c cL_law 9 s args GW RL) (hC : LawC s D cA cL a og scr Ls xs) (hi : i + 7 ≤ Ls) (hh : h + 500 < 2 ^ 31) (hI : LawI s D cA cL a b og S X Z P L T h f H locs) (hl : lv_has ls 9 (lv5 scr i og a b)) (hf : cells + 20 ≤ 601024 ∧ slots + 400 ≤ 7293033) (kk : ∀ (b1 : Adr) (S1 X1 Z1 : Mem) (P1 L1 T1 h1 : Nat) (f1 : Nat → Int64) (H1 : Heap) (locs1 : List Loc) (ls1 : Array Slot), LawI s D cA cL a b1 og S1 X1 Z1 P1 L1 T1 h1 f1 H1 locs1 → h1 ≤ h + 100 → lv_has ls1 9 (lv5 scr i og a b1) → W p l e room_1 s m args below meth c H1 locs1 (cells + 20) (slots + 400) Q (F0 m 1477 ls1 [])) : W p l e room_1 s m args below meth c H locs cells slots Q (F0 m 982 ls []) := by
  obtain ⟨hdb, hAP, ok, hP, hQ, hO, hS⟩ := hI
  have hbA : ¬ (fun q : Nat => s.heap.size ≤ q) scr := Nat.not_le.mpr hC.hbl
  have hz0 : s.heap.size ≤ H.size := hS.1
  have hl : lv_has ls 9 [(4, .int (nI i)), (3, .ref og), (2, .ref (b 20)), (1, .ref (a 89)), (0, .ref scr)] := hl
  refine lv_aload_n C0.1 C0.2.1 dL_law_982 rfl (lv_at hl 3 rfl) ?_
  refine larg (k := 1) (p0 := 4) (p4 := 0) C0 hC.hXs hC.hbl hbA hS hl rfl rfl (by decide) (by omega) hC.hL dL_law_983 dL_law_984 dL_law_986 dL_law_987 dL_law_988 ?_
  refine lv_aload_n C0.1 C0.2.1 dL_law_989 rfl (lv_at hl 1 rfl) ?_
  refine hoLw (n := 3) (w_pass l hfl D cA cL a S X H.size og f hC.hd hC.hne ok (by omega) (xs (i + 1))) C0 ml_L_119 sm_L_pass in_L co_L_pass ⟨by decide, by decide, by decide⟩ ⟨Nat.le_of_ble_eq_true rfl, Nat.le_of_ble_eq_true rfl⟩ hC.hK hC.hX hC.hN hC.hAr hP hO hS (hC.al hz0) rfl hl.1 rfl dL_law_990 ⟨show cells + 1 ≤ 601024 by omega, show slots + 6 ≤ 7293033 by omega⟩ (fun r S1 X1 f1 H1 locs hp hP hO hk hS => ?_)
  obtain ⟨hk5, hyes, hno⟩ := hp
  have hQ := wq_keep hQ hAP hk
  have hz1 : s.heap.size ≤ H1.size := hS.1
  refine lv_istore (lv' := [(5, .int r), (4, .int (nI i)), (3, .ref og), (2, .ref (b 20)), (1, .ref (a 89)), (0, .ref scr)]) C0.1 C0.2.1 dL_law_993 hl (by decide) rfl (fun ls hl => ?_)
  refine lv_aload_n C0.1 C0.2.1 dL_law_995 rfl (lv_at hl 3 rfl) ?_
  refine larg (k := 1) (p0 := 5) (p4 := 1) C0 hC.hXs hC.hbl hbA hS hl rfl rfl (by decide) (by omega) hC.hL dL_law_996 dL_law_997 dL_law_999 dL_law_1000 dL_law_1001 ?_
  refine hoIF (qV (n := 1) (c_X9_pass l D cA b S Z IM hdb (xs (i + 1)) ok.1.1 ok.1.2.1 ok.1.2.2.1 ok.1.2.2.2.1 ok.1.2.2.2.2 (by omega) ok.2.1 ok.2.2.2.1 (FX_FW ok.2.2.2.2.2.2 ok.2.1.2.2.1) ok.2.2.1.wi) C0 ml_L_122 im_X9_pass se_X9_pass in_X9 co_X9_pass ⟨rfl, by decide⟩ ⟨Nat.le_of_ble_eq_true rfl, Nat.le_of_ble_eq_true rfl⟩ hC.hK hQ (hdb.1 20 (by decide)) rfl rfl rfl hl.1 (Nat.le_of_ble_eq_true rfl) rfl dL_law_1002 ⟨show cells + 1 + 0 ≤ 601024 by omega, show slots + 6 + 0 ≤ 7293033 by omega⟩) hS (ap_ai hAP) (fun r6 S2 Z1 H2 locs hp2 hQ hkp hS => ?_)
  have hP := wp_keep hP hAP hkp
  have hO := og_keep hO hAP hkp
  obtain ⟨hz, hyes2, hno2⟩ := hp2
  refine lv_istore (lv' := [(6, .int r6), (5, .int r), (4, .int (nI i)), (3, .ref og), (2, .ref (b 20)), (1, .ref (a 89)), (0, .ref scr)]) C0.1 C0.2.1 dL_law_1005 hl (by decide) rfl (fun ls hl => ?_)
  have hke : kd (true) (inB (xs (i + 1)) 1 100) (true) 9 1 9 = kd (true) (inB (xs (i + 1)) 1 100) (true) 9 1 3 := by unfold kd; simp
  have hkk : r = Z1 87 0 := hk5.trans (hke.trans hz.symm)
  by_cases h0 : kd (true) (inB (xs (i + 1)) 1 100) (true) 9 1 9 = 0
  · obtain ⟨hv, e1, hrel⟩ := hyes h0
    obtain ⟨hr6, e2⟩ := hyes2 (hke.symm.trans h0)
    obtain ⟨q1, q2, q3⟩ := kd_inv (by decide) (by decide) (by decide) h0
    have hnv := nv_100 q2
    rw [e1] at hP
    rw [e2] at hQ
    refine ltail (i := i) (scr := scr) C0 hC.hAr hC.hK hdb hAP rfl hP hQ hO hS hkk (fun _ => hv.trans (congrArg Int32.toInt64 hr6.symm)) ⟨Nat.le_of_ble_eq_true rfl, Nat.le_of_ble_eq_true rfl⟩ ⟨show cells + 1 + 0 ≤ 601024 by omega, show slots + 6 + 0 ≤ 7293033 by omega⟩ hl dL_law_1007 dL_law_1008 dL_law_1011 dL_law_1013 dL_law_1018 dL_law_1020 dL_law_1023 dL_law_1024 dL_law_1025 dL_law_1026 dL_law_1028 dL_law_1029 dL_law_1030 dL_law_1035 (by decide) (fun H3 locs hP hQ hO hS => ?_)
    exact W.widen (by omega) (by omega) (kk b _ _ Z1 (P) (L) (T) (h + nv (xs (i + 1))) f1 H3 locs ls ⟨hdb, hAP, ok.pass (N := nv (xs (i + 1))) (by have := nv_100 q2; omega) hrel.1 hrel.2, hP, hQ, hO, hS⟩ (by omega) (lv_sub hl [2, 3, 4, 5, 6] rfl))
  · obtain ⟨e1, e3⟩ := hno h0
    have e2 := hno2 (fun q9 => h0 (hke.trans q9))
    rw [e1, e3] at hP
    rw [e2] at hQ
    refine ltail (i := i) (scr := scr) C0 hC.hAr hC.hK hdb hAP rfl hP hQ hO hS hkk (fun q9 => absurd (hk5.symm.trans q9) h0) ⟨Nat.le_of_ble_eq_true rfl, Nat.le_of_ble_eq_true rfl⟩ ⟨show cells + 1 + 0 ≤ 601024 by omega, show slots + 6 + 0 ≤ 7293033 by omega⟩ hl dL_law_1007 dL_law_1008 dL_law_1011 dL_law_1013 dL_law_1018 dL_law_1020 dL_law_1023 dL_law_1024 dL_law_1025 dL_law_1026 dL_law_1028 dL_law_1029 dL_law_1030 dL_law_1035 (by decide) (fun H3 locs hP hQ hO hS => ?_)
    exact W.widen (by omega) (by omega) (kk b _ _ Z1 (P) (L) (T) (h) f1 H3 locs ls ⟨hdb, hAP, ok, hP, hQ, hO, hS⟩ (by omega) (lv_sub hl [2, 3, 4, 5, 6] rfl))
set_option maxHeartbeats 4000000 in
set_option maxRecDepth 100000 in
theorem k_count (hfl : l.stackTraces = false) (C0 : CallFix p m c cL_law 9 s args GW RL) (hC : LawC s D cA cL a og scr Ls xs) (hi : i + 7 ≤ Ls) (hh : h + 500 < 2 ^ 31) (hI : LawI s D cA cL a b og S X Z P L T h f H locs) (hl : lv_has ls 9 (lv5 scr i og a b)) (hf : cells + 20 ≤ 601024 ∧ slots + 400 ≤ 7293033) (kk : ∀ (b1 : Adr) (S1 X1 Z1 : Mem) (P1 L1 T1 h1 : Nat) (f1 : Nat → Int64) (H1 : Heap) (locs1 : List Loc) (ls1 : Array Slot), LawI s D cA cL a b1 og S1 X1 Z1 P1 L1 T1 h1 f1 H1 locs1 → h1 ≤ h + 100 → lv_has ls1 9 (lv5 scr i og a b1) → W p l e room_1 s m args below meth c H1 locs1 (cells + 20) (slots + 400) Q (F0 m 1477 ls1 [])) : W p l e room_1 s m args below meth c H locs cells slots Q (F0 m 1038 ls []) := by
  obtain ⟨hdb, hAP, ok, hP, hQ, hO, hS⟩ := hI
  have hbA : ¬ (fun q : Nat => s.heap.size ≤ q) scr := Nat.not_le.mpr hC.hbl
  have hz0 : s.heap.size ≤ H.size := hS.1
  have hl : lv_has ls 9 [(4, .int (nI i)), (3, .ref og), (2, .ref (b 20)), (1, .ref (a 89)), (0, .ref scr)] := hl
  refine lv_aload_n C0.1 C0.2.1 dL_law_1038 rfl (lv_at hl 3 rfl) ?_
  refine larg (k := 1) (p0 := 4) (p4 := 0) C0 hC.hXs hC.hbl hbA hS hl rfl rfl (by decide) (by omega) hC.hL dL_law_1039 dL_law_1040 dL_law_1042 dL_law_1043 dL_law_1044 ?_
  refine lv_aload_n C0.1 C0.2.1 dL_law_1045 rfl (lv_at hl 1 rfl) ?_
  refine hoLw (n := 3) (w_count l hfl D cA cL a S X H.size og f hC.hd hC.hne ok (by omega) (xs (i + 1))) C0 ml_L_123 sm_L_count in_L co_L_count ⟨by decide, by decide, by decide⟩ ⟨Nat.le_of_ble_eq_true rfl, Nat.le_of_ble_eq_true rfl⟩ hC.hK hC.hX hC.hN hC.hAr hP hO hS (hC.al hz0) rfl hl.1 rfl dL_law_1046 ⟨show cells + 1 ≤ 601024 by omega, show slots + 6 ≤ 7293033 by omega⟩ (fun r S1 X1 f1 H1 locs hp hP hO hk hS => ?_)
  obtain ⟨hk5, hyes, hno⟩ := hp
  have hQ := wq_keep hQ hAP hk
  have hz1 : s.heap.size ≤ H1.size := hS.1
  refine lv_istore (lv' := [(5, .int r), (4, .int (nI i)), (3, .ref og), (2, .ref (b 20)), (1, .ref (a 89)), (0, .ref scr)]) C0.1 C0.2.1 dL_law_1049 hl (by decide) rfl (fun ls hl => ?_)
  refine lv_aload_n C0.1 C0.2.1 dL_law_1051 rfl (lv_at hl 3 rfl) ?_
  refine larg (k := 1) (p0 := 5) (p4 := 1) C0 hC.hXs hC.hbl hbA hS hl rfl rfl (by decide) (by omega) hC.hL dL_law_1052 dL_law_1053 dL_law_1055 dL_law_1056 dL_law_1057 ?_
  refine hoIF (qV (n := 1) (c_X9_count l D cA b S Z IM hdb (xs (i + 1)) ok.1.1 ok.1.2.1 ok.1.2.2.1 ok.1.2.2.2.1 ok.1.2.2.2.2 (by omega) ok.2.1) C0 ml_L_125 im_X9_count se_X9_count in_X9 co_X9_count ⟨rfl, by decide⟩ ⟨Nat.le_of_ble_eq_true rfl, Nat.le_of_ble_eq_true rfl⟩ hC.hK hQ (hdb.1 20 (by decide)) rfl rfl rfl hl.1 (Nat.le_of_ble_eq_true rfl) rfl dL_law_1058 ⟨show cells + 1 + 0 ≤ 601024 by omega, show slots + 6 + 0 ≤ 7293033 by omega⟩) hS (ap_ai hAP) (fun r6 S2 Z1 H2 locs hp2 hQ hkp hS => ?_)
  have hP := wp_keep hP hAP hkp
  have hO := og_keep hO hAP hkp
  obtain ⟨hz, hyes2, hno2⟩ := hp2
  refine lv_istore (lv' := [(6, .int r6), (5, .int r), (4, .int (nI i)), (3, .ref og), (2, .ref (b 20)), (1, .ref (a 89)), (0, .ref scr)]) C0.1 C0.2.1 dL_law_1061 hl (by decide) rfl (fun ls hl => ?_)
  have hke : kd (oneB (xs (i + 1)) 11) (true) (true) 1 9 9 = kd (oneB (xs (i + 1)) 11) (true) (true) 1 2 3 := kd_t2
  have hkk : r = Z1 87 0 := hk5.trans (hke.trans hz.symm)
  by_cases h0 : kd (oneB (xs (i + 1)) 11) (true) (true) 1 9 9 = 0
  · obtain ⟨hv, e1, hrel⟩ := hyes h0
    obtain ⟨hr6, e2⟩ := hyes2 (hke.symm.trans h0)
    obtain ⟨q1, q2, q3⟩ := kd_inv (by decide) (by decide) (by decide) h0
    rw [e1] at hP
    rw [e2] at hQ
    rw [hrel] at hP
    refine ltail (i := i) (scr := scr) C0 hC.hAr hC.hK hdb hAP rfl hP hQ hO hS hkk (fun _ => hv.trans (congrArg Int32.toInt64 hr6.symm)) ⟨Nat.le_of_ble_eq_true rfl, Nat.le_of_ble_eq_true rfl⟩ ⟨show cells + 1 + 0 ≤ 601024 by omega, show slots + 6 + 0 ≤ 7293033 by omega⟩ hl dL_law_1063 dL_law_1064 dL_law_1067 dL_law_1069 dL_law_1074 dL_law_1076 dL_law_1079 dL_law_1080 dL_law_1081 dL_law_1082 dL_law_1084 dL_law_1085 dL_law_1086 dL_law_1091 (by decide) (fun H3 locs hP hQ hO hS => ?_)
    exact W.widen (by omega) (by omega) (kk b _ _ Z1 (P) (L) (T) (h) f1 H3 locs ls ⟨hdb, hAP, ok, hP, hQ, hO, hS⟩ (by omega) (lv_sub hl [2, 3, 4, 5, 6] rfl))
  · obtain ⟨e1, e3⟩ := hno h0
    have e2 := hno2 (fun q9 => h0 (hke.trans q9))
    rw [e1, e3] at hP
    rw [e2] at hQ
    refine ltail (i := i) (scr := scr) C0 hC.hAr hC.hK hdb hAP rfl hP hQ hO hS hkk (fun q9 => absurd (hk5.symm.trans q9) h0) ⟨Nat.le_of_ble_eq_true rfl, Nat.le_of_ble_eq_true rfl⟩ ⟨show cells + 1 + 0 ≤ 601024 by omega, show slots + 6 + 0 ≤ 7293033 by omega⟩ hl dL_law_1063 dL_law_1064 dL_law_1067 dL_law_1069 dL_law_1074 dL_law_1076 dL_law_1079 dL_law_1080 dL_law_1081 dL_law_1082 dL_law_1084 dL_law_1085 dL_law_1086 dL_law_1091 (by decide) (fun H3 locs hP hQ hO hS => ?_)
    exact W.widen (by omega) (by omega) (kk b _ _ Z1 (P) (L) (T) (h) f1 H3 locs ls ⟨hdb, hAP, ok, hP, hQ, hO, hS⟩ (by omega) (lv_sub hl [2, 3, 4, 5, 6] rfl))
set_option maxHeartbeats 4000000 in
set_option maxRecDepth 100000 in
theorem k_crossing (hfl : l.stackTraces = false) (C0 : CallFix p m c cL_law 9 s args GW RL) (hC : LawC s D cA cL a og scr Ls xs) (hi : i + 7 ≤ Ls) (hh : h + 500 < 2 ^ 31) (hI : LawI s D cA cL a b og S X Z P L T h f H locs) (hl : lv_has ls 9 (lv5 scr i og a b)) (hf : cells + 20 ≤ 601024 ∧ slots + 400 ≤ 7293033) (kk : ∀ (b1 : Adr) (S1 X1 Z1 : Mem) (P1 L1 T1 h1 : Nat) (f1 : Nat → Int64) (H1 : Heap) (locs1 : List Loc) (ls1 : Array Slot), LawI s D cA cL a b1 og S1 X1 Z1 P1 L1 T1 h1 f1 H1 locs1 → h1 ≤ h + 100 → lv_has ls1 9 (lv5 scr i og a b1) → W p l e room_1 s m args below meth c H1 locs1 (cells + 20) (slots + 400) Q (F0 m 1477 ls1 [])) : W p l e room_1 s m args below meth c H locs cells slots Q (F0 m 1094 ls []) := by
  obtain ⟨hdb, hAP, ok, hP, hQ, hO, hS⟩ := hI
  have hbA : ¬ (fun q : Nat => s.heap.size ≤ q) scr := Nat.not_le.mpr hC.hbl
  have hz0 : s.heap.size ≤ H.size := hS.1
  have hl : lv_has ls 9 [(4, .int (nI i)), (3, .ref og), (2, .ref (b 20)), (1, .ref (a 89)), (0, .ref scr)] := hl
  refine lv_aload_n C0.1 C0.2.1 dL_law_1094 rfl (lv_at hl 3 rfl) ?_
  refine larg (k := 1) (p0 := 4) (p4 := 0) C0 hC.hXs hC.hbl hbA hS hl rfl rfl (by decide) (by omega) hC.hL dL_law_1095 dL_law_1096 dL_law_1098 dL_law_1099 dL_law_1100 ?_
  refine larg (k := 2) (p0 := 4) (p4 := 0) C0 hC.hXs hC.hbl hbA hS hl rfl rfl (by decide) (by omega) hC.hL dL_law_1101 dL_law_1102 dL_law_1104 dL_law_1105 dL_law_1106 ?_
  refine lv_aload_n C0.1 C0.2.1 dL_law_1107 rfl (lv_at hl 1 rfl) ?_
  refine hoLw (n := 4) (w_crossing l hfl D cA cL a S X H.size og f hC.hd hC.hne ok (by omega) (xs (i + 1)) (xs (i + 2))) C0 ml_L_126 sm_L_crossing in_L co_L_crossing ⟨by decide, by decide, by decide⟩ ⟨Nat.le_of_ble_eq_true rfl, Nat.le_of_ble_eq_true rfl⟩ hC.hK hC.hX hC.hN hC.hAr hP hO hS (hC.al hz0) rfl hl.1 rfl dL_law_1108 ⟨show cells + 2 ≤ 601024 by omega, show slots + 12 ≤ 7293033 by omega⟩ (fun r S1 X1 f1 H1 locs hp hP hO hk hS => ?_)
  obtain ⟨hk5, hyes, hno⟩ := hp
  have hQ := wq_keep hQ hAP hk
  have hz1 : s.heap.size ≤ H1.size := hS.1
  refine lv_istore (lv' := [(5, .int r), (4, .int (nI i)), (3, .ref og), (2, .ref (b 20)), (1, .ref (a 89)), (0, .ref scr)]) C0.1 C0.2.1 dL_law_1111 hl (by decide) rfl (fun ls hl => ?_)
  refine lv_aload_n C0.1 C0.2.1 dL_law_1113 rfl (lv_at hl 3 rfl) ?_
  refine larg (k := 1) (p0 := 5) (p4 := 1) C0 hC.hXs hC.hbl hbA hS hl rfl rfl (by decide) (by omega) hC.hL dL_law_1114 dL_law_1115 dL_law_1117 dL_law_1118 dL_law_1119 ?_
  refine larg (k := 2) (p0 := 5) (p4 := 1) C0 hC.hXs hC.hbl hbA hS hl rfl rfl (by decide) (by omega) hC.hL dL_law_1120 dL_law_1121 dL_law_1123 dL_law_1124 dL_law_1125 ?_
  refine hoIF (qV (n := 2) (c_X9_crossing l D cA b S Z IM hdb (xs (i + 1)) (xs (i + 2)) ok.1.1 ok.2.1) C0 ml_L_128 im_X9_crossing se_X9_crossing in_X9 co_X9_crossing ⟨rfl, by decide⟩ ⟨Nat.le_of_ble_eq_true rfl, Nat.le_of_ble_eq_true rfl⟩ hC.hK hQ (hdb.1 20 (by decide)) rfl rfl rfl hl.1 (Nat.le_of_ble_eq_true rfl) rfl dL_law_1126 ⟨show cells + 2 + 0 ≤ 601024 by omega, show slots + 12 + 0 ≤ 7293033 by omega⟩) hS (ap_ai hAP) (fun r6 S2 Z1 H2 locs hp2 hQ hkp hS => ?_)
  have hP := wp_keep hP hAP hkp
  have hO := og_keep hO hAP hkp
  obtain ⟨hz, hyes2, hno2⟩ := hp2
  refine lv_istore (lv' := [(6, .int r6), (5, .int r), (4, .int (nI i)), (3, .ref og), (2, .ref (b 20)), (1, .ref (a 89)), (0, .ref scr)]) C0.1 C0.2.1 dL_law_1129 hl (by decide) rfl (fun ls hl => ?_)
  have hke : kd (oneB (xs (i + 1)) (nI P)) (inB (xs (i + 2)) 0 24) (true) 1 2 9 = kd (oneB (xs (i + 1)) (nI P)) (inB (xs (i + 2)) 0 24) (true) 1 2 3 := kd_t3
  have hkk : r = Z1 87 0 := hk5.trans (hke.trans hz.symm)
  by_cases h0 : kd (oneB (xs (i + 1)) (nI P)) (inB (xs (i + 2)) 0 24) (true) 1 2 9 = 0
  · obtain ⟨hv, e1, hrel⟩ := hyes h0
    obtain ⟨hr6, e2⟩ := hyes2 (hke.symm.trans h0)
    obtain ⟨q1, q2, q3⟩ := kd_inv (by decide) (by decide) (by decide) h0
    rw [e1] at hP
    rw [e2] at hQ
    refine ltail (i := i) (scr := scr) C0 hC.hAr hC.hK hdb hAP rfl hP hQ hO hS hkk (fun _ => hv.trans (congrArg Int32.toInt64 hr6.symm)) ⟨Nat.le_of_ble_eq_true rfl, Nat.le_of_ble_eq_true rfl⟩ ⟨show cells + 2 + 0 ≤ 601024 by omega, show slots + 12 + 0 ≤ 7293033 by omega⟩ hl dL_law_1131 dL_law_1132 dL_law_1135 dL_law_1137 dL_law_1142 dL_law_1144 dL_law_1147 dL_law_1148 dL_law_1149 dL_law_1150 dL_law_1152 dL_law_1153 dL_law_1154 dL_law_1159 (by decide) (fun H3 locs hP hQ hO hS => ?_)
    exact W.widen (by omega) (by omega) (kk b _ _ Z1 (P) (L) (T) (h) f1 H3 locs ls ⟨hdb, hAP, ok.look hrel.1 (hrel.2 10 (by omega) (by omega) (by omega)) (hrel.2 11 (by omega) (by omega) (by omega)), hP, hQ, hO, hS⟩ (by omega) (lv_sub hl [2, 3, 4, 5, 6] rfl))
  · obtain ⟨e1, e3⟩ := hno h0
    have e2 := hno2 (fun q9 => h0 (hke.trans q9))
    rw [e1, e3] at hP
    rw [e2] at hQ
    refine ltail (i := i) (scr := scr) C0 hC.hAr hC.hK hdb hAP rfl hP hQ hO hS hkk (fun q9 => absurd (hk5.symm.trans q9) h0) ⟨Nat.le_of_ble_eq_true rfl, Nat.le_of_ble_eq_true rfl⟩ ⟨show cells + 2 + 0 ≤ 601024 by omega, show slots + 12 + 0 ≤ 7293033 by omega⟩ hl dL_law_1131 dL_law_1132 dL_law_1135 dL_law_1137 dL_law_1142 dL_law_1144 dL_law_1147 dL_law_1148 dL_law_1149 dL_law_1150 dL_law_1152 dL_law_1153 dL_law_1154 dL_law_1159 (by decide) (fun H3 locs hP hQ hO hS => ?_)
    exact W.widen (by omega) (by omega) (kk b _ _ Z1 (P) (L) (T) (h) f1 H3 locs ls ⟨hdb, hAP, ok, hP, hQ, hO, hS⟩ (by omega) (lv_sub hl [2, 3, 4, 5, 6] rfl))
set_option maxHeartbeats 4000000 in
set_option maxRecDepth 100000 in
theorem k_opens (hfl : l.stackTraces = false) (C0 : CallFix p m c cL_law 9 s args GW RL) (hC : LawC s D cA cL a og scr Ls xs) (hi : i + 7 ≤ Ls) (hh : h + 500 < 2 ^ 31) (hI : LawI s D cA cL a b og S X Z P L T h f H locs) (hl : lv_has ls 9 (lv5 scr i og a b)) (hf : cells + 20 ≤ 601024 ∧ slots + 400 ≤ 7293033) (kk : ∀ (b1 : Adr) (S1 X1 Z1 : Mem) (P1 L1 T1 h1 : Nat) (f1 : Nat → Int64) (H1 : Heap) (locs1 : List Loc) (ls1 : Array Slot), LawI s D cA cL a b1 og S1 X1 Z1 P1 L1 T1 h1 f1 H1 locs1 → h1 ≤ h + 100 → lv_has ls1 9 (lv5 scr i og a b1) → W p l e room_1 s m args below meth c H1 locs1 (cells + 20) (slots + 400) Q (F0 m 1477 ls1 [])) : W p l e room_1 s m args below meth c H locs cells slots Q (F0 m 1162 ls []) := by
  obtain ⟨hdb, hAP, ok, hP, hQ, hO, hS⟩ := hI
  have hbA : ¬ (fun q : Nat => s.heap.size ≤ q) scr := Nat.not_le.mpr hC.hbl
  have hz0 : s.heap.size ≤ H.size := hS.1
  have hl : lv_has ls 9 [(4, .int (nI i)), (3, .ref og), (2, .ref (b 20)), (1, .ref (a 89)), (0, .ref scr)] := hl
  refine lv_aload_n C0.1 C0.2.1 dL_law_1162 rfl (lv_at hl 3 rfl) ?_
  refine larg (k := 1) (p0 := 4) (p4 := 0) C0 hC.hXs hC.hbl hbA hS hl rfl rfl (by decide) (by omega) hC.hL dL_law_1163 dL_law_1164 dL_law_1166 dL_law_1167 dL_law_1168 ?_
  refine lv_aload_n C0.1 C0.2.1 dL_law_1169 rfl (lv_at hl 1 rfl) ?_
  refine hoLw (n := 3) (w_opens l hfl D cA cL a S X H.size og f hC.hd hC.hne ok (by omega) (xs (i + 1))) C0 ml_L_129 sm_L_opens in_L co_L_opens ⟨by decide, by decide, by decide⟩ ⟨Nat.le_of_ble_eq_true rfl, Nat.le_of_ble_eq_true rfl⟩ hC.hK hC.hX hC.hN hC.hAr hP hO hS (hC.al hz0) rfl hl.1 rfl dL_law_1170 ⟨show cells + 1 ≤ 601024 by omega, show slots + 6 ≤ 7293033 by omega⟩ (fun r S1 X1 f1 H1 locs hp hP hO hk hS => ?_)
  obtain ⟨hk5, hyes, hno⟩ := hp
  have hQ := wq_keep hQ hAP hk
  have hz1 : s.heap.size ≤ H1.size := hS.1
  refine lv_istore (lv' := [(5, .int r), (4, .int (nI i)), (3, .ref og), (2, .ref (b 20)), (1, .ref (a 89)), (0, .ref scr)]) C0.1 C0.2.1 dL_law_1173 hl (by decide) rfl (fun ls hl => ?_)
  refine lv_aload_n C0.1 C0.2.1 dL_law_1175 rfl (lv_at hl 3 rfl) ?_
  refine larg (k := 1) (p0 := 5) (p4 := 1) C0 hC.hXs hC.hbl hbA hS hl rfl rfl (by decide) (by omega) hC.hL dL_law_1176 dL_law_1177 dL_law_1179 dL_law_1180 dL_law_1181 ?_
  refine hoIF (qV (n := 1) (c_X9_opens l D cA b S Z IM hdb (xs (i + 1)) ok.1.1 ok.2.1) C0 ml_L_131 im_X9_opens se_X9_opens in_X9 co_X9_opens ⟨rfl, by decide⟩ ⟨Nat.le_of_ble_eq_true rfl, Nat.le_of_ble_eq_true rfl⟩ hC.hK hQ (hdb.1 20 (by decide)) rfl rfl rfl hl.1 (Nat.le_of_ble_eq_true rfl) rfl dL_law_1182 ⟨show cells + 1 + 0 ≤ 601024 by omega, show slots + 6 + 0 ≤ 7293033 by omega⟩) hS (ap_ai hAP) (fun r6 S2 Z1 H2 locs hp2 hQ hkp hS => ?_)
  have hP := wp_keep hP hAP hkp
  have hO := og_keep hO hAP hkp
  obtain ⟨hz, hyes2, hno2⟩ := hp2
  refine lv_istore (lv' := [(6, .int r6), (5, .int r), (4, .int (nI i)), (3, .ref og), (2, .ref (b 20)), (1, .ref (a 89)), (0, .ref scr)]) C0.1 C0.2.1 dL_law_1185 hl (by decide) rfl (fun ls hl => ?_)
  have hke : kd (oneB (xs (i + 1)) (nI P)) (true) (true) 1 9 9 = kd (oneB (xs (i + 1)) (nI P)) (true) (true) 1 2 3 := kd_t2
  have hkk : r = Z1 87 0 := hk5.trans (hke.trans hz.symm)
  by_cases h0 : kd (oneB (xs (i + 1)) (nI P)) (true) (true) 1 9 9 = 0
  · obtain ⟨hv, e1, hrel⟩ := hyes h0
    obtain ⟨hr6, e2⟩ := hyes2 (hke.symm.trans h0)
    obtain ⟨q1, q2, q3⟩ := kd_inv (by decide) (by decide) (by decide) h0
    rw [e1] at hP
    rw [e2] at hQ
    refine ltail (i := i) (scr := scr) C0 hC.hAr hC.hK hdb hAP rfl hP hQ hO hS hkk (fun _ => hv.trans (congrArg Int32.toInt64 hr6.symm)) ⟨Nat.le_of_ble_eq_true rfl, Nat.le_of_ble_eq_true rfl⟩ ⟨show cells + 1 + 0 ≤ 601024 by omega, show slots + 6 + 0 ≤ 7293033 by omega⟩ hl dL_law_1187 dL_law_1188 dL_law_1191 dL_law_1193 dL_law_1198 dL_law_1200 dL_law_1203 dL_law_1204 dL_law_1205 dL_law_1206 dL_law_1208 dL_law_1209 dL_law_1210 dL_law_1215 (by decide) (fun H3 locs hP hQ hO hS => ?_)
    exact W.widen (by omega) (by omega) (kk b _ _ Z1 (P) (L) (T) (h) f1 H3 locs ls ⟨hdb, hAP, ok.look hrel.1 (hrel.2 10 (by omega) (by omega) (by omega)) (hrel.2 11 (by omega) (by omega) (by omega)), hP, hQ, hO, hS⟩ (by omega) (lv_sub hl [2, 3, 4, 5, 6] rfl))
  · obtain ⟨e1, e3⟩ := hno h0
    have e2 := hno2 (fun q9 => h0 (hke.trans q9))
    rw [e1, e3] at hP
    rw [e2] at hQ
    refine ltail (i := i) (scr := scr) C0 hC.hAr hC.hK hdb hAP rfl hP hQ hO hS hkk (fun q9 => absurd (hk5.symm.trans q9) h0) ⟨Nat.le_of_ble_eq_true rfl, Nat.le_of_ble_eq_true rfl⟩ ⟨show cells + 1 + 0 ≤ 601024 by omega, show slots + 6 + 0 ≤ 7293033 by omega⟩ hl dL_law_1187 dL_law_1188 dL_law_1191 dL_law_1193 dL_law_1198 dL_law_1200 dL_law_1203 dL_law_1204 dL_law_1205 dL_law_1206 dL_law_1208 dL_law_1209 dL_law_1210 dL_law_1215 (by decide) (fun H3 locs hP hQ hO hS => ?_)
    exact W.widen (by omega) (by omega) (kk b _ _ Z1 (P) (L) (T) (h) f1 H3 locs ls ⟨hdb, hAP, ok, hP, hQ, hO, hS⟩ (by omega) (lv_sub hl [2, 3, 4, 5, 6] rfl))
set_option maxHeartbeats 4000000 in
set_option maxRecDepth 100000 in
theorem k_chain (hfl : l.stackTraces = false) (C0 : CallFix p m c cL_law 9 s args GW RL) (hC : LawC s D cA cL a og scr Ls xs) (hi : i + 7 ≤ Ls) (hh : h + 500 < 2 ^ 31) (hI : LawI s D cA cL a b og S X Z P L T h f H locs) (hl : lv_has ls 9 (lv5 scr i og a b)) (hf : cells + 20 ≤ 601024 ∧ slots + 400 ≤ 7293033) (kk : ∀ (b1 : Adr) (S1 X1 Z1 : Mem) (P1 L1 T1 h1 : Nat) (f1 : Nat → Int64) (H1 : Heap) (locs1 : List Loc) (ls1 : Array Slot), LawI s D cA cL a b1 og S1 X1 Z1 P1 L1 T1 h1 f1 H1 locs1 → h1 ≤ h + 100 → lv_has ls1 9 (lv5 scr i og a b1) → W p l e room_1 s m args below meth c H1 locs1 (cells + 20) (slots + 400) Q (F0 m 1477 ls1 [])) : W p l e room_1 s m args below meth c H locs cells slots Q (F0 m 1218 ls []) := by
  obtain ⟨hdb, hAP, ok, hP, hQ, hO, hS⟩ := hI
  have hbA : ¬ (fun q : Nat => s.heap.size ≤ q) scr := Nat.not_le.mpr hC.hbl
  have hz0 : s.heap.size ≤ H.size := hS.1
  have hl : lv_has ls 9 [(4, .int (nI i)), (3, .ref og), (2, .ref (b 20)), (1, .ref (a 89)), (0, .ref scr)] := hl
  refine lv_aload_n C0.1 C0.2.1 dL_law_1218 rfl (lv_at hl 3 rfl) ?_
  refine larg (k := 1) (p0 := 4) (p4 := 0) C0 hC.hXs hC.hbl hbA hS hl rfl rfl (by decide) (by omega) hC.hL dL_law_1219 dL_law_1220 dL_law_1222 dL_law_1223 dL_law_1224 ?_
  refine larg (k := 2) (p0 := 4) (p4 := 0) C0 hC.hXs hC.hbl hbA hS hl rfl rfl (by decide) (by omega) hC.hL dL_law_1225 dL_law_1226 dL_law_1228 dL_law_1229 dL_law_1230 ?_
  refine larg (k := 3) (p0 := 4) (p4 := 0) C0 hC.hXs hC.hbl hbA hS hl rfl rfl (by decide) (by omega) hC.hL dL_law_1231 dL_law_1232 dL_law_1234 dL_law_1235 dL_law_1236 ?_
  refine lv_aload_n C0.1 C0.2.1 dL_law_1237 rfl (lv_at hl 1 rfl) ?_
  refine hoLw (n := 5) (w_chain l hfl D cA cL a S X H.size og f hC.hd hC.hne ok (by omega) (xs (i + 1)) (xs (i + 2)) (xs (i + 3))) C0 ml_L_132 sm_L_chain in_L co_L_chain ⟨by decide, by decide, by decide⟩ ⟨Nat.le_of_ble_eq_true rfl, Nat.le_of_ble_eq_true rfl⟩ hC.hK hC.hX hC.hN hC.hAr hP hO hS (hC.al hz0) rfl hl.1 rfl dL_law_1238 ⟨show cells + 2 ≤ 601024 by omega, show slots + 12 ≤ 7293033 by omega⟩ (fun r S1 X1 f1 H1 locs hp hP hO hk hS => ?_)
  obtain ⟨hk5, hyes, hno⟩ := hp
  have hQ := wq_keep hQ hAP hk
  have hz1 : s.heap.size ≤ H1.size := hS.1
  refine lv_istore (lv' := [(5, .int r), (4, .int (nI i)), (3, .ref og), (2, .ref (b 20)), (1, .ref (a 89)), (0, .ref scr)]) C0.1 C0.2.1 dL_law_1241 hl (by decide) rfl (fun ls hl => ?_)
  refine lv_aload_n C0.1 C0.2.1 dL_law_1243 rfl (lv_at hl 3 rfl) ?_
  refine larg (k := 1) (p0 := 5) (p4 := 1) C0 hC.hXs hC.hbl hbA hS hl rfl rfl (by decide) (by omega) hC.hL dL_law_1244 dL_law_1245 dL_law_1247 dL_law_1248 dL_law_1249 ?_
  refine larg (k := 2) (p0 := 5) (p4 := 1) C0 hC.hXs hC.hbl hbA hS hl rfl rfl (by decide) (by omega) hC.hL dL_law_1250 dL_law_1251 dL_law_1253 dL_law_1254 dL_law_1255 ?_
  refine larg (k := 3) (p0 := 5) (p4 := 1) C0 hC.hXs hC.hbl hbA hS hl rfl rfl (by decide) (by omega) hC.hL dL_law_1256 dL_law_1257 dL_law_1259 dL_law_1260 dL_law_1261 ?_
  refine hoIF (qV (n := 3) (c_X9_chain l D cA b S Z IM hdb (xs (i + 1)) (xs (i + 2)) (xs (i + 3)) ok.1.1 ok.1.2.1 ok.2.1 ok.2.2.2.1) C0 ml_L_134 im_X9_chain se_X9_chain in_X9 co_X9_chain ⟨rfl, by decide⟩ ⟨Nat.le_of_ble_eq_true rfl, Nat.le_of_ble_eq_true rfl⟩ hC.hK hQ (hdb.1 20 (by decide)) rfl rfl rfl hl.1 (Nat.le_of_ble_eq_true rfl) rfl dL_law_1262 ⟨show cells + 2 + 0 ≤ 601024 by omega, show slots + 12 + 0 ≤ 7293033 by omega⟩) hS (ap_ai hAP) (fun r6 S2 Z1 H2 locs hp2 hQ hkp hS => ?_)
  have hP := wp_keep hP hAP hkp
  have hO := og_keep hO hAP hkp
  obtain ⟨hz, hyes2, hno2⟩ := hp2
  refine lv_istore (lv' := [(6, .int r6), (5, .int r), (4, .int (nI i)), (3, .ref og), (2, .ref (b 20)), (1, .ref (a 89)), (0, .ref scr)]) C0.1 C0.2.1 dL_law_1265 hl (by decide) rfl (fun ls hl => ?_)
  have hke : kd (oneB (xs (i + 1)) (nI L) && oneB (xs (i + 2)) (nI L) && oneB (xs (i + 3)) 3) (true) (true) 1 9 9 = kd (oneB (xs (i + 1)) (nI L) && oneB (xs (i + 2)) (nI L) && oneB (xs (i + 3)) 3) (true) (true) 1 2 3 := kd_t2
  have hkk : r = Z1 87 0 := hk5.trans (hke.trans hz.symm)
  by_cases h0 : kd (oneB (xs (i + 1)) (nI L) && oneB (xs (i + 2)) (nI L) && oneB (xs (i + 3)) 3) (true) (true) 1 9 9 = 0
  · obtain ⟨hv, e1, hrel⟩ := hyes h0
    obtain ⟨hr6, e2⟩ := hyes2 (hke.symm.trans h0)
    obtain ⟨q1, q2, q3⟩ := kd_inv (by decide) (by decide) (by decide) h0
    rw [e1] at hP
    rw [e2] at hQ
    refine ltail (i := i) (scr := scr) C0 hC.hAr hC.hK hdb hAP rfl hP hQ hO hS hkk (fun _ => hv.trans (congrArg Int32.toInt64 hr6.symm)) ⟨Nat.le_of_ble_eq_true rfl, Nat.le_of_ble_eq_true rfl⟩ ⟨show cells + 2 + 0 ≤ 601024 by omega, show slots + 12 + 0 ≤ 7293033 by omega⟩ hl dL_law_1267 dL_law_1268 dL_law_1271 dL_law_1273 dL_law_1278 dL_law_1280 dL_law_1283 dL_law_1284 dL_law_1285 dL_law_1286 dL_law_1288 dL_law_1289 dL_law_1290 dL_law_1295 (by decide) (fun H3 locs hP hQ hO hS => ?_)
    exact W.widen (by omega) (by omega) (kk b _ _ Z1 (P) (L) (T) (h) f1 H3 locs ls ⟨hdb, hAP, ok.look (ok.2.2.2.2.2.1.x (hrel 13 (by omega)) (hrel 14 (by omega))) (hrel 10 (by omega)) (hrel 11 (by omega)), hP, hQ, hO, hS⟩ (by omega) (lv_sub hl [2, 3, 4, 5, 6] rfl))
  · obtain ⟨e1, e3⟩ := hno h0
    have e2 := hno2 (fun q9 => h0 (hke.trans q9))
    rw [e1, e3] at hP
    rw [e2] at hQ
    refine ltail (i := i) (scr := scr) C0 hC.hAr hC.hK hdb hAP rfl hP hQ hO hS hkk (fun q9 => absurd (hk5.symm.trans q9) h0) ⟨Nat.le_of_ble_eq_true rfl, Nat.le_of_ble_eq_true rfl⟩ ⟨show cells + 2 + 0 ≤ 601024 by omega, show slots + 12 + 0 ≤ 7293033 by omega⟩ hl dL_law_1267 dL_law_1268 dL_law_1271 dL_law_1273 dL_law_1278 dL_law_1280 dL_law_1283 dL_law_1284 dL_law_1285 dL_law_1286 dL_law_1288 dL_law_1289 dL_law_1290 dL_law_1295 (by decide) (fun H3 locs hP hQ hO hS => ?_)
    exact W.widen (by omega) (by omega) (kk b _ _ Z1 (P) (L) (T) (h) f1 H3 locs ls ⟨hdb, hAP, ok, hP, hQ, hO, hS⟩ (by omega) (lv_sub hl [2, 3, 4, 5, 6] rfl))
set_option maxHeartbeats 4000000 in
set_option maxRecDepth 100000 in
theorem k_aground (hfl : l.stackTraces = false) (C0 : CallFix p m c cL_law 9 s args GW RL) (hC : LawC s D cA cL a og scr Ls xs) (hi : i + 7 ≤ Ls) (hh : h + 500 < 2 ^ 31) (hI : LawI s D cA cL a b og S X Z P L T h f H locs) (hl : lv_has ls 9 (lv5 scr i og a b)) (hf : cells + 20 ≤ 601024 ∧ slots + 400 ≤ 7293033) (kk : ∀ (b1 : Adr) (S1 X1 Z1 : Mem) (P1 L1 T1 h1 : Nat) (f1 : Nat → Int64) (H1 : Heap) (locs1 : List Loc) (ls1 : Array Slot), LawI s D cA cL a b1 og S1 X1 Z1 P1 L1 T1 h1 f1 H1 locs1 → h1 ≤ h + 100 → lv_has ls1 9 (lv5 scr i og a b1) → W p l e room_1 s m args below meth c H1 locs1 (cells + 20) (slots + 400) Q (F0 m 1477 ls1 [])) : W p l e room_1 s m args below meth c H locs cells slots Q (F0 m 1298 ls []) := by
  obtain ⟨hdb, hAP, ok, hP, hQ, hO, hS⟩ := hI
  have hbA : ¬ (fun q : Nat => s.heap.size ≤ q) scr := Nat.not_le.mpr hC.hbl
  have hz0 : s.heap.size ≤ H.size := hS.1
  have hl : lv_has ls 9 [(4, .int (nI i)), (3, .ref og), (2, .ref (b 20)), (1, .ref (a 89)), (0, .ref scr)] := hl
  refine lv_aload_n C0.1 C0.2.1 dL_law_1298 rfl (lv_at hl 3 rfl) ?_
  refine larg (k := 1) (p0 := 4) (p4 := 0) C0 hC.hXs hC.hbl hbA hS hl rfl rfl (by decide) (by omega) hC.hL dL_law_1299 dL_law_1300 dL_law_1302 dL_law_1303 dL_law_1304 ?_
  refine larg (k := 2) (p0 := 4) (p4 := 0) C0 hC.hXs hC.hbl hbA hS hl rfl rfl (by decide) (by omega) hC.hL dL_law_1305 dL_law_1306 dL_law_1308 dL_law_1309 dL_law_1310 ?_
  refine lv_aload_n C0.1 C0.2.1 dL_law_1311 rfl (lv_at hl 1 rfl) ?_
  refine hoLw (n := 4) (w_aground l hfl D cA cL a S X H.size og f hC.hd hC.hne ok (by omega) (xs (i + 1)) (xs (i + 2))) C0 ml_L_135 sm_L_aground in_L co_L_aground ⟨by decide, by decide, by decide⟩ ⟨Nat.le_of_ble_eq_true rfl, Nat.le_of_ble_eq_true rfl⟩ hC.hK hC.hX hC.hN hC.hAr hP hO hS (hC.al hz0) rfl hl.1 rfl dL_law_1312 ⟨show cells + 2 ≤ 601024 by omega, show slots + 12 ≤ 7293033 by omega⟩ (fun r S1 X1 f1 H1 locs hp hP hO hk hS => ?_)
  obtain ⟨hk5, hyes, hno⟩ := hp
  have hQ := wq_keep hQ hAP hk
  have hz1 : s.heap.size ≤ H1.size := hS.1
  refine lv_istore (lv' := [(5, .int r), (4, .int (nI i)), (3, .ref og), (2, .ref (b 20)), (1, .ref (a 89)), (0, .ref scr)]) C0.1 C0.2.1 dL_law_1315 hl (by decide) rfl (fun ls hl => ?_)
  refine lv_aload_n C0.1 C0.2.1 dL_law_1317 rfl (lv_at hl 3 rfl) ?_
  refine larg (k := 1) (p0 := 5) (p4 := 1) C0 hC.hXs hC.hbl hbA hS hl rfl rfl (by decide) (by omega) hC.hL dL_law_1318 dL_law_1319 dL_law_1321 dL_law_1322 dL_law_1323 ?_
  refine larg (k := 2) (p0 := 5) (p4 := 1) C0 hC.hXs hC.hbl hbA hS hl rfl rfl (by decide) (by omega) hC.hL dL_law_1324 dL_law_1325 dL_law_1327 dL_law_1328 dL_law_1329 ?_
  refine hoZ (qVY (n := 2) (c_X9_aground l D cA b S Z H1.size hdb (xs (i + 1)) (xs (i + 2)) ok.1.1 ok.1.2.1 ok.1.2.2.1 ok.1.2.2.2.1 ok.1.2.2.2.2 (by omega) ok.2.1 ok.2.2.2.1 (FX_FW ok.2.2.2.2.2.2 ok.2.1.2.2.1) ok.2.2.1.wi) C0 ml_L_137 im_X9_aground se_X9_aground in_X9 co_X9_aground ⟨rfl, by decide⟩ rfl ⟨Nat.le_of_ble_eq_true rfl, Nat.le_of_ble_eq_true rfl⟩ hC.hK hC.hY hQ rfl hl.1 (Nat.le_of_ble_eq_true rfl) rfl dL_law_1330 ⟨show cells + 2 + 4 ≤ 601024 by omega, show slots + 12 + 178 ≤ 7293033 by omega⟩) hS (ap_af hAP hz1) (fun r6 Z1 b1 H2 locs hp2 hQ hkp hS => ?_)
  obtain ⟨⟨hz, hyes2, hno2⟩, hb1, hdb1, hb20⟩ := hp2
  have hAP1 := hAP.new hz1 (fun j hj => (hP j hj).lt) hO.lt hb1
  have hkp := afb (P := fun _ => True) hkp
  have hP := wp_keep hP hAP hkp
  have hO := og_keep hO hAP hkp
  obtain ⟨S2, hS2⟩ : ∃ S2, S2 = S := ⟨_, rfl⟩
  refine lv_istore (lv' := [(6, .int r6), (5, .int r), (4, .int (nI i)), (3, .ref og), (2, .ref (b 20)), (1, .ref (a 89)), (0, .ref scr)]) C0.1 C0.2.1 dL_law_1333 hl (by decide) rfl (fun ls hl => ?_)
  have hl : lv_has ls 9 [(6, .int r6), (5, .int r), (4, .int (nI i)), (3, .ref og), (2, .ref (b1 20)), (1, .ref (a 89)), (0, .ref scr)] := by rw [hb20]; exact hl
  have hke : kd (oneB (xs (i + 1)) (nI P)) (inB (xs (i + 2)) 1 100) (true) 1 2 9 = kd (oneB (xs (i + 1)) (nI P)) (inB (xs (i + 2)) 1 100) (true) 1 2 3 := kd_t3
  have hkk : r = Z1 87 0 := hk5.trans (hke.trans hz.symm)
  by_cases h0 : kd (oneB (xs (i + 1)) (nI P)) (inB (xs (i + 2)) 1 100) (true) 1 2 9 = 0
  · obtain ⟨hv, e1, hrel⟩ := hyes h0
    obtain ⟨hr6, e2⟩ := hyes2 (hke.symm.trans h0)
    obtain ⟨q1, q2, q3⟩ := kd_inv (by decide) (by decide) (by decide) h0
    rw [e1] at hP
    refine ltail (i := i) (scr := scr) C0 hC.hAr hC.hK hdb1 hAP1 rfl hP hQ hO hS hkk (fun _ => hv.trans (congrArg Int32.toInt64 hr6.symm)) ⟨Nat.le_of_ble_eq_true rfl, Nat.le_of_ble_eq_true rfl⟩ ⟨show cells + 2 + 4 ≤ 601024 by omega, show slots + 12 + 178 ≤ 7293033 by omega⟩ hl dL_law_1335 dL_law_1336 dL_law_1339 dL_law_1341 dL_law_1346 dL_law_1348 dL_law_1351 dL_law_1352 dL_law_1353 dL_law_1354 dL_law_1356 dL_law_1357 dL_law_1358 dL_law_1363 (by decide) (fun H3 locs hP hQ hO hS => ?_)
    exact W.widen (by omega) (by omega) (kk b1 _ _ Z1 (P) (L) (T) (h) f1 H3 locs ls ⟨hdb1, hAP1, ok.look hrel.1 (hrel.2 10 (by omega)) (hrel.2 11 (by omega)), hP, hQ, hO, hS⟩ (by omega) (lv_sub hl [2, 3, 4, 5, 6] rfl))
  · obtain ⟨e1, e3⟩ := hno h0
    rw [e1, e3] at hP
    refine ltail (i := i) (scr := scr) C0 hC.hAr hC.hK hdb1 hAP1 rfl hP hQ hO hS hkk (fun q9 => absurd (hk5.symm.trans q9) h0) ⟨Nat.le_of_ble_eq_true rfl, Nat.le_of_ble_eq_true rfl⟩ ⟨show cells + 2 + 4 ≤ 601024 by omega, show slots + 12 + 178 ≤ 7293033 by omega⟩ hl dL_law_1335 dL_law_1336 dL_law_1339 dL_law_1341 dL_law_1346 dL_law_1348 dL_law_1351 dL_law_1352 dL_law_1353 dL_law_1354 dL_law_1356 dL_law_1357 dL_law_1358 dL_law_1363 (by decide) (fun H3 locs hP hQ hO hS => ?_)
    exact W.widen (by omega) (by omega) (kk b1 _ _ Z1 (P) (L) (T) (h) f1 H3 locs ls ⟨hdb1, hAP1, ok, hP, hQ, hO, hS⟩ (by omega) (lv_sub hl [2, 3, 4, 5, 6] rfl))
set_option maxHeartbeats 4000000 in
set_option maxRecDepth 100000 in
theorem k_arrives (hfl : l.stackTraces = false) (C0 : CallFix p m c cL_law 9 s args GW RL) (hC : LawC s D cA cL a og scr Ls xs) (hi : i + 7 ≤ Ls) (hh : h + 500 < 2 ^ 31) (hI : LawI s D cA cL a b og S X Z P L T h f H locs) (hl : lv_has ls 9 (lv5 scr i og a b)) (hf : cells + 20 ≤ 601024 ∧ slots + 400 ≤ 7293033) (kk : ∀ (b1 : Adr) (S1 X1 Z1 : Mem) (P1 L1 T1 h1 : Nat) (f1 : Nat → Int64) (H1 : Heap) (locs1 : List Loc) (ls1 : Array Slot), LawI s D cA cL a b1 og S1 X1 Z1 P1 L1 T1 h1 f1 H1 locs1 → h1 ≤ h + 100 → lv_has ls1 9 (lv5 scr i og a b1) → W p l e room_1 s m args below meth c H1 locs1 (cells + 20) (slots + 400) Q (F0 m 1477 ls1 [])) : W p l e room_1 s m args below meth c H locs cells slots Q (F0 m 1366 ls []) := by
  obtain ⟨hdb, hAP, ok, hP, hQ, hO, hS⟩ := hI
  have hbA : ¬ (fun q : Nat => s.heap.size ≤ q) scr := Nat.not_le.mpr hC.hbl
  have hz0 : s.heap.size ≤ H.size := hS.1
  have hl : lv_has ls 9 [(4, .int (nI i)), (3, .ref og), (2, .ref (b 20)), (1, .ref (a 89)), (0, .ref scr)] := hl
  refine lv_aload_n C0.1 C0.2.1 dL_law_1366 rfl (lv_at hl 3 rfl) ?_
  refine larg (k := 1) (p0 := 4) (p4 := 0) C0 hC.hXs hC.hbl hbA hS hl rfl rfl (by decide) (by omega) hC.hL dL_law_1367 dL_law_1368 dL_law_1370 dL_law_1371 dL_law_1372 ?_
  refine lv_aload_n C0.1 C0.2.1 dL_law_1373 rfl (lv_at hl 1 rfl) ?_
  refine hoLw (n := 3) (w_arrives l hfl D cA cL a S X H.size og f hC.hd hC.hne ok (by omega) (xs (i + 1))) C0 ml_L_138 sm_L_arrives in_L co_L_arrives ⟨by decide, by decide, by decide⟩ ⟨Nat.le_of_ble_eq_true rfl, Nat.le_of_ble_eq_true rfl⟩ hC.hK hC.hX hC.hN hC.hAr hP hO hS (hC.al hz0) rfl hl.1 rfl dL_law_1374 ⟨show cells + 1 ≤ 601024 by omega, show slots + 6 ≤ 7293033 by omega⟩ (fun r S1 X1 f1 H1 locs hp hP hO hk hS => ?_)
  obtain ⟨hk5, hyes, hno⟩ := hp
  have hQ := wq_keep hQ hAP hk
  have hz1 : s.heap.size ≤ H1.size := hS.1
  refine lv_istore (lv' := [(5, .int r), (4, .int (nI i)), (3, .ref og), (2, .ref (b 20)), (1, .ref (a 89)), (0, .ref scr)]) C0.1 C0.2.1 dL_law_1377 hl (by decide) rfl (fun ls hl => ?_)
  refine lv_aload_n C0.1 C0.2.1 dL_law_1379 rfl (lv_at hl 3 rfl) ?_
  refine larg (k := 1) (p0 := 5) (p4 := 1) C0 hC.hXs hC.hbl hbA hS hl rfl rfl (by decide) (by omega) hC.hL dL_law_1380 dL_law_1381 dL_law_1383 dL_law_1384 dL_law_1385 ?_
  refine hoZ (qVY (n := 1) (c_X9_arrives l D cA b S Z H1.size hdb (xs (i + 1)) ok.1.1 ok.1.2.1 ok.1.2.2.1 ok.1.2.2.2.1 ok.1.2.2.2.2 (by omega) ok.2.1 ok.2.2.2.1 (FX_FW ok.2.2.2.2.2.2 ok.2.1.2.2.1) ok.2.2.1.wi) C0 ml_L_140 im_X9_arrives se_X9_arrives in_X9 co_X9_arrives ⟨rfl, by decide⟩ rfl ⟨Nat.le_of_ble_eq_true rfl, Nat.le_of_ble_eq_true rfl⟩ hC.hK hC.hY hQ rfl hl.1 (Nat.le_of_ble_eq_true rfl) rfl dL_law_1386 ⟨show cells + 1 + 4 ≤ 601024 by omega, show slots + 6 + 178 ≤ 7293033 by omega⟩) hS (ap_af hAP hz1) (fun r6 Z1 b1 H2 locs hp2 hQ hkp hS => ?_)
  obtain ⟨⟨hz, hyes2, hno2⟩, hb1, hdb1, hb20⟩ := hp2
  have hAP1 := hAP.new hz1 (fun j hj => (hP j hj).lt) hO.lt hb1
  have hkp := afb (P := fun _ => True) hkp
  have hP := wp_keep hP hAP hkp
  have hO := og_keep hO hAP hkp
  obtain ⟨S2, hS2⟩ : ∃ S2, S2 = S := ⟨_, rfl⟩
  refine lv_istore (lv' := [(6, .int r6), (5, .int r), (4, .int (nI i)), (3, .ref og), (2, .ref (b 20)), (1, .ref (a 89)), (0, .ref scr)]) C0.1 C0.2.1 dL_law_1389 hl (by decide) rfl (fun ls hl => ?_)
  have hl : lv_has ls 9 [(6, .int r6), (5, .int r), (4, .int (nI i)), (3, .ref og), (2, .ref (b1 20)), (1, .ref (a 89)), (0, .ref scr)] := by rw [hb20]; exact hl
  have hke : kd (oneB (xs (i + 1)) (nI T)) (true) (true) 1 9 9 = kd (oneB (xs (i + 1)) (nI T)) (true) (true) 1 2 3 := kd_t2
  have hkk : r = Z1 87 0 := hk5.trans (hke.trans hz.symm)
  by_cases h0 : kd (oneB (xs (i + 1)) (nI T)) (true) (true) 1 9 9 = 0
  · obtain ⟨hv, e1, hrel⟩ := hyes h0
    obtain ⟨hr6, e2⟩ := hyes2 (hke.symm.trans h0)
    obtain ⟨q1, q2, q3⟩ := kd_inv (by decide) (by decide) (by decide) h0
    rw [e1] at hP
    refine ltail (i := i) (scr := scr) C0 hC.hAr hC.hK hdb1 hAP1 rfl hP hQ hO hS hkk (fun _ => hv.trans (congrArg Int32.toInt64 hr6.symm)) ⟨Nat.le_of_ble_eq_true rfl, Nat.le_of_ble_eq_true rfl⟩ ⟨show cells + 1 + 4 ≤ 601024 by omega, show slots + 6 + 178 ≤ 7293033 by omega⟩ hl dL_law_1391 dL_law_1392 dL_law_1395 dL_law_1397 dL_law_1402 dL_law_1404 dL_law_1407 dL_law_1408 dL_law_1409 dL_law_1410 dL_law_1412 dL_law_1413 dL_law_1414 dL_law_1419 (by decide) (fun H3 locs hP hQ hO hS => ?_)
    exact W.widen (by omega) (by omega) (kk b1 _ _ Z1 (P) (L) (T) (h) f1 H3 locs ls ⟨hdb1, hAP1, ok.look hrel.1 (hrel.2 10 (by omega)) (hrel.2 11 (by omega)), hP, hQ, hO, hS⟩ (by omega) (lv_sub hl [2, 3, 4, 5, 6] rfl))
  · obtain ⟨e1, e3⟩ := hno h0
    rw [e1, e3] at hP
    refine ltail (i := i) (scr := scr) C0 hC.hAr hC.hK hdb1 hAP1 rfl hP hQ hO hS hkk (fun q9 => absurd (hk5.symm.trans q9) h0) ⟨Nat.le_of_ble_eq_true rfl, Nat.le_of_ble_eq_true rfl⟩ ⟨show cells + 1 + 4 ≤ 601024 by omega, show slots + 6 + 178 ≤ 7293033 by omega⟩ hl dL_law_1391 dL_law_1392 dL_law_1395 dL_law_1397 dL_law_1402 dL_law_1404 dL_law_1407 dL_law_1408 dL_law_1409 dL_law_1410 dL_law_1412 dL_law_1413 dL_law_1414 dL_law_1419 (by decide) (fun H3 locs hP hQ hO hS => ?_)
    exact W.widen (by omega) (by omega) (kk b1 _ _ Z1 (P) (L) (T) (h) f1 H3 locs ls ⟨hdb1, hAP1, ok, hP, hQ, hO, hS⟩ (by omega) (lv_sub hl [2, 3, 4, 5, 6] rfl))
set_option maxHeartbeats 4000000 in
set_option maxRecDepth 100000 in
theorem k_mean (hfl : l.stackTraces = false) (C0 : CallFix p m c cL_law 9 s args GW RL) (hC : LawC s D cA cL a og scr Ls xs) (hi : i + 7 ≤ Ls) (hh : h + 500 < 2 ^ 31) (hI : LawI s D cA cL a b og S X Z P L T h f H locs) (hl : lv_has ls 9 (lv5 scr i og a b)) (hf : cells + 20 ≤ 601024 ∧ slots + 400 ≤ 7293033) (kk : ∀ (b1 : Adr) (S1 X1 Z1 : Mem) (P1 L1 T1 h1 : Nat) (f1 : Nat → Int64) (H1 : Heap) (locs1 : List Loc) (ls1 : Array Slot), LawI s D cA cL a b1 og S1 X1 Z1 P1 L1 T1 h1 f1 H1 locs1 → h1 ≤ h + 100 → lv_has ls1 9 (lv5 scr i og a b1) → W p l e room_1 s m args below meth c H1 locs1 (cells + 20) (slots + 400) Q (F0 m 1477 ls1 [])) : W p l e room_1 s m args below meth c H locs cells slots Q (F0 m 1422 ls []) := by
  obtain ⟨hdb, hAP, ok, hP, hQ, hO, hS⟩ := hI
  have hl : lv_has ls 9 [(4, .int (nI i)), (3, .ref og), (2, .ref (b 20)), (1, .ref (a 89)), (0, .ref scr)] := hl
  refine lv_aload_n C0.1 C0.2.1 dL_law_1422 rfl (lv_at hl 3 rfl) ?_
  refine va_calld (rV (n := 0) (As := []) (rest := []) (c_X8_mean l D cA a S X IF hC.hd ok.1.2.2.2.2 (by omega) ok.2.1 ok.2.2.2.2.1) C0 ml_L_141 im_X8_mean se_X8_mean in_X8 co_X8_mean ⟨rfl, by decide⟩ ⟨Nat.le_of_ble_eq_true rfl, Nat.le_of_ble_eq_true rfl⟩ hC.hK hP (hC.hd.1 89 (by decide)) rfl rfl rfl hl.1 (Nat.le_of_ble_eq_true rfl) rfl dL_law_1423 ⟨show cells + 0 ≤ 601024 by omega, show slots + 0 ≤ 7293033 by omega⟩) hS (fun q _ h => hC.ai q h) hC.ai (fun r u t9 H1 locs ht _ hp hB _ hk hS => ?_)
  obtain ⟨S1, X1⟩ := u
  obtain ⟨hr, e1, e2⟩ := hp
  have hP : WP D cA a S X IF H1 := by have h9 : WP D cA a S1 X1 IF t9.heap := hB; rw [show S1 = S from e1, show X1 = X from e2, ht] at h9; exact h9
  have hk9 : ∀ q : Nat, q < H.size → ¬ AL a H.size og q → H1[q]? = H[q]? := fun q h1 h2 => hk q h1 (fun h3 => h2 (Or.inl (Or.inl h3)))
  have hQ := wq_keep hQ hAP hk9
  have hO : va_at D vwCl (og, lcell cL f) H1 := hO.kept (hk _ hO.lt (fun ⟨k, hk0, e9⟩ => hC.hne k hk0 e9))
  refine lv_dstore (lv' := [(5, .double r), (4, .int (nI i)), (3, .ref og), (2, .ref (b 20)), (1, .ref (a 89)), (0, .ref scr)]) C0.1 C0.2.1 dL_law_1426 hl (by decide) rfl (fun ls hl => ?_)
  refine lv_aload_n C0.1 C0.2.1 dL_law_1428 rfl (lv_at hl 3 rfl) ?_
  refine va_calld (qV (n := 0) (As := []) (rest := []) (c_X9_mean l D cA b S Z IM hdb ok.1.2.2.2.2 (by omega) ok.2.1 ok.2.2.2.2.1) C0 ml_L_145 im_X9_mean se_X9_mean in_X9 co_X9_mean ⟨rfl, by decide⟩ ⟨Nat.le_of_ble_eq_true rfl, Nat.le_of_ble_eq_true rfl⟩ hC.hK hQ (hdb.1 20 (by decide)) rfl rfl rfl hl.1 (Nat.le_of_ble_eq_true rfl) rfl dL_law_1429 ⟨show cells + 0 ≤ 601024 by omega, show slots + 0 ≤ 7293033 by omega⟩) hS (fun q _ h => ap_ai hAP q h) (ap_ai hAP) (fun r7 u t9 H2 locs ht _ hp2 hB _ hkp hS => ?_)
  obtain ⟨S2, Z1⟩ := u
  obtain ⟨hr7, e3⟩ := hp2
  have hQ : WQ D cA b S Z1 IM H2 := by have h9 : WQ D cA b S2 Z1 IM t9.heap := hB; rw [show S2 = S from e3, ht] at h9; exact h9
  have hP := wp_keep hP hAP hkp
  have hO := og_keep hO hAP hkp
  have hr : r = mnD (sumD S h) := hr
  have hr7 : r7 = mnD (sumD S h) := hr7
  refine lv_dstore (lv' := [(7, .double r7), (5, .double r), (4, .int (nI i)), (3, .ref og), (2, .ref (b 20)), (1, .ref (a 89)), (0, .ref scr)]) C0.1 C0.2.1 dL_law_1432 hl (by decide) rfl (fun ls hl => ?_)
  refine lv_dload C0.1 C0.2.1 dL_law_1434 (lv_at hl 1 rfl) ?_
  refine lv_dload C0.1 C0.2.1 dL_law_1436 (lv_at hl 0 rfl) ?_
  refine lv_dcmp C0.1 C0.2.1 dL_law_1438 ?_
  rw [hr, hr7, mn_cmp (sumD_val ok.2.1 ok.2.2.2.2.1)]
  refine lv_if_eq (tgt := 1460) C0.1 C0.2.1 dL_law_1439 (by decide) (fun _ => ?_) (fun h => absurd rfl h)
  refine lv_goto (tgt := 1477) C0.1 C0.2.1 dL_law_1460 (by decide) ?_
  exact W.widen (by omega) (by omega) (kk b _ _ Z1 P L T h f H2 locs ls ⟨hdb, hAP, ok, hP, hQ, hO, hS⟩ (by omega) (lv_sub hl [2, 3, 4, 5, 6] rfl))
set_option maxHeartbeats 4000000 in
set_option maxRecDepth 100000 in
theorem k_digest (hfl : l.stackTraces = false) (C0 : CallFix p m c cL_law 9 s args GW RL) (hC : LawC s D cA cL a og scr Ls xs) (hi : i + 7 ≤ Ls) (hh : h + 500 < 2 ^ 31) (hI : LawI s D cA cL a b og S X Z P L T h f H locs) (hl : lv_has ls 9 (lv5 scr i og a b)) (hf : cells + 20 ≤ 601024 ∧ slots + 400 ≤ 7293033) (kk : ∀ (b1 : Adr) (S1 X1 Z1 : Mem) (P1 L1 T1 h1 : Nat) (f1 : Nat → Int64) (H1 : Heap) (locs1 : List Loc) (ls1 : Array Slot), LawI s D cA cL a b1 og S1 X1 Z1 P1 L1 T1 h1 f1 H1 locs1 → h1 ≤ h + 100 → lv_has ls1 9 (lv5 scr i og a b1) → W p l e room_1 s m args below meth c H1 locs1 (cells + 20) (slots + 400) Q (F0 m 1477 ls1 [])) : W p l e room_1 s m args below meth c H locs cells slots Q (F0 m 1463 ls []) := by
  obtain ⟨hdb, hAP, ok, hP, hQ, hO, hS⟩ := hI
  have hl : lv_has ls 9 [(4, .int (nI i)), (3, .ref og), (2, .ref (b 20)), (1, .ref (a 89)), (0, .ref scr)] := hl
  refine lv_aload_n C0.1 C0.2.1 dL_law_1463 rfl (lv_at hl 3 rfl) ?_
  refine va_calll (rV (n := 0) (As := []) (rest := []) (c_X8_digest l D cA a S X IF hC.hd ok.1.1 ok.1.2.1 ok.1.2.2.1 ok.1.2.2.2.1 ok.1.2.2.2.2 (by omega) ok.2.2.2.2.2.1 ok.2.2.2.2.2.2 ok.2.1 ok.2.2.1) C0 ml_L_146 im_X8_digest se_X8_digest in_X8 co_X8_digest ⟨rfl, by decide⟩ ⟨Nat.le_of_ble_eq_true rfl, Nat.le_of_ble_eq_true rfl⟩ hC.hK hP (hC.hd.1 89 (by decide)) rfl rfl rfl hl.1 (Nat.le_of_ble_eq_true rfl) rfl dL_law_1464 ⟨show cells + 0 ≤ 601024 by omega, show slots + 0 ≤ 7293033 by omega⟩) hS (fun q _ h => hC.ai q h) hC.ai (fun r u t9 H1 locs ht _ hp hB _ hk hS => ?_)
  obtain ⟨S1, X1⟩ := u
  obtain ⟨hr, e1, hrel⟩ := hp
  have hP : WP D cA a S X1 IF H1 := by have h9 : WP D cA a S1 X1 IF t9.heap := hB; rw [show S1 = S from e1, ht] at h9; exact h9
  have hrel : CacheOk S X1 P ∧ ∀ k, k ≠ 13 → k ≠ 14 → k ≠ 15 → X1 k = X k := hrel
  have hk9 : ∀ q : Nat, q < H.size → ¬ AL a H.size og q → H1[q]? = H[q]? := fun q h1 h2 => hk q h1 (fun h3 => h2 (Or.inl (Or.inl h3)))
  have hQ := wq_keep hQ hAP hk9
  have hO : va_at D vwCl (og, lcell cL f) H1 := hO.kept (hk _ hO.lt (fun ⟨k, hk0, e9⟩ => hC.hne k hk0 e9))
  refine lv_aload_n C0.1 C0.2.1 dL_law_1467 rfl (lv_at hl 2 rfl) ?_
  refine va_calll (qV (n := 0) (As := []) (rest := [.long r]) (c_X9_digest l D cA b S Z IM hdb ok.1.1 ok.1.2.1 ok.1.2.2.1 ok.1.2.2.2.1 ok.1.2.2.2.2 (by omega) ok.2.1 ok.2.2.2.1 ok.2.2.1) C0 ml_L_150 im_X9_digest se_X9_digest in_X9 co_X9_digest ⟨rfl, by decide⟩ ⟨Nat.le_of_ble_eq_true rfl, Nat.le_of_ble_eq_true rfl⟩ hC.hK hQ (hdb.1 20 (by decide)) rfl rfl rfl hl.1 (Nat.le_of_ble_eq_true rfl) rfl dL_law_1468 ⟨show cells + 0 ≤ 601024 by omega, show slots + 0 ≤ 7293033 by omega⟩) hS (fun q _ h => ap_ai hAP q h) (ap_ai hAP) (fun r7 u t9 H2 locs ht _ hp2 hB _ hkp hS => ?_)
  obtain ⟨S2, Z1⟩ := u
  obtain ⟨hr7, e3⟩ := hp2
  have hQ : WQ D cA b S Z1 IM H2 := by have h9 : WQ D cA b S2 Z1 IM t9.heap := hB; rw [show S2 = S from e3, ht] at h9; exact h9
  have hP := wp_keep hP hAP hkp
  have hO := og_keep hO hAP hkp
  refine lv_lcmp C0.1 C0.2.1 dL_law_1471 (show r = r7 from Eq.trans hr (Eq.symm hr7)) ?_
  refine lv_if_eq (tgt := 1477) C0.1 C0.2.1 dL_law_1472 (by decide) (fun _ => ?_) (fun h => absurd rfl h)
  exact W.widen (by omega) (by omega) (kk b _ _ Z1 P L T h f H2 locs ls ⟨hdb, hAP, ok.look hrel.1 (hrel.2 10 (by omega) (by omega) (by omega)) (hrel.2 11 (by omega) (by omega) (by omega)), hP, hQ, hO, hS⟩ (by omega) hl)
end LAWK
