/-! THE LAW: its loop, its start. -/
theorem loop_cond {n L : Nat} (hL : L ≤ 3584) (hn : n ≤ 4000) : nI L - 7 < nI n ↔ L < n + 7 := by
  by_cases h7 : 7 ≤ L
  · obtain ⟨q, rfl⟩ : ∃ q, L = q + 7 := ⟨L - 7, by omega⟩
    have e : nI (q + 7) - 7 = nI q := by rw [← nI_add, show nI 7 = 7 from by decide, Int32.add_sub_cancel]
    rw [e, nI_ltI (by omega) (by omega)]; omega
  · have h : ∀ j, j < 7 → nI j - 7 < 0 := by decide +kernel
    have h1 := h L (by omega)
    have h2 : 0 ≤ nI n := nI_pos' (by omega)
    exact ⟨fun _ => by omega, fun _ => Int32.lt_of_lt_of_le h1 h2⟩
section LAWL
variable {p : Program} {l : Launch} {e : Env} {s : State} {m : MethodId} {below : List Frame} {meth : Method} {c : Code} {H : Heap} {locs : List Loc} {cells slots : Nat}
variable {ls : Array Slot} {D : va_G} {cA cL : ClassId} {a b : Adr} {S X Z : Mem} {og scr Ls n P L T h : Nat} {xs : Nat → Int32} {f : Nat → Int64}
def LNext (p : Program) (l : Launch) (e : Env) (s : State) (m : MethodId) (below : List Frame) (meth : Method) (c : Code) (D : va_G) (cA cL : ClassId) (a : Adr) (og scr n : Nat) : Prop :=
  ∀ (b1 : Adr) (S1 X1 Z1 : Mem) (P1 L1 T1 h1 : Nat) (f1 : Nat → Int64) (H1 : Heap) (locs1 : List Loc) (ls1 : Array Slot) (cells1 slots1 : Nat), LawI s D cA cL a b1 og S1 X1 Z1 P1 L1 T1 h1 f1 H1 locs1 → h1 ≤ 100 * n → lv_has ls1 9 (lv5 scr (7 * n) og a b1) → cells1 + 1000 * (512 - n) ≤ 601024 → slots1 + 14000 * (512 - n) ≤ 7293033 → W p l e room_1 s m #[Value.ref scr] below meth c H1 locs1 cells1 slots1 (lw_Z below #[Value.ref scr] s) (F0 m 23 ls1 [])
set_option maxHeartbeats 4000000 in
set_option maxRecDepth 100000 in
theorem law_row (hfl : l.stackTraces = false) (C0 : CallFix p m c cL_law 9 s #[Value.ref scr] GW RL) (hr : meth.sig.returnType = ret) (hlk : meth.locks = false) (hC : LawC s D cA cL a og scr Ls xs) (hn : n ≤ 512) (hI : LawI s D cA cL a b og S X Z P L T h f H locs) (hh : h ≤ 100 * n) (hl : lv_has ls 9 (lv5 scr (7 * n) og a b)) (hc : cells + 1000 * (512 - n) ≤ 601024) (hs : slots + 14000 * (512 - n) ≤ 7293033)
    (next : 7 * n + 7 ≤ Ls → LNext p l e s m below meth c D cA cL a og scr (n + 1)) : W p l e room_1 s m #[Value.ref scr] below meth c H locs cells slots (lw_Z below #[Value.ref scr] s) (F0 m 23 ls []) := by
  obtain ⟨hdb, hAP, ok, hP, hQ, hO, hS⟩ := id hI
  have hL := hC.hL
  have hbA : ¬ (fun q : Nat => s.heap.size ≤ q) scr := Nat.not_le.mpr hC.hbl
  have hl0 : lv_has ls 9 [(4, .int (nI (7 * n))), (3, .ref og), (2, .ref (b 20)), (1, .ref (a 89)), (0, .ref scr)] := hl
  refine lv_iload C0.1 C0.2.1 dL_law_23 (lv_at hl0 0 rfl) ?_
  refine lv_aload_n C0.1 C0.2.1 dL_law_25 rfl (lv_at hl0 4 rfl) ?_
  refine va_slen C0.1 C0.2.1 hC.hXs hC.hbl hbA hS dL_law_26 ?_
  refine lv_bipush (v := 7) C0.1 C0.2.1 dL_law_27 (by decide) ?_
  refine lv_isub C0.1 C0.2.1 dL_law_29 ?_
  refine lv_icmp_gt (tgt := 1483) C0.1 C0.2.1 dL_law_30 (by decide) (fun _ => ?_) (fun hgo => ?_)
  · refine lv_iconst (v := 1) C0.1 C0.2.1 dL_law_1483 (by decide) ?_
    refine va_forget (fun q hq => hS.2.2 q hq) ?_
    exact W.widen (by omega) (by omega) (W.base (lw_ret (Drawn.sameBut.refl s.drawn lw_cs) C0.1 C0.2.1 hr hlk dL_law_1484))
  · have hi : 7 * n + 7 ≤ Ls := by
      have h9 := mt (loop_cond (n := 7 * n) hL (by omega)).mpr hgo
      omega
    have hf : cells + 20 ≤ 601024 ∧ slots + 400 ≤ 7293033 := ⟨by omega, by omega⟩
    have kk : ∀ (b1 : Adr) (S1 X1 Z1 : Mem) (P1 L1 T1 h1 : Nat) (f1 : Nat → Int64) (H1 : Heap) (locs1 : List Loc) (ls1 : Array Slot), LawI s D cA cL a b1 og S1 X1 Z1 P1 L1 T1 h1 f1 H1 locs1 → h1 ≤ h + 100 → lv_has ls1 9 (lv5 scr (7 * n) og a b1) → W p l e room_1 s m #[Value.ref scr] below meth c H1 locs1 (cells + 20) (slots + 400) (lw_Z below #[Value.ref scr] s) (F0 m 1477 ls1 []) := by
      intro b1 S1 X1 Z1 P1 L1 T1 h1 f1 H1 locs1 ls1 hI1 hh1 hl1
      have hl1 : lv_has ls1 9 [(4, .int (nI (7 * n))), (3, .ref og), (2, .ref (b1 20)), (1, .ref (a 89)), (0, .ref scr)] := hl1
      refine lv_iinc (v := nI (7 * n + 7)) (lv' := [(4, .int (nI (7 * n + 7))), (3, .ref og), (2, .ref (b1 20)), (1, .ref (a 89)), (0, .ref scr)]) C0.1 C0.2.1 dL_law_1477 hl1 (k := 0) rfl (by rw [← nI_add]; rfl) (by decide) rfl (fun ls hl => ?_)
      refine lv_goto (tgt := 23) C0.1 C0.2.1 dL_law_1480 (by decide) ?_
      exact next hi b1 S1 X1 Z1 P1 L1 T1 h1 f1 H1 locs1 ls _ _ hI1 (by omega) hl (by omega) (by omega)
    refine lv_aload_n C0.1 C0.2.1 dL_law_33 rfl (lv_at hl0 4 rfl) ?_
    refine lv_iload C0.1 C0.2.1 dL_law_34 (lv_at hl0 0 rfl) ?_
    refine va_sld C0.1 C0.2.1 hC.hXs hC.hbl hbA hS (vp_in_nI (by omega) (by omega)) dL_law_36 ?_
    refine lv_bipush (v := 31) C0.1 C0.2.1 dL_law_37 (by decide) ?_
    refine lv_iand C0.1 C0.2.1 dL_law_39 ?_
    generalize xs (nI (7 * n)).toNatClampNeg &&& 31 = v
    by_cases hv : v.toInt < 0 ∨ 19 < v.toInt
    · refine lv_tableOut (tgt := 1477) C0.1 C0.2.1 dL_law_40 hv (by decide) ?_
      exact W.widen (by omega) (by omega) (kk b S X Z P L T h f H locs ls hI (by omega) hl)
    · obtain ⟨j, hj, hvj⟩ : ∃ j : Nat, j < 20 ∧ v.toInt = (j : Int) := ⟨v.toInt.toNat, by omega, by omega⟩
      have h1 : ¬ v.toInt < 0 := fun q => hv (Or.inl q)
      have h2 : ¬ 19 < v.toInt := fun q => hv (Or.inr q)
      rcases (show j = 0 ∨ j = 1 ∨ j = 2 ∨ j = 3 ∨ j = 4 ∨ j = 5 ∨ j = 6 ∨ j = 7 ∨ j = 8 ∨ j = 9 ∨ j = 10 ∨ j = 11 ∨ j = 12 ∨ j = 13 ∨ j = 14 ∨ j = 15 ∨ j = 16 ∨ j = 17 ∨ j = 18 ∨ j = 19 by omega) with rfl | rfl | rfl | rfl | rfl | rfl | rfl | rfl | rfl | rfl | rfl | rfl | rfl | rfl | rfl | rfl | rfl | rfl | rfl | rfl
      · exact lv_tableIn (off := 96) (tgt := 136) C0.1 C0.2.1 dL_law_40 h1 h2 (by rw [hvj]; rfl) (by decide) (k_setGround (i := 7 * n) hfl C0 hC hi (by omega) hI hl hf kk)
      · exact lv_tableIn (off := 176) (tgt := 216) C0.1 C0.2.1 dL_law_40 h1 h2 (by rw [hvj]; rfl) (by decide) (k_setWater (i := 7 * n) hfl C0 hC hi (by omega) hI hl hf kk)
      · exact lv_tableIn (off := 244) (tgt := 284) C0.1 C0.2.1 dL_law_40 h1 h2 (by rw [hvj]; rfl) (by decide) (k_setStake (i := 7 * n) hfl C0 hC hi (by omega) hI hl hf kk)
      · exact lv_tableIn (off := 324) (tgt := 364) C0.1 C0.2.1 dL_law_40 h1 h2 (by rw [hvj]; rfl) (by decide) (k_cell (i := 7 * n) hfl C0 hC hi (by omega) hI hl hf kk)
      · exact lv_tableIn (off := 404) (tgt := 444) C0.1 C0.2.1 dL_law_40 h1 h2 (by rw [hvj]; rfl) (by decide) (k_addLanding (i := 7 * n) hfl C0 hC hi (by omega) hI hl hf kk)
      · exact lv_tableIn (off := 472) (tgt := 512) C0.1 C0.2.1 dL_law_40 h1 h2 (by rw [hvj]; rfl) (by decide) (k_launch (i := 7 * n) hfl C0 hC hi (by omega) hI hl hf kk)
      · exact lv_tableIn (off := 590) (tgt := 630) C0.1 C0.2.1 dL_law_40 h1 h2 (by rw [hvj]; rfl) (by decide) (k_setToll (i := 7 * n) hfl C0 hC hi (by omega) hI hl hf kk)
      · exact lv_tableIn (off := 658) (tgt := 698) C0.1 C0.2.1 dL_law_40 h1 h2 (by rw [hvj]; rfl) (by decide) (k_punt (i := 7 * n) hfl C0 hC hi (by omega) hI hl hf kk)
      · exact lv_tableIn (off := 726) (tgt := 766) C0.1 C0.2.1 dL_law_40 h1 h2 (by rw [hvj]; rfl) (by decide) (k_addTraveller (i := 7 * n) hfl C0 hC hi (by omega) hI hl hf kk)
      · exact lv_tableIn (off := 806) (tgt := 846) C0.1 C0.2.1 dL_law_40 h1 h2 (by rw [hvj]; rfl) (by decide) (k_traveller (i := 7 * n) hfl C0 hC hi (by omega) hI hl hf kk)
      · exact lv_tableIn (off := 874) (tgt := 914) C0.1 C0.2.1 dL_law_40 h1 h2 (by rw [hvj]; rfl) (by decide) (k_landing (i := 7 * n) hfl C0 hC hi (by omega) hI hl hf kk)
      · exact lv_tableIn (off := 942) (tgt := 982) C0.1 C0.2.1 dL_law_40 h1 h2 (by rw [hvj]; rfl) (by decide) (k_pass (i := 7 * n) hfl C0 hC hi (by omega) hI hl hf kk)
      · exact lv_tableIn (off := 998) (tgt := 1038) C0.1 C0.2.1 dL_law_40 h1 h2 (by rw [hvj]; rfl) (by decide) (k_count (i := 7 * n) hfl C0 hC hi (by omega) hI hl hf kk)
      · exact lv_tableIn (off := 1054) (tgt := 1094) C0.1 C0.2.1 dL_law_40 h1 h2 (by rw [hvj]; rfl) (by decide) (k_crossing (i := 7 * n) hfl C0 hC hi (by omega) hI hl hf kk)
      · exact lv_tableIn (off := 1122) (tgt := 1162) C0.1 C0.2.1 dL_law_40 h1 h2 (by rw [hvj]; rfl) (by decide) (k_opens (i := 7 * n) hfl C0 hC hi (by omega) hI hl hf kk)
      · exact lv_tableIn (off := 1178) (tgt := 1218) C0.1 C0.2.1 dL_law_40 h1 h2 (by rw [hvj]; rfl) (by decide) (k_chain (i := 7 * n) hfl C0 hC hi (by omega) hI hl hf kk)
      · exact lv_tableIn (off := 1258) (tgt := 1298) C0.1 C0.2.1 dL_law_40 h1 h2 (by rw [hvj]; rfl) (by decide) (k_aground (i := 7 * n) hfl C0 hC hi (by omega) hI hl hf kk)
      · exact lv_tableIn (off := 1326) (tgt := 1366) C0.1 C0.2.1 dL_law_40 h1 h2 (by rw [hvj]; rfl) (by decide) (k_arrives (i := 7 * n) hfl C0 hC hi (by omega) hI hl hf kk)
      · exact lv_tableIn (off := 1382) (tgt := 1422) C0.1 C0.2.1 dL_law_40 h1 h2 (by rw [hvj]; rfl) (by decide) (k_mean (i := 7 * n) hfl C0 hC hi (by omega) hI hl hf kk)
      · exact lv_tableIn (off := 1423) (tgt := 1463) C0.1 C0.2.1 dL_law_40 h1 h2 (by rw [hvj]; rfl) (by decide) (k_digest (i := 7 * n) hfl C0 hC hi (by omega) hI hl hf kk)
theorem law_loop (hfl : l.stackTraces = false) (C0 : CallFix p m c cL_law 9 s #[Value.ref scr] GW RL) (hr : meth.sig.returnType = ret) (hlk : meth.locks = false) (hC : LawC s D cA cL a og scr Ls xs) : ∀ (k n : Nat), n ≤ 512 → Ls < 7 * n + 7 * k → LNext p l e s m below meth c D cA cL a og scr n := by
  intro k
  have hL := hC.hL
  induction k with
  | zero =>
    intro n hn hk b S X Z P L T h f H locs ls cells slots hI hh hl hc hs
    exact law_row hfl C0 hr hlk hC hn hI hh hl hc hs (fun q => absurd q (by omega))
  | succ k ih =>
    intro n hn hk b S X Z P L T h f H locs ls cells slots hI hh hl hc hs
    exact law_row hfl C0 hr hlk hC hn hI hh hl hc hs (fun q => ih (n + 1) (by omega) (by omega))
end LAWL
