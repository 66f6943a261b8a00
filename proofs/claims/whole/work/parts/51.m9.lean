/-! THE REFERENCE'S DIGEST AND MEAN. -/
def QqD (D : va_G) (cA : ClassId) (a : Adr) (I : Nat → Prop) (post : UInt64 → Mem → Mem → Prop) : Array Value → State → Outcome → State → Prop := va_Qd (fun r (u : Mem × Mem) => post r u.1 u.2) (WBq D cA a I) (AI a I)
def ND (l : Launch) (y : MethodName) (cc : ByteArray) (n : Nat) (ret : Option FieldType) (fr lo : Nat) (D : va_G) (cA : ClassId) (a : Adr) (S X : Mem) (I : Nat → Prop) (av : List Value) (post : UInt64 → Mem → Mem → Prop) : Prop :=
  Met l y (.code y cc n ret :: GW) { frames := fr, cells := 0, slots := 0, locals := lo } (PQ D cA a S X I av) (QqD D cA a I post) 0 0 (AI a I)
theorem rtD {p : Program} {l : Launch} {e : Env} {R : Room} {s : State} {m : MethodId} {args : Array Value} {below : List Frame} {meth : Method} {c : Code} {H : Heap} {locs : List Loc} {cc : ByteArray} {nL : Nat} {own : String} {pc : Nat} {ls : Array Slot} {D : va_G} {cA : ClassId} {a : Adr} {I : Nat → Prop} {post : UInt64 → Mem → Mem → Prop} {v : UInt64} {S1 X1 : Mem} (C0 : CallFix p m c cc nL s args GW own) (hr : meth.sig.returnType = some .double) (hlk : meth.locks = false) (hP : WQ D cA a S1 X1 I H) (hS : va_S (AI a I) s.heap H locs) (hp : post v S1 X1) (hdg : decode cc pc = .ok (.dreturn, 1)) :
    W p l e R s m args below meth c H locs 0 0 (MQ below (QqD D cA a I post) args s 0 0 (AI a I)) (F0 m pc ls [.double v]) :=
  W.dret C0.1 C0.2.1 hr (fun t ht _ => ⟨⟨v, (S1, X1), rfl, hp, by show WQ D cA a S1 X1 I t.heap; rw [ht]; exact hP⟩, hS.F ht⟩) hS.2.2 hdg hlk
section CLS
variable {p : Program} {l : Launch} {e : Env} {R : Room} {s : State} {m : MethodId} {args : Array Value} {below : List Frame} {meth : Method} {c : Code} {H : Heap} {locs : List Loc} {cells slots : Nat} {Q : State → Prop}
variable {cc : ByteArray} {nL : Nat} {own : String} {pc : Nat} {ls : Array Slot} {rest : List Value} {D : va_G} {cA : ClassId} {a : Adr} {S X : Mem} {I : Nat → Prop} {H0 : Heap} {A0 : Nat → Prop}
set_option maxHeartbeats 4000000 in
set_option maxRecDepth 100000 in
theorem c_X9_digest (l : Launch) (D : va_G) (cA : ClassId) (a : Adr) (S X : Mem) (I : Nat → Prop) (hd : Hd nM a I) {P : Nat} {L : Nat} {T : Nat} {h : Nat} (hnP : S 82 0 = nI P) (hnL : S 81 0 = nI L) (hnT : S 85 0 = nI T) (hT30 : T ≤ 30) (hnH : S 86 0 = nI h) (hh : h < 2 ^ 31) (hTW : TW S P L) (hTl : TlW S P) (hTr : TrW S P L T) : NL l yX9_digest cX9_digest 5 (some .long) 5 116 D cA a S X I [.ref (a 20)] (fun r S1 X1 => r = digS S P L T h ∧ S1 = S) := by
  refine nGo (by decide) (Nat.le_of_ble_eq_true rfl) ?_
  intro p e s m args below meth c ls C0 hr hlk hK hP hS hl hargs
  obtain ⟨H, hHe⟩ : ∃ H, H = s.heap := ⟨_, rfl⟩
  obtain ⟨locs, hlo⟩ : ∃ L : List Loc, L = [] := ⟨_, rfl⟩
  have hP : WQ D cA a S X I H := hHe ▸ hP
  have hS : va_S (AI a I) s.heap H locs := by rw [hHe, hlo]; exact hS
  rw [← hHe, ← hlo]
  have hA : ∀ q, AI a I q → AI a I q := fun _ h => h
  obtain ⟨hLnk, hP6, hL8, h17, h16, h8, h3, h2⟩ := id hTW
  refine lv_aload_n C0.1 C0.2.1 dX9_digest_0 rfl (lv_at hl 0 rfl) ?_
  refine lv_iconst (v := 0) C0.1 C0.2.1 dX9_digest_1 (by decide) ?_
  refine p20 C0 hK hP hS hA (hd.1 _ (by decide)) hd.2.2 0 (by decide) fl_X9_40 rfl (by decide +kernel) (x := 0) S (up X 87 (fun _ => 0)) rfl (fun k9 _ h9 => cm_num (fun _ _ => rfl) (fun k9 h9 => up_ne (by omega)) h9) dX9_digest_2 (fun H locs hP hS => ?_)
  have hP : WQ D cA a S (up X 87 (fun _ => 0)) I H := hP
  refine lv_ldc2 (v := 557) C0.1 C0.2.1 C0.2.2.2.1 (C0.2.2.2.2 _ kc_X9_192) dX9_digest_5 ?_
  refine lv_lstore_n (lv' := [(1, .long 557), (0, .ref (a 20))]) C0.1 C0.2.1 dX9_digest_8 rfl hl (by decide) rfl (fun ls hl => ?_)
  refine lv_iconst (v := 0) C0.1 C0.2.1 dX9_digest_9 (by decide) ?_
  refine lv_istore_n (lv' := [(3, .int 0), (1, .long 557), (0, .ref (a 20))]) C0.1 C0.2.1 dX9_digest_10 rfl hl (by decide) rfl (fun ls hl => ?_)
  have loop11 : ∀ (n : Nat) (i : Nat) (d : Int64), (i ≤ 11) → (11 + 1 ≤ i + n) → (d = dgL (fun w => couS S P L T h (nI w)) i 557) → ∀ (H : Heap) (locs : List Loc) (ls : Array Slot), WQ D cA a S (up X 87 (fun _ => 0)) I H → va_S (AI a I) s.heap H locs → lv_has ls 5 [(3, .int (nI i)), (1, .long d), (0, .ref (a 20))] → W p l e { frames := 5, cells := 0, slots := 0, locals := 116 } s m args below meth c H locs (0) (0) (MQ below (QqL D cA a I (fun r S1 X1 => r = digS S P L T h ∧ S1 = S)) args s 0 0 (AI a I)) (F0 m 11 ls []) := by
    intro n
    induction n with
    | zero => intro i d hi hf hdg; exfalso; omega
    | succ n ih11 =>
      intro i d hi hf hdg H locs ls hP hS hl
      refine lv_iload_n C0.1 C0.2.1 dX9_digest_11 rfl (lv_at hl 0 rfl) ?_
      refine lv_bipush (v := 11) C0.1 C0.2.1 dX9_digest_12 (by decide) ?_
      refine lv_icmp_ge (tgt := 36) C0.1 C0.2.1 dX9_digest_14 (by decide) (fun c_14 => ?_) (fun c_14 => ?_)
      · have hge : 11 ≤ i := (nI_leI (by omega) (by omega)).mp c_14
        refine lv_iconst (v := 0) C0.1 C0.2.1 dX9_digest_36 (by decide) ?_
        refine lv_istore_n (lv' := [(3, .int 0), (1, .long d), (0, .ref (a 20))]) C0.1 C0.2.1 dX9_digest_37 rfl hl (by decide) rfl (fun ls hl => ?_)
        have loop38 : ∀ (n : Nat) (iw : Nat) (dw : Int64), (iw ≤ 12) → (12 + 1 ≤ iw + n) → (dw = dgL (S 2) iw (dgL (fun w => couS S P L T h (nI w)) 11 557)) → ∀ (H : Heap) (locs : List Loc) (ls : Array Slot), WQ D cA a S (up X 87 (fun _ => 0)) I H → va_S (AI a I) s.heap H locs → lv_has ls 5 [(3, .int (nI iw)), (1, .long dw), (0, .ref (a 20))] → W p l e { frames := 5, cells := 0, slots := 0, locals := 116 } s m args below meth c H locs (0) (0) (MQ below (QqL D cA a I (fun r S1 X1 => r = digS S P L T h ∧ S1 = S)) args s 0 0 (AI a I)) (F0 m 38 ls []) := by
          intro n
          induction n with
          | zero => intro iw dw hiiw hfiw hdw; exfalso; omega
          | succ n ih38 =>
            intro iw dw hiiw hfiw hdw H locs ls hP hS hl
            refine lv_iload_n C0.1 C0.2.1 dX9_digest_38 rfl (lv_at hl 0 rfl) ?_
            refine lv_bipush (v := 12) C0.1 C0.2.1 dX9_digest_39 (by decide) ?_
            refine lv_icmp_ge (tgt := 64) C0.1 C0.2.1 dX9_digest_41 (by decide) (fun c_41 => ?_) (fun c_41 => ?_)
            · have hgeiw : 12 ≤ iw := (nI_leI (by omega) (by omega)).mp c_41
              refine lv_iconst (v := 0) C0.1 C0.2.1 dX9_digest_64 (by decide) ?_
              refine lv_istore_n (lv' := [(3, .int 0), (1, .long dw), (0, .ref (a 20))]) C0.1 C0.2.1 dX9_digest_65 rfl hl (by decide) rfl (fun ls hl => ?_)
              have loop66 : ∀ (n : Nat) (ic : Nat) (dp : Int64), (ic ≤ 196) → (196 + 1 ≤ ic + n) → (dp = dgP (S 0) (S 1) ic (dgL (S 2) 12 (dgL (fun w => couS S P L T h (nI w)) 11 557))) → ∀ (H : Heap) (locs : List Loc) (ls : Array Slot), WQ D cA a S (up X 87 (fun _ => 0)) I H → va_S (AI a I) s.heap H locs → lv_has ls 5 [(3, .int (nI ic)), (1, .long dp), (0, .ref (a 20))] → W p l e { frames := 5, cells := 0, slots := 0, locals := 116 } s m args below meth c H locs (0) (0) (MQ below (QqL D cA a I (fun r S1 X1 => r = digS S P L T h ∧ S1 = S)) args s 0 0 (AI a I)) (F0 m 66 ls []) := by
                intro n
                induction n with
                | zero => intro ic dp hiic hfic hdp; exfalso; omega
                | succ n ih66 =>
                  intro ic dp hiic hfic hdp H locs ls hP hS hl
                  refine lv_iload_n C0.1 C0.2.1 dX9_digest_66 rfl (lv_at hl 0 rfl) ?_
                  refine lv_sipush (v := 196) C0.1 C0.2.1 dX9_digest_67 (by decide) ?_
                  refine lv_icmp_ge (tgt := 105) C0.1 C0.2.1 dX9_digest_70 (by decide) (fun c_70 => ?_) (fun c_70 => ?_)
                  · have hgeic : 196 ≤ ic := (nI_leI (by omega) (by omega)).mp c_70
                    refine lv_iconst (v := 0) C0.1 C0.2.1 dX9_digest_105 (by decide) ?_
                    refine lv_istore_n (lv' := [(3, .int 0), (1, .long dp), (0, .ref (a 20))]) C0.1 C0.2.1 dX9_digest_106 rfl hl (by decide) rfl (fun ls hl => ?_)
                    have loop107 : ∀ (n : Nat) (i1 : Nat) (d1 : Int64), (i1 ≤ L) → (L + 1 ≤ i1 + n) → (d1 = dgO (fun x w => lanS S P T x (nI w)) 5 i1 (dgP (S 0) (S 1) 196 (dgL (S 2) 12 (dgL (fun w => couS S P L T h (nI w)) 11 557)))) → ∀ (H : Heap) (locs : List Loc) (ls : Array Slot), WQ D cA a S (up X 87 (fun _ => 0)) I H → va_S (AI a I) s.heap H locs → lv_has ls 5 [(3, .int (nI i1)), (1, .long d1), (0, .ref (a 20))] → W p l e { frames := 5, cells := 0, slots := 0, locals := 116 } s m args below meth c H locs (0) (0) (MQ below (QqL D cA a I (fun r S1 X1 => r = digS S P L T h ∧ S1 = S)) args s 0 0 (AI a I)) (F0 m 107 ls []) := by
                      intro n
                      induction n with
                      | zero => intro i1 d1 hii1 hfi1 hd1; exfalso; omega
                      | succ n ih107 =>
                        intro i1 d1 hii1 hfi1 hd1 H locs ls hP hS hl
                        refine lv_iload_n C0.1 C0.2.1 dX9_digest_107 rfl (lv_at hl 0 rfl) ?_
                        refine lv_aload_n C0.1 C0.2.1 dX9_digest_108 rfl (lv_at hl 2 rfl) ?_
                        refine g20i (v := nI L) C0 hK hP (hd.1 _ (by decide)) 4 (by decide) fl_X9_48 rfl hnL dX9_digest_109 ?_
                        refine lv_icmp_ge (tgt := 151) C0.1 C0.2.1 dX9_digest_112 (by decide) (fun c_112 => ?_) (fun c_112 => ?_)
                        · have hgei1 : L ≤ i1 := (nI_leI (by omega) (by omega)).mp c_112
                          refine lv_iconst (v := 0) C0.1 C0.2.1 dX9_digest_151 (by decide) ?_
                          refine lv_istore_n (lv' := [(3, .int 0), (1, .long d1), (0, .ref (a 20))]) C0.1 C0.2.1 dX9_digest_152 rfl hl (by decide) rfl (fun ls hl => ?_)
                          have loop153 : ∀ (n : Nat) (i2 : Nat) (Xv : Mem) (d2 : Int64), (i2 ≤ P) → (P + 1 ≤ i2 + n) → (d2 = dgO (fun p w => punS S T h p (nI w)) 9 i2 (dgO (fun x w => lanS S P T x (nI w)) 5 L (dgP (S 0) (S 1) 196 (dgL (S 2) 12 (dgL (fun w => couS S P L T h (nI w)) 11 557))))) → ∀ (H : Heap) (locs : List Loc) (ls : Array Slot), WQ D cA a S Xv I H → va_S (AI a I) s.heap H locs → lv_has ls 5 [(3, .int (nI i2)), (1, .long d2), (0, .ref (a 20))] → W p l e { frames := 5, cells := 0, slots := 0, locals := 116 } s m args below meth c H locs (0) (0) (MQ below (QqL D cA a I (fun r S1 X1 => r = digS S P L T h ∧ S1 = S)) args s 0 0 (AI a I)) (F0 m 153 ls []) := by
                            intro n
                            induction n with
                            | zero => intro i2 Xv d2 hii2 hfi2 hd2; exfalso; omega
                            | succ n ih153 =>
                              intro i2 Xv d2 hii2 hfi2 hd2 H locs ls hP hS hl
                              refine lv_iload_n C0.1 C0.2.1 dX9_digest_153 rfl (lv_at hl 0 rfl) ?_
                              refine lv_aload_n C0.1 C0.2.1 dX9_digest_154 rfl (lv_at hl 2 rfl) ?_
                              refine g20i (v := nI P) C0 hK hP (hd.1 _ (by decide)) 6 (by decide) fl_X9_51 rfl hnP dX9_digest_155 ?_
                              refine lv_icmp_ge (tgt := 198) C0.1 C0.2.1 dX9_digest_158 (by decide) (fun c_158 => ?_) (fun c_158 => ?_)
                              · have hgei2 : P ≤ i2 := (nI_leI (by omega) (by omega)).mp c_158
                                refine lv_iconst (v := 0) C0.1 C0.2.1 dX9_digest_198 (by decide) ?_
                                refine lv_istore_n (lv' := [(3, .int 0), (1, .long d2), (0, .ref (a 20))]) C0.1 C0.2.1 dX9_digest_199 rfl hl (by decide) rfl (fun ls hl => ?_)
                                have loop200 : ∀ (n : Nat) (i3 : Nat) (Xv : Mem) (d3 : Int64), (i3 ≤ T) → (T + 1 ≤ i3 + n) → (d3 = dgO (fun t w => trvS S P t (nI w)) 7 i3 (dgO (fun p w => punS S T h p (nI w)) 9 P (dgO (fun x w => lanS S P T x (nI w)) 5 L (dgP (S 0) (S 1) 196 (dgL (S 2) 12 (dgL (fun w => couS S P L T h (nI w)) 11 557)))))) → ∀ (H : Heap) (locs : List Loc) (ls : Array Slot), WQ D cA a S Xv I H → va_S (AI a I) s.heap H locs → lv_has ls 5 [(3, .int (nI i3)), (1, .long d3), (0, .ref (a 20))] → W p l e { frames := 5, cells := 0, slots := 0, locals := 116 } s m args below meth c H locs (0) (0) (MQ below (QqL D cA a I (fun r S1 X1 => r = digS S P L T h ∧ S1 = S)) args s 0 0 (AI a I)) (F0 m 200 ls []) := by
                                  intro n
                                  induction n with
                                  | zero => intro i3 Xv d3 hii3 hfi3 hd3; exfalso; omega
                                  | succ n ih200 =>
                                    intro i3 Xv d3 hii3 hfi3 hd3 H locs ls hP hS hl
                                    refine lv_iload_n C0.1 C0.2.1 dX9_digest_200 rfl (lv_at hl 0 rfl) ?_
                                    refine lv_aload_n C0.1 C0.2.1 dX9_digest_201 rfl (lv_at hl 2 rfl) ?_
                                    refine g20i (v := nI T) C0 hK hP (hd.1 _ (by decide)) 8 (by decide) fl_X9_113 rfl hnT dX9_digest_202 ?_
                                    refine lv_icmp_ge (tgt := 245) C0.1 C0.2.1 dX9_digest_205 (by decide) (fun c_205 => ?_) (fun c_205 => ?_)
                                    · have hgei3 : T ≤ i3 := (nI_leI (by omega) (by omega)).mp c_205
                                      refine lv_lload_n C0.1 C0.2.1 dX9_digest_245 rfl (lv_at hl 1 rfl) ?_
                                      exact rtL C0 hr hlk hP hS ⟨by rw [hd3, show i3 = T by omega, digS], rfl⟩ dX9_digest_246
                                    · have hlti3 : i3 < T := Nat.not_le.mp fun q => c_205 (nI_le q (by omega))
                                      refine lv_iconst (v := 0) C0.1 C0.2.1 dX9_digest_208 (by decide) ?_
                                      refine lv_istore (lv' := [(4, .int 0), (3, .int (nI i3)), (1, .long d3), (0, .ref (a 20))]) C0.1 C0.2.1 dX9_digest_209 hl (by decide) rfl (fun ls hl => ?_)
                                      have loop211 : ∀ (n : Nat) (q3 : Nat) (Xv : Mem) (dq3 : Int64), (q3 ≤ 7) → (7 + 1 ≤ q3 + n) → (dq3 = dgL ((fun t w => trvS S P t (nI w)) i3) q3 (dgO (fun t w => trvS S P t (nI w)) 7 i3 (dgO (fun p w => punS S T h p (nI w)) 9 P (dgO (fun x w => lanS S P T x (nI w)) 5 L (dgP (S 0) (S 1) 196 (dgL (S 2) 12 (dgL (fun w => couS S P L T h (nI w)) 11 557))))))) → ∀ (H : Heap) (locs : List Loc) (ls : Array Slot), WQ D cA a S Xv I H → va_S (AI a I) s.heap H locs → lv_has ls 5 [(4, .int (nI q3)), (3, .int (nI i3)), (1, .long dq3), (0, .ref (a 20))] → W p l e { frames := 5, cells := 0, slots := 0, locals := 116 } s m args below meth c H locs (0) (0) (MQ below (QqL D cA a I (fun r S1 X1 => r = digS S P L T h ∧ S1 = S)) args s 0 0 (AI a I)) (F0 m 211 ls []) := by
                                        intro n
                                        induction n with
                                        | zero => intro q3 Xv dq3 hiq3 hfq3 hdq3; exfalso; omega
                                        | succ n ih211 =>
                                          intro q3 Xv dq3 hiq3 hfq3 hdq3 H locs ls hP hS hl
                                          refine lv_iload C0.1 C0.2.1 dX9_digest_211 (lv_at hl 0 rfl) ?_
                                          refine lv_bipush (v := 7) C0.1 C0.2.1 dX9_digest_213 (by decide) ?_
                                          refine lv_icmp_ge (tgt := 239) C0.1 C0.2.1 dX9_digest_215 (by decide) (fun c_215 => ?_) (fun c_215 => ?_)
                                          · have hgeq3 : 7 ≤ q3 := (nI_leI (by omega) (by omega)).mp c_215
                                            refine lv_iinc (v := nI (i3 + 1)) (lv' := [(3, .int (nI (i3 + 1))), (4, .int (nI q3)), (1, .long dq3), (0, .ref (a 20))]) C0.1 C0.2.1 dX9_digest_239 hl (k := 1) rfl (nI_1 _) (by decide) rfl (fun ls hl => ?_)
                                            refine lv_goto (tgt := 200) C0.1 C0.2.1 dX9_digest_242 (by decide) ?_
                                            exact ih200 (i3 + 1) _ _ (by omega) (by omega) (by rw [hdq3, show q3 = 7 by omega, dgO_succ]) _ _ _ hP hS (lv_sub hl [0, 2, 3] rfl)
                                          · have hltq3 : q3 < 7 := Nat.not_le.mp fun q => c_215 (nI_le q (by omega))
                                            refine lv_lload_n C0.1 C0.2.1 dX9_digest_218 rfl (lv_at hl 2 rfl) ?_
                                            refine lv_ldc2 (v := 31) C0.1 C0.2.1 C0.2.2.2.1 (C0.2.2.2.2 _ kc_X9_194) dX9_digest_219 ?_
                                            refine lv_lmul C0.1 C0.2.1 dX9_digest_222 ?_
                                            refine lv_aload_n C0.1 C0.2.1 dX9_digest_223 rfl (lv_at hl 3 rfl) ?_
                                            refine lv_iload_n C0.1 C0.2.1 dX9_digest_224 rfl (lv_at hl 1 rfl) ?_
                                            refine lv_iload C0.1 C0.2.1 dX9_digest_225 (lv_at hl 0 rfl) ?_
                                            refine k_X9_travellerTold hd sId C0 hK hP hnP hnL hnT hT30 hTW hTl hTr hlti3 hltq3 hS hA hl.1 ml_X9_150 ⟨Nat.le_of_ble_eq_true rfl, Nat.le_of_ble_eq_true rfl⟩ ⟨Nat.zero_le _, Nat.zero_le _⟩ (Nat.le_of_ble_eq_true rfl) dX9_digest_227 (fun v_4 S_2 X_3 H locs hx_1 hP hS => ?_)
                                            obtain ⟨hrv, hs1, hXk⟩ := hx_1
                                            rw [hs1] at hP
                                            subst hrv
                                            refine lv_i2l C0.1 C0.2.1 dX9_digest_230 rfl ?_
                                            refine lv_ladd C0.1 C0.2.1 dX9_digest_231 ?_
                                            refine lv_lstore_n (lv' := [(1, .long ((dq3 * 31) + ((trvS S P i3 (nI q3)).toInt64))), (4, .int (nI q3)), (3, .int (nI i3)), (0, .ref (a 20))]) C0.1 C0.2.1 dX9_digest_232 rfl hl (by decide) rfl (fun ls hl => ?_)
                                            refine lv_iinc (v := nI (q3 + 1)) (lv' := [(4, .int (nI (q3 + 1))), (1, .long ((dq3 * 31) + ((trvS S P i3 (nI q3)).toInt64))), (3, .int (nI i3)), (0, .ref (a 20))]) C0.1 C0.2.1 dX9_digest_233 hl (k := 1) rfl (nI_1 _) (by decide) rfl (fun ls hl => ?_)
                                            refine lv_goto (tgt := 211) C0.1 C0.2.1 dX9_digest_236 (by decide) ?_
                                            exact ih211 (q3 + 1) _ _ (by omega) (by omega) (by rw [hdq3, dgL_succ _ q3]) _ _ _ hP hS (lv_sub hl [0, 2, 1, 3] rfl)
                                      exact loop211 (7 + 1) 0 _ _ (by omega) (by omega) (by rw [hd3, dgL_zero]) _ _ _ hP hS (lv_sub hl [0, 1, 2, 3] rfl)
                                exact loop200 (T + 1) 0 _ _ (by omega) (by omega) (by rw [hd2, show i2 = P by omega, dgO_zero]) _ _ _ hP hS (lv_sub hl [0, 1, 2] rfl)
                              · have hlti2 : i2 < P := Nat.not_le.mp fun q => c_158 (nI_le q (by omega))
                                refine lv_iconst (v := 0) C0.1 C0.2.1 dX9_digest_161 (by decide) ?_
                                refine lv_istore (lv' := [(4, .int 0), (3, .int (nI i2)), (1, .long d2), (0, .ref (a 20))]) C0.1 C0.2.1 dX9_digest_162 hl (by decide) rfl (fun ls hl => ?_)
                                have loop164 : ∀ (n : Nat) (q2 : Nat) (Xv : Mem) (dq2 : Int64), (q2 ≤ 9) → (9 + 1 ≤ q2 + n) → (dq2 = dgL ((fun p w => punS S T h p (nI w)) i2) q2 (dgO (fun p w => punS S T h p (nI w)) 9 i2 (dgO (fun x w => lanS S P T x (nI w)) 5 L (dgP (S 0) (S 1) 196 (dgL (S 2) 12 (dgL (fun w => couS S P L T h (nI w)) 11 557)))))) → ∀ (H : Heap) (locs : List Loc) (ls : Array Slot), WQ D cA a S Xv I H → va_S (AI a I) s.heap H locs → lv_has ls 5 [(4, .int (nI q2)), (3, .int (nI i2)), (1, .long dq2), (0, .ref (a 20))] → W p l e { frames := 5, cells := 0, slots := 0, locals := 116 } s m args below meth c H locs (0) (0) (MQ below (QqL D cA a I (fun r S1 X1 => r = digS S P L T h ∧ S1 = S)) args s 0 0 (AI a I)) (F0 m 164 ls []) := by
                                  intro n
                                  induction n with
                                  | zero => intro q2 Xv dq2 hiq2 hfq2 hdq2; exfalso; omega
                                  | succ n ih164 =>
                                    intro q2 Xv dq2 hiq2 hfq2 hdq2 H locs ls hP hS hl
                                    refine lv_iload C0.1 C0.2.1 dX9_digest_164 (lv_at hl 0 rfl) ?_
                                    refine lv_bipush (v := 9) C0.1 C0.2.1 dX9_digest_166 (by decide) ?_
                                    refine lv_icmp_ge (tgt := 192) C0.1 C0.2.1 dX9_digest_168 (by decide) (fun c_168 => ?_) (fun c_168 => ?_)
                                    · have hgeq2 : 9 ≤ q2 := (nI_leI (by omega) (by omega)).mp c_168
                                      refine lv_iinc (v := nI (i2 + 1)) (lv' := [(3, .int (nI (i2 + 1))), (4, .int (nI q2)), (1, .long dq2), (0, .ref (a 20))]) C0.1 C0.2.1 dX9_digest_192 hl (k := 1) rfl (nI_1 _) (by decide) rfl (fun ls hl => ?_)
                                      refine lv_goto (tgt := 153) C0.1 C0.2.1 dX9_digest_195 (by decide) ?_
                                      exact ih153 (i2 + 1) _ _ (by omega) (by omega) (by rw [hdq2, show q2 = 9 by omega, dgO_succ]) _ _ _ hP hS (lv_sub hl [0, 2, 3] rfl)
                                    · have hltq2 : q2 < 9 := Nat.not_le.mp fun q => c_168 (nI_le q (by omega))
                                      refine lv_lload_n C0.1 C0.2.1 dX9_digest_171 rfl (lv_at hl 2 rfl) ?_
                                      refine lv_ldc2 (v := 31) C0.1 C0.2.1 C0.2.2.2.1 (C0.2.2.2.2 _ kc_X9_194) dX9_digest_172 ?_
                                      refine lv_lmul C0.1 C0.2.1 dX9_digest_175 ?_
                                      refine lv_aload_n C0.1 C0.2.1 dX9_digest_176 rfl (lv_at hl 3 rfl) ?_
                                      refine lv_iload_n C0.1 C0.2.1 dX9_digest_177 rfl (lv_at hl 1 rfl) ?_
                                      refine lv_iload C0.1 C0.2.1 dX9_digest_178 (lv_at hl 0 rfl) ?_
                                      refine k_X9_puntTold hd sId C0 hK hP hnP hnT hT30 hnH hh hTW hlti2 hS hA hl.1 ml_X9_131 ⟨Nat.le_of_ble_eq_true rfl, Nat.le_of_ble_eq_true rfl⟩ ⟨Nat.zero_le _, Nat.zero_le _⟩ (Nat.le_of_ble_eq_true rfl) dX9_digest_180 (fun v_8 S_6 X_7 H locs hx_5 hP hS => ?_)
                                      obtain ⟨hrv, hs1, hXk⟩ := hx_5
                                      rw [hs1] at hP
                                      subst hrv
                                      refine lv_i2l C0.1 C0.2.1 dX9_digest_183 rfl ?_
                                      refine lv_ladd C0.1 C0.2.1 dX9_digest_184 ?_
                                      refine lv_lstore_n (lv' := [(1, .long ((dq2 * 31) + ((punS S T h i2 (nI q2)).toInt64))), (4, .int (nI q2)), (3, .int (nI i2)), (0, .ref (a 20))]) C0.1 C0.2.1 dX9_digest_185 rfl hl (by decide) rfl (fun ls hl => ?_)
                                      refine lv_iinc (v := nI (q2 + 1)) (lv' := [(4, .int (nI (q2 + 1))), (1, .long ((dq2 * 31) + ((punS S T h i2 (nI q2)).toInt64))), (3, .int (nI i2)), (0, .ref (a 20))]) C0.1 C0.2.1 dX9_digest_186 hl (k := 1) rfl (nI_1 _) (by decide) rfl (fun ls hl => ?_)
                                      refine lv_goto (tgt := 164) C0.1 C0.2.1 dX9_digest_189 (by decide) ?_
                                      exact ih164 (q2 + 1) _ _ (by omega) (by omega) (by rw [hdq2, dgL_succ _ q2]) _ _ _ hP hS (lv_sub hl [0, 2, 1, 3] rfl)
                                exact loop164 (9 + 1) 0 _ _ (by omega) (by omega) (by rw [hd2, dgL_zero]) _ _ _ hP hS (lv_sub hl [0, 1, 2, 3] rfl)
                          exact loop153 (P + 1) 0 _ _ (by omega) (by omega) (by rw [hd1, show i1 = L by omega, dgO_zero]) _ _ _ hP hS (lv_sub hl [0, 1, 2] rfl)
                        · have hlti1 : i1 < L := Nat.not_le.mp fun q => c_112 (nI_le q (by omega))
                          refine lv_iconst (v := 0) C0.1 C0.2.1 dX9_digest_115 (by decide) ?_
                          refine lv_istore (lv' := [(4, .int 0), (3, .int (nI i1)), (1, .long d1), (0, .ref (a 20))]) C0.1 C0.2.1 dX9_digest_116 hl (by decide) rfl (fun ls hl => ?_)
                          have loop118 : ∀ (n : Nat) (q1 : Nat) (dq1 : Int64), (q1 ≤ 5) → (5 + 1 ≤ q1 + n) → (dq1 = dgL ((fun x w => lanS S P T x (nI w)) i1) q1 (dgO (fun x w => lanS S P T x (nI w)) 5 i1 (dgP (S 0) (S 1) 196 (dgL (S 2) 12 (dgL (fun w => couS S P L T h (nI w)) 11 557))))) → ∀ (H : Heap) (locs : List Loc) (ls : Array Slot), WQ D cA a S (up X 87 (fun _ => 0)) I H → va_S (AI a I) s.heap H locs → lv_has ls 5 [(4, .int (nI q1)), (3, .int (nI i1)), (1, .long dq1), (0, .ref (a 20))] → W p l e { frames := 5, cells := 0, slots := 0, locals := 116 } s m args below meth c H locs (0) (0) (MQ below (QqL D cA a I (fun r S1 X1 => r = digS S P L T h ∧ S1 = S)) args s 0 0 (AI a I)) (F0 m 118 ls []) := by
                            intro n
                            induction n with
                            | zero => intro q1 dq1 hiq1 hfq1 hdq1; exfalso; omega
                            | succ n ih118 =>
                              intro q1 dq1 hiq1 hfq1 hdq1 H locs ls hP hS hl
                              refine lv_iload C0.1 C0.2.1 dX9_digest_118 (lv_at hl 0 rfl) ?_
                              refine lv_iconst (v := 5) C0.1 C0.2.1 dX9_digest_120 (by decide) ?_
                              refine lv_icmp_ge (tgt := 145) C0.1 C0.2.1 dX9_digest_121 (by decide) (fun c_121 => ?_) (fun c_121 => ?_)
                              · have hgeq1 : 5 ≤ q1 := (nI_leI (by omega) (by omega)).mp c_121
                                refine lv_iinc (v := nI (i1 + 1)) (lv' := [(3, .int (nI (i1 + 1))), (4, .int (nI q1)), (1, .long dq1), (0, .ref (a 20))]) C0.1 C0.2.1 dX9_digest_145 hl (k := 1) rfl (nI_1 _) (by decide) rfl (fun ls hl => ?_)
                                refine lv_goto (tgt := 107) C0.1 C0.2.1 dX9_digest_148 (by decide) ?_
                                exact ih107 (i1 + 1) _ (by omega) (by omega) (by rw [hdq1, show q1 = 5 by omega, dgO_succ]) _ _ _ hP hS (lv_sub hl [0, 2, 3] rfl)
                              · have hltq1 : q1 < 5 := Nat.not_le.mp fun q => c_121 (nI_le q (by omega))
                                refine lv_lload_n C0.1 C0.2.1 dX9_digest_124 rfl (lv_at hl 2 rfl) ?_
                                refine lv_ldc2 (v := 31) C0.1 C0.2.1 C0.2.2.2.1 (C0.2.2.2.2 _ kc_X9_194) dX9_digest_125 ?_
                                refine lv_lmul C0.1 C0.2.1 dX9_digest_128 ?_
                                refine lv_aload_n C0.1 C0.2.1 dX9_digest_129 rfl (lv_at hl 3 rfl) ?_
                                refine lv_iload_n C0.1 C0.2.1 dX9_digest_130 rfl (lv_at hl 1 rfl) ?_
                                refine lv_iload C0.1 C0.2.1 dX9_digest_131 (lv_at hl 0 rfl) ?_
                                refine k_X9_landingTold hd sId C0 hK hP hnP hnT hT30 hTW hlti1 hltq1 (v := lanS S P T i1 (nI q1)) rfl hS hA hl.1 ml_X9_153 ⟨Nat.le_of_ble_eq_true rfl, Nat.le_of_ble_eq_true rfl⟩ ⟨Nat.zero_le _, Nat.zero_le _⟩ (Nat.le_of_ble_eq_true rfl) dX9_digest_133 (fun H locs hP hS => ?_)
                                refine lv_i2l C0.1 C0.2.1 dX9_digest_136 rfl ?_
                                refine lv_ladd C0.1 C0.2.1 dX9_digest_137 ?_
                                refine lv_lstore_n (lv' := [(1, .long ((dq1 * 31) + ((lanS S P T i1 (nI q1)).toInt64))), (4, .int (nI q1)), (3, .int (nI i1)), (0, .ref (a 20))]) C0.1 C0.2.1 dX9_digest_138 rfl hl (by decide) rfl (fun ls hl => ?_)
                                refine lv_iinc (v := nI (q1 + 1)) (lv' := [(4, .int (nI (q1 + 1))), (1, .long ((dq1 * 31) + ((lanS S P T i1 (nI q1)).toInt64))), (3, .int (nI i1)), (0, .ref (a 20))]) C0.1 C0.2.1 dX9_digest_139 hl (k := 1) rfl (nI_1 _) (by decide) rfl (fun ls hl => ?_)
                                refine lv_goto (tgt := 118) C0.1 C0.2.1 dX9_digest_142 (by decide) ?_
                                exact ih118 (q1 + 1) _ (by omega) (by omega) (by rw [hdq1, dgL_succ _ q1]) _ _ _ hP hS (lv_sub hl [0, 2, 1, 3] rfl)
                          exact loop118 (5 + 1) 0 _ (by omega) (by omega) (by rw [hd1, dgL_zero]) _ _ _ hP hS (lv_sub hl [0, 1, 2, 3] rfl)
                    exact loop107 (L + 1) 0 _ (by omega) (by omega) (by rw [hdp, show ic = 196 by omega, dgO_zero]) _ _ _ hP hS (lv_sub hl [0, 1, 2] rfl)
                  · have hltic : ic < 196 := Nat.not_le.mp fun q => c_70 (nI_le q (by omega))
                    refine lv_lload_n C0.1 C0.2.1 dX9_digest_73 rfl (lv_at hl 1 rfl) ?_
                    refine lv_ldc2 (v := 31) C0.1 C0.2.1 C0.2.2.2.1 (C0.2.2.2.2 _ kc_X9_194) dX9_digest_74 ?_
                    refine lv_lmul C0.1 C0.2.1 dX9_digest_77 ?_
                    refine lv_aload_n C0.1 C0.2.1 dX9_digest_78 rfl (lv_at hl 2 rfl) ?_
                    refine g20 C0 hK hP (hd.1 _ (by decide)) 1 (by decide) fl_X9_9 rfl dX9_digest_79 ?_
                    refine lv_iload_n C0.1 C0.2.1 dX9_digest_82 rfl (lv_at hl 0 rfl) ?_
                    refine mld (k := 0) (by decide) C0 hK hP (hd.1 _ (by decide)) (v := S 0 ic) (vp_in_nI (show ic < 196 by omega) (by decide)) ((rg_in (n := 196) (vp_in_nI (show ic < 196 by omega) (by decide))).symm.trans (rg_nI (show ic < 196 by omega) (by decide))) dX9_digest_83 ?_
                    refine lv_i2l C0.1 C0.2.1 dX9_digest_84 rfl ?_
                    refine lv_ladd C0.1 C0.2.1 dX9_digest_85 ?_
                    refine lv_ldc2 (v := 31) C0.1 C0.2.1 C0.2.2.2.1 (C0.2.2.2.2 _ kc_X9_194) dX9_digest_86 ?_
                    refine lv_lmul C0.1 C0.2.1 dX9_digest_89 ?_
                    refine lv_aload_n C0.1 C0.2.1 dX9_digest_90 rfl (lv_at hl 2 rfl) ?_
                    refine g20 C0 hK hP (hd.1 _ (by decide)) 2 (by decide) fl_X9_13 rfl dX9_digest_91 ?_
                    refine lv_iload_n C0.1 C0.2.1 dX9_digest_94 rfl (lv_at hl 0 rfl) ?_
                    refine mld (k := 1) (by decide) C0 hK hP (hd.1 _ (by decide)) (v := S 1 ic) (vp_in_nI (show ic < 196 by omega) (by decide)) ((rg_in (n := 196) (vp_in_nI (show ic < 196 by omega) (by decide))).symm.trans (rg_nI (show ic < 196 by omega) (by decide))) dX9_digest_95 ?_
                    refine lv_i2l C0.1 C0.2.1 dX9_digest_96 rfl ?_
                    refine lv_ladd C0.1 C0.2.1 dX9_digest_97 ?_
                    refine lv_lstore_n (lv' := [(1, .long ((((dp * 31) + ((S 0 ic).toInt64)) * 31) + ((S 1 ic).toInt64))), (3, .int (nI ic)), (0, .ref (a 20))]) C0.1 C0.2.1 dX9_digest_98 rfl hl (by decide) rfl (fun ls hl => ?_)
                    refine lv_iinc (v := nI (ic + 1)) (lv' := [(3, .int (nI (ic + 1))), (1, .long ((((dp * 31) + ((S 0 ic).toInt64)) * 31) + ((S 1 ic).toInt64))), (0, .ref (a 20))]) C0.1 C0.2.1 dX9_digest_99 hl (k := 1) rfl (nI_1 _) (by decide) rfl (fun ls hl => ?_)
                    refine lv_goto (tgt := 66) C0.1 C0.2.1 dX9_digest_102 (by decide) ?_
                    exact ih66 (ic + 1) _ (by omega) (by omega) (by rw [hdp]; rfl) _ _ _ hP hS (lv_sub hl [0, 1, 2] rfl)
              exact loop66 (196 + 1) 0 _ (by omega) (by omega) (by rw [hdw, show iw = 12 by omega]; rfl) _ _ _ hP hS (lv_sub hl [0, 1, 2] rfl)
            · have hltiw : iw < 12 := Nat.not_le.mp fun q => c_41 (nI_le q (by omega))
              refine lv_lload_n C0.1 C0.2.1 dX9_digest_44 rfl (lv_at hl 1 rfl) ?_
              refine lv_ldc2 (v := 31) C0.1 C0.2.1 C0.2.2.2.1 (C0.2.2.2.2 _ kc_X9_194) dX9_digest_45 ?_
              refine lv_lmul C0.1 C0.2.1 dX9_digest_48 ?_
              refine lv_aload_n C0.1 C0.2.1 dX9_digest_49 rfl (lv_at hl 2 rfl) ?_
              refine g20 C0 hK hP (hd.1 _ (by decide)) 3 (by decide) fl_X9_16 rfl dX9_digest_50 ?_
              refine lv_iload_n C0.1 C0.2.1 dX9_digest_53 rfl (lv_at hl 0 rfl) ?_
              refine mld (k := 2) (by decide) C0 hK hP (hd.1 _ (by decide)) (v := S 2 iw) (vp_in_nI (show iw < 12 by omega) (by decide)) ((rg_in (n := 12) (vp_in_nI (show iw < 12 by omega) (by decide))).symm.trans (rg_nI (show iw < 12 by omega) (by decide))) dX9_digest_54 ?_
              refine lv_i2l C0.1 C0.2.1 dX9_digest_55 rfl ?_
              refine lv_ladd C0.1 C0.2.1 dX9_digest_56 ?_
              refine lv_lstore_n (lv' := [(1, .long ((dw * 31) + ((S 2 iw).toInt64))), (3, .int (nI iw)), (0, .ref (a 20))]) C0.1 C0.2.1 dX9_digest_57 rfl hl (by decide) rfl (fun ls hl => ?_)
              refine lv_iinc (v := nI (iw + 1)) (lv' := [(3, .int (nI (iw + 1))), (1, .long ((dw * 31) + ((S 2 iw).toInt64))), (0, .ref (a 20))]) C0.1 C0.2.1 dX9_digest_58 hl (k := 1) rfl (nI_1 _) (by decide) rfl (fun ls hl => ?_)
              refine lv_goto (tgt := 38) C0.1 C0.2.1 dX9_digest_61 (by decide) ?_
              exact ih38 (iw + 1) _ (by omega) (by omega) (by rw [hdw]; rfl) _ _ _ hP hS (lv_sub hl [0, 1, 2] rfl)
        exact loop38 (12 + 1) 0 _ (by omega) (by omega) (by rw [hdg, show i = 11 by omega]; rfl) _ _ _ hP hS (lv_sub hl [0, 1, 2] rfl)
      · have hlt : i < 11 := Nat.not_le.mp fun q => c_14 (nI_le q (by omega))
        refine lv_lload_n C0.1 C0.2.1 dX9_digest_17 rfl (lv_at hl 1 rfl) ?_
        refine lv_ldc2 (v := 31) C0.1 C0.2.1 C0.2.2.2.1 (C0.2.2.2.2 _ kc_X9_194) dX9_digest_18 ?_
        refine lv_lmul C0.1 C0.2.1 dX9_digest_21 ?_
        refine lv_aload_n C0.1 C0.2.1 dX9_digest_22 rfl (lv_at hl 2 rfl) ?_
        refine lv_iload_n C0.1 C0.2.1 dX9_digest_23 rfl (lv_at hl 0 rfl) ?_
        refine k_X9_counted hd sId C0 hK hP hnP hnL hnT hT30 hnH hh hTW hlt (v := couS S P L T h (nI i)) rfl hS hA hl.1 ml_X9_171 ⟨Nat.le_of_ble_eq_true rfl, Nat.le_of_ble_eq_true rfl⟩ ⟨Nat.zero_le _, Nat.zero_le _⟩ (Nat.le_of_ble_eq_true rfl) dX9_digest_24 (fun H locs hP hS => ?_)
        refine lv_i2l C0.1 C0.2.1 dX9_digest_27 rfl ?_
        refine lv_ladd C0.1 C0.2.1 dX9_digest_28 ?_
        refine lv_lstore_n (lv' := [(1, .long ((d * 31) + ((couS S P L T h (nI i)).toInt64))), (3, .int (nI i)), (0, .ref (a 20))]) C0.1 C0.2.1 dX9_digest_29 rfl hl (by decide) rfl (fun ls hl => ?_)
        refine lv_iinc (v := nI (i + 1)) (lv' := [(3, .int (nI (i + 1))), (1, .long ((d * 31) + ((couS S P L T h (nI i)).toInt64))), (0, .ref (a 20))]) C0.1 C0.2.1 dX9_digest_30 hl (k := 1) rfl (nI_1 _) (by decide) rfl (fun ls hl => ?_)
        refine lv_goto (tgt := 11) C0.1 C0.2.1 dX9_digest_33 (by decide) ?_
        exact ih11 (i + 1) _ (by omega) (by omega) (by rw [hdg]; rfl) _ _ _ hP hS (lv_sub hl [0, 1, 2] rfl)
  exact loop11 (11 + 1) 0 557 (by omega) (by omega) rfl _ _ _ hP hS (lv_sub hl [0, 1, 2] rfl)
set_option maxHeartbeats 4000000 in
set_option maxRecDepth 100000 in
theorem c_X9_mean (l : Launch) (D : va_G) (cA : ClassId) (a : Adr) (S X : Mem) (I : Nat → Prop) (hd : Hd nM a I) {P : Nat} {L : Nat} {h : Nat} (hnH : S 86 0 = nI h) (hh : h < 2 ^ 31) (hTW : TW S P L) (hg : ∀ j, j < 196 → ∃ g, g ≤ 20 ∧ S 0 j = nI g) : ND l yX9_mean cX9_mean 3 (some .double) 2 43 D cA a S X I [.ref (a 20)] (fun r S1 X1 => r = mnD (sumD S h) ∧ S1 = S) := by
  refine nGo (by decide) (Nat.le_of_ble_eq_true rfl) ?_
  intro p e s m args below meth c ls C0 hr hlk hK hP hS hl hargs
  obtain ⟨H, hHe⟩ : ∃ H, H = s.heap := ⟨_, rfl⟩
  obtain ⟨locs, hlo⟩ : ∃ L : List Loc, L = [] := ⟨_, rfl⟩
  have hP : WQ D cA a S X I H := hHe ▸ hP
  have hS : va_S (AI a I) s.heap H locs := by rw [hHe, hlo]; exact hS
  rw [← hHe, ← hlo]
  have hA : ∀ q, AI a I q → AI a I q := fun _ h => h
  refine lv_aload_n C0.1 C0.2.1 dX9_mean_0 rfl (lv_at hl 0 rfl) ?_
  refine lv_iconst (v := 0) C0.1 C0.2.1 dX9_mean_1 (by decide) ?_
  refine p20 C0 hK hP hS hA (hd.1 _ (by decide)) hd.2.2 0 (by decide) fl_X9_40 rfl (by decide +kernel) (x := 0) S (up X 87 (fun _ => 0)) rfl (fun k9 _ h9 => cm_num (fun _ _ => rfl) (fun k9 h9 => up_ne (by omega)) h9) dX9_mean_2 (fun H locs hP hS => ?_)
  have hP : WQ D cA a S (up X 87 (fun _ => 0)) I H := hP
  refine lv_iconst (v := 0) C0.1 C0.2.1 dX9_mean_5 (by decide) ?_
  refine lv_istore_n (lv' := [(1, .int 0), (0, .ref (a 20))]) C0.1 C0.2.1 dX9_mean_6 rfl hl (by decide) rfl (fun ls hl => ?_)
  refine lv_iconst (v := 0) C0.1 C0.2.1 dX9_mean_7 (by decide) ?_
  refine lv_istore_n (lv' := [(2, .int 0), (1, .int 0), (0, .ref (a 20))]) C0.1 C0.2.1 dX9_mean_8 rfl hl (by decide) rfl (fun ls hl => ?_)
  have loop9 : ∀ (n : Nat) (i : Nat), (i ≤ 196) → (196 + 1 ≤ i + n) → ∀ (H : Heap) (locs : List Loc) (ls : Array Slot), WQ D cA a S (up X 87 (fun _ => 0)) I H → va_S (AI a I) s.heap H locs → lv_has ls 3 [(2, .int (nI i)), (1, .int (smI (fun j => dpt S (nI j) (lvS S h)) i)), (0, .ref (a 20))] → W p l e { frames := 2, cells := 0, slots := 0, locals := 43 } s m args below meth c H locs (0) (0) (MQ below (QqD D cA a I (fun r S1 X1 => r = mnD (sumD S h) ∧ S1 = S)) args s 0 0 (AI a I)) (F0 m 9 ls []) := by
    intro n
    induction n with
    | zero => intro i hi hf; exfalso; omega
    | succ n ih9 =>
      intro i hi hf H locs ls hP hS hl
      refine lv_iload_n C0.1 C0.2.1 dX9_mean_9 rfl (lv_at hl 0 rfl) ?_
      refine lv_sipush (v := 196) C0.1 C0.2.1 dX9_mean_10 (by decide) ?_
      refine lv_icmp_ge (tgt := 34) C0.1 C0.2.1 dX9_mean_13 (by decide) (fun c_13 => ?_) (fun c_13 => ?_)
      · have hge : 196 ≤ i := (nI_leI (by omega) (by omega)).mp c_13
        refine lv_iload_n C0.1 C0.2.1 dX9_mean_34 rfl (lv_at hl 1 rfl) ?_
        refine lv_i2d C0.1 C0.2.1 dX9_mean_35 ?_
        refine lv_ldc2d C0.1 C0.2.1 C0.2.2.2.1 (C0.2.2.2.2 _ kc_X9_190) dX9_mean_36 ?_
        refine lv_ddiv C0.1 C0.2.1 dX9_mean_39 (mn_ok (by rw [show i = 196 by omega]; exact sumD_val hTW hg)) ?_
        exact rtD C0 hr hlk hP hS ⟨by rw [show i = 196 by omega]; rfl, rfl⟩ dX9_mean_40
      · have hlt : i < 196 := Nat.not_le.mp fun q => c_13 (nI_le q (by omega))
        refine lv_iload_n C0.1 C0.2.1 dX9_mean_16 rfl (lv_at hl 1 rfl) ?_
        refine lv_aload_n C0.1 C0.2.1 dX9_mean_17 rfl (lv_at hl 2 rfl) ?_
        refine lv_iload_n C0.1 C0.2.1 dX9_mean_18 rfl (lv_at hl 0 rfl) ?_
        refine lv_aload_n C0.1 C0.2.1 dX9_mean_19 rfl (lv_at hl 2 rfl) ?_
        refine k_X9_level hd sId C0 hK hP hnH hh (v := lvS S h) rfl hS hA hl.1 ml_X9_80 ⟨Nat.le_of_ble_eq_true rfl, Nat.le_of_ble_eq_true rfl⟩ ⟨Nat.zero_le _, Nat.zero_le _⟩ (Nat.le_of_ble_eq_true rfl) dX9_mean_20 (fun H locs hP hS => ?_)
        refine k_X9_depth hd sId C0 hK hP (by omega) (v := dpt S (nI i) (lvS S h)) rfl hS hA hl.1 ml_X9_63 ⟨Nat.le_of_ble_eq_true rfl, Nat.le_of_ble_eq_true rfl⟩ ⟨Nat.zero_le _, Nat.zero_le _⟩ (Nat.le_of_ble_eq_true rfl) dX9_mean_23 (fun H locs hP hS => ?_)
        refine lv_iadd C0.1 C0.2.1 dX9_mean_26 ?_
        refine lv_istore_n (lv' := [(1, .int ((smI (fun j => dpt S (nI j) (lvS S h)) i) + (dpt S (nI i) (lvS S h)))), (2, .int (nI i)), (0, .ref (a 20))]) C0.1 C0.2.1 dX9_mean_27 rfl hl (by decide) rfl (fun ls hl => ?_)
        refine lv_iinc (v := nI (i + 1)) (lv' := [(2, .int (nI (i + 1))), (1, .int ((smI (fun j => dpt S (nI j) (lvS S h)) i) + (dpt S (nI i) (lvS S h)))), (0, .ref (a 20))]) C0.1 C0.2.1 dX9_mean_28 hl (k := 1) rfl (nI_1 _) (by decide) rfl (fun ls hl => ?_)
        refine lv_goto (tgt := 9) C0.1 C0.2.1 dX9_mean_31 (by decide) ?_
        exact ih9 (i + 1)  (by omega) (by omega)  _ _ _ hP hS (lv_sub hl [0, 1, 2] rfl)
  exact loop9 (196 + 1) 0  (by omega) (by omega)  _ _ _ hP hS (lv_sub hl [0, 1, 2] rfl)
end CLS
