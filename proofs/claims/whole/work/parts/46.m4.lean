/-! THE REFERENCE LOOKS. -/
theorem lk_none {S X : Mem} {u e : Nat} {lv : Int32} (he : e < 196) (h : flt S (nI u) (nI e) lv = false) {c : Nat} (hc : c < 196) : up X 15 (fl (X 15) 196 (-1)) 15 c = wayS (okS S (nI u) lv) e c := by
  rw [← wayS_eq he (DS.none (ok := okS S (nI u) lv) h) hc, up_eq]
  exact if_pos hc
theorem lk_up {ok : Nat → Bool} {e q : Nat} {w : Nat → Int32} {b : Bool} (h : LWv ok e q 196 0 w b) (hq : q < 196) : (bI b = 1 ∧ q + 1 < 196 ∧ LWv ok e (q + 1) 0 0 w false) ∨ (bI b = 0 ∧ DS ok e w) := by
  cases b with
  | false => exact Or.inr ⟨rfl, h.done (by omega)⟩
  | true =>
    obtain ⟨c9, h9, h8⟩ := h.2.2.2.2.2.2.2 rfl
    exact Or.inl ⟨rfl, h.lt (by omega) h9 (Nat.le_refl _) h8, h.up (by omega)⟩
section CLS
variable {p : Program} {l : Launch} {e : Env} {R : Room} {s : State} {m : MethodId} {args : Array Value} {below : List Frame} {meth : Method} {c : Code} {H : Heap} {locs : List Loc} {cells slots : Nat} {Q : State → Prop}
variable {cc : ByteArray} {nL : Nat} {own : String} {pc : Nat} {ls : Array Slot} {rest : List Value} {D : va_G} {cA : ClassId} {a : Adr} {S X : Mem} {I : Nat → Prop} {H0 : Heap} {A0 : Nat → Prop}
set_option maxHeartbeats 4000000 in
set_option maxRecDepth 100000 in
theorem c_X9_look (l : Launch) (D : va_G) (cA : ClassId) (a : Adr) (S X : Mem) (I : Nat → Prop) (hd : Hd nM a I) (u : Nat) (en : Nat) (lv : Int32) (hu : u < 6) (he : en < 196) : NV l yX9_look cX9_look 9 none 3 66 D cA a S X I [.ref (a 20), .int (nI u), .int (nI en), .int lv] (fun S1 X1 => S1 = S ∧ (∀ c, c < 196 → X1 15 c = wayS (okS S (nI u) lv) en c) ∧ ∀ k, k ≠ 15 → X1 k = X k) := by
  refine nGo (by decide) (Nat.le_of_ble_eq_true rfl) ?_
  intro p e s m args below meth c ls C0 hr hlk hK hP hS hl hargs
  obtain ⟨H, hHe⟩ : ∃ H, H = s.heap := ⟨_, rfl⟩
  obtain ⟨locs, hlo⟩ : ∃ L : List Loc, L = [] := ⟨_, rfl⟩
  have hP : WQ D cA a S X I H := hHe ▸ hP
  have hS : va_S (AI a I) s.heap H locs := by rw [hHe, hlo]; exact hS
  rw [← hHe, ← hlo]
  have hA : ∀ q, AI a I q → AI a I q := fun _ h => h
  refine lv_iconst (v := 0) C0.1 C0.2.1 dX9_look_0 (by decide) ?_
  refine lv_istore (lv' := [(4, .int 0), (0, .ref (a 20)), (1, .int (nI u)), (2, .int (nI en)), (3, .int lv)]) C0.1 C0.2.1 dX9_look_1 hl (by decide) rfl (fun ls hl => ?_)
  have loop3 : ∀ (n : Nat) (j3 : Nat), (j3 ≤ 196) → (196 + 1 ≤ j3 + n) → ∀ (H : Heap) (locs : List Loc) (ls : Array Slot), WQ D cA a S (up X 15 (fl (X 15) j3 (-1))) I H → va_S (AI a I) s.heap H locs → lv_has ls 9 [(4, .int (nI j3)), (0, .ref (a 20)), (1, .int (nI u)), (2, .int (nI en)), (3, .int lv)] → W p l e { frames := 3, cells := 0, slots := 0, locals := 66 } s m args below meth c H locs (0) (0) (MQ below (QqV D cA a I (fun S1 X1 => S1 = S ∧ (∀ c, c < 196 → X1 15 c = wayS (okS S (nI u) lv) en c) ∧ ∀ k, k ≠ 15 → X1 k = X k)) args s 0 0 (AI a I)) (F0 m 3 ls []) := by
    intro n
    induction n with
    | zero => intro j3 hij3 hfj3; exfalso; omega
    | succ n ih3 =>
      intro j3 hij3 hfj3 H locs ls hP hS hl
      refine lv_iload C0.1 C0.2.1 dX9_look_3 (lv_at hl 0 rfl) ?_
      refine lv_sipush (v := 196) C0.1 C0.2.1 dX9_look_5 (by decide) ?_
      refine lv_icmp_ge (tgt := 25) C0.1 C0.2.1 dX9_look_8 (by decide) (fun c_8 => ?_) (fun c_8 => ?_)
      · have hgej3 : 196 ≤ j3 := (nI_leI (by omega) (by omega)).mp c_8
        rw [show j3 = 196 by omega] at hP
        refine lv_aload_n C0.1 C0.2.1 dX9_look_25 rfl (lv_at hl 1 rfl) ?_
        refine lv_iload_n C0.1 C0.2.1 dX9_look_26 rfl (lv_at hl 2 rfl) ?_
        refine lv_iload_n C0.1 C0.2.1 dX9_look_27 rfl (lv_at hl 3 rfl) ?_
        refine lv_iload_n C0.1 C0.2.1 dX9_look_28 rfl (lv_at hl 4 rfl) ?_
        refine k_X9_floats hd sId C0 hK hP (by omega) (by omega) (v := bI (flt S (nI u) (nI en) lv)) rfl hS hA hl.1 ml_X9_107 ⟨Nat.le_of_ble_eq_true rfl, Nat.le_of_ble_eq_true rfl⟩ ⟨Nat.zero_le _, Nat.zero_le _⟩ (Nat.le_of_ble_eq_true rfl) dX9_look_29 (fun H locs hP hS => ?_)
        refine lv_if_ne (tgt := 36) C0.1 C0.2.1 dX9_look_32 (by decide) (fun c_32 => ?_) (fun c_32 => ?_)
        · have c_32 := bI_ne c_32
          refine lv_aload_n C0.1 C0.2.1 dX9_look_36 rfl (lv_at hl 1 rfl) ?_
          refine g20 C0 hK hP (hd.1 _ (by decide)) 12 (by decide) fl_X9_31 rfl dX9_look_37 ?_
          refine lv_iload_n C0.1 C0.2.1 dX9_look_40 rfl (lv_at hl 3 rfl) ?_
          refine lv_iconst (v := 0) C0.1 C0.2.1 dX9_look_41 (by decide) ?_
          refine mst (k := 7) (by decide) C0 hK hP hS hA (hd.1 _ (by decide)) hd.2.2 (vp_in_nI (show en < 196 by omega) (by decide)) S (up (up X 15 (fl (X 15) 196 (-1))) 15 (upd (fl (X 15) 196 (-1)) en 0)) (fun q9 => (show upd (fl (X 15) 196 (-1)) en 0 q9 = upd (fl (X 15) 196 (-1)) (nI en).toNatClampNeg 0 q9 by rw [nI_clamp (by omega)])) (fun j9 _ h9 => cm_sc (c := 15) (fun k9 h8 => up_ne h8) (by omega) h9) dX9_look_42 (fun H locs hP hS => ?_)
          have hP : WQ D cA a S (up X 15 (upd (fl (X 15) 196 (-1)) en 0)) I H := WQ.congr (show WQ D cA a S (up (up X 15 (fl (X 15) 196 (-1))) 15 (upd (fl (X 15) 196 (-1)) en 0)) I H from hP) (fun _ => rfl) (fun k => by
              by_cases h_15 : k = 15
              · subst h_15; rfl
              simp only [up, h_15, if_false])
          refine lv_iconst (v := 1) C0.1 C0.2.1 dX9_look_43 (by decide) ?_
          refine lv_istore (lv' := [(4, .int 1), (0, .ref (a 20)), (1, .int (nI u)), (2, .int (nI en)), (3, .int lv)]) C0.1 C0.2.1 dX9_look_44 hl (by decide) rfl (fun ls hl => ?_)
          refine lv_iconst (v := 0) C0.1 C0.2.1 dX9_look_46 (by decide) ?_
          refine lv_istore (lv' := [(5, .int 0), (4, .int 1), (0, .ref (a 20)), (1, .int (nI u)), (2, .int (nI en)), (3, .int lv)]) C0.1 C0.2.1 dX9_look_47 hl (by decide) rfl (fun ls hl => ?_)
          have loop49 : ∀ (n : Nat) (q : Nat) (z : Int32) (w : Nat → Int32), (q ≤ 196) → (197 ≤ q + n) → ((z = 1 ∧ q < 196 ∧ LWv (okS S (nI u) lv) en q 0 0 w false) ∨ (z = 0 ∧ DS (okS S (nI u) lv) en w)) → ∀ (H : Heap) (locs : List Loc) (ls : Array Slot), WQ D cA a S (up X 15 w) I H → va_S (AI a I) s.heap H locs → lv_has ls 9 [(4, .int z), (5, .int (nI q)), (0, .ref (a 20)), (1, .int (nI u)), (2, .int (nI en)), (3, .int lv)] → W p l e { frames := 3, cells := 0, slots := 0, locals := 66 } s m args below meth c H locs (0) (0) (MQ below (QqV D cA a I (fun S1 X1 => S1 = S ∧ (∀ c, c < 196 → X1 15 c = wayS (okS S (nI u) lv) en c) ∧ ∀ k, k ≠ 15 → X1 k = X k)) args s 0 0 (AI a I)) (F0 m 49 ls []) := by
            intro n
            induction n with
            | zero => intro q z w hq hfu hst; exfalso; omega
            | succ n ih49 =>
              intro q z w hq hfu hst H locs ls hP hS hl
              refine lv_iload C0.1 C0.2.1 dX9_look_49 (lv_at hl 0 rfl) ?_
              refine lv_if_eq (tgt := 164) C0.1 C0.2.1 dX9_look_51 (by decide) (fun c_51 => ?_) (fun c_51 => ?_)
              · have hD : DS (okS S (nI u) lv) en w := by rcases hst with ⟨h, _⟩ | ⟨_, h⟩; rw [c_51] at h; exact absurd h (by decide); exact h
                exact rtV C0 hr hlk hP hS ⟨rfl, fun c9 hc9 => (congrFun up_eq c9).trans (wayS_eq he hD hc9), fun k9 hk9 => up_ne hk9⟩ dX9_look_164
              · have hW : q < 196 ∧ LWv (okS S (nI u) lv) en q 0 0 w false := by rcases hst with ⟨_, h⟩ | ⟨h, _⟩; exact h; exact absurd h c_51
                refine lv_iconst (v := 0) C0.1 C0.2.1 dX9_look_54 (by decide) ?_
                refine lv_istore (lv' := [(4, .int 0), (5, .int (nI q)), (0, .ref (a 20)), (1, .int (nI u)), (2, .int (nI en)), (3, .int lv)]) C0.1 C0.2.1 dX9_look_55 hl (by decide) rfl (fun ls hl => ?_)
                refine lv_iconst (v := 0) C0.1 C0.2.1 dX9_look_57 (by decide) ?_
                refine lv_istore (lv' := [(6, .int 0), (4, .int 0), (5, .int (nI q)), (0, .ref (a 20)), (1, .int (nI u)), (2, .int (nI en)), (3, .int lv)]) C0.1 C0.2.1 dX9_look_58 hl (by decide) rfl (fun ls hl => ?_)
                have loop60 : ∀ (n : Nat) (i : Nat) (w2 : Nat → Int32) (bb : Bool), (i ≤ 196) → (196 + 1 ≤ i + n) → (LWv (okS S (nI u) lv) en q i 0 w2 bb) → ∀ (H : Heap) (locs : List Loc) (ls : Array Slot), WQ D cA a S (up X 15 w2) I H → va_S (AI a I) s.heap H locs → lv_has ls 9 [(6, .int (nI i)), (4, .int (bI bb)), (5, .int (nI q)), (0, .ref (a 20)), (1, .int (nI u)), (2, .int (nI en)), (3, .int lv)] → W p l e { frames := 3, cells := 0, slots := 0, locals := 66 } s m args below meth c H locs (0) (0) (MQ below (QqV D cA a I (fun S1 X1 => S1 = S ∧ (∀ c, c < 196 → X1 15 c = wayS (okS S (nI u) lv) en c) ∧ ∀ k, k ≠ 15 → X1 k = X k)) args s 0 0 (AI a I)) (F0 m 60 ls []) := by
                  intro n
                  induction n with
                  | zero => intro i w2 bb hi hf hLW; exfalso; omega
                  | succ n ih60 =>
                    intro i w2 bb hi hf hLW H locs ls hP hS hl
                    refine lv_iload C0.1 C0.2.1 dX9_look_60 (lv_at hl 0 rfl) ?_
                    refine lv_sipush (v := 196) C0.1 C0.2.1 dX9_look_62 (by decide) ?_
                    refine lv_icmp_ge (tgt := 158) C0.1 C0.2.1 dX9_look_65 (by decide) (fun c_65 => ?_) (fun c_65 => ?_)
                    · have hge : 196 ≤ i := (nI_leI (by omega) (by omega)).mp c_65
                      refine lv_iinc (v := nI (q + 1)) (lv' := [(5, .int (nI (q + 1))), (6, .int (nI i)), (4, .int (bI bb)), (0, .ref (a 20)), (1, .int (nI u)), (2, .int (nI en)), (3, .int lv)]) C0.1 C0.2.1 dX9_look_158 hl (k := 2) rfl (nI_1 _) (by decide) rfl (fun ls hl => ?_)
                      refine lv_goto (tgt := 49) C0.1 C0.2.1 dX9_look_161 (by decide) ?_
                      exact ih49 (q + 1) (bI bb) w2 (by omega) (by omega) (by rw [show i = 196 by omega] at hLW; exact lk_up hLW hW.1) _ _ _ hP hS (lv_sub hl [2, 0, 3, 4, 5, 6] rfl)
                    · have hlt : i < 196 := Nat.not_le.mp fun q => c_65 (nI_le q (by omega))
                      refine lv_aload_n C0.1 C0.2.1 dX9_look_68 rfl (lv_at hl 3 rfl) ?_
                      refine g20 C0 hK hP (hd.1 _ (by decide)) 12 (by decide) fl_X9_31 rfl dX9_look_69 ?_
                      refine lv_iload C0.1 C0.2.1 dX9_look_72 (lv_at hl 0 rfl) ?_
                      refine mld (k := 7) (by decide) C0 hK hP (hd.1 _ (by decide)) (v := w2 i) (vp_in_nI (show i < 196 by omega) (by decide)) ((rg_in (n := 196) (vp_in_nI (show i < 196 by omega) (by decide))).symm.trans (rg_nI (show i < 196 by omega) (by decide))) dX9_look_74 ?_
                      refine lv_iload C0.1 C0.2.1 dX9_look_75 (lv_at hl 2 rfl) ?_
                      refine lv_icmp_eq (tgt := 83) C0.1 C0.2.1 dX9_look_77 (by decide) (fun c_77 => ?_) (fun c_77 => ?_)
                      · refine lv_iconst (v := 0) C0.1 C0.2.1 dX9_look_83 (by decide) ?_
                        refine lv_istore (lv' := [(7, .int 0), (6, .int (nI i)), (4, .int (bI bb)), (5, .int (nI q)), (0, .ref (a 20)), (1, .int (nI u)), (2, .int (nI en)), (3, .int lv)]) C0.1 C0.2.1 dX9_look_84 hl (by decide) rfl (fun ls hl => ?_)
                        have loop86 : ∀ (n : Nat) (d : Nat) (w3 : Nat → Int32) (b3 : Bool), (d ≤ 4) → (4 + 1 ≤ d + n) → (LWv (okS S (nI u) lv) en q i d w3 b3) → (w3 i = nI q) → ∀ (H : Heap) (locs : List Loc) (ls : Array Slot), WQ D cA a S (up X 15 w3) I H → va_S (AI a I) s.heap H locs → lv_has ls 9 [(7, .int (nI d)), (4, .int (bI b3)), (5, .int (nI q)), (6, .int (nI i)), (0, .ref (a 20)), (1, .int (nI u)), (2, .int (nI en)), (3, .int lv)] → W p l e { frames := 3, cells := 0, slots := 0, locals := 66 } s m args below meth c H locs (0) (0) (MQ below (QqV D cA a I (fun S1 X1 => S1 = S ∧ (∀ c, c < 196 → X1 15 c = wayS (okS S (nI u) lv) en c) ∧ ∀ k, k ≠ 15 → X1 k = X k)) args s 0 0 (AI a I)) (F0 m 86 ls []) := by
                          intro n
                          induction n with
                          | zero => intro d w3 b3 hid hfd hLd hwi; exfalso; omega
                          | succ n ih86 =>
                            intro d w3 b3 hid hfd hLd hwi H locs ls hP hS hl
                            refine lv_iload C0.1 C0.2.1 dX9_look_86 (lv_at hl 0 rfl) ?_
                            refine lv_iconst (v := 4) C0.1 C0.2.1 dX9_look_88 (by decide) ?_
                            refine lv_icmp_ge (tgt := 152) C0.1 C0.2.1 dX9_look_89 (by decide) (fun c_89 => ?_) (fun c_89 => ?_)
                            · have hged : 4 ≤ d := (nI_leI (by omega) (by omega)).mp c_89
                              refine lv_iinc (v := nI (i + 1)) (lv' := [(6, .int (nI (i + 1))), (7, .int (nI d)), (4, .int (bI b3)), (5, .int (nI q)), (0, .ref (a 20)), (1, .int (nI u)), (2, .int (nI en)), (3, .int lv)]) C0.1 C0.2.1 dX9_look_152 hl (k := 3) rfl (nI_1 _) (by decide) rfl (fun ls hl => ?_)
                              refine lv_goto (tgt := 60) C0.1 C0.2.1 dX9_look_155 (by decide) ?_
                              exact ih60 (i + 1) _ _ (by omega) (by omega) (by rw [show d = 4 by omega] at hLd; exact hLd.nextI) _ _ _ hP hS (lv_sub hl [0, 2, 3, 4, 5, 6, 7] rfl)
                            · have hltd : d < 4 := Nat.not_le.mp fun q => c_89 (nI_le q (by omega))
                              refine lv_iload C0.1 C0.2.1 dX9_look_92 (lv_at hl 3 rfl) ?_
                              refine lv_iload C0.1 C0.2.1 dX9_look_94 (lv_at hl 0 rfl) ?_
                              refine k_X9_beside hd s0 C0 hK hP (by omega) (v := besI (nI i) (nI d)) rfl hS hA hl.1 ml_X9_110 ⟨Nat.le_of_ble_eq_true rfl, Nat.le_of_ble_eq_true rfl⟩ ⟨Nat.zero_le _, Nat.zero_le _⟩ (Nat.le_of_ble_eq_true rfl) dX9_look_96 (fun H locs hP hS => ?_)
                              rw [besI_N (show i < 196 by omega) (show d < 4 by omega)]
                              refine lv_istore (lv' := [(8, .int (oI (besN i d))), (7, .int (nI d)), (4, .int (bI b3)), (5, .int (nI q)), (6, .int (nI i)), (0, .ref (a 20)), (1, .int (nI u)), (2, .int (nI en)), (3, .int lv)]) C0.1 C0.2.1 dX9_look_99 hl (by decide) rfl (fun ls hl => ?_)
                              refine lv_iload C0.1 C0.2.1 dX9_look_101 (lv_at hl 0 rfl) ?_
                              refine lv_iconst (v := (-1)) C0.1 C0.2.1 dX9_look_103 (by decide) ?_
                              refine lv_icmp_eq (tgt := 146) C0.1 C0.2.1 dX9_look_104 (by decide) (fun c_104 => ?_) (fun c_104 => ?_)
                              · refine lv_iinc (v := nI (d + 1)) (lv' := [(7, .int (nI (d + 1))), (8, .int (oI (besN i d))), (4, .int (bI b3)), (5, .int (nI q)), (6, .int (nI i)), (0, .ref (a 20)), (1, .int (nI u)), (2, .int (nI en)), (3, .int lv)]) C0.1 C0.2.1 dX9_look_146 hl (k := 1) rfl (nI_1 _) (by decide) rfl (fun ls hl => ?_)
                                refine lv_goto (tgt := 86) C0.1 C0.2.1 dX9_look_149 (by decide) ?_
                                exact ih86 (d + 1) _ _ (by omega) (by omega) (hLd.no (by omega) (by omega) (fun o9 h9 _ => absurd (show nI o9 = -1 by rw [h9] at c_104; exact c_104) (nI_neg (by have := besN_lt (show i < 196 by omega) (show d < 4 by omega) h9; omega)))) hwi _ _ _ hP hS (lv_sub hl [0, 2, 3, 4, 5, 6, 7, 8] rfl)
                              · obtain ⟨o, ho⟩ := oI_ne c_104
                                have ho196 := besN_lt (show i < 196 by omega) (show d < 4 by omega) ho
                                have hl : lv_has ls 9 [(8, .int (nI o)), (7, .int (nI d)), (4, .int (bI b3)), (5, .int (nI q)), (6, .int (nI i)), (0, .ref (a 20)), (1, .int (nI u)), (2, .int (nI en)), (3, .int lv)] := by rw [ho] at hl; exact hl
                                refine lv_aload_n C0.1 C0.2.1 dX9_look_107 rfl (lv_at hl 5 rfl) ?_
                                refine g20 C0 hK hP (hd.1 _ (by decide)) 12 (by decide) fl_X9_31 rfl dX9_look_108 ?_
                                refine lv_iload C0.1 C0.2.1 dX9_look_111 (lv_at hl 0 rfl) ?_
                                refine mld (k := 7) (by decide) C0 hK hP (hd.1 _ (by decide)) (v := w3 o) (vp_in_nI (show o < 196 by omega) (by decide)) ((rg_in (n := 196) (vp_in_nI (show o < 196 by omega) (by decide))).symm.trans (rg_nI (show o < 196 by omega) (by decide))) dX9_look_113 ?_
                                refine lv_iconst (v := (-1)) C0.1 C0.2.1 dX9_look_114 (by decide) ?_
                                refine lv_icmp_ne (tgt := 146) C0.1 C0.2.1 dX9_look_115 (by decide) (fun c_115 => ?_) (fun c_115 => ?_)
                                · refine lv_iinc (v := nI (d + 1)) (lv' := [(7, .int (nI (d + 1))), (8, .int (nI o)), (4, .int (bI b3)), (5, .int (nI q)), (6, .int (nI i)), (0, .ref (a 20)), (1, .int (nI u)), (2, .int (nI en)), (3, .int lv)]) C0.1 C0.2.1 dX9_look_146 hl (k := 1) rfl (nI_1 _) (by decide) rfl (fun ls hl => ?_)
                                  refine lv_goto (tgt := 86) C0.1 C0.2.1 dX9_look_149 (by decide) ?_
                                  exact ih86 (d + 1) _ _ (by omega) (by omega) (hLd.no (by omega) (by omega) (fun o9 h9 hw9 => absurd hw9 (by rw [ho] at h9; cases h9; exact c_115))) hwi _ _ _ hP hS (lv_sub hl [0, 2, 3, 4, 5, 6, 7, 8] rfl)
                                · refine lv_aload_n C0.1 C0.2.1 dX9_look_118 rfl (lv_at hl 5 rfl) ?_
                                  refine lv_iload_n C0.1 C0.2.1 dX9_look_119 rfl (lv_at hl 6 rfl) ?_
                                  refine lv_iload C0.1 C0.2.1 dX9_look_120 (lv_at hl 0 rfl) ?_
                                  refine lv_iload_n C0.1 C0.2.1 dX9_look_122 rfl (lv_at hl 8 rfl) ?_
                                  refine k_X9_floats hd sId C0 hK hP (by omega) (by omega) (v := bI (flt S (nI u) (nI o) lv)) rfl hS hA hl.1 ml_X9_107 ⟨Nat.le_of_ble_eq_true rfl, Nat.le_of_ble_eq_true rfl⟩ ⟨Nat.zero_le _, Nat.zero_le _⟩ (Nat.le_of_ble_eq_true rfl) dX9_look_123 (fun H locs hP hS => ?_)
                                  refine lv_if_ne (tgt := 132) C0.1 C0.2.1 dX9_look_126 (by decide) (fun c_126 => ?_) (fun c_126 => ?_)
                                  · have c_126 := bI_ne c_126
                                    refine lv_aload_n C0.1 C0.2.1 dX9_look_132 rfl (lv_at hl 5 rfl) ?_
                                    refine g20 C0 hK hP (hd.1 _ (by decide)) 12 (by decide) fl_X9_31 rfl dX9_look_133 ?_
                                    refine lv_iload C0.1 C0.2.1 dX9_look_136 (lv_at hl 0 rfl) ?_
                                    refine lv_iload C0.1 C0.2.1 dX9_look_138 (lv_at hl 3 rfl) ?_
                                    refine lv_iconst (v := 1) C0.1 C0.2.1 dX9_look_140 (by decide) ?_
                                    refine lv_iadd C0.1 C0.2.1 dX9_look_141 ?_
                                    rw [nI_1]
                                    refine mst (k := 7) (by decide) C0 hK hP hS hA (hd.1 _ (by decide)) hd.2.2 (vp_in_nI (show o < 196 by omega) (by decide)) S (up (up X 15 w3) 15 (upd w3 o (nI (q + 1)))) (fun q9 => (show upd w3 o (nI (q + 1)) q9 = upd w3 (nI o).toNatClampNeg (nI (q + 1)) q9 by rw [nI_clamp (by omega)])) (fun j9 _ h9 => cm_sc (c := 15) (fun k9 h8 => up_ne h8) (by omega) h9) dX9_look_142 (fun H locs hP hS => ?_)
                                    have hP : WQ D cA a S (up X 15 (upd w3 o (nI (q + 1)))) I H := WQ.congr (show WQ D cA a S (up (up X 15 w3) 15 (upd w3 o (nI (q + 1)))) I H from hP) (fun _ => rfl) (fun k => by
                                        by_cases h_15 : k = 15
                                        · subst h_15; rfl
                                        simp only [up, h_15, if_false])
                                    refine lv_iconst (v := 1) C0.1 C0.2.1 dX9_look_143 (by decide) ?_
                                    refine lv_istore (lv' := [(4, .int 1), (8, .int (nI o)), (7, .int (nI d)), (5, .int (nI q)), (6, .int (nI i)), (0, .ref (a 20)), (1, .int (nI u)), (2, .int (nI en)), (3, .int lv)]) C0.1 C0.2.1 dX9_look_144 hl (by decide) rfl (fun ls hl => ?_)
                                    refine lv_iinc (v := nI (d + 1)) (lv' := [(7, .int (nI (d + 1))), (4, .int 1), (8, .int (nI o)), (5, .int (nI q)), (6, .int (nI i)), (0, .ref (a 20)), (1, .int (nI u)), (2, .int (nI en)), (3, .int lv)]) C0.1 C0.2.1 dX9_look_146 hl (k := 2) rfl (nI_1 _) (by decide) rfl (fun ls hl => ?_)
                                    refine lv_goto (tgt := 86) C0.1 C0.2.1 dX9_look_149 (by decide) ?_
                                    exact ih86 (d + 1) _ true (by omega) (by omega) (hLd.push (by omega) (by omega) (by omega) hwi ho c_115 c_126) (by unfold upd; rw [if_neg (fun e9 => nI_neg (show q < 2 ^ 31 by omega) (by rw [← hwi, e9]; exact c_115))]; exact hwi) _ _ _ hP hS (lv_sub hl [0, 1, 3, 4, 5, 6, 7, 8] rfl)
                                  · have c_126 := bI_eq c_126
                                    refine lv_goto (tgt := 146) C0.1 C0.2.1 dX9_look_129 (by decide) ?_
                                    refine lv_iinc (v := nI (d + 1)) (lv' := [(7, .int (nI (d + 1))), (8, .int (nI o)), (4, .int (bI b3)), (5, .int (nI q)), (6, .int (nI i)), (0, .ref (a 20)), (1, .int (nI u)), (2, .int (nI en)), (3, .int lv)]) C0.1 C0.2.1 dX9_look_146 hl (k := 1) rfl (nI_1 _) (by decide) rfl (fun ls hl => ?_)
                                    refine lv_goto (tgt := 86) C0.1 C0.2.1 dX9_look_149 (by decide) ?_
                                    exact ih86 (d + 1) _ _ (by omega) (by omega) (hLd.no (by omega) (by omega) (fun o9 h9 _ => by rw [ho] at h9; cases h9; exact c_126)) hwi _ _ _ hP hS (lv_sub hl [0, 2, 3, 4, 5, 6, 7, 8] rfl)
                        exact loop86 (4 + 1) 0 _ _ (by omega) (by omega) hLW c_77 _ _ _ hP hS (lv_sub hl [0, 2, 3, 1, 4, 5, 6, 7] rfl)
                      · refine lv_goto (tgt := 152) C0.1 C0.2.1 dX9_look_80 (by decide) ?_
                        refine lv_iinc (v := nI (i + 1)) (lv' := [(6, .int (nI (i + 1))), (4, .int (bI bb)), (5, .int (nI q)), (0, .ref (a 20)), (1, .int (nI u)), (2, .int (nI en)), (3, .int lv)]) C0.1 C0.2.1 dX9_look_152 hl (k := 0) rfl (nI_1 _) (by decide) rfl (fun ls hl => ?_)
                        refine lv_goto (tgt := 60) C0.1 C0.2.1 dX9_look_155 (by decide) ?_
                        exact ih60 (i + 1) _ _ (by omega) (by omega) (hLW.skip c_77) _ _ _ hP hS (lv_sub hl [0, 1, 2, 3, 4, 5, 6] rfl)
                exact loop60 (196 + 1) 0 _ false (by omega) (by omega) hW.2 _ _ _ hP hS (lv_sub hl [0, 1, 2, 3, 4, 5, 6] rfl)
          exact loop49 197 0 1 _ (by omega) (by omega) (Or.inl ⟨rfl, by omega, LWv.init he c_32 (fun c9 h9 => if_pos h9)⟩) _ _ _ hP hS (lv_sub hl [1, 0, 2, 3, 4, 5] rfl)
        · have c_32 := bI_eq c_32
          exact rtV C0 hr hlk hP hS ⟨rfl, fun c9 hc9 => lk_none he c_32 hc9, fun k9 hk9 => up_ne hk9⟩ dX9_look_35
      · have hltj3 : j3 < 196 := Nat.not_le.mp fun q => c_8 (nI_le q (by omega))
        refine lv_aload_n C0.1 C0.2.1 dX9_look_11 rfl (lv_at hl 1 rfl) ?_
        refine g20 C0 hK hP (hd.1 _ (by decide)) 12 (by decide) fl_X9_31 rfl dX9_look_12 ?_
        refine lv_iload C0.1 C0.2.1 dX9_look_15 (lv_at hl 0 rfl) ?_
        refine lv_iconst (v := (-1)) C0.1 C0.2.1 dX9_look_17 (by decide) ?_
        refine mst (k := 7) (by decide) C0 hK hP hS hA (hd.1 _ (by decide)) hd.2.2 (vp_in_nI (show j3 < 196 by omega) (by decide)) S (up (up X 15 (fl (X 15) j3 (-1))) 15 (upd (fl (X 15) j3 (-1)) j3 (-1))) (fun q9 => (show upd (fl (X 15) j3 (-1)) j3 (-1) q9 = upd (fl (X 15) j3 (-1)) (nI j3).toNatClampNeg (-1) q9 by rw [nI_clamp (by omega)])) (fun j9 _ h9 => cm_sc (c := 15) (fun k9 h8 => up_ne h8) (by omega) h9) dX9_look_18 (fun H locs hP hS => ?_)
        have hP : WQ D cA a S (up X 15 (upd (fl (X 15) j3 (-1)) j3 (-1))) I H := WQ.congr (show WQ D cA a S (up (up X 15 (fl (X 15) j3 (-1))) 15 (upd (fl (X 15) j3 (-1)) j3 (-1))) I H from hP) (fun _ => rfl) (fun k => by
            by_cases h_15 : k = 15
            · subst h_15; rfl
            simp only [up, h_15, if_false])
        refine lv_iinc (v := nI (j3 + 1)) (lv' := [(4, .int (nI (j3 + 1))), (0, .ref (a 20)), (1, .int (nI u)), (2, .int (nI en)), (3, .int lv)]) C0.1 C0.2.1 dX9_look_19 hl (k := 0) rfl (nI_1 _) (by decide) rfl (fun ls hl => ?_)
        refine lv_goto (tgt := 3) C0.1 C0.2.1 dX9_look_22 (by decide) ?_
        have hP : WQ D cA a S (up X 15 (fl (X 15) (j3 + 1) (-1))) I H := WQ.congr hP (fun _ => rfl) (fun k => by
            by_cases h_15 : k = 15
            · subst h_15; exact (fl_succ _ _ _ : (upd (fl (X 15) j3 (-1)) j3 (-1)) = (fl (X 15) (j3 + 1) (-1)))
            simp only [up, h_15, if_false])
        exact ih3 (j3 + 1)  (by omega) (by omega)  _ _ _ hP hS (lv_sub hl [0, 1, 2, 3, 4] rfl)
  have hP : WQ D cA a S (up X 15 (fl (X 15) 0 (-1))) I H := by rw [fl_zero, up_self]; exact hP
  exact loop3 (196 + 1) 0  (by omega) (by omega)  _ _ _ hP hS (lv_sub hl [0, 1, 2, 3, 4] rfl)
theorem k_X9_look {n : List Nat} (hd : Hd n a I) (hsub : ∀ k ∈ nM, k ∈ n) (C0 : CallFix p m c cc nL s args GW own) (hK : KK D cA s) (hP : WQ D cA a S X I H) {u : Nat} {en : Nat} {lv : Int32} (hu : u < 6) (he : en < 196) (hS : va_S A0 H0 H locs) (hA : ∀ q, AI a I q → A0 q) (hls : ls.size = nL) {idx : Nat} (hlink : Cond.methodLink own idx yX9_look ∈ GW) (hR : 4 ≤ R.frames ∧ 94 ≤ R.locals) (hcs : cells ≤ R.cells ∧ slots ≤ R.slots) (hrest : (rest.map fun v => v.category).sum ≤ 8) (hdg : decode cc pc = .ok (.invokevirtual idx, 3)) (kk : ∀ (S1 X1 : Mem) (H1 : Heap) (locs1 : List Loc), (fun S1 X1 => S1 = S ∧ (∀ c, c < 196 → X1 15 c = wayS (okS S (nI u) lv) en c) ∧ ∀ k, k ≠ 15 → X1 k = X k) S1 X1 → WQ D cA a S1 X1 I H1 → va_S A0 H0 H1 locs1 → W p l e R s m args below meth c H1 locs1 cells slots Q (F0 m (pc + 3) ls rest)) : W p l e R s m args below meth c H locs cells slots Q (F0 m pc ls (.int lv :: .int (nI en) :: .int (nI u) :: .ref (a 20) :: rest)) := by
  exact hoV (qV (n := 3) (c_X9_look l D cA a S X I (hd.sub hsub) u en lv hu he) C0 hlink im_X9_look se_X9_look in_X9 co_X9_look ⟨rfl, by decide⟩ hR hK hP (hd.1 _ (hsub _ (by decide))) rfl rfl rfl hls hrest rfl hdg hcs) hS hA kk
end CLS
