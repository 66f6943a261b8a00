/-! THE REFERENCE'S CHAINS. -/
def lkF (t : Nat) (f : Nat → Int32) (i : Nat) : Nat → Int32 := fun x => if x < i then (if x = t then 0 else -1) else f x
theorem lkF_zero (t : Nat) (f : Nat → Int32) : lkF t f 0 = f := by funext j; exact if_neg (Nat.not_lt_zero _)
theorem lkF_yes {t i : Nat} (f : Nat → Int32) (h : i = t) : upd (lkF t f i) i 0 = lkF t f (i + 1) := by
  funext j
  unfold upd lkF
  by_cases h2 : j = i
  · subst h2; simp [h]
  · by_cases h3 : j < i
    · simp [h2, h3, show j < i + 1 by omega]
    · simp [h2, h3, show ¬ j < i + 1 by omega]
theorem lkF_no {t i : Nat} (f : Nat → Int32) (h : ¬ i = t) : upd (lkF t f i) i (-1) = lkF t f (i + 1) := by
  funext j
  unfold upd lkF
  by_cases h2 : j = i
  · subst h2; simp [h]
  · by_cases h3 : j < i
    · simp [h2, h3, show j < i + 1 by omega]
    · simp [h2, h3, show ¬ j < i + 1 by omega]
theorem fndF_all {A : Nat → Bool} : ∀ (n i : Nat), (∀ j, A j = false) → fndF A i n = -1 := by
  intro n
  induction n with
  | zero => intro i _; rfl
  | succ n ih => intro i h; rw [fndF_no (by rw [h i]; exact Bool.false_ne_true)]; exact ih (i + 1) h
section CLS
variable {p : Program} {l : Launch} {e : Env} {R : Room} {s : State} {m : MethodId} {args : Array Value} {below : List Frame} {meth : Method} {c : Code} {H : Heap} {locs : List Loc} {cells slots : Nat} {Q : State → Prop}
variable {cc : ByteArray} {nL : Nat} {own : String} {pc : Nat} {ls : Array Slot} {rest : List Value} {D : va_G} {cA : ClassId} {a : Adr} {S X : Mem} {I : Nat → Prop} {H0 : Heap} {A0 : Nat → Prop}
set_option maxHeartbeats 4000000 in
set_option maxRecDepth 100000 in
theorem c_X9_link (l : Launch) (D : va_G) (cA : ClassId) (a : Adr) (S X : Mem) (I : Nat → Prop) (hd : Hd nM a I) (t : Nat) {P : Nat} {L : Nat} (hnP : S 82 0 = nI P) (hP6 : P ≤ 6) (hnL : S 81 0 = nI L) (hL8 : L ≤ 8) (hLnk : Lnk S P L) (hTl : TlW S P) (ht : t < L) : NV l yX9_link cX9_link 7 none 2 44 D cA a S X I [.ref (a 20), .int (nI t)] (fun S1 X1 => S1 = S ∧ (∀ x, x < L → X1 10 x = lenM S P x t) ∧ (∀ x, x < L → ∀ k, k < 8 → lenM S P x t = nI k → X1 12 x = tolM S P t k x) ∧ ∀ k, k ≠ 10 → k ≠ 12 → X1 k = X k) := by
  refine nGo (by decide) (Nat.le_of_ble_eq_true rfl) ?_
  intro p e s m args below meth c ls C0 hr hlk hK hP hS hl hargs
  obtain ⟨H, hHe⟩ : ∃ H, H = s.heap := ⟨_, rfl⟩
  obtain ⟨locs, hlo⟩ : ∃ L : List Loc, L = [] := ⟨_, rfl⟩
  have hP : WQ D cA a S X I H := hHe ▸ hP
  have hS : va_S (AI a I) s.heap H locs := by rw [hHe, hlo]; exact hS
  rw [← hHe, ← hlo]
  have hA : ∀ q, AI a I q → AI a I q := fun _ h => h
  refine lv_iconst (v := 0) C0.1 C0.2.1 dX9_link_0 (by decide) ?_
  refine lv_istore_n (lv' := [(2, .int 0), (0, .ref (a 20)), (1, .int (nI t))]) C0.1 C0.2.1 dX9_link_1 rfl hl (by decide) rfl (fun ls hl => ?_)
  have loop2 : ∀ (n : Nat) (j2 : Nat), (j2 ≤ L) → (L + 1 ≤ j2 + n) → ∀ (H : Heap) (locs : List Loc) (ls : Array Slot), WQ D cA a S (up X 10 (lkF t (X 10) j2)) I H → va_S (AI a I) s.heap H locs → lv_has ls 7 [(2, .int (nI j2)), (0, .ref (a 20)), (1, .int (nI t))] → W p l e { frames := 2, cells := 0, slots := 0, locals := 44 } s m args below meth c H locs (0) (0) (MQ below (QqV D cA a I (fun S1 X1 => S1 = S ∧ (∀ x, x < L → X1 10 x = lenM S P x t) ∧ (∀ x, x < L → ∀ k, k < 8 → lenM S P x t = nI k → X1 12 x = tolM S P t k x) ∧ ∀ k, k ≠ 10 → k ≠ 12 → X1 k = X k)) args s 0 0 (AI a I)) (F0 m 2 ls []) := by
    intro n
    induction n with
    | zero => intro j2 hij2 hfj2; exfalso; omega
    | succ n ih2 =>
      intro j2 hij2 hfj2 H locs ls hP hS hl
      refine lv_iload_n C0.1 C0.2.1 dX9_link_2 rfl (lv_at hl 0 rfl) ?_
      refine lv_aload_n C0.1 C0.2.1 dX9_link_3 rfl (lv_at hl 1 rfl) ?_
      refine g20i (v := nI L) C0 hK hP (hd.1 _ (by decide)) 4 (by decide) fl_X9_48 rfl hnL dX9_link_4 ?_
      refine lv_icmp_ge (tgt := 32) C0.1 C0.2.1 dX9_link_7 (by decide) (fun c_7 => ?_) (fun c_7 => ?_)
      · have hgej2 : L ≤ j2 := (nI_leI (by omega) (by omega)).mp c_7
        rw [show j2 = L by omega] at hP
        refine lv_aload_n C0.1 C0.2.1 dX9_link_32 rfl (lv_at hl 1 rfl) ?_
        refine g20 C0 hK hP (hd.1 _ (by decide)) 14 (by decide) fl_X9_37 rfl dX9_link_33 ?_
        refine lv_iload_n C0.1 C0.2.1 dX9_link_36 rfl (lv_at hl 2 rfl) ?_
        refine lv_iconst (v := 0) C0.1 C0.2.1 dX9_link_37 (by decide) ?_
        refine mst (k := 9) (by decide) C0 hK hP hS hA (hd.1 _ (by decide)) hd.2.2 (vp_in_nI (show t < 8 by omega) (by decide)) S (up (up X 10 (lkF t (X 10) L)) 12 (upd (X 12) t 0)) (fun q9 => (show upd (X 12) t 0 q9 = upd (X 12) (nI t).toNatClampNeg 0 q9 by rw [nI_clamp (by omega)])) (fun j9 _ h9 => cm_sc (c := 12) (fun k9 h8 => up_ne h8) (by omega) h9) dX9_link_38 (fun H locs hP hS => ?_)
        have hP : WQ D cA a S (up (up X 10 (lkF t (X 10) L)) 12 (upd (X 12) t 0)) I H := hP
        refine lv_iconst (v := 1) C0.1 C0.2.1 dX9_link_39 (by decide) ?_
        refine lv_istore_n (lv' := [(2, .int 1), (0, .ref (a 20)), (1, .int (nI t))]) C0.1 C0.2.1 dX9_link_40 rfl hl (by decide) rfl (fun ls hl => ?_)
        have loop41 : ∀ (n : Nat) (m1 : Nat) (f1 g1 : Nat → Int32), (m1 ≤ L) → (L + 1 ≤ m1 + n) → (KI S P L t m1 0 0 f1 g1) → ∀ (H : Heap) (locs : List Loc) (ls : Array Slot), WQ D cA a S (up (up X 10 f1) 12 g1) I H → va_S (AI a I) s.heap H locs → lv_has ls 7 [(2, .int (nI (m1 + 1))), (0, .ref (a 20)), (1, .int (nI t))] → W p l e { frames := 2, cells := 0, slots := 0, locals := 44 } s m args below meth c H locs (0) (0) (MQ below (QqV D cA a I (fun S1 X1 => S1 = S ∧ (∀ x, x < L → X1 10 x = lenM S P x t) ∧ (∀ x, x < L → ∀ k, k < 8 → lenM S P x t = nI k → X1 12 x = tolM S P t k x) ∧ ∀ k, k ≠ 10 → k ≠ 12 → X1 k = X k)) args s 0 0 (AI a I)) (F0 m 41 ls []) := by
          intro n
          induction n with
          | zero => intro m1 f1 g1 hm hfm hKI; exfalso; omega
          | succ n ih41 =>
            intro m1 f1 g1 hm hfm hKI H locs ls hP hS hl
            refine lv_iload_n C0.1 C0.2.1 dX9_link_41 rfl (lv_at hl 0 rfl) ?_
            refine lv_aload_n C0.1 C0.2.1 dX9_link_42 rfl (lv_at hl 1 rfl) ?_
            refine g20i (v := nI L) C0 hK hP (hd.1 _ (by decide)) 4 (by decide) fl_X9_48 rfl hnL dX9_link_43 ?_
            refine lv_icmp_gt (tgt := 199) C0.1 C0.2.1 dX9_link_46 (by decide) (fun c_46 => ?_) (fun c_46 => ?_)
            · have hgeL : L < m1 + 1 := (nI_ltI (by omega) (by omega)).mp c_46
              have hD := KI.done hLnk hL8 hP6 ht (show KI S P L t L 0 0 f1 g1 by rw [show m1 = L by omega] at hKI; exact hKI)
              exact rtV C0 hr hlk hP hS ⟨rfl, hD.1, hD.2, fun k9 h9 h8 => (up_ne h8).trans (up_ne h9)⟩ dX9_link_199
            · have hmL : m1 < L := Nat.not_le.mp fun q9 => c_46 (nI_lt (show L < m1 + 1 by omega) (by omega))
              refine lv_iconst (v := 0) C0.1 C0.2.1 dX9_link_49 (by decide) ?_
              refine lv_istore_n (lv' := [(3, .int 0), (2, .int (nI (m1 + 1))), (0, .ref (a 20)), (1, .int (nI t))]) C0.1 C0.2.1 dX9_link_50 rfl hl (by decide) rfl (fun ls hl => ?_)
              have loop51 : ∀ (n : Nat) (i : Nat) (f2 g2 : Nat → Int32), (i ≤ L) → (L + 1 ≤ i + n) → (KI S P L t m1 i 0 f2 g2) → ∀ (H : Heap) (locs : List Loc) (ls : Array Slot), WQ D cA a S (up (up X 10 f2) 12 g2) I H → va_S (AI a I) s.heap H locs → lv_has ls 7 [(3, .int (nI i)), (2, .int (nI (m1 + 1))), (0, .ref (a 20)), (1, .int (nI t))] → W p l e { frames := 2, cells := 0, slots := 0, locals := 44 } s m args below meth c H locs (0) (0) (MQ below (QqV D cA a I (fun S1 X1 => S1 = S ∧ (∀ x, x < L → X1 10 x = lenM S P x t) ∧ (∀ x, x < L → ∀ k, k < 8 → lenM S P x t = nI k → X1 12 x = tolM S P t k x) ∧ ∀ k, k ≠ 10 → k ≠ 12 → X1 k = X k)) args s 0 0 (AI a I)) (F0 m 51 ls []) := by
                intro n
                induction n with
                | zero => intro i f2 g2 hi hf hK2; exfalso; omega
                | succ n ih51 =>
                  intro i f2 g2 hi hf hK2 H locs ls hP hS hl
                  refine lv_iload_n C0.1 C0.2.1 dX9_link_51 rfl (lv_at hl 0 rfl) ?_
                  refine lv_aload_n C0.1 C0.2.1 dX9_link_52 rfl (lv_at hl 2 rfl) ?_
                  refine g20i (v := nI L) C0 hK hP (hd.1 _ (by decide)) 4 (by decide) fl_X9_48 rfl hnL dX9_link_53 ?_
                  refine lv_icmp_ge (tgt := 193) C0.1 C0.2.1 dX9_link_56 (by decide) (fun c_56 => ?_) (fun c_56 => ?_)
                  · have hge : L ≤ i := (nI_leI (by omega) (by omega)).mp c_56
                    refine lv_iinc (v := nI ((m1 + 1) + 1)) (lv' := [(2, .int (nI ((m1 + 1) + 1))), (3, .int (nI i)), (0, .ref (a 20)), (1, .int (nI t))]) C0.1 C0.2.1 dX9_link_193 hl (k := 1) rfl (nI_1 _) (by decide) rfl (fun ls hl => ?_)
                    refine lv_goto (tgt := 41) C0.1 C0.2.1 dX9_link_196 (by decide) ?_
                    exact ih41 (m1 + 1) f2 g2 (by omega) (by omega) (by rw [show i = L by omega] at hK2; exact hK2.up) _ _ _ hP hS (lv_sub hl [0, 2, 3] rfl)
                  · have hlt : i < L := Nat.not_le.mp fun q => c_56 (nI_le q (by omega))
                    refine lv_aload_n C0.1 C0.2.1 dX9_link_59 rfl (lv_at hl 2 rfl) ?_
                    refine g20 C0 hK hP (hd.1 _ (by decide)) 13 (by decide) fl_X9_34 rfl dX9_link_60 ?_
                    refine lv_iload_n C0.1 C0.2.1 dX9_link_63 rfl (lv_at hl 0 rfl) ?_
                    refine mld (k := 8) (by decide) C0 hK hP (hd.1 _ (by decide)) (v := f2 i) (vp_in_nI (show i < 8 by omega) (by decide)) ((rg_in (n := 8) (vp_in_nI (show i < 8 by omega) (by decide))).symm.trans (rg_nI (show i < 8 by omega) (by decide))) dX9_link_64 ?_
                    refine lv_iconst (v := (-1)) C0.1 C0.2.1 dX9_link_65 (by decide) ?_
                    refine lv_icmp_eq (tgt := 82) C0.1 C0.2.1 dX9_link_66 (by decide) (fun c_66 => ?_) (fun c_66 => ?_)
                    · have hno := hK2.free (by omega) hlt (Or.inl c_66)
                      refine lv_iconst (v := 0) C0.1 C0.2.1 dX9_link_82 (by decide) ?_
                      refine lv_istore (lv' := [(4, .int 0), (3, .int (nI i)), (2, .int (nI (m1 + 1))), (0, .ref (a 20)), (1, .int (nI t))]) C0.1 C0.2.1 dX9_link_83 hl (by decide) rfl (fun ls hl => ?_)
                      have loop85 : ∀ (n : Nat) (j : Nat) (f3 g3 : Nat → Int32), (j ≤ P) → (P + 1 ≤ j + n) → (KI S P L t m1 i j f3 g3) → ∀ (H : Heap) (locs : List Loc) (ls : Array Slot), WQ D cA a S (up (up X 10 f3) 12 g3) I H → va_S (AI a I) s.heap H locs → lv_has ls 7 [(4, .int (nI j)), (2, .int (nI (m1 + 1))), (3, .int (nI i)), (0, .ref (a 20)), (1, .int (nI t))] → W p l e { frames := 2, cells := 0, slots := 0, locals := 44 } s m args below meth c H locs (0) (0) (MQ below (QqV D cA a I (fun S1 X1 => S1 = S ∧ (∀ x, x < L → X1 10 x = lenM S P x t) ∧ (∀ x, x < L → ∀ k, k < 8 → lenM S P x t = nI k → X1 12 x = tolM S P t k x) ∧ ∀ k, k ≠ 10 → k ≠ 12 → X1 k = X k)) args s 0 0 (AI a I)) (F0 m 85 ls []) := by
                        intro n
                        induction n with
                        | zero => intro j f3 g3 hij hfj hK3; exfalso; omega
                        | succ n ih85 =>
                          intro j f3 g3 hij hfj hK3 H locs ls hP hS hl
                          refine lv_iload C0.1 C0.2.1 dX9_link_85 (lv_at hl 0 rfl) ?_
                          refine lv_aload_n C0.1 C0.2.1 dX9_link_87 rfl (lv_at hl 3 rfl) ?_
                          refine g20i (v := nI P) C0 hK hP (hd.1 _ (by decide)) 6 (by decide) fl_X9_51 rfl hnP dX9_link_88 ?_
                          refine lv_icmp_ge (tgt := 187) C0.1 C0.2.1 dX9_link_91 (by decide) (fun c_91 => ?_) (fun c_91 => ?_)
                          · have hgej : P ≤ j := (nI_leI (by omega) (by omega)).mp c_91
                            refine lv_iinc (v := nI (i + 1)) (lv' := [(3, .int (nI (i + 1))), (4, .int (nI j)), (2, .int (nI (m1 + 1))), (0, .ref (a 20)), (1, .int (nI t))]) C0.1 C0.2.1 dX9_link_187 hl (k := 2) rfl (nI_1 _) (by decide) rfl (fun ls hl => ?_)
                            refine lv_goto (tgt := 51) C0.1 C0.2.1 dX9_link_190 (by decide) ?_
                            exact ih51 (i + 1) _ _ (by omega) (by omega) (KI.nextL hLnk hL8 hP6 ht (by omega) hlt (by rw [show j = P by omega] at hK3; exact hK3)) _ _ _ hP hS (lv_sub hl [0, 2, 3, 4] rfl)
                          · have hltj : j < P := Nat.not_le.mp fun q => c_91 (nI_le q (by omega))
                            refine lv_aload_n C0.1 C0.2.1 dX9_link_94 rfl (lv_at hl 3 rfl) ?_
                            refine lv_iload C0.1 C0.2.1 dX9_link_95 (lv_at hl 0 rfl) ?_
                            refine lv_iload_n C0.1 C0.2.1 dX9_link_97 rfl (lv_at hl 2 rfl) ?_
                            refine k_X9_across hd sId C0 hK hP (by omega) (v := acrI S j i) rfl hS hA hl.1 ml_X9_134 ⟨Nat.le_of_ble_eq_true rfl, Nat.le_of_ble_eq_true rfl⟩ ⟨Nat.zero_le _, Nat.zero_le _⟩ (Nat.le_of_ble_eq_true rfl) dX9_link_98 (fun H locs hP hS => ?_)
                            refine lv_istore (lv' := [(5, .int (acrI S j i)), (4, .int (nI j)), (2, .int (nI (m1 + 1))), (3, .int (nI i)), (0, .ref (a 20)), (1, .int (nI t))]) C0.1 C0.2.1 dX9_link_101 hl (by decide) rfl (fun ls hl => ?_)
                            refine lv_iload C0.1 C0.2.1 dX9_link_103 (lv_at hl 0 rfl) ?_
                            refine lv_iconst (v := (-1)) C0.1 C0.2.1 dX9_link_105 (by decide) ?_
                            refine lv_icmp_eq (tgt := 181) C0.1 C0.2.1 dX9_link_106 (by decide) (fun c_106 => ?_) (fun c_106 => ?_)
                            · refine lv_iinc (v := nI (j + 1)) (lv' := [(4, .int (nI (j + 1))), (5, .int (acrI S j i)), (2, .int (nI (m1 + 1))), (3, .int (nI i)), (0, .ref (a 20)), (1, .int (nI t))]) C0.1 C0.2.1 dX9_link_181 hl (k := 1) rfl (nI_1 _) (by decide) rfl (fun ls hl => ?_)
                              refine lv_goto (tgt := 85) C0.1 C0.2.1 dX9_link_184 (by decide) ?_
                              exact ih85 (j + 1) _ _ (by omega) (by omega) (KI.pno hLnk hL8 hP6 ht (by omega) hlt hltj hK3 (fun o9 h9 h8 => absurd (show nI o9 = -1 by rw [← h9]; exact c_106) (nI_neg (by omega)))) _ _ _ hP hS (lv_sub hl [0, 2, 3, 4, 5] rfl)
                            · obtain ⟨o, ho, hoL⟩ : ∃ o, acrI S j i = nI o ∧ o < L := by rcases acr_cases hLnk hL8 hltj (show i < 8 by omega) with ⟨h9, h8, -⟩ | ⟨h9, -⟩; exact ⟨_, h9, h8⟩; exact absurd h9 c_106
                              have hl : lv_has ls 7 [(5, .int (nI o)), (4, .int (nI j)), (2, .int (nI (m1 + 1))), (3, .int (nI i)), (0, .ref (a 20)), (1, .int (nI t))] := by rw [ho] at hl; exact hl
                              refine lv_aload_n C0.1 C0.2.1 dX9_link_109 rfl (lv_at hl 4 rfl) ?_
                              refine g20 C0 hK hP (hd.1 _ (by decide)) 13 (by decide) fl_X9_34 rfl dX9_link_110 ?_
                              refine lv_iload C0.1 C0.2.1 dX9_link_113 (lv_at hl 0 rfl) ?_
                              refine mld (k := 8) (by decide) C0 hK hP (hd.1 _ (by decide)) (v := f3 o) (vp_in_nI (show o < 8 by omega) (by decide)) ((rg_in (n := 8) (vp_in_nI (show o < 8 by omega) (by decide))).symm.trans (rg_nI (show o < 8 by omega) (by decide))) dX9_link_115 ?_
                              refine lv_iload_n C0.1 C0.2.1 dX9_link_116 rfl (lv_at hl 2 rfl) ?_
                              refine lv_iconst (v := 1) C0.1 C0.2.1 dX9_link_117 (by decide) ?_
                              refine lv_isub C0.1 C0.2.1 dX9_link_118 ?_
                              rw [nI_pred]
                              refine lv_icmp_eq (tgt := 125) C0.1 C0.2.1 dX9_link_119 (by decide) (fun c_119 => ?_) (fun c_119 => ?_)
                              · refine lv_aload_n C0.1 C0.2.1 dX9_link_125 rfl (lv_at hl 4 rfl) ?_
                                refine g20 C0 hK hP (hd.1 _ (by decide)) 14 (by decide) fl_X9_37 rfl dX9_link_126 ?_
                                refine lv_iload C0.1 C0.2.1 dX9_link_129 (lv_at hl 0 rfl) ?_
                                refine mld (k := 9) (by decide) C0 hK hP (hd.1 _ (by decide)) (v := g3 o) (vp_in_nI (show o < 8 by omega) (by decide)) ((rg_in (n := 8) (vp_in_nI (show o < 8 by omega) (by decide))).symm.trans (rg_nI (show o < 8 by omega) (by decide))) dX9_link_131 ?_
                                refine lv_aload_n C0.1 C0.2.1 dX9_link_132 rfl (lv_at hl 4 rfl) ?_
                                refine lv_iload C0.1 C0.2.1 dX9_link_133 (lv_at hl 1 rfl) ?_
                                refine lv_iconst (v := 5) C0.1 C0.2.1 dX9_link_135 (by decide) ?_
                                refine k_X9_pu_5 hd sId C0 hK hP (by omega) (v := S 9 j) rfl hS hA hl.1 ml_X9_66 ⟨Nat.le_of_ble_eq_true rfl, Nat.le_of_ble_eq_true rfl⟩ ⟨Nat.zero_le _, Nat.zero_le _⟩ (Nat.le_of_ble_eq_true rfl) dX9_link_136 (fun H locs hP hS => ?_)
                                refine lv_iadd C0.1 C0.2.1 dX9_link_139 ?_
                                refine lv_istore (lv' := [(6, .int ((g3 o) + (S 9 j))), (5, .int (nI o)), (4, .int (nI j)), (2, .int (nI (m1 + 1))), (3, .int (nI i)), (0, .ref (a 20)), (1, .int (nI t))]) C0.1 C0.2.1 dX9_link_140 hl (by decide) rfl (fun ls hl => ?_)
                                refine lv_aload_n C0.1 C0.2.1 dX9_link_142 rfl (lv_at hl 5 rfl) ?_
                                refine g20 C0 hK hP (hd.1 _ (by decide)) 14 (by decide) fl_X9_37 rfl dX9_link_143 ?_
                                refine lv_iload_n C0.1 C0.2.1 dX9_link_146 rfl (lv_at hl 4 rfl) ?_
                                refine lv_aload_n C0.1 C0.2.1 dX9_link_147 rfl (lv_at hl 5 rfl) ?_
                                refine g20 C0 hK hP (hd.1 _ (by decide)) 13 (by decide) fl_X9_34 rfl dX9_link_148 ?_
                                refine lv_iload_n C0.1 C0.2.1 dX9_link_151 rfl (lv_at hl 4 rfl) ?_
                                refine mld (k := 8) (by decide) C0 hK hP (hd.1 _ (by decide)) (v := f3 i) (vp_in_nI (show i < 8 by omega) (by decide)) ((rg_in (n := 8) (vp_in_nI (show i < 8 by omega) (by decide))).symm.trans (rg_nI (show i < 8 by omega) (by decide))) dX9_link_152 ?_
                                refine lv_iload_n C0.1 C0.2.1 dX9_link_153 rfl (lv_at hl 3 rfl) ?_
                                refine lv_icmp_ne (tgt := 171) C0.1 C0.2.1 dX9_link_154 (by decide) (fun c_154 => ?_) (fun c_154 => ?_)
                                · refine lv_iload C0.1 C0.2.1 dX9_link_171 (lv_at hl 0 rfl) ?_
                                  refine mst (k := 9) (by decide) C0 hK hP hS hA (hd.1 _ (by decide)) hd.2.2 (vp_in_nI (show i < 8 by omega) (by decide)) S (up (up (up X 10 f3) 12 g3) 12 (upd g3 i ((g3 o) + (S 9 j)))) (fun q9 => (show upd g3 i ((g3 o) + (S 9 j)) q9 = upd g3 (nI i).toNatClampNeg ((g3 o) + (S 9 j)) q9 by rw [nI_clamp (by omega)])) (fun j9 _ h9 => cm_sc (c := 12) (fun k9 h8 => up_ne h8) (by omega) h9) dX9_link_173 (fun H locs hP hS => ?_)
                                  have hP : WQ D cA a S (up (up X 10 f3) 12 (upd g3 i ((g3 o) + (S 9 j)))) I H := WQ.congr (show WQ D cA a S (up (up (up X 10 f3) 12 g3) 12 (upd g3 i ((g3 o) + (S 9 j)))) I H from hP) (fun _ => rfl) (fun k => by
                                      by_cases h_10 : k = 10
                                      · subst h_10; rfl
                                      by_cases h_12 : k = 12
                                      · subst h_12; rfl
                                      simp only [up, h_10, h_12, if_false])
                                  refine lv_aload_n C0.1 C0.2.1 dX9_link_174 rfl (lv_at hl 5 rfl) ?_
                                  refine g20 C0 hK hP (hd.1 _ (by decide)) 13 (by decide) fl_X9_34 rfl dX9_link_175 ?_
                                  refine lv_iload_n C0.1 C0.2.1 dX9_link_178 rfl (lv_at hl 4 rfl) ?_
                                  refine lv_iload_n C0.1 C0.2.1 dX9_link_179 rfl (lv_at hl 3 rfl) ?_
                                  refine mst (k := 8) (by decide) C0 hK hP hS hA (hd.1 _ (by decide)) hd.2.2 (vp_in_nI (show i < 8 by omega) (by decide)) S (up (up (up X 10 f3) 12 (upd g3 i ((g3 o) + (S 9 j)))) 10 (upd f3 i (nI (m1 + 1)))) (fun q9 => (show upd f3 i (nI (m1 + 1)) q9 = upd f3 (nI i).toNatClampNeg (nI (m1 + 1)) q9 by rw [nI_clamp (by omega)])) (fun j9 _ h9 => cm_sc (c := 10) (fun k9 h8 => up_ne h8) (by omega) h9) dX9_link_180 (fun H locs hP hS => ?_)
                                  have hP : WQ D cA a S (up (up X 12 (upd g3 i ((g3 o) + (S 9 j)))) 10 (upd f3 i (nI (m1 + 1)))) I H := WQ.congr (show WQ D cA a S (up (up (up X 10 f3) 12 (upd g3 i ((g3 o) + (S 9 j)))) 10 (upd f3 i (nI (m1 + 1)))) I H from hP) (fun _ => rfl) (fun k => by
                                      by_cases h_12 : k = 12
                                      · subst h_12; rfl
                                      by_cases h_10 : k = 10
                                      · subst h_10; rfl
                                      simp only [up, h_12, h_10, if_false])
                                  refine lv_iinc (v := nI (j + 1)) (lv' := [(4, .int (nI (j + 1))), (6, .int ((g3 o) + (S 9 j))), (5, .int (nI o)), (2, .int (nI (m1 + 1))), (3, .int (nI i)), (0, .ref (a 20)), (1, .int (nI t))]) C0.1 C0.2.1 dX9_link_181 hl (k := 2) rfl (nI_1 _) (by decide) rfl (fun ls hl => ?_)
                                  refine lv_goto (tgt := 85) C0.1 C0.2.1 dX9_link_184 (by decide) ?_
                                  exact ih85 (j + 1) _ _ (by omega) (by omega) (by have h9 := KI.pyes hLnk hL8 hP6 hTl ht (by omega) hlt hltj hno hK3 ho hoL c_119; rw [if_neg c_154] at h9; exact h9) _ _ _ hP hS (lv_sub hl [0, 3, 4, 5, 6] rfl)
                                · refine lv_aload_n C0.1 C0.2.1 dX9_link_157 rfl (lv_at hl 5 rfl) ?_
                                  refine g20 C0 hK hP (hd.1 _ (by decide)) 14 (by decide) fl_X9_37 rfl dX9_link_158 ?_
                                  refine lv_iload_n C0.1 C0.2.1 dX9_link_161 rfl (lv_at hl 4 rfl) ?_
                                  refine mld (k := 9) (by decide) C0 hK hP (hd.1 _ (by decide)) (v := g3 i) (vp_in_nI (show i < 8 by omega) (by decide)) ((rg_in (n := 8) (vp_in_nI (show i < 8 by omega) (by decide))).symm.trans (rg_nI (show i < 8 by omega) (by decide))) dX9_link_162 ?_
                                  refine lv_iload C0.1 C0.2.1 dX9_link_163 (lv_at hl 0 rfl) ?_
                                  refine va_mmin C0.1 C0.2.1 (C0.2.2.1.trans hl.1.symm) C0.2.2.2.1 (C0.2.2.2.2 _ ml_X9_137) (C0.2.2.2.2 _ sm_M_min) (C0.2.2.2.2 _ in_J9) (C0.2.2.2.2 _ co_M_min) (Nat.le_of_ble_eq_true rfl) (Nat.le_of_ble_eq_true rfl) (Nat.zero_le _) (Nat.zero_le _) dX9_link_165 ?_
                                  refine lv_goto (tgt := 173) C0.1 C0.2.1 dX9_link_168 (by decide) ?_
                                  refine mst (k := 9) (by decide) C0 hK hP hS hA (hd.1 _ (by decide)) hd.2.2 (vp_in_nI (show i < 8 by omega) (by decide)) S (up (up (up X 10 f3) 12 g3) 12 (upd g3 i (if ((g3 o) + (S 9 j)) < (g3 i) then ((g3 o) + (S 9 j)) else (g3 i)))) (fun q9 => (show upd g3 i (if ((g3 o) + (S 9 j)) < (g3 i) then ((g3 o) + (S 9 j)) else (g3 i)) q9 = upd g3 (nI i).toNatClampNeg (if ((g3 o) + (S 9 j)) < (g3 i) then ((g3 o) + (S 9 j)) else (g3 i)) q9 by rw [nI_clamp (by omega)])) (fun j9 _ h9 => cm_sc (c := 12) (fun k9 h8 => up_ne h8) (by omega) h9) dX9_link_173 (fun H locs hP hS => ?_)
                                  have hP : WQ D cA a S (up (up X 10 f3) 12 (upd g3 i (if ((g3 o) + (S 9 j)) < (g3 i) then ((g3 o) + (S 9 j)) else (g3 i)))) I H := WQ.congr (show WQ D cA a S (up (up (up X 10 f3) 12 g3) 12 (upd g3 i (if ((g3 o) + (S 9 j)) < (g3 i) then ((g3 o) + (S 9 j)) else (g3 i)))) I H from hP) (fun _ => rfl) (fun k => by
                                      by_cases h_10 : k = 10
                                      · subst h_10; rfl
                                      by_cases h_12 : k = 12
                                      · subst h_12; rfl
                                      simp only [up, h_10, h_12, if_false])
                                  refine lv_aload_n C0.1 C0.2.1 dX9_link_174 rfl (lv_at hl 5 rfl) ?_
                                  refine g20 C0 hK hP (hd.1 _ (by decide)) 13 (by decide) fl_X9_34 rfl dX9_link_175 ?_
                                  refine lv_iload_n C0.1 C0.2.1 dX9_link_178 rfl (lv_at hl 4 rfl) ?_
                                  refine lv_iload_n C0.1 C0.2.1 dX9_link_179 rfl (lv_at hl 3 rfl) ?_
                                  refine mst (k := 8) (by decide) C0 hK hP hS hA (hd.1 _ (by decide)) hd.2.2 (vp_in_nI (show i < 8 by omega) (by decide)) S (up (up (up X 10 f3) 12 (upd g3 i (if ((g3 o) + (S 9 j)) < (g3 i) then ((g3 o) + (S 9 j)) else (g3 i)))) 10 (upd f3 i (nI (m1 + 1)))) (fun q9 => (show upd f3 i (nI (m1 + 1)) q9 = upd f3 (nI i).toNatClampNeg (nI (m1 + 1)) q9 by rw [nI_clamp (by omega)])) (fun j9 _ h9 => cm_sc (c := 10) (fun k9 h8 => up_ne h8) (by omega) h9) dX9_link_180 (fun H locs hP hS => ?_)
                                  have hP : WQ D cA a S (up (up X 12 (upd g3 i (if ((g3 o) + (S 9 j)) < (g3 i) then ((g3 o) + (S 9 j)) else (g3 i)))) 10 (upd f3 i (nI (m1 + 1)))) I H := WQ.congr (show WQ D cA a S (up (up (up X 10 f3) 12 (upd g3 i (if ((g3 o) + (S 9 j)) < (g3 i) then ((g3 o) + (S 9 j)) else (g3 i)))) 10 (upd f3 i (nI (m1 + 1)))) I H from hP) (fun _ => rfl) (fun k => by
                                      by_cases h_12 : k = 12
                                      · subst h_12; rfl
                                      by_cases h_10 : k = 10
                                      · subst h_10; rfl
                                      simp only [up, h_12, h_10, if_false])
                                  refine lv_iinc (v := nI (j + 1)) (lv' := [(4, .int (nI (j + 1))), (6, .int ((g3 o) + (S 9 j))), (5, .int (nI o)), (2, .int (nI (m1 + 1))), (3, .int (nI i)), (0, .ref (a 20)), (1, .int (nI t))]) C0.1 C0.2.1 dX9_link_181 hl (k := 2) rfl (nI_1 _) (by decide) rfl (fun ls hl => ?_)
                                  refine lv_goto (tgt := 85) C0.1 C0.2.1 dX9_link_184 (by decide) ?_
                                  exact ih85 (j + 1) _ _ (by omega) (by omega) (by have h9 := KI.pyes hLnk hL8 hP6 hTl ht (by omega) hlt hltj hno hK3 ho hoL c_119; rw [if_pos c_154] at h9; exact h9) _ _ _ hP hS (lv_sub hl [0, 3, 4, 5, 6] rfl)
                              · refine lv_goto (tgt := 181) C0.1 C0.2.1 dX9_link_122 (by decide) ?_
                                refine lv_iinc (v := nI (j + 1)) (lv' := [(4, .int (nI (j + 1))), (5, .int (nI o)), (2, .int (nI (m1 + 1))), (3, .int (nI i)), (0, .ref (a 20)), (1, .int (nI t))]) C0.1 C0.2.1 dX9_link_181 hl (k := 1) rfl (nI_1 _) (by decide) rfl (fun ls hl => ?_)
                                refine lv_goto (tgt := 85) C0.1 C0.2.1 dX9_link_184 (by decide) ?_
                                exact ih85 (j + 1) _ _ (by omega) (by omega) (KI.pno hLnk hL8 hP6 ht (by omega) hlt hltj hK3 (fun o9 h9 h8 => by rw [show o9 = o from nI_inj (by omega) (by omega) (h9.symm.trans ho)]; exact c_119)) _ _ _ hP hS (lv_sub hl [0, 2, 3, 4, 5] rfl)
                      exact loop85 (P + 1) 0 _ _ (by omega) (by omega) hK2 _ _ _ hP hS (lv_sub hl [0, 2, 1, 3, 4] rfl)
                    · refine lv_aload_n C0.1 C0.2.1 dX9_link_69 rfl (lv_at hl 2 rfl) ?_
                      refine g20 C0 hK hP (hd.1 _ (by decide)) 13 (by decide) fl_X9_34 rfl dX9_link_70 ?_
                      refine lv_iload_n C0.1 C0.2.1 dX9_link_73 rfl (lv_at hl 0 rfl) ?_
                      refine mld (k := 8) (by decide) C0 hK hP (hd.1 _ (by decide)) (v := f2 i) (vp_in_nI (show i < 8 by omega) (by decide)) ((rg_in (n := 8) (vp_in_nI (show i < 8 by omega) (by decide))).symm.trans (rg_nI (show i < 8 by omega) (by decide))) dX9_link_74 ?_
                      refine lv_iload_n C0.1 C0.2.1 dX9_link_75 rfl (lv_at hl 1 rfl) ?_
                      refine lv_icmp_ge (tgt := 82) C0.1 C0.2.1 dX9_link_76 (by decide) (fun c_76 => ?_) (fun c_76 => ?_)
                      · have hno := hK2.free (by omega) hlt (Or.inr (Int32.not_lt.mpr c_76))
                        refine lv_iconst (v := 0) C0.1 C0.2.1 dX9_link_82 (by decide) ?_
                        refine lv_istore (lv' := [(4, .int 0), (3, .int (nI i)), (2, .int (nI (m1 + 1))), (0, .ref (a 20)), (1, .int (nI t))]) C0.1 C0.2.1 dX9_link_83 hl (by decide) rfl (fun ls hl => ?_)
                        have loop85 : ∀ (n : Nat) (j : Nat) (f3 g3 : Nat → Int32), (j ≤ P) → (P + 1 ≤ j + n) → (KI S P L t m1 i j f3 g3) → ∀ (H : Heap) (locs : List Loc) (ls : Array Slot), WQ D cA a S (up (up X 10 f3) 12 g3) I H → va_S (AI a I) s.heap H locs → lv_has ls 7 [(4, .int (nI j)), (2, .int (nI (m1 + 1))), (3, .int (nI i)), (0, .ref (a 20)), (1, .int (nI t))] → W p l e { frames := 2, cells := 0, slots := 0, locals := 44 } s m args below meth c H locs (0) (0) (MQ below (QqV D cA a I (fun S1 X1 => S1 = S ∧ (∀ x, x < L → X1 10 x = lenM S P x t) ∧ (∀ x, x < L → ∀ k, k < 8 → lenM S P x t = nI k → X1 12 x = tolM S P t k x) ∧ ∀ k, k ≠ 10 → k ≠ 12 → X1 k = X k)) args s 0 0 (AI a I)) (F0 m 85 ls []) := by
                          intro n
                          induction n with
                          | zero => intro j f3 g3 hij hfj hK3; exfalso; omega
                          | succ n ih85 =>
                            intro j f3 g3 hij hfj hK3 H locs ls hP hS hl
                            refine lv_iload C0.1 C0.2.1 dX9_link_85 (lv_at hl 0 rfl) ?_
                            refine lv_aload_n C0.1 C0.2.1 dX9_link_87 rfl (lv_at hl 3 rfl) ?_
                            refine g20i (v := nI P) C0 hK hP (hd.1 _ (by decide)) 6 (by decide) fl_X9_51 rfl hnP dX9_link_88 ?_
                            refine lv_icmp_ge (tgt := 187) C0.1 C0.2.1 dX9_link_91 (by decide) (fun c_91 => ?_) (fun c_91 => ?_)
                            · have hgej : P ≤ j := (nI_leI (by omega) (by omega)).mp c_91
                              refine lv_iinc (v := nI (i + 1)) (lv' := [(3, .int (nI (i + 1))), (4, .int (nI j)), (2, .int (nI (m1 + 1))), (0, .ref (a 20)), (1, .int (nI t))]) C0.1 C0.2.1 dX9_link_187 hl (k := 2) rfl (nI_1 _) (by decide) rfl (fun ls hl => ?_)
                              refine lv_goto (tgt := 51) C0.1 C0.2.1 dX9_link_190 (by decide) ?_
                              exact ih51 (i + 1) _ _ (by omega) (by omega) (KI.nextL hLnk hL8 hP6 ht (by omega) hlt (by rw [show j = P by omega] at hK3; exact hK3)) _ _ _ hP hS (lv_sub hl [0, 2, 3, 4] rfl)
                            · have hltj : j < P := Nat.not_le.mp fun q => c_91 (nI_le q (by omega))
                              refine lv_aload_n C0.1 C0.2.1 dX9_link_94 rfl (lv_at hl 3 rfl) ?_
                              refine lv_iload C0.1 C0.2.1 dX9_link_95 (lv_at hl 0 rfl) ?_
                              refine lv_iload_n C0.1 C0.2.1 dX9_link_97 rfl (lv_at hl 2 rfl) ?_
                              refine k_X9_across hd sId C0 hK hP (by omega) (v := acrI S j i) rfl hS hA hl.1 ml_X9_134 ⟨Nat.le_of_ble_eq_true rfl, Nat.le_of_ble_eq_true rfl⟩ ⟨Nat.zero_le _, Nat.zero_le _⟩ (Nat.le_of_ble_eq_true rfl) dX9_link_98 (fun H locs hP hS => ?_)
                              refine lv_istore (lv' := [(5, .int (acrI S j i)), (4, .int (nI j)), (2, .int (nI (m1 + 1))), (3, .int (nI i)), (0, .ref (a 20)), (1, .int (nI t))]) C0.1 C0.2.1 dX9_link_101 hl (by decide) rfl (fun ls hl => ?_)
                              refine lv_iload C0.1 C0.2.1 dX9_link_103 (lv_at hl 0 rfl) ?_
                              refine lv_iconst (v := (-1)) C0.1 C0.2.1 dX9_link_105 (by decide) ?_
                              refine lv_icmp_eq (tgt := 181) C0.1 C0.2.1 dX9_link_106 (by decide) (fun c_106 => ?_) (fun c_106 => ?_)
                              · refine lv_iinc (v := nI (j + 1)) (lv' := [(4, .int (nI (j + 1))), (5, .int (acrI S j i)), (2, .int (nI (m1 + 1))), (3, .int (nI i)), (0, .ref (a 20)), (1, .int (nI t))]) C0.1 C0.2.1 dX9_link_181 hl (k := 1) rfl (nI_1 _) (by decide) rfl (fun ls hl => ?_)
                                refine lv_goto (tgt := 85) C0.1 C0.2.1 dX9_link_184 (by decide) ?_
                                exact ih85 (j + 1) _ _ (by omega) (by omega) (KI.pno hLnk hL8 hP6 ht (by omega) hlt hltj hK3 (fun o9 h9 h8 => absurd (show nI o9 = -1 by rw [← h9]; exact c_106) (nI_neg (by omega)))) _ _ _ hP hS (lv_sub hl [0, 2, 3, 4, 5] rfl)
                              · obtain ⟨o, ho, hoL⟩ : ∃ o, acrI S j i = nI o ∧ o < L := by rcases acr_cases hLnk hL8 hltj (show i < 8 by omega) with ⟨h9, h8, -⟩ | ⟨h9, -⟩; exact ⟨_, h9, h8⟩; exact absurd h9 c_106
                                have hl : lv_has ls 7 [(5, .int (nI o)), (4, .int (nI j)), (2, .int (nI (m1 + 1))), (3, .int (nI i)), (0, .ref (a 20)), (1, .int (nI t))] := by rw [ho] at hl; exact hl
                                refine lv_aload_n C0.1 C0.2.1 dX9_link_109 rfl (lv_at hl 4 rfl) ?_
                                refine g20 C0 hK hP (hd.1 _ (by decide)) 13 (by decide) fl_X9_34 rfl dX9_link_110 ?_
                                refine lv_iload C0.1 C0.2.1 dX9_link_113 (lv_at hl 0 rfl) ?_
                                refine mld (k := 8) (by decide) C0 hK hP (hd.1 _ (by decide)) (v := f3 o) (vp_in_nI (show o < 8 by omega) (by decide)) ((rg_in (n := 8) (vp_in_nI (show o < 8 by omega) (by decide))).symm.trans (rg_nI (show o < 8 by omega) (by decide))) dX9_link_115 ?_
                                refine lv_iload_n C0.1 C0.2.1 dX9_link_116 rfl (lv_at hl 2 rfl) ?_
                                refine lv_iconst (v := 1) C0.1 C0.2.1 dX9_link_117 (by decide) ?_
                                refine lv_isub C0.1 C0.2.1 dX9_link_118 ?_
                                rw [nI_pred]
                                refine lv_icmp_eq (tgt := 125) C0.1 C0.2.1 dX9_link_119 (by decide) (fun c_119 => ?_) (fun c_119 => ?_)
                                · refine lv_aload_n C0.1 C0.2.1 dX9_link_125 rfl (lv_at hl 4 rfl) ?_
                                  refine g20 C0 hK hP (hd.1 _ (by decide)) 14 (by decide) fl_X9_37 rfl dX9_link_126 ?_
                                  refine lv_iload C0.1 C0.2.1 dX9_link_129 (lv_at hl 0 rfl) ?_
                                  refine mld (k := 9) (by decide) C0 hK hP (hd.1 _ (by decide)) (v := g3 o) (vp_in_nI (show o < 8 by omega) (by decide)) ((rg_in (n := 8) (vp_in_nI (show o < 8 by omega) (by decide))).symm.trans (rg_nI (show o < 8 by omega) (by decide))) dX9_link_131 ?_
                                  refine lv_aload_n C0.1 C0.2.1 dX9_link_132 rfl (lv_at hl 4 rfl) ?_
                                  refine lv_iload C0.1 C0.2.1 dX9_link_133 (lv_at hl 1 rfl) ?_
                                  refine lv_iconst (v := 5) C0.1 C0.2.1 dX9_link_135 (by decide) ?_
                                  refine k_X9_pu_5 hd sId C0 hK hP (by omega) (v := S 9 j) rfl hS hA hl.1 ml_X9_66 ⟨Nat.le_of_ble_eq_true rfl, Nat.le_of_ble_eq_true rfl⟩ ⟨Nat.zero_le _, Nat.zero_le _⟩ (Nat.le_of_ble_eq_true rfl) dX9_link_136 (fun H locs hP hS => ?_)
                                  refine lv_iadd C0.1 C0.2.1 dX9_link_139 ?_
                                  refine lv_istore (lv' := [(6, .int ((g3 o) + (S 9 j))), (5, .int (nI o)), (4, .int (nI j)), (2, .int (nI (m1 + 1))), (3, .int (nI i)), (0, .ref (a 20)), (1, .int (nI t))]) C0.1 C0.2.1 dX9_link_140 hl (by decide) rfl (fun ls hl => ?_)
                                  refine lv_aload_n C0.1 C0.2.1 dX9_link_142 rfl (lv_at hl 5 rfl) ?_
                                  refine g20 C0 hK hP (hd.1 _ (by decide)) 14 (by decide) fl_X9_37 rfl dX9_link_143 ?_
                                  refine lv_iload_n C0.1 C0.2.1 dX9_link_146 rfl (lv_at hl 4 rfl) ?_
                                  refine lv_aload_n C0.1 C0.2.1 dX9_link_147 rfl (lv_at hl 5 rfl) ?_
                                  refine g20 C0 hK hP (hd.1 _ (by decide)) 13 (by decide) fl_X9_34 rfl dX9_link_148 ?_
                                  refine lv_iload_n C0.1 C0.2.1 dX9_link_151 rfl (lv_at hl 4 rfl) ?_
                                  refine mld (k := 8) (by decide) C0 hK hP (hd.1 _ (by decide)) (v := f3 i) (vp_in_nI (show i < 8 by omega) (by decide)) ((rg_in (n := 8) (vp_in_nI (show i < 8 by omega) (by decide))).symm.trans (rg_nI (show i < 8 by omega) (by decide))) dX9_link_152 ?_
                                  refine lv_iload_n C0.1 C0.2.1 dX9_link_153 rfl (lv_at hl 3 rfl) ?_
                                  refine lv_icmp_ne (tgt := 171) C0.1 C0.2.1 dX9_link_154 (by decide) (fun c_154 => ?_) (fun c_154 => ?_)
                                  · refine lv_iload C0.1 C0.2.1 dX9_link_171 (lv_at hl 0 rfl) ?_
                                    refine mst (k := 9) (by decide) C0 hK hP hS hA (hd.1 _ (by decide)) hd.2.2 (vp_in_nI (show i < 8 by omega) (by decide)) S (up (up (up X 10 f3) 12 g3) 12 (upd g3 i ((g3 o) + (S 9 j)))) (fun q9 => (show upd g3 i ((g3 o) + (S 9 j)) q9 = upd g3 (nI i).toNatClampNeg ((g3 o) + (S 9 j)) q9 by rw [nI_clamp (by omega)])) (fun j9 _ h9 => cm_sc (c := 12) (fun k9 h8 => up_ne h8) (by omega) h9) dX9_link_173 (fun H locs hP hS => ?_)
                                    have hP : WQ D cA a S (up (up X 10 f3) 12 (upd g3 i ((g3 o) + (S 9 j)))) I H := WQ.congr (show WQ D cA a S (up (up (up X 10 f3) 12 g3) 12 (upd g3 i ((g3 o) + (S 9 j)))) I H from hP) (fun _ => rfl) (fun k => by
                                        by_cases h_10 : k = 10
                                        · subst h_10; rfl
                                        by_cases h_12 : k = 12
                                        · subst h_12; rfl
                                        simp only [up, h_10, h_12, if_false])
                                    refine lv_aload_n C0.1 C0.2.1 dX9_link_174 rfl (lv_at hl 5 rfl) ?_
                                    refine g20 C0 hK hP (hd.1 _ (by decide)) 13 (by decide) fl_X9_34 rfl dX9_link_175 ?_
                                    refine lv_iload_n C0.1 C0.2.1 dX9_link_178 rfl (lv_at hl 4 rfl) ?_
                                    refine lv_iload_n C0.1 C0.2.1 dX9_link_179 rfl (lv_at hl 3 rfl) ?_
                                    refine mst (k := 8) (by decide) C0 hK hP hS hA (hd.1 _ (by decide)) hd.2.2 (vp_in_nI (show i < 8 by omega) (by decide)) S (up (up (up X 10 f3) 12 (upd g3 i ((g3 o) + (S 9 j)))) 10 (upd f3 i (nI (m1 + 1)))) (fun q9 => (show upd f3 i (nI (m1 + 1)) q9 = upd f3 (nI i).toNatClampNeg (nI (m1 + 1)) q9 by rw [nI_clamp (by omega)])) (fun j9 _ h9 => cm_sc (c := 10) (fun k9 h8 => up_ne h8) (by omega) h9) dX9_link_180 (fun H locs hP hS => ?_)
                                    have hP : WQ D cA a S (up (up X 12 (upd g3 i ((g3 o) + (S 9 j)))) 10 (upd f3 i (nI (m1 + 1)))) I H := WQ.congr (show WQ D cA a S (up (up (up X 10 f3) 12 (upd g3 i ((g3 o) + (S 9 j)))) 10 (upd f3 i (nI (m1 + 1)))) I H from hP) (fun _ => rfl) (fun k => by
                                        by_cases h_12 : k = 12
                                        · subst h_12; rfl
                                        by_cases h_10 : k = 10
                                        · subst h_10; rfl
                                        simp only [up, h_12, h_10, if_false])
                                    refine lv_iinc (v := nI (j + 1)) (lv' := [(4, .int (nI (j + 1))), (6, .int ((g3 o) + (S 9 j))), (5, .int (nI o)), (2, .int (nI (m1 + 1))), (3, .int (nI i)), (0, .ref (a 20)), (1, .int (nI t))]) C0.1 C0.2.1 dX9_link_181 hl (k := 2) rfl (nI_1 _) (by decide) rfl (fun ls hl => ?_)
                                    refine lv_goto (tgt := 85) C0.1 C0.2.1 dX9_link_184 (by decide) ?_
                                    exact ih85 (j + 1) _ _ (by omega) (by omega) (by have h9 := KI.pyes hLnk hL8 hP6 hTl ht (by omega) hlt hltj hno hK3 ho hoL c_119; rw [if_neg c_154] at h9; exact h9) _ _ _ hP hS (lv_sub hl [0, 3, 4, 5, 6] rfl)
                                  · refine lv_aload_n C0.1 C0.2.1 dX9_link_157 rfl (lv_at hl 5 rfl) ?_
                                    refine g20 C0 hK hP (hd.1 _ (by decide)) 14 (by decide) fl_X9_37 rfl dX9_link_158 ?_
                                    refine lv_iload_n C0.1 C0.2.1 dX9_link_161 rfl (lv_at hl 4 rfl) ?_
                                    refine mld (k := 9) (by decide) C0 hK hP (hd.1 _ (by decide)) (v := g3 i) (vp_in_nI (show i < 8 by omega) (by decide)) ((rg_in (n := 8) (vp_in_nI (show i < 8 by omega) (by decide))).symm.trans (rg_nI (show i < 8 by omega) (by decide))) dX9_link_162 ?_
                                    refine lv_iload C0.1 C0.2.1 dX9_link_163 (lv_at hl 0 rfl) ?_
                                    refine va_mmin C0.1 C0.2.1 (C0.2.2.1.trans hl.1.symm) C0.2.2.2.1 (C0.2.2.2.2 _ ml_X9_137) (C0.2.2.2.2 _ sm_M_min) (C0.2.2.2.2 _ in_J9) (C0.2.2.2.2 _ co_M_min) (Nat.le_of_ble_eq_true rfl) (Nat.le_of_ble_eq_true rfl) (Nat.zero_le _) (Nat.zero_le _) dX9_link_165 ?_
                                    refine lv_goto (tgt := 173) C0.1 C0.2.1 dX9_link_168 (by decide) ?_
                                    refine mst (k := 9) (by decide) C0 hK hP hS hA (hd.1 _ (by decide)) hd.2.2 (vp_in_nI (show i < 8 by omega) (by decide)) S (up (up (up X 10 f3) 12 g3) 12 (upd g3 i (if ((g3 o) + (S 9 j)) < (g3 i) then ((g3 o) + (S 9 j)) else (g3 i)))) (fun q9 => (show upd g3 i (if ((g3 o) + (S 9 j)) < (g3 i) then ((g3 o) + (S 9 j)) else (g3 i)) q9 = upd g3 (nI i).toNatClampNeg (if ((g3 o) + (S 9 j)) < (g3 i) then ((g3 o) + (S 9 j)) else (g3 i)) q9 by rw [nI_clamp (by omega)])) (fun j9 _ h9 => cm_sc (c := 12) (fun k9 h8 => up_ne h8) (by omega) h9) dX9_link_173 (fun H locs hP hS => ?_)
                                    have hP : WQ D cA a S (up (up X 10 f3) 12 (upd g3 i (if ((g3 o) + (S 9 j)) < (g3 i) then ((g3 o) + (S 9 j)) else (g3 i)))) I H := WQ.congr (show WQ D cA a S (up (up (up X 10 f3) 12 g3) 12 (upd g3 i (if ((g3 o) + (S 9 j)) < (g3 i) then ((g3 o) + (S 9 j)) else (g3 i)))) I H from hP) (fun _ => rfl) (fun k => by
                                        by_cases h_10 : k = 10
                                        · subst h_10; rfl
                                        by_cases h_12 : k = 12
                                        · subst h_12; rfl
                                        simp only [up, h_10, h_12, if_false])
                                    refine lv_aload_n C0.1 C0.2.1 dX9_link_174 rfl (lv_at hl 5 rfl) ?_
                                    refine g20 C0 hK hP (hd.1 _ (by decide)) 13 (by decide) fl_X9_34 rfl dX9_link_175 ?_
                                    refine lv_iload_n C0.1 C0.2.1 dX9_link_178 rfl (lv_at hl 4 rfl) ?_
                                    refine lv_iload_n C0.1 C0.2.1 dX9_link_179 rfl (lv_at hl 3 rfl) ?_
                                    refine mst (k := 8) (by decide) C0 hK hP hS hA (hd.1 _ (by decide)) hd.2.2 (vp_in_nI (show i < 8 by omega) (by decide)) S (up (up (up X 10 f3) 12 (upd g3 i (if ((g3 o) + (S 9 j)) < (g3 i) then ((g3 o) + (S 9 j)) else (g3 i)))) 10 (upd f3 i (nI (m1 + 1)))) (fun q9 => (show upd f3 i (nI (m1 + 1)) q9 = upd f3 (nI i).toNatClampNeg (nI (m1 + 1)) q9 by rw [nI_clamp (by omega)])) (fun j9 _ h9 => cm_sc (c := 10) (fun k9 h8 => up_ne h8) (by omega) h9) dX9_link_180 (fun H locs hP hS => ?_)
                                    have hP : WQ D cA a S (up (up X 12 (upd g3 i (if ((g3 o) + (S 9 j)) < (g3 i) then ((g3 o) + (S 9 j)) else (g3 i)))) 10 (upd f3 i (nI (m1 + 1)))) I H := WQ.congr (show WQ D cA a S (up (up (up X 10 f3) 12 (upd g3 i (if ((g3 o) + (S 9 j)) < (g3 i) then ((g3 o) + (S 9 j)) else (g3 i)))) 10 (upd f3 i (nI (m1 + 1)))) I H from hP) (fun _ => rfl) (fun k => by
                                        by_cases h_12 : k = 12
                                        · subst h_12; rfl
                                        by_cases h_10 : k = 10
                                        · subst h_10; rfl
                                        simp only [up, h_12, h_10, if_false])
                                    refine lv_iinc (v := nI (j + 1)) (lv' := [(4, .int (nI (j + 1))), (6, .int ((g3 o) + (S 9 j))), (5, .int (nI o)), (2, .int (nI (m1 + 1))), (3, .int (nI i)), (0, .ref (a 20)), (1, .int (nI t))]) C0.1 C0.2.1 dX9_link_181 hl (k := 2) rfl (nI_1 _) (by decide) rfl (fun ls hl => ?_)
                                    refine lv_goto (tgt := 85) C0.1 C0.2.1 dX9_link_184 (by decide) ?_
                                    exact ih85 (j + 1) _ _ (by omega) (by omega) (by have h9 := KI.pyes hLnk hL8 hP6 hTl ht (by omega) hlt hltj hno hK3 ho hoL c_119; rw [if_pos c_154] at h9; exact h9) _ _ _ hP hS (lv_sub hl [0, 3, 4, 5, 6] rfl)
                                · refine lv_goto (tgt := 181) C0.1 C0.2.1 dX9_link_122 (by decide) ?_
                                  refine lv_iinc (v := nI (j + 1)) (lv' := [(4, .int (nI (j + 1))), (5, .int (nI o)), (2, .int (nI (m1 + 1))), (3, .int (nI i)), (0, .ref (a 20)), (1, .int (nI t))]) C0.1 C0.2.1 dX9_link_181 hl (k := 1) rfl (nI_1 _) (by decide) rfl (fun ls hl => ?_)
                                  refine lv_goto (tgt := 85) C0.1 C0.2.1 dX9_link_184 (by decide) ?_
                                  exact ih85 (j + 1) _ _ (by omega) (by omega) (KI.pno hLnk hL8 hP6 ht (by omega) hlt hltj hK3 (fun o9 h9 h8 => by rw [show o9 = o from nI_inj (by omega) (by omega) (h9.symm.trans ho)]; exact c_119)) _ _ _ hP hS (lv_sub hl [0, 2, 3, 4, 5] rfl)
                        exact loop85 (P + 1) 0 _ _ (by omega) (by omega) hK2 _ _ _ hP hS (lv_sub hl [0, 2, 1, 3, 4] rfl)
                      · refine lv_goto (tgt := 187) C0.1 C0.2.1 dX9_link_79 (by decide) ?_
                        refine lv_iinc (v := nI (i + 1)) (lv' := [(3, .int (nI (i + 1))), (2, .int (nI (m1 + 1))), (0, .ref (a 20)), (1, .int (nI t))]) C0.1 C0.2.1 dX9_link_187 hl (k := 0) rfl (nI_1 _) (by decide) rfl (fun ls hl => ?_)
                        refine lv_goto (tgt := 51) C0.1 C0.2.1 dX9_link_190 (by decide) ?_
                        exact ih51 (i + 1) _ _ (by omega) (by omega) (KI.nextL hLnk hL8 hP6 ht (by omega) hlt (hK2.skip (by omega) hlt c_66)) _ _ _ hP hS (lv_sub hl [0, 1, 2, 3] rfl)
              exact loop51 (L + 1) 0 _ _ (by omega) (by omega) hKI _ _ _ hP hS (lv_sub hl [0, 1, 2, 3] rfl)
        exact loop41 (L + 1) 0 _ _ (by omega) (by omega) (KI.init hLnk hL8 hP6 ht (fun x9 h9 => if_pos h9) (if_pos rfl)) _ _ _ hP hS (lv_sub hl [0, 1, 2] rfl)
      · have hltj2 : j2 < L := Nat.not_le.mp fun q => c_7 (nI_le q (by omega))
        refine lv_aload_n C0.1 C0.2.1 dX9_link_10 rfl (lv_at hl 1 rfl) ?_
        refine g20 C0 hK hP (hd.1 _ (by decide)) 13 (by decide) fl_X9_34 rfl dX9_link_11 ?_
        refine lv_iload_n C0.1 C0.2.1 dX9_link_14 rfl (lv_at hl 0 rfl) ?_
        refine lv_iload_n C0.1 C0.2.1 dX9_link_15 rfl (lv_at hl 0 rfl) ?_
        refine lv_iload_n C0.1 C0.2.1 dX9_link_16 rfl (lv_at hl 2 rfl) ?_
        refine lv_icmp_ne (tgt := 24) C0.1 C0.2.1 dX9_link_17 (by decide) (fun c_17 => ?_) (fun c_17 => ?_)
        · refine lv_iconst (v := (-1)) C0.1 C0.2.1 dX9_link_24 (by decide) ?_
          refine mst (k := 8) (by decide) C0 hK hP hS hA (hd.1 _ (by decide)) hd.2.2 (vp_in_nI (show j2 < 8 by omega) (by decide)) S (up (up X 10 (lkF t (X 10) j2)) 10 (upd (lkF t (X 10) j2) j2 (-1))) (fun q9 => (show upd (lkF t (X 10) j2) j2 (-1) q9 = upd (lkF t (X 10) j2) (nI j2).toNatClampNeg (-1) q9 by rw [nI_clamp (by omega)])) (fun j9 _ h9 => cm_sc (c := 10) (fun k9 h8 => up_ne h8) (by omega) h9) dX9_link_25 (fun H locs hP hS => ?_)
          have hP : WQ D cA a S (up X 10 (upd (lkF t (X 10) j2) j2 (-1))) I H := WQ.congr (show WQ D cA a S (up (up X 10 (lkF t (X 10) j2)) 10 (upd (lkF t (X 10) j2) j2 (-1))) I H from hP) (fun _ => rfl) (fun k => by
              by_cases h_10 : k = 10
              · subst h_10; rfl
              simp only [up, h_10, if_false])
          refine lv_iinc (v := nI (j2 + 1)) (lv' := [(2, .int (nI (j2 + 1))), (0, .ref (a 20)), (1, .int (nI t))]) C0.1 C0.2.1 dX9_link_26 hl (k := 0) rfl (nI_1 _) (by decide) rfl (fun ls hl => ?_)
          refine lv_goto (tgt := 2) C0.1 C0.2.1 dX9_link_29 (by decide) ?_
          have hP : WQ D cA a S (up X 10 (lkF t (X 10) (j2 + 1))) I H := WQ.congr hP (fun _ => rfl) (fun k => by
              by_cases h_10 : k = 10
              · subst h_10; exact (lkF_no _ (fun e9 => c_17 (by rw [e9])) : (upd (lkF t (X 10) j2) j2 (-1)) = (lkF t (X 10) (j2 + 1)))
              simp only [up, h_10, if_false])
          exact ih2 (j2 + 1)  (by omega) (by omega)  _ _ _ hP hS (lv_sub hl [0, 1, 2] rfl)
        · refine lv_iconst (v := 0) C0.1 C0.2.1 dX9_link_20 (by decide) ?_
          refine lv_goto (tgt := 25) C0.1 C0.2.1 dX9_link_21 (by decide) ?_
          refine mst (k := 8) (by decide) C0 hK hP hS hA (hd.1 _ (by decide)) hd.2.2 (vp_in_nI (show j2 < 8 by omega) (by decide)) S (up (up X 10 (lkF t (X 10) j2)) 10 (upd (lkF t (X 10) j2) j2 0)) (fun q9 => (show upd (lkF t (X 10) j2) j2 0 q9 = upd (lkF t (X 10) j2) (nI j2).toNatClampNeg 0 q9 by rw [nI_clamp (by omega)])) (fun j9 _ h9 => cm_sc (c := 10) (fun k9 h8 => up_ne h8) (by omega) h9) dX9_link_25 (fun H locs hP hS => ?_)
          have hP : WQ D cA a S (up X 10 (upd (lkF t (X 10) j2) j2 0)) I H := WQ.congr (show WQ D cA a S (up (up X 10 (lkF t (X 10) j2)) 10 (upd (lkF t (X 10) j2) j2 0)) I H from hP) (fun _ => rfl) (fun k => by
              by_cases h_10 : k = 10
              · subst h_10; rfl
              simp only [up, h_10, if_false])
          refine lv_iinc (v := nI (j2 + 1)) (lv' := [(2, .int (nI (j2 + 1))), (0, .ref (a 20)), (1, .int (nI t))]) C0.1 C0.2.1 dX9_link_26 hl (k := 0) rfl (nI_1 _) (by decide) rfl (fun ls hl => ?_)
          refine lv_goto (tgt := 2) C0.1 C0.2.1 dX9_link_29 (by decide) ?_
          have hP : WQ D cA a S (up X 10 (lkF t (X 10) (j2 + 1))) I H := WQ.congr hP (fun _ => rfl) (fun k => by
              by_cases h_10 : k = 10
              · subst h_10; exact (lkF_yes _ (nI_inj (by omega) (by omega) c_17) : (upd (lkF t (X 10) j2) j2 0) = (lkF t (X 10) (j2 + 1)))
              simp only [up, h_10, if_false])
          exact ih2 (j2 + 1)  (by omega) (by omega)  _ _ _ hP hS (lv_sub hl [0, 1, 2] rfl)
  have hP : WQ D cA a S (up X 10 (lkF t (X 10) 0)) I H := by rw [lkF_zero, up_self]; exact hP
  exact loop2 (L + 1) 0  (by omega) (by omega)  _ _ _ hP hS (lv_sub hl [0, 1, 2] rfl)
theorem k_X9_link {n : List Nat} (hd : Hd n a I) (hsub : ∀ k ∈ nM, k ∈ n) (C0 : CallFix p m c cc nL s args GW own) (hK : KK D cA s) (hP : WQ D cA a S X I H) {t : Nat} {P : Nat} {L : Nat} (hnP : S 82 0 = nI P) (hP6 : P ≤ 6) (hnL : S 81 0 = nI L) (hL8 : L ≤ 8) (hLnk : Lnk S P L) (hTl : TlW S P) (ht : t < L) (hS : va_S A0 H0 H locs) (hA : ∀ q, AI a I q → A0 q) (hls : ls.size = nL) {idx : Nat} (hlink : Cond.methodLink own idx yX9_link ∈ GW) (hR : 3 ≤ R.frames ∧ 70 ≤ R.locals) (hcs : cells ≤ R.cells ∧ slots ≤ R.slots) (hrest : (rest.map fun v => v.category).sum ≤ 8) (hdg : decode cc pc = .ok (.invokevirtual idx, 3)) (kk : ∀ (S1 X1 : Mem) (H1 : Heap) (locs1 : List Loc), (fun S1 X1 => S1 = S ∧ (∀ x, x < L → X1 10 x = lenM S P x t) ∧ (∀ x, x < L → ∀ k, k < 8 → lenM S P x t = nI k → X1 12 x = tolM S P t k x) ∧ ∀ k, k ≠ 10 → k ≠ 12 → X1 k = X k) S1 X1 → WQ D cA a S1 X1 I H1 → va_S A0 H0 H1 locs1 → W p l e R s m args below meth c H1 locs1 cells slots Q (F0 m (pc + 3) ls rest)) : W p l e R s m args below meth c H locs cells slots Q (F0 m pc ls (.int (nI t) :: .ref (a 20) :: rest)) := by
  exact hoV (qV (n := 1) (c_X9_link l D cA a S X I (hd.sub hsub) t hnP hP6 hnL hL8 hLnk hTl ht) C0 hlink im_X9_link se_X9_link in_X9 co_X9_link ⟨rfl, by decide⟩ hR hK hP (hd.1 _ (hsub _ (by decide))) rfl rfl rfl hls hrest rfl hdg hcs) hS hA kk
set_option maxHeartbeats 4000000 in
set_option maxRecDepth 100000 in
theorem c_X9_takes (l : Launch) (D : va_G) (cA : ClassId) (a : Adr) (S X : Mem) (I : Nat → Prop) (hd : Hd nM a I) (x : Nat) (t : Nat) {P : Nat} {L : Nat} (hnP : S 82 0 = nI P) (hP6 : P ≤ 6) (hnL : S 81 0 = nI L) (hL8 : L ≤ 8) (hLnk : Lnk S P L) (hTl : TlW S P) (hx : x < L) (ht : t < L) : NI l yX9_takes cX9_takes 5 (some .int) 3 70 D cA a S X I [.ref (a 20), .int (nI x), .int (nI t)] (fun r S1 X1 => r = fstM S P x t ∧ S1 = S ∧ ∀ k, k ≠ 10 → k ≠ 12 → X1 k = X k) := by
  refine nGo (by decide) (Nat.le_of_ble_eq_true rfl) ?_
  intro p e s m args below meth c ls C0 hr hlk hK hP hS hl hargs
  obtain ⟨H, hHe⟩ : ∃ H, H = s.heap := ⟨_, rfl⟩
  obtain ⟨locs, hlo⟩ : ∃ L : List Loc, L = [] := ⟨_, rfl⟩
  have hP : WQ D cA a S X I H := hHe ▸ hP
  have hS : va_S (AI a I) s.heap H locs := by rw [hHe, hlo]; exact hS
  rw [← hHe, ← hlo]
  have hA : ∀ q, AI a I q → AI a I q := fun _ h => h
  refine lv_aload_n C0.1 C0.2.1 dX9_takes_0 rfl (lv_at hl 0 rfl) ?_
  refine lv_iload_n C0.1 C0.2.1 dX9_takes_1 rfl (lv_at hl 2 rfl) ?_
  refine k_X9_link hd sId C0 hK hP hnP hP6 hnL hL8 hLnk hTl ht hS hA hl.1 ml_X9_140 ⟨Nat.le_of_ble_eq_true rfl, Nat.le_of_ble_eq_true rfl⟩ ⟨Nat.zero_le _, Nat.zero_le _⟩ (Nat.le_of_ble_eq_true rfl) dX9_takes_2 (fun S_2 X_3 H locs hx_1 hP hS => ?_)
  obtain ⟨hs1, hfw, htl, hxo⟩ := hx_1
  rw [hs1] at hP
  refine lv_iconst (v := 0) C0.1 C0.2.1 dX9_takes_5 (by decide) ?_
  refine lv_istore_n (lv' := [(3, .int 0), (0, .ref (a 20)), (1, .int (nI x)), (2, .int (nI t))]) C0.1 C0.2.1 dX9_takes_6 rfl hl (by decide) rfl (fun ls hl => ?_)
  have loop7 : ∀ (n : Nat) (i : Nat), (i ≤ P) → (P + 1 ≤ i + n) → (fstM S P x t = fndF (fun n => bgM S P n x t) i (P - i)) → ∀ (H : Heap) (locs : List Loc) (ls : Array Slot), WQ D cA a S X_3 I H → va_S (AI a I) s.heap H locs → lv_has ls 5 [(3, .int (nI i)), (0, .ref (a 20)), (1, .int (nI x)), (2, .int (nI t))] → W p l e { frames := 3, cells := 0, slots := 0, locals := 70 } s m args below meth c H locs (0) (0) (MQ below (QqI D cA a I (fun r S1 X1 => r = fstM S P x t ∧ S1 = S ∧ ∀ k, k ≠ 10 → k ≠ 12 → X1 k = X k)) args s 0 0 (AI a I)) (F0 m 7 ls []) := by
    intro n
    induction n with
    | zero => intro i hi hf hfd; exfalso; omega
    | succ n ih7 =>
      intro i hi hf hfd H locs ls hP hS hl
      refine lv_iload_n C0.1 C0.2.1 dX9_takes_7 rfl (lv_at hl 0 rfl) ?_
      refine lv_aload_n C0.1 C0.2.1 dX9_takes_8 rfl (lv_at hl 1 rfl) ?_
      refine g20i (v := nI P) C0 hK hP (hd.1 _ (by decide)) 6 (by decide) fl_X9_51 rfl hnP dX9_takes_9 ?_
      refine lv_icmp_ge (tgt := 70) C0.1 C0.2.1 dX9_takes_12 (by decide) (fun c_12 => ?_) (fun c_12 => ?_)
      · have hge : P ≤ i := (nI_leI (by omega) (by omega)).mp c_12
        refine lv_iconst (v := (-1)) C0.1 C0.2.1 dX9_takes_70 (by decide) ?_
        exact rtI C0 hr hlk hP hS ⟨by rw [hfd, show P - i = 0 by omega]; rfl, rfl, hxo⟩ dX9_takes_71
      · have hlt : i < P := Nat.not_le.mp fun q => c_12 (nI_le q (by omega))
        refine lv_iload_n C0.1 C0.2.1 dX9_takes_15 rfl (lv_at hl 2 rfl) ?_
        refine lv_iload_n C0.1 C0.2.1 dX9_takes_16 rfl (lv_at hl 3 rfl) ?_
        refine lv_icmp_eq (tgt := 70) C0.1 C0.2.1 dX9_takes_17 (by decide) (fun c_17 => ?_) (fun c_17 => ?_)
        · refine lv_iconst (v := (-1)) C0.1 C0.2.1 dX9_takes_70 (by decide) ?_
          exact rtI C0 hr hlk hP hS ⟨(fndF_all P 0 (fst_none hLnk hL8 hP6 hx ht (Or.inl (nI_inj (by omega) (by omega) c_17)))).symm, rfl, hxo⟩ dX9_takes_71
        · refine lv_aload_n C0.1 C0.2.1 dX9_takes_20 rfl (lv_at hl 1 rfl) ?_
          refine g20 C0 hK hP (hd.1 _ (by decide)) 13 (by decide) fl_X9_34 rfl dX9_takes_21 ?_
          refine lv_iload_n C0.1 C0.2.1 dX9_takes_24 rfl (lv_at hl 2 rfl) ?_
          refine mld (k := 8) (by decide) C0 hK hP (hd.1 _ (by decide)) (v := lenM S P x t) (vp_in_nI (show x < 8 by omega) (by decide)) ((rg_in (n := 8) (vp_in_nI (show x < 8 by omega) (by decide))).symm.trans ((rg_nI (show x < 8 by omega) (by decide)).trans (hfw x hx))) dX9_takes_25 ?_
          refine lv_iconst (v := (-1)) C0.1 C0.2.1 dX9_takes_26 (by decide) ?_
          refine lv_icmp_eq (tgt := 70) C0.1 C0.2.1 dX9_takes_27 (by decide) (fun c_27 => ?_) (fun c_27 => ?_)
          · refine lv_iconst (v := (-1)) C0.1 C0.2.1 dX9_takes_70 (by decide) ?_
            exact rtI C0 hr hlk hP hS ⟨(fndF_all P 0 (fst_none hLnk hL8 hP6 hx ht (Or.inr c_27))).symm, rfl, hxo⟩ dX9_takes_71
          · have hxt : x ≠ t := fun e9 => c_17 (by rw [e9])
            refine lv_aload_n C0.1 C0.2.1 dX9_takes_30 rfl (lv_at hl 1 rfl) ?_
            refine lv_iload_n C0.1 C0.2.1 dX9_takes_31 rfl (lv_at hl 0 rfl) ?_
            refine lv_iload_n C0.1 C0.2.1 dX9_takes_32 rfl (lv_at hl 2 rfl) ?_
            refine k_X9_across hd sId C0 hK hP (by omega) (v := acrI S i x) rfl hS hA hl.1 ml_X9_134 ⟨Nat.le_of_ble_eq_true rfl, Nat.le_of_ble_eq_true rfl⟩ ⟨Nat.zero_le _, Nat.zero_le _⟩ (Nat.le_of_ble_eq_true rfl) dX9_takes_33 (fun H locs hP hS => ?_)
            refine lv_istore (lv' := [(4, .int (acrI S i x)), (3, .int (nI i)), (0, .ref (a 20)), (1, .int (nI x)), (2, .int (nI t))]) C0.1 C0.2.1 dX9_takes_36 hl (by decide) rfl (fun ls hl => ?_)
            refine lv_iload C0.1 C0.2.1 dX9_takes_38 (lv_at hl 0 rfl) ?_
            refine lv_iconst (v := (-1)) C0.1 C0.2.1 dX9_takes_40 (by decide) ?_
            refine lv_icmp_eq (tgt := 64) C0.1 C0.2.1 dX9_takes_41 (by decide) (fun c_41 => ?_) (fun c_41 => ?_)
            · refine lv_iinc (v := nI (i + 1)) (lv' := [(3, .int (nI (i + 1))), (4, .int (acrI S i x)), (0, .ref (a 20)), (1, .int (nI x)), (2, .int (nI t))]) C0.1 C0.2.1 dX9_takes_64 hl (k := 1) rfl (nI_1 _) (by decide) rfl (fun ls hl => ?_)
              refine lv_goto (tgt := 7) C0.1 C0.2.1 dX9_takes_67 (by decide) ?_
              exact ih7 (i + 1)  (by omega) (by omega) (by rw [hfd, show P - i = P - (i + 1) + 1 by omega, fndF_no (by cases hb9 : bgM S P i x t with | false => exact Bool.false_ne_true | true => exact absurd hb9 (fun hb8 => by obtain ⟨o9, h9, h8, h7⟩ := (fst_step hLnk hL8 hP6 hlt hx ht hxt c_27).mp hb8; rw [c_41] at h9; exact nI_neg (by omega) h9.symm))]) _ _ _ hP hS (lv_sub hl [0, 2, 3, 4] rfl)
            · obtain ⟨o, ho, hoL⟩ : ∃ o, acrI S i x = nI o ∧ o < L := by rcases acr_cases hLnk hL8 hlt (show x < 8 by omega) with ⟨h9, h8, -⟩ | ⟨h9, -⟩; exact ⟨_, h9, h8⟩; exact absurd h9 c_41
              have hl : lv_has ls 5 [(4, .int (nI o)), (3, .int (nI i)), (0, .ref (a 20)), (1, .int (nI x)), (2, .int (nI t))] := by rw [ho] at hl; exact hl
              refine lv_aload_n C0.1 C0.2.1 dX9_takes_44 rfl (lv_at hl 2 rfl) ?_
              refine g20 C0 hK hP (hd.1 _ (by decide)) 13 (by decide) fl_X9_34 rfl dX9_takes_45 ?_
              refine lv_iload C0.1 C0.2.1 dX9_takes_48 (lv_at hl 0 rfl) ?_
              refine mld (k := 8) (by decide) C0 hK hP (hd.1 _ (by decide)) (v := lenM S P o t) (vp_in_nI (show o < 8 by omega) (by decide)) ((rg_in (n := 8) (vp_in_nI (show o < 8 by omega) (by decide))).symm.trans ((rg_nI (show o < 8 by omega) (by decide)).trans (hfw o hoL))) dX9_takes_50 ?_
              refine lv_aload_n C0.1 C0.2.1 dX9_takes_51 rfl (lv_at hl 2 rfl) ?_
              refine g20 C0 hK hP (hd.1 _ (by decide)) 13 (by decide) fl_X9_34 rfl dX9_takes_52 ?_
              refine lv_iload_n C0.1 C0.2.1 dX9_takes_55 rfl (lv_at hl 3 rfl) ?_
              refine mld (k := 8) (by decide) C0 hK hP (hd.1 _ (by decide)) (v := lenM S P x t) (vp_in_nI (show x < 8 by omega) (by decide)) ((rg_in (n := 8) (vp_in_nI (show x < 8 by omega) (by decide))).symm.trans ((rg_nI (show x < 8 by omega) (by decide)).trans (hfw x hx))) dX9_takes_56 ?_
              refine lv_iconst (v := 1) C0.1 C0.2.1 dX9_takes_57 (by decide) ?_
              refine lv_isub C0.1 C0.2.1 dX9_takes_58 ?_
              refine lv_icmp_ne (tgt := 64) C0.1 C0.2.1 dX9_takes_59 (by decide) (fun c_59 => ?_) (fun c_59 => ?_)
              · refine lv_iinc (v := nI (i + 1)) (lv' := [(3, .int (nI (i + 1))), (4, .int (nI o)), (0, .ref (a 20)), (1, .int (nI x)), (2, .int (nI t))]) C0.1 C0.2.1 dX9_takes_64 hl (k := 1) rfl (nI_1 _) (by decide) rfl (fun ls hl => ?_)
                refine lv_goto (tgt := 7) C0.1 C0.2.1 dX9_takes_67 (by decide) ?_
                exact ih7 (i + 1)  (by omega) (by omega) (by rw [hfd, show P - i = P - (i + 1) + 1 by omega, fndF_no (by cases hb9 : bgM S P i x t with | false => exact Bool.false_ne_true | true => exact absurd hb9 (fun hb8 => by obtain ⟨o9, h9, h8, h7⟩ := (fst_step hLnk hL8 hP6 hlt hx ht hxt c_27).mp hb8; rw [show o9 = o from nI_inj (by omega) (by omega) (h9.symm.trans ho)] at h7; exact c_59 h7))]) _ _ _ hP hS (lv_sub hl [0, 2, 3, 4] rfl)
              · refine lv_iload_n C0.1 C0.2.1 dX9_takes_62 rfl (lv_at hl 1 rfl) ?_
                exact rtI C0 hr hlk hP hS ⟨by rw [hfd, show P - i = P - (i + 1) + 1 by omega, fndF_yes (P := fun n => bgM S P n x t) ((fst_step hLnk hL8 hP6 hlt hx ht hxt c_27).mpr ⟨o, ho, hoL, c_59⟩)], rfl, hxo⟩ dX9_takes_63
  exact loop7 (P + 1) 0  (by omega) (by omega) rfl _ _ _ hP hS (lv_sub hl [0, 1, 2, 3] rfl)
theorem k_X9_takes {n : List Nat} (hd : Hd n a I) (hsub : ∀ k ∈ nM, k ∈ n) (C0 : CallFix p m c cc nL s args GW own) (hK : KK D cA s) (hP : WQ D cA a S X I H) {x : Nat} {t : Nat} {P : Nat} {L : Nat} (hnP : S 82 0 = nI P) (hP6 : P ≤ 6) (hnL : S 81 0 = nI L) (hL8 : L ≤ 8) (hLnk : Lnk S P L) (hTl : TlW S P) (hx : x < L) (ht : t < L) (hS : va_S A0 H0 H locs) (hA : ∀ q, AI a I q → A0 q) (hls : ls.size = nL) {idx : Nat} (hlink : Cond.methodLink own idx yX9_takes ∈ GW) (hR : 4 ≤ R.frames ∧ 94 ≤ R.locals) (hcs : cells ≤ R.cells ∧ slots ≤ R.slots) (hrest : (rest.map fun v => v.category).sum ≤ 8) (hdg : decode cc pc = .ok (.invokevirtual idx, 3)) (kk : ∀ (v : Int32) (S1 X1 : Mem) (H1 : Heap) (locs1 : List Loc), (fun r S1 X1 => r = fstM S P x t ∧ S1 = S ∧ ∀ k, k ≠ 10 → k ≠ 12 → X1 k = X k) v S1 X1 → WQ D cA a S1 X1 I H1 → va_S A0 H0 H1 locs1 → W p l e R s m args below meth c H1 locs1 cells slots Q (F0 m (pc + 3) ls (.int v :: rest))) : W p l e R s m args below meth c H locs cells slots Q (F0 m pc ls (.int (nI t) :: .int (nI x) :: .ref (a 20) :: rest)) := by
  exact hoI (qV (n := 2) (c_X9_takes l D cA a S X I (hd.sub hsub) x t hnP hP6 hnL hL8 hLnk hTl hx ht) C0 hlink im_X9_takes se_X9_takes in_X9 co_X9_takes ⟨rfl, by decide⟩ hR hK hP (hd.1 _ (hsub _ (by decide))) rfl rfl rfl hls hrest rfl hdg hcs) hS hA kk
set_option maxHeartbeats 4000000 in
set_option maxRecDepth 100000 in
theorem c_X9_chainFrom (l : Launch) (D : va_G) (cA : ClassId) (a : Adr) (S X : Mem) (I : Nat → Prop) (hd : Hd nM a I) (x : Nat) (t : Nat) {P : Nat} {L : Nat} (hnP : S 82 0 = nI P) (hP6 : P ≤ 6) (hnL : S 81 0 = nI L) (hL8 : L ≤ 8) (hLnk : Lnk S P L) (hTl : TlW S P) (hx : x < L) (ht : t < L) : NI l yX9_chainFrom cX9_chainFrom 3 (some .int) 3 70 D cA a S X I [.ref (a 20), .int (nI x), .int (nI t)] (fun r S1 X1 => r = lenM S P x t ∧ S1 = S ∧ ∀ k, k ≠ 10 → k ≠ 12 → X1 k = X k) := by
  refine nGo (by decide) (Nat.le_of_ble_eq_true rfl) ?_
  intro p e s m args below meth c ls C0 hr hlk hK hP hS hl hargs
  obtain ⟨H, hHe⟩ : ∃ H, H = s.heap := ⟨_, rfl⟩
  obtain ⟨locs, hlo⟩ : ∃ L : List Loc, L = [] := ⟨_, rfl⟩
  have hP : WQ D cA a S X I H := hHe ▸ hP
  have hS : va_S (AI a I) s.heap H locs := by rw [hHe, hlo]; exact hS
  rw [← hHe, ← hlo]
  have hA : ∀ q, AI a I q → AI a I q := fun _ h => h
  refine lv_aload_n C0.1 C0.2.1 dX9_chainFrom_0 rfl (lv_at hl 0 rfl) ?_
  refine lv_iload_n C0.1 C0.2.1 dX9_chainFrom_1 rfl (lv_at hl 2 rfl) ?_
  refine k_X9_link hd sId C0 hK hP hnP hP6 hnL hL8 hLnk hTl ht hS hA hl.1 ml_X9_140 ⟨Nat.le_of_ble_eq_true rfl, Nat.le_of_ble_eq_true rfl⟩ ⟨Nat.zero_le _, Nat.zero_le _⟩ (Nat.le_of_ble_eq_true rfl) dX9_chainFrom_2 (fun S_2 X_3 H locs hx_1 hP hS => ?_)
  obtain ⟨hs1, hfw, htl, hxo⟩ := hx_1
  rw [hs1] at hP
  refine lv_aload_n C0.1 C0.2.1 dX9_chainFrom_5 rfl (lv_at hl 0 rfl) ?_
  refine g20 C0 hK hP (hd.1 _ (by decide)) 13 (by decide) fl_X9_34 rfl dX9_chainFrom_6 ?_
  refine lv_iload_n C0.1 C0.2.1 dX9_chainFrom_9 rfl (lv_at hl 1 rfl) ?_
  refine mld (k := 8) (by decide) C0 hK hP (hd.1 _ (by decide)) (v := lenM S P x t) (vp_in_nI (show x < 8 by omega) (by decide)) ((rg_in (n := 8) (vp_in_nI (show x < 8 by omega) (by decide))).symm.trans ((rg_nI (show x < 8 by omega) (by decide)).trans (hfw x hx))) dX9_chainFrom_10 ?_
  exact rtI C0 hr hlk hP hS ⟨rfl, rfl, hxo⟩ dX9_chainFrom_11
theorem k_X9_chainFrom {n : List Nat} (hd : Hd n a I) (hsub : ∀ k ∈ nM, k ∈ n) (C0 : CallFix p m c cc nL s args GW own) (hK : KK D cA s) (hP : WQ D cA a S X I H) {x : Nat} {t : Nat} {P : Nat} {L : Nat} (hnP : S 82 0 = nI P) (hP6 : P ≤ 6) (hnL : S 81 0 = nI L) (hL8 : L ≤ 8) (hLnk : Lnk S P L) (hTl : TlW S P) (hx : x < L) (ht : t < L) (hS : va_S A0 H0 H locs) (hA : ∀ q, AI a I q → A0 q) (hls : ls.size = nL) {idx : Nat} (hlink : Cond.methodLink own idx yX9_chainFrom ∈ GW) (hR : 4 ≤ R.frames ∧ 92 ≤ R.locals) (hcs : cells ≤ R.cells ∧ slots ≤ R.slots) (hrest : (rest.map fun v => v.category).sum ≤ 8) (hdg : decode cc pc = .ok (.invokevirtual idx, 3)) (kk : ∀ (v : Int32) (S1 X1 : Mem) (H1 : Heap) (locs1 : List Loc), (fun r S1 X1 => r = lenM S P x t ∧ S1 = S ∧ ∀ k, k ≠ 10 → k ≠ 12 → X1 k = X k) v S1 X1 → WQ D cA a S1 X1 I H1 → va_S A0 H0 H1 locs1 → W p l e R s m args below meth c H1 locs1 cells slots Q (F0 m (pc + 3) ls (.int v :: rest))) : W p l e R s m args below meth c H locs cells slots Q (F0 m pc ls (.int (nI t) :: .int (nI x) :: .ref (a 20) :: rest)) := by
  exact hoI (qV (n := 2) (c_X9_chainFrom l D cA a S X I (hd.sub hsub) x t hnP hP6 hnL hL8 hLnk hTl hx ht) C0 hlink im_X9_chainFrom se_X9_chainFrom in_X9 co_X9_chainFrom ⟨rfl, by decide⟩ hR hK hP (hd.1 _ (hsub _ (by decide))) rfl rfl rfl hls hrest rfl hdg hcs) hS hA kk
end CLS
