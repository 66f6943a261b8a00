theorem up_comm {S : Mem} {i j : Nat} {f g : Nat → Int32} (h : i ≠ j) : up (up S i f) j g = up (up S j g) i f := by
  funext k
  by_cases h1 : k = i
  · subst h1; simp [up, h]
  · simp only [up, if_neg h1]
theorem up_up3 {S : Mem} {i j : Nat} {f g h' : Nat → Int32} (h : i ≠ j) : up (up (up S i f) j g) i h' = up (up S j g) i h' := by rw [up_comm h, up_up]
theorem up_up4 {S : Mem} {i j k : Nat} {f g u h' : Nat → Int32} (h : i ≠ j) (h2 : i ≠ k) : up (up (up (up S i f) j g) k u) i h' = up (up (up S j g) k u) i h' := by rw [up_comm h, up_comm h2, up_up]
section CLS
variable {p : Program} {l : Launch} {e : Env} {R : Room} {s : State} {m : MethodId} {args : Array Value} {below : List Frame} {meth : Method} {c : Code} {H : Heap} {locs : List Loc} {cells slots : Nat} {Q : State → Prop}
variable {cc : ByteArray} {nL : Nat} {own : String} {pc : Nat} {ls : Array Slot} {rest : List Value} {D : va_G} {cA : ClassId} {a : Adr} {S X : Mem} {I : Nat → Prop} {H0 : Heap} {A0 : Nat → Prop}
set_option maxHeartbeats 4000000 in
set_option maxRecDepth 100000 in
theorem c_X0_reckon (l : Launch) (D : va_G) (cA : ClassId) (a : Adr) (S X : Mem) (I : Nat → Prop) (hd : Hd nCH a I) {P : Nat} (hnP : S 82 0 = nI P) (hP6 : P ≤ 6) : MV l yX0_reckon cX0_reckon 3 none 4 90 D cA a S X I [.ref (a 83)] (fun S1 X1 => S1 = S ∧ X1 = (up (up X 10 ((rkT S P (fl (X 10) 64 (-1)) (X 11) 8).1)) 11 ((rkT S P (fl (X 10) 64 (-1)) (X 11) 8).2))) := by
  refine mGo (by decide) (Nat.le_of_ble_eq_true rfl) ?_
  intro p e s m args below meth c ls C0 hr hlk hK hP hS hl hargs
  obtain ⟨H, hHe⟩ : ∃ H, H = s.heap := ⟨_, rfl⟩
  obtain ⟨locs, hlo⟩ : ∃ L : List Loc, L = [] := ⟨_, rfl⟩
  have hP : WP D cA a S X I H := hHe ▸ hP
  have hS : va_S (AI a I) s.heap H locs := by rw [hHe, hlo]; exact hS
  rw [← hHe, ← hlo]
  have hA : ∀ q, AI a I q → AI a I q := fun _ h => h
  refine lv_aload_n C0.1 C0.2.1 dX0_reckon_0 rfl (lv_at hl 0 rfl) ?_
  refine g83_lengths C0 hK hP (hd.1 _ (by decide)) fl_X0_14 dX0_reckon_1 ?_
  refine lv_iconst (v := (-1)) C0.1 C0.2.1 dX0_reckon_4 (by decide) ?_
  refine k_X5_fill 10 (by decide) hd (by decide) (by decide) C0 hK hP hS hA hl.1 ml_X0_37 ⟨Nat.le_of_ble_eq_true rfl, Nat.le_of_ble_eq_true rfl⟩ ⟨Nat.zero_le _, Nat.zero_le _⟩ (Nat.le_of_ble_eq_true rfl) dX0_reckon_5 (fun H locs hP hS => ?_)
  have hP : WP D cA a S (up X 10 (fl (X 10) 64 (-1))) I H := hP
  refine lv_iconst (v := 0) C0.1 C0.2.1 dX0_reckon_8 (by decide) ?_
  refine lv_istore_n (lv' := [(1, .int 0), (0, .ref (a 83))]) C0.1 C0.2.1 dX0_reckon_9 rfl hl (by decide) rfl (fun ls hl => ?_)
  have loop10 : ∀ (n : Nat) (t : Nat), (t ≤ 8) → (8 + 1 ≤ t + n) → ∀ (H : Heap) (locs : List Loc) (ls : Array Slot), WP D cA a S (up (up X 10 ((rkT S P (fl (X 10) 64 (-1)) (X 11) t).1)) 11 ((rkT S P (fl (X 10) 64 (-1)) (X 11) t).2)) I H → va_S (AI a I) s.heap H locs → lv_has ls 3 [(1, .int (nI t)), (0, .ref (a 83))] → W p l e { frames := 4, cells := 0, slots := 0, locals := 90 } s m args below meth c H locs (0) (0) (MQ below (QpV D cA a I (fun S1 X1 => S1 = S ∧ X1 = (up (up X 10 ((rkT S P (fl (X 10) 64 (-1)) (X 11) 8).1)) 11 ((rkT S P (fl (X 10) 64 (-1)) (X 11) 8).2)))) args s 0 0 (AI a I)) (F0 m 10 ls []) := by
    intro n
    induction n with
    | zero => intro t hit hft; exfalso; omega
    | succ n ih10 =>
      intro t hit hft H locs ls hP hS hl
      refine lv_iload_n C0.1 C0.2.1 dX0_reckon_10 rfl (lv_at hl 0 rfl) ?_
      refine lv_bipush (v := 8) C0.1 C0.2.1 dX0_reckon_11 (by decide) ?_
      refine lv_icmp_ge (tgt := 89) C0.1 C0.2.1 dX0_reckon_13 (by decide) (fun c_13 => ?_) (fun c_13 => ?_)
      · have hget : 8 ≤ t := (nI_leI (by omega) (by omega)).mp c_13
        rw [show t = 8 by omega] at hP
        exact retV C0 hr hlk hP hS ⟨rfl, rfl⟩ dX0_reckon_89
      · have hltt : t < 8 := Nat.not_le.mp fun q => c_13 (nI_le q (by omega))
        refine lv_aload_n C0.1 C0.2.1 dX0_reckon_16 rfl (lv_at hl 1 rfl) ?_
        refine g83_lengths C0 hK hP (hd.1 _ (by decide)) fl_X0_14 dX0_reckon_17 ?_
        refine lv_iload_n C0.1 C0.2.1 dX0_reckon_20 rfl (lv_at hl 0 rfl) ?_
        refine lv_bipush (v := 8) C0.1 C0.2.1 dX0_reckon_21 (by decide) ?_
        refine lv_imul C0.1 C0.2.1 dX0_reckon_23 ?_
        refine lv_iload_n C0.1 C0.2.1 dX0_reckon_24 rfl (lv_at hl 0 rfl) ?_
        refine lv_iadd C0.1 C0.2.1 dX0_reckon_25 ?_
        refine lv_iconst (v := 0) C0.1 C0.2.1 dX0_reckon_26 (by decide) ?_
        refine k_X5_set 10 (by decide) hd (by decide) (by decide) C0 hK hP hS hA hl.1 ml_X0_40 ⟨Nat.le_of_ble_eq_true rfl, Nat.le_of_ble_eq_true rfl⟩ ⟨Nat.zero_le _, Nat.zero_le _⟩ (Nat.le_of_ble_eq_true rfl) dX0_reckon_27 (fun H locs hP hS => ?_)
        have hP : WP D cA a S (up (up X 11 ((rkT S P (fl (X 10) 64 (-1)) (X 11) t).2)) 10 (us ((rkT S P (fl (X 10) 64 (-1)) (X 11) t).1) 64 (((nI t) * 8) + (nI t)) 0)) I H := WP.congr (show WP D cA a S (up (up (up X 10 ((rkT S P (fl (X 10) 64 (-1)) (X 11) t).1)) 11 ((rkT S P (fl (X 10) 64 (-1)) (X 11) t).2)) 10 (us ((rkT S P (fl (X 10) 64 (-1)) (X 11) t).1) 64 (((nI t) * 8) + (nI t)) 0)) I H from hP) (fun _ => rfl) (fun k => by
            by_cases h_11 : k = 11
            · subst h_11; rfl
            by_cases h_10 : k = 10
            · subst h_10; rfl
            simp only [up, h_11, h_10, if_false])
        refine lv_iconst (v := 0) C0.1 C0.2.1 dX0_reckon_30 (by decide) ?_
        refine lv_istore_n (lv' := [(2, .int 0), (1, .int (nI t)), (0, .ref (a 83))]) C0.1 C0.2.1 dX0_reckon_31 rfl hl (by decide) rfl (fun ls hl => ?_)
        have loop32 : ∀ (n : Nat) (q : Nat), (q ≤ 6) → (6 + 1 ≤ q + n) → ∀ (H : Heap) (locs : List Loc) (ls : Array Slot), WP D cA a S (up (up X 11 ((rkT S P (fl (X 10) 64 (-1)) (X 11) t).2)) 10 (rk1 S P (nI t) q (us (rkT S P (fl (X 10) 64 (-1)) (X 11) t).1 64 (nI t * 8 + nI t) 0))) I H → va_S (AI a I) s.heap H locs → lv_has ls 3 [(2, .int (nI q)), (0, .ref (a 83)), (1, .int (nI t))] → W p l e { frames := 4, cells := 0, slots := 0, locals := 90 } s m args below meth c H locs (0) (0) (MQ below (QpV D cA a I (fun S1 X1 => S1 = S ∧ X1 = (up (up X 10 ((rkT S P (fl (X 10) 64 (-1)) (X 11) 8).1)) 11 ((rkT S P (fl (X 10) 64 (-1)) (X 11) 8).2)))) args s 0 0 (AI a I)) (F0 m 32 ls []) := by
          intro n
          induction n with
          | zero => intro q hiq hfq; exfalso; omega
          | succ n ih32 =>
            intro q hiq hfq H locs ls hP hS hl
            refine lv_iload_n C0.1 C0.2.1 dX0_reckon_32 rfl (lv_at hl 0 rfl) ?_
            refine lv_bipush (v := 6) C0.1 C0.2.1 dX0_reckon_33 (by decide) ?_
            refine lv_icmp_ge (tgt := 50) C0.1 C0.2.1 dX0_reckon_35 (by decide) (fun c_35 => ?_) (fun c_35 => ?_)
            · have hgeq : 6 ≤ q := (nI_leI (by omega) (by omega)).mp c_35
              refine lv_iconst (v := 0) C0.1 C0.2.1 dX0_reckon_50 (by decide) ?_
              refine lv_istore_n (lv' := [(2, .int 0), (0, .ref (a 83)), (1, .int (nI t))]) C0.1 C0.2.1 dX0_reckon_51 rfl hl (by decide) rfl (fun ls hl => ?_)
              have loop52 : ∀ (n : Nat) (u : Nat), (u ≤ 8) → (8 + 1 ≤ u + n) → ∀ (H : Heap) (locs : List Loc) (ls : Array Slot), WP D cA a S (up (up X 10 (rk1 S P (nI t) 6 (us (rkT S P (fl (X 10) 64 (-1)) (X 11) t).1 64 (nI t * 8 + nI t) 0))) 11 (rkF S (rk1 S P (nI t) 6 (us (rkT S P (fl (X 10) 64 (-1)) (X 11) t).1 64 (nI t * 8 + nI t) 0)) P (nI t) u (rkT S P (fl (X 10) 64 (-1)) (X 11) t).2)) I H → va_S (AI a I) s.heap H locs → lv_has ls 3 [(2, .int (nI u)), (0, .ref (a 83)), (1, .int (nI t))] → W p l e { frames := 4, cells := 0, slots := 0, locals := 90 } s m args below meth c H locs (0) (0) (MQ below (QpV D cA a I (fun S1 X1 => S1 = S ∧ X1 = (up (up X 10 ((rkT S P (fl (X 10) 64 (-1)) (X 11) 8).1)) 11 ((rkT S P (fl (X 10) 64 (-1)) (X 11) 8).2)))) args s 0 0 (AI a I)) (F0 m 52 ls []) := by
                intro n
                induction n with
                | zero => intro u hiu hfu; exfalso; omega
                | succ n ih52 =>
                  intro u hiu hfu H locs ls hP hS hl
                  refine lv_iload_n C0.1 C0.2.1 dX0_reckon_52 rfl (lv_at hl 0 rfl) ?_
                  refine lv_bipush (v := 8) C0.1 C0.2.1 dX0_reckon_53 (by decide) ?_
                  refine lv_icmp_ge (tgt := 83) C0.1 C0.2.1 dX0_reckon_55 (by decide) (fun c_55 => ?_) (fun c_55 => ?_)
                  · have hgeu : 8 ≤ u := (nI_leI (by omega) (by omega)).mp c_55
                    refine lv_iinc (v := nI (t + 1)) (lv' := [(1, .int (nI (t + 1))), (2, .int (nI u)), (0, .ref (a 83))]) C0.1 C0.2.1 dX0_reckon_83 hl (k := 2) rfl (nI_1 _) (by decide) rfl (fun ls hl => ?_)
                    refine lv_goto (tgt := 10) C0.1 C0.2.1 dX0_reckon_86 (by decide) ?_
                    rw [show u = 8 by omega] at hP
                    exact ih10 (t + 1)  (by omega) (by omega)  _ _ _ hP hS (lv_sub hl [0, 2] rfl)
                  · have hltu : u < 8 := Nat.not_le.mp fun q => c_55 (nI_le q (by omega))
                    refine lv_aload_n C0.1 C0.2.1 dX0_reckon_58 rfl (lv_at hl 1 rfl) ?_
                    refine g83_firstPunts C0 hK hP (hd.1 _ (by decide)) fl_X0_20 dX0_reckon_59 ?_
                    refine lv_iload_n C0.1 C0.2.1 dX0_reckon_62 rfl (lv_at hl 0 rfl) ?_
                    refine lv_bipush (v := 8) C0.1 C0.2.1 dX0_reckon_63 (by decide) ?_
                    refine lv_imul C0.1 C0.2.1 dX0_reckon_65 ?_
                    refine lv_iload_n C0.1 C0.2.1 dX0_reckon_66 rfl (lv_at hl 2 rfl) ?_
                    refine lv_iadd C0.1 C0.2.1 dX0_reckon_67 ?_
                    refine lv_aload_n C0.1 C0.2.1 dX0_reckon_68 rfl (lv_at hl 1 rfl) ?_
                    refine lv_iload_n C0.1 C0.2.1 dX0_reckon_69 rfl (lv_at hl 0 rfl) ?_
                    refine lv_iload_n C0.1 C0.2.1 dX0_reckon_70 rfl (lv_at hl 2 rfl) ?_
                    refine k_X0_findFirst hd (by decide) C0 hK hP hnP hP6 (v := fstP S (rk1 S P (nI t) 6 (us (rkT S P (fl (X 10) 64 (-1)) (X 11) t).1 64 (nI t * 8 + nI t) 0)) P (nI u) (nI t)) rfl hS hA hl.1 ml_X0_47 ⟨Nat.le_of_ble_eq_true rfl, Nat.le_of_ble_eq_true rfl⟩ ⟨Nat.zero_le _, Nat.zero_le _⟩ (Nat.le_of_ble_eq_true rfl) dX0_reckon_71 (fun H locs hP hS => ?_)
                    refine k_X5_set 11 (by decide) hd (by decide) (by decide) C0 hK hP hS hA hl.1 ml_X0_40 ⟨Nat.le_of_ble_eq_true rfl, Nat.le_of_ble_eq_true rfl⟩ ⟨Nat.zero_le _, Nat.zero_le _⟩ (Nat.le_of_ble_eq_true rfl) dX0_reckon_74 (fun H locs hP hS => ?_)
                    have hP : WP D cA a S (up (up X 10 (rk1 S P (nI t) 6 (us (rkT S P (fl (X 10) 64 (-1)) (X 11) t).1 64 (nI t * 8 + nI t) 0))) 11 (us (rkF S (rk1 S P (nI t) 6 (us (rkT S P (fl (X 10) 64 (-1)) (X 11) t).1 64 (nI t * 8 + nI t) 0)) P (nI t) u (rkT S P (fl (X 10) 64 (-1)) (X 11) t).2) 64 (((nI u) * 8) + (nI t)) (fstP S (rk1 S P (nI t) 6 (us (rkT S P (fl (X 10) 64 (-1)) (X 11) t).1 64 (nI t * 8 + nI t) 0)) P (nI u) (nI t)))) I H := WP.congr (show WP D cA a S (up (up (up X 10 (rk1 S P (nI t) 6 (us (rkT S P (fl (X 10) 64 (-1)) (X 11) t).1 64 (nI t * 8 + nI t) 0))) 11 (rkF S (rk1 S P (nI t) 6 (us (rkT S P (fl (X 10) 64 (-1)) (X 11) t).1 64 (nI t * 8 + nI t) 0)) P (nI t) u (rkT S P (fl (X 10) 64 (-1)) (X 11) t).2)) 11 (us (rkF S (rk1 S P (nI t) 6 (us (rkT S P (fl (X 10) 64 (-1)) (X 11) t).1 64 (nI t * 8 + nI t) 0)) P (nI t) u (rkT S P (fl (X 10) 64 (-1)) (X 11) t).2) 64 (((nI u) * 8) + (nI t)) (fstP S (rk1 S P (nI t) 6 (us (rkT S P (fl (X 10) 64 (-1)) (X 11) t).1 64 (nI t * 8 + nI t) 0)) P (nI u) (nI t)))) I H from hP) (fun _ => rfl) (fun k => by
                        by_cases h_10 : k = 10
                        · subst h_10; rfl
                        by_cases h_11 : k = 11
                        · subst h_11; rfl
                        simp only [up, h_10, h_11, if_false])
                    refine lv_iinc (v := nI (u + 1)) (lv' := [(2, .int (nI (u + 1))), (0, .ref (a 83)), (1, .int (nI t))]) C0.1 C0.2.1 dX0_reckon_77 hl (k := 0) rfl (nI_1 _) (by decide) rfl (fun ls hl => ?_)
                    refine lv_goto (tgt := 52) C0.1 C0.2.1 dX0_reckon_80 (by decide) ?_
                    exact ih52 (u + 1)  (by omega) (by omega)  _ _ _ hP hS (lv_sub hl [0, 1, 2] rfl)
              have hP : WP D cA a S (up (up X 10 (rk1 S P (nI t) 6 (us (rkT S P (fl (X 10) 64 (-1)) (X 11) t).1 64 (nI t * 8 + nI t) 0))) 11 (rkF S (rk1 S P (nI t) 6 (us (rkT S P (fl (X 10) 64 (-1)) (X 11) t).1 64 (nI t * 8 + nI t) 0)) P (nI t) 0 (rkT S P (fl (X 10) 64 (-1)) (X 11) t).2)) I H := by rw [up_comm (by decide)]; rw [show q = 6 by omega] at hP; exact hP
              exact loop52 (8 + 1) 0  (by omega) (by omega)  _ _ _ hP hS (lv_sub hl [0, 1, 2] rfl)
            · have hltq : q < 6 := Nat.not_le.mp fun q => c_35 (nI_le q (by omega))
              refine lv_aload_n C0.1 C0.2.1 dX0_reckon_38 rfl (lv_at hl 1 rfl) ?_
              refine lv_iload_n C0.1 C0.2.1 dX0_reckon_39 rfl (lv_at hl 2 rfl) ?_
              refine lv_iload_n C0.1 C0.2.1 dX0_reckon_40 rfl (lv_at hl 0 rfl) ?_
              refine k_X0_lengthenAll hd (by decide) C0 hK hP hnP hP6 hS hA hl.1 ml_X0_44 ⟨Nat.le_of_ble_eq_true rfl, Nat.le_of_ble_eq_true rfl⟩ ⟨Nat.zero_le _, Nat.zero_le _⟩ (Nat.le_of_ble_eq_true rfl) dX0_reckon_41 (fun H locs hP hS => ?_)
              have hP : WP D cA a S (up (up X 11 ((rkT S P (fl (X 10) 64 (-1)) (X 11) t).2)) 10 (lenA S (nI t) (nI q) P (rk1 S P (nI t) q (us (rkT S P (fl (X 10) 64 (-1)) (X 11) t).1 64 (nI t * 8 + nI t) 0)))) I H := WP.congr (show WP D cA a S (up (up (up X 11 ((rkT S P (fl (X 10) 64 (-1)) (X 11) t).2)) 10 (rk1 S P (nI t) q (us (rkT S P (fl (X 10) 64 (-1)) (X 11) t).1 64 (nI t * 8 + nI t) 0))) 10 (lenA S (nI t) (nI q) P (rk1 S P (nI t) q (us (rkT S P (fl (X 10) 64 (-1)) (X 11) t).1 64 (nI t * 8 + nI t) 0)))) I H from hP) (fun _ => rfl) (fun k => by
                  by_cases h_11 : k = 11
                  · subst h_11; rfl
                  by_cases h_10 : k = 10
                  · subst h_10; rfl
                  simp only [up, h_11, h_10, if_false])
              refine lv_iinc (v := nI (q + 1)) (lv' := [(2, .int (nI (q + 1))), (0, .ref (a 83)), (1, .int (nI t))]) C0.1 C0.2.1 dX0_reckon_44 hl (k := 0) rfl (nI_1 _) (by decide) rfl (fun ls hl => ?_)
              refine lv_goto (tgt := 32) C0.1 C0.2.1 dX0_reckon_47 (by decide) ?_
              exact ih32 (q + 1)  (by omega) (by omega)  _ _ _ hP hS (lv_sub hl [0, 1, 2] rfl)
        exact loop32 (6 + 1) 0  (by omega) (by omega)  _ _ _ hP hS (lv_sub hl [0, 2, 1] rfl)
  have hP : WP D cA a S (up (up X 10 ((rkT S P (fl (X 10) 64 (-1)) (X 11) 0).1)) 11 ((rkT S P (fl (X 10) 64 (-1)) (X 11) 0).2)) I H := by show WP D cA a S (up (up X 10 (fl (X 10) 64 (-1))) 11 (X 11)) I H; rw [up_id (S := up X 10 (fl (X 10) 64 (-1))) (k := 11) (f := X 11) rfl]; exact hP
  exact loop10 (8 + 1) 0  (by omega) (by omega)  _ _ _ hP hS (lv_sub hl [0, 1] rfl)
theorem k_X0_reckon {n : List Nat} (hd : Hd n a I) (hsub : ∀ k ∈ nCH, k ∈ n) (C0 : CallFix p m c cc nL s args GW own) (hK : KK D cA s) (hP : WP D cA a S X I H) {P : Nat} (hnP : S 82 0 = nI P) (hP6 : P ≤ 6) (hS : va_S A0 H0 H locs) (hA : ∀ q, AI a I q → A0 q) (hls : ls.size = nL) {idx : Nat} (hlink : Cond.methodLink own idx yX0_reckon ∈ GW) (hR : 5 ≤ R.frames ∧ 112 ≤ R.locals) (hcs : cells ≤ R.cells ∧ slots ≤ R.slots) (hrest : (rest.map fun v => v.category).sum ≤ 8) (hdg : decode cc pc = .ok (.invokevirtual idx, 3)) (kk : ∀ (H1 : Heap) (locs1 : List Loc), WP D cA a S (up (up X 10 ((rkT S P (fl (X 10) 64 (-1)) (X 11) 8).1)) 11 ((rkT S P (fl (X 10) 64 (-1)) (X 11) 8).2)) I H1 → va_S A0 H0 H1 locs1 → W p l e R s m args below meth c H1 locs1 cells slots Q (F0 m (pc + 3) ls rest)) : W p l e R s m args below meth c H locs cells slots Q (F0 m pc ls (.ref (a 83) :: rest)) := by
  exact goV (rV (n := 0) (c_X0_reckon l D cA a S X I (hd.sub hsub)  hnP hP6) C0 hlink im_X0_reckon se_X0_reckon in_X0 co_X0_reckon ⟨rfl, by decide⟩ hR hK hP (hd.1 _ (hsub _ (by decide))) rfl rfl rfl hls hrest rfl hdg hcs) hS hA (fun S1 X1 H1 locs1 hp hP1 hS1 => by obtain ⟨rfl, rfl⟩ := hp; exact kk H1 locs1 hP1 hS1)
set_option maxHeartbeats 4000000 in
set_option maxRecDepth 100000 in
theorem c_X0_cheapestFrom (l : Launch) (D : va_G) (cA : ClassId) (a : Adr) (S X : Mem) (I : Nat → Prop) (hd : Hd nCH a I) (x : Int32) (t : Int32) {P : Nat} (hnP : S 82 0 = nI P) (hP6 : P ≤ 6) : MI l yX0_cheapestFrom cX0_cheapestFrom 6 (some .int) 3 66 D cA a S X I [.ref (a 83), .int x, .int t] (fun r S1 X1 => r = (chF S (X 10) (X 12) x t P) ∧ S1 = S ∧ X1 = X) := by
  refine mGo (by decide) (Nat.le_of_ble_eq_true rfl) ?_
  intro p e s m args below meth c ls C0 hr hlk hK hP hS hl hargs
  obtain ⟨H, hHe⟩ : ∃ H, H = s.heap := ⟨_, rfl⟩
  obtain ⟨locs, hlo⟩ : ∃ L : List Loc, L = [] := ⟨_, rfl⟩
  have hP : WP D cA a S X I H := hHe ▸ hP
  have hS : va_S (AI a I) s.heap H locs := by rw [hHe, hlo]; exact hS
  rw [← hHe, ← hlo]
  have hA : ∀ q, AI a I q → AI a I q := fun _ h => h
  refine lv_sipush (v := 300) C0.1 C0.2.1 dX0_cheapestFrom_0 (by decide) ?_
  refine lv_istore_n (lv' := [(3, .int 300), (0, .ref (a 83)), (1, .int x), (2, .int t)]) C0.1 C0.2.1 dX0_cheapestFrom_3 rfl hl (by decide) rfl (fun ls hl => ?_)
  refine lv_iconst (v := 0) C0.1 C0.2.1 dX0_cheapestFrom_4 (by decide) ?_
  refine lv_istore (lv' := [(4, .int 0), (3, .int 300), (0, .ref (a 83)), (1, .int x), (2, .int t)]) C0.1 C0.2.1 dX0_cheapestFrom_5 hl (by decide) rfl (fun ls hl => ?_)
  have loop7 : ∀ (n : Nat) (i : Nat) (v3 : Int32), (i ≤ P) → (P + 1 ≤ i + n) → (v3 = chF S (X 10) (X 12) x t i) → ∀ (H : Heap) (locs : List Loc) (ls : Array Slot), WP D cA a S X I H → va_S (AI a I) s.heap H locs → lv_has ls 6 [(4, .int (nI i)), (3, .int v3), (0, .ref (a 83)), (1, .int x), (2, .int t)] → W p l e { frames := 3, cells := 0, slots := 0, locals := 66 } s m args below meth c H locs (0) (0) (MQ below (QpI D cA a I (fun r S1 X1 => r = (chF S (X 10) (X 12) x t P) ∧ S1 = S ∧ X1 = X)) args s 0 0 (AI a I)) (F0 m 7 ls []) := by
    intro n
    induction n with
    | zero => intro i v3 hi hf hch; exfalso; omega
    | succ n ih7 =>
      intro i v3 hi hf hch H locs ls hP hS hl
      refine lv_iload C0.1 C0.2.1 dX0_cheapestFrom_7 (lv_at hl 0 rfl) ?_
      refine lv_aload_n C0.1 C0.2.1 dX0_cheapestFrom_9 rfl (lv_at hl 2 rfl) ?_
      refine g83_fleet C0 hK hP (hd.1 _ (by decide)) fl_X0_26 dX0_cheapestFrom_10 ?_
      refine g82_number (v := nI P) C0 hK hP (hd.1 _ (by decide)) fl_X0_51 hnP dX0_cheapestFrom_13 ?_
      refine lv_icmp_ge (tgt := 75) C0.1 C0.2.1 dX0_cheapestFrom_16 (by decide) (fun c_16 => ?_) (fun c_16 => ?_)
      · have hge : P ≤ i := (nI_leI (by omega) (by omega)).mp c_16
        refine lv_iload_n C0.1 C0.2.1 dX0_cheapestFrom_75 rfl (lv_at hl 1 rfl) ?_
        exact retI C0 hr hlk hP hS ⟨by rw [hch, show i = P by omega], rfl, rfl⟩ dX0_cheapestFrom_76
      · have hlt : i < P := Nat.not_le.mp fun q => c_16 (nI_le q (by omega))
        refine lv_aload_n C0.1 C0.2.1 dX0_cheapestFrom_19 rfl (lv_at hl 2 rfl) ?_
        refine lv_iload C0.1 C0.2.1 dX0_cheapestFrom_20 (lv_at hl 0 rfl) ?_
        refine lv_iload_n C0.1 C0.2.1 dX0_cheapestFrom_22 rfl (lv_at hl 3 rfl) ?_
        refine lv_iload_n C0.1 C0.2.1 dX0_cheapestFrom_23 rfl (lv_at hl 4 rfl) ?_
        refine k_X0_begins hd (by decide) C0 hK hP  (v := bI (bgn S (X 10) (nI i) x t)) rfl hS hA hl.1 ml_X0_70 ⟨Nat.le_of_ble_eq_true rfl, Nat.le_of_ble_eq_true rfl⟩ ⟨Nat.zero_le _, Nat.zero_le _⟩ (Nat.le_of_ble_eq_true rfl) dX0_cheapestFrom_24 (fun H locs hP hS => ?_)
        refine lv_if_eq (tgt := 69) C0.1 C0.2.1 dX0_cheapestFrom_27 (by decide) (fun c_27 => ?_) (fun c_27 => ?_)
        · have c_27 := bI_eq c_27
          refine lv_iinc (v := nI (i + 1)) (lv' := [(4, .int (nI (i + 1))), (3, .int v3), (0, .ref (a 83)), (1, .int x), (2, .int t)]) C0.1 C0.2.1 dX0_cheapestFrom_69 hl (k := 0) rfl (nI_1 _) (by decide) rfl (fun ls hl => ?_)
          refine lv_goto (tgt := 7) C0.1 C0.2.1 dX0_cheapestFrom_72 (by decide) ?_
          exact ih7 (i + 1) _ (by omega) (by omega) (by rw [hch]; exact (if_neg (by rw [c_27]; exact Bool.false_ne_true)).symm) _ _ _ hP hS (lv_sub hl [0, 1, 2, 3, 4] rfl)
        · have c_27 := bI_ne c_27
          refine lv_aload_n C0.1 C0.2.1 dX0_cheapestFrom_30 rfl (lv_at hl 2 rfl) ?_
          refine g83_fleet C0 hK hP (hd.1 _ (by decide)) fl_X0_26 dX0_cheapestFrom_31 ?_
          refine g82_toll C0 hK hP (hd.1 _ (by decide)) fl_X0_84 dX0_cheapestFrom_34 ?_
          refine lv_iload C0.1 C0.2.1 dX0_cheapestFrom_37 (lv_at hl 0 rfl) ?_
          refine k_X5_get (v := rg (S 9) 6 (nI i)) 9 (by decide) hd (by decide) (by decide) C0 hK hP rfl hS hA hl.1 ml_X0_33 ⟨Nat.le_of_ble_eq_true rfl, Nat.le_of_ble_eq_true rfl⟩ ⟨Nat.zero_le _, Nat.zero_le _⟩ (Nat.le_of_ble_eq_true rfl) dX0_cheapestFrom_39 (fun H locs hP hS => ?_)
          refine lv_aload_n C0.1 C0.2.1 dX0_cheapestFrom_42 rfl (lv_at hl 2 rfl) ?_
          refine g83_tolls C0 hK hP (hd.1 _ (by decide)) fl_X0_23 dX0_cheapestFrom_43 ?_
          refine lv_aload_n C0.1 C0.2.1 dX0_cheapestFrom_46 rfl (lv_at hl 2 rfl) ?_
          refine g83_fleet C0 hK hP (hd.1 _ (by decide)) fl_X0_26 dX0_cheapestFrom_47 ?_
          refine lv_iload C0.1 C0.2.1 dX0_cheapestFrom_50 (lv_at hl 0 rfl) ?_
          refine lv_iload_n C0.1 C0.2.1 dX0_cheapestFrom_52 rfl (lv_at hl 3 rfl) ?_
          refine k_X2_otherEnd hd (by decide) C0 hK hP  (v := if rg (S 4) 6 (nI i) = x then rg (S 5) 6 (nI i) else rg (S 4) 6 (nI i)) rfl hS hA hl.1 ml_X0_78 ⟨Nat.le_of_ble_eq_true rfl, Nat.le_of_ble_eq_true rfl⟩ ⟨Nat.zero_le _, Nat.zero_le _⟩ (Nat.le_of_ble_eq_true rfl) dX0_cheapestFrom_53 (fun H locs hP hS => ?_)
          refine k_X5_get (v := rg (X 12) 8 (if rg (S 4) 6 (nI i) = x then rg (S 5) 6 (nI i) else rg (S 4) 6 (nI i))) 12 (by decide) hd (by decide) (by decide) C0 hK hP rfl hS hA hl.1 ml_X0_33 ⟨Nat.le_of_ble_eq_true rfl, Nat.le_of_ble_eq_true rfl⟩ ⟨Nat.zero_le _, Nat.zero_le _⟩ (Nat.le_of_ble_eq_true rfl) dX0_cheapestFrom_56 (fun H locs hP hS => ?_)
          refine lv_iadd C0.1 C0.2.1 dX0_cheapestFrom_59 ?_
          refine lv_istore (lv' := [(5, .int ((rg (S 9) 6 (nI i)) + (rg (X 12) 8 (if rg (S 4) 6 (nI i) = x then rg (S 5) 6 (nI i) else rg (S 4) 6 (nI i))))), (4, .int (nI i)), (3, .int v3), (0, .ref (a 83)), (1, .int x), (2, .int t)]) C0.1 C0.2.1 dX0_cheapestFrom_60 hl (by decide) rfl (fun ls hl => ?_)
          refine lv_iload_n C0.1 C0.2.1 dX0_cheapestFrom_62 rfl (lv_at hl 2 rfl) ?_
          refine lv_iload C0.1 C0.2.1 dX0_cheapestFrom_63 (lv_at hl 0 rfl) ?_
          refine va_mmin C0.1 C0.2.1 (C0.2.2.1.trans hl.1.symm) C0.2.2.2.1 (C0.2.2.2.2 _ ml_X0_87) (C0.2.2.2.2 _ sm_M_min) (C0.2.2.2.2 _ in_J9) (C0.2.2.2.2 _ co_M_min) (Nat.le_of_ble_eq_true rfl) (Nat.le_of_ble_eq_true rfl) (Nat.zero_le _) (Nat.zero_le _) dX0_cheapestFrom_65 ?_
          refine lv_istore_n (lv' := [(3, .int (if ((rg (S 9) 6 (nI i)) + (rg (X 12) 8 (if rg (S 4) 6 (nI i) = x then rg (S 5) 6 (nI i) else rg (S 4) 6 (nI i)))) < v3 then ((rg (S 9) 6 (nI i)) + (rg (X 12) 8 (if rg (S 4) 6 (nI i) = x then rg (S 5) 6 (nI i) else rg (S 4) 6 (nI i)))) else v3)), (5, .int ((rg (S 9) 6 (nI i)) + (rg (X 12) 8 (if rg (S 4) 6 (nI i) = x then rg (S 5) 6 (nI i) else rg (S 4) 6 (nI i))))), (4, .int (nI i)), (0, .ref (a 83)), (1, .int x), (2, .int t)]) C0.1 C0.2.1 dX0_cheapestFrom_68 rfl hl (by decide) rfl (fun ls hl => ?_)
          refine lv_iinc (v := nI (i + 1)) (lv' := [(4, .int (nI (i + 1))), (3, .int (if ((rg (S 9) 6 (nI i)) + (rg (X 12) 8 (if rg (S 4) 6 (nI i) = x then rg (S 5) 6 (nI i) else rg (S 4) 6 (nI i)))) < v3 then ((rg (S 9) 6 (nI i)) + (rg (X 12) 8 (if rg (S 4) 6 (nI i) = x then rg (S 5) 6 (nI i) else rg (S 4) 6 (nI i)))) else v3)), (5, .int ((rg (S 9) 6 (nI i)) + (rg (X 12) 8 (if rg (S 4) 6 (nI i) = x then rg (S 5) 6 (nI i) else rg (S 4) 6 (nI i))))), (0, .ref (a 83)), (1, .int x), (2, .int t)]) C0.1 C0.2.1 dX0_cheapestFrom_69 hl (k := 2) rfl (nI_1 _) (by decide) rfl (fun ls hl => ?_)
          refine lv_goto (tgt := 7) C0.1 C0.2.1 dX0_cheapestFrom_72 (by decide) ?_
          exact ih7 (i + 1) _ (by omega) (by omega) (by rw [hch]; exact (if_pos c_27).symm) _ _ _ hP hS (lv_sub hl [0, 1, 3, 4, 5] rfl)
  exact loop7 (P + 1) 0 300 (by omega) (by omega) rfl _ _ _ hP hS (lv_sub hl [0, 1, 2, 3, 4] rfl)
theorem k_X0_cheapestFrom {n : List Nat} (hd : Hd n a I) (hsub : ∀ k ∈ nCH, k ∈ n) (C0 : CallFix p m c cc nL s args GW own) (hK : KK D cA s) (hP : WP D cA a S X I H) {x : Int32} {t : Int32} {P : Nat} (hnP : S 82 0 = nI P) (hP6 : P ≤ 6) {v : Int32} (hv : (chF S (X 10) (X 12) x t P) = v) (hS : va_S A0 H0 H locs) (hA : ∀ q, AI a I q → A0 q) (hls : ls.size = nL) {idx : Nat} (hlink : Cond.methodLink own idx yX0_cheapestFrom ∈ GW) (hR : 4 ≤ R.frames ∧ 91 ≤ R.locals) (hcs : cells ≤ R.cells ∧ slots ≤ R.slots) (hrest : (rest.map fun v => v.category).sum ≤ 8) (hdg : decode cc pc = .ok (.invokevirtual idx, 3)) (kk : ∀ (H1 : Heap) (locs1 : List Loc), WP D cA a S X I H1 → va_S A0 H0 H1 locs1 → W p l e R s m args below meth c H1 locs1 cells slots Q (F0 m (pc + 3) ls (.int v :: rest))) : W p l e R s m args below meth c H locs cells slots Q (F0 m pc ls (.int t :: .int x :: .ref (a 83) :: rest)) := by
  subst hv
  exact goI (rV (n := 2) (c_X0_cheapestFrom l D cA a S X I (hd.sub hsub) x t hnP hP6) C0 hlink im_X0_cheapestFrom se_X0_cheapestFrom in_X0 co_X0_cheapestFrom ⟨rfl, by decide⟩ hR hK hP (hd.1 _ (hsub _ (by decide))) rfl rfl rfl hls hrest rfl hdg hcs) hS hA (fun r S1 X1 H1 locs1 hp hP1 hS1 => by obtain ⟨rfl, rfl, rfl⟩ := hp; exact kk H1 locs1 hP1 hS1)
set_option maxHeartbeats 4000000 in
set_option maxRecDepth 100000 in
theorem c_X0_leastTolls (l : Launch) (D : va_G) (cA : ClassId) (a : Adr) (S X : Mem) (I : Nat → Prop) (hd : Hd nCH a I) (x : Int32) (t : Int32) {P : Nat} (hnP : S 82 0 = nI P) (hP6 : P ≤ 6) (hq : lnI (X 10) x t = -1 ∨ ∃ w, w ≤ 64 ∧ lnI (X 10) x t = nI w) : MI l yX0_leastTolls cX0_leastTolls 6 (some .int) 4 91 D cA a S X I [.ref (a 83), .int x, .int t] (fun r S1 X1 => S1 = S ∧ (∀ k, k ≠ 12 → X1 k = X k) ∧ r = (if lnI (X 10) x t = -1 then -1 else rg (ltO S (X 10) P t (X 12) (lnI (X 10) x t).toNatClampNeg) 8 x)) := by
  refine mGo (by decide) (Nat.le_of_ble_eq_true rfl) ?_
  intro p e s m args below meth c ls C0 hr hlk hK hP hS hl hargs
  obtain ⟨H, hHe⟩ : ∃ H, H = s.heap := ⟨_, rfl⟩
  obtain ⟨locs, hlo⟩ : ∃ L : List Loc, L = [] := ⟨_, rfl⟩
  have hP : WP D cA a S X I H := hHe ▸ hP
  have hS : va_S (AI a I) s.heap H locs := by rw [hHe, hlo]; exact hS
  rw [← hHe, ← hlo]
  have hA : ∀ q, AI a I q → AI a I q := fun _ h => h
  refine lv_aload_n C0.1 C0.2.1 dX0_leastTolls_0 rfl (lv_at hl 0 rfl) ?_
  refine lv_iload_n C0.1 C0.2.1 dX0_leastTolls_1 rfl (lv_at hl 1 rfl) ?_
  refine lv_iload_n C0.1 C0.2.1 dX0_leastTolls_2 rfl (lv_at hl 2 rfl) ?_
  refine k_X0_length hd (by decide) C0 hK hP  (v := lnI (X 10) x t) rfl hS hA hl.1 ml_X0_67 ⟨Nat.le_of_ble_eq_true rfl, Nat.le_of_ble_eq_true rfl⟩ ⟨Nat.zero_le _, Nat.zero_le _⟩ (Nat.le_of_ble_eq_true rfl) dX0_leastTolls_3 (fun H locs hP hS => ?_)
  refine lv_istore_n (lv' := [(3, .int (lnI (X 10) x t)), (0, .ref (a 83)), (1, .int x), (2, .int t)]) C0.1 C0.2.1 dX0_leastTolls_6 rfl hl (by decide) rfl (fun ls hl => ?_)
  refine lv_iload_n C0.1 C0.2.1 dX0_leastTolls_7 rfl (lv_at hl 0 rfl) ?_
  refine lv_iconst (v := (-1)) C0.1 C0.2.1 dX0_leastTolls_8 (by decide) ?_
  refine lv_icmp_ne (tgt := 14) C0.1 C0.2.1 dX0_leastTolls_9 (by decide) (fun c_9 => ?_) (fun c_9 => ?_)
  · obtain ⟨w, hw64, hw⟩ := hq.resolve_left c_9
    refine lv_aload_n C0.1 C0.2.1 dX0_leastTolls_14 rfl (lv_at hl 1 rfl) ?_
    refine g83_tolls C0 hK hP (hd.1 _ (by decide)) fl_X0_23 dX0_leastTolls_15 ?_
    refine lv_iload_n C0.1 C0.2.1 dX0_leastTolls_18 rfl (lv_at hl 3 rfl) ?_
    refine lv_iconst (v := 0) C0.1 C0.2.1 dX0_leastTolls_19 (by decide) ?_
    refine k_X5_set 12 (by decide) hd (by decide) (by decide) C0 hK hP hS hA hl.1 ml_X0_40 ⟨Nat.le_of_ble_eq_true rfl, Nat.le_of_ble_eq_true rfl⟩ ⟨Nat.zero_le _, Nat.zero_le _⟩ (Nat.le_of_ble_eq_true rfl) dX0_leastTolls_20 (fun H locs hP hS => ?_)
    have hP : WP D cA a S (up X 12 (us (X 12) 8 t 0)) I H := hP
    refine lv_iconst (v := 1) C0.1 C0.2.1 dX0_leastTolls_23 (by decide) ?_
    refine lv_istore (lv' := [(4, .int 1), (3, .int (lnI (X 10) x t)), (0, .ref (a 83)), (1, .int x), (2, .int t)]) C0.1 C0.2.1 dX0_leastTolls_24 hl (by decide) rfl (fun ls hl => ?_)
    have loop26 : ∀ (n : Nat) (i : Nat), (i ≤ w) → (w + 1 ≤ i + n) → ∀ (H : Heap) (locs : List Loc) (ls : Array Slot), WP D cA a S (up X 12 (ltO S (X 10) P t (X 12) i)) I H → va_S (AI a I) s.heap H locs → lv_has ls 6 [(4, .int (nI (i + 1))), (3, .int (lnI (X 10) x t)), (0, .ref (a 83)), (1, .int x), (2, .int t)] → W p l e { frames := 4, cells := 0, slots := 0, locals := 91 } s m args below meth c H locs (0) (0) (MQ below (QpI D cA a I (fun r S1 X1 => S1 = S ∧ (∀ k, k ≠ 12 → X1 k = X k) ∧ r = (if lnI (X 10) x t = -1 then -1 else rg (ltO S (X 10) P t (X 12) (lnI (X 10) x t).toNatClampNeg) 8 x))) args s 0 0 (AI a I)) (F0 m 26 ls []) := by
      intro n
      induction n with
      | zero => intro i hi hf; exfalso; omega
      | succ n ih26 =>
        intro i hi hf H locs ls hP hS hl
        refine lv_iload C0.1 C0.2.1 dX0_leastTolls_26 (lv_at hl 0 rfl) ?_
        refine lv_iload_n C0.1 C0.2.1 dX0_leastTolls_28 rfl (lv_at hl 1 rfl) ?_
        refine lv_icmp_gt (tgt := 82) C0.1 C0.2.1 dX0_leastTolls_29 (by decide) (fun c_29 => ?_) (fun c_29 => ?_)
        · have hge : w ≤ i := by rw [hw, nI_ltI (by omega) (by omega)] at c_29; omega
          refine lv_aload_n C0.1 C0.2.1 dX0_leastTolls_82 rfl (lv_at hl 2 rfl) ?_
          refine g83_tolls C0 hK hP (hd.1 _ (by decide)) fl_X0_23 dX0_leastTolls_83 ?_
          refine lv_iload_n C0.1 C0.2.1 dX0_leastTolls_86 rfl (lv_at hl 3 rfl) ?_
          refine k_X5_get (v := rg (ltO S (X 10) P t (X 12) i) 8 x) 12 (by decide) hd (by decide) (by decide) C0 hK hP rfl hS hA hl.1 ml_X0_33 ⟨Nat.le_of_ble_eq_true rfl, Nat.le_of_ble_eq_true rfl⟩ ⟨Nat.zero_le _, Nat.zero_le _⟩ (Nat.le_of_ble_eq_true rfl) dX0_leastTolls_87 (fun H locs hP hS => ?_)
          exact retI C0 hr hlk hP hS ⟨rfl, fun k hk => up_ne hk, by rw [show i = w by omega, if_neg (fun h => c_9 h), hw, nI_clamp (by omega)]⟩ dX0_leastTolls_90
        · have hlt : i + 1 ≤ w := Nat.not_lt.mp fun q => c_29 (by rw [hw]; exact nI_lt q (by omega))
          refine lv_iconst (v := 0) C0.1 C0.2.1 dX0_leastTolls_32 (by decide) ?_
          refine lv_istore (lv' := [(5, .int 0), (4, .int (nI (i + 1))), (3, .int (lnI (X 10) x t)), (0, .ref (a 83)), (1, .int x), (2, .int t)]) C0.1 C0.2.1 dX0_leastTolls_33 hl (by decide) rfl (fun ls hl => ?_)
          have loop35 : ∀ (n : Nat) (u : Nat), (u ≤ 8) → (8 + 1 ≤ u + n) → ∀ (H : Heap) (locs : List Loc) (ls : Array Slot), WP D cA a S (up X 12 (ltI S (X 10) P t (nI (i + 1)) u (ltO S (X 10) P t (X 12) i))) I H → va_S (AI a I) s.heap H locs → lv_has ls 6 [(5, .int (nI u)), (4, .int (nI (i + 1))), (3, .int (lnI (X 10) x t)), (0, .ref (a 83)), (1, .int x), (2, .int t)] → W p l e { frames := 4, cells := 0, slots := 0, locals := 91 } s m args below meth c H locs (0) (0) (MQ below (QpI D cA a I (fun r S1 X1 => S1 = S ∧ (∀ k, k ≠ 12 → X1 k = X k) ∧ r = (if lnI (X 10) x t = -1 then -1 else rg (ltO S (X 10) P t (X 12) (lnI (X 10) x t).toNatClampNeg) 8 x))) args s 0 0 (AI a I)) (F0 m 35 ls []) := by
            intro n
            induction n with
            | zero => intro u hiu hfu; exfalso; omega
            | succ n ih35 =>
              intro u hiu hfu H locs ls hP hS hl
              refine lv_iload C0.1 C0.2.1 dX0_leastTolls_35 (lv_at hl 0 rfl) ?_
              refine lv_bipush (v := 8) C0.1 C0.2.1 dX0_leastTolls_37 (by decide) ?_
              refine lv_icmp_ge (tgt := 76) C0.1 C0.2.1 dX0_leastTolls_39 (by decide) (fun c_39 => ?_) (fun c_39 => ?_)
              · have hgeu : 8 ≤ u := (nI_leI (by omega) (by omega)).mp c_39
                refine lv_iinc (v := nI ((i + 1) + 1)) (lv' := [(4, .int (nI ((i + 1) + 1))), (5, .int (nI u)), (3, .int (lnI (X 10) x t)), (0, .ref (a 83)), (1, .int x), (2, .int t)]) C0.1 C0.2.1 dX0_leastTolls_76 hl (k := 1) rfl (nI_1 _) (by decide) rfl (fun ls hl => ?_)
                refine lv_goto (tgt := 26) C0.1 C0.2.1 dX0_leastTolls_79 (by decide) ?_
                rw [show u = 8 by omega] at hP
                exact ih26 (i + 1) (by omega) (by omega) _ _ _ hP hS (lv_sub hl [0, 2, 3, 4, 5] rfl)
              · have hltu : u < 8 := Nat.not_le.mp fun q => c_39 (nI_le q (by omega))
                refine lv_aload_n C0.1 C0.2.1 dX0_leastTolls_42 rfl (lv_at hl 3 rfl) ?_
                refine lv_iload C0.1 C0.2.1 dX0_leastTolls_43 (lv_at hl 0 rfl) ?_
                refine lv_iload_n C0.1 C0.2.1 dX0_leastTolls_45 rfl (lv_at hl 5 rfl) ?_
                refine k_X0_length hd (by decide) C0 hK hP  (v := lnI (X 10) (nI u) t) rfl hS hA hl.1 ml_X0_67 ⟨Nat.le_of_ble_eq_true rfl, Nat.le_of_ble_eq_true rfl⟩ ⟨Nat.zero_le _, Nat.zero_le _⟩ (Nat.le_of_ble_eq_true rfl) dX0_leastTolls_46 (fun H locs hP hS => ?_)
                refine lv_iload C0.1 C0.2.1 dX0_leastTolls_49 (lv_at hl 1 rfl) ?_
                refine lv_icmp_ne (tgt := 70) C0.1 C0.2.1 dX0_leastTolls_51 (by decide) (fun c_51 => ?_) (fun c_51 => ?_)
                · refine lv_iinc (v := nI (u + 1)) (lv' := [(5, .int (nI (u + 1))), (4, .int (nI (i + 1))), (3, .int (lnI (X 10) x t)), (0, .ref (a 83)), (1, .int x), (2, .int t)]) C0.1 C0.2.1 dX0_leastTolls_70 hl (k := 0) rfl (nI_1 _) (by decide) rfl (fun ls hl => ?_)
                  refine lv_goto (tgt := 35) C0.1 C0.2.1 dX0_leastTolls_73 (by decide) ?_
                  have hP : WP D cA a S (up X 12 (ltI S (X 10) P t (nI (i + 1)) (u + 1) (ltO S (X 10) P t (X 12) i))) I H := by rw [show ltI S (X 10) P t (nI (i + 1)) (u + 1) (ltO S (X 10) P t (X 12) i) = _ from if_neg c_51]; exact hP
                  exact ih35 (u + 1)  (by omega) (by omega)  _ _ _ hP hS (lv_sub hl [0, 1, 2, 3, 4, 5] rfl)
                · refine lv_aload_n C0.1 C0.2.1 dX0_leastTolls_54 rfl (lv_at hl 3 rfl) ?_
                  refine g83_tolls C0 hK hP (hd.1 _ (by decide)) fl_X0_23 dX0_leastTolls_55 ?_
                  refine lv_iload C0.1 C0.2.1 dX0_leastTolls_58 (lv_at hl 0 rfl) ?_
                  refine lv_aload_n C0.1 C0.2.1 dX0_leastTolls_60 rfl (lv_at hl 3 rfl) ?_
                  refine lv_iload C0.1 C0.2.1 dX0_leastTolls_61 (lv_at hl 0 rfl) ?_
                  refine lv_iload_n C0.1 C0.2.1 dX0_leastTolls_63 rfl (lv_at hl 5 rfl) ?_
                  refine k_X0_cheapestFrom hd (by decide) C0 hK hP hnP hP6 (v := chF S (X 10) (ltI S (X 10) P t (nI (i + 1)) u (ltO S (X 10) P t (X 12) i)) (nI u) t P) rfl hS hA hl.1 ml_X0_81 ⟨Nat.le_of_ble_eq_true rfl, Nat.le_of_ble_eq_true rfl⟩ ⟨Nat.zero_le _, Nat.zero_le _⟩ (Nat.le_of_ble_eq_true rfl) dX0_leastTolls_64 (fun H locs hP hS => ?_)
                  refine k_X5_set 12 (by decide) hd (by decide) (by decide) C0 hK hP hS hA hl.1 ml_X0_40 ⟨Nat.le_of_ble_eq_true rfl, Nat.le_of_ble_eq_true rfl⟩ ⟨Nat.zero_le _, Nat.zero_le _⟩ (Nat.le_of_ble_eq_true rfl) dX0_leastTolls_67 (fun H locs hP hS => ?_)
                  have hP : WP D cA a S (up X 12 (us (ltI S (X 10) P t (nI (i + 1)) u (ltO S (X 10) P t (X 12) i)) 8 (nI u) (chF S (X 10) (ltI S (X 10) P t (nI (i + 1)) u (ltO S (X 10) P t (X 12) i)) (nI u) t P))) I H := WP.congr (show WP D cA a S (up (up X 12 (ltI S (X 10) P t (nI (i + 1)) u (ltO S (X 10) P t (X 12) i))) 12 (us (ltI S (X 10) P t (nI (i + 1)) u (ltO S (X 10) P t (X 12) i)) 8 (nI u) (chF S (X 10) (ltI S (X 10) P t (nI (i + 1)) u (ltO S (X 10) P t (X 12) i)) (nI u) t P))) I H from hP) (fun _ => rfl) (fun k => by
                      by_cases h_12 : k = 12
                      · subst h_12; rfl
                      simp only [up, h_12, if_false])
                  refine lv_iinc (v := nI (u + 1)) (lv' := [(5, .int (nI (u + 1))), (4, .int (nI (i + 1))), (3, .int (lnI (X 10) x t)), (0, .ref (a 83)), (1, .int x), (2, .int t)]) C0.1 C0.2.1 dX0_leastTolls_70 hl (k := 0) rfl (nI_1 _) (by decide) rfl (fun ls hl => ?_)
                  refine lv_goto (tgt := 35) C0.1 C0.2.1 dX0_leastTolls_73 (by decide) ?_
                  have hP : WP D cA a S (up X 12 (ltI S (X 10) P t (nI (i + 1)) (u + 1) (ltO S (X 10) P t (X 12) i))) I H := by rw [show ltI S (X 10) P t (nI (i + 1)) (u + 1) (ltO S (X 10) P t (X 12) i) = _ from if_pos c_51]; exact hP
                  exact ih35 (u + 1)  (by omega) (by omega)  _ _ _ hP hS (lv_sub hl [0, 1, 2, 3, 4, 5] rfl)
          exact loop35 (8 + 1) 0  (by omega) (by omega)  _ _ _ hP hS (lv_sub hl [0, 1, 2, 3, 4, 5] rfl)
    exact loop26 (w + 1) 0 (by omega) (by omega) _ _ _ hP hS (lv_sub hl [0, 1, 2, 3, 4] rfl)
  · refine lv_iconst (v := (-1)) C0.1 C0.2.1 dX0_leastTolls_12 (by decide) ?_
    exact retI C0 hr hlk hP hS ⟨rfl, fun _ _ => rfl, (if_pos c_9).symm⟩ dX0_leastTolls_13
theorem k_X0_leastTolls {n : List Nat} (hd : Hd n a I) (hsub : ∀ k ∈ nCH, k ∈ n) (C0 : CallFix p m c cc nL s args GW own) (hK : KK D cA s) (hP : WP D cA a S X I H) {x : Int32} {t : Int32} {P : Nat} (hnP : S 82 0 = nI P) (hP6 : P ≤ 6) (hq : lnI (X 10) x t = -1 ∨ ∃ w, w ≤ 64 ∧ lnI (X 10) x t = nI w) (hS : va_S A0 H0 H locs) (hA : ∀ q, AI a I q → A0 q) (hls : ls.size = nL) {idx : Nat} (hlink : Cond.methodLink own idx yX0_leastTolls ∈ GW) (hR : 5 ≤ R.frames ∧ 116 ≤ R.locals) (hcs : cells ≤ R.cells ∧ slots ≤ R.slots) (hrest : (rest.map fun v => v.category).sum ≤ 8) (hdg : decode cc pc = .ok (.invokevirtual idx, 3)) (kk : ∀ (v : Int32) (S1 X1 : Mem) (H1 : Heap) (locs1 : List Loc), (fun r S1 X1 => S1 = S ∧ (∀ k, k ≠ 12 → X1 k = X k) ∧ r = (if lnI (X 10) x t = -1 then -1 else rg (ltO S (X 10) P t (X 12) (lnI (X 10) x t).toNatClampNeg) 8 x)) v S1 X1 → WP D cA a S1 X1 I H1 → va_S A0 H0 H1 locs1 → W p l e R s m args below meth c H1 locs1 cells slots Q (F0 m (pc + 3) ls (.int v :: rest))) : W p l e R s m args below meth c H locs cells slots Q (F0 m pc ls (.int t :: .int x :: .ref (a 83) :: rest)) := by
  exact goI (rV (n := 2) (c_X0_leastTolls l D cA a S X I (hd.sub hsub) x t hnP hP6 hq) C0 hlink im_X0_leastTolls se_X0_leastTolls in_X0 co_X0_leastTolls ⟨rfl, by decide⟩ hR hK hP (hd.1 _ (hsub _ (by decide))) rfl rfl rfl hls hrest rfl hdg hcs) hS hA kk
end CLS
