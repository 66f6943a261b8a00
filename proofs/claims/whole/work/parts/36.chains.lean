/-! THE CHAINS' MAKING, the fleet beside it. -/
def wF (cA : ClassId) (b : Nat) : va_W := [(b + 0, .inr (2, [.int 0, .ref (b + 1), .ref (b + 3), .ref (b + 5), .ref (b + 7), .ref (b + 9), .ref (b + 11)])), (b + 1, .inr (5, [.ref (b + 2)])), (b + 2, .inl (cA, 6, .inl fun _ => 0)), (b + 3, .inr (5, [.ref (b + 4)])), (b + 4, .inl (cA, 6, .inl fun _ => 0)), (b + 5, .inr (5, [.ref (b + 6)])), (b + 6, .inl (cA, 6, .inl fun _ => 0)), (b + 7, .inr (5, [.ref (b + 8)])), (b + 8, .inl (cA, 6, .inl fun _ => 0)), (b + 9, .inr (5, [.ref (b + 10)])), (b + 10, .inl (cA, 6, .inl fun _ => 0)), (b + 11, .inr (5, [.ref (b + 12)])), (b + 12, .inl (cA, 6, .inl fun _ => 0))]
def FKf (q sz f : Nat) : Nat → Prop := fun x => FK q sz x ∨ (f ≤ x ∧ x < f + 13)
abbrev nCi : List Nat := [83, 50, 10, 51, 11, 52, 12, 82, 44, 4, 45, 5, 46, 6, 47, 7, 48, 8, 49, 9]
theorem sCi : ∀ k ∈ nCH, k ∈ nCi := by decide
def flP (k : Nat) : Bool := k == 82 || (Nat.ble 44 k && Nat.ble k 49) || (Nat.ble 4 k && Nat.ble k 9)
def ixF (k : Nat) : Nat := match k with
  | 82 => 0 | 44 => 1 | 4 => 2 | 45 => 3 | 5 => 4 | 46 => 5 | 6 => 6 | 47 => 7 | 7 => 8 | 48 => 9 | 8 => 10 | 49 => 11 | _ => 12
def ixC (k : Nat) : Nat := match k with
  | 50 => 0 | 10 => 1 | 51 => 2 | 11 => 3 | 52 => 4 | _ => 5
def aC (q sz f : Nat) : Adr := fun k => if k = 83 then q else if flP k = true then f + ixF k else sz + ixC k
theorem aC_hd {q sz f : Nat} (hq : q < sz) (hf : f + 13 ≤ q) : Hd nCi (aC q sz f) (fun k => k ∈ nCi) := ⟨fun _ h => h, by decide, fun i j hi hj e => by
  have h1 := (by decide : ∀ i ∈ nCi, ∀ j ∈ nCi, flP i = true → flP j = true → ixF i = ixF j → i = j) i hi j hj
  have h2 := (by decide : ∀ i ∈ nCi, ∀ j ∈ nCi, ¬ i = 83 → ¬ j = 83 → ¬ flP i = true → ¬ flP j = true → ixC i = ixC j → i = j) i hi j hj
  have h3 := (by decide : ∀ i ∈ nCi, ixF i < 13) i hi
  have h4 := (by decide : ∀ i ∈ nCi, ixF i < 13) j hj
  unfold aC at e
  by_cases a1 : i = 83
  · by_cases a2 : j = 83
    · rw [a1, a2]
    · rw [if_pos a1, if_neg a2] at e
      by_cases b2 : flP j = true
      · rw [if_pos b2] at e; omega
      · rw [if_neg b2] at e; omega
  · rw [if_neg a1] at e
    by_cases a2 : j = 83
    · rw [if_pos a2] at e
      by_cases b1 : flP i = true
      · rw [if_pos b1] at e; omega
      · rw [if_neg b1] at e; omega
    · rw [if_neg a2] at e
      by_cases b1 : flP i = true
      · rw [if_pos b1] at e
        by_cases b2 : flP j = true
        · rw [if_pos b2] at e; exact h1 b1 b2 (by omega)
        · rw [if_neg b2] at e; omega
      · rw [if_neg b1] at e
        by_cases b2 : flP j = true
        · rw [if_pos b2] at e; omega
        · rw [if_neg b2] at e; exact h2 a1 a2 b1 b2 (by omega)⟩
theorem aC_FK {q sz f x : Nat} (h : AI (aC q sz f) (fun k => k ∈ nCi) x) : FKf q sz f x := by
  obtain ⟨k, hk, rfl⟩ := h
  have h3 := (by decide : ∀ i ∈ nCi, ixF i < 13) k hk
  unfold aC FKf FK
  by_cases h1 : k = 83
  · rw [if_pos h1]; exact Or.inl (Or.inl rfl)
  · rw [if_neg h1]
    by_cases h2 : flP k = true
    · rw [if_pos h2]; exact Or.inr ⟨Nat.le_add_right _ _, by omega⟩
    · rw [if_neg h2]; exact Or.inl (Or.inr (Nat.le_add_right _ _))
/-- the chains of no punts -/
def r0 : (Nat → Int32) × (Nat → Int32) := rkT m0 0 (fl (fun _ => 0) 64 (-1)) (fun _ => 0) 8
set_option maxHeartbeats 4000000 in
set_option maxRecDepth 100000 in
theorem c_X0_init (l : Launch) (D : va_G) (cA : ClassId) (q sz : Nat) (f : Nat) (hf : f + 13 ≤ q) : MK l yX0_init cX0_init 2 5 112 6 139 D cA q sz (.inr (0, [.null, .null, .null, .null])) (fun H => NW D f (f + 13) (wF cA f) H) [.ref f] (sz + 6) (.inr (0, [.ref f, .ref (sz + 0), .ref (sz + 2), .ref (sz + 4)])) [(sz + 0, .inr (5, [.ref (sz + 1)])), (sz + 1, .inl (cA, 64, .inl r0.1)), (sz + 2, .inr (5, [.ref (sz + 3)])), (sz + 3, .inl (cA, 64, .inl r0.2)), (sz + 4, .inr (5, [.ref (sz + 5)])), (sz + 5, .inl (cA, 8, .inl fun _ => 0))] (fun H => NW D f (f + 13) (wF cA f) H) (FKf q sz f) := by
  refine mGoK (by decide) rfl (Nat.le_of_ble_eq_true rfl) ?_
  intro p e s m args below meth c ls C0 hr hlk hin2 hsz hq hR hK hNX hE hS hl
  obtain ⟨H, hHe⟩ : ∃ H, H = s.heap := ⟨_, rfl⟩
  obtain ⟨locs, hlo⟩ : ∃ L : List Loc, L = [] := ⟨_, rfl⟩
  have hS : va_S (FKf q sz f) s.heap H locs := by rw [hHe, hlo]; exact hS
  have hB : BW D q sz 0 (.inr (0, [.null, .null, .null, .null])) [] H := ⟨hq, by rw [hHe]; exact hsz, by rw [hHe]; exact hR, NW.nil⟩
  rw [← hHe] at hE
  rw [← hHe, ← hlo]
  refine lv_aload_n C0.1 C0.2.1 dX0_init_0 rfl (lv_at hl 0 rfl) ?_
  refine oK C0 ml_X0_3 hl.1 ⟨Nat.le_of_ble_eq_true rfl, Nat.le_of_ble_eq_true rfl⟩ dX0_init_1 ?_
  refine lv_aload_n C0.1 C0.2.1 dX0_init_4 rfl (lv_at hl 0 rfl) ?_
  refine mkN (ci := 5) (N := 1) (n := sz + 0) [.null] C0 hK us_X5 tyX5 tyX5_ok cl_X0_9 it_X5 in_X5 hS rfl (fun j hj => by rcases (show j = 0 by omega) with rfl <;> rfl) hB.2.1 (Nat.le_of_ble_eq_true rfl) (Nat.le_of_ble_eq_true rfl) dX0_init_5 (fun H h9 hO ho hS => ?_)
  have hN := hB.new h9 ho
  have hE := hE.kept (fun x a b => ho x (by omega))
  refine lv_dup C0.1 C0.2.1 dX0_init_8 rfl ?_
  refine lv_bipush (v := nI 64) C0.1 C0.2.1 dX0_init_9 (by decide) ?_
  refine rK (n := 1) hN.2.1 (c_X5_init l D cA (sz + 0) ((sz + 0) + 1) 64 (Nat.le_of_ble_eq_true rfl)) C0 ml_X0_11 im_X5_init in_X5 co_X5_init rfl ⟨by decide, by decide, by decide +kernel⟩ ⟨Nat.le_of_ble_eq_true rfl, Nat.le_of_ble_eq_true rfl⟩ hK hNX hO trivial hS (fun x h => Or.inl (FK.up h)) rfl hl.1 (Nat.le_of_ble_eq_true rfl) rfl dX0_init_11 ⟨Nat.le_of_ble_eq_true rfl, Nat.le_of_ble_eq_true rfl⟩ (fun H locs hn hO hW2 _ ho hS => ?_)
  have hB := hN.done (m := 1) hn hO hW2 ho
  have hE := hE.kept (fun x a b => ho x (by omega) (by unfold FK; omega))
  have hB : BW D q sz 2 (.inr (0, [.null, .null, .null, .null])) [(sz + 0, .inr (5, [.ref (sz + 1)])), (sz + 1, .inl (cA, 64, .inl fun _ => 0))] H := hB
  refine pK C0 hin2 hK hB.2.2.1 hS (Or.inl (Or.inl rfl)) us_X0 tyX0 tyX0_ok nmX0 rfl 1 (by decide) fl_X0_14 rfl rfl (ty := tyX0 1) (by decide +kernel) rfl rfl (Nat.le_of_ble_eq_true rfl) dX0_init_14 (fun H locs h2 hR ho hS => ?_)
  have hB : BW D q sz 2 (.inr (0, [.null, .ref (sz + 0), .null, .null])) [(sz + 0, .inr (5, [.ref (sz + 1)])), (sz + 1, .inl (cA, 64, .inl fun _ => 0))] H := hB.put h2 hR ho
  have hE := hE.kept (fun x a b => ho x (by omega))
  refine lv_aload_n C0.1 C0.2.1 dX0_init_17 rfl (lv_at hl 0 rfl) ?_
  refine mkN (ci := 5) (N := 1) (n := sz + 2) [.null] C0 hK us_X5 tyX5 tyX5_ok cl_X0_9 it_X5 in_X5 hS rfl (fun j hj => by rcases (show j = 0 by omega) with rfl <;> rfl) hB.2.1 (Nat.le_of_ble_eq_true rfl) (Nat.le_of_ble_eq_true rfl) dX0_init_18 (fun H h9 hO ho hS => ?_)
  have hN := hB.new h9 ho
  have hE := hE.kept (fun x a b => ho x (by omega))
  refine lv_dup C0.1 C0.2.1 dX0_init_21 rfl ?_
  refine lv_bipush (v := nI 64) C0.1 C0.2.1 dX0_init_22 (by decide) ?_
  refine rK (n := 1) hN.2.1 (c_X5_init l D cA (sz + 2) ((sz + 2) + 1) 64 (Nat.le_of_ble_eq_true rfl)) C0 ml_X0_11 im_X5_init in_X5 co_X5_init rfl ⟨by decide, by decide, by decide +kernel⟩ ⟨Nat.le_of_ble_eq_true rfl, Nat.le_of_ble_eq_true rfl⟩ hK hNX hO trivial hS (fun x h => Or.inl (FK.up h)) rfl hl.1 (Nat.le_of_ble_eq_true rfl) rfl dX0_init_24 ⟨Nat.le_of_ble_eq_true rfl, Nat.le_of_ble_eq_true rfl⟩ (fun H locs hn hO hW2 _ ho hS => ?_)
  have hB := hN.done (m := 1) hn hO hW2 ho
  have hE := hE.kept (fun x a b => ho x (by omega) (by unfold FK; omega))
  have hB : BW D q sz 4 (.inr (0, [.null, .ref (sz + 0), .null, .null])) [(sz + 0, .inr (5, [.ref (sz + 1)])), (sz + 1, .inl (cA, 64, .inl fun _ => 0)), (sz + 2, .inr (5, [.ref (sz + 3)])), (sz + 3, .inl (cA, 64, .inl fun _ => 0))] H := hB
  refine pK C0 hin2 hK hB.2.2.1 hS (Or.inl (Or.inl rfl)) us_X0 tyX0 tyX0_ok nmX0 rfl 2 (by decide) fl_X0_20 rfl rfl (ty := tyX0 2) (by decide +kernel) rfl rfl (Nat.le_of_ble_eq_true rfl) dX0_init_27 (fun H locs h2 hR ho hS => ?_)
  have hB : BW D q sz 4 (.inr (0, [.null, .ref (sz + 0), .ref (sz + 2), .null])) [(sz + 0, .inr (5, [.ref (sz + 1)])), (sz + 1, .inl (cA, 64, .inl fun _ => 0)), (sz + 2, .inr (5, [.ref (sz + 3)])), (sz + 3, .inl (cA, 64, .inl fun _ => 0))] H := hB.put h2 hR ho
  have hE := hE.kept (fun x a b => ho x (by omega))
  refine lv_aload_n C0.1 C0.2.1 dX0_init_30 rfl (lv_at hl 0 rfl) ?_
  refine mkN (ci := 5) (N := 1) (n := sz + 4) [.null] C0 hK us_X5 tyX5 tyX5_ok cl_X0_9 it_X5 in_X5 hS rfl (fun j hj => by rcases (show j = 0 by omega) with rfl <;> rfl) hB.2.1 (Nat.le_of_ble_eq_true rfl) (Nat.le_of_ble_eq_true rfl) dX0_init_31 (fun H h9 hO ho hS => ?_)
  have hN := hB.new h9 ho
  have hE := hE.kept (fun x a b => ho x (by omega))
  refine lv_dup C0.1 C0.2.1 dX0_init_34 rfl ?_
  refine lv_bipush (v := nI 8) C0.1 C0.2.1 dX0_init_35 (by decide) ?_
  refine rK (n := 1) hN.2.1 (c_X5_init l D cA (sz + 4) ((sz + 4) + 1) 8 (Nat.le_of_ble_eq_true rfl)) C0 ml_X0_11 im_X5_init in_X5 co_X5_init rfl ⟨by decide, by decide, by decide +kernel⟩ ⟨Nat.le_of_ble_eq_true rfl, Nat.le_of_ble_eq_true rfl⟩ hK hNX hO trivial hS (fun x h => Or.inl (FK.up h)) rfl hl.1 (Nat.le_of_ble_eq_true rfl) rfl dX0_init_37 ⟨Nat.le_of_ble_eq_true rfl, Nat.le_of_ble_eq_true rfl⟩ (fun H locs hn hO hW2 _ ho hS => ?_)
  have hB := hN.done (m := 1) hn hO hW2 ho
  have hE := hE.kept (fun x a b => ho x (by omega) (by unfold FK; omega))
  have hB : BW D q sz 6 (.inr (0, [.null, .ref (sz + 0), .ref (sz + 2), .null])) [(sz + 0, .inr (5, [.ref (sz + 1)])), (sz + 1, .inl (cA, 64, .inl fun _ => 0)), (sz + 2, .inr (5, [.ref (sz + 3)])), (sz + 3, .inl (cA, 64, .inl fun _ => 0)), (sz + 4, .inr (5, [.ref (sz + 5)])), (sz + 5, .inl (cA, 8, .inl fun _ => 0))] H := hB
  refine pK C0 hin2 hK hB.2.2.1 hS (Or.inl (Or.inl rfl)) us_X0 tyX0 tyX0_ok nmX0 rfl 3 (by decide) fl_X0_23 rfl rfl (ty := tyX0 3) (by decide +kernel) rfl rfl (Nat.le_of_ble_eq_true rfl) dX0_init_40 (fun H locs h2 hR ho hS => ?_)
  have hB : BW D q sz 6 (.inr (0, [.null, .ref (sz + 0), .ref (sz + 2), .ref (sz + 4)])) [(sz + 0, .inr (5, [.ref (sz + 1)])), (sz + 1, .inl (cA, 64, .inl fun _ => 0)), (sz + 2, .inr (5, [.ref (sz + 3)])), (sz + 3, .inl (cA, 64, .inl fun _ => 0)), (sz + 4, .inr (5, [.ref (sz + 5)])), (sz + 5, .inl (cA, 8, .inl fun _ => 0))] H := hB.put h2 hR ho
  have hE := hE.kept (fun x a b => ho x (by omega))
  refine lv_aload_n C0.1 C0.2.1 dX0_init_43 rfl (lv_at hl 0 rfl) ?_
  refine lv_aload_n C0.1 C0.2.1 dX0_init_44 rfl (lv_at hl 1 rfl) ?_
  refine pK C0 hin2 hK hB.2.2.1 hS (Or.inl (Or.inl rfl)) us_X0 tyX0 tyX0_ok nmX0 rfl 0 (by decide) fl_X0_26 rfl rfl (ty := tyX0 0) (by decide +kernel) rfl rfl (Nat.le_of_ble_eq_true rfl) dX0_init_45 (fun H locs h2 hR ho hS => ?_)
  have hB : BW D q sz 6 (.inr (0, [.ref f, .ref (sz + 0), .ref (sz + 2), .ref (sz + 4)])) [(sz + 0, .inr (5, [.ref (sz + 1)])), (sz + 1, .inl (cA, 64, .inl fun _ => 0)), (sz + 2, .inr (5, [.ref (sz + 3)])), (sz + 3, .inl (cA, 64, .inl fun _ => 0)), (sz + 4, .inr (5, [.ref (sz + 5)])), (sz + 5, .inl (cA, 8, .inl fun _ => 0))] H := hB.put h2 hR ho
  have hE := hE.kept (fun x a b => ho x (by omega))
  have hd : Hd nCi (aC q sz f) (fun k => k ∈ nCi) := aC_hd hq hf
  have hP : WP D cA (aC q sz f) m0 m0 (fun k => k ∈ nCi) H := by
    have h : ∀ k ∈ nCi, va_at D vwCl (aC q sz f k, ct cA (aC q sz f) m0 m0 k) H := by
      simp only [nCi, List.forall_mem_cons]
      exact ⟨hB.2.2.1, hB.2.2.2.get 0 rfl, hB.2.2.2.get 1 rfl, hB.2.2.2.get 2 rfl, hB.2.2.2.get 3 rfl, hB.2.2.2.get 4 rfl, hB.2.2.2.get 5 rfl, hE.get 0 rfl, hE.get 1 rfl, hE.get 2 rfl, hE.get 3 rfl, hE.get 4 rfl, hE.get 5 rfl, hE.get 6 rfl, hE.get 7 rfl, hE.get 8 rfl, hE.get 9 rfl, hE.get 10 rfl, hE.get 11 rfl, hE.get 12 rfl, fun _ h => absurd h List.not_mem_nil⟩
    exact h
  have hA : ∀ x, AI (aC q sz f) (fun k => k ∈ nCi) x → FKf q sz f x := fun x h => aC_FK h
  refine lv_aload_n C0.1 C0.2.1 dX0_init_48 rfl (lv_at hl 0 rfl) ?_
  refine k_X0_reckon (P := 0) hd sCi C0 hK hP rfl (by decide) hS hA hl.1 ml_X0_30 ⟨Nat.le_of_ble_eq_true rfl, Nat.le_of_ble_eq_true rfl⟩ ⟨Nat.le_of_ble_eq_true rfl, Nat.le_of_ble_eq_true rfl⟩ (Nat.le_of_ble_eq_true rfl) dX0_init_49 (fun H locs hP hS => ?_)
  have hP : WP D cA (aC q sz f) m0 (up (up m0 10 r0.1) 11 r0.2) (fun k => k ∈ nCi) H := hP
  refine W.grown fun hg => ?_
  have hlt : sz + 5 < H.size := (hP 12 (by decide)).lt
  have hg : H.size ≤ sz + 6 := by have := hsz; omega
  have hB : BW D q sz 6 (.inr (0, [.ref f, .ref (sz + 0), .ref (sz + 2), .ref (sz + 4)])) [(sz + 0, .inr (5, [.ref (sz + 1)])), (sz + 1, .inl (cA, 64, .inl r0.1)), (sz + 2, .inr (5, [.ref (sz + 3)])), (sz + 3, .inl (cA, 64, .inl r0.2)), (sz + 4, .inr (5, [.ref (sz + 5)])), (sz + 5, .inl (cA, 8, .inl fun _ => 0))] H := by
    refine ⟨hq, by omega, hP 83 (by decide), ?_⟩
    have t : ∀ k j, j < 6 → k ∈ nCi → aC q sz f k = sz + j → NW D sz (sz + 6) [(sz + j, ct cA (aC q sz f) m0 (up (up m0 10 r0.1) 11 r0.2) k)] H := fun k j hj hk e => by
      have h := hP k hk
      rw [e] at h
      exact (NW.one h).wid (Nat.le_add_right _ _) (by omega)
    exact ((t 50 0 (by decide) (by decide) rfl).app ((t 10 1 (by decide) (by decide) rfl).app ((t 51 2 (by decide) (by decide) rfl).app ((t 11 3 (by decide) (by decide) rfl).app ((t 52 4 (by decide) (by decide) rfl).app (t 12 5 (by decide) (by decide) rfl))))))
  have hE : NW D f (f + 13) (wF cA f) H := by
    have t : ∀ k j, j < 13 → k ∈ nCi → aC q sz f k = f + j → NW D f (f + 13) [(f + j, ct cA (aC q sz f) m0 (up (up m0 10 r0.1) 11 r0.2) k)] H := fun k j hj hk e => by
      have h := hP k hk
      rw [e] at h
      exact (NW.one h).wid (Nat.le_add_right _ _) (by omega)
    exact ((t 82 0 (by decide) (by decide) rfl).app ((t 44 1 (by decide) (by decide) rfl).app ((t 4 2 (by decide) (by decide) rfl).app ((t 45 3 (by decide) (by decide) rfl).app ((t 5 4 (by decide) (by decide) rfl).app ((t 46 5 (by decide) (by decide) rfl).app ((t 6 6 (by decide) (by decide) rfl).app ((t 47 7 (by decide) (by decide) rfl).app ((t 7 8 (by decide) (by decide) rfl).app ((t 48 9 (by decide) (by decide) rfl).app ((t 8 10 (by decide) (by decide) rfl).app ((t 49 11 (by decide) (by decide) rfl).app (t 9 12 (by decide) (by decide) rfl)))))))))))))
  exact retK C0 hr hlk hS rfl rfl hB.2.1 hB.2.2.1 hB.2.2.2 hE dX0_init_52
