/-! THE LAW, FROM ITS ENTRY. -/
set_option maxHeartbeats 4000000 in
set_option maxRecDepth 100000 in
theorem whole_start {p : Program} {e : Env} {s : State} {m : MethodId} {below : List Frame} {meth : Method} {c : Code} (l : Launch) (hflags : l.flags = flags0) {b L : Nat} {xs : Nat → Int32} (hL : L ≤ 3584) (C0 : lw_At p s m meth c b L xs) : W p l e room_1 s m #[Value.ref b] below meth c s.heap [] 0 0 (lw_Z below #[Value.ref b] s) (entryFrame m ([Value.ref b] : List Value).toArray 9) := by
  obtain ⟨hx, hb, hr, hml, hown, hts, hX, hbl, hlocks, hgv⟩ := id C0
  have hfl : l.stackTraces = false := by unfold Launch.stackTraces; rw [hflags]; decide +kernel
  have C1 : CallFix p m c cL_law 9 s #[Value.ref b] GW RL := ⟨hx, hb, hml, hown, fun w h => hts w (List.mem_filter.mp h).1⟩
  have hgs := flat_of_before _ hgv
  have hw : ∀ (i : Nat) (w : Cond), lw_tbl[i]? = some w → w.before #[Value.ref b] s = true := fun i w h => hts w (List.mem_of_getElem? h)
  obtain ⟨c0, i0, k0⟩ := u_known (C := RX0) (T := TX0) (N := 4) (n := 4) C1.2.2.2.2 us_X0 (C1.2.2.2.2 _ it_X0)
  obtain ⟨c1, i1, k1⟩ := u_known (C := RX1) (T := TX1) (N := 6) (n := 6) C1.2.2.2.2 us_X1 (C1.2.2.2.2 _ it_X1)
  obtain ⟨c2, i2, k2⟩ := u_known (C := RX2) (T := TX2) (N := 7) (n := 7) C1.2.2.2.2 us_X2 (C1.2.2.2.2 _ it_X2)
  obtain ⟨c3, i3, k3⟩ := u_known (C := RX3) (T := TX3) (N := 2) (n := 2) C1.2.2.2.2 us_X3 (C1.2.2.2.2 _ it_X3)
  obtain ⟨c4, i4, k4⟩ := u_known (C := RX4) (T := TX4) (N := 3) (n := 3) C1.2.2.2.2 us_X4 (C1.2.2.2.2 _ it_X4)
  obtain ⟨c5, i5, k5⟩ := u_known (C := RX5) (T := TX5) (N := 1) (n := 1) C1.2.2.2.2 us_X5 (C1.2.2.2.2 _ it_X5)
  obtain ⟨c6, i6, k6⟩ := u_known (C := RX6) (T := TX6) (N := 11) (n := 11) C1.2.2.2.2 us_X6 (C1.2.2.2.2 _ it_X6)
  obtain ⟨c7, i7, k7⟩ := u_known (C := RX7) (T := TX7) (N := 6) (n := 6) C1.2.2.2.2 us_X7 (C1.2.2.2.2 _ it_X7)
  obtain ⟨c8, i8, k8⟩ := u_known (C := RX8) (T := TX8) (N := 7) (n := 7) C1.2.2.2.2 us_X8 (C1.2.2.2.2 _ it_X8)
  obtain ⟨c9, i9, k9⟩ := u_known (C := RX9) (T := TX9) (N := 15) (n := 15) C1.2.2.2.2 us_X9 (C1.2.2.2.2 _ it_X9)
  obtain ⟨D, hKc⟩ : ∃ D : va_G, ∀ (k : Nat) (q : vw_C), vwCl[k]? = some q → u_Kn s q.1 q.2.1 q.2.2 (D.1 k) (D.2 k) := by
    refine ⟨(fun k => match k with | 0 => c0 | 1 => c1 | 2 => c2 | 3 => c3 | 4 => c4 | 5 => c5 | 6 => c6 | 7 => c7 | 8 => c8 | _ => c9, fun k => match k with | 0 => i0 | 1 => i1 | 2 => i2 | 3 => i3 | 4 => i4 | 5 => i5 | 6 => i6 | 7 => i7 | 8 => i8 | _ => i9), ?_⟩
    intro k q hq
    match k, hq with
    | 0, hq => cases hq; exact k0
    | 1, hq => cases hq; exact k1
    | 2, hq => cases hq; exact k2
    | 3, hq => cases hq; exact k3
    | 4, hq => cases hq; exact k4
    | 5, hq => cases hq; exact k5
    | 6, hq => cases hq; exact k6
    | 7, hq => cases hq; exact k7
    | 8, hq => cases hq; exact k8
    | 9, hq => cases hq; exact k9
    | k + 10, hq => simp [vwCl] at hq
  obtain ⟨cA, kA, comp, hA1, hA2, hA3⟩ := Cond.arrayClass_spec (C1.2.2.2.2 _ ac_int)
  have hK : KK D cA s := by
    refine ⟨⟨hKc, ?_⟩, va_tabs (c := nest46) rfl rfl (hw 522 _ (by decide +kernel)), va_tabs (c := nest49) rfl rfl (hw 523 _ (by decide +kernel))⟩
    intro k q hk
    match k, hk with
    | 0, hk => cases hk; exact ⟨fun N z => ⟨fun k h => (by cases h), kA, hA2, comp, hA3⟩, hA1⟩
    | k + 1, hk => simp at hk
  have hcur : s.vm.findClass RX8 = some (D.1 8) := (hKc 8 _ rfl).2.1
  have hst : ∀ (i k : Nat) (tx : String), lw_tbl[i]? = some (.stringRef RX8 k tx) → ∃ sa, vk_R RX8 k tx sa s := by
    intro i k tx hi
    obtain ⟨k9, cf, i9, sa, -, -, -, -, -, h9⟩ := Cond.stringRef_spec hcur (hw i _ hi)
    exact ⟨sa, vk_R.of (hw i _ hi) h9⟩
  have hXX : XX (fun q => s.heap.size ≤ q) s := by
    refine ⟨⟨va_tabs rfl rfl (hw 565 _ (by decide +kernel)), va_tabs rfl rfl (hw 639 _ (by decide +kernel)), va_tabs rfl rfl (hw 702 _ (by decide +kernel)), va_tabs rfl rfl (hw 567 _ (by decide +kernel)), va_tabs rfl rfl (hw 569 _ (by decide +kernel)), va_tabs rfl rfl (hw 571 _ (by decide +kernel))⟩, ⟨hst 604 292 _ (by decide +kernel), hst 646 299 _ (by decide +kernel), hst 709 304 _ (by decide +kernel)⟩, ?_, ?_⟩
    · exact vx_Zqof (hw 590 _ (by decide +kernel)) (hts (.initialized Bundle.tN) (by decide +kernel)) (hgs _ (by decide +kernel)) (fun a h => Nat.not_le.mpr h)
    · exact vx_Zqof (hw 592 _ (by decide +kernel)) (hts (.initialized Bundle.tN) (by decide +kernel)) (hgs _ (by decide +kernel)) (fun a h => Nat.not_le.mpr h)
  have hNX : NX s := ⟨va_tabs rfl rfl (hw 118 _ (by decide +kernel)), va_tabs rfl rfl (hw 137 _ (by decide +kernel)), va_tabs rfl rfl (hw 278 _ (by decide +kernel))⟩
  have hN3 : NC3 s := ⟨va_Nc.of (hgs _ (by decide +kernel)), va_Nc.of (hgs _ (by decide +kernel)), va_Nc.of (hgs _ (by decide +kernel))⟩
  have hNY : NY s := ⟨aoSame rfl (hw 1175 _ (by decide +kernel)), va_tabs rfl rfl (hw 1181 _ (by decide +kernel))⟩
  have hS : va_S (fun q : Nat => s.heap.size ≤ q) s.heap s.heap [] := va_S.rf
  have hl := lv_entry ([.ref b]) (n := 9) (Nat.le_of_ble_eq_true rfl)
  rw [lg_entry_eq]
  generalize (lg_sl ([.ref b]) ++ List.replicate (9 - (lg_sl ([.ref b])).length) Slot.unset).toArray = ls at hl ⊢
  have hl : lv_has ls 9 [(0, .ref b)] := hl
  obtain ⟨q, hq⟩ : ∃ q, q = s.heap.size := ⟨_, rfl⟩
  refine mkN (ci := 8) (N := 7) (n := q) [.null, .null, .null, .null, .null, .null, .null] C1 hK us_X8 tyX8 tyX8_ok cl_L_8 it_X8 in_X8 hS rfl (fun j hj => by rcases (show j = 0 ∨ j = 1 ∨ j = 2 ∨ j = 3 ∨ j = 4 ∨ j = 5 ∨ j = 6 by omega) with rfl | rfl | rfl | rfl | rfl | rfl | rfl <;> rfl) hq.symm (Nat.le_of_ble_eq_true rfl) (Nat.le_of_ble_eq_true rfl) dL_law_0 (fun H1 hz1 hO1 ho1 hS => ?_)
  refine lv_dup C1.1 C1.2.1 dL_law_3 rfl ?_
  have hFK : ∀ x, FK q (q + 1) x → s.heap.size ≤ x := fun x h => by rcases h with h | h <;> omega
  refine rK (n := 0) (As := []) (rest := [.ref q]) hz1 (c_X8_init l D cA q (q + 1)) C1 ml_L_73 im_X8_init in_X8 co_X8_init rfl ⟨by decide, by decide, by decide +kernel⟩ ⟨Nat.le_of_ble_eq_true rfl, Nat.le_of_ble_eq_true rfl⟩ hK hNX hO1 trivial hS hFK rfl hl.1 (Nat.le_of_ble_eq_true rfl) rfl dL_law_4 ⟨Nat.le_of_ble_eq_true rfl, Nat.le_of_ble_eq_true rfl⟩ (fun H2 locs hz2 hO2 hW2 _ ho2 hS => ?_)
  have hP : WP D cA (a8 q (q + 1)) S00 X00 IF H2 := start_wp hO2 hW2
  refine lv_astore_n (lv' := [(1, .ref q), (0, .ref b)]) C1.1 C1.2.1 dL_law_7 rfl hl (by decide) rfl (fun ls hl => ?_)
  have hz2 : H2.size = q + 78 := hz2
  refine mkN (ci := 9) (N := 15) (n := q + 78) [.int 0, .null, .null, .null, .int 0, .null, .int 0, .null, .int 0, .int 0, .null, .null, .null, .null, .null] C1 hK us_X9 tyX9 tyX9_ok cl_L_74 it_X9 in_X9 hS rfl (fun j hj => by rcases (show j = 0 ∨ j = 1 ∨ j = 2 ∨ j = 3 ∨ j = 4 ∨ j = 5 ∨ j = 6 ∨ j = 7 ∨ j = 8 ∨ j = 9 ∨ j = 10 ∨ j = 11 ∨ j = 12 ∨ j = 13 ∨ j = 14 by omega) with rfl | rfl | rfl | rfl | rfl | rfl | rfl | rfl | rfl | rfl | rfl | rfl | rfl | rfl | rfl <;> rfl) hz2 (Nat.le_of_ble_eq_true rfl) (Nat.le_of_ble_eq_true rfl) dL_law_8 (fun H3 hz3 hO3 ho3 hS => ?_)
  have hlt : ∀ k, IF k → a8 q (q + 1) k < q + 78 := fun k hk => by have := (hP k hk).lt; omega
  have hP : WP D cA (a8 q (q + 1)) S00 X00 IF H3 := fun k hk => (hP k hk).kept (ho3 _ (hlt k hk))
  refine lv_dup C1.1 C1.2.1 dL_law_11 rfl ?_
  have hFK9 : ∀ x, FK (q + 78) (q + 79) x → s.heap.size ≤ x := fun x h => by rcases h with h | h <;> omega
  have hG : GoodIn GW (Cond.code yX9_init cX9_init 2 none :: GW) := gw_in fun w hw => by
    rcases List.mem_cons.mp hw with rfl | hw
    · exact co_X9_init
    · exact hw
  refine va_callv (va_runI (As := []) (n := 0) (rest := [.ref (q + 78)]) C1 (c_X9_init l D cA (q + 78) (q + 79)) (cwI 0 C1.2.2.2.2 hG rfl rfl rfl (C1.2.2.2.2 _ in_X9) (C1.2.2.2.2 _ ml_L_76) (C1.2.2.2.2 _ im_X9_init) rfl ⟨by decide, by decide, by decide +kernel⟩ ⟨Nat.le_of_ble_eq_true rfl, Nat.le_of_ble_eq_true rfl⟩) ⟨PK.blind, fun U hU hW => ⟨rfl, by rw [hU]; exact hz3, by omega, by rw [hU]; exact hO3, hK.warm hW, hNX.warm hW, trivial⟩⟩ rfl rfl hl.1 rfl (by show 2 * 0 + _ ≤ 8; exact Nat.le_of_ble_eq_true rfl) dL_law_12 ⟨Nat.le_of_ble_eq_true rfl, Nat.le_of_ble_eq_true rfl⟩) hS (fun x _ h => hFK9 x h) hFK9 (fun u t9 H4 locs ht _ _ hB hz4 hk4 hS => ?_)
  have hQ : WQ D cA (b9 (q + 78) (q + 79)) S00 m0 IM H4 := by have h9 : WQ D cA (b9 (q + 78) (q + 79)) S00 m0 IM t9.heap := hB; rw [ht] at h9; exact h9
  have hP : WP D cA (a8 q (q + 1)) S00 X00 IF H4 := fun k hk => (hP k hk).kept (hk4 _ (by have := hlt k hk; omega) (fun h => by have := hlt k hk; rcases h with h | h <;> omega))
  refine lv_astore_n (lv' := [(2, .ref (q + 78)), (1, .ref q), (0, .ref b)]) C1.1 C1.2.1 dL_law_15 rfl hl (by decide) rfl (fun ls hl => ?_)
  refine lv_iconst (v := 1) C1.1 C1.2.1 dL_law_16 (by decide) ?_
  refine va_newaK C1.1 C1.2.1 (atype := .long) (C1.2.2.2.2 _ ac_long) rfl dL_law_17 rfl (by decide) (N := 1) (by decide) (by decide) (Nat.le_of_ble_eq_true rfl) (Nat.le_of_ble_eq_true rfl) rfl (fun H5 cL e5 z5 o5 hAr hNm => ?_)
  obtain ⟨og, hog⟩ : ∃ og, og = H4.size := ⟨_, rfl⟩
  rw [← hog] at e5 z5 o5 ⊢
  have hltA : ∀ k, IF k → a8 q (q + 1) k < og := fun k hk => by rw [hog]; exact (hP k hk).lt
  have hltB : ∀ k, IM k → b9 (q + 78) (q + 79) k < og := fun k hk => by rw [hog]; exact (hQ k hk).lt
  have hP : WP D cA (a8 q (q + 1)) S00 X00 IF H5 := fun k hk => (hP k hk).kept (o5 _ (hltA k hk))
  have hQ : WQ D cA (b9 (q + 78) (q + 79)) S00 m0 IM H5 := fun k hk => (hQ k hk).kept (o5 _ (hltB k hk))
  have hO : va_at D vwCl (og, lcell cL (fun _ => 0)) H5 := by
    show H5[og]? = some (vp_cell cL (1, .inr (.inl fun _ => 0)))
    rw [e5, vp_cell_l]
    rfl
  have hqo : s.heap.size ≤ og := by rw [hog]; exact hS.1
  have hS : va_S (fun q : Nat => s.heap.size ≤ q) s.heap H5 locs := ⟨by omega, fun x h1 h2 => (o5 x (by omega)).trans (hS.2.1 x h1 h2), hS.2.2⟩
  refine lv_astore_n (lv' := [(3, .ref og), (2, .ref (q + 78)), (1, .ref q), (0, .ref b)]) C1.1 C1.2.1 dL_law_19 rfl hl (by decide) rfl (fun ls hl => ?_)
  refine lv_iconst (v := 0) C1.1 C1.2.1 dL_law_20 (by decide) ?_
  refine lv_istore (lv' := [(4, .int 0), (3, .ref og), (2, .ref (q + 78)), (1, .ref q), (0, .ref b)]) C1.1 C1.2.1 dL_law_21 hl (by decide) rfl (fun ls hl => ?_)
  have hlo : ∀ k, IF k → s.heap.size ≤ a8 q (q + 1) k := fun k hk => hFK _ (aT_FK (n := nF) ⟨k, hk, rfl⟩)
  have hloB : ∀ k, IM k → q + 78 ≤ b9 (q + 78) (q + 79) k := fun k hk => by rcases aT_FK (n := nM) (r := 20) (q := q + 78) (sz := q + 79) (ix := fun k => k) ⟨k, hk, rfl⟩ with h | h <;> (have h9 : b9 (q + 78) (q + 79) k = aT 20 (q + 78) (q + 79) (fun k => k) k := rfl; omega)
  have hC : LawC s D cA cL (a8 q (q + 1)) og b L xs := ⟨a8_hd (by omega), fun k hk h9 => absurd (hltA k hk) (by omega), hK, hXX, hN3, hAr, hNY, hlo, hqo, hX, hbl, hL⟩
  refine law_loop hfl C1 hr hlocks hC 513 0 (by omega) (by omega) (b9 (q + 78) (q + 79)) S00 X00 m0 0 0 0 0 (fun _ => 0) H5 locs ls _ _ ⟨b9_hd (by omega), fun k hk => ⟨fun j hj h9 => ?_, fun h9 => ?_, ?_⟩, OKS.start, hP, hQ, hO, hS⟩ (by omega) hl (Nat.le_of_ble_eq_true rfl) (Nat.le_of_ble_eq_true rfl)
  · have := hloB k hk; have := hlt j hj; omega
  · have := hltB k hk; omega
  · have := hloB k hk; omega
