/-! WHAT EACH CALL KEEPS. -/
def OKS (S X : Mem) (P L T h : Nat) : Prop := (S 82 0 = nI P ∧ S 81 0 = nI L ∧ S 85 0 = nI T ∧ T ≤ 30 ∧ S 86 0 = nI h) ∧ TW S P L ∧ TrW S P L T ∧ TlW S P ∧ GrW S ∧ CacheOk S X P ∧ ChainsOk S X P
theorem CacheOk.cg6 {S S' X : Mem} {P : Nat} (h : CacheOk S X P) (hs : ∀ k, k = 0 ∨ k = 3 ∨ k = 4 ∨ k = 5 ∨ k = 6 ∨ k = 7 → S' k = S k) : CacheOk S' X P := by
  have e : ∀ q lv, okS S' q lv = okS S q lv := fun q lv => by
    funext c
    show flt S' q (nI c) lv = flt S q (nI c) lv
    unfold flt dpt
    rw [hs 0 (by omega), hs 6 (by omega), hs 7 (by omega)]
  intro p hp sd hsd v hv
  rcases h p hp sd hsd v hv with g | ⟨g1, g2⟩
  · exact Or.inl g
  · refine Or.inr ⟨g1, fun c hc => ?_⟩
    rw [g2 c hc, e]
    unfold celS endL
    rw [hs 3 (by omega), hs 4 (by omega), hs 5 (by omega)]
theorem ChainsOk.cg {S S' X : Mem} {P : Nat} (h : ChainsOk S X P) (h4 : S' 4 = S 4) (h5 : S' 5 = S 5) : ChainsOk S' X P := fun x hx t ht => by
  obtain ⟨a, b⟩ := h x hx t ht
  exact ⟨a.trans (lenM_congr h4 h5 P x t).symm, b.trans (fstM_congr h4 h5 P x t).symm⟩
theorem ChainsOk.x {S X X1 : Mem} {P : Nat} (h : ChainsOk S X P) (h10 : X1 10 = X 10) (h11 : X1 11 = X 11) : ChainsOk S X1 P := fun x hx t ht => by
  rw [h10, h11]; exact h x hx t ht
theorem CacheOk.x {S X X1 : Mem} {P : Nat} (h : CacheOk S X P) (h13 : X1 13 = X 13) (h14 : X1 14 = X 14) : CacheOk S X1 P := fun p hp sd hsd v hv => by
  rw [h13, h14]; exact h p hp sd hsd v hv
theorem TrW.cg {S S' : Mem} {P L T : Nat} (h : TrW S P L T) (hs : ∀ k, k = 4 ∨ k = 5 ∨ k = 17 ∨ k = 20 ∨ k = 22 ∨ k = 23 ∨ k = 24 → S' k = S k) : TrW S' P L T := fun t ht => by
  rw [hs 17 (by omega), hs 20 (by omega), hs 22 (by omega), hs 23 (by omega), hs 24 (by omega)]
  obtain ⟨a, b, c⟩ := h t ht
  refine ⟨a, ?_, c⟩
  rcases b with b | ⟨p, b, w, h1, h2, h3, h4, h5, h6, h7, h8, h9⟩
  · exact Or.inl b
  · exact Or.inr ⟨p, b, w, h1, h2, h3, h4, h5, h6, h7, h8, by rw [lenM_congr (hs 4 (by omega)) (hs 5 (by omega))]; exact h9⟩
theorem Lnk.cg {S S' : Mem} {P L : Nat} (h : Lnk S P L) (h4 : S' 4 = S 4) (h5 : S' 5 = S 5) : Lnk S' P L := fun p hp => by rw [h4, h5]; exact h p hp
theorem TW.cg {S S' : Mem} {P L : Nat} (h : TW S P L) (hs : ∀ k, k = 3 ∨ k = 4 ∨ k = 5 ∨ k = 8 ∨ k = 16 ∨ k = 17 → S' k = S k) (h2 : ∀ i, i < 12 → ∃ v, v < 25 ∧ S' 2 i = nI v) : TW S' P L := by
  obtain ⟨a1, a2, a3, a4, a5, a6, a7, a8⟩ := h
  refine ⟨a1.cg (hs 4 (by omega)) (hs 5 (by omega)), a2, a3, ?_, ?_, ?_, ?_, h2⟩
  · rw [hs 17 (by omega), hs 4 (by omega), hs 5 (by omega)]; exact a4
  · rw [hs 16 (by omega)]; exact a5
  · rw [hs 8 (by omega)]; exact a6
  · rw [hs 3 (by omega)]; exact a7
theorem TlW.cg {S S' : Mem} {P : Nat} (h : TlW S P) (h9 : S' 9 = S 9) : TlW S' P := fun p hp => by rw [h9]; exact h p hp
theorem FX_FW {S X : Mem} {P L : Nat} (h : ChainsOk S X P) (hL : L ≤ 8) : FW (FX X) S P L := fun x hx t ht => (lnI_at (by omega) (by omega)).trans (h x (by omega) t (by omega)).2
theorem TrW.wi {S : Mem} {P L T : Nat} (h : TrW S P L T) : WiW S L T := fun t ht => (h t ht).1
theorem us_val {f : Nat → Int32} {n m : Nat} {i z : Int32} (hf : ∀ j, j < n → ∃ v, v ≤ m ∧ f j = nI v) (hz : ∃ v, v ≤ m ∧ z = nI v) : ∀ j, j < n → ∃ v, v ≤ m ∧ us f n i z j = nI v := fun j hj => by
  unfold us
  split
  · exact hf j hj
  · show ∃ v, v ≤ m ∧ (if j = _ then z else f j) = nI v
    split
    · exact hz
    · exact hf j hj
theorem OKS.setGround {S X : Mem} {P L T h : Nat} {k z : Int32} (o : OKS S X P L T h) (hz : inB z 0 20 = true) : OKS (up S 0 (us (S 0) 196 k z)) (up X 14 (fl (X 14) 300 0)) P L T h := by
  obtain ⟨hn, hW, hTr, hTl, hG, hC, hCh⟩ := o
  refine ⟨hn, hW.cg (fun k hk => up_ne (by omega)) hW.2.2.2.2.2.2.2, hTr.cg (fun k hk => up_ne (by omega)), hTl.cg (up_ne (by omega)), ?_, ?_, (hCh.cg (up_ne (by omega)) (up_ne (by omega))).x (up_ne (by omega)) (up_ne (by omega))⟩
  · exact us_val hG (in_nat (m := 20) (by decide) hz)
  · intro p hp sd hsd v hv
    exact Or.inl (if_pos (nC_lt hp hsd hv))
theorem OKS.setWater {S X : Mem} {P L T h : Nat} {k z : Int32} (o : OKS S X P L T h) (hz : inB z 0 24 = true) : OKS (up S 2 (us (S 2) 12 k z)) X P L T h := by
  obtain ⟨hn, hW, hTr, hTl, hG, hC, hCh⟩ := o
  refine ⟨hn, hW.cg (fun k hk => up_ne (by omega)) (fun i hi => ?_), hTr.cg (fun k hk => up_ne (by omega)), hTl.cg (up_ne (by omega)), hG, hC.cg6 (fun k hk => up_ne (by omega)), hCh.cg (up_ne (by omega)) (up_ne (by omega))⟩
  obtain ⟨v, a, b⟩ := us_val (f := S 2) (n := 12) (m := 24) (i := k) (fun j hj => (hW.2.2.2.2.2.2.2 j hj).imp fun v h => ⟨by omega, h.2⟩) (in_nat (m := 24) (by decide) hz) i hi
  exact ⟨v, by omega, b⟩
theorem OKS.setStake {S X : Mem} {P L T h : Nat} {f : Nat → Int32} (o : OKS S X P L T h) : OKS (up S 1 f) X P L T h := by
  obtain ⟨hn, hW, hTr, hTl, hG, hC, hCh⟩ := o
  exact ⟨hn, hW.cg (fun k hk => up_ne (by omega)) hW.2.2.2.2.2.2.2, hTr.cg (fun k hk => up_ne (by omega)), hTl.cg (up_ne (by omega)), hG, hC.cg6 (fun k hk => up_ne (by omega)), hCh.cg (up_ne (by omega)) (up_ne (by omega))⟩
theorem OKS.setToll {S X : Mem} {P L T h : Nat} {x z : Int32} (o : OKS S X P L T h) (hz : inB z 0 50 = true) : OKS (up S 9 (us (S 9) 6 x z)) X P L T h := by
  obtain ⟨hn, hW, hTr, hTl, hG, hC, hCh⟩ := o
  refine ⟨hn, hW.cg (fun k hk => up_ne (by omega)) hW.2.2.2.2.2.2.2, hTr.cg (fun k hk => up_ne (by omega)), fun p hp => ?_, hG, hC.cg6 (fun k hk => up_ne (by omega)), hCh.cg (up_ne (by omega)) (up_ne (by omega))⟩
  show ∃ v, v ≤ 50 ∧ us (S 9) 6 x z p = nI v
  unfold us
  split
  · exact hTl p hp
  · show ∃ v, v ≤ 50 ∧ (if p = _ then z else S 9 p) = nI v
    split
    · exact in_nat (m := 50) (by decide) hz
    · exact hTl p hp
theorem OKS.addLanding {S X : Mem} {P L T h k : Nat} {v : Int32} (o : OKS S X P L T h) (hk : k < 196) (hv : v = nI k) (hL : L < 8) : OKS (up (up S 3 (us (S 3) 8 (S 81 0) v)) 81 (fun _ => S 81 0 + 1)) X P (L + 1) T h := by
  obtain ⟨⟨hnP, hnL, hnT, hT30, hnH⟩, hW, hTr, hTl, hG, hC, hCh⟩ := o
  rw [hnL, us_nI hL (by decide)]
  have e3 : up (up S 3 (upd (S 3) L v)) 81 (fun _ => nI L + 1) 3 = upd (S 3) L v := rfl
  have es : ∀ k, k ≠ 3 → k ≠ 81 → up (up S 3 (upd (S 3) L v)) 81 (fun _ => nI L + 1) k = S k := fun k h1 h2 => by rw [up_ne h2, up_ne h1]
  obtain ⟨a1, a2, a3, a4, a5, a6, a7, a8⟩ := hW
  have hlk : Lnk (up (up S 3 (upd (S 3) L v)) 81 (fun _ => nI L + 1)) P (L + 1) := fun p hp => by
    rw [es 4 (by omega) (by omega), es 5 (by omega) (by omega)]
    obtain ⟨x, y, b1, b2, b3⟩ := a1 p hp
    exact ⟨x, y, by omega, by omega, b3⟩
  refine ⟨⟨hnP, ?_, hnT, hT30, hnH⟩, ⟨hlk, a2, by omega, ?_, ?_, ?_, ?_, ?_⟩, ?_, hTl.cg (es 9 (by omega) (by omega)), hG, ?_, hCh.cg (es 4 (by omega) (by omega)) (es 5 (by omega) (by omega))⟩
  · show nI L + 1 = _
    exact nI_1 L
  · rw [es 17 (by omega) (by omega), es 4 (by omega) (by omega), es 5 (by omega) (by omega)]; exact a4
  · rw [es 16 (by omega) (by omega)]; exact a5
  · rw [es 8 (by omega) (by omega)]; exact a6
  · rw [e3]
    intro l hl
    by_cases e : l = L
    · exact ⟨k, hk, by rw [e, hv]; exact if_pos rfl⟩
    · obtain ⟨c, h1, h2⟩ := a7 l (by omega)
      exact ⟨c, h1, (if_neg e).trans h2⟩
  · rw [es 2 (by omega) (by omega)]; exact a8
  · have h9 := hTr.cg (S' := up (up S 3 (upd (S 3) L v)) 81 (fun _ => nI L + 1)) (fun k hk => es k (by omega) (by omega))
    intro t ht
    obtain ⟨⟨w, b1, b2⟩, b, c⟩ := h9 t ht
    refine ⟨⟨w, by omega, b2⟩, ?_, c⟩
    rcases b with ⟨c1, x, c2, c3⟩ | ⟨p, b, w, h1, h2, h3, h4⟩
    · exact Or.inl ⟨c1, x, by omega, c3⟩
    · exact Or.inr ⟨p, b, w, h1, by omega, by omega, h4⟩
  · intro p hp sd hsd v2 hv2
    rcases hC p hp sd hsd v2 hv2 with g | ⟨g1, g2⟩
    · exact Or.inl g
    · refine Or.inr ⟨g1, fun c hc => ?_⟩
      rw [g2 c hc]
      have eo : okS (up (up S 3 (upd (S 3) L v)) 81 (fun _ => nI L + 1)) (nI p) (nI v2) = okS S (nI p) (nI v2) := by
        funext c
        show flt _ _ _ _ = flt _ _ _ _
        unfold flt dpt
        rw [es 0 (by omega) (by omega), es 6 (by omega) (by omega), es 7 (by omega) (by omega)]
      rw [eo]
      obtain ⟨x, y, b1, b2, b3, b4, b5⟩ := a1 p g1
      have ee : endL (up (up S 3 (upd (S 3) L v)) 81 (fun _ => nI L + 1)) p sd = endL S p sd := by
        unfold endL
        rw [es 4 (by omega) (by omega), es 5 (by omega) (by omega)]
      obtain ⟨q, hq, hqe⟩ : ∃ q, q < L ∧ endL S p sd = nI q := by
        unfold endL
        split
        · exact ⟨x, b1, b4⟩
        · exact ⟨y, b2, b5⟩
      rw [ee]
      unfold celS
      rw [hqe, nI_clamp (by omega), e3, show upd (S 3) L v q = S 3 q from if_neg (by omega)]
theorem OKS.addTraveller {S X : Mem} {P L T h : Nat} {x y z : Int32} (o : OKS S X P L T h) (hx : oneB x (nI L) = true) (hy : oneB y (nI L) = true) (hT : T < 30) : OKS (up (up (up (up (up (up S 20 (upd (S 20) T y)) 21 (upd (S 21) T z)) 22 (upd (S 22) T x)) 23 (upd (S 23) T (-1))) 24 (upd (S 24) T (-1))) 85 (fun _ => nI T + 1)) X P L (T + 1) h := by
  obtain ⟨⟨hnP, hnL, hnT, hT30, hnH⟩, hW, hTr, hTl, hG, hC, hCh⟩ := o
  obtain ⟨S', hS'⟩ : ∃ S', S' = up (up (up (up (up (up S 20 (upd (S 20) T y)) 21 (upd (S 21) T z)) 22 (upd (S 22) T x)) 23 (upd (S 23) T (-1))) 24 (upd (S 24) T (-1))) 85 (fun _ => nI T + 1) := ⟨_, rfl⟩
  have e20 : S' 20 = upd (S 20) T y := by rw [hS']; rfl
  have e22 : S' 22 = upd (S 22) T x := by rw [hS']; rfl
  have e23 : S' 23 = upd (S 23) T (-1) := by rw [hS']; rfl
  have e24 : S' 24 = upd (S 24) T (-1) := by rw [hS']; rfl
  have e85 : S' 85 0 = nI (T + 1) := by rw [hS']; exact nI_1 T
  have es : ∀ k, k ≠ 20 → k ≠ 21 → k ≠ 22 → k ≠ 23 → k ≠ 24 → k ≠ 85 → S' k = S k := fun k h1 h2 h3 h4 h5 h6 => by rw [hS', up_ne h6, up_ne h5, up_ne h4, up_ne h3, up_ne h2, up_ne h1]
  rw [← hS']
  have es' : ∀ k, k < 20 → S' k = S k := fun k hk => es k (by omega) (by omega) (by omega) (by omega) (by omega) (by omega)
  have hL8 := hW.2.2.1
  obtain ⟨i, hi, rfl⟩ := one_nat (n := L) (by omega) hx
  obtain ⟨j, hj, rfl⟩ := one_nat (n := L) (by omega) hy
  refine ⟨⟨by rw [es 82 (by omega) (by omega) (by omega) (by omega) (by omega) (by omega)]; exact hnP, by rw [es 81 (by omega) (by omega) (by omega) (by omega) (by omega) (by omega)]; exact hnL, e85, by omega, by rw [es 86 (by omega) (by omega) (by omega) (by omega) (by omega) (by omega)]; exact hnH⟩, hW.cg (fun k hk => es' k (by omega)) (by rw [es' 2 (by omega)]; exact hW.2.2.2.2.2.2.2), ?_, hTl.cg (es' 9 (by omega)), by unfold GrW; rw [es' 0 (by omega)]; exact hG, hC.cg6 (fun k hk => es' k (by omega)), hCh.cg (es' 4 (by omega)) (es' 5 (by omega))⟩
  intro t ht
  rw [e20, e22, e23, e24, es' 17 (by omega)]
  by_cases e : t = T
  · have u : ∀ f v, upd f T v t = v := fun f v => if_pos e
    rw [u, u, u, u]
    exact ⟨⟨j, hj, rfl⟩, Or.inl ⟨rfl, i, hi, rfl⟩, Or.inl rfl⟩
  · have u : ∀ f v, upd f T v t = f t := fun f v => if_neg e
    rw [u, u, u, u]
    obtain ⟨a, b, c⟩ := hTr t (by omega)
    refine ⟨a, ?_, c⟩
    rcases b with b | ⟨p, b, w, h1, h2, h3, h4, h5, h6, h7, h8, h9⟩
    · exact Or.inl b
    · exact Or.inr ⟨p, b, w, h1, h2, h3, h4, h5, h6, h7, h8, by rw [lenM_congr (es' 4 (by omega)) (es' 5 (by omega))]; exact h9⟩
/-- what is reached stays so when a punt is added -/
theorem lenM_more {S S' : Mem} {P P' t : Nat} (hL : Lnk S P 8) (hP : P ≤ 6) (hL' : Lnk S' P' 8) (hP' : P' ≤ 6) (ht : t < 8) (hadj : ∀ x y, x < 8 → y < 8 → adj S P x y → adj S' P' x y) : ∀ k x, x < 8 → k < 8 → lenM S P x t = nI k → ∃ j, j < 8 ∧ lenM S' P' x t = nI j := by
  have hd := DL.ex hL hP ht
  have hd' := DL.ex hL' hP' ht
  intro k
  induction k with
  | zero =>
    intro x hx _ h
    obtain rfl := hd.2.1 x hx h
    exact ⟨0, by omega, hd'.2.2.1⟩
  | succ k ih =>
    intro x hx hk h
    obtain ⟨y, hy, ha, hw⟩ := hd.2.2.2.1 x hx k hk h
    obtain ⟨j, hj, hwj⟩ := ih y hy (by omega) hw
    obtain ⟨i, _, hi, hwi⟩ := hd'.2.2.2.2 y hy j hj hwj x hx (hadj x y hx hy ha).symm
    exact ⟨i, hi, hwi⟩
theorem OKS.launch {S X : Mem} {P L T h : Nat} {x y d q r z : Int32} (o : OKS S X P L T h) (hx : oneB x (nI L) = true) (hy : oneB y (nI L) = true) (hxy : ¬ x = y) (hr : inB r 1 6 = true) (hz : inB z 0 50 = true) (hPl : P < 6) : OKS (launM S P x y d q r z) (up (up X 10 ((rkT (launM S P x y d q r z) (P + 1) (fl (X 10) 64 (-1)) (X 11) 8).1)) 11 ((rkT (launM S P x y d q r z) (P + 1) (fl (X 10) 64 (-1)) (X 11) 8).2)) (P + 1) L T h := by
  obtain ⟨⟨hnP, hnL, hnT, hT30, hnH⟩, hW, hTr, hTl, hG, hC, hCh⟩ := o
  obtain ⟨a1, a2, a3, a4, a5, a6, a7, a8⟩ := hW
  obtain ⟨i, hi, rfl⟩ := one_nat (n := L) (by omega) hx
  obtain ⟨j, hj, rfl⟩ := one_nat (n := L) (by omega) hy
  obtain ⟨ci, hci, hcie⟩ := a7 i hi
  obtain ⟨S', hS'⟩ : ∃ S', S' = launM S P (nI i) (nI j) d q r z := ⟨_, rfl⟩
  have f6 : ∀ f v, us f 6 (nI P) v = upd f P v := fun f v => us_nI hPl (by decide)
  have e4 : S' 4 = upd (S 4) P (nI i) := by rw [hS', ← f6]; rfl
  have e5 : S' 5 = upd (S 5) P (nI j) := by rw [hS', ← f6]; rfl
  have e6 : S' 6 = upd (S 6) P d := by rw [hS', ← f6]; rfl
  have e7 : S' 7 = upd (S 7) P q := by rw [hS', ← f6]; rfl
  have e8 : S' 8 = upd (S 8) P r := by rw [hS', ← f6]; rfl
  have e9 : S' 9 = upd (S 9) P z := by rw [hS', ← f6]; rfl
  have e16 : S' 16 = upd (S 16) P (nI ci) := by
    rw [← hcie, show S 3 i = rg (S 3) 8 (nI i) from (rg_nI (by omega) (by decide)).symm, hS']; rfl
  have e17 : S' 17 = upd (S 17) P (nI j) := by rw [hS']; rfl
  have e82 : S' 82 0 = nI (P + 1) := by rw [hS']; exact nI_1 P
  have es : ∀ k, ¬ (4 ≤ k ∧ k ≤ 9) → k ≠ 16 → k ≠ 17 → k ≠ 82 → S' k = S k := fun k h1 h2 h3 h4 => by
    rw [hS']
    unfold launM
    rw [up_ne h3, up_ne h2, up_ne (by omega), up_ne (by omega), up_ne (by omega), up_ne (by omega), up_ne h4, up_ne (by omega), up_ne (by omega)]
  have at' : ∀ (f : Nat → Int32) v p, p < P → upd f P v p = f p := fun f v p hp => if_neg (by omega)
  have atP : ∀ (f : Nat → Int32) v, upd f P v P = v := fun f v => if_pos rfl
  rw [← hS']
  have hij : i ≠ j := fun e => hxy (by rw [e])
  have hlk : Lnk S' (P + 1) L := fun p hp => by
    rw [e4, e5]
    by_cases e : p = P
    · subst e; exact ⟨i, j, hi, hj, hij, atP _ _, atP _ _⟩
    · rw [at' _ _ p (by omega), at' _ _ p (by omega)]; exact a1 p (by omega)
  have hadj : ∀ x y, x < 8 → y < 8 → adj S P x y → adj S' (P + 1) x y := fun x y _ _ ⟨p, hp, hc⟩ => by
    refine ⟨p, by omega, ?_⟩
    unfold conn
    rw [e4, e5, at' _ _ p hp, at' _ _ p hp]
    exact hc
  have hmore := fun t ht => lenM_more (t := t) (a1.mono a3) a2 (hlk.mono a3) (by omega) ht hadj
  obtain ⟨v6, hv6, hv6e⟩ : ∃ v, v ≤ 6 ∧ r = nI v := by
    refine in_nat (m := 6) (by decide) ?_
    simp only [inB, Bool.and_eq_true, decide_eq_true_eq] at hr ⊢
    exact ⟨Int32.le_trans (by decide) hr.1, hr.2⟩
  refine ⟨⟨e82, by rw [es 81 (by omega) (by omega) (by omega) (by omega)]; exact hnL, by rw [es 85 (by omega) (by omega) (by omega) (by omega)]; exact hnT, hT30, by rw [es 86 (by omega) (by omega) (by omega) (by omega)]; exact hnH⟩, ⟨hlk, by omega, a3, fun p hp => ?_, fun p hp => ?_, fun p hp => ?_, by rw [es 3 (by omega) (by omega) (by omega) (by omega)]; exact a7, by rw [es 2 (by omega) (by omega) (by omega) (by omega)]; exact a8⟩, fun t ht => ?_, fun p hp => ?_, by unfold GrW; rw [es 0 (by omega) (by omega) (by omega) (by omega)]; exact hG, ?_, ?_⟩
  · rw [e17, e4, e5]
    by_cases e : p = P
    · subst e; rw [atP, atP, atP]; exact Or.inr rfl
    · rw [at' _ _ p (by omega), at' _ _ p (by omega), at' _ _ p (by omega)]; exact a4 p (by omega)
  · rw [e16]
    by_cases e : p = P
    · subst e; exact ⟨ci, hci, atP _ _⟩
    · rw [at' _ _ p (by omega)]; exact a5 p (by omega)
  · rw [e8]
    by_cases e : p = P
    · subst e; exact ⟨v6, hv6, by rw [atP]; exact hv6e⟩
    · rw [at' _ _ p (by omega)]; exact a6 p (by omega)
  · rw [es 20 (by omega) (by omega) (by omega) (by omega), es 22 (by omega) (by omega) (by omega) (by omega), es 23 (by omega) (by omega) (by omega) (by omega), es 24 (by omega) (by omega) (by omega) (by omega), e17]
    obtain ⟨a, b, c⟩ := hTr t ht
    refine ⟨a, ?_, c⟩
    rcases b with b | ⟨p, b, w, h1, h2, h3, h4, h5, h6, h7, h8, h9⟩
    · exact Or.inl b
    · refine Or.inr ⟨p, b, w, by omega, h2, h3, h4, h5, h6, by rw [at' _ _ p h1]; exact h7, h8, ?_⟩
      rcases lenM_val (a1.mono a3) a2 (show b < 8 by omega) (show w < 8 by omega) with g | ⟨k, g1, g2⟩
      · exact absurd g h9
      · obtain ⟨i', g3, g4⟩ := hmore w (by omega) k b (by omega) g1 g2
        rw [g4]; exact nI_neg (by omega)
  · rw [e9]
    by_cases e : p = P
    · subst e; rw [atP]; exact in_nat (m := 50) (by decide) hz
    · rw [at' _ _ p (by omega)]; exact hTl p (by omega)
  · intro p hp sd hsd v hv
    show X 14 _ = 0 ∨ _
    rcases hC p hp sd hsd v hv with g | ⟨g1, g2⟩
    · exact Or.inl g
    · refine Or.inr ⟨by omega, fun c hc => ?_⟩
      show X 13 _ = _
      rw [g2 c hc]
      have eo : okS S' (nI p) (nI v) = okS S (nI p) (nI v) := by
        funext c
        show flt _ _ _ _ = flt _ _ _ _
        unfold flt dpt
        rw [es 0 (by omega) (by omega) (by omega) (by omega), e6, e7, rg_nI hp (by decide), rg_nI hp (by decide), rg_nI hp (by decide), rg_nI hp (by decide), at' _ _ p g1, at' _ _ p g1]
      rw [eo]
      unfold celS endL
      rw [e4, e5, es 3 (by omega) (by omega) (by omega) (by omega), at' _ _ p g1, at' _ _ p g1]
  · exact (reckon_ok (S := S') (X := X) (hlk.mono a3) (by omega) (by rw [up_ne (by decide), up_eq]) (by rw [up_eq])).1
/-! THE TRAVELLERS THROUGH AN HOUR. -/
theorem bg_of_fst {S : Mem} {P x t p : Nat} (hp : p < 2 ^ 31) (hP : P ≤ 6) (h : fstM S P x t = nI p) : p < P ∧ bgM S P p x t = true := by
  unfold fstM at h
  have key : ∀ n i, i + n ≤ P → fndF (fun n => bgM S P n x t) i n = nI p → p < i + n ∧ bgM S P p x t = true := by
    intro n
    induction n with
    | zero => intro i _ h; exact absurd h.symm (nI_neg hp)
    | succ n ih =>
      intro i hi h
      by_cases hb : bgM S P i x t = true
      · rw [fndF_yes (P := fun n => bgM S P n x t) hb] at h
        have := nI_inj (by omega) hp h
        subst this
        exact ⟨by omega, hb⟩
      · rw [fndF_no (P := fun n => bgM S P n x t) hb] at h
        obtain ⟨h1, h2⟩ := ih (i + 1) (by omega) h
        exact ⟨by omega, h2⟩
  obtain ⟨a, b⟩ := key P 0 (by omega) h
  exact ⟨by omega, b⟩
theorem turnM_TrW {F : Int32 → Int32 → Int32} {S : Mem} {P L T p h : Nat} (hW : TW S P L) (hTr : TrW S P L T) (hF : FW F S P L) (hp : p < P) (hh : h < 2 ^ 31) : TrW (turnM F S p T h) P L T := by
  obtain ⟨b, hb, hbe, hend⟩ := hW.bound hp
  have hP6 := hW.2.1
  have hL8 := hW.2.2.1
  obtain ⟨S1, hS1⟩ : ∃ S1, S1 = bndM (outM S (nI p) (nI b) (nI h) T) p (nI b) := ⟨_, rfl⟩
  have hT : turnM F S p T h = loadM F S1 p (nI b) (S 8 p).toNatClampNeg T := by unfold turnM; rw [hbe, ← hS1]
  have ho : Lnk S P 8 := hW.1.mono hL8
  have e17 : S1 17 = upd (S 17) p (nI (othN S p b)) := by
    rw [hS1]
    show upd (S 17) p (othI (outM S (nI p) (nI b) (nI h) T) p (nI b)) = _
    rw [show othI (outM S (nI p) (nI b) (nI h) T) p (nI b) = othI S p (nI b) from rfl]
    rw [show othI S p (nI b) = nI (othN S p b) from (ho.oth (x := b) (Nat.le_refl 8) hp).2]
  have e20 : S1 20 = S 20 := by rw [hS1]; rfl
  have e4 : S1 4 = S 4 := by rw [hS1]; rfl
  have e5 : S1 5 = S 5 := by rw [hS1]; rfl
  have e22 : S1 22 = goA (S 22) (fun t => decide (S 23 t = nI p)) (fun _ => nI b) T := by rw [hS1]; rfl
  have e23 : S1 23 = goA (S 23) (fun t => decide (S 23 t = nI p)) (fun _ => -1) T := by rw [hS1]; rfl
  have e24 : S1 24 = goA (S 24) (fun t => decide (S 23 t = nI p) && decide (S 20 t = nI b)) (fun _ => nI h) T := by rw [hS1]; rfl
  -- behind the getting out
  have mid : ∀ t, t < T → (∃ w, w < L ∧ S1 20 t = nI w) ∧ ((S1 23 t = -1 ∧ ∃ x, x < L ∧ S1 22 t = nI x) ∨ (∃ p' b' w, p' < P ∧ p' ≠ p ∧ b' < L ∧ w < L ∧ S1 23 t = nI p' ∧ S1 22 t = -1 ∧ S1 24 t = -1 ∧ S1 17 p' = nI b' ∧ S1 20 t = nI w ∧ lenM S P b' w ≠ -1)) ∧ (S1 24 t = -1 ∨ S1 23 t = -1) := by
    intro t ht
    obtain ⟨a, b1, c⟩ := hTr t ht
    rw [e20, e22, e23, e24, e17]
    refine ⟨a, ?_⟩
    unfold goA
    by_cases hin : S 23 t = nI p
    · have d1 : t < T ∧ decide (S 23 t = nI p) = true := ⟨ht, decide_eq_true hin⟩
      rw [if_pos d1, if_pos d1]
      exact ⟨Or.inl ⟨rfl, b, hb, rfl⟩, Or.inr rfl⟩
    · have d1 : ¬ (t < T ∧ decide (S 23 t = nI p) = true) := fun h => hin (of_decide_eq_true h.2)
      have d2 : ¬ (t < T ∧ (decide (S 23 t = nI p) && decide (S 20 t = nI b)) = true) := fun h => hin (of_decide_eq_true (Bool.and_eq_true _ _ ▸ h.2).1)
      rw [if_neg d1, if_neg d1, if_neg d2]
      refine ⟨?_, c⟩
      rcases b1 with b1 | ⟨p', b', w, h1, h2, h3, h4, h5, h6, h7, h8, h9⟩
      · exact Or.inl b1
      · have hne : p' ≠ p := fun e => hin (by rw [h4, e])
        exact Or.inr ⟨p', b', w, h1, hne, h2, h3, h4, h5, h6, (if_neg hne).trans h7, h8, h9⟩
  rw [hT]
  intro t ht
  obtain ⟨⟨w, hw, hwe⟩, m2, m3⟩ := mid t ht
  have g20 : loadM F S1 p (nI b) (S 8 p).toNatClampNeg T 20 = S1 20 := rfl
  have g17 : loadM F S1 p (nI b) (S 8 p).toNatClampNeg T 17 = S1 17 := rfl
  have g24 : loadM F S1 p (nI b) (S 8 p).toNatClampNeg T 24 = S1 24 := rfl
  have g22 : loadM F S1 p (nI b) (S 8 p).toNatClampNeg T 22 = goA (S1 22) (ldb F S1 p (nI b) (S 8 p).toNatClampNeg) (fun _ => -1) T := rfl
  have g23 : loadM F S1 p (nI b) (S 8 p).toNatClampNeg T 23 = goA (S1 23) (ldb F S1 p (nI b) (S 8 p).toNatClampNeg) (fun _ => nI p) T := rfl
  have glen : ∀ x w, lenM (loadM F S1 p (nI b) (S 8 p).toNatClampNeg T) P x w = lenM S P x w := fun x w => lenM_congr (show loadM F S1 p (nI b) (S 8 p).toNatClampNeg T 4 = S 4 from e4) (show loadM F S1 p (nI b) (S 8 p).toNatClampNeg T 5 = S 5 from e5) P x w
  rw [g20, g17, g24, g22, g23]
  refine ⟨⟨w, hw, hwe⟩, ?_⟩
  by_cases hl : ldb F S1 p (nI b) (S 8 p).toNatClampNeg t = true
  · have he : elg F S1 p (nI b) t = true := by unfold ldb at hl; exact (Bool.and_eq_true _ _ ▸ hl).1
    unfold elg at he
    simp only [Bool.and_eq_true, decide_eq_true_eq] at he
    obtain ⟨⟨⟨c1, c2⟩, c3⟩, -⟩ := he
    rw [hwe, hF b hb w hw] at c3
    obtain ⟨hpP, hbg⟩ := bg_of_fst (by omega) hP6 c3
    have hpos := bgM_pos hbg
    have hne : lenM S P (othN S p b) w ≠ -1 := by
      rcases lenM_val ho hP6 (show b < 8 by omega) (show w < 8 by omega) with g | ⟨k, g1, g2⟩
      · rw [g] at hpos; exact absurd hpos (by decide)
      · have hk : k ≠ 0 := by
          rintro rfl
          rw [g2, nI_0] at hpos
          exact absurd hpos (by decide)
        obtain ⟨k, rfl⟩ : ∃ k', k = k' + 1 := ⟨k - 1, by omega⟩
        rw [((bgM_spec g1 g2).mp hbg).2]
        exact nI_neg (by omega)
    have d1 : t < T ∧ ldb F S1 p (nI b) (S 8 p).toNatClampNeg t = true := ⟨ht, hl⟩
    have u22 : goA (S1 22) (ldb F S1 p (nI b) (S 8 p).toNatClampNeg) (fun _ => -1) T t = -1 := if_pos d1
    have u23 : goA (S1 23) (ldb F S1 p (nI b) (S 8 p).toNatClampNeg) (fun _ => nI p) T t = nI p := if_pos d1
    rw [u22, u23]
    refine ⟨Or.inr ⟨p, othN S p b, w, hp, (hW.1.oth (x := b) hL8 hp).1, hw, rfl, rfl, c2, by rw [e17]; exact if_pos rfl, hwe, by rw [glen]; exact hne⟩, Or.inl c2⟩
  · have d1 : ¬ (t < T ∧ ldb F S1 p (nI b) (S 8 p).toNatClampNeg t = true) := fun h => hl h.2
    have u22 : goA (S1 22) (ldb F S1 p (nI b) (S 8 p).toNatClampNeg) (fun _ => -1) T t = S1 22 t := if_neg d1
    have u23 : goA (S1 23) (ldb F S1 p (nI b) (S 8 p).toNatClampNeg) (fun _ => nI p) T t = S1 23 t := if_neg d1
    rw [u22, u23]
    refine ⟨?_, m3⟩
    rcases m2 with m2 | ⟨p', b', w', h1, _, h2, h3, h4, h5, h6, h7, h8, h9⟩
    · exact Or.inl m2
    · exact Or.inr ⟨p', b', w', h1, h2, h3, h4, h5, h6, h7, h8, by rw [glen]; exact h9⟩
theorem landM_TrW {F : Int32 → Int32 → Int32} {S : Mem} {P L T h : Nat} (hW : TW S P L) (hTr : TrW S P L T) (hF : FW F S P L) (hh : h < 2 ^ 31) : ∀ n, n ≤ P → TrW (landM F S T h n).1 P L T := by
  intro n
  induction n with
  | zero => intro _; exact hTr
  | succ n ih =>
    intro hn
    unfold landM
    split
    · exact turnM_TrW (landM_TW hW n) (ih (by omega)) (hF.sta (landM_sta F S T h n)) (by omega) hh
    · exact ih (by omega)
theorem stepM_TrW {S : Mem} {P L T p h : Nat} (hTr : TrW S P L T) : TrW (stepM S p h) P L T := by
  refine hTr.cg fun k hk => ?_
  unfold stepM
  split
  · rfl
  · rw [up_ne (by omega), up_ne (by omega)]
theorem stepsM_TrW {S : Mem} {P L T h : Nat} (hTr : TrW S P L T) : ∀ n, TrW (stepsM S h n) P L T
  | 0 => hTr
  | n + 1 => stepM_TrW (stepsM_TrW hTr n)
theorem hourM_TrW {F : Int32 → Int32 → Int32} {S : Mem} {P L T h : Nat} (hW : TW S P L) (hTr : TrW S P L T) (hF : FW F S P L) (hh : h < 2 ^ 31) : TrW (hourM F S P T h) P L T :=
  (stepsM_TrW (h := h) (landM_TrW hW hTr hF hh P (Nat.le_refl _)) P).cg fun k hk => up_ne (by omega)
theorem hrsM_TrW {F : Int32 → Int32 → Int32} {S : Mem} {P L T h : Nat} (hW : TW S P L) (hTr : TrW S P L T) (hF : FW F S P L) : ∀ k, h + k < 2 ^ 31 → TrW (hrsM F S P T h k).1 P L T
  | 0, _ => hTr
  | k + 1, hk => hourM_TrW (hrsM_TW hW k) (hrsM_TrW hW hTr hF k (by omega)) (hF.sta (hrsM_sta F S P T h k)) (by omega)
theorem OKS.pass {S X X1 : Mem} {P L T h N : Nat} (o : OKS S X P L T h) (hN : h + N < 2 ^ 31) (hC : CacheOk S X1 P) (hX : ∀ k, k ≠ 13 → k ≠ 14 → k ≠ 15 → X1 k = X k) : OKS (hrsM (FX X) S P T h N).1 X1 P L T (h + N) := by
  obtain ⟨⟨hnP, hnL, hnT, hT30, hnH⟩, hW, hTr, hTl, hG, -, hCh⟩ := o
  have hs := hrsM_sta (FX X) S P T h N
  exact ⟨⟨(congrFun (hs 82 (by omega)) 0).trans hnP, (congrFun (hs 81 (by omega)) 0).trans hnL, (congrFun (hs 85 (by omega)) 0).trans hnT, hT30, hrsM_86 hnH N⟩, hrsM_TW hW N, hrsM_TrW hW hTr (FX_FW hCh hW.2.2.1) N hN, hTl.sta hs, by unfold GrW; rw [hs 0 (by omega)]; exact hG, hC.sta hs, (hCh.cg (hs 4 (by omega)) (hs 5 (by omega))).x (hX 10 (by omega) (by omega) (by omega)) (hX 11 (by omega) (by omega) (by omega))⟩
theorem OKS.look {S X X1 : Mem} {P L T h : Nat} (o : OKS S X P L T h) (hC : CacheOk S X1 P) (h10 : X1 10 = X 10) (h11 : X1 11 = X 11) : OKS S X1 P L T h := by
  obtain ⟨hn, hW, hTr, hTl, hG, -, hCh⟩ := o
  exact ⟨hn, hW, hTr, hTl, hG, hC, hCh.x h10 h11⟩
theorem OKS.start : OKS S00 X00 0 0 0 0 := by
  obtain ⟨⟨h1, h2, ⟨h3, h4⟩, ⟨h5, h6⟩, h7, h8, h9⟩, hG, hC, hCh⟩ := start_wf
  have e1 : nPu S00 = 0 := nv_0
  have e2 : nLa S00 = 0 := nv_0
  have e3 : nTr S00 = 0 := nv_0
  have e4 : nHr S00 = 0 := nv_0
  rw [e1] at h1 h7 h8 h9 hC hCh
  rw [e2] at h2 h7 h8
  rw [e3] at h3 h4 h8
  rw [e4] at h5
  exact ⟨⟨h1, h2, h3, h4, h5⟩, h7, h8, h9, hG, hC, hCh⟩
