/-! CHAINS: what reckon leaves, and the least tolls. -/
def othN (S : Mem) (n x : Nat) : Nat := (if S 4 n = nI x then S 5 n else S 4 n).toNatClampNeg
noncomputable def bgM (S : Mem) (P n x t : Nat) : Bool := decide (0 < lenM S P x t) && (decide (S 4 n = nI x) || decide (S 5 n = nI x)) && decide (lenM S P (othN S n x) t = lenM S P x t - 1)
/-- THE punt that one takes first -/
noncomputable def fstM (S : Mem) (P x t : Nat) : Int32 := fndF (fun n => bgM S P n x t) 0 P
noncomputable def miM (S : Mem) (P t : Nat) (T : Nat → Int32) (x : Nat) : Nat → Int32
  | 0 => 300
  | n + 1 => if bgM S P n x t = true then (if S 9 n + T (othN S n x) < miM S P t T x n then S 9 n + T (othN S n x) else miM S P t T x n) else miM S P t T x n
/-- THE least sum of tolls of the chains of k punts -/
noncomputable def tolM (S : Mem) (P t : Nat) : Nat → Nat → Int32
  | 0, _ => 0
  | k + 1, x => miM S P t (tolM S P t k) x P
def ChainsOk (S X : Mem) (P : Nat) : Prop := ∀ x, x < 8 → ∀ t, t < 8 → X 10 (x * 8 + t) = lenM S P x t ∧ X 11 (x * 8 + t) = fstM S P x t
theorem fndF_congr {A B : Nat → Bool} : ∀ (n i : Nat), (∀ j, i ≤ j → j < i + n → A j = B j) → fndF A i n = fndF B i n := by
  intro n
  induction n with
  | zero => intro i _; rfl
  | succ n ih =>
    intro i h
    show (if A i = true then _ else fndF A (i + 1) n) = (if B i = true then _ else fndF B (i + 1) n)
    rw [h i (Nat.le_refl _) (by omega), ih (i + 1) (fun j h1 h2 => h j (by omega) (by omega))]
theorem Lnk.oth {S : Mem} {P L n x : Nat} (h : Lnk S P L) (hL : L ≤ 8) (hn : n < P) : othN S n x < L ∧ (if S 4 n = nI x then S 5 n else S 4 n) = nI (othN S n x) := by
  obtain ⟨a, b, ha, hb, -, e4, e5⟩ := h n hn
  unfold othN
  split
  · rw [e5, nI_clamp (by omega)]; exact ⟨hb, rfl⟩
  · rw [e4, nI_clamp (by omega)]; exact ⟨ha, rfl⟩
theorem bgn_bgM {S : Mem} {P n x t : Nat} {f : Nat → Int32} (hL : Lnk S P 8) (hP : P ≤ 6) (hn : n < P) (hx : x < 8) (ht : t < 8) (hf : ∀ y, y < 8 → col t f y = lenM S P y t) : bgn S f (nI n) (nI x) (nI t) = bgM S P n x t := by
  obtain ⟨o1, o2⟩ := hL.oth (x := x) (Nat.le_refl 8) hn
  unfold bgn bgM
  rw [lnI_at hx ht, hf x hx]
  have e : othE S (nI n) (nI x) = nI (othN S n x) := by
    unfold othE
    rw [rg_nI (show n < 6 by omega) (by decide), rg_nI (show n < 6 by omega) (by decide)]
    exact o2
  rw [e, lnI_at o1 ht, hf _ o1, rg_nI (show n < 6 by omega) (by decide), rg_nI (show n < 6 by omega) (by decide)]
theorem fst_fstM {S : Mem} {P x t : Nat} {f : Nat → Int32} (hL : Lnk S P 8) (hP : P ≤ 6) (hx : x < 8) (ht : t < 8) (hf : ∀ y, y < 8 → col t f y = lenM S P y t) : fstP S f P (nI x) (nI t) = fstM S P x t :=
  fndF_congr P 0 fun j _ h => bgn_bgM hL hP (by omega) hx ht hf
theorem rkF_at {S : Mem} {f : Nat → Int32} {P t : Nat} (ht : t < 8) (g : Nat → Int32) : ∀ n, n ≤ 8 → (∀ x, x < n → rkF S f P (nI t) n g (x * 8 + t) = fstP S f P (nI x) (nI t)) ∧ ∀ t', t' < 8 → t' ≠ t → ∀ x, rkF S f P (nI t) n g (x * 8 + t') = g (x * 8 + t') := by
  intro n
  induction n with
  | zero => intro _; exact ⟨fun x h => by omega, fun _ _ _ _ => rfl⟩
  | succ n ih =>
    intro hn
    obtain ⟨a, b⟩ := ih (by omega)
    have e : rkF S f P (nI t) (n + 1) g = upd (rkF S f P (nI t) n g) (n * 8 + t) (fstP S f P (nI n) (nI t)) := us8_at (by omega) ht
    rw [e]
    refine ⟨fun x hx => ?_, fun t' h1 h2 x => ?_⟩
    · by_cases hxn : x = n
      · subst hxn; simp [upd]
      · show (if x * 8 + t = n * 8 + t then _ else _) = _
        rw [if_neg (by omega)]
        exact a x (by omega)
    · show (if x * 8 + t' = n * 8 + t then _ else _) = _
      rw [if_neg (by omega)]
      exact b t' h1 h2 x
theorem rkT_ok {S : Mem} {P : Nat} {f g : Nat → Int32} (hL : Lnk S P 8) (hP : P ≤ 6) (hf : ∀ x, x < 8 → ∀ t, t < 8 → f (x * 8 + t) = -1) : ∀ n, n ≤ 8 → (∀ t, t < n → DL S P t (col t (rkT S P f g n).1)) ∧ (∀ t, n ≤ t → t < 8 → ∀ x, x < 8 → col t (rkT S P f g n).1 x = -1) ∧ ∀ t, t < n → ∀ x, x < 8 → (rkT S P f g n).2 (x * 8 + t) = fstM S P x t := by
  intro n
  induction n with
  | zero => intro _; exact ⟨fun t h => by omega, fun t _ ht x hx => hf x hx t ht, fun t h => by omega⟩
  | succ n ih =>
    intro hn
    obtain ⟨d1, d2, d3⟩ := ih (by omega)
    have e : us (rkT S P f g n).1 64 (nI n * 8 + nI n) 0 = upd (rkT S P f g n).1 (n * 8 + n) 0 := us8_at (by omega) (by omega)
    have hlv : LV S P n 0 0 (col n (us (rkT S P f g n).1 64 (nI n * 8 + nI n) 0)) := by
      rw [e, col_upd]
      have val : ∀ x, x < 8 → upd (col n (rkT S P f g n).1) n 0 x = -1 ∨ (x = n ∧ upd (col n (rkT S P f g n).1) n 0 x = nI 0) := fun x hx => by
        by_cases h : x = n
        · exact Or.inr ⟨h, by simp [upd, h, nI_0]⟩
        · exact Or.inl (by simp only [upd, if_neg h]; exact d2 n (Nat.le_refl _) (by omega) x hx)
      refine ⟨fun x hx => ?_, fun x hx hw => ?_, by simp [upd, nI_0], fun x hx k hw hk => ?_, fun _ _ k hk => by omega, fun _ _ _ _ _ p hp => by omega⟩
      · rcases val x hx with h | ⟨-, h⟩
        · exact Or.inl h
        · exact Or.inr ⟨0, by omega, h⟩
      · rcases val x hx with h | ⟨h, -⟩
        · rw [hw] at h; exact absurd h (nI_neg (by omega))
        · exact h
      · rcases val x hx with h | ⟨-, h⟩
        · rw [hw] at h; exact absurd h (nI_neg (by omega))
        · have := nI_inj (by omega) (by omega) (hw.symm.trans h); omega
    obtain ⟨r1, r2⟩ := rk1_LV hL hP (by omega) _ hlv 6 (Nat.le_refl _)
    -- the bound of the last round
    have r5 := rk1_LV hL hP (show n < 8 by omega) _ hlv 5 (by omega)
    have l6 := (lenA_LV hL hP (show n < 8 by omega) (show 5 < 100 by omega) _ r5.1 P (Nat.le_refl _)).1
    have hdl : DL S P n (col n (rkT S P f g (n + 1)).1) := r1.done hP (by omega) (fun x hx => by
      rcases l6.1 x hx with h | ⟨k, h1, h2⟩
      · exact Or.inl h
      · exact Or.inr ⟨k, by omega, h2⟩)
    have hoth : ∀ t, t < 8 → t ≠ n → col t (rkT S P f g (n + 1)).1 = col t (rkT S P f g n).1 := fun t ht hne => by
      have h1 := r2 t ht hne
      refine h1.trans ?_
      rw [e, col_upd_ne (by omega) ht hne]
    obtain ⟨g1, g2⟩ := rkF_at (S := S) (f := rk1 S P (nI n) 6 (us (rkT S P f g n).1 64 (nI n * 8 + nI n) 0)) (P := P) (show n < 8 by omega) (rkT S P f g n).2 8 (Nat.le_refl _)
    refine ⟨fun t ht => ?_, fun t h1 h2 x hx => ?_, fun t ht x hx => ?_⟩
    · by_cases h : t = n
      · subst h; exact hdl
      · rw [hoth t (by omega) h]; exact d1 t (by omega)
    · rw [hoth t h2 (by omega)]; exact d2 t (by omega) h2 x hx
    · by_cases h : t = n
      · subst h
        refine (g1 x hx).trans (fst_fstM hL hP hx (by omega) (fun y hy => lenM_eq hdl hy))
      · exact (g2 t (by omega) h x).trans (d3 t (by omega) x hx)
theorem reckon_ok {S X X1 : Mem} {P : Nat} (hL : Lnk S P 8) (hP : P ≤ 6) (h10 : X1 10 = (rkT S P (fl (X 10) 64 (-1)) (X 11) 8).1) (h11 : X1 11 = (rkT S P (fl (X 10) 64 (-1)) (X 11) 8).2) : ChainsOk S X1 P ∧ ∀ t, t < 8 → ∃ w, DL S P t w := by
  obtain ⟨a, -, b⟩ := rkT_ok (f := fl (X 10) 64 (-1)) (g := X 11) hL hP (fun x hx t ht => if_pos (by omega)) 8 (Nat.le_refl _)
  refine ⟨fun x hx t ht => ⟨?_, ?_⟩, fun t ht => ⟨_, a t ht⟩⟩
  · rw [h10]; exact lenM_eq (a t ht) hx
  · rw [h11]; exact b t ht x hx
/-- the distances are there, whatever the landings' punts are -/
theorem DL.ex {S : Mem} {P t : Nat} (hL : Lnk S P 8) (hP : P ≤ 6) (ht : t < 8) : DL S P t (fun x => lenM S P x t) :=
  let ⟨_, h⟩ := (reckon_ok (X := fun _ _ => 0) (X1 := fun k => if k = 10 then (rkT S P (fl (fun _ => 0) 64 (-1)) (fun _ => 0) 8).1 else (rkT S P (fl (fun _ => 0) 64 (-1)) (fun _ => 0) 8).2) hL hP rfl rfl).2 t ht
  h.isM
theorem lenM_val {S : Mem} {P x t : Nat} (hL : Lnk S P 8) (hP : P ≤ 6) (hx : x < 8) (ht : t < 8) : lenM S P x t = -1 ∨ ∃ k, k < 8 ∧ lenM S P x t = nI k := (DL.ex hL hP ht).1 x hx
/-- a punt that begins a chain of k + 1 punts leads to where one has k yet -/
theorem bgM_spec {S : Mem} {P n x t k : Nat} (hk : k + 1 < 8) (hlen : lenM S P x t = nI (k + 1)) : bgM S P n x t = true ↔ ((S 4 n = nI x ∨ S 5 n = nI x) ∧ lenM S P (othN S n x) t = nI k) := by
  unfold bgM
  rw [hlen, show nI (k + 1) - 1 = nI k from nI_pred k]
  have h0 : (0 : Int32) < nI (k + 1) := by rw [show (0 : Int32) = nI 0 from nI_0.symm]; exact nI_lt (by omega) (by omega)
  simp only [Bool.and_eq_true, Bool.or_eq_true, decide_eq_true_eq, h0, true_and]
theorem bgM_pos {S : Mem} {P n x t : Nat} (h : bgM S P n x t = true) : 0 < lenM S P x t := by
  unfold bgM at h
  simp only [Bool.and_eq_true, decide_eq_true_eq] at h
  exact h.1.1
theorem chF_miM {S : Mem} {P x t : Nat} {f tl T : Nat → Int32} (hL : Lnk S P 8) (hP : P ≤ 6) (hx : x < 8) (ht : t < 8) (hf : ∀ y, y < 8 → col t f y = lenM S P y t) (hT : ∀ n, n < P → bgM S P n x t = true → tl (othN S n x) = T (othN S n x)) : ∀ n, n ≤ P → chF S f tl (nI x) (nI t) n = miM S P t T x n := by
  intro n
  induction n with
  | zero => intro _; rfl
  | succ n ih =>
    intro hn
    have hi := ih (by omega)
    obtain ⟨o1, o2⟩ := hL.oth (x := x) (Nat.le_refl 8) (show n < P by omega)
    have e : othE S (nI n) (nI x) = nI (othN S n x) := by
      unfold othE
      rw [rg_nI (show n < 6 by omega) (by decide), rg_nI (show n < 6 by omega) (by decide)]
      exact o2
    unfold chF miM
    rw [bgn_bgM hL hP (by omega) hx ht hf, e, rg_nI (show n < 6 by omega) (by decide), rg_nI o1 (by decide), hi]
    cases hb : bgM S P n x t with
    | false => rw [if_neg Bool.false_ne_true, if_neg Bool.false_ne_true]
    | true => rw [hT n (by omega) hb]
theorem ltO_ok {S : Mem} {P t : Nat} {f tl : Nat → Int32} (hL : Lnk S P 8) (hP : P ≤ 6) (ht : t < 8) (hf : ∀ y, y < 8 → col t f y = lenM S P y t) : ∀ n, n < 8 → ∀ k x, k ≤ n → x < 8 → lenM S P x t = nI k → ltO S f P (nI t) tl n x = tolM S P t k x := by
  have hdl := DL.ex hL hP ht
  intro n
  induction n with
  | zero =>
    intro _ k x hk hx hlen
    obtain rfl : k = 0 := by omega
    obtain rfl := hdl.2.1 x hx hlen
    show us tl 8 (nI x) 0 x = 0
    rw [us_nI hx (by decide)]
    simp [upd]
  | succ n ih =>
    intro hn k x hk hx hlen
    -- the inner loop
    have inner : ∀ m, m ≤ 8 → (∀ y, y < m → lenM S P y t = nI (n + 1) → ltI S f P (nI t) (nI (n + 1)) m (ltO S f P (nI t) tl n) y = tolM S P t (n + 1) y) ∧ ∀ y, y < 8 → (m ≤ y ∨ lenM S P y t ≠ nI (n + 1)) → ltI S f P (nI t) (nI (n + 1)) m (ltO S f P (nI t) tl n) y = ltO S f P (nI t) tl n y := by
      intro m
      induction m with
      | zero => intro _; exact ⟨fun y h => by omega, fun _ _ _ => rfl⟩
      | succ m ihm =>
        intro hm
        obtain ⟨a, b⟩ := ihm (by omega)
        have e : ltI S f P (nI t) (nI (n + 1)) (m + 1) (ltO S f P (nI t) tl n) = if lenM S P m t = nI (n + 1) then upd (ltI S f P (nI t) (nI (n + 1)) m (ltO S f P (nI t) tl n)) m (chF S f (ltI S f P (nI t) (nI (n + 1)) m (ltO S f P (nI t) tl n)) (nI m) (nI t) P) else ltI S f P (nI t) (nI (n + 1)) m (ltO S f P (nI t) tl n) := by
          show (if lnI f (nI m) (nI t) = nI (n + 1) then us _ 8 (nI m) _ else _) = _
          rw [lnI_at (by omega) ht, hf m (by omega), us_nI (by omega) (by decide)]
        rw [e]
        by_cases hc : lenM S P m t = nI (n + 1)
        · rw [if_pos hc]
          have hch : chF S f (ltI S f P (nI t) (nI (n + 1)) m (ltO S f P (nI t) tl n)) (nI m) (nI t) P = tolM S P t (n + 1) m := by
            refine chF_miM hL hP (by omega) ht hf (fun j hj hb => ?_) P (Nat.le_refl _)
            have ho := (bgM_spec hn hc).mp hb
            have ho8 := (hL.oth (x := m) (Nat.le_refl 8) hj).1
            rw [b _ ho8 (Or.inr (by rw [ho.2]; intro h; have := nI_inj (by omega) (by omega) h; omega))]
            exact ih (by omega) n _ (Nat.le_refl _) ho8 ho.2
          refine ⟨fun y hy hly => ?_, fun y hy hor => ?_⟩
          · by_cases hym : y = m
            · subst hym; simp only [upd, if_pos]; exact hch
            · simp only [upd, if_neg hym]; exact a y (by omega) hly
          · have hym : y ≠ m := by
              rintro rfl
              rcases hor with h | h
              · omega
              · exact h hc
            simp only [upd, if_neg hym]
            exact b y hy (by rcases hor with h | h; exact Or.inl (by omega); exact Or.inr h)
        · rw [if_neg hc]
          refine ⟨fun y hy hly => ?_, fun y hy hor => b y hy (by rcases hor with h | h; exact Or.inl (by omega); exact Or.inr h)⟩
          by_cases hym : y = m
          · subst hym; exact absurd hly hc
          · exact a y (by omega) hly
    show ltI S f P (nI t) (nI (n + 1)) 8 (ltO S f P (nI t) tl n) x = _
    by_cases hk2 : k = n + 1
    · subst hk2; exact (inner 8 (Nat.le_refl _)).1 x hx hlen
    · rw [(inner 8 (Nat.le_refl _)).2 x hx (Or.inr (by rw [hlen]; intro h; exact hk2 (nI_inj (by omega) (by omega) h)))]
      exact ih (by omega) k x (by omega) hx hlen
