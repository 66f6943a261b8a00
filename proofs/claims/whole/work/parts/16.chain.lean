/-! CHAINS, on numbers alone: fewest punts between landings. -/
def conn (S : Mem) (p x y : Nat) : Prop := (S 4 p = nI x ∧ S 5 p = nI y) ∨ (S 5 p = nI x ∧ S 4 p = nI y)
theorem conn.symm {S : Mem} {p x y : Nat} (h : conn S p x y) : conn S p y x := by
  rcases h with ⟨a, b⟩ | ⟨a, b⟩
  · exact Or.inr ⟨b, a⟩
  · exact Or.inl ⟨b, a⟩
def adj (S : Mem) (P x y : Nat) : Prop := ∃ p, p < P ∧ conn S p x y
theorem adj.symm {S : Mem} {P x y : Nat} (h : adj S P x y) : adj S P y x := by
  obtain ⟨p, a, b⟩ := h
  exact ⟨p, a, b.symm⟩
def DL (S : Mem) (P t : Nat) (w : Nat → Int32) : Prop :=
  (∀ x, x < 8 → w x = -1 ∨ ∃ k, k < 8 ∧ w x = nI k) ∧ (∀ x, x < 8 → w x = nI 0 → x = t) ∧ w t = nI 0 ∧
  (∀ x, x < 8 → ∀ k, k + 1 < 8 → w x = nI (k + 1) → ∃ y, y < 8 ∧ adj S P x y ∧ w y = nI k) ∧
  (∀ x, x < 8 → ∀ k, k < 8 → w x = nI k → ∀ y, y < 8 → adj S P x y → ∃ j, j ≤ k + 1 ∧ j < 8 ∧ w y = nI j)
theorem DL.le {S : Mem} {P t : Nat} {w w' : Nat → Int32} (h : DL S P t w) (h' : DL S P t w') : ∀ k x, x < 8 → k < 8 → w x = nI k → ∃ j, j ≤ k ∧ j < 8 ∧ w' x = nI j := by
  intro k
  induction k with
  | zero =>
    intro x hx hk hw
    obtain rfl := h.2.1 x hx hw
    exact ⟨0, Nat.le_refl _, by omega, h'.2.2.1⟩
  | succ k ih =>
    intro x hx hk hw
    obtain ⟨y, hy, ha, hwy⟩ := h.2.2.2.1 x hx k hk hw
    obtain ⟨j, hj, hj2, hwj⟩ := ih y hy (by omega) hwy
    obtain ⟨i, hi, hi2, hwi⟩ := h'.2.2.2.2 y hy j hj2 hwj x hx ha.symm
    exact ⟨i, by omega, hi2, hwi⟩
theorem DL.uniq {S : Mem} {P t : Nat} {w w' : Nat → Int32} (h : DL S P t w) (h' : DL S P t w') {x : Nat} (hx : x < 8) : w x = w' x := by
  rcases h.1 x hx with h1 | ⟨k, hk, h1⟩
  · rcases h'.1 x hx with h2 | ⟨k, hk, h2⟩
    · rw [h1, h2]
    · obtain ⟨j, -, hj, hw⟩ := DL.le h' h k x hx hk h2
      rw [hw] at h1
      exact absurd h1 (nI_neg (by omega))
  · obtain ⟨j, hj, hj2, hw⟩ := DL.le h h' k x hx hk h1
    obtain ⟨i, hi, hi2, hw2⟩ := DL.le h' h j x hx hj2 hw
    rw [hw2] at h1
    have := nI_inj (by omega) (by omega) h1
    rw [hw2, hw, show i = j by omega]
/-- THE punts of the chain from x to t -/
noncomputable def lenM (S : Mem) (P x t : Nat) : Int32 := @dite _ (∃ w, DL S P t w) (Classical.propDecidable _) (fun h => Classical.choose h x) (fun _ => -1)
theorem lenM_eq {S : Mem} {P t : Nat} {w : Nat → Int32} (h : DL S P t w) {x : Nat} (hx : x < 8) : w x = lenM S P x t := by
  have hx2 : ∃ w, DL S P t w := ⟨w, h⟩
  unfold lenM
  rw [dif_pos hx2]
  exact DL.uniq h (Classical.choose_spec hx2) hx
theorem DL.isM {S : Mem} {P t : Nat} {w : Nat → Int32} (h : DL S P t w) : DL S P t (fun x => lenM S P x t) := by
  have hx2 : ∃ w, DL S P t w := ⟨w, h⟩
  have : (fun x => lenM S P x t) = Classical.choose hx2 := by
    funext x
    unfold lenM
    rw [dif_pos hx2]
  rw [this]
  exact Classical.choose_spec hx2
/-- the punts' ends -/
def Lnk (S : Mem) (P L : Nat) : Prop := ∀ p, p < P → ∃ x y, x < L ∧ y < L ∧ x ≠ y ∧ S 4 p = nI x ∧ S 5 p = nI y
/-- up to level q all is found, of level q what m punts reach -/
def LV (S : Mem) (P t q m : Nat) (w : Nat → Int32) : Prop :=
  (∀ x, x < 8 → w x = -1 ∨ ∃ k, k ≤ q + 1 ∧ w x = nI k) ∧ (∀ x, x < 8 → w x = nI 0 → x = t) ∧ w t = nI 0 ∧
  (∀ x, x < 8 → ∀ k, w x = nI (k + 1) → k ≤ q → ∃ y, y < 8 ∧ adj S P x y ∧ w y = nI k) ∧
  (∀ x, x < 8 → ∀ k, k < q → w x = nI k → ∀ y, y < 8 → adj S P x y → ∃ j, j ≤ k + 1 ∧ w y = nI j) ∧
  (∀ x, x < 8 → w x = nI q → ∀ y, y < 8 → ∀ p, p < m → conn S p x y → ∃ j, j ≤ q + 1 ∧ w y = nI j)
theorem LV.step {S : Mem} {P t q m : Nat} {w : Nat → Int32} (h : LV S P t q m w) (hq : q < 100) {a b : Nat} (ha : a < 8) (hb : b < 8) (hab : adj S P a b) : LV S P t q m (if w b = nI q ∧ w a = -1 then upd w a (nI (q + 1)) else w) ∧ (w b = nI q → ∃ j, j ≤ q + 1 ∧ (if w b = nI q ∧ w a = -1 then upd w a (nI (q + 1)) else w) a = nI j) ∧ (∀ x k, k ≠ q + 1 → k < 2 ^ 31 → (if w b = nI q ∧ w a = -1 then upd w a (nI (q + 1)) else w) x = nI k → w x = nI k) ∧ (∀ x k, k < 2 ^ 31 → w x = nI k → (if w b = nI q ∧ w a = -1 then upd w a (nI (q + 1)) else w) x = nI k) := by
  by_cases hc : w b = nI q ∧ w a = -1
  · rw [if_pos hc]
    obtain ⟨h1, h2, h3, h4, h5, h6⟩ := h
    have hup : ∀ x k, k < 2 ^ 31 → w x = nI k → upd w a (nI (q + 1)) x = nI k := fun x k hk hw => by
      unfold upd
      by_cases e : x = a
      · rw [e, hc.2] at hw; exact absurd hw.symm (nI_neg hk)
      · rw [if_neg e]; exact hw
    have hdn : ∀ x k, k ≠ q + 1 → k < 2 ^ 31 → upd w a (nI (q + 1)) x = nI k → w x = nI k := fun x k hk hk2 hw => by
      unfold upd at hw
      by_cases e : x = a
      · rw [if_pos e] at hw; exact absurd (nI_inj (by omega) hk2 hw).symm hk
      · rw [if_neg e] at hw; exact hw
    refine ⟨⟨fun x hx => ?_, fun x hx hw => h2 x hx (hdn x 0 (by omega) (by omega) hw), hup t 0 (by omega) h3, fun x hx k hw hkq => ?_, fun x hx k hkq hw y hy hxy => ?_, fun x hx hw y hy p hp hxy => ?_⟩, fun _ => ⟨q + 1, Nat.le_refl _, by simp [upd]⟩, hdn, hup⟩
    · by_cases e : x = a
      · exact Or.inr ⟨q + 1, Nat.le_refl _, by simp [upd, e]⟩
      · rcases h1 x hx with g | ⟨k, g1, g2⟩
        · exact Or.inl (by simp [upd, e, g])
        · exact Or.inr ⟨k, g1, hup x k (by omega) g2⟩
    · by_cases e : x = a
      · subst e
        have : k = q := by
          have e2 : upd w x (nI (q + 1)) x = nI (q + 1) := by simp [upd]
          have := nI_inj (by omega) (by omega) (e2.symm.trans hw)
          omega
        subst this
        exact ⟨b, hb, hab, hup b k (by omega) hc.1⟩
      · obtain ⟨y, g1, g2, g3⟩ := h4 x hx k (by unfold upd at hw; rw [if_neg e] at hw; exact hw) hkq
        exact ⟨y, g1, g2, hup y k (by omega) g3⟩
    · obtain ⟨j, g1, g2⟩ := h5 x hx k hkq (hdn x k (by omega) (by omega) hw) y hy hxy
      exact ⟨j, g1, hup y j (by omega) g2⟩
    · obtain ⟨j, g1, g2⟩ := h6 x hx (hdn x q (by omega) (by omega) hw) y hy p hp hxy
      exact ⟨j, g1, hup y j (by omega) g2⟩
  · rw [if_neg hc]
    refine ⟨h, fun hbq => ?_, fun _ _ _ _ h => h, fun _ _ _ h => h⟩
    rcases h.1 a ha with g | ⟨k, g1, g2⟩
    · exact absurd ⟨hbq, g⟩ hc
    · exact ⟨k, g1, g2⟩
/-- the column of the landing t -/
def col (t : Nat) (f : Nat → Int32) : Nat → Int32 := fun x => f (x * 8 + t)
theorem lnI_at {f : Nat → Int32} {x t : Nat} (hx : x < 8) (ht : t < 8) : lnI f (nI x) (nI t) = col t f x := by
  unfold lnI
  rw [show (8 : Int32) = nI 8 from rfl, pk_mul, nI_add, rg_nI (by omega) (by decide)]
  rfl
theorem us8_at {f : Nat → Int32} {x t : Nat} {v : Int32} (hx : x < 8) (ht : t < 8) : us f 64 (nI x * 8 + nI t) v = upd f (x * 8 + t) v := by
  rw [show (8 : Int32) = nI 8 from rfl, pk_mul, nI_add, us_nI (by omega) (by decide)]
theorem col_upd {f : Nat → Int32} {x t : Nat} {v : Int32} : col t (upd f (x * 8 + t) v) = upd (col t f) x v := by
  funext y
  unfold col upd
  by_cases h : y = x
  · subst h; simp
  · rw [if_neg h, if_neg (by omega)]
theorem col_upd_ne {f : Nat → Int32} {x t t' : Nat} {v : Int32} (ht : t < 8) (ht' : t' < 8) (h : t' ≠ t) : col t' (upd f (x * 8 + t) v) = col t' f := by
  funext y
  unfold col upd
  rw [if_neg (by omega)]
theorem col_lenS {f : Nat → Int32} {a b t q : Nat} (ha : a < 8) (hb : b < 8) (ht : t < 8) : col t (lenS f (nI a) (nI b) (nI t) (nI q)) = (if col t f b = nI q ∧ col t f a = -1 then upd (col t f) a (nI (q + 1)) else col t f) ∧ ∀ t', t' < 8 → t' ≠ t → col t' (lenS f (nI a) (nI b) (nI t) (nI q)) = col t' f := by
  unfold lenS
  rw [lnI_at ha ht, lnI_at hb ht, nI_1, us8_at ha ht]
  split
  · exact ⟨col_upd, fun t' h1 h2 => col_upd_ne ht h1 h2⟩
  · exact ⟨rfl, fun _ _ _ => rfl⟩
theorem lenA_LV {S : Mem} {P t q : Nat} (hL : Lnk S P 8) (hP : P ≤ 6) (ht : t < 8) (hq : q < 100) (f : Nat → Int32) (h : LV S P t q 0 (col t f)) : ∀ m, m ≤ P → LV S P t q m (col t (lenA S (nI t) (nI q) m f)) ∧ ∀ t', t' < 8 → t' ≠ t → col t' (lenA S (nI t) (nI q) m f) = col t' f := by
  intro m
  induction m with
  | zero => intro _; exact ⟨h, fun _ _ _ => rfl⟩
  | succ m ih =>
    intro hm
    obtain ⟨g, gf⟩ := ih (by omega)
    obtain ⟨x, y, hx, hy, hxy, e4, e5⟩ := hL m (by omega)
    have hadj : adj S P x y := ⟨m, by omega, Or.inl ⟨e4, e5⟩⟩
    show LV S P t q (m + 1) (col t (lenS (lenS (lenA S (nI t) (nI q) m f) (rg (S 4) 6 (nI m)) (rg (S 5) 6 (nI m)) (nI t) (nI q)) (rg (S 5) 6 (nI m)) (rg (S 4) 6 (nI m)) (nI t) (nI q))) ∧ ∀ t', t' < 8 → t' ≠ t → col t' (lenS (lenS (lenA S (nI t) (nI q) m f) (rg (S 4) 6 (nI m)) (rg (S 5) 6 (nI m)) (nI t) (nI q)) (rg (S 5) 6 (nI m)) (rg (S 4) 6 (nI m)) (nI t) (nI q)) = col t' f
    rw [rg_nI (show m < 6 by omega) (by decide), rg_nI (show m < 6 by omega) (by decide), e4, e5]
    obtain ⟨c1, c1'⟩ := col_lenS (f := lenA S (nI t) (nI q) m f) (q := q) hx hy ht
    obtain ⟨c2, c2'⟩ := col_lenS (f := lenS (lenA S (nI t) (nI q) m f) (nI x) (nI y) (nI t) (nI q)) (q := q) hy hx ht
    obtain ⟨s1, s1a, s1d, s1u⟩ := g.step hq hx hy hadj
    rw [← c1] at s1 s1a s1d s1u
    obtain ⟨s2, s2a, s2d, s2u⟩ := s1.step hq hy hx hadj.symm
    rw [← c2] at s2 s2a s2d s2u
    refine ⟨?_, fun t' h1 h2 => by rw [c2' t' h1 h2, c1' t' h1 h2, gf t' h1 h2]⟩
    obtain ⟨k1, k2, k3, k4, k5, k6⟩ := s2
    refine ⟨k1, k2, k3, k4, k5, fun a ha hwa b hb p hp hc => ?_⟩
    by_cases hpm : p = m
    · subst hpm
      have hwa1 := s2d a q (by omega) (by omega) hwa
      have hwa0 := s1d a q (by omega) (by omega) hwa1
      have e : (a = x ∧ b = y) ∨ (a = y ∧ b = x) := by
        rcases hc with ⟨u, v⟩ | ⟨u, v⟩
        · exact Or.inl ⟨nI_inj (by omega) (by omega) (u.symm.trans e4), nI_inj (by omega) (by omega) (v.symm.trans e5)⟩
        · exact Or.inr ⟨nI_inj (by omega) (by omega) (u.symm.trans e5), nI_inj (by omega) (by omega) (v.symm.trans e4)⟩
      rcases e with ⟨rfl, rfl⟩ | ⟨rfl, rfl⟩
      · exact s2a hwa1
      · obtain ⟨j, j1, j2⟩ := s1a hwa0
        exact ⟨j, j1, s2u _ j (by omega) j2⟩
    · exact k6 a ha hwa b hb p (by omega) hc
theorem LV.up {S : Mem} {P t q : Nat} {w : Nat → Int32} (h : LV S P t q P w) (hq : q < 100) : LV S P t (q + 1) 0 w := by
  obtain ⟨k1, k2, k3, k4, k5, k6⟩ := h
  refine ⟨fun x hx => ?_, k2, k3, fun x hx k hw hk => ?_, fun x hx k hk hw y hy hxy => ?_, fun x hx hw y hy p hp => by omega⟩
  · rcases k1 x hx with g | ⟨k, g1, g2⟩
    · exact Or.inl g
    · exact Or.inr ⟨k, by omega, g2⟩
  · rcases k1 x hx with g | ⟨k', g1, g2⟩
    · rw [hw] at g; exact absurd g (nI_neg (by omega))
    · have := nI_inj (by omega) (by omega) (hw.symm.trans g2)
      exact k4 x hx k hw (by omega)
  · by_cases e : k = q
    · subst e
      obtain ⟨p, hp, hc⟩ := hxy
      exact k6 x hx hw y hy p hp hc
    · exact k5 x hx k (by omega) hw y hy hxy
theorem rk1_LV {S : Mem} {P t : Nat} (hL : Lnk S P 8) (hP : P ≤ 6) (ht : t < 8) (f : Nat → Int32) (h : LV S P t 0 0 (col t f)) : ∀ n, n ≤ 6 → LV S P t n 0 (col t (rk1 S P (nI t) n f)) ∧ ∀ t', t' < 8 → t' ≠ t → col t' (rk1 S P (nI t) n f) = col t' f := by
  intro n
  induction n with
  | zero => intro _; exact ⟨h, fun _ _ _ => rfl⟩
  | succ n ih =>
    intro hn
    obtain ⟨g, gf⟩ := ih (by omega)
    obtain ⟨a, b⟩ := lenA_LV hL hP ht (by omega) (rk1 S P (nI t) n f) g P (Nat.le_refl _)
    exact ⟨a.up (by omega), fun t' h1 h2 => by rw [← gf t' h1 h2]; exact b t' h1 h2⟩
/-- a shortest chain, downwards -/
theorem LV.down {S : Mem} {P t q : Nat} {w : Nat → Int32} (h : LV S P t q 0 w) : ∀ k x, x < 8 → k ≤ q + 1 → w x = nI k → ∃ u pp : Nat → Nat, u k = x ∧ (∀ j, j ≤ k → u j < 8 ∧ w (u j) = nI j) ∧ ∀ j, j < k → pp j < P ∧ conn S (pp j) (u (j + 1)) (u j) := by
  intro k
  induction k with
  | zero => intro x hx hk hw; exact ⟨fun _ => x, fun _ => 0, rfl, fun j hj => ⟨hx, by rw [show j = 0 by omega]; exact hw⟩, fun j hj => by omega⟩
  | succ k ih =>
    intro x hx hk hw
    obtain ⟨y, hy, ⟨p, hp, hc⟩, hwy⟩ := h.2.2.2.1 x hx k hw (by omega)
    obtain ⟨u, pp, g1, g2, g3⟩ := ih y hy (by omega) hwy
    refine ⟨fun j => if j = k + 1 then x else u j, fun j => if j = k then p else pp j, if_pos rfl, fun j hj => ?_, fun j hj => ?_⟩
    · by_cases e : j = k + 1
      · subst e; show (if k + 1 = k + 1 then x else _) < 8 ∧ w (if k + 1 = k + 1 then x else _) = _; rw [if_pos rfl]; exact ⟨hx, hw⟩
      · show (if j = k + 1 then x else u j) < 8 ∧ w (if j = k + 1 then x else u j) = _; rw [if_neg e]; exact g2 j (by omega)
    · by_cases e : j = k
      · subst e
        show (if j = j then p else _) < P ∧ conn S (if j = j then p else _) (if j + 1 = j + 1 then x else _) (if j = j + 1 then x else u j)
        rw [if_pos rfl, if_pos rfl, if_neg (by omega), g1]
        exact ⟨hp, hc⟩
      · show (if j = k then p else pp j) < P ∧ conn S (if j = k then p else pp j) (if j + 1 = k + 1 then x else u (j + 1)) (if j = k + 1 then x else u j)
        rw [if_neg e, if_neg (by omega), if_neg (by omega)]
        exact g3 j (by omega)
theorem conn_ends {S : Mem} {p a b c d : Nat} (ha : a < 8) (hb : b < 8) (hc : c < 8) (hd : d < 8) (h : conn S p a b) (h' : conn S p c d) : (a = c ∧ b = d) ∨ (a = d ∧ b = c) := by
  rcases h with ⟨u, v⟩ | ⟨u, v⟩ <;> rcases h' with ⟨u', v'⟩ | ⟨u', v'⟩
  · exact Or.inl ⟨nI_inj (by omega) (by omega) (u.symm.trans u'), nI_inj (by omega) (by omega) (v.symm.trans v')⟩
  · exact Or.inr ⟨nI_inj (by omega) (by omega) (u.symm.trans v'), nI_inj (by omega) (by omega) (v.symm.trans u')⟩
  · exact Or.inr ⟨nI_inj (by omega) (by omega) (u.symm.trans v'), nI_inj (by omega) (by omega) (v.symm.trans u')⟩
  · exact Or.inl ⟨nI_inj (by omega) (by omega) (u.symm.trans u'), nI_inj (by omega) (by omega) (v.symm.trans v')⟩
theorem LV.done {S : Mem} {P t : Nat} {w : Nat → Int32} (h : LV S P t 6 0 w) (hP : P ≤ 6) (ht : t < 8) (h6 : ∀ x, x < 8 → w x = -1 ∨ ∃ k, k ≤ 6 ∧ w x = nI k) : DL S P t w := by
  have hd := h.down
  obtain ⟨k1, k2, k3, k4, k5, -⟩ := h
  refine ⟨fun x hx => ?_, k2, k3, fun x hx k hk hw => k4 x hx k hw (by omega), fun x hx k hk hw y hy hxy => ?_⟩
  · rcases h6 x hx with g | ⟨k, g1, g2⟩
    · exact Or.inl g
    · exact Or.inr ⟨k, by omega, g2⟩
  · have hk6 : k ≤ 6 := by
      rcases h6 x hx with g | ⟨k', g1, g2⟩
      · rw [hw] at g; exact absurd g (nI_neg (by omega))
      · have := nI_inj (by omega) (by omega) (hw.symm.trans g2); omega
    by_cases hk5 : k < 6
    · obtain ⟨j, g1, g2⟩ := k5 x hx k hk5 hw y hy hxy
      exact ⟨j, g1, by omega, g2⟩
    · obtain rfl : k = 6 := by omega
      obtain ⟨p, hp, hc⟩ := hxy
      obtain ⟨u, pp, g1, g2, g3⟩ := hd 6 x hx (by omega) hw
      have lvl : ∀ i j, i ≤ 6 → j ≤ 6 → u i = u j → i = j := fun i j hi hj e => by
        have a := (g2 i hi).2
        rw [e, (g2 j hj).2] at a
        exact (nI_inj (by omega) (by omega) a).symm
      have hin : ∃ j, j < 6 ∧ pp j = p := by
        apply Classical.byContradiction
        intro hno
        have := pig P 7 (fun i => if i = 6 then p else pp i) (fun i hi => by
          show (if i = 6 then p else pp i) < P
          split
          · exact hp
          · exact (g3 i (by omega)).1) (fun i j hi hj e => by
          have e : (if i = 6 then p else pp i) = (if j = 6 then p else pp j) := e
          by_cases hi6 : i = 6
          · by_cases hj6 : j = 6
            · omega
            · rw [if_pos hi6, if_neg hj6] at e
              exact absurd ⟨j, by omega, e.symm⟩ hno
          · by_cases hj6 : j = 6
            · rw [if_neg hi6, if_pos hj6] at e
              exact absurd ⟨i, by omega, e⟩ hno
            · rw [if_neg hi6, if_neg hj6] at e
              have ci := (g3 i (by omega)).2
              have cj := (g3 j (by omega)).2
              rw [e] at ci
              rcases conn_ends (g2 _ (by omega)).1 (g2 _ (by omega)).1 (g2 _ (by omega)).1 (g2 _ (by omega)).1 ci cj with ⟨a, b⟩ | ⟨a, b⟩
              · exact lvl i j (by omega) (by omega) b
              · have q1 := lvl (i + 1) j (by omega) (by omega) a
                have q2 := lvl i (j + 1) (by omega) (by omega) b
                omega)
        omega
      obtain ⟨j, hj, hpj⟩ := hin
      have cj := (g3 j hj).2
      rw [hpj] at cj
      rcases conn_ends hx hy (g2 _ (by omega)).1 (g2 _ (by omega)).1 hc cj with ⟨a, b⟩ | ⟨a, b⟩
      · exact ⟨j, by omega, by omega, by rw [b]; exact (g2 j (by omega)).2⟩
      · exact ⟨j + 1, by omega, by omega, by rw [b]; exact (g2 (j + 1) (by omega)).2⟩
