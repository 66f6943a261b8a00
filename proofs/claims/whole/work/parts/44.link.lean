/-! CHAINS AND TOLLS, on numbers alone: what the reference's rounds leave. -/
theorem DL.down {S : Mem} {P t : Nat} {w : Nat → Int32} (h : DL S P t w) : ∀ k x, x < 8 → k < 8 → w x = nI k → ∃ u pp : Nat → Nat, u k = x ∧ (∀ j, j ≤ k → u j < 8 ∧ w (u j) = nI j) ∧ ∀ j, j < k → pp j < P ∧ conn S (pp j) (u (j + 1)) (u j) := by
  intro k
  induction k with
  | zero => intro x hx hk hw; exact ⟨fun _ => x, fun _ => 0, rfl, fun j hj => ⟨hx, by rw [show j = 0 by omega]; exact hw⟩, fun j hj => by omega⟩
  | succ k ih =>
    intro x hx hk hw
    obtain ⟨y, hy, ⟨p, hp, hc⟩, hwy⟩ := h.2.2.2.1 x hx k hk hw
    obtain ⟨u, pp, g1, g2, g3⟩ := ih y hy (by omega) hwy
    refine ⟨fun j => if j = k + 1 then x else u j, fun j => if j = k then p else pp j, if_pos rfl, fun j hj => ?_, fun j hj => ?_⟩
    · by_cases e : j = k + 1
      · subst e; show (if k + 1 = k + 1 then x else _) < 8 ∧ w (if k + 1 = k + 1 then x else _) = _; rw [if_pos rfl]; exact ⟨hx, hw⟩
      · show (if j = k + 1 then x else u j) < 8 ∧ w (if j = k + 1 then x else u j) = _; rw [if_neg e]; exact g2 j (by omega)
    · by_cases e : j = k
      · subst e
        show (if j = j then p else _) < P ∧ conn S (if j = j then p else _) (if j + 1 = j + 1 then x else _) (if j = j + 1 then x else u j)
        rw [if_pos rfl, if_pos rfl, if_neg (by omega), g1]
        exact ⟨hp, hc⟩
      · show (if j = k then p else pp j) < P ∧ conn S (if j = k then p else pp j) (if j + 1 = k + 1 then x else u (j + 1)) (if j = k + 1 then x else u j)
        rw [if_neg e, if_neg (by omega), if_neg (by omega)]
        exact g3 j (by omega)
theorem lenM_P {S : Mem} {P x t k : Nat} (hL : Lnk S P 8) (hP : P ≤ 6) (hx : x < 8) (ht : t < 8) (hk : k < 8) (h : lenM S P x t = nI k) : k ≤ P := by
  obtain ⟨u, pp, g1, g2, g3⟩ := (DL.ex hL hP ht).down k x hx hk h
  have lvl : ∀ i j, i ≤ k → j ≤ k → u i = u j → i = j := fun i j hi hj e => by
    have a := (g2 i hi).2
    rw [e, (g2 j hj).2] at a
    exact (nI_inj (by omega) (by omega) a).symm
  refine pig P k pp (fun i hi => (g3 i hi).1) (fun i j hi hj e => ?_)
  have ci := (g3 i hi).2
  have cj := (g3 j hj).2
  rw [e] at ci
  rcases conn_ends (g2 _ (by omega)).1 (g2 _ (by omega)).1 (g2 _ (by omega)).1 (g2 _ (by omega)).1 ci cj with ⟨a, b⟩ | ⟨a, b⟩
  · exact lvl i j (by omega) (by omega) b
  · have q1 := lvl (i + 1) j (by omega) (by omega) a
    have q2 := lvl i (j + 1) (by omega) (by omega) b
    omega
theorem lenM_L {S : Mem} {P L x t k : Nat} (hL : Lnk S P L) (hL8 : L ≤ 8) (hP : P ≤ 6) (hx : x < L) (ht : t < 8) (hk : k < 8) (h : lenM S P x t = nI k) : k < L := by
  obtain ⟨u, pp, g1, g2, g3⟩ := (DL.ex (hL.mono hL8) hP ht).down k x (by omega) hk h
  refine pig L (k + 1) u (fun j hj => ?_) (fun i j hi hj e => ?_)
  · by_cases e : j = k
    · rw [e, g1]; exact hx
    · obtain ⟨a1, a2⟩ := g3 j (by omega)
      obtain ⟨x', y', b1, b2, -, b4, b5⟩ := hL _ a1
      have hu := (g2 j (by omega)).1
      rcases a2 with ⟨c1, c2⟩ | ⟨c1, c2⟩
      · have := nI_inj (by omega) (by omega) (c2.symm.trans b5); omega
      · have := nI_inj (by omega) (by omega) (c2.symm.trans b4); omega
  · have a := (g2 i (by omega)).2
    rw [e, (g2 j (by omega)).2] at a
    exact (nI_inj (by omega) (by omega) a).symm
theorem conn_oth {S : Mem} {P p x y : Nat} (hL : Lnk S P 8) (hp : p < P) (hx : x < 8) (hy : y < 8) (h : conn S p x y) : (S 4 p = nI x ∨ S 5 p = nI x) ∧ othN S p x = y := by
  obtain ⟨a, b, ha, hb, hab, e4, e5⟩ := hL p hp
  unfold othN
  rcases h with ⟨u, v⟩ | ⟨u, v⟩
  · exact ⟨Or.inl u, by rw [if_pos u, v, nI_clamp (by omega)]⟩
  · refine ⟨Or.inr u, ?_⟩
    rw [if_neg (fun e => hab ?_), v, nI_clamp (by omega)]
    have q1 := nI_inj (by omega) (by omega) (e4.symm.trans e)
    have q2 := nI_inj (by omega) (by omega) (e5.symm.trans u)
    omega
/-- a punt's other landing; -1 if it is not one of its two -/
def acrI (S : Mem) (p x : Nat) : Int32 := if S 4 p = nI x then S 5 p else if S 5 p = nI x then S 4 p else -1
theorem acr_cases {S : Mem} {P L p x : Nat} (hL : Lnk S P L) (hL8 : L ≤ 8) (hp : p < P) (hx : x < 8) : (acrI S p x = nI (othN S p x) ∧ othN S p x < L ∧ othN S p x ≠ x ∧ (S 4 p = nI x ∨ S 5 p = nI x) ∧ conn S p x (othN S p x)) ∨ (acrI S p x = -1 ∧ ¬ (S 4 p = nI x ∨ S 5 p = nI x)) := by
  obtain ⟨a, b, ha, hb, hab, e4, e5⟩ := hL p hp
  unfold acrI othN
  by_cases h4 : S 4 p = nI x
  · left
    have q1 := nI_inj (by omega) (by omega) (e4.symm.trans h4)
    rw [if_pos h4, if_pos h4, e5, nI_clamp (by omega)]
    exact ⟨rfl, hb, by omega, Or.inl h4, Or.inl ⟨h4, e5⟩⟩
  · rw [if_neg h4, if_neg h4]
    by_cases h5 : S 5 p = nI x
    · left
      have q1 := nI_inj (by omega) (by omega) (e5.symm.trans h5)
      rw [if_pos h5, e4, nI_clamp (by omega)]
      exact ⟨rfl, ha, by omega, Or.inr h5, Or.inr ⟨h5, e4⟩⟩
    · right
      rw [if_neg h5]
      exact ⟨rfl, fun h => h.elim h4 h5⟩
def TlW (S : Mem) (P : Nat) : Prop := ∀ p, p < P → ∃ v, v ≤ 50 ∧ S 9 p = nI v
theorem bg_ex {S : Mem} {P x t k : Nat} (hL : Lnk S P 8) (hP : P ≤ 6) (hx : x < 8) (ht : t < 8) (hk : k + 1 < 8) (h : lenM S P x t = nI (k + 1)) : ∃ j, j < P ∧ bgM S P j x t = true := by
  obtain ⟨y, hy, ⟨p, hp, hc⟩, hw⟩ := (DL.ex hL hP ht).2.2.2.1 x hx k hk h
  obtain ⟨a, b⟩ := conn_oth hL hp hx hy hc
  exact ⟨p, hp, (bgM_spec hk h).mpr ⟨a, by rw [b]; exact hw⟩⟩
theorem miM_val {S : Mem} {P x t k : Nat} (hL : Lnk S P 8) (hT : TlW S P) (hk : k + 1 ≤ 6) (hlen : lenM S P x t = nI (k + 1)) (hTk : ∀ y, y < 8 → lenM S P y t = nI k → ∃ v, v ≤ 50 * k ∧ tolM S P t k y = nI v) : ∀ n, n ≤ P → ((∃ j, j < n ∧ bgM S P j x t = true) → ∃ v, v ≤ 50 * (k + 1) ∧ miM S P t (tolM S P t k) x n = nI v) ∧ ((∀ j, j < n → bgM S P j x t = false) → miM S P t (tolM S P t k) x n = nI 300) := by
  intro n
  induction n with
  | zero => intro _; exact ⟨fun ⟨j, hj, _⟩ => absurd hj (Nat.not_lt_zero _), fun _ => rfl⟩
  | succ n ih =>
    intro hn
    obtain ⟨i1, i2⟩ := ih (by omega)
    have hb0 : bgM S P n x t = true → ∃ v, v ≤ 50 * (k + 1) ∧ S 9 n + tolM S P t k (othN S n x) = nI v := fun hb => by
      obtain ⟨-, h2⟩ := (bgM_spec (by omega) hlen).mp hb
      obtain ⟨v1, a1, a2⟩ := hT n (by omega)
      obtain ⟨v2, b1, b2⟩ := hTk _ (hL.oth (x := x) (Nat.le_refl 8) (show n < P by omega)).1 h2
      exact ⟨v1 + v2, by omega, by rw [a2, b2, nI_add]⟩
    have hm : ∃ v, v ≤ 300 ∧ miM S P t (tolM S P t k) x n = nI v ∧ ((∃ j, j < n ∧ bgM S P j x t = true) → v ≤ 50 * (k + 1)) := by
      by_cases h : ∃ j, j < n ∧ bgM S P j x t = true
      · obtain ⟨v, a, b⟩ := i1 h
        exact ⟨v, by omega, b, fun _ => a⟩
      · exact ⟨300, Nat.le_refl _, i2 (fun j hj => by cases hb : bgM S P j x t with | false => rfl | true => exact absurd ⟨j, hj, hb⟩ h), fun q => absurd q h⟩
    obtain ⟨vm, m1, m2, m3⟩ := hm
    refine ⟨fun ⟨j, hj, hb⟩ => ?_, fun h => ?_⟩
    · unfold miM
      by_cases hbn : bgM S P n x t = true
      · rw [if_pos hbn]
        obtain ⟨v, a, b⟩ := hb0 hbn
        rw [b, m2]
        split
        · exact ⟨v, a, rfl⟩
        · rename_i hlt
          rw [nI_ltI (by omega) (by omega)] at hlt
          exact ⟨vm, by omega, rfl⟩
      · rw [if_neg hbn]
        exact i1 ⟨j, by have : j ≠ n := by rintro rfl; exact hbn hb
                        omega, hb⟩
    · unfold miM
      rw [if_neg (by rw [h n (by omega)]; exact Bool.false_ne_true)]
      exact i2 (fun j hj => h j (by omega))
theorem tolM_val {S : Mem} {P t : Nat} (hL : Lnk S P 8) (hP : P ≤ 6) (hT : TlW S P) (ht : t < 8) : ∀ k, k ≤ 6 → ∀ x, x < 8 → lenM S P x t = nI k → ∃ v, v ≤ 50 * k ∧ tolM S P t k x = nI v := by
  intro k
  induction k with
  | zero => intro _ x _ _; exact ⟨0, by omega, nI_0.symm⟩
  | succ k ih =>
    intro hk x hx hlen
    exact (miM_val hL hT hk hlen (ih (by omega)) P (Nat.le_refl _)).1 (bg_ex hL hP hx ht (by omega) hlen)
/-- what is known of the punts from x, when all up to n is found -/
def Fw (S : Mem) (P t n x : Nat) (v : Int32) : Prop := (∃ k, k ≤ n ∧ lenM S P x t = nI k ∧ v = nI k) ∨ ((∀ k, k ≤ n → lenM S P x t ≠ nI k) ∧ v = -1)
theorem Fw.up {S : Mem} {P t n x : Nat} {v : Int32} (h : Fw S P t n x v) (hn : lenM S P x t ≠ nI (n + 1)) : Fw S P t (n + 1) x v := by
  rcases h with ⟨k, a, b⟩ | ⟨a, b⟩
  · exact Or.inl ⟨k, by omega, b⟩
  · refine Or.inr ⟨fun k hk => ?_, b⟩
    by_cases e : k = n + 1
    · rw [e]; exact hn
    · exact a k (by omega)
theorem Fw.at {S : Mem} {P t n x k : Nat} {v : Int32} (h : Fw S P t n x v) (hk : k < 100) (hn : n < 100) : (v = nI k → lenM S P x t = nI k) ∧ (k ≤ n → lenM S P x t = nI k → v = nI k) := by
  rcases h with ⟨k', a, b, c⟩ | ⟨a, b⟩
  · refine ⟨fun e => ?_, fun _ e => ?_⟩
    · rw [b, ← c, e]
    · rw [c, ← b, e]
  · refine ⟨fun e => ?_, fun h1 e => absurd e (a k h1)⟩
    rw [b] at e; exact absurd e.symm (nI_neg (by omega))
def KI (S : Mem) (P L t m l p : Nat) (f g : Nat → Int32) : Prop :=
  (∀ x, x < l → x < L → Fw S P t (m + 1) x (f x)) ∧ (∀ x, l < x → x < L → Fw S P t m x (f x)) ∧
  (l < L → (lenM S P l t = nI (m + 1) ∧ (∃ j, j < p ∧ bgM S P j l t = true) ∧ f l = nI (m + 1) ∧ g l = miM S P t (tolM S P t m) l p) ∨ (¬ (lenM S P l t = nI (m + 1) ∧ ∃ j, j < p ∧ bgM S P j l t = true) ∧ Fw S P t m l (f l))) ∧
  (∀ x, x < L → ∀ k, k ≤ m → lenM S P x t = nI k → g x = tolM S P t k x) ∧ (∀ x, x < l → x < L → lenM S P x t = nI (m + 1) → g x = tolM S P t (m + 1) x)
theorem KI.init {S : Mem} {P L t : Nat} {f g : Nat → Int32} (hL : Lnk S P L) (hL8 : L ≤ 8) (hP : P ≤ 6) (ht : t < L) (hf : ∀ x, x < L → f x = if x = t then 0 else -1) (hg : g t = 0) : KI S P L t 0 0 0 f g := by
  have hd := DL.ex (hL.mono hL8) hP (show t < 8 by omega)
  have fw : ∀ x, x < L → Fw S P t 0 x (f x) := fun x hx => by
    rw [hf x hx]
    by_cases e : x = t
    · subst e; exact Or.inl ⟨0, Nat.le_refl _, hd.2.2.1, by rw [if_pos rfl, nI_0]⟩
    · refine Or.inr ⟨fun k hk q => e (hd.2.1 x (by omega) (q.trans (by rw [show k = 0 by omega]))), if_neg e⟩
  refine ⟨fun x hx => by omega, fun x _ hx => fw x hx, fun hl => Or.inr ⟨fun ⟨_, j, hj, _⟩ => absurd hj (Nat.not_lt_zero _), fw 0 hl⟩, fun x hx k hk hlen => ?_, fun x hx => by omega⟩
  obtain rfl : k = 0 := by omega
  obtain rfl := hd.2.1 x (by omega) hlen
  exact hg
theorem KI.nextL {S : Mem} {P L t m l : Nat} {f g : Nat → Int32} (hL : Lnk S P L) (hL8 : L ≤ 8) (hP : P ≤ 6) (ht : t < L) (hm : m + 1 < 100) (hl : l < L) (h : KI S P L t m l P f g) : KI S P L t m (l + 1) 0 f g := by
  obtain ⟨h1, h2, h3, h4, h5⟩ := h
  have hL8' := hL.mono hL8
  have h3 := h3 hl
  have ex : lenM S P l t = nI (m + 1) → ∃ j, j < P ∧ bgM S P j l t = true := fun e => by
    rcases lenM_val hL8' hP (show l < 8 by omega) (show t < 8 by omega) with q | ⟨k, q1, q2⟩
    · rw [e] at q; exact absurd q (nI_neg (by omega))
    · have := nI_inj (by omega) (by omega) (e.symm.trans q2)
      exact bg_ex hL8' hP (by omega) (by omega) (by omega) e
  refine ⟨fun x hx hxL => ?_, fun x hx hxL => h2 x (by omega) hxL, fun hl1 => Or.inr ⟨fun ⟨_, j, hj, _⟩ => absurd hj (Nat.not_lt_zero _), h2 _ (by omega) hl1⟩, h4, fun x hx hxL hlen => ?_⟩
  · by_cases e : x = l
    · subst e
      rcases h3 with ⟨a, b, c, d⟩ | ⟨a, b⟩
      · exact Or.inl ⟨m + 1, Nat.le_refl _, a, c⟩
      · exact b.up (fun q => a ⟨q, ex q⟩)
    · exact h1 x (by omega) hxL
  · by_cases e : x = l
    · subst e
      rcases h3 with ⟨a, b, c, d⟩ | ⟨a, b⟩
      · exact d
      · exact absurd ⟨hlen, ex hlen⟩ a
    · exact h5 x (by omega) hxL hlen
theorem KI.here {S : Mem} {P L t m l : Nat} {f g : Nat → Int32} (h : KI S P L t m l 0 f g) (hl : l < L) : Fw S P t m l (f l) := by
  rcases h.2.2.1 hl with ⟨_, ⟨j, hj, _⟩, _⟩ | ⟨_, b⟩
  · exact absurd hj (Nat.not_lt_zero _)
  · exact b
theorem KI.skip {S : Mem} {P L t m l : Nat} {f g : Nat → Int32} (h : KI S P L t m l 0 f g) (hm : m + 1 < 100) (hl : l < L) (hf : ¬ f l = -1) : KI S P L t m l P f g := by
  have hh := h.here hl
  obtain ⟨h1, h2, h3, h4, h5⟩ := h
  refine ⟨h1, h2, fun _ => Or.inr ⟨fun ⟨a, _⟩ => ?_, hh⟩, h4, h5⟩
  rcases hh with ⟨k, b, c, d⟩ | ⟨b, c⟩
  · have := nI_inj (by omega) (by omega) (a.symm.trans c); omega
  · exact hf c
/-- not skipped: nothing is known of it yet -/
theorem KI.free {S : Mem} {P L t m l : Nat} {f g : Nat → Int32} (h : KI S P L t m l 0 f g) (hm : m + 1 < 100) (hl : l < L) (hf : f l = -1 ∨ ¬ f l < nI (m + 1)) : ∀ k, k ≤ m → lenM S P l t ≠ nI k := by
  rcases h.here hl with ⟨k, b, c, d⟩ | ⟨b, c⟩
  · exfalso
    rw [d] at hf
    rcases hf with q | q
    · exact nI_neg (by omega) q
    · exact q (nI_lt (by omega) (by omega))
  · exact b
theorem KI.pno {S : Mem} {P L t m l p : Nat} {f g : Nat → Int32} (hL : Lnk S P L) (hL8 : L ≤ 8) (hP : P ≤ 6) (ht : t < L) (hm : m + 1 < 100) (hl : l < L) (hp : p < P) (h : KI S P L t m l p f g) (hc : ∀ o, acrI S p l = nI o → o < L → ¬ f o = nI m) : KI S P L t m l (p + 1) f g := by
  obtain ⟨h1, h2, h3, h4, h5⟩ := h
  have hL8' := hL.mono hL8
  have nb : lenM S P l t = nI (m + 1) → bgM S P p l t = false := fun hlen => by
    cases hb : bgM S P p l t with
    | false => rfl
    | true =>
      exfalso
      have hm8 : m + 1 < 8 := by
        rcases lenM_val hL8' hP (show l < 8 by omega) (show t < 8 by omega) with q | ⟨k, q1, q2⟩
        · rw [hlen] at q; exact absurd q (nI_neg (by omega))
        · have := nI_inj (by omega) (by omega) (hlen.symm.trans q2); omega
      obtain ⟨a, b⟩ := (bgM_spec hm8 hlen).mp hb
      rcases acr_cases hL hL8 hp (show l < 8 by omega) with ⟨c1, c2, c3, c4, c5⟩ | ⟨c1, c2⟩
      · refine hc _ c1 c2 ?_
        by_cases e : othN S p l < l
        · exact ((h1 _ e c2).at (by omega) (by omega)).2 (by omega) b
        · exact ((h2 _ (by omega) c2).at (by omega) (by omega)).2 (by omega) b
      · exact c2 a
  refine ⟨h1, h2, fun _ => ?_, h4, h5⟩
  rcases h3 hl with ⟨a, ⟨j, hj, hb⟩, c, d⟩ | ⟨a, b⟩
  · refine Or.inl ⟨a, ⟨j, by omega, hb⟩, c, d.trans ?_⟩
    show _ = (if bgM S P p l t = true then _ else _)
    rw [if_neg (by rw [nb a]; exact Bool.false_ne_true)]
  · refine Or.inr ⟨fun ⟨q1, j, hj, hb⟩ => ?_, b⟩
    by_cases e : j = p
    · subst e; rw [nb q1] at hb; cases hb
    · exact a ⟨q1, j, by omega, hb⟩
theorem KI.pyes {S : Mem} {P L t m l p o : Nat} {f g : Nat → Int32} (hL : Lnk S P L) (hL8 : L ≤ 8) (hP : P ≤ 6) (hT : TlW S P) (ht : t < L) (hm : m + 1 < 100) (hl : l < L) (hp : p < P) (hno : ∀ k, k ≤ m → lenM S P l t ≠ nI k) (h : KI S P L t m l p f g) (ho : acrI S p l = nI o) (hoL : o < L) (hfo : f o = nI m) :
    KI S P L t m l (p + 1) (upd f l (nI (m + 1))) (upd g l (if f l = nI (m + 1) then (if g o + S 9 p < g l then g o + S 9 p else g l) else g o + S 9 p)) := by
  obtain ⟨h1, h2, h3, h4, h5⟩ := h
  have hL8' := hL.mono hL8
  have hd := DL.ex hL8' hP (show t < 8 by omega)
  rcases acr_cases hL hL8 hp (show l < 8 by omega) with ⟨c1, c2, c3, c4, c5⟩ | ⟨c1, -⟩
  · obtain rfl : o = othN S p l := nI_inj (by omega) (by omega) (ho.symm.trans c1)
    have hlo : lenM S P (othN S p l) t = nI m := by
      by_cases e : othN S p l < l
      · exact ((h1 _ e c2).at (by omega) (by omega)).1 hfo
      · exact ((h2 _ (by omega) c2).at (by omega) (by omega)).1 hfo
    have hm8 : m < 8 := by
      rcases hd.1 (othN S p l) (by omega) with q | ⟨k, q1, q2⟩
      · exact absurd (hlo.symm.trans q) (nI_neg (by omega))
      · have := nI_inj (by omega) (by omega) (hlo.symm.trans q2); omega
    obtain ⟨j, j1, j2, j3⟩ := hd.2.2.2.2 (othN S p l) (by omega) m hm8 hlo l (by omega) ⟨p, hp, c5.symm⟩
    have hlen : lenM S P l t = nI (m + 1) := by
      by_cases e : j = m + 1
      · rw [← e]; exact j3
      · exact absurd j3 (hno j (by omega))
    have hm8' : m + 1 < 8 := by
      by_cases e : j = m + 1
      · omega
      · exact absurd j3 (hno j (by omega))
    have hm6 := lenM_P hL8' hP (show l < 8 by omega) (show t < 8 by omega) hm8' hlen
    have hb : bgM S P p l t = true := (bgM_spec hm8' hlen).mpr ⟨c4, hlo⟩
    have hgo : g (othN S p l) = tolM S P t m (othN S p l) := h4 _ c2 m (Nat.le_refl _) hlo
    have mi : miM S P t (tolM S P t m) l (p + 1) = if S 9 p + tolM S P t m (othN S p l) < miM S P t (tolM S P t m) l p then S 9 p + tolM S P t m (othN S p l) else miM S P t (tolM S P t m) l p := if_pos hb
    have hne : ∀ x, x ≠ l → upd f l (nI (m + 1)) x = f x := fun x hx => if_neg hx
    have hneg : ∀ x v, x ≠ l → upd g l v x = g x := fun x v hx => if_neg hx
    refine ⟨fun x hx hxL => by rw [hne x (by omega)]; exact h1 x hx hxL, fun x hx hxL => by rw [hne x (by omega)]; exact h2 x hx hxL, fun _ => Or.inl ⟨hlen, ⟨p, by omega, hb⟩, if_pos rfl, ?_⟩, fun x hx k hk hlx => ?_, fun x hx hxL hlx => by rw [hneg x _ (by omega)]; exact h5 x hx hxL hlx⟩
    · show upd g l _ l = _
      rw [show ∀ v, upd g l v l = v from fun v => if_pos rfl, mi, hgo, Int32.add_comm (tolM S P t m (othN S p l)) (S 9 p)]
      rcases h3 hl with ⟨a, b, c, d⟩ | ⟨a, b⟩
      · rw [if_pos c, d]
      · have hfl : ¬ f l = nI (m + 1) := by
          rcases b with ⟨k, b1, b2, b3⟩ | ⟨_, b2⟩
          · exact absurd b2 (hno k b1)
          · rw [b2]; exact fun q => nI_neg (by omega) q.symm
        rw [if_neg hfl]
        have hno2 : ∀ j, j < p → bgM S P j l t = false := fun j hj => by
          cases hbj : bgM S P j l t with
          | false => rfl
          | true => exact absurd ⟨hlen, j, hj, hbj⟩ a
        have hv := tolM_val hL8' hP hT (show t < 8 by omega)
        rw [(miM_val hL8' hT (by omega) hlen (hv m (by omega)) p (by omega)).2 hno2]
        obtain ⟨v1, a1, a2⟩ := hT p hp
        obtain ⟨v2, b1, b2⟩ := hv m (by omega) _ (by omega) hlo
        rw [a2, b2, nI_add]
        split
        · rfl
        · rename_i hlt
          rw [nI_ltI (by omega) (by omega)] at hlt
          congr 1; omega
    · have : x ≠ l := by rintro rfl; exact hno k hk hlx
      rw [hneg x _ this]
      exact h4 x hx k hk hlx
  · rw [ho] at c1; exact absurd c1 (nI_neg (by omega))
theorem KI.up {S : Mem} {P L t m : Nat} {f g : Nat → Int32} (h : KI S P L t m L 0 f g) : KI S P L t (m + 1) 0 0 f g := by
  obtain ⟨h1, h2, h3, h4, h5⟩ := h
  refine ⟨fun x hx => by omega, fun x _ hx => h1 x hx hx, fun hl => Or.inr ⟨fun ⟨_, j, hj, _⟩ => absurd hj (Nat.not_lt_zero _), h1 0 hl hl⟩, fun x hx k hk hlen => ?_, fun x hx => by omega⟩
  by_cases e : k = m + 1
  · subst e; exact h5 x hx hx hlen
  · exact h4 x hx k (by omega) hlen
theorem KI.done {S : Mem} {P L t : Nat} {f g : Nat → Int32} (hL : Lnk S P L) (hL8 : L ≤ 8) (hP : P ≤ 6) (ht : t < L) (h : KI S P L t L 0 0 f g) : (∀ x, x < L → f x = lenM S P x t) ∧ ∀ x, x < L → ∀ k, k < 8 → lenM S P x t = nI k → g x = tolM S P t k x := by
  obtain ⟨h1, h2, h3, h4, h5⟩ := h
  have fw : ∀ x, x < L → Fw S P t L x (f x) := fun x hx => by
    by_cases e : x = 0
    · subst e
      rcases h3 hx with ⟨_, ⟨j, hj, _⟩, _⟩ | ⟨_, b⟩
      · exact absurd hj (Nat.not_lt_zero _)
      · exact b
    · exact h2 x (by omega) hx
  have lt := fun x k hx hk h => lenM_L hL hL8 hP (x := x) (k := k) hx (show t < 8 by omega) hk h
  refine ⟨fun x hx => ?_, fun x hx k hk hlen => h4 x hx k (by have := lt x k hx hk hlen; omega) hlen⟩
  rcases fw x hx with ⟨k, a, b, c⟩ | ⟨a, b⟩
  · rw [b, c]
  · rcases lenM_val (hL.mono hL8) hP (show x < 8 by omega) (show t < 8 by omega) with q | ⟨k, q1, q2⟩
    · rw [b, q]
    · exact absurd q2 (a k (by have := lt x k hx q1 q2; omega))
/-- the punt that one takes, by the reference's words -/
theorem fst_step {S : Mem} {P L x t p : Nat} (hL : Lnk S P L) (hL8 : L ≤ 8) (hP : P ≤ 6) (hp : p < P) (hx : x < L) (ht : t < L) (hxt : x ≠ t) (hne : ¬ lenM S P x t = -1) : bgM S P p x t = true ↔ ∃ o, acrI S p x = nI o ∧ o < L ∧ lenM S P o t = lenM S P x t - 1 := by
  have hL8' := hL.mono hL8
  rcases lenM_val hL8' hP (show x < 8 by omega) (show t < 8 by omega) with q | ⟨k, q1, q2⟩
  · exact absurd q hne
  · have hk : k ≠ 0 := by rintro rfl; exact hxt ((DL.ex hL8' hP (show t < 8 by omega)).2.1 x (by omega) q2)
    obtain ⟨k, rfl⟩ : ∃ k', k = k' + 1 := ⟨k - 1, by omega⟩
    rw [bgM_spec q1 q2, q2, nI_pred]
    rcases acr_cases hL hL8 hp (show x < 8 by omega) with ⟨c1, c2, c3, c4, c5⟩ | ⟨c1, c2⟩
    · refine ⟨fun h => ⟨_, c1, c2, h.2⟩, fun ⟨o, o1, o2, o3⟩ => ⟨c4, ?_⟩⟩
      obtain rfl : o = othN S p x := nI_inj (by omega) (by omega) (o1.symm.trans c1)
      exact o3
    · refine ⟨fun h => absurd h.1 c2, fun ⟨o, o1, o2, o3⟩ => ?_⟩
      rw [o1] at c1; exact absurd c1 (nI_neg (by omega))
/-- none, where there is no chain, or one is there -/
theorem fst_none {S : Mem} {P L x t : Nat} (hL : Lnk S P L) (hL8 : L ≤ 8) (hP : P ≤ 6) (hx : x < L) (ht : t < L) (h : x = t ∨ lenM S P x t = -1) (p : Nat) : bgM S P p x t = false := by
  cases hb : bgM S P p x t with
  | false => rfl
  | true =>
    have h0 := bgM_pos hb
    rcases h with rfl | h
    · rw [show lenM S P x x = nI 0 from (DL.ex (hL.mono hL8) hP (show x < 8 by omega)).2.2.1, nI_0] at h0
      exact absurd h0 (by decide)
    · rw [h] at h0; exact absurd h0 (by decide)
