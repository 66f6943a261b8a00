/-! WAYS, on numbers alone: what the search with a queue leaves is the map of distances, and there is one such map. -/
def besN (c d : Nat) : Option Nat := if d = 0 then (if c < 14 then none else some (c - 14)) else if d = 1 then (if c % 14 = 0 then none else some (c - 1)) else if d = 2 then (if c % 14 = 13 then none else some (c + 1)) else (if 182 ≤ c then none else some (c + 14))
def oI (o : Option Nat) : Int32 := match o with
  | none => -1
  | some k => nI k
theorem besI_N {c d : Nat} (hc : c < 196) (hd : d < 4) : besI (nI c) (nI d) = oI (besN c d) := by
  have h : ∀ c, c < 196 → ∀ d, d < 4 → besI (nI c) (nI d) = oI (besN c d) := by decide +kernel
  exact h c hc d hd
theorem besN_lt {c d o : Nat} (hc : c < 196) (hd : d < 4) (h : besN c d = some o) : o < 196 := by
  have h0 : ∀ c, c < 196 → ∀ d, d < 4 → ∀ o, besN c d = some o → o < 196 := by
    intro c hc d hd o h
    unfold besN at h
    split at h
    · split at h
      · cases h
      · cases h; omega
    · split at h
      · split at h
        · cases h
        · cases h; omega
      · split at h
        · split at h
          · cases h
          · cases h; omega
        · split at h
          · cases h
          · cases h; omega
  exact h0 c hc d hd o h
theorem besN_sym {c d o : Nat} (hc : c < 196) (hd : d < 4) (h : besN c d = some o) : ∃ d', d' < 4 ∧ besN o d' = some c := by
  unfold besN at h
  split at h
  · split at h
    · cases h
    · cases h
      exact ⟨3, by omega, by unfold besN; rw [if_neg (by omega), if_neg (by omega), if_neg (by omega), if_neg (by omega)]; congr 1; omega⟩
  · split at h
    · split at h
      · cases h
      · cases h
        exact ⟨2, by omega, by unfold besN; rw [if_neg (by omega), if_neg (by omega), if_pos rfl, if_neg (by omega)]; congr 1; omega⟩
    · split at h
      · split at h
        · cases h
        · cases h
          exact ⟨1, by omega, by unfold besN; rw [if_neg (by omega), if_pos rfl, if_neg (by omega)]; congr 1⟩
      · split at h
        · cases h
        · cases h
          exact ⟨0, by omega, by unfold besN; rw [if_pos rfl, if_neg (by omega)]; congr 1⟩
theorem nI_neg {k : Nat} (h : k < 2 ^ 31) : ¬ nI k = -1 := fun e => by
  have h1 := nI_pos h
  rw [e] at h1
  exact h1 (by decide)
theorem nI_inj {a b : Nat} (ha : a < 2 ^ 31) (hb : b < 2 ^ 31) (h : nI a = nI b) : a = b := (nI_eq ha hb).mp h
theorem oI_ne {o : Option Nat} (h : ¬ oI o = -1) : ∃ k, o = some k := by
  cases o with
  | none => exact absurd rfl h
  | some k => exact ⟨k, rfl⟩
/-- a map of distances from e over the cells that are ok -/
def DS (ok : Nat → Bool) (e : Nat) (w : Nat → Int32) : Prop :=
  (∀ c, c < 196 → w c = -1 ∨ ∃ k, k < 196 ∧ w c = nI k ∧ ok c = true) ∧
  (∀ c, c < 196 → w c = nI 0 → c = e) ∧
  (∀ c, c < 196 → ∀ k, k + 1 < 196 → w c = nI (k + 1) → ∃ d o, d < 4 ∧ besN c d = some o ∧ w o = nI k) ∧
  (ok e = true → w e = nI 0) ∧
  (∀ c, c < 196 → ∀ k, k < 196 → w c = nI k → ∀ d, d < 4 → ∀ o, besN c d = some o → ok o = true → ∃ j, j ≤ k + 1 ∧ j < 196 ∧ w o = nI j)
theorem DS.le {ok : Nat → Bool} {e : Nat} {w w' : Nat → Int32} (he : e < 196) (h : DS ok e w) (h' : DS ok e w') : ∀ k c, c < 196 → k < 196 → w c = nI k → ∃ j, j ≤ k ∧ j < 196 ∧ w' c = nI j := by
  intro k
  induction k with
  | zero =>
    intro c hc hk hw
    obtain rfl := h.2.1 c hc hw
    rcases h.1 c hc with h1 | ⟨_, _, _, h1⟩
    · rw [hw] at h1; exact absurd h1 (nI_neg (by omega))
    · exact ⟨0, Nat.le_refl _, by omega, h'.2.2.2.1 h1⟩
  | succ k ih =>
    intro c hc hk hw
    obtain ⟨d, o, hd, hb, ho⟩ := h.2.2.1 c hc k hk hw
    have ho196 := besN_lt hc hd hb
    obtain ⟨j, hj, hj2, hwj⟩ := ih o ho196 (by omega) ho
    obtain ⟨d', hd', hb'⟩ := besN_sym hc hd hb
    rcases h.1 c hc with h1 | ⟨_, _, _, h1⟩
    · rw [hw] at h1; exact absurd h1 (nI_neg (by omega))
    · obtain ⟨i, hi, hi2, hwi⟩ := h'.2.2.2.2 o ho196 j hj2 hwj d' hd' c hb' h1
      exact ⟨i, by omega, hi2, hwi⟩
theorem DS.uniq {ok : Nat → Bool} {e : Nat} {w w' : Nat → Int32} (he : e < 196) (h : DS ok e w) (h' : DS ok e w') {c : Nat} (hc : c < 196) : w c = w' c := by
  rcases h.1 c hc with h1 | ⟨k, hk, h1, -⟩
  · rcases h'.1 c hc with h2 | ⟨k, hk, h2, -⟩
    · rw [h1, h2]
    · obtain ⟨j, -, hj, hw⟩ := DS.le he h' h k c hc hk h2
      rw [hw] at h1
      exact absurd h1 (nI_neg (by omega))
  · obtain ⟨j, hj, hj2, hw⟩ := DS.le he h h' k c hc hk h1
    obtain ⟨i, hi, hi2, hw2⟩ := DS.le he h' h j c hc hj2 hw
    rw [hw2] at h1
    have := nI_inj (by omega) (by omega) h1
    rw [hw2, hw, show i = j by omega]
/-- THE map of distances -/
noncomputable def wayS (ok : Nat → Bool) (e : Nat) (c : Nat) : Int32 := @dite _ (∃ w, DS ok e w) (Classical.propDecidable _) (fun h => Classical.choose h c) (fun _ => -1)
theorem wayS_eq {ok : Nat → Bool} {e : Nat} {w : Nat → Int32} (he : e < 196) (h : DS ok e w) {c : Nat} (hc : c < 196) : w c = wayS ok e c := by
  have hx : ∃ w, DS ok e w := ⟨w, h⟩
  unfold wayS
  rw [dif_pos hx]
  exact DS.uniq he h (Classical.choose_spec hx) hc
theorem DS.none {ok : Nat → Bool} {e : Nat} (h : ok e = false) : DS ok e (fun _ => -1) :=
  ⟨fun _ _ => Or.inl rfl, fun _ _ h1 => absurd h1.symm (nI_neg (by omega)), fun _ _ k _ h1 => absurd h1.symm (nI_neg (by omega)), fun h1 => absurd (h.symm.trans h1) Bool.false_ne_true, fun _ _ k _ h1 => absurd h1.symm (nI_neg (by omega))⟩
/-- the holes' rule -/
theorem pig : ∀ (k m : Nat) (f : Nat → Nat), (∀ i, i < m → f i < k) → (∀ i j, i < m → j < m → f i = f j → i = j) → m ≤ k := by
  intro k
  induction k with
  | zero =>
    intro m f h _
    cases m with
    | zero => exact Nat.le_refl _
    | succ m => exact absurd (h 0 (by omega)) (by omega)
  | succ k ih =>
    intro m f h hi
    cases m with
    | zero => omega
    | succ m =>
      have := ih m (fun i => if f i = k then f m else f i) (fun i hm => by
        show (if f i = k then f m else f i) < k
        split
        · rename_i e
          have h1 := h m (by omega)
          have h2 : f m ≠ k := fun e2 => by have := hi i m (by omega) (by omega) (e.trans e2.symm); omega
          omega
        · have h1 := h i (by omega)
          omega) (fun i j hm hj he => by
        split at he
        · split at he
          · rename_i e1 e2; exact hi i j (by omega) (by omega) (e1.trans e2.symm)
          · have := hi m j (by omega) (by omega) he; omega
        · split at he
          · have := hi i m (by omega) (by omega) he; omega
          · exact hi i j (by omega) (by omega) he)
      omega
/-- the search's state: the first n of the queue g are found, i are done, and d ways of the next -/
def BI (ok : Nat → Bool) (e i d n : Nat) (w g : Nat → Int32) : Prop :=
  ∃ Q K : Nat → Nat,
  (∀ j, j < n → g j = nI (Q j) ∧ Q j < 196 ∧ w (Q j) = nI (K j) ∧ K j ≤ j ∧ ok (Q j) = true) ∧
  (∀ j j', j < n → j' < n → Q j = Q j' → j = j') ∧
  (∀ c, c < 196 → w c = -1 ∨ ∃ j, j < n ∧ Q j = c) ∧
  (∀ j j', j ≤ j' → j' < n → K j ≤ K j') ∧
  (i < n → ∀ j, j < n → K j ≤ K i + 1) ∧
  (∀ j d', j < n → (j < i ∨ (j = i ∧ d' < d)) → d' < 4 → ∀ o, besN (Q j) d' = some o → ok o = true → ∃ j', j' < n ∧ Q j' = o ∧ K j' ≤ K j + 1) ∧
  (∀ j, j < n → K j = 0 → Q j = e) ∧
  (∀ j k, j < n → K j = k + 1 → ∃ d o j', d < 4 ∧ besN (Q j) d = some o ∧ j' < n ∧ Q j' = o ∧ K j' = k) ∧
  (0 < n ∧ Q 0 = e ∧ K 0 = 0)
theorem BI.n_le {ok : Nat → Bool} {e i d n : Nat} {w g : Nat → Int32} (h : BI ok e i d n w g) : n ≤ 196 := by
  obtain ⟨Q, K, h1, h2, -⟩ := h
  exact pig 196 n Q (fun j hj => (h1 j hj).2.1) h2
theorem BI.done {ok : Nat → Bool} {e i n : Nat} {w g : Nat → Int32} (h : BI ok e i 0 n w g) (hi : n ≤ i) : DS ok e w := by
  have hn := h.n_le
  obtain ⟨Q, K, h1, h2, h3, h4, h5, h6, h7, h8, h9⟩ := h
  have idx : ∀ c k, c < 196 → k < 196 → w c = nI k → ∃ j, j < n ∧ Q j = c ∧ K j = k := by
    intro c k hc hk hw
    rcases h3 c hc with h | ⟨j, hj, hq⟩
    · rw [hw] at h; exact absurd h (nI_neg (by omega))
    · refine ⟨j, hj, hq, ?_⟩
      obtain ⟨-, -, a3, a4, -⟩ := h1 j hj
      rw [hq, hw] at a3
      exact (nI_inj (by omega) (by omega) a3).symm
  refine ⟨fun c hc => ?_, fun c hc hw => ?_, fun c hc k hk hw => ?_, fun _ => ?_, fun c hc k hk hw d hd o hb hok => ?_⟩
  · rcases h3 c hc with h | ⟨j, hj, hq⟩
    · exact Or.inl h
    · obtain ⟨-, -, a3, a4, a5⟩ := h1 j hj
      rw [hq] at a3 a5
      exact Or.inr ⟨K j, by omega, a3, a5⟩
  · obtain ⟨j, hj, hq, hk⟩ := idx c 0 hc (by omega) hw
    rw [← hq]; exact h7 j hj hk
  · obtain ⟨j, hj, hq, hkj⟩ := idx c (k + 1) hc hk hw
    obtain ⟨d, o, j', a1, a2, a3, a4, a5⟩ := h8 j k hj hkj
    rw [hq] at a2
    refine ⟨d, o, a1, a2, ?_⟩
    rw [← a4, (h1 j' a3).2.2.1, a5]
  · obtain ⟨a1, a2, a3⟩ := h9
    rw [← a2, (h1 0 a1).2.2.1, a3]
  · obtain ⟨j, hj, hq, hkj⟩ := idx c k hc hk hw
    obtain ⟨j', a1, a2, a3⟩ := h6 j d hj (Or.inl (by omega)) hd o (by rw [hq]; exact hb) hok
    obtain ⟨-, -, b3, b4, -⟩ := h1 j' a1
    exact ⟨K j', by omega, by omega, by rw [← a2]; exact b3⟩
theorem BI.next {ok : Nat → Bool} {e i n : Nat} {w g : Nat → Int32} (h : BI ok e i 4 n w g) (hi : i < n) : BI ok e (i + 1) 0 n w g := by
  obtain ⟨Q, K, h1, h2, h3, h4, h5, h6, h7⟩ := h
  refine ⟨Q, K, h1, h2, h3, h4, fun hi1 j hj => ?_, fun j d' hj hd hd4 => h6 j d' hj ?_ hd4, h7⟩
  · have a := h5 hi j hj
    have b := h4 i (i + 1) (by omega) hi1
    omega
  · rcases hd with a | ⟨-, a⟩
    · by_cases h : j = i
      · exact Or.inr ⟨h, hd4⟩
      · exact Or.inl (by omega)
    · omega
theorem BI.skip {ok : Nat → Bool} {e i d n : Nat} {w g : Nat → Int32} (h : BI ok e i d n w g) (hi : i < n) (hs : ∀ c, g i = nI c → c < 196 → ∀ o, besN c d = some o → w o = -1 → ok o = false) (hd : d < 4) : BI ok e i (d + 1) n w g := by
  obtain ⟨Q, K, h1, h2, h3, h4, h5, h6, h7⟩ := h
  refine ⟨Q, K, h1, h2, h3, h4, h5, fun j d' hj hdd hd4 o hb hok => ?_, h7⟩
  by_cases hc : j = i ∧ d' = d
  · obtain ⟨rfl, rfl⟩ := hc
    have ho := besN_lt (h1 j hj).2.1 hd4 hb
    rcases h3 o ho with a | ⟨j', a, b⟩
    · have := hs (Q j) (h1 j hj).1 (h1 j hj).2.1 o hb a
      rw [hok] at this; cases this
    · exact ⟨j', a, b, h5 hi j' a⟩
  · exact h6 j d' hj (by omega) hd4 o hb hok
theorem BI.push {ok : Nat → Bool} {e i d n c o k : Nat} {w g : Nat → Int32} (h : BI ok e i d n w g) (hi : i < n) (hd : d < 4) (hc : c < 196) (hg : g i = nI c) (hb : besN c d = some o) (hw : w o = -1) (hok : ok o = true) (hk : w c = nI k) (hk2 : k < 2 ^ 31) : n < 196 ∧ BI ok e i (d + 1) (n + 1) (upd w o (nI (k + 1))) (upd g n (nI o)) := by
  obtain ⟨Q, K, h1, h2, h3, h4, h5, h6, h7, h8, h9⟩ := h
  have hn0 : n ≤ 196 := pig 196 n Q (fun j hj => (h1 j hj).2.1) h2
  have hQi : Q i = c := nI_inj (by have := (h1 i hi).2.1; omega) (by omega) ((h1 i hi).1.symm.trans hg)
  have hKi : K i = k := nI_inj (by have := (h1 i hi).2.2.2.1; omega) hk2 (by rw [← (h1 i hi).2.2.1, hQi, hk])
  have ho : o < 196 := besN_lt hc hd hb
  have hne : ∀ j, j < n → Q j ≠ o := fun j hj e => by
    have := (h1 j hj).2.2.1
    rw [e, hw] at this
    exact nI_neg (by have := (h1 j hj).2.2.2.1; omega) this.symm
  have hn : n + 1 ≤ 196 := pig 196 (n + 1) (fun j => if j = n then o else Q j) (fun j hj => by
      show (if j = n then o else Q j) < 196
      split
      · exact ho
      · exact (h1 j (by omega)).2.1) (fun j j' hj hj' e => by
      split at e
      · split at e
        · omega
        · exact absurd e.symm (hne j' (by omega))
      · split at e
        · exact absurd e (hne j (by omega))
        · exact h2 j j' (by omega) (by omega) e)
  refine ⟨by omega, fun j => if j = n then o else Q j, fun j => if j = n then k + 1 else K j, ?_⟩
  have hQ : ∀ j, j < n → (if j = n then o else Q j) = Q j := fun j hj => if_neg (by omega)
  have hK : ∀ j, j < n → (if j = n then k + 1 else K j) = K j := fun j hj => if_neg (by omega)
  have hQn : (if n = n then o else Q n) = o := if_pos rfl
  have hKn : (if n = n then k + 1 else K n) = k + 1 := if_pos rfl
  have hKle : K i ≤ i := (h1 i hi).2.2.2.1
  dsimp only
  refine ⟨fun j hj => ?_, fun j j' hj hj' e => ?_, fun c' hc' => ?_, fun j j' hjj hj' => ?_, fun _ j hj => ?_, fun j d' hj hdd hd4 o' hb' hok' => ?_, fun j hj hz => ?_, fun j k' hj hz => ?_, ?_⟩
  · by_cases hjn : j = n
    · subst hjn
      rw [hQn, hKn]
      exact ⟨by simp [upd], ho, by simp [upd], by omega, hok⟩
    · have hj' : j < n := by omega
      rw [hQ j hj', hK j hj']
      obtain ⟨a1, a2, a3, a4, a5⟩ := h1 j hj'
      exact ⟨by simp [upd, hjn, a1], a2, by simp [upd, hne j hj', a3], a4, a5⟩
  · by_cases hjn : j = n
    · subst hjn
      by_cases hjn' : j' = j
      · exact hjn'.symm
      · rw [hQn, hQ j' (by omega)] at e
        exact absurd e.symm (hne j' (by omega))
    · rw [hQ j (by omega)] at e
      by_cases hjn' : j' = n
      · subst hjn'
        rw [hQn] at e
        exact absurd e (hne j (by omega))
      · rw [hQ j' (by omega)] at e
        exact h2 j j' (by omega) (by omega) e
  · by_cases hco : c' = o
    · exact Or.inr ⟨n, by omega, by rw [hQn, hco]⟩
    · rcases h3 c' hc' with a | ⟨j, a, b⟩
      · exact Or.inl (by simp [upd, hco, a])
      · exact Or.inr ⟨j, by omega, by rw [hQ j a]; exact b⟩
  · by_cases hjn' : j' = n
    · subst hjn'
      rw [hKn]
      by_cases hjn : j = j'
      · subst hjn; rw [hKn]; exact Nat.le_refl _
      · rw [hK j (by omega)]
        have := h5 hi j (by omega)
        omega
    · rw [hK j (by omega), hK j' (by omega)]
      exact h4 j j' hjj (by omega)
  · rw [hK i hi]
    by_cases hjn : j = n
    · subst hjn; rw [hKn]; omega
    · rw [hK j (by omega)]; exact h5 hi j (by omega)
  · by_cases hjn : j = n
    · omega
    · have hj2 : j < n := by omega
      rw [hQ j hj2] at hb'
      rw [hK j hj2]
      by_cases hcase : j = i ∧ d' = d
      · obtain ⟨rfl, rfl⟩ := hcase
        rw [hQi, hb] at hb'
        cases hb'
        exact ⟨n, by omega, hQn, by rw [hKn]; omega⟩
      · obtain ⟨j', a, b, c2⟩ := h6 j d' hj2 (by omega) hd4 o' hb' hok'
        exact ⟨j', by omega, by rw [hQ j' a]; exact b, by rw [hK j' a]; exact c2⟩
  · by_cases hjn : j = n
    · subst hjn; rw [hKn] at hz; omega
    · rw [hK j (by omega)] at hz
      rw [hQ j (by omega)]
      exact h7 j (by omega) hz
  · by_cases hjn : j = n
    · subst hjn
      rw [hKn] at hz
      rw [hQn]
      obtain ⟨d2, a, b⟩ := besN_sym hc hd hb
      exact ⟨d2, c, i, a, b, by omega, by rw [hQ i hi]; exact hQi, by rw [hK i hi]; omega⟩
    · have hj2 : j < n := by omega
      rw [hK j hj2] at hz
      rw [hQ j hj2]
      obtain ⟨d2, o2, j', a1, a2, a3, a4, a5⟩ := h8 j k' hj2 hz
      exact ⟨d2, o2, j', a1, a2, by omega, by rw [hQ j' a3]; exact a4, by rw [hK j' a3]; exact a5⟩
  · obtain ⟨a, b, c2⟩ := h9
    exact ⟨by omega, by rw [hQ 0 a]; exact b, by rw [hK 0 a]; exact c2⟩
