/-! THE WAVE, on numbers alone: what the reference's search leaves is the map of distances. -/
def LWv (ok : Nat → Bool) (e q i d : Nat) (w : Nat → Int32) (b : Bool) : Prop :=
  (∀ c, c < 196 → w c = -1 ∨ ∃ k, k ≤ q + 1 ∧ w c = nI k ∧ ok c = true) ∧
  (∀ c, c < 196 → w c = nI 0 → c = e) ∧ (w e = nI 0) ∧
  (∀ c, c < 196 → ∀ k, k ≤ q → w c = nI (k + 1) → ∃ d o, d < 4 ∧ besN c d = some o ∧ w o = nI k) ∧
  (∀ c, c < 196 → ∀ k, k < q → w c = nI k → ∀ d, d < 4 → ∀ o, besN c d = some o → ok o = true → ∃ j, j ≤ k + 1 ∧ w o = nI j) ∧
  (∀ c, c < 196 → w c = nI q → ∀ d', d' < 4 → (c < i ∨ (c = i ∧ d' < d)) → ∀ o, besN c d' = some o → ok o = true → ∃ j, j ≤ q + 1 ∧ w o = nI j) ∧
  (b = false → ∀ c, c < 196 → w c ≠ nI (q + 1)) ∧ (b = true → ∃ c, c < 196 ∧ w c = nI (q + 1))
theorem LWv.init {ok : Nat → Bool} {e : Nat} {w : Nat → Int32} (he : e < 196) (ho : ok e = true) (hw : ∀ c, c < 196 → w c = -1) : LWv ok e 0 0 0 (upd w e 0) false := by
  have val : ∀ c, c < 196 → (c = e ∧ upd w e 0 c = nI 0) ∨ (c ≠ e ∧ upd w e 0 c = -1) := fun c hc => by
    unfold upd
    by_cases h : c = e
    · exact Or.inl ⟨h, by rw [if_pos h, nI_0]⟩
    · exact Or.inr ⟨h, by rw [if_neg h]; exact hw c hc⟩
  refine ⟨fun c hc => ?_, fun c hc hz => ?_, ?_, fun c hc k hk hz => ?_, fun c hc k hk => by omega, fun c hc hz d' hd' h => by omega, fun _ c hc hz => ?_, fun h => by cases h⟩
  · rcases val c hc with ⟨h1, h2⟩ | ⟨h1, h2⟩
    · exact Or.inr ⟨0, by omega, h2, by rw [h1]; exact ho⟩
    · exact Or.inl h2
  · rcases val c hc with ⟨h1, h2⟩ | ⟨h1, h2⟩
    · exact h1
    · rw [hz] at h2; exact absurd h2 (nI_neg (by omega))
  · rcases val e he with ⟨h1, h2⟩ | ⟨h1, h2⟩
    · exact h2
    · exact absurd rfl h1
  · rcases val c hc with ⟨h1, h2⟩ | ⟨h1, h2⟩
    · have := nI_inj (by omega) (by omega) (hz.symm.trans h2); omega
    · rw [hz] at h2; exact absurd h2 (nI_neg (by omega))
  · rcases val c hc with ⟨h1, h2⟩ | ⟨h1, h2⟩
    · have := nI_inj (by omega) (by omega) (hz.symm.trans h2); omega
    · rw [hz] at h2; exact absurd h2 (nI_neg (by omega))
theorem LWv.skip {ok : Nat → Bool} {e q i : Nat} {w : Nat → Int32} {b : Bool} (h : LWv ok e q i 0 w b) (hn : ¬ w i = nI q) : LWv ok e q (i + 1) 0 w b := by
  obtain ⟨h1, h2, h3, h4, h5, h6, h7⟩ := h
  refine ⟨h1, h2, h3, h4, h5, fun c hc hz d' hd' hp => ?_, h7⟩
  by_cases e : c = i
  · subst e; exact absurd hz hn
  · exact h6 c hc hz d' hd' (by omega)
theorem LWv.nextI {ok : Nat → Bool} {e q i : Nat} {w : Nat → Int32} {b : Bool} (h : LWv ok e q i 4 w b) : LWv ok e q (i + 1) 0 w b := by
  obtain ⟨h1, h2, h3, h4, h5, h6, h7⟩ := h
  exact ⟨h1, h2, h3, h4, h5, fun c hc hz d' hd' hp => h6 c hc hz d' hd' (by omega), h7⟩
theorem LWv.no {ok : Nat → Bool} {e q i d : Nat} {w : Nat → Int32} {b : Bool} (h : LWv ok e q i d w b) (hi : i < 196) (hd : d < 4) (hs : ∀ o, besN i d = some o → w o = -1 → ok o = false) : LWv ok e q i (d + 1) w b := by
  obtain ⟨h1, h2, h3, h4, h5, h6, h7⟩ := h
  refine ⟨h1, h2, h3, h4, h5, fun c hc hz d' hd' hp o hb hok => ?_, h7⟩
  by_cases e : c = i ∧ d' = d
  · obtain ⟨rfl, rfl⟩ := e
    rcases h1 o (besN_lt hc hd hb) with g | ⟨k, g1, g2, -⟩
    · have := hs o hb g; rw [hok] at this; cases this
    · exact ⟨k, g1, g2⟩
  · exact h6 c hc hz d' hd' (by omega) o hb hok
theorem LWv.push {ok : Nat → Bool} {e q i d o : Nat} {w : Nat → Int32} {b : Bool} (h : LWv ok e q i d w b) (hq : q < 1000) (hi : i < 196) (hd : d < 4) (hw : w i = nI q) (hb : besN i d = some o) (ho : w o = -1) (hok : ok o = true) : LWv ok e q i (d + 1) (upd w o (nI (q + 1))) true := by
  obtain ⟨h1, h2, h3, h4, h5, h6, h7⟩ := h
  have ho196 := besN_lt hi hd hb
  have hup : ∀ c k, k < 2 ^ 31 → w c = nI k → upd w o (nI (q + 1)) c = nI k := fun c k hk hz => by
    unfold upd
    by_cases e : c = o
    · rw [e, ho] at hz; exact absurd hz.symm (nI_neg hk)
    · rw [if_neg e]; exact hz
  have hdn : ∀ c k, k ≠ q + 1 → k < 2 ^ 31 → upd w o (nI (q + 1)) c = nI k → w c = nI k := fun c k hk hk2 hz => by
    unfold upd at hz
    by_cases e : c = o
    · rw [if_pos e] at hz; exact absurd (nI_inj (by omega) hk2 hz).symm hk
    · rw [if_neg e] at hz; exact hz
  refine ⟨fun c hc => ?_, fun c hc hz => h2 c hc (hdn c 0 (by omega) (by omega) hz), hup e 0 (by omega) h3, fun c hc k hk hz => ?_, fun c hc k hk hz d2 hd2 o2 hb2 hok2 => ?_, fun c hc hz d2 hd2 hp o2 hb2 hok2 => ?_, (fun h => by cases h), fun _ => ⟨o, ho196, by simp [upd]⟩⟩
  · by_cases e : c = o
    · exact Or.inr ⟨q + 1, Nat.le_refl _, by simp [upd, e], by rw [e]; exact hok⟩
    · rcases h1 c hc with g | ⟨k, g1, g2, g3⟩
      · exact Or.inl (by simp [upd, e, g])
      · exact Or.inr ⟨k, g1, hup c k (by omega) g2, g3⟩
  · by_cases e : c = o
    · subst e
      have e2 : upd w c (nI (q + 1)) c = nI (q + 1) := by simp [upd]
      have : k = q := by have := nI_inj (by omega) (by omega) (e2.symm.trans hz); omega
      subst this
      obtain ⟨d', hd', hb'⟩ := besN_sym hi hd hb
      exact ⟨d', i, hd', hb', hup i k (by omega) hw⟩
    · obtain ⟨d', o', g1, g2, g3⟩ := h4 c hc k hk (by unfold upd at hz; rw [if_neg e] at hz; exact hz)
      exact ⟨d', o', g1, g2, hup o' k (by omega) g3⟩
  · obtain ⟨j, g1, g2⟩ := h5 c hc k hk (hdn c k (by omega) (by omega) hz) d2 hd2 o2 hb2 hok2
    exact ⟨j, g1, hup o2 j (by omega) g2⟩
  · have hz' := hdn c q (by omega) (by omega) hz
    by_cases e : c = i ∧ d2 = d
    · obtain ⟨rfl, rfl⟩ := e
      rw [hb] at hb2
      cases hb2
      exact ⟨q + 1, Nat.le_refl _, by simp [upd]⟩
    · obtain ⟨j, g1, g2⟩ := h6 c hc hz' d2 hd2 (by omega) o2 hb2 hok2
      exact ⟨j, g1, hup o2 j (by omega) g2⟩
/-- a cell of each lesser level -/
theorem LWv.down {ok : Nat → Bool} {e q i d : Nat} {w : Nat → Int32} {b : Bool} (h : LWv ok e q i d w b) : ∀ k c, c < 196 → k ≤ q + 1 → w c = nI k → ∃ u : Nat → Nat, ∀ j, j ≤ k → u j < 196 ∧ w (u j) = nI j := by
  intro k
  induction k with
  | zero => intro c hc _ hz; exact ⟨fun _ => c, fun j hj => ⟨hc, by rw [show j = 0 by omega]; exact hz⟩⟩
  | succ k ih =>
    intro c hc hk hz
    obtain ⟨d, o, hd, hb, ho⟩ := h.2.2.2.1 c hc k (by omega) hz
    obtain ⟨u, hu⟩ := ih o (besN_lt hc hd hb) (by omega) ho
    refine ⟨fun j => if j = k + 1 then c else u j, fun j hj => ?_⟩
    show (if j = k + 1 then c else u j) < 196 ∧ w (if j = k + 1 then c else u j) = nI j
    by_cases e : j = k + 1
    · rw [if_pos e, e]; exact ⟨hc, hz⟩
    · rw [if_neg e]; exact hu j (by omega)
theorem LWv.lt {ok : Nat → Bool} {e q i d k c : Nat} {w : Nat → Int32} {b : Bool} (h : LWv ok e q i d w b) (hq : q < 1000) (hc : c < 196) (hk : k ≤ q + 1) (hz : w c = nI k) : k < 196 := by
  obtain ⟨u, hu⟩ := h.down k c hc hk hz
  have := pig 196 (k + 1) u (fun j hj => (hu j (by omega)).1) (fun j j' hj hj' e => by
    have h1 := (hu j (by omega)).2
    rw [e, (hu j' (by omega)).2] at h1
    exact (nI_inj (by omega) (by omega) h1).symm)
  omega
theorem LWv.up {ok : Nat → Bool} {e q : Nat} {w : Nat → Int32} (h : LWv ok e q 196 0 w true) (hq : q < 1000) : LWv ok e (q + 1) 0 0 w false := by
  obtain ⟨h1, h2, h3, h4, h5, h6, h7⟩ := h
  have no : ∀ c, c < 196 → w c ≠ nI (q + 2) := fun c hc hz => by
    rcases h1 c hc with g | ⟨k, g1, g2, -⟩
    · rw [hz] at g; exact absurd g (nI_neg (by omega))
    · have := nI_inj (by omega) (by omega) (hz.symm.trans g2); omega
  refine ⟨fun c hc => ?_, h2, h3, fun c hc k hk hz => ?_, fun c hc k hk hz d hd o hb hok => ?_, fun c hc hz d' hd' hp => by omega, fun _ c hc => no c hc, fun h => by cases h⟩
  · rcases h1 c hc with g | ⟨k, g1, g2⟩
    · exact Or.inl g
    · exact Or.inr ⟨k, by omega, g2⟩
  · by_cases e : k = q + 1
    · subst e; exact absurd hz (no c hc)
    · exact h4 c hc k (by omega) hz
  · by_cases e : k = q
    · subst e; exact h6 c hc hz d hd (Or.inl hc) o hb hok
    · exact h5 c hc k (by omega) hz d hd o hb hok
theorem LWv.done {ok : Nat → Bool} {e q : Nat} {w : Nat → Int32} (h : LWv ok e q 196 0 w false) (hq : q < 1000) : DS ok e w := by
  have hl := fun k c hc hk hz => h.lt (k := k) (c := c) hq hc hk hz
  obtain ⟨h1, h2, h3, h4, h5, h6, h7, -⟩ := h
  have val : ∀ c, c < 196 → ∀ k, k < 196 → w c = nI k → k ≤ q := fun c hc k hk hz => by
    rcases h1 c hc with g | ⟨k', g1, g2, -⟩
    · rw [hz] at g; exact absurd g (nI_neg (by omega))
    · have e := nI_inj (by omega) (by omega) (hz.symm.trans g2)
      by_cases e2 : k' = q + 1
      · rw [e2] at g2; exact absurd g2 (h7 rfl c hc)
      · omega
  refine ⟨fun c hc => ?_, h2, fun c hc k hk hz => ?_, fun _ => h3, fun c hc k hk hz d hd o hb hok => ?_⟩
  · rcases h1 c hc with g | ⟨k, g1, g2, g3⟩
    · exact Or.inl g
    · exact Or.inr ⟨k, hl k c hc g1 g2, g2, g3⟩
  · have := val c hc (k + 1) hk hz
    exact h4 c hc k (by omega) hz
  · have hkq := val c hc k hk hz
    have ho := besN_lt hc hd hb
    obtain ⟨j, g1, g2⟩ : ∃ j, j ≤ k + 1 ∧ w o = nI j := by
      by_cases e : k = q
      · subst e; exact h6 c hc hz d hd (Or.inl hc) o hb hok
      · exact h5 c hc k (by omega) hz d hd o hb hok
    exact ⟨j, g1, hl j o ho (by omega) g2, g2⟩
