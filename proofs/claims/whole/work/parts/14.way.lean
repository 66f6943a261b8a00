/-! WAYS: what the class's search leaves in the row of all ways. -/
theorem BI.at {ok : Nat → Bool} {e i d n : Nat} {w g : Nat → Int32} (h : BI ok e i d n w g) (hi : i < n) : ∃ c k, c < 196 ∧ k < 196 ∧ g i = nI c ∧ w c = nI k := by
  have hn := h.n_le
  obtain ⟨Q, K, h1, -⟩ := h
  obtain ⟨a1, a2, a3, a4, -⟩ := h1 i hi
  exact ⟨Q i, K i, a2, by omega, a1, a3⟩
theorem DS.congr {ok : Nat → Bool} {e : Nat} {w w' : Nat → Int32} (he : e < 196) (h : DS ok e w) (hw : ∀ c, c < 196 → w' c = w c) : DS ok e w' := by
  obtain ⟨h1, h2, h3, h4, h5⟩ := h
  refine ⟨fun c hc => by rw [hw c hc]; exact h1 c hc, fun c hc hq => h2 c hc (by rw [← hw c hc]; exact hq), fun c hc k hk hq => ?_, fun ho => by rw [hw e he]; exact h4 ho, fun c hc k hk hq d hd o hb hok => ?_⟩
  · obtain ⟨d, o, a, b, c2⟩ := h3 c hc k hk (by rw [← hw c hc]; exact hq)
    exact ⟨d, o, a, b, by rw [hw o (besN_lt hc a b)]; exact c2⟩
  · obtain ⟨j, a, b, c2⟩ := h5 c hc k hk (by rw [← hw c hc]; exact hq) d hd o hb hok
    exact ⟨j, a, b, by rw [hw o (besN_lt hc hd hb)]; exact c2⟩
/-- the cells of a chart that begins at B -/
def vw (B : Nat) (f : Nat → Int32) : Nat → Int32 := fun c => f (B + c)
theorem vw_upd (B o : Nat) (f : Nat → Int32) (v : Int32) : vw B (upd f (B + o) v) = upd (vw B f) o v := by
  funext c
  unfold vw upd
  by_cases h : c = o
  · subst h; simp
  · rw [if_neg h, if_neg (by omega)]
theorem us_at {f : Nat → Int32} {B o : Nat} {v : Int32} (hB : B + 196 ≤ 58800) (ho : o < 196) : us f 58800 (nI B + nI o) v = upd f (B + o) v := by rw [nI_add, us_nI (by omega) (by decide)]
theorem rg_at {f : Nat → Int32} {B o : Nat} (hB : B + 196 ≤ 58800) (ho : o < 196) : rg f 58800 (nI B + nI o) = vw B f o := by rw [nI_add, rg_nI (by omega) (by decide)]; rfl
abbrev okS (S : Mem) (q lv : Int32) (c : Nat) : Bool := flt S q (nI c) lv
theorem drD_succ (S : Mem) (ch q lv x : Int32) (d : Nat) (s : Tri) : drD S ch q lv x (d + 1) s = if ¬ besI x (nI d) = -1 ∧ rg (drD S ch q lv x d s).1 58800 (ch + besI x (nI d)) = -1 ∧ flt S q (besI x (nI d)) lv = true then (us (drD S ch q lv x d s).1 58800 (ch + besI x (nI d)) (rg (drD S ch q lv x d s).1 58800 (ch + x) + 1), us (drD S ch q lv x d s).2.1 196 (drD S ch q lv x d s).2.2 (besI x (nI d)), (drD S ch q lv x d s).2.2 + 1) else drD S ch q lv x d s := rfl
theorem drD_BI {S : Mem} {q lv : Int32} {B e i n : Nat} (hB : B + 196 ≤ 58800) {t : Tri} (h : BI (okS S q lv) e i 0 n (vw B t.1) t.2.1) (hn : t.2.2 = nI n) (hi : i < n) : ∀ d, d ≤ 4 → ∃ n', BI (okS S q lv) e i d n' (vw B (drD S (nI B) q lv (rg t.2.1 196 (nI i)) d t).1) (drD S (nI B) q lv (rg t.2.1 196 (nI i)) d t).2.1 ∧ (drD S (nI B) q lv (rg t.2.1 196 (nI i)) d t).2.2 = nI n' ∧ i < n' ∧ (drD S (nI B) q lv (rg t.2.1 196 (nI i)) d t).2.1 i = t.2.1 i ∧ ∀ m, (m < B ∨ B + 196 ≤ m) → (drD S (nI B) q lv (rg t.2.1 196 (nI i)) d t).1 m = t.1 m := by
  have hn196 := h.n_le
  have hx : rg t.2.1 196 (nI i) = t.2.1 i := rg_nI (by omega) (by decide)
  rw [hx]
  intro d
  induction d with
  | zero => intro _; exact ⟨n, h, hn, hi, rfl, fun _ _ => rfl⟩
  | succ d ih =>
    intro hd
    obtain ⟨n', h', hn', hi', hg, hfr⟩ := ih (by omega)
    have hn2 := h'.n_le
    obtain ⟨c, k, hc, hk, hgc, hwk⟩ := h'.at hi'
    have hxc : t.2.1 i = nI c := hg.symm.trans hgc
    rw [drD_succ]
    generalize drD S (nI B) q lv (t.2.1 i) d t = t' at h' hn' hg hfr hgc hwk ⊢
    rw [hxc, besI_N hc (by omega)]
    split
    · rename_i hcond
      obtain ⟨c1, c2, c3⟩ := hcond
      obtain ⟨o, ho⟩ := oI_ne c1
      have ho196 := besN_lt hc (by omega) ho
      rw [ho] at c2 c3 ⊢
      change rg t'.1 58800 (nI B + nI o) = -1 at c2
      change flt S q (nI o) lv = true at c3
      rw [rg_at hB ho196] at c2
      obtain ⟨p1, p2⟩ := h'.push hi' (by omega) hc hgc ho c2 c3 hwk (by omega)
      refine ⟨n' + 1, ?_, ?_, by omega, ?_, fun m hm => ?_⟩
      · show BI _ e i (d + 1) (n' + 1) (vw B (us t'.1 58800 (nI B + nI o) (rg t'.1 58800 (nI B + nI c) + 1))) (us t'.2.1 196 t'.2.2 (nI o))
        rw [hn', us_nI p1 (by decide), us_at hB ho196, rg_at hB hc, hwk, nI_1, vw_upd]
        exact p2
      · show t'.2.2 + 1 = nI (n' + 1)
        rw [hn', nI_1]
      · show us t'.2.1 196 t'.2.2 (nI o) i = nI c
        rw [hn', us_nI p1 (by decide)]
        show (if i = n' then _ else t'.2.1 i) = _
        rw [if_neg (by omega)]
        exact hgc
      · show us t'.1 58800 (nI B + nI o) (rg t'.1 58800 (nI B + nI c) + 1) m = t.1 m
        rw [us_at hB ho196]
        show (if m = B + o then _ else t'.1 m) = _
        rw [if_neg (by omega)]
        exact hfr m hm
    · rename_i hcond
      refine ⟨n', h'.skip hi' (fun c' hc' hc196 o ho hwo => ?_) (by omega), hn', hi', hg.trans hxc, hfr⟩
      have : c' = c := nI_inj (by omega) (by omega) (hc'.symm.trans hgc)
      subst this
      rw [ho] at hcond
      have ho196 := besN_lt hc (by omega) ho
      cases hb : flt S q (nI o) lv with
      | false => exact hb
      | true => exact absurd ⟨nI_neg (by omega), by show rg t'.1 58800 (nI B + nI o) = -1; rw [rg_at hB ho196]; exact hwo, hb⟩ hcond
theorem drO_DS {S : Mem} {q lv : Int32} {B e : Nat} (hB : B + 196 ≤ 58800) : ∀ m i n (t : Tri), BI (okS S q lv) e i 0 n (vw B t.1) t.2.1 → t.2.2 = nI n → 196 ≤ i + m → DS (okS S q lv) e (vw B (drO S (nI B) q lv m i t).1) ∧ ∀ k, (k < B ∨ B + 196 ≤ k) → (drO S (nI B) q lv m i t).1 k = t.1 k := by
  intro m
  induction m with
  | zero =>
    intro i n t h hn hm
    have := h.n_le
    exact ⟨h.done (by omega), fun _ _ => rfl⟩
  | succ m ih =>
    intro i n t h hn hm
    have hn2 := h.n_le
    by_cases hc : nI i < t.2.2 ∧ i < 196
    · have hin : i < n := by
        have h1 := hc.1
        rw [hn, nI_ltI (by omega) (by omega)] at h1
        exact h1
      have e1 : drO S (nI B) q lv (m + 1) i t = drO S (nI B) q lv m (i + 1) (drD S (nI B) q lv (rg t.2.1 196 (nI i)) 4 t) := if_pos hc
      rw [e1]
      obtain ⟨n', h', hn', hi', -, hfr⟩ := drD_BI hB h hn hin 4 (by omega)
      obtain ⟨a, b⟩ := ih (i + 1) n' _ (h'.next hi') hn' (by omega)
      exact ⟨a, fun k hk => by rw [b k hk, hfr k hk]⟩
    · have e1 : drO S (nI B) q lv (m + 1) i t = t := if_neg hc
      rw [e1]
      refine ⟨h.done ?_, fun _ _ => rfl⟩
      by_cases h2 : i < 196
      · rw [hn, nI_ltI (by omega) (by omega)] at hc
        omega
      · omega
theorem drf_at {B : Nat} (hB : B + 196 ≤ 58800) (f : Nat → Int32) : ∀ m, m ≤ 196 → (∀ c, c < m → drf (nI B) m f (B + c) = -1) ∧ ∀ k, (k < B ∨ B + m ≤ k) → drf (nI B) m f k = f k := by
  intro m
  induction m with
  | zero => intro _; exact ⟨fun c hc => by omega, fun _ _ => rfl⟩
  | succ m ih =>
    intro hm
    obtain ⟨a, b⟩ := ih (by omega)
    have e1 : drf (nI B) (m + 1) f = upd (drf (nI B) m f) (B + m) (-1) := us_at hB (by omega)
    rw [e1]
    refine ⟨fun c hc => ?_, fun k hk => ?_⟩
    · show (if B + c = B + m then _ else _) = _
      split
      · rfl
      · exact a c (by omega)
    · show (if k = B + m then _ else _) = _
      rw [if_neg (by omega)]
      exact b k (by omega)
theorem drW_DS {S : Mem} {q lv : Int32} {B e : Nat} (hB : B + 196 ≤ 58800) (he : e < 196) (f g : Nat → Int32) : DS (okS S q lv) e (vw B (drW S f g (nI B) q (nI e) lv).1) ∧ ∀ k, (k < B ∨ B + 196 ≤ k) → (drW S f g (nI B) q (nI e) lv).1 k = f k := by
  obtain ⟨d1, d2⟩ := drf_at hB f 196 (by omega)
  unfold drW
  cases hf : flt S q (nI e) lv with
  | false =>
    rw [if_neg Bool.false_ne_true]
    exact ⟨DS.congr he (DS.none hf) (fun c hc => d1 c hc), d2⟩
  | true =>
    rw [if_pos rfl]
    have hb0 : BI (okS S q lv) e 0 0 1 (vw B (us (drf (nI B) 196 f) 58800 (nI B + nI e) 0)) (us g 196 0 (nI e)) := by
      rw [us_at hB he, vw_upd, show (0 : Int32) = nI 0 from nI_0.symm, us_nI (by omega) (by decide)]
      refine ⟨fun _ => e, fun _ => 0, fun j hj => ?_, fun j j' hj hj' _ => by omega, fun c hc => ?_, fun _ _ _ _ => Nat.le_refl _, fun _ _ _ => Nat.zero_le _, fun j d' hj hd _ => by omega, fun _ _ _ => rfl, fun _ k _ h => absurd h (Nat.succ_ne_zero k).symm, ⟨by omega, rfl, rfl⟩⟩
      · obtain rfl : j = 0 := by omega
        exact ⟨by simp [upd], he, by simp [upd], Nat.le_refl _, hf⟩
      · by_cases hce : c = e
        · exact Or.inr ⟨0, by omega, hce.symm⟩
        · exact Or.inl (by simp only [upd, if_neg hce]; exact d1 c hc)
    obtain ⟨a, b⟩ := drO_DS hB 196 0 1 (us (drf (nI B) 196 f) 58800 (nI B + nI e) 0, us g 196 0 (nI e), 1) hb0 rfl (by omega)
    refine ⟨a, fun k hk => ?_⟩
    show (drO S (nI B) q lv 196 0 _).1 k = _
    rw [b k hk]
    show us _ _ _ _ k = _
    rw [us_at hB he]
    show (if k = B + e then _ else _) = _
    rw [if_neg (by omega)]
    exact d2 k hk
/-- a chart's place among all -/
def nC (p sd v : Nat) : Nat := (p * 2 + sd) * 25 + v
theorem nC_lt {p sd v : Nat} (hp : p < 6) (hs : sd < 2) (hv : v < 25) : nC p sd v < 300 := by unfold nC; omega
theorem nC_inj {p sd v p' sd' v' : Nat} (hs : sd < 2) (hv : v < 25) (hs' : sd' < 2) (hv' : v' < 25) (h : nC p sd v = nC p' sd' v') : p = p' ∧ sd = sd' ∧ v = v' := by unfold nC at h; omega
/-- the landing at a punt's end -/
def endL (S : Mem) (p sd : Nat) : Int32 := if sd = 0 then S 4 p else S 5 p
def celS (S : Mem) (x : Int32) : Nat := (S 3 x.toNatClampNeg).toNatClampNeg
/-- every chart that is drawn is right -/
def CacheOk (S X : Mem) (P : Nat) : Prop := ∀ p, p < 6 → ∀ sd, sd < 2 → ∀ v, v < 25 → X 14 (nC p sd v) = 0 ∨ (p < P ∧ ∀ c, c < 196 → X 13 (nC p sd v * 196 + c) = wayS (okS S (nI p) (nI v)) (celS S (endL S p sd)) c)
theorem chN_nC {S : Mem} {p v : Nat} {x : Int32} (hp : p < 6) (hv : v < 25) (sd : Nat) (hsd : (if S 4 p = x then 0 else 1) = sd) : chN S (nI p) x (nI v) = nI (nC p sd v) := by
  unfold chN nC
  rw [rg_nI hp (by decide), show (if S 4 p = x then (0 : Int32) else 1) = nI sd from by rw [← hsd]; split <;> rfl, show (2 : Int32) = nI 2 from rfl, show (25 : Int32) = nI 25 from rfl, pk_mul, nI_add, pk_mul, nI_add]
/-- behind a call of chartOf -/
theorem chart_ok {S X X1 : Mem} {P p v l e : Nat} {x : Int32} (hC : CacheOk S X P) (hP6 : P ≤ 6) (hp : p < P) (hv : v < 25) (hx : x = nI l) (hl : l < 8) (hend : S 4 p = x ∨ S 5 p = x) (he : S 3 l = nI e) (he196 : e < 196)
    (h14 : X1 14 = us (X 14) 300 (chN S (nI p) x (nI v)) 1) (h13 : X1 13 = (if rg (X 14) 300 (chN S (nI p) x (nI v)) = 0 then (drW S (X 13) (X 15) (chN S (nI p) x (nI v) * 196) (nI p) (rg (S 3) 8 x) (nI v)).1 else X 13)) :
    CacheOk S X1 P ∧ ∃ B, B + 196 ≤ 58800 ∧ chN S (nI p) x (nI v) * 196 = nI B ∧ ∀ c, c < 196 → X1 13 (B + c) = wayS (okS S (nI p) (nI v)) e c := by
  obtain ⟨sd, hsd⟩ : ∃ sd, (if S 4 p = x then 0 else 1) = sd := ⟨_, rfl⟩
  have hs2 : sd < 2 := by rw [← hsd]; split <;> omega
  have hN := chN_nC (by omega) hv sd hsd
  have hNlt := nC_lt (show p < 6 by omega) hs2 hv
  rw [hN] at h14 h13
  have hEx : endL S p sd = x := by
    unfold endL
    by_cases h : S 4 p = x
    · rw [if_pos h] at hsd; rw [if_pos hsd.symm]; exact h
    · rw [if_neg h] at hsd; rw [if_neg (by omega)]; exact hend.resolve_left h
  have hcel : celS S (endL S p sd) = e := by unfold celS; rw [hEx, hx, nI_clamp (by omega), he, nI_clamp (by omega)]
  have hen : rg (S 3) 8 x = nI e := by rw [hx, rg_nI hl (by decide), he]
  have hmul : nI (nC p sd v) * 196 = nI (nC p sd v * 196) := by rw [show (196 : Int32) = nI 196 from rfl, pk_mul]
  rw [hN, hmul]
  rw [us_nI (by omega) (by decide)] at h14
  rw [rg_nI (by omega) (by decide), hmul, hen] at h13
  have hB : nC p sd v * 196 + 196 ≤ 58800 := by omega
  have hmy : ∀ c, c < 196 → X1 13 (nC p sd v * 196 + c) = wayS (okS S (nI p) (nI v)) e c := by
    intro c hc
    rw [h13]
    split
    · exact wayS_eq he196 (drW_DS hB he196 (X 13) (X 15)).1 hc
    · rename_i hne
      rcases hC p (by omega) sd hs2 v hv with h | ⟨-, h⟩
      · exact absurd h hne
      · rw [h c hc, hcel]
  refine ⟨fun p' hp' sd' hs' v' hv' => ?_, nC p sd v * 196, hB, rfl, hmy⟩
  by_cases hsame : nC p' sd' v' = nC p sd v
  · obtain ⟨rfl, rfl, rfl⟩ := nC_inj hs' hv' hs2 hv hsame
    exact Or.inr ⟨hp, fun c hc => by rw [hcel]; exact hmy c hc⟩
  · rcases hC p' hp' sd' hs' v' hv' with h | ⟨h1, h2⟩
    · left
      rw [h14]
      show (if _ = _ then _ else _) = _
      rw [if_neg hsame]; exact h
    · right
      refine ⟨h1, fun c hc => ?_⟩
      rw [← h2 c hc, h13]
      split
      · exact (drW_DS hB he196 (X 13) (X 15)).2 _ (by omega)
      · rfl
