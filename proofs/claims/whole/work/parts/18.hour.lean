/-! AN HOUR, as a function of the memory. F l w: the punt that one takes from the landing l to w. -/
def lvS (S : Mem) (h : Nat) : Int32 := S 2 (h % 12)
def elg (F : Int32 → Int32 → Int32) (S : Mem) (p : Nat) (l : Int32) (t : Nat) : Bool := decide (S 22 t = l) && decide (S 24 t = -1) && decide (F l (S 20 t) = nI p) && !decide (S 21 t < S 9 p)
def ldb (F : Int32 → Int32 → Int32) (S : Mem) (p : Nat) (l : Int32) (r t : Nat) : Bool := elg F S p l t && decide (cnt (elg F S p l) t < r)
/-- the travellers i, and no further, have got in -/
def loadM (F : Int32 → Int32 → Int32) (S : Mem) (p : Nat) (l : Int32) (r i : Nat) : Mem := up (up (up (up S 21 (goA (S 21) (ldb F S p l r) (fun t => S 21 t + -S 9 p) i)) 22 (goA (S 22) (ldb F S p l r) (fun _ => -1) i)) 23 (goA (S 23) (ldb F S p l r) (fun _ => nI p) i)) 18 (upd (S 18) p (S 18 p + nI (cnt (ldb F S p l r) i) * S 9 p))
def outM (S : Mem) (x y h : Int32) (T : Nat) : Mem := up (up (up S 23 (goA (S 23) (fun t => decide (S 23 t = x)) (fun _ => -1) T)) 22 (goA (S 22) (fun t => decide (S 23 t = x)) (fun _ => y) T)) 24 (goA (S 24) (fun t => decide (S 23 t = x) && decide (S 20 t = y)) (fun _ => h) T)
def outN (S : Mem) (x y : Int32) (T : Nat) : Int32 := nI (cnt (fun t => decide (S 23 t = x) && decide (S 20 t = y)) T)
def othI (S : Mem) (p : Nat) (l : Int32) : Int32 := if S 4 p = l then S 5 p else S 4 p
def bndM (S : Mem) (p : Nat) (l : Int32) : Mem := up S 17 (upd (S 17) p (othI S p l))
def turnM (F : Int32 → Int32 → Int32) (S : Mem) (p T h : Nat) : Mem := loadM F (bndM (outM S (nI p) (S 17 p) (nI h) T) p (S 17 p)) p (S 17 p) (S 8 p).toNatClampNeg T
def lndM (S : Mem) (p : Nat) : Bool := decide (S 16 p = rg (S 3) 8 (S 17 p))
/-- n punts have landed, or not; how many have come -/
def landM (F : Int32 → Int32 → Int32) (S : Mem) (T h : Nat) : Nat → Mem × Int32
  | 0 => (S, 0)
  | n + 1 => if lndM (landM F S T h n).1 n = true then (turnM F (landM F S T h n).1 n T h, (landM F S T h n).2 + outN (landM F S T h n).1 (nI n) ((landM F S T h n).1 17 n) T) else landM F S T h n
/-- the next step by a map of distances -/
def fnW (W : Nat → Int32) (c : Nat) : Nat → Nat → Int32
  | _, 0 => -1
  | d, n + 1 => match besN c d with
    | none => fnW W c (d + 1) n
    | some o => if W o = W c - 1 then nI o else fnW W c (d + 1) n
def nxW (W : Nat → Int32) (c : Nat) : Int32 := if 0 < W c then fnW W c 0 4 else -1
noncomputable def wyS (S : Mem) (p : Nat) (x lv : Int32) : Nat → Int32 := wayS (okS S (nI p) lv) (celS S x)
noncomputable def stepM (S : Mem) (p h : Nat) : Mem := if nxW (wyS S p (S 17 p) (lvS S h)) (S 16 p).toNatClampNeg = -1 then S else up (up S 16 (upd (S 16) p (nxW (wyS S p (S 17 p) (lvS S h)) (S 16 p).toNatClampNeg))) 19 (upd (S 19) p (S 19 p + 1))
noncomputable def stepsM (S : Mem) (h : Nat) : Nat → Mem
  | 0 => S
  | n + 1 => stepM (stepsM S h n) n h
noncomputable def hourM (F : Int32 → Int32 → Int32) (S : Mem) (P T h : Nat) : Mem := up (stepsM (landM F S T h P).1 h P) 86 (fun _ => nI (h + 1))
def cameM (F : Int32 → Int32 → Int32) (S : Mem) (P T h : Nat) : Int32 := (landM F S T h P).2
/-- what an hour leaves as it is -/
def Sta (S S' : Mem) : Prop := ∀ k, k < 16 ∨ k = 20 ∨ k = 81 ∨ k = 82 ∨ k = 85 → S' k = S k
theorem Sta.rf (S : Mem) : Sta S S := fun _ _ => rfl
theorem Sta.tr {S S' S'' : Mem} (h : Sta S S') (h' : Sta S' S'') : Sta S S'' := fun k hk => (h' k hk).trans (h k hk)
theorem Sta.up {S S' : Mem} (h : Sta S S') {j : Nat} {f : Nat → Int32} (hj : 16 ≤ j ∧ j ≠ 20 ∧ j ≠ 81 ∧ j ≠ 82 ∧ j ≠ 85) : Sta S (up S' j f) := fun k hk => by rw [up_ne (by omega)]; exact h k hk
theorem turnM_sta (F : Int32 → Int32 → Int32) (S : Mem) (p T h : Nat) : Sta S (turnM F S p T h) := by
  unfold turnM loadM bndM outM
  exact ((((((((Sta.rf S).up (by omega)).up (by omega)).up (by omega)).up (by omega)).up (by omega)).up (by omega)).up (by omega)).up (by omega)
theorem landM_sta (F : Int32 → Int32 → Int32) (S : Mem) (T h : Nat) : ∀ n, Sta S (landM F S T h n).1 := by
  intro n
  induction n with
  | zero => exact Sta.rf S
  | succ n ih =>
    unfold landM
    split
    · exact ih.tr (turnM_sta F _ n T h)
    · exact ih
theorem stepM_sta (S : Mem) (p h : Nat) : Sta S (stepM S p h) := by
  unfold stepM
  split
  · exact Sta.rf S
  · exact ((Sta.rf S).up (by omega)).up (by omega)
theorem stepsM_sta (S : Mem) (h : Nat) : ∀ n, Sta S (stepsM S h n) := by
  intro n
  induction n with
  | zero => exact Sta.rf S
  | succ n ih => exact ih.tr (stepM_sta _ n h)
/-- the traffic is in order -/
def TW (S : Mem) (P L : Nat) : Prop := Lnk S P L ∧ P ≤ 6 ∧ L ≤ 8 ∧ (∀ p, p < P → S 17 p = S 4 p ∨ S 17 p = S 5 p) ∧ (∀ p, p < P → ∃ c, c < 196 ∧ S 16 p = nI c) ∧ (∀ p, p < P → ∃ r, r ≤ 6 ∧ S 8 p = nI r) ∧ (∀ l, l < L → ∃ c, c < 196 ∧ S 3 l = nI c) ∧ ∀ i, i < 12 → ∃ v, v < 25 ∧ S 2 i = nI v
theorem Lnk.sta {S S' : Mem} {P L : Nat} (h : Lnk S P L) (hs : Sta S S') : Lnk S' P L := fun p hp => by
  rw [hs 4 (by omega), hs 5 (by omega)]; exact h p hp
theorem Lnk.mono {S : Mem} {P L : Nat} (h : Lnk S P L) (hL : L ≤ 8) : Lnk S P 8 := fun p hp => by
  obtain ⟨x, y, a, b, c⟩ := h p hp
  exact ⟨x, y, by omega, by omega, c⟩
theorem TW.of {S S' : Mem} {P L : Nat} (h : TW S P L) (hs : Sta S S') (h17 : ∀ p, p < P → S' 17 p = S 4 p ∨ S' 17 p = S 5 p) (h16 : ∀ p, p < P → ∃ c, c < 196 ∧ S' 16 p = nI c) : TW S' P L := by
  obtain ⟨a1, a2, a3, a4, a5, a6, a7, a8⟩ := h
  refine ⟨a1.sta hs, a2, a3, ?_, h16, ?_, ?_, ?_⟩
  · rw [hs 4 (by omega), hs 5 (by omega)]; exact h17
  · rw [hs 8 (by omega)]; exact a6
  · rw [hs 3 (by omega)]; exact a7
  · rw [hs 2 (by omega)]; exact a8
theorem othI_in (S : Mem) (p : Nat) (l : Int32) : othI S p l = S 4 p ∨ othI S p l = S 5 p := by
  unfold othI
  split
  · exact Or.inr rfl
  · exact Or.inl rfl
theorem turnM_TW {F : Int32 → Int32 → Int32} {S : Mem} {P L p T h : Nat} (hT : TW S P L) : TW (turnM F S p T h) P L := by
  refine hT.of (turnM_sta F S p T h) (fun q hq => ?_) (fun q hq => hT.2.2.2.2.1 q hq)
  show upd (S 17) p (othI S p (S 17 p)) q = _ ∨ upd (S 17) p (othI S p (S 17 p)) q = _
  unfold upd
  split
  · rename_i e; subst e; exact othI_in S q _
  · exact hT.2.2.2.1 q hq
theorem landM_TW {F : Int32 → Int32 → Int32} {S : Mem} {P L T h : Nat} (hT : TW S P L) : ∀ n, TW (landM F S T h n).1 P L := by
  intro n
  induction n with
  | zero => exact hT
  | succ n ih =>
    unfold landM
    split
    · exact turnM_TW ih
    · exact ih
theorem fnW_val (W : Nat → Int32) {c : Nat} (hc : c < 196) : ∀ n d, d + n ≤ 4 → fnW W c d n = -1 ∨ ∃ o, o < 196 ∧ fnW W c d n = nI o := by
  intro n
  induction n with
  | zero => intro d _; exact Or.inl rfl
  | succ n ih =>
    intro d hd
    unfold fnW
    cases hb : besN c d with
    | none => exact ih (d + 1) (by omega)
    | some o =>
      show (if W o = W c - 1 then nI o else fnW W c (d + 1) n) = -1 ∨ ∃ k, k < 196 ∧ (if W o = W c - 1 then nI o else fnW W c (d + 1) n) = nI k
      split
      · exact Or.inr ⟨o, besN_lt hc (by omega) hb, rfl⟩
      · exact ih (d + 1) (by omega)
theorem nxW_val (W : Nat → Int32) {c : Nat} (hc : c < 196) : nxW W c = -1 ∨ ∃ o, o < 196 ∧ nxW W c = nI o := by
  unfold nxW
  split
  · exact fnW_val W hc 4 0 (by omega)
  · exact Or.inl rfl
theorem stepM_TW {S : Mem} {P L p h : Nat} (hT : TW S P L) (hp : p < P) : TW (stepM S p h) P L := by
  obtain ⟨c, hc, hcp⟩ := hT.2.2.2.2.1 p hp
  refine hT.of (stepM_sta S p h) (fun q hq => ?_) (fun q hq => ?_)
  · unfold stepM
    split
    · exact hT.2.2.2.1 q hq
    · exact hT.2.2.2.1 q hq
  · unfold stepM
    split
    · exact hT.2.2.2.2.1 q hq
    · rename_i hn
      show ∃ c, c < 196 ∧ upd (S 16) p _ q = nI c
      unfold upd
      split
      · rw [hcp, nI_clamp (by omega)] at hn ⊢
        rcases nxW_val (wyS S p (S 17 p) (lvS S h)) hc with e | ⟨o, ho, e⟩
        · exact absurd e hn
        · exact ⟨o, ho, e⟩
      · exact hT.2.2.2.2.1 q hq
theorem stepsM_TW {S : Mem} {P L h : Nat} (hT : TW S P L) : ∀ n, n ≤ P → TW (stepsM S h n) P L := by
  intro n
  induction n with
  | zero => intro _; exact hT
  | succ n ih => intro hn; exact stepM_TW (ih (by omega)) (by omega)
theorem hourM_sta (F : Int32 → Int32 → Int32) (S : Mem) (P T h : Nat) : Sta S (hourM F S P T h) := ((landM_sta F S T h P).tr (stepsM_sta _ h P)).up (by omega)
theorem hourM_TW {F : Int32 → Int32 → Int32} {S : Mem} {P L T h : Nat} (hT : TW S P L) : TW (hourM F S P T h) P L := by
  have h1 := stepsM_TW (h := h) (landM_TW (F := F) (T := T) (h := h) hT P) P (Nat.le_refl _)
  exact h1.of ((Sta.rf _).up (by omega)) h1.2.2.2.1 h1.2.2.2.2.1
theorem dpt_sta {S S' : Mem} (hs : Sta S S') (c lv : Int32) : dpt S' c lv = dpt S c lv := by unfold dpt; rw [hs 0 (by omega)]
theorem flt_sta {S S' : Mem} (hs : Sta S S') (q x lv : Int32) : flt S' q x lv = flt S q x lv := by unfold flt; rw [hs 6 (by omega), hs 7 (by omega), dpt_sta hs]
theorem okS_sta {S S' : Mem} (hs : Sta S S') (q lv : Int32) : okS S' q lv = okS S q lv := by funext c; exact flt_sta hs q _ lv
theorem CacheOk.sta {S S' X : Mem} {P : Nat} (h : CacheOk S X P) (hs : Sta S S') : CacheOk S' X P := by
  intro p hp sd hsd v hv
  rcases h p hp sd hsd v hv with g | ⟨g1, g2⟩
  · exact Or.inl g
  · refine Or.inr ⟨g1, fun c hc => ?_⟩
    rw [g2 c hc, okS_sta hs]
    unfold celS endL
    rw [hs 3 (by omega), hs 4 (by omega), hs 5 (by omega)]
/-- by the class's chart -/
theorem nxt_nxW {f : Nat → Int32} {B c : Nat} {W : Nat → Int32} (hB : B + 196 ≤ 58800) (hc : c < 196) (hW : ∀ c, c < 196 → f (B + c) = W c) : nxt f (nI B) (nI c) = nxW W c := by
  have key : ∀ n d, d + n ≤ 4 → nxF f (nI B) (nI c) d n = fnW W c d n := by
    intro n
    induction n with
    | zero => intro d _; rfl
    | succ n ih =>
      intro d hd
      unfold nxF fnW
      rw [besI_N hc (by omega), ih (d + 1) (by omega)]
      cases hb : besN c d with
      | none => exact if_neg (fun h => h.1 rfl)
      | some o =>
        have ho := besN_lt hc (by omega) hb
        show (if ¬ nI o = -1 ∧ rg f 58800 (nI B + nI o) = rg f 58800 (nI B + nI c) - 1 then nI o else _) = (if W o = W c - 1 then nI o else _)
        rw [rg_at hB ho, rg_at hB hc, show vw B f o = W o from hW o ho, show vw B f c = W c from hW c hc]
        by_cases h : W o = W c - 1
        · rw [if_pos h, if_pos ⟨nI_neg (by omega), h⟩]
        · rw [if_neg h, if_neg (fun q => h q.2)]
  unfold nxt nxW
  rw [rg_at hB hc, show vw B f c = W c from hW c hc, key 4 0 (by omega)]
theorem cnt_ldb (F : Int32 → Int32 → Int32) (S : Mem) (p : Nat) (l : Int32) (r : Nat) : ∀ i, cnt (ldb F S p l r) i = min r (cnt (elg F S p l) i) := by
  intro i
  induction i with
  | zero => unfold cnt; omega
  | succ i ih =>
    show cnt (ldb F S p l r) i + (if ldb F S p l r i = true then 1 else 0) = min r (cnt (elg F S p l) i + (if elg F S p l i = true then 1 else 0))
    rw [ih]
    unfold ldb
    cases he : elg F S p l i with
    | false => simp
    | true =>
      by_cases h : cnt (elg F S p l) i < r
      · simp [h]; omega
      · simp [h]; omega
theorem ldb_full {F : Int32 → Int32 → Int32} {S : Mem} {p : Nat} {l : Int32} {r i t : Nat} (h : r ≤ cnt (ldb F S p l r) i) (ht : i ≤ t) : ldb F S p l r t = false := by
  have hm : ∀ a b, a ≤ b → cnt (elg F S p l) a ≤ cnt (elg F S p l) b := by
    intro a b hab
    induction b with
    | zero => rw [show a = 0 by omega]; exact Nat.le_refl _
    | succ b ih =>
      by_cases e : a = b + 1
      · rw [e]; exact Nat.le_refl _
      · have := ih (by omega)
        show _ ≤ cnt (elg F S p l) b + _
        omega
  rw [cnt_ldb] at h
  have := hm i t ht
  unfold ldb
  rw [decide_eq_false (by omega), Bool.and_false]
theorem goA_stop {f : Nat → Int32} {P : Nat → Bool} {v : Nat → Int32} {i T : Nat} (hi : i ≤ T) (h : ∀ t, i ≤ t → P t = false) : goA f P v i = goA f P v T := by
  funext t
  unfold goA
  by_cases e : t < i
  · simp [e, show t < T by omega]
  · rw [if_neg (fun q => e q.1), if_neg (fun q => by rw [h t (by omega)] at q; exact Bool.false_ne_true q.2)]
theorem cnt_stop {P : Nat → Bool} {i T : Nat} (hi : i ≤ T) (h : ∀ t, i ≤ t → P t = false) : cnt P i = cnt P T := by
  induction T with
  | zero => rw [show i = 0 by omega]
  | succ T ih =>
    by_cases e : i = T + 1
    · rw [e]
    · rw [ih (by omega), cnt_no (by rw [h T (by omega)]; exact Bool.false_ne_true)]
theorem mul_succ (k : Nat) (x y : Int32) : y + nI (k + 1) * x = y + nI k * x + x := by
  rw [← nI_1, Int32.add_mul, Int32.one_mul, Int32.add_assoc]
