/-! WHAT THE CALLS TELL, and when all is in order. -/
theorem sTF : ∀ k ∈ nT, k ∈ nF := by decide
theorem sCF : ∀ k ∈ nCH, k ∈ nF := by decide
theorem sCT : ∀ k ∈ nCH, k ∈ nT := by decide
theorem s0 {n : List Nat} : ∀ k ∈ n0, k ∈ n := fun _ h => absurd h List.not_mem_nil
theorem sId {n : List Nat} : ∀ k ∈ n, k ∈ n := fun _ h => h
theorem cnt_congr {A B : Nat → Bool} {n : Nat} (h : ∀ j, j < n → A j = B j) : cnt A n = cnt B n := by
  induction n with
  | zero => rfl
  | succ n ih => unfold cnt; rw [h n (by omega), ih (fun j hj => h j (by omega))]
theorem cnt_not (A : Nat → Bool) (n : Nat) : cnt A n + cnt (fun j => !A j) n = n := by
  induction n with
  | zero => rfl
  | succ n ih =>
    show cnt A n + (if A n = true then 1 else 0) + (cnt (fun j => !A j) n + (if (!A n) = true then 1 else 0)) = n + 1
    cases A n <;> simp <;> omega
theorem cnt_split (A B : Nat → Bool) (n : Nat) : cnt A n = cnt (fun j => A j && B j) n + cnt (fun j => A j && !B j) n := by
  induction n with
  | zero => rfl
  | succ n ih =>
    show cnt A n + (if A n = true then 1 else 0) = cnt (fun j => A j && B j) n + (if (A n && B n) = true then 1 else 0) + (cnt (fun j => A j && !B j) n + (if (A n && !B n) = true then 1 else 0))
    cases A n <;> cases B n <;> simp <;> omega
theorem cnt_or {A B : Nat → Bool} {n : Nat} (h : ∀ j, j < n → A j = true → B j = false) : cnt A n + cnt B n = cnt (fun j => A j || B j) n := by
  induction n with
  | zero => rfl
  | succ n ih =>
    have h1 := ih (fun j hj => h j (by omega))
    have h2 := h n (by omega)
    show cnt A n + (if A n = true then 1 else 0) + (cnt B n + (if B n = true then 1 else 0)) = cnt (fun j => A j || B j) n + (if (A n || B n) = true then 1 else 0)
    cases hA : A n <;> cases hB : B n <;> simp_all <;> omega
theorem nI_sub {a b c : Nat} (h : a = b + c) : nI a - nI b = nI c := by rw [pk_sub (by omega)]; congr 1; omega
def nv (x : Int32) : Nat := x.toNatClampNeg
theorem nv_nI {k : Nat} (h : k < 2 ^ 31) : nv (nI k) = k := nI_clamp h
def nPu (S : Mem) : Nat := nv (S 82 0)
def nLa (S : Mem) : Nat := nv (S 81 0)
def nTr (S : Mem) : Nat := nv (S 85 0)
def nHr (S : Mem) : Nat := nv (S 86 0)
/-- the travellers are in order -/
def TrW (S : Mem) (P L T : Nat) : Prop := ∀ t, t < T → (∃ w, w < L ∧ S 20 t = nI w) ∧ ((S 23 t = -1 ∧ ∃ x, x < L ∧ S 22 t = nI x) ∨ (∃ p b w, p < P ∧ b < L ∧ w < L ∧ S 23 t = nI p ∧ S 22 t = -1 ∧ S 24 t = -1 ∧ S 17 p = nI b ∧ S 20 t = nI w ∧ lenM S P b w ≠ -1)) ∧ (S 24 t = -1 ∨ S 23 t = -1)
/-- all is in order -/
def WF (S : Mem) : Prop := S 82 0 = nI (nPu S) ∧ S 81 0 = nI (nLa S) ∧ (S 85 0 = nI (nTr S) ∧ nTr S ≤ 30) ∧ (S 86 0 = nI (nHr S) ∧ nHr S < 2 ^ 31) ∧ TW S (nPu S) (nLa S) ∧ TrW S (nPu S) (nLa S) (nTr S) ∧ ∀ p, p < nPu S → ∃ v, v ≤ 50 ∧ S 9 p = nI v
/-- the class's own scratch agrees with it -/
def Iv (S X : Mem) : Prop := CacheOk S X (nPu S) ∧ ChainsOk S X (nPu S)
-- what the calls tell
noncomputable def punS (S : Mem) (T h p : Nat) (w : Int32) : Int32 :=
  if w = 0 then S 16 p - S 16 p / 14 * 14 else if w = 1 then S 16 p / 14 else if w = 2 then S 17 p else if w = 3 then nI (cnt (fun j => decide (S 23 j = nI p)) T) else if w = 4 then S 9 p else if w = 5 then bI (!flt S (nI p) (S 16 p) (lvS S h)) else if w = 6 then wyS S p (S 17 p) (lvS S h) (S 16 p).toNatClampNeg else if w = 7 then S 18 p else S 19 p
noncomputable def chlM (S : Mem) (P t : Nat) : Int32 := if S 23 t = -1 then lenM S P (nv (S 22 t)) (nv (S 20 t)) else lenM S P (nv (S 17 (nv (S 23 t)))) (nv (S 20 t)) + 1
noncomputable def trvS (S : Mem) (P t : Nat) (w : Int32) : Int32 :=
  if w = 0 then S 20 t else if w = 1 then S 21 t else if w = 2 then S 22 t else if w = 3 then S 23 t else if w = 4 then bI (!decide (S 24 t = -1)) else if w = 5 then chlM S P t else S 24 t
def lanS (S : Mem) (P T x : Nat) (w : Int32) : Int32 :=
  if w = 0 then S 3 x - S 3 x / 14 * 14 else if w = 1 then S 3 x / 14 else if w = 2 then nI (cnt (fun t => decide (S 22 t = nI x) && decide (S 24 t = -1)) T) else if w = 3 then nI (cnt (fun t => decide (S 22 t = nI x) && !decide (S 24 t = -1)) T) else nI (cnt (fun j => decide (S 4 j = nI x) || decide (S 5 j = nI x)) P)
def stkN (S : Mem) (h : Nat) : Nat := cnt (fun j => decide (dpt S (nI j) (lvS S h) < S 1 j)) 196
def couS (S : Mem) (P L T h : Nat) (w : Int32) : Int32 :=
  if w = 0 then nI h else if w = 1 then lvS S h else if w = 2 then nI L else if w = 3 then nI P else if w = 4 then nI T else if w = 5 then nI (cnt (fun t => decide (S 24 t = -1) && decide (S 23 t = -1)) T) else if w = 6 then nI (cnt (fun t => decide (S 24 t = -1) && !decide (S 23 t = -1)) T) else if w = 7 then nI (cnt (fun t => !decide (S 24 t = -1)) T) else if w = 8 then smI (S 18) P else if w = 9 then nI (cnt (fun p => !flt S (nI p) (S 16 p) (lvS S h)) P) else nI (stkN S h)
def celT (S : Mem) (P L h k : Nat) (w : Int32) : Int32 :=
  if w = 0 then S 0 k else if w = 1 then dpt S (nI k) (lvS S h) else if w = 2 then S 1 k else if w = 3 then bI (decide (dpt S (nI k) (lvS S h) < S 1 k)) else if w = 4 then fndF (fun j => decide (S 3 j = nI k)) 0 L else nI (cnt (fun j => decide (S 16 j = nI k)) P)
theorem riding_eq {S : Mem} {P L T : Nat} (h : TrW S P L T) : nI T - nI (cnt (fun j => decide (S 23 j = -1)) T) = nI (cnt (fun t => decide (S 24 t = -1) && !decide (S 23 t = -1)) T) := by
  refine nI_sub ((cnt_not (fun j => decide (S 23 j = -1)) T).symm.trans (congrArg (fun z => cnt (fun j => decide (S 23 j = -1)) T + z) (cnt_congr fun j hj => ?_)))
  rcases (h j hj).2.2 with e | e <;> simp [e]
theorem come_eq (S : Mem) (T : Nat) : nI T - nI (cnt (fun j => decide (S 24 j = -1)) T) = nI (cnt (fun t => !decide (S 24 t = -1)) T) := nI_sub (cnt_not _ T).symm
theorem waiting_eq {S : Mem} {P L T : Nat} (h : TrW S P L T) : nI T - (nI T - nI (cnt (fun j => decide (S 23 j = -1)) T)) - (nI T - nI (cnt (fun j => decide (S 24 j = -1)) T)) = nI (cnt (fun t => decide (S 24 t = -1) && decide (S 23 t = -1)) T) := by
  rw [riding_eq h, come_eq]
  have h1 := cnt_split (fun t => decide (S 24 t = -1)) (fun t => decide (S 23 t = -1)) T
  have h2 := cnt_not (fun t => decide (S 24 t = -1)) T
  rw [nI_sub (show T = cnt (fun t => decide (S 24 t = -1) && !decide (S 23 t = -1)) T + (T - cnt (fun t => decide (S 24 t = -1) && !decide (S 23 t = -1)) T) by omega)]
  refine nI_sub ?_
  omega
theorem comeTo_eq (S : Mem) (T : Nat) (x : Int32) : nI (cnt (fun j => decide (S 22 j = x)) T) - nI (cnt (fun t => decide (S 22 t = x) && decide (S 24 t = -1)) T) = nI (cnt (fun t => decide (S 22 t = x) && !decide (S 24 t = -1)) T) := nI_sub (cnt_split _ _ T)
theorem punts_eq {S : Mem} {P L x : Nat} (h : Lnk S P L) (hL : L ≤ 8) (hx : x < 8) : nI (cnt (fun j => decide (S 4 j = nI x)) P) + nI (cnt (fun j => decide (S 5 j = nI x)) P) = nI (cnt (fun j => decide (S 4 j = nI x) || decide (S 5 j = nI x)) P) := by
  rw [nI_add, cnt_or fun j hj e => ?_]
  obtain ⟨a, b, ha, hb, hab, e4, e5⟩ := h j hj
  have e := of_decide_eq_true e
  refine decide_eq_false fun e' => hab ?_
  rw [e4] at e
  rw [e5] at e'
  rw [nI_inj (by omega) (by omega) e, nI_inj (by omega) (by omega) e']
theorem chl_eq {S X : Mem} {P L T t : Nat} (hW : TW S P L) (h : TrW S P L T) (hC : ChainsOk S X P) (ht : t < T) : (if S 23 t = -1 then lnI (X 10) (S 22 t) (S 20 t) else if lnI (X 10) (rg (S 17) 6 (S 23 t)) (S 20 t) = -1 then -1 else lnI (X 10) (rg (S 17) 6 (S 23 t)) (S 20 t) + 1) = chlM S P t := by
  have hP6 := hW.2.1
  have hL8 := hW.2.2.1
  obtain ⟨⟨w, hw, e20⟩, h2, -⟩ := h t ht
  unfold chlM
  rcases h2 with ⟨e23, x, hx, e22⟩ | ⟨p, b, w', hp, hb, hw', e23, e22, -, e17, e20', hlen⟩
  · rw [if_pos e23, if_pos e23, e22, e20, nv_nI (by omega), nv_nI (by omega), lnI_at (by omega) (by omega)]
    exact (hC x (by omega) w (by omega)).1
  · have hn : ¬ S 23 t = -1 := by rw [e23]; exact nI_neg (by omega)
    rw [if_neg hn, if_neg hn, e23, e20', rg_nI (by omega) (by decide), e17, nv_nI (show p < 2 ^ 31 by omega), e17, nv_nI (by omega), nv_nI (by omega), lnI_at (by omega) (by omega), show col w' (X 10) b = lenM S P b w' from (hC b (by omega) w' (by omega)).1, if_neg hlen]
