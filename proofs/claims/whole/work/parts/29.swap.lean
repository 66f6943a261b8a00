/-! THE SWAPPED VIEW: the traffic that is looked ahead with stands where the traffic of now stands. -/
abbrev nE : List Nat := [0, 1, 2, 3, 4, 5, 6, 7, 8, 9, 10, 11, 12, 13, 14, 15, 16, 17, 18, 19, 20, 21, 22, 23, 24, 25, 26, 27, 28, 29, 30, 31, 32, 33, 40, 41, 42, 43, 44, 45, 46, 47, 48, 49, 50, 51, 52, 53, 54, 55, 56, 57, 58, 59, 60, 61, 62, 63, 64, 65, 66, 67, 68, 69, 70, 71, 72, 73, 80, 81, 82, 83, 84, 85, 86, 87, 88]
theorem sTE : ∀ k ∈ nT, k ∈ nE := by decide
theorem sCE : ∀ k ∈ nCH, k ∈ nE := by decide
theorem sEF : ∀ k ∈ nE, k ∈ nF := by decide
def IE : Nat → Prop := fun k => k ∈ nE
def sh (k : Nat) : Nat := if 16 ≤ k ∧ k ≤ 24 then k + 9 else if 25 ≤ k ∧ k ≤ 33 then k - 9 else if 56 ≤ k ∧ k ≤ 64 then k + 9 else if 65 ≤ k ∧ k ≤ 73 then k - 9 else if k = 85 then 87 else if k = 87 then 85 else if k = 86 then 88 else if k = 88 then 86 else k
theorem sh_sh (k : Nat) : sh (sh k) = k := by
  by_cases h : k < 90
  · exact (by decide : ∀ k, k < 90 → sh (sh k) = k) k h
  · have e : sh k = k := by
      unfold sh
      rw [if_neg (by omega), if_neg (by omega), if_neg (by omega), if_neg (by omega), if_neg (by omega), if_neg (by omega), if_neg (by omega), if_neg (by omega)]
    rw [e, e]
theorem sh_in : ∀ k ∈ nE, sh k ∈ nE := by decide
def nowP (k : Nat) : Bool := (Nat.ble 16 k && Nat.ble k 24) || k == 85 || k == 86
def ahdP (k : Nat) : Bool := (Nat.ble 25 k && Nat.ble k 33) || k == 87 || k == 88
/-- the memories seen from there -/
def swS (S X : Mem) : Mem := fun k => if nowP k = true then X (sh k) else S k
def swX (S X : Mem) : Mem := fun k => if ahdP k = true then S (sh k) else X k
def swA (a : Adr) : Adr := fun k => a (sh k)
theorem sw_ct (cA : ClassId) (a : Adr) (S X : Mem) : ∀ k ∈ nE, ct cA (swA a) (swS S X) (swX S X) k = ct cA a S X (sh k) := by
  simp only [nE, List.forall_mem_cons]
  exact ⟨rfl, rfl, rfl, rfl, rfl, rfl, rfl, rfl, rfl, rfl, rfl, rfl, rfl, rfl, rfl, rfl, rfl, rfl, rfl, rfl, rfl, rfl, rfl, rfl, rfl, rfl, rfl, rfl, rfl, rfl, rfl, rfl, rfl, rfl, rfl, rfl, rfl, rfl, rfl, rfl, rfl, rfl, rfl, rfl, rfl, rfl, rfl, rfl, rfl, rfl, rfl, rfl, rfl, rfl, rfl, rfl, rfl, rfl, rfl, rfl, rfl, rfl, rfl, rfl, rfl, rfl, rfl, rfl, rfl, rfl, rfl, rfl, rfl, rfl, rfl, rfl, rfl, fun _ h => absurd h List.not_mem_nil⟩
theorem arrV_cg {cA : ClassId} {n : Nat} {f g : Nat → Value} (h : ∀ j, j < n → f j = g j) : arrV cA n f = arrV cA n g := by
  unfold arrV
  congr 2
  funext j
  exact h j.val j.isLt
theorem WP.sw {D : va_G} {cA : ClassId} {a : Adr} {S X : Mem} {H : Heap} (h : WP D cA a S X IE H) : WP D cA (swA a) (swS S X) (swX S X) IE H := fun k hk => by
  rw [sw_ct cA a S X k hk]
  exact h (sh k) (sh_in k hk)
theorem WP.unsw {D : va_G} {cA : ClassId} {a : Adr} {S X : Mem} {H : Heap} (h : WP D cA (swA a) S X IE H) : WP D cA a (swS S X) (swX S X) IE H := by
  have h1 := WP.sw h
  have e : swA (swA a) = a := funext fun k => congrArg a (sh_sh k)
  rw [e] at h1
  exact h1
theorem sh_lt {k : Nat} (h : IE k) : k < 90 := (by decide : ∀ k ∈ nE, k < 90) k h
theorem Hd.sw {a : Adr} {I : Nat → Prop} (hd : Hd nF a I) : Hd nE (swA a) IE := ⟨fun _ h => h, fun _ h => sh_lt h, fun i j hi hj e => by
  have h := hd.2.2 (sh i) (sh j) (hd.1 _ (sEF _ (sh_in i hi))) (hd.1 _ (sEF _ (sh_in j hj))) e
  rw [← sh_sh i, h, sh_sh]⟩
theorem AI.sw {a : Adr} {q : Nat} (h : AI (swA a) IE q) : AI a IE q := by
  obtain ⟨k, hk, rfl⟩ := h
  exact ⟨sh k, sh_in k hk, rfl⟩
theorem WP.toE {D : va_G} {cA : ClassId} {a : Adr} {S X : Mem} {I : Nat → Prop} {H : Heap} (hd : Hd nF a I) (h : WP D cA a S X I H) : WP D cA a S X IE H := fun k hk => h k (hd.1 k (sEF k hk))
theorem AI.toE {a : Adr} {I : Nat → Prop} (hd : Hd nF a I) {q : Nat} (h : AI a IE q) : AI a I q := by
  obtain ⟨k, hk, rfl⟩ := h
  exact ⟨k, hd.1 k (sEF k hk), rfl⟩
/-- the places that lie outside hold what they hold, whatever is remembered -/
theorem ct_out (cA : ClassId) (a : Adr) (S X S1 X1 : Mem) {k : Nat} (hk : k < 90) (h : ¬ IE k) : ct cA a S X k = ct cA a S1 X1 k := by
  have hc : k ∈ nE ∨ (34 ≤ k ∧ k < 40) ∨ (74 ≤ k ∧ k < 80) ∨ k = 89 := (by decide : ∀ k, k < 90 → k ∈ nE ∨ (34 ≤ k ∧ k < 40) ∨ (74 ≤ k ∧ k < 80) ∨ k = 89) k hk
  rcases hc with h1 | h1 | h1 | h1
  · exact absurd h1 h
  · unfold ct; rw [if_neg (by omega), if_pos (by omega), if_neg (by omega), if_pos (by omega)]
  · obtain ⟨h1, h2⟩ := h1
    have : k = 74 ∨ k = 75 ∨ k = 76 ∨ k = 77 ∨ k = 78 ∨ k = 79 := by omega
    rcases this with rfl | rfl | rfl | rfl | rfl | rfl <;> rfl
  · subst h1; rfl
theorem WP.fromE {D : va_G} {cA : ClassId} {a : Adr} {S X S1 X1 : Mem} {I : Nat → Prop} {H H1 : Heap} (hd : Hd nF a I) (h : WP D cA a S X I H) (h1 : WP D cA a S1 X1 IE H1) (hq : ∀ q : Nat, q < H.size → ¬ AI a IE q → H1[q]? = H[q]?) : WP D cA a S1 X1 I H1 := fun k hk => by
  by_cases he : IE k
  · exact h1 k he
  · rw [ct_out cA a S1 X1 S X (hd.2.1 k hk) he]
    refine (h k hk).kept (hq _ (h k hk).lt fun ⟨j, hj, e⟩ => he ?_)
    rw [← hd.2.2 j k (hd.1 j (sEF j hj)) hk e]
    exact hj
/-- rows that agree below their length hold the same -/
theorem WP.cg {D : va_G} {cA : ClassId} {a : Adr} {S X S1 X1 : Mem} {I : Nat → Prop} {H : Heap} (h : WP D cA a S X I H) (hr : ∀ k, k < 34 → ∀ j, j < ln k → me S X k j = me S1 X1 k j) (h81 : S 81 0 = S1 81 0) (h82 : S 82 0 = S1 82 0) (h85 : S 85 0 = S1 85 0) (h86 : S 86 0 = S1 86 0) (h87 : X 87 0 = X1 87 0) (h88 : X 88 0 = X1 88 0) : WP D cA a S1 X1 I H := fun k hk => by
  have h0 := h k hk
  by_cases h34 : k < 34
  · rw [ct_arr cA a _ _ h34] at h0 ⊢
    have e : vp_cell cA (ln k, .inl (me S X k)) = vp_cell cA (ln k, .inl (me S1 X1 k)) := by
      rw [vp_cell_i, vp_cell_i]
      exact arrV_cg fun j hj => congrArg Value.int (hr k h34 j hj)
    show H[a k]? = some (vp_cell cA (ln k, .inl (me S1 X1 k)))
    rw [← e]
    exact h0
  · have e : ct cA a S X k = ct cA a S1 X1 k := by
      unfold ct
      rw [if_neg h34, if_neg h34, h81, h82, h85, h86, h87, h88]
    rw [← e]
    exact h0
