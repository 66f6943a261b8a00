theorem WP.congr {D : va_G} {cA : ClassId} {a : Adr} {S S' X X' : Mem} {I : Nat → Prop} {H : Heap} (h : WP D cA a S X I H) (hS : ∀ k, S k = S' k) (hX : ∀ k, X k = X' k) : WP D cA a S' X' I H := by
  rw [← show S = S' from funext hS, ← show X = X' from funext hX]
  exact h
/-- the cell beside one, by directions -/
def besI (x d : Int32) : Int32 := if d = 0 then (if x / 14 = 0 then -1 else x - 14) else if d = 1 then (if x - x / 14 * 14 = 0 then -1 else x - 1) else if d = 2 then (if x - x / 14 * 14 = 13 then -1 else x + 1) else (if x / 14 = 13 then -1 else x + 14)
theorem up_id {S : Mem} {k : Nat} {f : Nat → Int32} (h : f = S k) : up S k f = S := by rw [h, up_self]
def lnI (f : Nat → Int32) (x t : Int32) : Int32 := rg f 64 (x * 8 + t)
def lenS (f : Nat → Int32) (x y t q : Int32) : Nat → Int32 := if lnI f y t = q ∧ lnI f x t = -1 then us f 64 (x * 8 + t) (q + 1) else f
def lenA (S : Mem) (t q : Int32) : Nat → (Nat → Int32) → (Nat → Int32)
  | 0, f => f
  | n + 1, f => lenS (lenS (lenA S t q n f) (rg (S 4) 6 (nI n)) (rg (S 5) 6 (nI n)) t q) (rg (S 5) 6 (nI n)) (rg (S 4) 6 (nI n)) t q
def othE (S : Mem) (q x : Int32) : Int32 := if rg (S 4) 6 q = x then rg (S 5) 6 q else rg (S 4) 6 q
def bgn (S : Mem) (f : Nat → Int32) (q x t : Int32) : Bool := decide (0 < lnI f x t) && (decide (rg (S 4) 6 q = x) || decide (rg (S 5) 6 q = x)) && decide (lnI f (othE S q x) t = lnI f x t - 1)
def fstP (S : Mem) (f : Nat → Int32) (P : Nat) (x t : Int32) : Int32 := fndF (fun n => bgn S f (nI n) x t) 0 P
theorem fndF_yes {P : Nat → Bool} {i n : Nat} (h : P i = true) : fndF P i (n + 1) = nI i := if_pos h
theorem fndF_no {P : Nat → Bool} {i n : Nat} (h : ¬ P i = true) : fndF P i (n + 1) = fndF P (i + 1) n := if_neg h
def rk1 (S : Mem) (P : Nat) (t : Int32) : Nat → (Nat → Int32) → (Nat → Int32)
  | 0, f => f
  | n + 1, f => lenA S t (nI n) P (rk1 S P t n f)
def rkF (S : Mem) (f : Nat → Int32) (P : Nat) (t : Int32) : Nat → (Nat → Int32) → (Nat → Int32)
  | 0, g => g
  | n + 1, g => us (rkF S f P t n g) 64 (nI n * 8 + t) (fstP S f P (nI n) t)
def rkT (S : Mem) (P : Nat) (f g : Nat → Int32) : Nat → (Nat → Int32) × (Nat → Int32)
  | 0 => (f, g)
  | n + 1 => (rk1 S P (nI n) 6 (us (rkT S P f g n).1 64 (nI n * 8 + nI n) 0), rkF S (rk1 S P (nI n) 6 (us (rkT S P f g n).1 64 (nI n * 8 + nI n) 0)) P (nI n) 8 (rkT S P f g n).2)
def chF (S : Mem) (f tl : Nat → Int32) (x t : Int32) : Nat → Int32
  | 0 => 300
  | n + 1 => if bgn S f (nI n) x t = true then (if rg (S 9) 6 (nI n) + rg tl 8 (othE S (nI n) x) < chF S f tl x t n then rg (S 9) 6 (nI n) + rg tl 8 (othE S (nI n) x) else chF S f tl x t n) else chF S f tl x t n
def ltI (S : Mem) (f : Nat → Int32) (P : Nat) (t q : Int32) : Nat → (Nat → Int32) → (Nat → Int32)
  | 0, tl => tl
  | n + 1, tl => if lnI f (nI n) t = q then us (ltI S f P t q n tl) 8 (nI n) (chF S f (ltI S f P t q n tl) (nI n) t P) else ltI S f P t q n tl
def ltO (S : Mem) (f : Nat → Int32) (P : Nat) (t : Int32) (tl : Nat → Int32) : Nat → (Nat → Int32)
  | 0 => us tl 8 t 0
  | n + 1 => ltI S f P t (nI (n + 1)) 8 (ltO S f P t tl n)
section CLS
variable {p : Program} {l : Launch} {e : Env} {R : Room} {s : State} {m : MethodId} {args : Array Value} {below : List Frame} {meth : Method} {c : Code} {H : Heap} {locs : List Loc} {cells slots : Nat} {Q : State → Prop}
variable {cc : ByteArray} {nL : Nat} {own : String} {pc : Nat} {ls : Array Slot} {rest : List Value} {D : va_G} {cA : ClassId} {a : Adr} {S X : Mem} {I : Nat → Prop} {H0 : Heap} {A0 : Nat → Prop}
set_option maxHeartbeats 4000000 in
set_option maxRecDepth 100000 in
theorem c_X4_beside (l : Launch) (D : va_G) (cA : ClassId) (a : Adr) (S X : Mem) (I : Nat → Prop) (hd : Hd n0 a I) (x : Int32) (d : Int32) : MI l yX4_beside cX4_beside 2 (some .int) 1 20 D cA a S X I [.int x, .int d] (fun r S1 X1 => r = (besI x d) ∧ S1 = S ∧ X1 = X) := by
  refine mGo (by decide) (Nat.le_of_ble_eq_true rfl) ?_
  intro p e s m args below meth c ls C0 hr hlk hK hP hS hl hargs
  obtain ⟨H, hHe⟩ : ∃ H, H = s.heap := ⟨_, rfl⟩
  obtain ⟨locs, hlo⟩ : ∃ L : List Loc, L = [] := ⟨_, rfl⟩
  have hP : WP D cA a S X I H := hHe ▸ hP
  have hS : va_S (AI a I) s.heap H locs := by rw [hHe, hlo]; exact hS
  rw [← hHe, ← hlo]
  have hA : ∀ q, AI a I q → AI a I q := fun _ h => h
  refine lv_iload_n C0.1 C0.2.1 dX4_beside_0 rfl (lv_at hl 1 rfl) ?_
  by_cases k_1_0 : d = 0
  · refine lv_tableIn (off := 27) (tgt := 28) C0.1 C0.2.1 dX4_beside_1 (by rw [k_1_0]; decide) (by rw [k_1_0]; decide) (by rw [k_1_0]; decide) (by decide) ?_
    refine lv_iload_n C0.1 C0.2.1 dX4_beside_28 rfl (lv_at hl 0 rfl) ?_
    refine kn_X8_rowOf hd (by decide) C0 hK hP  (v := x / 14) rfl hS hA hl.1 hK.2.1 ⟨Nat.le_of_ble_eq_true rfl, Nat.le_of_ble_eq_true rfl⟩ ⟨Nat.zero_le _, Nat.zero_le _⟩ (Nat.le_of_ble_eq_true rfl) dX4_beside_29 (fun H locs hP hS => ?_)
    refine lv_if_ne (tgt := 39) C0.1 C0.2.1 dX4_beside_32 (by decide) (fun c_32 => ?_) (fun c_32 => ?_)
    · refine lv_iload_n C0.1 C0.2.1 dX4_beside_39 rfl (lv_at hl 0 rfl) ?_
      refine lv_bipush (v := 14) C0.1 C0.2.1 dX4_beside_40 (by decide) ?_
      refine lv_isub C0.1 C0.2.1 dX4_beside_42 ?_
      exact retI C0 hr hlk hP hS ⟨by unfold besI; simp [k_1_0, c_32], rfl, rfl⟩ dX4_beside_43
    · refine lv_iconst (v := (-1)) C0.1 C0.2.1 dX4_beside_35 (by decide) ?_
      refine lv_goto (tgt := 43) C0.1 C0.2.1 dX4_beside_36 (by decide) ?_
      exact retI C0 hr hlk hP hS ⟨by unfold besI; simp [k_1_0, c_32], rfl, rfl⟩ dX4_beside_43
  by_cases k_1_1 : d = 1
  · refine lv_tableIn (off := 43) (tgt := 44) C0.1 C0.2.1 dX4_beside_1 (by rw [k_1_1]; decide) (by rw [k_1_1]; decide) (by rw [k_1_1]; decide) (by decide) ?_
    refine lv_iload_n C0.1 C0.2.1 dX4_beside_44 rfl (lv_at hl 0 rfl) ?_
    refine kn_X8_columnOf hd (by decide) C0 hK hP  (v := x - x / 14 * 14) rfl hS hA hl.1 hK.2.2 ⟨Nat.le_of_ble_eq_true rfl, Nat.le_of_ble_eq_true rfl⟩ ⟨Nat.zero_le _, Nat.zero_le _⟩ (Nat.le_of_ble_eq_true rfl) dX4_beside_45 (fun H locs hP hS => ?_)
    refine lv_if_ne (tgt := 55) C0.1 C0.2.1 dX4_beside_48 (by decide) (fun c_48 => ?_) (fun c_48 => ?_)
    · refine lv_iload_n C0.1 C0.2.1 dX4_beside_55 rfl (lv_at hl 0 rfl) ?_
      refine lv_iconst (v := 1) C0.1 C0.2.1 dX4_beside_56 (by decide) ?_
      refine lv_isub C0.1 C0.2.1 dX4_beside_57 ?_
      exact retI C0 hr hlk hP hS ⟨by unfold besI; simp [k_1_1, c_48], rfl, rfl⟩ dX4_beside_58
    · refine lv_iconst (v := (-1)) C0.1 C0.2.1 dX4_beside_51 (by decide) ?_
      refine lv_goto (tgt := 58) C0.1 C0.2.1 dX4_beside_52 (by decide) ?_
      exact retI C0 hr hlk hP hS ⟨by unfold besI; simp [k_1_1, c_48], rfl, rfl⟩ dX4_beside_58
  by_cases k_1_2 : d = 2
  · refine lv_tableIn (off := 58) (tgt := 59) C0.1 C0.2.1 dX4_beside_1 (by rw [k_1_2]; decide) (by rw [k_1_2]; decide) (by rw [k_1_2]; decide) (by decide) ?_
    refine lv_iload_n C0.1 C0.2.1 dX4_beside_59 rfl (lv_at hl 0 rfl) ?_
    refine kn_X8_columnOf hd (by decide) C0 hK hP  (v := x - x / 14 * 14) rfl hS hA hl.1 hK.2.2 ⟨Nat.le_of_ble_eq_true rfl, Nat.le_of_ble_eq_true rfl⟩ ⟨Nat.zero_le _, Nat.zero_le _⟩ (Nat.le_of_ble_eq_true rfl) dX4_beside_60 (fun H locs hP hS => ?_)
    refine lv_bipush (v := 13) C0.1 C0.2.1 dX4_beside_63 (by decide) ?_
    refine lv_icmp_ne (tgt := 72) C0.1 C0.2.1 dX4_beside_65 (by decide) (fun c_65 => ?_) (fun c_65 => ?_)
    · refine lv_iload_n C0.1 C0.2.1 dX4_beside_72 rfl (lv_at hl 0 rfl) ?_
      refine lv_iconst (v := 1) C0.1 C0.2.1 dX4_beside_73 (by decide) ?_
      refine lv_iadd C0.1 C0.2.1 dX4_beside_74 ?_
      exact retI C0 hr hlk hP hS ⟨by unfold besI; simp [k_1_2, c_65], rfl, rfl⟩ dX4_beside_75
    · refine lv_iconst (v := (-1)) C0.1 C0.2.1 dX4_beside_68 (by decide) ?_
      refine lv_goto (tgt := 75) C0.1 C0.2.1 dX4_beside_69 (by decide) ?_
      exact retI C0 hr hlk hP hS ⟨by unfold besI; simp [k_1_2, c_65], rfl, rfl⟩ dX4_beside_75
  refine lv_tableOut (tgt := 76) C0.1 C0.2.1 dX4_beside_1 (sw_out2 k_1_0 k_1_1 k_1_2) (by decide) ?_
  refine lv_iload_n C0.1 C0.2.1 dX4_beside_76 rfl (lv_at hl 0 rfl) ?_
  refine kn_X8_rowOf hd (by decide) C0 hK hP  (v := x / 14) rfl hS hA hl.1 hK.2.1 ⟨Nat.le_of_ble_eq_true rfl, Nat.le_of_ble_eq_true rfl⟩ ⟨Nat.zero_le _, Nat.zero_le _⟩ (Nat.le_of_ble_eq_true rfl) dX4_beside_77 (fun H locs hP hS => ?_)
  refine lv_bipush (v := 13) C0.1 C0.2.1 dX4_beside_80 (by decide) ?_
  refine lv_icmp_ne (tgt := 89) C0.1 C0.2.1 dX4_beside_82 (by decide) (fun c_82 => ?_) (fun c_82 => ?_)
  · refine lv_iload_n C0.1 C0.2.1 dX4_beside_89 rfl (lv_at hl 0 rfl) ?_
    refine lv_bipush (v := 14) C0.1 C0.2.1 dX4_beside_90 (by decide) ?_
    refine lv_iadd C0.1 C0.2.1 dX4_beside_92 ?_
    exact retI C0 hr hlk hP hS ⟨by unfold besI; simp [k_1_0, k_1_1, k_1_2, c_82], rfl, rfl⟩ dX4_beside_93
  · refine lv_iconst (v := (-1)) C0.1 C0.2.1 dX4_beside_85 (by decide) ?_
    refine lv_goto (tgt := 93) C0.1 C0.2.1 dX4_beside_86 (by decide) ?_
    exact retI C0 hr hlk hP hS ⟨by unfold besI; simp [k_1_0, k_1_1, k_1_2, c_82], rfl, rfl⟩ dX4_beside_93
theorem k_X4_beside {n : List Nat} (hd : Hd n a I) (hsub : ∀ k ∈ n0, k ∈ n) (C0 : CallFix p m c cc nL s args GW own) (hK : KK D cA s) (hP : WP D cA a S X I H) {x : Int32} {d : Int32} {v : Int32} (hv : (besI x d) = v) (hS : va_S A0 H0 H locs) (hA : ∀ q, AI a I q → A0 q) (hls : ls.size = nL) {idx : Nat} (hlink : Cond.methodLink own idx yX4_beside ∈ GW) (hR : 2 ≤ R.frames ∧ 41 ≤ R.locals) (hcs : cells ≤ R.cells ∧ slots ≤ R.slots) (hrest : (rest.map fun v => v.category).sum ≤ 8) (hdg : decode cc pc = .ok (.invokestatic idx, 3)) (kk : ∀ (H1 : Heap) (locs1 : List Loc), WP D cA a S X I H1 → va_S A0 H0 H1 locs1 → W p l e R s m args below meth c H1 locs1 cells slots Q (F0 m (pc + 3) ls (.int v :: rest))) : W p l e R s m args below meth c H locs cells slots Q (F0 m pc ls (.int d :: .int x :: rest)) := by
  subst hv
  exact goI (rS (n := 2) (c_X4_beside l D cA a S X I (hd.sub hsub) x d ) C0 hlink sm_X4_beside in_X4 co_X4_beside (by decide) hR hK hP rfl hls hrest rfl hdg hcs) hS hA (fun r S1 X1 H1 locs1 hp hP1 hS1 => by obtain ⟨rfl, rfl, rfl⟩ := hp; exact kk H1 locs1 hP1 hS1)
set_option maxHeartbeats 4000000 in
set_option maxRecDepth 100000 in
theorem c_X4_stakesShown (l : Launch) (D : va_G) (cA : ClassId) (a : Adr) (S X : Mem) (I : Nat → Prop) (hd : Hd nT a I) (lv : Int32) : MI l yX4_stakesShown cX4_stakesShown 4 (some .int) 3 65 D cA a S X I [.ref (a 80), .int lv] (fun r S1 X1 => r = (nI (cnt (fun j => decide (dpt S (nI j) lv < rg (S 1) 196 (nI j))) 196)) ∧ S1 = S ∧ X1 = X) := by
  refine mGo (by decide) (Nat.le_of_ble_eq_true rfl) ?_
  intro p e s m args below meth c ls C0 hr hlk hK hP hS hl hargs
  obtain ⟨H, hHe⟩ : ∃ H, H = s.heap := ⟨_, rfl⟩
  obtain ⟨locs, hlo⟩ : ∃ L : List Loc, L = [] := ⟨_, rfl⟩
  have hP : WP D cA a S X I H := hHe ▸ hP
  have hS : va_S (AI a I) s.heap H locs := by rw [hHe, hlo]; exact hS
  rw [← hHe, ← hlo]
  have hA : ∀ q, AI a I q → AI a I q := fun _ h => h
  refine lv_iconst (v := 0) C0.1 C0.2.1 dX4_stakesShown_0 (by decide) ?_
  refine lv_istore_n (lv' := [(2, .int 0), (0, .ref (a 80)), (1, .int lv)]) C0.1 C0.2.1 dX4_stakesShown_1 rfl hl (by decide) rfl (fun ls hl => ?_)
  refine lv_iconst (v := 0) C0.1 C0.2.1 dX4_stakesShown_2 (by decide) ?_
  refine lv_istore_n (lv' := [(3, .int 0), (2, .int 0), (0, .ref (a 80)), (1, .int lv)]) C0.1 C0.2.1 dX4_stakesShown_3 rfl hl (by decide) rfl (fun ls hl => ?_)
  have loop4 : ∀ (n : Nat) (i : Nat) (f : Int32), (i ≤ 196) → (196 + 1 ≤ i + n) → (f = nI (cnt (fun j => decide (dpt S (nI j) lv < rg (S 1) 196 (nI j))) i)) → ∀ (H : Heap) (locs : List Loc) (ls : Array Slot), WP D cA a S X I H → va_S (AI a I) s.heap H locs → lv_has ls 4 [(3, .int (nI i)), (2, .int f), (0, .ref (a 80)), (1, .int lv)] → W p l e { frames := 3, cells := 0, slots := 0, locals := 65 } s m args below meth c H locs (0) (0) (MQ below (QpI D cA a I (fun r S1 X1 => r = (nI (cnt (fun j => decide (dpt S (nI j) lv < rg (S 1) 196 (nI j))) 196)) ∧ S1 = S ∧ X1 = X)) args s 0 0 (AI a I)) (F0 m 4 ls []) := by
    intro n
    induction n with
    | zero => intro i f hi hf hcn; exfalso; omega
    | succ n ih4 =>
      intro i f hi hf hcn H locs ls hP hS hl
      refine lv_iload_n C0.1 C0.2.1 dX4_stakesShown_4 rfl (lv_at hl 0 rfl) ?_
      refine lv_sipush (v := 196) C0.1 C0.2.1 dX4_stakesShown_5 (by decide) ?_
      refine lv_icmp_ge (tgt := 29) C0.1 C0.2.1 dX4_stakesShown_8 (by decide) (fun c_8 => ?_) (fun c_8 => ?_)
      · have hge : 196 ≤ i := (nI_leI (by omega) (by omega)).mp c_8
        refine lv_iload_n C0.1 C0.2.1 dX4_stakesShown_29 rfl (lv_at hl 1 rfl) ?_
        exact retI C0 hr hlk hP hS ⟨by rw [hcn, show i = 196 by omega], rfl, rfl⟩ dX4_stakesShown_30
      · have hlt : i < 196 := Nat.not_le.mp fun q => c_8 (nI_le q (by omega))
        refine lv_aload_n C0.1 C0.2.1 dX4_stakesShown_11 rfl (lv_at hl 2 rfl) ?_
        refine lv_iload_n C0.1 C0.2.1 dX4_stakesShown_12 rfl (lv_at hl 0 rfl) ?_
        refine lv_iload_n C0.1 C0.2.1 dX4_stakesShown_13 rfl (lv_at hl 3 rfl) ?_
        refine k_X4_showsStake hd (by decide) C0 hK hP  (v := bI (decide (dpt S (nI i) lv < rg (S 1) 196 (nI i)))) rfl hS hA hl.1 ml_X4_42 ⟨Nat.le_of_ble_eq_true rfl, Nat.le_of_ble_eq_true rfl⟩ ⟨Nat.zero_le _, Nat.zero_le _⟩ (Nat.le_of_ble_eq_true rfl) dX4_stakesShown_14 (fun H locs hP hS => ?_)
        refine lv_if_eq (tgt := 23) C0.1 C0.2.1 dX4_stakesShown_17 (by decide) (fun c_17 => ?_) (fun c_17 => ?_)
        · have c_17 := bI_eq c_17
          refine lv_iinc (v := nI (i + 1)) (lv' := [(3, .int (nI (i + 1))), (2, .int f), (0, .ref (a 80)), (1, .int lv)]) C0.1 C0.2.1 dX4_stakesShown_23 hl (k := 0) rfl (nI_1 _) (by decide) rfl (fun ls hl => ?_)
          refine lv_goto (tgt := 4) C0.1 C0.2.1 dX4_stakesShown_26 (by decide) ?_
          exact ih4 (i + 1) _ (by omega) (by omega) (by rw [hcn, cnt_no (by rw [c_17]; exact Bool.false_ne_true)]) _ _ _ hP hS (lv_sub hl [0, 1, 2, 3] rfl)
        · have c_17 := bI_ne c_17
          refine lv_iinc (v := f + 1) (lv' := [(2, .int (f + 1)), (3, .int (nI i)), (0, .ref (a 80)), (1, .int lv)]) C0.1 C0.2.1 dX4_stakesShown_20 hl (k := 1) rfl rfl (by decide) rfl (fun ls hl => ?_)
          refine lv_iinc (v := nI (i + 1)) (lv' := [(3, .int (nI (i + 1))), (2, .int (f + 1)), (0, .ref (a 80)), (1, .int lv)]) C0.1 C0.2.1 dX4_stakesShown_23 hl (k := 1) rfl (nI_1 _) (by decide) rfl (fun ls hl => ?_)
          refine lv_goto (tgt := 4) C0.1 C0.2.1 dX4_stakesShown_26 (by decide) ?_
          exact ih4 (i + 1) _ (by omega) (by omega) (by rw [hcn, cnt_yes c_17, nI_1]) _ _ _ hP hS (lv_sub hl [0, 1, 2, 3] rfl)
  exact loop4 (196 + 1) 0 0 (by omega) (by omega) nI_0.symm _ _ _ hP hS (lv_sub hl [0, 1, 2, 3] rfl)
theorem k_X4_stakesShown {n : List Nat} (hd : Hd n a I) (hsub : ∀ k ∈ nT, k ∈ n) (C0 : CallFix p m c cc nL s args GW own) (hK : KK D cA s) (hP : WP D cA a S X I H) {lv : Int32} {v : Int32} (hv : (nI (cnt (fun j => decide (dpt S (nI j) lv < rg (S 1) 196 (nI j))) 196)) = v) (hS : va_S A0 H0 H locs) (hA : ∀ q, AI a I q → A0 q) (hls : ls.size = nL) {idx : Nat} (hlink : Cond.methodLink own idx yX4_stakesShown ∈ GW) (hR : 4 ≤ R.frames ∧ 88 ≤ R.locals) (hcs : cells ≤ R.cells ∧ slots ≤ R.slots) (hrest : (rest.map fun v => v.category).sum ≤ 8) (hdg : decode cc pc = .ok (.invokevirtual idx, 3)) (kk : ∀ (H1 : Heap) (locs1 : List Loc), WP D cA a S X I H1 → va_S A0 H0 H1 locs1 → W p l e R s m args below meth c H1 locs1 cells slots Q (F0 m (pc + 3) ls (.int v :: rest))) : W p l e R s m args below meth c H locs cells slots Q (F0 m pc ls (.int lv :: .ref (a 80) :: rest)) := by
  subst hv
  exact goI (rV (n := 1) (c_X4_stakesShown l D cA a S X I (hd.sub hsub) lv ) C0 hlink im_X4_stakesShown se_X4_stakesShown in_X4 co_X4_stakesShown ⟨rfl, by decide⟩ hR hK hP (hd.1 _ (hsub _ (by decide))) rfl rfl rfl hls hrest rfl hdg hcs) hS hA (fun r S1 X1 H1 locs1 hp hP1 hS1 => by obtain ⟨rfl, rfl, rfl⟩ := hp; exact kk H1 locs1 hP1 hS1)
set_option maxHeartbeats 4000000 in
set_option maxRecDepth 100000 in
theorem c_X3_on (l : Launch) (D : va_G) (cA : ClassId) (a : Adr) (S X : Mem) (I : Nat → Prop) (hd : Hd nT a I) (x : Int32) {L : Nat} (hnL : S 81 0 = nI L) (hL8 : L ≤ 8) : MI l yX3_on cX3_on 3 (some .int) 1 21 D cA a S X I [.ref (a 81), .int x] (fun r S1 X1 => r = (fndF (fun j => decide (rg (S 3) 8 (nI j) = x)) 0 L) ∧ S1 = S ∧ X1 = X) := by
  refine mGo (by decide) (Nat.le_of_ble_eq_true rfl) ?_
  intro p e s m args below meth c ls C0 hr hlk hK hP hS hl hargs
  obtain ⟨H, hHe⟩ : ∃ H, H = s.heap := ⟨_, rfl⟩
  obtain ⟨locs, hlo⟩ : ∃ L : List Loc, L = [] := ⟨_, rfl⟩
  have hP : WP D cA a S X I H := hHe ▸ hP
  have hS : va_S (AI a I) s.heap H locs := by rw [hHe, hlo]; exact hS
  rw [← hHe, ← hlo]
  have hA : ∀ q, AI a I q → AI a I q := fun _ h => h
  refine lv_iconst (v := 0) C0.1 C0.2.1 dX3_on_0 (by decide) ?_
  refine lv_istore_n (lv' := [(2, .int 0), (0, .ref (a 81)), (1, .int x)]) C0.1 C0.2.1 dX3_on_1 rfl hl (by decide) rfl (fun ls hl => ?_)
  have loop2 : ∀ (n : Nat) (i : Nat), (i ≤ L) → (L + 1 ≤ i + n) → (fndF (fun j => decide (rg (S 3) 8 (nI j) = x)) 0 L = fndF (fun j => decide (rg (S 3) 8 (nI j) = x)) i (L - i)) → ∀ (H : Heap) (locs : List Loc) (ls : Array Slot), WP D cA a S X I H → va_S (AI a I) s.heap H locs → lv_has ls 3 [(2, .int (nI i)), (0, .ref (a 81)), (1, .int x)] → W p l e { frames := 1, cells := 0, slots := 0, locals := 21 } s m args below meth c H locs (0) (0) (MQ below (QpI D cA a I (fun r S1 X1 => r = (fndF (fun j => decide (rg (S 3) 8 (nI j) = x)) 0 L) ∧ S1 = S ∧ X1 = X)) args s 0 0 (AI a I)) (F0 m 2 ls []) := by
    intro n
    induction n with
    | zero => intro i hi hf hfd; exfalso; omega
    | succ n ih2 =>
      intro i hi hf hfd H locs ls hP hS hl
      refine lv_iload_n C0.1 C0.2.1 dX3_on_2 rfl (lv_at hl 0 rfl) ?_
      refine lv_aload_n C0.1 C0.2.1 dX3_on_3 rfl (lv_at hl 1 rfl) ?_
      refine g81_number (v := nI L) C0 hK hP (hd.1 _ (by decide)) fl_X3_20 hnL dX3_on_4 ?_
      refine lv_icmp_ge (tgt := 30) C0.1 C0.2.1 dX3_on_7 (by decide) (fun c_7 => ?_) (fun c_7 => ?_)
      · have hge : L ≤ i := (nI_leI (by omega) (by omega)).mp c_7
        refine lv_iconst (v := (-1)) C0.1 C0.2.1 dX3_on_30 (by decide) ?_
        exact retI C0 hr hlk hP hS ⟨by rw [hfd, show L - i = 0 by omega]; rfl, rfl, rfl⟩ dX3_on_31
      · have hlt : i < L := Nat.not_le.mp fun q => c_7 (nI_le q (by omega))
        refine lv_aload_n C0.1 C0.2.1 dX3_on_10 rfl (lv_at hl 1 rfl) ?_
        refine g81_cell C0 hK hP (hd.1 _ (by decide)) fl_X3_14 dX3_on_11 ?_
        refine lv_iload_n C0.1 C0.2.1 dX3_on_14 rfl (lv_at hl 0 rfl) ?_
        refine k_X5_get (v := rg (S 3) 8 (nI i)) 3 (by decide) hd (by decide) (by decide) C0 hK hP rfl hS hA hl.1 ml_X3_28 ⟨Nat.le_of_ble_eq_true rfl, Nat.le_of_ble_eq_true rfl⟩ ⟨Nat.zero_le _, Nat.zero_le _⟩ (Nat.le_of_ble_eq_true rfl) dX3_on_15 (fun H locs hP hS => ?_)
        refine lv_iload_n C0.1 C0.2.1 dX3_on_18 rfl (lv_at hl 2 rfl) ?_
        refine lv_icmp_ne (tgt := 24) C0.1 C0.2.1 dX3_on_19 (by decide) (fun c_19 => ?_) (fun c_19 => ?_)
        · refine lv_iinc (v := nI (i + 1)) (lv' := [(2, .int (nI (i + 1))), (0, .ref (a 81)), (1, .int x)]) C0.1 C0.2.1 dX3_on_24 hl (k := 0) rfl (nI_1 _) (by decide) rfl (fun ls hl => ?_)
          refine lv_goto (tgt := 2) C0.1 C0.2.1 dX3_on_27 (by decide) ?_
          exact ih2 (i + 1)  (by omega) (by omega) (by rw [hfd, show L - i = L - (i + 1) + 1 by omega, fndF_no (fun h => c_19 (of_decide_eq_true h))]) _ _ _ hP hS (lv_sub hl [0, 1, 2] rfl)
        · refine lv_iload_n C0.1 C0.2.1 dX3_on_22 rfl (lv_at hl 0 rfl) ?_
          exact retI C0 hr hlk hP hS ⟨by rw [hfd, show L - i = L - (i + 1) + 1 by omega, fndF_yes (decide_eq_true c_19)], rfl, rfl⟩ dX3_on_23
  exact loop2 (L + 1) 0  (by omega) (by omega) rfl _ _ _ hP hS (lv_sub hl [0, 1, 2] rfl)
theorem k_X3_on {n : List Nat} (hd : Hd n a I) (hsub : ∀ k ∈ nT, k ∈ n) (C0 : CallFix p m c cc nL s args GW own) (hK : KK D cA s) (hP : WP D cA a S X I H) {x : Int32} {L : Nat} (hnL : S 81 0 = nI L) (hL8 : L ≤ 8) {v : Int32} (hv : (fndF (fun j => decide (rg (S 3) 8 (nI j) = x)) 0 L) = v) (hS : va_S A0 H0 H locs) (hA : ∀ q, AI a I q → A0 q) (hls : ls.size = nL) {idx : Nat} (hlink : Cond.methodLink own idx yX3_on ∈ GW) (hR : 2 ≤ R.frames ∧ 43 ≤ R.locals) (hcs : cells ≤ R.cells ∧ slots ≤ R.slots) (hrest : (rest.map fun v => v.category).sum ≤ 8) (hdg : decode cc pc = .ok (.invokevirtual idx, 3)) (kk : ∀ (H1 : Heap) (locs1 : List Loc), WP D cA a S X I H1 → va_S A0 H0 H1 locs1 → W p l e R s m args below meth c H1 locs1 cells slots Q (F0 m (pc + 3) ls (.int v :: rest))) : W p l e R s m args below meth c H locs cells slots Q (F0 m pc ls (.int x :: .ref (a 81) :: rest)) := by
  subst hv
  exact goI (rV (n := 1) (c_X3_on l D cA a S X I (hd.sub hsub) x hnL hL8) C0 hlink im_X3_on se_X3_on in_X3 co_X3_on ⟨rfl, by decide⟩ hR hK hP (hd.1 _ (hsub _ (by decide))) rfl rfl rfl hls hrest rfl hdg hcs) hS hA (fun r S1 X1 H1 locs1 hp hP1 hS1 => by obtain ⟨rfl, rfl, rfl⟩ := hp; exact kk H1 locs1 hP1 hS1)
set_option maxHeartbeats 4000000 in
set_option maxRecDepth 100000 in
theorem c_X0_length (l : Launch) (D : va_G) (cA : ClassId) (a : Adr) (S X : Mem) (I : Nat → Prop) (hd : Hd nCH a I) (x : Int32) (t : Int32) : MI l yX0_length cX0_length 3 (some .int) 1 21 D cA a S X I [.ref (a 83), .int x, .int t] (fun r S1 X1 => r = (lnI (X 10) x t) ∧ S1 = S ∧ X1 = X) := by
  refine mGo (by decide) (Nat.le_of_ble_eq_true rfl) ?_
  intro p e s m args below meth c ls C0 hr hlk hK hP hS hl hargs
  obtain ⟨H, hHe⟩ : ∃ H, H = s.heap := ⟨_, rfl⟩
  obtain ⟨locs, hlo⟩ : ∃ L : List Loc, L = [] := ⟨_, rfl⟩
  have hP : WP D cA a S X I H := hHe ▸ hP
  have hS : va_S (AI a I) s.heap H locs := by rw [hHe, hlo]; exact hS
  rw [← hHe, ← hlo]
  have hA : ∀ q, AI a I q → AI a I q := fun _ h => h
  refine lv_aload_n C0.1 C0.2.1 dX0_length_0 rfl (lv_at hl 0 rfl) ?_
  refine g83_lengths C0 hK hP (hd.1 _ (by decide)) fl_X0_14 dX0_length_1 ?_
  refine lv_iload_n C0.1 C0.2.1 dX0_length_4 rfl (lv_at hl 1 rfl) ?_
  refine lv_bipush (v := 8) C0.1 C0.2.1 dX0_length_5 (by decide) ?_
  refine lv_imul C0.1 C0.2.1 dX0_length_7 ?_
  refine lv_iload_n C0.1 C0.2.1 dX0_length_8 rfl (lv_at hl 2 rfl) ?_
  refine lv_iadd C0.1 C0.2.1 dX0_length_9 ?_
  refine k_X5_get (v := rg (X 10) 64 ((x * 8) + t)) 10 (by decide) hd (by decide) (by decide) C0 hK hP rfl hS hA hl.1 ml_X0_33 ⟨Nat.le_of_ble_eq_true rfl, Nat.le_of_ble_eq_true rfl⟩ ⟨Nat.zero_le _, Nat.zero_le _⟩ (Nat.le_of_ble_eq_true rfl) dX0_length_10 (fun H locs hP hS => ?_)
  exact retI C0 hr hlk hP hS ⟨rfl, rfl, rfl⟩ dX0_length_13
theorem k_X0_length {n : List Nat} (hd : Hd n a I) (hsub : ∀ k ∈ nCH, k ∈ n) (C0 : CallFix p m c cc nL s args GW own) (hK : KK D cA s) (hP : WP D cA a S X I H) {x : Int32} {t : Int32} {v : Int32} (hv : (lnI (X 10) x t) = v) (hS : va_S A0 H0 H locs) (hA : ∀ q, AI a I q → A0 q) (hls : ls.size = nL) {idx : Nat} (hlink : Cond.methodLink own idx yX0_length ∈ GW) (hR : 2 ≤ R.frames ∧ 43 ≤ R.locals) (hcs : cells ≤ R.cells ∧ slots ≤ R.slots) (hrest : (rest.map fun v => v.category).sum ≤ 8) (hdg : decode cc pc = .ok (.invokevirtual idx, 3)) (kk : ∀ (H1 : Heap) (locs1 : List Loc), WP D cA a S X I H1 → va_S A0 H0 H1 locs1 → W p l e R s m args below meth c H1 locs1 cells slots Q (F0 m (pc + 3) ls (.int v :: rest))) : W p l e R s m args below meth c H locs cells slots Q (F0 m pc ls (.int t :: .int x :: .ref (a 83) :: rest)) := by
  subst hv
  exact goI (rV (n := 2) (c_X0_length l D cA a S X I (hd.sub hsub) x t ) C0 hlink im_X0_length se_X0_length in_X0 co_X0_length ⟨rfl, by decide⟩ hR hK hP (hd.1 _ (hsub _ (by decide))) rfl rfl rfl hls hrest rfl hdg hcs) hS hA (fun r S1 X1 H1 locs1 hp hP1 hS1 => by obtain ⟨rfl, rfl, rfl⟩ := hp; exact kk H1 locs1 hP1 hS1)
set_option maxHeartbeats 4000000 in
set_option maxRecDepth 100000 in
theorem c_X0_firstPunt (l : Launch) (D : va_G) (cA : ClassId) (a : Adr) (S X : Mem) (I : Nat → Prop) (hd : Hd nCH a I) (x : Int32) (t : Int32) : MI l yX0_firstPunt cX0_firstPunt 3 (some .int) 1 21 D cA a S X I [.ref (a 83), .int x, .int t] (fun r S1 X1 => r = (lnI (X 11) x t) ∧ S1 = S ∧ X1 = X) := by
  refine mGo (by decide) (Nat.le_of_ble_eq_true rfl) ?_
  intro p e s m args below meth c ls C0 hr hlk hK hP hS hl hargs
  obtain ⟨H, hHe⟩ : ∃ H, H = s.heap := ⟨_, rfl⟩
  obtain ⟨locs, hlo⟩ : ∃ L : List Loc, L = [] := ⟨_, rfl⟩
  have hP : WP D cA a S X I H := hHe ▸ hP
  have hS : va_S (AI a I) s.heap H locs := by rw [hHe, hlo]; exact hS
  rw [← hHe, ← hlo]
  have hA : ∀ q, AI a I q → AI a I q := fun _ h => h
  refine lv_aload_n C0.1 C0.2.1 dX0_firstPunt_0 rfl (lv_at hl 0 rfl) ?_
  refine g83_firstPunts C0 hK hP (hd.1 _ (by decide)) fl_X0_20 dX0_firstPunt_1 ?_
  refine lv_iload_n C0.1 C0.2.1 dX0_firstPunt_4 rfl (lv_at hl 1 rfl) ?_
  refine lv_bipush (v := 8) C0.1 C0.2.1 dX0_firstPunt_5 (by decide) ?_
  refine lv_imul C0.1 C0.2.1 dX0_firstPunt_7 ?_
  refine lv_iload_n C0.1 C0.2.1 dX0_firstPunt_8 rfl (lv_at hl 2 rfl) ?_
  refine lv_iadd C0.1 C0.2.1 dX0_firstPunt_9 ?_
  refine k_X5_get (v := rg (X 11) 64 ((x * 8) + t)) 11 (by decide) hd (by decide) (by decide) C0 hK hP rfl hS hA hl.1 ml_X0_33 ⟨Nat.le_of_ble_eq_true rfl, Nat.le_of_ble_eq_true rfl⟩ ⟨Nat.zero_le _, Nat.zero_le _⟩ (Nat.le_of_ble_eq_true rfl) dX0_firstPunt_10 (fun H locs hP hS => ?_)
  exact retI C0 hr hlk hP hS ⟨rfl, rfl, rfl⟩ dX0_firstPunt_13
theorem k_X0_firstPunt {n : List Nat} (hd : Hd n a I) (hsub : ∀ k ∈ nCH, k ∈ n) (C0 : CallFix p m c cc nL s args GW own) (hK : KK D cA s) (hP : WP D cA a S X I H) {x : Int32} {t : Int32} {v : Int32} (hv : (lnI (X 11) x t) = v) (hS : va_S A0 H0 H locs) (hA : ∀ q, AI a I q → A0 q) (hls : ls.size = nL) {idx : Nat} (hlink : Cond.methodLink own idx yX0_firstPunt ∈ GW) (hR : 2 ≤ R.frames ∧ 43 ≤ R.locals) (hcs : cells ≤ R.cells ∧ slots ≤ R.slots) (hrest : (rest.map fun v => v.category).sum ≤ 8) (hdg : decode cc pc = .ok (.invokevirtual idx, 3)) (kk : ∀ (H1 : Heap) (locs1 : List Loc), WP D cA a S X I H1 → va_S A0 H0 H1 locs1 → W p l e R s m args below meth c H1 locs1 cells slots Q (F0 m (pc + 3) ls (.int v :: rest))) : W p l e R s m args below meth c H locs cells slots Q (F0 m pc ls (.int t :: .int x :: .ref (a 83) :: rest)) := by
  subst hv
  exact goI (rV (n := 2) (c_X0_firstPunt l D cA a S X I (hd.sub hsub) x t ) C0 hlink im_X0_firstPunt se_X0_firstPunt in_X0 co_X0_firstPunt ⟨rfl, by decide⟩ hR hK hP (hd.1 _ (hsub _ (by decide))) rfl rfl rfl hls hrest rfl hdg hcs) hS hA (fun r S1 X1 H1 locs1 hp hP1 hS1 => by obtain ⟨rfl, rfl, rfl⟩ := hp; exact kk H1 locs1 hP1 hS1)
set_option maxHeartbeats 4000000 in
set_option maxRecDepth 100000 in
theorem c_X0_lengthen (l : Launch) (D : va_G) (cA : ClassId) (a : Adr) (S X : Mem) (I : Nat → Prop) (hd : Hd nCH a I) (x : Int32) (y : Int32) (t : Int32) (q : Int32) : MV l yX0_lengthen cX0_lengthen 5 none 2 43 D cA a S X I [.ref (a 83), .int x, .int y, .int t, .int q] (fun S1 X1 => S1 = S ∧ X1 = (up X 10 (lenS (X 10) x y t q))) := by
  refine mGo (by decide) (Nat.le_of_ble_eq_true rfl) ?_
  intro p e s m args below meth c ls C0 hr hlk hK hP hS hl hargs
  obtain ⟨H, hHe⟩ : ∃ H, H = s.heap := ⟨_, rfl⟩
  obtain ⟨locs, hlo⟩ : ∃ L : List Loc, L = [] := ⟨_, rfl⟩
  have hP : WP D cA a S X I H := hHe ▸ hP
  have hS : va_S (AI a I) s.heap H locs := by rw [hHe, hlo]; exact hS
  rw [← hHe, ← hlo]
  have hA : ∀ q, AI a I q → AI a I q := fun _ h => h
  refine lv_aload_n C0.1 C0.2.1 dX0_lengthen_0 rfl (lv_at hl 0 rfl) ?_
  refine lv_iload_n C0.1 C0.2.1 dX0_lengthen_1 rfl (lv_at hl 2 rfl) ?_
  refine lv_iload_n C0.1 C0.2.1 dX0_lengthen_2 rfl (lv_at hl 3 rfl) ?_
  refine k_X0_length hd (by decide) C0 hK hP  (v := lnI (X 10) y t) rfl hS hA hl.1 ml_X0_67 ⟨Nat.le_of_ble_eq_true rfl, Nat.le_of_ble_eq_true rfl⟩ ⟨Nat.zero_le _, Nat.zero_le _⟩ (Nat.le_of_ble_eq_true rfl) dX0_lengthen_3 (fun H locs hP hS => ?_)
  refine lv_iload C0.1 C0.2.1 dX0_lengthen_6 (lv_at hl 4 rfl) ?_
  refine lv_icmp_ne (tgt := 38) C0.1 C0.2.1 dX0_lengthen_8 (by decide) (fun c_8 => ?_) (fun c_8 => ?_)
  · exact retV C0 hr hlk hP hS ⟨rfl, by rw [lenS, if_neg (fun h => c_8 h.1), up_self]⟩ dX0_lengthen_38
  · refine lv_aload_n C0.1 C0.2.1 dX0_lengthen_11 rfl (lv_at hl 0 rfl) ?_
    refine lv_iload_n C0.1 C0.2.1 dX0_lengthen_12 rfl (lv_at hl 1 rfl) ?_
    refine lv_iload_n C0.1 C0.2.1 dX0_lengthen_13 rfl (lv_at hl 3 rfl) ?_
    refine k_X0_length hd (by decide) C0 hK hP  (v := lnI (X 10) x t) rfl hS hA hl.1 ml_X0_67 ⟨Nat.le_of_ble_eq_true rfl, Nat.le_of_ble_eq_true rfl⟩ ⟨Nat.zero_le _, Nat.zero_le _⟩ (Nat.le_of_ble_eq_true rfl) dX0_lengthen_14 (fun H locs hP hS => ?_)
    refine lv_iconst (v := (-1)) C0.1 C0.2.1 dX0_lengthen_17 (by decide) ?_
    refine lv_icmp_ne (tgt := 38) C0.1 C0.2.1 dX0_lengthen_18 (by decide) (fun c_18 => ?_) (fun c_18 => ?_)
    · exact retV C0 hr hlk hP hS ⟨rfl, by rw [lenS, if_neg (fun h => c_18 h.2), up_self]⟩ dX0_lengthen_38
    · refine lv_aload_n C0.1 C0.2.1 dX0_lengthen_21 rfl (lv_at hl 0 rfl) ?_
      refine g83_lengths C0 hK hP (hd.1 _ (by decide)) fl_X0_14 dX0_lengthen_22 ?_
      refine lv_iload_n C0.1 C0.2.1 dX0_lengthen_25 rfl (lv_at hl 1 rfl) ?_
      refine lv_bipush (v := 8) C0.1 C0.2.1 dX0_lengthen_26 (by decide) ?_
      refine lv_imul C0.1 C0.2.1 dX0_lengthen_28 ?_
      refine lv_iload_n C0.1 C0.2.1 dX0_lengthen_29 rfl (lv_at hl 3 rfl) ?_
      refine lv_iadd C0.1 C0.2.1 dX0_lengthen_30 ?_
      refine lv_iload C0.1 C0.2.1 dX0_lengthen_31 (lv_at hl 4 rfl) ?_
      refine lv_iconst (v := 1) C0.1 C0.2.1 dX0_lengthen_33 (by decide) ?_
      refine lv_iadd C0.1 C0.2.1 dX0_lengthen_34 ?_
      refine k_X5_set 10 (by decide) hd (by decide) (by decide) C0 hK hP hS hA hl.1 ml_X0_40 ⟨Nat.le_of_ble_eq_true rfl, Nat.le_of_ble_eq_true rfl⟩ ⟨Nat.zero_le _, Nat.zero_le _⟩ (Nat.le_of_ble_eq_true rfl) dX0_lengthen_35 (fun H locs hP hS => ?_)
      have hP : WP D cA a S (up X 10 (us (X 10) 64 ((x * 8) + t) (q + 1))) I H := hP
      exact retV C0 hr hlk hP hS ⟨rfl, by rw [lenS, if_pos ⟨c_8, c_18⟩]⟩ dX0_lengthen_38
theorem k_X0_lengthen {n : List Nat} (hd : Hd n a I) (hsub : ∀ k ∈ nCH, k ∈ n) (C0 : CallFix p m c cc nL s args GW own) (hK : KK D cA s) (hP : WP D cA a S X I H) {x : Int32} {y : Int32} {t : Int32} {q : Int32} (hS : va_S A0 H0 H locs) (hA : ∀ q, AI a I q → A0 q) (hls : ls.size = nL) {idx : Nat} (hlink : Cond.methodLink own idx yX0_lengthen ∈ GW) (hR : 3 ≤ R.frames ∧ 67 ≤ R.locals) (hcs : cells ≤ R.cells ∧ slots ≤ R.slots) (hrest : (rest.map fun v => v.category).sum ≤ 8) (hdg : decode cc pc = .ok (.invokevirtual idx, 3)) (kk : ∀ (H1 : Heap) (locs1 : List Loc), WP D cA a S (up X 10 (lenS (X 10) x y t q)) I H1 → va_S A0 H0 H1 locs1 → W p l e R s m args below meth c H1 locs1 cells slots Q (F0 m (pc + 3) ls rest)) : W p l e R s m args below meth c H locs cells slots Q (F0 m pc ls (.int q :: .int t :: .int y :: .int x :: .ref (a 83) :: rest)) := by
  exact goV (rV (n := 4) (c_X0_lengthen l D cA a S X I (hd.sub hsub) x y t q ) C0 hlink im_X0_lengthen se_X0_lengthen in_X0 co_X0_lengthen ⟨rfl, by decide⟩ hR hK hP (hd.1 _ (hsub _ (by decide))) rfl rfl rfl hls hrest rfl hdg hcs) hS hA (fun S1 X1 H1 locs1 hp hP1 hS1 => by obtain ⟨rfl, rfl⟩ := hp; exact kk H1 locs1 hP1 hS1)
set_option maxHeartbeats 4000000 in
set_option maxRecDepth 100000 in
theorem c_X0_lengthenAll (l : Launch) (D : va_G) (cA : ClassId) (a : Adr) (S X : Mem) (I : Nat → Prop) (hd : Hd nCH a I) (t : Int32) (q : Int32) {P : Nat} (hnP : S 82 0 = nI P) (hP6 : P ≤ 6) : MV l yX0_lengthenAll cX0_lengthenAll 4 none 3 67 D cA a S X I [.ref (a 83), .int t, .int q] (fun S1 X1 => S1 = S ∧ X1 = (up X 10 (lenA S t q P (X 10)))) := by
  refine mGo (by decide) (Nat.le_of_ble_eq_true rfl) ?_
  intro p e s m args below meth c ls C0 hr hlk hK hP hS hl hargs
  obtain ⟨H, hHe⟩ : ∃ H, H = s.heap := ⟨_, rfl⟩
  obtain ⟨locs, hlo⟩ : ∃ L : List Loc, L = [] := ⟨_, rfl⟩
  have hP : WP D cA a S X I H := hHe ▸ hP
  have hS : va_S (AI a I) s.heap H locs := by rw [hHe, hlo]; exact hS
  rw [← hHe, ← hlo]
  have hA : ∀ q, AI a I q → AI a I q := fun _ h => h
  refine lv_iconst (v := 0) C0.1 C0.2.1 dX0_lengthenAll_0 (by decide) ?_
  refine lv_istore_n (lv' := [(3, .int 0), (0, .ref (a 83)), (1, .int t), (2, .int q)]) C0.1 C0.2.1 dX0_lengthenAll_1 rfl hl (by decide) rfl (fun ls hl => ?_)
  have loop2 : ∀ (n : Nat) (i : Nat), (i ≤ P) → (P + 1 ≤ i + n) → ∀ (H : Heap) (locs : List Loc) (ls : Array Slot), WP D cA a S (up X 10 (lenA S t q i (X 10))) I H → va_S (AI a I) s.heap H locs → lv_has ls 4 [(3, .int (nI i)), (0, .ref (a 83)), (1, .int t), (2, .int q)] → W p l e { frames := 3, cells := 0, slots := 0, locals := 67 } s m args below meth c H locs (0) (0) (MQ below (QpV D cA a I (fun S1 X1 => S1 = S ∧ X1 = (up X 10 (lenA S t q P (X 10))))) args s 0 0 (AI a I)) (F0 m 2 ls []) := by
    intro n
    induction n with
    | zero => intro i hi hf; exfalso; omega
    | succ n ih2 =>
      intro i hi hf H locs ls hP hS hl
      refine lv_iload_n C0.1 C0.2.1 dX0_lengthenAll_2 rfl (lv_at hl 0 rfl) ?_
      refine lv_aload_n C0.1 C0.2.1 dX0_lengthenAll_3 rfl (lv_at hl 1 rfl) ?_
      refine g83_fleet C0 hK hP (hd.1 _ (by decide)) fl_X0_26 dX0_lengthenAll_4 ?_
      refine g82_number (v := nI P) C0 hK hP (hd.1 _ (by decide)) fl_X0_51 hnP dX0_lengthenAll_7 ?_
      refine lv_icmp_ge (tgt := 75) C0.1 C0.2.1 dX0_lengthenAll_10 (by decide) (fun c_10 => ?_) (fun c_10 => ?_)
      · have hge : P ≤ i := (nI_leI (by omega) (by omega)).mp c_10
        exact retV C0 hr hlk hP hS ⟨rfl, by rw [show i = P by omega]⟩ dX0_lengthenAll_75
      · have hlt : i < P := Nat.not_le.mp fun q => c_10 (nI_le q (by omega))
        refine lv_aload_n C0.1 C0.2.1 dX0_lengthenAll_13 rfl (lv_at hl 1 rfl) ?_
        refine lv_aload_n C0.1 C0.2.1 dX0_lengthenAll_14 rfl (lv_at hl 1 rfl) ?_
        refine g83_fleet C0 hK hP (hd.1 _ (by decide)) fl_X0_26 dX0_lengthenAll_15 ?_
        refine g82_home C0 hK hP (hd.1 _ (by decide)) fl_X0_57 dX0_lengthenAll_18 ?_
        refine lv_iload_n C0.1 C0.2.1 dX0_lengthenAll_21 rfl (lv_at hl 0 rfl) ?_
        refine k_X5_get (v := rg (S 4) 6 (nI i)) 4 (by decide) hd (by decide) (by decide) C0 hK hP rfl hS hA hl.1 ml_X0_33 ⟨Nat.le_of_ble_eq_true rfl, Nat.le_of_ble_eq_true rfl⟩ ⟨Nat.zero_le _, Nat.zero_le _⟩ (Nat.le_of_ble_eq_true rfl) dX0_lengthenAll_22 (fun H locs hP hS => ?_)
        refine lv_aload_n C0.1 C0.2.1 dX0_lengthenAll_25 rfl (lv_at hl 1 rfl) ?_
        refine g83_fleet C0 hK hP (hd.1 _ (by decide)) fl_X0_26 dX0_lengthenAll_26 ?_
        refine g82_goal C0 hK hP (hd.1 _ (by decide)) fl_X0_60 dX0_lengthenAll_29 ?_
        refine lv_iload_n C0.1 C0.2.1 dX0_lengthenAll_32 rfl (lv_at hl 0 rfl) ?_
        refine k_X5_get (v := rg (S 5) 6 (nI i)) 5 (by decide) hd (by decide) (by decide) C0 hK hP rfl hS hA hl.1 ml_X0_33 ⟨Nat.le_of_ble_eq_true rfl, Nat.le_of_ble_eq_true rfl⟩ ⟨Nat.zero_le _, Nat.zero_le _⟩ (Nat.le_of_ble_eq_true rfl) dX0_lengthenAll_33 (fun H locs hP hS => ?_)
        refine lv_iload_n C0.1 C0.2.1 dX0_lengthenAll_36 rfl (lv_at hl 2 rfl) ?_
        refine lv_iload_n C0.1 C0.2.1 dX0_lengthenAll_37 rfl (lv_at hl 3 rfl) ?_
        refine k_X0_lengthen hd (by decide) C0 hK hP  hS hA hl.1 ml_X0_63 ⟨Nat.le_of_ble_eq_true rfl, Nat.le_of_ble_eq_true rfl⟩ ⟨Nat.zero_le _, Nat.zero_le _⟩ (Nat.le_of_ble_eq_true rfl) dX0_lengthenAll_38 (fun H locs hP hS => ?_)
        have hP : WP D cA a S (up X 10 (lenS (lenA S t q i (X 10)) (rg (S 4) 6 (nI i)) (rg (S 5) 6 (nI i)) t q)) I H := WP.congr (show WP D cA a S (up (up X 10 (lenA S t q i (X 10))) 10 (lenS (lenA S t q i (X 10)) (rg (S 4) 6 (nI i)) (rg (S 5) 6 (nI i)) t q)) I H from hP) (fun _ => rfl) (fun k => by
            by_cases h_10 : k = 10
            · subst h_10; rfl
            simp only [up, h_10, if_false])
        refine lv_aload_n C0.1 C0.2.1 dX0_lengthenAll_41 rfl (lv_at hl 1 rfl) ?_
        refine lv_aload_n C0.1 C0.2.1 dX0_lengthenAll_42 rfl (lv_at hl 1 rfl) ?_
        refine g83_fleet C0 hK hP (hd.1 _ (by decide)) fl_X0_26 dX0_lengthenAll_43 ?_
        refine g82_goal C0 hK hP (hd.1 _ (by decide)) fl_X0_60 dX0_lengthenAll_46 ?_
        refine lv_iload_n C0.1 C0.2.1 dX0_lengthenAll_49 rfl (lv_at hl 0 rfl) ?_
        refine k_X5_get (v := rg (S 5) 6 (nI i)) 5 (by decide) hd (by decide) (by decide) C0 hK hP rfl hS hA hl.1 ml_X0_33 ⟨Nat.le_of_ble_eq_true rfl, Nat.le_of_ble_eq_true rfl⟩ ⟨Nat.zero_le _, Nat.zero_le _⟩ (Nat.le_of_ble_eq_true rfl) dX0_lengthenAll_50 (fun H locs hP hS => ?_)
        refine lv_aload_n C0.1 C0.2.1 dX0_lengthenAll_53 rfl (lv_at hl 1 rfl) ?_
        refine g83_fleet C0 hK hP (hd.1 _ (by decide)) fl_X0_26 dX0_lengthenAll_54 ?_
        refine g82_home C0 hK hP (hd.1 _ (by decide)) fl_X0_57 dX0_lengthenAll_57 ?_
        refine lv_iload_n C0.1 C0.2.1 dX0_lengthenAll_60 rfl (lv_at hl 0 rfl) ?_
        refine k_X5_get (v := rg (S 4) 6 (nI i)) 4 (by decide) hd (by decide) (by decide) C0 hK hP rfl hS hA hl.1 ml_X0_33 ⟨Nat.le_of_ble_eq_true rfl, Nat.le_of_ble_eq_true rfl⟩ ⟨Nat.zero_le _, Nat.zero_le _⟩ (Nat.le_of_ble_eq_true rfl) dX0_lengthenAll_61 (fun H locs hP hS => ?_)
        refine lv_iload_n C0.1 C0.2.1 dX0_lengthenAll_64 rfl (lv_at hl 2 rfl) ?_
        refine lv_iload_n C0.1 C0.2.1 dX0_lengthenAll_65 rfl (lv_at hl 3 rfl) ?_
        refine k_X0_lengthen hd (by decide) C0 hK hP  hS hA hl.1 ml_X0_63 ⟨Nat.le_of_ble_eq_true rfl, Nat.le_of_ble_eq_true rfl⟩ ⟨Nat.zero_le _, Nat.zero_le _⟩ (Nat.le_of_ble_eq_true rfl) dX0_lengthenAll_66 (fun H locs hP hS => ?_)
        have hP : WP D cA a S (up X 10 (lenS (lenS (lenA S t q i (X 10)) (rg (S 4) 6 (nI i)) (rg (S 5) 6 (nI i)) t q) (rg (S 5) 6 (nI i)) (rg (S 4) 6 (nI i)) t q)) I H := WP.congr (show WP D cA a S (up (up X 10 (lenS (lenA S t q i (X 10)) (rg (S 4) 6 (nI i)) (rg (S 5) 6 (nI i)) t q)) 10 (lenS (lenS (lenA S t q i (X 10)) (rg (S 4) 6 (nI i)) (rg (S 5) 6 (nI i)) t q) (rg (S 5) 6 (nI i)) (rg (S 4) 6 (nI i)) t q)) I H from hP) (fun _ => rfl) (fun k => by
            by_cases h_10 : k = 10
            · subst h_10; rfl
            simp only [up, h_10, if_false])
        refine lv_iinc (v := nI (i + 1)) (lv' := [(3, .int (nI (i + 1))), (0, .ref (a 83)), (1, .int t), (2, .int q)]) C0.1 C0.2.1 dX0_lengthenAll_69 hl (k := 0) rfl (nI_1 _) (by decide) rfl (fun ls hl => ?_)
        refine lv_goto (tgt := 2) C0.1 C0.2.1 dX0_lengthenAll_72 (by decide) ?_
        exact ih2 (i + 1)  (by omega) (by omega)  _ _ _ hP hS (lv_sub hl [0, 1, 2, 3] rfl)
  have hP : WP D cA a S (up X 10 (lenA S t q 0 (X 10))) I H := by rw [show lenA S t q 0 (X 10) = X 10 from rfl, up_self]; exact hP
  exact loop2 (P + 1) 0  (by omega) (by omega)  _ _ _ hP hS (lv_sub hl [0, 1, 2, 3] rfl)
theorem k_X0_lengthenAll {n : List Nat} (hd : Hd n a I) (hsub : ∀ k ∈ nCH, k ∈ n) (C0 : CallFix p m c cc nL s args GW own) (hK : KK D cA s) (hP : WP D cA a S X I H) {t : Int32} {q : Int32} {P : Nat} (hnP : S 82 0 = nI P) (hP6 : P ≤ 6) (hS : va_S A0 H0 H locs) (hA : ∀ q, AI a I q → A0 q) (hls : ls.size = nL) {idx : Nat} (hlink : Cond.methodLink own idx yX0_lengthenAll ∈ GW) (hR : 4 ≤ R.frames ∧ 90 ≤ R.locals) (hcs : cells ≤ R.cells ∧ slots ≤ R.slots) (hrest : (rest.map fun v => v.category).sum ≤ 8) (hdg : decode cc pc = .ok (.invokevirtual idx, 3)) (kk : ∀ (H1 : Heap) (locs1 : List Loc), WP D cA a S (up X 10 (lenA S t q P (X 10))) I H1 → va_S A0 H0 H1 locs1 → W p l e R s m args below meth c H1 locs1 cells slots Q (F0 m (pc + 3) ls rest)) : W p l e R s m args below meth c H locs cells slots Q (F0 m pc ls (.int q :: .int t :: .ref (a 83) :: rest)) := by
  exact goV (rV (n := 2) (c_X0_lengthenAll l D cA a S X I (hd.sub hsub) t q hnP hP6) C0 hlink im_X0_lengthenAll se_X0_lengthenAll in_X0 co_X0_lengthenAll ⟨rfl, by decide⟩ hR hK hP (hd.1 _ (hsub _ (by decide))) rfl rfl rfl hls hrest rfl hdg hcs) hS hA (fun S1 X1 H1 locs1 hp hP1 hS1 => by obtain ⟨rfl, rfl⟩ := hp; exact kk H1 locs1 hP1 hS1)
set_option maxHeartbeats 4000000 in
set_option maxRecDepth 100000 in
theorem c_X0_begins (l : Launch) (D : va_G) (cA : ClassId) (a : Adr) (S X : Mem) (I : Nat → Prop) (hd : Hd nCH a I) (q : Int32) (x : Int32) (t : Int32) : MI l yX0_begins cX0_begins 4 (some .boolean) 2 43 D cA a S X I [.ref (a 83), .int q, .int x, .int t] (fun r S1 X1 => r = (bI (bgn S (X 10) q x t)) ∧ S1 = S ∧ X1 = X) := by
  refine mGo (by decide) (Nat.le_of_ble_eq_true rfl) ?_
  intro p e s m args below meth c ls C0 hr hlk hK hP hS hl hargs
  obtain ⟨H, hHe⟩ : ∃ H, H = s.heap := ⟨_, rfl⟩
  obtain ⟨locs, hlo⟩ : ∃ L : List Loc, L = [] := ⟨_, rfl⟩
  have hP : WP D cA a S X I H := hHe ▸ hP
  have hS : va_S (AI a I) s.heap H locs := by rw [hHe, hlo]; exact hS
  rw [← hHe, ← hlo]
  have hA : ∀ q, AI a I q → AI a I q := fun _ h => h
  refine lv_aload_n C0.1 C0.2.1 dX0_begins_0 rfl (lv_at hl 0 rfl) ?_
  refine lv_iload_n C0.1 C0.2.1 dX0_begins_1 rfl (lv_at hl 2 rfl) ?_
  refine lv_iload_n C0.1 C0.2.1 dX0_begins_2 rfl (lv_at hl 3 rfl) ?_
  refine k_X0_length hd (by decide) C0 hK hP  (v := lnI (X 10) x t) rfl hS hA hl.1 ml_X0_67 ⟨Nat.le_of_ble_eq_true rfl, Nat.le_of_ble_eq_true rfl⟩ ⟨Nat.zero_le _, Nat.zero_le _⟩ (Nat.le_of_ble_eq_true rfl) dX0_begins_3 (fun H locs hP hS => ?_)
  refine lv_if_le (tgt := 50) C0.1 C0.2.1 dX0_begins_6 (by decide) (fun c_6 => ?_) (fun c_6 => ?_)
  · refine lv_iconst (v := 0) C0.1 C0.2.1 dX0_begins_50 (by decide) ?_
    exact retZ C0 hr hlk hP hS rfl ⟨(bI_f (by unfold bgn; rw [decide_eq_false (Int32.not_lt.mpr c_6)]; rfl)).symm, rfl, rfl⟩ dX0_begins_51
  · refine lv_aload_n C0.1 C0.2.1 dX0_begins_9 rfl (lv_at hl 0 rfl) ?_
    refine g83_fleet C0 hK hP (hd.1 _ (by decide)) fl_X0_26 dX0_begins_10 ?_
    refine lv_iload_n C0.1 C0.2.1 dX0_begins_13 rfl (lv_at hl 1 rfl) ?_
    refine lv_iload_n C0.1 C0.2.1 dX0_begins_14 rfl (lv_at hl 2 rfl) ?_
    refine k_X2_goesFrom hd (by decide) C0 hK hP  (v := bI (decide (rg (S 4) 6 q = x) || decide (rg (S 5) 6 q = x))) rfl hS hA hl.1 ml_X0_74 ⟨Nat.le_of_ble_eq_true rfl, Nat.le_of_ble_eq_true rfl⟩ ⟨Nat.zero_le _, Nat.zero_le _⟩ (Nat.le_of_ble_eq_true rfl) dX0_begins_15 (fun H locs hP hS => ?_)
    refine lv_if_eq (tgt := 50) C0.1 C0.2.1 dX0_begins_18 (by decide) (fun c_18 => ?_) (fun c_18 => ?_)
    · have c_18 := bI_eq c_18
      refine lv_iconst (v := 0) C0.1 C0.2.1 dX0_begins_50 (by decide) ?_
      exact retZ C0 hr hlk hP hS rfl ⟨(bI_f (by unfold bgn; rw [c_18, Bool.and_false]; rfl)).symm, rfl, rfl⟩ dX0_begins_51
    · have c_18 := bI_ne c_18
      refine lv_aload_n C0.1 C0.2.1 dX0_begins_21 rfl (lv_at hl 0 rfl) ?_
      refine lv_aload_n C0.1 C0.2.1 dX0_begins_22 rfl (lv_at hl 0 rfl) ?_
      refine g83_fleet C0 hK hP (hd.1 _ (by decide)) fl_X0_26 dX0_begins_23 ?_
      refine lv_iload_n C0.1 C0.2.1 dX0_begins_26 rfl (lv_at hl 1 rfl) ?_
      refine lv_iload_n C0.1 C0.2.1 dX0_begins_27 rfl (lv_at hl 2 rfl) ?_
      refine k_X2_otherEnd hd (by decide) C0 hK hP  (v := if rg (S 4) 6 q = x then rg (S 5) 6 q else rg (S 4) 6 q) rfl hS hA hl.1 ml_X0_78 ⟨Nat.le_of_ble_eq_true rfl, Nat.le_of_ble_eq_true rfl⟩ ⟨Nat.zero_le _, Nat.zero_le _⟩ (Nat.le_of_ble_eq_true rfl) dX0_begins_28 (fun H locs hP hS => ?_)
      refine lv_iload_n C0.1 C0.2.1 dX0_begins_31 rfl (lv_at hl 3 rfl) ?_
      refine k_X0_length hd (by decide) C0 hK hP  (v := lnI (X 10) (if rg (S 4) 6 q = x then rg (S 5) 6 q else rg (S 4) 6 q) t) rfl hS hA hl.1 ml_X0_67 ⟨Nat.le_of_ble_eq_true rfl, Nat.le_of_ble_eq_true rfl⟩ ⟨Nat.zero_le _, Nat.zero_le _⟩ (Nat.le_of_ble_eq_true rfl) dX0_begins_32 (fun H locs hP hS => ?_)
      refine lv_aload_n C0.1 C0.2.1 dX0_begins_35 rfl (lv_at hl 0 rfl) ?_
      refine lv_iload_n C0.1 C0.2.1 dX0_begins_36 rfl (lv_at hl 2 rfl) ?_
      refine lv_iload_n C0.1 C0.2.1 dX0_begins_37 rfl (lv_at hl 3 rfl) ?_
      refine k_X0_length hd (by decide) C0 hK hP  (v := lnI (X 10) x t) rfl hS hA hl.1 ml_X0_67 ⟨Nat.le_of_ble_eq_true rfl, Nat.le_of_ble_eq_true rfl⟩ ⟨Nat.zero_le _, Nat.zero_le _⟩ (Nat.le_of_ble_eq_true rfl) dX0_begins_38 (fun H locs hP hS => ?_)
      refine lv_iconst (v := 1) C0.1 C0.2.1 dX0_begins_41 (by decide) ?_
      refine lv_isub C0.1 C0.2.1 dX0_begins_42 ?_
      refine lv_icmp_ne (tgt := 50) C0.1 C0.2.1 dX0_begins_43 (by decide) (fun c_43 => ?_) (fun c_43 => ?_)
      · refine lv_iconst (v := 0) C0.1 C0.2.1 dX0_begins_50 (by decide) ?_
        exact retZ C0 hr hlk hP hS rfl ⟨(bI_f (by unfold bgn othE; rw [decide_eq_false c_43, Bool.and_false])).symm, rfl, rfl⟩ dX0_begins_51
      · refine lv_iconst (v := 1) C0.1 C0.2.1 dX0_begins_46 (by decide) ?_
        refine lv_goto (tgt := 51) C0.1 C0.2.1 dX0_begins_47 (by decide) ?_
        exact retZ C0 hr hlk hP hS rfl ⟨(bI_t (by unfold bgn othE; simp only [Bool.and_eq_true, Bool.or_eq_true, decide_eq_true_eq] at c_18 ⊢; exact ⟨⟨Int32.not_le.mp c_6, c_18⟩, c_43⟩)).symm, rfl, rfl⟩ dX0_begins_51
theorem k_X0_begins {n : List Nat} (hd : Hd n a I) (hsub : ∀ k ∈ nCH, k ∈ n) (C0 : CallFix p m c cc nL s args GW own) (hK : KK D cA s) (hP : WP D cA a S X I H) {q : Int32} {x : Int32} {t : Int32} {v : Int32} (hv : (bI (bgn S (X 10) q x t)) = v) (hS : va_S A0 H0 H locs) (hA : ∀ q, AI a I q → A0 q) (hls : ls.size = nL) {idx : Nat} (hlink : Cond.methodLink own idx yX0_begins ∈ GW) (hR : 3 ≤ R.frames ∧ 66 ≤ R.locals) (hcs : cells ≤ R.cells ∧ slots ≤ R.slots) (hrest : (rest.map fun v => v.category).sum ≤ 8) (hdg : decode cc pc = .ok (.invokevirtual idx, 3)) (kk : ∀ (H1 : Heap) (locs1 : List Loc), WP D cA a S X I H1 → va_S A0 H0 H1 locs1 → W p l e R s m args below meth c H1 locs1 cells slots Q (F0 m (pc + 3) ls (.int v :: rest))) : W p l e R s m args below meth c H locs cells slots Q (F0 m pc ls (.int t :: .int x :: .int q :: .ref (a 83) :: rest)) := by
  subst hv
  exact goI (rV (n := 3) (c_X0_begins l D cA a S X I (hd.sub hsub) q x t ) C0 hlink im_X0_begins se_X0_begins in_X0 co_X0_begins ⟨rfl, by decide⟩ hR hK hP (hd.1 _ (hsub _ (by decide))) rfl rfl rfl hls hrest rfl hdg hcs) hS hA (fun r S1 X1 H1 locs1 hp hP1 hS1 => by obtain ⟨rfl, rfl, rfl⟩ := hp; exact kk H1 locs1 hP1 hS1)
set_option maxHeartbeats 4000000 in
set_option maxRecDepth 100000 in
theorem c_X0_findFirst (l : Launch) (D : va_G) (cA : ClassId) (a : Adr) (S X : Mem) (I : Nat → Prop) (hd : Hd nCH a I) (x : Int32) (t : Int32) {P : Nat} (hnP : S 82 0 = nI P) (hP6 : P ≤ 6) : MI l yX0_findFirst cX0_findFirst 4 (some .int) 3 66 D cA a S X I [.ref (a 83), .int x, .int t] (fun r S1 X1 => r = (fstP S (X 10) P x t) ∧ S1 = S ∧ X1 = X) := by
  refine mGo (by decide) (Nat.le_of_ble_eq_true rfl) ?_
  intro p e s m args below meth c ls C0 hr hlk hK hP hS hl hargs
  obtain ⟨H, hHe⟩ : ∃ H, H = s.heap := ⟨_, rfl⟩
  obtain ⟨locs, hlo⟩ : ∃ L : List Loc, L = [] := ⟨_, rfl⟩
  have hP : WP D cA a S X I H := hHe ▸ hP
  have hS : va_S (AI a I) s.heap H locs := by rw [hHe, hlo]; exact hS
  rw [← hHe, ← hlo]
  have hA : ∀ q, AI a I q → AI a I q := fun _ h => h
  refine lv_iconst (v := 0) C0.1 C0.2.1 dX0_findFirst_0 (by decide) ?_
  refine lv_istore_n (lv' := [(3, .int 0), (0, .ref (a 83)), (1, .int x), (2, .int t)]) C0.1 C0.2.1 dX0_findFirst_1 rfl hl (by decide) rfl (fun ls hl => ?_)
  have loop2 : ∀ (n : Nat) (i : Nat), (i ≤ P) → (P + 1 ≤ i + n) → (fstP S (X 10) P x t = fndF (fun n => bgn S (X 10) (nI n) x t) i (P - i)) → ∀ (H : Heap) (locs : List Loc) (ls : Array Slot), WP D cA a S X I H → va_S (AI a I) s.heap H locs → lv_has ls 4 [(3, .int (nI i)), (0, .ref (a 83)), (1, .int x), (2, .int t)] → W p l e { frames := 3, cells := 0, slots := 0, locals := 66 } s m args below meth c H locs (0) (0) (MQ below (QpI D cA a I (fun r S1 X1 => r = (fstP S (X 10) P x t) ∧ S1 = S ∧ X1 = X)) args s 0 0 (AI a I)) (F0 m 2 ls []) := by
    intro n
    induction n with
    | zero => intro i hi hf hfd; exfalso; omega
    | succ n ih2 =>
      intro i hi hf hfd H locs ls hP hS hl
      refine lv_iload_n C0.1 C0.2.1 dX0_findFirst_2 rfl (lv_at hl 0 rfl) ?_
      refine lv_aload_n C0.1 C0.2.1 dX0_findFirst_3 rfl (lv_at hl 1 rfl) ?_
      refine g83_fleet C0 hK hP (hd.1 _ (by decide)) fl_X0_26 dX0_findFirst_4 ?_
      refine g82_number (v := nI P) C0 hK hP (hd.1 _ (by decide)) fl_X0_51 hnP dX0_findFirst_7 ?_
      refine lv_icmp_ge (tgt := 31) C0.1 C0.2.1 dX0_findFirst_10 (by decide) (fun c_10 => ?_) (fun c_10 => ?_)
      · have hge : P ≤ i := (nI_leI (by omega) (by omega)).mp c_10
        refine lv_iconst (v := (-1)) C0.1 C0.2.1 dX0_findFirst_31 (by decide) ?_
        exact retI C0 hr hlk hP hS ⟨by rw [hfd, show P - i = 0 by omega]; rfl, rfl, rfl⟩ dX0_findFirst_32
      · have hlt : i < P := Nat.not_le.mp fun q => c_10 (nI_le q (by omega))
        refine lv_aload_n C0.1 C0.2.1 dX0_findFirst_13 rfl (lv_at hl 1 rfl) ?_
        refine lv_iload_n C0.1 C0.2.1 dX0_findFirst_14 rfl (lv_at hl 0 rfl) ?_
        refine lv_iload_n C0.1 C0.2.1 dX0_findFirst_15 rfl (lv_at hl 2 rfl) ?_
        refine lv_iload_n C0.1 C0.2.1 dX0_findFirst_16 rfl (lv_at hl 3 rfl) ?_
        refine k_X0_begins hd (by decide) C0 hK hP  (v := bI (bgn S (X 10) (nI i) x t)) rfl hS hA hl.1 ml_X0_70 ⟨Nat.le_of_ble_eq_true rfl, Nat.le_of_ble_eq_true rfl⟩ ⟨Nat.zero_le _, Nat.zero_le _⟩ (Nat.le_of_ble_eq_true rfl) dX0_findFirst_17 (fun H locs hP hS => ?_)
        refine lv_if_eq (tgt := 25) C0.1 C0.2.1 dX0_findFirst_20 (by decide) (fun c_20 => ?_) (fun c_20 => ?_)
        · have c_20 := bI_eq c_20
          refine lv_iinc (v := nI (i + 1)) (lv' := [(3, .int (nI (i + 1))), (0, .ref (a 83)), (1, .int x), (2, .int t)]) C0.1 C0.2.1 dX0_findFirst_25 hl (k := 0) rfl (nI_1 _) (by decide) rfl (fun ls hl => ?_)
          refine lv_goto (tgt := 2) C0.1 C0.2.1 dX0_findFirst_28 (by decide) ?_
          exact ih2 (i + 1)  (by omega) (by omega) (by rw [hfd, show P - i = P - (i + 1) + 1 by omega, fndF_no (by rw [c_20]; exact Bool.false_ne_true)]) _ _ _ hP hS (lv_sub hl [0, 1, 2, 3] rfl)
        · have c_20 := bI_ne c_20
          refine lv_iload_n C0.1 C0.2.1 dX0_findFirst_23 rfl (lv_at hl 0 rfl) ?_
          exact retI C0 hr hlk hP hS ⟨by rw [hfd, show P - i = P - (i + 1) + 1 by omega, fndF_yes c_20], rfl, rfl⟩ dX0_findFirst_24
  exact loop2 (P + 1) 0  (by omega) (by omega) rfl _ _ _ hP hS (lv_sub hl [0, 1, 2, 3] rfl)
theorem k_X0_findFirst {n : List Nat} (hd : Hd n a I) (hsub : ∀ k ∈ nCH, k ∈ n) (C0 : CallFix p m c cc nL s args GW own) (hK : KK D cA s) (hP : WP D cA a S X I H) {x : Int32} {t : Int32} {P : Nat} (hnP : S 82 0 = nI P) (hP6 : P ≤ 6) {v : Int32} (hv : (fstP S (X 10) P x t) = v) (hS : va_S A0 H0 H locs) (hA : ∀ q, AI a I q → A0 q) (hls : ls.size = nL) {idx : Nat} (hlink : Cond.methodLink own idx yX0_findFirst ∈ GW) (hR : 4 ≤ R.frames ∧ 89 ≤ R.locals) (hcs : cells ≤ R.cells ∧ slots ≤ R.slots) (hrest : (rest.map fun v => v.category).sum ≤ 8) (hdg : decode cc pc = .ok (.invokevirtual idx, 3)) (kk : ∀ (H1 : Heap) (locs1 : List Loc), WP D cA a S X I H1 → va_S A0 H0 H1 locs1 → W p l e R s m args below meth c H1 locs1 cells slots Q (F0 m (pc + 3) ls (.int v :: rest))) : W p l e R s m args below meth c H locs cells slots Q (F0 m pc ls (.int t :: .int x :: .ref (a 83) :: rest)) := by
  subst hv
  exact goI (rV (n := 2) (c_X0_findFirst l D cA a S X I (hd.sub hsub) x t hnP hP6) C0 hlink im_X0_findFirst se_X0_findFirst in_X0 co_X0_findFirst ⟨rfl, by decide⟩ hR hK hP (hd.1 _ (hsub _ (by decide))) rfl rfl rfl hls hrest rfl hdg hcs) hS hA (fun r S1 X1 H1 locs1 hp hP1 hS1 => by obtain ⟨rfl, rfl, rfl⟩ := hp; exact kk H1 locs1 hP1 hS1)
end CLS
