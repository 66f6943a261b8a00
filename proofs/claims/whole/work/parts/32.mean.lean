/-! MEAN: a double. -/
def QpD (D : va_G) (cA : ClassId) (a : Adr) (I : Nat → Prop) (post : UInt64 → Mem → Mem → Prop) : Array Value → State → Outcome → State → Prop := va_Qd (fun r (u : Mem × Mem) => post r u.1 u.2) (WB D cA a I) (AI a I)
def MD (l : Launch) (y : MethodName) (cc : ByteArray) (n : Nat) (ret : Option FieldType) (fr lo : Nat) (D : va_G) (cA : ClassId) (a : Adr) (S X : Mem) (I : Nat → Prop) (av : List Value) (post : UInt64 → Mem → Mem → Prop) : Prop :=
  Met l y (.code y cc n ret :: GW) { frames := fr, cells := 0, slots := 0, locals := lo } (PC D cA a S X I av) (QpD D cA a I post) 0 0 (AI a I)
theorem retD {p : Program} {l : Launch} {e : Env} {R : Room} {s : State} {m : MethodId} {args : Array Value} {below : List Frame} {meth : Method} {c : Code} {H : Heap} {locs : List Loc} {cc : ByteArray} {nL : Nat} {own : String} {pc : Nat} {ls : Array Slot} {D : va_G} {cA : ClassId} {a : Adr} {I : Nat → Prop} {post : UInt64 → Mem → Mem → Prop} {v : UInt64} {S1 X1 : Mem} (C0 : CallFix p m c cc nL s args GW own) (hr : meth.sig.returnType = some .double) (hlk : meth.locks = false) (hP : WP D cA a S1 X1 I H) (hS : va_S (AI a I) s.heap H locs) (hp : post v S1 X1) (hdg : decode cc pc = .ok (.dreturn, 1)) :
    W p l e R s m args below meth c H locs 0 0 (MQ below (QpD D cA a I post) args s 0 0 (AI a I)) (F0 m pc ls [.double v]) :=
  W.dret C0.1 C0.2.1 hr (fun t ht _ => ⟨⟨v, (S1, X1), rfl, hp, by show WP D cA a S1 X1 I t.heap; rw [ht]; exact hP⟩, hS.F ht⟩) hS.2.2 hdg hlk
abbrev d196 : UInt64 := 4641100153493651456
def mnD (x : Int32) : UInt64 := FP.ddiv (FP.i2d x) d196
theorem mn_ok0 : ∀ i, i < 69 → ∀ j, j < 69 → vf_n64 (mnD (nI (69 * i + j))) := by
  unfold vf_n64
  decide +kernel
theorem mn_ok {x : Int32} (h : ∃ q, q ≤ 4704 ∧ x = nI q) : vf_n64 (mnD x) := by
  obtain ⟨q, hq, rfl⟩ := h
  have h1 := mn_ok0 (q / 69) (by omega) (q % 69) (by omega)
  rw [show 69 * (q / 69) + q % 69 = q by omega] at h1
  exact h1
/-- the depths summed -/
def sumD (S : Mem) (h : Nat) : Int32 := smI (fun j => dpt S (nI j) (lvS S h)) 196
theorem dpt_val {S : Mem} {j w : Nat} {lv : Int32} (hg : ∀ j, j < 196 → ∃ g, g ≤ 20 ∧ S 0 j = nI g) (hj : j < 196) (hw : w < 25) (hl : lv = nI w) : ∃ q, q ≤ 24 ∧ dpt S (nI j) lv = nI q := by
  obtain ⟨g, hg, hg0⟩ := hg j hj
  unfold dpt
  rw [rg_nI hj (by decide), hg0, hl]
  by_cases hgw : g ≤ w
  · have e : (nI w : Int32) - nI g = nI (w - g) := nI_sub (by omega)
    rw [e]
    by_cases h0 : w - g = 0
    · exact ⟨0, by omega, by rw [h0]; decide⟩
    · exact ⟨w - g, by omega, if_pos (nI_lt (show 0 < w - g by omega) (by omega))⟩
  · refine ⟨0, by omega, if_neg ?_⟩
    have e : (nI w : Int32) - nI g = -nI (g - w) := by
      rw [← nI_sub (show g = w + (g - w) by omega), Int32.neg_sub]
    rw [e]
    have : ∀ d, d < 21 → ¬ (0 : Int32) < -nI d := by decide
    exact this _ (by omega)
theorem smI_val {f : Nat → Int32} (n : Nat) (h : ∀ j, j < n → ∃ q, q ≤ 24 ∧ f j = nI q) : ∃ q, q ≤ n * 24 ∧ smI f n = nI q := by
  induction n with
  | zero => exact ⟨0, by omega, rfl⟩
  | succ n ih =>
    obtain ⟨q, hq, e⟩ := ih fun j hj => h j (by omega)
    obtain ⟨q2, hq2, e2⟩ := h n (by omega)
    exact ⟨q + q2, by omega, by show smI f n + f n = _; rw [e, e2, nI_add]⟩
theorem sumD_val {S : Mem} {P L h : Nat} (hTW : TW S P L) (hg : ∀ j, j < 196 → ∃ g, g ≤ 20 ∧ S 0 j = nI g) : ∃ q, q ≤ 4704 ∧ sumD S h = nI q := by
  obtain ⟨w, hw, e⟩ := hTW.2.2.2.2.2.2.2 (h % 12) (by omega)
  exact smI_val 196 fun j hj => dpt_val hg hj hw e
section CLS
variable {p : Program} {l : Launch} {e : Env} {R : Room} {s : State} {m : MethodId} {args : Array Value} {below : List Frame} {meth : Method} {c : Code} {H : Heap} {locs : List Loc} {cells slots : Nat} {Q : State → Prop}
variable {cc : ByteArray} {nL : Nat} {own : String} {pc : Nat} {ls : Array Slot} {rest : List Value} {D : va_G} {cA : ClassId} {a : Adr} {S X : Mem} {I : Nat → Prop} {H0 : Heap} {A0 : Nat → Prop}
set_option maxHeartbeats 4000000 in
set_option maxRecDepth 100000 in
theorem c_X8_mean (l : Launch) (D : va_G) (cA : ClassId) (a : Adr) (S X : Mem) (I : Nat → Prop) (hd : Hd nF a I) {P : Nat} {L : Nat} {h : Nat} (hnH : S 86 0 = nI h) (hh : h < 2 ^ 31) (hTW : TW S P L) (hg : ∀ j, j < 196 → ∃ g, g ≤ 20 ∧ S 0 j = nI g) : MD l yX8_mean cX8_mean 4 (some .double) 3 62 D cA a S X I [.ref (a 89)] (fun r S1 X1 => r = mnD (sumD S h) ∧ S1 = S ∧ X1 = X) := by
  refine mGo (by decide) (Nat.le_of_ble_eq_true rfl) ?_
  intro p e s m args below meth c ls C0 hr hlk hK hP hS hl hargs
  obtain ⟨H, hHe⟩ : ∃ H, H = s.heap := ⟨_, rfl⟩
  obtain ⟨locs, hlo⟩ : ∃ L : List Loc, L = [] := ⟨_, rfl⟩
  have hP : WP D cA a S X I H := hHe ▸ hP
  have hS : va_S (AI a I) s.heap H locs := by rw [hHe, hlo]; exact hS
  rw [← hHe, ← hlo]
  have hA : ∀ q, AI a I q → AI a I q := fun _ h => h
  refine lv_aload_n C0.1 C0.2.1 dX8_mean_0 rfl (lv_at hl 0 rfl) ?_
  refine g89_now C0 hK hP (hd.1 _ (by decide)) fl_X8_53 dX8_mean_1 ?_
  refine k_X6_level hd sTF C0 hK hP hnH hh (v := S 2 (h % 12)) rfl hS hA hl.1 ml_X8_100 ⟨Nat.le_of_ble_eq_true rfl, Nat.le_of_ble_eq_true rfl⟩ ⟨Nat.zero_le _, Nat.zero_le _⟩ (Nat.le_of_ble_eq_true rfl) dX8_mean_4 (fun H locs hP hS => ?_)
  refine lv_istore_n (lv' := [(1, .int (S 2 (h % 12))), (0, .ref (a 89))]) C0.1 C0.2.1 dX8_mean_7 rfl hl (by decide) rfl (fun ls hl => ?_)
  refine lv_iconst (v := 0) C0.1 C0.2.1 dX8_mean_8 (by decide) ?_
  refine lv_istore_n (lv' := [(2, .int 0), (1, .int (S 2 (h % 12))), (0, .ref (a 89))]) C0.1 C0.2.1 dX8_mean_9 rfl hl (by decide) rfl (fun ls hl => ?_)
  refine lv_iconst (v := 0) C0.1 C0.2.1 dX8_mean_10 (by decide) ?_
  refine lv_istore_n (lv' := [(3, .int 0), (2, .int 0), (1, .int (S 2 (h % 12))), (0, .ref (a 89))]) C0.1 C0.2.1 dX8_mean_11 rfl hl (by decide) rfl (fun ls hl => ?_)
  have loop12 : ∀ (n : Nat) (i : Nat), (i ≤ 196) → (196 + 1 ≤ i + n) → ∀ (H : Heap) (locs : List Loc) (ls : Array Slot), WP D cA a S X I H → va_S (AI a I) s.heap H locs → lv_has ls 4 [(3, .int (nI i)), (2, .int (smI (fun j => dpt S (nI j) (lvS S h)) i)), (1, .int (lvS S h)), (0, .ref (a 89))] → W p l e { frames := 3, cells := 0, slots := 0, locals := 62 } s m args below meth c H locs (0) (0) (MQ below (QpD D cA a I (fun r S1 X1 => r = mnD (sumD S h) ∧ S1 = S ∧ X1 = X)) args s 0 0 (AI a I)) (F0 m 12 ls []) := by
    intro n
    induction n with
    | zero => intro i hi hf; exfalso; omega
    | succ n ih12 =>
      intro i hi hf H locs ls hP hS hl
      refine lv_iload_n C0.1 C0.2.1 dX8_mean_12 rfl (lv_at hl 0 rfl) ?_
      refine lv_sipush (v := 196) C0.1 C0.2.1 dX8_mean_13 (by decide) ?_
      refine lv_icmp_ge (tgt := 37) C0.1 C0.2.1 dX8_mean_16 (by decide) (fun c_16 => ?_) (fun c_16 => ?_)
      · have hge : 196 ≤ i := (nI_leI (by omega) (by omega)).mp c_16
        refine lv_iload_n C0.1 C0.2.1 dX8_mean_37 rfl (lv_at hl 1 rfl) ?_
        refine lv_i2d C0.1 C0.2.1 dX8_mean_38 ?_
        refine lv_ldc2d C0.1 C0.2.1 C0.2.2.2.1 (C0.2.2.2.2 _ kc_X8_277) dX8_mean_39 ?_
        refine lv_ddiv C0.1 C0.2.1 dX8_mean_42 (mn_ok (by rw [show i = 196 by omega]; exact sumD_val hTW hg)) ?_
        exact retD C0 hr hlk hP hS ⟨by rw [show i = 196 by omega]; rfl, rfl, rfl⟩ dX8_mean_43
      · have hlt : i < 196 := Nat.not_le.mp fun q => c_16 (nI_le q (by omega))
        refine lv_iload_n C0.1 C0.2.1 dX8_mean_19 rfl (lv_at hl 1 rfl) ?_
        refine lv_aload_n C0.1 C0.2.1 dX8_mean_20 rfl (lv_at hl 3 rfl) ?_
        refine g89_plain C0 hK hP (hd.1 _ (by decide)) fl_X8_12 dX8_mean_21 ?_
        refine lv_iload_n C0.1 C0.2.1 dX8_mean_24 rfl (lv_at hl 0 rfl) ?_
        refine lv_iload_n C0.1 C0.2.1 dX8_mean_25 rfl (lv_at hl 2 rfl) ?_
        refine k_X4_depth hd sTF C0 hK hP  (v := dpt S (nI i) (lvS S h)) rfl hS hA hl.1 ml_X8_108 ⟨Nat.le_of_ble_eq_true rfl, Nat.le_of_ble_eq_true rfl⟩ ⟨Nat.zero_le _, Nat.zero_le _⟩ (Nat.le_of_ble_eq_true rfl) dX8_mean_26 (fun H locs hP hS => ?_)
        refine lv_iadd C0.1 C0.2.1 dX8_mean_29 ?_
        refine lv_istore_n (lv' := [(2, .int ((smI (fun j => dpt S (nI j) (lvS S h)) i) + (dpt S (nI i) (lvS S h)))), (3, .int (nI i)), (1, .int (lvS S h)), (0, .ref (a 89))]) C0.1 C0.2.1 dX8_mean_30 rfl hl (by decide) rfl (fun ls hl => ?_)
        refine lv_iinc (v := nI (i + 1)) (lv' := [(3, .int (nI (i + 1))), (2, .int ((smI (fun j => dpt S (nI j) (lvS S h)) i) + (dpt S (nI i) (lvS S h)))), (1, .int (lvS S h)), (0, .ref (a 89))]) C0.1 C0.2.1 dX8_mean_31 hl (k := 1) rfl (nI_1 _) (by decide) rfl (fun ls hl => ?_)
        refine lv_goto (tgt := 12) C0.1 C0.2.1 dX8_mean_34 (by decide) ?_
        exact ih12 (i + 1)  (by omega) (by omega)  _ _ _ hP hS (lv_sub hl [0, 1, 2, 3] rfl)
  exact loop12 (196 + 1) 0  (by omega) (by omega)  _ _ _ hP hS (lv_sub hl [0, 1, 2, 3] rfl)
end CLS
