/-- does a punt float on a cell at a level -/
def flt (S : Mem) (q x lv : Int32) : Bool := decide (rg (S 6) 6 q ≤ dpt S x lv) && decide (dpt S x lv ≤ rg (S 7) 6 q)
def nxF (f : Nat → Int32) (ch x : Int32) : Nat → Nat → Int32
  | _, 0 => -1
  | d, n + 1 => if ¬ besI x (nI d) = -1 ∧ rg f 58800 (ch + besI x (nI d)) = rg f 58800 (ch + x) - 1 then besI x (nI d) else nxF f ch x (d + 1) n
def nxt (f : Nat → Int32) (ch x : Int32) : Int32 := if 0 < rg f 58800 (ch + x) then nxF f ch x 0 4 else -1
abbrev Tri : Type := (Nat → Int32) × (Nat → Int32) × Int32
def drf (ch : Int32) : Nat → (Nat → Int32) → (Nat → Int32)
  | 0, f => f
  | n + 1, f => us (drf ch n f) 58800 (ch + nI n) (-1)
def drD (S : Mem) (ch q lv x : Int32) : Nat → Tri → Tri
  | 0, s => s
  | d + 1, s => if ¬ besI x (nI d) = -1 ∧ rg (drD S ch q lv x d s).1 58800 (ch + besI x (nI d)) = -1 ∧ flt S q (besI x (nI d)) lv = true then (us (drD S ch q lv x d s).1 58800 (ch + besI x (nI d)) (rg (drD S ch q lv x d s).1 58800 (ch + x) + 1), us (drD S ch q lv x d s).2.1 196 (drD S ch q lv x d s).2.2 (besI x (nI d)), (drD S ch q lv x d s).2.2 + 1) else drD S ch q lv x d s
def drO (S : Mem) (ch q lv : Int32) : Nat → Nat → Tri → Tri
  | 0, _, s => s
  | n + 1, i, s => if nI i < s.2.2 ∧ i < 196 then drO S ch q lv n (i + 1) (drD S ch q lv (rg s.2.1 196 (nI i)) 4 s) else s
theorem drO_stop {S : Mem} {ch q lv : Int32} {n i : Nat} {s : Tri} (h : ¬ (nI i < s.2.2 ∧ i < 196)) : drO S ch q lv n i s = s := by
  cases n with
  | zero => rfl
  | succ n => exact if_neg h
/-- the row of all ways, and the queue, behind a chart's drawing -/
def drW (S : Mem) (f g : Nat → Int32) (ch q en lv : Int32) : (Nat → Int32) × (Nat → Int32) :=
  if flt S q en lv = true then ((drO S ch q lv 196 0 (us (drf ch 196 f) 58800 (ch + en) 0, us g 196 0 en, 1)).1, (drO S ch q lv 196 0 (us (drf ch 196 f) 58800 (ch + en) 0, us g 196 0 en, 1)).2.1) else (drf ch 196 f, g)
def chN (S : Mem) (q x lv : Int32) : Int32 := (q * 2 + (if rg (S 4) 6 q = x then 0 else 1)) * 25 + lv
section CLS
variable {p : Program} {l : Launch} {e : Env} {R : Room} {s : State} {m : MethodId} {args : Array Value} {below : List Frame} {meth : Method} {c : Code} {H : Heap} {locs : List Loc} {cells slots : Nat} {Q : State → Prop}
variable {cc : ByteArray} {nL : Nat} {own : String} {pc : Nat} {ls : Array Slot} {rest : List Value} {D : va_G} {cA : ClassId} {a : Adr} {S X : Mem} {I : Nat → Prop} {H0 : Heap} {A0 : Nat → Prop}
set_option maxHeartbeats 4000000 in
set_option maxRecDepth 100000 in
theorem c_X1_forget (l : Launch) (D : va_G) (cA : ClassId) (a : Adr) (S X : Mem) (I : Nat → Prop) (hd : Hd nT a I) : MV l yX1_forget cX1_forget 1 none 2 44 D cA a S X I [.ref (a 84)] (fun S1 X1 => S1 = S ∧ X1 = (up X 14 (fl (X 14) 300 0))) := by
  refine mGo (by decide) (Nat.le_of_ble_eq_true rfl) ?_
  intro p e s m args below meth c ls C0 hr hlk hK hP hS hl hargs
  obtain ⟨H, hHe⟩ : ∃ H, H = s.heap := ⟨_, rfl⟩
  obtain ⟨locs, hlo⟩ : ∃ L : List Loc, L = [] := ⟨_, rfl⟩
  have hP : WP D cA a S X I H := hHe ▸ hP
  have hS : va_S (AI a I) s.heap H locs := by rw [hHe, hlo]; exact hS
  rw [← hHe, ← hlo]
  have hA : ∀ q, AI a I q → AI a I q := fun _ h => h
  refine lv_aload_n C0.1 C0.2.1 dX1_forget_0 rfl (lv_at hl 0 rfl) ?_
  refine g84_drawn C0 hK hP (hd.1 _ (by decide)) fl_X1_21 dX1_forget_1 ?_
  refine lv_iconst (v := 0) C0.1 C0.2.1 dX1_forget_4 (by decide) ?_
  refine k_X5_fill 14 (by decide) hd (by decide) (by decide) C0 hK hP hS hA hl.1 ml_X1_39 ⟨Nat.le_of_ble_eq_true rfl, Nat.le_of_ble_eq_true rfl⟩ ⟨Nat.zero_le _, Nat.zero_le _⟩ (Nat.le_of_ble_eq_true rfl) dX1_forget_5 (fun H locs hP hS => ?_)
  have hP : WP D cA a S (up X 14 (fl (X 14) 300 0)) I H := hP
  exact retV C0 hr hlk hP hS ⟨rfl, rfl⟩ dX1_forget_8
theorem k_X1_forget {n : List Nat} (hd : Hd n a I) (hsub : ∀ k ∈ nT, k ∈ n) (C0 : CallFix p m c cc nL s args GW own) (hK : KK D cA s) (hP : WP D cA a S X I H) (hS : va_S A0 H0 H locs) (hA : ∀ q, AI a I q → A0 q) (hls : ls.size = nL) {idx : Nat} (hlink : Cond.methodLink own idx yX1_forget ∈ GW) (hR : 3 ≤ R.frames ∧ 64 ≤ R.locals) (hcs : cells ≤ R.cells ∧ slots ≤ R.slots) (hrest : (rest.map fun v => v.category).sum ≤ 8) (hdg : decode cc pc = .ok (.invokevirtual idx, 3)) (kk : ∀ (H1 : Heap) (locs1 : List Loc), WP D cA a S (up X 14 (fl (X 14) 300 0)) I H1 → va_S A0 H0 H1 locs1 → W p l e R s m args below meth c H1 locs1 cells slots Q (F0 m (pc + 3) ls rest)) : W p l e R s m args below meth c H locs cells slots Q (F0 m pc ls (.ref (a 84) :: rest)) := by
  exact goV (rV (n := 0) (c_X1_forget l D cA a S X I (hd.sub hsub)  ) C0 hlink im_X1_forget se_X1_forget in_X1 co_X1_forget ⟨rfl, by decide⟩ hR hK hP (hd.1 _ (hsub _ (by decide))) rfl rfl rfl hls hrest rfl hdg hcs) hS hA (fun S1 X1 H1 locs1 hp hP1 hS1 => by obtain ⟨rfl, rfl⟩ := hp; exact kk H1 locs1 hP1 hS1)
set_option maxHeartbeats 4000000 in
set_option maxRecDepth 100000 in
theorem c_X1_way (l : Launch) (D : va_G) (cA : ClassId) (a : Adr) (S X : Mem) (I : Nat → Prop) (hd : Hd nT a I) (ch : Int32) (x : Int32) : MI l yX1_way cX1_way 3 (some .int) 1 21 D cA a S X I [.ref (a 84), .int ch, .int x] (fun r S1 X1 => r = (rg (X 13) 58800 (ch + x)) ∧ S1 = S ∧ X1 = X) := by
  refine mGo (by decide) (Nat.le_of_ble_eq_true rfl) ?_
  intro p e s m args below meth c ls C0 hr hlk hK hP hS hl hargs
  obtain ⟨H, hHe⟩ : ∃ H, H = s.heap := ⟨_, rfl⟩
  obtain ⟨locs, hlo⟩ : ∃ L : List Loc, L = [] := ⟨_, rfl⟩
  have hP : WP D cA a S X I H := hHe ▸ hP
  have hS : va_S (AI a I) s.heap H locs := by rw [hHe, hlo]; exact hS
  rw [← hHe, ← hlo]
  have hA : ∀ q, AI a I q → AI a I q := fun _ h => h
  refine lv_aload_n C0.1 C0.2.1 dX1_way_0 rfl (lv_at hl 0 rfl) ?_
  refine g84_ways C0 hK hP (hd.1 _ (by decide)) fl_X1_17 dX1_way_1 ?_
  refine lv_iload_n C0.1 C0.2.1 dX1_way_4 rfl (lv_at hl 1 rfl) ?_
  refine lv_iload_n C0.1 C0.2.1 dX1_way_5 rfl (lv_at hl 2 rfl) ?_
  refine lv_iadd C0.1 C0.2.1 dX1_way_6 ?_
  refine k_X5_get (v := rg (X 13) 58800 (ch + x)) 13 (by decide) hd (by decide) (by decide) C0 hK hP rfl hS hA hl.1 ml_X1_47 ⟨Nat.le_of_ble_eq_true rfl, Nat.le_of_ble_eq_true rfl⟩ ⟨Nat.zero_le _, Nat.zero_le _⟩ (Nat.le_of_ble_eq_true rfl) dX1_way_7 (fun H locs hP hS => ?_)
  exact retI C0 hr hlk hP hS ⟨rfl, rfl, rfl⟩ dX1_way_10
theorem k_X1_way {n : List Nat} (hd : Hd n a I) (hsub : ∀ k ∈ nT, k ∈ n) (C0 : CallFix p m c cc nL s args GW own) (hK : KK D cA s) (hP : WP D cA a S X I H) {ch : Int32} {x : Int32} {v : Int32} (hv : (rg (X 13) 58800 (ch + x)) = v) (hS : va_S A0 H0 H locs) (hA : ∀ q, AI a I q → A0 q) (hls : ls.size = nL) {idx : Nat} (hlink : Cond.methodLink own idx yX1_way ∈ GW) (hR : 2 ≤ R.frames ∧ 43 ≤ R.locals) (hcs : cells ≤ R.cells ∧ slots ≤ R.slots) (hrest : (rest.map fun v => v.category).sum ≤ 8) (hdg : decode cc pc = .ok (.invokevirtual idx, 3)) (kk : ∀ (H1 : Heap) (locs1 : List Loc), WP D cA a S X I H1 → va_S A0 H0 H1 locs1 → W p l e R s m args below meth c H1 locs1 cells slots Q (F0 m (pc + 3) ls (.int v :: rest))) : W p l e R s m args below meth c H locs cells slots Q (F0 m pc ls (.int x :: .int ch :: .ref (a 84) :: rest)) := by
  subst hv
  exact goI (rV (n := 2) (c_X1_way l D cA a S X I (hd.sub hsub) ch x ) C0 hlink im_X1_way se_X1_way in_X1 co_X1_way ⟨rfl, by decide⟩ hR hK hP (hd.1 _ (hsub _ (by decide))) rfl rfl rfl hls hrest rfl hdg hcs) hS hA (fun r S1 X1 H1 locs1 hp hP1 hS1 => by obtain ⟨rfl, rfl, rfl⟩ := hp; exact kk H1 locs1 hP1 hS1)
set_option maxHeartbeats 4000000 in
set_option maxRecDepth 100000 in
theorem c_X1_nextStep (l : Launch) (D : va_G) (cA : ClassId) (a : Adr) (S X : Mem) (I : Nat → Prop) (hd : Hd nT a I) (ch : Int32) (x : Int32) : MI l yX1_nextStep cX1_nextStep 6 (some .int) 2 43 D cA a S X I [.ref (a 84), .int ch, .int x] (fun r S1 X1 => r = (nxt (X 13) ch x) ∧ S1 = S ∧ X1 = X) := by
  refine mGo (by decide) (Nat.le_of_ble_eq_true rfl) ?_
  intro p e s m args below meth c ls C0 hr hlk hK hP hS hl hargs
  obtain ⟨H, hHe⟩ : ∃ H, H = s.heap := ⟨_, rfl⟩
  obtain ⟨locs, hlo⟩ : ∃ L : List Loc, L = [] := ⟨_, rfl⟩
  have hP : WP D cA a S X I H := hHe ▸ hP
  have hS : va_S (AI a I) s.heap H locs := by rw [hHe, hlo]; exact hS
  rw [← hHe, ← hlo]
  have hA : ∀ q, AI a I q → AI a I q := fun _ h => h
  refine lv_aload_n C0.1 C0.2.1 dX1_nextStep_0 rfl (lv_at hl 0 rfl) ?_
  refine lv_iload_n C0.1 C0.2.1 dX1_nextStep_1 rfl (lv_at hl 1 rfl) ?_
  refine lv_iload_n C0.1 C0.2.1 dX1_nextStep_2 rfl (lv_at hl 2 rfl) ?_
  refine k_X1_way hd (by decide) C0 hK hP  (v := rg (X 13) 58800 (ch + x)) rfl hS hA hl.1 ml_X1_64 ⟨Nat.le_of_ble_eq_true rfl, Nat.le_of_ble_eq_true rfl⟩ ⟨Nat.zero_le _, Nat.zero_le _⟩ (Nat.le_of_ble_eq_true rfl) dX1_nextStep_3 (fun H locs hP hS => ?_)
  refine lv_istore_n (lv' := [(3, .int (rg (X 13) 58800 (ch + x))), (0, .ref (a 84)), (1, .int ch), (2, .int x)]) C0.1 C0.2.1 dX1_nextStep_6 rfl hl (by decide) rfl (fun ls hl => ?_)
  refine lv_iconst (v := 0) C0.1 C0.2.1 dX1_nextStep_7 (by decide) ?_
  refine lv_istore (lv' := [(4, .int 0), (3, .int (rg (X 13) 58800 (ch + x))), (0, .ref (a 84)), (1, .int ch), (2, .int x)]) C0.1 C0.2.1 dX1_nextStep_8 hl (by decide) rfl (fun ls hl => ?_)
  have loop10 : ∀ (n : Nat) (i : Nat), (i ≤ 4) → (4 + 1 ≤ i + n) → (nxt (X 13) ch x = if 0 < rg (X 13) 58800 (ch + x) then nxF (X 13) ch x i (4 - i) else -1) → ∀ (H : Heap) (locs : List Loc) (ls : Array Slot), WP D cA a S X I H → va_S (AI a I) s.heap H locs → lv_has ls 6 [(4, .int (nI i)), (3, .int (rg (X 13) 58800 (ch + x))), (0, .ref (a 84)), (1, .int ch), (2, .int x)] → W p l e { frames := 2, cells := 0, slots := 0, locals := 43 } s m args below meth c H locs (0) (0) (MQ below (QpI D cA a I (fun r S1 X1 => r = (nxt (X 13) ch x) ∧ S1 = S ∧ X1 = X)) args s 0 0 (AI a I)) (F0 m 10 ls []) := by
    intro n
    induction n with
    | zero => intro i hi hf hfd; exfalso; omega
    | succ n ih10 =>
      intro i hi hf hfd H locs ls hP hS hl
      refine lv_iload_n C0.1 C0.2.1 dX1_nextStep_10 rfl (lv_at hl 1 rfl) ?_
      refine lv_if_le (tgt := 56) C0.1 C0.2.1 dX1_nextStep_11 (by decide) (fun c_11 => ?_) (fun c_11 => ?_)
      · refine lv_iconst (v := (-1)) C0.1 C0.2.1 dX1_nextStep_56 (by decide) ?_
        exact retI C0 hr hlk hP hS ⟨by rw [hfd, if_neg (Int32.not_lt.mpr c_11)], rfl, rfl⟩ dX1_nextStep_57
      · refine lv_iload C0.1 C0.2.1 dX1_nextStep_14 (lv_at hl 0 rfl) ?_
        refine lv_iconst (v := 4) C0.1 C0.2.1 dX1_nextStep_16 (by decide) ?_
        refine lv_icmp_ge (tgt := 56) C0.1 C0.2.1 dX1_nextStep_17 (by decide) (fun c_17 => ?_) (fun c_17 => ?_)
        · have hge : 4 ≤ i := (nI_leI (by omega) (by omega)).mp c_17
          refine lv_iconst (v := (-1)) C0.1 C0.2.1 dX1_nextStep_56 (by decide) ?_
          exact retI C0 hr hlk hP hS ⟨by rw [hfd, if_pos (Int32.not_le.mp c_11), show 4 - i = 0 by omega]; rfl, rfl, rfl⟩ dX1_nextStep_57
        · have hlt : i < 4 := Nat.not_le.mp fun q => c_17 (nI_le q (by omega))
          refine lv_iload_n C0.1 C0.2.1 dX1_nextStep_20 rfl (lv_at hl 4 rfl) ?_
          refine lv_iload C0.1 C0.2.1 dX1_nextStep_21 (lv_at hl 0 rfl) ?_
          refine k_X4_beside hd (by decide) C0 hK hP  (v := besI x (nI i)) rfl hS hA hl.1 ml_X1_67 ⟨Nat.le_of_ble_eq_true rfl, Nat.le_of_ble_eq_true rfl⟩ ⟨Nat.zero_le _, Nat.zero_le _⟩ (Nat.le_of_ble_eq_true rfl) dX1_nextStep_23 (fun H locs hP hS => ?_)
          refine lv_istore (lv' := [(5, .int (besI x (nI i))), (4, .int (nI i)), (3, .int (rg (X 13) 58800 (ch + x))), (0, .ref (a 84)), (1, .int ch), (2, .int x)]) C0.1 C0.2.1 dX1_nextStep_26 hl (by decide) rfl (fun ls hl => ?_)
          refine lv_iload C0.1 C0.2.1 dX1_nextStep_28 (lv_at hl 0 rfl) ?_
          refine lv_iconst (v := (-1)) C0.1 C0.2.1 dX1_nextStep_30 (by decide) ?_
          refine lv_icmp_eq (tgt := 50) C0.1 C0.2.1 dX1_nextStep_31 (by decide) (fun c_31 => ?_) (fun c_31 => ?_)
          · refine lv_iinc (v := nI (i + 1)) (lv' := [(4, .int (nI (i + 1))), (5, .int (besI x (nI i))), (3, .int (rg (X 13) 58800 (ch + x))), (0, .ref (a 84)), (1, .int ch), (2, .int x)]) C0.1 C0.2.1 dX1_nextStep_50 hl (k := 1) rfl (nI_1 _) (by decide) rfl (fun ls hl => ?_)
            refine lv_goto (tgt := 10) C0.1 C0.2.1 dX1_nextStep_53 (by decide) ?_
            exact ih10 (i + 1)  (by omega) (by omega) (by rw [hfd, if_pos (Int32.not_le.mp c_11), if_pos (Int32.not_le.mp c_11), show 4 - i = 4 - (i + 1) + 1 by omega]; exact if_neg (fun h => h.1 c_31)) _ _ _ hP hS (lv_sub hl [0, 2, 3, 4, 5] rfl)
          · refine lv_aload_n C0.1 C0.2.1 dX1_nextStep_34 rfl (lv_at hl 3 rfl) ?_
            refine lv_iload_n C0.1 C0.2.1 dX1_nextStep_35 rfl (lv_at hl 4 rfl) ?_
            refine lv_iload C0.1 C0.2.1 dX1_nextStep_36 (lv_at hl 0 rfl) ?_
            refine k_X1_way hd (by decide) C0 hK hP  (v := rg (X 13) 58800 (ch + (besI x (nI i)))) rfl hS hA hl.1 ml_X1_64 ⟨Nat.le_of_ble_eq_true rfl, Nat.le_of_ble_eq_true rfl⟩ ⟨Nat.zero_le _, Nat.zero_le _⟩ (Nat.le_of_ble_eq_true rfl) dX1_nextStep_38 (fun H locs hP hS => ?_)
            refine lv_iload_n C0.1 C0.2.1 dX1_nextStep_41 rfl (lv_at hl 2 rfl) ?_
            refine lv_iconst (v := 1) C0.1 C0.2.1 dX1_nextStep_42 (by decide) ?_
            refine lv_isub C0.1 C0.2.1 dX1_nextStep_43 ?_
            refine lv_icmp_ne (tgt := 50) C0.1 C0.2.1 dX1_nextStep_44 (by decide) (fun c_44 => ?_) (fun c_44 => ?_)
            · refine lv_iinc (v := nI (i + 1)) (lv' := [(4, .int (nI (i + 1))), (5, .int (besI x (nI i))), (3, .int (rg (X 13) 58800 (ch + x))), (0, .ref (a 84)), (1, .int ch), (2, .int x)]) C0.1 C0.2.1 dX1_nextStep_50 hl (k := 1) rfl (nI_1 _) (by decide) rfl (fun ls hl => ?_)
              refine lv_goto (tgt := 10) C0.1 C0.2.1 dX1_nextStep_53 (by decide) ?_
              exact ih10 (i + 1)  (by omega) (by omega) (by rw [hfd, if_pos (Int32.not_le.mp c_11), if_pos (Int32.not_le.mp c_11), show 4 - i = 4 - (i + 1) + 1 by omega]; exact if_neg (fun h => c_44 h.2)) _ _ _ hP hS (lv_sub hl [0, 2, 3, 4, 5] rfl)
            · refine lv_iload C0.1 C0.2.1 dX1_nextStep_47 (lv_at hl 0 rfl) ?_
              exact retI C0 hr hlk hP hS ⟨by rw [hfd, if_pos (Int32.not_le.mp c_11), show 4 - i = 4 - (i + 1) + 1 by omega]; exact (if_pos ⟨c_31, c_44⟩).symm, rfl, rfl⟩ dX1_nextStep_49
  exact loop10 (4 + 1) 0  (by omega) (by omega) rfl _ _ _ hP hS (lv_sub hl [0, 1, 2, 3, 4] rfl)
theorem k_X1_nextStep {n : List Nat} (hd : Hd n a I) (hsub : ∀ k ∈ nT, k ∈ n) (C0 : CallFix p m c cc nL s args GW own) (hK : KK D cA s) (hP : WP D cA a S X I H) {ch : Int32} {x : Int32} {v : Int32} (hv : (nxt (X 13) ch x) = v) (hS : va_S A0 H0 H locs) (hA : ∀ q, AI a I q → A0 q) (hls : ls.size = nL) {idx : Nat} (hlink : Cond.methodLink own idx yX1_nextStep ∈ GW) (hR : 3 ≤ R.frames ∧ 68 ≤ R.locals) (hcs : cells ≤ R.cells ∧ slots ≤ R.slots) (hrest : (rest.map fun v => v.category).sum ≤ 8) (hdg : decode cc pc = .ok (.invokevirtual idx, 3)) (kk : ∀ (H1 : Heap) (locs1 : List Loc), WP D cA a S X I H1 → va_S A0 H0 H1 locs1 → W p l e R s m args below meth c H1 locs1 cells slots Q (F0 m (pc + 3) ls (.int v :: rest))) : W p l e R s m args below meth c H locs cells slots Q (F0 m pc ls (.int x :: .int ch :: .ref (a 84) :: rest)) := by
  subst hv
  exact goI (rV (n := 2) (c_X1_nextStep l D cA a S X I (hd.sub hsub) ch x ) C0 hlink im_X1_nextStep se_X1_nextStep in_X1 co_X1_nextStep ⟨rfl, by decide⟩ hR hK hP (hd.1 _ (hsub _ (by decide))) rfl rfl rfl hls hrest rfl hdg hcs) hS hA (fun r S1 X1 H1 locs1 hp hP1 hS1 => by obtain ⟨rfl, rfl, rfl⟩ := hp; exact kk H1 locs1 hP1 hS1)
set_option maxHeartbeats 4000000 in
set_option maxRecDepth 100000 in
theorem c_X1_draw (l : Launch) (D : va_G) (cA : ClassId) (a : Adr) (S X : Mem) (I : Nat → Prop) (hd : Hd nT a I) (ch : Int32) (q : Int32) (en : Int32) (lv : Int32) : MV l yX1_draw cX1_draw 10 none 2 43 D cA a S X I [.ref (a 84), .int ch, .int q, .int en, .int lv] (fun S1 X1 => S1 = S ∧ X1 = (up (up X 13 ((drW S (X 13) (X 15) ch q en lv).1)) 15 ((drW S (X 13) (X 15) ch q en lv).2))) := by
  refine mGo (by decide) (Nat.le_of_ble_eq_true rfl) ?_
  intro p e s m args below meth c ls C0 hr hlk hK hP hS hl hargs
  obtain ⟨H, hHe⟩ : ∃ H, H = s.heap := ⟨_, rfl⟩
  obtain ⟨locs, hlo⟩ : ∃ L : List Loc, L = [] := ⟨_, rfl⟩
  have hP : WP D cA a S X I H := hHe ▸ hP
  have hS : va_S (AI a I) s.heap H locs := by rw [hHe, hlo]; exact hS
  rw [← hHe, ← hlo]
  have hA : ∀ q, AI a I q → AI a I q := fun _ h => h
  refine lv_iconst (v := 0) C0.1 C0.2.1 dX1_draw_0 (by decide) ?_
  refine lv_istore (lv' := [(5, .int 0), (0, .ref (a 84)), (1, .int ch), (2, .int q), (3, .int en), (4, .int lv)]) C0.1 C0.2.1 dX1_draw_1 hl (by decide) rfl (fun ls hl => ?_)
  have loop3 : ∀ (n : Nat) (i : Nat), (i ≤ 196) → (196 + 1 ≤ i + n) → ∀ (H : Heap) (locs : List Loc) (ls : Array Slot), WP D cA a S (up X 13 (drf ch i (X 13))) I H → va_S (AI a I) s.heap H locs → lv_has ls 10 [(5, .int (nI i)), (0, .ref (a 84)), (1, .int ch), (2, .int q), (3, .int en), (4, .int lv)] → W p l e { frames := 2, cells := 0, slots := 0, locals := 43 } s m args below meth c H locs (0) (0) (MQ below (QpV D cA a I (fun S1 X1 => S1 = S ∧ X1 = (up (up X 13 ((drW S (X 13) (X 15) ch q en lv).1)) 15 ((drW S (X 13) (X 15) ch q en lv).2)))) args s 0 0 (AI a I)) (F0 m 3 ls []) := by
    intro n
    induction n with
    | zero => intro i hi hf; exfalso; omega
    | succ n ih3 =>
      intro i hi hf H locs ls hP hS hl
      refine lv_iload C0.1 C0.2.1 dX1_draw_3 (lv_at hl 0 rfl) ?_
      refine lv_sipush (v := 196) C0.1 C0.2.1 dX1_draw_5 (by decide) ?_
      refine lv_icmp_ge (tgt := 29) C0.1 C0.2.1 dX1_draw_8 (by decide) (fun c_8 => ?_) (fun c_8 => ?_)
      · have hge : 196 ≤ i := (nI_leI (by omega) (by omega)).mp c_8
        refine lv_aload_n C0.1 C0.2.1 dX1_draw_29 rfl (lv_at hl 1 rfl) ?_
        refine g84_fleet C0 hK hP (hd.1 _ (by decide)) fl_X1_35 dX1_draw_30 ?_
        refine lv_iload_n C0.1 C0.2.1 dX1_draw_33 rfl (lv_at hl 3 rfl) ?_
        refine lv_aload_n C0.1 C0.2.1 dX1_draw_34 rfl (lv_at hl 1 rfl) ?_
        refine g84_plain C0 hK hP (hd.1 _ (by decide)) fl_X1_27 dX1_draw_35 ?_
        refine lv_iload_n C0.1 C0.2.1 dX1_draw_38 rfl (lv_at hl 4 rfl) ?_
        refine lv_iload C0.1 C0.2.1 dX1_draw_39 (lv_at hl 5 rfl) ?_
        refine k_X4_depth hd (by decide) C0 hK hP  (v := dpt S en lv) rfl hS hA hl.1 ml_X1_76 ⟨Nat.le_of_ble_eq_true rfl, Nat.le_of_ble_eq_true rfl⟩ ⟨Nat.zero_le _, Nat.zero_le _⟩ (Nat.le_of_ble_eq_true rfl) dX1_draw_41 (fun H locs hP hS => ?_)
        refine k_X2_floats hd (by decide) C0 hK hP  (v := bI (decide (rg (S 6) 6 q ≤ (dpt S en lv)) && decide ((dpt S en lv) ≤ rg (S 7) 6 q))) rfl hS hA hl.1 ml_X1_79 ⟨Nat.le_of_ble_eq_true rfl, Nat.le_of_ble_eq_true rfl⟩ ⟨Nat.zero_le _, Nat.zero_le _⟩ (Nat.le_of_ble_eq_true rfl) dX1_draw_44 (fun H locs hP hS => ?_)
        refine lv_if_ne (tgt := 51) C0.1 C0.2.1 dX1_draw_47 (by decide) (fun c_47 => ?_) (fun c_47 => ?_)
        · have c_47 := bI_ne c_47
          rw [show i = 196 by omega] at hP
          refine lv_aload_n C0.1 C0.2.1 dX1_draw_51 rfl (lv_at hl 1 rfl) ?_
          refine g84_ways C0 hK hP (hd.1 _ (by decide)) fl_X1_17 dX1_draw_52 ?_
          refine lv_iload_n C0.1 C0.2.1 dX1_draw_55 rfl (lv_at hl 2 rfl) ?_
          refine lv_iload_n C0.1 C0.2.1 dX1_draw_56 rfl (lv_at hl 4 rfl) ?_
          refine lv_iadd C0.1 C0.2.1 dX1_draw_57 ?_
          refine lv_iconst (v := 0) C0.1 C0.2.1 dX1_draw_58 (by decide) ?_
          refine k_X5_set 13 (by decide) hd (by decide) (by decide) C0 hK hP hS hA hl.1 ml_X1_72 ⟨Nat.le_of_ble_eq_true rfl, Nat.le_of_ble_eq_true rfl⟩ ⟨Nat.zero_le _, Nat.zero_le _⟩ (Nat.le_of_ble_eq_true rfl) dX1_draw_59 (fun H locs hP hS => ?_)
          have hP : WP D cA a S (up X 13 (us (drf ch 196 (X 13)) 58800 (ch + en) 0)) I H := WP.congr (show WP D cA a S (up (up X 13 (drf ch 196 (X 13))) 13 (us (drf ch 196 (X 13)) 58800 (ch + en) 0)) I H from hP) (fun _ => rfl) (fun k => by
              by_cases h_13 : k = 13
              · subst h_13; rfl
              simp only [up, h_13, if_false])
          refine lv_aload_n C0.1 C0.2.1 dX1_draw_62 rfl (lv_at hl 1 rfl) ?_
          refine g84_queue C0 hK hP (hd.1 _ (by decide)) fl_X1_24 dX1_draw_63 ?_
          refine lv_iconst (v := 0) C0.1 C0.2.1 dX1_draw_66 (by decide) ?_
          refine lv_iload_n C0.1 C0.2.1 dX1_draw_67 rfl (lv_at hl 4 rfl) ?_
          refine k_X5_set 15 (by decide) hd (by decide) (by decide) C0 hK hP hS hA hl.1 ml_X1_72 ⟨Nat.le_of_ble_eq_true rfl, Nat.le_of_ble_eq_true rfl⟩ ⟨Nat.zero_le _, Nat.zero_le _⟩ (Nat.le_of_ble_eq_true rfl) dX1_draw_68 (fun H locs hP hS => ?_)
          have hP : WP D cA a S (up (up X 13 (us (drf ch 196 (X 13)) 58800 (ch + en) 0)) 15 (us (X 15) 196 0 en)) I H := hP
          refine lv_iconst (v := 1) C0.1 C0.2.1 dX1_draw_71 (by decide) ?_
          refine lv_istore (lv' := [(5, .int 1), (0, .ref (a 84)), (1, .int ch), (2, .int q), (3, .int en), (4, .int lv)]) C0.1 C0.2.1 dX1_draw_72 hl (by decide) rfl (fun ls hl => ?_)
          refine lv_iconst (v := 0) C0.1 C0.2.1 dX1_draw_74 (by decide) ?_
          refine lv_istore (lv' := [(6, .int 0), (5, .int 1), (0, .ref (a 84)), (1, .int ch), (2, .int q), (3, .int en), (4, .int lv)]) C0.1 C0.2.1 dX1_draw_75 hl (by decide) rfl (fun ls hl => ?_)
          have loop77 : ∀ (n : Nat) (i : Nat) (tr : Tri), (i ≤ 196) → (197 ≤ i + n) → ((drO S ch q lv 196 0 (us (drf ch 196 (X 13)) 58800 (ch + en) 0, us (X 15) 196 0 en, 1)) = drO S ch q lv (196 - i) i tr) → ∀ (H : Heap) (locs : List Loc) (ls : Array Slot), WP D cA a S (up (up X 13 tr.1) 15 tr.2.1) I H → va_S (AI a I) s.heap H locs → lv_has ls 10 [(6, .int (nI i)), (5, .int tr.2.2), (0, .ref (a 84)), (1, .int ch), (2, .int q), (3, .int en), (4, .int lv)] → W p l e { frames := 2, cells := 0, slots := 0, locals := 43 } s m args below meth c H locs (0) (0) (MQ below (QpV D cA a I (fun S1 X1 => S1 = S ∧ X1 = (up (up X 13 ((drW S (X 13) (X 15) ch q en lv).1)) 15 ((drW S (X 13) (X 15) ch q en lv).2)))) args s 0 0 (AI a I)) (F0 m 77 ls []) := by
            intro n
            induction n with
            | zero => intro i tr hi hf hdo; exfalso; omega
            | succ n ih77 =>
              intro i tr hi hf hdo H locs ls hP hS hl
              refine lv_iload C0.1 C0.2.1 dX1_draw_77 (lv_at hl 0 rfl) ?_
              refine lv_iload C0.1 C0.2.1 dX1_draw_79 (lv_at hl 1 rfl) ?_
              refine lv_icmp_ge (tgt := 214) C0.1 C0.2.1 dX1_draw_81 (by decide) (fun c_81 => ?_) (fun c_81 => ?_)
              · have hst : ¬ (nI i < tr.2.2 ∧ i < 196) := fun h => absurd h.1 (Int32.not_lt.mpr c_81)
                exact retV C0 hr hlk hP hS ⟨rfl, by rw [drW, if_pos (show flt S q en lv = true from c_47), hdo, drO_stop hst]⟩ dX1_draw_214
              · refine lv_iload C0.1 C0.2.1 dX1_draw_84 (lv_at hl 0 rfl) ?_
                refine lv_sipush (v := 196) C0.1 C0.2.1 dX1_draw_86 (by decide) ?_
                refine lv_icmp_ge (tgt := 214) C0.1 C0.2.1 dX1_draw_89 (by decide) (fun c_89 => ?_) (fun c_89 => ?_)
                · have hst : ¬ (nI i < tr.2.2 ∧ i < 196) := fun h => absurd h.2 (Nat.not_lt.mpr ((nI_leI (by omega) (by omega)).mp c_89))
                  exact retV C0 hr hlk hP hS ⟨rfl, by rw [drW, if_pos (show flt S q en lv = true from c_47), hdo, drO_stop hst]⟩ dX1_draw_214
                · have hlt : i < 196 := Nat.not_le.mp fun q => c_89 (nI_le q (by omega))
                  refine lv_aload_n C0.1 C0.2.1 dX1_draw_92 rfl (lv_at hl 2 rfl) ?_
                  refine g84_queue C0 hK hP (hd.1 _ (by decide)) fl_X1_24 dX1_draw_93 ?_
                  refine lv_iload C0.1 C0.2.1 dX1_draw_96 (lv_at hl 0 rfl) ?_
                  refine k_X5_get (v := rg tr.2.1 196 (nI i)) 15 (by decide) hd (by decide) (by decide) C0 hK hP rfl hS hA hl.1 ml_X1_47 ⟨Nat.le_of_ble_eq_true rfl, Nat.le_of_ble_eq_true rfl⟩ ⟨Nat.zero_le _, Nat.zero_le _⟩ (Nat.le_of_ble_eq_true rfl) dX1_draw_98 (fun H locs hP hS => ?_)
                  refine lv_istore (lv' := [(7, .int (rg tr.2.1 196 (nI i))), (6, .int (nI i)), (5, .int tr.2.2), (0, .ref (a 84)), (1, .int ch), (2, .int q), (3, .int en), (4, .int lv)]) C0.1 C0.2.1 dX1_draw_101 hl (by decide) rfl (fun ls hl => ?_)
                  refine lv_iconst (v := 0) C0.1 C0.2.1 dX1_draw_103 (by decide) ?_
                  refine lv_istore (lv' := [(8, .int 0), (7, .int (rg tr.2.1 196 (nI i))), (6, .int (nI i)), (5, .int tr.2.2), (0, .ref (a 84)), (1, .int ch), (2, .int q), (3, .int en), (4, .int lv)]) C0.1 C0.2.1 dX1_draw_104 hl (by decide) rfl (fun ls hl => ?_)
                  have loop106 : ∀ (n : Nat) (d : Nat) (t2 : Tri), (d ≤ 4) → (4 + 1 ≤ d + n) → (t2 = drD S ch q lv (rg tr.2.1 196 (nI i)) d tr) → ∀ (H : Heap) (locs : List Loc) (ls : Array Slot), WP D cA a S (up (up X 13 t2.1) 15 t2.2.1) I H → va_S (AI a I) s.heap H locs → lv_has ls 10 [(8, .int (nI d)), (7, .int (rg tr.2.1 196 (nI i))), (6, .int (nI i)), (5, .int t2.2.2), (0, .ref (a 84)), (1, .int ch), (2, .int q), (3, .int en), (4, .int lv)] → W p l e { frames := 2, cells := 0, slots := 0, locals := 43 } s m args below meth c H locs (0) (0) (MQ below (QpV D cA a I (fun S1 X1 => S1 = S ∧ X1 = (up (up X 13 ((drW S (X 13) (X 15) ch q en lv).1)) 15 ((drW S (X 13) (X 15) ch q en lv).2)))) args s 0 0 (AI a I)) (F0 m 106 ls []) := by
                    intro n
                    induction n with
                    | zero => intro d t2 hid hfd ht2; exfalso; omega
                    | succ n ih106 =>
                      intro d t2 hid hfd ht2 H locs ls hP hS hl
                      refine lv_iload C0.1 C0.2.1 dX1_draw_106 (lv_at hl 0 rfl) ?_
                      refine lv_iconst (v := 4) C0.1 C0.2.1 dX1_draw_108 (by decide) ?_
                      refine lv_icmp_ge (tgt := 208) C0.1 C0.2.1 dX1_draw_109 (by decide) (fun c_109 => ?_) (fun c_109 => ?_)
                      · have hged : 4 ≤ d := (nI_leI (by omega) (by omega)).mp c_109
                        refine lv_iinc (v := nI (i + 1)) (lv' := [(6, .int (nI (i + 1))), (8, .int (nI d)), (7, .int (rg tr.2.1 196 (nI i))), (5, .int t2.2.2), (0, .ref (a 84)), (1, .int ch), (2, .int q), (3, .int en), (4, .int lv)]) C0.1 C0.2.1 dX1_draw_208 hl (k := 2) rfl (nI_1 _) (by decide) rfl (fun ls hl => ?_)
                        refine lv_goto (tgt := 77) C0.1 C0.2.1 dX1_draw_211 (by decide) ?_
                        have hdo2 : (drO S ch q lv 196 0 (us (drf ch 196 (X 13)) 58800 (ch + en) 0, us (X 15) 196 0 en, 1)) = drO S ch q lv (196 - (i + 1)) (i + 1) t2 := by rw [hdo, show 196 - i = 196 - (i + 1) + 1 by omega, ht2, show d = 4 by omega]; exact if_pos ⟨Int32.not_le.mp c_81, hlt⟩
                        exact ih77 (i + 1) t2 (by omega) (by omega) hdo2 _ _ _ hP hS (lv_sub hl [0, 3, 4, 5, 6, 7, 8] rfl)
                      · have hltd : d < 4 := Nat.not_le.mp fun q => c_109 (nI_le q (by omega))
                        refine lv_iload C0.1 C0.2.1 dX1_draw_112 (lv_at hl 1 rfl) ?_
                        refine lv_iload C0.1 C0.2.1 dX1_draw_114 (lv_at hl 0 rfl) ?_
                        refine k_X4_beside hd (by decide) C0 hK hP  (v := besI (rg tr.2.1 196 (nI i)) (nI d)) rfl hS hA hl.1 ml_X1_67 ⟨Nat.le_of_ble_eq_true rfl, Nat.le_of_ble_eq_true rfl⟩ ⟨Nat.zero_le _, Nat.zero_le _⟩ (Nat.le_of_ble_eq_true rfl) dX1_draw_116 (fun H locs hP hS => ?_)
                        refine lv_istore (lv' := [(9, .int (besI (rg tr.2.1 196 (nI i)) (nI d))), (8, .int (nI d)), (7, .int (rg tr.2.1 196 (nI i))), (6, .int (nI i)), (5, .int t2.2.2), (0, .ref (a 84)), (1, .int ch), (2, .int q), (3, .int en), (4, .int lv)]) C0.1 C0.2.1 dX1_draw_119 hl (by decide) rfl (fun ls hl => ?_)
                        refine lv_iload C0.1 C0.2.1 dX1_draw_121 (lv_at hl 0 rfl) ?_
                        refine lv_iconst (v := (-1)) C0.1 C0.2.1 dX1_draw_123 (by decide) ?_
                        refine lv_icmp_eq (tgt := 202) C0.1 C0.2.1 dX1_draw_124 (by decide) (fun c_124 => ?_) (fun c_124 => ?_)
                        · refine lv_iinc (v := nI (d + 1)) (lv' := [(8, .int (nI (d + 1))), (9, .int (besI (rg tr.2.1 196 (nI i)) (nI d))), (7, .int (rg tr.2.1 196 (nI i))), (6, .int (nI i)), (5, .int t2.2.2), (0, .ref (a 84)), (1, .int ch), (2, .int q), (3, .int en), (4, .int lv)]) C0.1 C0.2.1 dX1_draw_202 hl (k := 1) rfl (nI_1 _) (by decide) rfl (fun ls hl => ?_)
                          refine lv_goto (tgt := 106) C0.1 C0.2.1 dX1_draw_205 (by decide) ?_
                          have ht3 : t2 = drD S ch q lv (rg tr.2.1 196 (nI i)) (d + 1) tr := by show _ = ite _ _ _; rw [← ht2, if_neg (fun h => h.1 c_124)]
                          exact ih106 (d + 1) _ (by omega) (by omega) ht3 _ _ _ hP hS (lv_sub hl [0, 2, 3, 4, 5, 6, 7, 8, 9] rfl)
                        · refine lv_aload_n C0.1 C0.2.1 dX1_draw_127 rfl (lv_at hl 5 rfl) ?_
                          refine g84_ways C0 hK hP (hd.1 _ (by decide)) fl_X1_17 dX1_draw_128 ?_
                          refine lv_iload_n C0.1 C0.2.1 dX1_draw_131 rfl (lv_at hl 6 rfl) ?_
                          refine lv_iload C0.1 C0.2.1 dX1_draw_132 (lv_at hl 0 rfl) ?_
                          refine lv_iadd C0.1 C0.2.1 dX1_draw_134 ?_
                          refine k_X5_get (v := rg t2.1 58800 (ch + (besI (rg tr.2.1 196 (nI i)) (nI d)))) 13 (by decide) hd (by decide) (by decide) C0 hK hP rfl hS hA hl.1 ml_X1_47 ⟨Nat.le_of_ble_eq_true rfl, Nat.le_of_ble_eq_true rfl⟩ ⟨Nat.zero_le _, Nat.zero_le _⟩ (Nat.le_of_ble_eq_true rfl) dX1_draw_135 (fun H locs hP hS => ?_)
                          refine lv_iconst (v := (-1)) C0.1 C0.2.1 dX1_draw_138 (by decide) ?_
                          refine lv_icmp_ne (tgt := 202) C0.1 C0.2.1 dX1_draw_139 (by decide) (fun c_139 => ?_) (fun c_139 => ?_)
                          · refine lv_iinc (v := nI (d + 1)) (lv' := [(8, .int (nI (d + 1))), (9, .int (besI (rg tr.2.1 196 (nI i)) (nI d))), (7, .int (rg tr.2.1 196 (nI i))), (6, .int (nI i)), (5, .int t2.2.2), (0, .ref (a 84)), (1, .int ch), (2, .int q), (3, .int en), (4, .int lv)]) C0.1 C0.2.1 dX1_draw_202 hl (k := 1) rfl (nI_1 _) (by decide) rfl (fun ls hl => ?_)
                            refine lv_goto (tgt := 106) C0.1 C0.2.1 dX1_draw_205 (by decide) ?_
                            have ht3 : t2 = drD S ch q lv (rg tr.2.1 196 (nI i)) (d + 1) tr := by show _ = ite _ _ _; rw [← ht2, if_neg (fun h => c_139 h.2.1)]
                            exact ih106 (d + 1) _ (by omega) (by omega) ht3 _ _ _ hP hS (lv_sub hl [0, 2, 3, 4, 5, 6, 7, 8, 9] rfl)
                          · refine lv_aload_n C0.1 C0.2.1 dX1_draw_142 rfl (lv_at hl 5 rfl) ?_
                            refine g84_fleet C0 hK hP (hd.1 _ (by decide)) fl_X1_35 dX1_draw_143 ?_
                            refine lv_iload_n C0.1 C0.2.1 dX1_draw_146 rfl (lv_at hl 7 rfl) ?_
                            refine lv_aload_n C0.1 C0.2.1 dX1_draw_147 rfl (lv_at hl 5 rfl) ?_
                            refine g84_plain C0 hK hP (hd.1 _ (by decide)) fl_X1_27 dX1_draw_148 ?_
                            refine lv_iload C0.1 C0.2.1 dX1_draw_151 (lv_at hl 0 rfl) ?_
                            refine lv_iload C0.1 C0.2.1 dX1_draw_153 (lv_at hl 9 rfl) ?_
                            refine k_X4_depth hd (by decide) C0 hK hP  (v := dpt S (besI (rg tr.2.1 196 (nI i)) (nI d)) lv) rfl hS hA hl.1 ml_X1_76 ⟨Nat.le_of_ble_eq_true rfl, Nat.le_of_ble_eq_true rfl⟩ ⟨Nat.zero_le _, Nat.zero_le _⟩ (Nat.le_of_ble_eq_true rfl) dX1_draw_155 (fun H locs hP hS => ?_)
                            refine k_X2_floats hd (by decide) C0 hK hP  (v := bI (decide (rg (S 6) 6 q ≤ (dpt S (besI (rg tr.2.1 196 (nI i)) (nI d)) lv)) && decide ((dpt S (besI (rg tr.2.1 196 (nI i)) (nI d)) lv) ≤ rg (S 7) 6 q))) rfl hS hA hl.1 ml_X1_79 ⟨Nat.le_of_ble_eq_true rfl, Nat.le_of_ble_eq_true rfl⟩ ⟨Nat.zero_le _, Nat.zero_le _⟩ (Nat.le_of_ble_eq_true rfl) dX1_draw_158 (fun H locs hP hS => ?_)
                            refine lv_if_eq (tgt := 202) C0.1 C0.2.1 dX1_draw_161 (by decide) (fun c_161 => ?_) (fun c_161 => ?_)
                            · have c_161 := bI_eq c_161
                              refine lv_iinc (v := nI (d + 1)) (lv' := [(8, .int (nI (d + 1))), (9, .int (besI (rg tr.2.1 196 (nI i)) (nI d))), (7, .int (rg tr.2.1 196 (nI i))), (6, .int (nI i)), (5, .int t2.2.2), (0, .ref (a 84)), (1, .int ch), (2, .int q), (3, .int en), (4, .int lv)]) C0.1 C0.2.1 dX1_draw_202 hl (k := 1) rfl (nI_1 _) (by decide) rfl (fun ls hl => ?_)
                              refine lv_goto (tgt := 106) C0.1 C0.2.1 dX1_draw_205 (by decide) ?_
                              have ht3 : t2 = drD S ch q lv (rg tr.2.1 196 (nI i)) (d + 1) tr := by show _ = ite _ _ _; rw [← ht2, if_neg (fun h => Bool.false_ne_true (c_161.symm.trans h.2.2))]
                              exact ih106 (d + 1) _ (by omega) (by omega) ht3 _ _ _ hP hS (lv_sub hl [0, 2, 3, 4, 5, 6, 7, 8, 9] rfl)
                            · have c_161 := bI_ne c_161
                              refine lv_aload_n C0.1 C0.2.1 dX1_draw_164 rfl (lv_at hl 5 rfl) ?_
                              refine g84_ways C0 hK hP (hd.1 _ (by decide)) fl_X1_17 dX1_draw_165 ?_
                              refine lv_iload_n C0.1 C0.2.1 dX1_draw_168 rfl (lv_at hl 6 rfl) ?_
                              refine lv_iload C0.1 C0.2.1 dX1_draw_169 (lv_at hl 0 rfl) ?_
                              refine lv_iadd C0.1 C0.2.1 dX1_draw_171 ?_
                              refine lv_aload_n C0.1 C0.2.1 dX1_draw_172 rfl (lv_at hl 5 rfl) ?_
                              refine g84_ways C0 hK hP (hd.1 _ (by decide)) fl_X1_17 dX1_draw_173 ?_
                              refine lv_iload_n C0.1 C0.2.1 dX1_draw_176 rfl (lv_at hl 6 rfl) ?_
                              refine lv_iload C0.1 C0.2.1 dX1_draw_177 (lv_at hl 2 rfl) ?_
                              refine lv_iadd C0.1 C0.2.1 dX1_draw_179 ?_
                              refine k_X5_get (v := rg t2.1 58800 (ch + (rg tr.2.1 196 (nI i)))) 13 (by decide) hd (by decide) (by decide) C0 hK hP rfl hS hA hl.1 ml_X1_47 ⟨Nat.le_of_ble_eq_true rfl, Nat.le_of_ble_eq_true rfl⟩ ⟨Nat.zero_le _, Nat.zero_le _⟩ (Nat.le_of_ble_eq_true rfl) dX1_draw_180 (fun H locs hP hS => ?_)
                              refine lv_iconst (v := 1) C0.1 C0.2.1 dX1_draw_183 (by decide) ?_
                              refine lv_iadd C0.1 C0.2.1 dX1_draw_184 ?_
                              refine k_X5_set 13 (by decide) hd (by decide) (by decide) C0 hK hP hS hA hl.1 ml_X1_72 ⟨Nat.le_of_ble_eq_true rfl, Nat.le_of_ble_eq_true rfl⟩ ⟨Nat.zero_le _, Nat.zero_le _⟩ (Nat.le_of_ble_eq_true rfl) dX1_draw_185 (fun H locs hP hS => ?_)
                              have hP : WP D cA a S (up (up X 15 t2.2.1) 13 (us t2.1 58800 (ch + (besI (rg tr.2.1 196 (nI i)) (nI d))) ((rg t2.1 58800 (ch + (rg tr.2.1 196 (nI i)))) + 1))) I H := WP.congr (show WP D cA a S (up (up (up X 13 t2.1) 15 t2.2.1) 13 (us t2.1 58800 (ch + (besI (rg tr.2.1 196 (nI i)) (nI d))) ((rg t2.1 58800 (ch + (rg tr.2.1 196 (nI i)))) + 1))) I H from hP) (fun _ => rfl) (fun k => by
                                  by_cases h_15 : k = 15
                                  · subst h_15; rfl
                                  by_cases h_13 : k = 13
                                  · subst h_13; rfl
                                  simp only [up, h_15, h_13, if_false])
                              refine lv_aload_n C0.1 C0.2.1 dX1_draw_188 rfl (lv_at hl 5 rfl) ?_
                              refine g84_queue C0 hK hP (hd.1 _ (by decide)) fl_X1_24 dX1_draw_189 ?_
                              refine lv_iload C0.1 C0.2.1 dX1_draw_192 (lv_at hl 4 rfl) ?_
                              refine lv_iload C0.1 C0.2.1 dX1_draw_194 (lv_at hl 0 rfl) ?_
                              refine k_X5_set 15 (by decide) hd (by decide) (by decide) C0 hK hP hS hA hl.1 ml_X1_72 ⟨Nat.le_of_ble_eq_true rfl, Nat.le_of_ble_eq_true rfl⟩ ⟨Nat.zero_le _, Nat.zero_le _⟩ (Nat.le_of_ble_eq_true rfl) dX1_draw_196 (fun H locs hP hS => ?_)
                              have hP : WP D cA a S (up (up X 13 (us t2.1 58800 (ch + (besI (rg tr.2.1 196 (nI i)) (nI d))) ((rg t2.1 58800 (ch + (rg tr.2.1 196 (nI i)))) + 1))) 15 (us t2.2.1 196 t2.2.2 (besI (rg tr.2.1 196 (nI i)) (nI d)))) I H := WP.congr (show WP D cA a S (up (up (up X 15 t2.2.1) 13 (us t2.1 58800 (ch + (besI (rg tr.2.1 196 (nI i)) (nI d))) ((rg t2.1 58800 (ch + (rg tr.2.1 196 (nI i)))) + 1))) 15 (us t2.2.1 196 t2.2.2 (besI (rg tr.2.1 196 (nI i)) (nI d)))) I H from hP) (fun _ => rfl) (fun k => by
                                  by_cases h_13 : k = 13
                                  · subst h_13; rfl
                                  by_cases h_15 : k = 15
                                  · subst h_15; rfl
                                  simp only [up, h_13, h_15, if_false])
                              refine lv_iinc (v := t2.2.2 + 1) (lv' := [(5, .int (t2.2.2 + 1)), (9, .int (besI (rg tr.2.1 196 (nI i)) (nI d))), (8, .int (nI d)), (7, .int (rg tr.2.1 196 (nI i))), (6, .int (nI i)), (0, .ref (a 84)), (1, .int ch), (2, .int q), (3, .int en), (4, .int lv)]) C0.1 C0.2.1 dX1_draw_199 hl (k := 4) rfl rfl (by decide) rfl (fun ls hl => ?_)
                              refine lv_iinc (v := nI (d + 1)) (lv' := [(8, .int (nI (d + 1))), (5, .int (t2.2.2 + 1)), (9, .int (besI (rg tr.2.1 196 (nI i)) (nI d))), (7, .int (rg tr.2.1 196 (nI i))), (6, .int (nI i)), (0, .ref (a 84)), (1, .int ch), (2, .int q), (3, .int en), (4, .int lv)]) C0.1 C0.2.1 dX1_draw_202 hl (k := 2) rfl (nI_1 _) (by decide) rfl (fun ls hl => ?_)
                              refine lv_goto (tgt := 106) C0.1 C0.2.1 dX1_draw_205 (by decide) ?_
                              have ht3 : ((us t2.1 58800 (ch + besI (rg tr.2.1 196 (nI i)) (nI d)) (rg t2.1 58800 (ch + (rg tr.2.1 196 (nI i))) + 1), us t2.2.1 196 t2.2.2 (besI (rg tr.2.1 196 (nI i)) (nI d)), t2.2.2 + 1) : Tri) = drD S ch q lv (rg tr.2.1 196 (nI i)) (d + 1) tr := by show _ = ite _ _ _; rw [← ht2, if_pos ⟨c_124, c_139, c_161⟩]
                              exact ih106 (d + 1) _ (by omega) (by omega) ht3 _ _ _ hP hS (lv_sub hl [0, 3, 4, 1, 5, 6, 7, 8, 9] rfl)
                  exact loop106 (4 + 1) 0 tr (by omega) (by omega) rfl _ _ _ hP hS (lv_sub hl [0, 1, 2, 3, 4, 5, 6, 7, 8] rfl)
          exact loop77 197 0 (us (drf ch 196 (X 13)) 58800 (ch + en) 0, us (X 15) 196 0 en, 1) (by omega) (by omega) rfl _ _ _ hP hS (lv_sub hl [0, 1, 2, 3, 4, 5, 6] rfl)
        · have c_47 := bI_eq c_47
          exact retV C0 hr hlk hP hS ⟨rfl, by rw [drW, if_neg (by rw [show flt S q en lv = false from c_47]; exact Bool.false_ne_true), up_id (S := up X 13 (drf ch 196 (X 13))) (k := 15) (f := X 15) rfl, show i = 196 by omega]⟩ dX1_draw_50
      · have hlt : i < 196 := Nat.not_le.mp fun q => c_8 (nI_le q (by omega))
        refine lv_aload_n C0.1 C0.2.1 dX1_draw_11 rfl (lv_at hl 1 rfl) ?_
        refine g84_ways C0 hK hP (hd.1 _ (by decide)) fl_X1_17 dX1_draw_12 ?_
        refine lv_iload_n C0.1 C0.2.1 dX1_draw_15 rfl (lv_at hl 2 rfl) ?_
        refine lv_iload C0.1 C0.2.1 dX1_draw_16 (lv_at hl 0 rfl) ?_
        refine lv_iadd C0.1 C0.2.1 dX1_draw_18 ?_
        refine lv_iconst (v := (-1)) C0.1 C0.2.1 dX1_draw_19 (by decide) ?_
        refine k_X5_set 13 (by decide) hd (by decide) (by decide) C0 hK hP hS hA hl.1 ml_X1_72 ⟨Nat.le_of_ble_eq_true rfl, Nat.le_of_ble_eq_true rfl⟩ ⟨Nat.zero_le _, Nat.zero_le _⟩ (Nat.le_of_ble_eq_true rfl) dX1_draw_20 (fun H locs hP hS => ?_)
        have hP : WP D cA a S (up X 13 (us (drf ch i (X 13)) 58800 (ch + (nI i)) (-1))) I H := WP.congr (show WP D cA a S (up (up X 13 (drf ch i (X 13))) 13 (us (drf ch i (X 13)) 58800 (ch + (nI i)) (-1))) I H from hP) (fun _ => rfl) (fun k => by
            by_cases h_13 : k = 13
            · subst h_13; rfl
            simp only [up, h_13, if_false])
        refine lv_iinc (v := nI (i + 1)) (lv' := [(5, .int (nI (i + 1))), (0, .ref (a 84)), (1, .int ch), (2, .int q), (3, .int en), (4, .int lv)]) C0.1 C0.2.1 dX1_draw_23 hl (k := 0) rfl (nI_1 _) (by decide) rfl (fun ls hl => ?_)
        refine lv_goto (tgt := 3) C0.1 C0.2.1 dX1_draw_26 (by decide) ?_
        exact ih3 (i + 1)  (by omega) (by omega)  _ _ _ hP hS (lv_sub hl [0, 1, 2, 3, 4, 5] rfl)
  have hP : WP D cA a S (up X 13 (drf ch 0 (X 13))) I H := by rw [show drf ch 0 (X 13) = X 13 from rfl, up_self]; exact hP
  exact loop3 (196 + 1) 0  (by omega) (by omega)  _ _ _ hP hS (lv_sub hl [0, 1, 2, 3, 4, 5] rfl)
theorem k_X1_draw {n : List Nat} (hd : Hd n a I) (hsub : ∀ k ∈ nT, k ∈ n) (C0 : CallFix p m c cc nL s args GW own) (hK : KK D cA s) (hP : WP D cA a S X I H) {ch : Int32} {q : Int32} {en : Int32} {lv : Int32} (hS : va_S A0 H0 H locs) (hA : ∀ q, AI a I q → A0 q) (hls : ls.size = nL) {idx : Nat} (hlink : Cond.methodLink own idx yX1_draw ∈ GW) (hR : 3 ≤ R.frames ∧ 72 ≤ R.locals) (hcs : cells ≤ R.cells ∧ slots ≤ R.slots) (hrest : (rest.map fun v => v.category).sum ≤ 8) (hdg : decode cc pc = .ok (.invokevirtual idx, 3)) (kk : ∀ (H1 : Heap) (locs1 : List Loc), WP D cA a S (up (up X 13 ((drW S (X 13) (X 15) ch q en lv).1)) 15 ((drW S (X 13) (X 15) ch q en lv).2)) I H1 → va_S A0 H0 H1 locs1 → W p l e R s m args below meth c H1 locs1 cells slots Q (F0 m (pc + 3) ls rest)) : W p l e R s m args below meth c H locs cells slots Q (F0 m pc ls (.int lv :: .int en :: .int q :: .int ch :: .ref (a 84) :: rest)) := by
  exact goV (rV (n := 4) (c_X1_draw l D cA a S X I (hd.sub hsub) ch q en lv ) C0 hlink im_X1_draw se_X1_draw in_X1 co_X1_draw ⟨rfl, by decide⟩ hR hK hP (hd.1 _ (hsub _ (by decide))) rfl rfl rfl hls hrest rfl hdg hcs) hS hA (fun S1 X1 H1 locs1 hp hP1 hS1 => by obtain ⟨rfl, rfl⟩ := hp; exact kk H1 locs1 hP1 hS1)
set_option maxHeartbeats 4000000 in
set_option maxRecDepth 100000 in
theorem c_X1_chartOf (l : Launch) (D : va_G) (cA : ClassId) (a : Adr) (S X : Mem) (I : Nat → Prop) (hd : Hd nT a I) (q : Int32) (x : Int32) (lv : Int32) : MI l yX1_chartOf cX1_chartOf 7 (some .int) 3 72 D cA a S X I [.ref (a 84), .int q, .int x, .int lv] (fun r S1 X1 => S1 = S ∧ (∀ k, k ≠ 13 → k ≠ 14 → k ≠ 15 → X1 k = X k) ∧ X1 14 = us (X 14) 300 (chN S q x lv) 1 ∧ X1 13 = (if rg (X 14) 300 (chN S q x lv) = 0 then (drW S (X 13) (X 15) (chN S q x lv * 196) q (rg (S 3) 8 x) lv).1 else X 13) ∧ r = chN S q x lv * 196) := by
  refine mGo (by decide) (Nat.le_of_ble_eq_true rfl) ?_
  intro p e s m args below meth c ls C0 hr hlk hK hP hS hl hargs
  obtain ⟨H, hHe⟩ : ∃ H, H = s.heap := ⟨_, rfl⟩
  obtain ⟨locs, hlo⟩ : ∃ L : List Loc, L = [] := ⟨_, rfl⟩
  have hP : WP D cA a S X I H := hHe ▸ hP
  have hS : va_S (AI a I) s.heap H locs := by rw [hHe, hlo]; exact hS
  rw [← hHe, ← hlo]
  have hA : ∀ q, AI a I q → AI a I q := fun _ h => h
  refine lv_aload_n C0.1 C0.2.1 dX1_chartOf_0 rfl (lv_at hl 0 rfl) ?_
  refine g84_fleet C0 hK hP (hd.1 _ (by decide)) fl_X1_35 dX1_chartOf_1 ?_
  refine g82_home C0 hK hP (hd.1 _ (by decide)) fl_X1_42 dX1_chartOf_4 ?_
  refine lv_iload_n C0.1 C0.2.1 dX1_chartOf_7 rfl (lv_at hl 1 rfl) ?_
  refine k_X5_get (v := rg (S 4) 6 q) 4 (by decide) hd (by decide) (by decide) C0 hK hP rfl hS hA hl.1 ml_X1_47 ⟨Nat.le_of_ble_eq_true rfl, Nat.le_of_ble_eq_true rfl⟩ ⟨Nat.zero_le _, Nat.zero_le _⟩ (Nat.le_of_ble_eq_true rfl) dX1_chartOf_8 (fun H locs hP hS => ?_)
  refine lv_iload_n C0.1 C0.2.1 dX1_chartOf_11 rfl (lv_at hl 2 rfl) ?_
  refine lv_icmp_ne (tgt := 19) C0.1 C0.2.1 dX1_chartOf_12 (by decide) (fun c_12 => ?_) (fun c_12 => ?_)
  · refine lv_iconst (v := 1) C0.1 C0.2.1 dX1_chartOf_19 (by decide) ?_
    refine lv_istore (lv' := [(4, .int 1), (0, .ref (a 84)), (1, .int q), (2, .int x), (3, .int lv)]) C0.1 C0.2.1 dX1_chartOf_20 hl (by decide) rfl (fun ls hl => ?_)
    refine lv_iload_n C0.1 C0.2.1 dX1_chartOf_22 rfl (lv_at hl 2 rfl) ?_
    refine lv_iconst (v := 2) C0.1 C0.2.1 dX1_chartOf_23 (by decide) ?_
    refine lv_imul C0.1 C0.2.1 dX1_chartOf_24 ?_
    refine lv_iload C0.1 C0.2.1 dX1_chartOf_25 (lv_at hl 0 rfl) ?_
    refine lv_iadd C0.1 C0.2.1 dX1_chartOf_27 ?_
    refine lv_bipush (v := 25) C0.1 C0.2.1 dX1_chartOf_28 (by decide) ?_
    refine lv_imul C0.1 C0.2.1 dX1_chartOf_30 ?_
    refine lv_iload_n C0.1 C0.2.1 dX1_chartOf_31 rfl (lv_at hl 4 rfl) ?_
    refine lv_iadd C0.1 C0.2.1 dX1_chartOf_32 ?_
    refine lv_istore (lv' := [(5, .int ((((q * 2) + 1) * 25) + lv)), (4, .int 1), (0, .ref (a 84)), (1, .int q), (2, .int x), (3, .int lv)]) C0.1 C0.2.1 dX1_chartOf_33 hl (by decide) rfl (fun ls hl => ?_)
    refine lv_iload C0.1 C0.2.1 dX1_chartOf_35 (lv_at hl 0 rfl) ?_
    refine lv_sipush (v := 196) C0.1 C0.2.1 dX1_chartOf_37 (by decide) ?_
    refine lv_imul C0.1 C0.2.1 dX1_chartOf_40 ?_
    refine lv_istore (lv' := [(6, .int (((((q * 2) + 1) * 25) + lv) * 196)), (5, .int ((((q * 2) + 1) * 25) + lv)), (4, .int 1), (0, .ref (a 84)), (1, .int q), (2, .int x), (3, .int lv)]) C0.1 C0.2.1 dX1_chartOf_41 hl (by decide) rfl (fun ls hl => ?_)
    refine lv_aload_n C0.1 C0.2.1 dX1_chartOf_43 rfl (lv_at hl 3 rfl) ?_
    refine g84_drawn C0 hK hP (hd.1 _ (by decide)) fl_X1_21 dX1_chartOf_44 ?_
    refine lv_iload C0.1 C0.2.1 dX1_chartOf_47 (lv_at hl 1 rfl) ?_
    refine lv_iconst (v := 1) C0.1 C0.2.1 dX1_chartOf_49 (by decide) ?_
    refine k_X5_put (v := rg (X 14) 300 ((((q * 2) + 1) * 25) + lv)) 14 (by decide) hd (by decide) (by decide) C0 hK hP rfl hS hA hl.1 ml_X1_51 ⟨Nat.le_of_ble_eq_true rfl, Nat.le_of_ble_eq_true rfl⟩ ⟨Nat.zero_le _, Nat.zero_le _⟩ (Nat.le_of_ble_eq_true rfl) dX1_chartOf_50 (fun H locs hP hS => ?_)
    have hP : WP D cA a S (up X 14 (us (X 14) 300 ((((q * 2) + 1) * 25) + lv) 1)) I H := hP
    refine lv_if_ne (tgt := 75) C0.1 C0.2.1 dX1_chartOf_53 (by decide) (fun c_53 => ?_) (fun c_53 => ?_)
    · refine lv_iload C0.1 C0.2.1 dX1_chartOf_75 (lv_at hl 0 rfl) ?_
      have hN : (q * 2 + 1) * 25 + lv = chN S q x lv := by rw [chN, if_neg c_12]
      rw [hN] at c_53
      exact retI C0 hr hlk hP hS ⟨rfl, fun k h1 h2 h3 => by rw [up_ne h2], by show us _ _ _ _ = _; rw [hN], by rw [if_neg c_53]; rfl, by rw [hN]⟩ dX1_chartOf_77
    · refine lv_aload_n C0.1 C0.2.1 dX1_chartOf_56 rfl (lv_at hl 3 rfl) ?_
      refine lv_iload C0.1 C0.2.1 dX1_chartOf_57 (lv_at hl 0 rfl) ?_
      refine lv_iload_n C0.1 C0.2.1 dX1_chartOf_59 rfl (lv_at hl 4 rfl) ?_
      refine lv_aload_n C0.1 C0.2.1 dX1_chartOf_60 rfl (lv_at hl 3 rfl) ?_
      refine g84_landings C0 hK hP (hd.1 _ (by decide)) fl_X1_31 dX1_chartOf_61 ?_
      refine g81_cell C0 hK hP (hd.1 _ (by decide)) fl_X1_55 dX1_chartOf_64 ?_
      refine lv_iload_n C0.1 C0.2.1 dX1_chartOf_67 rfl (lv_at hl 5 rfl) ?_
      refine k_X5_get (v := rg (S 3) 8 x) 3 (by decide) hd (by decide) (by decide) C0 hK hP rfl hS hA hl.1 ml_X1_47 ⟨Nat.le_of_ble_eq_true rfl, Nat.le_of_ble_eq_true rfl⟩ ⟨Nat.zero_le _, Nat.zero_le _⟩ (Nat.le_of_ble_eq_true rfl) dX1_chartOf_68 (fun H locs hP hS => ?_)
      refine lv_iload_n C0.1 C0.2.1 dX1_chartOf_71 rfl (lv_at hl 6 rfl) ?_
      refine k_X1_draw hd (by decide) C0 hK hP  hS hA hl.1 ml_X1_60 ⟨Nat.le_of_ble_eq_true rfl, Nat.le_of_ble_eq_true rfl⟩ ⟨Nat.zero_le _, Nat.zero_le _⟩ (Nat.le_of_ble_eq_true rfl) dX1_chartOf_72 (fun H locs hP hS => ?_)
      have hP : WP D cA a S (up (up (up X 14 (us (X 14) 300 ((((q * 2) + 1) * 25) + lv) 1)) 13 ((drW S (X 13) (X 15) (((((q * 2) + 1) * 25) + lv) * 196) q (rg (S 3) 8 x) lv).1)) 15 ((drW S (X 13) (X 15) (((((q * 2) + 1) * 25) + lv) * 196) q (rg (S 3) 8 x) lv).2)) I H := hP
      refine lv_iload C0.1 C0.2.1 dX1_chartOf_75 (lv_at hl 0 rfl) ?_
      have hN : (q * 2 + 1) * 25 + lv = chN S q x lv := by rw [chN, if_neg c_12]
      rw [hN] at c_53
      exact retI C0 hr hlk hP hS ⟨rfl, fun k h1 h2 h3 => by rw [up_ne h3, up_ne h1, up_ne h2], by show us _ _ _ _ = _; rw [hN], by show (drW _ _ _ _ _ _ _).1 = _; rw [if_pos c_53, hN], by rw [hN]⟩ dX1_chartOf_77
  · refine lv_iconst (v := 0) C0.1 C0.2.1 dX1_chartOf_15 (by decide) ?_
    refine lv_goto (tgt := 20) C0.1 C0.2.1 dX1_chartOf_16 (by decide) ?_
    refine lv_istore (lv' := [(4, .int 0), (0, .ref (a 84)), (1, .int q), (2, .int x), (3, .int lv)]) C0.1 C0.2.1 dX1_chartOf_20 hl (by decide) rfl (fun ls hl => ?_)
    refine lv_iload_n C0.1 C0.2.1 dX1_chartOf_22 rfl (lv_at hl 2 rfl) ?_
    refine lv_iconst (v := 2) C0.1 C0.2.1 dX1_chartOf_23 (by decide) ?_
    refine lv_imul C0.1 C0.2.1 dX1_chartOf_24 ?_
    refine lv_iload C0.1 C0.2.1 dX1_chartOf_25 (lv_at hl 0 rfl) ?_
    refine lv_iadd C0.1 C0.2.1 dX1_chartOf_27 ?_
    refine lv_bipush (v := 25) C0.1 C0.2.1 dX1_chartOf_28 (by decide) ?_
    refine lv_imul C0.1 C0.2.1 dX1_chartOf_30 ?_
    refine lv_iload_n C0.1 C0.2.1 dX1_chartOf_31 rfl (lv_at hl 4 rfl) ?_
    refine lv_iadd C0.1 C0.2.1 dX1_chartOf_32 ?_
    refine lv_istore (lv' := [(5, .int ((((q * 2) + 0) * 25) + lv)), (4, .int 0), (0, .ref (a 84)), (1, .int q), (2, .int x), (3, .int lv)]) C0.1 C0.2.1 dX1_chartOf_33 hl (by decide) rfl (fun ls hl => ?_)
    refine lv_iload C0.1 C0.2.1 dX1_chartOf_35 (lv_at hl 0 rfl) ?_
    refine lv_sipush (v := 196) C0.1 C0.2.1 dX1_chartOf_37 (by decide) ?_
    refine lv_imul C0.1 C0.2.1 dX1_chartOf_40 ?_
    refine lv_istore (lv' := [(6, .int (((((q * 2) + 0) * 25) + lv) * 196)), (5, .int ((((q * 2) + 0) * 25) + lv)), (4, .int 0), (0, .ref (a 84)), (1, .int q), (2, .int x), (3, .int lv)]) C0.1 C0.2.1 dX1_chartOf_41 hl (by decide) rfl (fun ls hl => ?_)
    refine lv_aload_n C0.1 C0.2.1 dX1_chartOf_43 rfl (lv_at hl 3 rfl) ?_
    refine g84_drawn C0 hK hP (hd.1 _ (by decide)) fl_X1_21 dX1_chartOf_44 ?_
    refine lv_iload C0.1 C0.2.1 dX1_chartOf_47 (lv_at hl 1 rfl) ?_
    refine lv_iconst (v := 1) C0.1 C0.2.1 dX1_chartOf_49 (by decide) ?_
    refine k_X5_put (v := rg (X 14) 300 ((((q * 2) + 0) * 25) + lv)) 14 (by decide) hd (by decide) (by decide) C0 hK hP rfl hS hA hl.1 ml_X1_51 ⟨Nat.le_of_ble_eq_true rfl, Nat.le_of_ble_eq_true rfl⟩ ⟨Nat.zero_le _, Nat.zero_le _⟩ (Nat.le_of_ble_eq_true rfl) dX1_chartOf_50 (fun H locs hP hS => ?_)
    have hP : WP D cA a S (up X 14 (us (X 14) 300 ((((q * 2) + 0) * 25) + lv) 1)) I H := hP
    refine lv_if_ne (tgt := 75) C0.1 C0.2.1 dX1_chartOf_53 (by decide) (fun c_53 => ?_) (fun c_53 => ?_)
    · refine lv_iload C0.1 C0.2.1 dX1_chartOf_75 (lv_at hl 0 rfl) ?_
      have hN : (q * 2 + 0) * 25 + lv = chN S q x lv := by rw [chN, if_pos c_12]
      rw [hN] at c_53
      exact retI C0 hr hlk hP hS ⟨rfl, fun k h1 h2 h3 => by rw [up_ne h2], by show us _ _ _ _ = _; rw [hN], by rw [if_neg c_53]; rfl, by rw [hN]⟩ dX1_chartOf_77
    · refine lv_aload_n C0.1 C0.2.1 dX1_chartOf_56 rfl (lv_at hl 3 rfl) ?_
      refine lv_iload C0.1 C0.2.1 dX1_chartOf_57 (lv_at hl 0 rfl) ?_
      refine lv_iload_n C0.1 C0.2.1 dX1_chartOf_59 rfl (lv_at hl 4 rfl) ?_
      refine lv_aload_n C0.1 C0.2.1 dX1_chartOf_60 rfl (lv_at hl 3 rfl) ?_
      refine g84_landings C0 hK hP (hd.1 _ (by decide)) fl_X1_31 dX1_chartOf_61 ?_
      refine g81_cell C0 hK hP (hd.1 _ (by decide)) fl_X1_55 dX1_chartOf_64 ?_
      refine lv_iload_n C0.1 C0.2.1 dX1_chartOf_67 rfl (lv_at hl 5 rfl) ?_
      refine k_X5_get (v := rg (S 3) 8 x) 3 (by decide) hd (by decide) (by decide) C0 hK hP rfl hS hA hl.1 ml_X1_47 ⟨Nat.le_of_ble_eq_true rfl, Nat.le_of_ble_eq_true rfl⟩ ⟨Nat.zero_le _, Nat.zero_le _⟩ (Nat.le_of_ble_eq_true rfl) dX1_chartOf_68 (fun H locs hP hS => ?_)
      refine lv_iload_n C0.1 C0.2.1 dX1_chartOf_71 rfl (lv_at hl 6 rfl) ?_
      refine k_X1_draw hd (by decide) C0 hK hP  hS hA hl.1 ml_X1_60 ⟨Nat.le_of_ble_eq_true rfl, Nat.le_of_ble_eq_true rfl⟩ ⟨Nat.zero_le _, Nat.zero_le _⟩ (Nat.le_of_ble_eq_true rfl) dX1_chartOf_72 (fun H locs hP hS => ?_)
      have hP : WP D cA a S (up (up (up X 14 (us (X 14) 300 ((((q * 2) + 0) * 25) + lv) 1)) 13 ((drW S (X 13) (X 15) (((((q * 2) + 0) * 25) + lv) * 196) q (rg (S 3) 8 x) lv).1)) 15 ((drW S (X 13) (X 15) (((((q * 2) + 0) * 25) + lv) * 196) q (rg (S 3) 8 x) lv).2)) I H := hP
      refine lv_iload C0.1 C0.2.1 dX1_chartOf_75 (lv_at hl 0 rfl) ?_
      have hN : (q * 2 + 0) * 25 + lv = chN S q x lv := by rw [chN, if_pos c_12]
      rw [hN] at c_53
      exact retI C0 hr hlk hP hS ⟨rfl, fun k h1 h2 h3 => by rw [up_ne h3, up_ne h1, up_ne h2], by show us _ _ _ _ = _; rw [hN], by show (drW _ _ _ _ _ _ _).1 = _; rw [if_pos c_53, hN], by rw [hN]⟩ dX1_chartOf_77
theorem k_X1_chartOf {n : List Nat} (hd : Hd n a I) (hsub : ∀ k ∈ nT, k ∈ n) (C0 : CallFix p m c cc nL s args GW own) (hK : KK D cA s) (hP : WP D cA a S X I H) {q : Int32} {x : Int32} {lv : Int32} (hS : va_S A0 H0 H locs) (hA : ∀ q, AI a I q → A0 q) (hls : ls.size = nL) {idx : Nat} (hlink : Cond.methodLink own idx yX1_chartOf ∈ GW) (hR : 4 ≤ R.frames ∧ 98 ≤ R.locals) (hcs : cells ≤ R.cells ∧ slots ≤ R.slots) (hrest : (rest.map fun v => v.category).sum ≤ 8) (hdg : decode cc pc = .ok (.invokevirtual idx, 3)) (kk : ∀ (v : Int32) (S1 X1 : Mem) (H1 : Heap) (locs1 : List Loc), (fun r S1 X1 => S1 = S ∧ (∀ k, k ≠ 13 → k ≠ 14 → k ≠ 15 → X1 k = X k) ∧ X1 14 = us (X 14) 300 (chN S q x lv) 1 ∧ X1 13 = (if rg (X 14) 300 (chN S q x lv) = 0 then (drW S (X 13) (X 15) (chN S q x lv * 196) q (rg (S 3) 8 x) lv).1 else X 13) ∧ r = chN S q x lv * 196) v S1 X1 → WP D cA a S1 X1 I H1 → va_S A0 H0 H1 locs1 → W p l e R s m args below meth c H1 locs1 cells slots Q (F0 m (pc + 3) ls (.int v :: rest))) : W p l e R s m args below meth c H locs cells slots Q (F0 m pc ls (.int lv :: .int x :: .int q :: .ref (a 84) :: rest)) := by
  exact goI (rV (n := 3) (c_X1_chartOf l D cA a S X I (hd.sub hsub) q x lv ) C0 hlink im_X1_chartOf se_X1_chartOf in_X1 co_X1_chartOf ⟨rfl, by decide⟩ hR hK hP (hd.1 _ (hsub _ (by decide))) rfl rfl rfl hls hrest rfl hdg hcs) hS hA kk
end CLS
