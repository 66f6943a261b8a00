abbrev c89 (a : Adr) (x y : Nat) : va_E := .inr (8, [.ref (a 80), .ref (a 81), .ref (a 82), .ref (a 83), .ref (a 84), .ref (a x), .ref (a y)])
/-- is it aground behind so many hours? -/
def agrS (S : Mem) (u h : Nat) : Bool := !flt S (nI u) (S 16 u) (lvS S h)
noncomputable def agS (F : Int32 → Int32 → Int32) (S : Mem) (P T h u N : Nat) : Int32 := fndF (fun k => agrS (hrsM F S P T h k).1 u (h + k)) 0 (N + 1)
def comS (S : Mem) (t : Nat) : Bool := !decide (S 24 t = -1)
/-- when it comes, looked for through n hours from k on -/
noncomputable def arF (F : Int32 → Int32 → Int32) (S : Mem) (P T h t : Nat) : Nat → Nat → Int32
  | k, 0 => (hrsM F S P T h k).1 24 t
  | k, n + 1 => if comS (hrsM F S P T h k).1 t = true then (hrsM F S P T h k).1 24 t else arF F S P T h t (k + 1) n
noncomputable def arS (F : Int32 → Int32 → Int32) (S : Mem) (P T h t : Nat) : Int32 := arF F S P T h t 0 400
theorem arF_yes {F : Int32 → Int32 → Int32} {S : Mem} {P T h t k n : Nat} (hc : comS (hrsM F S P T h k).1 t = true) : arF F S P T h t k n = (hrsM F S P T h k).1 24 t := by
  cases n with
  | zero => rfl
  | succ n => exact if_pos hc
theorem arF_no {F : Int32 → Int32 → Int32} {S : Mem} {P T h t k n : Nat} (hc : ¬ comS (hrsM F S P T h k).1 t = true) : arF F S P T h t k (n + 1) = arF F S P T h t (k + 1) n := if_neg hc
def tkM (S X : Mem) : Mem := (up (up (up (up (up (up (up (up (up (up (up S 86 (fun _ => X 88 0)) 16 (tk (S 16) (X 25) 6)) 17 (tk (S 17) (X 26) 6)) 18 (tk (S 18) (X 27) 6)) 19 (tk (S 19) (X 28) 6)) 85 (fun _ => X 87 0)) 20 (tk (S 20) (X 29) 30)) 21 (tk (S 21) (X 30) 30)) 22 (tk (S 22) (X 31) 30)) 23 (tk (S 23) (X 32) 30)) 24 (tk (S 24) (X 33) 30))
theorem take_cg {D : va_G} {cA : ClassId} {a : Adr} {S X S0 : Mem} {I : Nat → Prop} {H : Heap} (h : WP D cA a (tkM S X) X I H) (hSk : ∀ k, nowP k = false → S k = S0 k) (hXk : ∀ k, ahdP k = true → X k = S0 (sh k)) : WP D cA a S0 X I H := by
  refine h.cg ?_ (congrFun (hSk 81 rfl) 0) (congrFun (hSk 82 rfl) 0) (congrFun (hXk 87 rfl) 0) (congrFun (hXk 88 rfl) 0) rfl rfl
  intro k hk j hj
  match k, hk, hj with
  | 0, _, hj => exact congrFun (hSk 0 rfl) j
  | 1, _, hj => exact congrFun (hSk 1 rfl) j
  | 2, _, hj => exact congrFun (hSk 2 rfl) j
  | 3, _, hj => exact congrFun (hSk 3 rfl) j
  | 4, _, hj => exact congrFun (hSk 4 rfl) j
  | 5, _, hj => exact congrFun (hSk 5 rfl) j
  | 6, _, hj => exact congrFun (hSk 6 rfl) j
  | 7, _, hj => exact congrFun (hSk 7 rfl) j
  | 8, _, hj => exact congrFun (hSk 8 rfl) j
  | 9, _, hj => exact congrFun (hSk 9 rfl) j
  | 10, _, hj => exact rfl
  | 11, _, hj => exact rfl
  | 12, _, hj => exact rfl
  | 13, _, hj => exact rfl
  | 14, _, hj => exact rfl
  | 15, _, hj => exact rfl
  | 16, _, hj => exact (if_pos hj).trans (congrFun (hXk 25 rfl) j)
  | 17, _, hj => exact (if_pos hj).trans (congrFun (hXk 26 rfl) j)
  | 18, _, hj => exact (if_pos hj).trans (congrFun (hXk 27 rfl) j)
  | 19, _, hj => exact (if_pos hj).trans (congrFun (hXk 28 rfl) j)
  | 20, _, hj => exact (if_pos hj).trans (congrFun (hXk 29 rfl) j)
  | 21, _, hj => exact (if_pos hj).trans (congrFun (hXk 30 rfl) j)
  | 22, _, hj => exact (if_pos hj).trans (congrFun (hXk 31 rfl) j)
  | 23, _, hj => exact (if_pos hj).trans (congrFun (hXk 32 rfl) j)
  | 24, _, hj => exact (if_pos hj).trans (congrFun (hXk 33 rfl) j)
  | 25, _, hj => exact rfl
  | 26, _, hj => exact rfl
  | 27, _, hj => exact rfl
  | 28, _, hj => exact rfl
  | 29, _, hj => exact rfl
  | 30, _, hj => exact rfl
  | 31, _, hj => exact rfl
  | 32, _, hj => exact rfl
  | 33, _, hj => exact rfl
  | k + 34, hk, _ => exact absurd hk (by omega)
theorem Hd.toE {a : Adr} {I : Nat → Prop} (hd : Hd nF a I) : Hd nE a IE := ⟨fun _ h => h, fun _ h => sh_lt h, fun i j hi hj e => hd.2.2 i j (hd.1 _ (sEF _ hi)) (hd.1 _ (sEF _ hj)) e⟩
theorem XX.nar {A B : Nat → Prop} {s : State} (h : XX A s) (hAB : ∀ q, B q → A q) : XX B s := ⟨h.1, h.2.1, vx_Zq.narrow h.2.2.1 hAB, vx_Zq.narrow h.2.2.2 hAB⟩
theorem AF.toE {a : Adr} {I : Nat → Prop} {sz q : Nat} (hd : Hd nF a I) (h : AF a IE sz q) : AF a I sz q := h.elim (fun h => Or.inl (AI.toE hd h)) Or.inr
theorem vaS_mono {A B : Nat → Prop} {H0 H : Heap} {locs : List Loc} (h : va_S A H0 H locs) (hAB : ∀ q, A q → B q) : va_S B H0 H locs := ⟨h.1, fun q h1 h2 => h.2.1 q h1 fun h3 => h2 (hAB q h3), fun x hx => hAB _ (h.2.2 x hx)⟩
section NEEDE
variable {p : Program} {l : Launch} {e : Env} {R : Room} {s : State} {m : MethodId} {args : Array Value} {below : List Frame} {meth : Method} {c : Code} {H : Heap} {locs : List Loc} {cells slots mc ms : Nat} {Q : State → Prop}
variable {cc : ByteArray} {nL : Nat} {own : String} {pc : Nat} {ls : Array Slot} {rest : List Value} {D : va_G} {cA : ClassId} {a : Adr} {S X : Mem} {I : Nat → Prop} {H0 : Heap} {A0 : Nat → Prop} {sz : Nat}
theorem goXVE {st : List Value} {post : Mem → Mem → Prop} {px px' : String → Mem → Mem → Prop} {a0 : Array Value} {Qc : Array Value → State → Outcome → State → Prop} {mc1 ms1 : Nat} (hr : vx_Run p l e R s m args below meth c H locs cells slots mc1 ms1 (F0 m pc ls st) rest (QxV D cA a IE H.size post a0) (XxC D cA a IE H.size px) (AF a IE H.size)) (hd : Hd nF a I) (hPI : ∀ (S1 X1 : Mem) (H1 : Heap) (locs1 : List Loc), WP D cA a S1 X1 IE H1 → va_S (AF a IE sz) s.heap H1 locs1 → WP D cA a S1 X1 I H1) (hS : va_S (AF a IE sz) s.heap H locs) (h0 : s.heap.size = sz) (hlk : meth.locks = false) (hex : ∀ x ∈ c.exceptionTable.toList, False) (hpx : ∀ E S1 X1, px E S1 X1 → px' E S1 X1) (hc : cells + mc1 ≤ mc) (hs : slots + ms1 ≤ ms)
    (kk : ∀ (S1 X1 : Mem) (H1 : Heap) (locs1 : List Loc), post S1 X1 → WP D cA a S1 X1 IE H1 → va_S (AF a IE sz) s.heap H1 locs1 → W p l e R s m args below meth c H1 locs1 (cells + mc1) (slots + ms1) (vx_MQ below Qc (XxC D cA a I sz px') args s mc ms (AF a I sz)) (F0 m (pc + 3) ls rest)) :
    W p l e R s m args below meth c H locs cells slots (vx_MQ below Qc (XxC D cA a I sz px') args s mc ms (AF a I sz)) (F0 m pc ls st) := by
  have hAB := AF.up hS h0
  refine vx_callv hr hS (fun q _ h => hAB q h) hAB (fun q _ h => hAB q h) (fun E ce q9 u t H1 locs1 ht _ _ hB h1 h2 hS1 hce hcv hcl => ?_) (fun u t H1 locs1 ht _ hp hB _ _ hS1 => kk u.1 u.2 H1 locs1 hp (by rw [← ht]; exact hB) hS1)
  have hM := vaS_mono hS1 (fun q h => AF.toE hd h)
  refine vx_out (fun x h => (hex x h).elim) hlk hce hcv hcl (fun t' ht' _ => ⟨u, trivial, ⟨hpx _ _ _ hB.1, by rw [ht']; exact hPI _ _ _ _ (by rw [← ht]; exact hB.2) hS1⟩, ?_⟩) hM.2.2 hc hs
  exact ⟨by rw [ht']; exact hM.1, fun q h3 h4 => by rw [ht']; exact hM.2.1 q h3 h4⟩
theorem kE_X8_needIndex {px' : String → Mem → Mem → Prop} {Qc : Array Value → State → Outcome → State → Prop} {b : Bool} (hfl : l.stackTraces = false) (C0 : CallFix p m c cc nL s args GW own) (hlk : meth.locks = false) (hex : ∀ x ∈ c.exceptionTable.toList, False) (h0 : s.heap.size = sz) (hK : KK D cA s) (hX : XX (AF a IE sz) s) (hd0 : Hd nF a I) (hPI : ∀ (S1 X1 : Mem) (H1 : Heap) (locs1 : List Loc), WP D cA a S1 X1 IE H1 → va_S (AF a IE sz) s.heap H1 locs1 → WP D cA a S1 X1 I H1) (hP : WP D cA a S X IE H) (hS : va_S (AF a IE sz) s.heap H locs) (hls : ls.size = nL) {idx : Nat} (hlink : Cond.methodLink own idx yX8_needIndex ∈ GW) (hR : 7 ≤ R.frames ∧ 102 ≤ R.locals) (hf : cells + 1 ≤ R.cells ∧ slots + 6 ≤ R.slots) (hc : cells + 1 ≤ mc) (hs : slots + 6 ≤ ms) (hrest : (rest.map fun v => v.category).sum ≤ 8) (hdg : decode cc pc = .ok (.invokestatic idx, 3)) (hpx : b = false → px' xI S X)
    (kk : b = true → ∀ (H1 : Heap) (locs1 : List Loc), WP D cA a S X IE H1 → va_S (AF a IE sz) s.heap H1 locs1 → W p l e R s m args below meth c H1 locs1 (cells + 1) (slots + 6) (vx_MQ below Qc (XxC D cA a I sz px') args s mc ms (AF a I sz)) (F0 m (pc + 3) ls rest)) :
    W p l e R s m args below meth c H locs cells slots (vx_MQ below Qc (XxC D cA a I sz px') args s mc ms (AF a I sz)) (F0 m pc ls (.int (bI b) :: rest)) :=
  goXVE (xrS (n := 1) (c_X8_needIndex l hfl D cA a S X IE H.size b) C0 hlink sm_X8_needIndex in_X8 co_X8_needIndex (by decide) hR hK hX hP hS (AF.up hS h0) rfl hls hrest rfl hdg hf) hd0 hPI hS h0 hlk hex (fun E S1 X1 h => by obtain ⟨rfl, hb, rfl, rfl⟩ := h; exact hpx hb) hc hs (fun S1 X1 H1 locs1 h hP1 hS1 => by obtain ⟨hb, rfl, rfl⟩ := h; exact kk hb H1 locs1 hP1 hS1)
theorem kE_X8_needArgument {px' : String → Mem → Mem → Prop} {Qc : Array Value → State → Outcome → State → Prop} {b : Bool} (hfl : l.stackTraces = false) (C0 : CallFix p m c cc nL s args GW own) (hlk : meth.locks = false) (hex : ∀ x ∈ c.exceptionTable.toList, False) (h0 : s.heap.size = sz) (hK : KK D cA s) (hX : XX (AF a IE sz) s) (hd0 : Hd nF a I) (hPI : ∀ (S1 X1 : Mem) (H1 : Heap) (locs1 : List Loc), WP D cA a S1 X1 IE H1 → va_S (AF a IE sz) s.heap H1 locs1 → WP D cA a S1 X1 I H1) (hP : WP D cA a S X IE H) (hS : va_S (AF a IE sz) s.heap H locs) (hls : ls.size = nL) {idx : Nat} (hlink : Cond.methodLink own idx yX8_needArgument ∈ GW) (hR : 7 ≤ R.frames ∧ 102 ≤ R.locals) (hf : cells + 1 ≤ R.cells ∧ slots + 6 ≤ R.slots) (hc : cells + 1 ≤ mc) (hs : slots + 6 ≤ ms) (hrest : (rest.map fun v => v.category).sum ≤ 8) (hdg : decode cc pc = .ok (.invokestatic idx, 3)) (hpx : b = false → px' xA S X)
    (kk : b = true → ∀ (H1 : Heap) (locs1 : List Loc), WP D cA a S X IE H1 → va_S (AF a IE sz) s.heap H1 locs1 → W p l e R s m args below meth c H1 locs1 (cells + 1) (slots + 6) (vx_MQ below Qc (XxC D cA a I sz px') args s mc ms (AF a I sz)) (F0 m (pc + 3) ls rest)) :
    W p l e R s m args below meth c H locs cells slots (vx_MQ below Qc (XxC D cA a I sz px') args s mc ms (AF a I sz)) (F0 m pc ls (.int (bI b) :: rest)) :=
  goXVE (xrS (n := 1) (c_X8_needArgument l hfl D cA a S X IE H.size b) C0 hlink sm_X8_needArgument in_X8 co_X8_needArgument (by decide) hR hK hX hP hS (AF.up hS h0) rfl hls hrest rfl hdg hf) hd0 hPI hS h0 hlk hex (fun E S1 X1 h => by obtain ⟨rfl, hb, rfl, rfl⟩ := h; exact hpx hb) hc hs (fun S1 X1 H1 locs1 h hP1 hS1 => by obtain ⟨hb, rfl, rfl⟩ := h; exact kk hb H1 locs1 hP1 hS1)
theorem g89E {x y : Nat} (h89 : ∀ (H : Heap) (locs : List Loc), va_S A0 H0 H locs → va_at D vwCl (a 89, c89 a x y) H) (C0 : CallFix p m c cc nL s args GW own) (hK : KK D cA s) (hS : va_S A0 H0 H locs) {v : Value} (j : Nat) (hj : j < 7) {idx : Nat} (hlink : Cond.fieldLink own idx (TX8 j).1 (TX8 j).2.1 (TX8 j).2.2.1 ∈ GW) (hv : [.ref (a 80), .ref (a 81), .ref (a 82), .ref (a 83), .ref (a 84), .ref (a x), Value.ref (a y)][j]? = some v) (hdg : decode cc pc = .ok (.getfield idx, 3)) (kk : W p l e R s m args below meth c H locs cells slots Q (F0 m (pc + 3) ls (v :: rest))) : W p l e R s m args below meth c H locs cells slots Q (F0 m pc ls (.ref (a 89) :: rest)) :=
  gf C0 hK (h89 H locs hS) us_X8 rfl j hj hlink hv hdg kk
end NEEDE
theorem ahd_no {k : Nat} (h : k < 16) : ¬ ahdP k = true := by
  have := (by decide : ∀ k, k < 16 → ¬ ahdP k = true)
  exact this k h
theorem FX_sw {S X : Mem} : FX (swX S X) = FX X := rfl
theorem CacheOk.cg {S X X1 : Mem} {P : Nat} (h : CacheOk S X P) (hX : ∀ k, 13 ≤ k → k < 16 → X1 k = X k) : CacheOk S X1 P := by
  unfold CacheOk at h ⊢
  rw [hX 13 (by decide) (by decide), hX 14 (by decide) (by decide)]
  exact h
theorem sw_rows {S X S1 X1 : Mem} (hX : ∀ k, k ≠ 13 → k ≠ 14 → k ≠ 15 → X1 k = swX S X k) (hs : Sta S S1) : ∀ k, k < 34 → ∀ j, j < ln k → me (swS S1 X1) (swX S1 X1) k j = me S (fun k9 => swX S1 X1 k9) k j := by
  intro k hk j _
  match k, hk with
  | 0, _ => exact congrFun (hs 0 (by omega)) j
  | 1, _ => exact congrFun (hs 1 (by omega)) j
  | 2, _ => exact congrFun (hs 2 (by omega)) j
  | 3, _ => exact congrFun (hs 3 (by omega)) j
  | 4, _ => exact congrFun (hs 4 (by omega)) j
  | 5, _ => exact congrFun (hs 5 (by omega)) j
  | 6, _ => exact congrFun (hs 6 (by omega)) j
  | 7, _ => exact congrFun (hs 7 (by omega)) j
  | 8, _ => exact congrFun (hs 8 (by omega)) j
  | 9, _ => exact congrFun (hs 9 (by omega)) j
  | 10, _ => exact rfl
  | 11, _ => exact rfl
  | 12, _ => exact rfl
  | 13, _ => exact rfl
  | 14, _ => exact rfl
  | 15, _ => exact rfl
  | 16, _ => exact congrFun (hX 25 (by decide) (by decide) (by decide)) j
  | 17, _ => exact congrFun (hX 26 (by decide) (by decide) (by decide)) j
  | 18, _ => exact congrFun (hX 27 (by decide) (by decide) (by decide)) j
  | 19, _ => exact congrFun (hX 28 (by decide) (by decide) (by decide)) j
  | 20, _ => exact congrFun (hX 29 (by decide) (by decide) (by decide)) j
  | 21, _ => exact congrFun (hX 30 (by decide) (by decide) (by decide)) j
  | 22, _ => exact congrFun (hX 31 (by decide) (by decide) (by decide)) j
  | 23, _ => exact congrFun (hX 32 (by decide) (by decide) (by decide)) j
  | 24, _ => exact congrFun (hX 33 (by decide) (by decide) (by decide)) j
  | 25, _ => exact rfl
  | 26, _ => exact rfl
  | 27, _ => exact rfl
  | 28, _ => exact rfl
  | 29, _ => exact rfl
  | 30, _ => exact rfl
  | 31, _ => exact rfl
  | 32, _ => exact rfl
  | 33, _ => exact rfl
  | k + 34, hk => exact absurd hk (by omega)
section CLS
variable {p : Program} {l : Launch} {e : Env} {s : State} {m : MethodId} {args : Array Value} {below : List Frame} {meth : Method} {c : Code} {H : Heap} {locs : List Loc} {Q : State → Prop}
variable {ls : Array Slot} {D : va_G} {cA : ClassId} {a : Adr} {S X S0 : Mem} {I : Nat → Prop} {H0 : Heap} {A0 : Nat → Prop}
set_option maxHeartbeats 4000000 in
set_option maxRecDepth 100000 in
theorem in_X8_aground (C0 : CallFix p m c cX8_aground 4 s args GW RX8) (hK : KK D cA s) (hd : Hd nE a I) (hP : WP D cA a S X I H) (hS : va_S A0 H0 H locs) (hA : ∀ q, AI a I q → A0 q) (h89 : ∀ (H : Heap) (locs : List Loc), va_S A0 H0 H locs → va_at D vwCl (a 89, c89 a 88 86) H) (hSk : ∀ k, nowP k = false → S k = S0 k) (hXk : ∀ k, ahdP k = true → X k = S0 (sh k)) {P L T h : Nat} {u N : Nat} (hu : u < P) (hN : N ≤ 100) (hnP : S0 82 0 = nI P) (hnT : S0 85 0 = nI T) (hT30 : T ≤ 30) (hnH : S0 86 0 = nI h) (hhp : h + 100 < 2 ^ 31) (hC : CacheOk S0 X P) (hTW : TW S0 P L) (hl : lv_has ls 4 [(0, .ref (a 89)), (1, .int (nI u)), (2, .int (nI N))]) (kk : ∀ (r : Int32) (k pc : Nat) (X1 : Mem) (H1 : Heap) (locs1 : List Loc) (ls1 : Array Slot), decode cX8_aground pc = .ok (.ireturn, 1) → r = agS (FX X) S0 P T h u N → WP D cA a (hrsM (FX X) S0 P T h k).1 X1 I H1 → CacheOk S0 X1 P → (∀ k, k ≠ 13 → k ≠ 14 → k ≠ 15 → X1 k = X k) → va_S A0 H0 H1 locs1 → W p l e { frames := 7, cells := 2, slots := 12, locals := 143 } s m args below meth c H1 locs1 (0 + 1 + 1) (0 + 6 + 6) Q (F0 m pc ls1 [.int r])) : W p l e { frames := 7, cells := 2, slots := 12, locals := 143 } s m args below meth c H locs (0 + 1 + 1) (0 + 6 + 6) Q (F0 m 24 ls []) := by
  obtain ⟨hLnk, hP6, hL8, h17, h16, h8, h3, h2⟩ := id hTW
  refine lv_aload_n C0.1 C0.2.1 dX8_aground_24 rfl (lv_at hl 0 rfl) ?_
  refine g89E h89 C0 hK hS 6 (by decide) fl_X8_57 rfl dX8_aground_25 ?_
  refine lv_aload_n C0.1 C0.2.1 dX8_aground_28 rfl (lv_at hl 0 rfl) ?_
  refine g89E h89 C0 hK hS 5 (by decide) fl_X8_53 rfl dX8_aground_29 ?_
  refine k_X6_takeOver hd sId C0 hK hP  hS hA hl.1 ml_X8_273 ⟨Nat.le_of_ble_eq_true rfl, Nat.le_of_ble_eq_true rfl⟩ ⟨Nat.le_of_ble_eq_true rfl, Nat.le_of_ble_eq_true rfl⟩ (Nat.le_of_ble_eq_true rfl) dX8_aground_32 (fun H locs hP hS => ?_)
  have hP : WP D cA a (up (up (up (up (up (up (up (up (up (up (up S 86 (fun _ => X 88 0)) 16 (tk (S 16) (X 25) 6)) 17 (tk (S 17) (X 26) 6)) 18 (tk (S 18) (X 27) 6)) 19 (tk (S 19) (X 28) 6)) 85 (fun _ => X 87 0)) 20 (tk (S 20) (X 29) 30)) 21 (tk (S 21) (X 30) 30)) 22 (tk (S 22) (X 31) 30)) 23 (tk (S 23) (X 32) 30)) 24 (tk (S 24) (X 33) 30)) X I H := hP
  have hP := take_cg hP hSk hXk
  have hP : WP D cA a (hrsM (FX X) S0 P T h 0).1 X I H := hP
  refine lv_iconst (v := 0) C0.1 C0.2.1 dX8_aground_35 (by decide) ?_
  refine lv_istore_n (lv' := [(3, .int 0), (0, .ref (a 89)), (1, .int (nI u)), (2, .int (nI N))]) C0.1 C0.2.1 dX8_aground_36 rfl hl (by decide) rfl (fun ls hl => ?_)
  have loop37 : ∀ (n : Nat) (i : Nat) (Xv : Mem), (i ≤ N + 1) → (N + 2 ≤ i + n) → (CacheOk S0 Xv P) → (∀ k, k ≠ 13 → k ≠ 14 → k ≠ 15 → Xv k = X k) → (agS (FX X) S0 P T h u N = fndF (fun k => agrS (hrsM (FX X) S0 P T h k).1 u (h + k)) i (N + 1 - i)) → ∀ (H : Heap) (locs : List Loc) (ls : Array Slot), WP D cA a (hrsM (FX X) S0 P T h i).1 Xv I H → va_S A0 H0 H locs → lv_has ls 4 [(3, .int (nI i)), (2, .int (nI N)), (1, .int (nI u)), (0, .ref (a 89))] → W p l e { frames := 7, cells := 2, slots := 12, locals := 143 } s m args below meth c H locs (0 + 1 + 1) (0 + 6 + 6) Q (F0 m 37 ls []) := by
    intro n
    induction n with
    | zero => intro i Xv hi hf hCz hXf hfd; exfalso; omega
    | succ n ih37 =>
      intro i Xv hi hf hCz hXf hfd H locs ls hP hS hl
      refine lv_iload_n C0.1 C0.2.1 dX8_aground_37 rfl (lv_at hl 0 rfl) ?_
      refine lv_iload_n C0.1 C0.2.1 dX8_aground_38 rfl (lv_at hl 1 rfl) ?_
      refine lv_icmp_gt (tgt := 69) C0.1 C0.2.1 dX8_aground_39 (by decide) (fun c_39 => ?_) (fun c_39 => ?_)
      · have hge : N < i := (nI_ltI (by omega) (by omega)).mp c_39
        refine lv_iconst (v := (-1)) C0.1 C0.2.1 dX8_aground_69 (by decide) ?_
        exact kk _ i 70 Xv H locs ls dX8_aground_70 (by rw [hfd, show N + 1 - i = 0 by omega]; rfl) hP hCz hXf hS
      · have hlt : i ≤ N := Nat.not_lt.mp fun q => c_39 (nI_lt q (by omega))
        refine lv_aload_n C0.1 C0.2.1 dX8_aground_42 rfl (lv_at hl 3 rfl) ?_
        refine g89E h89 C0 hK hS 6 (by decide) fl_X8_57 rfl dX8_aground_43 ?_
        refine lv_iload_n C0.1 C0.2.1 dX8_aground_46 rfl (lv_at hl 2 rfl) ?_
        refine k_X6_isAground hd sTE C0 hK hP (by omega) (hrsM_86 hnH i) (by omega) (v := bI (!flt (hrsM (FX X) S0 P T h i).1 (nI u) (((hrsM (FX X) S0 P T h i).1 16) u) (lvS (hrsM (FX X) S0 P T h i).1 (h + i)))) rfl hS hA hl.1 ml_X8_173 ⟨Nat.le_of_ble_eq_true rfl, Nat.le_of_ble_eq_true rfl⟩ ⟨Nat.le_of_ble_eq_true rfl, Nat.le_of_ble_eq_true rfl⟩ (Nat.le_of_ble_eq_true rfl) dX8_aground_47 (fun H locs hP hS => ?_)
        refine lv_if_eq (tgt := 55) C0.1 C0.2.1 dX8_aground_50 (by decide) (fun c_50 => ?_) (fun c_50 => ?_)
        · have c_50 := bI_eq c_50
          refine lv_aload_n C0.1 C0.2.1 dX8_aground_55 rfl (lv_at hl 3 rfl) ?_
          refine g89E h89 C0 hK hS 6 (by decide) fl_X8_57 rfl dX8_aground_56 ?_
          refine k_X6_goOn hd sTE C0 hK hP (P := P) (L := L) (T := T) (h := h + i) ((congrFun (hrsM_sta (FX X) S0 P T h i 82 (by omega)) 0).trans hnP) ((congrFun (hrsM_sta (FX X) S0 P T h i 85 (by omega)) 0).trans hnT) hT30 (hrsM_86 hnH i) (by omega) (hCz.sta (hrsM_sta (FX X) S0 P T h i)) (hrsM_TW hTW i) hS hA hl.1 ml_X8_222 ⟨Nat.le_of_ble_eq_true rfl, Nat.le_of_ble_eq_true rfl⟩ ⟨Nat.le_of_ble_eq_true rfl, Nat.le_of_ble_eq_true rfl⟩ (Nat.le_of_ble_eq_true rfl) dX8_aground_59 (fun v_4 S_2 X_3 H locs hx_1 hP hS => ?_)
          obtain ⟨hrv, hs1, hCn, hXn⟩ := hx_1
          rw [FX_eq hXf] at hrv hs1
          rw [hs1] at hP
          have hP : WP D cA a (hrsM (FX X) S0 P T h (i + 1)).1 X_3 I H := hP
          refine lv_pop C0.1 C0.2.1 dX8_aground_62 rfl ?_
          refine lv_iinc (v := nI (i + 1)) (lv' := [(3, .int (nI (i + 1))), (2, .int (nI N)), (1, .int (nI u)), (0, .ref (a 89))]) C0.1 C0.2.1 dX8_aground_63 hl (k := 0) rfl (nI_1 _) (by decide) rfl (fun ls hl => ?_)
          refine lv_goto (tgt := 37) C0.1 C0.2.1 dX8_aground_66 (by decide) ?_
          exact ih37 (i + 1) X_3 (by omega) (by omega) (hCn.sta (fun k hk => (hrsM_sta (FX X) S0 P T h i k hk).symm)) (fun k a1 a2 a3 => (hXn k a1 a2 a3).trans (hXf k a1 a2 a3)) (by rw [hfd, show N + 1 - i = N + 1 - (i + 1) + 1 by omega, fndF_no (P := (fun k => agrS (hrsM (FX X) S0 P T h k).1 u (h + k))) (i := i) (show ¬ agrS (hrsM (FX X) S0 P T h i).1 u (h + i) = true by unfold agrS; rw [c_50]; exact Bool.false_ne_true)]) _ _ _ hP hS (lv_sub hl [0, 1, 2, 3] rfl)
        · have c_50 := bI_ne c_50
          refine lv_iload_n C0.1 C0.2.1 dX8_aground_53 rfl (lv_at hl 0 rfl) ?_
          exact kk _ i 54 Xv H locs ls dX8_aground_54 (by rw [hfd, show N + 1 - i = N + 1 - (i + 1) + 1 by omega, fndF_yes (P := (fun k => agrS (hrsM (FX X) S0 P T h k).1 u (h + k))) (i := i) (show agrS (hrsM (FX X) S0 P T h i).1 u (h + i) = true by unfold agrS; exact c_50)]) hP hCz hXf hS
  exact loop37 (N + 2) 0 X (by omega) (by omega) hC (fun _ _ _ _ => rfl) rfl _ _ _ hP hS (lv_sub hl [0, 3, 2, 1] rfl)
set_option maxHeartbeats 4000000 in
set_option maxRecDepth 100000 in
theorem c_X8_aground (l : Launch) (hfl : l.stackTraces = false) (D : va_G) (cA : ClassId) (a : Adr) (S X : Mem) (I : Nat → Prop) (sz : Nat) (hd0 : Hd nF a I) (x : Int32) (z : Int32) {P L T h : Nat} (hnP : S 82 0 = nI P) (hnT : S 85 0 = nI T) (hT30 : T ≤ 30) (hnH : S 86 0 = nI h) (hhp : h + 100 < 2 ^ 31) (hC : CacheOk S X P) (hTW : TW S P L) : MXI l yX8_aground cX8_aground 4 (some .int) 7 143 2 12 D cA a S X I sz [.ref (a 89), .int x, .int z] (fun r S1 X1 => (oneB x (nI P)) = true ∧ (inB z 1 100) = true ∧ (true) = true ∧ r = agS (FX X) S P T h (nv x) (nv z) ∧ S1 = S ∧ CacheOk S X1 P ∧ ∀ k, k < 13 → X1 k = X k) (pxB (oneB x (nI P)) (inB z 1 100) (true) S X) := by
  refine mGoX (by decide) (Nat.le_of_ble_eq_true rfl) ?_
  intro p e s m args below meth c ls C0 hr hlk hex h0 hK hX hP hS hl
  have hd : Hd nE a IE := hd0.toE
  have hX : XX (AF a IE sz) s := hX.nar fun q h => AF.toE hd0 h
  have hPI : ∀ (S1 X1 : Mem) (H1 : Heap) (locs1 : List Loc), WP D cA a S1 X1 IE H1 → va_S (AF a IE sz) s.heap H1 locs1 → WP D cA a S1 X1 I H1 := fun S1 X1 H1 locs1 h1 h2 => WP.fromE hd0 hP h1 fun q hq hn => h2.2.1 q hq fun h9 => h9.elim hn fun h8 => absurd (h0 ▸ hq) (Nat.not_lt.mpr h8)
  have h89 : ∀ (H : Heap) (locs : List Loc), va_S (AF a IE sz) s.heap H locs → va_at D vwCl (a 89, c89 a 86 88) H := fun H1 locs1 h2 => by
    have h9 := hP 89 (hd0.1 89 (by decide))
    refine va_at.kept h9 (h2.2.1 _ h9.lt fun h8 => h8.elim (fun ⟨j, hj, e⟩ => ?_) fun h7 => absurd h9.lt (Nat.not_lt.mpr (h0 ▸ h7)))
    have := hd0.2.2 j 89 (hd0.1 j (sEF j hj)) (hd0.1 89 (by decide)) e
    subst this
    exact absurd hj (by unfold IE; decide)
  obtain ⟨H, hHe⟩ : ∃ H, H = s.heap := ⟨_, rfl⟩
  obtain ⟨locs, hlo⟩ : ∃ L : List Loc, L = [] := ⟨_, rfl⟩
  have hP : WP D cA a S X IE H := hHe ▸ hP.toE hd0
  have hS : va_S (AF a IE sz) s.heap H locs := by rw [hHe, hlo]; exact va_S.rf
  rw [← hHe, ← hlo]
  have hA : ∀ q, AI a IE q → AF a IE sz q := fun _ h => Or.inl h
  have hP6 := hTW.2.1
  refine lv_iload_n C0.1 C0.2.1 dX8_aground_0 rfl (lv_at hl 1 rfl) ?_
  refine lv_aload_n C0.1 C0.2.1 dX8_aground_1 rfl (lv_at hl 0 rfl) ?_
  refine g89E h89 C0 hK hS 2 (by decide) fl_X8_26 rfl dX8_aground_2 ?_
  refine g82_number (v := nI P) C0 hK hP (hd.1 _ (by decide)) fl_X8_120 hnP dX8_aground_5 ?_
  refine k_X8_isOneOf hd s0 C0 hK hP  (v := bI (decide (0 ≤ x) && decide (x < (nI P)))) rfl hS hA hl.1 ml_X8_91 ⟨Nat.le_of_ble_eq_true rfl, Nat.le_of_ble_eq_true rfl⟩ ⟨Nat.le_of_ble_eq_true rfl, Nat.le_of_ble_eq_true rfl⟩ (Nat.le_of_ble_eq_true rfl) dX8_aground_8 (fun H locs hP hS => ?_)
  refine kE_X8_needIndex (b := (decide (0 ≤ x) && decide (x < (nI P)))) hfl C0 hlk hex h0 hK hX hd0 hPI hP hS hl.1 ml_X8_64 ⟨Nat.le_of_ble_eq_true rfl, Nat.le_of_ble_eq_true rfl⟩ ⟨Nat.le_of_ble_eq_true rfl, Nat.le_of_ble_eq_true rfl⟩ (Nat.le_of_ble_eq_true rfl) (Nat.le_of_ble_eq_true rfl) (Nat.le_of_ble_eq_true rfl) dX8_aground_11 (fun hb => pxB_I (by simp only [Bool.and_true, Bool.true_and, Bool.and_false, Bool.false_and, Bool.not_true, Bool.not_false, hb])) (fun hb_11 H locs hP hS => ?_)
  refine lv_iload_n C0.1 C0.2.1 dX8_aground_14 rfl (lv_at hl 2 rfl) ?_
  refine lv_iconst (v := 1) C0.1 C0.2.1 dX8_aground_15 (by decide) ?_
  refine lv_bipush (v := 100) C0.1 C0.2.1 dX8_aground_16 (by decide) ?_
  refine k_X8_within hd s0 C0 hK hP  (v := bI (decide (1 ≤ z) && decide (z ≤ 100))) rfl hS hA hl.1 ml_X8_68 ⟨Nat.le_of_ble_eq_true rfl, Nat.le_of_ble_eq_true rfl⟩ ⟨Nat.le_of_ble_eq_true rfl, Nat.le_of_ble_eq_true rfl⟩ (Nat.le_of_ble_eq_true rfl) dX8_aground_18 (fun H locs hP hS => ?_)
  refine kE_X8_needArgument (b := (decide (1 ≤ z) && decide (z ≤ 100))) hfl C0 hlk hex h0 hK hX hd0 hPI hP hS hl.1 ml_X8_72 ⟨Nat.le_of_ble_eq_true rfl, Nat.le_of_ble_eq_true rfl⟩ ⟨Nat.le_of_ble_eq_true rfl, Nat.le_of_ble_eq_true rfl⟩ (Nat.le_of_ble_eq_true rfl) (Nat.le_of_ble_eq_true rfl) (Nat.le_of_ble_eq_true rfl) dX8_aground_21 (fun hb => pxB_A (by simp only [hb_11, Bool.and_true, Bool.true_and, Bool.and_false, Bool.false_and, Bool.not_true, Bool.not_false, hb]) (by simp only [hb_11, Bool.and_true, Bool.true_and, Bool.and_false, Bool.false_and, Bool.not_true, Bool.not_false, hb])) (fun hb_21 H locs hP hS => ?_)
  obtain ⟨u, hu, hxe⟩ := one_nat (n := P) (by omega) (show oneB x (nI P) = true from hb_11)
  subst hxe
  obtain ⟨N, hN, hze⟩ := in_nat (m := 100) (by decide) (show inB z 0 (nI 100) = true from in_low hb_21)
  subst hze
  refine in_X8_aground (a := swA a) (S := swS S X) (X := swX S X) (S0 := S) (A0 := AF a IE sz) (H0 := s.heap) C0 hK hd0.sw hP.sw hS (fun q h => Or.inl (AI.sw h)) h89 (fun k hk => if_neg (by rw [hk]; exact Bool.false_ne_true)) (fun k hk => if_pos hk) hu hN hnP hnT hT30 hnH hhp (hC.cg fun k h1 h2 => if_neg (ahd_no h2)) hTW (lv_sub hl [0, 1, 2] rfl) ?_
  intro r k pc X1 H1 locs1 ls1 hdec hr1 hP1 hC1 hX1 hS1
  have hP2 : WP D cA a S (fun k9 => swX (hrsM (FX (swX S X)) S P T h k).1 X1 k9) IE H1 := hP1.unsw.cg (sw_rows hX1 (hrsM_sta _ S P T h k)) (congrFun (hrsM_sta _ S P T h k 81 (by omega)) 0) (congrFun (hrsM_sta _ S P T h k 82 (by omega)) 0) (congrFun (hX1 87 (by decide) (by decide) (by decide)) 0) (congrFun (hX1 88 (by decide) (by decide) (by decide)) 0) rfl rfl
  have hX2 : ∀ k9, k9 < 16 → swX (hrsM (FX (swX S X)) S P T h k).1 X1 k9 = X1 k9 := fun k9 h9 => if_neg (ahd_no h9)
  exact retXI C0 hr hlk (hPI _ _ _ _ hP2 hS1) (vaS_mono hS1 fun q h => AF.toE hd0 h) (Nat.le_of_ble_eq_true rfl) (Nat.le_of_ble_eq_true rfl) ⟨by simp only [hb_11, hb_21, Bool.and_true, Bool.true_and, Bool.and_false, Bool.false_and, Bool.not_true, Bool.not_false], by simp only [hb_11, hb_21, Bool.and_true, Bool.true_and, Bool.and_false, Bool.false_and, Bool.not_true, Bool.not_false], by simp only [hb_11, hb_21, Bool.and_true, Bool.true_and, Bool.and_false, Bool.false_and, Bool.not_true, Bool.not_false], hr1.trans (by rw [FX_sw]; rw [nv_nI (by omega), nv_nI (by omega)]), rfl, hC1.cg (fun k9 h1 h2 => hX2 k9 h2), fun k9 h9 => (hX2 k9 (by omega)).trans ((hX1 k9 (by omega) (by omega) (by omega)).trans (if_neg (ahd_no (by omega))))⟩ hdec
set_option maxHeartbeats 4000000 in
set_option maxRecDepth 100000 in
theorem in_X8_arrives (C0 : CallFix p m c cX8_arrives 3 s args GW RX8) (hK : KK D cA s) (hd : Hd nE a I) (hP : WP D cA a S X I H) (hS : va_S A0 H0 H locs) (hA : ∀ q, AI a I q → A0 q) (h89 : ∀ (H : Heap) (locs : List Loc), va_S A0 H0 H locs → va_at D vwCl (a 89, c89 a 88 86) H) (hSk : ∀ k, nowP k = false → S k = S0 k) (hXk : ∀ k, ahdP k = true → X k = S0 (sh k)) {P L T h : Nat} {t : Nat} (ht : t < T) (hnP : S0 82 0 = nI P) (hnT : S0 85 0 = nI T) (hT30 : T ≤ 30) (hnH : S0 86 0 = nI h) (hhp : h + 400 < 2 ^ 31) (hC : CacheOk S0 X P) (hTW : TW S0 P L) (hl : lv_has ls 3 [(0, .ref (a 89)), (1, .int (nI t))]) (kk : ∀ (r : Int32) (k pc : Nat) (X1 : Mem) (H1 : Heap) (locs1 : List Loc) (ls1 : Array Slot), decode cX8_arrives pc = .ok (.ireturn, 1) → r = arS (FX X) S0 P T h t → WP D cA a (hrsM (FX X) S0 P T h k).1 X1 I H1 → CacheOk S0 X1 P → (∀ k, k ≠ 13 → k ≠ 14 → k ≠ 15 → X1 k = X k) → va_S A0 H0 H1 locs1 → W p l e { frames := 7, cells := 1, slots := 6, locals := 143 } s m args below meth c H1 locs1 (0 + 1) (0 + 6) Q (F0 m pc ls1 [.int r])) : W p l e { frames := 7, cells := 1, slots := 6, locals := 143 } s m args below meth c H locs (0 + 1) (0 + 6) Q (F0 m 17 ls []) := by
  obtain ⟨hLnk, hP6, hL8, h17, h16, h8, h3, h2⟩ := id hTW
  refine lv_aload_n C0.1 C0.2.1 dX8_arrives_17 rfl (lv_at hl 0 rfl) ?_
  refine g89E h89 C0 hK hS 6 (by decide) fl_X8_57 rfl dX8_arrives_18 ?_
  refine lv_aload_n C0.1 C0.2.1 dX8_arrives_21 rfl (lv_at hl 0 rfl) ?_
  refine g89E h89 C0 hK hS 5 (by decide) fl_X8_53 rfl dX8_arrives_22 ?_
  refine k_X6_takeOver hd sId C0 hK hP  hS hA hl.1 ml_X8_273 ⟨Nat.le_of_ble_eq_true rfl, Nat.le_of_ble_eq_true rfl⟩ ⟨Nat.le_of_ble_eq_true rfl, Nat.le_of_ble_eq_true rfl⟩ (Nat.le_of_ble_eq_true rfl) dX8_arrives_25 (fun H locs hP hS => ?_)
  have hP : WP D cA a (up (up (up (up (up (up (up (up (up (up (up S 86 (fun _ => X 88 0)) 16 (tk (S 16) (X 25) 6)) 17 (tk (S 17) (X 26) 6)) 18 (tk (S 18) (X 27) 6)) 19 (tk (S 19) (X 28) 6)) 85 (fun _ => X 87 0)) 20 (tk (S 20) (X 29) 30)) 21 (tk (S 21) (X 30) 30)) 22 (tk (S 22) (X 31) 30)) 23 (tk (S 23) (X 32) 30)) 24 (tk (S 24) (X 33) 30)) X I H := hP
  have hP := take_cg hP hSk hXk
  have hP : WP D cA a (hrsM (FX X) S0 P T h 0).1 X I H := hP
  refine lv_iconst (v := 0) C0.1 C0.2.1 dX8_arrives_28 (by decide) ?_
  refine lv_istore_n (lv' := [(2, .int 0), (0, .ref (a 89)), (1, .int (nI t))]) C0.1 C0.2.1 dX8_arrives_29 rfl hl (by decide) rfl (fun ls hl => ?_)
  have loop30 : ∀ (n : Nat) (i : Nat) (Xv : Mem), (i ≤ 400) → (401 ≤ i + n) → (CacheOk S0 Xv P) → (∀ k, k ≠ 13 → k ≠ 14 → k ≠ 15 → Xv k = X k) → (arS (FX X) S0 P T h t = arF (FX X) S0 P T h t i (400 - i)) → ∀ (H : Heap) (locs : List Loc) (ls : Array Slot), WP D cA a (hrsM (FX X) S0 P T h i).1 Xv I H → va_S A0 H0 H locs → lv_has ls 3 [(2, .int (nI i)), (1, .int (nI t)), (0, .ref (a 89))] → W p l e { frames := 7, cells := 1, slots := 6, locals := 143 } s m args below meth c H locs (0 + 1) (0 + 6) Q (F0 m 30 ls []) := by
    intro n
    induction n with
    | zero => intro i Xv hi hf hCz hXf hfd; exfalso; omega
    | succ n ih30 =>
      intro i Xv hi hf hCz hXf hfd H locs ls hP hS hl
      refine lv_iload_n C0.1 C0.2.1 dX8_arrives_30 rfl (lv_at hl 0 rfl) ?_
      refine lv_sipush (v := 400) C0.1 C0.2.1 dX8_arrives_31 (by decide) ?_
      refine lv_icmp_ge (tgt := 65) C0.1 C0.2.1 dX8_arrives_34 (by decide) (fun c_34 => ?_) (fun c_34 => ?_)
      · have hge : 400 ≤ i := (nI_leI (a := 400) (by omega) (by omega)).mp c_34
        have hre : arS (FX X) S0 P T h t = (hrsM (FX X) S0 P T h i).1 24 t := hfd.trans (by rw [show 400 - i = 0 by omega]; rfl)
        refine lv_aload_n C0.1 C0.2.1 dX8_arrives_65 rfl (lv_at hl 2 rfl) ?_
        refine g89E h89 C0 hK hS 6 (by decide) fl_X8_57 rfl dX8_arrives_66 ?_
        refine g86_travellers C0 hK hP (hd.1 _ (by decide)) fl_X8_163 dX8_arrives_69 ?_
        refine g85_cameAt C0 hK hP (hd.1 _ (by decide)) fl_X8_207 dX8_arrives_72 ?_
        refine lv_iload_n C0.1 C0.2.1 dX8_arrives_75 rfl (lv_at hl 1 rfl) ?_
        refine k_X5_get (v := ((hrsM (FX X) S0 P T h i).1 24) t) 24 (by decide) hd (by decide) (by decide) C0 hK hP (rg_nI (show t < 30 by omega) (by decide)) hS hA hl.1 ml_X8_104 ⟨Nat.le_of_ble_eq_true rfl, Nat.le_of_ble_eq_true rfl⟩ ⟨Nat.le_of_ble_eq_true rfl, Nat.le_of_ble_eq_true rfl⟩ (Nat.le_of_ble_eq_true rfl) dX8_arrives_76 (fun H locs hP hS => ?_)
        exact kk _ i 79 Xv H locs ls dX8_arrives_79 hre.symm hP hCz hXf hS
      · have hlt : i < 400 := Nat.not_le.mp fun q => c_34 (show (400 : Int32) ≤ nI i from nI_le q (by omega))
        refine lv_aload_n C0.1 C0.2.1 dX8_arrives_37 rfl (lv_at hl 2 rfl) ?_
        refine g89E h89 C0 hK hS 6 (by decide) fl_X8_57 rfl dX8_arrives_38 ?_
        refine g86_travellers C0 hK hP (hd.1 _ (by decide)) fl_X8_163 dX8_arrives_41 ?_
        refine lv_iload_n C0.1 C0.2.1 dX8_arrives_44 rfl (lv_at hl 1 rfl) ?_
        refine k_X7_hasCome hd sTE C0 hK hP (by omega) (v := bI (!decide (((hrsM (FX X) S0 P T h i).1 24) t = -1))) rfl hS hA hl.1 ml_X8_201 ⟨Nat.le_of_ble_eq_true rfl, Nat.le_of_ble_eq_true rfl⟩ ⟨Nat.le_of_ble_eq_true rfl, Nat.le_of_ble_eq_true rfl⟩ (Nat.le_of_ble_eq_true rfl) dX8_arrives_45 (fun H locs hP hS => ?_)
        refine lv_if_ne (tgt := 65) C0.1 C0.2.1 dX8_arrives_48 (by decide) (fun c_48 => ?_) (fun c_48 => ?_)
        · have c_48 := bI_ne c_48
          have hre : arS (FX X) S0 P T h t = (hrsM (FX X) S0 P T h i).1 24 t := hfd.trans (arF_yes (show comS _ t = true by unfold comS; exact c_48))
          refine lv_aload_n C0.1 C0.2.1 dX8_arrives_65 rfl (lv_at hl 2 rfl) ?_
          refine g89E h89 C0 hK hS 6 (by decide) fl_X8_57 rfl dX8_arrives_66 ?_
          refine g86_travellers C0 hK hP (hd.1 _ (by decide)) fl_X8_163 dX8_arrives_69 ?_
          refine g85_cameAt C0 hK hP (hd.1 _ (by decide)) fl_X8_207 dX8_arrives_72 ?_
          refine lv_iload_n C0.1 C0.2.1 dX8_arrives_75 rfl (lv_at hl 1 rfl) ?_
          refine k_X5_get (v := ((hrsM (FX X) S0 P T h i).1 24) t) 24 (by decide) hd (by decide) (by decide) C0 hK hP (rg_nI (show t < 30 by omega) (by decide)) hS hA hl.1 ml_X8_104 ⟨Nat.le_of_ble_eq_true rfl, Nat.le_of_ble_eq_true rfl⟩ ⟨Nat.le_of_ble_eq_true rfl, Nat.le_of_ble_eq_true rfl⟩ (Nat.le_of_ble_eq_true rfl) dX8_arrives_76 (fun H locs hP hS => ?_)
          exact kk _ i 79 Xv H locs ls dX8_arrives_79 hre.symm hP hCz hXf hS
        · have c_48 := bI_eq c_48
          refine lv_aload_n C0.1 C0.2.1 dX8_arrives_51 rfl (lv_at hl 2 rfl) ?_
          refine g89E h89 C0 hK hS 6 (by decide) fl_X8_57 rfl dX8_arrives_52 ?_
          refine k_X6_goOn hd sTE C0 hK hP (P := P) (L := L) (T := T) (h := h + i) ((congrFun (hrsM_sta (FX X) S0 P T h i 82 (by omega)) 0).trans hnP) ((congrFun (hrsM_sta (FX X) S0 P T h i 85 (by omega)) 0).trans hnT) hT30 (hrsM_86 hnH i) (by omega) (hCz.sta (hrsM_sta (FX X) S0 P T h i)) (hrsM_TW hTW i) hS hA hl.1 ml_X8_222 ⟨Nat.le_of_ble_eq_true rfl, Nat.le_of_ble_eq_true rfl⟩ ⟨Nat.le_of_ble_eq_true rfl, Nat.le_of_ble_eq_true rfl⟩ (Nat.le_of_ble_eq_true rfl) dX8_arrives_55 (fun v_4 S_2 X_3 H locs hx_1 hP hS => ?_)
          obtain ⟨hrv, hs1, hCn, hXn⟩ := hx_1
          rw [FX_eq hXf] at hrv hs1
          rw [hs1] at hP
          have hP : WP D cA a (hrsM (FX X) S0 P T h (i + 1)).1 X_3 I H := hP
          refine lv_pop C0.1 C0.2.1 dX8_arrives_58 rfl ?_
          refine lv_iinc (v := nI (i + 1)) (lv' := [(2, .int (nI (i + 1))), (1, .int (nI t)), (0, .ref (a 89))]) C0.1 C0.2.1 dX8_arrives_59 hl (k := 0) rfl (nI_1 _) (by decide) rfl (fun ls hl => ?_)
          refine lv_goto (tgt := 30) C0.1 C0.2.1 dX8_arrives_62 (by decide) ?_
          exact ih30 (i + 1) X_3 (by omega) (by omega) (hCn.sta (fun k hk => (hrsM_sta (FX X) S0 P T h i k hk).symm)) (fun k a1 a2 a3 => (hXn k a1 a2 a3).trans (hXf k a1 a2 a3)) (by rw [hfd, show 400 - i = 400 - (i + 1) + 1 by omega, arF_no (show ¬ comS (hrsM (FX X) S0 P T h i).1 t = true by unfold comS; rw [c_48]; exact Bool.false_ne_true)]) _ _ _ hP hS (lv_sub hl [0, 1, 2] rfl)
  exact loop30 401 0 X (by omega) (by omega) hC (fun _ _ _ _ => rfl) rfl _ _ _ hP hS (lv_sub hl [0, 2, 1] rfl)
set_option maxHeartbeats 4000000 in
set_option maxRecDepth 100000 in
theorem c_X8_arrives (l : Launch) (hfl : l.stackTraces = false) (D : va_G) (cA : ClassId) (a : Adr) (S X : Mem) (I : Nat → Prop) (sz : Nat) (hd0 : Hd nF a I) (x : Int32) {P L T h : Nat} (hnP : S 82 0 = nI P) (hnT : S 85 0 = nI T) (hT30 : T ≤ 30) (hnH : S 86 0 = nI h) (hhp : h + 400 < 2 ^ 31) (hC : CacheOk S X P) (hTW : TW S P L) : MXI l yX8_arrives cX8_arrives 3 (some .int) 7 143 1 6 D cA a S X I sz [.ref (a 89), .int x] (fun r S1 X1 => (oneB x (nI T)) = true ∧ (true) = true ∧ (true) = true ∧ r = arS (FX X) S P T h (nv x) ∧ S1 = S ∧ CacheOk S X1 P ∧ ∀ k, k < 13 → X1 k = X k) (pxB (oneB x (nI T)) (true) (true) S X) := by
  refine mGoX (by decide) (Nat.le_of_ble_eq_true rfl) ?_
  intro p e s m args below meth c ls C0 hr hlk hex h0 hK hX hP hS hl
  have hd : Hd nE a IE := hd0.toE
  have hX : XX (AF a IE sz) s := hX.nar fun q h => AF.toE hd0 h
  have hPI : ∀ (S1 X1 : Mem) (H1 : Heap) (locs1 : List Loc), WP D cA a S1 X1 IE H1 → va_S (AF a IE sz) s.heap H1 locs1 → WP D cA a S1 X1 I H1 := fun S1 X1 H1 locs1 h1 h2 => WP.fromE hd0 hP h1 fun q hq hn => h2.2.1 q hq fun h9 => h9.elim hn fun h8 => absurd (h0 ▸ hq) (Nat.not_lt.mpr h8)
  have h89 : ∀ (H : Heap) (locs : List Loc), va_S (AF a IE sz) s.heap H locs → va_at D vwCl (a 89, c89 a 86 88) H := fun H1 locs1 h2 => by
    have h9 := hP 89 (hd0.1 89 (by decide))
    refine va_at.kept h9 (h2.2.1 _ h9.lt fun h8 => h8.elim (fun ⟨j, hj, e⟩ => ?_) fun h7 => absurd h9.lt (Nat.not_lt.mpr (h0 ▸ h7)))
    have := hd0.2.2 j 89 (hd0.1 j (sEF j hj)) (hd0.1 89 (by decide)) e
    subst this
    exact absurd hj (by unfold IE; decide)
  obtain ⟨H, hHe⟩ : ∃ H, H = s.heap := ⟨_, rfl⟩
  obtain ⟨locs, hlo⟩ : ∃ L : List Loc, L = [] := ⟨_, rfl⟩
  have hP : WP D cA a S X IE H := hHe ▸ hP.toE hd0
  have hS : va_S (AF a IE sz) s.heap H locs := by rw [hHe, hlo]; exact va_S.rf
  rw [← hHe, ← hlo]
  have hA : ∀ q, AI a IE q → AF a IE sz q := fun _ h => Or.inl h
  have hP6 := hTW.2.1
  refine lv_iload_n C0.1 C0.2.1 dX8_arrives_0 rfl (lv_at hl 1 rfl) ?_
  refine lv_aload_n C0.1 C0.2.1 dX8_arrives_1 rfl (lv_at hl 0 rfl) ?_
  refine g89E h89 C0 hK hS 5 (by decide) fl_X8_53 rfl dX8_arrives_2 ?_
  refine g86_travellers C0 hK hP (hd.1 _ (by decide)) fl_X8_163 dX8_arrives_5 ?_
  refine g85_number (v := nI T) C0 hK hP (hd.1 _ (by decide)) fl_X8_172 hnT dX8_arrives_8 ?_
  refine k_X8_isOneOf hd s0 C0 hK hP  (v := bI (decide (0 ≤ x) && decide (x < (nI T)))) rfl hS hA hl.1 ml_X8_91 ⟨Nat.le_of_ble_eq_true rfl, Nat.le_of_ble_eq_true rfl⟩ ⟨Nat.le_of_ble_eq_true rfl, Nat.le_of_ble_eq_true rfl⟩ (Nat.le_of_ble_eq_true rfl) dX8_arrives_11 (fun H locs hP hS => ?_)
  refine kE_X8_needIndex (b := (decide (0 ≤ x) && decide (x < (nI T)))) hfl C0 hlk hex h0 hK hX hd0 hPI hP hS hl.1 ml_X8_64 ⟨Nat.le_of_ble_eq_true rfl, Nat.le_of_ble_eq_true rfl⟩ ⟨Nat.le_of_ble_eq_true rfl, Nat.le_of_ble_eq_true rfl⟩ (Nat.le_of_ble_eq_true rfl) (Nat.le_of_ble_eq_true rfl) (Nat.le_of_ble_eq_true rfl) dX8_arrives_14 (fun hb => pxB_I (by simp only [Bool.and_true, Bool.true_and, Bool.and_false, Bool.false_and, Bool.not_true, Bool.not_false, hb])) (fun hb_14 H locs hP hS => ?_)
  obtain ⟨t, ht, hxe⟩ := one_nat (n := T) (by omega) (show oneB x (nI T) = true from hb_14)
  subst hxe
  refine in_X8_arrives (a := swA a) (S := swS S X) (X := swX S X) (S0 := S) (A0 := AF a IE sz) (H0 := s.heap) C0 hK hd0.sw hP.sw hS (fun q h => Or.inl (AI.sw h)) h89 (fun k hk => if_neg (by rw [hk]; exact Bool.false_ne_true)) (fun k hk => if_pos hk) ht hnP hnT hT30 hnH hhp (hC.cg fun k h1 h2 => if_neg (ahd_no h2)) hTW (lv_sub hl [0, 1] rfl) ?_
  intro r k pc X1 H1 locs1 ls1 hdec hr1 hP1 hC1 hX1 hS1
  have hP2 : WP D cA a S (fun k9 => swX (hrsM (FX (swX S X)) S P T h k).1 X1 k9) IE H1 := hP1.unsw.cg (sw_rows hX1 (hrsM_sta _ S P T h k)) (congrFun (hrsM_sta _ S P T h k 81 (by omega)) 0) (congrFun (hrsM_sta _ S P T h k 82 (by omega)) 0) (congrFun (hX1 87 (by decide) (by decide) (by decide)) 0) (congrFun (hX1 88 (by decide) (by decide) (by decide)) 0) rfl rfl
  have hX2 : ∀ k9, k9 < 16 → swX (hrsM (FX (swX S X)) S P T h k).1 X1 k9 = X1 k9 := fun k9 h9 => if_neg (ahd_no h9)
  exact retXI C0 hr hlk (hPI _ _ _ _ hP2 hS1) (vaS_mono hS1 fun q h => AF.toE hd0 h) (Nat.le_of_ble_eq_true rfl) (Nat.le_of_ble_eq_true rfl) ⟨by simp only [hb_14, Bool.and_true, Bool.true_and, Bool.and_false, Bool.false_and, Bool.not_true, Bool.not_false], by simp only [hb_14, Bool.and_true, Bool.true_and, Bool.and_false, Bool.false_and, Bool.not_true, Bool.not_false], by simp only [hb_14, Bool.and_true, Bool.true_and, Bool.and_false, Bool.false_and, Bool.not_true, Bool.not_false], hr1.trans (by rw [FX_sw]; rw [nv_nI (by omega)]), rfl, hC1.cg (fun k9 h1 h2 => hX2 k9 h2), fun k9 h9 => (hX2 k9 (by omega)).trans ((hX1 k9 (by omega) (by omega) (by omega)).trans (if_neg (ahd_no (by omega))))⟩ hdec
end CLS
