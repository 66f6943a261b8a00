/-! THE START is in order. -/
/-- the ground and the tolls are what the document allows -/
def GrW (S : Mem) : Prop := ∀ j, j < 196 → ∃ g, g ≤ 20 ∧ S 0 j = nI g
theorem nv_0 : nv 0 = 0 := by decide
theorem start_wf : WF S00 ∧ GrW S00 ∧ Iv S00 X00 := by
  have hP : nPu S00 = 0 := nv_0
  have hL : nLa S00 = 0 := nv_0
  have hT : nTr S00 = 0 := nv_0
  have hH : nHr S00 = 0 := nv_0
  have hLnk : ∀ L, Lnk S00 0 L := fun L p hp => absurd hp (Nat.not_lt_zero _)
  refine ⟨?_, fun j hj => ⟨5, by omega, if_pos hj⟩, ?_, ?_⟩
  · unfold WF
    rw [hP, hL, hT, hH]
    refine ⟨rfl, rfl, ⟨rfl, by omega⟩, ⟨rfl, by omega⟩, ⟨hLnk 0, by omega, by omega, fun p hp => absurd hp (Nat.not_lt_zero _), fun p hp => absurd hp (Nat.not_lt_zero _), fun p hp => absurd hp (Nat.not_lt_zero _), fun p hp => absurd hp (Nat.not_lt_zero _), fun i hi => ⟨8, by omega, if_pos hi⟩⟩, fun t ht => absurd ht (Nat.not_lt_zero _), fun p hp => absurd hp (Nat.not_lt_zero _)⟩
  · rw [hP]
    exact fun p _ sd _ v _ => Or.inl rfl
  · rw [hP]
    have e : ∀ t q : Nat, ∀ f g : Nat → Int32, rkT S00 0 f g t = rkT m0 0 f g t := by
      intro t q f g
      induction t with
      | zero => rfl
      | succ n ih => unfold rkT; rw [ih]; rfl
    exact (reckon_ok (S := S00) (X := m0) (X1 := X00) (hLnk 8) (by omega) (congrArg Prod.fst (e 8 0 _ _).symm) (congrArg Prod.snd (e 8 0 _ _).symm)).1
