/-! the real machine follows: ends, calls, whole runs -/
theorem jm_p4_n {mi pc : Nat} {i : Instr} {f f' : jm_F} {st st' : List Value} {g g' : jm_H} {pc' : Nat} (h : jm_p4 mi pc i f st g = some (pc', f', st', g')) : jm_n g' = jm_n g ∧ jm_j g' = jm_j g := by
  unfold jm_p4 at h
  split at h
  · split at h
    · split at h
      · split at h
        · cases h; exact ⟨rfl, rfl⟩
        · cases h
      · cases h
    · cases h
  · split at h
    · split at h
      · split at h
        · next v a r _ c k _ _ =>
          cases hp : jm_pv g a c k v with
          | none => rw [hp] at h; cases h
          | some g1 =>
            rw [hp] at h
            cases h
            obtain ⟨q1, q2, -⟩ := jm_pv_spec hp
            exact ⟨q1, q2⟩
        · cases h
      · cases h
    · cases h
  · split at h
    · cases h; exact ⟨rfl, rfl⟩
    · cases h
  · split at h
    · cases h; exact ⟨rfl, rfl⟩
    · cases h
  · cases h
theorem jm_p5_n {L : Nat} {xs : Nat → Int32} {pc : Nat} {i : Instr} {f f' : jm_F} {st st' : List Value} {g g' : jm_H} {pc' : Nat} (h : jm_p5 L xs pc i f st g = some (pc', f', st', g')) : jm_n g' = jm_n g ∧ jm_j g' = jm_j g := by
  unfold jm_p5 at h
  repeat' split at h
  all_goals first | (cases h; done) | (cases h; exact ⟨rfl, rfl⟩)
theorem jm_p6_n {oc pc : Nat} {i : Instr} {f f' : jm_F} {st st' : List Value} {g g' : jm_H} {pc' : Nat} (h : jm_p6 oc pc i f st g = some (pc', f', st', g')) : g' = jm_new g := by
  unfold jm_p6 at h
  repeat' split at h
  all_goals first | (cases h; done) | (cases h; rfl)
theorem jm_p7_n {oc pc : Nat} {i : Instr} {f f' : jm_F} {st st' : List Value} {g g' : jm_H} {pc' : Nat} (h : jm_p7 oc pc i f st g = some (pc', f', st', g')) : jm_n g' = jm_n g ∧ jm_j g' = jm_j g := by
  unfold jm_p7 at h
  repeat' split at h
  all_goals first | (cases h; done) | (cases h; exact ⟨rfl, rfl⟩)
theorem jm_p9_n {mi oc : Nat} {i : Instr} {st : List Value} {g g' : jm_H} {o : Option Value ⊕ Nat} (h : jm_p9 mi oc i st g = some (o, g')) : (∃ v, o = .inl v ∧ g' = g) ∨ (∃ x, o = .inr x ∧ g' = jm_junk g) := by
  unfold jm_p9 at h
  repeat' split at h
  all_goals first | (cases h; done) | (cases h; exact Or.inl ⟨_, rfl, rfl⟩) | (cases h; exact Or.inr ⟨_, rfl, rfl⟩)
def jm_le (g g' : jm_H) : Prop := jm_n g + jm_j g ≤ jm_n g' + jm_j g' ∧ jm_z g ≤ jm_z g'
theorem jm_le.rf (g : jm_H) : jm_le g g := ⟨Nat.le_refl _, Nat.le_refl _⟩
theorem jm_le.tr {g g1 g2 : jm_H} (h : jm_le g g1) (h' : jm_le g1 g2) : jm_le g g2 := ⟨Nat.le_trans h.1 h'.1, Nat.le_trans h.2 h'.2⟩
theorem jm_le.eq {g g' : jm_H} (h : jm_n g' = jm_n g ∧ jm_j g' = jm_j g) : jm_le g g' := by
  unfold jm_le jm_z
  rw [h.1, h.2]
  exact ⟨Nat.le_refl _, Nat.le_refl _⟩
theorem jm_le.new (g : jm_H) : jm_le g (jm_new g) := by
  refine ⟨?_, by rw [jm_z_new]; omega⟩
  show jm_n g + jm_j g ≤ jm_n g + 1 + jm_j g
  omega
theorem jm_le.junk (g : jm_H) : jm_le g (jm_junk g) := by
  refine ⟨?_, ?_⟩
  · show jm_n g + jm_j g ≤ jm_n g + (jm_j g + 1)
    omega
  · show jm_zs (jm_n g) + 6 * jm_j g ≤ jm_zs (jm_n g) + 6 * (jm_j g + 1)
    omega
/-- what an instruction is: one of the kinds -/
theorem jm_ins_or {L : Nat} {xs : Nat → Int32} {mi pc : Nat} {i : Instr} {f : jm_F} {st : List Value} {g : jm_H} {y : jm_X} (h : jm_ins L xs mi pc i f st g = some y) :
    (∃ a b d, jm_p1 (jm_ml mi) pc i f st = some (a, b, d) ∧ y = .inl (a, b, d, g)) ∨ (∃ a b d, jm_p2 pc i f st = some (a, b, d) ∧ y = .inl (a, b, d, g)) ∨ (∃ a b d, jm_p3 pc i f st = some (a, b, d) ∧ y = .inl (a, b, d, g)) ∨
    (∃ a b d g', jm_p4 mi pc i f st g = some (a, b, d, g') ∧ y = .inl (a, b, d, g')) ∨ (∃ a b d g', jm_p5 L xs pc i f st g = some (a, b, d, g') ∧ y = .inl (a, b, d, g')) ∨ (∃ a b d g', jm_p6 (jm_oc mi) pc i f st g = some (a, b, d, g') ∧ y = .inl (a, b, d, g')) ∨
    (∃ a b d g', jm_p7 (jm_oc mi) pc i f st g = some (a, b, d, g') ∧ y = .inl (a, b, d, g')) ∨ (∃ a b d r, jm_p8 (jm_oc mi) pc i st g = some (a, b, d, r) ∧ y = .inr (.inl (a, b, d, r))) ∨ (∃ o g', jm_p9 mi (jm_oc mi) i st g = some (o, g') ∧ y = .inr (.inr (o, g'))) := by
  unfold jm_ins at h
  split at h
  next a b d h1 => cases h; exact Or.inl ⟨a, b, d, h1, rfl⟩
  next =>
    refine Or.inr ?_
    split at h
    next a b d h1 => cases h; exact Or.inl ⟨a, b, d, h1, rfl⟩
    next =>
      refine Or.inr ?_
      split at h
      next a b d h1 => cases h; exact Or.inl ⟨a, b, d, h1, rfl⟩
      next =>
        refine Or.inr ?_
        split at h
        next z h1 => cases h; exact Or.inl ⟨z.1, z.2.1, z.2.2.1, z.2.2.2, h1, rfl⟩
        next =>
          refine Or.inr ?_
          split at h
          next z h1 => cases h; exact Or.inl ⟨z.1, z.2.1, z.2.2.1, z.2.2.2, h1, rfl⟩
          next =>
            refine Or.inr ?_
            split at h
            next z h1 => cases h; exact Or.inl ⟨z.1, z.2.1, z.2.2.1, z.2.2.2, h1, rfl⟩
            next =>
              refine Or.inr ?_
              split at h
              next z h1 => cases h; exact Or.inl ⟨z.1, z.2.1, z.2.2.1, z.2.2.2, h1, rfl⟩
              next =>
                refine Or.inr ?_
                split at h
                next z h1 => cases h; exact Or.inl ⟨z.1, z.2.1, z.2.2.1, z.2.2.2, h1, rfl⟩
                next =>
                  refine Or.inr ?_
                  split at h
                  next z h1 => cases h; exact ⟨z.1, z.2, h1, rfl⟩
                  next => cases h
theorem jm_step_or {L : Nat} {xs : Nat → Int32} {mi pc : Nat} {f : jm_F} {st : List Value} {g : jm_H} {y : jm_X} (h : jm_step L xs mi pc f st g = some y) : ∃ i len, jm_tab mi pc = some (i, len) ∧ jm_len i len = len ∧ jm_ins L xs mi pc i f st g = some y := by
  unfold jm_step at h
  split at h
  next => cases h
  next i len ht =>
    split at h
    next hl => exact ⟨i, len, ht, hl, h⟩
    next => cases h
theorem jm_ins_le {L : Nat} {xs : Nat → Int32} {mi pc : Nat} {i : Instr} {f : jm_F} {st : List Value} {g : jm_H} {y : jm_X} (h : jm_ins L xs mi pc i f st g = some y) :
    (∀ a b d g', y = .inl (a, b, d, g') → jm_le g g') ∧ (∀ o g', y = .inr (.inr (o, g')) → jm_le g g') := by
  rcases jm_ins_or h with ⟨a, b, d, h1, rfl⟩ | ⟨a, b, d, h1, rfl⟩ | ⟨a, b, d, h1, rfl⟩ | ⟨a, b, d, g', h1, rfl⟩ | ⟨a, b, d, g', h1, rfl⟩ | ⟨a, b, d, g', h1, rfl⟩ | ⟨a, b, d, g', h1, rfl⟩ | ⟨a, b, d, r, h1, rfl⟩ | ⟨o, g', h1, rfl⟩
  · exact ⟨fun _ _ _ _ q => by cases q; exact jm_le.rf g, fun _ _ q => by cases q⟩
  · exact ⟨fun _ _ _ _ q => by cases q; exact jm_le.rf g, fun _ _ q => by cases q⟩
  · exact ⟨fun _ _ _ _ q => by cases q; exact jm_le.rf g, fun _ _ q => by cases q⟩
  · exact ⟨fun _ _ _ _ q => by cases q; exact jm_le.eq (jm_p4_n h1), fun _ _ q => by cases q⟩
  · exact ⟨fun _ _ _ _ q => by cases q; exact jm_le.eq (jm_p5_n h1), fun _ _ q => by cases q⟩
  · exact ⟨fun _ _ _ _ q => by cases q; rw [jm_p6_n h1]; exact jm_le.new g, fun _ _ q => by cases q⟩
  · exact ⟨fun _ _ _ _ q => by cases q; exact jm_le.eq (jm_p7_n h1), fun _ _ q => by cases q⟩
  · exact ⟨fun _ _ _ _ q => (by cases q), fun _ _ q => (by cases q)⟩
  · refine ⟨fun _ _ _ _ q => (by cases q), fun _ _ q => ?_⟩
    cases q
    rcases jm_p9_n h1 with ⟨v, -, rfl⟩ | ⟨x, -, rfl⟩
    · exact jm_le.rf _
    · exact jm_le.junk _
theorem jm_run_le (L : Nat) (xs : Nat → Int32) : ∀ (n d mi pc : Nat) (f : jm_F) (st : List Value) (g : jm_H) (o : Option Value ⊕ Nat) (g' : jm_H), jm_run L xs n d mi pc f st g = some (o, g') → jm_le g g' := by
  intro n
  induction n with
  | zero => intro d mi pc f st g o g' h; simp [jm_run] at h
  | succ n ih =>
    intro d mi pc f st g o g' h
    unfold jm_run at h
    cases hs : jm_step L xs mi pc f st g with
    | none => rw [hs] at h; cases h
    | some y =>
      rw [hs] at h
      obtain ⟨i, len, -, -, hi⟩ := jm_step_or hs
      obtain ⟨l1, l2⟩ := jm_ins_le hi
      rcases y with ⟨pc', f', st', g1⟩ | ⟨k, av, pc', st'⟩ | y
      · exact (l1 _ _ _ _ rfl).tr (ih _ _ _ _ _ _ _ _ h)
      · dsimp only at h
        cases d with
        | zero => cases h
        | succ d' =>
          dsimp only at h
          cases hr : jm_run L xs n d' k 0 (jm_ent av) [] g with
          | none => rw [hr] at h; cases h
          | some w =>
            rw [hr] at h
            obtain ⟨v | x, g1⟩ := w
            · exact (ih _ _ _ _ _ _ _ _ hr).tr (ih _ _ _ _ _ _ _ _ h)
            · dsimp only at h
              cases hh : jm_hn mi pc x with
              | none => rw [hh] at h; cases h
              | some q =>
                rw [hh] at h
                obtain ⟨h1, k1⟩ := q
                exact (ih _ _ _ _ _ _ _ _ hr).tr (ih _ _ _ _ _ _ _ _ h)
      · obtain ⟨o1, g1⟩ := y
        cases h
        exact l2 _ _ rfl
