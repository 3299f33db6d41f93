/-! Phase 2: runs of the small machine, rule by rule. jx: from here the run ends, with Q. -/
theorem jm_run_dep (L : Nat) (xs : Nat → Int32) : ∀ (n d mi pc : Nat) (f : jm_F) (st : List Value) (g : jm_H) (z : jm_O), jm_run L xs n d mi pc f st g = some z → ∀ d', d ≤ d' → jm_run L xs n d' mi pc f st g = some z := by
  intro n
  induction n with
  | zero => intro d mi pc f st g z h; simp [jm_run] at h
  | succ n ih =>
    intro d mi pc f st g z h d' hd
    unfold jm_run at h ⊢
    cases hs : jm_step L xs mi pc f st g with
    | none => rw [hs] at h; cases h
    | some y =>
      rw [hs] at h
      rcases y with ⟨pc', f', st', g'⟩ | ⟨k, av, pc', st'⟩ | y
      · exact ih _ _ _ _ _ _ _ h d' hd
      · dsimp only at h ⊢
        cases d with
        | zero => cases h
        | succ d1 =>
          obtain ⟨d2, rfl⟩ : ∃ d2, d' = d2 + 1 := ⟨d' - 1, by omega⟩
          dsimp only at h ⊢
          cases hr : jm_run L xs n d1 k 0 (jm_ent av) [] g with
          | none => rw [hr] at h; cases h
          | some w =>
            rw [hr] at h
            rw [ih _ _ _ _ _ _ _ hr d2 (by omega)]
            obtain ⟨v | x, g1⟩ := w
            · exact ih _ _ _ _ _ _ _ h _ (by omega)
            · dsimp only at h ⊢
              cases hh : jm_hn mi pc x with
              | none => rw [hh] at h; cases h
              | some q =>
                rw [hh] at h
                obtain ⟨h1, k1⟩ := q
                exact ih _ _ _ _ _ _ _ h _ (by omega)
      · exact h
section JX
variable {L : Nat} {xs : Nat → Int32} {d mi pc : Nat} {f : jm_F} {st r : List Value} {g : jm_H} {Q : jm_O → Prop}
def jx (L : Nat) (xs : Nat → Int32) (d mi pc : Nat) (f : jm_F) (st : List Value) (g : jm_H) (Q : jm_O → Prop) : Prop := ∃ n z, jm_run L xs n d mi pc f st g = some z ∧ Q z
/-- a contract: the method returns, with P; it throws, with P -/
def jc (L : Nat) (xs : Nat → Int32) (d k : Nat) (av : List Value) (g : jm_H) (P : Option Value → jm_H → Prop) : Prop := jx L xs d k 0 (jm_ent av) [] g (fun z => ∃ v g1, z = (.inl v, g1) ∧ P v g1)
def jt (L : Nat) (xs : Nat → Int32) (d k : Nat) (av : List Value) (g : jm_H) (x : Nat) (P : jm_H → Prop) : Prop := jx L xs d k 0 (jm_ent av) [] g (fun z => ∃ g1, z = (.inr x, g1) ∧ P g1)
theorem jx_mono {Q' : jm_O → Prop} (h : jx L xs d mi pc f st g Q) (hq : ∀ z, Q z → Q' z) : jx L xs d mi pc f st g Q' := by
  obtain ⟨n, z, h1, h2⟩ := h
  exact ⟨n, z, h1, hq z h2⟩
theorem jc_mono {k : Nat} {av : List Value} {P P' : Option Value → jm_H → Prop} (h : jc L xs d k av g P) (hp : ∀ v g1, P v g1 → P' v g1) : jc L xs d k av g P' := jx_mono h (fun z => by rintro ⟨v, g1, e, q⟩; exact ⟨v, g1, e, hp _ _ q⟩)
theorem jc_dep {k d' : Nat} {av : List Value} {P : Option Value → jm_H → Prop} (h : jc L xs d k av g P) (hd : d ≤ d') : jc L xs d' k av g P := by
  obtain ⟨n, z, h1, h2⟩ := h
  exact ⟨n, z, jm_run_dep L xs n d _ _ _ _ _ _ h1 d' hd, h2⟩
theorem jx_step {pc' : Nat} {f' : jm_F} {st' : List Value} {g' : jm_H} (h : jm_step L xs mi pc f st g = some (.inl (pc', f', st', g'))) (k : jx L xs d mi pc' f' st' g' Q) : jx L xs d mi pc f st g Q := by
  obtain ⟨n, z, h1, h2⟩ := k
  exact ⟨n + 1, z, by unfold jm_run; rw [h]; exact h1, h2⟩
theorem jx_ret0 {z : jm_O} (h : jm_step L xs mi pc f st g = some (.inr (.inr z))) (k : Q z) : jx L xs d mi pc f st g Q := ⟨1, z, by unfold jm_run; rw [h], k⟩
theorem jx_call0 {k pc' : Nat} {av st' : List Value} {P : Option Value → jm_H → Prop} (h : jm_step L xs mi pc f st g = some (.inr (.inl (k, av, pc', st')))) (hc : jc L xs d k av g P)
    (kk : ∀ v g1, P v g1 → jx L xs (d + 1) mi pc' f (v.toList ++ st') g1 Q) : jx L xs (d + 1) mi pc f st g Q := by
  obtain ⟨n, z, h1, v, g1, rfl, hp⟩ := hc
  obtain ⟨n2, z2, h3, h4⟩ := kk v g1 hp
  refine ⟨max n n2 + 1, z2, ?_, h4⟩
  unfold jm_run
  rw [h]
  dsimp only
  rw [jm_run_mono L xs n _ _ _ _ _ _ _ h1 _ (Nat.le_max_left n n2)]
  exact jm_run_mono L xs n2 _ _ _ _ _ _ _ h3 _ (Nat.le_max_right n n2)
theorem jx_thr0 {k pc' x h1' k1 : Nat} {av st' : List Value} {P : jm_H → Prop} (h : jm_step L xs mi pc f st g = some (.inr (.inl (k, av, pc', st')))) (hc : jt L xs d k av g x P) (hh : jm_hn mi pc x = some (h1', k1))
    (kk : ∀ g1, P g1 → jx L xs (d + 1) mi h1' (fun _ => none) [] g1 Q) : jx L xs (d + 1) mi pc f st g Q := by
  obtain ⟨n, z, h1, g1, rfl, hp⟩ := hc
  obtain ⟨n2, z2, h3, h4⟩ := kk g1 hp
  refine ⟨max n n2 + 1, z2, ?_, h4⟩
  unfold jm_run
  rw [h]
  dsimp only
  rw [jm_run_mono L xs n _ _ _ _ _ _ _ h1 _ (Nat.le_max_left n n2)]
  dsimp only
  rw [hh]
  exact jm_run_mono L xs n2 _ _ _ _ _ _ _ h3 _ (Nat.le_max_right n n2)
theorem jx_ins {i : Instr} {len : Nat} {y : jm_X} (ht : jm_tab mi pc = some (i, len)) (hl : jm_len i len = len) (h : jm_ins L xs mi pc i f st g = some y) : jm_step L xs mi pc f st g = some y := by
  unfold jm_step
  rw [ht]
  dsimp only
  rw [if_pos hl]
  exact h
/-- pure instructions in one row: the next place, locals and stack by computation -/
theorem jx_p1 {i : Instr} {len pc' : Nat} {f' : jm_F} {st' : List Value} (ht : jm_tab mi pc = some (i, len)) (hl : jm_len i len = len) (h : jm_p1 (jm_ml mi) pc i f st = some (pc', f', st')) (k : jx L xs d mi pc' f' st' g Q) : jx L xs d mi pc f st g Q :=
  jx_step (jx_ins ht hl (by unfold jm_ins; rw [h])) k
theorem jx_p2 {i : Instr} {len pc' : Nat} {f' : jm_F} {st' : List Value} (ht : jm_tab mi pc = some (i, len)) (hl : jm_len i len = len) (h1 : jm_p1 (jm_ml mi) pc i f st = none) (h : jm_p2 pc i f st = some (pc', f', st')) (k : jx L xs d mi pc' f' st' g Q) : jx L xs d mi pc f st g Q :=
  jx_step (jx_ins ht hl (by unfold jm_ins; rw [h1]; dsimp only; rw [h])) k
end JX
