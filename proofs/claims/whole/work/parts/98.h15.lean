/-! printed by wip/whole/gen/h15.py: an operation of the class beside the reference -/
def RV (k : Nat) (v : Option Value) : Prop := (k = 0 → v = none) ∧ (k = 1 → ∃ z, v = some (.int z)) ∧ (k = 3 → ∃ z, v = some (.long z))
theorem jm_p9_rv {mi oc : Nat} {i : Instr} {st : List Value} {g g1 : jm_H} {v : Option Value} (h : jm_p9 mi oc i st g = some (.inl v, g1)) : RV (jm_rk mi) v := by
  unfold jm_p9 at h
  split at h
  · split at h
    · split at h
      next hc => cases h; rcases hc with hc | ⟨hc, _⟩ <;> exact ⟨fun q => by omega, fun _ => ⟨_, rfl⟩, fun q => by omega⟩
      · cases h
    · cases h
  · split at h
    · split at h
      next hc => cases h; exact ⟨fun q => by omega, fun q => by omega, fun _ => ⟨_, rfl⟩⟩
      · cases h
    · cases h
  · split at h
    · split at h
      next hc => cases h; exact ⟨fun q => by omega, fun q => by omega, fun q => by omega⟩
      · cases h
    · cases h
  · split at h
    · split at h
      next hc => cases h; exact ⟨fun _ => rfl, fun q => by omega, fun q => by omega⟩
      · cases h
    · cases h
  · split at h
    · split at h
      · split at h <;> cases h
      · cases h
    · cases h
  · cases h
theorem jm_ins_rv {L : Nat} {xs : Nat → Int32} {mi pc : Nat} {i : Instr} {f : jm_F} {st : List Value} {g g1 : jm_H} {v : Option Value} (h : jm_ins L xs mi pc i f st g = some (.inr (.inr (.inl v, g1)))) : RV (jm_rk mi) v := by
  unfold jm_ins at h
  split at h
  · cases h
  split at h
  · cases h
  split at h
  · cases h
  split at h
  · cases h
  split at h
  · cases h
  split at h
  · cases h
  split at h
  · cases h
  split at h
  · cases h
  split at h
  next z hz => cases h; exact jm_p9_rv hz
  · cases h
theorem jm_run_rv (L : Nat) (xs : Nat → Int32) : ∀ (n d mi pc : Nat) (f : jm_F) (st : List Value) (g : jm_H) (v : Option Value) (g1 : jm_H), jm_run L xs n d mi pc f st g = some (.inl v, g1) → RV (jm_rk mi) v := by
  intro n
  induction n with
  | zero => intro d mi pc f st g v g1 h; simp [jm_run] at h
  | succ n ih =>
    intro d mi pc f st g v g1 h
    unfold jm_run at h
    cases hs : jm_step L xs mi pc f st g with
    | none => rw [hs] at h; cases h
    | some y =>
      rw [hs] at h
      rcases y with ⟨pc', f', st', g'⟩ | ⟨k, av, pc', st'⟩ | y
      · exact ih _ _ _ _ _ _ _ _ h
      · dsimp only at h
        cases d with
        | zero => cases h
        | succ d1 =>
          dsimp only at h
          cases hr : jm_run L xs n d1 k 0 (jm_ent av) [] g with
          | none => rw [hr] at h; cases h
          | some w =>
            rw [hr] at h
            obtain ⟨v2 | x, g2⟩ := w
            · exact ih _ _ _ _ _ _ _ _ h
            · dsimp only at h
              cases hh : jm_hn mi pc x with
              | none => rw [hh] at h; cases h
              | some q =>
                rw [hh] at h
                obtain ⟨h1, k1⟩ := q
                exact ih _ _ _ _ _ _ _ _ h
      · dsimp only at h
        cases h
        unfold jm_step at hs
        split at hs
        · cases hs
        · split at hs
          · exact jm_ins_rv hs
          · cases hs
theorem jc_rv {L : Nat} {xs : Nat → Int32} {d k : Nat} {av : List Value} {g : jm_H} {P : Option Value → jm_H → Prop} (h : jc L xs d k av g P) : jc L xs d k av g (fun v g1 => P v g1 ∧ RV (jm_rk k) v) := by
  obtain ⟨n, z, h1, v, g1, rfl, hp⟩ := h
  exact ⟨n, _, h1, v, g1, rfl, hp, jm_run_rv _ _ _ _ _ _ _ _ _ _ _ h1⟩
/-- a call with two ends -/
theorem jx_callo {L : Nat} {xs : Nat → Int32} {d mi pc : Nat} {f : jm_F} {st : List Value} {g : jm_H} {Q : jm_O → Prop} {k pc' : Nat} {av st' : List Value} {P : jm_O → Prop} (h : jm_step L xs mi pc f st g = some (.inr (.inl (k, av, pc', st')))) (hc : jx L xs d k 0 (jm_ent av) [] g P)
    (k1 : ∀ v g1, P (.inl v, g1) → jx L xs (d + 1) mi pc' f (v.toList ++ st') g1 Q) (k2 : ∀ x g1, P (.inr x, g1) → ∃ h1 s1, jm_hn mi pc x = some (h1, s1) ∧ jx L xs (d + 1) mi h1 (fun _ => none) [] g1 Q) : jx L xs (d + 1) mi pc f st g Q := by
  obtain ⟨n, z, h1, hp⟩ := hc
  obtain ⟨v | x, g1⟩ := z
  · exact jx_call0 (P := fun v' g' => v' = v ∧ g' = g1) h ⟨n, _, h1, v, g1, rfl, rfl, rfl⟩ (fun v' g' q => by obtain ⟨rfl, rfl⟩ := q; exact k1 _ _ hp)
  · obtain ⟨h2, s1, e, kk⟩ := k2 x g1 hp
    exact jx_thr0 (P := fun g' => g' = g1) h ⟨n, _, h1, g1, rfl, rfl⟩ e (fun g' q => by subst q; exact kk)
def A6 (A : AB) : Prop := ∀ f, A 136 f = 0 ∨ A 136 f = 1
theorem A6_o {A A' : AB} (h : A6 A) (e : ∀ f, A' 136 f = A 136 f) : A6 A' := fun f => by rw [e]; exact h f
/-- the reference, called so, answers rv (when t = 0) and has thrown t; its numbers A become A' -/
def REF (no : Nat) (av : List Value) (A A' : AB) (t : Int) (rv : Option Value) : Prop := ∀ (L : Nat) (xs : Nat → Int32) (d j : Nat) (I : Nat → Nat → Int32) (M : Nat → Nat → Int64) (p : Nat → Option Nat), CM I M A → jc L xs (d + 8) no (.ref 103 :: av) (jx_G j I M p) (fun v g1 => ∃ I' M', g1 = jx_G j I' M' p ∧ fr mW I I' ∧ fr mV M M' ∧ CM I' M' A' ∧ I' 103 0 = iI t ∧ (t = 0 → v = rv))
def RG (kd : Nat) (rv : Option Value) : Prop := (kd = 0 ∧ rv = none) ∨ (kd = 1 ∧ ∃ r : Int, iR r ∧ rv = some (.int (iI r))) ∨ (kd = 3 ∧ ∃ r : Int, lR r ∧ rv = some (.long (lI r)))
/-- how the class's operation C ends, beside the reference's R; X: what is thrown, and its number -/
def COP (kd C R : Nat) (X : Nat → Int → Prop) (av : List Value) (A : AB) : Prop := ∀ (L : Nat) (xs : Nat → Int32) (d j : Nat) (I : Nat → Nat → Int32) (M : Nat → Nat → Int64) (p : Nat → Option Nat), CR I M p A → jx L xs (d + 38) C 0 (jm_ent (.ref 0 :: av)) [] (jx_G j I M p) (fun o => (∃ (I' : Nat → Nat → Int32) (M' : Nat → Nat → Int64) (p' : Nat → Option Nat) (A' : AB) (rv : Option Value), o = (.inl rv, jx_G j I' M' p') ∧ fr cW I I' ∧ fr cV M M' ∧ CR I' M' p' A' ∧ A6 A' ∧ RG kd rv ∧ REF R av A A' 0 rv) ∨ (∃ (I' : Nat → Nat → Int32) (M' : Nat → Nat → Int64) (p' : Nat → Option Nat) (x : Nat) (t : Int), o = (.inr x, jx_G (j + 1) I' M' p') ∧ fr cW I I' ∧ fr cV M M' ∧ CR I' M' p' A ∧ X x t ∧ REF R av A A t none))
def X1 (e : Nat) (x : Nat) (t : Int) : Prop := x = e ∧ t = 1
def X2 (e1 e2 : Nat) (x : Nat) (t : Int) : Prop := (x = e1 ∧ t = 1) ∨ (x = e2 ∧ t = 2)
section H15
variable {A : AB} {x y z u : Int}
theorem co_write (h6 : A6 A) (hx : iR x) (b : Int64) : COP 1 2 108 (X1 50) [.int (iI x), .long b] A := by
  intro L xs d j I M p hR
  have hv := hR.1
  have hv12 := hv.2.2.2.2.2.2.1
  by_cases hb : 1 ≤ x ∧ x ≤ 8
  · obtain ⟨n, rfl⟩ : ∃ n : Nat, x = ((n : Nat) : Int) := ⟨x.toNat, by omega⟩
    have hn := aN_80 hv.1
    refine jx_mono (op_write_c (d := d + 38) (b := b) hR (by omega)) (fun z q => ?_)
    obtain ⟨v, g1, rfl, I', rfl, r, q⟩ := q
    rcases q with ⟨h1, rfl, R1⟩ | ⟨h1, rfl, R1⟩
    · exact Or.inl ⟨I', M, p, _, _, rfl, r, fr_r _, R1, A6_o h6 (fun f => (if_neg (by omega)).trans (jm_u_n2 (by omega))), Or.inr (Or.inl ⟨rfl, _, by omega, rfl⟩), (fun L xs d j I M p hM => jc_mono (op_write_m (d := d + 8) hM hv.1 (by omega)) (fun v g1 q => by obtain ⟨I', rfl, r, q, h0⟩ := q; rcases q with ⟨h2, rfl, C⟩ | ⟨h2, rfl, C⟩ <;> first | exact absurd h1 h2 | exact absurd h2 h1 | exact ⟨I', M, rfl, r, fr_r _, C, h0, fun _ => rfl⟩))⟩
    · exact Or.inl ⟨I', M, p, _, _, rfl, r, fr_r _, R1, h6, Or.inr (Or.inl ⟨rfl, _, by omega, rfl⟩), (fun L xs d j I M p hM => jc_mono (op_write_m (d := d + 8) hM hv.1 (by omega)) (fun v g1 q => by obtain ⟨I', rfl, r, q, h0⟩ := q; rcases q with ⟨h2, rfl, C⟩ | ⟨h2, rfl, C⟩ <;> first | exact absurd h1 h2 | exact absurd h2 h1 | exact ⟨I', M, rfl, r, fr_r _, C, h0, fun _ => rfl⟩))⟩
  · skip
    refine jx_mono (op_write_t (d := d + 37) hx hb) (fun z q => ?_)
    obtain ⟨g1, rfl, rfl⟩ := q
    exact Or.inr ⟨I, M, p, 50, 1, rfl, fr_r _, fr_r _, hR, ⟨rfl, rfl⟩, (fun L xs d j I M p hM => jc_mono (op_write_b (d := d + 8) hx hM hb) (fun v g1 q => by obtain ⟨I', rfl, r, C, h0⟩ := q; exact ⟨I', M, rfl, r, fr_r _, C, h0, fun h => absurd h (by omega)⟩))⟩
theorem co_layer (h6 : A6 A) (hx : iR x) : COP 1 4 126 (X1 50) [.int (iI x)] A := by
  intro L xs d j I M p hR
  have hv := hR.1
  have hv12 := hv.2.2.2.2.2.2.1
  by_cases hb : 0 ≤ x ∧ x < 4
  · obtain ⟨l, rfl⟩ : ∃ l : Nat, x = ((l : Nat) : Int) := ⟨x.toNat, by omega⟩
    refine jx_mono (op_layer_c (d := d + 26) (l := l) hR (by omega)) (fun z q => ?_)
    obtain ⟨v, g1, rfl, I', p', r0, A', rfl, r, rfl, q, R1⟩ := q
    rcases q with ⟨rfl, ⟨k, e, hQ⟩, rfl⟩ | ⟨⟨e, k, rfl, hQ⟩, rfl⟩
    · exact Or.inl ⟨I', M, p', _, _, rfl, r, fr_r _, R1, A6_o h6 (fun f => (jm_u_n2 (by omega)).trans (aTx_5 (by omega))), Or.inr (Or.inl ⟨rfl, _, by omega, rfl⟩), (fun L xs d j I M p hM => jc_mono (op_layer_m (d := d + 3) hM hv.1 (by omega) hQ) (fun v g1 q => by obtain ⟨I', rfl, r, C, h0, rfl⟩ := q; exact ⟨I', M, rfl, r, fr_r _, C, h0, fun _ => rfl⟩))⟩
    · have heb := PE_b hQ
      exact Or.inl ⟨I', M, p', _, _, rfl, r, fr_r _, R1, h6, Or.inr (Or.inl ⟨rfl, _, by omega, rfl⟩), (fun L xs d j I M p hM => jc_mono (op_layer_w (d := d + 3) hM hv.1 (by omega) hQ) (fun v g1 q => by obtain ⟨I', rfl, r, C, h0, rfl⟩ := q; exact ⟨I', M, rfl, r, fr_r _, C, h0, fun _ => rfl⟩))⟩
  · skip
    refine jx_mono (op_layer_t (d := d + 37) hx hb) (fun z q => ?_)
    obtain ⟨g1, rfl, rfl⟩ := q
    exact Or.inr ⟨I, M, p, 50, 1, rfl, fr_r _, fr_r _, hR, ⟨rfl, rfl⟩, (fun L xs d j I M p hM => jc_mono (op_layer_b (d := d + 7) hM hx hb) (fun v g1 q => by obtain ⟨I', rfl, r, C, h0⟩ := q; exact ⟨I', M, rfl, r, fr_r _, C, h0, fun h => absurd h (by omega)⟩))⟩
theorem co_filter (h6 : A6 A) (hx : iR x) : COP 1 13 127 (X1 50) [.int (iI x)] A := by
  intro L xs d j I M p hR
  have hv := hR.1
  have hv12 := hv.2.2.2.2.2.2.1
  by_cases hb : 0 ≤ x ∧ x < 4
  · obtain ⟨l, rfl⟩ : ∃ l : Nat, x = ((l : Nat) : Int) := ⟨x.toNat, by omega⟩
    refine jx_mono (op_filter_c (d := d + 6) (fq := l) hR (by omega)) (fun z q => ?_)
    obtain ⟨v, g1, rfl, I', p', r0, A', rfl, r, rfl, q, R1⟩ := q
    rcases q with ⟨rfl, ⟨k, e, hQ⟩, rfl⟩ | ⟨⟨e, k, rfl, hQ⟩, rfl⟩
    · exact Or.inl ⟨I', M, p', _, _, rfl, r, fr_r _, R1, A6_o h6 (fun f => aTx_5 (by omega)), Or.inr (Or.inl ⟨rfl, _, by omega, rfl⟩), (fun L xs d j I M p hM => jc_mono (op_filter_m (d := d + 3) hM hv.1 (by omega) hQ) (fun v g1 q => by obtain ⟨I', rfl, r, C, h0, rfl⟩ := q; exact ⟨I', M, rfl, r, fr_r _, C, h0, fun _ => rfl⟩))⟩
    · have heb := QE_le hR.2.1.2.2.2.2 (aN_80 hv.1) hQ
      exact Or.inl ⟨I', M, p', _, _, rfl, r, fr_r _, R1, h6, Or.inr (Or.inl ⟨rfl, _, by omega, rfl⟩), (fun L xs d j I M p hM => jc_mono (op_filter_w (d := d + 3) hM hv.1 (by omega) hQ) (fun v g1 q => by obtain ⟨I', rfl, r, C, h0, rfl⟩ := q; exact ⟨I', M, rfl, r, fr_r _, C, h0, fun _ => rfl⟩))⟩
  · skip
    refine jx_mono (op_filter_t (d := d + 37) hx hb) (fun z q => ?_)
    obtain ⟨g1, rfl, rfl⟩ := q
    exact Or.inr ⟨I, M, p, 50, 1, rfl, fr_r _, fr_r _, hR, ⟨rfl, rfl⟩, (fun L xs d j I M p hM => jc_mono (op_filter_b (d := d + 7) hM hx hb) (fun v g1 q => by obtain ⟨I', rfl, r, C, h0⟩ := q; exact ⟨I', M, rfl, r, fr_r _, C, h0, fun h => absurd h (by omega)⟩))⟩
theorem co_root (h6 : A6 A) (hx : iR x) (hy : iR y) : COP 0 5 128 (X1 50) [.int (iI x), .int (iI y)] A := by
  intro L xs d j I M p hR
  have hv := hR.1
  have hv12 := hv.2.2.2.2.2.2.1
  by_cases hb : (0 ≤ x ∧ x < 2) ∧ (-1 ≤ y ∧ y < 4)
  · skip
    refine jx_mono (op_root_c (d := d + 35) hR hb) (fun z q => ?_)
    obtain ⟨v, g1, rfl, I', rfl, r, rfl, R1⟩ := q
    exact Or.inl ⟨I', M, p, _, _, rfl, r, fr_r _, R1, A6_o h6 (fun f => rfl), Or.inl ⟨rfl, rfl⟩, (fun L xs d j I M p hM => jc_mono (op_root_m (d := d + 7) hM hb) (fun v g1 q => by obtain ⟨I', rfl, r, rfl, C, h0⟩ := q; exact ⟨I', M, rfl, r, fr_r _, C, h0, fun _ => rfl⟩))⟩
  · skip
    refine jx_mono (op_root_t (d := d + 36) hx hy hb) (fun z q => ?_)
    obtain ⟨g1, rfl, rfl⟩ := q
    exact Or.inr ⟨I, M, p, 50, 1, rfl, fr_r _, fr_r _, hR, ⟨rfl, rfl⟩, (fun L xs d j I M p hM => jc_mono (op_root_b (d := d + 7) hx hy hM hb) (fun v g1 q => by obtain ⟨I', rfl, r, _, C, h0⟩ := q; exact ⟨I', M, rfl, r, fr_r _, C, h0, fun h => absurd h (by omega)⟩))⟩
theorem co_limit (h6 : A6 A) (hx : iR x) : COP 0 9 135 (X1 50) [.int (iI x)] A := by
  intro L xs d j I M p hR
  have hv := hR.1
  have hv12 := hv.2.2.2.2.2.2.1
  by_cases hb : 1 ≤ x ∧ x ≤ 64
  · skip
    refine jx_mono (op_limit_c (d := d + 35) hR hb) (fun z q => ?_)
    obtain ⟨v, g1, rfl, I', rfl, r, rfl, R1⟩ := q
    exact Or.inl ⟨I', M, p, _, _, rfl, r, fr_r _, R1, A6_o h6 (fun f => rfl), Or.inl ⟨rfl, rfl⟩, (fun L xs d j I M p hM => jc_mono (op_limit_m (d := d + 7) hM hb) (fun v g1 q => by obtain ⟨I', rfl, r, rfl, C, h0⟩ := q; exact ⟨I', M, rfl, r, fr_r _, C, h0, fun _ => rfl⟩))⟩
  · skip
    refine jx_mono (op_limit_t (d := d + 37) hx hb) (fun z q => ?_)
    obtain ⟨g1, rfl, rfl⟩ := q
    exact Or.inr ⟨I, M, p, 50, 1, rfl, fr_r _, fr_r _, hR, ⟨rfl, rfl⟩, (fun L xs d j I M p hM => jc_mono (op_limit_b (d := d + 7) hx hM hb) (fun v g1 q => by obtain ⟨I', rfl, r, _, C, h0⟩ := q; exact ⟨I', M, rfl, r, fr_r _, C, h0, fun h => absurd h (by omega)⟩))⟩
theorem co_follow (h6 : A6 A) (hz : iR z) (hx : iR x) (hy : iR y) : COP 0 6 130 (X2 50 51) [.int (iI z), .int (iI x), .int (iI y)] A := by
  intro L xs d j I M p hR
  have hv := hR.1
  have hv12 := hv.2.2.2.2.2.2.1
  by_cases hb : (0 ≤ z ∧ z < 4) ∧ 0 ≤ x ∧ (-1 ≤ y ∧ y < 4)
  · obtain ⟨l, rfl⟩ : ∃ l : Nat, z = ((l : Nat) : Int) := ⟨z.toNat, by omega⟩
    have hl : l < 4 := by omega
    have hx2 : 0 ≤ x ∧ x < 2147483648 := by omega
    have hv4 := hv.2.2.2.1 l hl
    obtain ⟨m, hm⟩ : ∃ m : Nat, A 110 l = ((m : Nat) : Int) := ⟨(A 110 l).toNat, by omega⟩
    by_cases hF : ∃ i : Nat, (i : Int) < A 110 l ∧ A 111 (8 * l + i) = x
    · obtain ⟨i, hi, hix⟩ := hF
      by_cases hy1 : y = -1
      · subst hy1
        obtain ⟨m', rfl⟩ : ∃ m', m = m' + 1 := ⟨m - 1, by omega⟩
        refine jx_mono (op_follow_c2 (d := d + 35) hR hl hx2 hm hi hix) (fun z q => ?_)
        obtain ⟨v, g1, rfl, I', rfl, r, rfl, R1⟩ := q
        exact Or.inl ⟨I', M, p, _, _, rfl, r, fr_r _, R1, A6_o h6 (fun f => rfl), Or.inl ⟨rfl, rfl⟩, (fun L xs d j I M p hM => jc_mono (jc_rv (op_follow_m2 (d := d + 7) hM hv.2.2.2.1 hl hx2 hm hi hix)) (fun v g1 q => by obtain ⟨⟨I', rfl, r, C, h0⟩, hk⟩ := q; exact ⟨I', M, rfl, r, fr_r _, C, h0, fun _ => hk.1 rfl⟩))⟩
      · skip
        refine jx_mono (op_follow_c3 (d := d + 35) hR hl hx2 hm hi hix (by omega)) (fun z q => ?_)
        obtain ⟨v, g1, rfl, I', rfl, r, rfl, R1⟩ := q
        exact Or.inl ⟨I', M, p, _, _, rfl, r, fr_r _, R1, A6_o h6 (fun f => rfl), Or.inl ⟨rfl, rfl⟩, (fun L xs d j I M p hM => jc_mono (jc_rv (op_follow_m3 (d := d + 7) hM hv.2.2.2.1 hl hx2 hm hi hix (by omega))) (fun v g1 q => by obtain ⟨⟨I', rfl, r, C, h0⟩, hk⟩ := q; exact ⟨I', M, rfl, r, fr_r _, C, h0, fun _ => hk.1 rfl⟩))⟩
    · have hNF : ∀ k : Nat, (k : Int) < A 110 l → A 111 (8 * l + k) ≠ x := fun k hk e => hF ⟨k, hk, e⟩
      by_cases hy1 : y = -1
      · subst hy1
        refine jx_mono (op_follow_c1 (d := d + 35) hR hl hx2 hNF) (fun z q => ?_)
        obtain ⟨v, g1, rfl, I', rfl, r, rfl, R1⟩ := q
        exact Or.inl ⟨I', M, p, _, _, rfl, r, fr_r _, R1, A6_o h6 (fun f => rfl), Or.inl ⟨rfl, rfl⟩, (fun L xs d j I M p hM => jc_mono (jc_rv (op_follow_m1 (d := d + 7) hM hv.2.2.2.1 hl hx2 hNF)) (fun v g1 q => by obtain ⟨⟨I', rfl, r, C, h0⟩, hk⟩ := q; exact ⟨I', M, rfl, r, fr_r _, C, h0, fun _ => hk.1 rfl⟩))⟩
      · by_cases hc : m < 8
        · skip
          refine jx_mono (op_follow_c4 (d := d + 35) hR hl hx2 hm hNF hc (by omega)) (fun z q => ?_)
          obtain ⟨v, g1, rfl, I', rfl, r, rfl, R1⟩ := q
          exact Or.inl ⟨I', M, p, _, _, rfl, r, fr_r _, R1, A6_o h6 (fun f => rfl), Or.inl ⟨rfl, rfl⟩, (fun L xs d j I M p hM => jc_mono (jc_rv (op_follow_m4 (d := d + 7) hM hv.2.2.2.1 hl hx2 hm hNF hc (by omega))) (fun v g1 q => by obtain ⟨⟨I', rfl, r, C, h0⟩, hk⟩ := q; exact ⟨I', M, rfl, r, fr_r _, C, h0, fun _ => hk.1 rfl⟩))⟩
        · skip
          refine jx_mono (op_follow_t2 (d := d + 35) hR hl hx2 hm hNF hc (by omega)) (fun z q => ?_)
          obtain ⟨g1, rfl, rfl⟩ := q
          exact Or.inr ⟨I, M, p, 51, 2, rfl, fr_r _, fr_r _, hR, Or.inr ⟨rfl, rfl⟩, (fun L xs d j I M p hM => jc_mono (op_follow_b2 (d := d + 7) hM hv.2.2.2.1 hl hx2 hm hNF hc (by omega)) (fun v g1 q => by obtain ⟨I', rfl, r, C, h0⟩ := q; exact ⟨I', M, rfl, r, fr_r _, C, h0, fun h => absurd h (by omega)⟩))⟩
  · skip
    refine jx_mono (op_follow_t1 (d := d + 36) hz hx hy hb) (fun z q => ?_)
    obtain ⟨g1, rfl, rfl⟩ := q
    exact Or.inr ⟨I, M, p, 50, 1, rfl, fr_r _, fr_r _, hR, Or.inl ⟨rfl, rfl⟩, (fun L xs d j I M p hM => jc_mono (op_follow_b1 (d := d + 7) hM hz hx hy hb) (fun v g1 q => by obtain ⟨I', rfl, r, C, h0⟩ := q; exact ⟨I', M, rfl, r, fr_r _, C, h0, fun h => absurd h (by omega)⟩))⟩
theorem co_frame (h6 : A6 A) (hx : iR x) (hy : iR y) : COP 1 7 132 (X2 50 51) [.int (iI x), .int (iI y)] A := by
  intro L xs d j I M p hR
  have hv := hR.1
  have hv12 := hv.2.2.2.2.2.2.1
  obtain ⟨c, hc⟩ : ∃ c : Nat, A 103 12 = ((c : Nat) : Int) := ⟨(A 103 12).toNat, by omega⟩
  by_cases hb : (0 ≤ x ∧ x < 2) ∧ 0 ≤ y
  · have hy2 : 0 ≤ y ∧ y < 2147483648 := by omega
    by_cases hok : c < 12 ∧ 0 < A 103 2 ∧ A 103 2 ≤ 40
    · skip
      refine jx_mono (op_frame_c (d := d + 35) hR hc hb.1 hy2 hok) (fun z q => ?_)
      obtain ⟨v, g1, rfl, I', p', q, rfl, r, rfl, hQ, R1⟩ := q
      have hq := hQ.1
      exact Or.inl ⟨I', M, p', _, _, rfl, r, fr_r _, R1, A6_o h6 (fun f => aIn_7 (by omega)), Or.inr (Or.inl ⟨rfl, _, by omega, rfl⟩), (fun L xs d j I M p hM => jc_mono (op_frame_m (d := d + 7) hM hv.1 hc hb.1 hy2 hok (fun k hk => (hv.2.2.2.2.2.2.2 k (by omega)).2.1) hQ) (fun v g1 q => by obtain ⟨I', rfl, r, C, h0, rfl⟩ := q; exact ⟨I', M, rfl, r, fr_r _, C, h0, fun _ => rfl⟩))⟩
    · skip
      refine jx_mono (op_frame_t2 (d := d + 37) hR hc hb.1 hy2 hok) (fun z q => ?_)
      obtain ⟨g1, rfl, rfl⟩ := q
      exact Or.inr ⟨I, M, p, 51, 2, rfl, fr_r _, fr_r _, hR, Or.inr ⟨rfl, rfl⟩, (fun L xs d j I M p hM => jc_mono (op_frame_b2 (d := d + 7) hM hv.1 hc (by omega) hb.1 hy2 hok) (fun v g1 q => by obtain ⟨I', rfl, r, C, h0⟩ := q; exact ⟨I', M, rfl, r, fr_r _, C, h0, fun h => absurd h (by omega)⟩))⟩
  · skip
    refine jx_mono (op_frame_t1 (d := d + 37) hx hy hb) (fun z q => ?_)
    obtain ⟨g1, rfl, rfl⟩ := q
    exact Or.inr ⟨I, M, p, 50, 1, rfl, fr_r _, fr_r _, hR, Or.inl ⟨rfl, rfl⟩, (fun L xs d j I M p hM => jc_mono (op_frame_b1 (d := d + 7) hM hv.1 hc (by omega) hx hy hb) (fun v g1 q => by obtain ⟨I', rfl, r, C, h0⟩ := q; exact ⟨I', M, rfl, r, fr_r _, C, h0, fun h => absurd h (by omega)⟩))⟩
theorem co_drop (h6 : A6 A) (hx : iR x) : COP 1 8 134 (X1 52) [.int (iI x)] A := by
  intro L xs d j I M p hR
  have hv := hR.1
  have hv12 := hv.2.2.2.2.2.2.1
  by_cases hb : 0 ≤ x ∧ x < A 103 12
  · obtain ⟨k, rfl⟩ : ∃ k : Nat, x = ((k : Nat) : Int) := ⟨x.toNat, by omega⟩
    obtain ⟨m, hm⟩ : ∃ m : Nat, A 103 12 = ((m + 1 : Nat) : Int) := ⟨(A 103 12).toNat - 1, by omega⟩
    have h114 := (hv.2.2.2.2.2.2.2 k hb.2).2.1
    refine jx_mono (op_drop_c (d := d + 35) hR hm (by omega)) (fun z q => ?_)
    obtain ⟨v, g1, rfl, I', p', rfl, r, rfl, R1⟩ := q
    exact Or.inl ⟨I', M, p', _, _, rfl, r, fr_r _, R1, A6_o h6 (fun f => aDr_3 (by omega)), Or.inr (Or.inl ⟨rfl, _, by omega, rfl⟩), (fun L xs d j I M p hM => jc_mono (op_drop_m (d := d + 7) hM hm (by omega) (by omega)) (fun v g1 q => by obtain ⟨I', rfl, r, C, h0, rfl⟩ := q; exact ⟨I', M, rfl, r, fr_r _, C, h0, fun _ => rfl⟩))⟩
  · skip
    refine jx_mono (op_drop_t (d := d + 37) hx hR hb) (fun z q => ?_)
    obtain ⟨g1, rfl, rfl⟩ := q
    exact Or.inr ⟨I, M, p, 52, 1, rfl, fr_r _, fr_r _, hR, ⟨rfl, rfl⟩, (fun L xs d j I M p hM => jc_mono (op_drop_b (d := d + 7) hM hv12 hx hb) (fun v g1 q => by obtain ⟨I', M', rfl, r, m, C, h0⟩ := q; exact ⟨I', M', rfl, r, m, C, h0, fun h => absurd h (by omega)⟩))⟩
theorem co_decode (h6 : A6 A) (hx : iR x) : COP 1 10 152 (X1 52) [.int (iI x)] A := by
  intro L xs d j I M p hR
  have hv := hR.1
  have hv12 := hv.2.2.2.2.2.2.1
  by_cases hb : 0 ≤ x ∧ x < A 103 12
  · obtain ⟨k, rfl⟩ : ∃ k : Nat, x = ((k : Nat) : Int) := ⟨x.toNat, by omega⟩
    refine jx_mono (op_decode_c (d := d + 25) hR hb.2) (fun z q => ?_)
    obtain ⟨v, g1, rfl, I', M', p', rfl, r, m, s, N, rfl⟩ := q
    have hs := N.2.2.2.1
    exact Or.inl ⟨I', M', p', _, _, rfl, r, m, N.1, h6, Or.inr (Or.inl ⟨rfl, _, by omega, rfl⟩), (fun L xs d j I M p hM => jc_mono (op_decode_m (d := d + 1) hM ⟨hv.2.1, hv.2.2.2.1, hv.2.2.2.2⟩ hb.2 N.2.2.1) (fun v g1 q => by obtain ⟨I', M', rfl, r, m, C, rfl, h0⟩ := q; exact ⟨I', M', rfl, r, m, C, h0, fun _ => rfl⟩))⟩
  · skip
    refine jx_mono (op_decode_t (d := d + 37) hx hR hb) (fun z q => ?_)
    obtain ⟨g1, rfl, rfl⟩ := q
    exact Or.inr ⟨I, M, p, 52, 1, rfl, fr_r _, fr_r _, hR, ⟨rfl, rfl⟩, (fun L xs d j I M p hM => jc_mono (op_decode_b (d := d + 7) hM ⟨hv.2.1, hv.2.2.2.1, hv.2.2.2.2⟩ hx hb) (fun v g1 q => by obtain ⟨I', M', rfl, r, m, C, h0⟩ := q; exact ⟨I', M', rfl, r, m, C, h0, fun h => absurd h (by omega)⟩))⟩
theorem co_entry (h6 : A6 A) (hx : iR x) (hy : iR y) (hz : iR z) : COP 1 11 154 (X2 52 50) [.int (iI x), .int (iI y), .int (iI z)] A := by
  intro L xs d j I M p hR
  have hv := hR.1
  have hv12 := hv.2.2.2.2.2.2.1
  by_cases hb : 0 ≤ x ∧ x < A 103 12
  · obtain ⟨k, rfl⟩ : ∃ k : Nat, x = ((k : Nat) : Int) := ⟨x.toNat, by omega⟩
    refine jx_mono (op_entry_c (d := d + 24) (f := k) hy hz hR hb.2) (fun o q => ?_)
    obtain ⟨I', M', p', s, r, m, N, q⟩ := q
    have hs := N.2.2.2.1
    rcases q with ⟨h1, rfl⟩ | ⟨h1, q⟩
    · have h4 : True ∧ True := ⟨trivial, trivial⟩
      exact Or.inr ⟨I', M', p', 52, 1, rfl, r, m, N.1, Or.inl ⟨rfl, rfl⟩, (fun L xs d j I M p hM => jc_mono (op_entry_m (d := d) hM ⟨hv.2.1, hv.2.2.2.1, hv.2.2.2.2⟩ hy hz hb.2 N.2.2.1 N.2.2.2.1) (fun v g1 q => by obtain ⟨I', M', rfl, r, m, C, q⟩ := q; rcases q with ⟨h2, h0⟩ | ⟨h2, ⟨h3, h0⟩ | ⟨h3, h0, rfl⟩⟩ <;> first | exact absurd h1 h2 | exact absurd h2 h1 | exact absurd h4 h3 | exact absurd h3 h4 | exact ⟨I', M', rfl, r, m, C, h0, fun h => absurd h (by omega)⟩ | exact ⟨I', M', rfl, r, m, C, h0, fun _ => rfl⟩))⟩
    · rcases q with ⟨h4, rfl⟩ | ⟨h4, rfl⟩
      · exact Or.inr ⟨I', M', p', 50, 2, rfl, r, m, N.1, Or.inr ⟨rfl, rfl⟩, (fun L xs d j I M p hM => jc_mono (op_entry_m (d := d) hM ⟨hv.2.1, hv.2.2.2.1, hv.2.2.2.2⟩ hy hz hb.2 N.2.2.1 N.2.2.2.1) (fun v g1 q => by obtain ⟨I', M', rfl, r, m, C, q⟩ := q; rcases q with ⟨h2, h0⟩ | ⟨h2, ⟨h3, h0⟩ | ⟨h3, h0, rfl⟩⟩ <;> first | exact absurd h1 h2 | exact absurd h2 h1 | exact absurd h4 h3 | exact absurd h3 h4 | exact ⟨I', M', rfl, r, m, C, h0, fun h => absurd h (by omega)⟩ | exact ⟨I', M', rfl, r, m, C, h0, fun _ => rfl⟩))⟩
      · obtain ⟨Tl, S, _, hE⟩ := N.2.2.2.2.2
        have he := (hE y.toNat (by omega)).1
        have hz40 : aZ A k ≤ 40 := by have := (hv.2.2.2.2.2.2.2 k hb.2).2.2.1; unfold aZ; omega
        have hir : iR (s (3 + z.toNat) y.toNat) := by
          have : z.toNat = 0 ∨ z.toNat = 1 ∨ z.toNat = 2 ∨ z.toNat = 3 ∨ z.toNat = 4 := by omega
          rcases this with e | e | e | e | e <;> rw [e]
          · show iR (s 3 y.toNat)
            exact ⟨by omega, by omega⟩
          · show iR (s 4 y.toNat)
            exact ⟨by omega, by omega⟩
          · show iR (s 5 y.toNat)
            exact ⟨by omega, by omega⟩
          · show iR (s 6 y.toNat)
            exact ⟨by omega, by omega⟩
          · show iR (s 7 y.toNat)
            exact ⟨by omega, by omega⟩
        exact Or.inl ⟨I', M', p', _, _, rfl, r, m, N.1, h6, Or.inr (Or.inl ⟨rfl, _, hir, rfl⟩), (fun L xs d j I M p hM => jc_mono (op_entry_m (d := d) hM ⟨hv.2.1, hv.2.2.2.1, hv.2.2.2.2⟩ hy hz hb.2 N.2.2.1 N.2.2.2.1) (fun v g1 q => by obtain ⟨I', M', rfl, r, m, C, q⟩ := q; rcases q with ⟨h2, h0⟩ | ⟨h2, ⟨h3, h0⟩ | ⟨h3, h0, rfl⟩⟩ <;> first | exact absurd h1 h2 | exact absurd h2 h1 | exact absurd h4 h3 | exact absurd h3 h4 | exact ⟨I', M', rfl, r, m, C, h0, fun h => absurd h (by omega)⟩ | exact ⟨I', M', rfl, r, m, C, h0, fun _ => rfl⟩))⟩
  · skip
    refine jx_mono (op_entry_t (d := d + 37) hx hR hb) (fun z q => ?_)
    obtain ⟨g1, rfl, rfl⟩ := q
    exact Or.inr ⟨I, M, p, 52, 1, rfl, fr_r _, fr_r _, hR, Or.inl ⟨rfl, rfl⟩, (fun L xs d j I M p hM => jc_mono (op_entry_b (d := d + 6) hM ⟨hv.2.1, hv.2.2.2.1, hv.2.2.2.2⟩ hx hb) (fun v g1 q => by obtain ⟨I', M', rfl, r, m, C, h0⟩ := q; exact ⟨I', M', rfl, r, m, C, h0, fun h => absurd h (by omega)⟩))⟩
theorem co_value (h6 : A6 A) (hx : iR x) (hy : iR y) : COP 3 12 155 (X1 52) [.int (iI x), .int (iI y)] A := by
  intro L xs d j I M p hR
  have hv := hR.1
  have hv12 := hv.2.2.2.2.2.2.1
  by_cases hb : 0 ≤ x ∧ x < A 103 12
  · obtain ⟨k, rfl⟩ : ∃ k : Nat, x = ((k : Nat) : Int) := ⟨x.toNat, by omega⟩
    refine jx_mono (op_value_c (d := d + 24) (f := k) hy hR hb.2) (fun o q => ?_)
    obtain ⟨I', M', p', s, r, m, N, q⟩ := q
    have hs := N.2.2.2.1
    rcases q with ⟨h1, rfl⟩ | ⟨h1, rfl⟩
    · exact Or.inr ⟨I', M', p', 52, 1, rfl, r, m, N.1, ⟨rfl, rfl⟩, (fun L xs d j I M p hM => jc_mono (op_value_m (d := d) hM ⟨hv.2.1, hv.2.2.2.1, hv.2.2.2.2⟩ hy hb.2 N.2.2.1 N.2.2.2.1) (fun v g1 q => by obtain ⟨I', M', rfl, r, m, C, q⟩ := q; rcases q with ⟨h2, h0⟩ | ⟨h2, h0, rfl⟩ <;> first | exact absurd h1 h2 | exact absurd h2 h1 | exact ⟨I', M', rfl, r, m, C, h0, fun h => absurd h (by omega)⟩ | exact ⟨I', M', rfl, r, m, C, h0, fun _ => rfl⟩))⟩
    · obtain ⟨Tl, S, _, hE⟩ := N.2.2.2.2.2
      have he := (hE y.toNat (by omega)).1.2.2.2.2
      exact Or.inl ⟨I', M', p', _, _, rfl, r, m, N.1, h6, Or.inr (Or.inr ⟨rfl, _, ⟨by omega, by omega⟩, rfl⟩), (fun L xs d j I M p hM => jc_mono (op_value_m (d := d) hM ⟨hv.2.1, hv.2.2.2.1, hv.2.2.2.2⟩ hy hb.2 N.2.2.1 N.2.2.2.1) (fun v g1 q => by obtain ⟨I', M', rfl, r, m, C, q⟩ := q; rcases q with ⟨h2, h0⟩ | ⟨h2, h0, rfl⟩ <;> first | exact absurd h1 h2 | exact absurd h2 h1 | exact ⟨I', M', rfl, r, m, C, h0, fun h => absurd h (by omega)⟩ | exact ⟨I', M', rfl, r, m, C, h0, fun _ => rfl⟩))⟩
  · skip
    refine jx_mono (op_value_t (d := d + 37) hx hR hb) (fun z q => ?_)
    obtain ⟨g1, rfl, rfl⟩ := q
    exact Or.inr ⟨I, M, p, 52, 1, rfl, fr_r _, fr_r _, hR, ⟨rfl, rfl⟩, (fun L xs d j I M p hM => jc_mono (op_value_b (d := d + 6) hM ⟨hv.2.1, hv.2.2.2.1, hv.2.2.2.2⟩ hx hb) (fun v g1 q => by obtain ⟨I', M', rfl, r, m, C, h0⟩ := q; exact ⟨I', M', rfl, r, m, C, h0, fun h => absurd h (by omega)⟩))⟩
theorem co_next (h6 : A6 A) (hx : iR x) (hy : iR y) : COP 1 14 162 (X2 50 53) [.int (iI x), .int (iI y)] A := by
  intro L xs d j I M p hR
  have hv := hR.1
  have hv12 := hv.2.2.2.2.2.2.1
  by_cases hb : (0 ≤ x ∧ x < 4) ∧ 0 ≤ y
  · obtain ⟨fq, rfl⟩ : ∃ fq : Nat, x = ((fq : Nat) : Int) := ⟨x.toNat, by omega⟩
    have hfq : fq < 4 := by omega
    by_cases hk : 0 < anF A fq
    · obtain ⟨f0, rfl⟩ : ∃ f0 : Nat, y = ((f0 : Nat) : Int) := ⟨y.toNat, by omega⟩
      refine jx_mono (op_next_c (d := d + 5) hR hfq (by omega) hk) (fun z q => ?_)
      obtain ⟨v, g1, rfl, I', M', p', r0, rfl, r, m, R1, rfl, hN1⟩ := q
      have hir : iR r0 := by
        rcases hN1 with ⟨k, _, q, _, _, rfl⟩ | ⟨_, rfl⟩
        · exact ⟨by omega, by omega⟩
        · exact ⟨by omega, by omega⟩
      exact Or.inl ⟨I', M', p', _, _, rfl, r, m, R1, h6, Or.inr (Or.inl ⟨rfl, _, hir, rfl⟩), (fun L xs d j I M p hM => jc_mono (op_next_m (d := d) hM ⟨hv.2.1, hv.2.2.1, hv.2.2.2.1, hv.2.2.2.2⟩ hfq (by omega) hk hN1) (fun v g1 q => by obtain ⟨I', M', rfl, r, m, C, h0, rfl⟩ := q; exact ⟨I', M', rfl, r, m, C, h0, fun _ => rfl⟩))⟩
    · skip
      refine jx_mono (op_next_t2 (d := d + 37) hR hfq hy hb.2 hk) (fun z q => ?_)
      obtain ⟨g1, rfl, rfl⟩ := q
      exact Or.inr ⟨I, M, p, 53, 2, rfl, fr_r _, fr_r _, hR, Or.inr ⟨rfl, rfl⟩, (fun L xs d j I M p hM => jc_mono (op_next_b2 (d := d + 7) hM ⟨hv.2.1, hv.2.2.1, hv.2.2.2.1, hv.2.2.2.2⟩ hfq hy hb.2 hk) (fun v g1 q => by obtain ⟨I', M', rfl, r, m, C, h0⟩ := q; exact ⟨I', M', rfl, r, m, C, h0, fun h => absurd h (by omega)⟩))⟩
  · skip
    refine jx_mono (op_next_t1 (d := d + 37) hx hy hb) (fun z q => ?_)
    obtain ⟨g1, rfl, rfl⟩ := q
    exact Or.inr ⟨I, M, p, 50, 1, rfl, fr_r _, fr_r _, hR, Or.inl ⟨rfl, rfl⟩, (fun L xs d j I M p hM => jc_mono (op_next_b1 (d := d + 7) hM ⟨hv.2.1, hv.2.2.1, hv.2.2.2.1, hv.2.2.2.2⟩ hx hy hb) (fun v g1 q => by obtain ⟨I', M', rfl, r, m, C, h0⟩ := q; exact ⟨I', M', rfl, r, m, C, h0, fun h => absurd h (by omega)⟩))⟩
theorem co_total (h6 : A6 A) (hx : iR x) (hy : iR y) (hz : iR z) (hu : iR u) : COP 3 15 164 (X2 50 53) [.int (iI x), .int (iI y), .int (iI z), .int (iI u)] A := by
  intro L xs d j I M p hR
  have hv := hR.1
  have hv12 := hv.2.2.2.2.2.2.1
  by_cases hb : (0 ≤ x ∧ x < 4) ∧ (0 ≤ y ∧ y < 4) ∧ (0 ≤ z ∧ z < 9) ∧ (0 ≤ u ∧ u < 4)
  · obtain ⟨fq, rfl⟩ : ∃ fq : Nat, x = ((fq : Nat) : Int) := ⟨x.toNat, by omega⟩
    have hfq : fq < 4 := by omega
    by_cases hk : 0 < anF A fq
    · obtain ⟨q0, rfl⟩ : ∃ q0 : Nat, u = ((q0 : Nat) : Int) := ⟨u.toNat, by omega⟩
      have hq : q0 < 4 := by omega
      refine jx_mono (op_total_c (d := d + 5) hR hfq hb.2.1 hb.2.2.1 hq hk) (fun z q => ?_)
      obtain ⟨v, g1, rfl, I', M', p', ov, rfl, r, m, R1, hFV, rfl⟩ := q
      have ht := tT_b (k := (A 103 12).toNat) (fun i hi v hv => FV_b (hFV i (by omega)) hv)
      have hlr : lR (tT ov (A 103 12).toNat q0) := by
        have : q0 = 0 ∨ q0 = 1 ∨ q0 = 2 ∨ q0 = 3 := by omega
        rcases this with rfl | rfl | rfl | rfl <;> exact ⟨by omega, by omega⟩
      exact Or.inl ⟨I', M', p', _, _, rfl, r, m, R1, h6, Or.inr (Or.inr ⟨rfl, _, hlr, rfl⟩), (fun L xs d j I M p hM => jc_mono (op_total_m (d := d) hM ⟨hv.2.1, hv.2.2.1, hv.2.2.2.1, hv.2.2.2.2⟩ hfq hb.2.1 hb.2.2.1 hq hk hFV) (fun v g1 q => by obtain ⟨I', M', rfl, r, m, C, h0, rfl⟩ := q; exact ⟨I', M', rfl, r, m, C, h0, fun _ => rfl⟩))⟩
    · skip
      refine jx_mono (op_total_t2 (d := d + 37) hR hfq hb.2.1 hb.2.2.1 hb.2.2.2 hk) (fun z q => ?_)
      obtain ⟨g1, rfl, rfl⟩ := q
      exact Or.inr ⟨I, M, p, 53, 2, rfl, fr_r _, fr_r _, hR, Or.inr ⟨rfl, rfl⟩, (fun L xs d j I M p hM => jc_mono (op_total_b2 (d := d + 7) hM ⟨hv.2.1, hv.2.2.1, hv.2.2.2.1, hv.2.2.2.2⟩ hfq hb.2.1 hb.2.2.1 hb.2.2.2 hk) (fun v g1 q => by obtain ⟨I', M', rfl, r, m, C, h0⟩ := q; exact ⟨I', M', rfl, r, m, C, h0, fun h => absurd h (by omega)⟩))⟩
  · skip
    refine jx_mono (op_total_t1 (d := d + 37) hx hy hz hu hb) (fun z q => ?_)
    obtain ⟨g1, rfl, rfl⟩ := q
    exact Or.inr ⟨I, M, p, 50, 1, rfl, fr_r _, fr_r _, hR, Or.inl ⟨rfl, rfl⟩, (fun L xs d j I M p hM => jc_mono (op_total_b1 (d := d + 7) hM ⟨hv.2.1, hv.2.2.1, hv.2.2.2.1, hv.2.2.2.2⟩ hx hy hz hu hb) (fun v g1 q => by obtain ⟨I', M', rfl, r, m, C, h0⟩ := q; exact ⟨I', M', rfl, r, m, C, h0, fun h => absurd h (by omega)⟩))⟩
theorem co_talks (h6 : A6 A) (hx : iR x) (hy : iR y) (hz : iR z) (hu : iR u) : COP 1 16 165 (X1 50) [.int (iI x), .int (iI y), .int (iI z), .int (iI u)] A := by
  intro L xs d j I M p hR
  have hv := hR.1
  have hv12 := hv.2.2.2.2.2.2.1
  obtain ⟨c, hc⟩ : ∃ c : Nat, A 103 12 = ((c : Nat) : Int) := ⟨(A 103 12).toNat, by omega⟩
  by_cases hb : (0 ≤ x ∧ x < 4) ∧ (0 ≤ y ∧ y < 8) ∧ (0 ≤ z ∧ z < 4) ∧ (0 ≤ u ∧ u < 8)
  · skip
    refine jx_mono (op_talks_c (d := d + 25) hR h6 hc hb.1 hb.2.1 hb.2.2.1 hb.2.2.2) (fun z q => ?_)
    obtain ⟨v, g1, rfl, I', M', p', pv, rfl, r, m, R1, hPV, rfl⟩ := q
    have h44 := aTk_44 (pv := pv) h6 (k := c)
    exact Or.inl ⟨I', M', p', _, _, rfl, r, m, R1, (fun f => aTk_6 h6 c f), Or.inr (Or.inl ⟨rfl, _, ⟨by omega, by omega⟩, rfl⟩), (fun L xs d j I M p hM => jc_mono (op_talks_m (d := d + 1) hM ⟨hv.2.1, hv.2.2.2.1, hv.2.2.2.2⟩ h6 hc hb.1 hb.2.1 hb.2.2.1 hb.2.2.2 hPV) (fun v g1 q => by obtain ⟨I', M', rfl, r, m, C, h0, rfl⟩ := q; exact ⟨I', M', rfl, r, m, C, h0, fun _ => rfl⟩))⟩
  · skip
    refine jx_mono (op_talks_t (d := d + 37) hx hy hz hu hb) (fun z q => ?_)
    obtain ⟨g1, rfl, rfl⟩ := q
    exact Or.inr ⟨I, M, p, 50, 1, rfl, fr_r _, fr_r _, hR, ⟨rfl, rfl⟩, (fun L xs d j I M p hM => jc_mono (op_talks_b (d := d + 7) hM hx hy hz hu hb) (fun v g1 q => by obtain ⟨I', rfl, r, C, h0⟩ := q; exact ⟨I', M, rfl, r, fr_r _, C, h0, fun h => absurd h (by omega)⟩))⟩
theorem co_talk (h6 : A6 A) (hx : iR x) (hy : iR y) : COP 3 17 168 (X2 52 50) [.int (iI x), .int (iI y)] A := by
  intro L xs d j I M p hR
  have hv := hR.1
  have hv12 := hv.2.2.2.2.2.2.1
  have hA := AT_of hR.2.2.2.2.2.2.1 hv12.2
  by_cases hb : 0 ≤ x ∧ x < A 103 44
  · by_cases hb2 : 0 ≤ y ∧ y < 6
    · obtain ⟨k, rfl⟩ : ∃ k : Nat, x = ((k : Nat) : Int) := ⟨x.toNat, by omega⟩
      obtain ⟨q0, rfl⟩ : ∃ q0 : Nat, y = ((q0 : Nat) : Int) := ⟨y.toNat, by omega⟩
      have hlr : lR (tk A k q0) := by
        unfold tk
        have h1 := hA.2.2 k hb.2
        have h2 := tcnt_b hv.2.2.2.2 (k : Int) (if q0 % 2 = 0 then 1 else 0) (if q0 < 4 then 0 else 1) (A 103 12).toNat (by omega)
        split
        · exact ⟨by omega, by omega⟩
        · split
          · exact ⟨by omega, by omega⟩
          · exact ⟨by omega, by omega⟩
      refine jx_mono (op_talk_c (d := d + 37) hR hb.2 (by omega)) (fun z q => ?_)
      obtain ⟨v, g1, rfl, rfl, rfl⟩ := q
      have hREF : REF 168 [.int (iI ((k : Nat) : Int)), .int (iI ((q0 : Nat) : Int))] A A 0 (some (.long (lI (tk A k q0)))) := by
        have : q0 = 0 ∨ q0 = 1 ∨ q0 = 2 ∨ q0 = 3 ∨ q0 = 4 ∨ q0 = 5 := by omega
        rcases this with rfl | rfl | rfl | rfl | rfl | rfl
        · exact (fun L xs d j I M p hM => jc_mono (op_talk_m0 (d := d + 7) hM hA hv.2.2.2.2 hb.2) (fun v g1 q => by obtain ⟨I', rfl, r, C, h0, rfl⟩ := q; exact ⟨I', M, rfl, r, fr_r _, C, h0, fun _ => rfl⟩))
        · exact (fun L xs d j I M p hM => jc_mono (op_talk_m1 (d := d + 7) hM hA hv.2.2.2.2 hb.2) (fun v g1 q => by obtain ⟨I', rfl, r, C, h0, rfl⟩ := q; exact ⟨I', M, rfl, r, fr_r _, C, h0, fun _ => rfl⟩))
        · exact (fun L xs d j I M p hM => jc_mono (op_talk_m2 (d := d + 7) hM hA hv.2.2.2.2 hb.2) (fun v g1 q => by obtain ⟨I', rfl, r, C, h0, rfl⟩ := q; exact ⟨I', M, rfl, r, fr_r _, C, h0, fun _ => rfl⟩))
        · exact (fun L xs d j I M p hM => jc_mono (op_talk_m3 (d := d + 7) hM hA hv.2.2.2.2 hb.2) (fun v g1 q => by obtain ⟨I', rfl, r, C, h0, rfl⟩ := q; exact ⟨I', M, rfl, r, fr_r _, C, h0, fun _ => rfl⟩))
        · exact (fun L xs d j I M p hM => jc_mono (op_talk_m4 (d := d + 7) hM hA hv.2.2.2.2 hb.2) (fun v g1 q => by obtain ⟨I', rfl, r, C, h0, rfl⟩ := q; exact ⟨I', M, rfl, r, fr_r _, C, h0, fun _ => rfl⟩))
        · exact (fun L xs d j I M p hM => jc_mono (op_talk_m5 (d := d + 7) hM hA hv.2.2.2.2 hb.2) (fun v g1 q => by obtain ⟨I', rfl, r, C, h0, rfl⟩ := q; exact ⟨I', M, rfl, r, fr_r _, C, h0, fun _ => rfl⟩))
      exact Or.inl ⟨I, M, p, _, _, rfl, fr_r _, fr_r _, hR, h6, Or.inr (Or.inr ⟨rfl, _, hlr, rfl⟩), hREF⟩
    · skip
      refine jx_mono (op_talk_t2 (d := d + 37) hx hy hR hb hb2) (fun z q => ?_)
      obtain ⟨g1, rfl, rfl⟩ := q
      exact Or.inr ⟨I, M, p, 50, 2, rfl, fr_r _, fr_r _, hR, Or.inr ⟨rfl, rfl⟩, (fun L xs d j I M p hM => jc_mono (op_talk_b2 (d := d + 7) hM hA hv.2.2.2.2 hx hy hb hb2) (fun v g1 q => by obtain ⟨I', rfl, r, C, h0⟩ := q; exact ⟨I', M, rfl, r, fr_r _, C, h0, fun h => absurd h (by omega)⟩))⟩
  · skip
    refine jx_mono (op_talk_t1 (d := d + 37) hx hR hb) (fun z q => ?_)
    obtain ⟨g1, rfl, rfl⟩ := q
    exact Or.inr ⟨I, M, p, 52, 1, rfl, fr_r _, fr_r _, hR, Or.inl ⟨rfl, rfl⟩, (fun L xs d j I M p hM => jc_mono (op_talk_b1 (d := d + 7) hM hA hv.2.2.2.2 hx hb) (fun v g1 q => by obtain ⟨I', rfl, r, C, h0⟩ := q; exact ⟨I', M, rfl, r, fr_r _, C, h0, fun h => absurd h (by omega)⟩))⟩
theorem co_stream (h6 : A6 A) (hx : iR x) (hy : iR y) (hz : iR z) : COP 1 18 170 (X2 52 50) [.int (iI x), .int (iI y), .int (iI z)] A := by
  intro L xs d j I M p hR
  have hv := hR.1
  have hv12 := hv.2.2.2.2.2.2.1
  obtain ⟨c, hc⟩ : ∃ c : Nat, A 103 12 = ((c : Nat) : Int) := ⟨(A 103 12).toNat, by omega⟩
  have hA := AT_of hR.2.2.2.2.2.2.1 hv12.2
  by_cases hb : 0 ≤ x ∧ x < A 103 44
  · by_cases hb2 : (0 ≤ y ∧ y < 4) ∧ (0 ≤ z ∧ z < 8)
    · obtain ⟨xk, rfl⟩ : ∃ xk : Nat, x = ((xk : Nat) : Int) := ⟨x.toNat, by omega⟩
      refine jx_mono (op_stream_c (d := d + 25) hR hc hb.2 hb2.1 hb2.2) (fun z q => ?_)
      obtain ⟨v, g1, rfl, I', M', p', wd, jv, rfl, r, m, R1, hJV, rfl⟩ := q
      have hjc := jC_b (B := jR jv A wd c) 64
      exact Or.inl ⟨I', M', p', _, _, rfl, r, m, R1, A6_o h6 (fun f => jR_o (by omega)), Or.inr (Or.inl ⟨rfl, _, ⟨by omega, by omega⟩, rfl⟩), (fun L xs d j I M p hM => jc_mono (op_stream_m (d := d + 1) hM hA ⟨hv.2.1, hv.2.2.2.1, hv.2.2.2.2⟩ hc hb.2 hb2.1 hb2.2 hJV) (fun v g1 q => by obtain ⟨I', M', rfl, r, m, C, h0, rfl⟩ := q; exact ⟨I', M', rfl, r, m, C, h0, fun _ => rfl⟩))⟩
    · skip
      refine jx_mono (op_stream_t2 (d := d + 37) hR hx hb hy hz hb2) (fun z q => ?_)
      obtain ⟨g1, rfl, rfl⟩ := q
      exact Or.inr ⟨I, M, p, 50, 2, rfl, fr_r _, fr_r _, hR, Or.inr ⟨rfl, rfl⟩, (fun L xs d j I M p hM => jc_mono (op_stream_b2 (d := d + 7) hM hA hx hb hy hz hb2) (fun v g1 q => by obtain ⟨I', rfl, r, C, h0⟩ := q; exact ⟨I', M, rfl, r, fr_r _, C, h0, fun h => absurd h (by omega)⟩))⟩
  · skip
    refine jx_mono (op_stream_t1 (d := d + 37) hR hx hb) (fun z q => ?_)
    obtain ⟨g1, rfl, rfl⟩ := q
    exact Or.inr ⟨I, M, p, 52, 1, rfl, fr_r _, fr_r _, hR, Or.inl ⟨rfl, rfl⟩, (fun L xs d j I M p hM => jc_mono (op_stream_b1 (d := d + 7) hM hA hx hb) (fun v g1 q => by obtain ⟨I', rfl, r, C, h0⟩ := q; exact ⟨I', M, rfl, r, fr_r _, C, h0, fun h => absurd h (by omega)⟩))⟩
end H15
