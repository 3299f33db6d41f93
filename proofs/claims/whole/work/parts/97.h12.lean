/-! printed by wip/whole/gen/h12.py: operation total -/
theorem jc_ex {L : Nat} {xs : Nat → Int32} {d k : Nat} {av : List Value} {g : jm_H} {P : Option Value → jm_H → Prop} (h : jc L xs d k av g P) : ∃ v g1, P v g1 := by
  obtain ⟨_, _, _, v, g1, _, h⟩ := h
  exact ⟨v, g1, h⟩
theorem lI_min {a b : Int} (h : lR a ∧ lR b) : (if lI a < lI b then lI a else lI b) = lI (if a < b then a else b) := by
  by_cases e : a < b
  · rw [if_pos e, if_pos ((lI_lt h).2 e)]
  · rw [if_neg e, if_neg (fun z => e ((lI_lt h).1 z))]
theorem lI_max {a b : Int} (h : lR a ∧ lR b) : (if lI a < lI b then lI b else lI a) = lI (if a < b then b else a) := by
  by_cases e : a < b
  · rw [if_pos e, if_pos ((lI_lt h).2 e)]
  · rw [if_neg e, if_neg (fun z => e ((lI_lt h).1 z))]
/-- filter fq has truth b for frame f, whose entries are s -/
def TRs (A : AB) (fq f : Nat) (s : DSt) (b : Bool) : Prop := ∃ (W : Nat → Nat → Int) (k : Nat) (y l t : Bool), DEC (acL A) (anL A) (afc A) (afv A) (afn A) (aB A f) (aZ A f) (aLim A) (aRoot A f) s ∧ EP W (aZ A f) s ∧ (0 ≤ s 0 2 ∧ s 0 2 ≤ 64) ∧ VR (acF A fq) s k 0 [(false, true, false)] (anF A fq) [(y, l, t)] ∧ b = (y || l)
/-- the value that frame f gives -/
def FV (A : AB) (fq : Nat) (l nm : Int) (f : Nat) (o : Option Int) : Prop := ∃ (s : DSt) (b : Bool), TRs A fq f s b ∧ ∃ r, FS s l nm r ∧ ((b = true ∧ 0 ≤ r ∧ o = some (s 8 r.toNat)) ∨ ((b = false ∨ r = -1) ∧ o = none))
theorem FS_b {s : DSt} {l nm r : Int} (h : FS s l nm r) : r = -1 ∨ (0 ≤ r ∧ r < s 0 2) := by
  rcases h with ⟨k, rfl, h1, _⟩ | ⟨h1, _⟩ <;> omega
theorem FV_b {A : AB} {fq f : Nat} {l nm v : Int} {o : Option Int} (h : FV A fq l nm f o) (e : o = some v) : 0 ≤ v ∧ v < 4294967296 := by
  obtain ⟨s, b, ⟨W, _, _, _, _, _, hE, _⟩, r, hF, h⟩ := h
  rcases h with ⟨_, hr, q⟩ | ⟨_, q⟩
  · have hb := FS_b hF
    obtain rfl : s 8 r.toNat = v := Option.some.inj (q.symm.trans e)
    exact (hE r.toNat (by omega)).1.2.2.2.2
  · rw [q] at e; cases e
def tN (q : Nat) (v : Int) (t : Nat → Int) : Int := if q = 0 then t 0 + 1 else if q = 1 then t 1 + v else if q = 2 then (if t 0 = 0 then v else if v < t 2 then v else t 2) else (if v < t 3 then t 3 else v)
def tT (ov : Nat → Option Int) : Nat → Nat → Int
  | 0, _ => 0
  | k + 1, q => match ov k with
    | none => tT ov k q
    | some v => tN q v (tT ov k)
section TT
variable {ov ov' : Nat → Option Int} {k q : Nat} {v : Int}
theorem tT_n (h : ov k = none) : tT ov (k + 1) q = tT ov k q := by
  show (match ov k with | none => tT ov k q | some v => tN q v (tT ov k)) = _
  rw [h]
theorem tT_v (h : ov k = some v) : tT ov (k + 1) q = tN q v (tT ov k) := by
  show (match ov k with | none => tT ov k q | some v => tN q v (tT ov k)) = _
  rw [h]
theorem tT_c : ∀ {k : Nat}, (∀ i, i < k → ov' i = ov i) → tT ov' k = tT ov k := by
  intro k
  induction k with
  | zero => intro _; rfl
  | succ k ih =>
    intro h
    funext q
    have e := ih (fun i hi => h i (by omega))
    cases ho : ov k with
    | none => rw [tT_n ho, tT_n ((h k (by omega)).trans ho), e]
    | some v => rw [tT_v ho, tT_v ((h k (by omega)).trans ho), e]
theorem tT_un : tT (fun i => if i = k then none else ov i) (k + 1) q = tT ov k q := by
  rw [tT_n (if_pos rfl), tT_c (ov := ov) (fun i hi => if_neg (by omega))]
theorem tT_us : tT (fun i => if i = k then some v else ov i) (k + 1) q = tN q v (tT ov k) := by
  rw [tT_v (if_pos rfl), tT_c (ov := ov) (fun i hi => if_neg (by omega))]
theorem tT_b : ∀ {k : Nat}, (∀ i, i < k → ∀ v, ov i = some v → 0 ≤ v ∧ v < 4294967296) → (0 ≤ tT ov k 0 ∧ tT ov k 0 ≤ k) ∧ (0 ≤ tT ov k 1 ∧ tT ov k 1 ≤ 4294967296 * k) ∧ (0 ≤ tT ov k 2 ∧ tT ov k 2 < 4294967296) ∧ (0 ≤ tT ov k 3 ∧ tT ov k 3 < 4294967296) ∧ (tT ov k 0 = 0 → tT ov k 3 = 0) := by
  intro k
  induction k with
  | zero => intro _; exact ⟨⟨Int.le_refl _, Int.le_refl _⟩, ⟨Int.le_refl _, Int.le_refl _⟩, ⟨Int.le_refl _, by show (0 : Int) < 4294967296; omega⟩, ⟨Int.le_refl _, by show (0 : Int) < 4294967296; omega⟩, fun _ => rfl⟩
  | succ k ih =>
    intro h
    have e := ih (fun i hi => h i (by omega))
    cases ho : ov k with
    | none => rw [tT_n ho, tT_n ho, tT_n ho, tT_n ho]; omega
    | some v =>
      have hv := h k (by omega) v ho
      rw [tT_v ho, tT_v ho, tT_v ho, tT_v ho]
      show (0 ≤ tT ov k 0 + 1 ∧ tT ov k 0 + 1 ≤ _) ∧ (0 ≤ tT ov k 1 + v ∧ tT ov k 1 + v ≤ _) ∧ (0 ≤ (if tT ov k 0 = 0 then v else if v < tT ov k 2 then v else tT ov k 2) ∧ (if tT ov k 0 = 0 then v else if v < tT ov k 2 then v else tT ov k 2) < 4294967296) ∧ (0 ≤ (if v < tT ov k 3 then tT ov k 3 else v) ∧ (if v < tT ov k 3 then tT ov k 3 else v) < 4294967296) ∧ (tT ov k 0 + 1 = 0 → _)
      refine ⟨by omega, by omega, ?_, ?_, fun z => absurd z (by omega)⟩
      · split
        · exact hv
        · split <;> omega
      · split <;> omega
theorem tN_0 {t : Nat → Int} : tN 0 v t = t 0 + 1 := rfl
theorem tN_1 {t : Nat → Int} : tN 1 v t = t 1 + v := rfl
theorem tN_2 {t : Nat → Int} : tN 2 v t = (if t 0 = 0 then v else if v < t 2 then v else t 2) := rfl
theorem tN_3 {t : Nat → Int} : tN 3 v t = (if v < t 3 then t 3 else v) := rfl
end TT
section H12
variable {L : Nat} {xs : Nat → Int32} {d j : Nat} {I : Nat → Nat → Int32} {M : Nat → Nat → Int64} {p : Nat → Option Nat}
variable {A : AB} {x y z u l nm : Int} {fq q : Nat} {ov : Nat → Option Int}
theorem op_total_t1 (hx : iR x) (hy : iR y) (hz : iR z) (hu : iR u) (hbad : ¬ ((0 ≤ x ∧ x < 4) ∧ (0 ≤ y ∧ y < 4) ∧ (0 ≤ z ∧ z < 9) ∧ (0 ≤ u ∧ u < 4))) : jt L xs (d + 1) 15 [.ref 0, .int (iI x), .int (iI y), .int (iI z), .int (iI u)] (jx_G j I M p) 50 (fun g1 => g1 = jx_G (j + 1) I M p) := by
  unfold jt
  refine jv_iload_n (pc' := 1) (k := 3) (x := (iI z)) rfl rfl rfl rfl ?_
  refine jv_call (pc' := 4) rfl (cl_isFieldName (by omega)) (fun vq1 gq1 q1 => ?_)
  obtain ⟨rfl, rfl⟩ := q1
  show jx L xs _ 15 4 _ [.int (jb (0 ≤ z ∧ z < 8))] _ _
  refine jv_jb_ne (t := 13) (pc' := 7) (P := 0 ≤ z ∧ z < 8) rfl rfl rfl (fun hz_2 => ?_) (fun hz_2 => ?_)
  · skip
    refine jv_iconst (pc' := 14) (n := 1) rfl rfl ?_
    refine jx_step (pc' := 18) rfl ?_
    refine jv_istore (pc' := 20) (k := 5) (x := (iI 1)) rfl rfl rfl (Or.inr rfl) ?_
    refine jv_iload_n (pc' := 21) (k := 1) (x := (iI x)) rfl rfl rfl rfl ?_
    refine jv_call (pc' := 24) rfl (cl_isFilter (by omega)) (fun vq3 gq3 q3 => ?_)
    obtain ⟨rfl, rfl⟩ := q3
    show jx L xs _ 15 24 _ [.int (jb (0 ≤ x ∧ x < 4))] _ _
    refine jv_jb_eq (t := 50) (pc' := 27) (P := 0 ≤ x ∧ x < 4) rfl rfl rfl (fun hz_4 => ?_) (fun hz_4 => ?_)
    · skip
      refine jx_ret0 rfl ⟨_, rfl, ?_⟩
      first
      | (exfalso; omega)
      | rfl
    · skip
      refine jv_iload_n (pc' := 28) (k := 2) (x := (iI y)) rfl rfl rfl rfl ?_
      refine jv_call (pc' := 31) rfl (cl_isLayer (by omega)) (fun vq5 gq5 q5 => ?_)
      obtain ⟨rfl, rfl⟩ := q5
      show jx L xs _ 15 31 _ [.int (jb (0 ≤ y ∧ y < 4))] _ _
      refine jv_jb_eq (t := 50) (pc' := 34) (P := 0 ≤ y ∧ y < 4) rfl rfl rfl (fun hz_6 => ?_) (fun hz_6 => ?_)
      · skip
        refine jx_ret0 rfl ⟨_, rfl, ?_⟩
        first
        | (exfalso; omega)
        | rfl
      · skip
        refine jv_iload (pc' := 36) (k := 5) (x := (iI 1)) rfl rfl rfl ?_
        refine jv_if_eq (t := 50) (pc' := 39) (a := 1) rfl rfl rfl (by omega) (fun hz_7 => ?_) (fun hz_7 => ?_)
        · skip
          exact absurd hz_7 (by decide)
        · skip
          refine jv_iload (pc' := 41) (k := 4) (x := (iI u)) rfl rfl rfl ?_
          refine jv_if_lt (t := 50) (pc' := 44) (a := u) rfl rfl rfl (by omega) (fun hz_8 => ?_) (fun hz_8 => ?_)
          · skip
            refine jx_ret0 rfl ⟨_, rfl, ?_⟩
            first
            | (exfalso; omega)
            | rfl
          · skip
            refine jv_iload (pc' := 46) (k := 4) (x := (iI u)) rfl rfl rfl ?_
            refine jv_iconst (pc' := 47) (n := 3) rfl rfl ?_
            refine jv_ic_le (t := 58) (pc' := 50) (a := u) (b := 3) rfl rfl rfl (by omega) (fun hz_9 => ?_) (fun hz_9 => ?_)
            · skip
              exfalso; omega
            · skip
              refine jx_ret0 rfl ⟨_, rfl, ?_⟩
              first
              | (exfalso; omega)
              | rfl
  · skip
    refine jv_iload_n (pc' := 8) (k := 3) (x := (iI z)) rfl rfl rfl rfl ?_
    refine jv_bipush (pc' := 10) (n := 8) rfl rfl rfl ?_
    refine jv_ic_ne (t := 17) (pc' := 13) (a := z) (b := 8) rfl rfl rfl (by omega) (fun hz_10 => ?_) (fun hz_10 => ?_)
    · skip
      refine jv_iconst (pc' := 18) (n := 0) rfl rfl ?_
      refine jv_istore (pc' := 20) (k := 5) (x := (iI 0)) rfl rfl rfl (Or.inr rfl) ?_
      refine jv_iload_n (pc' := 21) (k := 1) (x := (iI x)) rfl rfl rfl rfl ?_
      refine jv_call (pc' := 24) rfl (cl_isFilter (by omega)) (fun vq11 gq11 q11 => ?_)
      obtain ⟨rfl, rfl⟩ := q11
      show jx L xs _ 15 24 _ [.int (jb (0 ≤ x ∧ x < 4))] _ _
      refine jv_jb_eq (t := 50) (pc' := 27) (P := 0 ≤ x ∧ x < 4) rfl rfl rfl (fun hz_12 => ?_) (fun hz_12 => ?_)
      · skip
        refine jx_ret0 rfl ⟨_, rfl, ?_⟩
        first
        | (exfalso; omega)
        | rfl
      · skip
        refine jv_iload_n (pc' := 28) (k := 2) (x := (iI y)) rfl rfl rfl rfl ?_
        refine jv_call (pc' := 31) rfl (cl_isLayer (by omega)) (fun vq13 gq13 q13 => ?_)
        obtain ⟨rfl, rfl⟩ := q13
        show jx L xs _ 15 31 _ [.int (jb (0 ≤ y ∧ y < 4))] _ _
        refine jv_jb_eq (t := 50) (pc' := 34) (P := 0 ≤ y ∧ y < 4) rfl rfl rfl (fun hz_14 => ?_) (fun hz_14 => ?_)
        · skip
          refine jx_ret0 rfl ⟨_, rfl, ?_⟩
          first
          | (exfalso; omega)
          | rfl
        · skip
          refine jv_iload (pc' := 36) (k := 5) (x := (iI 0)) rfl rfl rfl ?_
          refine jv_if_eq (t := 50) (pc' := 39) (a := 0) rfl rfl rfl (by omega) (fun hz_15 => ?_) (fun hz_15 => ?_)
          · skip
            refine jx_ret0 rfl ⟨_, rfl, ?_⟩
            first
            | (exfalso; omega)
            | rfl
          · skip
            exact absurd hz_15 (by decide)
    · skip
      refine jv_iconst (pc' := 14) (n := 1) rfl rfl ?_
      refine jx_step (pc' := 18) rfl ?_
      refine jv_istore (pc' := 20) (k := 5) (x := (iI 1)) rfl rfl rfl (Or.inr rfl) ?_
      refine jv_iload_n (pc' := 21) (k := 1) (x := (iI x)) rfl rfl rfl rfl ?_
      refine jv_call (pc' := 24) rfl (cl_isFilter (by omega)) (fun vq16 gq16 q16 => ?_)
      obtain ⟨rfl, rfl⟩ := q16
      show jx L xs _ 15 24 _ [.int (jb (0 ≤ x ∧ x < 4))] _ _
      refine jv_jb_eq (t := 50) (pc' := 27) (P := 0 ≤ x ∧ x < 4) rfl rfl rfl (fun hz_17 => ?_) (fun hz_17 => ?_)
      · skip
        refine jx_ret0 rfl ⟨_, rfl, ?_⟩
        first
        | (exfalso; omega)
        | rfl
      · skip
        refine jv_iload_n (pc' := 28) (k := 2) (x := (iI y)) rfl rfl rfl rfl ?_
        refine jv_call (pc' := 31) rfl (cl_isLayer (by omega)) (fun vq18 gq18 q18 => ?_)
        obtain ⟨rfl, rfl⟩ := q18
        show jx L xs _ 15 31 _ [.int (jb (0 ≤ y ∧ y < 4))] _ _
        refine jv_jb_eq (t := 50) (pc' := 34) (P := 0 ≤ y ∧ y < 4) rfl rfl rfl (fun hz_19 => ?_) (fun hz_19 => ?_)
        · skip
          refine jx_ret0 rfl ⟨_, rfl, ?_⟩
          first
          | (exfalso; omega)
          | rfl
        · skip
          refine jv_iload (pc' := 36) (k := 5) (x := (iI 1)) rfl rfl rfl ?_
          refine jv_if_eq (t := 50) (pc' := 39) (a := 1) rfl rfl rfl (by omega) (fun hz_20 => ?_) (fun hz_20 => ?_)
          · skip
            exact absurd hz_20 (by decide)
          · skip
            refine jv_iload (pc' := 41) (k := 4) (x := (iI u)) rfl rfl rfl ?_
            refine jv_if_lt (t := 50) (pc' := 44) (a := u) rfl rfl rfl (by omega) (fun hz_21 => ?_) (fun hz_21 => ?_)
            · skip
              refine jx_ret0 rfl ⟨_, rfl, ?_⟩
              first
              | (exfalso; omega)
              | rfl
            · skip
              refine jv_iload (pc' := 46) (k := 4) (x := (iI u)) rfl rfl rfl ?_
              refine jv_iconst (pc' := 47) (n := 3) rfl rfl ?_
              refine jv_ic_le (t := 58) (pc' := 50) (a := u) (b := 3) rfl rfl rfl (by omega) (fun hz_22 => ?_) (fun hz_22 => ?_)
              · skip
                exfalso; omega
              · skip
                refine jx_ret0 rfl ⟨_, rfl, ?_⟩
                first
                | (exfalso; omega)
                | rfl
theorem op_total_t2 (hR : CR I M p A) (hfq : fq < 4) (hl : 0 ≤ l ∧ l < 4) (hnm : 0 ≤ nm ∧ nm < 9) (hu : 0 ≤ u ∧ u < 4) (hk : ¬ 0 < anF A fq) : jt L xs (d + 1) 15 [.ref 0, .int (iI ((fq : Nat) : Int)), .int (iI l), .int (iI nm), .int (iI u)] (jx_G j I M p) 53 (fun g1 => g1 = jx_G (j + 1) I M p) := by
  unfold jt
  refine jv_iload_n (pc' := 1) (k := 3) (x := (iI nm)) rfl rfl rfl rfl ?_
  refine jv_call (pc' := 4) rfl (cl_isFieldName (by omega)) (fun vq1 gq1 q1 => ?_)
  obtain ⟨rfl, rfl⟩ := q1
  show jx L xs _ 15 4 _ [.int (jb (0 ≤ nm ∧ nm < 8))] _ _
  refine jv_jb_ne (t := 13) (pc' := 7) (P := 0 ≤ nm ∧ nm < 8) rfl rfl rfl (fun hz_2 => ?_) (fun hz_2 => ?_)
  · skip
    refine jv_iconst (pc' := 14) (n := 1) rfl rfl ?_
    refine jx_step (pc' := 18) rfl ?_
    refine jv_istore (pc' := 20) (k := 5) (x := (iI 1)) rfl rfl rfl (Or.inr rfl) ?_
    refine jv_iload_n (pc' := 21) (k := 1) (x := (iI ((fq : Nat) : Int))) rfl rfl rfl rfl ?_
    refine jv_call (pc' := 24) rfl (cl_isFilter (by omega)) (fun vq3 gq3 q3 => ?_)
    obtain ⟨rfl, rfl⟩ := q3
    show jx L xs _ 15 24 _ [.int (jb (0 ≤ ((fq : Nat) : Int) ∧ ((fq : Nat) : Int) < 4))] _ _
    refine jv_jb_eq (t := 50) (pc' := 27) (P := 0 ≤ ((fq : Nat) : Int) ∧ ((fq : Nat) : Int) < 4) rfl rfl rfl (fun hz_4 => ?_) (fun hz_4 => ?_)
    · skip
      exfalso; omega
    · skip
      refine jv_iload_n (pc' := 28) (k := 2) (x := (iI l)) rfl rfl rfl rfl ?_
      refine jv_call (pc' := 31) rfl (cl_isLayer (by omega)) (fun vq5 gq5 q5 => ?_)
      obtain ⟨rfl, rfl⟩ := q5
      show jx L xs _ 15 31 _ [.int (jb (0 ≤ l ∧ l < 4))] _ _
      refine jv_jb_eq (t := 50) (pc' := 34) (P := 0 ≤ l ∧ l < 4) rfl rfl rfl (fun hz_6 => ?_) (fun hz_6 => ?_)
      · skip
        exfalso; omega
      · skip
        refine jv_iload (pc' := 36) (k := 5) (x := (iI 1)) rfl rfl rfl ?_
        refine jv_if_eq (t := 50) (pc' := 39) (a := 1) rfl rfl rfl (by omega) (fun hz_7 => ?_) (fun hz_7 => ?_)
        · skip
          exact absurd hz_7 (by decide)
        · skip
          refine jv_iload (pc' := 41) (k := 4) (x := (iI u)) rfl rfl rfl ?_
          refine jv_if_lt (t := 50) (pc' := 44) (a := u) rfl rfl rfl (by omega) (fun hz_8 => ?_) (fun hz_8 => ?_)
          · skip
            exfalso; omega
          · skip
            refine jv_iload (pc' := 46) (k := 4) (x := (iI u)) rfl rfl rfl ?_
            refine jv_iconst (pc' := 47) (n := 3) rfl rfl ?_
            refine jv_ic_le (t := 58) (pc' := 50) (a := u) (b := 3) rfl rfl rfl (by omega) (fun hz_9 => ?_) (fun hz_9 => ?_)
            · skip
              refine jv_aload_n (pc' := 59) (k := 0) (x := 0) rfl rfl rfl rfl ?_
              refine jv_iload_n (pc' := 60) (k := 1) (x := (iI ((fq : Nat) : Int))) rfl rfl rfl rfl ?_
              refine jv_call (pc' := 63) rfl (cl_isFilterKnown (fq := fq) hR hfq) (fun vq10 gq10 q10 => ?_)
              obtain ⟨rfl, rfl⟩ := q10
              show jx L xs _ 15 63 _ [.int (jb (0 < anF A fq))] _ _
              refine jv_jb_ne (t := 74) (pc' := 66) (P := 0 < anF A fq) rfl rfl rfl (fun hz_11 => ?_) (fun hz_11 => ?_)
              · skip
                exfalso; omega
              · skip
                refine jx_ret0 rfl ⟨_, rfl, ?_⟩
                first
                | (exfalso; omega)
                | rfl
            · skip
              exfalso; omega
  · skip
    refine jv_iload_n (pc' := 8) (k := 3) (x := (iI nm)) rfl rfl rfl rfl ?_
    refine jv_bipush (pc' := 10) (n := 8) rfl rfl rfl ?_
    refine jv_ic_ne (t := 17) (pc' := 13) (a := nm) (b := 8) rfl rfl rfl (by omega) (fun hz_12 => ?_) (fun hz_12 => ?_)
    · skip
      exfalso; omega
    · skip
      refine jv_iconst (pc' := 14) (n := 1) rfl rfl ?_
      refine jx_step (pc' := 18) rfl ?_
      refine jv_istore (pc' := 20) (k := 5) (x := (iI 1)) rfl rfl rfl (Or.inr rfl) ?_
      refine jv_iload_n (pc' := 21) (k := 1) (x := (iI ((fq : Nat) : Int))) rfl rfl rfl rfl ?_
      refine jv_call (pc' := 24) rfl (cl_isFilter (by omega)) (fun vq13 gq13 q13 => ?_)
      obtain ⟨rfl, rfl⟩ := q13
      show jx L xs _ 15 24 _ [.int (jb (0 ≤ ((fq : Nat) : Int) ∧ ((fq : Nat) : Int) < 4))] _ _
      refine jv_jb_eq (t := 50) (pc' := 27) (P := 0 ≤ ((fq : Nat) : Int) ∧ ((fq : Nat) : Int) < 4) rfl rfl rfl (fun hz_14 => ?_) (fun hz_14 => ?_)
      · skip
        exfalso; omega
      · skip
        refine jv_iload_n (pc' := 28) (k := 2) (x := (iI l)) rfl rfl rfl rfl ?_
        refine jv_call (pc' := 31) rfl (cl_isLayer (by omega)) (fun vq15 gq15 q15 => ?_)
        obtain ⟨rfl, rfl⟩ := q15
        show jx L xs _ 15 31 _ [.int (jb (0 ≤ l ∧ l < 4))] _ _
        refine jv_jb_eq (t := 50) (pc' := 34) (P := 0 ≤ l ∧ l < 4) rfl rfl rfl (fun hz_16 => ?_) (fun hz_16 => ?_)
        · skip
          exfalso; omega
        · skip
          refine jv_iload (pc' := 36) (k := 5) (x := (iI 1)) rfl rfl rfl ?_
          refine jv_if_eq (t := 50) (pc' := 39) (a := 1) rfl rfl rfl (by omega) (fun hz_17 => ?_) (fun hz_17 => ?_)
          · skip
            exact absurd hz_17 (by decide)
          · skip
            refine jv_iload (pc' := 41) (k := 4) (x := (iI u)) rfl rfl rfl ?_
            refine jv_if_lt (t := 50) (pc' := 44) (a := u) rfl rfl rfl (by omega) (fun hz_18 => ?_) (fun hz_18 => ?_)
            · skip
              exfalso; omega
            · skip
              refine jv_iload (pc' := 46) (k := 4) (x := (iI u)) rfl rfl rfl ?_
              refine jv_iconst (pc' := 47) (n := 3) rfl rfl ?_
              refine jv_ic_le (t := 58) (pc' := 50) (a := u) (b := 3) rfl rfl rfl (by omega) (fun hz_19 => ?_) (fun hz_19 => ?_)
              · skip
                refine jv_aload_n (pc' := 59) (k := 0) (x := 0) rfl rfl rfl rfl ?_
                refine jv_iload_n (pc' := 60) (k := 1) (x := (iI ((fq : Nat) : Int))) rfl rfl rfl rfl ?_
                refine jv_call (pc' := 63) rfl (cl_isFilterKnown (fq := fq) hR hfq) (fun vq20 gq20 q20 => ?_)
                obtain ⟨rfl, rfl⟩ := q20
                show jx L xs _ 15 63 _ [.int (jb (0 < anF A fq))] _ _
                refine jv_jb_ne (t := 74) (pc' := 66) (P := 0 < anF A fq) rfl rfl rfl (fun hz_21 => ?_) (fun hz_21 => ?_)
                · skip
                  exfalso; omega
                · skip
                  refine jx_ret0 rfl ⟨_, rfl, ?_⟩
                  first
                  | (exfalso; omega)
                  | rfl
              · skip
                exfalso; omega
set_option maxRecDepth 100000 in
set_option maxHeartbeats 4000000 in
theorem op_total_c (hR : CR I M p A) (hfq : fq < 4) (hl : 0 ≤ l ∧ l < 4) (hnm : 0 ≤ nm ∧ nm < 9) (hq : q < 4) (hk : 0 < anF A fq) : jc L xs (d + 33) 15 [.ref 0, .int (iI ((fq : Nat) : Int)), .int (iI l), .int (iI nm), .int (iI ((q : Nat) : Int))] (jx_G j I M p) (fun v g1 => ∃ (I' : Nat → Nat → Int32) (M' : Nat → Nat → Int64) (p' : Nat → Option Nat) (ov : Nat → Option Int), g1 = jx_G j I' M' p' ∧ fr cW I I' ∧ fr cV M M' ∧ CR I' M' p' A ∧ (∀ i : Nat, (i : Int) < A 103 12 → FV A fq l nm i (ov i)) ∧ v = some (.long (lI (tT ov (A 103 12).toNat q)))) := by
  unfold jc
  have hv12 := hR.1.2.2.2.2.2.2.1
  refine jv_iload_n (pc' := 1) (k := 3) (x := (iI nm)) rfl rfl rfl rfl ?_
  refine jv_call (pc' := 4) rfl (cl_isFieldName (by omega)) (fun vq1 gq1 q1 => ?_)
  obtain ⟨rfl, rfl⟩ := q1
  show jx L xs _ 15 4 _ [.int (jb (0 ≤ nm ∧ nm < 8))] _ _
  refine jv_jb_ne (t := 13) (pc' := 7) (P := 0 ≤ nm ∧ nm < 8) rfl rfl rfl (fun hz_2 => ?_) (fun hz_2 => ?_)
  · skip
    refine jv_iconst (pc' := 14) (n := 1) rfl rfl ?_
    refine jx_step (pc' := 18) rfl ?_
    refine jv_istore (pc' := 20) (k := 5) (x := (iI 1)) rfl rfl rfl (Or.inr rfl) ?_
    refine jv_iload_n (pc' := 21) (k := 1) (x := (iI ((fq : Nat) : Int))) rfl rfl rfl rfl ?_
    refine jv_call (pc' := 24) rfl (cl_isFilter (by omega)) (fun vq3 gq3 q3 => ?_)
    obtain ⟨rfl, rfl⟩ := q3
    show jx L xs _ 15 24 _ [.int (jb (0 ≤ ((fq : Nat) : Int) ∧ ((fq : Nat) : Int) < 4))] _ _
    refine jv_jb_eq (t := 50) (pc' := 27) (P := 0 ≤ ((fq : Nat) : Int) ∧ ((fq : Nat) : Int) < 4) rfl rfl rfl (fun hz_4 => ?_) (fun hz_4 => ?_)
    · skip
      exfalso; omega
    · skip
      refine jv_iload_n (pc' := 28) (k := 2) (x := (iI l)) rfl rfl rfl rfl ?_
      refine jv_call (pc' := 31) rfl (cl_isLayer (by omega)) (fun vq5 gq5 q5 => ?_)
      obtain ⟨rfl, rfl⟩ := q5
      show jx L xs _ 15 31 _ [.int (jb (0 ≤ l ∧ l < 4))] _ _
      refine jv_jb_eq (t := 50) (pc' := 34) (P := 0 ≤ l ∧ l < 4) rfl rfl rfl (fun hz_6 => ?_) (fun hz_6 => ?_)
      · skip
        exfalso; omega
      · skip
        refine jv_iload (pc' := 36) (k := 5) (x := (iI 1)) rfl rfl rfl ?_
        refine jv_if_eq (t := 50) (pc' := 39) (a := 1) rfl rfl rfl (by omega) (fun hz_7 => ?_) (fun hz_7 => ?_)
        · skip
          exact absurd hz_7 (by decide)
        · skip
          refine jv_iload (pc' := 41) (k := 4) (x := (iI ((q : Nat) : Int))) rfl rfl rfl ?_
          refine jv_if_lt (t := 50) (pc' := 44) (a := ((q : Nat) : Int)) rfl rfl rfl (by omega) (fun hz_8 => ?_) (fun hz_8 => ?_)
          · skip
            exfalso; omega
          · skip
            refine jv_iload (pc' := 46) (k := 4) (x := (iI ((q : Nat) : Int))) rfl rfl rfl ?_
            refine jv_iconst (pc' := 47) (n := 3) rfl rfl ?_
            refine jv_ic_le (t := 58) (pc' := 50) (a := ((q : Nat) : Int)) (b := 3) rfl rfl rfl (by omega) (fun hz_9 => ?_) (fun hz_9 => ?_)
            · skip
              refine jv_aload_n (pc' := 59) (k := 0) (x := 0) rfl rfl rfl rfl ?_
              refine jv_iload_n (pc' := 60) (k := 1) (x := (iI ((fq : Nat) : Int))) rfl rfl rfl rfl ?_
              refine jv_call (pc' := 63) rfl (cl_isFilterKnown (fq := fq) hR hfq) (fun vq10 gq10 q10 => ?_)
              obtain ⟨rfl, rfl⟩ := q10
              show jx L xs _ 15 63 _ [.int (jb (0 < anF A fq))] _ _
              refine jv_jb_ne (t := 74) (pc' := 66) (P := 0 < anF A fq) rfl rfl rfl (fun hz_11 => ?_) (fun hz_11 => ?_)
              · skip
                refine jv_long (pc' := 75) (y := lI 0) rfl (by decide) ?_
                refine jv_lstore (pc' := 77) (k := 6) (x := (lI 0)) rfl rfl rfl (Or.inr rfl) ?_
                refine jv_long (pc' := 78) (y := lI 0) rfl (by decide) ?_
                refine jv_lstore (pc' := 80) (k := 8) (x := (lI 0)) rfl rfl rfl (Or.inr rfl) ?_
                refine jv_long (pc' := 81) (y := lI 0) rfl (by decide) ?_
                refine jv_lstore (pc' := 83) (k := 10) (x := (lI 0)) rfl rfl rfl (Or.inr rfl) ?_
                refine jv_long (pc' := 84) (y := lI 0) rfl (by decide) ?_
                refine jv_lstore (pc' := 86) (k := 12) (x := (lI 0)) rfl rfl rfl (Or.inr rfl) ?_
                refine jv_iconst (pc' := 87) (n := 0) rfl rfl ?_
                refine jv_istore (pc' := 89) (k := 14) (x := (iI 0)) rfl rfl rfl (Or.inr rfl) ?_
                have H12 : ∀ (N : Nat) (k : Nat) (I1 : Nat → Nat → Int32) (M1 : Nat → Nat → Int64) (P1 : Nat → Option Nat) (ov : Nat → Option Int) (z0 : Int) (z1 : Int) (z2 : Int) (z3 : Int), 12 - k < N → ((k : Int) ≤ A 103 12) → (fr cW I I1) → (fr cV M M1) → (CR I1 M1 P1 A) → (∀ i, i < k → FV A fq l nm i (ov i)) → (z0 = tT ov k 0) → (z1 = tT ov k 1) → (z2 = tT ov k 2) → (z3 = tT ov k 3) → ∀ f : jm_F, f 0 = some (.ref 0) → f 1 = some (.int (iI ((fq : Nat) : Int))) → f 2 = some (.int (iI l)) → f 3 = some (.int (iI nm)) → f 4 = some (.int (iI ((q : Nat) : Int))) → f 5 = some (.int (iI 1)) → f 6 = some (.long (lI z0)) → f 8 = some (.long (lI z1)) → f 10 = some (.long (lI z2)) → f 12 = some (.long (lI z3)) → f 14 = some (.int (iI ((k : Nat) : Int))) → jm_lng (f 7) = false → jm_lng (f 9) = false → jm_lng (f 11) = false → jm_lng (f 13) = false → jx L xs ((d + 33)) 15 89 f [] (jx_G j I1 M1 P1) (fun z => ∃ v g1, z = (.inl v, g1) ∧ (fun v g1 => ∃ (I' : Nat → Nat → Int32) (M' : Nat → Nat → Int64) (p' : Nat → Option Nat) (ov : Nat → Option Int), g1 = jx_G j I' M' p' ∧ fr cW I I' ∧ fr cV M M' ∧ CR I' M' p' A ∧ (∀ i : Nat, (i : Int) < A 103 12 → FV A fq l nm i (ov i)) ∧ v = some (.long (lI (tT ov (A 103 12).toNat q)))) v g1) := by
                  intro N
                  induction N with
                  | zero => intro k I1 M1 P1 ov z0 z1 z2 z3 hN; exact absurd hN (Nat.not_lt_zero _)
                  | succ N ih =>
                    intro k I1 M1 P1 ov z0 z1 z2 z3 hN hk0 hf hm hR1 hFV hz0 hz1 hz2 hz3 f hf0 hf1 hf2 hf3 hf4 hf5 hf6 hf8 hf10 hf12 hf14 hg7 hg9 hg11 hg13
                    refine jv_iload (pc' := 91) (k := 14) (x := (iI ((k : Nat) : Int))) rfl rfl hf14 ?_
                    refine jv_aload_n (pc' := 92) (k := 0) (x := 0) rfl rfl rfl hf0 ?_
                    refine jv_getI (pc' := 95) (c := 0) (k := 10) (v := (iI (A 103 12))) rfl rfl rfl (fun _ _ => rfl) rfl rfl hR1.2.2.2.2.1.1 ?_
                    refine jv_ic_ge (t := 198) (pc' := 98) (a := ((k : Nat) : Int)) (b := (A 103 12)) rfl rfl rfl (by omega) (fun hz_13 => ?_) (fun hz_13 => ?_)
                    · skip
                      refine jv_iload (pc' := 200) (k := 4) (x := (iI ((q : Nat) : Int))) rfl rfl hf4 ?_
                      have hq4 : q = 0 ∨ q = 1 ∨ q = 2 ∨ q = 3 := by omega
                      rcases hq4 with h0 | h0 | h0 | h0
                      · skip
                        rw [show ((q : Nat) : Int) = 0 by omega]
                        show jx L xs _ 15 200 _ [.int (iI 0)] _ _
                        refine jx_step (pc' := 228) rfl ?_
                        show jx L xs _ 15 228 _ [] _ _
                        refine jv_lload (pc' := 230) (k := 6) (x := (lI z0)) rfl rfl hf6 ?_
                        refine jv_retJ rfl rfl ⟨_, _, rfl, ?_⟩
                        have ek : k = (A 103 12).toNat := by omega
                        exact ⟨_, _, _, ov, rfl, hf, hm, hR1, fun i hi => hFV i (by omega), by rw [hz0, ek, h0]⟩
                      · skip
                        rw [show ((q : Nat) : Int) = 1 by omega]
                        show jx L xs _ 15 200 _ [.int (iI 1)] _ _
                        refine jx_step (pc' := 231) rfl ?_
                        show jx L xs _ 15 231 _ [] _ _
                        refine jv_lload (pc' := 233) (k := 8) (x := (lI z1)) rfl rfl hf8 ?_
                        refine jv_retJ rfl rfl ⟨_, _, rfl, ?_⟩
                        have ek : k = (A 103 12).toNat := by omega
                        exact ⟨_, _, _, ov, rfl, hf, hm, hR1, fun i hi => hFV i (by omega), by rw [hz1, ek, h0]⟩
                      · skip
                        rw [show ((q : Nat) : Int) = 2 by omega]
                        show jx L xs _ 15 200 _ [.int (iI 2)] _ _
                        refine jx_step (pc' := 234) rfl ?_
                        show jx L xs _ 15 234 _ [] _ _
                        refine jv_lload (pc' := 236) (k := 10) (x := (lI z2)) rfl rfl hf10 ?_
                        refine jv_retJ rfl rfl ⟨_, _, rfl, ?_⟩
                        have ek : k = (A 103 12).toNat := by omega
                        exact ⟨_, _, _, ov, rfl, hf, hm, hR1, fun i hi => hFV i (by omega), by rw [hz2, ek, h0]⟩
                      · skip
                        rw [show ((q : Nat) : Int) = 3 by omega]
                        show jx L xs _ 15 200 _ [.int (iI 3)] _ _
                        refine jx_step (pc' := 237) rfl ?_
                        show jx L xs _ 15 237 _ [] _ _
                        refine jv_lload (pc' := 239) (k := 12) (x := (lI z3)) rfl rfl hf12 ?_
                        refine jv_retJ rfl rfl ⟨_, _, rfl, ?_⟩
                        have ek : k = (A 103 12).toNat := by omega
                        exact ⟨_, _, _, ov, rfl, hf, hm, hR1, fun i hi => hFV i (by omega), by rw [hz3, ek, h0]⟩
                    · skip
                      have hb := tT_b (k := k) (fun i hi v hv => FV_b (hFV i hi) hv)
                      rw [← hz0, ← hz1, ← hz2, ← hz3] at hb
                      refine jv_aload_n (pc' := 99) (k := 0) (x := 0) rfl rfl rfl hf0 ?_
                      refine jv_iload (pc' := 101) (k := 14) (x := (iI ((k : Nat) : Int))) rfl rfl hf14 ?_
                      refine jv_call (pc' := 104) rfl (cl_entriesOf (I := I1) (M := M1) (p := P1) (f := k) hR1 (by omega)) (fun vq14 gq14 q14 => ?_)
                      obtain ⟨I2, M2, p2, rfl, rfl, r2, t2, _, s2, N2⟩ := q14
                      obtain ⟨Tl2, S2, hL2, hE2⟩ := N2.2.2.2.2.2
                      have htz2 := (N2.1.2.2.1.elim (fun _ h => h.elim (fun _ h => h.elim (fun _ h => h.2.2.1))))
                      obtain ⟨iq, eq, hQ⟩ := (N2.1.1.2.2.1 fq hfq).2.2 (by unfold anF at hk; omega)
                      show jx L xs _ 15 104 _ [.ref 39] _ _
                      refine jv_astore (pc' := 106) (k := 15) (x := 39) rfl rfl rfl (Or.inr (congrArg jm_lng hf14)) ?_
                      refine jv_aload (pc' := 108) (k := 15) (x := 39) rfl rfl rfl ?_
                      refine jv_iload_n (pc' := 109) (k := 2) (x := (iI l)) rfl rfl rfl hf2 ?_
                      refine jv_iload_n (pc' := 110) (k := 3) (x := (iI nm)) rfl rfl rfl hf3 ?_
                      refine jv_call (pc' := 113) rfl (cl_first (I := I2) (M := M2) (p := p2) (s := s2) N2.2.1 hE2 N2.2.2.2.1 (by omega) (by omega)) (fun v5 g5 q5 => ?_)
                      obtain ⟨r, rfl, rfl, hFS⟩ := q5
                      have hrb := FS_b hFS
                      have hsc := N2.2.2.2.1
                      show jx L xs _ 15 113 _ [.int (iI r)] _ _
                      refine jv_istore (pc' := 115) (k := 16) (x := (iI r)) rfl rfl rfl (Or.inr rfl) ?_
                      refine jv_iload (pc' := 117) (k := 16) (x := (iI r)) rfl rfl rfl ?_
                      refine jv_iconst (pc' := 118) (n := -1) rfl rfl ?_
                      refine jv_ic_eq (t := 192) (pc' := 121) (a := r) (b := (-1)) rfl rfl rfl (by omega) (fun hz_15 => ?_) (fun hz_15 => ?_)
                      · skip
                        refine jv_iinc (pc' := 195) (k := 14) (a := ((k : Nat) : Int)) rfl rfl hf14 rfl (Or.inr hg13) ?_
                        refine jx_step (pc' := 89) rfl ?_
                        obtain ⟨vx, gx, I3, kv, y0, l0, t0, _, _, _, hV, _⟩ := jc_ex (cl_isTrue (L := L) (xs := xs) (d := d) (j := j) (I := I2) (M := M2) (p := p2) (s := s2) (TL_f hfq) (N2.1.2.2.2.2.2.1 fq hfq) N2.2.1 hE2 N2.2.2.2.1 htz2 hQ)
                        have hFk : FV A fq l nm k none := ⟨s2, _, ⟨_, kv, y0, l0, t0, N2.2.2.1, hE2, N2.2.2.2.1, hV, rfl⟩, r, hFS, Or.inr ⟨Or.inr (by omega), rfl⟩⟩
                        exact ih (k + 1) I2 M2 p2 (fun i => if i = k then none else ov i) z0 z1 z2 z3 (by omega) (by omega) (fr_t hf r2) (fr_t hm t2) N2.1 (fun i hi => by
                              by_cases e : i = k
                              · subst e; rw [if_pos rfl]; exact hFk
                              · rw [if_neg e]; exact hFV i (by omega)) (hz0.trans tT_un.symm) (hz1.trans tT_un.symm) (hz2.trans tT_un.symm) (hz3.trans tT_un.symm) _ hf0 hf1 hf2 hf3 hf4 hf5 hf6 hf8 hf10 hf12 rfl hg7 hg9 hg11 hg13
                      · skip
                        refine jv_aload_n (pc' := 122) (k := 0) (x := 0) rfl rfl rfl hf0 ?_
                        refine jv_getR (pc' := 125) (c := 0) (k := 6) (v := 95) rfl rfl rfl (fun _ _ => rfl) rfl rfl (jR_0_6 _) ?_
                        refine jv_aload_n (pc' := 126) (k := 0) (x := 0) rfl rfl rfl hf0 ?_
                        refine jv_getR (pc' := 129) (c := 0) (k := 5) (v := 86) rfl rfl rfl (fun _ _ => rfl) rfl rfl (jR_0_5 _) ?_
                        refine jv_iload_n (pc' := 130) (k := 1) (x := (iI ((fq : Nat) : Int))) rfl rfl rfl hf1 ?_
                        refine jv_aaload (pc' := 131) (n := 4) (e := ((fq : Nat) : Int)) (v := (87 + 2 * fq)) rfl rfl rfl rfl rfl (by omega) (jR86 _ hfq) ?_
                        refine jv_aload (pc' := 133) (k := 15) (x := 39) rfl rfl rfl ?_
                        refine jv_call (pc' := 136) rfl (cl_isTrue (I := I2) (M := M2) (p := p2) (s := s2) (TL_f hfq) (N2.1.2.2.2.2.2.1 fq hfq) N2.2.1 hE2 N2.2.2.2.1 htz2 hQ) (fun v6 g6 q6 => ?_)
                        obtain ⟨I3, kv, y0, l0, t0, rfl, r3, tz3, hV, rfl⟩ := q6
                        have hR3 := CR_F N2.1 r3 tz3 (p' := (fun q => if q = 22 then some 39 else if q = 21 then some (87 + 2 * fq) else p2 q)) (fun i hi => (if_neg (by omega)).trans (if_neg (by omega)))
                        have hTR : TRs A fq k s2 (y0 || l0) := ⟨_, kv, y0, l0, t0, N2.2.2.1, hE2, N2.2.2.2.1, hV, rfl⟩
                        have hvb := (hE2 r.toNat (by omega)).1.2.2.2.2
                        show jx L xs _ 15 136 _ [.int (jb ((y0 || l0) = true))] _ _
                        refine jv_jb_eq (t := 192) (pc' := 139) (P := (y0 || l0) = true) rfl rfl rfl (fun hz_16 => ?_) (fun hz_16 => ?_)
                        · skip
                          refine jv_iinc (pc' := 195) (k := 14) (a := ((k : Nat) : Int)) rfl rfl hf14 rfl (Or.inr hg13) ?_
                          refine jx_step (pc' := 89) rfl ?_
                          have hFk : FV A fq l nm k none := ⟨s2, _, hTR, r, hFS, Or.inr ⟨Or.inl (by first | assumption | (simpa using (by assumption : ¬ (y0 || l0) = true))), rfl⟩⟩
                          exact ih (k + 1) I3 M2 (fun q => if q = 22 then some 39 else if q = 21 then some (87 + 2 * fq) else p2 q) (fun i => if i = k then none else ov i) z0 z1 z2 z3 (by omega) (by omega) (fr_t (fr_t hf r2) (fr_w r3 (fun l k h => by unfold wF at h; unfold cW; omega))) (fr_t hm t2) hR3 (fun i hi => by
                                by_cases e : i = k
                                · subst e; rw [if_pos rfl]; exact hFk
                                · rw [if_neg e]; exact hFV i (by omega)) (hz0.trans tT_un.symm) (hz1.trans tT_un.symm) (hz2.trans tT_un.symm) (hz3.trans tT_un.symm) _ hf0 hf1 hf2 hf3 hf4 hf5 hf6 hf8 hf10 hf12 rfl hg7 hg9 hg11 hg13
                        · skip
                          have hbt : (y0 || l0) = true := by first | assumption | exact Classical.not_not.1 (by assumption)
                          refine jv_aload (pc' := 141) (k := 15) (x := 39) rfl rfl rfl ?_
                          refine jv_getR (pc' := 144) (c := 7) (k := 1) (v := 41) rfl rfl rfl (fun _ _ => rfl) rfl rfl (jR_39_1 _) ?_
                          refine jv_iload (pc' := 146) (k := 16) (x := (iI r)) rfl rfl rfl ?_
                          refine jv_laload (pc' := 147) (n := 64) (e := r) (v := (lI (s2 8 r.toNat))) rfl rfl rfl rfl rfl (by omega) ((N2.2.1.2.2.2 r.toNat (by omega)).2.2.2.2.2) ?_
                          refine jv_lstore (pc' := 149) (k := 17) (x := (lI (s2 8 r.toNat))) rfl rfl rfl (Or.inr rfl) ?_
                          refine jv_lload (pc' := 151) (k := 6) (x := (lI z0)) rfl rfl hf6 ?_
                          refine jv_long (pc' := 152) (y := lI 0) rfl (by decide) ?_
                          refine jv_lc_ne (t := 161) (pc' := 156) (a := z0) (b := 0) rfl rfl rfl rfl rfl (by omega) (fun hz_17 => ?_) (fun hz_17 => ?_)
                          · skip
                            refine jv_lload (pc' := 163) (k := 10) (x := (lI z2)) rfl rfl hf10 ?_
                            refine jv_lload (pc' := 165) (k := 17) (x := (lI (s2 8 r.toNat))) rfl rfl rfl ?_
                            refine jv_long (pc' := 168) (y := (lI (if s2 8 r.toNat < z2 then s2 8 r.toNat else z2))) rfl (lI_min ⟨by omega, by omega⟩) ?_
                            refine jv_lstore (pc' := 170) (k := 10) (x := (lI (if s2 8 r.toNat < z2 then s2 8 r.toNat else z2))) rfl rfl rfl (Or.inr hg9) ?_
                            refine jv_lload (pc' := 172) (k := 12) (x := (lI z3)) rfl rfl hf12 ?_
                            refine jv_lload (pc' := 174) (k := 17) (x := (lI (s2 8 r.toNat))) rfl rfl rfl ?_
                            refine jv_long (pc' := 177) (y := (lI (if s2 8 r.toNat < z3 then z3 else s2 8 r.toNat))) rfl (lI_max ⟨by omega, by omega⟩) ?_
                            refine jv_lstore (pc' := 179) (k := 12) (x := (lI (if s2 8 r.toNat < z3 then z3 else s2 8 r.toNat))) rfl rfl rfl (Or.inr rfl) ?_
                            refine jv_lload (pc' := 181) (k := 8) (x := (lI z1)) rfl rfl hf8 ?_
                            refine jv_lload (pc' := 183) (k := 17) (x := (lI (s2 8 r.toNat))) rfl rfl rfl ?_
                            refine jv_ladd (pc' := 184) (a := z1) (b := (s2 8 r.toNat)) rfl rfl ?_
                            refine jv_lstore (pc' := 186) (k := 8) (x := (lI (z1 + (s2 8 r.toNat)))) rfl rfl rfl (Or.inr hg7) ?_
                            refine jv_lload (pc' := 188) (k := 6) (x := (lI z0)) rfl rfl hf6 ?_
                            refine jv_long (pc' := 189) (y := lI 1) rfl (by decide) ?_
                            refine jv_ladd (pc' := 190) (a := z0) (b := 1) rfl rfl ?_
                            refine jv_lstore (pc' := 192) (k := 6) (x := (lI (z0 + 1))) rfl rfl rfl (Or.inr (congrArg jm_lng hf5)) ?_
                            refine jv_iinc (pc' := 195) (k := 14) (a := ((k : Nat) : Int)) rfl rfl hf14 rfl (Or.inr rfl) ?_
                            refine jx_step (pc' := 89) rfl ?_
                            have hFk : FV A fq l nm k (some (s2 8 r.toNat)) := ⟨s2, _, hTR, r, hFS, Or.inl ⟨hbt, by omega, rfl⟩⟩
                            exact ih (k + 1) I3 M2 (fun q => if q = 22 then some 39 else if q = 21 then some (87 + 2 * fq) else p2 q) (fun i => if i = k then some (s2 8 r.toNat) else ov i) (z0 + 1) (z1 + (s2 8 r.toNat)) (if s2 8 r.toNat < z2 then s2 8 r.toNat else z2) (if s2 8 r.toNat < z3 then z3 else s2 8 r.toNat) (by omega) (by omega) (fr_t (fr_t hf r2) (fr_w r3 (fun l k h => by unfold wF at h; unfold cW; omega))) (fr_t hm t2) hR3 (fun i hi => by
                                  by_cases e : i = k
                                  · subst e; rw [if_pos rfl]; exact hFk
                                  · rw [if_neg e]; exact hFV i (by omega)) (by rw [tT_us, tN_0, ← hz0]) (by rw [tT_us, tN_1, ← hz1]) (by rw [tT_us, tN_2, ← hz0, ← hz2]; (try split) <;> (try split) <;> (try split) <;> omega) (by rw [tT_us, tN_3, ← hz3]) _ hf0 hf1 hf2 hf3 hf4 hf5 rfl rfl rfl rfl rfl rfl rfl rfl rfl
                          · skip
                            refine jv_lload (pc' := 158) (k := 17) (x := (lI (s2 8 r.toNat))) rfl rfl rfl ?_
                            refine jx_step (pc' := 168) rfl ?_
                            refine jv_lstore (pc' := 170) (k := 10) (x := (lI (s2 8 r.toNat))) rfl rfl rfl (Or.inr hg9) ?_
                            refine jv_lload (pc' := 172) (k := 12) (x := (lI z3)) rfl rfl hf12 ?_
                            refine jv_lload (pc' := 174) (k := 17) (x := (lI (s2 8 r.toNat))) rfl rfl rfl ?_
                            refine jv_long (pc' := 177) (y := (lI (if s2 8 r.toNat < z3 then z3 else s2 8 r.toNat))) rfl (lI_max ⟨by omega, by omega⟩) ?_
                            refine jv_lstore (pc' := 179) (k := 12) (x := (lI (if s2 8 r.toNat < z3 then z3 else s2 8 r.toNat))) rfl rfl rfl (Or.inr rfl) ?_
                            refine jv_lload (pc' := 181) (k := 8) (x := (lI z1)) rfl rfl hf8 ?_
                            refine jv_lload (pc' := 183) (k := 17) (x := (lI (s2 8 r.toNat))) rfl rfl rfl ?_
                            refine jv_ladd (pc' := 184) (a := z1) (b := (s2 8 r.toNat)) rfl rfl ?_
                            refine jv_lstore (pc' := 186) (k := 8) (x := (lI (z1 + (s2 8 r.toNat)))) rfl rfl rfl (Or.inr hg7) ?_
                            refine jv_lload (pc' := 188) (k := 6) (x := (lI z0)) rfl rfl hf6 ?_
                            refine jv_long (pc' := 189) (y := lI 1) rfl (by decide) ?_
                            refine jv_ladd (pc' := 190) (a := z0) (b := 1) rfl rfl ?_
                            refine jv_lstore (pc' := 192) (k := 6) (x := (lI (z0 + 1))) rfl rfl rfl (Or.inr (congrArg jm_lng hf5)) ?_
                            refine jv_iinc (pc' := 195) (k := 14) (a := ((k : Nat) : Int)) rfl rfl hf14 rfl (Or.inr rfl) ?_
                            refine jx_step (pc' := 89) rfl ?_
                            have hFk : FV A fq l nm k (some (s2 8 r.toNat)) := ⟨s2, _, hTR, r, hFS, Or.inl ⟨hbt, by omega, rfl⟩⟩
                            exact ih (k + 1) I3 M2 (fun q => if q = 22 then some 39 else if q = 21 then some (87 + 2 * fq) else p2 q) (fun i => if i = k then some (s2 8 r.toNat) else ov i) (z0 + 1) (z1 + (s2 8 r.toNat)) (s2 8 r.toNat) (if s2 8 r.toNat < z3 then z3 else s2 8 r.toNat) (by omega) (by omega) (fr_t (fr_t hf r2) (fr_w r3 (fun l k h => by unfold wF at h; unfold cW; omega))) (fr_t hm t2) hR3 (fun i hi => by
                                  by_cases e : i = k
                                  · subst e; rw [if_pos rfl]; exact hFk
                                  · rw [if_neg e]; exact hFV i (by omega)) (by rw [tT_us, tN_0, ← hz0]) (by rw [tT_us, tN_1, ← hz1]) (by rw [tT_us, tN_2, ← hz0, ← hz2]; (try split) <;> (try split) <;> (try split) <;> omega) (by rw [tT_us, tN_3, ← hz3]) _ hf0 hf1 hf2 hf3 hf4 hf5 rfl rfl rfl rfl rfl rfl rfl rfl rfl
                exact H12 _ 0 I M p (fun _ => none) 0 0 0 0 (Nat.lt_succ_self _) (by omega) (fr_r _) (fr_r _) hR (fun i hi => absurd hi (by omega)) rfl rfl rfl rfl _ rfl rfl rfl rfl rfl rfl rfl rfl rfl rfl rfl rfl rfl rfl rfl
              · skip
                exfalso; omega
            · skip
              exfalso; omega
  · skip
    refine jv_iload_n (pc' := 8) (k := 3) (x := (iI nm)) rfl rfl rfl rfl ?_
    refine jv_bipush (pc' := 10) (n := 8) rfl rfl rfl ?_
    refine jv_ic_ne (t := 17) (pc' := 13) (a := nm) (b := 8) rfl rfl rfl (by omega) (fun hz_18 => ?_) (fun hz_18 => ?_)
    · skip
      exfalso; omega
    · skip
      refine jv_iconst (pc' := 14) (n := 1) rfl rfl ?_
      refine jx_step (pc' := 18) rfl ?_
      refine jv_istore (pc' := 20) (k := 5) (x := (iI 1)) rfl rfl rfl (Or.inr rfl) ?_
      refine jv_iload_n (pc' := 21) (k := 1) (x := (iI ((fq : Nat) : Int))) rfl rfl rfl rfl ?_
      refine jv_call (pc' := 24) rfl (cl_isFilter (by omega)) (fun vq19 gq19 q19 => ?_)
      obtain ⟨rfl, rfl⟩ := q19
      show jx L xs _ 15 24 _ [.int (jb (0 ≤ ((fq : Nat) : Int) ∧ ((fq : Nat) : Int) < 4))] _ _
      refine jv_jb_eq (t := 50) (pc' := 27) (P := 0 ≤ ((fq : Nat) : Int) ∧ ((fq : Nat) : Int) < 4) rfl rfl rfl (fun hz_20 => ?_) (fun hz_20 => ?_)
      · skip
        exfalso; omega
      · skip
        refine jv_iload_n (pc' := 28) (k := 2) (x := (iI l)) rfl rfl rfl rfl ?_
        refine jv_call (pc' := 31) rfl (cl_isLayer (by omega)) (fun vq21 gq21 q21 => ?_)
        obtain ⟨rfl, rfl⟩ := q21
        show jx L xs _ 15 31 _ [.int (jb (0 ≤ l ∧ l < 4))] _ _
        refine jv_jb_eq (t := 50) (pc' := 34) (P := 0 ≤ l ∧ l < 4) rfl rfl rfl (fun hz_22 => ?_) (fun hz_22 => ?_)
        · skip
          exfalso; omega
        · skip
          refine jv_iload (pc' := 36) (k := 5) (x := (iI 1)) rfl rfl rfl ?_
          refine jv_if_eq (t := 50) (pc' := 39) (a := 1) rfl rfl rfl (by omega) (fun hz_23 => ?_) (fun hz_23 => ?_)
          · skip
            exact absurd hz_23 (by decide)
          · skip
            refine jv_iload (pc' := 41) (k := 4) (x := (iI ((q : Nat) : Int))) rfl rfl rfl ?_
            refine jv_if_lt (t := 50) (pc' := 44) (a := ((q : Nat) : Int)) rfl rfl rfl (by omega) (fun hz_24 => ?_) (fun hz_24 => ?_)
            · skip
              exfalso; omega
            · skip
              refine jv_iload (pc' := 46) (k := 4) (x := (iI ((q : Nat) : Int))) rfl rfl rfl ?_
              refine jv_iconst (pc' := 47) (n := 3) rfl rfl ?_
              refine jv_ic_le (t := 58) (pc' := 50) (a := ((q : Nat) : Int)) (b := 3) rfl rfl rfl (by omega) (fun hz_25 => ?_) (fun hz_25 => ?_)
              · skip
                refine jv_aload_n (pc' := 59) (k := 0) (x := 0) rfl rfl rfl rfl ?_
                refine jv_iload_n (pc' := 60) (k := 1) (x := (iI ((fq : Nat) : Int))) rfl rfl rfl rfl ?_
                refine jv_call (pc' := 63) rfl (cl_isFilterKnown (fq := fq) hR hfq) (fun vq26 gq26 q26 => ?_)
                obtain ⟨rfl, rfl⟩ := q26
                show jx L xs _ 15 63 _ [.int (jb (0 < anF A fq))] _ _
                refine jv_jb_ne (t := 74) (pc' := 66) (P := 0 < anF A fq) rfl rfl rfl (fun hz_27 => ?_) (fun hz_27 => ?_)
                · skip
                  refine jv_long (pc' := 75) (y := lI 0) rfl (by decide) ?_
                  refine jv_lstore (pc' := 77) (k := 6) (x := (lI 0)) rfl rfl rfl (Or.inr rfl) ?_
                  refine jv_long (pc' := 78) (y := lI 0) rfl (by decide) ?_
                  refine jv_lstore (pc' := 80) (k := 8) (x := (lI 0)) rfl rfl rfl (Or.inr rfl) ?_
                  refine jv_long (pc' := 81) (y := lI 0) rfl (by decide) ?_
                  refine jv_lstore (pc' := 83) (k := 10) (x := (lI 0)) rfl rfl rfl (Or.inr rfl) ?_
                  refine jv_long (pc' := 84) (y := lI 0) rfl (by decide) ?_
                  refine jv_lstore (pc' := 86) (k := 12) (x := (lI 0)) rfl rfl rfl (Or.inr rfl) ?_
                  refine jv_iconst (pc' := 87) (n := 0) rfl rfl ?_
                  refine jv_istore (pc' := 89) (k := 14) (x := (iI 0)) rfl rfl rfl (Or.inr rfl) ?_
                  have H28 : ∀ (N : Nat) (k : Nat) (I1 : Nat → Nat → Int32) (M1 : Nat → Nat → Int64) (P1 : Nat → Option Nat) (ov : Nat → Option Int) (z0 : Int) (z1 : Int) (z2 : Int) (z3 : Int), 12 - k < N → ((k : Int) ≤ A 103 12) → (fr cW I I1) → (fr cV M M1) → (CR I1 M1 P1 A) → (∀ i, i < k → FV A fq l nm i (ov i)) → (z0 = tT ov k 0) → (z1 = tT ov k 1) → (z2 = tT ov k 2) → (z3 = tT ov k 3) → ∀ f : jm_F, f 0 = some (.ref 0) → f 1 = some (.int (iI ((fq : Nat) : Int))) → f 2 = some (.int (iI l)) → f 3 = some (.int (iI nm)) → f 4 = some (.int (iI ((q : Nat) : Int))) → f 5 = some (.int (iI 1)) → f 6 = some (.long (lI z0)) → f 8 = some (.long (lI z1)) → f 10 = some (.long (lI z2)) → f 12 = some (.long (lI z3)) → f 14 = some (.int (iI ((k : Nat) : Int))) → jm_lng (f 7) = false → jm_lng (f 9) = false → jm_lng (f 11) = false → jm_lng (f 13) = false → jx L xs ((d + 33)) 15 89 f [] (jx_G j I1 M1 P1) (fun z => ∃ v g1, z = (.inl v, g1) ∧ (fun v g1 => ∃ (I' : Nat → Nat → Int32) (M' : Nat → Nat → Int64) (p' : Nat → Option Nat) (ov : Nat → Option Int), g1 = jx_G j I' M' p' ∧ fr cW I I' ∧ fr cV M M' ∧ CR I' M' p' A ∧ (∀ i : Nat, (i : Int) < A 103 12 → FV A fq l nm i (ov i)) ∧ v = some (.long (lI (tT ov (A 103 12).toNat q)))) v g1) := by
                    intro N
                    induction N with
                    | zero => intro k I1 M1 P1 ov z0 z1 z2 z3 hN; exact absurd hN (Nat.not_lt_zero _)
                    | succ N ih =>
                      intro k I1 M1 P1 ov z0 z1 z2 z3 hN hk0 hf hm hR1 hFV hz0 hz1 hz2 hz3 f hf0 hf1 hf2 hf3 hf4 hf5 hf6 hf8 hf10 hf12 hf14 hg7 hg9 hg11 hg13
                      refine jv_iload (pc' := 91) (k := 14) (x := (iI ((k : Nat) : Int))) rfl rfl hf14 ?_
                      refine jv_aload_n (pc' := 92) (k := 0) (x := 0) rfl rfl rfl hf0 ?_
                      refine jv_getI (pc' := 95) (c := 0) (k := 10) (v := (iI (A 103 12))) rfl rfl rfl (fun _ _ => rfl) rfl rfl hR1.2.2.2.2.1.1 ?_
                      refine jv_ic_ge (t := 198) (pc' := 98) (a := ((k : Nat) : Int)) (b := (A 103 12)) rfl rfl rfl (by omega) (fun hz_29 => ?_) (fun hz_29 => ?_)
                      · skip
                        refine jv_iload (pc' := 200) (k := 4) (x := (iI ((q : Nat) : Int))) rfl rfl hf4 ?_
                        have hq4 : q = 0 ∨ q = 1 ∨ q = 2 ∨ q = 3 := by omega
                        rcases hq4 with h0 | h0 | h0 | h0
                        · skip
                          rw [show ((q : Nat) : Int) = 0 by omega]
                          show jx L xs _ 15 200 _ [.int (iI 0)] _ _
                          refine jx_step (pc' := 228) rfl ?_
                          show jx L xs _ 15 228 _ [] _ _
                          refine jv_lload (pc' := 230) (k := 6) (x := (lI z0)) rfl rfl hf6 ?_
                          refine jv_retJ rfl rfl ⟨_, _, rfl, ?_⟩
                          have ek : k = (A 103 12).toNat := by omega
                          exact ⟨_, _, _, ov, rfl, hf, hm, hR1, fun i hi => hFV i (by omega), by rw [hz0, ek, h0]⟩
                        · skip
                          rw [show ((q : Nat) : Int) = 1 by omega]
                          show jx L xs _ 15 200 _ [.int (iI 1)] _ _
                          refine jx_step (pc' := 231) rfl ?_
                          show jx L xs _ 15 231 _ [] _ _
                          refine jv_lload (pc' := 233) (k := 8) (x := (lI z1)) rfl rfl hf8 ?_
                          refine jv_retJ rfl rfl ⟨_, _, rfl, ?_⟩
                          have ek : k = (A 103 12).toNat := by omega
                          exact ⟨_, _, _, ov, rfl, hf, hm, hR1, fun i hi => hFV i (by omega), by rw [hz1, ek, h0]⟩
                        · skip
                          rw [show ((q : Nat) : Int) = 2 by omega]
                          show jx L xs _ 15 200 _ [.int (iI 2)] _ _
                          refine jx_step (pc' := 234) rfl ?_
                          show jx L xs _ 15 234 _ [] _ _
                          refine jv_lload (pc' := 236) (k := 10) (x := (lI z2)) rfl rfl hf10 ?_
                          refine jv_retJ rfl rfl ⟨_, _, rfl, ?_⟩
                          have ek : k = (A 103 12).toNat := by omega
                          exact ⟨_, _, _, ov, rfl, hf, hm, hR1, fun i hi => hFV i (by omega), by rw [hz2, ek, h0]⟩
                        · skip
                          rw [show ((q : Nat) : Int) = 3 by omega]
                          show jx L xs _ 15 200 _ [.int (iI 3)] _ _
                          refine jx_step (pc' := 237) rfl ?_
                          show jx L xs _ 15 237 _ [] _ _
                          refine jv_lload (pc' := 239) (k := 12) (x := (lI z3)) rfl rfl hf12 ?_
                          refine jv_retJ rfl rfl ⟨_, _, rfl, ?_⟩
                          have ek : k = (A 103 12).toNat := by omega
                          exact ⟨_, _, _, ov, rfl, hf, hm, hR1, fun i hi => hFV i (by omega), by rw [hz3, ek, h0]⟩
                      · skip
                        have hb := tT_b (k := k) (fun i hi v hv => FV_b (hFV i hi) hv)
                        rw [← hz0, ← hz1, ← hz2, ← hz3] at hb
                        refine jv_aload_n (pc' := 99) (k := 0) (x := 0) rfl rfl rfl hf0 ?_
                        refine jv_iload (pc' := 101) (k := 14) (x := (iI ((k : Nat) : Int))) rfl rfl hf14 ?_
                        refine jv_call (pc' := 104) rfl (cl_entriesOf (I := I1) (M := M1) (p := P1) (f := k) hR1 (by omega)) (fun vq30 gq30 q30 => ?_)
                        obtain ⟨I2, M2, p2, rfl, rfl, r2, t2, _, s2, N2⟩ := q30
                        obtain ⟨Tl2, S2, hL2, hE2⟩ := N2.2.2.2.2.2
                        have htz2 := (N2.1.2.2.1.elim (fun _ h => h.elim (fun _ h => h.elim (fun _ h => h.2.2.1))))
                        obtain ⟨iq, eq, hQ⟩ := (N2.1.1.2.2.1 fq hfq).2.2 (by unfold anF at hk; omega)
                        show jx L xs _ 15 104 _ [.ref 39] _ _
                        refine jv_astore (pc' := 106) (k := 15) (x := 39) rfl rfl rfl (Or.inr (congrArg jm_lng hf14)) ?_
                        refine jv_aload (pc' := 108) (k := 15) (x := 39) rfl rfl rfl ?_
                        refine jv_iload_n (pc' := 109) (k := 2) (x := (iI l)) rfl rfl rfl hf2 ?_
                        refine jv_iload_n (pc' := 110) (k := 3) (x := (iI nm)) rfl rfl rfl hf3 ?_
                        refine jv_call (pc' := 113) rfl (cl_first (I := I2) (M := M2) (p := p2) (s := s2) N2.2.1 hE2 N2.2.2.2.1 (by omega) (by omega)) (fun v5 g5 q5 => ?_)
                        obtain ⟨r, rfl, rfl, hFS⟩ := q5
                        have hrb := FS_b hFS
                        have hsc := N2.2.2.2.1
                        show jx L xs _ 15 113 _ [.int (iI r)] _ _
                        refine jv_istore (pc' := 115) (k := 16) (x := (iI r)) rfl rfl rfl (Or.inr rfl) ?_
                        refine jv_iload (pc' := 117) (k := 16) (x := (iI r)) rfl rfl rfl ?_
                        refine jv_iconst (pc' := 118) (n := -1) rfl rfl ?_
                        refine jv_ic_eq (t := 192) (pc' := 121) (a := r) (b := (-1)) rfl rfl rfl (by omega) (fun hz_31 => ?_) (fun hz_31 => ?_)
                        · skip
                          refine jv_iinc (pc' := 195) (k := 14) (a := ((k : Nat) : Int)) rfl rfl hf14 rfl (Or.inr hg13) ?_
                          refine jx_step (pc' := 89) rfl ?_
                          obtain ⟨vx, gx, I3, kv, y0, l0, t0, _, _, _, hV, _⟩ := jc_ex (cl_isTrue (L := L) (xs := xs) (d := d) (j := j) (I := I2) (M := M2) (p := p2) (s := s2) (TL_f hfq) (N2.1.2.2.2.2.2.1 fq hfq) N2.2.1 hE2 N2.2.2.2.1 htz2 hQ)
                          have hFk : FV A fq l nm k none := ⟨s2, _, ⟨_, kv, y0, l0, t0, N2.2.2.1, hE2, N2.2.2.2.1, hV, rfl⟩, r, hFS, Or.inr ⟨Or.inr (by omega), rfl⟩⟩
                          exact ih (k + 1) I2 M2 p2 (fun i => if i = k then none else ov i) z0 z1 z2 z3 (by omega) (by omega) (fr_t hf r2) (fr_t hm t2) N2.1 (fun i hi => by
                                by_cases e : i = k
                                · subst e; rw [if_pos rfl]; exact hFk
                                · rw [if_neg e]; exact hFV i (by omega)) (hz0.trans tT_un.symm) (hz1.trans tT_un.symm) (hz2.trans tT_un.symm) (hz3.trans tT_un.symm) _ hf0 hf1 hf2 hf3 hf4 hf5 hf6 hf8 hf10 hf12 rfl hg7 hg9 hg11 hg13
                        · skip
                          refine jv_aload_n (pc' := 122) (k := 0) (x := 0) rfl rfl rfl hf0 ?_
                          refine jv_getR (pc' := 125) (c := 0) (k := 6) (v := 95) rfl rfl rfl (fun _ _ => rfl) rfl rfl (jR_0_6 _) ?_
                          refine jv_aload_n (pc' := 126) (k := 0) (x := 0) rfl rfl rfl hf0 ?_
                          refine jv_getR (pc' := 129) (c := 0) (k := 5) (v := 86) rfl rfl rfl (fun _ _ => rfl) rfl rfl (jR_0_5 _) ?_
                          refine jv_iload_n (pc' := 130) (k := 1) (x := (iI ((fq : Nat) : Int))) rfl rfl rfl hf1 ?_
                          refine jv_aaload (pc' := 131) (n := 4) (e := ((fq : Nat) : Int)) (v := (87 + 2 * fq)) rfl rfl rfl rfl rfl (by omega) (jR86 _ hfq) ?_
                          refine jv_aload (pc' := 133) (k := 15) (x := 39) rfl rfl rfl ?_
                          refine jv_call (pc' := 136) rfl (cl_isTrue (I := I2) (M := M2) (p := p2) (s := s2) (TL_f hfq) (N2.1.2.2.2.2.2.1 fq hfq) N2.2.1 hE2 N2.2.2.2.1 htz2 hQ) (fun v6 g6 q6 => ?_)
                          obtain ⟨I3, kv, y0, l0, t0, rfl, r3, tz3, hV, rfl⟩ := q6
                          have hR3 := CR_F N2.1 r3 tz3 (p' := (fun q => if q = 22 then some 39 else if q = 21 then some (87 + 2 * fq) else p2 q)) (fun i hi => (if_neg (by omega)).trans (if_neg (by omega)))
                          have hTR : TRs A fq k s2 (y0 || l0) := ⟨_, kv, y0, l0, t0, N2.2.2.1, hE2, N2.2.2.2.1, hV, rfl⟩
                          have hvb := (hE2 r.toNat (by omega)).1.2.2.2.2
                          show jx L xs _ 15 136 _ [.int (jb ((y0 || l0) = true))] _ _
                          refine jv_jb_eq (t := 192) (pc' := 139) (P := (y0 || l0) = true) rfl rfl rfl (fun hz_32 => ?_) (fun hz_32 => ?_)
                          · skip
                            refine jv_iinc (pc' := 195) (k := 14) (a := ((k : Nat) : Int)) rfl rfl hf14 rfl (Or.inr hg13) ?_
                            refine jx_step (pc' := 89) rfl ?_
                            have hFk : FV A fq l nm k none := ⟨s2, _, hTR, r, hFS, Or.inr ⟨Or.inl (by first | assumption | (simpa using (by assumption : ¬ (y0 || l0) = true))), rfl⟩⟩
                            exact ih (k + 1) I3 M2 (fun q => if q = 22 then some 39 else if q = 21 then some (87 + 2 * fq) else p2 q) (fun i => if i = k then none else ov i) z0 z1 z2 z3 (by omega) (by omega) (fr_t (fr_t hf r2) (fr_w r3 (fun l k h => by unfold wF at h; unfold cW; omega))) (fr_t hm t2) hR3 (fun i hi => by
                                  by_cases e : i = k
                                  · subst e; rw [if_pos rfl]; exact hFk
                                  · rw [if_neg e]; exact hFV i (by omega)) (hz0.trans tT_un.symm) (hz1.trans tT_un.symm) (hz2.trans tT_un.symm) (hz3.trans tT_un.symm) _ hf0 hf1 hf2 hf3 hf4 hf5 hf6 hf8 hf10 hf12 rfl hg7 hg9 hg11 hg13
                          · skip
                            have hbt : (y0 || l0) = true := by first | assumption | exact Classical.not_not.1 (by assumption)
                            refine jv_aload (pc' := 141) (k := 15) (x := 39) rfl rfl rfl ?_
                            refine jv_getR (pc' := 144) (c := 7) (k := 1) (v := 41) rfl rfl rfl (fun _ _ => rfl) rfl rfl (jR_39_1 _) ?_
                            refine jv_iload (pc' := 146) (k := 16) (x := (iI r)) rfl rfl rfl ?_
                            refine jv_laload (pc' := 147) (n := 64) (e := r) (v := (lI (s2 8 r.toNat))) rfl rfl rfl rfl rfl (by omega) ((N2.2.1.2.2.2 r.toNat (by omega)).2.2.2.2.2) ?_
                            refine jv_lstore (pc' := 149) (k := 17) (x := (lI (s2 8 r.toNat))) rfl rfl rfl (Or.inr rfl) ?_
                            refine jv_lload (pc' := 151) (k := 6) (x := (lI z0)) rfl rfl hf6 ?_
                            refine jv_long (pc' := 152) (y := lI 0) rfl (by decide) ?_
                            refine jv_lc_ne (t := 161) (pc' := 156) (a := z0) (b := 0) rfl rfl rfl rfl rfl (by omega) (fun hz_33 => ?_) (fun hz_33 => ?_)
                            · skip
                              refine jv_lload (pc' := 163) (k := 10) (x := (lI z2)) rfl rfl hf10 ?_
                              refine jv_lload (pc' := 165) (k := 17) (x := (lI (s2 8 r.toNat))) rfl rfl rfl ?_
                              refine jv_long (pc' := 168) (y := (lI (if s2 8 r.toNat < z2 then s2 8 r.toNat else z2))) rfl (lI_min ⟨by omega, by omega⟩) ?_
                              refine jv_lstore (pc' := 170) (k := 10) (x := (lI (if s2 8 r.toNat < z2 then s2 8 r.toNat else z2))) rfl rfl rfl (Or.inr hg9) ?_
                              refine jv_lload (pc' := 172) (k := 12) (x := (lI z3)) rfl rfl hf12 ?_
                              refine jv_lload (pc' := 174) (k := 17) (x := (lI (s2 8 r.toNat))) rfl rfl rfl ?_
                              refine jv_long (pc' := 177) (y := (lI (if s2 8 r.toNat < z3 then z3 else s2 8 r.toNat))) rfl (lI_max ⟨by omega, by omega⟩) ?_
                              refine jv_lstore (pc' := 179) (k := 12) (x := (lI (if s2 8 r.toNat < z3 then z3 else s2 8 r.toNat))) rfl rfl rfl (Or.inr rfl) ?_
                              refine jv_lload (pc' := 181) (k := 8) (x := (lI z1)) rfl rfl hf8 ?_
                              refine jv_lload (pc' := 183) (k := 17) (x := (lI (s2 8 r.toNat))) rfl rfl rfl ?_
                              refine jv_ladd (pc' := 184) (a := z1) (b := (s2 8 r.toNat)) rfl rfl ?_
                              refine jv_lstore (pc' := 186) (k := 8) (x := (lI (z1 + (s2 8 r.toNat)))) rfl rfl rfl (Or.inr hg7) ?_
                              refine jv_lload (pc' := 188) (k := 6) (x := (lI z0)) rfl rfl hf6 ?_
                              refine jv_long (pc' := 189) (y := lI 1) rfl (by decide) ?_
                              refine jv_ladd (pc' := 190) (a := z0) (b := 1) rfl rfl ?_
                              refine jv_lstore (pc' := 192) (k := 6) (x := (lI (z0 + 1))) rfl rfl rfl (Or.inr (congrArg jm_lng hf5)) ?_
                              refine jv_iinc (pc' := 195) (k := 14) (a := ((k : Nat) : Int)) rfl rfl hf14 rfl (Or.inr rfl) ?_
                              refine jx_step (pc' := 89) rfl ?_
                              have hFk : FV A fq l nm k (some (s2 8 r.toNat)) := ⟨s2, _, hTR, r, hFS, Or.inl ⟨hbt, by omega, rfl⟩⟩
                              exact ih (k + 1) I3 M2 (fun q => if q = 22 then some 39 else if q = 21 then some (87 + 2 * fq) else p2 q) (fun i => if i = k then some (s2 8 r.toNat) else ov i) (z0 + 1) (z1 + (s2 8 r.toNat)) (if s2 8 r.toNat < z2 then s2 8 r.toNat else z2) (if s2 8 r.toNat < z3 then z3 else s2 8 r.toNat) (by omega) (by omega) (fr_t (fr_t hf r2) (fr_w r3 (fun l k h => by unfold wF at h; unfold cW; omega))) (fr_t hm t2) hR3 (fun i hi => by
                                    by_cases e : i = k
                                    · subst e; rw [if_pos rfl]; exact hFk
                                    · rw [if_neg e]; exact hFV i (by omega)) (by rw [tT_us, tN_0, ← hz0]) (by rw [tT_us, tN_1, ← hz1]) (by rw [tT_us, tN_2, ← hz0, ← hz2]; (try split) <;> (try split) <;> (try split) <;> omega) (by rw [tT_us, tN_3, ← hz3]) _ hf0 hf1 hf2 hf3 hf4 hf5 rfl rfl rfl rfl rfl rfl rfl rfl rfl
                            · skip
                              refine jv_lload (pc' := 158) (k := 17) (x := (lI (s2 8 r.toNat))) rfl rfl rfl ?_
                              refine jx_step (pc' := 168) rfl ?_
                              refine jv_lstore (pc' := 170) (k := 10) (x := (lI (s2 8 r.toNat))) rfl rfl rfl (Or.inr hg9) ?_
                              refine jv_lload (pc' := 172) (k := 12) (x := (lI z3)) rfl rfl hf12 ?_
                              refine jv_lload (pc' := 174) (k := 17) (x := (lI (s2 8 r.toNat))) rfl rfl rfl ?_
                              refine jv_long (pc' := 177) (y := (lI (if s2 8 r.toNat < z3 then z3 else s2 8 r.toNat))) rfl (lI_max ⟨by omega, by omega⟩) ?_
                              refine jv_lstore (pc' := 179) (k := 12) (x := (lI (if s2 8 r.toNat < z3 then z3 else s2 8 r.toNat))) rfl rfl rfl (Or.inr rfl) ?_
                              refine jv_lload (pc' := 181) (k := 8) (x := (lI z1)) rfl rfl hf8 ?_
                              refine jv_lload (pc' := 183) (k := 17) (x := (lI (s2 8 r.toNat))) rfl rfl rfl ?_
                              refine jv_ladd (pc' := 184) (a := z1) (b := (s2 8 r.toNat)) rfl rfl ?_
                              refine jv_lstore (pc' := 186) (k := 8) (x := (lI (z1 + (s2 8 r.toNat)))) rfl rfl rfl (Or.inr hg7) ?_
                              refine jv_lload (pc' := 188) (k := 6) (x := (lI z0)) rfl rfl hf6 ?_
                              refine jv_long (pc' := 189) (y := lI 1) rfl (by decide) ?_
                              refine jv_ladd (pc' := 190) (a := z0) (b := 1) rfl rfl ?_
                              refine jv_lstore (pc' := 192) (k := 6) (x := (lI (z0 + 1))) rfl rfl rfl (Or.inr (congrArg jm_lng hf5)) ?_
                              refine jv_iinc (pc' := 195) (k := 14) (a := ((k : Nat) : Int)) rfl rfl hf14 rfl (Or.inr rfl) ?_
                              refine jx_step (pc' := 89) rfl ?_
                              have hFk : FV A fq l nm k (some (s2 8 r.toNat)) := ⟨s2, _, hTR, r, hFS, Or.inl ⟨hbt, by omega, rfl⟩⟩
                              exact ih (k + 1) I3 M2 (fun q => if q = 22 then some 39 else if q = 21 then some (87 + 2 * fq) else p2 q) (fun i => if i = k then some (s2 8 r.toNat) else ov i) (z0 + 1) (z1 + (s2 8 r.toNat)) (s2 8 r.toNat) (if s2 8 r.toNat < z3 then z3 else s2 8 r.toNat) (by omega) (by omega) (fr_t (fr_t hf r2) (fr_w r3 (fun l k h => by unfold wF at h; unfold cW; omega))) (fr_t hm t2) hR3 (fun i hi => by
                                    by_cases e : i = k
                                    · subst e; rw [if_pos rfl]; exact hFk
                                    · rw [if_neg e]; exact hFV i (by omega)) (by rw [tT_us, tN_0, ← hz0]) (by rw [tT_us, tN_1, ← hz1]) (by rw [tT_us, tN_2, ← hz0, ← hz2]; (try split) <;> (try split) <;> (try split) <;> omega) (by rw [tT_us, tN_3, ← hz3]) _ hf0 hf1 hf2 hf3 hf4 hf5 rfl rfl rfl rfl rfl rfl rfl rfl rfl
                  exact H28 _ 0 I M p (fun _ => none) 0 0 0 0 (Nat.lt_succ_self _) (by omega) (fr_r _) (fr_r _) hR (fun i hi => absurd hi (by omega)) rfl rfl rfl rfl _ rfl rfl rfl rfl rfl rfl rfl rfl rfl rfl rfl rfl rfl rfl rfl
                · skip
                  exfalso; omega
              · skip
                exfalso; omega
theorem ml_mats {b : Bool} {fi : Nat} {s : DSt} (hM : CM I M A) (hv : AV2 A ∧ AV3 A ∧ AV4 A ∧ AV5 A) (hfq : fq < 4) (hf : (fi : Int) < A 103 12) (h : TRs A fq fi s b) : jc L xs (d + 7) 159 [.ref 103, .int (iI ((fq : Nat) : Int)), .int (iI ((fi : Nat) : Int))] (jx_G j I M p) (fun v g1 => ∃ I' M', g1 = jx_G j I' M' p ∧ v = some (.int (jb (b = true))) ∧ fr mW I I' ∧ fr mV M M' ∧ CM I' M' A ∧ I' 103 0 = I 103 0 ∧ DMe I' M' s) := by
  obtain ⟨W, k, y, l, t, h1, h2, h3, h4, rfl⟩ := h
  have v5 := hv.2.2.2
  obtain ⟨lk, hlke⟩ : ∃ lk : Nat, A 113 fi = ((lk : Nat) : Int) := ⟨(A 113 fi).toNat, by have := (v5.2.2.2 fi hf).1; omega⟩
  have hlk : lk < 2 := by have := (v5.2.2.2 fi hf).1; omega
  have hrt : aRoot A fi = A 109 lk := by unfold aRoot; rw [hlke]; rfl
  refine jc_mono (ml_matches (lk := lk) (root := aRoot A fi) (MD_of hM ⟨hv.1, hv.2.2.1, v5⟩ hf) ((hM.1 113 fi (by simp [pers])).trans (congrArg iI hlke)) hlk (by rw [hrt]; exact hM.1 109 lk (by simp [pers])) (by rw [hrt]; exact v5.1 lk hlk) h1 h2 h3 (MFL_of hM hv.2.1) (TXS_F hv.2.1) hfq h4) (fun v g1 q => ?_)
  obtain ⟨I', M', rfl, rfl, r, tt, D, hin⟩ := q
  exact ⟨I', M', rfl, rfl, fr_w r (fun l k h => by unfold wB wA at h; unfold mW; omega), fr_w tt (fun l k h => by unfold wN at h; unfold mV; omega), CM_fr hM r tt (fun l k hp => by unfold pers at hp; unfold wB wA; omega) (fun l k hl => by unfold wN; omega), r 103 0 (by simp [wB, wA]), D⟩
set_option maxRecDepth 100000 in
theorem op_total_b1 (hM : CM I M A) (hv : AV2 A ∧ AV3 A ∧ AV4 A ∧ AV5 A) (hx : iR x) (hy : iR y) (hz : iR z) (hu : iR u) (hbad : ¬ ((0 ≤ x ∧ x < 4) ∧ (0 ≤ y ∧ y < 4) ∧ (0 ≤ z ∧ z < 9) ∧ (0 ≤ u ∧ u < 4))) : jc L xs (d + 1) 164 [.ref 103, .int (iI x), .int (iI y), .int (iI z), .int (iI u)] (jx_G j I M p) (fun v g1 => ∃ I' M', g1 = jx_G j I' M' p ∧ fr mW I I' ∧ fr mV M M' ∧ CM I' M' A ∧ I' 103 0 = iI 1) := by
  unfold jc
  have hv12 := hv.2.2.2.2.2.1
  refine jv_aload_n (pc' := 1) (k := 0) (x := 103) rfl rfl rfl rfl ?_
  refine jv_iload_n (pc' := 2) (k := 1) (x := (iI x)) rfl rfl rfl rfl ?_
  refine jv_call (pc' := 5) rfl (ml_noLayer (by omega)) (fun vq1 gq1 q1 => ?_)
  obtain ⟨rfl, rfl⟩ := q1
  show jx L xs _ 164 5 _ [.int (jb (x < 0 ∨ 3 < x)), .ref 103] _ _
  refine jv_jb_ne (t := 36) (pc' := 8) (P := x < 0 ∨ 3 < x) rfl rfl rfl (fun hz_2 => ?_) (fun hz_2 => ?_)
  · skip
    refine jv_iconst (pc' := 37) (n := 1) rfl rfl ?_
    refine jx_step (pc' := 54) rfl ?_
    refine jv_putI (pc' := 57) (c := 12) (k := 0) rfl rfl rfl rfl (fun _ _ _  => rfl) rfl rfl ?_
    refine jv_long (pc' := 58) (y := lI 0) rfl (by decide) ?_
    refine jv_lstore (pc' := 60) (k := 5) (x := (lI 0)) rfl rfl rfl (Or.inr rfl) ?_
    refine jv_long (pc' := 61) (y := lI 0) rfl (by decide) ?_
    refine jv_lstore (pc' := 63) (k := 7) (x := (lI 0)) rfl rfl rfl (Or.inr rfl) ?_
    refine jv_long (pc' := 64) (y := lI 0) rfl (by decide) ?_
    refine jv_lstore (pc' := 66) (k := 9) (x := (lI 0)) rfl rfl rfl (Or.inr rfl) ?_
    refine jv_long (pc' := 67) (y := lI 0) rfl (by decide) ?_
    refine jv_lstore (pc' := 69) (k := 11) (x := (lI 0)) rfl rfl rfl (Or.inr rfl) ?_
    refine jv_iconst (pc' := 70) (n := 0) rfl rfl ?_
    refine jv_istore (pc' := 72) (k := 13) (x := (iI 0)) rfl rfl rfl (Or.inr rfl) ?_
    refine jv_iload (pc' := 74) (k := 13) (x := (iI 0)) rfl rfl rfl ?_
    refine jv_aload_n (pc' := 75) (k := 0) (x := 103) rfl rfl rfl rfl ?_
    refine jv_getI (pc' := 78) (c := 12) (k := 12) (v := (iI (A 103 12))) rfl rfl rfl (fun _ _ => rfl) rfl rfl (hM.1 103 12 (by simp [pers])) ?_
    refine jv_ic_ge (t := 191) (pc' := 81) (a := 0) (b := (A 103 12)) rfl rfl rfl (by omega) (fun hz_3 => ?_) (fun hz_3 => ?_)
    · skip
      refine jv_iload (pc' := 193) (k := 4) (x := (iI u)) rfl rfl rfl ?_
      refine jv_if_ne (t := 201) (pc' := 196) (a := u) rfl rfl rfl (by omega) (fun hz_4 => ?_) (fun hz_4 => ?_)
      · skip
        refine jv_iload (pc' := 203) (k := 4) (x := (iI u)) rfl rfl rfl ?_
        refine jv_iconst (pc' := 204) (n := 1) rfl rfl ?_
        refine jv_ic_ne (t := 212) (pc' := 207) (a := u) (b := 1) rfl rfl rfl (by omega) (fun hz_5 => ?_) (fun hz_5 => ?_)
        · skip
          refine jv_iload (pc' := 214) (k := 4) (x := (iI u)) rfl rfl rfl ?_
          refine jv_iconst (pc' := 215) (n := 2) rfl rfl ?_
          refine jv_ic_ne (t := 223) (pc' := 218) (a := u) (b := 2) rfl rfl rfl (by omega) (fun hz_6 => ?_) (fun hz_6 => ?_)
          · skip
            refine jv_lload (pc' := 225) (k := 11) (x := (lI 0)) rfl rfl rfl ?_
            refine jv_retJ rfl rfl ⟨_, _, rfl, ?_⟩
            first
            | (exfalso; omega)
            | exact ⟨_, _, rfl, (fr_u (by simp [mW]) (fr_r _)), fr_r _, CM_n hM (by simp [pers]), rfl⟩
          · skip
            refine jv_lload (pc' := 220) (k := 9) (x := (lI 0)) rfl rfl rfl ?_
            refine jx_step (pc' := 225) rfl ?_
            refine jv_retJ rfl rfl ⟨_, _, rfl, ?_⟩
            first
            | (exfalso; omega)
            | exact ⟨_, _, rfl, (fr_u (by simp [mW]) (fr_r _)), fr_r _, CM_n hM (by simp [pers]), rfl⟩
        · skip
          refine jv_lload (pc' := 209) (k := 7) (x := (lI 0)) rfl rfl rfl ?_
          refine jx_step (pc' := 225) rfl ?_
          refine jv_retJ rfl rfl ⟨_, _, rfl, ?_⟩
          first
          | (exfalso; omega)
          | exact ⟨_, _, rfl, (fr_u (by simp [mW]) (fr_r _)), fr_r _, CM_n hM (by simp [pers]), rfl⟩
      · skip
        refine jv_lload (pc' := 198) (k := 5) (x := (lI 0)) rfl rfl rfl ?_
        refine jx_step (pc' := 225) rfl ?_
        refine jv_retJ rfl rfl ⟨_, _, rfl, ?_⟩
        first
        | (exfalso; omega)
        | exact ⟨_, _, rfl, (fr_u (by simp [mW]) (fr_r _)), fr_r _, CM_n hM (by simp [pers]), rfl⟩
    · skip
      refine jv_aload_n (pc' := 82) (k := 0) (x := 103) rfl rfl rfl rfl ?_
      refine jv_getI (pc' := 85) (c := 12) (k := 0) (v := (iI 1)) rfl rfl rfl (fun _ _ => rfl) rfl rfl rfl ?_
      refine jv_if_ne (t := 191) (pc' := 88) (a := 1) rfl rfl rfl (by omega) (fun hz_7 => ?_) (fun hz_7 => ?_)
      · skip
        refine jv_iload (pc' := 193) (k := 4) (x := (iI u)) rfl rfl rfl ?_
        refine jv_if_ne (t := 201) (pc' := 196) (a := u) rfl rfl rfl (by omega) (fun hz_8 => ?_) (fun hz_8 => ?_)
        · skip
          refine jv_iload (pc' := 203) (k := 4) (x := (iI u)) rfl rfl rfl ?_
          refine jv_iconst (pc' := 204) (n := 1) rfl rfl ?_
          refine jv_ic_ne (t := 212) (pc' := 207) (a := u) (b := 1) rfl rfl rfl (by omega) (fun hz_9 => ?_) (fun hz_9 => ?_)
          · skip
            refine jv_iload (pc' := 214) (k := 4) (x := (iI u)) rfl rfl rfl ?_
            refine jv_iconst (pc' := 215) (n := 2) rfl rfl ?_
            refine jv_ic_ne (t := 223) (pc' := 218) (a := u) (b := 2) rfl rfl rfl (by omega) (fun hz_10 => ?_) (fun hz_10 => ?_)
            · skip
              refine jv_lload (pc' := 225) (k := 11) (x := (lI 0)) rfl rfl rfl ?_
              refine jv_retJ rfl rfl ⟨_, _, rfl, ?_⟩
              first
              | (exfalso; omega)
              | exact ⟨_, _, rfl, (fr_u (by simp [mW]) (fr_r _)), fr_r _, CM_n hM (by simp [pers]), rfl⟩
            · skip
              refine jv_lload (pc' := 220) (k := 9) (x := (lI 0)) rfl rfl rfl ?_
              refine jx_step (pc' := 225) rfl ?_
              refine jv_retJ rfl rfl ⟨_, _, rfl, ?_⟩
              first
              | (exfalso; omega)
              | exact ⟨_, _, rfl, (fr_u (by simp [mW]) (fr_r _)), fr_r _, CM_n hM (by simp [pers]), rfl⟩
          · skip
            refine jv_lload (pc' := 209) (k := 7) (x := (lI 0)) rfl rfl rfl ?_
            refine jx_step (pc' := 225) rfl ?_
            refine jv_retJ rfl rfl ⟨_, _, rfl, ?_⟩
            first
            | (exfalso; omega)
            | exact ⟨_, _, rfl, (fr_u (by simp [mW]) (fr_r _)), fr_r _, CM_n hM (by simp [pers]), rfl⟩
        · skip
          refine jv_lload (pc' := 198) (k := 5) (x := (lI 0)) rfl rfl rfl ?_
          refine jx_step (pc' := 225) rfl ?_
          refine jv_retJ rfl rfl ⟨_, _, rfl, ?_⟩
          first
          | (exfalso; omega)
          | exact ⟨_, _, rfl, (fr_u (by simp [mW]) (fr_r _)), fr_r _, CM_n hM (by simp [pers]), rfl⟩
      · skip
        exact absurd hz_7 (by decide)
  · skip
    refine jv_iload_n (pc' := 9) (k := 2) (x := (iI y)) rfl rfl rfl rfl ?_
    refine jv_call (pc' := 12) rfl (ml_noLayer (by omega)) (fun vq11 gq11 q11 => ?_)
    obtain ⟨rfl, rfl⟩ := q11
    show jx L xs _ 164 12 _ [.int (jb (y < 0 ∨ 3 < y)), .ref 103] _ _
    refine jv_jb_ne (t := 36) (pc' := 15) (P := y < 0 ∨ 3 < y) rfl rfl rfl (fun hz_12 => ?_) (fun hz_12 => ?_)
    · skip
      refine jv_iconst (pc' := 37) (n := 1) rfl rfl ?_
      refine jx_step (pc' := 54) rfl ?_
      refine jv_putI (pc' := 57) (c := 12) (k := 0) rfl rfl rfl rfl (fun _ _ _  => rfl) rfl rfl ?_
      refine jv_long (pc' := 58) (y := lI 0) rfl (by decide) ?_
      refine jv_lstore (pc' := 60) (k := 5) (x := (lI 0)) rfl rfl rfl (Or.inr rfl) ?_
      refine jv_long (pc' := 61) (y := lI 0) rfl (by decide) ?_
      refine jv_lstore (pc' := 63) (k := 7) (x := (lI 0)) rfl rfl rfl (Or.inr rfl) ?_
      refine jv_long (pc' := 64) (y := lI 0) rfl (by decide) ?_
      refine jv_lstore (pc' := 66) (k := 9) (x := (lI 0)) rfl rfl rfl (Or.inr rfl) ?_
      refine jv_long (pc' := 67) (y := lI 0) rfl (by decide) ?_
      refine jv_lstore (pc' := 69) (k := 11) (x := (lI 0)) rfl rfl rfl (Or.inr rfl) ?_
      refine jv_iconst (pc' := 70) (n := 0) rfl rfl ?_
      refine jv_istore (pc' := 72) (k := 13) (x := (iI 0)) rfl rfl rfl (Or.inr rfl) ?_
      refine jv_iload (pc' := 74) (k := 13) (x := (iI 0)) rfl rfl rfl ?_
      refine jv_aload_n (pc' := 75) (k := 0) (x := 103) rfl rfl rfl rfl ?_
      refine jv_getI (pc' := 78) (c := 12) (k := 12) (v := (iI (A 103 12))) rfl rfl rfl (fun _ _ => rfl) rfl rfl (hM.1 103 12 (by simp [pers])) ?_
      refine jv_ic_ge (t := 191) (pc' := 81) (a := 0) (b := (A 103 12)) rfl rfl rfl (by omega) (fun hz_13 => ?_) (fun hz_13 => ?_)
      · skip
        refine jv_iload (pc' := 193) (k := 4) (x := (iI u)) rfl rfl rfl ?_
        refine jv_if_ne (t := 201) (pc' := 196) (a := u) rfl rfl rfl (by omega) (fun hz_14 => ?_) (fun hz_14 => ?_)
        · skip
          refine jv_iload (pc' := 203) (k := 4) (x := (iI u)) rfl rfl rfl ?_
          refine jv_iconst (pc' := 204) (n := 1) rfl rfl ?_
          refine jv_ic_ne (t := 212) (pc' := 207) (a := u) (b := 1) rfl rfl rfl (by omega) (fun hz_15 => ?_) (fun hz_15 => ?_)
          · skip
            refine jv_iload (pc' := 214) (k := 4) (x := (iI u)) rfl rfl rfl ?_
            refine jv_iconst (pc' := 215) (n := 2) rfl rfl ?_
            refine jv_ic_ne (t := 223) (pc' := 218) (a := u) (b := 2) rfl rfl rfl (by omega) (fun hz_16 => ?_) (fun hz_16 => ?_)
            · skip
              refine jv_lload (pc' := 225) (k := 11) (x := (lI 0)) rfl rfl rfl ?_
              refine jv_retJ rfl rfl ⟨_, _, rfl, ?_⟩
              first
              | (exfalso; omega)
              | exact ⟨_, _, rfl, (fr_u (by simp [mW]) (fr_r _)), fr_r _, CM_n hM (by simp [pers]), rfl⟩
            · skip
              refine jv_lload (pc' := 220) (k := 9) (x := (lI 0)) rfl rfl rfl ?_
              refine jx_step (pc' := 225) rfl ?_
              refine jv_retJ rfl rfl ⟨_, _, rfl, ?_⟩
              first
              | (exfalso; omega)
              | exact ⟨_, _, rfl, (fr_u (by simp [mW]) (fr_r _)), fr_r _, CM_n hM (by simp [pers]), rfl⟩
          · skip
            refine jv_lload (pc' := 209) (k := 7) (x := (lI 0)) rfl rfl rfl ?_
            refine jx_step (pc' := 225) rfl ?_
            refine jv_retJ rfl rfl ⟨_, _, rfl, ?_⟩
            first
            | (exfalso; omega)
            | exact ⟨_, _, rfl, (fr_u (by simp [mW]) (fr_r _)), fr_r _, CM_n hM (by simp [pers]), rfl⟩
        · skip
          refine jv_lload (pc' := 198) (k := 5) (x := (lI 0)) rfl rfl rfl ?_
          refine jx_step (pc' := 225) rfl ?_
          refine jv_retJ rfl rfl ⟨_, _, rfl, ?_⟩
          first
          | (exfalso; omega)
          | exact ⟨_, _, rfl, (fr_u (by simp [mW]) (fr_r _)), fr_r _, CM_n hM (by simp [pers]), rfl⟩
      · skip
        refine jv_aload_n (pc' := 82) (k := 0) (x := 103) rfl rfl rfl rfl ?_
        refine jv_getI (pc' := 85) (c := 12) (k := 0) (v := (iI 1)) rfl rfl rfl (fun _ _ => rfl) rfl rfl rfl ?_
        refine jv_if_ne (t := 191) (pc' := 88) (a := 1) rfl rfl rfl (by omega) (fun hz_17 => ?_) (fun hz_17 => ?_)
        · skip
          refine jv_iload (pc' := 193) (k := 4) (x := (iI u)) rfl rfl rfl ?_
          refine jv_if_ne (t := 201) (pc' := 196) (a := u) rfl rfl rfl (by omega) (fun hz_18 => ?_) (fun hz_18 => ?_)
          · skip
            refine jv_iload (pc' := 203) (k := 4) (x := (iI u)) rfl rfl rfl ?_
            refine jv_iconst (pc' := 204) (n := 1) rfl rfl ?_
            refine jv_ic_ne (t := 212) (pc' := 207) (a := u) (b := 1) rfl rfl rfl (by omega) (fun hz_19 => ?_) (fun hz_19 => ?_)
            · skip
              refine jv_iload (pc' := 214) (k := 4) (x := (iI u)) rfl rfl rfl ?_
              refine jv_iconst (pc' := 215) (n := 2) rfl rfl ?_
              refine jv_ic_ne (t := 223) (pc' := 218) (a := u) (b := 2) rfl rfl rfl (by omega) (fun hz_20 => ?_) (fun hz_20 => ?_)
              · skip
                refine jv_lload (pc' := 225) (k := 11) (x := (lI 0)) rfl rfl rfl ?_
                refine jv_retJ rfl rfl ⟨_, _, rfl, ?_⟩
                first
                | (exfalso; omega)
                | exact ⟨_, _, rfl, (fr_u (by simp [mW]) (fr_r _)), fr_r _, CM_n hM (by simp [pers]), rfl⟩
              · skip
                refine jv_lload (pc' := 220) (k := 9) (x := (lI 0)) rfl rfl rfl ?_
                refine jx_step (pc' := 225) rfl ?_
                refine jv_retJ rfl rfl ⟨_, _, rfl, ?_⟩
                first
                | (exfalso; omega)
                | exact ⟨_, _, rfl, (fr_u (by simp [mW]) (fr_r _)), fr_r _, CM_n hM (by simp [pers]), rfl⟩
            · skip
              refine jv_lload (pc' := 209) (k := 7) (x := (lI 0)) rfl rfl rfl ?_
              refine jx_step (pc' := 225) rfl ?_
              refine jv_retJ rfl rfl ⟨_, _, rfl, ?_⟩
              first
              | (exfalso; omega)
              | exact ⟨_, _, rfl, (fr_u (by simp [mW]) (fr_r _)), fr_r _, CM_n hM (by simp [pers]), rfl⟩
          · skip
            refine jv_lload (pc' := 198) (k := 5) (x := (lI 0)) rfl rfl rfl ?_
            refine jx_step (pc' := 225) rfl ?_
            refine jv_retJ rfl rfl ⟨_, _, rfl, ?_⟩
            first
            | (exfalso; omega)
            | exact ⟨_, _, rfl, (fr_u (by simp [mW]) (fr_r _)), fr_r _, CM_n hM (by simp [pers]), rfl⟩
        · skip
          exact absurd hz_17 (by decide)
    · skip
      refine jv_iload_n (pc' := 16) (k := 3) (x := (iI z)) rfl rfl rfl rfl ?_
      refine jv_if_lt (t := 36) (pc' := 19) (a := z) rfl rfl rfl (by omega) (fun hz_21 => ?_) (fun hz_21 => ?_)
      · skip
        refine jv_iconst (pc' := 37) (n := 1) rfl rfl ?_
        refine jx_step (pc' := 54) rfl ?_
        refine jv_putI (pc' := 57) (c := 12) (k := 0) rfl rfl rfl rfl (fun _ _ _  => rfl) rfl rfl ?_
        refine jv_long (pc' := 58) (y := lI 0) rfl (by decide) ?_
        refine jv_lstore (pc' := 60) (k := 5) (x := (lI 0)) rfl rfl rfl (Or.inr rfl) ?_
        refine jv_long (pc' := 61) (y := lI 0) rfl (by decide) ?_
        refine jv_lstore (pc' := 63) (k := 7) (x := (lI 0)) rfl rfl rfl (Or.inr rfl) ?_
        refine jv_long (pc' := 64) (y := lI 0) rfl (by decide) ?_
        refine jv_lstore (pc' := 66) (k := 9) (x := (lI 0)) rfl rfl rfl (Or.inr rfl) ?_
        refine jv_long (pc' := 67) (y := lI 0) rfl (by decide) ?_
        refine jv_lstore (pc' := 69) (k := 11) (x := (lI 0)) rfl rfl rfl (Or.inr rfl) ?_
        refine jv_iconst (pc' := 70) (n := 0) rfl rfl ?_
        refine jv_istore (pc' := 72) (k := 13) (x := (iI 0)) rfl rfl rfl (Or.inr rfl) ?_
        refine jv_iload (pc' := 74) (k := 13) (x := (iI 0)) rfl rfl rfl ?_
        refine jv_aload_n (pc' := 75) (k := 0) (x := 103) rfl rfl rfl rfl ?_
        refine jv_getI (pc' := 78) (c := 12) (k := 12) (v := (iI (A 103 12))) rfl rfl rfl (fun _ _ => rfl) rfl rfl (hM.1 103 12 (by simp [pers])) ?_
        refine jv_ic_ge (t := 191) (pc' := 81) (a := 0) (b := (A 103 12)) rfl rfl rfl (by omega) (fun hz_22 => ?_) (fun hz_22 => ?_)
        · skip
          refine jv_iload (pc' := 193) (k := 4) (x := (iI u)) rfl rfl rfl ?_
          refine jv_if_ne (t := 201) (pc' := 196) (a := u) rfl rfl rfl (by omega) (fun hz_23 => ?_) (fun hz_23 => ?_)
          · skip
            refine jv_iload (pc' := 203) (k := 4) (x := (iI u)) rfl rfl rfl ?_
            refine jv_iconst (pc' := 204) (n := 1) rfl rfl ?_
            refine jv_ic_ne (t := 212) (pc' := 207) (a := u) (b := 1) rfl rfl rfl (by omega) (fun hz_24 => ?_) (fun hz_24 => ?_)
            · skip
              refine jv_iload (pc' := 214) (k := 4) (x := (iI u)) rfl rfl rfl ?_
              refine jv_iconst (pc' := 215) (n := 2) rfl rfl ?_
              refine jv_ic_ne (t := 223) (pc' := 218) (a := u) (b := 2) rfl rfl rfl (by omega) (fun hz_25 => ?_) (fun hz_25 => ?_)
              · skip
                refine jv_lload (pc' := 225) (k := 11) (x := (lI 0)) rfl rfl rfl ?_
                refine jv_retJ rfl rfl ⟨_, _, rfl, ?_⟩
                first
                | (exfalso; omega)
                | exact ⟨_, _, rfl, (fr_u (by simp [mW]) (fr_r _)), fr_r _, CM_n hM (by simp [pers]), rfl⟩
              · skip
                refine jv_lload (pc' := 220) (k := 9) (x := (lI 0)) rfl rfl rfl ?_
                refine jx_step (pc' := 225) rfl ?_
                refine jv_retJ rfl rfl ⟨_, _, rfl, ?_⟩
                first
                | (exfalso; omega)
                | exact ⟨_, _, rfl, (fr_u (by simp [mW]) (fr_r _)), fr_r _, CM_n hM (by simp [pers]), rfl⟩
            · skip
              refine jv_lload (pc' := 209) (k := 7) (x := (lI 0)) rfl rfl rfl ?_
              refine jx_step (pc' := 225) rfl ?_
              refine jv_retJ rfl rfl ⟨_, _, rfl, ?_⟩
              first
              | (exfalso; omega)
              | exact ⟨_, _, rfl, (fr_u (by simp [mW]) (fr_r _)), fr_r _, CM_n hM (by simp [pers]), rfl⟩
          · skip
            refine jv_lload (pc' := 198) (k := 5) (x := (lI 0)) rfl rfl rfl ?_
            refine jx_step (pc' := 225) rfl ?_
            refine jv_retJ rfl rfl ⟨_, _, rfl, ?_⟩
            first
            | (exfalso; omega)
            | exact ⟨_, _, rfl, (fr_u (by simp [mW]) (fr_r _)), fr_r _, CM_n hM (by simp [pers]), rfl⟩
        · skip
          refine jv_aload_n (pc' := 82) (k := 0) (x := 103) rfl rfl rfl rfl ?_
          refine jv_getI (pc' := 85) (c := 12) (k := 0) (v := (iI 1)) rfl rfl rfl (fun _ _ => rfl) rfl rfl rfl ?_
          refine jv_if_ne (t := 191) (pc' := 88) (a := 1) rfl rfl rfl (by omega) (fun hz_26 => ?_) (fun hz_26 => ?_)
          · skip
            refine jv_iload (pc' := 193) (k := 4) (x := (iI u)) rfl rfl rfl ?_
            refine jv_if_ne (t := 201) (pc' := 196) (a := u) rfl rfl rfl (by omega) (fun hz_27 => ?_) (fun hz_27 => ?_)
            · skip
              refine jv_iload (pc' := 203) (k := 4) (x := (iI u)) rfl rfl rfl ?_
              refine jv_iconst (pc' := 204) (n := 1) rfl rfl ?_
              refine jv_ic_ne (t := 212) (pc' := 207) (a := u) (b := 1) rfl rfl rfl (by omega) (fun hz_28 => ?_) (fun hz_28 => ?_)
              · skip
                refine jv_iload (pc' := 214) (k := 4) (x := (iI u)) rfl rfl rfl ?_
                refine jv_iconst (pc' := 215) (n := 2) rfl rfl ?_
                refine jv_ic_ne (t := 223) (pc' := 218) (a := u) (b := 2) rfl rfl rfl (by omega) (fun hz_29 => ?_) (fun hz_29 => ?_)
                · skip
                  refine jv_lload (pc' := 225) (k := 11) (x := (lI 0)) rfl rfl rfl ?_
                  refine jv_retJ rfl rfl ⟨_, _, rfl, ?_⟩
                  first
                  | (exfalso; omega)
                  | exact ⟨_, _, rfl, (fr_u (by simp [mW]) (fr_r _)), fr_r _, CM_n hM (by simp [pers]), rfl⟩
                · skip
                  refine jv_lload (pc' := 220) (k := 9) (x := (lI 0)) rfl rfl rfl ?_
                  refine jx_step (pc' := 225) rfl ?_
                  refine jv_retJ rfl rfl ⟨_, _, rfl, ?_⟩
                  first
                  | (exfalso; omega)
                  | exact ⟨_, _, rfl, (fr_u (by simp [mW]) (fr_r _)), fr_r _, CM_n hM (by simp [pers]), rfl⟩
              · skip
                refine jv_lload (pc' := 209) (k := 7) (x := (lI 0)) rfl rfl rfl ?_
                refine jx_step (pc' := 225) rfl ?_
                refine jv_retJ rfl rfl ⟨_, _, rfl, ?_⟩
                first
                | (exfalso; omega)
                | exact ⟨_, _, rfl, (fr_u (by simp [mW]) (fr_r _)), fr_r _, CM_n hM (by simp [pers]), rfl⟩
            · skip
              refine jv_lload (pc' := 198) (k := 5) (x := (lI 0)) rfl rfl rfl ?_
              refine jx_step (pc' := 225) rfl ?_
              refine jv_retJ rfl rfl ⟨_, _, rfl, ?_⟩
              first
              | (exfalso; omega)
              | exact ⟨_, _, rfl, (fr_u (by simp [mW]) (fr_r _)), fr_r _, CM_n hM (by simp [pers]), rfl⟩
          · skip
            exact absurd hz_26 (by decide)
      · skip
        refine jv_iload_n (pc' := 20) (k := 3) (x := (iI z)) rfl rfl rfl rfl ?_
        refine jv_bipush (pc' := 22) (n := 8) rfl rfl rfl ?_
        refine jv_ic_gt (t := 36) (pc' := 25) (a := z) (b := 8) rfl rfl rfl (by omega) (fun hz_30 => ?_) (fun hz_30 => ?_)
        · skip
          refine jv_iconst (pc' := 37) (n := 1) rfl rfl ?_
          refine jx_step (pc' := 54) rfl ?_
          refine jv_putI (pc' := 57) (c := 12) (k := 0) rfl rfl rfl rfl (fun _ _ _  => rfl) rfl rfl ?_
          refine jv_long (pc' := 58) (y := lI 0) rfl (by decide) ?_
          refine jv_lstore (pc' := 60) (k := 5) (x := (lI 0)) rfl rfl rfl (Or.inr rfl) ?_
          refine jv_long (pc' := 61) (y := lI 0) rfl (by decide) ?_
          refine jv_lstore (pc' := 63) (k := 7) (x := (lI 0)) rfl rfl rfl (Or.inr rfl) ?_
          refine jv_long (pc' := 64) (y := lI 0) rfl (by decide) ?_
          refine jv_lstore (pc' := 66) (k := 9) (x := (lI 0)) rfl rfl rfl (Or.inr rfl) ?_
          refine jv_long (pc' := 67) (y := lI 0) rfl (by decide) ?_
          refine jv_lstore (pc' := 69) (k := 11) (x := (lI 0)) rfl rfl rfl (Or.inr rfl) ?_
          refine jv_iconst (pc' := 70) (n := 0) rfl rfl ?_
          refine jv_istore (pc' := 72) (k := 13) (x := (iI 0)) rfl rfl rfl (Or.inr rfl) ?_
          refine jv_iload (pc' := 74) (k := 13) (x := (iI 0)) rfl rfl rfl ?_
          refine jv_aload_n (pc' := 75) (k := 0) (x := 103) rfl rfl rfl rfl ?_
          refine jv_getI (pc' := 78) (c := 12) (k := 12) (v := (iI (A 103 12))) rfl rfl rfl (fun _ _ => rfl) rfl rfl (hM.1 103 12 (by simp [pers])) ?_
          refine jv_ic_ge (t := 191) (pc' := 81) (a := 0) (b := (A 103 12)) rfl rfl rfl (by omega) (fun hz_31 => ?_) (fun hz_31 => ?_)
          · skip
            refine jv_iload (pc' := 193) (k := 4) (x := (iI u)) rfl rfl rfl ?_
            refine jv_if_ne (t := 201) (pc' := 196) (a := u) rfl rfl rfl (by omega) (fun hz_32 => ?_) (fun hz_32 => ?_)
            · skip
              refine jv_iload (pc' := 203) (k := 4) (x := (iI u)) rfl rfl rfl ?_
              refine jv_iconst (pc' := 204) (n := 1) rfl rfl ?_
              refine jv_ic_ne (t := 212) (pc' := 207) (a := u) (b := 1) rfl rfl rfl (by omega) (fun hz_33 => ?_) (fun hz_33 => ?_)
              · skip
                refine jv_iload (pc' := 214) (k := 4) (x := (iI u)) rfl rfl rfl ?_
                refine jv_iconst (pc' := 215) (n := 2) rfl rfl ?_
                refine jv_ic_ne (t := 223) (pc' := 218) (a := u) (b := 2) rfl rfl rfl (by omega) (fun hz_34 => ?_) (fun hz_34 => ?_)
                · skip
                  refine jv_lload (pc' := 225) (k := 11) (x := (lI 0)) rfl rfl rfl ?_
                  refine jv_retJ rfl rfl ⟨_, _, rfl, ?_⟩
                  first
                  | (exfalso; omega)
                  | exact ⟨_, _, rfl, (fr_u (by simp [mW]) (fr_r _)), fr_r _, CM_n hM (by simp [pers]), rfl⟩
                · skip
                  refine jv_lload (pc' := 220) (k := 9) (x := (lI 0)) rfl rfl rfl ?_
                  refine jx_step (pc' := 225) rfl ?_
                  refine jv_retJ rfl rfl ⟨_, _, rfl, ?_⟩
                  first
                  | (exfalso; omega)
                  | exact ⟨_, _, rfl, (fr_u (by simp [mW]) (fr_r _)), fr_r _, CM_n hM (by simp [pers]), rfl⟩
              · skip
                refine jv_lload (pc' := 209) (k := 7) (x := (lI 0)) rfl rfl rfl ?_
                refine jx_step (pc' := 225) rfl ?_
                refine jv_retJ rfl rfl ⟨_, _, rfl, ?_⟩
                first
                | (exfalso; omega)
                | exact ⟨_, _, rfl, (fr_u (by simp [mW]) (fr_r _)), fr_r _, CM_n hM (by simp [pers]), rfl⟩
            · skip
              refine jv_lload (pc' := 198) (k := 5) (x := (lI 0)) rfl rfl rfl ?_
              refine jx_step (pc' := 225) rfl ?_
              refine jv_retJ rfl rfl ⟨_, _, rfl, ?_⟩
              first
              | (exfalso; omega)
              | exact ⟨_, _, rfl, (fr_u (by simp [mW]) (fr_r _)), fr_r _, CM_n hM (by simp [pers]), rfl⟩
          · skip
            refine jv_aload_n (pc' := 82) (k := 0) (x := 103) rfl rfl rfl rfl ?_
            refine jv_getI (pc' := 85) (c := 12) (k := 0) (v := (iI 1)) rfl rfl rfl (fun _ _ => rfl) rfl rfl rfl ?_
            refine jv_if_ne (t := 191) (pc' := 88) (a := 1) rfl rfl rfl (by omega) (fun hz_35 => ?_) (fun hz_35 => ?_)
            · skip
              refine jv_iload (pc' := 193) (k := 4) (x := (iI u)) rfl rfl rfl ?_
              refine jv_if_ne (t := 201) (pc' := 196) (a := u) rfl rfl rfl (by omega) (fun hz_36 => ?_) (fun hz_36 => ?_)
              · skip
                refine jv_iload (pc' := 203) (k := 4) (x := (iI u)) rfl rfl rfl ?_
                refine jv_iconst (pc' := 204) (n := 1) rfl rfl ?_
                refine jv_ic_ne (t := 212) (pc' := 207) (a := u) (b := 1) rfl rfl rfl (by omega) (fun hz_37 => ?_) (fun hz_37 => ?_)
                · skip
                  refine jv_iload (pc' := 214) (k := 4) (x := (iI u)) rfl rfl rfl ?_
                  refine jv_iconst (pc' := 215) (n := 2) rfl rfl ?_
                  refine jv_ic_ne (t := 223) (pc' := 218) (a := u) (b := 2) rfl rfl rfl (by omega) (fun hz_38 => ?_) (fun hz_38 => ?_)
                  · skip
                    refine jv_lload (pc' := 225) (k := 11) (x := (lI 0)) rfl rfl rfl ?_
                    refine jv_retJ rfl rfl ⟨_, _, rfl, ?_⟩
                    first
                    | (exfalso; omega)
                    | exact ⟨_, _, rfl, (fr_u (by simp [mW]) (fr_r _)), fr_r _, CM_n hM (by simp [pers]), rfl⟩
                  · skip
                    refine jv_lload (pc' := 220) (k := 9) (x := (lI 0)) rfl rfl rfl ?_
                    refine jx_step (pc' := 225) rfl ?_
                    refine jv_retJ rfl rfl ⟨_, _, rfl, ?_⟩
                    first
                    | (exfalso; omega)
                    | exact ⟨_, _, rfl, (fr_u (by simp [mW]) (fr_r _)), fr_r _, CM_n hM (by simp [pers]), rfl⟩
                · skip
                  refine jv_lload (pc' := 209) (k := 7) (x := (lI 0)) rfl rfl rfl ?_
                  refine jx_step (pc' := 225) rfl ?_
                  refine jv_retJ rfl rfl ⟨_, _, rfl, ?_⟩
                  first
                  | (exfalso; omega)
                  | exact ⟨_, _, rfl, (fr_u (by simp [mW]) (fr_r _)), fr_r _, CM_n hM (by simp [pers]), rfl⟩
              · skip
                refine jv_lload (pc' := 198) (k := 5) (x := (lI 0)) rfl rfl rfl ?_
                refine jx_step (pc' := 225) rfl ?_
                refine jv_retJ rfl rfl ⟨_, _, rfl, ?_⟩
                first
                | (exfalso; omega)
                | exact ⟨_, _, rfl, (fr_u (by simp [mW]) (fr_r _)), fr_r _, CM_n hM (by simp [pers]), rfl⟩
            · skip
              exact absurd hz_35 (by decide)
        · skip
          refine jv_iload (pc' := 27) (k := 4) (x := (iI u)) rfl rfl rfl ?_
          refine jv_if_lt (t := 36) (pc' := 30) (a := u) rfl rfl rfl (by omega) (fun hz_39 => ?_) (fun hz_39 => ?_)
          · skip
            refine jv_iconst (pc' := 37) (n := 1) rfl rfl ?_
            refine jx_step (pc' := 54) rfl ?_
            refine jv_putI (pc' := 57) (c := 12) (k := 0) rfl rfl rfl rfl (fun _ _ _  => rfl) rfl rfl ?_
            refine jv_long (pc' := 58) (y := lI 0) rfl (by decide) ?_
            refine jv_lstore (pc' := 60) (k := 5) (x := (lI 0)) rfl rfl rfl (Or.inr rfl) ?_
            refine jv_long (pc' := 61) (y := lI 0) rfl (by decide) ?_
            refine jv_lstore (pc' := 63) (k := 7) (x := (lI 0)) rfl rfl rfl (Or.inr rfl) ?_
            refine jv_long (pc' := 64) (y := lI 0) rfl (by decide) ?_
            refine jv_lstore (pc' := 66) (k := 9) (x := (lI 0)) rfl rfl rfl (Or.inr rfl) ?_
            refine jv_long (pc' := 67) (y := lI 0) rfl (by decide) ?_
            refine jv_lstore (pc' := 69) (k := 11) (x := (lI 0)) rfl rfl rfl (Or.inr rfl) ?_
            refine jv_iconst (pc' := 70) (n := 0) rfl rfl ?_
            refine jv_istore (pc' := 72) (k := 13) (x := (iI 0)) rfl rfl rfl (Or.inr rfl) ?_
            refine jv_iload (pc' := 74) (k := 13) (x := (iI 0)) rfl rfl rfl ?_
            refine jv_aload_n (pc' := 75) (k := 0) (x := 103) rfl rfl rfl rfl ?_
            refine jv_getI (pc' := 78) (c := 12) (k := 12) (v := (iI (A 103 12))) rfl rfl rfl (fun _ _ => rfl) rfl rfl (hM.1 103 12 (by simp [pers])) ?_
            refine jv_ic_ge (t := 191) (pc' := 81) (a := 0) (b := (A 103 12)) rfl rfl rfl (by omega) (fun hz_40 => ?_) (fun hz_40 => ?_)
            · skip
              refine jv_iload (pc' := 193) (k := 4) (x := (iI u)) rfl rfl rfl ?_
              refine jv_if_ne (t := 201) (pc' := 196) (a := u) rfl rfl rfl (by omega) (fun hz_41 => ?_) (fun hz_41 => ?_)
              · skip
                refine jv_iload (pc' := 203) (k := 4) (x := (iI u)) rfl rfl rfl ?_
                refine jv_iconst (pc' := 204) (n := 1) rfl rfl ?_
                refine jv_ic_ne (t := 212) (pc' := 207) (a := u) (b := 1) rfl rfl rfl (by omega) (fun hz_42 => ?_) (fun hz_42 => ?_)
                · skip
                  refine jv_iload (pc' := 214) (k := 4) (x := (iI u)) rfl rfl rfl ?_
                  refine jv_iconst (pc' := 215) (n := 2) rfl rfl ?_
                  refine jv_ic_ne (t := 223) (pc' := 218) (a := u) (b := 2) rfl rfl rfl (by omega) (fun hz_43 => ?_) (fun hz_43 => ?_)
                  · skip
                    refine jv_lload (pc' := 225) (k := 11) (x := (lI 0)) rfl rfl rfl ?_
                    refine jv_retJ rfl rfl ⟨_, _, rfl, ?_⟩
                    first
                    | (exfalso; omega)
                    | exact ⟨_, _, rfl, (fr_u (by simp [mW]) (fr_r _)), fr_r _, CM_n hM (by simp [pers]), rfl⟩
                  · skip
                    refine jv_lload (pc' := 220) (k := 9) (x := (lI 0)) rfl rfl rfl ?_
                    refine jx_step (pc' := 225) rfl ?_
                    refine jv_retJ rfl rfl ⟨_, _, rfl, ?_⟩
                    first
                    | (exfalso; omega)
                    | exact ⟨_, _, rfl, (fr_u (by simp [mW]) (fr_r _)), fr_r _, CM_n hM (by simp [pers]), rfl⟩
                · skip
                  refine jv_lload (pc' := 209) (k := 7) (x := (lI 0)) rfl rfl rfl ?_
                  refine jx_step (pc' := 225) rfl ?_
                  refine jv_retJ rfl rfl ⟨_, _, rfl, ?_⟩
                  first
                  | (exfalso; omega)
                  | exact ⟨_, _, rfl, (fr_u (by simp [mW]) (fr_r _)), fr_r _, CM_n hM (by simp [pers]), rfl⟩
              · skip
                refine jv_lload (pc' := 198) (k := 5) (x := (lI 0)) rfl rfl rfl ?_
                refine jx_step (pc' := 225) rfl ?_
                refine jv_retJ rfl rfl ⟨_, _, rfl, ?_⟩
                first
                | (exfalso; omega)
                | exact ⟨_, _, rfl, (fr_u (by simp [mW]) (fr_r _)), fr_r _, CM_n hM (by simp [pers]), rfl⟩
            · skip
              refine jv_aload_n (pc' := 82) (k := 0) (x := 103) rfl rfl rfl rfl ?_
              refine jv_getI (pc' := 85) (c := 12) (k := 0) (v := (iI 1)) rfl rfl rfl (fun _ _ => rfl) rfl rfl rfl ?_
              refine jv_if_ne (t := 191) (pc' := 88) (a := 1) rfl rfl rfl (by omega) (fun hz_44 => ?_) (fun hz_44 => ?_)
              · skip
                refine jv_iload (pc' := 193) (k := 4) (x := (iI u)) rfl rfl rfl ?_
                refine jv_if_ne (t := 201) (pc' := 196) (a := u) rfl rfl rfl (by omega) (fun hz_45 => ?_) (fun hz_45 => ?_)
                · skip
                  refine jv_iload (pc' := 203) (k := 4) (x := (iI u)) rfl rfl rfl ?_
                  refine jv_iconst (pc' := 204) (n := 1) rfl rfl ?_
                  refine jv_ic_ne (t := 212) (pc' := 207) (a := u) (b := 1) rfl rfl rfl (by omega) (fun hz_46 => ?_) (fun hz_46 => ?_)
                  · skip
                    refine jv_iload (pc' := 214) (k := 4) (x := (iI u)) rfl rfl rfl ?_
                    refine jv_iconst (pc' := 215) (n := 2) rfl rfl ?_
                    refine jv_ic_ne (t := 223) (pc' := 218) (a := u) (b := 2) rfl rfl rfl (by omega) (fun hz_47 => ?_) (fun hz_47 => ?_)
                    · skip
                      refine jv_lload (pc' := 225) (k := 11) (x := (lI 0)) rfl rfl rfl ?_
                      refine jv_retJ rfl rfl ⟨_, _, rfl, ?_⟩
                      first
                      | (exfalso; omega)
                      | exact ⟨_, _, rfl, (fr_u (by simp [mW]) (fr_r _)), fr_r _, CM_n hM (by simp [pers]), rfl⟩
                    · skip
                      refine jv_lload (pc' := 220) (k := 9) (x := (lI 0)) rfl rfl rfl ?_
                      refine jx_step (pc' := 225) rfl ?_
                      refine jv_retJ rfl rfl ⟨_, _, rfl, ?_⟩
                      first
                      | (exfalso; omega)
                      | exact ⟨_, _, rfl, (fr_u (by simp [mW]) (fr_r _)), fr_r _, CM_n hM (by simp [pers]), rfl⟩
                  · skip
                    refine jv_lload (pc' := 209) (k := 7) (x := (lI 0)) rfl rfl rfl ?_
                    refine jx_step (pc' := 225) rfl ?_
                    refine jv_retJ rfl rfl ⟨_, _, rfl, ?_⟩
                    first
                    | (exfalso; omega)
                    | exact ⟨_, _, rfl, (fr_u (by simp [mW]) (fr_r _)), fr_r _, CM_n hM (by simp [pers]), rfl⟩
                · skip
                  refine jv_lload (pc' := 198) (k := 5) (x := (lI 0)) rfl rfl rfl ?_
                  refine jx_step (pc' := 225) rfl ?_
                  refine jv_retJ rfl rfl ⟨_, _, rfl, ?_⟩
                  first
                  | (exfalso; omega)
                  | exact ⟨_, _, rfl, (fr_u (by simp [mW]) (fr_r _)), fr_r _, CM_n hM (by simp [pers]), rfl⟩
              · skip
                exact absurd hz_44 (by decide)
          · skip
            refine jv_iload (pc' := 32) (k := 4) (x := (iI u)) rfl rfl rfl ?_
            refine jv_iconst (pc' := 33) (n := 3) rfl rfl ?_
            refine jv_ic_le (t := 40) (pc' := 36) (a := u) (b := 3) rfl rfl rfl (by omega) (fun hz_48 => ?_) (fun hz_48 => ?_)
            · skip
              exfalso; omega
            · skip
              refine jv_iconst (pc' := 37) (n := 1) rfl rfl ?_
              refine jx_step (pc' := 54) rfl ?_
              refine jv_putI (pc' := 57) (c := 12) (k := 0) rfl rfl rfl rfl (fun _ _ _  => rfl) rfl rfl ?_
              refine jv_long (pc' := 58) (y := lI 0) rfl (by decide) ?_
              refine jv_lstore (pc' := 60) (k := 5) (x := (lI 0)) rfl rfl rfl (Or.inr rfl) ?_
              refine jv_long (pc' := 61) (y := lI 0) rfl (by decide) ?_
              refine jv_lstore (pc' := 63) (k := 7) (x := (lI 0)) rfl rfl rfl (Or.inr rfl) ?_
              refine jv_long (pc' := 64) (y := lI 0) rfl (by decide) ?_
              refine jv_lstore (pc' := 66) (k := 9) (x := (lI 0)) rfl rfl rfl (Or.inr rfl) ?_
              refine jv_long (pc' := 67) (y := lI 0) rfl (by decide) ?_
              refine jv_lstore (pc' := 69) (k := 11) (x := (lI 0)) rfl rfl rfl (Or.inr rfl) ?_
              refine jv_iconst (pc' := 70) (n := 0) rfl rfl ?_
              refine jv_istore (pc' := 72) (k := 13) (x := (iI 0)) rfl rfl rfl (Or.inr rfl) ?_
              refine jv_iload (pc' := 74) (k := 13) (x := (iI 0)) rfl rfl rfl ?_
              refine jv_aload_n (pc' := 75) (k := 0) (x := 103) rfl rfl rfl rfl ?_
              refine jv_getI (pc' := 78) (c := 12) (k := 12) (v := (iI (A 103 12))) rfl rfl rfl (fun _ _ => rfl) rfl rfl (hM.1 103 12 (by simp [pers])) ?_
              refine jv_ic_ge (t := 191) (pc' := 81) (a := 0) (b := (A 103 12)) rfl rfl rfl (by omega) (fun hz_49 => ?_) (fun hz_49 => ?_)
              · skip
                refine jv_iload (pc' := 193) (k := 4) (x := (iI u)) rfl rfl rfl ?_
                refine jv_if_ne (t := 201) (pc' := 196) (a := u) rfl rfl rfl (by omega) (fun hz_50 => ?_) (fun hz_50 => ?_)
                · skip
                  refine jv_iload (pc' := 203) (k := 4) (x := (iI u)) rfl rfl rfl ?_
                  refine jv_iconst (pc' := 204) (n := 1) rfl rfl ?_
                  refine jv_ic_ne (t := 212) (pc' := 207) (a := u) (b := 1) rfl rfl rfl (by omega) (fun hz_51 => ?_) (fun hz_51 => ?_)
                  · skip
                    refine jv_iload (pc' := 214) (k := 4) (x := (iI u)) rfl rfl rfl ?_
                    refine jv_iconst (pc' := 215) (n := 2) rfl rfl ?_
                    refine jv_ic_ne (t := 223) (pc' := 218) (a := u) (b := 2) rfl rfl rfl (by omega) (fun hz_52 => ?_) (fun hz_52 => ?_)
                    · skip
                      refine jv_lload (pc' := 225) (k := 11) (x := (lI 0)) rfl rfl rfl ?_
                      refine jv_retJ rfl rfl ⟨_, _, rfl, ?_⟩
                      first
                      | (exfalso; omega)
                      | exact ⟨_, _, rfl, (fr_u (by simp [mW]) (fr_r _)), fr_r _, CM_n hM (by simp [pers]), rfl⟩
                    · skip
                      refine jv_lload (pc' := 220) (k := 9) (x := (lI 0)) rfl rfl rfl ?_
                      refine jx_step (pc' := 225) rfl ?_
                      refine jv_retJ rfl rfl ⟨_, _, rfl, ?_⟩
                      first
                      | (exfalso; omega)
                      | exact ⟨_, _, rfl, (fr_u (by simp [mW]) (fr_r _)), fr_r _, CM_n hM (by simp [pers]), rfl⟩
                  · skip
                    refine jv_lload (pc' := 209) (k := 7) (x := (lI 0)) rfl rfl rfl ?_
                    refine jx_step (pc' := 225) rfl ?_
                    refine jv_retJ rfl rfl ⟨_, _, rfl, ?_⟩
                    first
                    | (exfalso; omega)
                    | exact ⟨_, _, rfl, (fr_u (by simp [mW]) (fr_r _)), fr_r _, CM_n hM (by simp [pers]), rfl⟩
                · skip
                  refine jv_lload (pc' := 198) (k := 5) (x := (lI 0)) rfl rfl rfl ?_
                  refine jx_step (pc' := 225) rfl ?_
                  refine jv_retJ rfl rfl ⟨_, _, rfl, ?_⟩
                  first
                  | (exfalso; omega)
                  | exact ⟨_, _, rfl, (fr_u (by simp [mW]) (fr_r _)), fr_r _, CM_n hM (by simp [pers]), rfl⟩
              · skip
                refine jv_aload_n (pc' := 82) (k := 0) (x := 103) rfl rfl rfl rfl ?_
                refine jv_getI (pc' := 85) (c := 12) (k := 0) (v := (iI 1)) rfl rfl rfl (fun _ _ => rfl) rfl rfl rfl ?_
                refine jv_if_ne (t := 191) (pc' := 88) (a := 1) rfl rfl rfl (by omega) (fun hz_53 => ?_) (fun hz_53 => ?_)
                · skip
                  refine jv_iload (pc' := 193) (k := 4) (x := (iI u)) rfl rfl rfl ?_
                  refine jv_if_ne (t := 201) (pc' := 196) (a := u) rfl rfl rfl (by omega) (fun hz_54 => ?_) (fun hz_54 => ?_)
                  · skip
                    refine jv_iload (pc' := 203) (k := 4) (x := (iI u)) rfl rfl rfl ?_
                    refine jv_iconst (pc' := 204) (n := 1) rfl rfl ?_
                    refine jv_ic_ne (t := 212) (pc' := 207) (a := u) (b := 1) rfl rfl rfl (by omega) (fun hz_55 => ?_) (fun hz_55 => ?_)
                    · skip
                      refine jv_iload (pc' := 214) (k := 4) (x := (iI u)) rfl rfl rfl ?_
                      refine jv_iconst (pc' := 215) (n := 2) rfl rfl ?_
                      refine jv_ic_ne (t := 223) (pc' := 218) (a := u) (b := 2) rfl rfl rfl (by omega) (fun hz_56 => ?_) (fun hz_56 => ?_)
                      · skip
                        refine jv_lload (pc' := 225) (k := 11) (x := (lI 0)) rfl rfl rfl ?_
                        refine jv_retJ rfl rfl ⟨_, _, rfl, ?_⟩
                        first
                        | (exfalso; omega)
                        | exact ⟨_, _, rfl, (fr_u (by simp [mW]) (fr_r _)), fr_r _, CM_n hM (by simp [pers]), rfl⟩
                      · skip
                        refine jv_lload (pc' := 220) (k := 9) (x := (lI 0)) rfl rfl rfl ?_
                        refine jx_step (pc' := 225) rfl ?_
                        refine jv_retJ rfl rfl ⟨_, _, rfl, ?_⟩
                        first
                        | (exfalso; omega)
                        | exact ⟨_, _, rfl, (fr_u (by simp [mW]) (fr_r _)), fr_r _, CM_n hM (by simp [pers]), rfl⟩
                    · skip
                      refine jv_lload (pc' := 209) (k := 7) (x := (lI 0)) rfl rfl rfl ?_
                      refine jx_step (pc' := 225) rfl ?_
                      refine jv_retJ rfl rfl ⟨_, _, rfl, ?_⟩
                      first
                      | (exfalso; omega)
                      | exact ⟨_, _, rfl, (fr_u (by simp [mW]) (fr_r _)), fr_r _, CM_n hM (by simp [pers]), rfl⟩
                  · skip
                    refine jv_lload (pc' := 198) (k := 5) (x := (lI 0)) rfl rfl rfl ?_
                    refine jx_step (pc' := 225) rfl ?_
                    refine jv_retJ rfl rfl ⟨_, _, rfl, ?_⟩
                    first
                    | (exfalso; omega)
                    | exact ⟨_, _, rfl, (fr_u (by simp [mW]) (fr_r _)), fr_r _, CM_n hM (by simp [pers]), rfl⟩
                · skip
                  exact absurd hz_53 (by decide)
set_option maxRecDepth 100000 in
theorem op_total_b2 (hM : CM I M A) (hv : AV2 A ∧ AV3 A ∧ AV4 A ∧ AV5 A) (hfq : fq < 4) (hl : 0 ≤ l ∧ l < 4) (hnm : 0 ≤ nm ∧ nm < 9) (hu : 0 ≤ u ∧ u < 4) (hk : ¬ 0 < anF A fq) : jc L xs (d + 1) 164 [.ref 103, .int (iI ((fq : Nat) : Int)), .int (iI l), .int (iI nm), .int (iI u)] (jx_G j I M p) (fun v g1 => ∃ I' M', g1 = jx_G j I' M' p ∧ fr mW I I' ∧ fr mV M M' ∧ CM I' M' A ∧ I' 103 0 = iI 2) := by
  unfold jc
  have h108 := (hv.2.1 fq hfq).1
  unfold anF at hk
  have hv12 := hv.2.2.2.2.2.1
  refine jv_aload_n (pc' := 1) (k := 0) (x := 103) rfl rfl rfl rfl ?_
  refine jv_iload_n (pc' := 2) (k := 1) (x := (iI ((fq : Nat) : Int))) rfl rfl rfl rfl ?_
  refine jv_call (pc' := 5) rfl (ml_noLayer (by omega)) (fun vq1 gq1 q1 => ?_)
  obtain ⟨rfl, rfl⟩ := q1
  show jx L xs _ 164 5 _ [.int (jb (((fq : Nat) : Int) < 0 ∨ 3 < ((fq : Nat) : Int))), .ref 103] _ _
  refine jv_jb_ne (t := 36) (pc' := 8) (P := ((fq : Nat) : Int) < 0 ∨ 3 < ((fq : Nat) : Int)) rfl rfl rfl (fun hz_2 => ?_) (fun hz_2 => ?_)
  · skip
    exfalso; omega
  · skip
    refine jv_iload_n (pc' := 9) (k := 2) (x := (iI l)) rfl rfl rfl rfl ?_
    refine jv_call (pc' := 12) rfl (ml_noLayer (by omega)) (fun vq3 gq3 q3 => ?_)
    obtain ⟨rfl, rfl⟩ := q3
    show jx L xs _ 164 12 _ [.int (jb (l < 0 ∨ 3 < l)), .ref 103] _ _
    refine jv_jb_ne (t := 36) (pc' := 15) (P := l < 0 ∨ 3 < l) rfl rfl rfl (fun hz_4 => ?_) (fun hz_4 => ?_)
    · skip
      exfalso; omega
    · skip
      refine jv_iload_n (pc' := 16) (k := 3) (x := (iI nm)) rfl rfl rfl rfl ?_
      refine jv_if_lt (t := 36) (pc' := 19) (a := nm) rfl rfl rfl (by omega) (fun hz_5 => ?_) (fun hz_5 => ?_)
      · skip
        exfalso; omega
      · skip
        refine jv_iload_n (pc' := 20) (k := 3) (x := (iI nm)) rfl rfl rfl rfl ?_
        refine jv_bipush (pc' := 22) (n := 8) rfl rfl rfl ?_
        refine jv_ic_gt (t := 36) (pc' := 25) (a := nm) (b := 8) rfl rfl rfl (by omega) (fun hz_6 => ?_) (fun hz_6 => ?_)
        · skip
          exfalso; omega
        · skip
          refine jv_iload (pc' := 27) (k := 4) (x := (iI u)) rfl rfl rfl ?_
          refine jv_if_lt (t := 36) (pc' := 30) (a := u) rfl rfl rfl (by omega) (fun hz_7 => ?_) (fun hz_7 => ?_)
          · skip
            exfalso; omega
          · skip
            refine jv_iload (pc' := 32) (k := 4) (x := (iI u)) rfl rfl rfl ?_
            refine jv_iconst (pc' := 33) (n := 3) rfl rfl ?_
            refine jv_ic_le (t := 40) (pc' := 36) (a := u) (b := 3) rfl rfl rfl (by omega) (fun hz_8 => ?_) (fun hz_8 => ?_)
            · skip
              refine jv_aload_n (pc' := 41) (k := 0) (x := 103) rfl rfl rfl rfl ?_
              refine jv_getR (pc' := 44) (c := 12) (k := 6) (v := 108) rfl rfl rfl (fun _ _ => rfl) rfl rfl (jR_103_6 _) ?_
              refine jv_iload_n (pc' := 45) (k := 1) (x := (iI ((fq : Nat) : Int))) rfl rfl rfl rfl ?_
              refine jv_iaload (pc' := 46) (n := 4) (e := ((fq : Nat) : Int)) (v := (iI (A 108 fq))) rfl rfl (by decide) rfl rfl rfl (by omega) (hM.1 108 fq (by simp [pers])) ?_
              refine jv_if_ne (t := 53) (pc' := 49) (a := (A 108 fq)) rfl rfl rfl (by omega) (fun hz_9 => ?_) (fun hz_9 => ?_)
              · skip
                exfalso; omega
              · skip
                refine jv_iconst (pc' := 50) (n := 2) rfl rfl ?_
                refine jx_step (pc' := 54) rfl ?_
                refine jv_putI (pc' := 57) (c := 12) (k := 0) rfl rfl rfl rfl (fun _ _ _  => rfl) rfl rfl ?_
                refine jv_long (pc' := 58) (y := lI 0) rfl (by decide) ?_
                refine jv_lstore (pc' := 60) (k := 5) (x := (lI 0)) rfl rfl rfl (Or.inr rfl) ?_
                refine jv_long (pc' := 61) (y := lI 0) rfl (by decide) ?_
                refine jv_lstore (pc' := 63) (k := 7) (x := (lI 0)) rfl rfl rfl (Or.inr rfl) ?_
                refine jv_long (pc' := 64) (y := lI 0) rfl (by decide) ?_
                refine jv_lstore (pc' := 66) (k := 9) (x := (lI 0)) rfl rfl rfl (Or.inr rfl) ?_
                refine jv_long (pc' := 67) (y := lI 0) rfl (by decide) ?_
                refine jv_lstore (pc' := 69) (k := 11) (x := (lI 0)) rfl rfl rfl (Or.inr rfl) ?_
                refine jv_iconst (pc' := 70) (n := 0) rfl rfl ?_
                refine jv_istore (pc' := 72) (k := 13) (x := (iI 0)) rfl rfl rfl (Or.inr rfl) ?_
                refine jv_iload (pc' := 74) (k := 13) (x := (iI 0)) rfl rfl rfl ?_
                refine jv_aload_n (pc' := 75) (k := 0) (x := 103) rfl rfl rfl rfl ?_
                refine jv_getI (pc' := 78) (c := 12) (k := 12) (v := (iI (A 103 12))) rfl rfl rfl (fun _ _ => rfl) rfl rfl (hM.1 103 12 (by simp [pers])) ?_
                refine jv_ic_ge (t := 191) (pc' := 81) (a := 0) (b := (A 103 12)) rfl rfl rfl (by omega) (fun hz_10 => ?_) (fun hz_10 => ?_)
                · skip
                  refine jv_iload (pc' := 193) (k := 4) (x := (iI u)) rfl rfl rfl ?_
                  refine jv_if_ne (t := 201) (pc' := 196) (a := u) rfl rfl rfl (by omega) (fun hz_11 => ?_) (fun hz_11 => ?_)
                  · skip
                    refine jv_iload (pc' := 203) (k := 4) (x := (iI u)) rfl rfl rfl ?_
                    refine jv_iconst (pc' := 204) (n := 1) rfl rfl ?_
                    refine jv_ic_ne (t := 212) (pc' := 207) (a := u) (b := 1) rfl rfl rfl (by omega) (fun hz_12 => ?_) (fun hz_12 => ?_)
                    · skip
                      refine jv_iload (pc' := 214) (k := 4) (x := (iI u)) rfl rfl rfl ?_
                      refine jv_iconst (pc' := 215) (n := 2) rfl rfl ?_
                      refine jv_ic_ne (t := 223) (pc' := 218) (a := u) (b := 2) rfl rfl rfl (by omega) (fun hz_13 => ?_) (fun hz_13 => ?_)
                      · skip
                        refine jv_lload (pc' := 225) (k := 11) (x := (lI 0)) rfl rfl rfl ?_
                        refine jv_retJ rfl rfl ⟨_, _, rfl, ?_⟩
                        first
                        | (exfalso; omega)
                        | exact ⟨_, _, rfl, (fr_u (by simp [mW]) (fr_r _)), fr_r _, CM_n hM (by simp [pers]), rfl⟩
                      · skip
                        refine jv_lload (pc' := 220) (k := 9) (x := (lI 0)) rfl rfl rfl ?_
                        refine jx_step (pc' := 225) rfl ?_
                        refine jv_retJ rfl rfl ⟨_, _, rfl, ?_⟩
                        first
                        | (exfalso; omega)
                        | exact ⟨_, _, rfl, (fr_u (by simp [mW]) (fr_r _)), fr_r _, CM_n hM (by simp [pers]), rfl⟩
                    · skip
                      refine jv_lload (pc' := 209) (k := 7) (x := (lI 0)) rfl rfl rfl ?_
                      refine jx_step (pc' := 225) rfl ?_
                      refine jv_retJ rfl rfl ⟨_, _, rfl, ?_⟩
                      first
                      | (exfalso; omega)
                      | exact ⟨_, _, rfl, (fr_u (by simp [mW]) (fr_r _)), fr_r _, CM_n hM (by simp [pers]), rfl⟩
                  · skip
                    refine jv_lload (pc' := 198) (k := 5) (x := (lI 0)) rfl rfl rfl ?_
                    refine jx_step (pc' := 225) rfl ?_
                    refine jv_retJ rfl rfl ⟨_, _, rfl, ?_⟩
                    first
                    | (exfalso; omega)
                    | exact ⟨_, _, rfl, (fr_u (by simp [mW]) (fr_r _)), fr_r _, CM_n hM (by simp [pers]), rfl⟩
                · skip
                  refine jv_aload_n (pc' := 82) (k := 0) (x := 103) rfl rfl rfl rfl ?_
                  refine jv_getI (pc' := 85) (c := 12) (k := 0) (v := (iI 2)) rfl rfl rfl (fun _ _ => rfl) rfl rfl rfl ?_
                  refine jv_if_ne (t := 191) (pc' := 88) (a := 2) rfl rfl rfl (by omega) (fun hz_14 => ?_) (fun hz_14 => ?_)
                  · skip
                    refine jv_iload (pc' := 193) (k := 4) (x := (iI u)) rfl rfl rfl ?_
                    refine jv_if_ne (t := 201) (pc' := 196) (a := u) rfl rfl rfl (by omega) (fun hz_15 => ?_) (fun hz_15 => ?_)
                    · skip
                      refine jv_iload (pc' := 203) (k := 4) (x := (iI u)) rfl rfl rfl ?_
                      refine jv_iconst (pc' := 204) (n := 1) rfl rfl ?_
                      refine jv_ic_ne (t := 212) (pc' := 207) (a := u) (b := 1) rfl rfl rfl (by omega) (fun hz_16 => ?_) (fun hz_16 => ?_)
                      · skip
                        refine jv_iload (pc' := 214) (k := 4) (x := (iI u)) rfl rfl rfl ?_
                        refine jv_iconst (pc' := 215) (n := 2) rfl rfl ?_
                        refine jv_ic_ne (t := 223) (pc' := 218) (a := u) (b := 2) rfl rfl rfl (by omega) (fun hz_17 => ?_) (fun hz_17 => ?_)
                        · skip
                          refine jv_lload (pc' := 225) (k := 11) (x := (lI 0)) rfl rfl rfl ?_
                          refine jv_retJ rfl rfl ⟨_, _, rfl, ?_⟩
                          first
                          | (exfalso; omega)
                          | exact ⟨_, _, rfl, (fr_u (by simp [mW]) (fr_r _)), fr_r _, CM_n hM (by simp [pers]), rfl⟩
                        · skip
                          refine jv_lload (pc' := 220) (k := 9) (x := (lI 0)) rfl rfl rfl ?_
                          refine jx_step (pc' := 225) rfl ?_
                          refine jv_retJ rfl rfl ⟨_, _, rfl, ?_⟩
                          first
                          | (exfalso; omega)
                          | exact ⟨_, _, rfl, (fr_u (by simp [mW]) (fr_r _)), fr_r _, CM_n hM (by simp [pers]), rfl⟩
                      · skip
                        refine jv_lload (pc' := 209) (k := 7) (x := (lI 0)) rfl rfl rfl ?_
                        refine jx_step (pc' := 225) rfl ?_
                        refine jv_retJ rfl rfl ⟨_, _, rfl, ?_⟩
                        first
                        | (exfalso; omega)
                        | exact ⟨_, _, rfl, (fr_u (by simp [mW]) (fr_r _)), fr_r _, CM_n hM (by simp [pers]), rfl⟩
                    · skip
                      refine jv_lload (pc' := 198) (k := 5) (x := (lI 0)) rfl rfl rfl ?_
                      refine jx_step (pc' := 225) rfl ?_
                      refine jv_retJ rfl rfl ⟨_, _, rfl, ?_⟩
                      first
                      | (exfalso; omega)
                      | exact ⟨_, _, rfl, (fr_u (by simp [mW]) (fr_r _)), fr_r _, CM_n hM (by simp [pers]), rfl⟩
                  · skip
                    exact absurd hz_14 (by decide)
            · skip
              exfalso; omega
set_option maxRecDepth 100000 in
set_option maxHeartbeats 4000000 in
theorem op_total_m (hM : CM I M A) (hv : AV2 A ∧ AV3 A ∧ AV4 A ∧ AV5 A) (hfq : fq < 4) (hl : 0 ≤ l ∧ l < 4) (hnm : 0 ≤ nm ∧ nm < 9) (hq : q < 4) (hk : 0 < anF A fq) (hFV : ∀ i : Nat, (i : Int) < A 103 12 → FV A fq l nm i (ov i)) : jc L xs (d + 8) 164 [.ref 103, .int (iI ((fq : Nat) : Int)), .int (iI l), .int (iI nm), .int (iI ((q : Nat) : Int))] (jx_G j I M p) (fun v g1 => ∃ I' M', g1 = jx_G j I' M' p ∧ fr mW I I' ∧ fr mV M M' ∧ CM I' M' A ∧ I' 103 0 = iI 0 ∧ v = some (.long (lI (tT ov (A 103 12).toNat q)))) := by
  unfold jc
  have h108 := (hv.2.1 fq hfq).1
  unfold anF at hk
  have hv12 := hv.2.2.2.2.2.1
  refine jv_aload_n (pc' := 1) (k := 0) (x := 103) rfl rfl rfl rfl ?_
  refine jv_iload_n (pc' := 2) (k := 1) (x := (iI ((fq : Nat) : Int))) rfl rfl rfl rfl ?_
  refine jv_call (pc' := 5) rfl (ml_noLayer (by omega)) (fun vq1 gq1 q1 => ?_)
  obtain ⟨rfl, rfl⟩ := q1
  show jx L xs _ 164 5 _ [.int (jb (((fq : Nat) : Int) < 0 ∨ 3 < ((fq : Nat) : Int))), .ref 103] _ _
  refine jv_jb_ne (t := 36) (pc' := 8) (P := ((fq : Nat) : Int) < 0 ∨ 3 < ((fq : Nat) : Int)) rfl rfl rfl (fun hz_2 => ?_) (fun hz_2 => ?_)
  · skip
    exfalso; omega
  · skip
    refine jv_iload_n (pc' := 9) (k := 2) (x := (iI l)) rfl rfl rfl rfl ?_
    refine jv_call (pc' := 12) rfl (ml_noLayer (by omega)) (fun vq3 gq3 q3 => ?_)
    obtain ⟨rfl, rfl⟩ := q3
    show jx L xs _ 164 12 _ [.int (jb (l < 0 ∨ 3 < l)), .ref 103] _ _
    refine jv_jb_ne (t := 36) (pc' := 15) (P := l < 0 ∨ 3 < l) rfl rfl rfl (fun hz_4 => ?_) (fun hz_4 => ?_)
    · skip
      exfalso; omega
    · skip
      refine jv_iload_n (pc' := 16) (k := 3) (x := (iI nm)) rfl rfl rfl rfl ?_
      refine jv_if_lt (t := 36) (pc' := 19) (a := nm) rfl rfl rfl (by omega) (fun hz_5 => ?_) (fun hz_5 => ?_)
      · skip
        exfalso; omega
      · skip
        refine jv_iload_n (pc' := 20) (k := 3) (x := (iI nm)) rfl rfl rfl rfl ?_
        refine jv_bipush (pc' := 22) (n := 8) rfl rfl rfl ?_
        refine jv_ic_gt (t := 36) (pc' := 25) (a := nm) (b := 8) rfl rfl rfl (by omega) (fun hz_6 => ?_) (fun hz_6 => ?_)
        · skip
          exfalso; omega
        · skip
          refine jv_iload (pc' := 27) (k := 4) (x := (iI ((q : Nat) : Int))) rfl rfl rfl ?_
          refine jv_if_lt (t := 36) (pc' := 30) (a := ((q : Nat) : Int)) rfl rfl rfl (by omega) (fun hz_7 => ?_) (fun hz_7 => ?_)
          · skip
            exfalso; omega
          · skip
            refine jv_iload (pc' := 32) (k := 4) (x := (iI ((q : Nat) : Int))) rfl rfl rfl ?_
            refine jv_iconst (pc' := 33) (n := 3) rfl rfl ?_
            refine jv_ic_le (t := 40) (pc' := 36) (a := ((q : Nat) : Int)) (b := 3) rfl rfl rfl (by omega) (fun hz_8 => ?_) (fun hz_8 => ?_)
            · skip
              refine jv_aload_n (pc' := 41) (k := 0) (x := 103) rfl rfl rfl rfl ?_
              refine jv_getR (pc' := 44) (c := 12) (k := 6) (v := 108) rfl rfl rfl (fun _ _ => rfl) rfl rfl (jR_103_6 _) ?_
              refine jv_iload_n (pc' := 45) (k := 1) (x := (iI ((fq : Nat) : Int))) rfl rfl rfl rfl ?_
              refine jv_iaload (pc' := 46) (n := 4) (e := ((fq : Nat) : Int)) (v := (iI (A 108 fq))) rfl rfl (by decide) rfl rfl rfl (by omega) (hM.1 108 fq (by simp [pers])) ?_
              refine jv_if_ne (t := 53) (pc' := 49) (a := (A 108 fq)) rfl rfl rfl (by omega) (fun hz_9 => ?_) (fun hz_9 => ?_)
              · skip
                refine jv_iconst (pc' := 54) (n := 0) rfl rfl ?_
                refine jv_putI (pc' := 57) (c := 12) (k := 0) rfl rfl rfl rfl (fun _ _ _  => rfl) rfl rfl ?_
                refine jv_long (pc' := 58) (y := lI 0) rfl (by decide) ?_
                refine jv_lstore (pc' := 60) (k := 5) (x := (lI 0)) rfl rfl rfl (Or.inr rfl) ?_
                refine jv_long (pc' := 61) (y := lI 0) rfl (by decide) ?_
                refine jv_lstore (pc' := 63) (k := 7) (x := (lI 0)) rfl rfl rfl (Or.inr rfl) ?_
                refine jv_long (pc' := 64) (y := lI 0) rfl (by decide) ?_
                refine jv_lstore (pc' := 66) (k := 9) (x := (lI 0)) rfl rfl rfl (Or.inr rfl) ?_
                refine jv_long (pc' := 67) (y := lI 0) rfl (by decide) ?_
                refine jv_lstore (pc' := 69) (k := 11) (x := (lI 0)) rfl rfl rfl (Or.inr rfl) ?_
                refine jv_iconst (pc' := 70) (n := 0) rfl rfl ?_
                refine jv_istore (pc' := 72) (k := 13) (x := (iI 0)) rfl rfl rfl (Or.inr rfl) ?_
                have H10 : ∀ (N : Nat) (k : Nat) (I1 : Nat → Nat → Int32) (M1 : Nat → Nat → Int64) (z0 : Int) (z1 : Int) (z2 : Int) (z3 : Int), 12 - k < N → ((k : Int) ≤ A 103 12) → (fr mW I I1) → (fr mV M M1) → (CM I1 M1 A) → (I1 103 0 = iI 0) → (z0 = tT ov k 0) → (z1 = tT ov k 1) → (z2 = tT ov k 2) → (z3 = tT ov k 3) → ∀ f : jm_F, f 0 = some (.ref 103) → f 1 = some (.int (iI ((fq : Nat) : Int))) → f 2 = some (.int (iI l)) → f 3 = some (.int (iI nm)) → f 4 = some (.int (iI ((q : Nat) : Int))) → f 5 = some (.long (lI z0)) → f 7 = some (.long (lI z1)) → f 9 = some (.long (lI z2)) → f 11 = some (.long (lI z3)) → f 13 = some (.int (iI ((k : Nat) : Int))) → jm_lng (f 6) = false → jm_lng (f 8) = false → jm_lng (f 10) = false → jm_lng (f 12) = false → jx L xs ((d + 8)) 164 72 f [] (jx_G j I1 M1 p) (fun z => ∃ v g1, z = (.inl v, g1) ∧ (fun v g1 => ∃ I' M', g1 = jx_G j I' M' p ∧ fr mW I I' ∧ fr mV M M' ∧ CM I' M' A ∧ I' 103 0 = iI 0 ∧ v = some (.long (lI (tT ov (A 103 12).toNat q)))) v g1) := by
                  intro N
                  induction N with
                  | zero => intro k I1 M1 z0 z1 z2 z3 hN; exact absurd hN (Nat.not_lt_zero _)
                  | succ N ih =>
                    intro k I1 M1 z0 z1 z2 z3 hN hk0 hf hm hM1 h0 hz0 hz1 hz2 hz3 f hf0 hf1 hf2 hf3 hf4 hf5 hf7 hf9 hf11 hf13 hg6 hg8 hg10 hg12
                    refine jv_iload (pc' := 74) (k := 13) (x := (iI ((k : Nat) : Int))) rfl rfl hf13 ?_
                    refine jv_aload_n (pc' := 75) (k := 0) (x := 103) rfl rfl rfl hf0 ?_
                    refine jv_getI (pc' := 78) (c := 12) (k := 12) (v := (iI (A 103 12))) rfl rfl rfl (fun _ _ => rfl) rfl rfl (hM1.1 103 12 (by simp [pers])) ?_
                    refine jv_ic_ge (t := 191) (pc' := 81) (a := ((k : Nat) : Int)) (b := (A 103 12)) rfl rfl rfl (by omega) (fun hz_11 => ?_) (fun hz_11 => ?_)
                    · skip
                      refine jv_iload (pc' := 193) (k := 4) (x := (iI ((q : Nat) : Int))) rfl rfl hf4 ?_
                      refine jv_if_ne (t := 201) (pc' := 196) (a := ((q : Nat) : Int)) rfl rfl rfl (by omega) (fun hz_12 => ?_) (fun hz_12 => ?_)
                      · skip
                        refine jv_iload (pc' := 203) (k := 4) (x := (iI ((q : Nat) : Int))) rfl rfl hf4 ?_
                        refine jv_iconst (pc' := 204) (n := 1) rfl rfl ?_
                        refine jv_ic_ne (t := 212) (pc' := 207) (a := ((q : Nat) : Int)) (b := 1) rfl rfl rfl (by omega) (fun hz_13 => ?_) (fun hz_13 => ?_)
                        · skip
                          refine jv_iload (pc' := 214) (k := 4) (x := (iI ((q : Nat) : Int))) rfl rfl hf4 ?_
                          refine jv_iconst (pc' := 215) (n := 2) rfl rfl ?_
                          refine jv_ic_ne (t := 223) (pc' := 218) (a := ((q : Nat) : Int)) (b := 2) rfl rfl rfl (by omega) (fun hz_14 => ?_) (fun hz_14 => ?_)
                          · skip
                            refine jv_lload (pc' := 225) (k := 11) (x := (lI z3)) rfl rfl hf11 ?_
                            refine jv_retJ rfl rfl ⟨_, _, rfl, ?_⟩
                            first
                            | (exfalso; omega)
                            | (have eq : q = 3 := by omega
                               have ek : k = (A 103 12).toNat := by omega
                               exact ⟨_, _, rfl, hf, hm, hM1, h0, by rw [hz3, ek, eq]⟩)
                          · skip
                            refine jv_lload (pc' := 220) (k := 9) (x := (lI z2)) rfl rfl hf9 ?_
                            refine jx_step (pc' := 225) rfl ?_
                            refine jv_retJ rfl rfl ⟨_, _, rfl, ?_⟩
                            first
                            | (exfalso; omega)
                            | (have eq : q = 2 := by omega
                               have ek : k = (A 103 12).toNat := by omega
                               exact ⟨_, _, rfl, hf, hm, hM1, h0, by rw [hz2, ek, eq]⟩)
                        · skip
                          refine jv_lload (pc' := 209) (k := 7) (x := (lI z1)) rfl rfl hf7 ?_
                          refine jx_step (pc' := 225) rfl ?_
                          refine jv_retJ rfl rfl ⟨_, _, rfl, ?_⟩
                          first
                          | (exfalso; omega)
                          | (have eq : q = 1 := by omega
                             have ek : k = (A 103 12).toNat := by omega
                             exact ⟨_, _, rfl, hf, hm, hM1, h0, by rw [hz1, ek, eq]⟩)
                      · skip
                        refine jv_lload (pc' := 198) (k := 5) (x := (lI z0)) rfl rfl hf5 ?_
                        refine jx_step (pc' := 225) rfl ?_
                        refine jv_retJ rfl rfl ⟨_, _, rfl, ?_⟩
                        first
                        | (exfalso; omega)
                        | (have eq : q = 0 := by omega
                           have ek : k = (A 103 12).toNat := by omega
                           exact ⟨_, _, rfl, hf, hm, hM1, h0, by rw [hz0, ek, eq]⟩)
                    · skip
                      have hb := tT_b (k := k) (fun i hi v hv => FV_b (hFV i (by omega)) hv)
                      rw [← hz0, ← hz1, ← hz2, ← hz3] at hb
                      refine jv_aload_n (pc' := 82) (k := 0) (x := 103) rfl rfl rfl hf0 ?_
                      refine jv_getI (pc' := 85) (c := 12) (k := 0) (v := (iI 0)) rfl rfl rfl (fun _ _ => rfl) rfl rfl h0 ?_
                      refine jv_if_ne (t := 191) (pc' := 88) (a := 0) rfl rfl rfl (by omega) (fun hz_15 => ?_) (fun hz_15 => ?_)
                      · skip
                        exact absurd hz_15 (by decide)
                      · skip
                        refine jv_aload_n (pc' := 89) (k := 0) (x := 103) rfl rfl rfl hf0 ?_
                        refine jv_iload_n (pc' := 90) (k := 1) (x := (iI ((fq : Nat) : Int))) rfl rfl rfl hf1 ?_
                        refine jv_iload (pc' := 92) (k := 13) (x := (iI ((k : Nat) : Int))) rfl rfl hf13 ?_
                        obtain ⟨s, b, hTs, r, hFS, hcs⟩ := hFV k (by omega)
                        refine jv_call (pc' := 95) rfl (ml_mats (I := I1) (M := M1) (b := b) (fi := k) hM1 hv hfq (by omega) hTs) (fun v2 g2 q2 => ?_)
                        obtain ⟨I2, M2, rfl, rfl, r2, t2, C2, z2', D2⟩ := q2
                        obtain ⟨W0, _, _, _, _, _, hE0, hc0, _⟩ := hTs
                        have hrb := FS_b hFS
                        show jx L xs _ 164 95 _ [.int (jb (b = true))] _ _
                        refine jv_jb_eq (t := 107) (pc' := 98) (P := b = true) rfl rfl rfl (fun hz_16 => ?_) (fun hz_16 => ?_)
                        · skip
                          refine jv_iconst (pc' := 108) (n := -1) rfl rfl ?_
                          refine jv_istore (pc' := 110) (k := 14) (x := (iI (-1))) rfl rfl rfl (Or.inr (congrArg jm_lng hf13)) ?_
                          refine jv_iload (pc' := 112) (k := 14) (x := (iI (-1))) rfl rfl rfl ?_
                          refine jv_if_lt (t := 185) (pc' := 115) (a := (-1)) rfl rfl rfl (by omega) (fun hz_17 => ?_) (fun hz_17 => ?_)
                          · skip
                            refine jv_iinc (pc' := 188) (k := 13) (a := ((k : Nat) : Int)) rfl rfl hf13 rfl (Or.inr hg12) ?_
                            refine jx_step (pc' := 72) rfl ?_
                            have hov : ov k = none := by
                              rcases hcs with ⟨e, _, _⟩ | ⟨_, e⟩
                              · subst e; simp_all
                              · exact e
                            exact ih (k + 1) I2 M2 z0 z1 z2 z3 (by omega) (by omega) (fr_t hf r2) (fr_t hm t2) C2 (z2'.trans h0) (hz0.trans (tT_n hov).symm) (hz1.trans (tT_n hov).symm) (hz2.trans (tT_n hov).symm) (hz3.trans (tT_n hov).symm) _ hf0 hf1 hf2 hf3 hf4 hf5 hf7 hf9 hf11 rfl hg6 hg8 hg10 hg12
                          · skip
                            exact absurd hz_17 (by decide)
                        · skip
                          refine jv_aload_n (pc' := 99) (k := 0) (x := 103) rfl rfl rfl hf0 ?_
                          refine jv_iload_n (pc' := 100) (k := 2) (x := (iI l)) rfl rfl rfl hf2 ?_
                          refine jv_iload_n (pc' := 101) (k := 3) (x := (iI nm)) rfl rfl rfl hf3 ?_
                          refine jv_call (pc' := 104) rfl (ml_first (I := I2) (M := M2) (s := s) D2 hE0 hc0 (by omega) (by omega)) (fun v3 g3 q3 => ?_)
                          obtain ⟨r', rfl, rfl, hFS'⟩ := q3
                          obtain rfl := FS_det hFS hFS'
                          show jx L xs _ 164 104 _ [.int (iI r)] _ _
                          refine jx_step (pc' := 108) rfl ?_
                          refine jv_istore (pc' := 110) (k := 14) (x := (iI r)) rfl rfl rfl (Or.inr (congrArg jm_lng hf13)) ?_
                          refine jv_iload (pc' := 112) (k := 14) (x := (iI r)) rfl rfl rfl ?_
                          refine jv_if_lt (t := 185) (pc' := 115) (a := r) rfl rfl rfl (by omega) (fun hz_18 => ?_) (fun hz_18 => ?_)
                          · skip
                            refine jv_iinc (pc' := 188) (k := 13) (a := ((k : Nat) : Int)) rfl rfl hf13 rfl (Or.inr hg12) ?_
                            refine jx_step (pc' := 72) rfl ?_
                            have hov : ov k = none := by
                              rcases hcs with ⟨_, e, _⟩ | ⟨_, e⟩
                              · omega
                              · exact e
                            exact ih (k + 1) I2 M2 z0 z1 z2 z3 (by omega) (by omega) (fr_t hf r2) (fr_t hm t2) C2 (z2'.trans h0) (hz0.trans (tT_n hov).symm) (hz1.trans (tT_n hov).symm) (hz2.trans (tT_n hov).symm) (hz3.trans (tT_n hov).symm) _ hf0 hf1 hf2 hf3 hf4 hf5 hf7 hf9 hf11 rfl hg6 hg8 hg10 hg12
                          · skip
                            have hov : ov k = some (s 8 r.toNat) := by
                              rcases hcs with ⟨_, _, e⟩ | ⟨e | e, _⟩
                              · exact e
                              · subst e; simp_all
                              · omega
                            have hvb := (hE0 r.toNat (by omega)).1.2.2.2.2
                            refine jv_aload_n (pc' := 116) (k := 0) (x := 103) rfl rfl rfl hf0 ?_
                            refine jv_getR (pc' := 119) (c := 12) (k := 28) (v := 124) rfl rfl rfl (fun _ _ => rfl) rfl rfl (jR_103_28 _) ?_
                            refine jv_iload (pc' := 121) (k := 14) (x := (iI r)) rfl rfl rfl ?_
                            refine jv_laload (pc' := 122) (n := 65) (e := r) (v := (lI (s 8 r.toNat))) rfl rfl rfl rfl rfl (by omega) ((D2.2.2.2 r.toNat (by omega)).2.2.2.2.2) ?_
                            refine jv_lstore (pc' := 124) (k := 15) (x := (lI (s 8 r.toNat))) rfl rfl rfl (Or.inr rfl) ?_
                            refine jv_lload (pc' := 126) (k := 5) (x := (lI z0)) rfl rfl hf5 ?_
                            refine jv_long (pc' := 127) (y := lI 0) rfl (by decide) ?_
                            refine jv_lc_eq (t := 139) (pc' := 131) (a := z0) (b := 0) rfl rfl rfl rfl rfl (by omega) (fun hz_19 => ?_) (fun hz_19 => ?_)
                            · skip
                              refine jv_lload (pc' := 141) (k := 15) (x := (lI (s 8 r.toNat))) rfl rfl rfl ?_
                              refine jx_step (pc' := 146) rfl ?_
                              refine jv_lstore (pc' := 148) (k := 9) (x := (lI (s 8 r.toNat))) rfl rfl rfl (Or.inr hg8) ?_
                              refine jv_lload (pc' := 150) (k := 5) (x := (lI z0)) rfl rfl hf5 ?_
                              refine jv_long (pc' := 151) (y := lI 0) rfl (by decide) ?_
                              refine jv_lc_eq (t := 163) (pc' := 155) (a := z0) (b := 0) rfl rfl rfl rfl rfl (by omega) (fun hz_20 => ?_) (fun hz_20 => ?_)
                              · skip
                                refine jv_lload (pc' := 165) (k := 15) (x := (lI (s 8 r.toNat))) rfl rfl rfl ?_
                                refine jx_step (pc' := 170) rfl ?_
                                refine jv_lstore (pc' := 172) (k := 11) (x := (lI (s 8 r.toNat))) rfl rfl rfl (Or.inr rfl) ?_
                                refine jv_lload (pc' := 174) (k := 7) (x := (lI z1)) rfl rfl hf7 ?_
                                refine jv_lload (pc' := 176) (k := 15) (x := (lI (s 8 r.toNat))) rfl rfl rfl ?_
                                refine jv_ladd (pc' := 177) (a := z1) (b := (s 8 r.toNat)) rfl rfl ?_
                                refine jv_lstore (pc' := 179) (k := 7) (x := (lI (z1 + (s 8 r.toNat)))) rfl rfl rfl (Or.inr hg6) ?_
                                refine jv_lload (pc' := 181) (k := 5) (x := (lI z0)) rfl rfl hf5 ?_
                                refine jv_long (pc' := 182) (y := lI 1) rfl (by decide) ?_
                                refine jv_ladd (pc' := 183) (a := z0) (b := 1) rfl rfl ?_
                                refine jv_lstore (pc' := 185) (k := 5) (x := (lI (z0 + 1))) rfl rfl rfl (Or.inr (congrArg jm_lng hf4)) ?_
                                refine jv_iinc (pc' := 188) (k := 13) (a := ((k : Nat) : Int)) rfl rfl hf13 rfl (Or.inr rfl) ?_
                                refine jx_step (pc' := 72) rfl ?_
                                exact ih (k + 1) I2 M2 (z0 + 1) (z1 + (s 8 r.toNat)) (s 8 r.toNat) (s 8 r.toNat) (by omega) (by omega) (fr_t hf r2) (fr_t hm t2) C2 (z2'.trans h0) (by rw [tT_v hov, tN_0, ← hz0]) (by rw [tT_v hov, tN_1, ← hz1]) (by rw [tT_v hov, tN_2, ← hz0, ← hz2]; (try split) <;> (try split) <;> omega) (by rw [tT_v hov, tN_3, ← hz3]; split <;> omega) _ hf0 hf1 hf2 hf3 hf4 rfl rfl rfl rfl rfl rfl rfl rfl rfl
                              · skip
                                refine jv_lload (pc' := 157) (k := 15) (x := (lI (s 8 r.toNat))) rfl rfl rfl ?_
                                refine jv_lload (pc' := 159) (k := 11) (x := (lI z3)) rfl rfl hf11 ?_
                                refine jv_lc_le (t := 168) (pc' := 163) (a := (s 8 r.toNat)) (b := z3) rfl rfl rfl rfl rfl (by omega) (fun hz_21 => ?_) (fun hz_21 => ?_)
                                · skip
                                  refine jv_lload (pc' := 170) (k := 11) (x := (lI z3)) rfl rfl hf11 ?_
                                  refine jv_lstore (pc' := 172) (k := 11) (x := (lI z3)) rfl rfl rfl (Or.inr rfl) ?_
                                  refine jv_lload (pc' := 174) (k := 7) (x := (lI z1)) rfl rfl hf7 ?_
                                  refine jv_lload (pc' := 176) (k := 15) (x := (lI (s 8 r.toNat))) rfl rfl rfl ?_
                                  refine jv_ladd (pc' := 177) (a := z1) (b := (s 8 r.toNat)) rfl rfl ?_
                                  refine jv_lstore (pc' := 179) (k := 7) (x := (lI (z1 + (s 8 r.toNat)))) rfl rfl rfl (Or.inr hg6) ?_
                                  refine jv_lload (pc' := 181) (k := 5) (x := (lI z0)) rfl rfl hf5 ?_
                                  refine jv_long (pc' := 182) (y := lI 1) rfl (by decide) ?_
                                  refine jv_ladd (pc' := 183) (a := z0) (b := 1) rfl rfl ?_
                                  refine jv_lstore (pc' := 185) (k := 5) (x := (lI (z0 + 1))) rfl rfl rfl (Or.inr (congrArg jm_lng hf4)) ?_
                                  refine jv_iinc (pc' := 188) (k := 13) (a := ((k : Nat) : Int)) rfl rfl hf13 rfl (Or.inr rfl) ?_
                                  refine jx_step (pc' := 72) rfl ?_
                                  exact ih (k + 1) I2 M2 (z0 + 1) (z1 + (s 8 r.toNat)) (s 8 r.toNat) z3 (by omega) (by omega) (fr_t hf r2) (fr_t hm t2) C2 (z2'.trans h0) (by rw [tT_v hov, tN_0, ← hz0]) (by rw [tT_v hov, tN_1, ← hz1]) (by rw [tT_v hov, tN_2, ← hz0, ← hz2]; (try split) <;> (try split) <;> omega) (by rw [tT_v hov, tN_3, ← hz3]; split <;> omega) _ hf0 hf1 hf2 hf3 hf4 rfl rfl rfl rfl rfl rfl rfl rfl rfl
                                · skip
                                  refine jv_lload (pc' := 165) (k := 15) (x := (lI (s 8 r.toNat))) rfl rfl rfl ?_
                                  refine jx_step (pc' := 170) rfl ?_
                                  refine jv_lstore (pc' := 172) (k := 11) (x := (lI (s 8 r.toNat))) rfl rfl rfl (Or.inr rfl) ?_
                                  refine jv_lload (pc' := 174) (k := 7) (x := (lI z1)) rfl rfl hf7 ?_
                                  refine jv_lload (pc' := 176) (k := 15) (x := (lI (s 8 r.toNat))) rfl rfl rfl ?_
                                  refine jv_ladd (pc' := 177) (a := z1) (b := (s 8 r.toNat)) rfl rfl ?_
                                  refine jv_lstore (pc' := 179) (k := 7) (x := (lI (z1 + (s 8 r.toNat)))) rfl rfl rfl (Or.inr hg6) ?_
                                  refine jv_lload (pc' := 181) (k := 5) (x := (lI z0)) rfl rfl hf5 ?_
                                  refine jv_long (pc' := 182) (y := lI 1) rfl (by decide) ?_
                                  refine jv_ladd (pc' := 183) (a := z0) (b := 1) rfl rfl ?_
                                  refine jv_lstore (pc' := 185) (k := 5) (x := (lI (z0 + 1))) rfl rfl rfl (Or.inr (congrArg jm_lng hf4)) ?_
                                  refine jv_iinc (pc' := 188) (k := 13) (a := ((k : Nat) : Int)) rfl rfl hf13 rfl (Or.inr rfl) ?_
                                  refine jx_step (pc' := 72) rfl ?_
                                  exact ih (k + 1) I2 M2 (z0 + 1) (z1 + (s 8 r.toNat)) (s 8 r.toNat) (s 8 r.toNat) (by omega) (by omega) (fr_t hf r2) (fr_t hm t2) C2 (z2'.trans h0) (by rw [tT_v hov, tN_0, ← hz0]) (by rw [tT_v hov, tN_1, ← hz1]) (by rw [tT_v hov, tN_2, ← hz0, ← hz2]; (try split) <;> (try split) <;> omega) (by rw [tT_v hov, tN_3, ← hz3]; split <;> omega) _ hf0 hf1 hf2 hf3 hf4 rfl rfl rfl rfl rfl rfl rfl rfl rfl
                            · skip
                              refine jv_lload (pc' := 133) (k := 15) (x := (lI (s 8 r.toNat))) rfl rfl rfl ?_
                              refine jv_lload (pc' := 135) (k := 9) (x := (lI z2)) rfl rfl hf9 ?_
                              refine jv_lc_ge (t := 144) (pc' := 139) (a := (s 8 r.toNat)) (b := z2) rfl rfl rfl rfl rfl (by omega) (fun hz_22 => ?_) (fun hz_22 => ?_)
                              · skip
                                refine jv_lload (pc' := 146) (k := 9) (x := (lI z2)) rfl rfl hf9 ?_
                                refine jv_lstore (pc' := 148) (k := 9) (x := (lI z2)) rfl rfl rfl (Or.inr hg8) ?_
                                refine jv_lload (pc' := 150) (k := 5) (x := (lI z0)) rfl rfl hf5 ?_
                                refine jv_long (pc' := 151) (y := lI 0) rfl (by decide) ?_
                                refine jv_lc_eq (t := 163) (pc' := 155) (a := z0) (b := 0) rfl rfl rfl rfl rfl (by omega) (fun hz_23 => ?_) (fun hz_23 => ?_)
                                · skip
                                  refine jv_lload (pc' := 165) (k := 15) (x := (lI (s 8 r.toNat))) rfl rfl rfl ?_
                                  refine jx_step (pc' := 170) rfl ?_
                                  refine jv_lstore (pc' := 172) (k := 11) (x := (lI (s 8 r.toNat))) rfl rfl rfl (Or.inr rfl) ?_
                                  refine jv_lload (pc' := 174) (k := 7) (x := (lI z1)) rfl rfl hf7 ?_
                                  refine jv_lload (pc' := 176) (k := 15) (x := (lI (s 8 r.toNat))) rfl rfl rfl ?_
                                  refine jv_ladd (pc' := 177) (a := z1) (b := (s 8 r.toNat)) rfl rfl ?_
                                  refine jv_lstore (pc' := 179) (k := 7) (x := (lI (z1 + (s 8 r.toNat)))) rfl rfl rfl (Or.inr hg6) ?_
                                  refine jv_lload (pc' := 181) (k := 5) (x := (lI z0)) rfl rfl hf5 ?_
                                  refine jv_long (pc' := 182) (y := lI 1) rfl (by decide) ?_
                                  refine jv_ladd (pc' := 183) (a := z0) (b := 1) rfl rfl ?_
                                  refine jv_lstore (pc' := 185) (k := 5) (x := (lI (z0 + 1))) rfl rfl rfl (Or.inr (congrArg jm_lng hf4)) ?_
                                  refine jv_iinc (pc' := 188) (k := 13) (a := ((k : Nat) : Int)) rfl rfl hf13 rfl (Or.inr rfl) ?_
                                  refine jx_step (pc' := 72) rfl ?_
                                  exact ih (k + 1) I2 M2 (z0 + 1) (z1 + (s 8 r.toNat)) z2 (s 8 r.toNat) (by omega) (by omega) (fr_t hf r2) (fr_t hm t2) C2 (z2'.trans h0) (by rw [tT_v hov, tN_0, ← hz0]) (by rw [tT_v hov, tN_1, ← hz1]) (by rw [tT_v hov, tN_2, ← hz0, ← hz2]; (try split) <;> (try split) <;> omega) (by rw [tT_v hov, tN_3, ← hz3]; split <;> omega) _ hf0 hf1 hf2 hf3 hf4 rfl rfl rfl rfl rfl rfl rfl rfl rfl
                                · skip
                                  refine jv_lload (pc' := 157) (k := 15) (x := (lI (s 8 r.toNat))) rfl rfl rfl ?_
                                  refine jv_lload (pc' := 159) (k := 11) (x := (lI z3)) rfl rfl hf11 ?_
                                  refine jv_lc_le (t := 168) (pc' := 163) (a := (s 8 r.toNat)) (b := z3) rfl rfl rfl rfl rfl (by omega) (fun hz_24 => ?_) (fun hz_24 => ?_)
                                  · skip
                                    refine jv_lload (pc' := 170) (k := 11) (x := (lI z3)) rfl rfl hf11 ?_
                                    refine jv_lstore (pc' := 172) (k := 11) (x := (lI z3)) rfl rfl rfl (Or.inr rfl) ?_
                                    refine jv_lload (pc' := 174) (k := 7) (x := (lI z1)) rfl rfl hf7 ?_
                                    refine jv_lload (pc' := 176) (k := 15) (x := (lI (s 8 r.toNat))) rfl rfl rfl ?_
                                    refine jv_ladd (pc' := 177) (a := z1) (b := (s 8 r.toNat)) rfl rfl ?_
                                    refine jv_lstore (pc' := 179) (k := 7) (x := (lI (z1 + (s 8 r.toNat)))) rfl rfl rfl (Or.inr hg6) ?_
                                    refine jv_lload (pc' := 181) (k := 5) (x := (lI z0)) rfl rfl hf5 ?_
                                    refine jv_long (pc' := 182) (y := lI 1) rfl (by decide) ?_
                                    refine jv_ladd (pc' := 183) (a := z0) (b := 1) rfl rfl ?_
                                    refine jv_lstore (pc' := 185) (k := 5) (x := (lI (z0 + 1))) rfl rfl rfl (Or.inr (congrArg jm_lng hf4)) ?_
                                    refine jv_iinc (pc' := 188) (k := 13) (a := ((k : Nat) : Int)) rfl rfl hf13 rfl (Or.inr rfl) ?_
                                    refine jx_step (pc' := 72) rfl ?_
                                    exact ih (k + 1) I2 M2 (z0 + 1) (z1 + (s 8 r.toNat)) z2 z3 (by omega) (by omega) (fr_t hf r2) (fr_t hm t2) C2 (z2'.trans h0) (by rw [tT_v hov, tN_0, ← hz0]) (by rw [tT_v hov, tN_1, ← hz1]) (by rw [tT_v hov, tN_2, ← hz0, ← hz2]; (try split) <;> (try split) <;> omega) (by rw [tT_v hov, tN_3, ← hz3]; split <;> omega) _ hf0 hf1 hf2 hf3 hf4 rfl rfl rfl rfl rfl rfl rfl rfl rfl
                                  · skip
                                    refine jv_lload (pc' := 165) (k := 15) (x := (lI (s 8 r.toNat))) rfl rfl rfl ?_
                                    refine jx_step (pc' := 170) rfl ?_
                                    refine jv_lstore (pc' := 172) (k := 11) (x := (lI (s 8 r.toNat))) rfl rfl rfl (Or.inr rfl) ?_
                                    refine jv_lload (pc' := 174) (k := 7) (x := (lI z1)) rfl rfl hf7 ?_
                                    refine jv_lload (pc' := 176) (k := 15) (x := (lI (s 8 r.toNat))) rfl rfl rfl ?_
                                    refine jv_ladd (pc' := 177) (a := z1) (b := (s 8 r.toNat)) rfl rfl ?_
                                    refine jv_lstore (pc' := 179) (k := 7) (x := (lI (z1 + (s 8 r.toNat)))) rfl rfl rfl (Or.inr hg6) ?_
                                    refine jv_lload (pc' := 181) (k := 5) (x := (lI z0)) rfl rfl hf5 ?_
                                    refine jv_long (pc' := 182) (y := lI 1) rfl (by decide) ?_
                                    refine jv_ladd (pc' := 183) (a := z0) (b := 1) rfl rfl ?_
                                    refine jv_lstore (pc' := 185) (k := 5) (x := (lI (z0 + 1))) rfl rfl rfl (Or.inr (congrArg jm_lng hf4)) ?_
                                    refine jv_iinc (pc' := 188) (k := 13) (a := ((k : Nat) : Int)) rfl rfl hf13 rfl (Or.inr rfl) ?_
                                    refine jx_step (pc' := 72) rfl ?_
                                    exact ih (k + 1) I2 M2 (z0 + 1) (z1 + (s 8 r.toNat)) z2 (s 8 r.toNat) (by omega) (by omega) (fr_t hf r2) (fr_t hm t2) C2 (z2'.trans h0) (by rw [tT_v hov, tN_0, ← hz0]) (by rw [tT_v hov, tN_1, ← hz1]) (by rw [tT_v hov, tN_2, ← hz0, ← hz2]; (try split) <;> (try split) <;> omega) (by rw [tT_v hov, tN_3, ← hz3]; split <;> omega) _ hf0 hf1 hf2 hf3 hf4 rfl rfl rfl rfl rfl rfl rfl rfl rfl
                              · skip
                                refine jv_lload (pc' := 141) (k := 15) (x := (lI (s 8 r.toNat))) rfl rfl rfl ?_
                                refine jx_step (pc' := 146) rfl ?_
                                refine jv_lstore (pc' := 148) (k := 9) (x := (lI (s 8 r.toNat))) rfl rfl rfl (Or.inr hg8) ?_
                                refine jv_lload (pc' := 150) (k := 5) (x := (lI z0)) rfl rfl hf5 ?_
                                refine jv_long (pc' := 151) (y := lI 0) rfl (by decide) ?_
                                refine jv_lc_eq (t := 163) (pc' := 155) (a := z0) (b := 0) rfl rfl rfl rfl rfl (by omega) (fun hz_25 => ?_) (fun hz_25 => ?_)
                                · skip
                                  refine jv_lload (pc' := 165) (k := 15) (x := (lI (s 8 r.toNat))) rfl rfl rfl ?_
                                  refine jx_step (pc' := 170) rfl ?_
                                  refine jv_lstore (pc' := 172) (k := 11) (x := (lI (s 8 r.toNat))) rfl rfl rfl (Or.inr rfl) ?_
                                  refine jv_lload (pc' := 174) (k := 7) (x := (lI z1)) rfl rfl hf7 ?_
                                  refine jv_lload (pc' := 176) (k := 15) (x := (lI (s 8 r.toNat))) rfl rfl rfl ?_
                                  refine jv_ladd (pc' := 177) (a := z1) (b := (s 8 r.toNat)) rfl rfl ?_
                                  refine jv_lstore (pc' := 179) (k := 7) (x := (lI (z1 + (s 8 r.toNat)))) rfl rfl rfl (Or.inr hg6) ?_
                                  refine jv_lload (pc' := 181) (k := 5) (x := (lI z0)) rfl rfl hf5 ?_
                                  refine jv_long (pc' := 182) (y := lI 1) rfl (by decide) ?_
                                  refine jv_ladd (pc' := 183) (a := z0) (b := 1) rfl rfl ?_
                                  refine jv_lstore (pc' := 185) (k := 5) (x := (lI (z0 + 1))) rfl rfl rfl (Or.inr (congrArg jm_lng hf4)) ?_
                                  refine jv_iinc (pc' := 188) (k := 13) (a := ((k : Nat) : Int)) rfl rfl hf13 rfl (Or.inr rfl) ?_
                                  refine jx_step (pc' := 72) rfl ?_
                                  exact ih (k + 1) I2 M2 (z0 + 1) (z1 + (s 8 r.toNat)) (s 8 r.toNat) (s 8 r.toNat) (by omega) (by omega) (fr_t hf r2) (fr_t hm t2) C2 (z2'.trans h0) (by rw [tT_v hov, tN_0, ← hz0]) (by rw [tT_v hov, tN_1, ← hz1]) (by rw [tT_v hov, tN_2, ← hz0, ← hz2]; (try split) <;> (try split) <;> omega) (by rw [tT_v hov, tN_3, ← hz3]; split <;> omega) _ hf0 hf1 hf2 hf3 hf4 rfl rfl rfl rfl rfl rfl rfl rfl rfl
                                · skip
                                  refine jv_lload (pc' := 157) (k := 15) (x := (lI (s 8 r.toNat))) rfl rfl rfl ?_
                                  refine jv_lload (pc' := 159) (k := 11) (x := (lI z3)) rfl rfl hf11 ?_
                                  refine jv_lc_le (t := 168) (pc' := 163) (a := (s 8 r.toNat)) (b := z3) rfl rfl rfl rfl rfl (by omega) (fun hz_26 => ?_) (fun hz_26 => ?_)
                                  · skip
                                    refine jv_lload (pc' := 170) (k := 11) (x := (lI z3)) rfl rfl hf11 ?_
                                    refine jv_lstore (pc' := 172) (k := 11) (x := (lI z3)) rfl rfl rfl (Or.inr rfl) ?_
                                    refine jv_lload (pc' := 174) (k := 7) (x := (lI z1)) rfl rfl hf7 ?_
                                    refine jv_lload (pc' := 176) (k := 15) (x := (lI (s 8 r.toNat))) rfl rfl rfl ?_
                                    refine jv_ladd (pc' := 177) (a := z1) (b := (s 8 r.toNat)) rfl rfl ?_
                                    refine jv_lstore (pc' := 179) (k := 7) (x := (lI (z1 + (s 8 r.toNat)))) rfl rfl rfl (Or.inr hg6) ?_
                                    refine jv_lload (pc' := 181) (k := 5) (x := (lI z0)) rfl rfl hf5 ?_
                                    refine jv_long (pc' := 182) (y := lI 1) rfl (by decide) ?_
                                    refine jv_ladd (pc' := 183) (a := z0) (b := 1) rfl rfl ?_
                                    refine jv_lstore (pc' := 185) (k := 5) (x := (lI (z0 + 1))) rfl rfl rfl (Or.inr (congrArg jm_lng hf4)) ?_
                                    refine jv_iinc (pc' := 188) (k := 13) (a := ((k : Nat) : Int)) rfl rfl hf13 rfl (Or.inr rfl) ?_
                                    refine jx_step (pc' := 72) rfl ?_
                                    exact ih (k + 1) I2 M2 (z0 + 1) (z1 + (s 8 r.toNat)) (s 8 r.toNat) z3 (by omega) (by omega) (fr_t hf r2) (fr_t hm t2) C2 (z2'.trans h0) (by rw [tT_v hov, tN_0, ← hz0]) (by rw [tT_v hov, tN_1, ← hz1]) (by rw [tT_v hov, tN_2, ← hz0, ← hz2]; (try split) <;> (try split) <;> omega) (by rw [tT_v hov, tN_3, ← hz3]; split <;> omega) _ hf0 hf1 hf2 hf3 hf4 rfl rfl rfl rfl rfl rfl rfl rfl rfl
                                  · skip
                                    refine jv_lload (pc' := 165) (k := 15) (x := (lI (s 8 r.toNat))) rfl rfl rfl ?_
                                    refine jx_step (pc' := 170) rfl ?_
                                    refine jv_lstore (pc' := 172) (k := 11) (x := (lI (s 8 r.toNat))) rfl rfl rfl (Or.inr rfl) ?_
                                    refine jv_lload (pc' := 174) (k := 7) (x := (lI z1)) rfl rfl hf7 ?_
                                    refine jv_lload (pc' := 176) (k := 15) (x := (lI (s 8 r.toNat))) rfl rfl rfl ?_
                                    refine jv_ladd (pc' := 177) (a := z1) (b := (s 8 r.toNat)) rfl rfl ?_
                                    refine jv_lstore (pc' := 179) (k := 7) (x := (lI (z1 + (s 8 r.toNat)))) rfl rfl rfl (Or.inr hg6) ?_
                                    refine jv_lload (pc' := 181) (k := 5) (x := (lI z0)) rfl rfl hf5 ?_
                                    refine jv_long (pc' := 182) (y := lI 1) rfl (by decide) ?_
                                    refine jv_ladd (pc' := 183) (a := z0) (b := 1) rfl rfl ?_
                                    refine jv_lstore (pc' := 185) (k := 5) (x := (lI (z0 + 1))) rfl rfl rfl (Or.inr (congrArg jm_lng hf4)) ?_
                                    refine jv_iinc (pc' := 188) (k := 13) (a := ((k : Nat) : Int)) rfl rfl hf13 rfl (Or.inr rfl) ?_
                                    refine jx_step (pc' := 72) rfl ?_
                                    exact ih (k + 1) I2 M2 (z0 + 1) (z1 + (s 8 r.toNat)) (s 8 r.toNat) (s 8 r.toNat) (by omega) (by omega) (fr_t hf r2) (fr_t hm t2) C2 (z2'.trans h0) (by rw [tT_v hov, tN_0, ← hz0]) (by rw [tT_v hov, tN_1, ← hz1]) (by rw [tT_v hov, tN_2, ← hz0, ← hz2]; (try split) <;> (try split) <;> omega) (by rw [tT_v hov, tN_3, ← hz3]; split <;> omega) _ hf0 hf1 hf2 hf3 hf4 rfl rfl rfl rfl rfl rfl rfl rfl rfl
                exact H10 _ 0 (jm_u I 103 0 (iI 0)) M 0 0 0 0 (Nat.lt_succ_self _) (by omega) (fr_u (by simp [mW]) (fr_r _)) (fr_r _) (CM_n hM (by simp [pers])) rfl rfl rfl rfl rfl _ rfl rfl rfl rfl rfl rfl rfl rfl rfl rfl rfl rfl rfl rfl
              · skip
                exfalso; omega
            · skip
              exfalso; omega
end H12
