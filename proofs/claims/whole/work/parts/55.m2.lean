/-! printed by wip/whole/gen/m2.py: the reference reads an item of a layer -/
theorem ml_number_y {L : Nat} {xs : Nat → Int32} {d j : Nat} {I : Nat → Nat → Int32} {M : Nat → Nat → Int64} {p : Nat → Option Nat} {c : Nat → Int} {n a : Nat} (hT : MT I c n) (ha : I 103 19 = iI (a : Int)) (hb : a ≤ 100) (h : 0 < nd c a) : jc L xs (d + 1) 116 [.ref 103] (jx_G j I M p) (fun v g1 => v = some (.int (iI (nv c a))) ∧ g1 = jx_G j (jm_u I 103 19 (iI ((a + nd c a : Nat) : Int))) M p) :=
  jc_mono (ml_number hT ha hb) (fun v g1 q => by rw [if_neg (by omega)] at q; exact q)
theorem ml_number_n {L : Nat} {xs : Nat → Int32} {d j : Nat} {I : Nat → Nat → Int32} {M : Nat → Nat → Int64} {p : Nat → Option Nat} {c : Nat → Int} {n a : Nat} (hT : MT I c n) (ha : I 103 19 = iI (a : Int)) (hb : a ≤ 100) (h : ¬ 0 < nd c a) : jc L xs (d + 1) 116 [.ref 103] (jx_G j I M p) (fun v g1 => v = some (.int (iI (-1))) ∧ g1 = jx_G j I M p) :=
  jc_mono (ml_number hT ha hb) (fun v g1 q => by
    have h0 : nd c a = 0 := by omega
    rw [if_pos h0, h0] at q
    exact ⟨q.1, q.2.trans (congrArg (fun z => jx_G j z M p) (jm_u_iv ha).symm)⟩)
theorem fl_b {F : Nat} (hF : F < 256) {z : Int} (h : 0 ≤ z ∧ z < 8) {b : Bool} (hb : F.testBit z.toNat = b) : (iI (F : Int) >>> (iI z &&& 31)) &&& iI 1 = iI (if b then 1 else 0) := by
  have q := fl_bit ⟨F, hF⟩ ⟨z.toNat, by omega⟩
  have e : ((z.toNat : Nat) : Int) = z := by omega
  dsimp only at q
  rw [e, hb] at q
  exact q
theorem fl_o {F : Nat} (hF : F < 256) {z : Int} (h : 0 ≤ z ∧ z < 8) : iI (F : Int) ||| (iI 1 <<< (iI z &&& 31)) = iI ((F ||| 2 ^ z.toNat : Nat) : Int) := by
  have q := fl_or ⟨F, hF⟩ ⟨z.toNat, by omega⟩
  have e : ((z.toNat : Nat) : Int) = z := by omega
  dsimp only at q
  rw [e] at q
  exact q
theorem fl_lt {F : Nat} (hF : F < 256) {z : Nat} (h : z < 8) : F ||| 2 ^ z < 256 := Nat.or_lt_two_pow (n := 8) hF (Nat.pow_lt_pow_right (by decide) h)
/-- a field stands there: its name is free; its width; where it goes on; where it ends -/
def fdN (c : Nat → Int) (F a : Nat) : Prop := (97 ≤ c a ∧ c a ≤ 104) ∧ F.testBit (c a - 97).toNat = false
def fdW (c : Nat → Int) (a : Nat) : Int := if nd c (a + 1) = 0 then -1 else nv c (a + 1)
def fdV (c : Nat → Int) (a : Nat) : Prop := 1 ≤ fdW c a ∧ fdW c a ≤ 32
def fd1 (c : Nat → Int) (a : Nat) : Nat := a + 1 + nd c (a + 1)
def fdT (c : Nat → Int) (a : Nat) : Prop := (fdW c a = 16 ∨ fdW c a = 24 ∨ fdW c a = 32) ∧ c (fd1 c a) = 60
noncomputable def fd2 (c : Nat → Int) (a : Nat) : Nat := @ite _ (fdT c a) (Classical.propDecidable _) (fd1 c a + 1) (fd1 c a)
def fdOk (c : Nat → Int) (F a : Nat) : Prop := fdN c F a ∧ fdV c a ∧ (c (fd2 c a) = 61 → 0 < nd c (fd2 c a + 1))
noncomputable def fd3 (c : Nat → Int) (a : Nat) : Nat := if c (fd2 c a) = 61 then fd2 c a + 1 + nd c (fd2 c a + 1) else if c (fd2 c a) = 33 then fd2 c a + 1 else fd2 c a
noncomputable def fdA (c : Nat → Int) (F a : Nat) : Nat := @ite _ (fdN c F a) (Classical.propDecidable _) (@ite _ (fdV c a) (Classical.propDecidable _) (fd3 c a) (a + 1)) a
noncomputable def fdF (c : Nat → Int) (F a : Nat) : Nat := @ite _ (fdN c F a ∧ fdV c a) (Classical.propDecidable _) (F ||| 2 ^ (c a - 97).toNat) F
/-- a count stands there; an opening of a group or an option -/
def cnO (c : Nat → Int) (F a : Nat) : Prop := c a = 42 ∨ knw c F a
def opO (c : Nat → Int) (F a : Nat) : Prop := (c a = 35 ∧ cnO c F (a + 1) ∧ c (a + 2) = 40) ∨ (c a ≠ 35 ∧ knw c F (a + 1) ∧ (c (a + 2) = 61 ∨ c (a + 2) = 60) ∧ 0 < nd c (a + 3) ∧ c (a + 3 + nd c (a + 3)) = 40)
noncomputable def op2 (c : Nat → Int) (F a : Nat) : Nat := @ite _ (knw c F (a + 1)) (Classical.propDecidable _) (if c (a + 2) = 61 ∨ c (a + 2) = 60 then (if 0 < nd c (a + 3) then (if c (a + 3 + nd c (a + 3)) = 40 then a + 3 + nd c (a + 3) + 1 else a + 3 + nd c (a + 3)) else a + 3) else a + 2) (a + 1)
noncomputable def op1 (c : Nat → Int) (F a : Nat) : Nat := @ite _ (cnO c F (a + 1)) (Classical.propDecidable _) (if c (a + 2) = 40 then a + 3 else a + 2) (a + 1)
noncomputable def opA (c : Nat → Int) (F a : Nat) : Nat := if c a = 35 then op1 c F a else op2 c F a
def wAF (l k : Nat) : Prop := l = 103 ∧ (k = 19 ∨ k = 20)
section M2
variable {L : Nat} {xs : Nat → Int32} {d j : Nat} {I : Nat → Nat → Int32} {M : Nat → Nat → Int64} {p : Nat → Option Nat}
variable {c : Nat → Int} {n a F : Nat}
theorem ml_known_y (hT : MT I c n) (ha : I 103 19 = iI ((a : Nat) : Int)) (hb : a ≤ 90) (hF : I 103 20 = iI ((F : Nat) : Int)) (hF2 : F < 256) (hK : knw c F a) : jc L xs (d + 1) 117 [.ref 103] (jx_G j I M p) (fun v g1 => v = some (.int (iI (c a - 97))) ∧ g1 = jx_G j (jm_u I 103 19 (iI ((a + 1 : Nat) : Int))) M p) := by
  unfold jc
  have hk1 := hK.1
  refine jv_aload_n (pc' := 1) (k := 0) (x := 103) rfl rfl rfl rfl ?_
  have hm1 := MT_c hT (a)
  refine jv_call (pc' := 4) rfl (ml_here (a := a) hT ha (by omega)) (fun vq2 gq2 q2 => ?_)
  obtain ⟨rfl, rfl⟩ := q2
  show jx L xs _ 117 4 _ [.int (iI (c (a)))] _ _
  refine jv_istore_n (pc' := 5) (k := 1) (x := (iI (c (a)))) rfl rfl rfl rfl (Or.inr rfl) ?_
  refine jv_iload_n (pc' := 6) (k := 1) (x := (iI (c (a)))) rfl rfl rfl rfl ?_
  refine jv_call (pc' := 9) rfl (ml_isName (by omega)) (fun vq3 gq3 q3 => ?_)
  obtain ⟨rfl, rfl⟩ := q3
  show jx L xs _ 117 9 _ [.int (jb (97 ≤ (c (a)) ∧ (c (a)) ≤ 104))] _ _
  refine jv_jb_eq (t := 26) (pc' := 12) (P := 97 ≤ (c (a)) ∧ (c (a)) ≤ 104) rfl rfl rfl (fun h4 => ?_) (fun h4 => ?_)
  · skip
    refine jv_iconst (pc' := 27) (n := -1) rfl rfl ?_
    refine jv_retI rfl rfl ⟨_, _, rfl, ?_⟩
    first | (exfalso; omega) | exact ⟨rfl, rfl⟩
  · skip
    refine jv_aload_n (pc' := 13) (k := 0) (x := 103) rfl rfl rfl rfl ?_
    refine jv_getI (pc' := 16) (c := 12) (k := 20) (v := (iI ((F : Nat) : Int))) rfl rfl rfl (fun _ _ => rfl) rfl rfl hF ?_
    refine jv_iload_n (pc' := 17) (k := 1) (x := (iI (c (a)))) rfl rfl rfl rfl ?_
    refine jv_bipush (pc' := 19) (n := 97) rfl rfl rfl ?_
    refine jv_isub (pc' := 20) (a := (c (a))) (b := 97) rfl rfl ?_
    refine jv_int (pc' := 21) (y := iI ((F : Nat) : Int) >>> (iI ((c (a)) - 97) &&& 31)) rfl rfl ?_
    refine jv_iconst (pc' := 22) (n := 1) rfl rfl ?_
    refine jv_int (pc' := 23) (y := iI 1) rfl (fl_b (b := true) hF2 (by omega) hK.2) ?_
    refine jv_if_ne (t := 28) (pc' := 26) (a := 1) rfl rfl rfl (by omega) (fun h5 => ?_) (fun h5 => ?_)
    · skip
      refine jv_aload_n (pc' := 29) (k := 0) (x := 103) rfl rfl rfl rfl ?_
      refine jx_step (pc' := 30) rfl ?_
      refine jv_getI (pc' := 33) (c := 12) (k := 19) (v := (iI ((a : Nat) : Int))) rfl rfl rfl (fun _ _ => rfl) rfl rfl ha ?_
      refine jv_iconst (pc' := 34) (n := 1) rfl rfl ?_
      refine jv_iadd (pc' := 35) (a := ((a : Nat) : Int)) (b := 1) rfl rfl ?_
      refine jv_putI (pc' := 38) (c := 12) (k := 19) rfl rfl rfl rfl (fun _ _ _  => rfl) rfl rfl ?_
      refine jv_iload_n (pc' := 39) (k := 1) (x := (iI (c (a)))) rfl rfl rfl rfl ?_
      refine jv_bipush (pc' := 41) (n := 97) rfl rfl rfl ?_
      refine jv_isub (pc' := 42) (a := (c (a))) (b := 97) rfl rfl ?_
      refine jv_retI rfl rfl ⟨_, _, rfl, ?_⟩
      first | (exfalso; omega) | exact ⟨rfl, rfl⟩
    · skip
      exact absurd h5 (by decide)
theorem ml_known_n (hT : MT I c n) (ha : I 103 19 = iI ((a : Nat) : Int)) (hb : a ≤ 90) (hF : I 103 20 = iI ((F : Nat) : Int)) (hF2 : F < 256) (hK : ¬ knw c F a) : jc L xs (d + 1) 117 [.ref 103] (jx_G j I M p) (fun v g1 => v = some (.int (iI (-1))) ∧ g1 = jx_G j I M p) := by
  unfold jc
  refine jv_aload_n (pc' := 1) (k := 0) (x := 103) rfl rfl rfl rfl ?_
  have hm1 := MT_c hT (a)
  refine jv_call (pc' := 4) rfl (ml_here (a := a) hT ha (by omega)) (fun vq2 gq2 q2 => ?_)
  obtain ⟨rfl, rfl⟩ := q2
  show jx L xs _ 117 4 _ [.int (iI (c (a)))] _ _
  refine jv_istore_n (pc' := 5) (k := 1) (x := (iI (c (a)))) rfl rfl rfl rfl (Or.inr rfl) ?_
  refine jv_iload_n (pc' := 6) (k := 1) (x := (iI (c (a)))) rfl rfl rfl rfl ?_
  refine jv_call (pc' := 9) rfl (ml_isName (by omega)) (fun vq3 gq3 q3 => ?_)
  obtain ⟨rfl, rfl⟩ := q3
  show jx L xs _ 117 9 _ [.int (jb (97 ≤ (c (a)) ∧ (c (a)) ≤ 104))] _ _
  refine jv_jb_eq (t := 26) (pc' := 12) (P := 97 ≤ (c (a)) ∧ (c (a)) ≤ 104) rfl rfl rfl (fun h4 => ?_) (fun h4 => ?_)
  · skip
    refine jv_iconst (pc' := 27) (n := -1) rfl rfl ?_
    refine jv_retI rfl rfl ⟨_, _, rfl, ?_⟩
    first | (exfalso; omega) | exact ⟨rfl, rfl⟩
  · skip
    refine jv_aload_n (pc' := 13) (k := 0) (x := 103) rfl rfl rfl rfl ?_
    refine jv_getI (pc' := 16) (c := 12) (k := 20) (v := (iI ((F : Nat) : Int))) rfl rfl rfl (fun _ _ => rfl) rfl rfl hF ?_
    refine jv_iload_n (pc' := 17) (k := 1) (x := (iI (c (a)))) rfl rfl rfl rfl ?_
    refine jv_bipush (pc' := 19) (n := 97) rfl rfl rfl ?_
    refine jv_isub (pc' := 20) (a := (c (a))) (b := 97) rfl rfl ?_
    refine jv_int (pc' := 21) (y := iI ((F : Nat) : Int) >>> (iI ((c (a)) - 97) &&& 31)) rfl rfl ?_
    refine jv_iconst (pc' := 22) (n := 1) rfl rfl ?_
    refine jv_int (pc' := 23) (y := iI 0) rfl (fl_b (b := false) hF2 (by omega) (Bool.eq_false_iff.mpr (fun q => hK ⟨by omega, q⟩))) ?_
    refine jv_if_ne (t := 28) (pc' := 26) (a := 0) rfl rfl rfl (by omega) (fun h5 => ?_) (fun h5 => ?_)
    · skip
      exact absurd h5 (by decide)
    · skip
      refine jv_iconst (pc' := 27) (n := -1) rfl rfl ?_
      refine jv_retI rfl rfl ⟨_, _, rfl, ?_⟩
      first | (exfalso; omega) | exact ⟨rfl, rfl⟩
theorem ml_count_s (hT : MT I c n) (ha : I 103 19 = iI ((a : Nat) : Int)) (hb : a ≤ 90) (hF : I 103 20 = iI ((F : Nat) : Int)) (hF2 : F < 256) (hs : c a = 42) : jc L xs (d + 2) 118 [.ref 103] (jx_G j I M p) (fun v g1 => v = some (.int (iI 8)) ∧ g1 = jx_G j (jm_u I 103 19 (iI ((a + 1 : Nat) : Int))) M p) := by
  unfold jc
  refine jv_aload_n (pc' := 1) (k := 0) (x := 103) rfl rfl rfl rfl ?_
  refine jv_bipush (pc' := 3) (n := 42) rfl rfl rfl ?_
  by_cases hk1 : c (a) = 42
  · skip
    refine jv_call (pc' := 6) rfl (ml_takes_y (a := a) (x := 42) (by omega) hT ha (by omega) hk1) (fun vq2 gq2 q2 => ?_)
    obtain ⟨rfl, rfl⟩ := q2
    show jx L xs _ 118 6 _ [.int (iI 1)] _ _
    refine jv_if_eq (t := 14) (pc' := 9) (a := 1) rfl rfl rfl (by omega) (fun h3 => ?_) (fun h3 => ?_)
    · skip
      exact absurd h3 (by decide)
    · skip
      refine jv_bipush (pc' := 11) (n := 8) rfl rfl rfl ?_
      refine jx_step (pc' := 18) rfl ?_
      refine jv_retI rfl rfl ⟨_, _, rfl, ?_⟩
      first | (exfalso; omega) | exact ⟨rfl, rfl⟩
  · skip
    refine jv_call (pc' := 6) rfl (ml_takes_n (a := a) (x := 42) (by omega) hT ha (by omega) hk1) (fun vq4 gq4 q4 => ?_)
    obtain ⟨rfl, rfl⟩ := q4
    show jx L xs _ 118 6 _ [.int (iI 0)] _ _
    refine jv_if_eq (t := 14) (pc' := 9) (a := 0) rfl rfl rfl (by omega) (fun h5 => ?_) (fun h5 => ?_)
    · skip
      refine jv_aload_n (pc' := 15) (k := 0) (x := 103) rfl rfl rfl rfl ?_
      by_cases hk6 : knw c (F) (a)
      · skip
        have hhk6 := hk6.1
        refine jv_call (pc' := 18) rfl (ml_known_y (a := a) (F := F) hT ha (by omega) hF hF2 hk6) (fun vq7 gq7 q7 => ?_)
        obtain ⟨rfl, rfl⟩ := q7
        show jx L xs _ 118 18 _ [.int (iI (c (a) - 97))] _ _
        refine jv_retI rfl rfl ⟨_, _, rfl, ?_⟩
        first | (exfalso; omega) | exact ⟨rfl, rfl⟩
      · skip
        refine jv_call (pc' := 18) rfl (ml_known_n (a := a) (F := F) hT ha (by omega) hF hF2 hk6) (fun vq8 gq8 q8 => ?_)
        obtain ⟨rfl, rfl⟩ := q8
        show jx L xs _ 118 18 _ [.int (iI (-1))] _ _
        refine jv_retI rfl rfl ⟨_, _, rfl, ?_⟩
        first | (exfalso; omega) | exact ⟨rfl, rfl⟩
    · skip
      exact absurd h5 (by decide)
theorem ml_count_y (hT : MT I c n) (ha : I 103 19 = iI ((a : Nat) : Int)) (hb : a ≤ 90) (hF : I 103 20 = iI ((F : Nat) : Int)) (hF2 : F < 256) (hs : ¬ c a = 42) (hK : knw c F a) : jc L xs (d + 2) 118 [.ref 103] (jx_G j I M p) (fun v g1 => v = some (.int (iI (c a - 97))) ∧ g1 = jx_G j (jm_u I 103 19 (iI ((a + 1 : Nat) : Int))) M p) := by
  unfold jc
  refine jv_aload_n (pc' := 1) (k := 0) (x := 103) rfl rfl rfl rfl ?_
  refine jv_bipush (pc' := 3) (n := 42) rfl rfl rfl ?_
  by_cases hk1 : c (a) = 42
  · skip
    refine jv_call (pc' := 6) rfl (ml_takes_y (a := a) (x := 42) (by omega) hT ha (by omega) hk1) (fun vq2 gq2 q2 => ?_)
    obtain ⟨rfl, rfl⟩ := q2
    show jx L xs _ 118 6 _ [.int (iI 1)] _ _
    refine jv_if_eq (t := 14) (pc' := 9) (a := 1) rfl rfl rfl (by omega) (fun h3 => ?_) (fun h3 => ?_)
    · skip
      exact absurd h3 (by decide)
    · skip
      refine jv_bipush (pc' := 11) (n := 8) rfl rfl rfl ?_
      refine jx_step (pc' := 18) rfl ?_
      refine jv_retI rfl rfl ⟨_, _, rfl, ?_⟩
      first | (exfalso; omega) | contradiction | exact ⟨rfl, rfl⟩
  · skip
    refine jv_call (pc' := 6) rfl (ml_takes_n (a := a) (x := 42) (by omega) hT ha (by omega) hk1) (fun vq4 gq4 q4 => ?_)
    obtain ⟨rfl, rfl⟩ := q4
    show jx L xs _ 118 6 _ [.int (iI 0)] _ _
    refine jv_if_eq (t := 14) (pc' := 9) (a := 0) rfl rfl rfl (by omega) (fun h5 => ?_) (fun h5 => ?_)
    · skip
      refine jv_aload_n (pc' := 15) (k := 0) (x := 103) rfl rfl rfl rfl ?_
      by_cases hk6 : knw c (F) (a)
      · skip
        have hhk6 := hk6.1
        refine jv_call (pc' := 18) rfl (ml_known_y (a := a) (F := F) hT ha (by omega) hF hF2 hk6) (fun vq7 gq7 q7 => ?_)
        obtain ⟨rfl, rfl⟩ := q7
        show jx L xs _ 118 18 _ [.int (iI (c (a) - 97))] _ _
        refine jv_retI rfl rfl ⟨_, _, rfl, ?_⟩
        first | (exfalso; omega) | contradiction | exact ⟨rfl, rfl⟩
      · skip
        refine jv_call (pc' := 18) rfl (ml_known_n (a := a) (F := F) hT ha (by omega) hF hF2 hk6) (fun vq8 gq8 q8 => ?_)
        obtain ⟨rfl, rfl⟩ := q8
        show jx L xs _ 118 18 _ [.int (iI (-1))] _ _
        refine jv_retI rfl rfl ⟨_, _, rfl, ?_⟩
        first | (exfalso; omega) | contradiction | exact ⟨rfl, rfl⟩
    · skip
      exact absurd h5 (by decide)
theorem ml_count_n (hT : MT I c n) (ha : I 103 19 = iI ((a : Nat) : Int)) (hb : a ≤ 90) (hF : I 103 20 = iI ((F : Nat) : Int)) (hF2 : F < 256) (hs : ¬ c a = 42) (hK : ¬ knw c F a) : jc L xs (d + 2) 118 [.ref 103] (jx_G j I M p) (fun v g1 => v = some (.int (iI (-1))) ∧ g1 = jx_G j I M p) := by
  unfold jc
  refine jv_aload_n (pc' := 1) (k := 0) (x := 103) rfl rfl rfl rfl ?_
  refine jv_bipush (pc' := 3) (n := 42) rfl rfl rfl ?_
  by_cases hk1 : c (a) = 42
  · skip
    refine jv_call (pc' := 6) rfl (ml_takes_y (a := a) (x := 42) (by omega) hT ha (by omega) hk1) (fun vq2 gq2 q2 => ?_)
    obtain ⟨rfl, rfl⟩ := q2
    show jx L xs _ 118 6 _ [.int (iI 1)] _ _
    refine jv_if_eq (t := 14) (pc' := 9) (a := 1) rfl rfl rfl (by omega) (fun h3 => ?_) (fun h3 => ?_)
    · skip
      exact absurd h3 (by decide)
    · skip
      refine jv_bipush (pc' := 11) (n := 8) rfl rfl rfl ?_
      refine jx_step (pc' := 18) rfl ?_
      refine jv_retI rfl rfl ⟨_, _, rfl, ?_⟩
      first | (exfalso; omega) | contradiction | exact ⟨rfl, rfl⟩
  · skip
    refine jv_call (pc' := 6) rfl (ml_takes_n (a := a) (x := 42) (by omega) hT ha (by omega) hk1) (fun vq4 gq4 q4 => ?_)
    obtain ⟨rfl, rfl⟩ := q4
    show jx L xs _ 118 6 _ [.int (iI 0)] _ _
    refine jv_if_eq (t := 14) (pc' := 9) (a := 0) rfl rfl rfl (by omega) (fun h5 => ?_) (fun h5 => ?_)
    · skip
      refine jv_aload_n (pc' := 15) (k := 0) (x := 103) rfl rfl rfl rfl ?_
      by_cases hk6 : knw c (F) (a)
      · skip
        have hhk6 := hk6.1
        refine jv_call (pc' := 18) rfl (ml_known_y (a := a) (F := F) hT ha (by omega) hF hF2 hk6) (fun vq7 gq7 q7 => ?_)
        obtain ⟨rfl, rfl⟩ := q7
        show jx L xs _ 118 18 _ [.int (iI (c (a) - 97))] _ _
        refine jv_retI rfl rfl ⟨_, _, rfl, ?_⟩
        first | (exfalso; omega) | contradiction | exact ⟨rfl, rfl⟩
      · skip
        refine jv_call (pc' := 18) rfl (ml_known_n (a := a) (F := F) hT ha (by omega) hF hF2 hk6) (fun vq8 gq8 q8 => ?_)
        obtain ⟨rfl, rfl⟩ := q8
        show jx L xs _ 118 18 _ [.int (iI (-1))] _ _
        refine jv_retI rfl rfl ⟨_, _, rfl, ?_⟩
        first | (exfalso; omega) | contradiction | exact ⟨rfl, rfl⟩
    · skip
      exact absurd h5 (by decide)
theorem ml_opens (hT : MT I c n) (ha : I 103 19 = iI ((a : Nat) : Int)) (hb : a ≤ 80) (hF : I 103 20 = iI ((F : Nat) : Int)) (hF2 : F < 256) (h5 : c a = 35 ∨ c a = 63) : jc L xs (d + 3) 120 [.ref 103] (jx_G j I M p) (fun v g1 => ∃ I', g1 = jx_G j I' M p ∧ v = some (.int (jb (opO c F a))) ∧ I' 103 19 = iI ((opA c F a : Nat) : Int) ∧ I' 103 20 = iI ((F : Nat) : Int) ∧ fr wAF I I') := by
  unfold jc
  refine jv_aload_n (pc' := 1) (k := 0) (x := 103) rfl rfl rfl rfl ?_
  refine jv_bipush (pc' := 3) (n := 35) rfl rfl rfl ?_
  by_cases hk1 : c (a) = 35
  · skip
    refine jv_call (pc' := 6) rfl (ml_takes_y (a := a) (x := 35) (by omega) hT ha (by omega) hk1) (fun vq2 gq2 q2 => ?_)
    obtain ⟨rfl, rfl⟩ := q2
    show jx L xs _ 120 6 _ [.int (iI 1)] _ _
    refine jv_if_eq (t := 31) (pc' := 9) (a := 1) rfl rfl rfl (by omega) (fun h3 => ?_) (fun h3 => ?_)
    · skip
      exact absurd h3 (by decide)
    · skip
      refine jv_aload_n (pc' := 10) (k := 0) (x := 103) rfl rfl rfl rfl ?_
      by_cases hs5 : c (a + 1) = 42
      · skip
        refine jv_call (pc' := 13) rfl (ml_count_s (a := a + 1) (F := F) hT rfl (by omega) hF hF2 hs5) (fun vq6 gq6 q6 => ?_)
        obtain ⟨rfl, rfl⟩ := q6
        show jx L xs _ 120 13 _ [.int (iI 8)] _ _
        refine jv_if_lt (t := 29) (pc' := 16) (a := 8) rfl rfl rfl (by omega) (fun h7 => ?_) (fun h7 => ?_)
        · skip
          exact absurd h7 (by decide)
        · skip
          refine jv_aload_n (pc' := 17) (k := 0) (x := 103) rfl rfl rfl rfl ?_
          refine jv_bipush (pc' := 19) (n := 40) rfl rfl rfl ?_
          by_cases hk8 : c (a + 2) = 40
          · skip
            refine jv_call (pc' := 22) rfl (ml_takes_y (a := a + 2) (x := 40) (by omega) hT rfl (by omega) hk8) (fun vq9 gq9 q9 => ?_)
            obtain ⟨rfl, rfl⟩ := q9
            show jx L xs _ 120 22 _ [.int (iI 1)] _ _
            refine jv_if_eq (t := 29) (pc' := 25) (a := 1) rfl rfl rfl (by omega) (fun h10 => ?_) (fun h10 => ?_)
            · skip
              exact absurd h10 (by decide)
            · skip
              refine jv_iconst (pc' := 26) (n := 1) rfl rfl ?_
              refine jx_step (pc' := 30) rfl ?_
              refine jv_retZ rfl rfl (by first | exact Or.inl rfl | exact Or.inr rfl) ⟨_, _, rfl, ?_⟩
              first
              | (exfalso; omega)
              | (refine ⟨_, rfl, jq_t ?_, congrArg (fun z : Nat => iI (z : Int)) ?_, hF, (fr_u (by simp [wAF]) (fr_u (by simp [wAF]) (fr_u (by simp [wAF]) (fr_r _))))⟩
                 · simp [opO, cnO, hk1, hs5, hk8]
                 · simp [opA, op1, op2, cnO, hk1, hs5, hk8])
          · skip
            refine jv_call (pc' := 22) rfl (ml_takes_n (a := a + 2) (x := 40) (by omega) hT rfl (by omega) hk8) (fun vq11 gq11 q11 => ?_)
            obtain ⟨rfl, rfl⟩ := q11
            show jx L xs _ 120 22 _ [.int (iI 0)] _ _
            refine jv_if_eq (t := 29) (pc' := 25) (a := 0) rfl rfl rfl (by omega) (fun h12 => ?_) (fun h12 => ?_)
            · skip
              refine jv_iconst (pc' := 30) (n := 0) rfl rfl ?_
              refine jv_retZ rfl rfl (by first | exact Or.inl rfl | exact Or.inr rfl) ⟨_, _, rfl, ?_⟩
              first
              | (exfalso; omega)
              | (refine ⟨_, rfl, jq_f ?_, congrArg (fun z : Nat => iI (z : Int)) ?_, hF, (fr_u (by simp [wAF]) (fr_u (by simp [wAF]) (fr_r _)))⟩
                 · simp [opO, cnO, hk1, hs5, hk8]
                 · simp [opA, op1, op2, cnO, hk1, hs5, hk8])
            · skip
              exact absurd h12 (by decide)
      · skip
        by_cases hk4 : knw c (F) (a + 1)
        · skip
          have hhk4 := hk4.1
          refine jv_call (pc' := 13) rfl (ml_count_y (a := a + 1) (F := F) hT rfl (by omega) hF hF2 hs5 hk4) (fun vq13 gq13 q13 => ?_)
          obtain ⟨rfl, rfl⟩ := q13
          show jx L xs _ 120 13 _ [.int (iI (c (a + 1) - 97))] _ _
          refine jv_if_lt (t := 29) (pc' := 16) (a := (c (a + 1) - 97)) rfl rfl rfl (by omega) (fun h14 => ?_) (fun h14 => ?_)
          · skip
            refine jv_iconst (pc' := 30) (n := 0) rfl rfl ?_
            refine jv_retZ rfl rfl (by first | exact Or.inl rfl | exact Or.inr rfl) ⟨_, _, rfl, ?_⟩
            first
            | (exfalso; omega)
            | (refine ⟨_, rfl, jq_f ?_, congrArg (fun z : Nat => iI (z : Int)) ?_, hF, (fr_u (by simp [wAF]) (fr_u (by simp [wAF]) (fr_r _)))⟩
               · simp [opO, cnO, hk1, hs5, hk4]
               · simp [opA, op1, op2, cnO, hk1, hs5, hk4])
          · skip
            refine jv_aload_n (pc' := 17) (k := 0) (x := 103) rfl rfl rfl rfl ?_
            refine jv_bipush (pc' := 19) (n := 40) rfl rfl rfl ?_
            by_cases hk15 : c (a + 2) = 40
            · skip
              refine jv_call (pc' := 22) rfl (ml_takes_y (a := a + 2) (x := 40) (by omega) hT rfl (by omega) hk15) (fun vq16 gq16 q16 => ?_)
              obtain ⟨rfl, rfl⟩ := q16
              show jx L xs _ 120 22 _ [.int (iI 1)] _ _
              refine jv_if_eq (t := 29) (pc' := 25) (a := 1) rfl rfl rfl (by omega) (fun h17 => ?_) (fun h17 => ?_)
              · skip
                exact absurd h17 (by decide)
              · skip
                refine jv_iconst (pc' := 26) (n := 1) rfl rfl ?_
                refine jx_step (pc' := 30) rfl ?_
                refine jv_retZ rfl rfl (by first | exact Or.inl rfl | exact Or.inr rfl) ⟨_, _, rfl, ?_⟩
                first
                | (exfalso; omega)
                | (refine ⟨_, rfl, jq_t ?_, congrArg (fun z : Nat => iI (z : Int)) ?_, hF, (fr_u (by simp [wAF]) (fr_u (by simp [wAF]) (fr_u (by simp [wAF]) (fr_r _))))⟩
                   · simp [opO, cnO, hk1, hs5, hk4, hk15]
                   · simp [opA, op1, op2, cnO, hk1, hs5, hk4, hk15])
            · skip
              refine jv_call (pc' := 22) rfl (ml_takes_n (a := a + 2) (x := 40) (by omega) hT rfl (by omega) hk15) (fun vq18 gq18 q18 => ?_)
              obtain ⟨rfl, rfl⟩ := q18
              show jx L xs _ 120 22 _ [.int (iI 0)] _ _
              refine jv_if_eq (t := 29) (pc' := 25) (a := 0) rfl rfl rfl (by omega) (fun h19 => ?_) (fun h19 => ?_)
              · skip
                refine jv_iconst (pc' := 30) (n := 0) rfl rfl ?_
                refine jv_retZ rfl rfl (by first | exact Or.inl rfl | exact Or.inr rfl) ⟨_, _, rfl, ?_⟩
                first
                | (exfalso; omega)
                | (refine ⟨_, rfl, jq_f ?_, congrArg (fun z : Nat => iI (z : Int)) ?_, hF, (fr_u (by simp [wAF]) (fr_u (by simp [wAF]) (fr_r _)))⟩
                   · simp [opO, cnO, hk1, hs5, hk4, hk15]
                   · simp [opA, op1, op2, cnO, hk1, hs5, hk4, hk15])
              · skip
                exact absurd h19 (by decide)
        · skip
          refine jv_call (pc' := 13) rfl (ml_count_n (a := a + 1) (F := F) hT rfl (by omega) hF hF2 hs5 hk4) (fun vq20 gq20 q20 => ?_)
          obtain ⟨rfl, rfl⟩ := q20
          show jx L xs _ 120 13 _ [.int (iI (-1))] _ _
          refine jv_if_lt (t := 29) (pc' := 16) (a := (-1)) rfl rfl rfl (by omega) (fun h21 => ?_) (fun h21 => ?_)
          · skip
            refine jv_iconst (pc' := 30) (n := 0) rfl rfl ?_
            refine jv_retZ rfl rfl (by first | exact Or.inl rfl | exact Or.inr rfl) ⟨_, _, rfl, ?_⟩
            first
            | (exfalso; omega)
            | (refine ⟨_, rfl, jq_f ?_, congrArg (fun z : Nat => iI (z : Int)) ?_, hF, (fr_u (by simp [wAF]) (fr_r _))⟩
               · simp [opO, cnO, hk1, hs5, hk4]
               · simp [opA, op1, op2, cnO, hk1, hs5, hk4])
          · skip
            exact absurd h21 (by decide)
  · skip
    refine jv_call (pc' := 6) rfl (ml_takes_n (a := a) (x := 35) (by omega) hT ha (by omega) hk1) (fun vq22 gq22 q22 => ?_)
    obtain ⟨rfl, rfl⟩ := q22
    show jx L xs _ 120 6 _ [.int (iI 0)] _ _
    refine jv_if_eq (t := 31) (pc' := 9) (a := 0) rfl rfl rfl (by omega) (fun h23 => ?_) (fun h23 => ?_)
    · skip
      refine jv_aload_n (pc' := 32) (k := 0) (x := 103) rfl rfl rfl rfl ?_
      refine jx_step (pc' := 33) rfl ?_
      refine jv_getI (pc' := 36) (c := 12) (k := 19) (v := (iI ((a : Nat) : Int))) rfl rfl rfl (fun _ _ => rfl) rfl rfl ha ?_
      refine jv_iconst (pc' := 37) (n := 1) rfl rfl ?_
      refine jv_iadd (pc' := 38) (a := ((a : Nat) : Int)) (b := 1) rfl rfl ?_
      refine jv_putI (pc' := 41) (c := 12) (k := 19) rfl rfl rfl rfl (fun _ _ _  => rfl) rfl rfl ?_
      refine jv_aload_n (pc' := 42) (k := 0) (x := 103) rfl rfl rfl rfl ?_
      by_cases hk24 : knw c (F) (a + 1)
      · skip
        have hhk24 := hk24.1
        refine jv_call (pc' := 45) rfl (ml_known_y (a := a + 1) (F := F) hT rfl (by omega) hF hF2 hk24) (fun vq25 gq25 q25 => ?_)
        obtain ⟨rfl, rfl⟩ := q25
        show jx L xs _ 120 45 _ [.int (iI (c (a + 1) - 97))] _ _
        refine jv_if_lt (t := 86) (pc' := 48) (a := (c (a + 1) - 97)) rfl rfl rfl (by omega) (fun h26 => ?_) (fun h26 => ?_)
        · skip
          refine jv_iconst (pc' := 87) (n := 0) rfl rfl ?_
          refine jv_retZ rfl rfl (by first | exact Or.inl rfl | exact Or.inr rfl) ⟨_, _, rfl, ?_⟩
          first
          | (exfalso; omega)
          | (refine ⟨_, rfl, jq_f ?_, congrArg (fun z : Nat => iI (z : Int)) ?_, hF, (fr_u (by simp [wAF]) (fr_u (by simp [wAF]) (fr_r _)))⟩
             · simp [opO, cnO, hk1, hk24]
             · simp [opA, op1, op2, cnO, hk1, hk24])
        · skip
          refine jv_aload_n (pc' := 49) (k := 0) (x := 103) rfl rfl rfl rfl ?_
          refine jv_bipush (pc' := 51) (n := 61) rfl rfl rfl ?_
          by_cases hk27 : c (a + 2) = 61
          · skip
            refine jv_call (pc' := 54) rfl (ml_takes_y (a := a + 2) (x := 61) (by omega) hT rfl (by omega) hk27) (fun vq28 gq28 q28 => ?_)
            obtain ⟨rfl, rfl⟩ := q28
            show jx L xs _ 120 54 _ [.int (iI 1)] _ _
            refine jv_if_ne (t := 66) (pc' := 57) (a := 1) rfl rfl rfl (by omega) (fun h29 => ?_) (fun h29 => ?_)
            · skip
              refine jv_aload_n (pc' := 67) (k := 0) (x := 103) rfl rfl rfl rfl ?_
              have := nd_le c (a + 3)
              have := nv_b c (a + 3)
              by_cases hk30 : 0 < nd c (a + 3)
              · skip
                refine jv_call (pc' := 70) rfl (ml_number_y (a := a + 3) hT rfl (by omega) hk30) (fun vq31 gq31 q31 => ?_)
                obtain ⟨rfl, rfl⟩ := q31
                show jx L xs _ 120 70 _ [.int (iI (nv c (a + 3)))] _ _
                refine jv_if_lt (t := 86) (pc' := 73) (a := (nv c (a + 3))) rfl rfl rfl (by omega) (fun h32 => ?_) (fun h32 => ?_)
                · skip
                  refine jv_iconst (pc' := 87) (n := 0) rfl rfl ?_
                  refine jv_retZ rfl rfl (by first | exact Or.inl rfl | exact Or.inr rfl) ⟨_, _, rfl, ?_⟩
                  first
                  | (exfalso; omega)
                  | (refine ⟨_, rfl, jq_f ?_, congrArg (fun z : Nat => iI (z : Int)) ?_, hF, (fr_u (by simp [wAF]) (fr_u (by simp [wAF]) (fr_u (by simp [wAF]) (fr_u (by simp [wAF]) (fr_r _)))))⟩
                     · simp [opO, cnO, hk1, hk24, hk27, hk30]
                     · simp [opA, op1, op2, cnO, hk1, hk24, hk27, hk30])
                · skip
                  refine jv_aload_n (pc' := 74) (k := 0) (x := 103) rfl rfl rfl rfl ?_
                  refine jv_bipush (pc' := 76) (n := 40) rfl rfl rfl ?_
                  by_cases hk33 : c (a + 3 + nd c (a + 3)) = 40
                  · skip
                    refine jv_call (pc' := 79) rfl (ml_takes_y (a := a + 3 + nd c (a + 3)) (x := 40) (by omega) hT rfl (by omega) hk33) (fun vq34 gq34 q34 => ?_)
                    obtain ⟨rfl, rfl⟩ := q34
                    show jx L xs _ 120 79 _ [.int (iI 1)] _ _
                    refine jv_if_eq (t := 86) (pc' := 82) (a := 1) rfl rfl rfl (by omega) (fun h35 => ?_) (fun h35 => ?_)
                    · skip
                      exact absurd h35 (by decide)
                    · skip
                      refine jv_iconst (pc' := 83) (n := 1) rfl rfl ?_
                      refine jx_step (pc' := 87) rfl ?_
                      refine jv_retZ rfl rfl (by first | exact Or.inl rfl | exact Or.inr rfl) ⟨_, _, rfl, ?_⟩
                      first
                      | (exfalso; omega)
                      | (refine ⟨_, rfl, jq_t ?_, congrArg (fun z : Nat => iI (z : Int)) ?_, hF, (fr_u (by simp [wAF]) (fr_u (by simp [wAF]) (fr_u (by simp [wAF]) (fr_u (by simp [wAF]) (fr_u (by simp [wAF]) (fr_r _))))))⟩
                         · simp [opO, cnO, hk1, hk24, hk27, hk30, hk33]
                         · simp [opA, op1, op2, cnO, hk1, hk24, hk27, hk30, hk33])
                  · skip
                    refine jv_call (pc' := 79) rfl (ml_takes_n (a := a + 3 + nd c (a + 3)) (x := 40) (by omega) hT rfl (by omega) hk33) (fun vq36 gq36 q36 => ?_)
                    obtain ⟨rfl, rfl⟩ := q36
                    show jx L xs _ 120 79 _ [.int (iI 0)] _ _
                    refine jv_if_eq (t := 86) (pc' := 82) (a := 0) rfl rfl rfl (by omega) (fun h37 => ?_) (fun h37 => ?_)
                    · skip
                      refine jv_iconst (pc' := 87) (n := 0) rfl rfl ?_
                      refine jv_retZ rfl rfl (by first | exact Or.inl rfl | exact Or.inr rfl) ⟨_, _, rfl, ?_⟩
                      first
                      | (exfalso; omega)
                      | (refine ⟨_, rfl, jq_f ?_, congrArg (fun z : Nat => iI (z : Int)) ?_, hF, (fr_u (by simp [wAF]) (fr_u (by simp [wAF]) (fr_u (by simp [wAF]) (fr_u (by simp [wAF]) (fr_r _)))))⟩
                         · simp [opO, cnO, hk1, hk24, hk27, hk30, hk33]
                         · simp [opA, op1, op2, cnO, hk1, hk24, hk27, hk30, hk33])
                    · skip
                      exact absurd h37 (by decide)
              · skip
                refine jv_call (pc' := 70) rfl (ml_number_n (a := a + 3) hT rfl (by omega) hk30) (fun vq38 gq38 q38 => ?_)
                obtain ⟨rfl, rfl⟩ := q38
                show jx L xs _ 120 70 _ [.int (iI (-1))] _ _
                refine jv_if_lt (t := 86) (pc' := 73) (a := (-1)) rfl rfl rfl (by omega) (fun h39 => ?_) (fun h39 => ?_)
                · skip
                  refine jv_iconst (pc' := 87) (n := 0) rfl rfl ?_
                  refine jv_retZ rfl rfl (by first | exact Or.inl rfl | exact Or.inr rfl) ⟨_, _, rfl, ?_⟩
                  first
                  | (exfalso; omega)
                  | (refine ⟨_, rfl, jq_f ?_, congrArg (fun z : Nat => iI (z : Int)) ?_, hF, (fr_u (by simp [wAF]) (fr_u (by simp [wAF]) (fr_u (by simp [wAF]) (fr_r _))))⟩
                     · simp [opO, cnO, hk1, hk24, hk27, hk30]
                     · simp [opA, op1, op2, cnO, hk1, hk24, hk27, hk30])
                · skip
                  exact absurd h39 (by decide)
            · skip
              exact absurd h29 (by decide)
          · skip
            refine jv_call (pc' := 54) rfl (ml_takes_n (a := a + 2) (x := 61) (by omega) hT rfl (by omega) hk27) (fun vq40 gq40 q40 => ?_)
            obtain ⟨rfl, rfl⟩ := q40
            show jx L xs _ 120 54 _ [.int (iI 0)] _ _
            refine jv_if_ne (t := 66) (pc' := 57) (a := 0) rfl rfl rfl (by omega) (fun h41 => ?_) (fun h41 => ?_)
            · skip
              exact absurd h41 (by decide)
            · skip
              refine jv_aload_n (pc' := 58) (k := 0) (x := 103) rfl rfl rfl rfl ?_
              refine jv_bipush (pc' := 60) (n := 60) rfl rfl rfl ?_
              by_cases hk42 : c (a + 2) = 60
              · skip
                refine jv_call (pc' := 63) rfl (ml_takes_y (a := a + 2) (x := 60) (by omega) hT rfl (by omega) hk42) (fun vq43 gq43 q43 => ?_)
                obtain ⟨rfl, rfl⟩ := q43
                show jx L xs _ 120 63 _ [.int (iI 1)] _ _
                refine jv_if_eq (t := 86) (pc' := 66) (a := 1) rfl rfl rfl (by omega) (fun h44 => ?_) (fun h44 => ?_)
                · skip
                  exact absurd h44 (by decide)
                · skip
                  refine jv_aload_n (pc' := 67) (k := 0) (x := 103) rfl rfl rfl rfl ?_
                  have := nd_le c (a + 3)
                  have := nv_b c (a + 3)
                  by_cases hk45 : 0 < nd c (a + 3)
                  · skip
                    refine jv_call (pc' := 70) rfl (ml_number_y (a := a + 3) hT rfl (by omega) hk45) (fun vq46 gq46 q46 => ?_)
                    obtain ⟨rfl, rfl⟩ := q46
                    show jx L xs _ 120 70 _ [.int (iI (nv c (a + 3)))] _ _
                    refine jv_if_lt (t := 86) (pc' := 73) (a := (nv c (a + 3))) rfl rfl rfl (by omega) (fun h47 => ?_) (fun h47 => ?_)
                    · skip
                      refine jv_iconst (pc' := 87) (n := 0) rfl rfl ?_
                      refine jv_retZ rfl rfl (by first | exact Or.inl rfl | exact Or.inr rfl) ⟨_, _, rfl, ?_⟩
                      first
                      | (exfalso; omega)
                      | (refine ⟨_, rfl, jq_f ?_, congrArg (fun z : Nat => iI (z : Int)) ?_, hF, (fr_u (by simp [wAF]) (fr_u (by simp [wAF]) (fr_u (by simp [wAF]) (fr_u (by simp [wAF]) (fr_r _)))))⟩
                         · simp [opO, cnO, hk1, hk24, hk27, hk42, hk45]
                         · simp [opA, op1, op2, cnO, hk1, hk24, hk27, hk42, hk45])
                    · skip
                      refine jv_aload_n (pc' := 74) (k := 0) (x := 103) rfl rfl rfl rfl ?_
                      refine jv_bipush (pc' := 76) (n := 40) rfl rfl rfl ?_
                      by_cases hk48 : c (a + 3 + nd c (a + 3)) = 40
                      · skip
                        refine jv_call (pc' := 79) rfl (ml_takes_y (a := a + 3 + nd c (a + 3)) (x := 40) (by omega) hT rfl (by omega) hk48) (fun vq49 gq49 q49 => ?_)
                        obtain ⟨rfl, rfl⟩ := q49
                        show jx L xs _ 120 79 _ [.int (iI 1)] _ _
                        refine jv_if_eq (t := 86) (pc' := 82) (a := 1) rfl rfl rfl (by omega) (fun h50 => ?_) (fun h50 => ?_)
                        · skip
                          exact absurd h50 (by decide)
                        · skip
                          refine jv_iconst (pc' := 83) (n := 1) rfl rfl ?_
                          refine jx_step (pc' := 87) rfl ?_
                          refine jv_retZ rfl rfl (by first | exact Or.inl rfl | exact Or.inr rfl) ⟨_, _, rfl, ?_⟩
                          first
                          | (exfalso; omega)
                          | (refine ⟨_, rfl, jq_t ?_, congrArg (fun z : Nat => iI (z : Int)) ?_, hF, (fr_u (by simp [wAF]) (fr_u (by simp [wAF]) (fr_u (by simp [wAF]) (fr_u (by simp [wAF]) (fr_u (by simp [wAF]) (fr_r _))))))⟩
                             · simp [opO, cnO, hk1, hk24, hk27, hk42, hk45, hk48]
                             · simp [opA, op1, op2, cnO, hk1, hk24, hk27, hk42, hk45, hk48])
                      · skip
                        refine jv_call (pc' := 79) rfl (ml_takes_n (a := a + 3 + nd c (a + 3)) (x := 40) (by omega) hT rfl (by omega) hk48) (fun vq51 gq51 q51 => ?_)
                        obtain ⟨rfl, rfl⟩ := q51
                        show jx L xs _ 120 79 _ [.int (iI 0)] _ _
                        refine jv_if_eq (t := 86) (pc' := 82) (a := 0) rfl rfl rfl (by omega) (fun h52 => ?_) (fun h52 => ?_)
                        · skip
                          refine jv_iconst (pc' := 87) (n := 0) rfl rfl ?_
                          refine jv_retZ rfl rfl (by first | exact Or.inl rfl | exact Or.inr rfl) ⟨_, _, rfl, ?_⟩
                          first
                          | (exfalso; omega)
                          | (refine ⟨_, rfl, jq_f ?_, congrArg (fun z : Nat => iI (z : Int)) ?_, hF, (fr_u (by simp [wAF]) (fr_u (by simp [wAF]) (fr_u (by simp [wAF]) (fr_u (by simp [wAF]) (fr_r _)))))⟩
                             · simp [opO, cnO, hk1, hk24, hk27, hk42, hk45, hk48]
                             · simp [opA, op1, op2, cnO, hk1, hk24, hk27, hk42, hk45, hk48])
                        · skip
                          exact absurd h52 (by decide)
                  · skip
                    refine jv_call (pc' := 70) rfl (ml_number_n (a := a + 3) hT rfl (by omega) hk45) (fun vq53 gq53 q53 => ?_)
                    obtain ⟨rfl, rfl⟩ := q53
                    show jx L xs _ 120 70 _ [.int (iI (-1))] _ _
                    refine jv_if_lt (t := 86) (pc' := 73) (a := (-1)) rfl rfl rfl (by omega) (fun h54 => ?_) (fun h54 => ?_)
                    · skip
                      refine jv_iconst (pc' := 87) (n := 0) rfl rfl ?_
                      refine jv_retZ rfl rfl (by first | exact Or.inl rfl | exact Or.inr rfl) ⟨_, _, rfl, ?_⟩
                      first
                      | (exfalso; omega)
                      | (refine ⟨_, rfl, jq_f ?_, congrArg (fun z : Nat => iI (z : Int)) ?_, hF, (fr_u (by simp [wAF]) (fr_u (by simp [wAF]) (fr_u (by simp [wAF]) (fr_r _))))⟩
                         · simp [opO, cnO, hk1, hk24, hk27, hk42, hk45]
                         · simp [opA, op1, op2, cnO, hk1, hk24, hk27, hk42, hk45])
                    · skip
                      exact absurd h54 (by decide)
              · skip
                refine jv_call (pc' := 63) rfl (ml_takes_n (a := a + 2) (x := 60) (by omega) hT rfl (by omega) hk42) (fun vq55 gq55 q55 => ?_)
                obtain ⟨rfl, rfl⟩ := q55
                show jx L xs _ 120 63 _ [.int (iI 0)] _ _
                refine jv_if_eq (t := 86) (pc' := 66) (a := 0) rfl rfl rfl (by omega) (fun h56 => ?_) (fun h56 => ?_)
                · skip
                  refine jv_iconst (pc' := 87) (n := 0) rfl rfl ?_
                  refine jv_retZ rfl rfl (by first | exact Or.inl rfl | exact Or.inr rfl) ⟨_, _, rfl, ?_⟩
                  first
                  | (exfalso; omega)
                  | (refine ⟨_, rfl, jq_f ?_, congrArg (fun z : Nat => iI (z : Int)) ?_, hF, (fr_u (by simp [wAF]) (fr_u (by simp [wAF]) (fr_r _)))⟩
                     · simp [opO, cnO, hk1, hk24, hk27, hk42]
                     · simp [opA, op1, op2, cnO, hk1, hk24, hk27, hk42])
                · skip
                  exact absurd h56 (by decide)
      · skip
        refine jv_call (pc' := 45) rfl (ml_known_n (a := a + 1) (F := F) hT rfl (by omega) hF hF2 hk24) (fun vq57 gq57 q57 => ?_)
        obtain ⟨rfl, rfl⟩ := q57
        show jx L xs _ 120 45 _ [.int (iI (-1))] _ _
        refine jv_if_lt (t := 86) (pc' := 48) (a := (-1)) rfl rfl rfl (by omega) (fun h58 => ?_) (fun h58 => ?_)
        · skip
          refine jv_iconst (pc' := 87) (n := 0) rfl rfl ?_
          refine jv_retZ rfl rfl (by first | exact Or.inl rfl | exact Or.inr rfl) ⟨_, _, rfl, ?_⟩
          first
          | (exfalso; omega)
          | (refine ⟨_, rfl, jq_f ?_, congrArg (fun z : Nat => iI (z : Int)) ?_, hF, (fr_u (by simp [wAF]) (fr_r _))⟩
             · simp [opO, cnO, hk1, hk24]
             · simp [opA, op1, op2, cnO, hk1, hk24])
        · skip
          exact absurd h58 (by decide)
    · skip
      exact absurd h23 (by decide)
theorem nd0 {x y : Nat} (h : ¬ 0 < y) : x = x + y := by omega
theorem fd_W {c : Nat → Int} {a : Nat} (hn : 0 < nd c (a + 1)) : fdW c a = nv c (a + 1) := if_neg (by omega)
theorem fd2_y {c : Nat → Int} {a : Nat} (hn : 0 < nd c (a + 1)) (h1 : nv c (a + 1) = 16 ∨ nv c (a + 1) = 24 ∨ nv c (a + 1) = 32) (h2 : c (a + 1 + nd c (a + 1)) = 60) : fd2 c a = a + 1 + nd c (a + 1) + 1 := by
  unfold fd2
  rw [if_pos (by unfold fdT; rw [fd_W hn]; exact ⟨h1, h2⟩)]; rfl
theorem fd2_n {c : Nat → Int} {a : Nat} (hn : 0 < nd c (a + 1)) (h : ¬ ((nv c (a + 1) = 16 ∨ nv c (a + 1) = 24 ∨ nv c (a + 1) = 32) ∧ c (a + 1 + nd c (a + 1)) = 60)) : fd2 c a = a + 1 + nd c (a + 1) := by
  unfold fd2
  rw [if_neg (by unfold fdT; rw [fd_W hn]; exact h)]; rfl
theorem fd_V {c : Nat → Int} {a : Nat} (hn : 0 < nd c (a + 1)) (h : 1 ≤ nv c (a + 1) ∧ nv c (a + 1) ≤ 32) : fdV c a := by
  unfold fdV; rw [fd_W hn]; exact h
theorem fd_V0 {c : Nat → Int} {a : Nat} (hn : ¬ 0 < nd c (a + 1)) : ¬ fdV c a := by
  unfold fdV fdW; rw [if_pos (by omega)]; omega
theorem fd_V1 {c : Nat → Int} {a : Nat} (hn : 0 < nd c (a + 1)) (h : ¬ (1 ≤ nv c (a + 1) ∧ nv c (a + 1) ≤ 32)) : ¬ fdV c a := by
  unfold fdV; rw [fd_W hn]; exact h
theorem fd_A {c : Nat → Int} {F a : Nat} (hN : fdN c F a) (hV : fdV c a) : fdA c F a = fd3 c a := by
  unfold fdA; rw [if_pos hN, if_pos hV]
theorem fd_F {c : Nat → Int} {F a : Nat} (hN : fdN c F a) (hV : fdV c a) : fdF c F a = F ||| 2 ^ (c a - 97).toNat := by
  unfold fdF; rw [if_pos ⟨hN, hV⟩]
theorem fd_A1 {c : Nat → Int} {F a : Nat} (hN : fdN c F a) (hV : ¬ fdV c a) : fdA c F a = a + 1 ∧ fdF c F a = F ∧ ¬ fdOk c F a := by
  unfold fdA fdF; rw [if_pos hN, if_neg hV, if_neg (fun q => hV q.2)]; exact ⟨rfl, rfl, fun q => hV q.2.1⟩
theorem fd_A0 {c : Nat → Int} {F a : Nat} (hN : ¬ fdN c F a) : fdA c F a = a ∧ fdF c F a = F ∧ ¬ fdOk c F a := by
  unfold fdA fdF; rw [if_neg hN, if_neg (fun q => hN q.1)]; exact ⟨rfl, rfl, fun q => hN q.1⟩
theorem ml_field (hT : MT I c n) (ha : I 103 19 = iI ((a : Nat) : Int)) (hb : a ≤ 80) (hF : I 103 20 = iI ((F : Nat) : Int)) (hF2 : F < 256) : jc L xs (d + 2) 119 [.ref 103] (jx_G j I M p) (fun v g1 => ∃ I', g1 = jx_G j I' M p ∧ v = some (.int (jb (fdOk c F a))) ∧ I' 103 19 = iI ((fdA c F a : Nat) : Int) ∧ I' 103 20 = iI ((fdF c F a : Nat) : Int) ∧ fr wAF I I') := by
  unfold jc
  by_cases hN : fdN c F a
  · skip
    have hN1 := hN
    unfold fdN at hN1
    have hN2 := hN1.1
    refine jv_aload_n (pc' := 1) (k := 0) (x := 103) rfl rfl rfl rfl ?_
    have hm1 := MT_c hT (a)
    refine jv_call (pc' := 4) rfl (ml_here (a := a) hT ha (by omega)) (fun vq2 gq2 q2 => ?_)
    obtain ⟨rfl, rfl⟩ := q2
    show jx L xs _ 119 4 _ [.int (iI (c (a)))] _ _
    refine jv_istore_n (pc' := 5) (k := 1) (x := (iI (c (a)))) rfl rfl rfl rfl (Or.inr rfl) ?_
    refine jv_iload_n (pc' := 6) (k := 1) (x := (iI (c (a)))) rfl rfl rfl rfl ?_
    refine jv_call (pc' := 9) rfl (ml_isName (by omega)) (fun vq3 gq3 q3 => ?_)
    obtain ⟨rfl, rfl⟩ := q3
    show jx L xs _ 119 9 _ [.int (jb (97 ≤ (c (a)) ∧ (c (a)) ≤ 104))] _ _
    refine jv_jb_eq (t := 27) (pc' := 12) (P := 97 ≤ (c (a)) ∧ (c (a)) ≤ 104) rfl rfl rfl (fun h4 => ?_) (fun h4 => ?_)
    · skip
      refine jv_iconst (pc' := 28) (n := 0) rfl rfl ?_
      refine jv_retZ rfl rfl (by first | exact Or.inl rfl | exact Or.inr rfl) ⟨_, _, rfl, ?_⟩
      first
      | (exfalso; omega)
      | (obtain ⟨e1, e2, e3⟩ := fd_A1 hN (by first | exact fd_V0 (by assumption) | exact fd_V1 (by assumption) (by omega))
         exact ⟨_, rfl, jq_f e3, by rw [e1]; rfl, hF.trans (by rw [e2]), (fr_r _)⟩)
    · skip
      refine jv_aload_n (pc' := 13) (k := 0) (x := 103) rfl rfl rfl rfl ?_
      refine jv_getI (pc' := 16) (c := 12) (k := 20) (v := (iI ((F : Nat) : Int))) rfl rfl rfl (fun _ _ => rfl) rfl rfl hF ?_
      refine jv_iload_n (pc' := 17) (k := 1) (x := (iI (c (a)))) rfl rfl rfl rfl ?_
      refine jv_bipush (pc' := 19) (n := 97) rfl rfl rfl ?_
      refine jv_isub (pc' := 20) (a := (c (a))) (b := 97) rfl rfl ?_
      refine jv_int (pc' := 21) (y := iI ((F : Nat) : Int) >>> (iI ((c (a)) - 97) &&& 31)) rfl rfl ?_
      refine jv_iconst (pc' := 22) (n := 1) rfl rfl ?_
      refine jv_int (pc' := 23) (y := iI 0) rfl (fl_b (b := false) hF2 (by omega) hN1.2) ?_
      refine jv_iconst (pc' := 24) (n := 1) rfl rfl ?_
      refine jv_ic_ne (t := 29) (pc' := 27) (a := 0) (b := 1) rfl rfl rfl (by omega) (fun h5 => ?_) (fun h5 => ?_)
      · skip
        refine jv_aload_n (pc' := 30) (k := 0) (x := 103) rfl rfl rfl rfl ?_
        refine jx_step (pc' := 31) rfl ?_
        refine jv_getI (pc' := 34) (c := 12) (k := 19) (v := (iI ((a : Nat) : Int))) rfl rfl rfl (fun _ _ => rfl) rfl rfl ha ?_
        refine jv_iconst (pc' := 35) (n := 1) rfl rfl ?_
        refine jv_iadd (pc' := 36) (a := ((a : Nat) : Int)) (b := 1) rfl rfl ?_
        refine jv_putI (pc' := 39) (c := 12) (k := 19) rfl rfl rfl rfl (fun _ _ _  => rfl) rfl rfl ?_
        refine jv_aload_n (pc' := 40) (k := 0) (x := 103) rfl rfl rfl rfl ?_
        refine jv_getI (pc' := 43) (c := 12) (k := 19) (v := (iI ((a + 1 : Nat) : Int))) rfl rfl rfl (fun _ _ => rfl) rfl rfl rfl ?_
        refine jv_istore_n (pc' := 44) (k := 2) (x := (iI ((a + 1 : Nat) : Int))) rfl rfl rfl rfl (Or.inr rfl) ?_
        refine jv_aload_n (pc' := 45) (k := 0) (x := 103) rfl rfl rfl rfl ?_
        have := nd_le c (a + 1)
        have := nv_b c (a + 1)
        by_cases hk6 : 0 < nd c (a + 1)
        · skip
          refine jv_call (pc' := 48) rfl (ml_number_y (a := a + 1) hT rfl (by omega) hk6) (fun vq7 gq7 q7 => ?_)
          obtain ⟨rfl, rfl⟩ := q7
          show jx L xs _ 119 48 _ [.int (iI (nv c (a + 1)))] _ _
          refine jv_istore_n (pc' := 49) (k := 3) (x := (iI (nv c (a + 1)))) rfl rfl rfl rfl (Or.inr rfl) ?_
          refine jv_iload_n (pc' := 50) (k := 3) (x := (iI (nv c (a + 1)))) rfl rfl rfl rfl ?_
          refine jv_iconst (pc' := 51) (n := 1) rfl rfl ?_
          refine jv_ic_lt (t := 60) (pc' := 54) (a := (nv c (a + 1))) (b := 1) rfl rfl rfl (by omega) (fun h8 => ?_) (fun h8 => ?_)
          · skip
            refine jv_aload_n (pc' := 61) (k := 0) (x := 103) rfl rfl rfl rfl ?_
            refine jv_iload_n (pc' := 62) (k := 2) (x := (iI ((a + 1 : Nat) : Int))) rfl rfl rfl rfl ?_
            refine jv_putI (pc' := 65) (c := 12) (k := 19) rfl rfl rfl rfl (fun _ _ _  => rfl) rfl rfl ?_
            refine jv_iconst (pc' := 66) (n := 0) rfl rfl ?_
            refine jv_retZ rfl rfl (by first | exact Or.inl rfl | exact Or.inr rfl) ⟨_, _, rfl, ?_⟩
            first
            | (exfalso; omega)
            | (obtain ⟨e1, e2, e3⟩ := fd_A1 hN (by first | exact fd_V0 (by assumption) | exact fd_V1 (by assumption) (by omega))
               exact ⟨_, rfl, jq_f e3, by rw [e1]; rfl, hF.trans (by rw [e2]), (fr_u (by simp [wAF]) (fr_u (by simp [wAF]) (fr_u (by simp [wAF]) (fr_r _))))⟩)
          · skip
            refine jv_iload_n (pc' := 55) (k := 3) (x := (iI (nv c (a + 1)))) rfl rfl rfl rfl ?_
            refine jv_bipush (pc' := 57) (n := 32) rfl rfl rfl ?_
            refine jv_ic_le (t := 67) (pc' := 60) (a := (nv c (a + 1))) (b := 32) rfl rfl rfl (by omega) (fun h9 => ?_) (fun h9 => ?_)
            · skip
              refine jv_aload_n (pc' := 68) (k := 0) (x := 103) rfl rfl rfl rfl ?_
              refine jv_aload_n (pc' := 69) (k := 0) (x := 103) rfl rfl rfl rfl ?_
              refine jv_getI (pc' := 72) (c := 12) (k := 20) (v := (iI ((F : Nat) : Int))) rfl rfl rfl (fun _ _ => rfl) rfl rfl hF ?_
              refine jv_iconst (pc' := 73) (n := 1) rfl rfl ?_
              refine jv_iload_n (pc' := 74) (k := 1) (x := (iI (c (a)))) rfl rfl rfl rfl ?_
              refine jv_bipush (pc' := 76) (n := 97) rfl rfl rfl ?_
              refine jv_isub (pc' := 77) (a := (c (a))) (b := 97) rfl rfl ?_
              refine jv_int (pc' := 78) (y := iI 1 <<< (iI ((c (a)) - 97) &&& 31)) rfl rfl ?_
              refine jv_int (pc' := 79) (y := iI ((F ||| 2 ^ (c a - 97).toNat : Nat) : Int)) rfl (fl_o hF2 (by omega)) ?_
              refine jv_putI (pc' := 82) (c := 12) (k := 20) rfl rfl rfl rfl (fun _ _ _  => rfl) rfl rfl ?_
              refine jv_iload_n (pc' := 83) (k := 3) (x := (iI (nv c (a + 1)))) rfl rfl rfl rfl ?_
              refine jv_bipush (pc' := 85) (n := 16) rfl rfl rfl ?_
              refine jv_ic_eq (t := 100) (pc' := 88) (a := (nv c (a + 1))) (b := 16) rfl rfl rfl (by omega) (fun h10 => ?_) (fun h10 => ?_)
              · skip
                refine jv_iconst (pc' := 101) (n := 1) rfl rfl ?_
                refine jx_step (pc' := 105) rfl ?_
                refine jv_istore (pc' := 107) (k := 4) (x := (iI 1)) rfl rfl rfl (Or.inr rfl) ?_
                refine jv_iload (pc' := 109) (k := 4) (x := (iI 1)) rfl rfl rfl ?_
                refine jv_if_eq (t := 125) (pc' := 112) (a := 1) rfl rfl rfl (by omega) (fun h11 => ?_) (fun h11 => ?_)
                · skip
                  exact absurd h11 (by decide)
                · skip
                  refine jv_aload_n (pc' := 113) (k := 0) (x := 103) rfl rfl rfl rfl ?_
                  refine jv_bipush (pc' := 115) (n := 60) rfl rfl rfl ?_
                  by_cases hk12 : c (a + 1 + nd c (a + 1)) = 60
                  · skip
                    refine jv_call (pc' := 118) rfl (ml_takes_y (a := a + 1 + nd c (a + 1)) (x := 60) (by omega) hT rfl (by omega) hk12) (fun vq13 gq13 q13 => ?_)
                    obtain ⟨rfl, rfl⟩ := q13
                    show jx L xs _ 119 118 _ [.int (iI 1)] _ _
                    refine jv_if_eq (t := 125) (pc' := 121) (a := 1) rfl rfl rfl (by omega) (fun h14 => ?_) (fun h14 => ?_)
                    · skip
                      exact absurd h14 (by decide)
                    · skip
                      refine jv_iconst (pc' := 122) (n := 1) rfl rfl ?_
                      refine jx_step (pc' := 126) rfl ?_
                      refine jv_istore (pc' := 128) (k := 5) (x := (iI 1)) rfl rfl rfl (Or.inr rfl) ?_
                      refine jv_aload_n (pc' := 129) (k := 0) (x := 103) rfl rfl rfl rfl ?_
                      refine jv_bipush (pc' := 131) (n := 61) rfl rfl rfl ?_
                      by_cases hk15 : c (a + 1 + nd c (a + 1) + 1) = 61
                      · skip
                        refine jv_call (pc' := 134) rfl (ml_takes_y (a := a + 1 + nd c (a + 1) + 1) (x := 61) (by omega) hT rfl (by omega) hk15) (fun vq16 gq16 q16 => ?_)
                        obtain ⟨rfl, rfl⟩ := q16
                        show jx L xs _ 119 134 _ [.int (iI 1)] _ _
                        refine jv_if_eq (t := 150) (pc' := 137) (a := 1) rfl rfl rfl (by omega) (fun h17 => ?_) (fun h17 => ?_)
                        · skip
                          exact absurd h17 (by decide)
                        · skip
                          refine jv_aload_n (pc' := 138) (k := 0) (x := 103) rfl rfl rfl rfl ?_
                          have := nd_le c (a + 1 + nd c (a + 1) + 2)
                          have := nv_b c (a + 1 + nd c (a + 1) + 2)
                          by_cases hk18 : 0 < nd c (a + 1 + nd c (a + 1) + 2)
                          · skip
                            refine jv_call (pc' := 141) rfl (ml_number_y (a := a + 1 + nd c (a + 1) + 2) hT rfl (by omega) hk18) (fun vq19 gq19 q19 => ?_)
                            obtain ⟨rfl, rfl⟩ := q19
                            show jx L xs _ 119 141 _ [.int (iI (nv c (a + 1 + nd c (a + 1) + 2)))] _ _
                            refine jv_if_lt (t := 148) (pc' := 144) (a := (nv c (a + 1 + nd c (a + 1) + 2))) rfl rfl rfl (by omega) (fun h20 => ?_) (fun h20 => ?_)
                            · skip
                              refine jv_iconst (pc' := 149) (n := 0) rfl rfl ?_
                              refine jv_retZ rfl rfl (by first | exact Or.inl rfl | exact Or.inr rfl) ⟨_, _, rfl, ?_⟩
                              first
                              | (exfalso; omega)
                              | (have e2 : fd2 c a = a + 1 + nd c (a + 1) + 1 := by first | exact fd2_y (by assumption) (by omega) (by omega) | exact fd2_n (by assumption) (by omega)
                                 have hV := fd_V (by assumption) (show 1 ≤ nv c (a + 1) ∧ nv c (a + 1) ≤ 32 by omega)
                                 refine ⟨_, rfl, jq_f ?_, congrArg (fun z : Nat => iI (z : Int)) ?_, congrArg (fun z : Nat => iI (z : Int)) (fd_F hN hV).symm, (fr_u (by simp [wAF]) (fr_u (by simp [wAF]) (fr_u (by simp [wAF]) (fr_u (by simp [wAF]) (fr_u (by simp [wAF]) (fr_u (by simp [wAF]) (fr_r _)))))))⟩
                                 · intro q; have q2 := q.2.2; rw [e2] at q2; exact absurd (q2 (by assumption)) (by assumption)
                                 · rw [fd_A hN hV]; unfold fd3; rw [e2]; first | (rw [if_pos (by assumption)]; exact nd0 (by assumption)) | (rw [if_pos (by assumption)]; (try rfl)) | (rw [if_neg (by assumption), if_pos (by assumption)]; (try rfl)) | (rw [if_neg (by assumption), if_neg (by assumption)]; (try rfl)))
                            · skip
                              refine jv_iconst (pc' := 145) (n := 1) rfl rfl ?_
                              refine jx_step (pc' := 149) rfl ?_
                              refine jv_retZ rfl rfl (by first | exact Or.inl rfl | exact Or.inr rfl) ⟨_, _, rfl, ?_⟩
                              first
                              | (exfalso; omega)
                              | (have e2 : fd2 c a = a + 1 + nd c (a + 1) + 1 := by first | exact fd2_y (by assumption) (by omega) (by omega) | exact fd2_n (by assumption) (by omega)
                                 have hV := fd_V (by assumption) (show 1 ≤ nv c (a + 1) ∧ nv c (a + 1) ≤ 32 by omega)
                                 refine ⟨_, rfl, jq_t ?_, congrArg (fun z : Nat => iI (z : Int)) ?_, congrArg (fun z : Nat => iI (z : Int)) (fd_F hN hV).symm, (fr_u (by simp [wAF]) (fr_u (by simp [wAF]) (fr_u (by simp [wAF]) (fr_u (by simp [wAF]) (fr_u (by simp [wAF]) (fr_u (by simp [wAF]) (fr_r _)))))))⟩
                                 · refine ⟨hN, hV, ?_⟩; rw [e2]; intro q; first | assumption | omega
                                 · rw [fd_A hN hV]; unfold fd3; rw [e2]; first | (rw [if_pos (by assumption)]; exact nd0 (by assumption)) | (rw [if_pos (by assumption)]; (try rfl)) | (rw [if_neg (by assumption), if_pos (by assumption)]; (try rfl)) | (rw [if_neg (by assumption), if_neg (by assumption)]; (try rfl)))
                          · skip
                            refine jv_call (pc' := 141) rfl (ml_number_n (a := a + 1 + nd c (a + 1) + 2) hT rfl (by omega) hk18) (fun vq21 gq21 q21 => ?_)
                            obtain ⟨rfl, rfl⟩ := q21
                            show jx L xs _ 119 141 _ [.int (iI (-1))] _ _
                            refine jv_if_lt (t := 148) (pc' := 144) (a := (-1)) rfl rfl rfl (by omega) (fun h22 => ?_) (fun h22 => ?_)
                            · skip
                              refine jv_iconst (pc' := 149) (n := 0) rfl rfl ?_
                              refine jv_retZ rfl rfl (by first | exact Or.inl rfl | exact Or.inr rfl) ⟨_, _, rfl, ?_⟩
                              first
                              | (exfalso; omega)
                              | (have e2 : fd2 c a = a + 1 + nd c (a + 1) + 1 := by first | exact fd2_y (by assumption) (by omega) (by omega) | exact fd2_n (by assumption) (by omega)
                                 have hV := fd_V (by assumption) (show 1 ≤ nv c (a + 1) ∧ nv c (a + 1) ≤ 32 by omega)
                                 refine ⟨_, rfl, jq_f ?_, congrArg (fun z : Nat => iI (z : Int)) ?_, congrArg (fun z : Nat => iI (z : Int)) (fd_F hN hV).symm, (fr_u (by simp [wAF]) (fr_u (by simp [wAF]) (fr_u (by simp [wAF]) (fr_u (by simp [wAF]) (fr_u (by simp [wAF]) (fr_r _))))))⟩
                                 · intro q; have q2 := q.2.2; rw [e2] at q2; exact absurd (q2 (by assumption)) (by assumption)
                                 · rw [fd_A hN hV]; unfold fd3; rw [e2]; first | (rw [if_pos (by assumption)]; exact nd0 (by assumption)) | (rw [if_pos (by assumption)]; (try rfl)) | (rw [if_neg (by assumption), if_pos (by assumption)]; (try rfl)) | (rw [if_neg (by assumption), if_neg (by assumption)]; (try rfl)))
                            · skip
                              exact absurd h22 (by decide)
                      · skip
                        refine jv_call (pc' := 134) rfl (ml_takes_n (a := a + 1 + nd c (a + 1) + 1) (x := 61) (by omega) hT rfl (by omega) hk15) (fun vq23 gq23 q23 => ?_)
                        obtain ⟨rfl, rfl⟩ := q23
                        show jx L xs _ 119 134 _ [.int (iI 0)] _ _
                        refine jv_if_eq (t := 150) (pc' := 137) (a := 0) rfl rfl rfl (by omega) (fun h24 => ?_) (fun h24 => ?_)
                        · skip
                          refine jv_aload_n (pc' := 151) (k := 0) (x := 103) rfl rfl rfl rfl ?_
                          refine jv_bipush (pc' := 153) (n := 33) rfl rfl rfl ?_
                          by_cases hk25 : c (a + 1 + nd c (a + 1) + 1) = 33
                          · skip
                            refine jv_call (pc' := 156) rfl (ml_takes_y (a := a + 1 + nd c (a + 1) + 1) (x := 33) (by omega) hT rfl (by omega) hk25) (fun vq26 gq26 q26 => ?_)
                            obtain ⟨rfl, rfl⟩ := q26
                            show jx L xs _ 119 156 _ [.int (iI 1)] _ _
                            refine jv_if_ne (t := 159) (pc' := 159) (a := 1) rfl rfl rfl (by omega) (fun h27 => ?_) (fun h27 => ?_)
                            · skip
                              refine jv_iconst (pc' := 160) (n := 1) rfl rfl ?_
                              refine jv_retZ rfl rfl (by first | exact Or.inl rfl | exact Or.inr rfl) ⟨_, _, rfl, ?_⟩
                              first
                              | (exfalso; omega)
                              | (have e2 : fd2 c a = a + 1 + nd c (a + 1) + 1 := by first | exact fd2_y (by assumption) (by omega) (by omega) | exact fd2_n (by assumption) (by omega)
                                 have hV := fd_V (by assumption) (show 1 ≤ nv c (a + 1) ∧ nv c (a + 1) ≤ 32 by omega)
                                 refine ⟨_, rfl, jq_t ?_, congrArg (fun z : Nat => iI (z : Int)) ?_, congrArg (fun z : Nat => iI (z : Int)) (fd_F hN hV).symm, (fr_u (by simp [wAF]) (fr_u (by simp [wAF]) (fr_u (by simp [wAF]) (fr_u (by simp [wAF]) (fr_u (by simp [wAF]) (fr_r _))))))⟩
                                 · refine ⟨hN, hV, ?_⟩; rw [e2]; intro q; first | assumption | omega
                                 · rw [fd_A hN hV]; unfold fd3; rw [e2]; first | (rw [if_pos (by assumption)]; exact nd0 (by assumption)) | (rw [if_pos (by assumption)]; (try rfl)) | (rw [if_neg (by assumption), if_pos (by assumption)]; (try rfl)) | (rw [if_neg (by assumption), if_neg (by assumption)]; (try rfl)))
                            · skip
                              exact absurd h27 (by decide)
                          · skip
                            refine jv_call (pc' := 156) rfl (ml_takes_n (a := a + 1 + nd c (a + 1) + 1) (x := 33) (by omega) hT rfl (by omega) hk25) (fun vq28 gq28 q28 => ?_)
                            obtain ⟨rfl, rfl⟩ := q28
                            show jx L xs _ 119 156 _ [.int (iI 0)] _ _
                            refine jv_if_ne (t := 159) (pc' := 159) (a := 0) rfl rfl rfl (by omega) (fun h29 => ?_) (fun h29 => ?_)
                            · skip
                              exact absurd h29 (by decide)
                            · skip
                              refine jv_iconst (pc' := 160) (n := 1) rfl rfl ?_
                              refine jv_retZ rfl rfl (by first | exact Or.inl rfl | exact Or.inr rfl) ⟨_, _, rfl, ?_⟩
                              first
                              | (exfalso; omega)
                              | (have e2 : fd2 c a = a + 1 + nd c (a + 1) + 1 := by first | exact fd2_y (by assumption) (by omega) (by omega) | exact fd2_n (by assumption) (by omega)
                                 have hV := fd_V (by assumption) (show 1 ≤ nv c (a + 1) ∧ nv c (a + 1) ≤ 32 by omega)
                                 refine ⟨_, rfl, jq_t ?_, congrArg (fun z : Nat => iI (z : Int)) ?_, congrArg (fun z : Nat => iI (z : Int)) (fd_F hN hV).symm, (fr_u (by simp [wAF]) (fr_u (by simp [wAF]) (fr_u (by simp [wAF]) (fr_u (by simp [wAF]) (fr_r _)))))⟩
                                 · refine ⟨hN, hV, ?_⟩; rw [e2]; intro q; first | assumption | omega
                                 · rw [fd_A hN hV]; unfold fd3; rw [e2]; first | (rw [if_pos (by assumption)]; exact nd0 (by assumption)) | (rw [if_pos (by assumption)]; (try rfl)) | (rw [if_neg (by assumption), if_pos (by assumption)]; (try rfl)) | (rw [if_neg (by assumption), if_neg (by assumption)]; (try rfl)))
                        · skip
                          exact absurd h24 (by decide)
                  · skip
                    refine jv_call (pc' := 118) rfl (ml_takes_n (a := a + 1 + nd c (a + 1)) (x := 60) (by omega) hT rfl (by omega) hk12) (fun vq30 gq30 q30 => ?_)
                    obtain ⟨rfl, rfl⟩ := q30
                    show jx L xs _ 119 118 _ [.int (iI 0)] _ _
                    refine jv_if_eq (t := 125) (pc' := 121) (a := 0) rfl rfl rfl (by omega) (fun h31 => ?_) (fun h31 => ?_)
                    · skip
                      refine jv_iconst (pc' := 126) (n := 0) rfl rfl ?_
                      refine jv_istore (pc' := 128) (k := 5) (x := (iI 0)) rfl rfl rfl (Or.inr rfl) ?_
                      refine jv_aload_n (pc' := 129) (k := 0) (x := 103) rfl rfl rfl rfl ?_
                      refine jv_bipush (pc' := 131) (n := 61) rfl rfl rfl ?_
                      by_cases hk32 : c (a + 1 + nd c (a + 1)) = 61
                      · skip
                        refine jv_call (pc' := 134) rfl (ml_takes_y (a := a + 1 + nd c (a + 1)) (x := 61) (by omega) hT rfl (by omega) hk32) (fun vq33 gq33 q33 => ?_)
                        obtain ⟨rfl, rfl⟩ := q33
                        show jx L xs _ 119 134 _ [.int (iI 1)] _ _
                        refine jv_if_eq (t := 150) (pc' := 137) (a := 1) rfl rfl rfl (by omega) (fun h34 => ?_) (fun h34 => ?_)
                        · skip
                          exact absurd h34 (by decide)
                        · skip
                          refine jv_aload_n (pc' := 138) (k := 0) (x := 103) rfl rfl rfl rfl ?_
                          have := nd_le c (a + 1 + nd c (a + 1) + 1)
                          have := nv_b c (a + 1 + nd c (a + 1) + 1)
                          by_cases hk35 : 0 < nd c (a + 1 + nd c (a + 1) + 1)
                          · skip
                            refine jv_call (pc' := 141) rfl (ml_number_y (a := a + 1 + nd c (a + 1) + 1) hT rfl (by omega) hk35) (fun vq36 gq36 q36 => ?_)
                            obtain ⟨rfl, rfl⟩ := q36
                            show jx L xs _ 119 141 _ [.int (iI (nv c (a + 1 + nd c (a + 1) + 1)))] _ _
                            refine jv_if_lt (t := 148) (pc' := 144) (a := (nv c (a + 1 + nd c (a + 1) + 1))) rfl rfl rfl (by omega) (fun h37 => ?_) (fun h37 => ?_)
                            · skip
                              refine jv_iconst (pc' := 149) (n := 0) rfl rfl ?_
                              refine jv_retZ rfl rfl (by first | exact Or.inl rfl | exact Or.inr rfl) ⟨_, _, rfl, ?_⟩
                              first
                              | (exfalso; omega)
                              | (have e2 : fd2 c a = a + 1 + nd c (a + 1) := by first | exact fd2_y (by assumption) (by omega) (by omega) | exact fd2_n (by assumption) (by omega)
                                 have hV := fd_V (by assumption) (show 1 ≤ nv c (a + 1) ∧ nv c (a + 1) ≤ 32 by omega)
                                 refine ⟨_, rfl, jq_f ?_, congrArg (fun z : Nat => iI (z : Int)) ?_, congrArg (fun z : Nat => iI (z : Int)) (fd_F hN hV).symm, (fr_u (by simp [wAF]) (fr_u (by simp [wAF]) (fr_u (by simp [wAF]) (fr_u (by simp [wAF]) (fr_u (by simp [wAF]) (fr_r _))))))⟩
                                 · intro q; have q2 := q.2.2; rw [e2] at q2; exact absurd (q2 (by assumption)) (by assumption)
                                 · rw [fd_A hN hV]; unfold fd3; rw [e2]; first | (rw [if_pos (by assumption)]; exact nd0 (by assumption)) | (rw [if_pos (by assumption)]; (try rfl)) | (rw [if_neg (by assumption), if_pos (by assumption)]; (try rfl)) | (rw [if_neg (by assumption), if_neg (by assumption)]; (try rfl)))
                            · skip
                              refine jv_iconst (pc' := 145) (n := 1) rfl rfl ?_
                              refine jx_step (pc' := 149) rfl ?_
                              refine jv_retZ rfl rfl (by first | exact Or.inl rfl | exact Or.inr rfl) ⟨_, _, rfl, ?_⟩
                              first
                              | (exfalso; omega)
                              | (have e2 : fd2 c a = a + 1 + nd c (a + 1) := by first | exact fd2_y (by assumption) (by omega) (by omega) | exact fd2_n (by assumption) (by omega)
                                 have hV := fd_V (by assumption) (show 1 ≤ nv c (a + 1) ∧ nv c (a + 1) ≤ 32 by omega)
                                 refine ⟨_, rfl, jq_t ?_, congrArg (fun z : Nat => iI (z : Int)) ?_, congrArg (fun z : Nat => iI (z : Int)) (fd_F hN hV).symm, (fr_u (by simp [wAF]) (fr_u (by simp [wAF]) (fr_u (by simp [wAF]) (fr_u (by simp [wAF]) (fr_u (by simp [wAF]) (fr_r _))))))⟩
                                 · refine ⟨hN, hV, ?_⟩; rw [e2]; intro q; first | assumption | omega
                                 · rw [fd_A hN hV]; unfold fd3; rw [e2]; first | (rw [if_pos (by assumption)]; exact nd0 (by assumption)) | (rw [if_pos (by assumption)]; (try rfl)) | (rw [if_neg (by assumption), if_pos (by assumption)]; (try rfl)) | (rw [if_neg (by assumption), if_neg (by assumption)]; (try rfl)))
                          · skip
                            refine jv_call (pc' := 141) rfl (ml_number_n (a := a + 1 + nd c (a + 1) + 1) hT rfl (by omega) hk35) (fun vq38 gq38 q38 => ?_)
                            obtain ⟨rfl, rfl⟩ := q38
                            show jx L xs _ 119 141 _ [.int (iI (-1))] _ _
                            refine jv_if_lt (t := 148) (pc' := 144) (a := (-1)) rfl rfl rfl (by omega) (fun h39 => ?_) (fun h39 => ?_)
                            · skip
                              refine jv_iconst (pc' := 149) (n := 0) rfl rfl ?_
                              refine jv_retZ rfl rfl (by first | exact Or.inl rfl | exact Or.inr rfl) ⟨_, _, rfl, ?_⟩
                              first
                              | (exfalso; omega)
                              | (have e2 : fd2 c a = a + 1 + nd c (a + 1) := by first | exact fd2_y (by assumption) (by omega) (by omega) | exact fd2_n (by assumption) (by omega)
                                 have hV := fd_V (by assumption) (show 1 ≤ nv c (a + 1) ∧ nv c (a + 1) ≤ 32 by omega)
                                 refine ⟨_, rfl, jq_f ?_, congrArg (fun z : Nat => iI (z : Int)) ?_, congrArg (fun z : Nat => iI (z : Int)) (fd_F hN hV).symm, (fr_u (by simp [wAF]) (fr_u (by simp [wAF]) (fr_u (by simp [wAF]) (fr_u (by simp [wAF]) (fr_r _)))))⟩
                                 · intro q; have q2 := q.2.2; rw [e2] at q2; exact absurd (q2 (by assumption)) (by assumption)
                                 · rw [fd_A hN hV]; unfold fd3; rw [e2]; first | (rw [if_pos (by assumption)]; exact nd0 (by assumption)) | (rw [if_pos (by assumption)]; (try rfl)) | (rw [if_neg (by assumption), if_pos (by assumption)]; (try rfl)) | (rw [if_neg (by assumption), if_neg (by assumption)]; (try rfl)))
                            · skip
                              exact absurd h39 (by decide)
                      · skip
                        refine jv_call (pc' := 134) rfl (ml_takes_n (a := a + 1 + nd c (a + 1)) (x := 61) (by omega) hT rfl (by omega) hk32) (fun vq40 gq40 q40 => ?_)
                        obtain ⟨rfl, rfl⟩ := q40
                        show jx L xs _ 119 134 _ [.int (iI 0)] _ _
                        refine jv_if_eq (t := 150) (pc' := 137) (a := 0) rfl rfl rfl (by omega) (fun h41 => ?_) (fun h41 => ?_)
                        · skip
                          refine jv_aload_n (pc' := 151) (k := 0) (x := 103) rfl rfl rfl rfl ?_
                          refine jv_bipush (pc' := 153) (n := 33) rfl rfl rfl ?_
                          by_cases hk42 : c (a + 1 + nd c (a + 1)) = 33
                          · skip
                            refine jv_call (pc' := 156) rfl (ml_takes_y (a := a + 1 + nd c (a + 1)) (x := 33) (by omega) hT rfl (by omega) hk42) (fun vq43 gq43 q43 => ?_)
                            obtain ⟨rfl, rfl⟩ := q43
                            show jx L xs _ 119 156 _ [.int (iI 1)] _ _
                            refine jv_if_ne (t := 159) (pc' := 159) (a := 1) rfl rfl rfl (by omega) (fun h44 => ?_) (fun h44 => ?_)
                            · skip
                              refine jv_iconst (pc' := 160) (n := 1) rfl rfl ?_
                              refine jv_retZ rfl rfl (by first | exact Or.inl rfl | exact Or.inr rfl) ⟨_, _, rfl, ?_⟩
                              first
                              | (exfalso; omega)
                              | (have e2 : fd2 c a = a + 1 + nd c (a + 1) := by first | exact fd2_y (by assumption) (by omega) (by omega) | exact fd2_n (by assumption) (by omega)
                                 have hV := fd_V (by assumption) (show 1 ≤ nv c (a + 1) ∧ nv c (a + 1) ≤ 32 by omega)
                                 refine ⟨_, rfl, jq_t ?_, congrArg (fun z : Nat => iI (z : Int)) ?_, congrArg (fun z : Nat => iI (z : Int)) (fd_F hN hV).symm, (fr_u (by simp [wAF]) (fr_u (by simp [wAF]) (fr_u (by simp [wAF]) (fr_u (by simp [wAF]) (fr_r _)))))⟩
                                 · refine ⟨hN, hV, ?_⟩; rw [e2]; intro q; first | assumption | omega
                                 · rw [fd_A hN hV]; unfold fd3; rw [e2]; first | (rw [if_pos (by assumption)]; exact nd0 (by assumption)) | (rw [if_pos (by assumption)]; (try rfl)) | (rw [if_neg (by assumption), if_pos (by assumption)]; (try rfl)) | (rw [if_neg (by assumption), if_neg (by assumption)]; (try rfl)))
                            · skip
                              exact absurd h44 (by decide)
                          · skip
                            refine jv_call (pc' := 156) rfl (ml_takes_n (a := a + 1 + nd c (a + 1)) (x := 33) (by omega) hT rfl (by omega) hk42) (fun vq45 gq45 q45 => ?_)
                            obtain ⟨rfl, rfl⟩ := q45
                            show jx L xs _ 119 156 _ [.int (iI 0)] _ _
                            refine jv_if_ne (t := 159) (pc' := 159) (a := 0) rfl rfl rfl (by omega) (fun h46 => ?_) (fun h46 => ?_)
                            · skip
                              exact absurd h46 (by decide)
                            · skip
                              refine jv_iconst (pc' := 160) (n := 1) rfl rfl ?_
                              refine jv_retZ rfl rfl (by first | exact Or.inl rfl | exact Or.inr rfl) ⟨_, _, rfl, ?_⟩
                              first
                              | (exfalso; omega)
                              | (have e2 : fd2 c a = a + 1 + nd c (a + 1) := by first | exact fd2_y (by assumption) (by omega) (by omega) | exact fd2_n (by assumption) (by omega)
                                 have hV := fd_V (by assumption) (show 1 ≤ nv c (a + 1) ∧ nv c (a + 1) ≤ 32 by omega)
                                 refine ⟨_, rfl, jq_t ?_, congrArg (fun z : Nat => iI (z : Int)) ?_, congrArg (fun z : Nat => iI (z : Int)) (fd_F hN hV).symm, (fr_u (by simp [wAF]) (fr_u (by simp [wAF]) (fr_u (by simp [wAF]) (fr_r _))))⟩
                                 · refine ⟨hN, hV, ?_⟩; rw [e2]; intro q; first | assumption | omega
                                 · rw [fd_A hN hV]; unfold fd3; rw [e2]; first | (rw [if_pos (by assumption)]; exact nd0 (by assumption)) | (rw [if_pos (by assumption)]; (try rfl)) | (rw [if_neg (by assumption), if_pos (by assumption)]; (try rfl)) | (rw [if_neg (by assumption), if_neg (by assumption)]; (try rfl)))
                        · skip
                          exact absurd h41 (by decide)
                    · skip
                      exact absurd h31 (by decide)
              · skip
                refine jv_iload_n (pc' := 89) (k := 3) (x := (iI (nv c (a + 1)))) rfl rfl rfl rfl ?_
                refine jv_bipush (pc' := 91) (n := 24) rfl rfl rfl ?_
                refine jv_ic_eq (t := 100) (pc' := 94) (a := (nv c (a + 1))) (b := 24) rfl rfl rfl (by omega) (fun h47 => ?_) (fun h47 => ?_)
                · skip
                  refine jv_iconst (pc' := 101) (n := 1) rfl rfl ?_
                  refine jx_step (pc' := 105) rfl ?_
                  refine jv_istore (pc' := 107) (k := 4) (x := (iI 1)) rfl rfl rfl (Or.inr rfl) ?_
                  refine jv_iload (pc' := 109) (k := 4) (x := (iI 1)) rfl rfl rfl ?_
                  refine jv_if_eq (t := 125) (pc' := 112) (a := 1) rfl rfl rfl (by omega) (fun h48 => ?_) (fun h48 => ?_)
                  · skip
                    exact absurd h48 (by decide)
                  · skip
                    refine jv_aload_n (pc' := 113) (k := 0) (x := 103) rfl rfl rfl rfl ?_
                    refine jv_bipush (pc' := 115) (n := 60) rfl rfl rfl ?_
                    by_cases hk49 : c (a + 1 + nd c (a + 1)) = 60
                    · skip
                      refine jv_call (pc' := 118) rfl (ml_takes_y (a := a + 1 + nd c (a + 1)) (x := 60) (by omega) hT rfl (by omega) hk49) (fun vq50 gq50 q50 => ?_)
                      obtain ⟨rfl, rfl⟩ := q50
                      show jx L xs _ 119 118 _ [.int (iI 1)] _ _
                      refine jv_if_eq (t := 125) (pc' := 121) (a := 1) rfl rfl rfl (by omega) (fun h51 => ?_) (fun h51 => ?_)
                      · skip
                        exact absurd h51 (by decide)
                      · skip
                        refine jv_iconst (pc' := 122) (n := 1) rfl rfl ?_
                        refine jx_step (pc' := 126) rfl ?_
                        refine jv_istore (pc' := 128) (k := 5) (x := (iI 1)) rfl rfl rfl (Or.inr rfl) ?_
                        refine jv_aload_n (pc' := 129) (k := 0) (x := 103) rfl rfl rfl rfl ?_
                        refine jv_bipush (pc' := 131) (n := 61) rfl rfl rfl ?_
                        by_cases hk52 : c (a + 1 + nd c (a + 1) + 1) = 61
                        · skip
                          refine jv_call (pc' := 134) rfl (ml_takes_y (a := a + 1 + nd c (a + 1) + 1) (x := 61) (by omega) hT rfl (by omega) hk52) (fun vq53 gq53 q53 => ?_)
                          obtain ⟨rfl, rfl⟩ := q53
                          show jx L xs _ 119 134 _ [.int (iI 1)] _ _
                          refine jv_if_eq (t := 150) (pc' := 137) (a := 1) rfl rfl rfl (by omega) (fun h54 => ?_) (fun h54 => ?_)
                          · skip
                            exact absurd h54 (by decide)
                          · skip
                            refine jv_aload_n (pc' := 138) (k := 0) (x := 103) rfl rfl rfl rfl ?_
                            have := nd_le c (a + 1 + nd c (a + 1) + 2)
                            have := nv_b c (a + 1 + nd c (a + 1) + 2)
                            by_cases hk55 : 0 < nd c (a + 1 + nd c (a + 1) + 2)
                            · skip
                              refine jv_call (pc' := 141) rfl (ml_number_y (a := a + 1 + nd c (a + 1) + 2) hT rfl (by omega) hk55) (fun vq56 gq56 q56 => ?_)
                              obtain ⟨rfl, rfl⟩ := q56
                              show jx L xs _ 119 141 _ [.int (iI (nv c (a + 1 + nd c (a + 1) + 2)))] _ _
                              refine jv_if_lt (t := 148) (pc' := 144) (a := (nv c (a + 1 + nd c (a + 1) + 2))) rfl rfl rfl (by omega) (fun h57 => ?_) (fun h57 => ?_)
                              · skip
                                refine jv_iconst (pc' := 149) (n := 0) rfl rfl ?_
                                refine jv_retZ rfl rfl (by first | exact Or.inl rfl | exact Or.inr rfl) ⟨_, _, rfl, ?_⟩
                                first
                                | (exfalso; omega)
                                | (have e2 : fd2 c a = a + 1 + nd c (a + 1) + 1 := by first | exact fd2_y (by assumption) (by omega) (by omega) | exact fd2_n (by assumption) (by omega)
                                   have hV := fd_V (by assumption) (show 1 ≤ nv c (a + 1) ∧ nv c (a + 1) ≤ 32 by omega)
                                   refine ⟨_, rfl, jq_f ?_, congrArg (fun z : Nat => iI (z : Int)) ?_, congrArg (fun z : Nat => iI (z : Int)) (fd_F hN hV).symm, (fr_u (by simp [wAF]) (fr_u (by simp [wAF]) (fr_u (by simp [wAF]) (fr_u (by simp [wAF]) (fr_u (by simp [wAF]) (fr_u (by simp [wAF]) (fr_r _)))))))⟩
                                   · intro q; have q2 := q.2.2; rw [e2] at q2; exact absurd (q2 (by assumption)) (by assumption)
                                   · rw [fd_A hN hV]; unfold fd3; rw [e2]; first | (rw [if_pos (by assumption)]; exact nd0 (by assumption)) | (rw [if_pos (by assumption)]; (try rfl)) | (rw [if_neg (by assumption), if_pos (by assumption)]; (try rfl)) | (rw [if_neg (by assumption), if_neg (by assumption)]; (try rfl)))
                              · skip
                                refine jv_iconst (pc' := 145) (n := 1) rfl rfl ?_
                                refine jx_step (pc' := 149) rfl ?_
                                refine jv_retZ rfl rfl (by first | exact Or.inl rfl | exact Or.inr rfl) ⟨_, _, rfl, ?_⟩
                                first
                                | (exfalso; omega)
                                | (have e2 : fd2 c a = a + 1 + nd c (a + 1) + 1 := by first | exact fd2_y (by assumption) (by omega) (by omega) | exact fd2_n (by assumption) (by omega)
                                   have hV := fd_V (by assumption) (show 1 ≤ nv c (a + 1) ∧ nv c (a + 1) ≤ 32 by omega)
                                   refine ⟨_, rfl, jq_t ?_, congrArg (fun z : Nat => iI (z : Int)) ?_, congrArg (fun z : Nat => iI (z : Int)) (fd_F hN hV).symm, (fr_u (by simp [wAF]) (fr_u (by simp [wAF]) (fr_u (by simp [wAF]) (fr_u (by simp [wAF]) (fr_u (by simp [wAF]) (fr_u (by simp [wAF]) (fr_r _)))))))⟩
                                   · refine ⟨hN, hV, ?_⟩; rw [e2]; intro q; first | assumption | omega
                                   · rw [fd_A hN hV]; unfold fd3; rw [e2]; first | (rw [if_pos (by assumption)]; exact nd0 (by assumption)) | (rw [if_pos (by assumption)]; (try rfl)) | (rw [if_neg (by assumption), if_pos (by assumption)]; (try rfl)) | (rw [if_neg (by assumption), if_neg (by assumption)]; (try rfl)))
                            · skip
                              refine jv_call (pc' := 141) rfl (ml_number_n (a := a + 1 + nd c (a + 1) + 2) hT rfl (by omega) hk55) (fun vq58 gq58 q58 => ?_)
                              obtain ⟨rfl, rfl⟩ := q58
                              show jx L xs _ 119 141 _ [.int (iI (-1))] _ _
                              refine jv_if_lt (t := 148) (pc' := 144) (a := (-1)) rfl rfl rfl (by omega) (fun h59 => ?_) (fun h59 => ?_)
                              · skip
                                refine jv_iconst (pc' := 149) (n := 0) rfl rfl ?_
                                refine jv_retZ rfl rfl (by first | exact Or.inl rfl | exact Or.inr rfl) ⟨_, _, rfl, ?_⟩
                                first
                                | (exfalso; omega)
                                | (have e2 : fd2 c a = a + 1 + nd c (a + 1) + 1 := by first | exact fd2_y (by assumption) (by omega) (by omega) | exact fd2_n (by assumption) (by omega)
                                   have hV := fd_V (by assumption) (show 1 ≤ nv c (a + 1) ∧ nv c (a + 1) ≤ 32 by omega)
                                   refine ⟨_, rfl, jq_f ?_, congrArg (fun z : Nat => iI (z : Int)) ?_, congrArg (fun z : Nat => iI (z : Int)) (fd_F hN hV).symm, (fr_u (by simp [wAF]) (fr_u (by simp [wAF]) (fr_u (by simp [wAF]) (fr_u (by simp [wAF]) (fr_u (by simp [wAF]) (fr_r _))))))⟩
                                   · intro q; have q2 := q.2.2; rw [e2] at q2; exact absurd (q2 (by assumption)) (by assumption)
                                   · rw [fd_A hN hV]; unfold fd3; rw [e2]; first | (rw [if_pos (by assumption)]; exact nd0 (by assumption)) | (rw [if_pos (by assumption)]; (try rfl)) | (rw [if_neg (by assumption), if_pos (by assumption)]; (try rfl)) | (rw [if_neg (by assumption), if_neg (by assumption)]; (try rfl)))
                              · skip
                                exact absurd h59 (by decide)
                        · skip
                          refine jv_call (pc' := 134) rfl (ml_takes_n (a := a + 1 + nd c (a + 1) + 1) (x := 61) (by omega) hT rfl (by omega) hk52) (fun vq60 gq60 q60 => ?_)
                          obtain ⟨rfl, rfl⟩ := q60
                          show jx L xs _ 119 134 _ [.int (iI 0)] _ _
                          refine jv_if_eq (t := 150) (pc' := 137) (a := 0) rfl rfl rfl (by omega) (fun h61 => ?_) (fun h61 => ?_)
                          · skip
                            refine jv_aload_n (pc' := 151) (k := 0) (x := 103) rfl rfl rfl rfl ?_
                            refine jv_bipush (pc' := 153) (n := 33) rfl rfl rfl ?_
                            by_cases hk62 : c (a + 1 + nd c (a + 1) + 1) = 33
                            · skip
                              refine jv_call (pc' := 156) rfl (ml_takes_y (a := a + 1 + nd c (a + 1) + 1) (x := 33) (by omega) hT rfl (by omega) hk62) (fun vq63 gq63 q63 => ?_)
                              obtain ⟨rfl, rfl⟩ := q63
                              show jx L xs _ 119 156 _ [.int (iI 1)] _ _
                              refine jv_if_ne (t := 159) (pc' := 159) (a := 1) rfl rfl rfl (by omega) (fun h64 => ?_) (fun h64 => ?_)
                              · skip
                                refine jv_iconst (pc' := 160) (n := 1) rfl rfl ?_
                                refine jv_retZ rfl rfl (by first | exact Or.inl rfl | exact Or.inr rfl) ⟨_, _, rfl, ?_⟩
                                first
                                | (exfalso; omega)
                                | (have e2 : fd2 c a = a + 1 + nd c (a + 1) + 1 := by first | exact fd2_y (by assumption) (by omega) (by omega) | exact fd2_n (by assumption) (by omega)
                                   have hV := fd_V (by assumption) (show 1 ≤ nv c (a + 1) ∧ nv c (a + 1) ≤ 32 by omega)
                                   refine ⟨_, rfl, jq_t ?_, congrArg (fun z : Nat => iI (z : Int)) ?_, congrArg (fun z : Nat => iI (z : Int)) (fd_F hN hV).symm, (fr_u (by simp [wAF]) (fr_u (by simp [wAF]) (fr_u (by simp [wAF]) (fr_u (by simp [wAF]) (fr_u (by simp [wAF]) (fr_r _))))))⟩
                                   · refine ⟨hN, hV, ?_⟩; rw [e2]; intro q; first | assumption | omega
                                   · rw [fd_A hN hV]; unfold fd3; rw [e2]; first | (rw [if_pos (by assumption)]; exact nd0 (by assumption)) | (rw [if_pos (by assumption)]; (try rfl)) | (rw [if_neg (by assumption), if_pos (by assumption)]; (try rfl)) | (rw [if_neg (by assumption), if_neg (by assumption)]; (try rfl)))
                              · skip
                                exact absurd h64 (by decide)
                            · skip
                              refine jv_call (pc' := 156) rfl (ml_takes_n (a := a + 1 + nd c (a + 1) + 1) (x := 33) (by omega) hT rfl (by omega) hk62) (fun vq65 gq65 q65 => ?_)
                              obtain ⟨rfl, rfl⟩ := q65
                              show jx L xs _ 119 156 _ [.int (iI 0)] _ _
                              refine jv_if_ne (t := 159) (pc' := 159) (a := 0) rfl rfl rfl (by omega) (fun h66 => ?_) (fun h66 => ?_)
                              · skip
                                exact absurd h66 (by decide)
                              · skip
                                refine jv_iconst (pc' := 160) (n := 1) rfl rfl ?_
                                refine jv_retZ rfl rfl (by first | exact Or.inl rfl | exact Or.inr rfl) ⟨_, _, rfl, ?_⟩
                                first
                                | (exfalso; omega)
                                | (have e2 : fd2 c a = a + 1 + nd c (a + 1) + 1 := by first | exact fd2_y (by assumption) (by omega) (by omega) | exact fd2_n (by assumption) (by omega)
                                   have hV := fd_V (by assumption) (show 1 ≤ nv c (a + 1) ∧ nv c (a + 1) ≤ 32 by omega)
                                   refine ⟨_, rfl, jq_t ?_, congrArg (fun z : Nat => iI (z : Int)) ?_, congrArg (fun z : Nat => iI (z : Int)) (fd_F hN hV).symm, (fr_u (by simp [wAF]) (fr_u (by simp [wAF]) (fr_u (by simp [wAF]) (fr_u (by simp [wAF]) (fr_r _)))))⟩
                                   · refine ⟨hN, hV, ?_⟩; rw [e2]; intro q; first | assumption | omega
                                   · rw [fd_A hN hV]; unfold fd3; rw [e2]; first | (rw [if_pos (by assumption)]; exact nd0 (by assumption)) | (rw [if_pos (by assumption)]; (try rfl)) | (rw [if_neg (by assumption), if_pos (by assumption)]; (try rfl)) | (rw [if_neg (by assumption), if_neg (by assumption)]; (try rfl)))
                          · skip
                            exact absurd h61 (by decide)
                    · skip
                      refine jv_call (pc' := 118) rfl (ml_takes_n (a := a + 1 + nd c (a + 1)) (x := 60) (by omega) hT rfl (by omega) hk49) (fun vq67 gq67 q67 => ?_)
                      obtain ⟨rfl, rfl⟩ := q67
                      show jx L xs _ 119 118 _ [.int (iI 0)] _ _
                      refine jv_if_eq (t := 125) (pc' := 121) (a := 0) rfl rfl rfl (by omega) (fun h68 => ?_) (fun h68 => ?_)
                      · skip
                        refine jv_iconst (pc' := 126) (n := 0) rfl rfl ?_
                        refine jv_istore (pc' := 128) (k := 5) (x := (iI 0)) rfl rfl rfl (Or.inr rfl) ?_
                        refine jv_aload_n (pc' := 129) (k := 0) (x := 103) rfl rfl rfl rfl ?_
                        refine jv_bipush (pc' := 131) (n := 61) rfl rfl rfl ?_
                        by_cases hk69 : c (a + 1 + nd c (a + 1)) = 61
                        · skip
                          refine jv_call (pc' := 134) rfl (ml_takes_y (a := a + 1 + nd c (a + 1)) (x := 61) (by omega) hT rfl (by omega) hk69) (fun vq70 gq70 q70 => ?_)
                          obtain ⟨rfl, rfl⟩ := q70
                          show jx L xs _ 119 134 _ [.int (iI 1)] _ _
                          refine jv_if_eq (t := 150) (pc' := 137) (a := 1) rfl rfl rfl (by omega) (fun h71 => ?_) (fun h71 => ?_)
                          · skip
                            exact absurd h71 (by decide)
                          · skip
                            refine jv_aload_n (pc' := 138) (k := 0) (x := 103) rfl rfl rfl rfl ?_
                            have := nd_le c (a + 1 + nd c (a + 1) + 1)
                            have := nv_b c (a + 1 + nd c (a + 1) + 1)
                            by_cases hk72 : 0 < nd c (a + 1 + nd c (a + 1) + 1)
                            · skip
                              refine jv_call (pc' := 141) rfl (ml_number_y (a := a + 1 + nd c (a + 1) + 1) hT rfl (by omega) hk72) (fun vq73 gq73 q73 => ?_)
                              obtain ⟨rfl, rfl⟩ := q73
                              show jx L xs _ 119 141 _ [.int (iI (nv c (a + 1 + nd c (a + 1) + 1)))] _ _
                              refine jv_if_lt (t := 148) (pc' := 144) (a := (nv c (a + 1 + nd c (a + 1) + 1))) rfl rfl rfl (by omega) (fun h74 => ?_) (fun h74 => ?_)
                              · skip
                                refine jv_iconst (pc' := 149) (n := 0) rfl rfl ?_
                                refine jv_retZ rfl rfl (by first | exact Or.inl rfl | exact Or.inr rfl) ⟨_, _, rfl, ?_⟩
                                first
                                | (exfalso; omega)
                                | (have e2 : fd2 c a = a + 1 + nd c (a + 1) := by first | exact fd2_y (by assumption) (by omega) (by omega) | exact fd2_n (by assumption) (by omega)
                                   have hV := fd_V (by assumption) (show 1 ≤ nv c (a + 1) ∧ nv c (a + 1) ≤ 32 by omega)
                                   refine ⟨_, rfl, jq_f ?_, congrArg (fun z : Nat => iI (z : Int)) ?_, congrArg (fun z : Nat => iI (z : Int)) (fd_F hN hV).symm, (fr_u (by simp [wAF]) (fr_u (by simp [wAF]) (fr_u (by simp [wAF]) (fr_u (by simp [wAF]) (fr_u (by simp [wAF]) (fr_r _))))))⟩
                                   · intro q; have q2 := q.2.2; rw [e2] at q2; exact absurd (q2 (by assumption)) (by assumption)
                                   · rw [fd_A hN hV]; unfold fd3; rw [e2]; first | (rw [if_pos (by assumption)]; exact nd0 (by assumption)) | (rw [if_pos (by assumption)]; (try rfl)) | (rw [if_neg (by assumption), if_pos (by assumption)]; (try rfl)) | (rw [if_neg (by assumption), if_neg (by assumption)]; (try rfl)))
                              · skip
                                refine jv_iconst (pc' := 145) (n := 1) rfl rfl ?_
                                refine jx_step (pc' := 149) rfl ?_
                                refine jv_retZ rfl rfl (by first | exact Or.inl rfl | exact Or.inr rfl) ⟨_, _, rfl, ?_⟩
                                first
                                | (exfalso; omega)
                                | (have e2 : fd2 c a = a + 1 + nd c (a + 1) := by first | exact fd2_y (by assumption) (by omega) (by omega) | exact fd2_n (by assumption) (by omega)
                                   have hV := fd_V (by assumption) (show 1 ≤ nv c (a + 1) ∧ nv c (a + 1) ≤ 32 by omega)
                                   refine ⟨_, rfl, jq_t ?_, congrArg (fun z : Nat => iI (z : Int)) ?_, congrArg (fun z : Nat => iI (z : Int)) (fd_F hN hV).symm, (fr_u (by simp [wAF]) (fr_u (by simp [wAF]) (fr_u (by simp [wAF]) (fr_u (by simp [wAF]) (fr_u (by simp [wAF]) (fr_r _))))))⟩
                                   · refine ⟨hN, hV, ?_⟩; rw [e2]; intro q; first | assumption | omega
                                   · rw [fd_A hN hV]; unfold fd3; rw [e2]; first | (rw [if_pos (by assumption)]; exact nd0 (by assumption)) | (rw [if_pos (by assumption)]; (try rfl)) | (rw [if_neg (by assumption), if_pos (by assumption)]; (try rfl)) | (rw [if_neg (by assumption), if_neg (by assumption)]; (try rfl)))
                            · skip
                              refine jv_call (pc' := 141) rfl (ml_number_n (a := a + 1 + nd c (a + 1) + 1) hT rfl (by omega) hk72) (fun vq75 gq75 q75 => ?_)
                              obtain ⟨rfl, rfl⟩ := q75
                              show jx L xs _ 119 141 _ [.int (iI (-1))] _ _
                              refine jv_if_lt (t := 148) (pc' := 144) (a := (-1)) rfl rfl rfl (by omega) (fun h76 => ?_) (fun h76 => ?_)
                              · skip
                                refine jv_iconst (pc' := 149) (n := 0) rfl rfl ?_
                                refine jv_retZ rfl rfl (by first | exact Or.inl rfl | exact Or.inr rfl) ⟨_, _, rfl, ?_⟩
                                first
                                | (exfalso; omega)
                                | (have e2 : fd2 c a = a + 1 + nd c (a + 1) := by first | exact fd2_y (by assumption) (by omega) (by omega) | exact fd2_n (by assumption) (by omega)
                                   have hV := fd_V (by assumption) (show 1 ≤ nv c (a + 1) ∧ nv c (a + 1) ≤ 32 by omega)
                                   refine ⟨_, rfl, jq_f ?_, congrArg (fun z : Nat => iI (z : Int)) ?_, congrArg (fun z : Nat => iI (z : Int)) (fd_F hN hV).symm, (fr_u (by simp [wAF]) (fr_u (by simp [wAF]) (fr_u (by simp [wAF]) (fr_u (by simp [wAF]) (fr_r _)))))⟩
                                   · intro q; have q2 := q.2.2; rw [e2] at q2; exact absurd (q2 (by assumption)) (by assumption)
                                   · rw [fd_A hN hV]; unfold fd3; rw [e2]; first | (rw [if_pos (by assumption)]; exact nd0 (by assumption)) | (rw [if_pos (by assumption)]; (try rfl)) | (rw [if_neg (by assumption), if_pos (by assumption)]; (try rfl)) | (rw [if_neg (by assumption), if_neg (by assumption)]; (try rfl)))
                              · skip
                                exact absurd h76 (by decide)
                        · skip
                          refine jv_call (pc' := 134) rfl (ml_takes_n (a := a + 1 + nd c (a + 1)) (x := 61) (by omega) hT rfl (by omega) hk69) (fun vq77 gq77 q77 => ?_)
                          obtain ⟨rfl, rfl⟩ := q77
                          show jx L xs _ 119 134 _ [.int (iI 0)] _ _
                          refine jv_if_eq (t := 150) (pc' := 137) (a := 0) rfl rfl rfl (by omega) (fun h78 => ?_) (fun h78 => ?_)
                          · skip
                            refine jv_aload_n (pc' := 151) (k := 0) (x := 103) rfl rfl rfl rfl ?_
                            refine jv_bipush (pc' := 153) (n := 33) rfl rfl rfl ?_
                            by_cases hk79 : c (a + 1 + nd c (a + 1)) = 33
                            · skip
                              refine jv_call (pc' := 156) rfl (ml_takes_y (a := a + 1 + nd c (a + 1)) (x := 33) (by omega) hT rfl (by omega) hk79) (fun vq80 gq80 q80 => ?_)
                              obtain ⟨rfl, rfl⟩ := q80
                              show jx L xs _ 119 156 _ [.int (iI 1)] _ _
                              refine jv_if_ne (t := 159) (pc' := 159) (a := 1) rfl rfl rfl (by omega) (fun h81 => ?_) (fun h81 => ?_)
                              · skip
                                refine jv_iconst (pc' := 160) (n := 1) rfl rfl ?_
                                refine jv_retZ rfl rfl (by first | exact Or.inl rfl | exact Or.inr rfl) ⟨_, _, rfl, ?_⟩
                                first
                                | (exfalso; omega)
                                | (have e2 : fd2 c a = a + 1 + nd c (a + 1) := by first | exact fd2_y (by assumption) (by omega) (by omega) | exact fd2_n (by assumption) (by omega)
                                   have hV := fd_V (by assumption) (show 1 ≤ nv c (a + 1) ∧ nv c (a + 1) ≤ 32 by omega)
                                   refine ⟨_, rfl, jq_t ?_, congrArg (fun z : Nat => iI (z : Int)) ?_, congrArg (fun z : Nat => iI (z : Int)) (fd_F hN hV).symm, (fr_u (by simp [wAF]) (fr_u (by simp [wAF]) (fr_u (by simp [wAF]) (fr_u (by simp [wAF]) (fr_r _)))))⟩
                                   · refine ⟨hN, hV, ?_⟩; rw [e2]; intro q; first | assumption | omega
                                   · rw [fd_A hN hV]; unfold fd3; rw [e2]; first | (rw [if_pos (by assumption)]; exact nd0 (by assumption)) | (rw [if_pos (by assumption)]; (try rfl)) | (rw [if_neg (by assumption), if_pos (by assumption)]; (try rfl)) | (rw [if_neg (by assumption), if_neg (by assumption)]; (try rfl)))
                              · skip
                                exact absurd h81 (by decide)
                            · skip
                              refine jv_call (pc' := 156) rfl (ml_takes_n (a := a + 1 + nd c (a + 1)) (x := 33) (by omega) hT rfl (by omega) hk79) (fun vq82 gq82 q82 => ?_)
                              obtain ⟨rfl, rfl⟩ := q82
                              show jx L xs _ 119 156 _ [.int (iI 0)] _ _
                              refine jv_if_ne (t := 159) (pc' := 159) (a := 0) rfl rfl rfl (by omega) (fun h83 => ?_) (fun h83 => ?_)
                              · skip
                                exact absurd h83 (by decide)
                              · skip
                                refine jv_iconst (pc' := 160) (n := 1) rfl rfl ?_
                                refine jv_retZ rfl rfl (by first | exact Or.inl rfl | exact Or.inr rfl) ⟨_, _, rfl, ?_⟩
                                first
                                | (exfalso; omega)
                                | (have e2 : fd2 c a = a + 1 + nd c (a + 1) := by first | exact fd2_y (by assumption) (by omega) (by omega) | exact fd2_n (by assumption) (by omega)
                                   have hV := fd_V (by assumption) (show 1 ≤ nv c (a + 1) ∧ nv c (a + 1) ≤ 32 by omega)
                                   refine ⟨_, rfl, jq_t ?_, congrArg (fun z : Nat => iI (z : Int)) ?_, congrArg (fun z : Nat => iI (z : Int)) (fd_F hN hV).symm, (fr_u (by simp [wAF]) (fr_u (by simp [wAF]) (fr_u (by simp [wAF]) (fr_r _))))⟩
                                   · refine ⟨hN, hV, ?_⟩; rw [e2]; intro q; first | assumption | omega
                                   · rw [fd_A hN hV]; unfold fd3; rw [e2]; first | (rw [if_pos (by assumption)]; exact nd0 (by assumption)) | (rw [if_pos (by assumption)]; (try rfl)) | (rw [if_neg (by assumption), if_pos (by assumption)]; (try rfl)) | (rw [if_neg (by assumption), if_neg (by assumption)]; (try rfl)))
                          · skip
                            exact absurd h78 (by decide)
                      · skip
                        exact absurd h68 (by decide)
                · skip
                  refine jv_iload_n (pc' := 95) (k := 3) (x := (iI (nv c (a + 1)))) rfl rfl rfl rfl ?_
                  refine jv_bipush (pc' := 97) (n := 32) rfl rfl rfl ?_
                  refine jv_ic_ne (t := 104) (pc' := 100) (a := (nv c (a + 1))) (b := 32) rfl rfl rfl (by omega) (fun h84 => ?_) (fun h84 => ?_)
                  · skip
                    refine jv_iconst (pc' := 105) (n := 0) rfl rfl ?_
                    refine jv_istore (pc' := 107) (k := 4) (x := (iI 0)) rfl rfl rfl (Or.inr rfl) ?_
                    refine jv_iload (pc' := 109) (k := 4) (x := (iI 0)) rfl rfl rfl ?_
                    refine jv_if_eq (t := 125) (pc' := 112) (a := 0) rfl rfl rfl (by omega) (fun h85 => ?_) (fun h85 => ?_)
                    · skip
                      refine jv_iconst (pc' := 126) (n := 0) rfl rfl ?_
                      refine jv_istore (pc' := 128) (k := 5) (x := (iI 0)) rfl rfl rfl (Or.inr rfl) ?_
                      refine jv_aload_n (pc' := 129) (k := 0) (x := 103) rfl rfl rfl rfl ?_
                      refine jv_bipush (pc' := 131) (n := 61) rfl rfl rfl ?_
                      by_cases hk86 : c (a + 1 + nd c (a + 1)) = 61
                      · skip
                        refine jv_call (pc' := 134) rfl (ml_takes_y (a := a + 1 + nd c (a + 1)) (x := 61) (by omega) hT rfl (by omega) hk86) (fun vq87 gq87 q87 => ?_)
                        obtain ⟨rfl, rfl⟩ := q87
                        show jx L xs _ 119 134 _ [.int (iI 1)] _ _
                        refine jv_if_eq (t := 150) (pc' := 137) (a := 1) rfl rfl rfl (by omega) (fun h88 => ?_) (fun h88 => ?_)
                        · skip
                          exact absurd h88 (by decide)
                        · skip
                          refine jv_aload_n (pc' := 138) (k := 0) (x := 103) rfl rfl rfl rfl ?_
                          have := nd_le c (a + 1 + nd c (a + 1) + 1)
                          have := nv_b c (a + 1 + nd c (a + 1) + 1)
                          by_cases hk89 : 0 < nd c (a + 1 + nd c (a + 1) + 1)
                          · skip
                            refine jv_call (pc' := 141) rfl (ml_number_y (a := a + 1 + nd c (a + 1) + 1) hT rfl (by omega) hk89) (fun vq90 gq90 q90 => ?_)
                            obtain ⟨rfl, rfl⟩ := q90
                            show jx L xs _ 119 141 _ [.int (iI (nv c (a + 1 + nd c (a + 1) + 1)))] _ _
                            refine jv_if_lt (t := 148) (pc' := 144) (a := (nv c (a + 1 + nd c (a + 1) + 1))) rfl rfl rfl (by omega) (fun h91 => ?_) (fun h91 => ?_)
                            · skip
                              refine jv_iconst (pc' := 149) (n := 0) rfl rfl ?_
                              refine jv_retZ rfl rfl (by first | exact Or.inl rfl | exact Or.inr rfl) ⟨_, _, rfl, ?_⟩
                              first
                              | (exfalso; omega)
                              | (have e2 : fd2 c a = a + 1 + nd c (a + 1) := by first | exact fd2_y (by assumption) (by omega) (by omega) | exact fd2_n (by assumption) (by omega)
                                 have hV := fd_V (by assumption) (show 1 ≤ nv c (a + 1) ∧ nv c (a + 1) ≤ 32 by omega)
                                 refine ⟨_, rfl, jq_f ?_, congrArg (fun z : Nat => iI (z : Int)) ?_, congrArg (fun z : Nat => iI (z : Int)) (fd_F hN hV).symm, (fr_u (by simp [wAF]) (fr_u (by simp [wAF]) (fr_u (by simp [wAF]) (fr_u (by simp [wAF]) (fr_u (by simp [wAF]) (fr_r _))))))⟩
                                 · intro q; have q2 := q.2.2; rw [e2] at q2; exact absurd (q2 (by assumption)) (by assumption)
                                 · rw [fd_A hN hV]; unfold fd3; rw [e2]; first | (rw [if_pos (by assumption)]; exact nd0 (by assumption)) | (rw [if_pos (by assumption)]; (try rfl)) | (rw [if_neg (by assumption), if_pos (by assumption)]; (try rfl)) | (rw [if_neg (by assumption), if_neg (by assumption)]; (try rfl)))
                            · skip
                              refine jv_iconst (pc' := 145) (n := 1) rfl rfl ?_
                              refine jx_step (pc' := 149) rfl ?_
                              refine jv_retZ rfl rfl (by first | exact Or.inl rfl | exact Or.inr rfl) ⟨_, _, rfl, ?_⟩
                              first
                              | (exfalso; omega)
                              | (have e2 : fd2 c a = a + 1 + nd c (a + 1) := by first | exact fd2_y (by assumption) (by omega) (by omega) | exact fd2_n (by assumption) (by omega)
                                 have hV := fd_V (by assumption) (show 1 ≤ nv c (a + 1) ∧ nv c (a + 1) ≤ 32 by omega)
                                 refine ⟨_, rfl, jq_t ?_, congrArg (fun z : Nat => iI (z : Int)) ?_, congrArg (fun z : Nat => iI (z : Int)) (fd_F hN hV).symm, (fr_u (by simp [wAF]) (fr_u (by simp [wAF]) (fr_u (by simp [wAF]) (fr_u (by simp [wAF]) (fr_u (by simp [wAF]) (fr_r _))))))⟩
                                 · refine ⟨hN, hV, ?_⟩; rw [e2]; intro q; first | assumption | omega
                                 · rw [fd_A hN hV]; unfold fd3; rw [e2]; first | (rw [if_pos (by assumption)]; exact nd0 (by assumption)) | (rw [if_pos (by assumption)]; (try rfl)) | (rw [if_neg (by assumption), if_pos (by assumption)]; (try rfl)) | (rw [if_neg (by assumption), if_neg (by assumption)]; (try rfl)))
                          · skip
                            refine jv_call (pc' := 141) rfl (ml_number_n (a := a + 1 + nd c (a + 1) + 1) hT rfl (by omega) hk89) (fun vq92 gq92 q92 => ?_)
                            obtain ⟨rfl, rfl⟩ := q92
                            show jx L xs _ 119 141 _ [.int (iI (-1))] _ _
                            refine jv_if_lt (t := 148) (pc' := 144) (a := (-1)) rfl rfl rfl (by omega) (fun h93 => ?_) (fun h93 => ?_)
                            · skip
                              refine jv_iconst (pc' := 149) (n := 0) rfl rfl ?_
                              refine jv_retZ rfl rfl (by first | exact Or.inl rfl | exact Or.inr rfl) ⟨_, _, rfl, ?_⟩
                              first
                              | (exfalso; omega)
                              | (have e2 : fd2 c a = a + 1 + nd c (a + 1) := by first | exact fd2_y (by assumption) (by omega) (by omega) | exact fd2_n (by assumption) (by omega)
                                 have hV := fd_V (by assumption) (show 1 ≤ nv c (a + 1) ∧ nv c (a + 1) ≤ 32 by omega)
                                 refine ⟨_, rfl, jq_f ?_, congrArg (fun z : Nat => iI (z : Int)) ?_, congrArg (fun z : Nat => iI (z : Int)) (fd_F hN hV).symm, (fr_u (by simp [wAF]) (fr_u (by simp [wAF]) (fr_u (by simp [wAF]) (fr_u (by simp [wAF]) (fr_r _)))))⟩
                                 · intro q; have q2 := q.2.2; rw [e2] at q2; exact absurd (q2 (by assumption)) (by assumption)
                                 · rw [fd_A hN hV]; unfold fd3; rw [e2]; first | (rw [if_pos (by assumption)]; exact nd0 (by assumption)) | (rw [if_pos (by assumption)]; (try rfl)) | (rw [if_neg (by assumption), if_pos (by assumption)]; (try rfl)) | (rw [if_neg (by assumption), if_neg (by assumption)]; (try rfl)))
                            · skip
                              exact absurd h93 (by decide)
                      · skip
                        refine jv_call (pc' := 134) rfl (ml_takes_n (a := a + 1 + nd c (a + 1)) (x := 61) (by omega) hT rfl (by omega) hk86) (fun vq94 gq94 q94 => ?_)
                        obtain ⟨rfl, rfl⟩ := q94
                        show jx L xs _ 119 134 _ [.int (iI 0)] _ _
                        refine jv_if_eq (t := 150) (pc' := 137) (a := 0) rfl rfl rfl (by omega) (fun h95 => ?_) (fun h95 => ?_)
                        · skip
                          refine jv_aload_n (pc' := 151) (k := 0) (x := 103) rfl rfl rfl rfl ?_
                          refine jv_bipush (pc' := 153) (n := 33) rfl rfl rfl ?_
                          by_cases hk96 : c (a + 1 + nd c (a + 1)) = 33
                          · skip
                            refine jv_call (pc' := 156) rfl (ml_takes_y (a := a + 1 + nd c (a + 1)) (x := 33) (by omega) hT rfl (by omega) hk96) (fun vq97 gq97 q97 => ?_)
                            obtain ⟨rfl, rfl⟩ := q97
                            show jx L xs _ 119 156 _ [.int (iI 1)] _ _
                            refine jv_if_ne (t := 159) (pc' := 159) (a := 1) rfl rfl rfl (by omega) (fun h98 => ?_) (fun h98 => ?_)
                            · skip
                              refine jv_iconst (pc' := 160) (n := 1) rfl rfl ?_
                              refine jv_retZ rfl rfl (by first | exact Or.inl rfl | exact Or.inr rfl) ⟨_, _, rfl, ?_⟩
                              first
                              | (exfalso; omega)
                              | (have e2 : fd2 c a = a + 1 + nd c (a + 1) := by first | exact fd2_y (by assumption) (by omega) (by omega) | exact fd2_n (by assumption) (by omega)
                                 have hV := fd_V (by assumption) (show 1 ≤ nv c (a + 1) ∧ nv c (a + 1) ≤ 32 by omega)
                                 refine ⟨_, rfl, jq_t ?_, congrArg (fun z : Nat => iI (z : Int)) ?_, congrArg (fun z : Nat => iI (z : Int)) (fd_F hN hV).symm, (fr_u (by simp [wAF]) (fr_u (by simp [wAF]) (fr_u (by simp [wAF]) (fr_u (by simp [wAF]) (fr_r _)))))⟩
                                 · refine ⟨hN, hV, ?_⟩; rw [e2]; intro q; first | assumption | omega
                                 · rw [fd_A hN hV]; unfold fd3; rw [e2]; first | (rw [if_pos (by assumption)]; exact nd0 (by assumption)) | (rw [if_pos (by assumption)]; (try rfl)) | (rw [if_neg (by assumption), if_pos (by assumption)]; (try rfl)) | (rw [if_neg (by assumption), if_neg (by assumption)]; (try rfl)))
                            · skip
                              exact absurd h98 (by decide)
                          · skip
                            refine jv_call (pc' := 156) rfl (ml_takes_n (a := a + 1 + nd c (a + 1)) (x := 33) (by omega) hT rfl (by omega) hk96) (fun vq99 gq99 q99 => ?_)
                            obtain ⟨rfl, rfl⟩ := q99
                            show jx L xs _ 119 156 _ [.int (iI 0)] _ _
                            refine jv_if_ne (t := 159) (pc' := 159) (a := 0) rfl rfl rfl (by omega) (fun h100 => ?_) (fun h100 => ?_)
                            · skip
                              exact absurd h100 (by decide)
                            · skip
                              refine jv_iconst (pc' := 160) (n := 1) rfl rfl ?_
                              refine jv_retZ rfl rfl (by first | exact Or.inl rfl | exact Or.inr rfl) ⟨_, _, rfl, ?_⟩
                              first
                              | (exfalso; omega)
                              | (have e2 : fd2 c a = a + 1 + nd c (a + 1) := by first | exact fd2_y (by assumption) (by omega) (by omega) | exact fd2_n (by assumption) (by omega)
                                 have hV := fd_V (by assumption) (show 1 ≤ nv c (a + 1) ∧ nv c (a + 1) ≤ 32 by omega)
                                 refine ⟨_, rfl, jq_t ?_, congrArg (fun z : Nat => iI (z : Int)) ?_, congrArg (fun z : Nat => iI (z : Int)) (fd_F hN hV).symm, (fr_u (by simp [wAF]) (fr_u (by simp [wAF]) (fr_u (by simp [wAF]) (fr_r _))))⟩
                                 · refine ⟨hN, hV, ?_⟩; rw [e2]; intro q; first | assumption | omega
                                 · rw [fd_A hN hV]; unfold fd3; rw [e2]; first | (rw [if_pos (by assumption)]; exact nd0 (by assumption)) | (rw [if_pos (by assumption)]; (try rfl)) | (rw [if_neg (by assumption), if_pos (by assumption)]; (try rfl)) | (rw [if_neg (by assumption), if_neg (by assumption)]; (try rfl)))
                        · skip
                          exact absurd h95 (by decide)
                    · skip
                      exact absurd h85 (by decide)
                  · skip
                    refine jv_iconst (pc' := 101) (n := 1) rfl rfl ?_
                    refine jx_step (pc' := 105) rfl ?_
                    refine jv_istore (pc' := 107) (k := 4) (x := (iI 1)) rfl rfl rfl (Or.inr rfl) ?_
                    refine jv_iload (pc' := 109) (k := 4) (x := (iI 1)) rfl rfl rfl ?_
                    refine jv_if_eq (t := 125) (pc' := 112) (a := 1) rfl rfl rfl (by omega) (fun h101 => ?_) (fun h101 => ?_)
                    · skip
                      exact absurd h101 (by decide)
                    · skip
                      refine jv_aload_n (pc' := 113) (k := 0) (x := 103) rfl rfl rfl rfl ?_
                      refine jv_bipush (pc' := 115) (n := 60) rfl rfl rfl ?_
                      by_cases hk102 : c (a + 1 + nd c (a + 1)) = 60
                      · skip
                        refine jv_call (pc' := 118) rfl (ml_takes_y (a := a + 1 + nd c (a + 1)) (x := 60) (by omega) hT rfl (by omega) hk102) (fun vq103 gq103 q103 => ?_)
                        obtain ⟨rfl, rfl⟩ := q103
                        show jx L xs _ 119 118 _ [.int (iI 1)] _ _
                        refine jv_if_eq (t := 125) (pc' := 121) (a := 1) rfl rfl rfl (by omega) (fun h104 => ?_) (fun h104 => ?_)
                        · skip
                          exact absurd h104 (by decide)
                        · skip
                          refine jv_iconst (pc' := 122) (n := 1) rfl rfl ?_
                          refine jx_step (pc' := 126) rfl ?_
                          refine jv_istore (pc' := 128) (k := 5) (x := (iI 1)) rfl rfl rfl (Or.inr rfl) ?_
                          refine jv_aload_n (pc' := 129) (k := 0) (x := 103) rfl rfl rfl rfl ?_
                          refine jv_bipush (pc' := 131) (n := 61) rfl rfl rfl ?_
                          by_cases hk105 : c (a + 1 + nd c (a + 1) + 1) = 61
                          · skip
                            refine jv_call (pc' := 134) rfl (ml_takes_y (a := a + 1 + nd c (a + 1) + 1) (x := 61) (by omega) hT rfl (by omega) hk105) (fun vq106 gq106 q106 => ?_)
                            obtain ⟨rfl, rfl⟩ := q106
                            show jx L xs _ 119 134 _ [.int (iI 1)] _ _
                            refine jv_if_eq (t := 150) (pc' := 137) (a := 1) rfl rfl rfl (by omega) (fun h107 => ?_) (fun h107 => ?_)
                            · skip
                              exact absurd h107 (by decide)
                            · skip
                              refine jv_aload_n (pc' := 138) (k := 0) (x := 103) rfl rfl rfl rfl ?_
                              have := nd_le c (a + 1 + nd c (a + 1) + 2)
                              have := nv_b c (a + 1 + nd c (a + 1) + 2)
                              by_cases hk108 : 0 < nd c (a + 1 + nd c (a + 1) + 2)
                              · skip
                                refine jv_call (pc' := 141) rfl (ml_number_y (a := a + 1 + nd c (a + 1) + 2) hT rfl (by omega) hk108) (fun vq109 gq109 q109 => ?_)
                                obtain ⟨rfl, rfl⟩ := q109
                                show jx L xs _ 119 141 _ [.int (iI (nv c (a + 1 + nd c (a + 1) + 2)))] _ _
                                refine jv_if_lt (t := 148) (pc' := 144) (a := (nv c (a + 1 + nd c (a + 1) + 2))) rfl rfl rfl (by omega) (fun h110 => ?_) (fun h110 => ?_)
                                · skip
                                  refine jv_iconst (pc' := 149) (n := 0) rfl rfl ?_
                                  refine jv_retZ rfl rfl (by first | exact Or.inl rfl | exact Or.inr rfl) ⟨_, _, rfl, ?_⟩
                                  first
                                  | (exfalso; omega)
                                  | (have e2 : fd2 c a = a + 1 + nd c (a + 1) + 1 := by first | exact fd2_y (by assumption) (by omega) (by omega) | exact fd2_n (by assumption) (by omega)
                                     have hV := fd_V (by assumption) (show 1 ≤ nv c (a + 1) ∧ nv c (a + 1) ≤ 32 by omega)
                                     refine ⟨_, rfl, jq_f ?_, congrArg (fun z : Nat => iI (z : Int)) ?_, congrArg (fun z : Nat => iI (z : Int)) (fd_F hN hV).symm, (fr_u (by simp [wAF]) (fr_u (by simp [wAF]) (fr_u (by simp [wAF]) (fr_u (by simp [wAF]) (fr_u (by simp [wAF]) (fr_u (by simp [wAF]) (fr_r _)))))))⟩
                                     · intro q; have q2 := q.2.2; rw [e2] at q2; exact absurd (q2 (by assumption)) (by assumption)
                                     · rw [fd_A hN hV]; unfold fd3; rw [e2]; first | (rw [if_pos (by assumption)]; exact nd0 (by assumption)) | (rw [if_pos (by assumption)]; (try rfl)) | (rw [if_neg (by assumption), if_pos (by assumption)]; (try rfl)) | (rw [if_neg (by assumption), if_neg (by assumption)]; (try rfl)))
                                · skip
                                  refine jv_iconst (pc' := 145) (n := 1) rfl rfl ?_
                                  refine jx_step (pc' := 149) rfl ?_
                                  refine jv_retZ rfl rfl (by first | exact Or.inl rfl | exact Or.inr rfl) ⟨_, _, rfl, ?_⟩
                                  first
                                  | (exfalso; omega)
                                  | (have e2 : fd2 c a = a + 1 + nd c (a + 1) + 1 := by first | exact fd2_y (by assumption) (by omega) (by omega) | exact fd2_n (by assumption) (by omega)
                                     have hV := fd_V (by assumption) (show 1 ≤ nv c (a + 1) ∧ nv c (a + 1) ≤ 32 by omega)
                                     refine ⟨_, rfl, jq_t ?_, congrArg (fun z : Nat => iI (z : Int)) ?_, congrArg (fun z : Nat => iI (z : Int)) (fd_F hN hV).symm, (fr_u (by simp [wAF]) (fr_u (by simp [wAF]) (fr_u (by simp [wAF]) (fr_u (by simp [wAF]) (fr_u (by simp [wAF]) (fr_u (by simp [wAF]) (fr_r _)))))))⟩
                                     · refine ⟨hN, hV, ?_⟩; rw [e2]; intro q; first | assumption | omega
                                     · rw [fd_A hN hV]; unfold fd3; rw [e2]; first | (rw [if_pos (by assumption)]; exact nd0 (by assumption)) | (rw [if_pos (by assumption)]; (try rfl)) | (rw [if_neg (by assumption), if_pos (by assumption)]; (try rfl)) | (rw [if_neg (by assumption), if_neg (by assumption)]; (try rfl)))
                              · skip
                                refine jv_call (pc' := 141) rfl (ml_number_n (a := a + 1 + nd c (a + 1) + 2) hT rfl (by omega) hk108) (fun vq111 gq111 q111 => ?_)
                                obtain ⟨rfl, rfl⟩ := q111
                                show jx L xs _ 119 141 _ [.int (iI (-1))] _ _
                                refine jv_if_lt (t := 148) (pc' := 144) (a := (-1)) rfl rfl rfl (by omega) (fun h112 => ?_) (fun h112 => ?_)
                                · skip
                                  refine jv_iconst (pc' := 149) (n := 0) rfl rfl ?_
                                  refine jv_retZ rfl rfl (by first | exact Or.inl rfl | exact Or.inr rfl) ⟨_, _, rfl, ?_⟩
                                  first
                                  | (exfalso; omega)
                                  | (have e2 : fd2 c a = a + 1 + nd c (a + 1) + 1 := by first | exact fd2_y (by assumption) (by omega) (by omega) | exact fd2_n (by assumption) (by omega)
                                     have hV := fd_V (by assumption) (show 1 ≤ nv c (a + 1) ∧ nv c (a + 1) ≤ 32 by omega)
                                     refine ⟨_, rfl, jq_f ?_, congrArg (fun z : Nat => iI (z : Int)) ?_, congrArg (fun z : Nat => iI (z : Int)) (fd_F hN hV).symm, (fr_u (by simp [wAF]) (fr_u (by simp [wAF]) (fr_u (by simp [wAF]) (fr_u (by simp [wAF]) (fr_u (by simp [wAF]) (fr_r _))))))⟩
                                     · intro q; have q2 := q.2.2; rw [e2] at q2; exact absurd (q2 (by assumption)) (by assumption)
                                     · rw [fd_A hN hV]; unfold fd3; rw [e2]; first | (rw [if_pos (by assumption)]; exact nd0 (by assumption)) | (rw [if_pos (by assumption)]; (try rfl)) | (rw [if_neg (by assumption), if_pos (by assumption)]; (try rfl)) | (rw [if_neg (by assumption), if_neg (by assumption)]; (try rfl)))
                                · skip
                                  exact absurd h112 (by decide)
                          · skip
                            refine jv_call (pc' := 134) rfl (ml_takes_n (a := a + 1 + nd c (a + 1) + 1) (x := 61) (by omega) hT rfl (by omega) hk105) (fun vq113 gq113 q113 => ?_)
                            obtain ⟨rfl, rfl⟩ := q113
                            show jx L xs _ 119 134 _ [.int (iI 0)] _ _
                            refine jv_if_eq (t := 150) (pc' := 137) (a := 0) rfl rfl rfl (by omega) (fun h114 => ?_) (fun h114 => ?_)
                            · skip
                              refine jv_aload_n (pc' := 151) (k := 0) (x := 103) rfl rfl rfl rfl ?_
                              refine jv_bipush (pc' := 153) (n := 33) rfl rfl rfl ?_
                              by_cases hk115 : c (a + 1 + nd c (a + 1) + 1) = 33
                              · skip
                                refine jv_call (pc' := 156) rfl (ml_takes_y (a := a + 1 + nd c (a + 1) + 1) (x := 33) (by omega) hT rfl (by omega) hk115) (fun vq116 gq116 q116 => ?_)
                                obtain ⟨rfl, rfl⟩ := q116
                                show jx L xs _ 119 156 _ [.int (iI 1)] _ _
                                refine jv_if_ne (t := 159) (pc' := 159) (a := 1) rfl rfl rfl (by omega) (fun h117 => ?_) (fun h117 => ?_)
                                · skip
                                  refine jv_iconst (pc' := 160) (n := 1) rfl rfl ?_
                                  refine jv_retZ rfl rfl (by first | exact Or.inl rfl | exact Or.inr rfl) ⟨_, _, rfl, ?_⟩
                                  first
                                  | (exfalso; omega)
                                  | (have e2 : fd2 c a = a + 1 + nd c (a + 1) + 1 := by first | exact fd2_y (by assumption) (by omega) (by omega) | exact fd2_n (by assumption) (by omega)
                                     have hV := fd_V (by assumption) (show 1 ≤ nv c (a + 1) ∧ nv c (a + 1) ≤ 32 by omega)
                                     refine ⟨_, rfl, jq_t ?_, congrArg (fun z : Nat => iI (z : Int)) ?_, congrArg (fun z : Nat => iI (z : Int)) (fd_F hN hV).symm, (fr_u (by simp [wAF]) (fr_u (by simp [wAF]) (fr_u (by simp [wAF]) (fr_u (by simp [wAF]) (fr_u (by simp [wAF]) (fr_r _))))))⟩
                                     · refine ⟨hN, hV, ?_⟩; rw [e2]; intro q; first | assumption | omega
                                     · rw [fd_A hN hV]; unfold fd3; rw [e2]; first | (rw [if_pos (by assumption)]; exact nd0 (by assumption)) | (rw [if_pos (by assumption)]; (try rfl)) | (rw [if_neg (by assumption), if_pos (by assumption)]; (try rfl)) | (rw [if_neg (by assumption), if_neg (by assumption)]; (try rfl)))
                                · skip
                                  exact absurd h117 (by decide)
                              · skip
                                refine jv_call (pc' := 156) rfl (ml_takes_n (a := a + 1 + nd c (a + 1) + 1) (x := 33) (by omega) hT rfl (by omega) hk115) (fun vq118 gq118 q118 => ?_)
                                obtain ⟨rfl, rfl⟩ := q118
                                show jx L xs _ 119 156 _ [.int (iI 0)] _ _
                                refine jv_if_ne (t := 159) (pc' := 159) (a := 0) rfl rfl rfl (by omega) (fun h119 => ?_) (fun h119 => ?_)
                                · skip
                                  exact absurd h119 (by decide)
                                · skip
                                  refine jv_iconst (pc' := 160) (n := 1) rfl rfl ?_
                                  refine jv_retZ rfl rfl (by first | exact Or.inl rfl | exact Or.inr rfl) ⟨_, _, rfl, ?_⟩
                                  first
                                  | (exfalso; omega)
                                  | (have e2 : fd2 c a = a + 1 + nd c (a + 1) + 1 := by first | exact fd2_y (by assumption) (by omega) (by omega) | exact fd2_n (by assumption) (by omega)
                                     have hV := fd_V (by assumption) (show 1 ≤ nv c (a + 1) ∧ nv c (a + 1) ≤ 32 by omega)
                                     refine ⟨_, rfl, jq_t ?_, congrArg (fun z : Nat => iI (z : Int)) ?_, congrArg (fun z : Nat => iI (z : Int)) (fd_F hN hV).symm, (fr_u (by simp [wAF]) (fr_u (by simp [wAF]) (fr_u (by simp [wAF]) (fr_u (by simp [wAF]) (fr_r _)))))⟩
                                     · refine ⟨hN, hV, ?_⟩; rw [e2]; intro q; first | assumption | omega
                                     · rw [fd_A hN hV]; unfold fd3; rw [e2]; first | (rw [if_pos (by assumption)]; exact nd0 (by assumption)) | (rw [if_pos (by assumption)]; (try rfl)) | (rw [if_neg (by assumption), if_pos (by assumption)]; (try rfl)) | (rw [if_neg (by assumption), if_neg (by assumption)]; (try rfl)))
                            · skip
                              exact absurd h114 (by decide)
                      · skip
                        refine jv_call (pc' := 118) rfl (ml_takes_n (a := a + 1 + nd c (a + 1)) (x := 60) (by omega) hT rfl (by omega) hk102) (fun vq120 gq120 q120 => ?_)
                        obtain ⟨rfl, rfl⟩ := q120
                        show jx L xs _ 119 118 _ [.int (iI 0)] _ _
                        refine jv_if_eq (t := 125) (pc' := 121) (a := 0) rfl rfl rfl (by omega) (fun h121 => ?_) (fun h121 => ?_)
                        · skip
                          refine jv_iconst (pc' := 126) (n := 0) rfl rfl ?_
                          refine jv_istore (pc' := 128) (k := 5) (x := (iI 0)) rfl rfl rfl (Or.inr rfl) ?_
                          refine jv_aload_n (pc' := 129) (k := 0) (x := 103) rfl rfl rfl rfl ?_
                          refine jv_bipush (pc' := 131) (n := 61) rfl rfl rfl ?_
                          by_cases hk122 : c (a + 1 + nd c (a + 1)) = 61
                          · skip
                            refine jv_call (pc' := 134) rfl (ml_takes_y (a := a + 1 + nd c (a + 1)) (x := 61) (by omega) hT rfl (by omega) hk122) (fun vq123 gq123 q123 => ?_)
                            obtain ⟨rfl, rfl⟩ := q123
                            show jx L xs _ 119 134 _ [.int (iI 1)] _ _
                            refine jv_if_eq (t := 150) (pc' := 137) (a := 1) rfl rfl rfl (by omega) (fun h124 => ?_) (fun h124 => ?_)
                            · skip
                              exact absurd h124 (by decide)
                            · skip
                              refine jv_aload_n (pc' := 138) (k := 0) (x := 103) rfl rfl rfl rfl ?_
                              have := nd_le c (a + 1 + nd c (a + 1) + 1)
                              have := nv_b c (a + 1 + nd c (a + 1) + 1)
                              by_cases hk125 : 0 < nd c (a + 1 + nd c (a + 1) + 1)
                              · skip
                                refine jv_call (pc' := 141) rfl (ml_number_y (a := a + 1 + nd c (a + 1) + 1) hT rfl (by omega) hk125) (fun vq126 gq126 q126 => ?_)
                                obtain ⟨rfl, rfl⟩ := q126
                                show jx L xs _ 119 141 _ [.int (iI (nv c (a + 1 + nd c (a + 1) + 1)))] _ _
                                refine jv_if_lt (t := 148) (pc' := 144) (a := (nv c (a + 1 + nd c (a + 1) + 1))) rfl rfl rfl (by omega) (fun h127 => ?_) (fun h127 => ?_)
                                · skip
                                  refine jv_iconst (pc' := 149) (n := 0) rfl rfl ?_
                                  refine jv_retZ rfl rfl (by first | exact Or.inl rfl | exact Or.inr rfl) ⟨_, _, rfl, ?_⟩
                                  first
                                  | (exfalso; omega)
                                  | (have e2 : fd2 c a = a + 1 + nd c (a + 1) := by first | exact fd2_y (by assumption) (by omega) (by omega) | exact fd2_n (by assumption) (by omega)
                                     have hV := fd_V (by assumption) (show 1 ≤ nv c (a + 1) ∧ nv c (a + 1) ≤ 32 by omega)
                                     refine ⟨_, rfl, jq_f ?_, congrArg (fun z : Nat => iI (z : Int)) ?_, congrArg (fun z : Nat => iI (z : Int)) (fd_F hN hV).symm, (fr_u (by simp [wAF]) (fr_u (by simp [wAF]) (fr_u (by simp [wAF]) (fr_u (by simp [wAF]) (fr_u (by simp [wAF]) (fr_r _))))))⟩
                                     · intro q; have q2 := q.2.2; rw [e2] at q2; exact absurd (q2 (by assumption)) (by assumption)
                                     · rw [fd_A hN hV]; unfold fd3; rw [e2]; first | (rw [if_pos (by assumption)]; exact nd0 (by assumption)) | (rw [if_pos (by assumption)]; (try rfl)) | (rw [if_neg (by assumption), if_pos (by assumption)]; (try rfl)) | (rw [if_neg (by assumption), if_neg (by assumption)]; (try rfl)))
                                · skip
                                  refine jv_iconst (pc' := 145) (n := 1) rfl rfl ?_
                                  refine jx_step (pc' := 149) rfl ?_
                                  refine jv_retZ rfl rfl (by first | exact Or.inl rfl | exact Or.inr rfl) ⟨_, _, rfl, ?_⟩
                                  first
                                  | (exfalso; omega)
                                  | (have e2 : fd2 c a = a + 1 + nd c (a + 1) := by first | exact fd2_y (by assumption) (by omega) (by omega) | exact fd2_n (by assumption) (by omega)
                                     have hV := fd_V (by assumption) (show 1 ≤ nv c (a + 1) ∧ nv c (a + 1) ≤ 32 by omega)
                                     refine ⟨_, rfl, jq_t ?_, congrArg (fun z : Nat => iI (z : Int)) ?_, congrArg (fun z : Nat => iI (z : Int)) (fd_F hN hV).symm, (fr_u (by simp [wAF]) (fr_u (by simp [wAF]) (fr_u (by simp [wAF]) (fr_u (by simp [wAF]) (fr_u (by simp [wAF]) (fr_r _))))))⟩
                                     · refine ⟨hN, hV, ?_⟩; rw [e2]; intro q; first | assumption | omega
                                     · rw [fd_A hN hV]; unfold fd3; rw [e2]; first | (rw [if_pos (by assumption)]; exact nd0 (by assumption)) | (rw [if_pos (by assumption)]; (try rfl)) | (rw [if_neg (by assumption), if_pos (by assumption)]; (try rfl)) | (rw [if_neg (by assumption), if_neg (by assumption)]; (try rfl)))
                              · skip
                                refine jv_call (pc' := 141) rfl (ml_number_n (a := a + 1 + nd c (a + 1) + 1) hT rfl (by omega) hk125) (fun vq128 gq128 q128 => ?_)
                                obtain ⟨rfl, rfl⟩ := q128
                                show jx L xs _ 119 141 _ [.int (iI (-1))] _ _
                                refine jv_if_lt (t := 148) (pc' := 144) (a := (-1)) rfl rfl rfl (by omega) (fun h129 => ?_) (fun h129 => ?_)
                                · skip
                                  refine jv_iconst (pc' := 149) (n := 0) rfl rfl ?_
                                  refine jv_retZ rfl rfl (by first | exact Or.inl rfl | exact Or.inr rfl) ⟨_, _, rfl, ?_⟩
                                  first
                                  | (exfalso; omega)
                                  | (have e2 : fd2 c a = a + 1 + nd c (a + 1) := by first | exact fd2_y (by assumption) (by omega) (by omega) | exact fd2_n (by assumption) (by omega)
                                     have hV := fd_V (by assumption) (show 1 ≤ nv c (a + 1) ∧ nv c (a + 1) ≤ 32 by omega)
                                     refine ⟨_, rfl, jq_f ?_, congrArg (fun z : Nat => iI (z : Int)) ?_, congrArg (fun z : Nat => iI (z : Int)) (fd_F hN hV).symm, (fr_u (by simp [wAF]) (fr_u (by simp [wAF]) (fr_u (by simp [wAF]) (fr_u (by simp [wAF]) (fr_r _)))))⟩
                                     · intro q; have q2 := q.2.2; rw [e2] at q2; exact absurd (q2 (by assumption)) (by assumption)
                                     · rw [fd_A hN hV]; unfold fd3; rw [e2]; first | (rw [if_pos (by assumption)]; exact nd0 (by assumption)) | (rw [if_pos (by assumption)]; (try rfl)) | (rw [if_neg (by assumption), if_pos (by assumption)]; (try rfl)) | (rw [if_neg (by assumption), if_neg (by assumption)]; (try rfl)))
                                · skip
                                  exact absurd h129 (by decide)
                          · skip
                            refine jv_call (pc' := 134) rfl (ml_takes_n (a := a + 1 + nd c (a + 1)) (x := 61) (by omega) hT rfl (by omega) hk122) (fun vq130 gq130 q130 => ?_)
                            obtain ⟨rfl, rfl⟩ := q130
                            show jx L xs _ 119 134 _ [.int (iI 0)] _ _
                            refine jv_if_eq (t := 150) (pc' := 137) (a := 0) rfl rfl rfl (by omega) (fun h131 => ?_) (fun h131 => ?_)
                            · skip
                              refine jv_aload_n (pc' := 151) (k := 0) (x := 103) rfl rfl rfl rfl ?_
                              refine jv_bipush (pc' := 153) (n := 33) rfl rfl rfl ?_
                              by_cases hk132 : c (a + 1 + nd c (a + 1)) = 33
                              · skip
                                refine jv_call (pc' := 156) rfl (ml_takes_y (a := a + 1 + nd c (a + 1)) (x := 33) (by omega) hT rfl (by omega) hk132) (fun vq133 gq133 q133 => ?_)
                                obtain ⟨rfl, rfl⟩ := q133
                                show jx L xs _ 119 156 _ [.int (iI 1)] _ _
                                refine jv_if_ne (t := 159) (pc' := 159) (a := 1) rfl rfl rfl (by omega) (fun h134 => ?_) (fun h134 => ?_)
                                · skip
                                  refine jv_iconst (pc' := 160) (n := 1) rfl rfl ?_
                                  refine jv_retZ rfl rfl (by first | exact Or.inl rfl | exact Or.inr rfl) ⟨_, _, rfl, ?_⟩
                                  first
                                  | (exfalso; omega)
                                  | (have e2 : fd2 c a = a + 1 + nd c (a + 1) := by first | exact fd2_y (by assumption) (by omega) (by omega) | exact fd2_n (by assumption) (by omega)
                                     have hV := fd_V (by assumption) (show 1 ≤ nv c (a + 1) ∧ nv c (a + 1) ≤ 32 by omega)
                                     refine ⟨_, rfl, jq_t ?_, congrArg (fun z : Nat => iI (z : Int)) ?_, congrArg (fun z : Nat => iI (z : Int)) (fd_F hN hV).symm, (fr_u (by simp [wAF]) (fr_u (by simp [wAF]) (fr_u (by simp [wAF]) (fr_u (by simp [wAF]) (fr_r _)))))⟩
                                     · refine ⟨hN, hV, ?_⟩; rw [e2]; intro q; first | assumption | omega
                                     · rw [fd_A hN hV]; unfold fd3; rw [e2]; first | (rw [if_pos (by assumption)]; exact nd0 (by assumption)) | (rw [if_pos (by assumption)]; (try rfl)) | (rw [if_neg (by assumption), if_pos (by assumption)]; (try rfl)) | (rw [if_neg (by assumption), if_neg (by assumption)]; (try rfl)))
                                · skip
                                  exact absurd h134 (by decide)
                              · skip
                                refine jv_call (pc' := 156) rfl (ml_takes_n (a := a + 1 + nd c (a + 1)) (x := 33) (by omega) hT rfl (by omega) hk132) (fun vq135 gq135 q135 => ?_)
                                obtain ⟨rfl, rfl⟩ := q135
                                show jx L xs _ 119 156 _ [.int (iI 0)] _ _
                                refine jv_if_ne (t := 159) (pc' := 159) (a := 0) rfl rfl rfl (by omega) (fun h136 => ?_) (fun h136 => ?_)
                                · skip
                                  exact absurd h136 (by decide)
                                · skip
                                  refine jv_iconst (pc' := 160) (n := 1) rfl rfl ?_
                                  refine jv_retZ rfl rfl (by first | exact Or.inl rfl | exact Or.inr rfl) ⟨_, _, rfl, ?_⟩
                                  first
                                  | (exfalso; omega)
                                  | (have e2 : fd2 c a = a + 1 + nd c (a + 1) := by first | exact fd2_y (by assumption) (by omega) (by omega) | exact fd2_n (by assumption) (by omega)
                                     have hV := fd_V (by assumption) (show 1 ≤ nv c (a + 1) ∧ nv c (a + 1) ≤ 32 by omega)
                                     refine ⟨_, rfl, jq_t ?_, congrArg (fun z : Nat => iI (z : Int)) ?_, congrArg (fun z : Nat => iI (z : Int)) (fd_F hN hV).symm, (fr_u (by simp [wAF]) (fr_u (by simp [wAF]) (fr_u (by simp [wAF]) (fr_r _))))⟩
                                     · refine ⟨hN, hV, ?_⟩; rw [e2]; intro q; first | assumption | omega
                                     · rw [fd_A hN hV]; unfold fd3; rw [e2]; first | (rw [if_pos (by assumption)]; exact nd0 (by assumption)) | (rw [if_pos (by assumption)]; (try rfl)) | (rw [if_neg (by assumption), if_pos (by assumption)]; (try rfl)) | (rw [if_neg (by assumption), if_neg (by assumption)]; (try rfl)))
                            · skip
                              exact absurd h131 (by decide)
                        · skip
                          exact absurd h121 (by decide)
            · skip
              refine jv_aload_n (pc' := 61) (k := 0) (x := 103) rfl rfl rfl rfl ?_
              refine jv_iload_n (pc' := 62) (k := 2) (x := (iI ((a + 1 : Nat) : Int))) rfl rfl rfl rfl ?_
              refine jv_putI (pc' := 65) (c := 12) (k := 19) rfl rfl rfl rfl (fun _ _ _  => rfl) rfl rfl ?_
              refine jv_iconst (pc' := 66) (n := 0) rfl rfl ?_
              refine jv_retZ rfl rfl (by first | exact Or.inl rfl | exact Or.inr rfl) ⟨_, _, rfl, ?_⟩
              first
              | (exfalso; omega)
              | (obtain ⟨e1, e2, e3⟩ := fd_A1 hN (by first | exact fd_V0 (by assumption) | exact fd_V1 (by assumption) (by omega))
                 exact ⟨_, rfl, jq_f e3, by rw [e1]; rfl, hF.trans (by rw [e2]), (fr_u (by simp [wAF]) (fr_u (by simp [wAF]) (fr_u (by simp [wAF]) (fr_r _))))⟩)
        · skip
          refine jv_call (pc' := 48) rfl (ml_number_n (a := a + 1) hT rfl (by omega) hk6) (fun vq137 gq137 q137 => ?_)
          obtain ⟨rfl, rfl⟩ := q137
          show jx L xs _ 119 48 _ [.int (iI (-1))] _ _
          refine jv_istore_n (pc' := 49) (k := 3) (x := (iI (-1))) rfl rfl rfl rfl (Or.inr rfl) ?_
          refine jv_iload_n (pc' := 50) (k := 3) (x := (iI (-1))) rfl rfl rfl rfl ?_
          refine jv_iconst (pc' := 51) (n := 1) rfl rfl ?_
          refine jv_ic_lt (t := 60) (pc' := 54) (a := (-1)) (b := 1) rfl rfl rfl (by omega) (fun h138 => ?_) (fun h138 => ?_)
          · skip
            refine jv_aload_n (pc' := 61) (k := 0) (x := 103) rfl rfl rfl rfl ?_
            refine jv_iload_n (pc' := 62) (k := 2) (x := (iI ((a + 1 : Nat) : Int))) rfl rfl rfl rfl ?_
            refine jv_putI (pc' := 65) (c := 12) (k := 19) rfl rfl rfl rfl (fun _ _ _  => rfl) rfl rfl ?_
            refine jv_iconst (pc' := 66) (n := 0) rfl rfl ?_
            refine jv_retZ rfl rfl (by first | exact Or.inl rfl | exact Or.inr rfl) ⟨_, _, rfl, ?_⟩
            first
            | (exfalso; omega)
            | (obtain ⟨e1, e2, e3⟩ := fd_A1 hN (by first | exact fd_V0 (by assumption) | exact fd_V1 (by assumption) (by omega))
               exact ⟨_, rfl, jq_f e3, by rw [e1]; rfl, hF.trans (by rw [e2]), (fr_u (by simp [wAF]) (fr_u (by simp [wAF]) (fr_r _)))⟩)
          · skip
            exact absurd h138 (by decide)
      · skip
        exact absurd h5 (by decide)
  · skip
    refine jv_aload_n (pc' := 1) (k := 0) (x := 103) rfl rfl rfl rfl ?_
    have hm139 := MT_c hT (a)
    refine jv_call (pc' := 4) rfl (ml_here (a := a) hT ha (by omega)) (fun vq140 gq140 q140 => ?_)
    obtain ⟨rfl, rfl⟩ := q140
    show jx L xs _ 119 4 _ [.int (iI (c (a)))] _ _
    refine jv_istore_n (pc' := 5) (k := 1) (x := (iI (c (a)))) rfl rfl rfl rfl (Or.inr rfl) ?_
    refine jv_iload_n (pc' := 6) (k := 1) (x := (iI (c (a)))) rfl rfl rfl rfl ?_
    refine jv_call (pc' := 9) rfl (ml_isName (by omega)) (fun vq141 gq141 q141 => ?_)
    obtain ⟨rfl, rfl⟩ := q141
    show jx L xs _ 119 9 _ [.int (jb (97 ≤ (c (a)) ∧ (c (a)) ≤ 104))] _ _
    refine jv_jb_eq (t := 27) (pc' := 12) (P := 97 ≤ (c (a)) ∧ (c (a)) ≤ 104) rfl rfl rfl (fun h142 => ?_) (fun h142 => ?_)
    · skip
      refine jv_iconst (pc' := 28) (n := 0) rfl rfl ?_
      refine jv_retZ rfl rfl (by first | exact Or.inl rfl | exact Or.inr rfl) ⟨_, _, rfl, ?_⟩
      first
      | (exfalso; omega)
      | (obtain ⟨e1, e2, e3⟩ := fd_A0 hN
         exact ⟨_, rfl, jq_f e3, ha.trans (by rw [e1]), hF.trans (by rw [e2]), (fr_r _)⟩)
    · skip
      refine jv_aload_n (pc' := 13) (k := 0) (x := 103) rfl rfl rfl rfl ?_
      refine jv_getI (pc' := 16) (c := 12) (k := 20) (v := (iI ((F : Nat) : Int))) rfl rfl rfl (fun _ _ => rfl) rfl rfl hF ?_
      refine jv_iload_n (pc' := 17) (k := 1) (x := (iI (c (a)))) rfl rfl rfl rfl ?_
      refine jv_bipush (pc' := 19) (n := 97) rfl rfl rfl ?_
      refine jv_isub (pc' := 20) (a := (c (a))) (b := 97) rfl rfl ?_
      refine jv_int (pc' := 21) (y := iI ((F : Nat) : Int) >>> (iI ((c (a)) - 97) &&& 31)) rfl rfl ?_
      refine jv_iconst (pc' := 22) (n := 1) rfl rfl ?_
      refine jv_int (pc' := 23) (y := iI 1) rfl (fl_b (b := true) hF2 (by omega) (by cases hq : F.testBit (c a - 97).toNat with | true => rfl | false => exact absurd ⟨by omega, hq⟩ hN)) ?_
      refine jv_iconst (pc' := 24) (n := 1) rfl rfl ?_
      refine jv_ic_ne (t := 29) (pc' := 27) (a := 1) (b := 1) rfl rfl rfl (by omega) (fun h143 => ?_) (fun h143 => ?_)
      · skip
        exact absurd h143 (by decide)
      · skip
        refine jv_iconst (pc' := 28) (n := 0) rfl rfl ?_
        refine jv_retZ rfl rfl (by first | exact Or.inl rfl | exact Or.inr rfl) ⟨_, _, rfl, ?_⟩
        first
        | (exfalso; omega)
        | (obtain ⟨e1, e2, e3⟩ := fd_A0 hN
           exact ⟨_, rfl, jq_f e3, ha.trans (by rw [e1]), hF.trans (by rw [e2]), (fr_r _)⟩)
end M2
