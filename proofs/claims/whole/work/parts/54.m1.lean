/-! printed by wip/whole/gen/m1.py: the reference reads its text -/
theorem jq_t {P : Prop} (h : P) : (some (Value.int (iI 1)) : Option Value) = some (.int (jb P)) := by rw [jb_t h]
theorem jq_f {P : Prop} (h : ¬ P) : (some (Value.int (iI 0)) : Option Value) = some (.int (jb P)) := by rw [jb_f h]
theorem jq_e {P P' : Prop} (h : P ↔ P') : (some (Value.int (jb P)) : Option Value) = some (.int (jb P')) := by rw [jb_e h]
theorem jq_i {a b : Int} (h : a = b) : (some (Value.int (iI a)) : Option Value) = some (.int (iI b)) := by rw [h]
theorem jq_l {a b : Int} (h : a = b) : (some (Value.long (lI a)) : Option Value) = some (.long (lI b)) := by rw [h]
/-- the text at hand: characters c, -1 behind the end -/
def MT (I : Nat → Nat → Int32) (c : Nat → Int) (n : Nat) : Prop := I 103 18 = iI n ∧ n ≤ 80 ∧ (∀ k, k < n → I 117 k = iI (c k)) ∧ (∀ k, k < n → 0 ≤ c k ∧ c k < 256) ∧ (∀ k, n ≤ k → c k = -1)
theorem MT_c {I : Nat → Nat → Int32} {c : Nat → Int} {n : Nat} (h : MT I c n) (a : Nat) : -1 ≤ c a ∧ c a < 256 := by
  by_cases q : a < n
  · have := h.2.2.2.1 a q; omega
  · have := h.2.2.2.2 a (by omega); omega
theorem MT_lt {I : Nat → Nat → Int32} {c : Nat → Int} {n : Nat} (h : MT I c n) {a : Nat} (q : c a ≠ -1) : a < n := by
  by_cases e : a < n
  · exact e
  · exact absurd (h.2.2.2.2 a (by omega)) q
abbrev dg (x : Int) : Prop := 48 ≤ x ∧ x ≤ 57
def ndk (c : Nat → Int) : Nat → Nat → Nat
  | 0, _ => 0
  | k + 1, a => if dg (c a) then ndk c k (a + 1) + 1 else 0
def nvk (c : Nat → Int) : Nat → Nat → Int → Int
  | 0, _, v => v
  | m + 1, a, v => nvk c m (a + 1) (10 * v + (c a - 48))
/-- the number at a place: its digits, its value -/
def nd (c : Nat → Int) (a : Nat) : Nat := ndk c 6 a
def nv (c : Nat → Int) (a : Nat) : Int := nvk c (nd c a) a 0
theorem ndk_le (c : Nat → Int) : ∀ k a, ndk c k a ≤ k := by
  intro k
  induction k with
  | zero => intro a; exact Nat.le_refl _
  | succ k ih =>
    intro a
    unfold ndk
    split
    · have := ih (a + 1); omega
    · omega
theorem nd_le (c : Nat → Int) (a : Nat) : nd c a ≤ 6 := ndk_le c 6 a
theorem ndk_in {I : Nat → Nat → Int32} {c : Nat → Int} {n : Nat} (h : MT I c n) : ∀ k a, a ≤ n → a + ndk c k a ≤ n := by
  intro k
  induction k with
  | zero => intro a ha; exact ha
  | succ k ih =>
    intro a ha
    unfold ndk
    split
    next q =>
      have h1 : a < n := MT_lt h (by unfold dg at q; omega)
      have := ih (a + 1) (by omega)
      omega
    · omega
theorem nvk_b (c : Nat → Int) : ∀ m k a v, m ≤ ndk c k a → 0 ≤ v → 0 ≤ nvk c m a v ∧ nvk c m a v < (v + 1) * 10 ^ m := by
  intro m
  induction m with
  | zero => intro k a v h hv; unfold nvk; omega
  | succ m ih =>
    intro k a v h hv
    cases k with
    | zero => unfold ndk at h; omega
    | succ k =>
      unfold ndk at h
      split at h
      next q =>
        unfold nvk
        unfold dg at q
        have h1 := ih k (a + 1) (10 * v + (c a - 48)) (by omega) (by omega)
        refine ⟨h1.1, Int.lt_of_lt_of_le h1.2 ?_⟩
        rw [Int.pow_succ, Int.mul_comm (10 ^ m) 10, ← Int.mul_assoc]
        exact Int.mul_le_mul_of_nonneg_right (by omega) (Int.pow_nonneg (by decide))
      · omega
theorem nv_b (c : Nat → Int) (a : Nat) : 0 ≤ nv c a ∧ nv c a < 1000000 := by
  have h := nvk_b c (nd c a) 6 a 0 (Nat.le_refl _) (by omega)
  have h2 := nd_le c a
  refine ⟨h.1, ?_⟩
  have h3 : nvk c (nd c a) a 0 < (0 + 1) * 10 ^ nd c a := h.2
  unfold nv
  generalize nd c a = m at h3 h2 ⊢
  have : m = 0 ∨ m = 1 ∨ m = 2 ∨ m = 3 ∨ m = 4 ∨ m = 5 ∨ m = 6 := by omega
  rcases this with rfl | rfl | rfl | rfl | rfl | rfl | rfl <;> simp at h3 <;> omega
theorem fl_bit : ∀ F : Fin 256, ∀ s : Fin 8, (iI (F.val : Int) >>> (iI (s.val : Int) &&& 31)) &&& iI 1 = iI (if F.val.testBit s.val then 1 else 0) := by decide +kernel
theorem fl_or : ∀ F : Fin 256, ∀ s : Fin 8, iI (F.val : Int) ||| (iI 1 <<< (iI (s.val : Int) &&& 31)) = iI ((F.val ||| 2 ^ s.val : Nat) : Int) := by decide +kernel
/-- a name that is known stands there -/
def knw (c : Nat → Int) (F a : Nat) : Prop := (97 ≤ c a ∧ c a ≤ 104) ∧ F.testBit (c a - 97).toNat = true
section M1
variable {L : Nat} {xs : Nat → Int32} {d j : Nat} {I : Nat → Nat → Int32} {M : Nat → Nat → Int64} {p : Nat → Option Nat}
variable {c : Nat → Int} {n a F : Nat}
theorem ml_here (hT : MT I c n) (ha : I 103 19 = iI (a : Int)) (hb : a ≤ 100000) : jc L xs d 112 [.ref 103] (jx_G j I M p) (fun v g1 => v = some (.int (iI (c a))) ∧ g1 = jx_G j I M p) := by
  have hn := hT.2.1
  have hc := MT_c hT a
  unfold jc
  refine jv_aload_n (pc' := 1) (k := 0) (x := 103) rfl rfl rfl rfl ?_
  refine jv_getI (pc' := 4) (c := 12) (k := 19) (v := (iI (a : Int))) rfl rfl rfl (fun _ _ => rfl) rfl rfl ha ?_
  refine jv_aload_n (pc' := 5) (k := 0) (x := 103) rfl rfl rfl rfl ?_
  refine jv_getI (pc' := 8) (c := 12) (k := 18) (v := (iI (n : Int))) rfl rfl rfl (fun _ _ => rfl) rfl rfl hT.1 ?_
  refine jv_ic_ge (t := 23) (pc' := 11) (a := (a : Int)) (b := (n : Int)) rfl rfl rfl (by omega) (fun h1 => ?_) (fun h1 => ?_)
  · skip
    refine jv_iconst (pc' := 24) (n := -1) rfl rfl ?_
    refine jv_retI rfl rfl ⟨_, _, rfl, ?_⟩
    exact ⟨jq_i (by first | rfl | exact (hT.2.2.2.2 a (by omega)).symm), rfl⟩
  · skip
    refine jv_aload_n (pc' := 12) (k := 0) (x := 103) rfl rfl rfl rfl ?_
    refine jv_getR (pc' := 15) (c := 12) (k := 17) (v := 117) rfl rfl rfl (fun _ _ => rfl) rfl rfl rfl ?_
    refine jv_aload_n (pc' := 16) (k := 0) (x := 103) rfl rfl rfl rfl ?_
    refine jv_getI (pc' := 19) (c := 12) (k := 19) (v := (iI (a : Int))) rfl rfl rfl (fun _ _ => rfl) rfl rfl ha ?_
    refine jv_iaload (pc' := 20) (n := 80) (e := (a : Int)) (v := (iI (c a))) rfl rfl (by decide) rfl rfl rfl (by omega) (hT.2.2.1 a (by omega)) ?_
    refine jx_step (pc' := 24) rfl ?_
    refine jv_retI rfl rfl ⟨_, _, rfl, ?_⟩
    exact ⟨jq_i (by first | rfl | exact (hT.2.2.2.2 a (by omega)).symm), rfl⟩
theorem ml_isDigit {x : Int} {g : jm_H} (hx : iR x) : jc L xs d 113 [.int (iI x)] g (fun v g1 => v = some (.int (jb (48 ≤ x ∧ x ≤ 57))) ∧ g1 = g) := by
  unfold jc
  refine jv_iload_n (pc' := 1) (k := 0) (x := (iI x)) rfl rfl rfl rfl ?_
  refine jv_bipush (pc' := 3) (n := 48) rfl rfl rfl ?_
  refine jv_ic_lt (t := 16) (pc' := 6) (a := x) (b := 48) rfl rfl rfl (by omega) (fun h1 => ?_) (fun h1 => ?_)
  · skip
    refine jv_iconst (pc' := 17) (n := 0) rfl rfl ?_
    refine jv_retZ rfl rfl (by first | exact Or.inl rfl | exact Or.inr rfl) ⟨_, _, rfl, ?_⟩
    exact ⟨jq_f (by omega), rfl⟩
  · skip
    refine jv_iload_n (pc' := 7) (k := 0) (x := (iI x)) rfl rfl rfl rfl ?_
    refine jv_bipush (pc' := 9) (n := 57) rfl rfl rfl ?_
    refine jv_ic_gt (t := 16) (pc' := 12) (a := x) (b := 57) rfl rfl rfl (by omega) (fun h2 => ?_) (fun h2 => ?_)
    · skip
      refine jv_iconst (pc' := 17) (n := 0) rfl rfl ?_
      refine jv_retZ rfl rfl (by first | exact Or.inl rfl | exact Or.inr rfl) ⟨_, _, rfl, ?_⟩
      exact ⟨jq_f (by omega), rfl⟩
    · skip
      refine jv_iconst (pc' := 13) (n := 1) rfl rfl ?_
      refine jx_step (pc' := 17) rfl ?_
      refine jv_retZ rfl rfl (by first | exact Or.inl rfl | exact Or.inr rfl) ⟨_, _, rfl, ?_⟩
      exact ⟨jq_t (by omega), rfl⟩
theorem ml_isName {x : Int} {g : jm_H} (hx : iR x) : jc L xs d 114 [.int (iI x)] g (fun v g1 => v = some (.int (jb (97 ≤ x ∧ x ≤ 104))) ∧ g1 = g) := by
  unfold jc
  refine jv_iload_n (pc' := 1) (k := 0) (x := (iI x)) rfl rfl rfl rfl ?_
  refine jv_bipush (pc' := 3) (n := 97) rfl rfl rfl ?_
  refine jv_ic_lt (t := 16) (pc' := 6) (a := x) (b := 97) rfl rfl rfl (by omega) (fun h1 => ?_) (fun h1 => ?_)
  · skip
    refine jv_iconst (pc' := 17) (n := 0) rfl rfl ?_
    refine jv_retZ rfl rfl (by first | exact Or.inl rfl | exact Or.inr rfl) ⟨_, _, rfl, ?_⟩
    exact ⟨jq_f (by omega), rfl⟩
  · skip
    refine jv_iload_n (pc' := 7) (k := 0) (x := (iI x)) rfl rfl rfl rfl ?_
    refine jv_bipush (pc' := 9) (n := 104) rfl rfl rfl ?_
    refine jv_ic_gt (t := 16) (pc' := 12) (a := x) (b := 104) rfl rfl rfl (by omega) (fun h2 => ?_) (fun h2 => ?_)
    · skip
      refine jv_iconst (pc' := 17) (n := 0) rfl rfl ?_
      refine jv_retZ rfl rfl (by first | exact Or.inl rfl | exact Or.inr rfl) ⟨_, _, rfl, ?_⟩
      exact ⟨jq_f (by omega), rfl⟩
    · skip
      refine jv_iconst (pc' := 13) (n := 1) rfl rfl ?_
      refine jx_step (pc' := 17) rfl ?_
      refine jv_retZ rfl rfl (by first | exact Or.inl rfl | exact Or.inr rfl) ⟨_, _, rfl, ?_⟩
      exact ⟨jq_t (by omega), rfl⟩
theorem ml_takes_y {x : Int} (hx : iR x) (hT : MT I c n) (ha : I 103 19 = iI (a : Int)) (hb : a ≤ 100000) (hc : c a = x) : jc L xs (d + 1) 115 [.ref 103, .int (iI x)] (jx_G j I M p) (fun v g1 => v = some (.int (iI 1)) ∧ g1 = jx_G j (jm_u I 103 19 (iI ((a + 1 : Nat) : Int))) M p) := by
  have hm := MT_c hT a
  unfold jc
  refine jv_aload_n (pc' := 1) (k := 0) (x := 103) rfl rfl rfl rfl ?_
  refine jv_call (pc' := 4) rfl (ml_here hT ha hb) (fun vq1 gq1 q1 => ?_)
  obtain ⟨rfl, rfl⟩ := q1
  show jx L xs _ 115 4 _ [.int (iI (c a))] _ _
  refine jv_iload_n (pc' := 5) (k := 1) (x := (iI x)) rfl rfl rfl rfl ?_
  refine jv_ic_ne (t := 12) (pc' := 8) (a := (c a)) (b := x) rfl rfl rfl (by omega) (fun h2 => ?_) (fun h2 => ?_)
  · skip
    refine jv_iconst (pc' := 13) (n := 0) rfl rfl ?_
    refine jv_istore_n (pc' := 14) (k := 2) (x := (iI 0)) rfl rfl rfl rfl (Or.inr rfl) ?_
    refine jv_aload_n (pc' := 15) (k := 0) (x := 103) rfl rfl rfl rfl ?_
    refine jv_iload_n (pc' := 16) (k := 2) (x := (iI 0)) rfl rfl rfl rfl ?_
    refine jv_if_eq (t := 28) (pc' := 19) (a := 0) rfl rfl rfl (by omega) (fun h3 => ?_) (fun h3 => ?_)
    · skip
      refine jv_aload_n (pc' := 29) (k := 0) (x := 103) rfl rfl rfl rfl ?_
      refine jv_getI (pc' := 32) (c := 12) (k := 19) (v := (iI (a : Int))) rfl rfl rfl (fun _ _ => rfl) rfl rfl ha ?_
      refine jv_putI (pc' := 35) (c := 12) (k := 19) rfl rfl rfl rfl (fun _ _ _  => rfl) rfl rfl ?_
      refine jv_iload_n (pc' := 36) (k := 2) (x := (iI 0)) rfl rfl rfl rfl ?_
      refine jv_retZ rfl rfl (by first | exact Or.inl rfl | exact Or.inr rfl) ⟨_, _, rfl, ?_⟩
      first | (exfalso; omega) | exact ⟨rfl, rfl⟩
    · skip
      exact absurd h3 (by decide)
  · skip
    refine jv_iconst (pc' := 9) (n := 1) rfl rfl ?_
    refine jx_step (pc' := 13) rfl ?_
    refine jv_istore_n (pc' := 14) (k := 2) (x := (iI 1)) rfl rfl rfl rfl (Or.inr rfl) ?_
    refine jv_aload_n (pc' := 15) (k := 0) (x := 103) rfl rfl rfl rfl ?_
    refine jv_iload_n (pc' := 16) (k := 2) (x := (iI 1)) rfl rfl rfl rfl ?_
    refine jv_if_eq (t := 28) (pc' := 19) (a := 1) rfl rfl rfl (by omega) (fun h4 => ?_) (fun h4 => ?_)
    · skip
      exact absurd h4 (by decide)
    · skip
      refine jv_aload_n (pc' := 20) (k := 0) (x := 103) rfl rfl rfl rfl ?_
      refine jv_getI (pc' := 23) (c := 12) (k := 19) (v := (iI (a : Int))) rfl rfl rfl (fun _ _ => rfl) rfl rfl ha ?_
      refine jv_iconst (pc' := 24) (n := 1) rfl rfl ?_
      refine jv_iadd (pc' := 25) (a := (a : Int)) (b := 1) rfl rfl ?_
      refine jx_step (pc' := 32) rfl ?_
      refine jv_putI (pc' := 35) (c := 12) (k := 19) rfl rfl rfl rfl (fun _ _ _  => rfl) rfl rfl ?_
      refine jv_iload_n (pc' := 36) (k := 2) (x := (iI 1)) rfl rfl rfl rfl ?_
      refine jv_retZ rfl rfl (by first | exact Or.inl rfl | exact Or.inr rfl) ⟨_, _, rfl, ?_⟩
      first | (exfalso; omega) | exact ⟨rfl, rfl⟩
theorem ml_takes_n {x : Int} (hx : iR x) (hT : MT I c n) (ha : I 103 19 = iI (a : Int)) (hb : a ≤ 100000) (hc : ¬ c a = x) : jc L xs (d + 1) 115 [.ref 103, .int (iI x)] (jx_G j I M p) (fun v g1 => v = some (.int (iI 0)) ∧ g1 = jx_G j I M p) := by
  have hm := MT_c hT a
  unfold jc
  refine jv_aload_n (pc' := 1) (k := 0) (x := 103) rfl rfl rfl rfl ?_
  refine jv_call (pc' := 4) rfl (ml_here hT ha hb) (fun vq1 gq1 q1 => ?_)
  obtain ⟨rfl, rfl⟩ := q1
  show jx L xs _ 115 4 _ [.int (iI (c a))] _ _
  refine jv_iload_n (pc' := 5) (k := 1) (x := (iI x)) rfl rfl rfl rfl ?_
  refine jv_ic_ne (t := 12) (pc' := 8) (a := (c a)) (b := x) rfl rfl rfl (by omega) (fun h2 => ?_) (fun h2 => ?_)
  · skip
    refine jv_iconst (pc' := 13) (n := 0) rfl rfl ?_
    refine jv_istore_n (pc' := 14) (k := 2) (x := (iI 0)) rfl rfl rfl rfl (Or.inr rfl) ?_
    refine jv_aload_n (pc' := 15) (k := 0) (x := 103) rfl rfl rfl rfl ?_
    refine jv_iload_n (pc' := 16) (k := 2) (x := (iI 0)) rfl rfl rfl rfl ?_
    refine jv_if_eq (t := 28) (pc' := 19) (a := 0) rfl rfl rfl (by omega) (fun h3 => ?_) (fun h3 => ?_)
    · skip
      refine jv_aload_n (pc' := 29) (k := 0) (x := 103) rfl rfl rfl rfl ?_
      refine jv_getI (pc' := 32) (c := 12) (k := 19) (v := (iI (a : Int))) rfl rfl rfl (fun _ _ => rfl) rfl rfl ha ?_
      refine jv_putI (pc' := 35) (c := 12) (k := 19) rfl rfl rfl rfl (fun _ _ _  => rfl) rfl rfl ?_
      refine jv_iload_n (pc' := 36) (k := 2) (x := (iI 0)) rfl rfl rfl rfl ?_
      refine jv_retZ rfl rfl (by first | exact Or.inl rfl | exact Or.inr rfl) ⟨_, _, rfl, ?_⟩
      first | (exfalso; omega) | exact ⟨rfl, congrArg (fun z => jx_G j z M p) ((congrArg (jm_u I 103 19) ha.symm).trans (jm_u_id I 103 19))⟩
    · skip
      exact absurd h3 (by decide)
  · skip
    refine jv_iconst (pc' := 9) (n := 1) rfl rfl ?_
    refine jx_step (pc' := 13) rfl ?_
    refine jv_istore_n (pc' := 14) (k := 2) (x := (iI 1)) rfl rfl rfl rfl (Or.inr rfl) ?_
    refine jv_aload_n (pc' := 15) (k := 0) (x := 103) rfl rfl rfl rfl ?_
    refine jv_iload_n (pc' := 16) (k := 2) (x := (iI 1)) rfl rfl rfl rfl ?_
    refine jv_if_eq (t := 28) (pc' := 19) (a := 1) rfl rfl rfl (by omega) (fun h4 => ?_) (fun h4 => ?_)
    · skip
      exact absurd h4 (by decide)
    · skip
      refine jv_aload_n (pc' := 20) (k := 0) (x := 103) rfl rfl rfl rfl ?_
      refine jv_getI (pc' := 23) (c := 12) (k := 19) (v := (iI (a : Int))) rfl rfl rfl (fun _ _ => rfl) rfl rfl ha ?_
      refine jv_iconst (pc' := 24) (n := 1) rfl rfl ?_
      refine jv_iadd (pc' := 25) (a := (a : Int)) (b := 1) rfl rfl ?_
      refine jx_step (pc' := 32) rfl ?_
      refine jv_putI (pc' := 35) (c := 12) (k := 19) rfl rfl rfl rfl (fun _ _ _  => rfl) rfl rfl ?_
      refine jv_iload_n (pc' := 36) (k := 2) (x := (iI 1)) rfl rfl rfl rfl ?_
      refine jv_retZ rfl rfl (by first | exact Or.inl rfl | exact Or.inr rfl) ⟨_, _, rfl, ?_⟩
      first | (exfalso; omega) | exact ⟨rfl, congrArg (fun z => jx_G j z M p) ((congrArg (jm_u I 103 19) ha.symm).trans (jm_u_id I 103 19))⟩
theorem p10 (i : Nat) (h : i ≤ 6) : 1 ≤ (10 : Int) ^ i ∧ (10 : Int) ^ i ≤ 1000000 := by
  have : i = 0 ∨ i = 1 ∨ i = 2 ∨ i = 3 ∨ i = 4 ∨ i = 5 ∨ i = 6 := by omega
  rcases this with rfl | rfl | rfl | rfl | rfl | rfl | rfl <;> decide
theorem ndk_y {c : Nat → Int} {k a : Nat} (hk : 0 < k) (h : 48 ≤ c a ∧ c a ≤ 57) : ndk c k a = ndk c (k - 1) (a + 1) + 1 := by
  obtain ⟨m, rfl⟩ : ∃ m, k = m + 1 := ⟨k - 1, by omega⟩
  show (if dg (c a) then ndk c m (a + 1) + 1 else 0) = _
  rw [if_pos h]; rfl
theorem ndk_n {c : Nat → Int} {k a : Nat} (h : ¬ (48 ≤ c a ∧ c a ≤ 57)) : ndk c k a = 0 := by
  cases k with
  | zero => rfl
  | succ m => exact if_neg h
theorem nvk_s {c : Nat → Int} {m a : Nat} {v : Int} (h : 0 < m) : nvk c m a v = nvk c (m - 1) (a + 1) (10 * v + (c a - 48)) := by
  obtain ⟨q, rfl⟩ : ∃ q, m = q + 1 := ⟨m - 1, by omega⟩
  rfl
theorem ml_number (hT : MT I c n) (ha : I 103 19 = iI (a : Int)) (hb : a ≤ 100) : jc L xs (d + 1) 116 [.ref 103] (jx_G j I M p) (fun v g1 => v = some (.int (iI (if nd c a = 0 then -1 else nv c a))) ∧ g1 = jx_G j (jm_u I 103 19 (iI ((a + nd c a : Nat) : Int))) M p) := by
  unfold jc
  refine jv_iconst (pc' := 1) (n := -1) rfl rfl ?_
  refine jv_istore_n (pc' := 2) (k := 1) (x := (iI (-1))) rfl rfl rfl rfl (Or.inr rfl) ?_
  refine jv_iconst (pc' := 3) (n := 0) rfl rfl ?_
  refine jv_istore_n (pc' := 4) (k := 2) (x := (iI 0)) rfl rfl rfl rfl (Or.inr rfl) ?_
  have H1 : ∀ (N : Nat) (i : Nat) (v : Int), 6 - i < N → (i ≤ 6) → (ndk c (6 - i) (a + i) + i = nd c a) → (nvk c (nd c a - i) (a + i) (if i = 0 then 0 else v) = nv c a) → ((i = 0 ∧ v = -1) ∨ (0 < i ∧ 0 ≤ v ∧ v < (10 : Int) ^ i)) → ∀ f : jm_F, f 0 = some (.ref 103) → f 1 = some (.int (iI v)) → f 2 = some (.int (iI (i : Int))) → jx L xs ((d + 1)) 116 4 f [] (jx_G j (jm_u I 103 19 (iI ((a + i : Nat) : Int))) M p) (fun z => ∃ v g1, z = (.inl v, g1) ∧ (fun v g1 => v = some (.int (iI (if nd c a = 0 then -1 else nv c a))) ∧ g1 = jx_G j (jm_u I 103 19 (iI ((a + nd c a : Nat) : Int))) M p) v g1) := by
    intro N
    induction N with
    | zero => intro i v hN; exact absurd hN (Nat.not_lt_zero _)
    | succ N ih =>
      intro i v hN hi hq hw hv f hf0 hf1 hf2 
      refine jv_iload_n (pc' := 5) (k := 2) (x := (iI (i : Int))) rfl rfl rfl hf2 ?_
      refine jv_bipush (pc' := 7) (n := 6) rfl rfl rfl ?_
      refine jv_ic_ge (t := 57) (pc' := 10) (a := (i : Int)) (b := 6) rfl rfl rfl (by omega) (fun h2 => ?_) (fun h2 => ?_)
      · skip
        refine jv_iload_n (pc' := 58) (k := 1) (x := (iI v)) rfl rfl rfl hf1 ?_
        refine jv_retI rfl rfl ⟨_, _, rfl, ?_⟩
        have hz : nd c a = i := by
          first
          | (have h6 : 6 - i = 0 := by omega
             rw [h6] at hq; have : ndk c 0 (a + i) = 0 := rfl; omega)
          | (rw [ndk_n (by assumption)] at hq; omega)
        refine ⟨jq_i ?_, by rw [hz]⟩
        rw [hz, Nat.sub_self] at hw
        by_cases hi0 : i = 0
        · rw [hz, if_pos hi0]; omega
        · rw [hz, if_neg hi0]; rw [if_neg hi0] at hw; exact hw
      · skip
        have h10 := p10 i hi
        refine jv_aload_n (pc' := 11) (k := 0) (x := 103) rfl rfl rfl hf0 ?_
        refine jv_call (pc' := 14) rfl (ml_here (a := a + i) hT rfl (by omega)) (fun vq3 gq3 q3 => ?_)
        obtain ⟨rfl, rfl⟩ := q3
        show jx L xs _ 116 14 _ [.int (iI (c (a + i)))] _ _
        have hm := MT_c hT (a + i)
        refine jv_call (pc' := 17) rfl (ml_isDigit (by omega)) (fun vq4 gq4 q4 => ?_)
        obtain ⟨rfl, rfl⟩ := q4
        show jx L xs _ 116 17 _ [.int (jb (48 ≤ (c (a + i)) ∧ (c (a + i)) ≤ 57))] _ _
        refine jv_jb_eq (t := 57) (pc' := 20) (P := 48 ≤ (c (a + i)) ∧ (c (a + i)) ≤ 57) rfl rfl rfl (fun h5 => ?_) (fun h5 => ?_)
        · skip
          refine jv_iload_n (pc' := 58) (k := 1) (x := (iI v)) rfl rfl rfl hf1 ?_
          refine jv_retI rfl rfl ⟨_, _, rfl, ?_⟩
          have hz : nd c a = i := by
            first
            | (have h6 : 6 - i = 0 := by omega
               rw [h6] at hq; have : ndk c 0 (a + i) = 0 := rfl; omega)
            | (rw [ndk_n (by assumption)] at hq; omega)
          refine ⟨jq_i ?_, by rw [hz]⟩
          rw [hz, Nat.sub_self] at hw
          by_cases hi0 : i = 0
          · rw [hz, if_pos hi0]; omega
          · rw [hz, if_neg hi0]; rw [if_neg hi0] at hw; exact hw
        · skip
          have hdig := h5
          refine jv_iload_n (pc' := 21) (k := 1) (x := (iI v)) rfl rfl rfl hf1 ?_
          refine jv_if_ge (t := 28) (pc' := 24) (a := v) rfl rfl rfl (by omega) (fun h6 => ?_) (fun h6 => ?_)
          · skip
            refine jv_bipush (pc' := 30) (n := 10) rfl rfl rfl ?_
            refine jv_iload_n (pc' := 31) (k := 1) (x := (iI v)) rfl rfl rfl hf1 ?_
            refine jv_imul (pc' := 32) (a := 10) (b := v) rfl rfl ?_
            refine jv_aload_n (pc' := 33) (k := 0) (x := 103) rfl rfl rfl hf0 ?_
            refine jv_call (pc' := 36) rfl (ml_here (a := a + i) hT rfl (by omega)) (fun vq7 gq7 q7 => ?_)
            obtain ⟨rfl, rfl⟩ := q7
            show jx L xs _ 116 36 _ [.int (iI (c (a + i))), .int (iI (10 * v))] _ _
            refine jv_iadd (pc' := 37) (a := (10 * v)) (b := (c (a + i))) rfl rfl ?_
            refine jv_bipush (pc' := 39) (n := 48) rfl rfl rfl ?_
            refine jv_isub (pc' := 40) (a := ((10 * v) + (c (a + i)))) (b := 48) rfl rfl ?_
            refine jv_istore_n (pc' := 41) (k := 1) (x := (iI (((10 * v) + (c (a + i))) - 48))) rfl rfl rfl rfl (Or.inr (congrArg jm_lng hf0)) ?_
            refine jv_aload_n (pc' := 42) (k := 0) (x := 103) rfl rfl rfl hf0 ?_
            refine jx_step (pc' := 43) rfl ?_
            refine jv_getI (pc' := 46) (c := 12) (k := 19) (v := (iI ((a + i : Nat) : Int))) rfl rfl rfl (fun _ _ => rfl) rfl rfl rfl ?_
            refine jv_iconst (pc' := 47) (n := 1) rfl rfl ?_
            refine jv_iadd (pc' := 48) (a := ((a + i : Nat) : Int)) (b := 1) rfl rfl ?_
            refine jv_putI (pc' := 51) (c := 12) (k := 19) rfl rfl rfl rfl (fun _ _ _  => rfl) rfl rfl ?_
            refine jv_iinc (pc' := 54) (k := 2) (a := (i : Int)) rfl rfl hf2 rfl (Or.inr rfl) ?_
            refine jx_step (pc' := 4) rfl ?_
            refine jx_cast (g' := jx_G j (jm_u I 103 19 (iI ((a + (i + 1) : Nat) : Int))) M p) (congrArg (fun z => jx_G j z M p) (jm_u_uv (congrArg iI (by omega)))) ?_
            exact ih (i + 1) (((10 * v) + (c (a + i))) - 48) (by omega) (by omega) (by rw [ndk_y (by omega) hdig] at hq; rw [show 6 - (i + 1) = 6 - i - 1 by omega, show a + (i + 1) = a + i + 1 by omega]; omega) (by rw [nvk_s (by rw [ndk_y (by omega) hdig] at hq; omega)] at hw; rw [show nd c a - (i + 1) = nd c a - i - 1 by omega, show a + (i + 1) = a + i + 1 by omega, if_neg (Nat.succ_ne_zero i), ← hw]; congr 1; rw [if_neg (by omega)]; omega) (by have := Int.pow_succ (10 : Int) i; omega) _ hf0 rfl rfl 
          · skip
            refine jv_iconst (pc' := 25) (n := 0) rfl rfl ?_
            refine jx_step (pc' := 32) rfl ?_
            refine jv_aload_n (pc' := 33) (k := 0) (x := 103) rfl rfl rfl hf0 ?_
            refine jv_call (pc' := 36) rfl (ml_here (a := a + i) hT rfl (by omega)) (fun vq8 gq8 q8 => ?_)
            obtain ⟨rfl, rfl⟩ := q8
            show jx L xs _ 116 36 _ [.int (iI (c (a + i))), .int (iI 0)] _ _
            refine jv_iadd (pc' := 37) (a := 0) (b := (c (a + i))) rfl rfl ?_
            refine jv_bipush (pc' := 39) (n := 48) rfl rfl rfl ?_
            refine jv_isub (pc' := 40) (a := (0 + (c (a + i)))) (b := 48) rfl rfl ?_
            refine jv_istore_n (pc' := 41) (k := 1) (x := (iI ((0 + (c (a + i))) - 48))) rfl rfl rfl rfl (Or.inr (congrArg jm_lng hf0)) ?_
            refine jv_aload_n (pc' := 42) (k := 0) (x := 103) rfl rfl rfl hf0 ?_
            refine jx_step (pc' := 43) rfl ?_
            refine jv_getI (pc' := 46) (c := 12) (k := 19) (v := (iI ((a + i : Nat) : Int))) rfl rfl rfl (fun _ _ => rfl) rfl rfl rfl ?_
            refine jv_iconst (pc' := 47) (n := 1) rfl rfl ?_
            refine jv_iadd (pc' := 48) (a := ((a + i : Nat) : Int)) (b := 1) rfl rfl ?_
            refine jv_putI (pc' := 51) (c := 12) (k := 19) rfl rfl rfl rfl (fun _ _ _  => rfl) rfl rfl ?_
            refine jv_iinc (pc' := 54) (k := 2) (a := (i : Int)) rfl rfl hf2 rfl (Or.inr rfl) ?_
            refine jx_step (pc' := 4) rfl ?_
            refine jx_cast (g' := jx_G j (jm_u I 103 19 (iI ((a + (i + 1) : Nat) : Int))) M p) (congrArg (fun z => jx_G j z M p) (jm_u_uv (congrArg iI (by omega)))) ?_
            exact ih (i + 1) ((0 + (c (a + i))) - 48) (by omega) (by omega) (by rw [ndk_y (by omega) hdig] at hq; rw [show 6 - (i + 1) = 6 - i - 1 by omega, show a + (i + 1) = a + i + 1 by omega]; omega) (by rw [nvk_s (by rw [ndk_y (by omega) hdig] at hq; omega)] at hw; rw [show nd c a - (i + 1) = nd c a - i - 1 by omega, show a + (i + 1) = a + i + 1 by omega, if_neg (Nat.succ_ne_zero i), ← hw]; congr 1; rw [if_pos (by omega)]; omega) (by have := Int.pow_succ (10 : Int) i; omega) _ hf0 rfl rfl 
  refine jx_cast (g' := jx_G j (jm_u I 103 19 (iI ((a + 0 : Nat) : Int))) M p) (congrArg (fun z => jx_G j z M p) (jm_u_iv ha)) ?_
  exact H1 _ 0 (-1) (Nat.lt_succ_self _) (by omega) rfl rfl (Or.inl ⟨rfl, rfl⟩) _ rfl rfl rfl 
end M1
