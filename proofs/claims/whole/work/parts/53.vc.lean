/-! printed by wip/whole/gen/rules.py: numbers, the heap of phase 2, a rule for each instruction -/
def iI (z : Int) : Int32 := Int32.ofInt z
def lI (z : Int) : Int64 := Int64.ofInt z
abbrev iR (z : Int) : Prop := -2147483648 ≤ z ∧ z < 2147483648
abbrev lR (z : Int) : Prop := -9223372036854775808 ≤ z ∧ z < 9223372036854775808
theorem iI_of (x : Int32) : ∃ z, iR z ∧ x = iI z := ⟨x.toInt, ⟨Int32.le_toInt x, Int32.toInt_lt x⟩, (Int32.ofInt_toInt x).symm⟩
theorem lI_of (x : Int64) : ∃ z, lR z ∧ x = lI z := ⟨x.toInt, ⟨Int64.le_toInt x, Int64.toInt_lt x⟩, (Int64.ofInt_toInt x).symm⟩
theorem iI_T {z : Int} (h : iR z) : (iI z).toInt = z := Int32.toInt_ofInt_of_le h.1 h.2
theorem lI_T {z : Int} (h : lR z) : (lI z).toInt = z := Int64.toInt_ofInt_of_le h.1 h.2
theorem iI_add (a b : Int) : iI a + iI b = iI (a + b) := (Int32.ofInt_add a b).symm
theorem iI_sub (a b : Int) : iI a - iI b = iI (a - b) := (Int32.ofInt_sub a b).symm
theorem iI_mul (a b : Int) : iI a * iI b = iI (a * b) := (Int32.ofInt_mul a b).symm
theorem iI_neg (a : Int) : -iI a = iI (-a) := (Int32.ofInt_neg a).symm
theorem lI_add (a b : Int) : lI a + lI b = lI (a + b) := (Int64.ofInt_add a b).symm
theorem lI_sub (a b : Int) : lI a - lI b = lI (a - b) := (Int64.ofInt_sub a b).symm
theorem lI_mul (a b : Int) : lI a * lI b = lI (a * b) := (Int64.ofInt_mul a b).symm
theorem iI_eq {a b : Int} (h : iR a ∧ iR b) : iI a = iI b ↔ a = b := by
  rw [← Int32.toInt_inj, iI_T h.1, iI_T h.2]
theorem iI_lt {a b : Int} (h : iR a ∧ iR b) : iI a < iI b ↔ a < b := by
  rw [Int32.lt_iff_toInt_lt, iI_T h.1, iI_T h.2]
theorem iI_le {a b : Int} (h : iR a ∧ iR b) : iI a ≤ iI b ↔ a ≤ b := by
  rw [Int32.le_iff_toInt_le, iI_T h.1, iI_T h.2]
theorem lI_eq {a b : Int} (h : lR a ∧ lR b) : lI a = lI b ↔ a = b := by
  rw [← Int64.toInt_inj, lI_T h.1, lI_T h.2]
theorem lI_lt {a b : Int} (h : lR a ∧ lR b) : lI a < lI b ↔ a < b := by
  rw [Int64.lt_iff_toInt_lt, lI_T h.1, lI_T h.2]
theorem lI_le {a b : Int} (h : lR a ∧ lR b) : lI a ≤ lI b ↔ a ≤ b := by
  rw [Int64.le_iff_toInt_le, lI_T h.1, lI_T h.2]
theorem iI_N {z : Int} (h : iR z) : (iI z).toNatClampNeg = z.toNat := by
  show (iI z).toInt.toNat = z.toNat
  rw [iI_T h]
theorem iI_in {z : Int} {n : Nat} (h : 0 ≤ z ∧ z < n) (hn : n < 2147483648) : jm_inb (iI z) n = true := by
  unfold jm_inb
  have hz : iR z := ⟨by omega, by omega⟩
  refine decide_eq_true ?_
  rintro (q | q)
  · have : iI z < iI 0 := q
    rw [iI_lt ⟨hz, by omega⟩] at this
    omega
  · rw [iI_N hz] at q
    omega
theorem iI_b8 {n : Int} (h : -128 ≤ n ∧ n < 128) : (Int8.ofInt n).toInt32 = iI n := by
  rw [← Int32.toInt_inj, Int8.toInt_toInt32, Int8.toInt_ofInt_of_le h.1 h.2, iI_T ⟨by omega, by omega⟩]
theorem iI_b16 {n : Int} (h : -32768 ≤ n ∧ n < 32768) : (Int16.ofInt n).toInt32 = iI n := by
  rw [← Int32.toInt_inj, Int16.toInt_toInt32, Int16.toInt_ofInt_of_le h.1 h.2, iI_T ⟨by omega, by omega⟩]
theorem iI_l {z : Int} (h : iR z) : (iI z).toInt64 = lI z := by
  rw [← Int64.toInt_inj, Int32.toInt_toInt64, iI_T h, lI_T ⟨by omega, by omega⟩]
theorem lI_i (z : Int) : (lI z).toInt32 = iI z := by
  rw [← Int32.toInt_inj]
  simp [lI, iI]
theorem iI_len (n : Nat) : Int32.ofNat n = iI n := rfl
/-- a truth value -/
noncomputable def jb (P : Prop) : Int32 := @ite _ P (Classical.propDecidable P) (iI 1) (iI 0)
theorem jb_t {P : Prop} (h : P) : jb P = iI 1 := if_pos h
theorem jb_f {P : Prop} (h : ¬ P) : jb P = iI 0 := if_neg h
theorem jb_e {P P' : Prop} (h : P ↔ P') : jb P = jb P' := by rw [propext h]
theorem iI_10 : ¬ iI 1 = 0 := by decide
theorem iI_00 : iI 0 = 0 := by decide
theorem jb_01 (P : Prop) : jb P = 0 ∨ jb P = 1 := by
  by_cases h : P
  · exact Or.inr (jb_t h)
  · exact Or.inl (jb_f h)
theorem jb_0 (P : Prop) : jb P = 0 ↔ ¬ P := by
  by_cases h : P
  · rw [jb_t h]; exact ⟨fun q => absurd q iI_10, fun q => absurd h q⟩
  · rw [jb_f h]; exact ⟨fun _ => h, fun _ => iI_00⟩
/-- the heap as phase 2 has it: every label there, immutable references as the constructors made them, the others by p -/
def jx_mut : List (Nat × Nat × Nat) := [(0, 9, 0), (13, 0, 1), (13, 1, 2), (13, 2, 3), (13, 3, 4), (13, 4, 5), (13, 5, 6), (13, 6, 7), (13, 7, 8), (13, 8, 9), (13, 9, 10), (13, 10, 11), (13, 11, 12), (42, 0, 13), (42, 1, 14), (42, 2, 15), (42, 3, 16), (38, 5, 17), (38, 6, 18), (11, 0, 19), (10, 1, 20), (96, 0, 21), (95, 4, 22)]
def jx_mi (a k : Nat) : Option Nat := (jx_mut.find? (fun r => r.1 == a && r.2.1 == k)).map (fun r => r.2.2)
def jx_R (p : Nat → Option Nat) (a k : Nat) : Option Nat := match jx_mi a k with
  | some i => p i
  | none => jx_R1 a k
abbrev jx_G (j : Nat) (I : Nat → Nat → Int32) (M : Nat → Nat → Int64) (p : Nat → Option Nat) : jm_H := (139, j, I, M, jx_R p)
theorem jx_mut_inj : ∀ r ∈ jx_mut, ∀ q ∈ jx_mut, r.2.2 = q.2.2 → r = q := by decide +kernel
theorem jx_R_set (p : Nat → Option Nat) {a k i : Nat} (h : jx_mi a k = some i) (v : Option Nat) : jm_u (jx_R p) a k v = jx_R (fun j => if j = i then v else p j) := by
  have hm : (a, k, i) ∈ jx_mut := jm_find2 h
  funext b j
  unfold jm_u jx_R
  by_cases hb : b = a
  · subst hb
    by_cases hj : j = k
    · subst hj
      rw [if_pos rfl, if_pos rfl, h]
      simp
    · rw [if_pos rfl, if_neg hj]
      cases hq : jx_mi b j with
      | none => rfl
      | some i2 =>
        have hm2 : (b, j, i2) ∈ jx_mut := jm_find2 hq
        dsimp only
        rw [if_neg]
        intro he
        subst he
        have := jx_mut_inj _ hm _ hm2 rfl
        cases this
        exact hj rfl
  · rw [if_neg hb]
    cases hq : jx_mi b j with
    | none => rfl
    | some i2 =>
      have hm2 : (b, j, i2) ∈ jx_mut := jm_find2 hq
      dsimp only
      rw [if_neg]
      intro he
      subst he
      have := jx_mut_inj _ hm _ hm2 rfl
      cases this
      exact hb rfl
theorem lI_cmp {a b : Int} (h : lR a ∧ lR b) : lg_cmp (lI a) (lI b) = iI (if a < b then -1 else if a = b then 0 else 1) := by
  unfold lg_cmp
  have e1 : (lI a > lI b) ↔ b < a := lI_lt ⟨h.2, h.1⟩
  have e2 := lI_eq h
  by_cases h1 : a < b
  · rw [if_neg (fun q => by have := e1.1 q; omega), if_neg (fun q => by have := e2.1 q; omega), if_pos h1]; rfl
  · by_cases h2 : a = b
    · rw [if_neg (fun q => by have := e1.1 q; omega), if_pos (e2.2 h2), if_neg h1, if_pos h2]; rfl
    · rw [if_pos (e1.2 (by omega)), if_neg h1, if_neg h2]; rfl
theorem jm_u_n2 {α : Type} {f : Nat → Nat → α} {a k b j : Nat} {v : α} (h : ¬ (b = a ∧ j = k)) : jm_u f a k v b j = f b j := by
  unfold jm_u
  by_cases h1 : b = a
  · rw [if_pos h1, if_neg (fun h2 => h ⟨h1, h2⟩)]
  · rw [if_neg h1]
theorem jm_u_eq {α : Type} {f : Nat → Nat → α} {a k b j : Nat} {v : α} (h : b = a ∧ j = k) : jm_u f a k v b j = v := by
  unfold jm_u
  rw [if_pos h.1, if_pos h.2]
theorem jm_u_u {α : Type} (f : Nat → Nat → α) (a k : Nat) (v w : α) : jm_u (jm_u f a k v) a k w = jm_u f a k w := by
  funext b j
  unfold jm_u
  by_cases h1 : b = a <;> by_cases h2 : j = k <;> simp [h1, h2]
theorem jm_u_id {α : Type} (f : Nat → Nat → α) (a k : Nat) : jm_u f a k (f a k) = f := by
  funext b j
  unfold jm_u
  by_cases h1 : b = a <;> by_cases h2 : j = k <;> simp [h1, h2]
theorem jm_u_c {α : Type} (f : Nat → Nat → α) (a k b j : Nat) (v w : α) (h : ¬ (a = b ∧ k = j)) : jm_u (jm_u f a k v) b j w = jm_u (jm_u f b j w) a k v := by
  funext c i
  unfold jm_u
  by_cases h1 : c = a <;> by_cases h2 : c = b <;> by_cases h3 : i = k <;> by_cases h4 : i = j <;> simp_all

section JV
variable {L : Nat} {xs : Nat → Int32} {d mi pc : Nat} {f : jm_F} {st r : List Value} {g : jm_H} {Q : jm_O → Prop} {j : Nat} {I : Nat → Nat → Int32} {M : Nat → Nat → Int64} {p : Nat → Option Nat}
theorem jv_iload_n {k pc' : Nat} {k4 : Fin 4} {x : Int32} (ht : jm_tab mi pc = some (.iload_n k4, 1)) (hk4 : (k4 : Nat) = k) (hp : pc + 1 = pc') (hf : f k = some (.int x)) (kk : jx L xs d mi pc' f (.int x :: st) g Q) : jx L xs d mi pc f (st) g Q := by
  subst hp
  subst hk4
  exact jx_step (jx_ins ht rfl (by simp [jm_ins, jm_p1, hf])) kk
theorem jv_iload {k pc' : Nat} {x : Int32} (ht : jm_tab mi pc = some (.iload k, 2)) (hp : pc + 2 = pc') (hf : f k = some (.int x)) (kk : jx L xs d mi pc' f (.int x :: st) g Q) : jx L xs d mi pc f (st) g Q := by
  subst hp
  exact jx_step (jx_ins ht rfl (by simp [jm_ins, jm_p1, hf])) kk
theorem jv_istore_n {k pc' : Nat} {k4 : Fin 4} {x : Int32} (ht : jm_tab mi pc = some (.istore_n k4, 1)) (hk4 : (k4 : Nat) = k) (hp : pc + 1 = pc') (hk : decide (k < jm_ml mi) = true) (hl : k = 0 ∨ jm_lng (f (k - 1)) = false) (kk : jx L xs d mi pc' (jm_upd f k (some (.int x))) (r) g Q) : jx L xs d mi pc f (.int x :: r) g Q := by
  subst hp
  have hs : jm_st1 (jm_ml mi) f k (.int x) = some (jm_upd f k (some (.int x))) := by
    unfold jm_st1
    rw [if_pos]
    refine ⟨of_decide_eq_true hk, fun q => ?_⟩
    rcases hl with hl | hl
    · exact q.1 hl
    · rw [hl] at q; cases q.2
  exact jx_step (jx_ins ht rfl (by simp [jm_ins, jm_p1, hk4, hs])) kk
theorem jv_istore {k pc' : Nat} {x : Int32} (ht : jm_tab mi pc = some (.istore k, 2)) (hp : pc + 2 = pc') (hk : decide (k < jm_ml mi) = true) (hl : k = 0 ∨ jm_lng (f (k - 1)) = false) (kk : jx L xs d mi pc' (jm_upd f k (some (.int x))) (r) g Q) : jx L xs d mi pc f (.int x :: r) g Q := by
  subst hp
  have hs : jm_st1 (jm_ml mi) f k (.int x) = some (jm_upd f k (some (.int x))) := by
    unfold jm_st1
    rw [if_pos]
    refine ⟨of_decide_eq_true hk, fun q => ?_⟩
    rcases hl with hl | hl
    · exact q.1 hl
    · rw [hl] at q; cases q.2
  exact jx_step (jx_ins ht rfl (by simp [jm_ins, jm_p1, hs])) kk
theorem jv_lload_n {k pc' : Nat} {k4 : Fin 4} {x : Int64} (ht : jm_tab mi pc = some (.lload_n k4, 1)) (hk4 : (k4 : Nat) = k) (hp : pc + 1 = pc') (hf : f k = some (.long x)) (kk : jx L xs d mi pc' f (.long x :: st) g Q) : jx L xs d mi pc f (st) g Q := by
  subst hp
  subst hk4
  exact jx_step (jx_ins ht rfl (by simp [jm_ins, jm_p1, hf])) kk
theorem jv_lload {k pc' : Nat} {x : Int64} (ht : jm_tab mi pc = some (.lload k, 2)) (hp : pc + 2 = pc') (hf : f k = some (.long x)) (kk : jx L xs d mi pc' f (.long x :: st) g Q) : jx L xs d mi pc f (st) g Q := by
  subst hp
  exact jx_step (jx_ins ht rfl (by simp [jm_ins, jm_p1, hf])) kk
theorem jv_lstore_n {k pc' : Nat} {k4 : Fin 4} {x : Int64} (ht : jm_tab mi pc = some (.lstore_n k4, 1)) (hk4 : (k4 : Nat) = k) (hp : pc + 1 = pc') (hk : decide (k + 1 < jm_ml mi) = true) (hl : k = 0 ∨ jm_lng (f (k - 1)) = false) (kk : jx L xs d mi pc' (jm_upd (jm_upd f (k + 1) none) k (some (.long x))) (r) g Q) : jx L xs d mi pc f (.long x :: r) g Q := by
  subst hp
  have hs : jm_st2 (jm_ml mi) f k (.long x) = some (jm_upd (jm_upd f (k + 1) none) k (some (.long x))) := by
    unfold jm_st2
    rw [if_pos]
    refine ⟨of_decide_eq_true hk, fun q => ?_⟩
    rcases hl with hl | hl
    · exact q.1 hl
    · rw [hl] at q; cases q.2
  exact jx_step (jx_ins ht rfl (by simp [jm_ins, jm_p1, hk4, hs])) kk
theorem jv_lstore {k pc' : Nat} {x : Int64} (ht : jm_tab mi pc = some (.lstore k, 2)) (hp : pc + 2 = pc') (hk : decide (k + 1 < jm_ml mi) = true) (hl : k = 0 ∨ jm_lng (f (k - 1)) = false) (kk : jx L xs d mi pc' (jm_upd (jm_upd f (k + 1) none) k (some (.long x))) (r) g Q) : jx L xs d mi pc f (.long x :: r) g Q := by
  subst hp
  have hs : jm_st2 (jm_ml mi) f k (.long x) = some (jm_upd (jm_upd f (k + 1) none) k (some (.long x))) := by
    unfold jm_st2
    rw [if_pos]
    refine ⟨of_decide_eq_true hk, fun q => ?_⟩
    rcases hl with hl | hl
    · exact q.1 hl
    · rw [hl] at q; cases q.2
  exact jx_step (jx_ins ht rfl (by simp [jm_ins, jm_p1, hs])) kk
theorem jv_aload_n {k pc' : Nat} {k4 : Fin 4} {x : Nat} (ht : jm_tab mi pc = some (.aload_n k4, 1)) (hk4 : (k4 : Nat) = k) (hp : pc + 1 = pc') (hf : f k = some (.ref x)) (kk : jx L xs d mi pc' f (.ref x :: st) g Q) : jx L xs d mi pc f (st) g Q := by
  subst hp
  subst hk4
  exact jx_step (jx_ins ht rfl (by simp [jm_ins, jm_p1, hf])) kk
theorem jv_aload {k pc' : Nat} {x : Nat} (ht : jm_tab mi pc = some (.aload k, 2)) (hp : pc + 2 = pc') (hf : f k = some (.ref x)) (kk : jx L xs d mi pc' f (.ref x :: st) g Q) : jx L xs d mi pc f (st) g Q := by
  subst hp
  exact jx_step (jx_ins ht rfl (by simp [jm_ins, jm_p1, hf])) kk
theorem jv_astore_n {k pc' : Nat} {k4 : Fin 4} {x : Nat} (ht : jm_tab mi pc = some (.astore_n k4, 1)) (hk4 : (k4 : Nat) = k) (hp : pc + 1 = pc') (hk : decide (k < jm_ml mi) = true) (hl : k = 0 ∨ jm_lng (f (k - 1)) = false) (kk : jx L xs d mi pc' (jm_upd f k (some (.ref x))) (r) g Q) : jx L xs d mi pc f (.ref x :: r) g Q := by
  subst hp
  have hs : jm_st1 (jm_ml mi) f k (.ref x) = some (jm_upd f k (some (.ref x))) := by
    unfold jm_st1
    rw [if_pos]
    refine ⟨of_decide_eq_true hk, fun q => ?_⟩
    rcases hl with hl | hl
    · exact q.1 hl
    · rw [hl] at q; cases q.2
  exact jx_step (jx_ins ht rfl (by simp [jm_ins, jm_p1, hk4, hs])) kk
theorem jv_astore {k pc' : Nat} {x : Nat} (ht : jm_tab mi pc = some (.astore k, 2)) (hp : pc + 2 = pc') (hk : decide (k < jm_ml mi) = true) (hl : k = 0 ∨ jm_lng (f (k - 1)) = false) (kk : jx L xs d mi pc' (jm_upd f k (some (.ref x))) (r) g Q) : jx L xs d mi pc f (.ref x :: r) g Q := by
  subst hp
  have hs : jm_st1 (jm_ml mi) f k (.ref x) = some (jm_upd f k (some (.ref x))) := by
    unfold jm_st1
    rw [if_pos]
    refine ⟨of_decide_eq_true hk, fun q => ?_⟩
    rcases hl with hl | hl
    · exact q.1 hl
    · rw [hl] at q; cases q.2
  exact jx_step (jx_ins ht rfl (by simp [jm_ins, jm_p1, hs])) kk
theorem jv_iinc {k pc' : Nat} {n : Int} {a : Int} (ht : jm_tab mi pc = some (.iinc k n, 3)) (hp : pc + 3 = pc') (hf : f k = some (.int (iI a))) (hk : decide (k < jm_ml mi) = true) (hl : k = 0 ∨ jm_lng (f (k - 1)) = false) (kk : jx L xs d mi pc' (jm_upd f k (some (.int (iI (a + n))))) (st) g Q) : jx L xs d mi pc f (st) g Q := by
  subst hp
  have hs : jm_st1 (jm_ml mi) f k (.int (iI (a + n))) = some (jm_upd f k (some (.int (iI (a + n))))) := by
    unfold jm_st1
    rw [if_pos]
    refine ⟨of_decide_eq_true hk, fun q => ?_⟩
    rcases hl with hl | hl
    · exact q.1 hl
    · rw [hl] at q; cases q.2
  have he : iI a + Int32.ofInt n = iI (a + n) := iI_add a n
  exact jx_step (jx_ins ht rfl (by simp [jm_ins, jm_p1, hf, he, hs])) kk
theorem jv_iconst {pc' : Nat} {n : Int} (ht : jm_tab mi pc = some (.iconst n, 1)) (hp : pc + 1 = pc') (kk : jx L xs d mi pc' f (.int (iI n) :: st) g Q) : jx L xs d mi pc f (st) g Q := by
  subst hp
  exact jx_step (jx_ins ht rfl (by simp [jm_ins, jm_p1, iI])) kk
theorem jv_bipush {pc' : Nat} {n : Int} (ht : jm_tab mi pc = some (.bipush n, 2)) (hp : pc + 2 = pc') (hn : decide (-128 ≤ n ∧ n < 128) = true) (kk : jx L xs d mi pc' f (.int (iI n) :: st) g Q) : jx L xs d mi pc f (st) g Q := by
  subst hp
  exact jx_step (jx_ins ht rfl (by simp [jm_ins, jm_p1, iI_b8 (of_decide_eq_true hn)])) kk
theorem jv_sipush {pc' : Nat} {n : Int} (ht : jm_tab mi pc = some (.sipush n, 3)) (hp : pc + 3 = pc') (hn : decide (-32768 ≤ n ∧ n < 32768) = true) (kk : jx L xs d mi pc' f (.int (iI n) :: st) g Q) : jx L xs d mi pc f (st) g Q := by
  subst hp
  exact jx_step (jx_ins ht rfl (by simp [jm_ins, jm_p1, iI_b16 (of_decide_eq_true hn)])) kk
theorem jv_iadd {pc' : Nat} {a b : Int} (ht : jm_tab mi pc = some (.iadd, 1)) (hp : pc + 1 = pc') (kk : jx L xs d mi pc' f (.int (iI (a + b)) :: r) g Q) : jx L xs d mi pc f (.int (iI b) :: .int (iI a) :: r) g Q := by
  subst hp
  exact jx_step (jx_ins ht rfl (by simp [jm_ins, jm_p1, jm_p2, iI_add])) kk
theorem jv_isub {pc' : Nat} {a b : Int} (ht : jm_tab mi pc = some (.isub, 1)) (hp : pc + 1 = pc') (kk : jx L xs d mi pc' f (.int (iI (a - b)) :: r) g Q) : jx L xs d mi pc f (.int (iI b) :: .int (iI a) :: r) g Q := by
  subst hp
  exact jx_step (jx_ins ht rfl (by simp [jm_ins, jm_p1, jm_p2, iI_sub])) kk
theorem jv_imul {pc' : Nat} {a b : Int} (ht : jm_tab mi pc = some (.imul, 1)) (hp : pc + 1 = pc') (kk : jx L xs d mi pc' f (.int (iI (a * b)) :: r) g Q) : jx L xs d mi pc f (.int (iI b) :: .int (iI a) :: r) g Q := by
  subst hp
  exact jx_step (jx_ins ht rfl (by simp [jm_ins, jm_p1, jm_p2, iI_mul])) kk
theorem jv_ladd {pc' : Nat} {a b : Int} (ht : jm_tab mi pc = some (.ladd, 1)) (hp : pc + 1 = pc') (kk : jx L xs d mi pc' f (.long (lI (a + b)) :: r) g Q) : jx L xs d mi pc f (.long (lI b) :: .long (lI a) :: r) g Q := by
  subst hp
  exact jx_step (jx_ins ht rfl (by simp [jm_ins, jm_p1, jm_p2, lI_add])) kk
theorem jv_lsub {pc' : Nat} {a b : Int} (ht : jm_tab mi pc = some (.lsub, 1)) (hp : pc + 1 = pc') (kk : jx L xs d mi pc' f (.long (lI (a - b)) :: r) g Q) : jx L xs d mi pc f (.long (lI b) :: .long (lI a) :: r) g Q := by
  subst hp
  exact jx_step (jx_ins ht rfl (by simp [jm_ins, jm_p1, jm_p2, lI_sub])) kk
theorem jv_lmul {pc' : Nat} {a b : Int} (ht : jm_tab mi pc = some (.lmul, 1)) (hp : pc + 1 = pc') (kk : jx L xs d mi pc' f (.long (lI (a * b)) :: r) g Q) : jx L xs d mi pc f (.long (lI b) :: .long (lI a) :: r) g Q := by
  subst hp
  exact jx_step (jx_ins ht rfl (by simp [jm_ins, jm_p1, jm_p2, lI_mul])) kk
theorem jv_i2l {pc' : Nat} {a : Int} (ht : jm_tab mi pc = some (.i2l, 1)) (hp : pc + 1 = pc') (ha : iR a) (kk : jx L xs d mi pc' f (.long (lI a) :: r) g Q) : jx L xs d mi pc f (.int (iI a) :: r) g Q := by
  subst hp
  exact jx_step (jx_ins ht rfl (by simp [jm_ins, jm_p1, jm_p2, iI_l ha])) kk
theorem jv_l2i {pc' : Nat} {a : Int} (ht : jm_tab mi pc = some (.l2i, 1)) (hp : pc + 1 = pc') (kk : jx L xs d mi pc' f (.int (iI a) :: r) g Q) : jx L xs d mi pc f (.long (lI a) :: r) g Q := by
  subst hp
  exact jx_step (jx_ins ht rfl (by simp [jm_ins, jm_p1, jm_p2, lI_i])) kk
theorem jv_int {pc' : Nat} {x y : Int32} {st' : List Value} (h : jm_step L xs mi pc f st g = some (.inl (pc', f, .int x :: st', g))) (he : x = y) (kk : jx L xs d mi pc' f (.int y :: st') g Q) : jx L xs d mi pc f (st) g Q := by
  subst he
  exact jx_step h kk
theorem jv_long {pc' : Nat} {x y : Int64} {st' : List Value} (h : jm_step L xs mi pc f st g = some (.inl (pc', f, .long x :: st', g))) (he : x = y) (kk : jx L xs d mi pc' f (.long y :: st') g Q) : jx L xs d mi pc f (st) g Q := by
  subst he
  exact jx_step h kk
theorem jx_if_eq {t pc' : Nat} {x : Int32} {off : Int} (ht : jm_tab mi pc = some (.ifCond .eq off, 3)) (hg : jm_tg pc off = some t) (hp : pc + 3 = pc') (kt : x = 0 → jx L xs d mi t f r g Q) (kf : ¬ (x = 0) → jx L xs d mi pc' f r g Q) : jx L xs d mi pc f (.int x :: r) g Q := by
  subst hp
  by_cases h : x = 0
  · exact jx_step (jx_ins ht rfl (by simp [jm_ins, jm_p1, jm_p2, jm_p3, jm_cb, h, hg])) (kt h)
  · exact jx_step (jx_ins ht rfl (by simp [jm_ins, jm_p1, jm_p2, jm_p3, jm_cb, h])) (kf h)
theorem jx_ic_eq {t pc' : Nat} {x y : Int32} {off : Int} (ht : jm_tab mi pc = some (.if_icmp .eq off, 3)) (hg : jm_tg pc off = some t) (hp : pc + 3 = pc') (kt : x = y → jx L xs d mi t f r g Q) (kf : ¬ (x = y) → jx L xs d mi pc' f r g Q) : jx L xs d mi pc f (.int y :: .int x :: r) g Q := by
  subst hp
  by_cases h : x = y
  · exact jx_step (jx_ins ht rfl (by simp [jm_ins, jm_p1, jm_p2, jm_p3, jm_cb, h, hg])) (kt h)
  · exact jx_step (jx_ins ht rfl (by simp [jm_ins, jm_p1, jm_p2, jm_p3, jm_cb, h])) (kf h)
theorem jv_ic_eq {t pc' : Nat} {a b : Int} {off : Int} (ht : jm_tab mi pc = some (.if_icmp .eq off, 3)) (hg : jm_tg pc off = some t) (hp : pc + 3 = pc') (h : iR a ∧ iR b) (kt : a = b → jx L xs d mi t f r g Q) (kf : ¬ (a = b) → jx L xs d mi pc' f r g Q) : jx L xs d mi pc f (.int (iI b) :: .int (iI a) :: r) g Q :=
  jx_ic_eq ht hg hp (fun q => kt ((iI_eq h).1 q)) (fun q => kf (fun z => q ((iI_eq h).2 z)))
theorem jv_if_eq {t pc' : Nat} {a : Int} {off : Int} (ht : jm_tab mi pc = some (.ifCond .eq off, 3)) (hg : jm_tg pc off = some t) (hp : pc + 3 = pc') (h : iR a) (kt : a = 0 → jx L xs d mi t f r g Q) (kf : ¬ (a = 0) → jx L xs d mi pc' f r g Q) : jx L xs d mi pc f (.int (iI a) :: r) g Q :=
  jx_if_eq ht hg hp (fun q => kt ((iI_eq ⟨h, by omega, by omega⟩).1 q)) (fun q => kf (fun z => q ((iI_eq ⟨h, by omega, by omega⟩).2 z)))
theorem jv_lc_eq {t pc' pc2 : Nat} {a b : Int} {off : Int} (hl : jm_tab mi pc = some (.lcmp, 1)) (h2 : pc + 1 = pc2) (ht : jm_tab mi pc2 = some (.ifCond .eq off, 3)) (hg : jm_tg pc2 off = some t) (hp : pc2 + 3 = pc') (h : lR a ∧ lR b) (kt : a = b → jx L xs d mi t f r g Q) (kf : ¬ (a = b) → jx L xs d mi pc' f r g Q) : jx L xs d mi pc f (.long (lI b) :: .long (lI a) :: r) g Q := by
  subst h2
  refine jx_step (jx_ins hl rfl (show jm_ins L xs mi pc .lcmp f (.long (lI b) :: .long (lI a) :: r) g = some (.inl (pc + 1, f, .int (lg_cmp (lI a) (lI b)) :: r, g)) from rfl)) ?_
  rw [lI_cmp h]
  by_cases h1 : a < b
  · rw [if_pos h1]
    exact jv_if_eq (a := -1) ht hg hp (by omega) (fun q => kt (by omega)) (fun q => kf (by omega))
  · rw [if_neg h1]
    by_cases h2 : a = b
    · rw [if_pos h2]
      exact jv_if_eq (a := 0) ht hg hp (by omega) (fun q => kt (by omega)) (fun q => kf (by omega))
    · rw [if_neg h2]
      exact jv_if_eq (a := 1) ht hg hp (by omega) (fun q => kt (by omega)) (fun q => kf (by omega))
theorem jx_if_ne {t pc' : Nat} {x : Int32} {off : Int} (ht : jm_tab mi pc = some (.ifCond .ne off, 3)) (hg : jm_tg pc off = some t) (hp : pc + 3 = pc') (kt : ¬ x = 0 → jx L xs d mi t f r g Q) (kf : ¬ (¬ x = 0) → jx L xs d mi pc' f r g Q) : jx L xs d mi pc f (.int x :: r) g Q := by
  subst hp
  by_cases h : ¬ x = 0
  · exact jx_step (jx_ins ht rfl (by simp [jm_ins, jm_p1, jm_p2, jm_p3, jm_cb, h, hg])) (kt h)
  · exact jx_step (jx_ins ht rfl (by simp [jm_ins, jm_p1, jm_p2, jm_p3, jm_cb, h])) (kf h)
theorem jx_ic_ne {t pc' : Nat} {x y : Int32} {off : Int} (ht : jm_tab mi pc = some (.if_icmp .ne off, 3)) (hg : jm_tg pc off = some t) (hp : pc + 3 = pc') (kt : ¬ x = y → jx L xs d mi t f r g Q) (kf : ¬ (¬ x = y) → jx L xs d mi pc' f r g Q) : jx L xs d mi pc f (.int y :: .int x :: r) g Q := by
  subst hp
  by_cases h : ¬ x = y
  · exact jx_step (jx_ins ht rfl (by simp [jm_ins, jm_p1, jm_p2, jm_p3, jm_cb, h, hg])) (kt h)
  · exact jx_step (jx_ins ht rfl (by simp [jm_ins, jm_p1, jm_p2, jm_p3, jm_cb, h])) (kf h)
theorem jv_ic_ne {t pc' : Nat} {a b : Int} {off : Int} (ht : jm_tab mi pc = some (.if_icmp .ne off, 3)) (hg : jm_tg pc off = some t) (hp : pc + 3 = pc') (h : iR a ∧ iR b) (kt : ¬ a = b → jx L xs d mi t f r g Q) (kf : ¬ (¬ a = b) → jx L xs d mi pc' f r g Q) : jx L xs d mi pc f (.int (iI b) :: .int (iI a) :: r) g Q :=
  jx_ic_ne ht hg hp (fun q => kt (fun z => q ((iI_eq h).2 z))) (fun q => kf (fun z => q (fun y => z ((iI_eq h).1 y))))
theorem jv_if_ne {t pc' : Nat} {a : Int} {off : Int} (ht : jm_tab mi pc = some (.ifCond .ne off, 3)) (hg : jm_tg pc off = some t) (hp : pc + 3 = pc') (h : iR a) (kt : ¬ a = 0 → jx L xs d mi t f r g Q) (kf : ¬ (¬ a = 0) → jx L xs d mi pc' f r g Q) : jx L xs d mi pc f (.int (iI a) :: r) g Q :=
  jx_if_ne ht hg hp (fun q => kt (fun z => q ((iI_eq ⟨h, by omega, by omega⟩).2 z))) (fun q => kf (fun z => q (fun y => z ((iI_eq ⟨h, by omega, by omega⟩).1 y))))
theorem jv_lc_ne {t pc' pc2 : Nat} {a b : Int} {off : Int} (hl : jm_tab mi pc = some (.lcmp, 1)) (h2 : pc + 1 = pc2) (ht : jm_tab mi pc2 = some (.ifCond .ne off, 3)) (hg : jm_tg pc2 off = some t) (hp : pc2 + 3 = pc') (h : lR a ∧ lR b) (kt : ¬ a = b → jx L xs d mi t f r g Q) (kf : ¬ (¬ a = b) → jx L xs d mi pc' f r g Q) : jx L xs d mi pc f (.long (lI b) :: .long (lI a) :: r) g Q := by
  subst h2
  refine jx_step (jx_ins hl rfl (show jm_ins L xs mi pc .lcmp f (.long (lI b) :: .long (lI a) :: r) g = some (.inl (pc + 1, f, .int (lg_cmp (lI a) (lI b)) :: r, g)) from rfl)) ?_
  rw [lI_cmp h]
  by_cases h1 : a < b
  · rw [if_pos h1]
    exact jv_if_ne (a := -1) ht hg hp (by omega) (fun q => kt (by omega)) (fun q => kf (by omega))
  · rw [if_neg h1]
    by_cases h2 : a = b
    · rw [if_pos h2]
      exact jv_if_ne (a := 0) ht hg hp (by omega) (fun q => kt (by omega)) (fun q => kf (by omega))
    · rw [if_neg h2]
      exact jv_if_ne (a := 1) ht hg hp (by omega) (fun q => kt (by omega)) (fun q => kf (by omega))
theorem jx_if_lt {t pc' : Nat} {x : Int32} {off : Int} (ht : jm_tab mi pc = some (.ifCond .lt off, 3)) (hg : jm_tg pc off = some t) (hp : pc + 3 = pc') (kt : x < 0 → jx L xs d mi t f r g Q) (kf : ¬ (x < 0) → jx L xs d mi pc' f r g Q) : jx L xs d mi pc f (.int x :: r) g Q := by
  subst hp
  by_cases h : x < 0
  · exact jx_step (jx_ins ht rfl (by simp [jm_ins, jm_p1, jm_p2, jm_p3, jm_cb, h, hg])) (kt h)
  · exact jx_step (jx_ins ht rfl (by simp [jm_ins, jm_p1, jm_p2, jm_p3, jm_cb, h])) (kf h)
theorem jx_ic_lt {t pc' : Nat} {x y : Int32} {off : Int} (ht : jm_tab mi pc = some (.if_icmp .lt off, 3)) (hg : jm_tg pc off = some t) (hp : pc + 3 = pc') (kt : x < y → jx L xs d mi t f r g Q) (kf : ¬ (x < y) → jx L xs d mi pc' f r g Q) : jx L xs d mi pc f (.int y :: .int x :: r) g Q := by
  subst hp
  by_cases h : x < y
  · exact jx_step (jx_ins ht rfl (by simp [jm_ins, jm_p1, jm_p2, jm_p3, jm_cb, h, hg])) (kt h)
  · exact jx_step (jx_ins ht rfl (by simp [jm_ins, jm_p1, jm_p2, jm_p3, jm_cb, h])) (kf h)
theorem jv_ic_lt {t pc' : Nat} {a b : Int} {off : Int} (ht : jm_tab mi pc = some (.if_icmp .lt off, 3)) (hg : jm_tg pc off = some t) (hp : pc + 3 = pc') (h : iR a ∧ iR b) (kt : a < b → jx L xs d mi t f r g Q) (kf : ¬ (a < b) → jx L xs d mi pc' f r g Q) : jx L xs d mi pc f (.int (iI b) :: .int (iI a) :: r) g Q :=
  jx_ic_lt ht hg hp (fun q => kt ((iI_lt h).1 q)) (fun q => kf (fun z => q ((iI_lt h).2 z)))
theorem jv_if_lt {t pc' : Nat} {a : Int} {off : Int} (ht : jm_tab mi pc = some (.ifCond .lt off, 3)) (hg : jm_tg pc off = some t) (hp : pc + 3 = pc') (h : iR a) (kt : a < 0 → jx L xs d mi t f r g Q) (kf : ¬ (a < 0) → jx L xs d mi pc' f r g Q) : jx L xs d mi pc f (.int (iI a) :: r) g Q :=
  jx_if_lt ht hg hp (fun q => kt ((iI_lt ⟨h, by omega, by omega⟩).1 q)) (fun q => kf (fun z => q ((iI_lt ⟨h, by omega, by omega⟩).2 z)))
theorem jv_lc_lt {t pc' pc2 : Nat} {a b : Int} {off : Int} (hl : jm_tab mi pc = some (.lcmp, 1)) (h2 : pc + 1 = pc2) (ht : jm_tab mi pc2 = some (.ifCond .lt off, 3)) (hg : jm_tg pc2 off = some t) (hp : pc2 + 3 = pc') (h : lR a ∧ lR b) (kt : a < b → jx L xs d mi t f r g Q) (kf : ¬ (a < b) → jx L xs d mi pc' f r g Q) : jx L xs d mi pc f (.long (lI b) :: .long (lI a) :: r) g Q := by
  subst h2
  refine jx_step (jx_ins hl rfl (show jm_ins L xs mi pc .lcmp f (.long (lI b) :: .long (lI a) :: r) g = some (.inl (pc + 1, f, .int (lg_cmp (lI a) (lI b)) :: r, g)) from rfl)) ?_
  rw [lI_cmp h]
  by_cases h1 : a < b
  · rw [if_pos h1]
    exact jv_if_lt (a := -1) ht hg hp (by omega) (fun q => kt (by omega)) (fun q => kf (by omega))
  · rw [if_neg h1]
    by_cases h2 : a = b
    · rw [if_pos h2]
      exact jv_if_lt (a := 0) ht hg hp (by omega) (fun q => kt (by omega)) (fun q => kf (by omega))
    · rw [if_neg h2]
      exact jv_if_lt (a := 1) ht hg hp (by omega) (fun q => kt (by omega)) (fun q => kf (by omega))
theorem jx_if_ge {t pc' : Nat} {x : Int32} {off : Int} (ht : jm_tab mi pc = some (.ifCond .ge off, 3)) (hg : jm_tg pc off = some t) (hp : pc + 3 = pc') (kt : 0 ≤ x → jx L xs d mi t f r g Q) (kf : ¬ (0 ≤ x) → jx L xs d mi pc' f r g Q) : jx L xs d mi pc f (.int x :: r) g Q := by
  subst hp
  by_cases h : 0 ≤ x
  · exact jx_step (jx_ins ht rfl (by simp [jm_ins, jm_p1, jm_p2, jm_p3, jm_cb, h, hg])) (kt h)
  · exact jx_step (jx_ins ht rfl (by simp [jm_ins, jm_p1, jm_p2, jm_p3, jm_cb, h])) (kf h)
theorem jx_ic_ge {t pc' : Nat} {x y : Int32} {off : Int} (ht : jm_tab mi pc = some (.if_icmp .ge off, 3)) (hg : jm_tg pc off = some t) (hp : pc + 3 = pc') (kt : y ≤ x → jx L xs d mi t f r g Q) (kf : ¬ (y ≤ x) → jx L xs d mi pc' f r g Q) : jx L xs d mi pc f (.int y :: .int x :: r) g Q := by
  subst hp
  by_cases h : y ≤ x
  · exact jx_step (jx_ins ht rfl (by simp [jm_ins, jm_p1, jm_p2, jm_p3, jm_cb, h, hg])) (kt h)
  · exact jx_step (jx_ins ht rfl (by simp [jm_ins, jm_p1, jm_p2, jm_p3, jm_cb, h])) (kf h)
theorem jv_ic_ge {t pc' : Nat} {a b : Int} {off : Int} (ht : jm_tab mi pc = some (.if_icmp .ge off, 3)) (hg : jm_tg pc off = some t) (hp : pc + 3 = pc') (h : iR a ∧ iR b) (kt : b ≤ a → jx L xs d mi t f r g Q) (kf : ¬ (b ≤ a) → jx L xs d mi pc' f r g Q) : jx L xs d mi pc f (.int (iI b) :: .int (iI a) :: r) g Q :=
  jx_ic_ge ht hg hp (fun q => kt ((iI_le ⟨h.2, h.1⟩).1 q)) (fun q => kf (fun z => q ((iI_le ⟨h.2, h.1⟩).2 z)))
theorem jv_if_ge {t pc' : Nat} {a : Int} {off : Int} (ht : jm_tab mi pc = some (.ifCond .ge off, 3)) (hg : jm_tg pc off = some t) (hp : pc + 3 = pc') (h : iR a) (kt : 0 ≤ a → jx L xs d mi t f r g Q) (kf : ¬ (0 ≤ a) → jx L xs d mi pc' f r g Q) : jx L xs d mi pc f (.int (iI a) :: r) g Q :=
  jx_if_ge ht hg hp (fun q => kt ((iI_le ⟨⟨by omega, by omega⟩, h⟩).1 q)) (fun q => kf (fun z => q ((iI_le ⟨⟨by omega, by omega⟩, h⟩).2 z)))
theorem jv_lc_ge {t pc' pc2 : Nat} {a b : Int} {off : Int} (hl : jm_tab mi pc = some (.lcmp, 1)) (h2 : pc + 1 = pc2) (ht : jm_tab mi pc2 = some (.ifCond .ge off, 3)) (hg : jm_tg pc2 off = some t) (hp : pc2 + 3 = pc') (h : lR a ∧ lR b) (kt : b ≤ a → jx L xs d mi t f r g Q) (kf : ¬ (b ≤ a) → jx L xs d mi pc' f r g Q) : jx L xs d mi pc f (.long (lI b) :: .long (lI a) :: r) g Q := by
  subst h2
  refine jx_step (jx_ins hl rfl (show jm_ins L xs mi pc .lcmp f (.long (lI b) :: .long (lI a) :: r) g = some (.inl (pc + 1, f, .int (lg_cmp (lI a) (lI b)) :: r, g)) from rfl)) ?_
  rw [lI_cmp h]
  by_cases h1 : a < b
  · rw [if_pos h1]
    exact jv_if_ge (a := -1) ht hg hp (by omega) (fun q => kt (by omega)) (fun q => kf (by omega))
  · rw [if_neg h1]
    by_cases h2 : a = b
    · rw [if_pos h2]
      exact jv_if_ge (a := 0) ht hg hp (by omega) (fun q => kt (by omega)) (fun q => kf (by omega))
    · rw [if_neg h2]
      exact jv_if_ge (a := 1) ht hg hp (by omega) (fun q => kt (by omega)) (fun q => kf (by omega))
theorem jx_if_gt {t pc' : Nat} {x : Int32} {off : Int} (ht : jm_tab mi pc = some (.ifCond .gt off, 3)) (hg : jm_tg pc off = some t) (hp : pc + 3 = pc') (kt : 0 < x → jx L xs d mi t f r g Q) (kf : ¬ (0 < x) → jx L xs d mi pc' f r g Q) : jx L xs d mi pc f (.int x :: r) g Q := by
  subst hp
  by_cases h : 0 < x
  · exact jx_step (jx_ins ht rfl (by simp [jm_ins, jm_p1, jm_p2, jm_p3, jm_cb, h, hg])) (kt h)
  · exact jx_step (jx_ins ht rfl (by simp [jm_ins, jm_p1, jm_p2, jm_p3, jm_cb, h])) (kf h)
theorem jx_ic_gt {t pc' : Nat} {x y : Int32} {off : Int} (ht : jm_tab mi pc = some (.if_icmp .gt off, 3)) (hg : jm_tg pc off = some t) (hp : pc + 3 = pc') (kt : y < x → jx L xs d mi t f r g Q) (kf : ¬ (y < x) → jx L xs d mi pc' f r g Q) : jx L xs d mi pc f (.int y :: .int x :: r) g Q := by
  subst hp
  by_cases h : y < x
  · exact jx_step (jx_ins ht rfl (by simp [jm_ins, jm_p1, jm_p2, jm_p3, jm_cb, h, hg])) (kt h)
  · exact jx_step (jx_ins ht rfl (by simp [jm_ins, jm_p1, jm_p2, jm_p3, jm_cb, h])) (kf h)
theorem jv_ic_gt {t pc' : Nat} {a b : Int} {off : Int} (ht : jm_tab mi pc = some (.if_icmp .gt off, 3)) (hg : jm_tg pc off = some t) (hp : pc + 3 = pc') (h : iR a ∧ iR b) (kt : b < a → jx L xs d mi t f r g Q) (kf : ¬ (b < a) → jx L xs d mi pc' f r g Q) : jx L xs d mi pc f (.int (iI b) :: .int (iI a) :: r) g Q :=
  jx_ic_gt ht hg hp (fun q => kt ((iI_lt ⟨h.2, h.1⟩).1 q)) (fun q => kf (fun z => q ((iI_lt ⟨h.2, h.1⟩).2 z)))
theorem jv_if_gt {t pc' : Nat} {a : Int} {off : Int} (ht : jm_tab mi pc = some (.ifCond .gt off, 3)) (hg : jm_tg pc off = some t) (hp : pc + 3 = pc') (h : iR a) (kt : 0 < a → jx L xs d mi t f r g Q) (kf : ¬ (0 < a) → jx L xs d mi pc' f r g Q) : jx L xs d mi pc f (.int (iI a) :: r) g Q :=
  jx_if_gt ht hg hp (fun q => kt ((iI_lt ⟨⟨by omega, by omega⟩, h⟩).1 q)) (fun q => kf (fun z => q ((iI_lt ⟨⟨by omega, by omega⟩, h⟩).2 z)))
theorem jv_lc_gt {t pc' pc2 : Nat} {a b : Int} {off : Int} (hl : jm_tab mi pc = some (.lcmp, 1)) (h2 : pc + 1 = pc2) (ht : jm_tab mi pc2 = some (.ifCond .gt off, 3)) (hg : jm_tg pc2 off = some t) (hp : pc2 + 3 = pc') (h : lR a ∧ lR b) (kt : b < a → jx L xs d mi t f r g Q) (kf : ¬ (b < a) → jx L xs d mi pc' f r g Q) : jx L xs d mi pc f (.long (lI b) :: .long (lI a) :: r) g Q := by
  subst h2
  refine jx_step (jx_ins hl rfl (show jm_ins L xs mi pc .lcmp f (.long (lI b) :: .long (lI a) :: r) g = some (.inl (pc + 1, f, .int (lg_cmp (lI a) (lI b)) :: r, g)) from rfl)) ?_
  rw [lI_cmp h]
  by_cases h1 : a < b
  · rw [if_pos h1]
    exact jv_if_gt (a := -1) ht hg hp (by omega) (fun q => kt (by omega)) (fun q => kf (by omega))
  · rw [if_neg h1]
    by_cases h2 : a = b
    · rw [if_pos h2]
      exact jv_if_gt (a := 0) ht hg hp (by omega) (fun q => kt (by omega)) (fun q => kf (by omega))
    · rw [if_neg h2]
      exact jv_if_gt (a := 1) ht hg hp (by omega) (fun q => kt (by omega)) (fun q => kf (by omega))
theorem jx_if_le {t pc' : Nat} {x : Int32} {off : Int} (ht : jm_tab mi pc = some (.ifCond .le off, 3)) (hg : jm_tg pc off = some t) (hp : pc + 3 = pc') (kt : x ≤ 0 → jx L xs d mi t f r g Q) (kf : ¬ (x ≤ 0) → jx L xs d mi pc' f r g Q) : jx L xs d mi pc f (.int x :: r) g Q := by
  subst hp
  by_cases h : x ≤ 0
  · exact jx_step (jx_ins ht rfl (by simp [jm_ins, jm_p1, jm_p2, jm_p3, jm_cb, h, hg])) (kt h)
  · exact jx_step (jx_ins ht rfl (by simp [jm_ins, jm_p1, jm_p2, jm_p3, jm_cb, h])) (kf h)
theorem jx_ic_le {t pc' : Nat} {x y : Int32} {off : Int} (ht : jm_tab mi pc = some (.if_icmp .le off, 3)) (hg : jm_tg pc off = some t) (hp : pc + 3 = pc') (kt : x ≤ y → jx L xs d mi t f r g Q) (kf : ¬ (x ≤ y) → jx L xs d mi pc' f r g Q) : jx L xs d mi pc f (.int y :: .int x :: r) g Q := by
  subst hp
  by_cases h : x ≤ y
  · exact jx_step (jx_ins ht rfl (by simp [jm_ins, jm_p1, jm_p2, jm_p3, jm_cb, h, hg])) (kt h)
  · exact jx_step (jx_ins ht rfl (by simp [jm_ins, jm_p1, jm_p2, jm_p3, jm_cb, h])) (kf h)
theorem jv_ic_le {t pc' : Nat} {a b : Int} {off : Int} (ht : jm_tab mi pc = some (.if_icmp .le off, 3)) (hg : jm_tg pc off = some t) (hp : pc + 3 = pc') (h : iR a ∧ iR b) (kt : a ≤ b → jx L xs d mi t f r g Q) (kf : ¬ (a ≤ b) → jx L xs d mi pc' f r g Q) : jx L xs d mi pc f (.int (iI b) :: .int (iI a) :: r) g Q :=
  jx_ic_le ht hg hp (fun q => kt ((iI_le h).1 q)) (fun q => kf (fun z => q ((iI_le h).2 z)))
theorem jv_if_le {t pc' : Nat} {a : Int} {off : Int} (ht : jm_tab mi pc = some (.ifCond .le off, 3)) (hg : jm_tg pc off = some t) (hp : pc + 3 = pc') (h : iR a) (kt : a ≤ 0 → jx L xs d mi t f r g Q) (kf : ¬ (a ≤ 0) → jx L xs d mi pc' f r g Q) : jx L xs d mi pc f (.int (iI a) :: r) g Q :=
  jx_if_le ht hg hp (fun q => kt ((iI_le ⟨h, by omega, by omega⟩).1 q)) (fun q => kf (fun z => q ((iI_le ⟨h, by omega, by omega⟩).2 z)))
theorem jv_lc_le {t pc' pc2 : Nat} {a b : Int} {off : Int} (hl : jm_tab mi pc = some (.lcmp, 1)) (h2 : pc + 1 = pc2) (ht : jm_tab mi pc2 = some (.ifCond .le off, 3)) (hg : jm_tg pc2 off = some t) (hp : pc2 + 3 = pc') (h : lR a ∧ lR b) (kt : a ≤ b → jx L xs d mi t f r g Q) (kf : ¬ (a ≤ b) → jx L xs d mi pc' f r g Q) : jx L xs d mi pc f (.long (lI b) :: .long (lI a) :: r) g Q := by
  subst h2
  refine jx_step (jx_ins hl rfl (show jm_ins L xs mi pc .lcmp f (.long (lI b) :: .long (lI a) :: r) g = some (.inl (pc + 1, f, .int (lg_cmp (lI a) (lI b)) :: r, g)) from rfl)) ?_
  rw [lI_cmp h]
  by_cases h1 : a < b
  · rw [if_pos h1]
    exact jv_if_le (a := -1) ht hg hp (by omega) (fun q => kt (by omega)) (fun q => kf (by omega))
  · rw [if_neg h1]
    by_cases h2 : a = b
    · rw [if_pos h2]
      exact jv_if_le (a := 0) ht hg hp (by omega) (fun q => kt (by omega)) (fun q => kf (by omega))
    · rw [if_neg h2]
      exact jv_if_le (a := 1) ht hg hp (by omega) (fun q => kt (by omega)) (fun q => kf (by omega))
theorem jv_jb_eq {t pc' : Nat} {P : Prop} {off : Int} (ht : jm_tab mi pc = some (.ifCond .eq off, 3)) (hg : jm_tg pc off = some t) (hp : pc + 3 = pc') (kt : ¬ P → jx L xs d mi t f r g Q) (kf : P → jx L xs d mi pc' f r g Q) : jx L xs d mi pc f (.int (jb P) :: r) g Q :=
  jx_if_eq ht hg hp (fun q => kt ((jb_0 P).1 q)) (fun q => kf (Classical.byContradiction (fun z => q ((jb_0 P).2 z))))
theorem jv_jb_ne {t pc' : Nat} {P : Prop} {off : Int} (ht : jm_tab mi pc = some (.ifCond .ne off, 3)) (hg : jm_tg pc off = some t) (hp : pc + 3 = pc') (kt : P → jx L xs d mi t f r g Q) (kf : ¬ P → jx L xs d mi pc' f r g Q) : jx L xs d mi pc f (.int (jb P) :: r) g Q :=
  jx_if_ne ht hg hp (fun q => kt (Classical.byContradiction (fun z => q ((jb_0 P).2 z)))) (fun q => kf (fun z => q (fun y => (jb_0 P).1 y z)))
theorem jv_getI {pc' x c k a : Nat} {v : Int32} (ht : jm_tab mi pc = some (.getfield x, 3)) (hp : pc + 3 = pc') (hf : jm_fl (jm_oc mi) x = some (c, k)) (hg : ∀ g a, jm_gv g a c k = .int (jm_i g a k)) (hA : jm_isA (jx_G j I M p) a c = true) (hk : decide (k < jm_nf c) = true) (hv : I a k = v) (kk : jx L xs d mi pc' f (.int v :: r) (jx_G j I M p) Q) : jx L xs d mi pc f (.ref a :: r) (jx_G j I M p) Q := by
  subst hp
  have hk' := of_decide_eq_true hk
  refine jx_step (jx_ins ht rfl ?_) kk
  have hs : jm_gv (jx_G j I M p) a c k = .int v := by
    rw [hg]
    show Value.int (I a k) = _
    rw [hv]
  simp [jm_ins, jm_p1, jm_p2, jm_p3, jm_p4, hf, hA, hk', hs]
theorem jv_getJ {pc' x c k a : Nat} {v : Int64} (ht : jm_tab mi pc = some (.getfield x, 3)) (hp : pc + 3 = pc') (hf : jm_fl (jm_oc mi) x = some (c, k)) (hg : ∀ g a, jm_gv g a c k = .long (jm_l g a k)) (hA : jm_isA (jx_G j I M p) a c = true) (hk : decide (k < jm_nf c) = true) (hv : M a k = v) (kk : jx L xs d mi pc' f (.long v :: r) (jx_G j I M p) Q) : jx L xs d mi pc f (.ref a :: r) (jx_G j I M p) Q := by
  subst hp
  have hk' := of_decide_eq_true hk
  refine jx_step (jx_ins ht rfl ?_) kk
  have hs : jm_gv (jx_G j I M p) a c k = .long v := by
    rw [hg]
    show Value.long (M a k) = _
    rw [hv]
  simp [jm_ins, jm_p1, jm_p2, jm_p3, jm_p4, hf, hA, hk', hs]
theorem jv_getR {pc' x c k a : Nat} {v : Nat} (ht : jm_tab mi pc = some (.getfield x, 3)) (hp : pc + 3 = pc') (hf : jm_fl (jm_oc mi) x = some (c, k)) (hg : ∀ g a, jm_gv g a c k = jm_rv (jm_r g a k)) (hA : jm_isA (jx_G j I M p) a c = true) (hk : decide (k < jm_nf c) = true) (hv : jx_R p a k = some v) (kk : jx L xs d mi pc' f (.ref v :: r) (jx_G j I M p) Q) : jx L xs d mi pc f (.ref a :: r) (jx_G j I M p) Q := by
  subst hp
  have hk' := of_decide_eq_true hk
  refine jx_step (jx_ins ht rfl ?_) kk
  have hs : jm_gv (jx_G j I M p) a c k = .ref v := by
    rw [hg]
    show jm_rv (jx_R p a k) = _
    rw [hv]; rfl
  simp [jm_ins, jm_p1, jm_p2, jm_p3, jm_p4, hf, hA, hk', hs]
theorem jv_putI {pc' x c k a : Nat} {v : Int32} (ht : jm_tab mi pc = some (.putfield x, 3)) (hp : pc + 3 = pc') (hf : jm_fl (jm_oc mi) x = some (c, k)) (hq : jm_pf mi x = true) (hg : ∀ g a v, jm_pv g a c k (.int v) = some (jm_si g a k v)) (hA : jm_isA (jx_G j I M p) a c = true) (hk : decide (k < jm_nf c) = true) (kk : jx L xs d mi pc' f (r) (jx_G j (jm_u I a k v) M p) Q) : jx L xs d mi pc f (.int v :: .ref a :: r) (jx_G j I M p) Q := by
  subst hp
  have hk' := of_decide_eq_true hk
  refine jx_step (jx_ins ht rfl ?_) kk
  have hs : jm_pv (jx_G j I M p) a c k (.int v) = some (jx_G j (jm_u I a k v) M p) := by
    rw [hg]
    rfl
  simp [jm_ins, jm_p1, jm_p2, jm_p3, jm_p4, hf, hA, hk', hs, hq]
theorem jv_putZ {pc' x c k a : Nat} {v : Int32} (ht : jm_tab mi pc = some (.putfield x, 3)) (hp : pc + 3 = pc') (hf : jm_fl (jm_oc mi) x = some (c, k)) (hq : jm_pf mi x = true) (hg : ∀ g a v, (v = 0 ∨ v = 1) → jm_pv g a c k (.int v) = some (jm_si g a k v)) (hA : jm_isA (jx_G j I M p) a c = true) (hk : decide (k < jm_nf c) = true) (hz : v = 0 ∨ v = 1) (kk : jx L xs d mi pc' f (r) (jx_G j (jm_u I a k v) M p) Q) : jx L xs d mi pc f (.int v :: .ref a :: r) (jx_G j I M p) Q := by
  subst hp
  have hk' := of_decide_eq_true hk
  refine jx_step (jx_ins ht rfl ?_) kk
  have hs : jm_pv (jx_G j I M p) a c k (.int v) = some (jx_G j (jm_u I a k v) M p) := by
    rw [hg _ _ _ hz]
    rfl
  simp [jm_ins, jm_p1, jm_p2, jm_p3, jm_p4, hf, hA, hk', hs, hq]
theorem jv_putJ {pc' x c k a : Nat} {v : Int64} (ht : jm_tab mi pc = some (.putfield x, 3)) (hp : pc + 3 = pc') (hf : jm_fl (jm_oc mi) x = some (c, k)) (hq : jm_pf mi x = true) (hg : ∀ g a v, jm_pv g a c k (.long v) = some (jm_sl g a k v)) (hA : jm_isA (jx_G j I M p) a c = true) (hk : decide (k < jm_nf c) = true) (kk : jx L xs d mi pc' f (r) (jx_G j I (jm_u M a k v) p) Q) : jx L xs d mi pc f (.long v :: .ref a :: r) (jx_G j I M p) Q := by
  subst hp
  have hk' := of_decide_eq_true hk
  refine jx_step (jx_ins ht rfl ?_) kk
  have hs : jm_pv (jx_G j I M p) a c k (.long v) = some (jx_G j I (jm_u M a k v) p) := by
    rw [hg]
    rfl
  simp [jm_ins, jm_p1, jm_p2, jm_p3, jm_p4, hf, hA, hk', hs, hq]
theorem jv_putR {pc' x c k a : Nat} {v : Nat} {i : Nat} (ht : jm_tab mi pc = some (.putfield x, 3)) (hp : pc + 3 = pc') (hf : jm_fl (jm_oc mi) x = some (c, k)) (hq : jm_pf mi x = true) (hg : ∀ g a v, jm_pv g a c k (.ref v) = some (jm_sr g a k (some v))) (hA : jm_isA (jx_G j I M p) a c = true) (hk : decide (k < jm_nf c) = true) (hm : jx_mi a k = some i) (kk : jx L xs d mi pc' f (r) (jx_G j I M (fun q => if q = i then some v else p q)) Q) : jx L xs d mi pc f (.ref v :: .ref a :: r) (jx_G j I M p) Q := by
  subst hp
  have hk' := of_decide_eq_true hk
  refine jx_step (jx_ins ht rfl ?_) kk
  have hs : jm_pv (jx_G j I M p) a c k (.ref v) = some (jx_G j I M (fun q => if q = i then some v else p q)) := by
    rw [hg]
    show some (139, j, I, M, jm_u (jx_R p) a k (some v)) = _
    rw [jx_R_set p hm]
  simp [jm_ins, jm_p1, jm_p2, jm_p3, jm_p4, hf, hA, hk', hs, hq]
theorem jv_iaload {pc' a n : Nat} {e : Int} {v : Int32} (ht : jm_tab mi pc = some (.iaload, 1)) (hp : pc + 1 = pc') (hs : ¬ a = jm_S) (hA : jm_isA (jx_G j I M p) a 20 = true) (hn : (jm_SH a).2 = n) (hn2 : decide (n < 1000) = true) (hi : 0 ≤ e ∧ e < n) (hv : I a e.toNat = v) (kk : jx L xs d mi pc' f (.int v :: r) (jx_G j I M p) Q) : jx L xs d mi pc f (.int (iI e) :: .ref a :: r) (jx_G j I M p) Q := by
  subst hp
  have hn3 := of_decide_eq_true hn2
  have h1 : jm_inb (iI e) (jm_SH a).2 = true := by rw [hn]; exact iI_in hi (by omega)
  have h2 : jm_i (jx_G j I M p) a (iI e).toNatClampNeg = v := by rw [iI_N ⟨by omega, by omega⟩]; exact hv
  exact jx_step (jx_ins ht rfl (by simp [jm_ins, jm_p1, jm_p2, jm_p3, jm_p4, jm_p5, jm_p6, jm_p7, hs, hA, h1, h2])) kk
theorem jv_laload {pc' a n : Nat} {e : Int} {v : Int64} (ht : jm_tab mi pc = some (.laload, 1)) (hp : pc + 1 = pc') (hA : jm_isA (jx_G j I M p) a 21 = true) (hn : (jm_SH a).2 = n) (hn2 : decide (n < 1000) = true) (hi : 0 ≤ e ∧ e < n) (hv : M a e.toNat = v) (kk : jx L xs d mi pc' f (.long v :: r) (jx_G j I M p) Q) : jx L xs d mi pc f (.int (iI e) :: .ref a :: r) (jx_G j I M p) Q := by
  subst hp
  have hn3 := of_decide_eq_true hn2
  have h1 : jm_inb (iI e) (jm_SH a).2 = true := by rw [hn]; exact iI_in hi (by omega)
  have h2 : jm_l (jx_G j I M p) a (iI e).toNatClampNeg = v := by rw [iI_N ⟨by omega, by omega⟩]; exact hv
  exact jx_step (jx_ins ht rfl (by simp [jm_ins, jm_p1, jm_p2, jm_p3, jm_p4, jm_p5, jm_p6, jm_p7, hA, h1, h2])) kk
theorem jv_baload {pc' a n : Nat} {e : Int} {v : Int32} (ht : jm_tab mi pc = some (.baload, 1)) (hp : pc + 1 = pc') (hA : jm_isA (jx_G j I M p) a 22 = true) (hn : (jm_SH a).2 = n) (hn2 : decide (n < 1000) = true) (hi : 0 ≤ e ∧ e < n) (hv : I a e.toNat = v) (kk : jx L xs d mi pc' f (.int v :: r) (jx_G j I M p) Q) : jx L xs d mi pc f (.int (iI e) :: .ref a :: r) (jx_G j I M p) Q := by
  subst hp
  have hn3 := of_decide_eq_true hn2
  have h1 : jm_inb (iI e) (jm_SH a).2 = true := by rw [hn]; exact iI_in hi (by omega)
  have h2 : jm_i (jx_G j I M p) a (iI e).toNatClampNeg = v := by rw [iI_N ⟨by omega, by omega⟩]; exact hv
  exact jx_step (jx_ins ht rfl (by simp [jm_ins, jm_p1, jm_p2, jm_p3, jm_p4, jm_p5, jm_p6, jm_p7, hA, h1, h2])) kk
theorem jv_iastore {pc' a n : Nat} {e : Int} {v : Int32} (ht : jm_tab mi pc = some (.iastore, 1)) (hp : pc + 1 = pc') (hA : jm_isA (jx_G j I M p) a 20 = true) (hn : (jm_SH a).2 = n) (hn2 : decide (n < 1000) = true) (hi : 0 ≤ e ∧ e < n) (kk : jx L xs d mi pc' f (r) (jx_G j (jm_u I a e.toNat v) M p) Q) : jx L xs d mi pc f (.int v :: .int (iI e) :: .ref a :: r) (jx_G j I M p) Q := by
  subst hp
  have hn3 := of_decide_eq_true hn2
  have h1 : jm_inb (iI e) (jm_SH a).2 = true := by rw [hn]; exact iI_in hi (by omega)
  have h2 : jm_si (jx_G j I M p) a (iI e).toNatClampNeg v = (jx_G j (jm_u I a e.toNat v) M p) := by rw [iI_N ⟨by omega, by omega⟩]; rfl
  exact jx_step (jx_ins ht rfl (by simp [jm_ins, jm_p1, jm_p2, jm_p3, jm_p4, jm_p5, jm_p6, jm_p7, hA, h1, h2])) kk
theorem jv_bastore {pc' a n : Nat} {e : Int} {v : Int32} (ht : jm_tab mi pc = some (.bastore, 1)) (hp : pc + 1 = pc') (hA : jm_isA (jx_G j I M p) a 22 = true) (hn : (jm_SH a).2 = n) (hn2 : decide (n < 1000) = true) (hi : 0 ≤ e ∧ e < n) (hz : v = 0 ∨ v = 1) (kk : jx L xs d mi pc' f (r) (jx_G j (jm_u I a e.toNat v) M p) Q) : jx L xs d mi pc f (.int v :: .int (iI e) :: .ref a :: r) (jx_G j I M p) Q := by
  subst hp
  have hn3 := of_decide_eq_true hn2
  have h1 : jm_inb (iI e) (jm_SH a).2 = true := by rw [hn]; exact iI_in hi (by omega)
  have h2 : jm_si (jx_G j I M p) a (iI e).toNatClampNeg v = (jx_G j (jm_u I a e.toNat v) M p) := by rw [iI_N ⟨by omega, by omega⟩]; rfl
  exact jx_step (jx_ins ht rfl (by simp [jm_ins, jm_p1, jm_p2, jm_p3, jm_p4, jm_p5, jm_p6, jm_p7, hA, h1, h2, hz])) kk
theorem jv_lastore {pc' a n : Nat} {e : Int} {v : Int64} (ht : jm_tab mi pc = some (.lastore, 1)) (hp : pc + 1 = pc') (hA : jm_isA (jx_G j I M p) a 21 = true) (hn : (jm_SH a).2 = n) (hn2 : decide (n < 1000) = true) (hi : 0 ≤ e ∧ e < n) (kk : jx L xs d mi pc' f (r) (jx_G j I (jm_u M a e.toNat v) p) Q) : jx L xs d mi pc f (.long v :: .int (iI e) :: .ref a :: r) (jx_G j I M p) Q := by
  subst hp
  have hn3 := of_decide_eq_true hn2
  have h1 : jm_inb (iI e) (jm_SH a).2 = true := by rw [hn]; exact iI_in hi (by omega)
  have h2 : jm_sl (jx_G j I M p) a (iI e).toNatClampNeg v = (jx_G j I (jm_u M a e.toNat v) p) := by rw [iI_N ⟨by omega, by omega⟩]; rfl
  exact jx_step (jx_ins ht rfl (by simp [jm_ins, jm_p1, jm_p2, jm_p3, jm_p4, jm_p5, jm_p6, jm_p7, hA, h1, h2])) kk
theorem jv_aaload {pc' a n : Nat} {e : Int} {v : Nat} (ht : jm_tab mi pc = some (.aaload, 1)) (hp : pc + 1 = pc') (ha : decide (a < 139 ∧ 30 ≤ (jm_SH a).1 ∧ (jm_SH a).1 < 50) = true) (hn : (jm_SH a).2 = n) (hn2 : decide (n < 1000) = true) (hi : 0 ≤ e ∧ e < n) (hv : jx_R p a e.toNat = some v) (kk : jx L xs d mi pc' f (.ref v :: r) (jx_G j I M p) Q) : jx L xs d mi pc f (.int (iI e) :: .ref a :: r) (jx_G j I M p) Q := by
  subst hp
  have hn3 := of_decide_eq_true hn2
  have h1 : jm_inb (iI e) (jm_SH a).2 = true := by rw [hn]; exact iI_in hi (by omega)
  have h2 : jm_r (jx_G j I M p) a (iI e).toNatClampNeg = some v := by rw [iI_N ⟨by omega, by omega⟩]; exact hv
  obtain ⟨a1, a2, a3⟩ := of_decide_eq_true ha
  have a4 : a < jm_n (jx_G j I M p) := a1
  exact jx_step (jx_ins ht rfl (by simp [jm_ins, jm_p1, jm_p2, jm_p3, jm_p4, jm_p5, jm_p6, jm_p7, a4, a2, a3, h1, h2, jm_rv])) kk
theorem jv_aastore {pc' a n i : Nat} {e : Int} {v : Nat} (ht : jm_tab mi pc = some (.aastore, 1)) (hp : pc + 1 = pc') (ha : decide (a < 139 ∧ 30 ≤ (jm_SH a).1 ∧ (jm_SH a).1 < 50) = true) (hA : jm_isA (jx_G j I M p) v ((jm_SH a).1 - 30) = true) (hn : (jm_SH a).2 = n) (hn2 : decide (n < 1000) = true) (hi : 0 ≤ e ∧ e < n) (hm : jx_mi a e.toNat = some i) (kk : jx L xs d mi pc' f (r) (jx_G j I M (fun q => if q = i then some v else p q)) Q) : jx L xs d mi pc f (.ref v :: .int (iI e) :: .ref a :: r) (jx_G j I M p) Q := by
  subst hp
  have hn3 := of_decide_eq_true hn2
  have h1 : jm_inb (iI e) (jm_SH a).2 = true := by rw [hn]; exact iI_in hi (by omega)
  have h2 : jm_sr (jx_G j I M p) a (iI e).toNatClampNeg (some v) = (jx_G j I M (fun q => if q = i then some v else p q)) := by
    rw [iI_N ⟨by omega, by omega⟩]
    show (139, j, I, M, jm_u (jx_R p) a e.toNat (some v)) = _
    rw [jx_R_set p hm]
  obtain ⟨a1, a2, a3⟩ := of_decide_eq_true ha
  have a4 : a < jm_n (jx_G j I M p) := a1
  exact jx_step (jx_ins ht rfl (by simp [jm_ins, jm_p1, jm_p2, jm_p3, jm_p4, jm_p5, jm_p6, jm_p7, a4, a2, a3, hA, h1, h2])) kk
theorem jv_call {k pc' : Nat} {av st' : List Value} {P : Option Value → jm_H → Prop} (h : jm_step L xs mi pc f st g = some (.inr (.inl (k, av, pc', st')))) (hc : jc L xs d k av g P) (kk : ∀ v g1, P v g1 → jx L xs (d + 1) mi pc' f (v.toList ++ st') g1 Q) : jx L xs (d + 1) mi pc f st g Q := jx_call0 h hc kk
theorem jv_retI {x : Int32} (ht : jm_tab mi pc = some (.ireturn, 1)) (hk : jm_rk mi = 1) (kk : Q (.inl (some (.int x)), g)) : jx L xs d mi pc f [.int x] g Q := jx_ret0 (jx_ins ht rfl (by simp [jm_ins, jm_p1, jm_p2, jm_p3, jm_p4, jm_p5, jm_p6, jm_p7, jm_p8, jm_p9, hk])) kk
theorem jv_retZ {x : Int32} (ht : jm_tab mi pc = some (.ireturn, 1)) (hk : jm_rk mi = 2) (hx : x = 0 ∨ x = 1) (kk : Q (.inl (some (.int x)), g)) : jx L xs d mi pc f [.int x] g Q := jx_ret0 (jx_ins ht rfl (by simp [jm_ins, jm_p1, jm_p2, jm_p3, jm_p4, jm_p5, jm_p6, jm_p7, jm_p8, jm_p9, hk, hx])) kk
theorem jv_retJ {x : Int64} (ht : jm_tab mi pc = some (.lreturn, 1)) (hk : jm_rk mi = 3) (kk : Q (.inl (some (.long x)), g)) : jx L xs d mi pc f [.long x] g Q := jx_ret0 (jx_ins ht rfl (by simp [jm_ins, jm_p1, jm_p2, jm_p3, jm_p4, jm_p5, jm_p6, jm_p7, jm_p8, jm_p9, hk])) kk
theorem jv_retR {x : Nat} (ht : jm_tab mi pc = some (.areturn, 1)) (hk : jm_rk mi = 4) (kk : Q (.inl (some (.ref x)), g)) : jx L xs d mi pc f [.ref x] g Q := jx_ret0 (jx_ins ht rfl (by simp [jm_ins, jm_p1, jm_p2, jm_p3, jm_p4, jm_p5, jm_p6, jm_p7, jm_p8, jm_p9, hk])) kk
theorem jv_retV (ht : jm_tab mi pc = some (.return_, 1)) (hk : jm_rk mi = 0) (kk : Q (.inl none, g)) : jx L xs d mi pc f [] g Q := jx_ret0 (jx_ins ht rfl (by simp [jm_ins, jm_p1, jm_p2, jm_p3, jm_p4, jm_p5, jm_p6, jm_p7, jm_p8, jm_p9, hk])) kk
theorem jx_cast {g' : jm_H} (e : g = g') (k : jx L xs d mi pc f st g' Q) : jx L xs d mi pc f st g Q := by
  subst e
  exact k
theorem jm_u_uv {α : Type} {f : Nat → Nat → α} {a k : Nat} {u v w : α} (e : v = w) : jm_u (jm_u f a k u) a k v = jm_u f a k w := by
  subst e
  exact jm_u_u f a k u v
theorem jm_u_iv {α : Type} {f : Nat → Nat → α} {a k : Nat} {v : α} (e : f a k = v) : f = jm_u f a k v := by
  subst e
  exact (jm_u_id f a k).symm
/-- nothing but W has changed -/
def fr {α : Type} (W : Nat → Nat → Prop) (I I' : Nat → Nat → α) : Prop := ∀ l k, ¬ W l k → I' l k = I l k
theorem fr_r {α : Type} {W : Nat → Nat → Prop} (I : Nat → Nat → α) : fr W I I := fun _ _ _ => rfl
theorem fr_u {α : Type} {W : Nat → Nat → Prop} {I I' : Nat → Nat → α} {a k : Nat} {v : α} (h : W a k) (q : fr W I I') : fr W I (jm_u I' a k v) := fun l i hn => (jm_u_n2 (fun e => hn (by rw [e.1, e.2]; exact h))).trans (q l i hn)
theorem fr_t {α : Type} {W : Nat → Nat → Prop} {I I1 I2 : Nat → Nat → α} (h : fr W I I1) (q : fr W I1 I2) : fr W I I2 := fun l k hn => (q l k hn).trans (h l k hn)
theorem fr_w {α : Type} {W W' : Nat → Nat → Prop} {I I' : Nat → Nat → α} (h : fr W I I') (hw : ∀ l k, W l k → W' l k) : fr W' I I' := fun l k hn => h l k (fun e => hn (hw l k e))
end JV
