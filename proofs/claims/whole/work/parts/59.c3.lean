/-! printed by wip/whole/gen/c3.py: what readItems and readOuter do -/
abbrev ist (x : Int) : Prop := (97 ≤ x ∧ x ≤ 104) ∨ x = 36 ∨ x = 35 ∨ x = 63
def RI (c : Nat → Int) (n T : Nat) (Y : Nat → Nat → Int) (m a F : Nat) (b : Bool) (r : List Bool) (out : Bool) (v : Option Value) (I I' : Nat → Nat → Int32) : Prop :=
  fr (wL T) I I' ∧ ∃ a' : Nat, I' 11 1 = iI (a' : Int) ∧
    ((v = some (.int (iI 1)) ∧ ∃ k F' Y' m', PR c k a F (b :: r) a' F' (true :: r) ∧ LB I' T Y' m' ∧ NF Y' F' ∧ F' < 256 ∧ (YX 0 m Y Y' ∧ (UQ Y m → UQ Y' m')) ∧ 2 * m' ≤ a' ∧ a' ≤ n ∧ m < m' ∧ (out = false → ¬ ist (c a')) ∧ (out = true ∨ c a' ≠ 60 → ∃ q, IT c Y' q (3 - r.length) m m' a a'))
    ∨ (v = some (.int (iI 0)) ∧ ∃ k, PE c n k a F (b :: r) false a'))
def CRI (T D dd : Nat) : Prop := ∀ (L : Nat) (xs : Nat → Int32) (d j : Nat) (I : Nat → Nat → Int32) (M : Nat → Nat → Int64) (p : Nat → Option Nat) (c : Nat → Int) (n a F m : Nat) (Y : Nat → Nat → Int) (r : List Bool), CT I 1 c n → I 11 1 = iI ((a : Nat) : Int) → p 19 = some 1 → a ≤ n → p 20 = some T → LB I T Y m → NF Y F → F < 256 → 2 * m ≤ a → r.length = D →
  jc L xs (d + dd) 40 [.ref 10, .int (iI ((D : Nat) : Int))] (jx_G j I M p) (fun v g1 => ∃ I', g1 = jx_G j I' M p ∧ RI c n T Y m a F false r false v I I')
def CRO (T D dd : Nat) : Prop := ∀ (L : Nat) (xs : Nat → Int32) (d j : Nat) (I : Nat → Nat → Int32) (M : Nat → Nat → Int64) (p : Nat → Option Nat) (c : Nat → Int) (n a F m : Nat) (Y : Nat → Nat → Int) (b : Bool) (r : List Bool), CT I 1 c n → I 11 1 = iI ((a : Nat) : Int) → p 19 = some 1 → a ≤ n → p 20 = some T → LB I T Y m → NF Y F → F < 256 → 2 * m ≤ a → r.length = D → (c a = 35 ∨ c a = 63) →
  jc L xs (d + dd) 42 [.ref 10, .int (iI ((D : Nat) : Int))] (jx_G j I M p) (fun v g1 => ∃ I', g1 = jx_G j I' M p ∧ RI c n T Y m a F b r true v I I')
def RJ (c : Nat → Int) (n T : Nat) (Y : Nat → Nat → Int) (m a F : Nat) (r : List Bool) (kk : Nat) (gd : Int) (I1 : Nat → Nat → Int32) (a1 : Nat) : Prop :=
  (gd = 1 ∧ ∃ k F1 Y1 m1, ∃ b : Bool, PR c k a F (false :: r) a1 F1 (b :: r) ∧ (b = true ↔ 0 < kk) ∧ LB I1 T Y1 m1 ∧ NF Y1 F1 ∧ F1 < 256 ∧ (YX 0 m Y Y1 ∧ (UQ Y m → UQ Y1 m1)) ∧ 2 * m1 ≤ a1 ∧ a1 ≤ n ∧ m + kk ≤ m1 ∧ (c a1 ≠ 60 → ∃ q, IT c Y1 q (3 - r.length) m m1 a a1))
  ∨ (gd = 0 ∧ ∃ k, PE c n k a F (false :: r) false a1)
theorem PE_0 {c : Nat → Int} {n a F : Nat} {s : List Bool} {ok : Bool} {e : Nat} (h : a ≤ 80 ∧ F < 256 ∧ s.length ≤ 4) (q : PF c n a F s ok e) : PE c n 0 a F s ok e := ⟨h, q⟩
theorem PF_bad {c : Nat → Int} {n a F : Nat} {b : Bool} {r : List Bool} (hb : b = false ∨ (97 ≤ c a ∧ c a ≤ 104) ∨ (r ≠ [] ∧ c a ≠ 41)) (h1 : c a ≠ 36 ∧ c a ≠ 35 ∧ c a ≠ 63) (h : ¬ fdOk c F a) : PF c n a F (b :: r) false (fdA c F a) := by
  refine ⟨b, r, rfl, ?_⟩
  by_cases hn : 97 ≤ c a ∧ c a ≤ 104
  · exact Or.inr (Or.inr (Or.inr (Or.inr (Or.inr (Or.inr (Or.inr (Or.inr (Or.inr ⟨by omega, h, rfl, rfl⟩))))))))
  · have e := (fd_A0 (c := c) (F := F) (a := a) (fun q => hn q.1)).1
    rw [e]
    by_cases h2 : c a = -1
    · by_cases hr : r = []
      · refine Or.inl ⟨h2, hr, ?_, rfl⟩
        rcases hb with hb | hb | hb
        · exact hb.symm
        · exact absurd hb hn
        · exact absurd hr hb.1
      · exact Or.inr (Or.inl ⟨h2, hr, rfl, rfl⟩)
    · by_cases h3 : c a = 41
      · refine Or.inr (Or.inr (Or.inl ⟨h3, ?_, rfl, rfl⟩))
        rcases hb with hb | hb | hb
        · exact Or.inr hb
        · exact absurd hb hn
        · exact absurd h3 hb.2
      · by_cases h4 : c a = 62
        · refine Or.inr (Or.inr (Or.inr (Or.inl ⟨h4, ?_, rfl, rfl⟩)))
          rcases hb with hb | hb | hb
          · exact Or.inr hb
          · exact absurd hb hn
          · exact Or.inl hb.1
        · exact Or.inr (Or.inr (Or.inr (Or.inr (Or.inr (Or.inr (Or.inr (Or.inr (Or.inr ⟨by omega, h, rfl, rfl⟩))))))))
theorem PS_bl {c : Nat → Int} {a F : Nat} {b : Bool} {r : List Bool} (h : c a = 36) (q : cnO c F (a + 1)) : PS c a F (b :: r) (a + 2) F (true :: r) := ⟨b, r, rfl, Or.inr (Or.inl ⟨h, q, rfl, rfl, rfl⟩)⟩
theorem PF_bl {c : Nat → Int} {n a F : Nat} {b : Bool} {r : List Bool} (h : c a = 36) (q : ¬ cnO c F (a + 1)) : PF c n a F (b :: r) false (a + 1) := ⟨b, r, rfl, Or.inr (Or.inr (Or.inr (Or.inr (Or.inr (Or.inr (Or.inl ⟨h, q, rfl, rfl⟩))))))⟩
theorem PF_o0 {c : Nat → Int} {n a F : Nat} {b : Bool} {r : List Bool} (h : c a = 35 ∨ c a = 63) (q : r.length = 3) : PF c n a F (b :: r) false a := ⟨b, r, rfl, Or.inr (Or.inr (Or.inr (Or.inr (Or.inr (Or.inr (Or.inr (Or.inl ⟨h, q, rfl, rfl⟩)))))))⟩
theorem PF_o1 {c : Nat → Int} {n a F e : Nat} {b : Bool} {r : List Bool} (h : c a = 35 ∨ c a = 63) (hl : r.length ≠ 3) (q : ¬ opO c F a) (he : e = opA c F a) : PF c n a F (b :: r) false e := ⟨b, r, rfl, Or.inr (Or.inr (Or.inr (Or.inr (Or.inr (Or.inr (Or.inr (Or.inr (Or.inl ⟨h, hl, q, rfl, he⟩))))))))⟩
theorem PS_op {c : Nat → Int} {a F e : Nat} {b : Bool} {r : List Bool} (h : c a = 35 ∨ c a = 63) (hl : r.length < 3) (q : opO c F a) (he : e = opA c F a) : PS c a F (b :: r) e F (false :: b :: r) := ⟨b, r, rfl, Or.inr (Or.inr (Or.inl ⟨h, hl, q, he, rfl, rfl⟩))⟩
theorem PS_cl {c : Nat → Int} {a F : Nat} {b : Bool} {r : List Bool} (h : c a = 41) : PS c a F (true :: b :: r) (a + 1) F (true :: r) := ⟨true, b :: r, rfl, Or.inl ⟨h, rfl, ⟨b, r, rfl, rfl⟩, rfl, rfl⟩⟩
theorem PS_fd {c : Nat → Int} {a F : Nat} {b : Bool} {r : List Bool} (h : fdOk c F a) : PS c a F (b :: r) (fdA c F a) (fdF c F a) (true :: r) := by
  have h1 := h.1.1
  exact ⟨b, r, rfl, Or.inr (Or.inr (Or.inr ⟨by omega, h, rfl, rfl, rfl⟩))⟩
theorem fdF_lt {c : Nat → Int} {F a : Nat} (hF : F < 256) : fdF c F a < 256 := by
  by_cases h : fdN c F a ∧ fdV c a
  · have e : fdF c F a = F ||| 2 ^ (c a - 97).toNat := if_pos h
    have h1 := h.1.1
    rw [e]; exact fl_lt hF (by omega)
  · have e : fdF c F a = F := if_neg h
    rw [e]; exact hF
theorem IT_fd {c : Nat → Int} {Y : Nat → Nat → Int} {f a e z : Nat} (h : FI c Y f a e) : IT c Y 1 z f (f + 1) a e := Or.inr ⟨by omega, e, Or.inl ⟨h, rfl, rfl⟩⟩
theorem IT_bk {c : Nat → Int} {Y : Nat → Nat → Int} {f a z : Nat} (h : BK c Y f a) : IT c Y 1 z f (f + 1) a (a + 2) := Or.inr ⟨by omega, _, Or.inr (Or.inl ⟨h, rfl, rfl, rfl⟩)⟩
theorem IT_hd {c : Nat → Int} {Y : Nat → Nat → Int} {q f g a b1 e1 z z' : Nat} (h : HD c Y f a b1) (hi : IT c Y q z' (f + 1) g b1 e1) (hz : z = z' + 1) (hc : c e1 = 41) (hy : Y 3 f = (g : Int) - ((f : Int) + 1)) : IT c Y (q + 1) z f g a (e1 + 1) := by
  have h1 := IT_le hi
  subst hz
  refine Or.inr ⟨by omega, _, Or.inr (Or.inr ⟨b1, e1, g, h, ⟨by omega, hi⟩, hc, rfl, hy, by omega, by omega, ?_⟩)⟩
  exact IT_m (q := 0) ⟨rfl, rfl⟩ (by omega)
theorem op_A1 {c : Nat → Int} {F a : Nat} (h : c a = 35) (q : ¬ cnO c F (a + 1)) : ¬ opO c F a ∧ a + 1 = opA c F a := by
  unfold opO opA op1; rw [if_pos h, if_neg q]; exact ⟨by rintro (z | z); exact q z.2.1; exact z.1 h, rfl⟩
theorem op_A2 {c : Nat → Int} {F a : Nat} (h : c a = 35) (q : cnO c F (a + 1)) (h2 : ¬ c (a + 2) = 40) : ¬ opO c F a ∧ a + 2 = opA c F a := by
  unfold opO opA op1; rw [if_pos h, if_pos q, if_neg h2]; exact ⟨by rintro (z | z); exact h2 z.2.2; exact z.1 h, rfl⟩
theorem op_A3 {c : Nat → Int} {F a : Nat} (h : c a = 35) (q : cnO c F (a + 1)) (h2 : c (a + 2) = 40) : opO c F a ∧ a + 3 = opA c F a := by
  unfold opO opA op1; rw [if_pos h, if_pos q, if_pos h2]; exact ⟨Or.inl ⟨h, q, h2⟩, rfl⟩
theorem op_B1 {c : Nat → Int} {F a : Nat} (h : c a = 63) (q : ¬ cdO c F a) : ¬ opO c F a ∧ op2 c F a = opA c F a := by
  unfold opO opA; rw [if_neg (by omega)]; exact ⟨by rintro (z | z); omega; exact q ⟨z.2.1, z.2.2.1, z.2.2.2.1⟩, rfl⟩
theorem op_B2 {c : Nat → Int} {F a : Nat} (h : c a = 63) (q : cdO c F a) (h2 : ¬ c (a + 3 + nd c (a + 3)) = 40) : ¬ opO c F a ∧ a + 3 + nd c (a + 3) = opA c F a := by
  unfold opO opA op2; rw [if_neg (by omega), if_pos q.1, if_pos q.2.1, if_pos q.2.2, if_neg h2]; exact ⟨by rintro (z | z); omega; exact h2 z.2.2.2.2, rfl⟩
theorem op_B3 {c : Nat → Int} {F a : Nat} (h : c a = 63) (q : cdO c F a) (h2 : c (a + 3 + nd c (a + 3)) = 40) : opO c F a ∧ a + 3 + nd c (a + 3) + 1 = opA c F a := by
  unfold opO opA op2; rw [if_neg (by omega), if_pos q.1, if_pos q.2.1, if_pos q.2.2, if_pos h2]; exact ⟨Or.inr ⟨by omega, q.1, q.2.1, q.2.2, h2⟩, rfl⟩
theorem fdA_b (c : Nat → Int) (F a : Nat) : fdA c F a ≤ a + 20 := by
  have h1 := fd2_le c a
  have h2 := nd_le c (a + 1)
  have h3 := nd_le c (fd2 c a + 1)
  unfold fdA fd3
  repeat' split
  all_goals omega
theorem opA_b (c : Nat → Int) (F a : Nat) : opA c F a ≤ a + 20 := by
  have h2 := nd_le c (a + 3)
  unfold opA op1 op2
  repeat' split
  all_goals omega
theorem PF_b {c : Nat → Int} {n a F : Nat} {s : List Bool} {ok : Bool} {e : Nat} (h : PF c n a F s ok e) : e ≤ a + 20 := by
  have h1 := fdA_b c F a
  have h2 := opA_b c F a
  obtain ⟨b, r, rfl, h⟩ := h
  rcases h with ⟨_, _, _, h⟩ | ⟨_, _, _, h⟩ | ⟨_, _, _, h⟩ | ⟨_, _, _, h⟩ | ⟨_, _, _, _, _, h⟩ | ⟨_, _, _, _, _, h⟩ | ⟨_, _, _, h⟩ | ⟨_, _, _, h⟩ | ⟨_, _, _, _, h⟩ | ⟨_, _, _, h⟩ <;> omega
theorem PE_b {c : Nat → Int} {n : Nat} {ok : Bool} {e : Nat} : ∀ {k a F : Nat} {s : List Bool}, PE c n k a F s ok e → e ≤ 100 := by
  intro k
  induction k with
  | zero => intro a F s h; have := PF_b h.2; have := h.1.1; omega
  | succ k ih => intro a F s h; obtain ⟨_, x, y, z, _, h⟩ := h; exact ih h
theorem PF_top {c : Nat → Int} {n a F : Nat} (h : ¬ ist (c a)) (h1 : c a ≠ -1) (h2 : c a ≠ 62) : PF c n a F [true] false a := by
  unfold ist at h
  by_cases h3 : c a = 41
  · exact ⟨true, [], rfl, Or.inr (Or.inr (Or.inl ⟨h3, Or.inl rfl, rfl, rfl⟩))⟩
  · have e := fd_A0 (c := c) (F := F) (a := a) (fun q => h (Or.inl q.1))
    exact ⟨true, [], rfl, Or.inr (Or.inr (Or.inr (Or.inr (Or.inr (Or.inr (Or.inr (Or.inr (Or.inr ⟨by omega, e.2.2, rfl, e.1.symm⟩))))))))⟩
/-- a layer of a class object that is the text c of length n -/
def LAY (I : Nat → Nat → Int32) (T : Nat) (c : Nat → Int) (n : Nat) : Prop := ∃ (Y : Nat → Nat → Int) (m q e : Nat) (ch : Int), LB I T Y m ∧ 0 < m ∧ IT c Y q 3 0 m 0 e ∧ UQ Y m ∧ I T 7 = iI ch ∧ ((ch = -1 ∧ e = n) ∨ (c e = 62 ∧ e + 2 = n ∧ (97 ≤ c (e + 1) ∧ c (e + 1) ≤ 104) ∧ ch = c (e + 1) - 97))
def Y0 (I : Nat → Nat → Int32) (T : Nat) : Nat → Nat → Int := fun r k => if r = 5 then (I (T + 6) k).toInt else 0
theorem UQ_0 {Y : Nat → Nat → Int} : UQ Y 0 := ⟨fun k hk => absurd hk (by omega), fun k k' _ hk => absurd hk (by omega), fun k hk => absurd hk (by omega)⟩
theorem NF_0 (I : Nat → Nat → Int32) (T : Nat) : NF (Y0 I T) 0 := fun i _ => by simp [Y0]
theorem LB_0 {I I' : Nat → Nat → Int32} {T : Nat} (h : I' T 6 = iI 0) (h2 : ∀ k, k < 8 → I' (T + 5) k = iI 0) (h3 : ∀ k, I' (T + 6) k = I (T + 6) k) : LB I' T (Y0 I T) 0 :=
  ⟨h, by omega, fun k hk => absurd hk (by omega), fun k hk => ⟨(h2 k hk).trans (by simp [Y0]), (h3 k).trans (by simp [Y0, iI, Int32.ofInt_toInt]), by simp [Y0], by simp [Y0]⟩⟩
