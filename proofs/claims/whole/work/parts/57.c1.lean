/-! printed by wip/whole/gen/c1.py: the class reads its texts -/
/-- the text object t: characters c, -1 behind the end -/
def CT (I : Nat → Nat → Int32) (t : Nat) (c : Nat → Int) (n : Nat) : Prop := I t 1 = iI n ∧ n ≤ 80 ∧ (∀ k, k < n → I (t + 1) k = iI (c k)) ∧ (∀ k, k < n → 0 ≤ c k ∧ c k < 256) ∧ (∀ k, n ≤ k → c k = -1)
theorem CT_c {I : Nat → Nat → Int32} {t : Nat} {c : Nat → Int} {n : Nat} (h : CT I t c n) (a : Nat) : -1 ≤ c a ∧ c a < 256 := by
  by_cases q : a < n
  · have := h.2.2.2.1 a q; omega
  · have := h.2.2.2.2 a (by omega); omega
theorem CT_lt {I : Nat → Nat → Int32} {t : Nat} {c : Nat → Int} {n : Nat} (h : CT I t c n) {a : Nat} (q : c a ≠ -1) : a < n := by
  by_cases e : a < n
  · exact e
  · exact absurd (h.2.2.2.2 a (by omega)) q
theorem CT_nd {I : Nat → Nat → Int32} {t : Nat} {c : Nat → Int} {n : Nat} (h : CT I t c n) : ∀ k a, a ≤ n → a + ndk c k a ≤ n := by
  intro k
  induction k with
  | zero => intro a ha; exact ha
  | succ k ih =>
    intro a ha
    unfold ndk
    split
    next q =>
      have h1 : a < n := CT_lt h (by unfold dg at q; omega)
      have := ih (a + 1) (by omega)
      omega
    · omega
theorem CT_fr {W : Nat → Nat → Prop} {I I' : Nat → Nat → Int32} {t : Nat} {c : Nat → Int} {n : Nat} (h : CT I t c n) (f : fr W I I') (h1 : ¬ W t 1) (h2 : ∀ k, ¬ W (t + 1) k) : CT I' t c n :=
  ⟨(f t 1 h1).trans h.1, h.2.1, fun k hk => (f (t + 1) k (h2 k)).trans (h.2.2.1 k hk), h.2.2.2.1, h.2.2.2.2⟩
abbrev TL (t : Nat) : Prop := t = 1 ∨ t = 87 ∨ t = 89 ∨ t = 91 ∨ t = 93
theorem CT_u {I : Nat → Nat → Int32} {t : Nat} {c : Nat → Int} {n a k : Nat} {v : Int32} (h : CT I t c n) (hl : TL t) (ha : a = 95 ∨ a = 96 ∨ a = 97) : CT (jm_u I a k v) t c n :=
  CT_fr (W := fun l _ => l = a) h (fr_u (W := fun l _ => l = a) rfl (fr_r I)) (by omega) (by intro _; omega)
theorem TL_A {t : Nat} (h : TL t) (j : Nat) (I : Nat → Nat → Int32) (M : Nat → Nat → Int64) (p : Nat → Option Nat) : jm_isA (jx_G j I M p) t 1 = true := by
  rcases h with rfl | rfl | rfl | rfl | rfl <;> rfl
theorem TL_B {t : Nat} (h : TL t) (j : Nat) (I : Nat → Nat → Int32) (M : Nat → Nat → Int64) (p : Nat → Option Nat) : jm_isA (jx_G j I M p) (t + 1) 20 = true := by
  rcases h with rfl | rfl | rfl | rfl | rfl <;> rfl
theorem TL_n {t : Nat} (h : TL t) : (jm_SH (t + 1)).2 = 80 := by
  rcases h with rfl | rfl | rfl | rfl | rfl <;> rfl
theorem TL_R {t : Nat} (h : TL t) (p : Nat → Option Nat) : jx_R p t 0 = some (t + 1) := by
  rcases h with rfl | rfl | rfl | rfl | rfl
  · exact jR_1_0 p
  · exact jR_87_0 p
  · exact jR_89_0 p
  · exact jR_91_0 p
  · exact jR_93_0 p
theorem TL_S {t : Nat} (h : TL t) : ¬ t + 1 = jm_S := by
  have : jm_S = 1000000 := rfl
  omega
section C1
variable {L : Nat} {xs : Nat → Int32} {d j : Nat} {I : Nat → Nat → Int32} {M : Nat → Nat → Int64} {p : Nat → Option Nat}
variable {c : Nat → Int} {n a t : Nat}
theorem cl_isLink {x : Int} {g : jm_H} (hx : iR x) : jc L xs d 20 [.int (iI x)] g (fun v g1 => v = some (.int (jb (0 ≤ x ∧ x < 2))) ∧ g1 = g) := by
  unfold jc
  refine jv_iload_n (pc' := 1) (k := 0) (x := (iI x)) rfl rfl rfl rfl ?_
  refine jv_if_lt (t := 13) (pc' := 4) (a := x) rfl rfl rfl (by omega) (fun h1 => ?_) (fun h1 => ?_)
  · skip
    refine jv_iconst (pc' := 14) (n := 0) rfl rfl ?_
    refine jv_retZ rfl rfl (by first | exact Or.inl rfl | exact Or.inr rfl) ⟨_, _, rfl, ?_⟩
    exact ⟨jq_f (by omega), rfl⟩
  · skip
    refine jv_iload_n (pc' := 5) (k := 0) (x := (iI x)) rfl rfl rfl rfl ?_
    refine jv_iconst (pc' := 6) (n := 2) rfl rfl ?_
    refine jv_ic_ge (t := 13) (pc' := 9) (a := x) (b := 2) rfl rfl rfl (by omega) (fun h2 => ?_) (fun h2 => ?_)
    · skip
      refine jv_iconst (pc' := 14) (n := 0) rfl rfl ?_
      refine jv_retZ rfl rfl (by first | exact Or.inl rfl | exact Or.inr rfl) ⟨_, _, rfl, ?_⟩
      exact ⟨jq_f (by omega), rfl⟩
    · skip
      refine jv_iconst (pc' := 10) (n := 1) rfl rfl ?_
      refine jx_step (pc' := 14) rfl ?_
      refine jv_retZ rfl rfl (by first | exact Or.inl rfl | exact Or.inr rfl) ⟨_, _, rfl, ?_⟩
      exact ⟨jq_t (by omega), rfl⟩
theorem cl_isLayer {x : Int} {g : jm_H} (hx : iR x) : jc L xs d 21 [.int (iI x)] g (fun v g1 => v = some (.int (jb (0 ≤ x ∧ x < 4))) ∧ g1 = g) := by
  unfold jc
  refine jv_iload_n (pc' := 1) (k := 0) (x := (iI x)) rfl rfl rfl rfl ?_
  refine jv_if_lt (t := 13) (pc' := 4) (a := x) rfl rfl rfl (by omega) (fun h1 => ?_) (fun h1 => ?_)
  · skip
    refine jv_iconst (pc' := 14) (n := 0) rfl rfl ?_
    refine jv_retZ rfl rfl (by first | exact Or.inl rfl | exact Or.inr rfl) ⟨_, _, rfl, ?_⟩
    exact ⟨jq_f (by omega), rfl⟩
  · skip
    refine jv_iload_n (pc' := 5) (k := 0) (x := (iI x)) rfl rfl rfl rfl ?_
    refine jv_iconst (pc' := 6) (n := 4) rfl rfl ?_
    refine jv_ic_ge (t := 13) (pc' := 9) (a := x) (b := 4) rfl rfl rfl (by omega) (fun h2 => ?_) (fun h2 => ?_)
    · skip
      refine jv_iconst (pc' := 14) (n := 0) rfl rfl ?_
      refine jv_retZ rfl rfl (by first | exact Or.inl rfl | exact Or.inr rfl) ⟨_, _, rfl, ?_⟩
      exact ⟨jq_f (by omega), rfl⟩
    · skip
      refine jv_iconst (pc' := 10) (n := 1) rfl rfl ?_
      refine jx_step (pc' := 14) rfl ?_
      refine jv_retZ rfl rfl (by first | exact Or.inl rfl | exact Or.inr rfl) ⟨_, _, rfl, ?_⟩
      exact ⟨jq_t (by omega), rfl⟩
theorem cl_isFieldName {x : Int} {g : jm_H} (hx : iR x) : jc L xs d 23 [.int (iI x)] g (fun v g1 => v = some (.int (jb (0 ≤ x ∧ x < 8))) ∧ g1 = g) := by
  unfold jc
  refine jv_iload_n (pc' := 1) (k := 0) (x := (iI x)) rfl rfl rfl rfl ?_
  refine jv_if_lt (t := 14) (pc' := 4) (a := x) rfl rfl rfl (by omega) (fun h1 => ?_) (fun h1 => ?_)
  · skip
    refine jv_iconst (pc' := 15) (n := 0) rfl rfl ?_
    refine jv_retZ rfl rfl (by first | exact Or.inl rfl | exact Or.inr rfl) ⟨_, _, rfl, ?_⟩
    exact ⟨jq_f (by omega), rfl⟩
  · skip
    refine jv_iload_n (pc' := 5) (k := 0) (x := (iI x)) rfl rfl rfl rfl ?_
    refine jv_bipush (pc' := 7) (n := 8) rfl rfl rfl ?_
    refine jv_ic_ge (t := 14) (pc' := 10) (a := x) (b := 8) rfl rfl rfl (by omega) (fun h2 => ?_) (fun h2 => ?_)
    · skip
      refine jv_iconst (pc' := 15) (n := 0) rfl rfl ?_
      refine jv_retZ rfl rfl (by first | exact Or.inl rfl | exact Or.inr rfl) ⟨_, _, rfl, ?_⟩
      exact ⟨jq_f (by omega), rfl⟩
    · skip
      refine jv_iconst (pc' := 11) (n := 1) rfl rfl ?_
      refine jx_step (pc' := 15) rfl ?_
      refine jv_retZ rfl rfl (by first | exact Or.inl rfl | exact Or.inr rfl) ⟨_, _, rfl, ?_⟩
      exact ⟨jq_t (by omega), rfl⟩
theorem cl_isFilter {x : Int} {g : jm_H} (hx : iR x) : jc L xs d 24 [.int (iI x)] g (fun v g1 => v = some (.int (jb (0 ≤ x ∧ x < 4))) ∧ g1 = g) := by
  unfold jc
  refine jv_iload_n (pc' := 1) (k := 0) (x := (iI x)) rfl rfl rfl rfl ?_
  refine jv_if_lt (t := 13) (pc' := 4) (a := x) rfl rfl rfl (by omega) (fun h1 => ?_) (fun h1 => ?_)
  · skip
    refine jv_iconst (pc' := 14) (n := 0) rfl rfl ?_
    refine jv_retZ rfl rfl (by first | exact Or.inl rfl | exact Or.inr rfl) ⟨_, _, rfl, ?_⟩
    exact ⟨jq_f (by omega), rfl⟩
  · skip
    refine jv_iload_n (pc' := 5) (k := 0) (x := (iI x)) rfl rfl rfl rfl ?_
    refine jv_iconst (pc' := 6) (n := 4) rfl rfl ?_
    refine jv_ic_ge (t := 13) (pc' := 9) (a := x) (b := 4) rfl rfl rfl (by omega) (fun h2 => ?_) (fun h2 => ?_)
    · skip
      refine jv_iconst (pc' := 14) (n := 0) rfl rfl ?_
      refine jv_retZ rfl rfl (by first | exact Or.inl rfl | exact Or.inr rfl) ⟨_, _, rfl, ?_⟩
      exact ⟨jq_f (by omega), rfl⟩
    · skip
      refine jv_iconst (pc' := 10) (n := 1) rfl rfl ?_
      refine jx_step (pc' := 14) rfl ?_
      refine jv_retZ rfl rfl (by first | exact Or.inl rfl | exact Or.inr rfl) ⟨_, _, rfl, ?_⟩
      exact ⟨jq_t (by omega), rfl⟩
theorem cl_isLayerOrNone {x : Int} {g : jm_H} (hx : iR x) : jc L xs (d + 1) 22 [.int (iI x)] g (fun v g1 => v = some (.int (jb (-1 ≤ x ∧ x < 4))) ∧ g1 = g) := by
  unfold jc
  refine jv_iload_n (pc' := 1) (k := 0) (x := (iI x)) rfl rfl rfl rfl ?_
  refine jv_iconst (pc' := 2) (n := -1) rfl rfl ?_
  refine jv_ic_eq (t := 12) (pc' := 5) (a := x) (b := (-1)) rfl rfl rfl (by omega) (fun h1 => ?_) (fun h1 => ?_)
  · skip
    refine jv_iconst (pc' := 13) (n := 1) rfl rfl ?_
    refine jx_step (pc' := 17) rfl ?_
    refine jv_retZ rfl rfl (by first | exact Or.inl rfl | exact Or.inr rfl) ⟨_, _, rfl, ?_⟩
    exact ⟨jq_t (by omega), rfl⟩
  · skip
    refine jv_iload_n (pc' := 6) (k := 0) (x := (iI x)) rfl rfl rfl rfl ?_
    refine jv_call (pc' := 9) rfl (cl_isLayer hx) (fun vq2 gq2 q2 => ?_)
    obtain ⟨rfl, rfl⟩ := q2
    show jx L xs _ 22 9 _ [.int (jb (0 ≤ x ∧ x < 4))] _ _
    refine jv_jb_eq (t := 16) (pc' := 12) (P := 0 ≤ x ∧ x < 4) rfl rfl rfl (fun h3 => ?_) (fun h3 => ?_)
    · skip
      refine jv_iconst (pc' := 17) (n := 0) rfl rfl ?_
      refine jv_retZ rfl rfl (by first | exact Or.inl rfl | exact Or.inr rfl) ⟨_, _, rfl, ?_⟩
      exact ⟨jq_f (by omega), rfl⟩
    · skip
      refine jv_iconst (pc' := 13) (n := 1) rfl rfl ?_
      refine jx_step (pc' := 17) rfl ?_
      refine jv_retZ rfl rfl (by first | exact Or.inl rfl | exact Or.inr rfl) ⟨_, _, rfl, ?_⟩
      exact ⟨jq_t (by omega), rfl⟩
theorem cl_charAt_k (hC : CT I 1 c n) (hb : a ≤ 1000) : jc L xs d 30 [.ref 1, .int (iI ((a : Nat) : Int))] (jx_G j I M p) (fun v g1 => v = some (.int (iI (c a))) ∧ g1 = jx_G j I M p) := by
  unfold jc
  have hn := hC.2.1
  refine jv_iload_n (pc' := 1) (k := 1) (x := (iI ((a : Nat) : Int))) rfl rfl rfl rfl ?_
  refine jv_if_lt (t := 21) (pc' := 4) (a := ((a : Nat) : Int)) rfl rfl rfl (by omega) (fun h1 => ?_) (fun h1 => ?_)
  · skip
    refine jv_iconst (pc' := 22) (n := -1) rfl rfl ?_
    refine jv_retI rfl rfl ⟨_, _, rfl, ?_⟩
    exact ⟨jq_i (by first | rfl | exact (hC.2.2.2.2 a (by omega)).symm), rfl⟩
  · skip
    refine jv_iload_n (pc' := 5) (k := 1) (x := (iI ((a : Nat) : Int))) rfl rfl rfl rfl ?_
    refine jv_aload_n (pc' := 6) (k := 0) (x := 1) rfl rfl rfl rfl ?_
    refine jv_getI (pc' := 9) (c := 1) (k := 1) (v := (iI (n : Int))) rfl rfl rfl (fun _ _ => rfl) rfl rfl hC.1 ?_
    refine jv_ic_ge (t := 21) (pc' := 12) (a := ((a : Nat) : Int)) (b := (n : Int)) rfl rfl rfl (by omega) (fun h2 => ?_) (fun h2 => ?_)
    · skip
      refine jv_iconst (pc' := 22) (n := -1) rfl rfl ?_
      refine jv_retI rfl rfl ⟨_, _, rfl, ?_⟩
      exact ⟨jq_i (by first | rfl | exact (hC.2.2.2.2 a (by omega)).symm), rfl⟩
    · skip
      refine jv_aload_n (pc' := 13) (k := 0) (x := 1) rfl rfl rfl rfl ?_
      refine jv_getR (pc' := 16) (c := 1) (k := 0) (v := 2) rfl rfl rfl (fun _ _ => rfl) rfl rfl (jR_1_0 _) ?_
      refine jv_iload_n (pc' := 17) (k := 1) (x := (iI ((a : Nat) : Int))) rfl rfl rfl rfl ?_
      refine jv_iaload (pc' := 18) (n := 80) (e := ((a : Nat) : Int)) (v := (iI (c a))) rfl rfl (by decide) rfl rfl rfl (by omega) (hC.2.2.1 a (by omega)) ?_
      refine jx_step (pc' := 22) rfl ?_
      refine jv_retI rfl rfl ⟨_, _, rfl, ?_⟩
      exact ⟨jq_i (by first | rfl | exact (hC.2.2.2.2 a (by omega)).symm), rfl⟩
theorem cl_isAtEnd_k (hC : CT I 1 c n) (ha : I 11 1 = iI ((a : Nat) : Int)) (hp : p 19 = some 1) (hb : a ≤ 1000)  : jc L xs d 50 [.ref 11] (jx_G j I M p) (fun v g1 => v = some (.int (jb (n ≤ a))) ∧ g1 = jx_G j I M p) := by
  unfold jc
  have hn := hC.2.1
  have hc := CT_c hC a
  refine jv_aload_n (pc' := 1) (k := 0) (x := 11) rfl rfl rfl rfl ?_
  refine jv_getI (pc' := 4) (c := 4) (k := 1) (v := (iI ((a : Nat) : Int))) rfl rfl rfl (fun _ _ => rfl) rfl rfl ha ?_
  refine jv_aload_n (pc' := 5) (k := 0) (x := 11) rfl rfl rfl rfl ?_
  refine jv_getR (pc' := 8) (c := 4) (k := 0) (v := 1) rfl rfl rfl (fun _ _ => rfl) rfl rfl hp ?_
  refine jv_getI (pc' := 11) (c := 1) (k := 1) (v := (iI (n : Int))) rfl rfl rfl (fun _ _ => rfl) rfl rfl hC.1 ?_
  refine jv_ic_lt (t := 18) (pc' := 14) (a := ((a : Nat) : Int)) (b := (n : Int)) rfl rfl rfl (by omega) (fun h1 => ?_) (fun h1 => ?_)
  · skip
    refine jv_iconst (pc' := 19) (n := 0) rfl rfl ?_
    refine jv_retZ rfl rfl (by first | exact Or.inl rfl | exact Or.inr rfl) ⟨_, _, rfl, ?_⟩
    exact ⟨jq_f (by omega), rfl⟩
  · skip
    refine jv_iconst (pc' := 15) (n := 1) rfl rfl ?_
    refine jx_step (pc' := 19) rfl ?_
    refine jv_retZ rfl rfl (by first | exact Or.inl rfl | exact Or.inr rfl) ⟨_, _, rfl, ?_⟩
    exact ⟨jq_t (by omega), rfl⟩
theorem cl_seen_k (hC : CT I 1 c n) (ha : I 11 1 = iI ((a : Nat) : Int)) (hp : p 19 = some 1) (hb : a ≤ 1000)  : jc L xs (d + 1) 51 [.ref 11] (jx_G j I M p) (fun v g1 => v = some (.int (iI (c a))) ∧ g1 = jx_G j I M p) := by
  unfold jc
  have hn := hC.2.1
  have hc := CT_c hC a
  refine jv_aload_n (pc' := 1) (k := 0) (x := 11) rfl rfl rfl rfl ?_
  refine jv_getR (pc' := 4) (c := 4) (k := 0) (v := 1) rfl rfl rfl (fun _ _ => rfl) rfl rfl hp ?_
  refine jv_aload_n (pc' := 5) (k := 0) (x := 11) rfl rfl rfl rfl ?_
  refine jv_getI (pc' := 8) (c := 4) (k := 1) (v := (iI ((a : Nat) : Int))) rfl rfl rfl (fun _ _ => rfl) rfl rfl ha ?_
  refine jv_call (pc' := 11) rfl (cl_charAt_k hC hb) (fun vq1 gq1 q1 => ?_)
  obtain ⟨rfl, rfl⟩ := q1
  show jx L xs _ 51 11 _ [.int (iI (c a))] _ _
  refine jv_retI rfl rfl ⟨_, _, rfl, ?_⟩
  exact ⟨rfl, rfl⟩
theorem cl_sees_y_k (hC : CT I 1 c n) (ha : I 11 1 = iI ((a : Nat) : Int)) (hp : p 19 = some 1) (hb : a ≤ 1000) {x : Int} (hx : iR x) (hk : c a = x) : jc L xs (d + 1) 52 [.ref 11, .int (iI x)] (jx_G j I M p) (fun v g1 => v = some (.int (iI 1)) ∧ g1 = jx_G j I M p) := by
  unfold jc
  have hn := hC.2.1
  have hc := CT_c hC a
  refine jv_aload_n (pc' := 1) (k := 0) (x := 11) rfl rfl rfl rfl ?_
  refine jv_getR (pc' := 4) (c := 4) (k := 0) (v := 1) rfl rfl rfl (fun _ _ => rfl) rfl rfl hp ?_
  refine jv_aload_n (pc' := 5) (k := 0) (x := 11) rfl rfl rfl rfl ?_
  refine jv_getI (pc' := 8) (c := 4) (k := 1) (v := (iI ((a : Nat) : Int))) rfl rfl rfl (fun _ _ => rfl) rfl rfl ha ?_
  refine jv_call (pc' := 11) rfl (cl_charAt_k hC hb) (fun vq1 gq1 q1 => ?_)
  obtain ⟨rfl, rfl⟩ := q1
  show jx L xs _ 52 11 _ [.int (iI (c a))] _ _
  refine jv_iload_n (pc' := 12) (k := 1) (x := (iI x)) rfl rfl rfl rfl ?_
  refine jv_ic_ne (t := 19) (pc' := 15) (a := (c a)) (b := x) rfl rfl rfl (by omega) (fun h2 => ?_) (fun h2 => ?_)
  · skip
    refine jv_iconst (pc' := 20) (n := 0) rfl rfl ?_
    refine jv_retZ rfl rfl (by first | exact Or.inl rfl | exact Or.inr rfl) ⟨_, _, rfl, ?_⟩
    first | (exfalso; omega) | exact ⟨rfl, rfl⟩
  · skip
    refine jv_iconst (pc' := 16) (n := 1) rfl rfl ?_
    refine jx_step (pc' := 20) rfl ?_
    refine jv_retZ rfl rfl (by first | exact Or.inl rfl | exact Or.inr rfl) ⟨_, _, rfl, ?_⟩
    first | (exfalso; omega) | exact ⟨rfl, rfl⟩
theorem cl_take_y_k (hC : CT I 1 c n) (ha : I 11 1 = iI ((a : Nat) : Int)) (hp : p 19 = some 1) (hb : a ≤ 1000) {x : Int} (hx : iR x) (hk : c a = x) : jc L xs (d + 1) 53 [.ref 11, .int (iI x)] (jx_G j I M p) (fun v g1 => v = some (.int (iI 1)) ∧ g1 = jx_G j (jm_u I 11 1 (iI ((a + 1 : Nat) : Int))) M p) := by
  unfold jc
  have hn := hC.2.1
  have hc := CT_c hC a
  refine jv_aload_n (pc' := 1) (k := 0) (x := 11) rfl rfl rfl rfl ?_
  refine jv_getR (pc' := 4) (c := 4) (k := 0) (v := 1) rfl rfl rfl (fun _ _ => rfl) rfl rfl hp ?_
  refine jv_aload_n (pc' := 5) (k := 0) (x := 11) rfl rfl rfl rfl ?_
  refine jv_getI (pc' := 8) (c := 4) (k := 1) (v := (iI ((a : Nat) : Int))) rfl rfl rfl (fun _ _ => rfl) rfl rfl ha ?_
  refine jv_call (pc' := 11) rfl (cl_charAt_k hC hb) (fun vq1 gq1 q1 => ?_)
  obtain ⟨rfl, rfl⟩ := q1
  show jx L xs _ 53 11 _ [.int (iI (c a))] _ _
  refine jv_iload_n (pc' := 12) (k := 1) (x := (iI x)) rfl rfl rfl rfl ?_
  refine jv_ic_eq (t := 17) (pc' := 15) (a := (c a)) (b := x) rfl rfl rfl (by omega) (fun h2 => ?_) (fun h2 => ?_)
  · skip
    refine jv_aload_n (pc' := 18) (k := 0) (x := 11) rfl rfl rfl rfl ?_
    refine jx_step (pc' := 19) rfl ?_
    refine jv_getI (pc' := 22) (c := 4) (k := 1) (v := (iI ((a : Nat) : Int))) rfl rfl rfl (fun _ _ => rfl) rfl rfl ha ?_
    refine jv_iconst (pc' := 23) (n := 1) rfl rfl ?_
    refine jv_iadd (pc' := 24) (a := ((a : Nat) : Int)) (b := 1) rfl rfl ?_
    refine jv_putI (pc' := 27) (c := 4) (k := 1) rfl rfl rfl rfl (fun _ _ _  => rfl) rfl rfl ?_
    refine jv_iconst (pc' := 28) (n := 1) rfl rfl ?_
    refine jv_retZ rfl rfl (by first | exact Or.inl rfl | exact Or.inr rfl) ⟨_, _, rfl, ?_⟩
    first | (exfalso; omega) | exact ⟨rfl, rfl⟩
  · skip
    refine jv_iconst (pc' := 16) (n := 0) rfl rfl ?_
    refine jv_retZ rfl rfl (by first | exact Or.inl rfl | exact Or.inr rfl) ⟨_, _, rfl, ?_⟩
    first | (exfalso; omega) | exact ⟨rfl, rfl⟩
theorem cl_sees_n_k (hC : CT I 1 c n) (ha : I 11 1 = iI ((a : Nat) : Int)) (hp : p 19 = some 1) (hb : a ≤ 1000) {x : Int} (hx : iR x) (hk : ¬ c a = x) : jc L xs (d + 1) 52 [.ref 11, .int (iI x)] (jx_G j I M p) (fun v g1 => v = some (.int (iI 0)) ∧ g1 = jx_G j I M p) := by
  unfold jc
  have hn := hC.2.1
  have hc := CT_c hC a
  refine jv_aload_n (pc' := 1) (k := 0) (x := 11) rfl rfl rfl rfl ?_
  refine jv_getR (pc' := 4) (c := 4) (k := 0) (v := 1) rfl rfl rfl (fun _ _ => rfl) rfl rfl hp ?_
  refine jv_aload_n (pc' := 5) (k := 0) (x := 11) rfl rfl rfl rfl ?_
  refine jv_getI (pc' := 8) (c := 4) (k := 1) (v := (iI ((a : Nat) : Int))) rfl rfl rfl (fun _ _ => rfl) rfl rfl ha ?_
  refine jv_call (pc' := 11) rfl (cl_charAt_k hC hb) (fun vq1 gq1 q1 => ?_)
  obtain ⟨rfl, rfl⟩ := q1
  show jx L xs _ 52 11 _ [.int (iI (c a))] _ _
  refine jv_iload_n (pc' := 12) (k := 1) (x := (iI x)) rfl rfl rfl rfl ?_
  refine jv_ic_ne (t := 19) (pc' := 15) (a := (c a)) (b := x) rfl rfl rfl (by omega) (fun h2 => ?_) (fun h2 => ?_)
  · skip
    refine jv_iconst (pc' := 20) (n := 0) rfl rfl ?_
    refine jv_retZ rfl rfl (by first | exact Or.inl rfl | exact Or.inr rfl) ⟨_, _, rfl, ?_⟩
    first | (exfalso; omega) | exact ⟨rfl, rfl⟩
  · skip
    refine jv_iconst (pc' := 16) (n := 1) rfl rfl ?_
    refine jx_step (pc' := 20) rfl ?_
    refine jv_retZ rfl rfl (by first | exact Or.inl rfl | exact Or.inr rfl) ⟨_, _, rfl, ?_⟩
    first | (exfalso; omega) | exact ⟨rfl, rfl⟩
theorem cl_take_n_k (hC : CT I 1 c n) (ha : I 11 1 = iI ((a : Nat) : Int)) (hp : p 19 = some 1) (hb : a ≤ 1000) {x : Int} (hx : iR x) (hk : ¬ c a = x) : jc L xs (d + 1) 53 [.ref 11, .int (iI x)] (jx_G j I M p) (fun v g1 => v = some (.int (iI 0)) ∧ g1 = jx_G j I M p) := by
  unfold jc
  have hn := hC.2.1
  have hc := CT_c hC a
  refine jv_aload_n (pc' := 1) (k := 0) (x := 11) rfl rfl rfl rfl ?_
  refine jv_getR (pc' := 4) (c := 4) (k := 0) (v := 1) rfl rfl rfl (fun _ _ => rfl) rfl rfl hp ?_
  refine jv_aload_n (pc' := 5) (k := 0) (x := 11) rfl rfl rfl rfl ?_
  refine jv_getI (pc' := 8) (c := 4) (k := 1) (v := (iI ((a : Nat) : Int))) rfl rfl rfl (fun _ _ => rfl) rfl rfl ha ?_
  refine jv_call (pc' := 11) rfl (cl_charAt_k hC hb) (fun vq1 gq1 q1 => ?_)
  obtain ⟨rfl, rfl⟩ := q1
  show jx L xs _ 53 11 _ [.int (iI (c a))] _ _
  refine jv_iload_n (pc' := 12) (k := 1) (x := (iI x)) rfl rfl rfl rfl ?_
  refine jv_ic_eq (t := 17) (pc' := 15) (a := (c a)) (b := x) rfl rfl rfl (by omega) (fun h2 => ?_) (fun h2 => ?_)
  · skip
    refine jv_aload_n (pc' := 18) (k := 0) (x := 11) rfl rfl rfl rfl ?_
    refine jx_step (pc' := 19) rfl ?_
    refine jv_getI (pc' := 22) (c := 4) (k := 1) (v := (iI ((a : Nat) : Int))) rfl rfl rfl (fun _ _ => rfl) rfl rfl ha ?_
    refine jv_iconst (pc' := 23) (n := 1) rfl rfl ?_
    refine jv_iadd (pc' := 24) (a := ((a : Nat) : Int)) (b := 1) rfl rfl ?_
    refine jv_putI (pc' := 27) (c := 4) (k := 1) rfl rfl rfl rfl (fun _ _ _  => rfl) rfl rfl ?_
    refine jv_iconst (pc' := 28) (n := 1) rfl rfl ?_
    refine jv_retZ rfl rfl (by first | exact Or.inl rfl | exact Or.inr rfl) ⟨_, _, rfl, ?_⟩
    first | (exfalso; omega) | exact ⟨rfl, rfl⟩
  · skip
    refine jv_iconst (pc' := 16) (n := 0) rfl rfl ?_
    refine jv_retZ rfl rfl (by first | exact Or.inl rfl | exact Or.inr rfl) ⟨_, _, rfl, ?_⟩
    first | (exfalso; omega) | exact ⟨rfl, rfl⟩
theorem cl_seenName_y_k (hC : CT I 1 c n) (ha : I 11 1 = iI ((a : Nat) : Int)) (hp : p 19 = some 1) (hb : a ≤ 1000) (hk : 97 ≤ c a ∧ c a ≤ 104) : jc L xs (d + 1) 54 [.ref 11] (jx_G j I M p) (fun v g1 => v = some (.int (iI (c a - 97))) ∧ g1 = jx_G j I M p) := by
  unfold jc
  have hn := hC.2.1
  have hc := CT_c hC a
  refine jv_aload_n (pc' := 1) (k := 0) (x := 11) rfl rfl rfl rfl ?_
  refine jv_getR (pc' := 4) (c := 4) (k := 0) (v := 1) rfl rfl rfl (fun _ _ => rfl) rfl rfl hp ?_
  refine jv_aload_n (pc' := 5) (k := 0) (x := 11) rfl rfl rfl rfl ?_
  refine jv_getI (pc' := 8) (c := 4) (k := 1) (v := (iI ((a : Nat) : Int))) rfl rfl rfl (fun _ _ => rfl) rfl rfl ha ?_
  refine jv_call (pc' := 11) rfl (cl_charAt_k hC hb) (fun vq1 gq1 q1 => ?_)
  obtain ⟨rfl, rfl⟩ := q1
  show jx L xs _ 54 11 _ [.int (iI (c a))] _ _
  refine jv_bipush (pc' := 13) (n := 97) rfl rfl rfl ?_
  refine jv_isub (pc' := 14) (a := (c a)) (b := 97) rfl rfl ?_
  refine jv_istore_n (pc' := 15) (k := 1) (x := (iI ((c a) - 97))) rfl rfl rfl rfl (Or.inr rfl) ?_
  refine jv_iload_n (pc' := 16) (k := 1) (x := (iI ((c a) - 97))) rfl rfl rfl rfl ?_
  refine jv_call (pc' := 19) rfl (cl_isFieldName (by omega)) (fun vq2 gq2 q2 => ?_)
  obtain ⟨rfl, rfl⟩ := q2
  show jx L xs _ 54 19 _ [.int (jb (0 ≤ ((c a) - 97) ∧ ((c a) - 97) < 8))] _ _
  refine jv_jb_eq (t := 26) (pc' := 22) (P := 0 ≤ ((c a) - 97) ∧ ((c a) - 97) < 8) rfl rfl rfl (fun h3 => ?_) (fun h3 => ?_)
  · skip
    refine jv_iconst (pc' := 27) (n := -1) rfl rfl ?_
    refine jv_retI rfl rfl ⟨_, _, rfl, ?_⟩
    first | (exfalso; omega) | exact ⟨rfl, rfl⟩
  · skip
    refine jv_iload_n (pc' := 23) (k := 1) (x := (iI ((c a) - 97))) rfl rfl rfl rfl ?_
    refine jx_step (pc' := 27) rfl ?_
    refine jv_retI rfl rfl ⟨_, _, rfl, ?_⟩
    first | (exfalso; omega) | exact ⟨rfl, rfl⟩
theorem cl_seenName_n_k (hC : CT I 1 c n) (ha : I 11 1 = iI ((a : Nat) : Int)) (hp : p 19 = some 1) (hb : a ≤ 1000) (hk : ¬ (97 ≤ c a ∧ c a ≤ 104)) : jc L xs (d + 1) 54 [.ref 11] (jx_G j I M p) (fun v g1 => v = some (.int (iI (-1))) ∧ g1 = jx_G j I M p) := by
  unfold jc
  have hn := hC.2.1
  have hc := CT_c hC a
  refine jv_aload_n (pc' := 1) (k := 0) (x := 11) rfl rfl rfl rfl ?_
  refine jv_getR (pc' := 4) (c := 4) (k := 0) (v := 1) rfl rfl rfl (fun _ _ => rfl) rfl rfl hp ?_
  refine jv_aload_n (pc' := 5) (k := 0) (x := 11) rfl rfl rfl rfl ?_
  refine jv_getI (pc' := 8) (c := 4) (k := 1) (v := (iI ((a : Nat) : Int))) rfl rfl rfl (fun _ _ => rfl) rfl rfl ha ?_
  refine jv_call (pc' := 11) rfl (cl_charAt_k hC hb) (fun vq1 gq1 q1 => ?_)
  obtain ⟨rfl, rfl⟩ := q1
  show jx L xs _ 54 11 _ [.int (iI (c a))] _ _
  refine jv_bipush (pc' := 13) (n := 97) rfl rfl rfl ?_
  refine jv_isub (pc' := 14) (a := (c a)) (b := 97) rfl rfl ?_
  refine jv_istore_n (pc' := 15) (k := 1) (x := (iI ((c a) - 97))) rfl rfl rfl rfl (Or.inr rfl) ?_
  refine jv_iload_n (pc' := 16) (k := 1) (x := (iI ((c a) - 97))) rfl rfl rfl rfl ?_
  refine jv_call (pc' := 19) rfl (cl_isFieldName (by omega)) (fun vq2 gq2 q2 => ?_)
  obtain ⟨rfl, rfl⟩ := q2
  show jx L xs _ 54 19 _ [.int (jb (0 ≤ ((c a) - 97) ∧ ((c a) - 97) < 8))] _ _
  refine jv_jb_eq (t := 26) (pc' := 22) (P := 0 ≤ ((c a) - 97) ∧ ((c a) - 97) < 8) rfl rfl rfl (fun h3 => ?_) (fun h3 => ?_)
  · skip
    refine jv_iconst (pc' := 27) (n := -1) rfl rfl ?_
    refine jv_retI rfl rfl ⟨_, _, rfl, ?_⟩
    first | (exfalso; omega) | exact ⟨rfl, rfl⟩
  · skip
    refine jv_iload_n (pc' := 23) (k := 1) (x := (iI ((c a) - 97))) rfl rfl rfl rfl ?_
    refine jx_step (pc' := 27) rfl ?_
    refine jv_retI rfl rfl ⟨_, _, rfl, ?_⟩
    first | (exfalso; omega) | exact ⟨rfl, rfl⟩
theorem cl_takeNumber_k (hC : CT I 1 c n) (ha : I 11 1 = iI ((a : Nat) : Int)) (hp : p 19 = some 1) (hb : a ≤ 80) (han : a ≤ n) : jc L xs d 55 [.ref 11] (jx_G j I M p) (fun v g1 => v = some (.int (jb (0 < nd c a))) ∧ g1 = jx_G j (jm_u (jm_u I 11 2 (iI (nv c a))) 11 1 (iI ((a + nd c a : Nat) : Int))) M p) := by
  unfold jc
  have hn := hC.2.1
  refine jv_aload_n (pc' := 1) (k := 0) (x := 11) rfl rfl rfl rfl ?_
  refine jv_getI (pc' := 4) (c := 4) (k := 1) (v := (iI ((a : Nat) : Int))) rfl rfl rfl (fun _ _ => rfl) rfl rfl ha ?_
  refine jv_istore_n (pc' := 5) (k := 1) (x := (iI ((a : Nat) : Int))) rfl rfl rfl rfl (Or.inr rfl) ?_
  refine jv_aload_n (pc' := 6) (k := 0) (x := 11) rfl rfl rfl rfl ?_
  refine jv_iconst (pc' := 7) (n := 0) rfl rfl ?_
  refine jv_putI (pc' := 10) (c := 4) (k := 2) rfl rfl rfl rfl (fun _ _ _  => rfl) rfl rfl ?_
  have H1 : ∀ (N : Nat) (i : Nat) (v : Int), 6 - i < N → (i ≤ 6) → (ndk c (6 - i) (a + i) + i = nd c a) → (nvk c (nd c a - i) (a + i) v = nv c a) → (a + i ≤ n) → ∀ f : jm_F, f 0 = some (.ref 11) → f 1 = some (.int (iI ((a : Nat) : Int))) → jm_lng (f 2) = false → jx L xs (d) 55 10 f [] (jx_G j (jm_u (jm_u I 11 2 (iI v)) 11 1 (iI ((a + i : Nat) : Int))) M p) (fun z => ∃ v g1, z = (.inl v, g1) ∧ (fun v g1 => v = some (.int (jb (0 < nd c a))) ∧ g1 = jx_G j (jm_u (jm_u I 11 2 (iI (nv c a))) 11 1 (iI ((a + nd c a : Nat) : Int))) M p) v g1) := by
    intro N
    induction N with
    | zero => intro i v hN; exact absurd hN (Nat.not_lt_zero _)
    | succ N ih =>
      intro i v hN hi hq hw hin f hf0 hf1 hg2
      refine jv_aload_n (pc' := 11) (k := 0) (x := 11) rfl rfl rfl hf0 ?_
      refine jv_getI (pc' := 14) (c := 4) (k := 1) (v := (iI ((a + i : Nat) : Int))) rfl rfl rfl (fun _ _ => rfl) rfl rfl rfl ?_
      refine jv_aload_n (pc' := 15) (k := 0) (x := 11) rfl rfl rfl hf0 ?_
      refine jv_getR (pc' := 18) (c := 4) (k := 0) (v := 1) rfl rfl rfl (fun _ _ => rfl) rfl rfl hp ?_
      refine jv_getI (pc' := 21) (c := 1) (k := 1) (v := (iI (n : Int))) rfl rfl rfl (fun _ _ => rfl) rfl rfl hC.1 ?_
      refine jv_ic_ge (t := 90) (pc' := 24) (a := ((a + i : Nat) : Int)) (b := (n : Int)) rfl rfl rfl (by omega) (fun h2 => ?_) (fun h2 => ?_)
      · skip
        refine jv_aload_n (pc' := 91) (k := 0) (x := 11) rfl rfl rfl hf0 ?_
        refine jv_getI (pc' := 94) (c := 4) (k := 1) (v := (iI ((a + i : Nat) : Int))) rfl rfl rfl (fun _ _ => rfl) rfl rfl rfl ?_
        refine jv_iload_n (pc' := 95) (k := 1) (x := (iI ((a : Nat) : Int))) rfl rfl rfl hf1 ?_
        refine jv_ic_le (t := 102) (pc' := 98) (a := ((a + i : Nat) : Int)) (b := ((a : Nat) : Int)) rfl rfl rfl (by omega) (fun h3 => ?_) (fun h3 => ?_)
        · skip
          refine jv_iconst (pc' := 103) (n := 0) rfl rfl ?_
          refine jv_retZ rfl rfl (by first | exact Or.inl rfl | exact Or.inr rfl) ⟨_, _, rfl, ?_⟩
          have hz : nd c a = i := by
            first
            | (have h6 : 6 - i = 0 := by omega
               rw [h6] at hq; have : ndk c 0 (a + i) = 0 := rfl; omega)
            | (rw [ndk_n (by omega)] at hq; omega)
            | (rw [ndk_n (by rw [hC.2.2.2.2 (a + i) (by omega)]; omega)] at hq; omega)
          rw [hz, Nat.sub_self] at hw
          exact ⟨jq_f (by omega), by rw [hz, ← hw]; rfl⟩
        · skip
          refine jv_iconst (pc' := 99) (n := 1) rfl rfl ?_
          refine jx_step (pc' := 103) rfl ?_
          refine jv_retZ rfl rfl (by first | exact Or.inl rfl | exact Or.inr rfl) ⟨_, _, rfl, ?_⟩
          have hz : nd c a = i := by
            first
            | (have h6 : 6 - i = 0 := by omega
               rw [h6] at hq; have : ndk c 0 (a + i) = 0 := rfl; omega)
            | (rw [ndk_n (by omega)] at hq; omega)
            | (rw [ndk_n (by rw [hC.2.2.2.2 (a + i) (by omega)]; omega)] at hq; omega)
          rw [hz, Nat.sub_self] at hw
          exact ⟨jq_t (by omega), by rw [hz, ← hw]; rfl⟩
      · skip
        have hc := CT_c hC (a + i)
        refine jv_aload_n (pc' := 25) (k := 0) (x := 11) rfl rfl rfl hf0 ?_
        refine jv_getI (pc' := 28) (c := 4) (k := 1) (v := (iI ((a + i : Nat) : Int))) rfl rfl rfl (fun _ _ => rfl) rfl rfl rfl ?_
        refine jv_iload_n (pc' := 29) (k := 1) (x := (iI ((a : Nat) : Int))) rfl rfl rfl hf1 ?_
        refine jv_bipush (pc' := 31) (n := 6) rfl rfl rfl ?_
        refine jv_iadd (pc' := 32) (a := ((a : Nat) : Int)) (b := 6) rfl rfl ?_
        refine jv_ic_ge (t := 90) (pc' := 35) (a := ((a + i : Nat) : Int)) (b := (((a : Nat) : Int) + 6)) rfl rfl rfl (by omega) (fun h4 => ?_) (fun h4 => ?_)
        · skip
          refine jv_aload_n (pc' := 91) (k := 0) (x := 11) rfl rfl rfl hf0 ?_
          refine jv_getI (pc' := 94) (c := 4) (k := 1) (v := (iI ((a + i : Nat) : Int))) rfl rfl rfl (fun _ _ => rfl) rfl rfl rfl ?_
          refine jv_iload_n (pc' := 95) (k := 1) (x := (iI ((a : Nat) : Int))) rfl rfl rfl hf1 ?_
          refine jv_ic_le (t := 102) (pc' := 98) (a := ((a + i : Nat) : Int)) (b := ((a : Nat) : Int)) rfl rfl rfl (by omega) (fun h5 => ?_) (fun h5 => ?_)
          · skip
            refine jv_iconst (pc' := 103) (n := 0) rfl rfl ?_
            refine jv_retZ rfl rfl (by first | exact Or.inl rfl | exact Or.inr rfl) ⟨_, _, rfl, ?_⟩
            have hz : nd c a = i := by
              first
              | (have h6 : 6 - i = 0 := by omega
                 rw [h6] at hq; have : ndk c 0 (a + i) = 0 := rfl; omega)
              | (rw [ndk_n (by omega)] at hq; omega)
              | (rw [ndk_n (by rw [hC.2.2.2.2 (a + i) (by omega)]; omega)] at hq; omega)
            rw [hz, Nat.sub_self] at hw
            exact ⟨jq_f (by omega), by rw [hz, ← hw]; rfl⟩
          · skip
            refine jv_iconst (pc' := 99) (n := 1) rfl rfl ?_
            refine jx_step (pc' := 103) rfl ?_
            refine jv_retZ rfl rfl (by first | exact Or.inl rfl | exact Or.inr rfl) ⟨_, _, rfl, ?_⟩
            have hz : nd c a = i := by
              first
              | (have h6 : 6 - i = 0 := by omega
                 rw [h6] at hq; have : ndk c 0 (a + i) = 0 := rfl; omega)
              | (rw [ndk_n (by omega)] at hq; omega)
              | (rw [ndk_n (by rw [hC.2.2.2.2 (a + i) (by omega)]; omega)] at hq; omega)
            rw [hz, Nat.sub_self] at hw
            exact ⟨jq_t (by omega), by rw [hz, ← hw]; rfl⟩
        · skip
          refine jv_aload_n (pc' := 36) (k := 0) (x := 11) rfl rfl rfl hf0 ?_
          refine jv_getR (pc' := 39) (c := 4) (k := 0) (v := 1) rfl rfl rfl (fun _ _ => rfl) rfl rfl hp ?_
          refine jv_getR (pc' := 42) (c := 1) (k := 0) (v := 2) rfl rfl rfl (fun _ _ => rfl) rfl rfl (jR_1_0 _) ?_
          refine jv_aload_n (pc' := 43) (k := 0) (x := 11) rfl rfl rfl hf0 ?_
          refine jv_getI (pc' := 46) (c := 4) (k := 1) (v := (iI ((a + i : Nat) : Int))) rfl rfl rfl (fun _ _ => rfl) rfl rfl rfl ?_
          refine jv_iaload (pc' := 47) (n := 80) (e := ((a + i : Nat) : Int)) (v := (iI (c (a + i)))) rfl rfl (by decide) rfl rfl rfl (by omega) (hC.2.2.1 (a + i) (by omega)) ?_
          refine jv_bipush (pc' := 49) (n := 48) rfl rfl rfl ?_
          refine jv_isub (pc' := 50) (a := (c (a + i))) (b := 48) rfl rfl ?_
          refine jv_istore_n (pc' := 51) (k := 2) (x := (iI ((c (a + i)) - 48))) rfl rfl rfl rfl (Or.inr (congrArg jm_lng hf1)) ?_
          refine jv_iload_n (pc' := 52) (k := 2) (x := (iI ((c (a + i)) - 48))) rfl rfl rfl rfl ?_
          refine jv_if_lt (t := 90) (pc' := 55) (a := ((c (a + i)) - 48)) rfl rfl rfl (by omega) (fun h6 => ?_) (fun h6 => ?_)
          · skip
            refine jv_aload_n (pc' := 91) (k := 0) (x := 11) rfl rfl rfl hf0 ?_
            refine jv_getI (pc' := 94) (c := 4) (k := 1) (v := (iI ((a + i : Nat) : Int))) rfl rfl rfl (fun _ _ => rfl) rfl rfl rfl ?_
            refine jv_iload_n (pc' := 95) (k := 1) (x := (iI ((a : Nat) : Int))) rfl rfl rfl hf1 ?_
            refine jv_ic_le (t := 102) (pc' := 98) (a := ((a + i : Nat) : Int)) (b := ((a : Nat) : Int)) rfl rfl rfl (by omega) (fun h7 => ?_) (fun h7 => ?_)
            · skip
              refine jv_iconst (pc' := 103) (n := 0) rfl rfl ?_
              refine jv_retZ rfl rfl (by first | exact Or.inl rfl | exact Or.inr rfl) ⟨_, _, rfl, ?_⟩
              have hz : nd c a = i := by
                first
                | (have h6 : 6 - i = 0 := by omega
                   rw [h6] at hq; have : ndk c 0 (a + i) = 0 := rfl; omega)
                | (rw [ndk_n (by omega)] at hq; omega)
                | (rw [ndk_n (by rw [hC.2.2.2.2 (a + i) (by omega)]; omega)] at hq; omega)
              rw [hz, Nat.sub_self] at hw
              exact ⟨jq_f (by omega), by rw [hz, ← hw]; rfl⟩
            · skip
              refine jv_iconst (pc' := 99) (n := 1) rfl rfl ?_
              refine jx_step (pc' := 103) rfl ?_
              refine jv_retZ rfl rfl (by first | exact Or.inl rfl | exact Or.inr rfl) ⟨_, _, rfl, ?_⟩
              have hz : nd c a = i := by
                first
                | (have h6 : 6 - i = 0 := by omega
                   rw [h6] at hq; have : ndk c 0 (a + i) = 0 := rfl; omega)
                | (rw [ndk_n (by omega)] at hq; omega)
                | (rw [ndk_n (by rw [hC.2.2.2.2 (a + i) (by omega)]; omega)] at hq; omega)
              rw [hz, Nat.sub_self] at hw
              exact ⟨jq_t (by omega), by rw [hz, ← hw]; rfl⟩
          · skip
            refine jv_iload_n (pc' := 56) (k := 2) (x := (iI ((c (a + i)) - 48))) rfl rfl rfl rfl ?_
            refine jv_bipush (pc' := 58) (n := 9) rfl rfl rfl ?_
            refine jv_ic_le (t := 64) (pc' := 61) (a := ((c (a + i)) - 48)) (b := 9) rfl rfl rfl (by omega) (fun h8 => ?_) (fun h8 => ?_)
            · skip
              refine jv_aload_n (pc' := 65) (k := 0) (x := 11) rfl rfl rfl hf0 ?_
              refine jv_aload_n (pc' := 66) (k := 0) (x := 11) rfl rfl rfl hf0 ?_
              refine jv_getI (pc' := 69) (c := 4) (k := 2) (v := (iI v)) rfl rfl rfl (fun _ _ => rfl) rfl rfl rfl ?_
              refine jv_bipush (pc' := 71) (n := 10) rfl rfl rfl ?_
              refine jv_imul (pc' := 72) (a := v) (b := 10) rfl rfl ?_
              refine jv_iload_n (pc' := 73) (k := 2) (x := (iI ((c (a + i)) - 48))) rfl rfl rfl rfl ?_
              refine jv_iadd (pc' := 74) (a := (v * 10)) (b := ((c (a + i)) - 48)) rfl rfl ?_
              refine jv_putI (pc' := 77) (c := 4) (k := 2) rfl rfl rfl rfl (fun _ _ _  => rfl) rfl rfl ?_
              refine jv_aload_n (pc' := 78) (k := 0) (x := 11) rfl rfl rfl hf0 ?_
              refine jx_step (pc' := 79) rfl ?_
              refine jv_getI (pc' := 82) (c := 4) (k := 1) (v := (iI ((a + i : Nat) : Int))) rfl rfl rfl (fun _ _ => rfl) rfl rfl rfl ?_
              refine jv_iconst (pc' := 83) (n := 1) rfl rfl ?_
              refine jv_iadd (pc' := 84) (a := ((a + i : Nat) : Int)) (b := 1) rfl rfl ?_
              refine jv_putI (pc' := 87) (c := 4) (k := 1) rfl rfl rfl rfl (fun _ _ _  => rfl) rfl rfl ?_
              refine jx_step (pc' := 10) rfl ?_
              refine jx_cast (g' := jx_G j (jm_u (jm_u I 11 2 (iI (v * 10 + (c (a + i) - 48)))) 11 1 (iI ((a + (i + 1) : Nat) : Int))) M p) (congrArg (fun z => jx_G j z M p) (by rw [jm_u_c (jm_u I 11 2 (iI v)) 11 1 11 2 _ _ (by decide), jm_u_u, jm_u_u]; rfl)) ?_
              exact ih (i + 1) (v * 10 + (c (a + i) - 48)) (by omega) (by omega) (by rw [ndk_y (by omega) (by omega)] at hq; rw [show 6 - (i + 1) = 6 - i - 1 by omega, show a + (i + 1) = a + i + 1 by omega]; omega) (by rw [nvk_s (by rw [ndk_y (by omega) (by omega)] at hq; omega)] at hw; rw [show nd c a - (i + 1) = nd c a - i - 1 by omega, show a + (i + 1) = a + i + 1 by omega, ← hw]; congr 1; omega) (by omega) _ hf0 hf1 rfl
            · skip
              refine jx_step (pc' := 90) rfl ?_
              refine jv_aload_n (pc' := 91) (k := 0) (x := 11) rfl rfl rfl hf0 ?_
              refine jv_getI (pc' := 94) (c := 4) (k := 1) (v := (iI ((a + i : Nat) : Int))) rfl rfl rfl (fun _ _ => rfl) rfl rfl rfl ?_
              refine jv_iload_n (pc' := 95) (k := 1) (x := (iI ((a : Nat) : Int))) rfl rfl rfl hf1 ?_
              refine jv_ic_le (t := 102) (pc' := 98) (a := ((a + i : Nat) : Int)) (b := ((a : Nat) : Int)) rfl rfl rfl (by omega) (fun h9 => ?_) (fun h9 => ?_)
              · skip
                refine jv_iconst (pc' := 103) (n := 0) rfl rfl ?_
                refine jv_retZ rfl rfl (by first | exact Or.inl rfl | exact Or.inr rfl) ⟨_, _, rfl, ?_⟩
                have hz : nd c a = i := by
                  first
                  | (have h6 : 6 - i = 0 := by omega
                     rw [h6] at hq; have : ndk c 0 (a + i) = 0 := rfl; omega)
                  | (rw [ndk_n (by omega)] at hq; omega)
                  | (rw [ndk_n (by rw [hC.2.2.2.2 (a + i) (by omega)]; omega)] at hq; omega)
                rw [hz, Nat.sub_self] at hw
                exact ⟨jq_f (by omega), by rw [hz, ← hw]; rfl⟩
              · skip
                refine jv_iconst (pc' := 99) (n := 1) rfl rfl ?_
                refine jx_step (pc' := 103) rfl ?_
                refine jv_retZ rfl rfl (by first | exact Or.inl rfl | exact Or.inr rfl) ⟨_, _, rfl, ?_⟩
                have hz : nd c a = i := by
                  first
                  | (have h6 : 6 - i = 0 := by omega
                     rw [h6] at hq; have : ndk c 0 (a + i) = 0 := rfl; omega)
                  | (rw [ndk_n (by omega)] at hq; omega)
                  | (rw [ndk_n (by rw [hC.2.2.2.2 (a + i) (by omega)]; omega)] at hq; omega)
                rw [hz, Nat.sub_self] at hw
                exact ⟨jq_t (by omega), by rw [hz, ← hw]; rfl⟩
  refine jx_cast (g' := jx_G j (jm_u (jm_u I 11 2 (iI 0)) 11 1 (iI ((a + 0 : Nat) : Int))) M p) (congrArg (fun z => jx_G j z M p) (jm_u_iv ha)) ?_
  exact H1 _ 0 0 (Nat.lt_succ_self _) (by omega) rfl rfl (by omega) _ rfl rfl rfl
theorem cl_charAt_q (hl : TL t) (hC : CT I t c n) (hb : a ≤ 1000) : jc L xs d 30 [.ref t, .int (iI ((a : Nat) : Int))] (jx_G j I M p) (fun v g1 => v = some (.int (iI (c a))) ∧ g1 = jx_G j I M p) := by
  unfold jc
  have hn := hC.2.1
  refine jv_iload_n (pc' := 1) (k := 1) (x := (iI ((a : Nat) : Int))) rfl rfl rfl rfl ?_
  refine jv_if_lt (t := 21) (pc' := 4) (a := ((a : Nat) : Int)) rfl rfl rfl (by omega) (fun h1 => ?_) (fun h1 => ?_)
  · skip
    refine jv_iconst (pc' := 22) (n := -1) rfl rfl ?_
    refine jv_retI rfl rfl ⟨_, _, rfl, ?_⟩
    exact ⟨jq_i (by first | rfl | exact (hC.2.2.2.2 a (by omega)).symm), rfl⟩
  · skip
    refine jv_iload_n (pc' := 5) (k := 1) (x := (iI ((a : Nat) : Int))) rfl rfl rfl rfl ?_
    refine jv_aload_n (pc' := 6) (k := 0) (x := t) rfl rfl rfl rfl ?_
    refine jv_getI (pc' := 9) (c := 1) (k := 1) (v := (iI (n : Int))) rfl rfl rfl (fun _ _ => rfl) (TL_A hl j _ M p) rfl hC.1 ?_
    refine jv_ic_ge (t := 21) (pc' := 12) (a := ((a : Nat) : Int)) (b := (n : Int)) rfl rfl rfl (by omega) (fun h2 => ?_) (fun h2 => ?_)
    · skip
      refine jv_iconst (pc' := 22) (n := -1) rfl rfl ?_
      refine jv_retI rfl rfl ⟨_, _, rfl, ?_⟩
      exact ⟨jq_i (by first | rfl | exact (hC.2.2.2.2 a (by omega)).symm), rfl⟩
    · skip
      refine jv_aload_n (pc' := 13) (k := 0) (x := t) rfl rfl rfl rfl ?_
      refine jv_getR (pc' := 16) (c := 1) (k := 0) (v := (t + 1)) rfl rfl rfl (fun _ _ => rfl) (TL_A hl j _ M p) rfl (TL_R hl p) ?_
      refine jv_iload_n (pc' := 17) (k := 1) (x := (iI ((a : Nat) : Int))) rfl rfl rfl rfl ?_
      refine jv_iaload (pc' := 18) (n := 80) (e := ((a : Nat) : Int)) (v := (iI (c a))) rfl rfl (TL_S hl) (TL_B hl j _ M p) (TL_n hl) rfl (by omega) (hC.2.2.1 a (by omega)) ?_
      refine jx_step (pc' := 22) rfl ?_
      refine jv_retI rfl rfl ⟨_, _, rfl, ?_⟩
      exact ⟨jq_i (by first | rfl | exact (hC.2.2.2.2 a (by omega)).symm), rfl⟩
theorem cl_isAtEnd_q (hl : TL t) (hC : CT I t c n) (ha : I 96 1 = iI ((a : Nat) : Int)) (hp : p 21 = some t) (hb : a ≤ 1000)  : jc L xs d 50 [.ref 96] (jx_G j I M p) (fun v g1 => v = some (.int (jb (n ≤ a))) ∧ g1 = jx_G j I M p) := by
  unfold jc
  have hn := hC.2.1
  have hc := CT_c hC a
  refine jv_aload_n (pc' := 1) (k := 0) (x := 96) rfl rfl rfl rfl ?_
  refine jv_getI (pc' := 4) (c := 4) (k := 1) (v := (iI ((a : Nat) : Int))) rfl rfl rfl (fun _ _ => rfl) rfl rfl ha ?_
  refine jv_aload_n (pc' := 5) (k := 0) (x := 96) rfl rfl rfl rfl ?_
  refine jv_getR (pc' := 8) (c := 4) (k := 0) (v := t) rfl rfl rfl (fun _ _ => rfl) rfl rfl hp ?_
  refine jv_getI (pc' := 11) (c := 1) (k := 1) (v := (iI (n : Int))) rfl rfl rfl (fun _ _ => rfl) (TL_A hl j _ M p) rfl hC.1 ?_
  refine jv_ic_lt (t := 18) (pc' := 14) (a := ((a : Nat) : Int)) (b := (n : Int)) rfl rfl rfl (by omega) (fun h1 => ?_) (fun h1 => ?_)
  · skip
    refine jv_iconst (pc' := 19) (n := 0) rfl rfl ?_
    refine jv_retZ rfl rfl (by first | exact Or.inl rfl | exact Or.inr rfl) ⟨_, _, rfl, ?_⟩
    exact ⟨jq_f (by omega), rfl⟩
  · skip
    refine jv_iconst (pc' := 15) (n := 1) rfl rfl ?_
    refine jx_step (pc' := 19) rfl ?_
    refine jv_retZ rfl rfl (by first | exact Or.inl rfl | exact Or.inr rfl) ⟨_, _, rfl, ?_⟩
    exact ⟨jq_t (by omega), rfl⟩
theorem cl_seen_q (hl : TL t) (hC : CT I t c n) (ha : I 96 1 = iI ((a : Nat) : Int)) (hp : p 21 = some t) (hb : a ≤ 1000)  : jc L xs (d + 1) 51 [.ref 96] (jx_G j I M p) (fun v g1 => v = some (.int (iI (c a))) ∧ g1 = jx_G j I M p) := by
  unfold jc
  have hn := hC.2.1
  have hc := CT_c hC a
  refine jv_aload_n (pc' := 1) (k := 0) (x := 96) rfl rfl rfl rfl ?_
  refine jv_getR (pc' := 4) (c := 4) (k := 0) (v := t) rfl rfl rfl (fun _ _ => rfl) rfl rfl hp ?_
  refine jv_aload_n (pc' := 5) (k := 0) (x := 96) rfl rfl rfl rfl ?_
  refine jv_getI (pc' := 8) (c := 4) (k := 1) (v := (iI ((a : Nat) : Int))) rfl rfl rfl (fun _ _ => rfl) rfl rfl ha ?_
  refine jv_callv (pc' := 11) rfl rfl rfl rfl (TL_A hl j _ M p) rfl rfl (cl_charAt_q hl hC hb) (fun vq1 gq1 q1 => ?_)
  obtain ⟨rfl, rfl⟩ := q1
  show jx L xs _ 51 11 _ [.int (iI (c a))] _ _
  refine jv_retI rfl rfl ⟨_, _, rfl, ?_⟩
  exact ⟨rfl, rfl⟩
theorem cl_sees_y_q (hl : TL t) (hC : CT I t c n) (ha : I 96 1 = iI ((a : Nat) : Int)) (hp : p 21 = some t) (hb : a ≤ 1000) {x : Int} (hx : iR x) (hk : c a = x) : jc L xs (d + 1) 52 [.ref 96, .int (iI x)] (jx_G j I M p) (fun v g1 => v = some (.int (iI 1)) ∧ g1 = jx_G j I M p) := by
  unfold jc
  have hn := hC.2.1
  have hc := CT_c hC a
  refine jv_aload_n (pc' := 1) (k := 0) (x := 96) rfl rfl rfl rfl ?_
  refine jv_getR (pc' := 4) (c := 4) (k := 0) (v := t) rfl rfl rfl (fun _ _ => rfl) rfl rfl hp ?_
  refine jv_aload_n (pc' := 5) (k := 0) (x := 96) rfl rfl rfl rfl ?_
  refine jv_getI (pc' := 8) (c := 4) (k := 1) (v := (iI ((a : Nat) : Int))) rfl rfl rfl (fun _ _ => rfl) rfl rfl ha ?_
  refine jv_callv (pc' := 11) rfl rfl rfl rfl (TL_A hl j _ M p) rfl rfl (cl_charAt_q hl hC hb) (fun vq1 gq1 q1 => ?_)
  obtain ⟨rfl, rfl⟩ := q1
  show jx L xs _ 52 11 _ [.int (iI (c a))] _ _
  refine jv_iload_n (pc' := 12) (k := 1) (x := (iI x)) rfl rfl rfl rfl ?_
  refine jv_ic_ne (t := 19) (pc' := 15) (a := (c a)) (b := x) rfl rfl rfl (by omega) (fun h2 => ?_) (fun h2 => ?_)
  · skip
    refine jv_iconst (pc' := 20) (n := 0) rfl rfl ?_
    refine jv_retZ rfl rfl (by first | exact Or.inl rfl | exact Or.inr rfl) ⟨_, _, rfl, ?_⟩
    first | (exfalso; omega) | exact ⟨rfl, rfl⟩
  · skip
    refine jv_iconst (pc' := 16) (n := 1) rfl rfl ?_
    refine jx_step (pc' := 20) rfl ?_
    refine jv_retZ rfl rfl (by first | exact Or.inl rfl | exact Or.inr rfl) ⟨_, _, rfl, ?_⟩
    first | (exfalso; omega) | exact ⟨rfl, rfl⟩
theorem cl_take_y_q (hl : TL t) (hC : CT I t c n) (ha : I 96 1 = iI ((a : Nat) : Int)) (hp : p 21 = some t) (hb : a ≤ 1000) {x : Int} (hx : iR x) (hk : c a = x) : jc L xs (d + 1) 53 [.ref 96, .int (iI x)] (jx_G j I M p) (fun v g1 => v = some (.int (iI 1)) ∧ g1 = jx_G j (jm_u I 96 1 (iI ((a + 1 : Nat) : Int))) M p) := by
  unfold jc
  have hn := hC.2.1
  have hc := CT_c hC a
  refine jv_aload_n (pc' := 1) (k := 0) (x := 96) rfl rfl rfl rfl ?_
  refine jv_getR (pc' := 4) (c := 4) (k := 0) (v := t) rfl rfl rfl (fun _ _ => rfl) rfl rfl hp ?_
  refine jv_aload_n (pc' := 5) (k := 0) (x := 96) rfl rfl rfl rfl ?_
  refine jv_getI (pc' := 8) (c := 4) (k := 1) (v := (iI ((a : Nat) : Int))) rfl rfl rfl (fun _ _ => rfl) rfl rfl ha ?_
  refine jv_callv (pc' := 11) rfl rfl rfl rfl (TL_A hl j _ M p) rfl rfl (cl_charAt_q hl hC hb) (fun vq1 gq1 q1 => ?_)
  obtain ⟨rfl, rfl⟩ := q1
  show jx L xs _ 53 11 _ [.int (iI (c a))] _ _
  refine jv_iload_n (pc' := 12) (k := 1) (x := (iI x)) rfl rfl rfl rfl ?_
  refine jv_ic_eq (t := 17) (pc' := 15) (a := (c a)) (b := x) rfl rfl rfl (by omega) (fun h2 => ?_) (fun h2 => ?_)
  · skip
    refine jv_aload_n (pc' := 18) (k := 0) (x := 96) rfl rfl rfl rfl ?_
    refine jx_step (pc' := 19) rfl ?_
    refine jv_getI (pc' := 22) (c := 4) (k := 1) (v := (iI ((a : Nat) : Int))) rfl rfl rfl (fun _ _ => rfl) rfl rfl ha ?_
    refine jv_iconst (pc' := 23) (n := 1) rfl rfl ?_
    refine jv_iadd (pc' := 24) (a := ((a : Nat) : Int)) (b := 1) rfl rfl ?_
    refine jv_putI (pc' := 27) (c := 4) (k := 1) rfl rfl rfl rfl (fun _ _ _  => rfl) rfl rfl ?_
    refine jv_iconst (pc' := 28) (n := 1) rfl rfl ?_
    refine jv_retZ rfl rfl (by first | exact Or.inl rfl | exact Or.inr rfl) ⟨_, _, rfl, ?_⟩
    first | (exfalso; omega) | exact ⟨rfl, rfl⟩
  · skip
    refine jv_iconst (pc' := 16) (n := 0) rfl rfl ?_
    refine jv_retZ rfl rfl (by first | exact Or.inl rfl | exact Or.inr rfl) ⟨_, _, rfl, ?_⟩
    first | (exfalso; omega) | exact ⟨rfl, rfl⟩
theorem cl_sees_n_q (hl : TL t) (hC : CT I t c n) (ha : I 96 1 = iI ((a : Nat) : Int)) (hp : p 21 = some t) (hb : a ≤ 1000) {x : Int} (hx : iR x) (hk : ¬ c a = x) : jc L xs (d + 1) 52 [.ref 96, .int (iI x)] (jx_G j I M p) (fun v g1 => v = some (.int (iI 0)) ∧ g1 = jx_G j I M p) := by
  unfold jc
  have hn := hC.2.1
  have hc := CT_c hC a
  refine jv_aload_n (pc' := 1) (k := 0) (x := 96) rfl rfl rfl rfl ?_
  refine jv_getR (pc' := 4) (c := 4) (k := 0) (v := t) rfl rfl rfl (fun _ _ => rfl) rfl rfl hp ?_
  refine jv_aload_n (pc' := 5) (k := 0) (x := 96) rfl rfl rfl rfl ?_
  refine jv_getI (pc' := 8) (c := 4) (k := 1) (v := (iI ((a : Nat) : Int))) rfl rfl rfl (fun _ _ => rfl) rfl rfl ha ?_
  refine jv_callv (pc' := 11) rfl rfl rfl rfl (TL_A hl j _ M p) rfl rfl (cl_charAt_q hl hC hb) (fun vq1 gq1 q1 => ?_)
  obtain ⟨rfl, rfl⟩ := q1
  show jx L xs _ 52 11 _ [.int (iI (c a))] _ _
  refine jv_iload_n (pc' := 12) (k := 1) (x := (iI x)) rfl rfl rfl rfl ?_
  refine jv_ic_ne (t := 19) (pc' := 15) (a := (c a)) (b := x) rfl rfl rfl (by omega) (fun h2 => ?_) (fun h2 => ?_)
  · skip
    refine jv_iconst (pc' := 20) (n := 0) rfl rfl ?_
    refine jv_retZ rfl rfl (by first | exact Or.inl rfl | exact Or.inr rfl) ⟨_, _, rfl, ?_⟩
    first | (exfalso; omega) | exact ⟨rfl, rfl⟩
  · skip
    refine jv_iconst (pc' := 16) (n := 1) rfl rfl ?_
    refine jx_step (pc' := 20) rfl ?_
    refine jv_retZ rfl rfl (by first | exact Or.inl rfl | exact Or.inr rfl) ⟨_, _, rfl, ?_⟩
    first | (exfalso; omega) | exact ⟨rfl, rfl⟩
theorem cl_take_n_q (hl : TL t) (hC : CT I t c n) (ha : I 96 1 = iI ((a : Nat) : Int)) (hp : p 21 = some t) (hb : a ≤ 1000) {x : Int} (hx : iR x) (hk : ¬ c a = x) : jc L xs (d + 1) 53 [.ref 96, .int (iI x)] (jx_G j I M p) (fun v g1 => v = some (.int (iI 0)) ∧ g1 = jx_G j I M p) := by
  unfold jc
  have hn := hC.2.1
  have hc := CT_c hC a
  refine jv_aload_n (pc' := 1) (k := 0) (x := 96) rfl rfl rfl rfl ?_
  refine jv_getR (pc' := 4) (c := 4) (k := 0) (v := t) rfl rfl rfl (fun _ _ => rfl) rfl rfl hp ?_
  refine jv_aload_n (pc' := 5) (k := 0) (x := 96) rfl rfl rfl rfl ?_
  refine jv_getI (pc' := 8) (c := 4) (k := 1) (v := (iI ((a : Nat) : Int))) rfl rfl rfl (fun _ _ => rfl) rfl rfl ha ?_
  refine jv_callv (pc' := 11) rfl rfl rfl rfl (TL_A hl j _ M p) rfl rfl (cl_charAt_q hl hC hb) (fun vq1 gq1 q1 => ?_)
  obtain ⟨rfl, rfl⟩ := q1
  show jx L xs _ 53 11 _ [.int (iI (c a))] _ _
  refine jv_iload_n (pc' := 12) (k := 1) (x := (iI x)) rfl rfl rfl rfl ?_
  refine jv_ic_eq (t := 17) (pc' := 15) (a := (c a)) (b := x) rfl rfl rfl (by omega) (fun h2 => ?_) (fun h2 => ?_)
  · skip
    refine jv_aload_n (pc' := 18) (k := 0) (x := 96) rfl rfl rfl rfl ?_
    refine jx_step (pc' := 19) rfl ?_
    refine jv_getI (pc' := 22) (c := 4) (k := 1) (v := (iI ((a : Nat) : Int))) rfl rfl rfl (fun _ _ => rfl) rfl rfl ha ?_
    refine jv_iconst (pc' := 23) (n := 1) rfl rfl ?_
    refine jv_iadd (pc' := 24) (a := ((a : Nat) : Int)) (b := 1) rfl rfl ?_
    refine jv_putI (pc' := 27) (c := 4) (k := 1) rfl rfl rfl rfl (fun _ _ _  => rfl) rfl rfl ?_
    refine jv_iconst (pc' := 28) (n := 1) rfl rfl ?_
    refine jv_retZ rfl rfl (by first | exact Or.inl rfl | exact Or.inr rfl) ⟨_, _, rfl, ?_⟩
    first | (exfalso; omega) | exact ⟨rfl, rfl⟩
  · skip
    refine jv_iconst (pc' := 16) (n := 0) rfl rfl ?_
    refine jv_retZ rfl rfl (by first | exact Or.inl rfl | exact Or.inr rfl) ⟨_, _, rfl, ?_⟩
    first | (exfalso; omega) | exact ⟨rfl, rfl⟩
theorem cl_seenName_y_q (hl : TL t) (hC : CT I t c n) (ha : I 96 1 = iI ((a : Nat) : Int)) (hp : p 21 = some t) (hb : a ≤ 1000) (hk : 97 ≤ c a ∧ c a ≤ 104) : jc L xs (d + 1) 54 [.ref 96] (jx_G j I M p) (fun v g1 => v = some (.int (iI (c a - 97))) ∧ g1 = jx_G j I M p) := by
  unfold jc
  have hn := hC.2.1
  have hc := CT_c hC a
  refine jv_aload_n (pc' := 1) (k := 0) (x := 96) rfl rfl rfl rfl ?_
  refine jv_getR (pc' := 4) (c := 4) (k := 0) (v := t) rfl rfl rfl (fun _ _ => rfl) rfl rfl hp ?_
  refine jv_aload_n (pc' := 5) (k := 0) (x := 96) rfl rfl rfl rfl ?_
  refine jv_getI (pc' := 8) (c := 4) (k := 1) (v := (iI ((a : Nat) : Int))) rfl rfl rfl (fun _ _ => rfl) rfl rfl ha ?_
  refine jv_callv (pc' := 11) rfl rfl rfl rfl (TL_A hl j _ M p) rfl rfl (cl_charAt_q hl hC hb) (fun vq1 gq1 q1 => ?_)
  obtain ⟨rfl, rfl⟩ := q1
  show jx L xs _ 54 11 _ [.int (iI (c a))] _ _
  refine jv_bipush (pc' := 13) (n := 97) rfl rfl rfl ?_
  refine jv_isub (pc' := 14) (a := (c a)) (b := 97) rfl rfl ?_
  refine jv_istore_n (pc' := 15) (k := 1) (x := (iI ((c a) - 97))) rfl rfl rfl rfl (Or.inr rfl) ?_
  refine jv_iload_n (pc' := 16) (k := 1) (x := (iI ((c a) - 97))) rfl rfl rfl rfl ?_
  refine jv_call (pc' := 19) rfl (cl_isFieldName (by omega)) (fun vq2 gq2 q2 => ?_)
  obtain ⟨rfl, rfl⟩ := q2
  show jx L xs _ 54 19 _ [.int (jb (0 ≤ ((c a) - 97) ∧ ((c a) - 97) < 8))] _ _
  refine jv_jb_eq (t := 26) (pc' := 22) (P := 0 ≤ ((c a) - 97) ∧ ((c a) - 97) < 8) rfl rfl rfl (fun h3 => ?_) (fun h3 => ?_)
  · skip
    refine jv_iconst (pc' := 27) (n := -1) rfl rfl ?_
    refine jv_retI rfl rfl ⟨_, _, rfl, ?_⟩
    first | (exfalso; omega) | exact ⟨rfl, rfl⟩
  · skip
    refine jv_iload_n (pc' := 23) (k := 1) (x := (iI ((c a) - 97))) rfl rfl rfl rfl ?_
    refine jx_step (pc' := 27) rfl ?_
    refine jv_retI rfl rfl ⟨_, _, rfl, ?_⟩
    first | (exfalso; omega) | exact ⟨rfl, rfl⟩
theorem cl_seenName_n_q (hl : TL t) (hC : CT I t c n) (ha : I 96 1 = iI ((a : Nat) : Int)) (hp : p 21 = some t) (hb : a ≤ 1000) (hk : ¬ (97 ≤ c a ∧ c a ≤ 104)) : jc L xs (d + 1) 54 [.ref 96] (jx_G j I M p) (fun v g1 => v = some (.int (iI (-1))) ∧ g1 = jx_G j I M p) := by
  unfold jc
  have hn := hC.2.1
  have hc := CT_c hC a
  refine jv_aload_n (pc' := 1) (k := 0) (x := 96) rfl rfl rfl rfl ?_
  refine jv_getR (pc' := 4) (c := 4) (k := 0) (v := t) rfl rfl rfl (fun _ _ => rfl) rfl rfl hp ?_
  refine jv_aload_n (pc' := 5) (k := 0) (x := 96) rfl rfl rfl rfl ?_
  refine jv_getI (pc' := 8) (c := 4) (k := 1) (v := (iI ((a : Nat) : Int))) rfl rfl rfl (fun _ _ => rfl) rfl rfl ha ?_
  refine jv_callv (pc' := 11) rfl rfl rfl rfl (TL_A hl j _ M p) rfl rfl (cl_charAt_q hl hC hb) (fun vq1 gq1 q1 => ?_)
  obtain ⟨rfl, rfl⟩ := q1
  show jx L xs _ 54 11 _ [.int (iI (c a))] _ _
  refine jv_bipush (pc' := 13) (n := 97) rfl rfl rfl ?_
  refine jv_isub (pc' := 14) (a := (c a)) (b := 97) rfl rfl ?_
  refine jv_istore_n (pc' := 15) (k := 1) (x := (iI ((c a) - 97))) rfl rfl rfl rfl (Or.inr rfl) ?_
  refine jv_iload_n (pc' := 16) (k := 1) (x := (iI ((c a) - 97))) rfl rfl rfl rfl ?_
  refine jv_call (pc' := 19) rfl (cl_isFieldName (by omega)) (fun vq2 gq2 q2 => ?_)
  obtain ⟨rfl, rfl⟩ := q2
  show jx L xs _ 54 19 _ [.int (jb (0 ≤ ((c a) - 97) ∧ ((c a) - 97) < 8))] _ _
  refine jv_jb_eq (t := 26) (pc' := 22) (P := 0 ≤ ((c a) - 97) ∧ ((c a) - 97) < 8) rfl rfl rfl (fun h3 => ?_) (fun h3 => ?_)
  · skip
    refine jv_iconst (pc' := 27) (n := -1) rfl rfl ?_
    refine jv_retI rfl rfl ⟨_, _, rfl, ?_⟩
    first | (exfalso; omega) | exact ⟨rfl, rfl⟩
  · skip
    refine jv_iload_n (pc' := 23) (k := 1) (x := (iI ((c a) - 97))) rfl rfl rfl rfl ?_
    refine jx_step (pc' := 27) rfl ?_
    refine jv_retI rfl rfl ⟨_, _, rfl, ?_⟩
    first | (exfalso; omega) | exact ⟨rfl, rfl⟩
theorem cl_takeNumber_q (hl : TL t) (hC : CT I t c n) (ha : I 96 1 = iI ((a : Nat) : Int)) (hp : p 21 = some t) (hb : a ≤ 80) (han : a ≤ n) : jc L xs d 55 [.ref 96] (jx_G j I M p) (fun v g1 => v = some (.int (jb (0 < nd c a))) ∧ g1 = jx_G j (jm_u (jm_u I 96 2 (iI (nv c a))) 96 1 (iI ((a + nd c a : Nat) : Int))) M p) := by
  unfold jc
  have hn := hC.2.1
  refine jv_aload_n (pc' := 1) (k := 0) (x := 96) rfl rfl rfl rfl ?_
  refine jv_getI (pc' := 4) (c := 4) (k := 1) (v := (iI ((a : Nat) : Int))) rfl rfl rfl (fun _ _ => rfl) rfl rfl ha ?_
  refine jv_istore_n (pc' := 5) (k := 1) (x := (iI ((a : Nat) : Int))) rfl rfl rfl rfl (Or.inr rfl) ?_
  refine jv_aload_n (pc' := 6) (k := 0) (x := 96) rfl rfl rfl rfl ?_
  refine jv_iconst (pc' := 7) (n := 0) rfl rfl ?_
  refine jv_putI (pc' := 10) (c := 4) (k := 2) rfl rfl rfl rfl (fun _ _ _  => rfl) rfl rfl ?_
  have H1 : ∀ (N : Nat) (i : Nat) (v : Int), 6 - i < N → (i ≤ 6) → (ndk c (6 - i) (a + i) + i = nd c a) → (nvk c (nd c a - i) (a + i) v = nv c a) → (a + i ≤ n) → ∀ f : jm_F, f 0 = some (.ref 96) → f 1 = some (.int (iI ((a : Nat) : Int))) → jm_lng (f 2) = false → jx L xs (d) 55 10 f [] (jx_G j (jm_u (jm_u I 96 2 (iI v)) 96 1 (iI ((a + i : Nat) : Int))) M p) (fun z => ∃ v g1, z = (.inl v, g1) ∧ (fun v g1 => v = some (.int (jb (0 < nd c a))) ∧ g1 = jx_G j (jm_u (jm_u I 96 2 (iI (nv c a))) 96 1 (iI ((a + nd c a : Nat) : Int))) M p) v g1) := by
    intro N
    induction N with
    | zero => intro i v hN; exact absurd hN (Nat.not_lt_zero _)
    | succ N ih =>
      intro i v hN hi hq hw hin f hf0 hf1 hg2
      refine jv_aload_n (pc' := 11) (k := 0) (x := 96) rfl rfl rfl hf0 ?_
      refine jv_getI (pc' := 14) (c := 4) (k := 1) (v := (iI ((a + i : Nat) : Int))) rfl rfl rfl (fun _ _ => rfl) rfl rfl rfl ?_
      refine jv_aload_n (pc' := 15) (k := 0) (x := 96) rfl rfl rfl hf0 ?_
      refine jv_getR (pc' := 18) (c := 4) (k := 0) (v := t) rfl rfl rfl (fun _ _ => rfl) rfl rfl hp ?_
      refine jv_getI (pc' := 21) (c := 1) (k := 1) (v := (iI (n : Int))) rfl rfl rfl (fun _ _ => rfl) (TL_A hl j _ M p) rfl ((CT_u (CT_u hC hl (by omega)) hl (by omega)).1) ?_
      refine jv_ic_ge (t := 90) (pc' := 24) (a := ((a + i : Nat) : Int)) (b := (n : Int)) rfl rfl rfl (by omega) (fun h2 => ?_) (fun h2 => ?_)
      · skip
        refine jv_aload_n (pc' := 91) (k := 0) (x := 96) rfl rfl rfl hf0 ?_
        refine jv_getI (pc' := 94) (c := 4) (k := 1) (v := (iI ((a + i : Nat) : Int))) rfl rfl rfl (fun _ _ => rfl) rfl rfl rfl ?_
        refine jv_iload_n (pc' := 95) (k := 1) (x := (iI ((a : Nat) : Int))) rfl rfl rfl hf1 ?_
        refine jv_ic_le (t := 102) (pc' := 98) (a := ((a + i : Nat) : Int)) (b := ((a : Nat) : Int)) rfl rfl rfl (by omega) (fun h3 => ?_) (fun h3 => ?_)
        · skip
          refine jv_iconst (pc' := 103) (n := 0) rfl rfl ?_
          refine jv_retZ rfl rfl (by first | exact Or.inl rfl | exact Or.inr rfl) ⟨_, _, rfl, ?_⟩
          have hz : nd c a = i := by
            first
            | (have h6 : 6 - i = 0 := by omega
               rw [h6] at hq; have : ndk c 0 (a + i) = 0 := rfl; omega)
            | (rw [ndk_n (by omega)] at hq; omega)
            | (rw [ndk_n (by rw [hC.2.2.2.2 (a + i) (by omega)]; omega)] at hq; omega)
          rw [hz, Nat.sub_self] at hw
          exact ⟨jq_f (by omega), by rw [hz, ← hw]; rfl⟩
        · skip
          refine jv_iconst (pc' := 99) (n := 1) rfl rfl ?_
          refine jx_step (pc' := 103) rfl ?_
          refine jv_retZ rfl rfl (by first | exact Or.inl rfl | exact Or.inr rfl) ⟨_, _, rfl, ?_⟩
          have hz : nd c a = i := by
            first
            | (have h6 : 6 - i = 0 := by omega
               rw [h6] at hq; have : ndk c 0 (a + i) = 0 := rfl; omega)
            | (rw [ndk_n (by omega)] at hq; omega)
            | (rw [ndk_n (by rw [hC.2.2.2.2 (a + i) (by omega)]; omega)] at hq; omega)
          rw [hz, Nat.sub_self] at hw
          exact ⟨jq_t (by omega), by rw [hz, ← hw]; rfl⟩
      · skip
        have hc := CT_c hC (a + i)
        refine jv_aload_n (pc' := 25) (k := 0) (x := 96) rfl rfl rfl hf0 ?_
        refine jv_getI (pc' := 28) (c := 4) (k := 1) (v := (iI ((a + i : Nat) : Int))) rfl rfl rfl (fun _ _ => rfl) rfl rfl rfl ?_
        refine jv_iload_n (pc' := 29) (k := 1) (x := (iI ((a : Nat) : Int))) rfl rfl rfl hf1 ?_
        refine jv_bipush (pc' := 31) (n := 6) rfl rfl rfl ?_
        refine jv_iadd (pc' := 32) (a := ((a : Nat) : Int)) (b := 6) rfl rfl ?_
        refine jv_ic_ge (t := 90) (pc' := 35) (a := ((a + i : Nat) : Int)) (b := (((a : Nat) : Int) + 6)) rfl rfl rfl (by omega) (fun h4 => ?_) (fun h4 => ?_)
        · skip
          refine jv_aload_n (pc' := 91) (k := 0) (x := 96) rfl rfl rfl hf0 ?_
          refine jv_getI (pc' := 94) (c := 4) (k := 1) (v := (iI ((a + i : Nat) : Int))) rfl rfl rfl (fun _ _ => rfl) rfl rfl rfl ?_
          refine jv_iload_n (pc' := 95) (k := 1) (x := (iI ((a : Nat) : Int))) rfl rfl rfl hf1 ?_
          refine jv_ic_le (t := 102) (pc' := 98) (a := ((a + i : Nat) : Int)) (b := ((a : Nat) : Int)) rfl rfl rfl (by omega) (fun h5 => ?_) (fun h5 => ?_)
          · skip
            refine jv_iconst (pc' := 103) (n := 0) rfl rfl ?_
            refine jv_retZ rfl rfl (by first | exact Or.inl rfl | exact Or.inr rfl) ⟨_, _, rfl, ?_⟩
            have hz : nd c a = i := by
              first
              | (have h6 : 6 - i = 0 := by omega
                 rw [h6] at hq; have : ndk c 0 (a + i) = 0 := rfl; omega)
              | (rw [ndk_n (by omega)] at hq; omega)
              | (rw [ndk_n (by rw [hC.2.2.2.2 (a + i) (by omega)]; omega)] at hq; omega)
            rw [hz, Nat.sub_self] at hw
            exact ⟨jq_f (by omega), by rw [hz, ← hw]; rfl⟩
          · skip
            refine jv_iconst (pc' := 99) (n := 1) rfl rfl ?_
            refine jx_step (pc' := 103) rfl ?_
            refine jv_retZ rfl rfl (by first | exact Or.inl rfl | exact Or.inr rfl) ⟨_, _, rfl, ?_⟩
            have hz : nd c a = i := by
              first
              | (have h6 : 6 - i = 0 := by omega
                 rw [h6] at hq; have : ndk c 0 (a + i) = 0 := rfl; omega)
              | (rw [ndk_n (by omega)] at hq; omega)
              | (rw [ndk_n (by rw [hC.2.2.2.2 (a + i) (by omega)]; omega)] at hq; omega)
            rw [hz, Nat.sub_self] at hw
            exact ⟨jq_t (by omega), by rw [hz, ← hw]; rfl⟩
        · skip
          refine jv_aload_n (pc' := 36) (k := 0) (x := 96) rfl rfl rfl hf0 ?_
          refine jv_getR (pc' := 39) (c := 4) (k := 0) (v := t) rfl rfl rfl (fun _ _ => rfl) rfl rfl hp ?_
          refine jv_getR (pc' := 42) (c := 1) (k := 0) (v := (t + 1)) rfl rfl rfl (fun _ _ => rfl) (TL_A hl j _ M p) rfl (TL_R hl p) ?_
          refine jv_aload_n (pc' := 43) (k := 0) (x := 96) rfl rfl rfl hf0 ?_
          refine jv_getI (pc' := 46) (c := 4) (k := 1) (v := (iI ((a + i : Nat) : Int))) rfl rfl rfl (fun _ _ => rfl) rfl rfl rfl ?_
          refine jv_iaload (pc' := 47) (n := 80) (e := ((a + i : Nat) : Int)) (v := (iI (c (a + i)))) rfl rfl (TL_S hl) (TL_B hl j _ M p) (TL_n hl) rfl (by omega) ((CT_u (CT_u hC hl (by omega)) hl (by omega)).2.2.1 (a + i) (by omega)) ?_
          refine jv_bipush (pc' := 49) (n := 48) rfl rfl rfl ?_
          refine jv_isub (pc' := 50) (a := (c (a + i))) (b := 48) rfl rfl ?_
          refine jv_istore_n (pc' := 51) (k := 2) (x := (iI ((c (a + i)) - 48))) rfl rfl rfl rfl (Or.inr (congrArg jm_lng hf1)) ?_
          refine jv_iload_n (pc' := 52) (k := 2) (x := (iI ((c (a + i)) - 48))) rfl rfl rfl rfl ?_
          refine jv_if_lt (t := 90) (pc' := 55) (a := ((c (a + i)) - 48)) rfl rfl rfl (by omega) (fun h6 => ?_) (fun h6 => ?_)
          · skip
            refine jv_aload_n (pc' := 91) (k := 0) (x := 96) rfl rfl rfl hf0 ?_
            refine jv_getI (pc' := 94) (c := 4) (k := 1) (v := (iI ((a + i : Nat) : Int))) rfl rfl rfl (fun _ _ => rfl) rfl rfl rfl ?_
            refine jv_iload_n (pc' := 95) (k := 1) (x := (iI ((a : Nat) : Int))) rfl rfl rfl hf1 ?_
            refine jv_ic_le (t := 102) (pc' := 98) (a := ((a + i : Nat) : Int)) (b := ((a : Nat) : Int)) rfl rfl rfl (by omega) (fun h7 => ?_) (fun h7 => ?_)
            · skip
              refine jv_iconst (pc' := 103) (n := 0) rfl rfl ?_
              refine jv_retZ rfl rfl (by first | exact Or.inl rfl | exact Or.inr rfl) ⟨_, _, rfl, ?_⟩
              have hz : nd c a = i := by
                first
                | (have h6 : 6 - i = 0 := by omega
                   rw [h6] at hq; have : ndk c 0 (a + i) = 0 := rfl; omega)
                | (rw [ndk_n (by omega)] at hq; omega)
                | (rw [ndk_n (by rw [hC.2.2.2.2 (a + i) (by omega)]; omega)] at hq; omega)
              rw [hz, Nat.sub_self] at hw
              exact ⟨jq_f (by omega), by rw [hz, ← hw]; rfl⟩
            · skip
              refine jv_iconst (pc' := 99) (n := 1) rfl rfl ?_
              refine jx_step (pc' := 103) rfl ?_
              refine jv_retZ rfl rfl (by first | exact Or.inl rfl | exact Or.inr rfl) ⟨_, _, rfl, ?_⟩
              have hz : nd c a = i := by
                first
                | (have h6 : 6 - i = 0 := by omega
                   rw [h6] at hq; have : ndk c 0 (a + i) = 0 := rfl; omega)
                | (rw [ndk_n (by omega)] at hq; omega)
                | (rw [ndk_n (by rw [hC.2.2.2.2 (a + i) (by omega)]; omega)] at hq; omega)
              rw [hz, Nat.sub_self] at hw
              exact ⟨jq_t (by omega), by rw [hz, ← hw]; rfl⟩
          · skip
            refine jv_iload_n (pc' := 56) (k := 2) (x := (iI ((c (a + i)) - 48))) rfl rfl rfl rfl ?_
            refine jv_bipush (pc' := 58) (n := 9) rfl rfl rfl ?_
            refine jv_ic_le (t := 64) (pc' := 61) (a := ((c (a + i)) - 48)) (b := 9) rfl rfl rfl (by omega) (fun h8 => ?_) (fun h8 => ?_)
            · skip
              refine jv_aload_n (pc' := 65) (k := 0) (x := 96) rfl rfl rfl hf0 ?_
              refine jv_aload_n (pc' := 66) (k := 0) (x := 96) rfl rfl rfl hf0 ?_
              refine jv_getI (pc' := 69) (c := 4) (k := 2) (v := (iI v)) rfl rfl rfl (fun _ _ => rfl) rfl rfl rfl ?_
              refine jv_bipush (pc' := 71) (n := 10) rfl rfl rfl ?_
              refine jv_imul (pc' := 72) (a := v) (b := 10) rfl rfl ?_
              refine jv_iload_n (pc' := 73) (k := 2) (x := (iI ((c (a + i)) - 48))) rfl rfl rfl rfl ?_
              refine jv_iadd (pc' := 74) (a := (v * 10)) (b := ((c (a + i)) - 48)) rfl rfl ?_
              refine jv_putI (pc' := 77) (c := 4) (k := 2) rfl rfl rfl rfl (fun _ _ _  => rfl) rfl rfl ?_
              refine jv_aload_n (pc' := 78) (k := 0) (x := 96) rfl rfl rfl hf0 ?_
              refine jx_step (pc' := 79) rfl ?_
              refine jv_getI (pc' := 82) (c := 4) (k := 1) (v := (iI ((a + i : Nat) : Int))) rfl rfl rfl (fun _ _ => rfl) rfl rfl rfl ?_
              refine jv_iconst (pc' := 83) (n := 1) rfl rfl ?_
              refine jv_iadd (pc' := 84) (a := ((a + i : Nat) : Int)) (b := 1) rfl rfl ?_
              refine jv_putI (pc' := 87) (c := 4) (k := 1) rfl rfl rfl rfl (fun _ _ _  => rfl) rfl rfl ?_
              refine jx_step (pc' := 10) rfl ?_
              refine jx_cast (g' := jx_G j (jm_u (jm_u I 96 2 (iI (v * 10 + (c (a + i) - 48)))) 96 1 (iI ((a + (i + 1) : Nat) : Int))) M p) (congrArg (fun z => jx_G j z M p) (by rw [jm_u_c (jm_u I 96 2 (iI v)) 96 1 96 2 _ _ (by decide), jm_u_u, jm_u_u]; rfl)) ?_
              exact ih (i + 1) (v * 10 + (c (a + i) - 48)) (by omega) (by omega) (by rw [ndk_y (by omega) (by omega)] at hq; rw [show 6 - (i + 1) = 6 - i - 1 by omega, show a + (i + 1) = a + i + 1 by omega]; omega) (by rw [nvk_s (by rw [ndk_y (by omega) (by omega)] at hq; omega)] at hw; rw [show nd c a - (i + 1) = nd c a - i - 1 by omega, show a + (i + 1) = a + i + 1 by omega, ← hw]; congr 1; omega) (by omega) _ hf0 hf1 rfl
            · skip
              refine jx_step (pc' := 90) rfl ?_
              refine jv_aload_n (pc' := 91) (k := 0) (x := 96) rfl rfl rfl hf0 ?_
              refine jv_getI (pc' := 94) (c := 4) (k := 1) (v := (iI ((a + i : Nat) : Int))) rfl rfl rfl (fun _ _ => rfl) rfl rfl rfl ?_
              refine jv_iload_n (pc' := 95) (k := 1) (x := (iI ((a : Nat) : Int))) rfl rfl rfl hf1 ?_
              refine jv_ic_le (t := 102) (pc' := 98) (a := ((a + i : Nat) : Int)) (b := ((a : Nat) : Int)) rfl rfl rfl (by omega) (fun h9 => ?_) (fun h9 => ?_)
              · skip
                refine jv_iconst (pc' := 103) (n := 0) rfl rfl ?_
                refine jv_retZ rfl rfl (by first | exact Or.inl rfl | exact Or.inr rfl) ⟨_, _, rfl, ?_⟩
                have hz : nd c a = i := by
                  first
                  | (have h6 : 6 - i = 0 := by omega
                     rw [h6] at hq; have : ndk c 0 (a + i) = 0 := rfl; omega)
                  | (rw [ndk_n (by omega)] at hq; omega)
                  | (rw [ndk_n (by rw [hC.2.2.2.2 (a + i) (by omega)]; omega)] at hq; omega)
                rw [hz, Nat.sub_self] at hw
                exact ⟨jq_f (by omega), by rw [hz, ← hw]; rfl⟩
              · skip
                refine jv_iconst (pc' := 99) (n := 1) rfl rfl ?_
                refine jx_step (pc' := 103) rfl ?_
                refine jv_retZ rfl rfl (by first | exact Or.inl rfl | exact Or.inr rfl) ⟨_, _, rfl, ?_⟩
                have hz : nd c a = i := by
                  first
                  | (have h6 : 6 - i = 0 := by omega
                     rw [h6] at hq; have : ndk c 0 (a + i) = 0 := rfl; omega)
                  | (rw [ndk_n (by omega)] at hq; omega)
                  | (rw [ndk_n (by rw [hC.2.2.2.2 (a + i) (by omega)]; omega)] at hq; omega)
                rw [hz, Nat.sub_self] at hw
                exact ⟨jq_t (by omega), by rw [hz, ← hw]; rfl⟩
  refine jx_cast (g' := jx_G j (jm_u (jm_u I 96 2 (iI 0)) 96 1 (iI ((a + 0 : Nat) : Int))) M p) (congrArg (fun z => jx_G j z M p) (jm_u_iv ha)) ?_
  exact H1 _ 0 0 (Nat.lt_succ_self _) (by omega) rfl rfl (by omega) _ rfl rfl rfl
end C1
