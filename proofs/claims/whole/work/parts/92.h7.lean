/-! printed by wip/whole/gen/h7.py: operations streamed, talk -/
def AT (A : AB) : Prop := (0 ≤ A 103 44 ∧ A 103 44 ≤ 12) ∧ (0 < A 103 44 → ∀ f : Nat, (f : Int) < A 103 12 → (A 136 f = 0 ∨ A 136 f = 1) ∧ (-1 ≤ A 135 f ∧ A 135 f < A 103 44)) ∧ (∀ k : Nat, (k : Int) < A 103 44 → (0 ≤ A 133 k ∧ A 133 k < 4294967296) ∧ (0 ≤ A 134 k ∧ A 134 k < 4294967296))
theorem AT_of {I : Nat → Nat → Int32} {M : Nat → Nat → Int64} {A : AB} (h : RTa I M A) (h12 : A 103 12 ≤ 12) : AT A := by
  obtain ⟨_, h2, h3, h4⟩ := h
  refine ⟨h2, fun h0 f hf => ?_, fun k hk => ?_⟩
  · obtain ⟨w, _, _, h⟩ := h4 f (by omega)
    exact ⟨(h hf h0).1, (h hf h0).2.1⟩
  · exact ⟨(h3 k hk).2.2.1, (h3 k hk).2.2.2.1⟩
theorem tcnt_b {A : AB} (hv : AV5 A) (k w b : Int) : ∀ n : Nat, (n : Int) ≤ A 103 12 → 0 ≤ tcnt A k w b n ∧ tcnt A k w b n ≤ 40 * n := by
  intro n
  induction n with
  | zero => intro _; exact ⟨Int.le_refl _, Int.le_refl _⟩
  | succ n ih =>
    intro hn
    have h1 := ih (by omega)
    have h2 := (hv.2.2.2 n (by omega)).2.2.1
    show 0 ≤ tcnt A k w b n + _ ∧ tcnt A k w b n + _ ≤ _
    split
    · split <;> omega
    · omega
def tk (A : AB) (k : Nat) (q : Nat) : Int := if q = 0 then A 133 k else if q = 1 then A 134 k else tcnt A k (if q % 2 = 0 then 1 else 0) (if q < 4 then 0 else 1) (A 103 12).toNat
theorem RTa_f {I : Nat → Nat → Int32} {M : Nat → Nat → Int64} {A : AB} (h : RTa I M A) {k q : Nat} (hk : (k : Int) < A 103 44) (hq : q < 6) : M 99 (6 * k + q) = lI (tk A k q) := by
  obtain ⟨a, b, _, _, e1, e2, e3, e4⟩ := h.2.2.1 k hk
  have : q = 0 ∨ q = 1 ∨ q = 2 ∨ q = 3 ∨ q = 4 ∨ q = 5 := by omega
  rcases this with rfl | rfl | rfl | rfl | rfl | rfl
  · exact a
  · exact b
  · exact e1
  · exact e2
  · exact e3
  · exact e4
section H7
variable {L : Nat} {xs : Nat → Int32} {d j : Nat} {I : Nat → Nat → Int32} {M : Nat → Nat → Int64} {p : Nat → Option Nat}
variable {A : AB} {x y : Int} {k q : Nat}
theorem op_streamed_c (hx : iR x) (hR : CR I M p A) : jc L xs d 19 [.ref 0, .int (iI x)] (jx_G j I M p) (fun v g1 => v = some (.int (iI (if 0 ≤ x ∧ x < 64 then A 137 x.toNat else -1))) ∧ g1 = jx_G j I M p) := by
  unfold jc
  refine jv_iload_n (pc' := 1) (k := 1) (x := (iI x)) rfl rfl rfl rfl ?_
  refine jv_if_lt (t := 22) (pc' := 4) (a := x) rfl rfl rfl (by omega) (fun hz_1 => ?_) (fun hz_1 => ?_)
  · skip
    refine jv_iconst (pc' := 23) (n := -1) rfl rfl ?_
    refine jv_retI rfl rfl ⟨_, _, rfl, ?_⟩
    first
    | (exfalso; omega)
    | exact ⟨by rw [if_pos (by omega)], rfl⟩
    | exact ⟨by rw [if_neg (by omega)], rfl⟩
  · skip
    refine jv_iload_n (pc' := 5) (k := 1) (x := (iI x)) rfl rfl rfl rfl ?_
    refine jv_bipush (pc' := 7) (n := 64) rfl rfl rfl ?_
    refine jv_ic_ge (t := 22) (pc' := 10) (a := x) (b := 64) rfl rfl rfl (by omega) (fun hz_2 => ?_) (fun hz_2 => ?_)
    · skip
      refine jv_iconst (pc' := 23) (n := -1) rfl rfl ?_
      refine jv_retI rfl rfl ⟨_, _, rfl, ?_⟩
      first
      | (exfalso; omega)
      | exact ⟨by rw [if_pos (by omega)], rfl⟩
      | exact ⟨by rw [if_neg (by omega)], rfl⟩
    · skip
      refine jv_aload_n (pc' := 11) (k := 0) (x := 0) rfl rfl rfl rfl ?_
      refine jv_getR (pc' := 14) (c := 0) (k := 8) (v := 101) rfl rfl rfl (fun _ _ => rfl) rfl rfl (jR_0_8 _) ?_
      refine jv_getR (pc' := 17) (c := 11) (k := 0) (v := 102) rfl rfl rfl (fun _ _ => rfl) rfl rfl (jR_101_0 _) ?_
      refine jv_iload_n (pc' := 18) (k := 1) (x := (iI x)) rfl rfl rfl rfl ?_
      refine jv_iaload (pc' := 19) (n := 64) (e := x) (v := (iI (A 137 x.toNat))) rfl rfl (by decide) rfl rfl rfl (by omega) ((hR.2.2.2.2.2.2.2 x.toNat (by omega)).1) ?_
      refine jx_step (pc' := 23) rfl ?_
      refine jv_retI rfl rfl ⟨_, _, rfl, ?_⟩
      first
      | (exfalso; omega)
      | exact ⟨by rw [if_pos (by omega)], rfl⟩
      | exact ⟨by rw [if_neg (by omega)], rfl⟩
theorem op_streamed_m (hx : iR x) (hM : CM I M A) : jc L xs d 172 [.ref 103, .int (iI x)] (jx_G j I M p) (fun v g1 => ∃ I', g1 = jx_G j I' M p ∧ fr mW I I' ∧ CM I' M A ∧ I' 103 0 = iI 0 ∧ v = some (.int (iI (if 0 ≤ x ∧ x < 64 then A 137 x.toNat else -1)))) := by
  unfold jc
  refine jv_aload_n (pc' := 1) (k := 0) (x := 103) rfl rfl rfl rfl ?_
  refine jv_iconst (pc' := 2) (n := 0) rfl rfl ?_
  refine jv_putI (pc' := 5) (c := 12) (k := 0) rfl rfl rfl rfl (fun _ _ _  => rfl) rfl rfl ?_
  refine jv_iload_n (pc' := 6) (k := 1) (x := (iI x)) rfl rfl rfl rfl ?_
  refine jv_if_lt (t := 15) (pc' := 9) (a := x) rfl rfl rfl (by omega) (fun hz_1 => ?_) (fun hz_1 => ?_)
  · skip
    refine jv_iconst (pc' := 16) (n := -1) rfl rfl ?_
    refine jx_step (pc' := 25) rfl ?_
    refine jv_retI rfl rfl ⟨_, _, rfl, ?_⟩
    first
    | (exfalso; omega)
    | exact ⟨_, rfl, fr_u (by simp [mW]) (fr_r _), CM_n hM (by simp [pers]), rfl, by rw [if_pos (by omega)]⟩
    | exact ⟨_, rfl, fr_u (by simp [mW]) (fr_r _), CM_n hM (by simp [pers]), rfl, by rw [if_neg (by omega)]⟩
  · skip
    refine jv_iload_n (pc' := 10) (k := 1) (x := (iI x)) rfl rfl rfl rfl ?_
    refine jv_bipush (pc' := 12) (n := 64) rfl rfl rfl ?_
    refine jv_ic_lt (t := 19) (pc' := 15) (a := x) (b := 64) rfl rfl rfl (by omega) (fun hz_2 => ?_) (fun hz_2 => ?_)
    · skip
      refine jv_aload_n (pc' := 20) (k := 0) (x := 103) rfl rfl rfl rfl ?_
      refine jv_getR (pc' := 23) (c := 12) (k := 49) (v := 137) rfl rfl rfl (fun _ _ => rfl) rfl rfl (jR_103_49 _) ?_
      refine jv_iload_n (pc' := 24) (k := 1) (x := (iI x)) rfl rfl rfl rfl ?_
      refine jv_iaload (pc' := 25) (n := 64) (e := x) (v := (iI (A 137 x.toNat))) rfl rfl (by decide) rfl rfl rfl (by omega) (hM.1 137 x.toNat (by simp [pers])) ?_
      refine jv_retI rfl rfl ⟨_, _, rfl, ?_⟩
      first
      | (exfalso; omega)
      | exact ⟨_, rfl, fr_u (by simp [mW]) (fr_r _), CM_n hM (by simp [pers]), rfl, by rw [if_pos (by omega)]⟩
      | exact ⟨_, rfl, fr_u (by simp [mW]) (fr_r _), CM_n hM (by simp [pers]), rfl, by rw [if_neg (by omega)]⟩
    · skip
      refine jv_iconst (pc' := 16) (n := -1) rfl rfl ?_
      refine jx_step (pc' := 25) rfl ?_
      refine jv_retI rfl rfl ⟨_, _, rfl, ?_⟩
      first
      | (exfalso; omega)
      | exact ⟨_, rfl, fr_u (by simp [mW]) (fr_r _), CM_n hM (by simp [pers]), rfl, by rw [if_pos (by omega)]⟩
      | exact ⟨_, rfl, fr_u (by simp [mW]) (fr_r _), CM_n hM (by simp [pers]), rfl, by rw [if_neg (by omega)]⟩
theorem cl_thas (hx : iR x) (hT : RTa I M A) : jc L xs d 96 [.ref 98, .int (iI x)] (jx_G j I M p) (fun v g1 => v = some (.int (jb (0 ≤ x ∧ x < A 103 44))) ∧ g1 = jx_G j I M p) := by
  unfold jc
  have h44 := hT.2.1
  refine jv_iload_n (pc' := 1) (k := 1) (x := (iI x)) rfl rfl rfl rfl ?_
  refine jv_if_lt (t := 16) (pc' := 4) (a := x) rfl rfl rfl (by omega) (fun h1 => ?_) (fun h1 => ?_)
  · skip
    refine jv_iconst (pc' := 17) (n := 0) rfl rfl ?_
    refine jv_retZ rfl rfl (by first | exact Or.inl rfl | exact Or.inr rfl) ⟨_, _, rfl, ?_⟩
    exact ⟨jq_f (by omega), rfl⟩
  · skip
    refine jv_iload_n (pc' := 5) (k := 1) (x := (iI x)) rfl rfl rfl rfl ?_
    refine jv_aload_n (pc' := 6) (k := 0) (x := 98) rfl rfl rfl rfl ?_
    refine jv_getI (pc' := 9) (c := 10) (k := 2) (v := (iI (A 103 44))) rfl rfl rfl (fun _ _ => rfl) rfl rfl hT.1 ?_
    refine jv_ic_ge (t := 16) (pc' := 12) (a := x) (b := (A 103 44)) rfl rfl rfl (by omega) (fun h2 => ?_) (fun h2 => ?_)
    · skip
      refine jv_iconst (pc' := 17) (n := 0) rfl rfl ?_
      refine jv_retZ rfl rfl (by first | exact Or.inl rfl | exact Or.inr rfl) ⟨_, _, rfl, ?_⟩
      exact ⟨jq_f (by omega), rfl⟩
    · skip
      refine jv_iconst (pc' := 13) (n := 1) rfl rfl ?_
      refine jx_step (pc' := 17) rfl ?_
      refine jv_retZ rfl rfl (by first | exact Or.inl rfl | exact Or.inr rfl) ⟨_, _, rfl, ?_⟩
      exact ⟨jq_t (by omega), rfl⟩
theorem cl_tfact (hT : RTa I M A) (hk : (k : Int) < A 103 44) (hq : q < 6) : jc L xs d 97 [.ref 98, .int (iI ((k : Nat) : Int)), .int (iI ((q : Nat) : Int))] (jx_G j I M p) (fun v g1 => v = some (.long (lI (tk A k q))) ∧ g1 = jx_G j I M p) := by
  unfold jc
  have h44 := hT.2.1
  refine jv_aload_n (pc' := 1) (k := 0) (x := 98) rfl rfl rfl rfl ?_
  refine jv_getR (pc' := 4) (c := 10) (k := 0) (v := 99) rfl rfl rfl (fun _ _ => rfl) rfl rfl (jR_98_0 _) ?_
  refine jv_iload_n (pc' := 5) (k := 1) (x := (iI ((k : Nat) : Int))) rfl rfl rfl rfl ?_
  refine jv_bipush (pc' := 7) (n := 6) rfl rfl rfl ?_
  refine jv_imul (pc' := 8) (a := ((k : Nat) : Int)) (b := 6) rfl rfl ?_
  refine jv_iload_n (pc' := 9) (k := 2) (x := (iI ((q : Nat) : Int))) rfl rfl rfl rfl ?_
  refine jv_iadd (pc' := 10) (a := (((k : Nat) : Int) * 6)) (b := ((q : Nat) : Int)) rfl rfl ?_
  refine jv_laload (pc' := 11) (n := 72) (e := ((((k : Nat) : Int) * 6) + ((q : Nat) : Int))) (v := (lI (tk A k q))) rfl rfl rfl rfl rfl (by omega) ((congrArg (M 99) (show ((((k : Nat) : Int) * 6) + ((q : Nat) : Int) : Int).toNat = 6 * k + q by omega)).trans (RTa_f hT hk hq)) ?_
  refine jv_retJ rfl rfl ⟨_, _, rfl, ?_⟩
  exact ⟨rfl, rfl⟩
theorem op_talk_t1 (hx : iR x) (hR : CR I M p A) (hbad : ¬ (0 ≤ x ∧ x < A 103 44)) : jt L xs (d + 1) 17 [.ref 0, .int (iI x), .int (iI y)] (jx_G j I M p) 52 (fun g1 => g1 = jx_G (j + 1) I M p) := by
  unfold jt
  refine jv_aload_n (pc' := 1) (k := 0) (x := 0) rfl rfl rfl rfl ?_
  refine jv_getR (pc' := 4) (c := 0) (k := 7) (v := 98) rfl rfl rfl (fun _ _ => rfl) rfl rfl (jR_0_7 _) ?_
  refine jv_iload_n (pc' := 5) (k := 1) (x := (iI x)) rfl rfl rfl rfl ?_
  refine jv_call (pc' := 8) rfl (cl_thas (by omega) hR.2.2.2.2.2.2.1) (fun vq1 gq1 q1 => ?_)
  obtain ⟨rfl, rfl⟩ := q1
  show jx L xs _ 17 8 _ [.int (jb (0 ≤ x ∧ x < A 103 44))] _ _
  refine jv_jb_ne (t := 19) (pc' := 11) (P := 0 ≤ x ∧ x < A 103 44) rfl rfl rfl (fun hz_2 => ?_) (fun hz_2 => ?_)
  · skip
    exfalso; omega
  · skip
    refine jx_ret0 rfl ⟨_, rfl, ?_⟩
    first
    | (exfalso; omega)
    | rfl
theorem op_talk_t2 (hx : iR x) (hy : iR y) (hR : CR I M p A) (hok : 0 ≤ x ∧ x < A 103 44) (hbad : ¬ (0 ≤ y ∧ y < 6)) : jt L xs (d + 1) 17 [.ref 0, .int (iI x), .int (iI y)] (jx_G j I M p) 50 (fun g1 => g1 = jx_G (j + 1) I M p) := by
  unfold jt
  refine jv_aload_n (pc' := 1) (k := 0) (x := 0) rfl rfl rfl rfl ?_
  refine jv_getR (pc' := 4) (c := 0) (k := 7) (v := 98) rfl rfl rfl (fun _ _ => rfl) rfl rfl (jR_0_7 _) ?_
  refine jv_iload_n (pc' := 5) (k := 1) (x := (iI x)) rfl rfl rfl rfl ?_
  refine jv_call (pc' := 8) rfl (cl_thas (by omega) hR.2.2.2.2.2.2.1) (fun vq1 gq1 q1 => ?_)
  obtain ⟨rfl, rfl⟩ := q1
  show jx L xs _ 17 8 _ [.int (jb (0 ≤ x ∧ x < A 103 44))] _ _
  refine jv_jb_ne (t := 19) (pc' := 11) (P := 0 ≤ x ∧ x < A 103 44) rfl rfl rfl (fun hz_2 => ?_) (fun hz_2 => ?_)
  · skip
    refine jv_iload_n (pc' := 20) (k := 2) (x := (iI y)) rfl rfl rfl rfl ?_
    refine jv_if_lt (t := 29) (pc' := 23) (a := y) rfl rfl rfl (by omega) (fun hz_3 => ?_) (fun hz_3 => ?_)
    · skip
      refine jx_ret0 rfl ⟨_, rfl, ?_⟩
      first
      | (exfalso; omega)
      | rfl
    · skip
      refine jv_iload_n (pc' := 24) (k := 2) (x := (iI y)) rfl rfl rfl rfl ?_
      refine jv_bipush (pc' := 26) (n := 6) rfl rfl rfl ?_
      refine jv_ic_lt (t := 37) (pc' := 29) (a := y) (b := 6) rfl rfl rfl (by omega) (fun hz_4 => ?_) (fun hz_4 => ?_)
      · skip
        exfalso; omega
      · skip
        refine jx_ret0 rfl ⟨_, rfl, ?_⟩
        first
        | (exfalso; omega)
        | rfl
  · skip
    exfalso; omega
theorem op_talk_c (hR : CR I M p A) (hk : (k : Int) < A 103 44) (hq : q < 6) : jc L xs (d + 1) 17 [.ref 0, .int (iI ((k : Nat) : Int)), .int (iI ((q : Nat) : Int))] (jx_G j I M p) (fun v g1 => v = some (.long (lI (tk A k q))) ∧ g1 = jx_G j I M p) := by
  unfold jc
  have h44 := hR.2.2.2.2.2.2.1.2.1
  refine jv_aload_n (pc' := 1) (k := 0) (x := 0) rfl rfl rfl rfl ?_
  refine jv_getR (pc' := 4) (c := 0) (k := 7) (v := 98) rfl rfl rfl (fun _ _ => rfl) rfl rfl (jR_0_7 _) ?_
  refine jv_iload_n (pc' := 5) (k := 1) (x := (iI ((k : Nat) : Int))) rfl rfl rfl rfl ?_
  refine jv_call (pc' := 8) rfl (cl_thas (by omega) hR.2.2.2.2.2.2.1) (fun vq1 gq1 q1 => ?_)
  obtain ⟨rfl, rfl⟩ := q1
  show jx L xs _ 17 8 _ [.int (jb (0 ≤ ((k : Nat) : Int) ∧ ((k : Nat) : Int) < A 103 44))] _ _
  refine jv_jb_ne (t := 19) (pc' := 11) (P := 0 ≤ ((k : Nat) : Int) ∧ ((k : Nat) : Int) < A 103 44) rfl rfl rfl (fun hz_2 => ?_) (fun hz_2 => ?_)
  · skip
    refine jv_iload_n (pc' := 20) (k := 2) (x := (iI ((q : Nat) : Int))) rfl rfl rfl rfl ?_
    refine jv_if_lt (t := 29) (pc' := 23) (a := ((q : Nat) : Int)) rfl rfl rfl (by omega) (fun hz_3 => ?_) (fun hz_3 => ?_)
    · skip
      exfalso; omega
    · skip
      refine jv_iload_n (pc' := 24) (k := 2) (x := (iI ((q : Nat) : Int))) rfl rfl rfl rfl ?_
      refine jv_bipush (pc' := 26) (n := 6) rfl rfl rfl ?_
      refine jv_ic_lt (t := 37) (pc' := 29) (a := ((q : Nat) : Int)) (b := 6) rfl rfl rfl (by omega) (fun hz_4 => ?_) (fun hz_4 => ?_)
      · skip
        refine jv_aload_n (pc' := 38) (k := 0) (x := 0) rfl rfl rfl rfl ?_
        refine jv_getR (pc' := 41) (c := 0) (k := 7) (v := 98) rfl rfl rfl (fun _ _ => rfl) rfl rfl (jR_0_7 _) ?_
        refine jv_iload_n (pc' := 42) (k := 1) (x := (iI ((k : Nat) : Int))) rfl rfl rfl rfl ?_
        refine jv_iload_n (pc' := 43) (k := 2) (x := (iI ((q : Nat) : Int))) rfl rfl rfl rfl ?_
        refine jv_call (pc' := 46) rfl (cl_tfact (k := k) (q := q) hR.2.2.2.2.2.2.1 (by omega) (by omega)) (fun vq5 gq5 q5 => ?_)
        obtain ⟨rfl, rfl⟩ := q5
        show jx L xs _ 17 46 _ [.long (lI (tk A k q))] _ _
        refine jv_retJ rfl rfl ⟨_, _, rfl, ?_⟩
        first
        | (exfalso; omega)
        | exact ⟨rfl, rfl⟩
      · skip
        exfalso; omega
  · skip
    exfalso; omega
theorem ml_noTalk (hx : iR x) (hM : CM I M A) (h44 : 0 ≤ A 103 44 ∧ A 103 44 ≤ 12) : jc L xs d 167 [.ref 103, .int (iI x)] (jx_G j I M p) (fun v g1 => v = some (.int (jb (¬ (0 ≤ x ∧ x < A 103 44)))) ∧ g1 = jx_G j I M p) := by
  unfold jc
  refine jv_iload_n (pc' := 1) (k := 1) (x := (iI x)) rfl rfl rfl rfl ?_
  refine jv_if_lt (t := 12) (pc' := 4) (a := x) rfl rfl rfl (by omega) (fun h1 => ?_) (fun h1 => ?_)
  · skip
    refine jv_iconst (pc' := 13) (n := 1) rfl rfl ?_
    refine jx_step (pc' := 17) rfl ?_
    refine jv_retZ rfl rfl (by first | exact Or.inl rfl | exact Or.inr rfl) ⟨_, _, rfl, ?_⟩
    exact ⟨jq_t (by omega), rfl⟩
  · skip
    refine jv_iload_n (pc' := 5) (k := 1) (x := (iI x)) rfl rfl rfl rfl ?_
    refine jv_aload_n (pc' := 6) (k := 0) (x := 103) rfl rfl rfl rfl ?_
    refine jv_getI (pc' := 9) (c := 12) (k := 44) (v := (iI (A 103 44))) rfl rfl rfl (fun _ _ => rfl) rfl rfl (hM.1 103 44 (by simp [pers])) ?_
    refine jv_ic_lt (t := 16) (pc' := 12) (a := x) (b := (A 103 44)) rfl rfl rfl (by omega) (fun h2 => ?_) (fun h2 => ?_)
    · skip
      refine jv_iconst (pc' := 17) (n := 0) rfl rfl ?_
      refine jv_retZ rfl rfl (by first | exact Or.inl rfl | exact Or.inr rfl) ⟨_, _, rfl, ?_⟩
      exact ⟨jq_f (by omega), rfl⟩
    · skip
      refine jv_iconst (pc' := 13) (n := 1) rfl rfl ?_
      refine jx_step (pc' := 17) rfl ?_
      refine jv_retZ rfl rfl (by first | exact Or.inl rfl | exact Or.inr rfl) ⟨_, _, rfl, ?_⟩
      exact ⟨jq_t (by omega), rfl⟩
theorem op_talk_b1 (hM : CM I M A) (hA : AT A) (hv : AV5 A) (hx : iR x) (hbad : ¬ (0 ≤ x ∧ x < A 103 44)) : jc L xs (d + 1) 168 [.ref 103, .int (iI x), .int (iI y)] (jx_G j I M p) (fun v g1 => ∃ I', g1 = jx_G j I' M p ∧ fr mW I I' ∧ CM I' M A ∧ I' 103 0 = iI 1) := by
  unfold jc
  have h44 := hA.1
  have hv12 := hv.2.2.1
  refine jv_aload_n (pc' := 1) (k := 0) (x := 103) rfl rfl rfl rfl ?_
  refine jv_aload_n (pc' := 2) (k := 0) (x := 103) rfl rfl rfl rfl ?_
  refine jv_iload_n (pc' := 3) (k := 1) (x := (iI x)) rfl rfl rfl rfl ?_
  refine jv_call (pc' := 6) rfl (ml_noTalk (by omega) hM hA.1) (fun vq1 gq1 q1 => ?_)
  obtain ⟨rfl, rfl⟩ := q1
  show jx L xs _ 168 6 _ [.int (jb (¬ (0 ≤ x ∧ x < A 103 44))), .ref 103] _ _
  refine jv_jb_eq (t := 13) (pc' := 9) (P := ¬ (0 ≤ x ∧ x < A 103 44)) rfl rfl rfl (fun hz_2 => ?_) (fun hz_2 => ?_)
  · skip
    exfalso; omega
  · skip
    refine jv_iconst (pc' := 10) (n := 1) rfl rfl ?_
    refine jx_step (pc' := 27) rfl ?_
    refine jv_putI (pc' := 30) (c := 12) (k := 0) rfl rfl rfl rfl (fun _ _ _  => rfl) rfl rfl ?_
    refine jv_aload_n (pc' := 31) (k := 0) (x := 103) rfl rfl rfl rfl ?_
    refine jv_getI (pc' := 34) (c := 12) (k := 0) (v := (iI 1)) rfl rfl rfl (fun _ _ => rfl) rfl rfl rfl ?_
    refine jv_if_le (t := 39) (pc' := 37) (a := 1) rfl rfl rfl (by omega) (fun hz_3 => ?_) (fun hz_3 => ?_)
    · skip
      exact absurd hz_3 (by decide)
    · skip
      refine jv_long (pc' := 38) (y := lI 0) rfl (by decide) ?_
      refine jv_retJ rfl rfl ⟨_, _, rfl, ?_⟩
      first
      | (exfalso; omega)
      | exact ⟨_, rfl, (fr_u (by simp [mW]) (fr_r _)), CM_n hM (by simp [pers]), rfl⟩
theorem op_talk_b2 (hM : CM I M A) (hA : AT A) (hv : AV5 A) (hx : iR x) (hy : iR y) (hok : 0 ≤ x ∧ x < A 103 44) (hbad : ¬ (0 ≤ y ∧ y < 6)) : jc L xs (d + 1) 168 [.ref 103, .int (iI x), .int (iI y)] (jx_G j I M p) (fun v g1 => ∃ I', g1 = jx_G j I' M p ∧ fr mW I I' ∧ CM I' M A ∧ I' 103 0 = iI 2) := by
  unfold jc
  have h44 := hA.1
  have hv12 := hv.2.2.1
  refine jv_aload_n (pc' := 1) (k := 0) (x := 103) rfl rfl rfl rfl ?_
  refine jv_aload_n (pc' := 2) (k := 0) (x := 103) rfl rfl rfl rfl ?_
  refine jv_iload_n (pc' := 3) (k := 1) (x := (iI x)) rfl rfl rfl rfl ?_
  refine jv_call (pc' := 6) rfl (ml_noTalk (by omega) hM hA.1) (fun vq1 gq1 q1 => ?_)
  obtain ⟨rfl, rfl⟩ := q1
  show jx L xs _ 168 6 _ [.int (jb (¬ (0 ≤ x ∧ x < A 103 44))), .ref 103] _ _
  refine jv_jb_eq (t := 13) (pc' := 9) (P := ¬ (0 ≤ x ∧ x < A 103 44)) rfl rfl rfl (fun hz_2 => ?_) (fun hz_2 => ?_)
  · skip
    refine jv_iload_n (pc' := 14) (k := 2) (x := (iI y)) rfl rfl rfl rfl ?_
    refine jv_if_lt (t := 22) (pc' := 17) (a := y) rfl rfl rfl (by omega) (fun hz_3 => ?_) (fun hz_3 => ?_)
    · skip
      refine jv_iconst (pc' := 23) (n := 2) rfl rfl ?_
      refine jx_step (pc' := 27) rfl ?_
      refine jv_putI (pc' := 30) (c := 12) (k := 0) rfl rfl rfl rfl (fun _ _ _  => rfl) rfl rfl ?_
      refine jv_aload_n (pc' := 31) (k := 0) (x := 103) rfl rfl rfl rfl ?_
      refine jv_getI (pc' := 34) (c := 12) (k := 0) (v := (iI 2)) rfl rfl rfl (fun _ _ => rfl) rfl rfl rfl ?_
      refine jv_if_le (t := 39) (pc' := 37) (a := 2) rfl rfl rfl (by omega) (fun hz_4 => ?_) (fun hz_4 => ?_)
      · skip
        exact absurd hz_4 (by decide)
      · skip
        refine jv_long (pc' := 38) (y := lI 0) rfl (by decide) ?_
        refine jv_retJ rfl rfl ⟨_, _, rfl, ?_⟩
        first
        | (exfalso; omega)
        | exact ⟨_, rfl, (fr_u (by simp [mW]) (fr_r _)), CM_n hM (by simp [pers]), rfl⟩
    · skip
      refine jv_iload_n (pc' := 18) (k := 2) (x := (iI y)) rfl rfl rfl rfl ?_
      refine jv_iconst (pc' := 19) (n := 5) rfl rfl ?_
      refine jv_ic_le (t := 26) (pc' := 22) (a := y) (b := 5) rfl rfl rfl (by omega) (fun hz_5 => ?_) (fun hz_5 => ?_)
      · skip
        exfalso; omega
      · skip
        refine jv_iconst (pc' := 23) (n := 2) rfl rfl ?_
        refine jx_step (pc' := 27) rfl ?_
        refine jv_putI (pc' := 30) (c := 12) (k := 0) rfl rfl rfl rfl (fun _ _ _  => rfl) rfl rfl ?_
        refine jv_aload_n (pc' := 31) (k := 0) (x := 103) rfl rfl rfl rfl ?_
        refine jv_getI (pc' := 34) (c := 12) (k := 0) (v := (iI 2)) rfl rfl rfl (fun _ _ => rfl) rfl rfl rfl ?_
        refine jv_if_le (t := 39) (pc' := 37) (a := 2) rfl rfl rfl (by omega) (fun hz_6 => ?_) (fun hz_6 => ?_)
        · skip
          exact absurd hz_6 (by decide)
        · skip
          refine jv_long (pc' := 38) (y := lI 0) rfl (by decide) ?_
          refine jv_retJ rfl rfl ⟨_, _, rfl, ?_⟩
          first
          | (exfalso; omega)
          | exact ⟨_, rfl, (fr_u (by simp [mW]) (fr_r _)), CM_n hM (by simp [pers]), rfl⟩
  · skip
    exfalso; omega
theorem op_talk_m0 (hM : CM I M A) (hA : AT A) (hv : AV5 A) (hk : (k : Int) < A 103 44) : jc L xs (d + 1) 168 [.ref 103, .int (iI ((k : Nat) : Int)), .int (iI 0)] (jx_G j I M p) (fun v g1 => ∃ I', g1 = jx_G j I' M p ∧ fr mW I I' ∧ CM I' M A ∧ I' 103 0 = iI 0 ∧ v = some (.long (lI (tk A k 0)))) := by
  unfold jc
  have h44 := hA.1
  have hv12 := hv.2.2.1
  refine jv_aload_n (pc' := 1) (k := 0) (x := 103) rfl rfl rfl rfl ?_
  refine jv_aload_n (pc' := 2) (k := 0) (x := 103) rfl rfl rfl rfl ?_
  refine jv_iload_n (pc' := 3) (k := 1) (x := (iI ((k : Nat) : Int))) rfl rfl rfl rfl ?_
  refine jv_call (pc' := 6) rfl (ml_noTalk (by omega) hM hA.1) (fun vq1 gq1 q1 => ?_)
  obtain ⟨rfl, rfl⟩ := q1
  show jx L xs _ 168 6 _ [.int (jb (¬ (0 ≤ ((k : Nat) : Int) ∧ ((k : Nat) : Int) < A 103 44))), .ref 103] _ _
  refine jv_jb_eq (t := 13) (pc' := 9) (P := ¬ (0 ≤ ((k : Nat) : Int) ∧ ((k : Nat) : Int) < A 103 44)) rfl rfl rfl (fun hz_2 => ?_) (fun hz_2 => ?_)
  · skip
    refine jv_iload_n (pc' := 14) (k := 2) (x := (iI 0)) rfl rfl rfl rfl ?_
    refine jv_if_lt (t := 22) (pc' := 17) (a := 0) rfl rfl rfl (by omega) (fun hz_3 => ?_) (fun hz_3 => ?_)
    · skip
      exact absurd hz_3 (by decide)
    · skip
      refine jv_iload_n (pc' := 18) (k := 2) (x := (iI 0)) rfl rfl rfl rfl ?_
      refine jv_iconst (pc' := 19) (n := 5) rfl rfl ?_
      refine jv_ic_le (t := 26) (pc' := 22) (a := 0) (b := 5) rfl rfl rfl (by omega) (fun hz_4 => ?_) (fun hz_4 => ?_)
      · skip
        refine jv_iconst (pc' := 27) (n := 0) rfl rfl ?_
        refine jv_putI (pc' := 30) (c := 12) (k := 0) rfl rfl rfl rfl (fun _ _ _  => rfl) rfl rfl ?_
        refine jv_aload_n (pc' := 31) (k := 0) (x := 103) rfl rfl rfl rfl ?_
        refine jv_getI (pc' := 34) (c := 12) (k := 0) (v := (iI 0)) rfl rfl rfl (fun _ _ => rfl) rfl rfl rfl ?_
        refine jv_if_le (t := 39) (pc' := 37) (a := 0) rfl rfl rfl (by omega) (fun hz_5 => ?_) (fun hz_5 => ?_)
        · skip
          refine jv_iload_n (pc' := 40) (k := 2) (x := (iI 0)) rfl rfl rfl rfl ?_
          refine jv_iconst (pc' := 41) (n := 2) rfl rfl ?_
          refine jv_ic_ge (t := 64) (pc' := 44) (a := 0) (b := 2) rfl rfl rfl (by omega) (fun hz_6 => ?_) (fun hz_6 => ?_)
          · skip
            exact absurd hz_6 (by decide)
          · skip
            refine jv_iload_n (pc' := 45) (k := 2) (x := (iI 0)) rfl rfl rfl rfl ?_
            refine jv_if_ne (t := 57) (pc' := 48) (a := 0) rfl rfl rfl (by omega) (fun hz_7 => ?_) (fun hz_7 => ?_)
            · skip
              exact absurd hz_7 (by decide)
            · skip
              refine jv_aload_n (pc' := 49) (k := 0) (x := 103) rfl rfl rfl rfl ?_
              refine jv_getR (pc' := 52) (c := 12) (k := 45) (v := 133) rfl rfl rfl (fun _ _ => rfl) rfl rfl (jR_103_45 _) ?_
              refine jv_iload_n (pc' := 53) (k := 1) (x := (iI ((k : Nat) : Int))) rfl rfl rfl rfl ?_
              refine jv_laload (pc' := 54) (n := 12) (e := ((k : Nat) : Int)) (v := (lI (A 133 k))) rfl rfl rfl rfl rfl (by omega) (hM.2 133 k (by omega)) ?_
              refine jx_step (pc' := 63) rfl ?_
              refine jv_retJ rfl rfl ⟨_, _, rfl, ?_⟩
              first
              | (exfalso; omega)
              | exact ⟨_, rfl, fr_u (by simp [mW]) (fr_r _), CM_n hM (by simp [pers]), rfl, rfl⟩
        · skip
          exact absurd hz_5 (by decide)
      · skip
        exact absurd hz_4 (by decide)
  · skip
    exfalso; omega
theorem op_talk_m1 (hM : CM I M A) (hA : AT A) (hv : AV5 A) (hk : (k : Int) < A 103 44) : jc L xs (d + 1) 168 [.ref 103, .int (iI ((k : Nat) : Int)), .int (iI 1)] (jx_G j I M p) (fun v g1 => ∃ I', g1 = jx_G j I' M p ∧ fr mW I I' ∧ CM I' M A ∧ I' 103 0 = iI 0 ∧ v = some (.long (lI (tk A k 1)))) := by
  unfold jc
  have h44 := hA.1
  have hv12 := hv.2.2.1
  refine jv_aload_n (pc' := 1) (k := 0) (x := 103) rfl rfl rfl rfl ?_
  refine jv_aload_n (pc' := 2) (k := 0) (x := 103) rfl rfl rfl rfl ?_
  refine jv_iload_n (pc' := 3) (k := 1) (x := (iI ((k : Nat) : Int))) rfl rfl rfl rfl ?_
  refine jv_call (pc' := 6) rfl (ml_noTalk (by omega) hM hA.1) (fun vq1 gq1 q1 => ?_)
  obtain ⟨rfl, rfl⟩ := q1
  show jx L xs _ 168 6 _ [.int (jb (¬ (0 ≤ ((k : Nat) : Int) ∧ ((k : Nat) : Int) < A 103 44))), .ref 103] _ _
  refine jv_jb_eq (t := 13) (pc' := 9) (P := ¬ (0 ≤ ((k : Nat) : Int) ∧ ((k : Nat) : Int) < A 103 44)) rfl rfl rfl (fun hz_2 => ?_) (fun hz_2 => ?_)
  · skip
    refine jv_iload_n (pc' := 14) (k := 2) (x := (iI 1)) rfl rfl rfl rfl ?_
    refine jv_if_lt (t := 22) (pc' := 17) (a := 1) rfl rfl rfl (by omega) (fun hz_3 => ?_) (fun hz_3 => ?_)
    · skip
      exact absurd hz_3 (by decide)
    · skip
      refine jv_iload_n (pc' := 18) (k := 2) (x := (iI 1)) rfl rfl rfl rfl ?_
      refine jv_iconst (pc' := 19) (n := 5) rfl rfl ?_
      refine jv_ic_le (t := 26) (pc' := 22) (a := 1) (b := 5) rfl rfl rfl (by omega) (fun hz_4 => ?_) (fun hz_4 => ?_)
      · skip
        refine jv_iconst (pc' := 27) (n := 0) rfl rfl ?_
        refine jv_putI (pc' := 30) (c := 12) (k := 0) rfl rfl rfl rfl (fun _ _ _  => rfl) rfl rfl ?_
        refine jv_aload_n (pc' := 31) (k := 0) (x := 103) rfl rfl rfl rfl ?_
        refine jv_getI (pc' := 34) (c := 12) (k := 0) (v := (iI 0)) rfl rfl rfl (fun _ _ => rfl) rfl rfl rfl ?_
        refine jv_if_le (t := 39) (pc' := 37) (a := 0) rfl rfl rfl (by omega) (fun hz_5 => ?_) (fun hz_5 => ?_)
        · skip
          refine jv_iload_n (pc' := 40) (k := 2) (x := (iI 1)) rfl rfl rfl rfl ?_
          refine jv_iconst (pc' := 41) (n := 2) rfl rfl ?_
          refine jv_ic_ge (t := 64) (pc' := 44) (a := 1) (b := 2) rfl rfl rfl (by omega) (fun hz_6 => ?_) (fun hz_6 => ?_)
          · skip
            exact absurd hz_6 (by decide)
          · skip
            refine jv_iload_n (pc' := 45) (k := 2) (x := (iI 1)) rfl rfl rfl rfl ?_
            refine jv_if_ne (t := 57) (pc' := 48) (a := 1) rfl rfl rfl (by omega) (fun hz_7 => ?_) (fun hz_7 => ?_)
            · skip
              refine jv_aload_n (pc' := 58) (k := 0) (x := 103) rfl rfl rfl rfl ?_
              refine jv_getR (pc' := 61) (c := 12) (k := 46) (v := 134) rfl rfl rfl (fun _ _ => rfl) rfl rfl (jR_103_46 _) ?_
              refine jv_iload_n (pc' := 62) (k := 1) (x := (iI ((k : Nat) : Int))) rfl rfl rfl rfl ?_
              refine jv_laload (pc' := 63) (n := 12) (e := ((k : Nat) : Int)) (v := (lI (A 134 k))) rfl rfl rfl rfl rfl (by omega) (hM.2 134 k (by omega)) ?_
              refine jv_retJ rfl rfl ⟨_, _, rfl, ?_⟩
              first
              | (exfalso; omega)
              | exact ⟨_, rfl, fr_u (by simp [mW]) (fr_r _), CM_n hM (by simp [pers]), rfl, rfl⟩
            · skip
              exact absurd hz_7 (by decide)
        · skip
          exact absurd hz_5 (by decide)
      · skip
        exact absurd hz_4 (by decide)
  · skip
    exfalso; omega
theorem op_talk_m2 (hM : CM I M A) (hA : AT A) (hv : AV5 A) (hk : (k : Int) < A 103 44) : jc L xs (d + 1) 168 [.ref 103, .int (iI ((k : Nat) : Int)), .int (iI 2)] (jx_G j I M p) (fun v g1 => ∃ I', g1 = jx_G j I' M p ∧ fr mW I I' ∧ CM I' M A ∧ I' 103 0 = iI 0 ∧ v = some (.long (lI (tk A k 2)))) := by
  unfold jc
  have h44 := hA.1
  have hv12 := hv.2.2.1
  refine jv_aload_n (pc' := 1) (k := 0) (x := 103) rfl rfl rfl rfl ?_
  refine jv_aload_n (pc' := 2) (k := 0) (x := 103) rfl rfl rfl rfl ?_
  refine jv_iload_n (pc' := 3) (k := 1) (x := (iI ((k : Nat) : Int))) rfl rfl rfl rfl ?_
  refine jv_call (pc' := 6) rfl (ml_noTalk (by omega) hM hA.1) (fun vq1 gq1 q1 => ?_)
  obtain ⟨rfl, rfl⟩ := q1
  show jx L xs _ 168 6 _ [.int (jb (¬ (0 ≤ ((k : Nat) : Int) ∧ ((k : Nat) : Int) < A 103 44))), .ref 103] _ _
  refine jv_jb_eq (t := 13) (pc' := 9) (P := ¬ (0 ≤ ((k : Nat) : Int) ∧ ((k : Nat) : Int) < A 103 44)) rfl rfl rfl (fun hz_2 => ?_) (fun hz_2 => ?_)
  · skip
    refine jv_iload_n (pc' := 14) (k := 2) (x := (iI 2)) rfl rfl rfl rfl ?_
    refine jv_if_lt (t := 22) (pc' := 17) (a := 2) rfl rfl rfl (by omega) (fun hz_3 => ?_) (fun hz_3 => ?_)
    · skip
      exact absurd hz_3 (by decide)
    · skip
      refine jv_iload_n (pc' := 18) (k := 2) (x := (iI 2)) rfl rfl rfl rfl ?_
      refine jv_iconst (pc' := 19) (n := 5) rfl rfl ?_
      refine jv_ic_le (t := 26) (pc' := 22) (a := 2) (b := 5) rfl rfl rfl (by omega) (fun hz_4 => ?_) (fun hz_4 => ?_)
      · skip
        refine jv_iconst (pc' := 27) (n := 0) rfl rfl ?_
        refine jv_putI (pc' := 30) (c := 12) (k := 0) rfl rfl rfl rfl (fun _ _ _  => rfl) rfl rfl ?_
        refine jv_aload_n (pc' := 31) (k := 0) (x := 103) rfl rfl rfl rfl ?_
        refine jv_getI (pc' := 34) (c := 12) (k := 0) (v := (iI 0)) rfl rfl rfl (fun _ _ => rfl) rfl rfl rfl ?_
        refine jv_if_le (t := 39) (pc' := 37) (a := 0) rfl rfl rfl (by omega) (fun hz_5 => ?_) (fun hz_5 => ?_)
        · skip
          refine jv_iload_n (pc' := 40) (k := 2) (x := (iI 2)) rfl rfl rfl rfl ?_
          refine jv_iconst (pc' := 41) (n := 2) rfl rfl ?_
          refine jv_ic_ge (t := 64) (pc' := 44) (a := 2) (b := 2) rfl rfl rfl (by omega) (fun hz_6 => ?_) (fun hz_6 => ?_)
          · skip
            refine jv_long (pc' := 65) (y := lI 0) rfl (by decide) ?_
            refine jv_lstore_n (pc' := 66) (k := 3) (x := (lI 0)) rfl rfl rfl rfl (Or.inr rfl) ?_
            refine jv_iconst (pc' := 67) (n := 0) rfl rfl ?_
            refine jv_istore (pc' := 69) (k := 5) (x := (iI 0)) rfl rfl rfl (Or.inr rfl) ?_
            have H7 : ∀ (N : Nat) (i : Nat) (z : Int), 12 - i < N → ((i : Int) ≤ A 103 12) → (z = tcnt A (k : Int) 1 0 i) → ∀ f : jm_F, f 0 = some (.ref 103) → f 1 = some (.int (iI ((k : Nat) : Int))) → f 2 = some (.int (iI 2)) → f 3 = some (.long (lI z)) → f 5 = some (.int (iI ((i : Nat) : Int))) → jm_lng (f 4) = false → jx L xs ((d + 1)) 168 69 f [] (jx_G j (jm_u I 103 0 (iI 0)) M p) (fun z => ∃ v g1, z = (.inl v, g1) ∧ (fun v g1 => ∃ I', g1 = jx_G j I' M p ∧ fr mW I I' ∧ CM I' M A ∧ I' 103 0 = iI 0 ∧ v = some (.long (lI (tk A k 2)))) v g1) := by
              intro N
              induction N with
              | zero => intro i z hN; exact absurd hN (Nat.not_lt_zero _)
              | succ N ih =>
                intro i z hN hi hz f hf0 hf1 hf2 hf3 hf5 hg4
                refine jv_iload (pc' := 71) (k := 5) (x := (iI ((i : Nat) : Int))) rfl rfl hf5 ?_
                refine jv_aload_n (pc' := 72) (k := 0) (x := 103) rfl rfl rfl hf0 ?_
                refine jv_getI (pc' := 75) (c := 12) (k := 12) (v := (iI (A 103 12))) rfl rfl rfl (fun _ _ => rfl) rfl rfl (hM.1 103 12 (by simp [pers])) ?_
                refine jv_ic_ge (t := 138) (pc' := 78) (a := ((i : Nat) : Int)) (b := (A 103 12)) rfl rfl rfl (by omega) (fun hz_8 => ?_) (fun hz_8 => ?_)
                · skip
                  refine jv_lload_n (pc' := 139) (k := 3) (x := (lI z)) rfl rfl rfl hf3 ?_
                  refine jv_retJ rfl rfl ⟨_, _, rfl, ?_⟩
                  first
                  | (exfalso; omega)
                  | (have ei : i = (A 103 12).toNat := by omega
                     subst ei; subst hz
                     exact ⟨_, rfl, fr_u (by simp [mW]) (fr_r _), CM_n hM (by simp [pers]), rfl, rfl⟩)
                · skip
                  have hsz := (hv.2.2.2 i (by omega)).2.2.1
                  have hto := hA.2.1 (by omega) i (by omega)
                  have hb := tcnt_b hv (k : Int) 1 0 i (by omega)
                  refine jv_aload_n (pc' := 79) (k := 0) (x := 103) rfl rfl rfl hf0 ?_
                  refine jv_getR (pc' := 82) (c := 12) (k := 47) (v := 135) rfl rfl rfl (fun _ _ => rfl) rfl rfl (jR_103_47 _) ?_
                  refine jv_iload (pc' := 84) (k := 5) (x := (iI ((i : Nat) : Int))) rfl rfl hf5 ?_
                  refine jv_iaload (pc' := 85) (n := 12) (e := ((i : Nat) : Int)) (v := (iI (A 135 i))) rfl rfl (by decide) rfl rfl rfl (by omega) (hM.1 135 i (by simp [pers])) ?_
                  refine jv_iload_n (pc' := 86) (k := 1) (x := (iI ((k : Nat) : Int))) rfl rfl rfl hf1 ?_
                  refine jv_ic_ne (t := 132) (pc' := 89) (a := (A 135 i)) (b := ((k : Nat) : Int)) rfl rfl rfl (by omega) (fun hz_9 => ?_) (fun hz_9 => ?_)
                  · skip
                    refine jv_iinc (pc' := 135) (k := 5) (a := ((i : Nat) : Int)) rfl rfl hf5 rfl (Or.inr hg4) ?_
                    refine jx_step (pc' := 69) rfl ?_
                    exact ih (i + 1) z (by omega) (by omega) (by
                          unfold tcnt
                          first | (rw [if_pos (by omega)]; simp; omega) | (rw [if_neg (by omega)]; omega)) _ hf0 hf1 hf2 hf3 rfl hg4
                  · skip
                    refine jv_aload_n (pc' := 90) (k := 0) (x := 103) rfl rfl rfl hf0 ?_
                    refine jv_getR (pc' := 93) (c := 12) (k := 48) (v := 136) rfl rfl rfl (fun _ _ => rfl) rfl rfl (jR_103_48 _) ?_
                    refine jv_iload (pc' := 95) (k := 5) (x := (iI ((i : Nat) : Int))) rfl rfl hf5 ?_
                    refine jv_baload (pc' := 96) (n := 12) (e := ((i : Nat) : Int)) (v := (iI (A 136 i))) rfl rfl rfl rfl rfl (by omega) (hM.1 136 i (by simp [pers])) ?_
                    refine jv_iload_n (pc' := 97) (k := 2) (x := (iI 2)) rfl rfl rfl hf2 ?_
                    refine jv_iconst (pc' := 98) (n := 2) rfl rfl ?_
                    refine jv_int (pc' := 99) (y := (iI 0)) rfl (by decide) ?_
                    refine jv_if_ne (t := 106) (pc' := 102) (a := 0) rfl rfl rfl (by omega) (fun hz_10 => ?_) (fun hz_10 => ?_)
                    · skip
                      exact absurd hz_10 (by decide)
                    · skip
                      refine jv_iconst (pc' := 103) (n := 1) rfl rfl ?_
                      refine jx_step (pc' := 107) rfl ?_
                      refine jv_ic_ne (t := 132) (pc' := 110) (a := (A 136 i)) (b := 1) rfl rfl rfl (by omega) (fun hz_11 => ?_) (fun hz_11 => ?_)
                      · skip
                        refine jv_iinc (pc' := 135) (k := 5) (a := ((i : Nat) : Int)) rfl rfl hf5 rfl (Or.inr hg4) ?_
                        refine jx_step (pc' := 69) rfl ?_
                        exact ih (i + 1) z (by omega) (by omega) (by
                              unfold tcnt
                              first | (rw [if_pos (by omega)]; simp; omega) | (rw [if_neg (by omega)]; omega)) _ hf0 hf1 hf2 hf3 rfl hg4
                      · skip
                        refine jv_iload_n (pc' := 111) (k := 2) (x := (iI 2)) rfl rfl rfl hf2 ?_
                        refine jv_iconst (pc' := 112) (n := 4) rfl rfl ?_
                        refine jv_ic_ge (t := 121) (pc' := 115) (a := 2) (b := 4) rfl rfl rfl (by omega) (fun hz_12 => ?_) (fun hz_12 => ?_)
                        · skip
                          exact absurd hz_12 (by decide)
                        · skip
                          refine jv_lload_n (pc' := 116) (k := 3) (x := (lI z)) rfl rfl rfl hf3 ?_
                          refine jv_long (pc' := 117) (y := lI 1) rfl (by decide) ?_
                          refine jv_ladd (pc' := 118) (a := z) (b := 1) rfl rfl ?_
                          refine jx_step (pc' := 131) rfl ?_
                          refine jv_lstore_n (pc' := 132) (k := 3) (x := (lI (z + 1))) rfl rfl rfl rfl (Or.inr (congrArg jm_lng hf2)) ?_
                          refine jv_iinc (pc' := 135) (k := 5) (a := ((i : Nat) : Int)) rfl rfl hf5 rfl (Or.inr rfl) ?_
                          refine jx_step (pc' := 69) rfl ?_
                          exact ih (i + 1) (z + 1) (by omega) (by omega) (by
                                unfold tcnt
                                first | (rw [if_pos (by omega)]; simp; omega) | (rw [if_neg (by omega)]; omega)) _ hf0 hf1 hf2 rfl rfl rfl
            exact H7 _ 0 0 (Nat.lt_succ_self _) (by omega) rfl _ rfl rfl rfl rfl rfl rfl
          · skip
            exact absurd hz_6 (by decide)
        · skip
          exact absurd hz_5 (by decide)
      · skip
        exact absurd hz_4 (by decide)
  · skip
    exfalso; omega
theorem op_talk_m3 (hM : CM I M A) (hA : AT A) (hv : AV5 A) (hk : (k : Int) < A 103 44) : jc L xs (d + 1) 168 [.ref 103, .int (iI ((k : Nat) : Int)), .int (iI 3)] (jx_G j I M p) (fun v g1 => ∃ I', g1 = jx_G j I' M p ∧ fr mW I I' ∧ CM I' M A ∧ I' 103 0 = iI 0 ∧ v = some (.long (lI (tk A k 3)))) := by
  unfold jc
  have h44 := hA.1
  have hv12 := hv.2.2.1
  refine jv_aload_n (pc' := 1) (k := 0) (x := 103) rfl rfl rfl rfl ?_
  refine jv_aload_n (pc' := 2) (k := 0) (x := 103) rfl rfl rfl rfl ?_
  refine jv_iload_n (pc' := 3) (k := 1) (x := (iI ((k : Nat) : Int))) rfl rfl rfl rfl ?_
  refine jv_call (pc' := 6) rfl (ml_noTalk (by omega) hM hA.1) (fun vq1 gq1 q1 => ?_)
  obtain ⟨rfl, rfl⟩ := q1
  show jx L xs _ 168 6 _ [.int (jb (¬ (0 ≤ ((k : Nat) : Int) ∧ ((k : Nat) : Int) < A 103 44))), .ref 103] _ _
  refine jv_jb_eq (t := 13) (pc' := 9) (P := ¬ (0 ≤ ((k : Nat) : Int) ∧ ((k : Nat) : Int) < A 103 44)) rfl rfl rfl (fun hz_2 => ?_) (fun hz_2 => ?_)
  · skip
    refine jv_iload_n (pc' := 14) (k := 2) (x := (iI 3)) rfl rfl rfl rfl ?_
    refine jv_if_lt (t := 22) (pc' := 17) (a := 3) rfl rfl rfl (by omega) (fun hz_3 => ?_) (fun hz_3 => ?_)
    · skip
      exact absurd hz_3 (by decide)
    · skip
      refine jv_iload_n (pc' := 18) (k := 2) (x := (iI 3)) rfl rfl rfl rfl ?_
      refine jv_iconst (pc' := 19) (n := 5) rfl rfl ?_
      refine jv_ic_le (t := 26) (pc' := 22) (a := 3) (b := 5) rfl rfl rfl (by omega) (fun hz_4 => ?_) (fun hz_4 => ?_)
      · skip
        refine jv_iconst (pc' := 27) (n := 0) rfl rfl ?_
        refine jv_putI (pc' := 30) (c := 12) (k := 0) rfl rfl rfl rfl (fun _ _ _  => rfl) rfl rfl ?_
        refine jv_aload_n (pc' := 31) (k := 0) (x := 103) rfl rfl rfl rfl ?_
        refine jv_getI (pc' := 34) (c := 12) (k := 0) (v := (iI 0)) rfl rfl rfl (fun _ _ => rfl) rfl rfl rfl ?_
        refine jv_if_le (t := 39) (pc' := 37) (a := 0) rfl rfl rfl (by omega) (fun hz_5 => ?_) (fun hz_5 => ?_)
        · skip
          refine jv_iload_n (pc' := 40) (k := 2) (x := (iI 3)) rfl rfl rfl rfl ?_
          refine jv_iconst (pc' := 41) (n := 2) rfl rfl ?_
          refine jv_ic_ge (t := 64) (pc' := 44) (a := 3) (b := 2) rfl rfl rfl (by omega) (fun hz_6 => ?_) (fun hz_6 => ?_)
          · skip
            refine jv_long (pc' := 65) (y := lI 0) rfl (by decide) ?_
            refine jv_lstore_n (pc' := 66) (k := 3) (x := (lI 0)) rfl rfl rfl rfl (Or.inr rfl) ?_
            refine jv_iconst (pc' := 67) (n := 0) rfl rfl ?_
            refine jv_istore (pc' := 69) (k := 5) (x := (iI 0)) rfl rfl rfl (Or.inr rfl) ?_
            have H7 : ∀ (N : Nat) (i : Nat) (z : Int), 12 - i < N → ((i : Int) ≤ A 103 12) → (z = tcnt A (k : Int) 0 0 i) → ∀ f : jm_F, f 0 = some (.ref 103) → f 1 = some (.int (iI ((k : Nat) : Int))) → f 2 = some (.int (iI 3)) → f 3 = some (.long (lI z)) → f 5 = some (.int (iI ((i : Nat) : Int))) → jm_lng (f 4) = false → jx L xs ((d + 1)) 168 69 f [] (jx_G j (jm_u I 103 0 (iI 0)) M p) (fun z => ∃ v g1, z = (.inl v, g1) ∧ (fun v g1 => ∃ I', g1 = jx_G j I' M p ∧ fr mW I I' ∧ CM I' M A ∧ I' 103 0 = iI 0 ∧ v = some (.long (lI (tk A k 3)))) v g1) := by
              intro N
              induction N with
              | zero => intro i z hN; exact absurd hN (Nat.not_lt_zero _)
              | succ N ih =>
                intro i z hN hi hz f hf0 hf1 hf2 hf3 hf5 hg4
                refine jv_iload (pc' := 71) (k := 5) (x := (iI ((i : Nat) : Int))) rfl rfl hf5 ?_
                refine jv_aload_n (pc' := 72) (k := 0) (x := 103) rfl rfl rfl hf0 ?_
                refine jv_getI (pc' := 75) (c := 12) (k := 12) (v := (iI (A 103 12))) rfl rfl rfl (fun _ _ => rfl) rfl rfl (hM.1 103 12 (by simp [pers])) ?_
                refine jv_ic_ge (t := 138) (pc' := 78) (a := ((i : Nat) : Int)) (b := (A 103 12)) rfl rfl rfl (by omega) (fun hz_8 => ?_) (fun hz_8 => ?_)
                · skip
                  refine jv_lload_n (pc' := 139) (k := 3) (x := (lI z)) rfl rfl rfl hf3 ?_
                  refine jv_retJ rfl rfl ⟨_, _, rfl, ?_⟩
                  first
                  | (exfalso; omega)
                  | (have ei : i = (A 103 12).toNat := by omega
                     subst ei; subst hz
                     exact ⟨_, rfl, fr_u (by simp [mW]) (fr_r _), CM_n hM (by simp [pers]), rfl, rfl⟩)
                · skip
                  have hsz := (hv.2.2.2 i (by omega)).2.2.1
                  have hto := hA.2.1 (by omega) i (by omega)
                  have hb := tcnt_b hv (k : Int) 0 0 i (by omega)
                  refine jv_aload_n (pc' := 79) (k := 0) (x := 103) rfl rfl rfl hf0 ?_
                  refine jv_getR (pc' := 82) (c := 12) (k := 47) (v := 135) rfl rfl rfl (fun _ _ => rfl) rfl rfl (jR_103_47 _) ?_
                  refine jv_iload (pc' := 84) (k := 5) (x := (iI ((i : Nat) : Int))) rfl rfl hf5 ?_
                  refine jv_iaload (pc' := 85) (n := 12) (e := ((i : Nat) : Int)) (v := (iI (A 135 i))) rfl rfl (by decide) rfl rfl rfl (by omega) (hM.1 135 i (by simp [pers])) ?_
                  refine jv_iload_n (pc' := 86) (k := 1) (x := (iI ((k : Nat) : Int))) rfl rfl rfl hf1 ?_
                  refine jv_ic_ne (t := 132) (pc' := 89) (a := (A 135 i)) (b := ((k : Nat) : Int)) rfl rfl rfl (by omega) (fun hz_9 => ?_) (fun hz_9 => ?_)
                  · skip
                    refine jv_iinc (pc' := 135) (k := 5) (a := ((i : Nat) : Int)) rfl rfl hf5 rfl (Or.inr hg4) ?_
                    refine jx_step (pc' := 69) rfl ?_
                    exact ih (i + 1) z (by omega) (by omega) (by
                          unfold tcnt
                          first | (rw [if_pos (by omega)]; simp; omega) | (rw [if_neg (by omega)]; omega)) _ hf0 hf1 hf2 hf3 rfl hg4
                  · skip
                    refine jv_aload_n (pc' := 90) (k := 0) (x := 103) rfl rfl rfl hf0 ?_
                    refine jv_getR (pc' := 93) (c := 12) (k := 48) (v := 136) rfl rfl rfl (fun _ _ => rfl) rfl rfl (jR_103_48 _) ?_
                    refine jv_iload (pc' := 95) (k := 5) (x := (iI ((i : Nat) : Int))) rfl rfl hf5 ?_
                    refine jv_baload (pc' := 96) (n := 12) (e := ((i : Nat) : Int)) (v := (iI (A 136 i))) rfl rfl rfl rfl rfl (by omega) (hM.1 136 i (by simp [pers])) ?_
                    refine jv_iload_n (pc' := 97) (k := 2) (x := (iI 3)) rfl rfl rfl hf2 ?_
                    refine jv_iconst (pc' := 98) (n := 2) rfl rfl ?_
                    refine jv_int (pc' := 99) (y := (iI 1)) rfl (by decide) ?_
                    refine jv_if_ne (t := 106) (pc' := 102) (a := 1) rfl rfl rfl (by omega) (fun hz_10 => ?_) (fun hz_10 => ?_)
                    · skip
                      refine jv_iconst (pc' := 107) (n := 0) rfl rfl ?_
                      refine jv_ic_ne (t := 132) (pc' := 110) (a := (A 136 i)) (b := 0) rfl rfl rfl (by omega) (fun hz_11 => ?_) (fun hz_11 => ?_)
                      · skip
                        refine jv_iinc (pc' := 135) (k := 5) (a := ((i : Nat) : Int)) rfl rfl hf5 rfl (Or.inr hg4) ?_
                        refine jx_step (pc' := 69) rfl ?_
                        exact ih (i + 1) z (by omega) (by omega) (by
                              unfold tcnt
                              first | (rw [if_pos (by omega)]; simp; omega) | (rw [if_neg (by omega)]; omega)) _ hf0 hf1 hf2 hf3 rfl hg4
                      · skip
                        refine jv_iload_n (pc' := 111) (k := 2) (x := (iI 3)) rfl rfl rfl hf2 ?_
                        refine jv_iconst (pc' := 112) (n := 4) rfl rfl ?_
                        refine jv_ic_ge (t := 121) (pc' := 115) (a := 3) (b := 4) rfl rfl rfl (by omega) (fun hz_12 => ?_) (fun hz_12 => ?_)
                        · skip
                          exact absurd hz_12 (by decide)
                        · skip
                          refine jv_lload_n (pc' := 116) (k := 3) (x := (lI z)) rfl rfl rfl hf3 ?_
                          refine jv_long (pc' := 117) (y := lI 1) rfl (by decide) ?_
                          refine jv_ladd (pc' := 118) (a := z) (b := 1) rfl rfl ?_
                          refine jx_step (pc' := 131) rfl ?_
                          refine jv_lstore_n (pc' := 132) (k := 3) (x := (lI (z + 1))) rfl rfl rfl rfl (Or.inr (congrArg jm_lng hf2)) ?_
                          refine jv_iinc (pc' := 135) (k := 5) (a := ((i : Nat) : Int)) rfl rfl hf5 rfl (Or.inr rfl) ?_
                          refine jx_step (pc' := 69) rfl ?_
                          exact ih (i + 1) (z + 1) (by omega) (by omega) (by
                                unfold tcnt
                                first | (rw [if_pos (by omega)]; simp; omega) | (rw [if_neg (by omega)]; omega)) _ hf0 hf1 hf2 rfl rfl rfl
                    · skip
                      exact absurd hz_10 (by decide)
            exact H7 _ 0 0 (Nat.lt_succ_self _) (by omega) rfl _ rfl rfl rfl rfl rfl rfl
          · skip
            exact absurd hz_6 (by decide)
        · skip
          exact absurd hz_5 (by decide)
      · skip
        exact absurd hz_4 (by decide)
  · skip
    exfalso; omega
theorem op_talk_m4 (hM : CM I M A) (hA : AT A) (hv : AV5 A) (hk : (k : Int) < A 103 44) : jc L xs (d + 1) 168 [.ref 103, .int (iI ((k : Nat) : Int)), .int (iI 4)] (jx_G j I M p) (fun v g1 => ∃ I', g1 = jx_G j I' M p ∧ fr mW I I' ∧ CM I' M A ∧ I' 103 0 = iI 0 ∧ v = some (.long (lI (tk A k 4)))) := by
  unfold jc
  have h44 := hA.1
  have hv12 := hv.2.2.1
  refine jv_aload_n (pc' := 1) (k := 0) (x := 103) rfl rfl rfl rfl ?_
  refine jv_aload_n (pc' := 2) (k := 0) (x := 103) rfl rfl rfl rfl ?_
  refine jv_iload_n (pc' := 3) (k := 1) (x := (iI ((k : Nat) : Int))) rfl rfl rfl rfl ?_
  refine jv_call (pc' := 6) rfl (ml_noTalk (by omega) hM hA.1) (fun vq1 gq1 q1 => ?_)
  obtain ⟨rfl, rfl⟩ := q1
  show jx L xs _ 168 6 _ [.int (jb (¬ (0 ≤ ((k : Nat) : Int) ∧ ((k : Nat) : Int) < A 103 44))), .ref 103] _ _
  refine jv_jb_eq (t := 13) (pc' := 9) (P := ¬ (0 ≤ ((k : Nat) : Int) ∧ ((k : Nat) : Int) < A 103 44)) rfl rfl rfl (fun hz_2 => ?_) (fun hz_2 => ?_)
  · skip
    refine jv_iload_n (pc' := 14) (k := 2) (x := (iI 4)) rfl rfl rfl rfl ?_
    refine jv_if_lt (t := 22) (pc' := 17) (a := 4) rfl rfl rfl (by omega) (fun hz_3 => ?_) (fun hz_3 => ?_)
    · skip
      exact absurd hz_3 (by decide)
    · skip
      refine jv_iload_n (pc' := 18) (k := 2) (x := (iI 4)) rfl rfl rfl rfl ?_
      refine jv_iconst (pc' := 19) (n := 5) rfl rfl ?_
      refine jv_ic_le (t := 26) (pc' := 22) (a := 4) (b := 5) rfl rfl rfl (by omega) (fun hz_4 => ?_) (fun hz_4 => ?_)
      · skip
        refine jv_iconst (pc' := 27) (n := 0) rfl rfl ?_
        refine jv_putI (pc' := 30) (c := 12) (k := 0) rfl rfl rfl rfl (fun _ _ _  => rfl) rfl rfl ?_
        refine jv_aload_n (pc' := 31) (k := 0) (x := 103) rfl rfl rfl rfl ?_
        refine jv_getI (pc' := 34) (c := 12) (k := 0) (v := (iI 0)) rfl rfl rfl (fun _ _ => rfl) rfl rfl rfl ?_
        refine jv_if_le (t := 39) (pc' := 37) (a := 0) rfl rfl rfl (by omega) (fun hz_5 => ?_) (fun hz_5 => ?_)
        · skip
          refine jv_iload_n (pc' := 40) (k := 2) (x := (iI 4)) rfl rfl rfl rfl ?_
          refine jv_iconst (pc' := 41) (n := 2) rfl rfl ?_
          refine jv_ic_ge (t := 64) (pc' := 44) (a := 4) (b := 2) rfl rfl rfl (by omega) (fun hz_6 => ?_) (fun hz_6 => ?_)
          · skip
            refine jv_long (pc' := 65) (y := lI 0) rfl (by decide) ?_
            refine jv_lstore_n (pc' := 66) (k := 3) (x := (lI 0)) rfl rfl rfl rfl (Or.inr rfl) ?_
            refine jv_iconst (pc' := 67) (n := 0) rfl rfl ?_
            refine jv_istore (pc' := 69) (k := 5) (x := (iI 0)) rfl rfl rfl (Or.inr rfl) ?_
            have H7 : ∀ (N : Nat) (i : Nat) (z : Int), 12 - i < N → ((i : Int) ≤ A 103 12) → (z = tcnt A (k : Int) 1 1 i) → ∀ f : jm_F, f 0 = some (.ref 103) → f 1 = some (.int (iI ((k : Nat) : Int))) → f 2 = some (.int (iI 4)) → f 3 = some (.long (lI z)) → f 5 = some (.int (iI ((i : Nat) : Int))) → jm_lng (f 4) = false → jx L xs ((d + 1)) 168 69 f [] (jx_G j (jm_u I 103 0 (iI 0)) M p) (fun z => ∃ v g1, z = (.inl v, g1) ∧ (fun v g1 => ∃ I', g1 = jx_G j I' M p ∧ fr mW I I' ∧ CM I' M A ∧ I' 103 0 = iI 0 ∧ v = some (.long (lI (tk A k 4)))) v g1) := by
              intro N
              induction N with
              | zero => intro i z hN; exact absurd hN (Nat.not_lt_zero _)
              | succ N ih =>
                intro i z hN hi hz f hf0 hf1 hf2 hf3 hf5 hg4
                refine jv_iload (pc' := 71) (k := 5) (x := (iI ((i : Nat) : Int))) rfl rfl hf5 ?_
                refine jv_aload_n (pc' := 72) (k := 0) (x := 103) rfl rfl rfl hf0 ?_
                refine jv_getI (pc' := 75) (c := 12) (k := 12) (v := (iI (A 103 12))) rfl rfl rfl (fun _ _ => rfl) rfl rfl (hM.1 103 12 (by simp [pers])) ?_
                refine jv_ic_ge (t := 138) (pc' := 78) (a := ((i : Nat) : Int)) (b := (A 103 12)) rfl rfl rfl (by omega) (fun hz_8 => ?_) (fun hz_8 => ?_)
                · skip
                  refine jv_lload_n (pc' := 139) (k := 3) (x := (lI z)) rfl rfl rfl hf3 ?_
                  refine jv_retJ rfl rfl ⟨_, _, rfl, ?_⟩
                  first
                  | (exfalso; omega)
                  | (have ei : i = (A 103 12).toNat := by omega
                     subst ei; subst hz
                     exact ⟨_, rfl, fr_u (by simp [mW]) (fr_r _), CM_n hM (by simp [pers]), rfl, rfl⟩)
                · skip
                  have hsz := (hv.2.2.2 i (by omega)).2.2.1
                  have hto := hA.2.1 (by omega) i (by omega)
                  have hb := tcnt_b hv (k : Int) 1 1 i (by omega)
                  refine jv_aload_n (pc' := 79) (k := 0) (x := 103) rfl rfl rfl hf0 ?_
                  refine jv_getR (pc' := 82) (c := 12) (k := 47) (v := 135) rfl rfl rfl (fun _ _ => rfl) rfl rfl (jR_103_47 _) ?_
                  refine jv_iload (pc' := 84) (k := 5) (x := (iI ((i : Nat) : Int))) rfl rfl hf5 ?_
                  refine jv_iaload (pc' := 85) (n := 12) (e := ((i : Nat) : Int)) (v := (iI (A 135 i))) rfl rfl (by decide) rfl rfl rfl (by omega) (hM.1 135 i (by simp [pers])) ?_
                  refine jv_iload_n (pc' := 86) (k := 1) (x := (iI ((k : Nat) : Int))) rfl rfl rfl hf1 ?_
                  refine jv_ic_ne (t := 132) (pc' := 89) (a := (A 135 i)) (b := ((k : Nat) : Int)) rfl rfl rfl (by omega) (fun hz_9 => ?_) (fun hz_9 => ?_)
                  · skip
                    refine jv_iinc (pc' := 135) (k := 5) (a := ((i : Nat) : Int)) rfl rfl hf5 rfl (Or.inr hg4) ?_
                    refine jx_step (pc' := 69) rfl ?_
                    exact ih (i + 1) z (by omega) (by omega) (by
                          unfold tcnt
                          first | (rw [if_pos (by omega)]; simp; omega) | (rw [if_neg (by omega)]; omega)) _ hf0 hf1 hf2 hf3 rfl hg4
                  · skip
                    refine jv_aload_n (pc' := 90) (k := 0) (x := 103) rfl rfl rfl hf0 ?_
                    refine jv_getR (pc' := 93) (c := 12) (k := 48) (v := 136) rfl rfl rfl (fun _ _ => rfl) rfl rfl (jR_103_48 _) ?_
                    refine jv_iload (pc' := 95) (k := 5) (x := (iI ((i : Nat) : Int))) rfl rfl hf5 ?_
                    refine jv_baload (pc' := 96) (n := 12) (e := ((i : Nat) : Int)) (v := (iI (A 136 i))) rfl rfl rfl rfl rfl (by omega) (hM.1 136 i (by simp [pers])) ?_
                    refine jv_iload_n (pc' := 97) (k := 2) (x := (iI 4)) rfl rfl rfl hf2 ?_
                    refine jv_iconst (pc' := 98) (n := 2) rfl rfl ?_
                    refine jv_int (pc' := 99) (y := (iI 0)) rfl (by decide) ?_
                    refine jv_if_ne (t := 106) (pc' := 102) (a := 0) rfl rfl rfl (by omega) (fun hz_10 => ?_) (fun hz_10 => ?_)
                    · skip
                      exact absurd hz_10 (by decide)
                    · skip
                      refine jv_iconst (pc' := 103) (n := 1) rfl rfl ?_
                      refine jx_step (pc' := 107) rfl ?_
                      refine jv_ic_ne (t := 132) (pc' := 110) (a := (A 136 i)) (b := 1) rfl rfl rfl (by omega) (fun hz_11 => ?_) (fun hz_11 => ?_)
                      · skip
                        refine jv_iinc (pc' := 135) (k := 5) (a := ((i : Nat) : Int)) rfl rfl hf5 rfl (Or.inr hg4) ?_
                        refine jx_step (pc' := 69) rfl ?_
                        exact ih (i + 1) z (by omega) (by omega) (by
                              unfold tcnt
                              first | (rw [if_pos (by omega)]; simp; omega) | (rw [if_neg (by omega)]; omega)) _ hf0 hf1 hf2 hf3 rfl hg4
                      · skip
                        refine jv_iload_n (pc' := 111) (k := 2) (x := (iI 4)) rfl rfl rfl hf2 ?_
                        refine jv_iconst (pc' := 112) (n := 4) rfl rfl ?_
                        refine jv_ic_ge (t := 121) (pc' := 115) (a := 4) (b := 4) rfl rfl rfl (by omega) (fun hz_12 => ?_) (fun hz_12 => ?_)
                        · skip
                          refine jv_lload_n (pc' := 122) (k := 3) (x := (lI z)) rfl rfl rfl hf3 ?_
                          refine jv_aload_n (pc' := 123) (k := 0) (x := 103) rfl rfl rfl hf0 ?_
                          refine jv_getR (pc' := 126) (c := 12) (k := 15) (v := 115) rfl rfl rfl (fun _ _ => rfl) rfl rfl (jR_103_15 _) ?_
                          refine jv_iload (pc' := 128) (k := 5) (x := (iI ((i : Nat) : Int))) rfl rfl hf5 ?_
                          refine jv_iaload (pc' := 129) (n := 12) (e := ((i : Nat) : Int)) (v := (iI (A 115 i))) rfl rfl (by decide) rfl rfl rfl (by omega) (hM.1 115 i (by simp [pers])) ?_
                          refine jv_i2l (pc' := 130) (a := (A 115 i)) rfl rfl (by omega) ?_
                          refine jv_ladd (pc' := 131) (a := z) (b := (A 115 i)) rfl rfl ?_
                          refine jv_lstore_n (pc' := 132) (k := 3) (x := (lI (z + (A 115 i)))) rfl rfl rfl rfl (Or.inr (congrArg jm_lng hf2)) ?_
                          refine jv_iinc (pc' := 135) (k := 5) (a := ((i : Nat) : Int)) rfl rfl hf5 rfl (Or.inr rfl) ?_
                          refine jx_step (pc' := 69) rfl ?_
                          exact ih (i + 1) (z + (A 115 i)) (by omega) (by omega) (by
                                unfold tcnt
                                first | (rw [if_pos (by omega)]; simp; omega) | (rw [if_neg (by omega)]; omega)) _ hf0 hf1 hf2 rfl rfl rfl
                        · skip
                          exact absurd hz_12 (by decide)
            exact H7 _ 0 0 (Nat.lt_succ_self _) (by omega) rfl _ rfl rfl rfl rfl rfl rfl
          · skip
            exact absurd hz_6 (by decide)
        · skip
          exact absurd hz_5 (by decide)
      · skip
        exact absurd hz_4 (by decide)
  · skip
    exfalso; omega
theorem op_talk_m5 (hM : CM I M A) (hA : AT A) (hv : AV5 A) (hk : (k : Int) < A 103 44) : jc L xs (d + 1) 168 [.ref 103, .int (iI ((k : Nat) : Int)), .int (iI 5)] (jx_G j I M p) (fun v g1 => ∃ I', g1 = jx_G j I' M p ∧ fr mW I I' ∧ CM I' M A ∧ I' 103 0 = iI 0 ∧ v = some (.long (lI (tk A k 5)))) := by
  unfold jc
  have h44 := hA.1
  have hv12 := hv.2.2.1
  refine jv_aload_n (pc' := 1) (k := 0) (x := 103) rfl rfl rfl rfl ?_
  refine jv_aload_n (pc' := 2) (k := 0) (x := 103) rfl rfl rfl rfl ?_
  refine jv_iload_n (pc' := 3) (k := 1) (x := (iI ((k : Nat) : Int))) rfl rfl rfl rfl ?_
  refine jv_call (pc' := 6) rfl (ml_noTalk (by omega) hM hA.1) (fun vq1 gq1 q1 => ?_)
  obtain ⟨rfl, rfl⟩ := q1
  show jx L xs _ 168 6 _ [.int (jb (¬ (0 ≤ ((k : Nat) : Int) ∧ ((k : Nat) : Int) < A 103 44))), .ref 103] _ _
  refine jv_jb_eq (t := 13) (pc' := 9) (P := ¬ (0 ≤ ((k : Nat) : Int) ∧ ((k : Nat) : Int) < A 103 44)) rfl rfl rfl (fun hz_2 => ?_) (fun hz_2 => ?_)
  · skip
    refine jv_iload_n (pc' := 14) (k := 2) (x := (iI 5)) rfl rfl rfl rfl ?_
    refine jv_if_lt (t := 22) (pc' := 17) (a := 5) rfl rfl rfl (by omega) (fun hz_3 => ?_) (fun hz_3 => ?_)
    · skip
      exact absurd hz_3 (by decide)
    · skip
      refine jv_iload_n (pc' := 18) (k := 2) (x := (iI 5)) rfl rfl rfl rfl ?_
      refine jv_iconst (pc' := 19) (n := 5) rfl rfl ?_
      refine jv_ic_le (t := 26) (pc' := 22) (a := 5) (b := 5) rfl rfl rfl (by omega) (fun hz_4 => ?_) (fun hz_4 => ?_)
      · skip
        refine jv_iconst (pc' := 27) (n := 0) rfl rfl ?_
        refine jv_putI (pc' := 30) (c := 12) (k := 0) rfl rfl rfl rfl (fun _ _ _  => rfl) rfl rfl ?_
        refine jv_aload_n (pc' := 31) (k := 0) (x := 103) rfl rfl rfl rfl ?_
        refine jv_getI (pc' := 34) (c := 12) (k := 0) (v := (iI 0)) rfl rfl rfl (fun _ _ => rfl) rfl rfl rfl ?_
        refine jv_if_le (t := 39) (pc' := 37) (a := 0) rfl rfl rfl (by omega) (fun hz_5 => ?_) (fun hz_5 => ?_)
        · skip
          refine jv_iload_n (pc' := 40) (k := 2) (x := (iI 5)) rfl rfl rfl rfl ?_
          refine jv_iconst (pc' := 41) (n := 2) rfl rfl ?_
          refine jv_ic_ge (t := 64) (pc' := 44) (a := 5) (b := 2) rfl rfl rfl (by omega) (fun hz_6 => ?_) (fun hz_6 => ?_)
          · skip
            refine jv_long (pc' := 65) (y := lI 0) rfl (by decide) ?_
            refine jv_lstore_n (pc' := 66) (k := 3) (x := (lI 0)) rfl rfl rfl rfl (Or.inr rfl) ?_
            refine jv_iconst (pc' := 67) (n := 0) rfl rfl ?_
            refine jv_istore (pc' := 69) (k := 5) (x := (iI 0)) rfl rfl rfl (Or.inr rfl) ?_
            have H7 : ∀ (N : Nat) (i : Nat) (z : Int), 12 - i < N → ((i : Int) ≤ A 103 12) → (z = tcnt A (k : Int) 0 1 i) → ∀ f : jm_F, f 0 = some (.ref 103) → f 1 = some (.int (iI ((k : Nat) : Int))) → f 2 = some (.int (iI 5)) → f 3 = some (.long (lI z)) → f 5 = some (.int (iI ((i : Nat) : Int))) → jm_lng (f 4) = false → jx L xs ((d + 1)) 168 69 f [] (jx_G j (jm_u I 103 0 (iI 0)) M p) (fun z => ∃ v g1, z = (.inl v, g1) ∧ (fun v g1 => ∃ I', g1 = jx_G j I' M p ∧ fr mW I I' ∧ CM I' M A ∧ I' 103 0 = iI 0 ∧ v = some (.long (lI (tk A k 5)))) v g1) := by
              intro N
              induction N with
              | zero => intro i z hN; exact absurd hN (Nat.not_lt_zero _)
              | succ N ih =>
                intro i z hN hi hz f hf0 hf1 hf2 hf3 hf5 hg4
                refine jv_iload (pc' := 71) (k := 5) (x := (iI ((i : Nat) : Int))) rfl rfl hf5 ?_
                refine jv_aload_n (pc' := 72) (k := 0) (x := 103) rfl rfl rfl hf0 ?_
                refine jv_getI (pc' := 75) (c := 12) (k := 12) (v := (iI (A 103 12))) rfl rfl rfl (fun _ _ => rfl) rfl rfl (hM.1 103 12 (by simp [pers])) ?_
                refine jv_ic_ge (t := 138) (pc' := 78) (a := ((i : Nat) : Int)) (b := (A 103 12)) rfl rfl rfl (by omega) (fun hz_8 => ?_) (fun hz_8 => ?_)
                · skip
                  refine jv_lload_n (pc' := 139) (k := 3) (x := (lI z)) rfl rfl rfl hf3 ?_
                  refine jv_retJ rfl rfl ⟨_, _, rfl, ?_⟩
                  first
                  | (exfalso; omega)
                  | (have ei : i = (A 103 12).toNat := by omega
                     subst ei; subst hz
                     exact ⟨_, rfl, fr_u (by simp [mW]) (fr_r _), CM_n hM (by simp [pers]), rfl, rfl⟩)
                · skip
                  have hsz := (hv.2.2.2 i (by omega)).2.2.1
                  have hto := hA.2.1 (by omega) i (by omega)
                  have hb := tcnt_b hv (k : Int) 0 1 i (by omega)
                  refine jv_aload_n (pc' := 79) (k := 0) (x := 103) rfl rfl rfl hf0 ?_
                  refine jv_getR (pc' := 82) (c := 12) (k := 47) (v := 135) rfl rfl rfl (fun _ _ => rfl) rfl rfl (jR_103_47 _) ?_
                  refine jv_iload (pc' := 84) (k := 5) (x := (iI ((i : Nat) : Int))) rfl rfl hf5 ?_
                  refine jv_iaload (pc' := 85) (n := 12) (e := ((i : Nat) : Int)) (v := (iI (A 135 i))) rfl rfl (by decide) rfl rfl rfl (by omega) (hM.1 135 i (by simp [pers])) ?_
                  refine jv_iload_n (pc' := 86) (k := 1) (x := (iI ((k : Nat) : Int))) rfl rfl rfl hf1 ?_
                  refine jv_ic_ne (t := 132) (pc' := 89) (a := (A 135 i)) (b := ((k : Nat) : Int)) rfl rfl rfl (by omega) (fun hz_9 => ?_) (fun hz_9 => ?_)
                  · skip
                    refine jv_iinc (pc' := 135) (k := 5) (a := ((i : Nat) : Int)) rfl rfl hf5 rfl (Or.inr hg4) ?_
                    refine jx_step (pc' := 69) rfl ?_
                    exact ih (i + 1) z (by omega) (by omega) (by
                          unfold tcnt
                          first | (rw [if_pos (by omega)]; simp; omega) | (rw [if_neg (by omega)]; omega)) _ hf0 hf1 hf2 hf3 rfl hg4
                  · skip
                    refine jv_aload_n (pc' := 90) (k := 0) (x := 103) rfl rfl rfl hf0 ?_
                    refine jv_getR (pc' := 93) (c := 12) (k := 48) (v := 136) rfl rfl rfl (fun _ _ => rfl) rfl rfl (jR_103_48 _) ?_
                    refine jv_iload (pc' := 95) (k := 5) (x := (iI ((i : Nat) : Int))) rfl rfl hf5 ?_
                    refine jv_baload (pc' := 96) (n := 12) (e := ((i : Nat) : Int)) (v := (iI (A 136 i))) rfl rfl rfl rfl rfl (by omega) (hM.1 136 i (by simp [pers])) ?_
                    refine jv_iload_n (pc' := 97) (k := 2) (x := (iI 5)) rfl rfl rfl hf2 ?_
                    refine jv_iconst (pc' := 98) (n := 2) rfl rfl ?_
                    refine jv_int (pc' := 99) (y := (iI 1)) rfl (by decide) ?_
                    refine jv_if_ne (t := 106) (pc' := 102) (a := 1) rfl rfl rfl (by omega) (fun hz_10 => ?_) (fun hz_10 => ?_)
                    · skip
                      refine jv_iconst (pc' := 107) (n := 0) rfl rfl ?_
                      refine jv_ic_ne (t := 132) (pc' := 110) (a := (A 136 i)) (b := 0) rfl rfl rfl (by omega) (fun hz_11 => ?_) (fun hz_11 => ?_)
                      · skip
                        refine jv_iinc (pc' := 135) (k := 5) (a := ((i : Nat) : Int)) rfl rfl hf5 rfl (Or.inr hg4) ?_
                        refine jx_step (pc' := 69) rfl ?_
                        exact ih (i + 1) z (by omega) (by omega) (by
                              unfold tcnt
                              first | (rw [if_pos (by omega)]; simp; omega) | (rw [if_neg (by omega)]; omega)) _ hf0 hf1 hf2 hf3 rfl hg4
                      · skip
                        refine jv_iload_n (pc' := 111) (k := 2) (x := (iI 5)) rfl rfl rfl hf2 ?_
                        refine jv_iconst (pc' := 112) (n := 4) rfl rfl ?_
                        refine jv_ic_ge (t := 121) (pc' := 115) (a := 5) (b := 4) rfl rfl rfl (by omega) (fun hz_12 => ?_) (fun hz_12 => ?_)
                        · skip
                          refine jv_lload_n (pc' := 122) (k := 3) (x := (lI z)) rfl rfl rfl hf3 ?_
                          refine jv_aload_n (pc' := 123) (k := 0) (x := 103) rfl rfl rfl hf0 ?_
                          refine jv_getR (pc' := 126) (c := 12) (k := 15) (v := 115) rfl rfl rfl (fun _ _ => rfl) rfl rfl (jR_103_15 _) ?_
                          refine jv_iload (pc' := 128) (k := 5) (x := (iI ((i : Nat) : Int))) rfl rfl hf5 ?_
                          refine jv_iaload (pc' := 129) (n := 12) (e := ((i : Nat) : Int)) (v := (iI (A 115 i))) rfl rfl (by decide) rfl rfl rfl (by omega) (hM.1 115 i (by simp [pers])) ?_
                          refine jv_i2l (pc' := 130) (a := (A 115 i)) rfl rfl (by omega) ?_
                          refine jv_ladd (pc' := 131) (a := z) (b := (A 115 i)) rfl rfl ?_
                          refine jv_lstore_n (pc' := 132) (k := 3) (x := (lI (z + (A 115 i)))) rfl rfl rfl rfl (Or.inr (congrArg jm_lng hf2)) ?_
                          refine jv_iinc (pc' := 135) (k := 5) (a := ((i : Nat) : Int)) rfl rfl hf5 rfl (Or.inr rfl) ?_
                          refine jx_step (pc' := 69) rfl ?_
                          exact ih (i + 1) (z + (A 115 i)) (by omega) (by omega) (by
                                unfold tcnt
                                first | (rw [if_pos (by omega)]; simp; omega) | (rw [if_neg (by omega)]; omega)) _ hf0 hf1 hf2 rfl rfl rfl
                        · skip
                          exact absurd hz_12 (by decide)
                    · skip
                      exact absurd hz_10 (by decide)
            exact H7 _ 0 0 (Nat.lt_succ_self _) (by omega) rfl _ rfl rfl rfl rfl rfl rfl
          · skip
            exact absurd hz_6 (by decide)
        · skip
          exact absurd hz_5 (by decide)
      · skip
        exact absurd hz_4 (by decide)
  · skip
    exfalso; omega
end H7
