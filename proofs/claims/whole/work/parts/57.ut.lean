/-! printed by wip/whole/gen/ut.py: rows filled; a cursor started -/
section UT
variable {L : Nat} {xs : Nat → Int32} {d j : Nat} {I : Nat → Nat → Int32} {M : Nat → Nat → Int64} {p : Nat → Option Nat}
theorem cl_fill_8 {x : Int} : jc L xs d 189 [.ref 8, .int (iI x)] (jx_G j I M p) (fun v g1 => ∃ I', g1 = jx_G j I' M p ∧ v = none ∧ (∀ k, k < 8 → I' 8 k = iI x) ∧ fr (fun l _ => l = 8) I I') := by
  unfold jc
  refine jv_iconst (pc' := 1) (n := 0) rfl rfl ?_
  refine jv_istore_n (pc' := 2) (k := 2) (x := (iI 0)) rfl rfl rfl rfl (Or.inr rfl) ?_
  refine jv_aload_n (pc' := 3) (k := 0) (x := 8) rfl rfl rfl rfl ?_
  refine jv_int (pc' := 4) (y := iI 8) rfl rfl ?_
  refine jv_istore_n (pc' := 5) (k := 3) (x := (iI 8)) rfl rfl rfl rfl (Or.inr rfl) ?_
  have H1 : ∀ (N : Nat) (i : Nat) (I1 : Nat → Nat → Int32), 8 - i < N → (i ≤ 8) → (fr (fun l _ => l = 8) I I1) → (∀ k, k < i → I1 8 k = iI x) → ∀ f : jm_F, f 0 = some (.ref 8) → f 1 = some (.int (iI x)) → f 2 = some (.int (iI ((i : Nat) : Int))) → f 3 = some (.int (iI 8)) → jx L xs (d) 189 5 f [] (jx_G j I1 M p) (fun z => ∃ v g1, z = (.inl v, g1) ∧ (fun v g1 => ∃ I', g1 = jx_G j I' M p ∧ v = none ∧ (∀ k, k < 8 → I' 8 k = iI x) ∧ fr (fun l _ => l = 8) I I') v g1) := by
    intro N
    induction N with
    | zero => intro i I1 hN; exact absurd hN (Nat.not_lt_zero _)
    | succ N ih =>
      intro i I1 hN hi hf hr f hf0 hf1 hf2 hf3 
      refine jv_iload_n (pc' := 6) (k := 2) (x := (iI ((i : Nat) : Int))) rfl rfl rfl hf2 ?_
      refine jv_iload_n (pc' := 7) (k := 3) (x := (iI 8)) rfl rfl rfl hf3 ?_
      refine jv_ic_ge (t := 20) (pc' := 10) (a := ((i : Nat) : Int)) (b := 8) rfl rfl rfl (by omega) (fun h2 => ?_) (fun h2 => ?_)
      · skip
        refine jv_retV rfl rfl ⟨_, _, rfl, ?_⟩
        exact ⟨_, rfl, rfl, fun k hk => hr k (by omega), hf⟩
      · skip
        refine jv_aload_n (pc' := 11) (k := 0) (x := 8) rfl rfl rfl hf0 ?_
        refine jv_iload_n (pc' := 12) (k := 2) (x := (iI ((i : Nat) : Int))) rfl rfl rfl hf2 ?_
        refine jv_iload_n (pc' := 13) (k := 1) (x := (iI x)) rfl rfl rfl hf1 ?_
        refine jv_iastore (pc' := 14) (n := 8) (e := ((i : Nat) : Int)) (v := (iI x)) rfl rfl rfl rfl rfl (by omega) ?_
        refine jv_iinc (pc' := 17) (k := 2) (a := ((i : Nat) : Int)) rfl rfl hf2 rfl (Or.inr (congrArg jm_lng hf1)) ?_
        refine jx_step (pc' := 5) rfl ?_
        exact ih (i + 1) (jm_u I1 8 (((i : Nat) : Int) : Int).toNat (iI x)) (by omega) (by omega) (fr_t hf (fr_u rfl (fr_r _))) (fun k hk => by
              by_cases e : k = i
              · subst e; exact jm_u_eq ⟨rfl, by omega⟩
              · exact (jm_u_n2 (by omega)).trans (hr k (by omega))) _ hf0 hf1 rfl hf3 
  exact H1 _ 0 I (Nat.lt_succ_self _) (by omega) (fr_r _) (fun k hk => absurd hk (by omega)) _ rfl rfl rfl rfl 
theorem cl_fill_51 {x : Int} : jc L xs d 189 [.ref 51, .int (iI x)] (jx_G j I M p) (fun v g1 => ∃ I', g1 = jx_G j I' M p ∧ v = none ∧ (∀ k, k < 8 → I' 51 k = iI x) ∧ fr (fun l _ => l = 51) I I') := by
  unfold jc
  refine jv_iconst (pc' := 1) (n := 0) rfl rfl ?_
  refine jv_istore_n (pc' := 2) (k := 2) (x := (iI 0)) rfl rfl rfl rfl (Or.inr rfl) ?_
  refine jv_aload_n (pc' := 3) (k := 0) (x := 51) rfl rfl rfl rfl ?_
  refine jv_int (pc' := 4) (y := iI 8) rfl rfl ?_
  refine jv_istore_n (pc' := 5) (k := 3) (x := (iI 8)) rfl rfl rfl rfl (Or.inr rfl) ?_
  have H1 : ∀ (N : Nat) (i : Nat) (I1 : Nat → Nat → Int32), 8 - i < N → (i ≤ 8) → (fr (fun l _ => l = 51) I I1) → (∀ k, k < i → I1 51 k = iI x) → ∀ f : jm_F, f 0 = some (.ref 51) → f 1 = some (.int (iI x)) → f 2 = some (.int (iI ((i : Nat) : Int))) → f 3 = some (.int (iI 8)) → jx L xs (d) 189 5 f [] (jx_G j I1 M p) (fun z => ∃ v g1, z = (.inl v, g1) ∧ (fun v g1 => ∃ I', g1 = jx_G j I' M p ∧ v = none ∧ (∀ k, k < 8 → I' 51 k = iI x) ∧ fr (fun l _ => l = 51) I I') v g1) := by
    intro N
    induction N with
    | zero => intro i I1 hN; exact absurd hN (Nat.not_lt_zero _)
    | succ N ih =>
      intro i I1 hN hi hf hr f hf0 hf1 hf2 hf3 
      refine jv_iload_n (pc' := 6) (k := 2) (x := (iI ((i : Nat) : Int))) rfl rfl rfl hf2 ?_
      refine jv_iload_n (pc' := 7) (k := 3) (x := (iI 8)) rfl rfl rfl hf3 ?_
      refine jv_ic_ge (t := 20) (pc' := 10) (a := ((i : Nat) : Int)) (b := 8) rfl rfl rfl (by omega) (fun h2 => ?_) (fun h2 => ?_)
      · skip
        refine jv_retV rfl rfl ⟨_, _, rfl, ?_⟩
        exact ⟨_, rfl, rfl, fun k hk => hr k (by omega), hf⟩
      · skip
        refine jv_aload_n (pc' := 11) (k := 0) (x := 51) rfl rfl rfl hf0 ?_
        refine jv_iload_n (pc' := 12) (k := 2) (x := (iI ((i : Nat) : Int))) rfl rfl rfl hf2 ?_
        refine jv_iload_n (pc' := 13) (k := 1) (x := (iI x)) rfl rfl rfl hf1 ?_
        refine jv_iastore (pc' := 14) (n := 8) (e := ((i : Nat) : Int)) (v := (iI x)) rfl rfl rfl rfl rfl (by omega) ?_
        refine jv_iinc (pc' := 17) (k := 2) (a := ((i : Nat) : Int)) rfl rfl hf2 rfl (Or.inr (congrArg jm_lng hf1)) ?_
        refine jx_step (pc' := 5) rfl ?_
        exact ih (i + 1) (jm_u I1 51 (((i : Nat) : Int) : Int).toNat (iI x)) (by omega) (by omega) (fr_t hf (fr_u rfl (fr_r _))) (fun k hk => by
              by_cases e : k = i
              · subst e; exact jm_u_eq ⟨rfl, by omega⟩
              · exact (jm_u_n2 (by omega)).trans (hr k (by omega))) _ hf0 hf1 rfl hf3 
  exact H1 _ 0 I (Nat.lt_succ_self _) (by omega) (fr_r _) (fun k hk => absurd hk (by omega)) _ rfl rfl rfl rfl 
theorem cl_fill_61 {x : Int} : jc L xs d 189 [.ref 61, .int (iI x)] (jx_G j I M p) (fun v g1 => ∃ I', g1 = jx_G j I' M p ∧ v = none ∧ (∀ k, k < 8 → I' 61 k = iI x) ∧ fr (fun l _ => l = 61) I I') := by
  unfold jc
  refine jv_iconst (pc' := 1) (n := 0) rfl rfl ?_
  refine jv_istore_n (pc' := 2) (k := 2) (x := (iI 0)) rfl rfl rfl rfl (Or.inr rfl) ?_
  refine jv_aload_n (pc' := 3) (k := 0) (x := 61) rfl rfl rfl rfl ?_
  refine jv_int (pc' := 4) (y := iI 8) rfl rfl ?_
  refine jv_istore_n (pc' := 5) (k := 3) (x := (iI 8)) rfl rfl rfl rfl (Or.inr rfl) ?_
  have H1 : ∀ (N : Nat) (i : Nat) (I1 : Nat → Nat → Int32), 8 - i < N → (i ≤ 8) → (fr (fun l _ => l = 61) I I1) → (∀ k, k < i → I1 61 k = iI x) → ∀ f : jm_F, f 0 = some (.ref 61) → f 1 = some (.int (iI x)) → f 2 = some (.int (iI ((i : Nat) : Int))) → f 3 = some (.int (iI 8)) → jx L xs (d) 189 5 f [] (jx_G j I1 M p) (fun z => ∃ v g1, z = (.inl v, g1) ∧ (fun v g1 => ∃ I', g1 = jx_G j I' M p ∧ v = none ∧ (∀ k, k < 8 → I' 61 k = iI x) ∧ fr (fun l _ => l = 61) I I') v g1) := by
    intro N
    induction N with
    | zero => intro i I1 hN; exact absurd hN (Nat.not_lt_zero _)
    | succ N ih =>
      intro i I1 hN hi hf hr f hf0 hf1 hf2 hf3 
      refine jv_iload_n (pc' := 6) (k := 2) (x := (iI ((i : Nat) : Int))) rfl rfl rfl hf2 ?_
      refine jv_iload_n (pc' := 7) (k := 3) (x := (iI 8)) rfl rfl rfl hf3 ?_
      refine jv_ic_ge (t := 20) (pc' := 10) (a := ((i : Nat) : Int)) (b := 8) rfl rfl rfl (by omega) (fun h2 => ?_) (fun h2 => ?_)
      · skip
        refine jv_retV rfl rfl ⟨_, _, rfl, ?_⟩
        exact ⟨_, rfl, rfl, fun k hk => hr k (by omega), hf⟩
      · skip
        refine jv_aload_n (pc' := 11) (k := 0) (x := 61) rfl rfl rfl hf0 ?_
        refine jv_iload_n (pc' := 12) (k := 2) (x := (iI ((i : Nat) : Int))) rfl rfl rfl hf2 ?_
        refine jv_iload_n (pc' := 13) (k := 1) (x := (iI x)) rfl rfl rfl hf1 ?_
        refine jv_iastore (pc' := 14) (n := 8) (e := ((i : Nat) : Int)) (v := (iI x)) rfl rfl rfl rfl rfl (by omega) ?_
        refine jv_iinc (pc' := 17) (k := 2) (a := ((i : Nat) : Int)) rfl rfl hf2 rfl (Or.inr (congrArg jm_lng hf1)) ?_
        refine jx_step (pc' := 5) rfl ?_
        exact ih (i + 1) (jm_u I1 61 (((i : Nat) : Int) : Int).toNat (iI x)) (by omega) (by omega) (fr_t hf (fr_u rfl (fr_r _))) (fun k hk => by
              by_cases e : k = i
              · subst e; exact jm_u_eq ⟨rfl, by omega⟩
              · exact (jm_u_n2 (by omega)).trans (hr k (by omega))) _ hf0 hf1 rfl hf3 
  exact H1 _ 0 I (Nat.lt_succ_self _) (by omega) (fr_r _) (fun k hk => absurd hk (by omega)) _ rfl rfl rfl rfl 
theorem cl_fill_71 {x : Int} : jc L xs d 189 [.ref 71, .int (iI x)] (jx_G j I M p) (fun v g1 => ∃ I', g1 = jx_G j I' M p ∧ v = none ∧ (∀ k, k < 8 → I' 71 k = iI x) ∧ fr (fun l _ => l = 71) I I') := by
  unfold jc
  refine jv_iconst (pc' := 1) (n := 0) rfl rfl ?_
  refine jv_istore_n (pc' := 2) (k := 2) (x := (iI 0)) rfl rfl rfl rfl (Or.inr rfl) ?_
  refine jv_aload_n (pc' := 3) (k := 0) (x := 71) rfl rfl rfl rfl ?_
  refine jv_int (pc' := 4) (y := iI 8) rfl rfl ?_
  refine jv_istore_n (pc' := 5) (k := 3) (x := (iI 8)) rfl rfl rfl rfl (Or.inr rfl) ?_
  have H1 : ∀ (N : Nat) (i : Nat) (I1 : Nat → Nat → Int32), 8 - i < N → (i ≤ 8) → (fr (fun l _ => l = 71) I I1) → (∀ k, k < i → I1 71 k = iI x) → ∀ f : jm_F, f 0 = some (.ref 71) → f 1 = some (.int (iI x)) → f 2 = some (.int (iI ((i : Nat) : Int))) → f 3 = some (.int (iI 8)) → jx L xs (d) 189 5 f [] (jx_G j I1 M p) (fun z => ∃ v g1, z = (.inl v, g1) ∧ (fun v g1 => ∃ I', g1 = jx_G j I' M p ∧ v = none ∧ (∀ k, k < 8 → I' 71 k = iI x) ∧ fr (fun l _ => l = 71) I I') v g1) := by
    intro N
    induction N with
    | zero => intro i I1 hN; exact absurd hN (Nat.not_lt_zero _)
    | succ N ih =>
      intro i I1 hN hi hf hr f hf0 hf1 hf2 hf3 
      refine jv_iload_n (pc' := 6) (k := 2) (x := (iI ((i : Nat) : Int))) rfl rfl rfl hf2 ?_
      refine jv_iload_n (pc' := 7) (k := 3) (x := (iI 8)) rfl rfl rfl hf3 ?_
      refine jv_ic_ge (t := 20) (pc' := 10) (a := ((i : Nat) : Int)) (b := 8) rfl rfl rfl (by omega) (fun h2 => ?_) (fun h2 => ?_)
      · skip
        refine jv_retV rfl rfl ⟨_, _, rfl, ?_⟩
        exact ⟨_, rfl, rfl, fun k hk => hr k (by omega), hf⟩
      · skip
        refine jv_aload_n (pc' := 11) (k := 0) (x := 71) rfl rfl rfl hf0 ?_
        refine jv_iload_n (pc' := 12) (k := 2) (x := (iI ((i : Nat) : Int))) rfl rfl rfl hf2 ?_
        refine jv_iload_n (pc' := 13) (k := 1) (x := (iI x)) rfl rfl rfl hf1 ?_
        refine jv_iastore (pc' := 14) (n := 8) (e := ((i : Nat) : Int)) (v := (iI x)) rfl rfl rfl rfl rfl (by omega) ?_
        refine jv_iinc (pc' := 17) (k := 2) (a := ((i : Nat) : Int)) rfl rfl hf2 rfl (Or.inr (congrArg jm_lng hf1)) ?_
        refine jx_step (pc' := 5) rfl ?_
        exact ih (i + 1) (jm_u I1 71 (((i : Nat) : Int) : Int).toNat (iI x)) (by omega) (by omega) (fr_t hf (fr_u rfl (fr_r _))) (fun k hk => by
              by_cases e : k = i
              · subst e; exact jm_u_eq ⟨rfl, by omega⟩
              · exact (jm_u_n2 (by omega)).trans (hr k (by omega))) _ hf0 hf1 rfl hf3 
  exact H1 _ 0 I (Nat.lt_succ_self _) (by omega) (fr_r _) (fun k hk => absurd hk (by omega)) _ rfl rfl rfl rfl 
theorem cl_fill_81 {x : Int} : jc L xs d 189 [.ref 81, .int (iI x)] (jx_G j I M p) (fun v g1 => ∃ I', g1 = jx_G j I' M p ∧ v = none ∧ (∀ k, k < 8 → I' 81 k = iI x) ∧ fr (fun l _ => l = 81) I I') := by
  unfold jc
  refine jv_iconst (pc' := 1) (n := 0) rfl rfl ?_
  refine jv_istore_n (pc' := 2) (k := 2) (x := (iI 0)) rfl rfl rfl rfl (Or.inr rfl) ?_
  refine jv_aload_n (pc' := 3) (k := 0) (x := 81) rfl rfl rfl rfl ?_
  refine jv_int (pc' := 4) (y := iI 8) rfl rfl ?_
  refine jv_istore_n (pc' := 5) (k := 3) (x := (iI 8)) rfl rfl rfl rfl (Or.inr rfl) ?_
  have H1 : ∀ (N : Nat) (i : Nat) (I1 : Nat → Nat → Int32), 8 - i < N → (i ≤ 8) → (fr (fun l _ => l = 81) I I1) → (∀ k, k < i → I1 81 k = iI x) → ∀ f : jm_F, f 0 = some (.ref 81) → f 1 = some (.int (iI x)) → f 2 = some (.int (iI ((i : Nat) : Int))) → f 3 = some (.int (iI 8)) → jx L xs (d) 189 5 f [] (jx_G j I1 M p) (fun z => ∃ v g1, z = (.inl v, g1) ∧ (fun v g1 => ∃ I', g1 = jx_G j I' M p ∧ v = none ∧ (∀ k, k < 8 → I' 81 k = iI x) ∧ fr (fun l _ => l = 81) I I') v g1) := by
    intro N
    induction N with
    | zero => intro i I1 hN; exact absurd hN (Nat.not_lt_zero _)
    | succ N ih =>
      intro i I1 hN hi hf hr f hf0 hf1 hf2 hf3 
      refine jv_iload_n (pc' := 6) (k := 2) (x := (iI ((i : Nat) : Int))) rfl rfl rfl hf2 ?_
      refine jv_iload_n (pc' := 7) (k := 3) (x := (iI 8)) rfl rfl rfl hf3 ?_
      refine jv_ic_ge (t := 20) (pc' := 10) (a := ((i : Nat) : Int)) (b := 8) rfl rfl rfl (by omega) (fun h2 => ?_) (fun h2 => ?_)
      · skip
        refine jv_retV rfl rfl ⟨_, _, rfl, ?_⟩
        exact ⟨_, rfl, rfl, fun k hk => hr k (by omega), hf⟩
      · skip
        refine jv_aload_n (pc' := 11) (k := 0) (x := 81) rfl rfl rfl hf0 ?_
        refine jv_iload_n (pc' := 12) (k := 2) (x := (iI ((i : Nat) : Int))) rfl rfl rfl hf2 ?_
        refine jv_iload_n (pc' := 13) (k := 1) (x := (iI x)) rfl rfl rfl hf1 ?_
        refine jv_iastore (pc' := 14) (n := 8) (e := ((i : Nat) : Int)) (v := (iI x)) rfl rfl rfl rfl rfl (by omega) ?_
        refine jv_iinc (pc' := 17) (k := 2) (a := ((i : Nat) : Int)) rfl rfl hf2 rfl (Or.inr (congrArg jm_lng hf1)) ?_
        refine jx_step (pc' := 5) rfl ?_
        exact ih (i + 1) (jm_u I1 81 (((i : Nat) : Int) : Int).toNat (iI x)) (by omega) (by omega) (fr_t hf (fr_u rfl (fr_r _))) (fun k hk => by
              by_cases e : k = i
              · subst e; exact jm_u_eq ⟨rfl, by omega⟩
              · exact (jm_u_n2 (by omega)).trans (hr k (by omega))) _ hf0 hf1 rfl hf3 
  exact H1 _ 0 I (Nat.lt_succ_self _) (by omega) (fr_r _) (fun k hk => absurd hk (by omega)) _ rfl rfl rfl rfl 
theorem cl_fill_100 {x : Int} : jc L xs d 189 [.ref 100, .int (iI x)] (jx_G j I M p) (fun v g1 => ∃ I', g1 = jx_G j I' M p ∧ v = none ∧ (∀ k, k < 12 → I' 100 k = iI x) ∧ fr (fun l _ => l = 100) I I') := by
  unfold jc
  refine jv_iconst (pc' := 1) (n := 0) rfl rfl ?_
  refine jv_istore_n (pc' := 2) (k := 2) (x := (iI 0)) rfl rfl rfl rfl (Or.inr rfl) ?_
  refine jv_aload_n (pc' := 3) (k := 0) (x := 100) rfl rfl rfl rfl ?_
  refine jv_int (pc' := 4) (y := iI 12) rfl rfl ?_
  refine jv_istore_n (pc' := 5) (k := 3) (x := (iI 12)) rfl rfl rfl rfl (Or.inr rfl) ?_
  have H1 : ∀ (N : Nat) (i : Nat) (I1 : Nat → Nat → Int32), 12 - i < N → (i ≤ 12) → (fr (fun l _ => l = 100) I I1) → (∀ k, k < i → I1 100 k = iI x) → ∀ f : jm_F, f 0 = some (.ref 100) → f 1 = some (.int (iI x)) → f 2 = some (.int (iI ((i : Nat) : Int))) → f 3 = some (.int (iI 12)) → jx L xs (d) 189 5 f [] (jx_G j I1 M p) (fun z => ∃ v g1, z = (.inl v, g1) ∧ (fun v g1 => ∃ I', g1 = jx_G j I' M p ∧ v = none ∧ (∀ k, k < 12 → I' 100 k = iI x) ∧ fr (fun l _ => l = 100) I I') v g1) := by
    intro N
    induction N with
    | zero => intro i I1 hN; exact absurd hN (Nat.not_lt_zero _)
    | succ N ih =>
      intro i I1 hN hi hf hr f hf0 hf1 hf2 hf3 
      refine jv_iload_n (pc' := 6) (k := 2) (x := (iI ((i : Nat) : Int))) rfl rfl rfl hf2 ?_
      refine jv_iload_n (pc' := 7) (k := 3) (x := (iI 12)) rfl rfl rfl hf3 ?_
      refine jv_ic_ge (t := 20) (pc' := 10) (a := ((i : Nat) : Int)) (b := 12) rfl rfl rfl (by omega) (fun h2 => ?_) (fun h2 => ?_)
      · skip
        refine jv_retV rfl rfl ⟨_, _, rfl, ?_⟩
        exact ⟨_, rfl, rfl, fun k hk => hr k (by omega), hf⟩
      · skip
        refine jv_aload_n (pc' := 11) (k := 0) (x := 100) rfl rfl rfl hf0 ?_
        refine jv_iload_n (pc' := 12) (k := 2) (x := (iI ((i : Nat) : Int))) rfl rfl rfl hf2 ?_
        refine jv_iload_n (pc' := 13) (k := 1) (x := (iI x)) rfl rfl rfl hf1 ?_
        refine jv_iastore (pc' := 14) (n := 12) (e := ((i : Nat) : Int)) (v := (iI x)) rfl rfl rfl rfl rfl (by omega) ?_
        refine jv_iinc (pc' := 17) (k := 2) (a := ((i : Nat) : Int)) rfl rfl hf2 rfl (Or.inr (congrArg jm_lng hf1)) ?_
        refine jx_step (pc' := 5) rfl ?_
        exact ih (i + 1) (jm_u I1 100 (((i : Nat) : Int) : Int).toNat (iI x)) (by omega) (by omega) (fr_t hf (fr_u rfl (fr_r _))) (fun k hk => by
              by_cases e : k = i
              · subst e; exact jm_u_eq ⟨rfl, by omega⟩
              · exact (jm_u_n2 (by omega)).trans (hr k (by omega))) _ hf0 hf1 rfl hf3 
  exact H1 _ 0 I (Nat.lt_succ_self _) (by omega) (fr_r _) (fun k hk => absurd hk (by omega)) _ rfl rfl rfl rfl 
theorem cl_fill_102 {x : Int} : jc L xs d 189 [.ref 102, .int (iI x)] (jx_G j I M p) (fun v g1 => ∃ I', g1 = jx_G j I' M p ∧ v = none ∧ (∀ k, k < 64 → I' 102 k = iI x) ∧ fr (fun l _ => l = 102) I I') := by
  unfold jc
  refine jv_iconst (pc' := 1) (n := 0) rfl rfl ?_
  refine jv_istore_n (pc' := 2) (k := 2) (x := (iI 0)) rfl rfl rfl rfl (Or.inr rfl) ?_
  refine jv_aload_n (pc' := 3) (k := 0) (x := 102) rfl rfl rfl rfl ?_
  refine jv_int (pc' := 4) (y := iI 64) rfl rfl ?_
  refine jv_istore_n (pc' := 5) (k := 3) (x := (iI 64)) rfl rfl rfl rfl (Or.inr rfl) ?_
  have H1 : ∀ (N : Nat) (i : Nat) (I1 : Nat → Nat → Int32), 64 - i < N → (i ≤ 64) → (fr (fun l _ => l = 102) I I1) → (∀ k, k < i → I1 102 k = iI x) → ∀ f : jm_F, f 0 = some (.ref 102) → f 1 = some (.int (iI x)) → f 2 = some (.int (iI ((i : Nat) : Int))) → f 3 = some (.int (iI 64)) → jx L xs (d) 189 5 f [] (jx_G j I1 M p) (fun z => ∃ v g1, z = (.inl v, g1) ∧ (fun v g1 => ∃ I', g1 = jx_G j I' M p ∧ v = none ∧ (∀ k, k < 64 → I' 102 k = iI x) ∧ fr (fun l _ => l = 102) I I') v g1) := by
    intro N
    induction N with
    | zero => intro i I1 hN; exact absurd hN (Nat.not_lt_zero _)
    | succ N ih =>
      intro i I1 hN hi hf hr f hf0 hf1 hf2 hf3 
      refine jv_iload_n (pc' := 6) (k := 2) (x := (iI ((i : Nat) : Int))) rfl rfl rfl hf2 ?_
      refine jv_iload_n (pc' := 7) (k := 3) (x := (iI 64)) rfl rfl rfl hf3 ?_
      refine jv_ic_ge (t := 20) (pc' := 10) (a := ((i : Nat) : Int)) (b := 64) rfl rfl rfl (by omega) (fun h2 => ?_) (fun h2 => ?_)
      · skip
        refine jv_retV rfl rfl ⟨_, _, rfl, ?_⟩
        exact ⟨_, rfl, rfl, fun k hk => hr k (by omega), hf⟩
      · skip
        refine jv_aload_n (pc' := 11) (k := 0) (x := 102) rfl rfl rfl hf0 ?_
        refine jv_iload_n (pc' := 12) (k := 2) (x := (iI ((i : Nat) : Int))) rfl rfl rfl hf2 ?_
        refine jv_iload_n (pc' := 13) (k := 1) (x := (iI x)) rfl rfl rfl hf1 ?_
        refine jv_iastore (pc' := 14) (n := 64) (e := ((i : Nat) : Int)) (v := (iI x)) rfl rfl rfl rfl rfl (by omega) ?_
        refine jv_iinc (pc' := 17) (k := 2) (a := ((i : Nat) : Int)) rfl rfl hf2 rfl (Or.inr (congrArg jm_lng hf1)) ?_
        refine jx_step (pc' := 5) rfl ?_
        exact ih (i + 1) (jm_u I1 102 (((i : Nat) : Int) : Int).toNat (iI x)) (by omega) (by omega) (fr_t hf (fr_u rfl (fr_r _))) (fun k hk => by
              by_cases e : k = i
              · subst e; exact jm_u_eq ⟨rfl, by omega⟩
              · exact (jm_u_n2 (by omega)).trans (hr k (by omega))) _ hf0 hf1 rfl hf3 
  exact H1 _ 0 I (Nat.lt_succ_self _) (by omega) (fr_r _) (fun k hk => absurd hk (by omega)) _ rfl rfl rfl rfl 
theorem cl_start_11 {t : Nat} : jc L xs d 49 [.ref 11, .ref t] (jx_G j I M p) (fun v g1 => v = none ∧ g1 = jx_G j (jm_u I 11 1 (iI 0)) M (fun q => if q = 19 then some t else p q)) := by
  unfold jc
  refine jv_aload_n (pc' := 1) (k := 0) (x := 11) rfl rfl rfl rfl ?_
  refine jv_aload_n (pc' := 2) (k := 1) (x := t) rfl rfl rfl rfl ?_
  refine jv_putR (pc' := 5) (c := 4) (k := 0) (i := 19) rfl rfl rfl rfl (fun _ _ _ => rfl) rfl rfl rfl ?_
  refine jv_aload_n (pc' := 6) (k := 0) (x := 11) rfl rfl rfl rfl ?_
  refine jv_iconst (pc' := 7) (n := 0) rfl rfl ?_
  refine jv_putI (pc' := 10) (c := 4) (k := 1) rfl rfl rfl rfl (fun _ _ _  => rfl) rfl rfl ?_
  refine jv_retV rfl rfl ⟨_, _, rfl, ?_⟩
  exact ⟨rfl, rfl⟩
theorem cl_start_96 {t : Nat} : jc L xs d 49 [.ref 96, .ref t] (jx_G j I M p) (fun v g1 => v = none ∧ g1 = jx_G j (jm_u I 96 1 (iI 0)) M (fun q => if q = 21 then some t else p q)) := by
  unfold jc
  refine jv_aload_n (pc' := 1) (k := 0) (x := 96) rfl rfl rfl rfl ?_
  refine jv_aload_n (pc' := 2) (k := 1) (x := t) rfl rfl rfl rfl ?_
  refine jv_putR (pc' := 5) (c := 4) (k := 0) (i := 21) rfl rfl rfl rfl (fun _ _ _ => rfl) rfl rfl rfl ?_
  refine jv_aload_n (pc' := 6) (k := 0) (x := 96) rfl rfl rfl rfl ?_
  refine jv_iconst (pc' := 7) (n := 0) rfl rfl ?_
  refine jv_putI (pc' := 10) (c := 4) (k := 1) rfl rfl rfl rfl (fun _ _ _  => rfl) rfl rfl ?_
  refine jv_retV rfl rfl ⟨_, _, rfl, ?_⟩
  exact ⟨rfl, rfl⟩
end UT
