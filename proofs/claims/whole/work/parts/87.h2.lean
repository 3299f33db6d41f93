/-! printed by wip/whole/gen/h2.py: operations: limit, root; the helpers of the law -/
section H2
variable {L : Nat} {xs : Nat → Int32} {d j : Nat} {I : Nat → Nat → Int32} {M : Nat → Nat → Int64} {p : Nat → Option Nat}
variable {A : AB} {x y : Int}
theorem op_limit_t (hx : iR x) (hbad : ¬ (1 ≤ x ∧ x ≤ 64)) : jt L xs (d + 1) 9 [.ref 0, .int (iI x)] (jx_G j I M p) 50 (fun g1 => g1 = jx_G (j + 1) I M p) := by
  unfold jt
  refine jv_iload_n (pc' := 1) (k := 1) (x := (iI x)) rfl rfl rfl rfl ?_
  refine jv_iconst (pc' := 2) (n := 1) rfl rfl ?_
  refine jv_ic_lt (t := 11) (pc' := 5) (a := x) (b := 1) rfl rfl rfl (by omega) (fun hz_1 => ?_) (fun hz_1 => ?_)
  · skip
    refine jx_ret0 rfl ⟨_, rfl, ?_⟩
    first
    | (exfalso; omega)
    | rfl
  · skip
    refine jv_iload_n (pc' := 6) (k := 1) (x := (iI x)) rfl rfl rfl rfl ?_
    refine jv_bipush (pc' := 8) (n := 64) rfl rfl rfl ?_
    refine jv_ic_le (t := 19) (pc' := 11) (a := x) (b := 64) rfl rfl rfl (by omega) (fun hz_2 => ?_) (fun hz_2 => ?_)
    · skip
      exfalso; omega
    · skip
      refine jx_ret0 rfl ⟨_, rfl, ?_⟩
      first
      | (exfalso; omega)
      | rfl
theorem op_limit_c (hR : CR I M p A) (hok : 1 ≤ x ∧ x ≤ 64) : jc L xs (d + 3) 9 [.ref 0, .int (iI x)] (jx_G j I M p) (fun v g1 => ∃ I', g1 = jx_G j I' M p ∧ fr cW I I' ∧ v = none ∧ CR I' M p (jm_u (jm_u A 103 11 x) 103 44 0)) := by
  unfold jc
  refine jv_iload_n (pc' := 1) (k := 1) (x := (iI x)) rfl rfl rfl rfl ?_
  refine jv_iconst (pc' := 2) (n := 1) rfl rfl ?_
  refine jv_ic_lt (t := 11) (pc' := 5) (a := x) (b := 1) rfl rfl rfl (by omega) (fun hz_1 => ?_) (fun hz_1 => ?_)
  · skip
    exfalso; omega
  · skip
    refine jv_iload_n (pc' := 6) (k := 1) (x := (iI x)) rfl rfl rfl rfl ?_
    refine jv_bipush (pc' := 8) (n := 64) rfl rfl rfl ?_
    refine jv_ic_le (t := 19) (pc' := 11) (a := x) (b := 64) rfl rfl rfl (by omega) (fun hz_2 => ?_) (fun hz_2 => ?_)
    · skip
      refine jv_aload_n (pc' := 20) (k := 0) (x := 0) rfl rfl rfl rfl ?_
      refine jv_iload_n (pc' := 21) (k := 1) (x := (iI x)) rfl rfl rfl rfl ?_
      refine jv_putI (pc' := 24) (c := 0) (k := 11) rfl rfl rfl rfl (fun _ _ _  => rfl) rfl rfl ?_
      refine jv_aload_n (pc' := 25) (k := 0) (x := 0) rfl rfl rfl rfl ?_
      refine jv_call (pc' := 28) rfl (cl_forget (I := jm_u I 0 11 (iI x))) (fun vq3 gq3 q3 => ?_)
      obtain ⟨Iq3, rfl, rfl, aq3, bq3, rq3, zq3⟩ := q3
      show jx L xs _ 9 28 _ [] _ _
      refine jv_retV rfl rfl ⟨_, _, rfl, ?_⟩
      first
      | (exfalso; omega)
      | (have hv := hR.1
         have h6 := hR.2.2.2.2.1
         exact ⟨_, rfl, (fr_t (fr_u (by simp [cW]) (fr_r _)) (fr_w rq3 (fun l k h => by unfold wG at h; unfold cW; omega))), rfl, CR_fg hR (fr_t (fr_u (by simp [wG2]) (fr_r _)) (fr_w rq3 (fun l k h => Or.inl h))) ⟨(rq3 0 10 (by simp [wG])).trans h6.1, (rq3 0 11 (by simp [wG])).trans rfl, fun i hi => (rq3 12 i (by simp [wG])).trans (h6.2.2 i hi)⟩ ⟨hv.1, hv.2.1, hv.2.2.1, hv.2.2.2.1, ⟨hv.2.2.2.2.1, hok, hv.2.2.2.2.2.2⟩⟩ aq3 bq3 zq3 rfl (fun z => z) (fun _ _ z => z) (fun _ z => z) (fun z => z) (fun z => z) (fun z => z)⟩)
    · skip
      exfalso; omega
theorem ml_changed  : jc L xs d 111 [.ref 103] (jx_G j I M p) (fun v g1 => v = none ∧ g1 = jx_G j (jm_u I 103 44 (iI 0)) M p) := by
  unfold jc
  refine jv_aload_n (pc' := 1) (k := 0) (x := 103) rfl rfl rfl rfl ?_
  refine jv_iconst (pc' := 2) (n := 0) rfl rfl ?_
  refine jv_putI (pc' := 5) (c := 12) (k := 44) rfl rfl rfl rfl (fun _ _ _  => rfl) rfl rfl ?_
  refine jv_retV rfl rfl ⟨_, _, rfl, ?_⟩
  exact ⟨rfl, rfl⟩
theorem ml_noLayer {g : jm_H} (hx : iR x) : jc L xs d 110 [.int (iI x)] g (fun v g1 => v = some (.int (jb (x < 0 ∨ 3 < x))) ∧ g1 = g) := by
  unfold jc
  refine jv_iload_n (pc' := 1) (k := 0) (x := (iI x)) rfl rfl rfl rfl ?_
  refine jv_if_lt (t := 9) (pc' := 4) (a := x) rfl rfl rfl (by omega) (fun h1 => ?_) (fun h1 => ?_)
  · skip
    refine jv_iconst (pc' := 10) (n := 1) rfl rfl ?_
    refine jx_step (pc' := 14) rfl ?_
    refine jv_retZ rfl rfl (by first | exact Or.inl rfl | exact Or.inr rfl) ⟨_, _, rfl, ?_⟩
    exact ⟨jq_t (by omega), rfl⟩
  · skip
    refine jv_iload_n (pc' := 5) (k := 0) (x := (iI x)) rfl rfl rfl rfl ?_
    refine jv_iconst (pc' := 6) (n := 3) rfl rfl ?_
    refine jv_ic_le (t := 13) (pc' := 9) (a := x) (b := 3) rfl rfl rfl (by omega) (fun h2 => ?_) (fun h2 => ?_)
    · skip
      refine jv_iconst (pc' := 14) (n := 0) rfl rfl ?_
      refine jv_retZ rfl rfl (by first | exact Or.inl rfl | exact Or.inr rfl) ⟨_, _, rfl, ?_⟩
      exact ⟨jq_f (by omega), rfl⟩
    · skip
      refine jv_iconst (pc' := 10) (n := 1) rfl rfl ?_
      refine jx_step (pc' := 14) rfl ?_
      refine jv_retZ rfl rfl (by first | exact Or.inl rfl | exact Or.inr rfl) ⟨_, _, rfl, ?_⟩
      exact ⟨jq_t (by omega), rfl⟩
theorem op_limit_m (hM : CM I M A) (hok : 1 ≤ x ∧ x ≤ 64) : jc L xs (d + 1) 135 [.ref 103, .int (iI x)] (jx_G j I M p) (fun v g1 => ∃ I', g1 = jx_G j I' M p ∧ fr mW I I' ∧ v = none ∧ CM I' M (jm_u (jm_u A 103 11 x) 103 44 0) ∧ I' 103 0 = iI 0) := by
  unfold jc
  refine jv_aload_n (pc' := 1) (k := 0) (x := 103) rfl rfl rfl rfl ?_
  refine jv_iload_n (pc' := 2) (k := 1) (x := (iI x)) rfl rfl rfl rfl ?_
  refine jv_iconst (pc' := 3) (n := 1) rfl rfl ?_
  refine jv_ic_lt (t := 12) (pc' := 6) (a := x) (b := 1) rfl rfl rfl (by omega) (fun hz_1 => ?_) (fun hz_1 => ?_)
  · skip
    refine jv_iconst (pc' := 13) (n := 1) rfl rfl ?_
    refine jx_step (pc' := 17) rfl ?_
    refine jv_putI (pc' := 20) (c := 12) (k := 0) rfl rfl rfl rfl (fun _ _ _  => rfl) rfl rfl ?_
    refine jv_aload_n (pc' := 21) (k := 0) (x := 103) rfl rfl rfl rfl ?_
    refine jv_getI (pc' := 24) (c := 12) (k := 0) (v := (iI 1)) rfl rfl rfl (fun _ _ => rfl) rfl rfl rfl ?_
    refine jv_if_ne (t := 36) (pc' := 27) (a := 1) rfl rfl rfl (by omega) (fun hz_2 => ?_) (fun hz_2 => ?_)
    · skip
      refine jv_retV rfl rfl ⟨_, _, rfl, ?_⟩
      first
      | (exfalso; omega)
      | exact ⟨_, rfl, (fr_u (by simp [mW]) (fr_r _)), rfl, CM_u (CM_u (CM_n hM (by simp [pers])) (by omega)) (by omega), rfl⟩
    · skip
      exact absurd hz_2 (by decide)
  · skip
    refine jv_iload_n (pc' := 7) (k := 1) (x := (iI x)) rfl rfl rfl rfl ?_
    refine jv_bipush (pc' := 9) (n := 64) rfl rfl rfl ?_
    refine jv_ic_le (t := 16) (pc' := 12) (a := x) (b := 64) rfl rfl rfl (by omega) (fun hz_3 => ?_) (fun hz_3 => ?_)
    · skip
      refine jv_iconst (pc' := 17) (n := 0) rfl rfl ?_
      refine jv_putI (pc' := 20) (c := 12) (k := 0) rfl rfl rfl rfl (fun _ _ _  => rfl) rfl rfl ?_
      refine jv_aload_n (pc' := 21) (k := 0) (x := 103) rfl rfl rfl rfl ?_
      refine jv_getI (pc' := 24) (c := 12) (k := 0) (v := (iI 0)) rfl rfl rfl (fun _ _ => rfl) rfl rfl rfl ?_
      refine jv_if_ne (t := 36) (pc' := 27) (a := 0) rfl rfl rfl (by omega) (fun hz_4 => ?_) (fun hz_4 => ?_)
      · skip
        exact absurd hz_4 (by decide)
      · skip
        refine jv_aload_n (pc' := 28) (k := 0) (x := 103) rfl rfl rfl rfl ?_
        refine jv_iload_n (pc' := 29) (k := 1) (x := (iI x)) rfl rfl rfl rfl ?_
        refine jv_putI (pc' := 32) (c := 12) (k := 11) rfl rfl rfl rfl (fun _ _ _  => rfl) rfl rfl ?_
        refine jv_aload_n (pc' := 33) (k := 0) (x := 103) rfl rfl rfl rfl ?_
        refine jv_call (pc' := 36) rfl (ml_changed (I := jm_u (jm_u I 103 0 (iI 0)) 103 11 (iI x))) (fun vq5 gq5 q5 => ?_)
        obtain ⟨rfl, rfl⟩ := q5
        show jx L xs _ 135 36 _ [] _ _
        refine jv_retV rfl rfl ⟨_, _, rfl, ?_⟩
        first
        | (exfalso; omega)
        | exact ⟨_, rfl, (fr_u (by simp [mW]) (fr_u (by simp [mW]) (fr_u (by simp [mW]) (fr_r _)))), rfl, CM_u (CM_u (CM_n hM (by simp [pers])) (by omega)) (by omega), rfl⟩
    · skip
      refine jv_iconst (pc' := 13) (n := 1) rfl rfl ?_
      refine jx_step (pc' := 17) rfl ?_
      refine jv_putI (pc' := 20) (c := 12) (k := 0) rfl rfl rfl rfl (fun _ _ _  => rfl) rfl rfl ?_
      refine jv_aload_n (pc' := 21) (k := 0) (x := 103) rfl rfl rfl rfl ?_
      refine jv_getI (pc' := 24) (c := 12) (k := 0) (v := (iI 1)) rfl rfl rfl (fun _ _ => rfl) rfl rfl rfl ?_
      refine jv_if_ne (t := 36) (pc' := 27) (a := 1) rfl rfl rfl (by omega) (fun hz_6 => ?_) (fun hz_6 => ?_)
      · skip
        refine jv_retV rfl rfl ⟨_, _, rfl, ?_⟩
        first
        | (exfalso; omega)
        | exact ⟨_, rfl, (fr_u (by simp [mW]) (fr_r _)), rfl, CM_u (CM_u (CM_n hM (by simp [pers])) (by omega)) (by omega), rfl⟩
      · skip
        exact absurd hz_6 (by decide)
theorem op_limit_b (hx : iR x) (hM : CM I M A) (hbad : ¬ (1 ≤ x ∧ x ≤ 64)) : jc L xs (d + 1) 135 [.ref 103, .int (iI x)] (jx_G j I M p) (fun v g1 => ∃ I', g1 = jx_G j I' M p ∧ fr mW I I' ∧ v = none ∧ CM I' M A ∧ I' 103 0 = iI 1) := by
  unfold jc
  refine jv_aload_n (pc' := 1) (k := 0) (x := 103) rfl rfl rfl rfl ?_
  refine jv_iload_n (pc' := 2) (k := 1) (x := (iI x)) rfl rfl rfl rfl ?_
  refine jv_iconst (pc' := 3) (n := 1) rfl rfl ?_
  refine jv_ic_lt (t := 12) (pc' := 6) (a := x) (b := 1) rfl rfl rfl (by omega) (fun hz_1 => ?_) (fun hz_1 => ?_)
  · skip
    refine jv_iconst (pc' := 13) (n := 1) rfl rfl ?_
    refine jx_step (pc' := 17) rfl ?_
    refine jv_putI (pc' := 20) (c := 12) (k := 0) rfl rfl rfl rfl (fun _ _ _  => rfl) rfl rfl ?_
    refine jv_aload_n (pc' := 21) (k := 0) (x := 103) rfl rfl rfl rfl ?_
    refine jv_getI (pc' := 24) (c := 12) (k := 0) (v := (iI 1)) rfl rfl rfl (fun _ _ => rfl) rfl rfl rfl ?_
    refine jv_if_ne (t := 36) (pc' := 27) (a := 1) rfl rfl rfl (by omega) (fun hz_2 => ?_) (fun hz_2 => ?_)
    · skip
      refine jv_retV rfl rfl ⟨_, _, rfl, ?_⟩
      first
      | (exfalso; omega)
      | exact ⟨_, rfl, (fr_u (by simp [mW]) (fr_r _)), rfl, CM_n hM (by simp [pers]), rfl⟩
    · skip
      exact absurd hz_2 (by decide)
  · skip
    refine jv_iload_n (pc' := 7) (k := 1) (x := (iI x)) rfl rfl rfl rfl ?_
    refine jv_bipush (pc' := 9) (n := 64) rfl rfl rfl ?_
    refine jv_ic_le (t := 16) (pc' := 12) (a := x) (b := 64) rfl rfl rfl (by omega) (fun hz_3 => ?_) (fun hz_3 => ?_)
    · skip
      refine jv_iconst (pc' := 17) (n := 0) rfl rfl ?_
      refine jv_putI (pc' := 20) (c := 12) (k := 0) rfl rfl rfl rfl (fun _ _ _  => rfl) rfl rfl ?_
      refine jv_aload_n (pc' := 21) (k := 0) (x := 103) rfl rfl rfl rfl ?_
      refine jv_getI (pc' := 24) (c := 12) (k := 0) (v := (iI 0)) rfl rfl rfl (fun _ _ => rfl) rfl rfl rfl ?_
      refine jv_if_ne (t := 36) (pc' := 27) (a := 0) rfl rfl rfl (by omega) (fun hz_4 => ?_) (fun hz_4 => ?_)
      · skip
        exact absurd hz_4 (by decide)
      · skip
        refine jv_aload_n (pc' := 28) (k := 0) (x := 103) rfl rfl rfl rfl ?_
        refine jv_iload_n (pc' := 29) (k := 1) (x := (iI x)) rfl rfl rfl rfl ?_
        refine jv_putI (pc' := 32) (c := 12) (k := 11) rfl rfl rfl rfl (fun _ _ _  => rfl) rfl rfl ?_
        refine jv_aload_n (pc' := 33) (k := 0) (x := 103) rfl rfl rfl rfl ?_
        refine jv_call (pc' := 36) rfl (ml_changed (I := jm_u (jm_u I 103 0 (iI 0)) 103 11 (iI x))) (fun vq5 gq5 q5 => ?_)
        obtain ⟨rfl, rfl⟩ := q5
        show jx L xs _ 135 36 _ [] _ _
        refine jv_retV rfl rfl ⟨_, _, rfl, ?_⟩
        first
        | (exfalso; omega)
        | exact ⟨_, rfl, (fr_u (by simp [mW]) (fr_u (by simp [mW]) (fr_u (by simp [mW]) (fr_r _)))), rfl, CM_n hM (by simp [pers]), rfl⟩
    · skip
      refine jv_iconst (pc' := 13) (n := 1) rfl rfl ?_
      refine jx_step (pc' := 17) rfl ?_
      refine jv_putI (pc' := 20) (c := 12) (k := 0) rfl rfl rfl rfl (fun _ _ _  => rfl) rfl rfl ?_
      refine jv_aload_n (pc' := 21) (k := 0) (x := 103) rfl rfl rfl rfl ?_
      refine jv_getI (pc' := 24) (c := 12) (k := 0) (v := (iI 1)) rfl rfl rfl (fun _ _ => rfl) rfl rfl rfl ?_
      refine jv_if_ne (t := 36) (pc' := 27) (a := 1) rfl rfl rfl (by omega) (fun hz_6 => ?_) (fun hz_6 => ?_)
      · skip
        refine jv_retV rfl rfl ⟨_, _, rfl, ?_⟩
        first
        | (exfalso; omega)
        | exact ⟨_, rfl, (fr_u (by simp [mW]) (fr_r _)), rfl, CM_n hM (by simp [pers]), rfl⟩
      · skip
        exact absurd hz_6 (by decide)
theorem op_root_t (hx : iR x) (hy : iR y) (hbad : ¬ ((0 ≤ x ∧ x < 2) ∧ (-1 ≤ y ∧ y < 4))) : jt L xs (d + 2) 5 [.ref 0, .int (iI x), .int (iI y)] (jx_G j I M p) 50 (fun g1 => g1 = jx_G (j + 1) I M p) := by
  unfold jt
  refine jv_iload_n (pc' := 1) (k := 1) (x := (iI x)) rfl rfl rfl rfl ?_
  refine jv_call (pc' := 4) rfl (cl_isLink (by omega)) (fun vq1 gq1 q1 => ?_)
  obtain ⟨rfl, rfl⟩ := q1
  show jx L xs _ 5 4 _ [.int (jb (0 ≤ x ∧ x < 2))] _ _
  refine jv_jb_eq (t := 14) (pc' := 7) (P := 0 ≤ x ∧ x < 2) rfl rfl rfl (fun hz_2 => ?_) (fun hz_2 => ?_)
  · skip
    refine jx_ret0 rfl ⟨_, rfl, ?_⟩
    first
    | (exfalso; omega)
    | rfl
  · skip
    refine jv_iload_n (pc' := 8) (k := 2) (x := (iI y)) rfl rfl rfl rfl ?_
    refine jv_call (pc' := 11) rfl (cl_isLayerOrNone (by omega)) (fun vq3 gq3 q3 => ?_)
    obtain ⟨rfl, rfl⟩ := q3
    show jx L xs _ 5 11 _ [.int (jb (-1 ≤ y ∧ y < 4))] _ _
    refine jv_jb_ne (t := 22) (pc' := 14) (P := -1 ≤ y ∧ y < 4) rfl rfl rfl (fun hz_4 => ?_) (fun hz_4 => ?_)
    · skip
      exfalso; omega
    · skip
      refine jx_ret0 rfl ⟨_, rfl, ?_⟩
      first
      | (exfalso; omega)
      | rfl
theorem op_root_c (hR : CR I M p A) (hok : (0 ≤ x ∧ x < 2) ∧ (-1 ≤ y ∧ y < 4)) : jc L xs (d + 3) 5 [.ref 0, .int (iI x), .int (iI y)] (jx_G j I M p) (fun v g1 => ∃ I', g1 = jx_G j I' M p ∧ fr cW I I' ∧ v = none ∧ CR I' M p (jm_u (jm_u A 109 x.toNat y) 103 44 0)) := by
  unfold jc
  refine jv_iload_n (pc' := 1) (k := 1) (x := (iI x)) rfl rfl rfl rfl ?_
  refine jv_call (pc' := 4) rfl (cl_isLink (by omega)) (fun vq1 gq1 q1 => ?_)
  obtain ⟨rfl, rfl⟩ := q1
  show jx L xs _ 5 4 _ [.int (jb (0 ≤ x ∧ x < 2))] _ _
  refine jv_jb_eq (t := 14) (pc' := 7) (P := 0 ≤ x ∧ x < 2) rfl rfl rfl (fun hz_2 => ?_) (fun hz_2 => ?_)
  · skip
    exfalso; omega
  · skip
    refine jv_iload_n (pc' := 8) (k := 2) (x := (iI y)) rfl rfl rfl rfl ?_
    refine jv_call (pc' := 11) rfl (cl_isLayerOrNone (by omega)) (fun vq3 gq3 q3 => ?_)
    obtain ⟨rfl, rfl⟩ := q3
    show jx L xs _ 5 11 _ [.int (jb (-1 ≤ y ∧ y < 4))] _ _
    refine jv_jb_ne (t := 22) (pc' := 14) (P := -1 ≤ y ∧ y < 4) rfl rfl rfl (fun hz_4 => ?_) (fun hz_4 => ?_)
    · skip
      refine jv_aload_n (pc' := 23) (k := 0) (x := 0) rfl rfl rfl rfl ?_
      refine jv_getR (pc' := 26) (c := 0) (k := 2) (v := 12) rfl rfl rfl (fun _ _ => rfl) rfl rfl (jR_0_2 _) ?_
      refine jv_iload_n (pc' := 27) (k := 1) (x := (iI x)) rfl rfl rfl rfl ?_
      refine jv_iload_n (pc' := 28) (k := 2) (x := (iI y)) rfl rfl rfl rfl ?_
      refine jv_iastore (pc' := 29) (n := 2) (e := x) (v := (iI y)) rfl rfl rfl rfl rfl (by omega) ?_
      refine jv_aload_n (pc' := 30) (k := 0) (x := 0) rfl rfl rfl rfl ?_
      refine jv_call (pc' := 33) rfl (cl_forget (I := jm_u I 12 (x : Int).toNat (iI y))) (fun vq5 gq5 q5 => ?_)
      obtain ⟨Iq5, rfl, rfl, aq5, bq5, rq5, zq5⟩ := q5
      show jx L xs _ 5 33 _ [] _ _
      refine jv_retV rfl rfl ⟨_, _, rfl, ?_⟩
      first
      | (exfalso; omega)
      | (have hv := hR.1
         have h6 := hR.2.2.2.2.1
         exact ⟨_, rfl, (fr_t (fr_u (by simp [cW]) (fr_r _)) (fr_w rq5 (fun l k h => by unfold wG at h; unfold cW; omega))), rfl, CR_fg hR (fr_t (fr_u (by simp [wG2]) (fr_r _)) (fr_w rq5 (fun l k h => Or.inl h))) ⟨(rq5 0 10 (by simp [wG])).trans h6.1, (rq5 0 11 (by simp [wG])).trans h6.2.1, fun i hi => (rq5 12 i (by simp [wG])).trans (by
           show jm_u I 12 x.toNat (iI y) 12 i = iI (jm_u A 109 x.toNat y 109 i)
           by_cases e : i = x.toNat
           · rw [jm_u_eq ⟨rfl, e⟩, jm_u_eq ⟨rfl, e⟩]
           · rw [jm_u_n2 (by omega), jm_u_n2 (by omega)]; exact h6.2.2 i hi)⟩ ⟨hv.1, hv.2.1, hv.2.2.1, hv.2.2.2.1, ⟨fun i hi => (by
           show -1 ≤ jm_u A 109 x.toNat y 109 i ∧ jm_u A 109 x.toNat y 109 i < 4
           by_cases e : i = x.toNat
           · rw [jm_u_eq ⟨rfl, e⟩]; omega
           · rw [jm_u_n2 (by omega)]; exact hv.2.2.2.2.1 i hi), hv.2.2.2.2.2⟩⟩ aq5 bq5 zq5 rfl (fun z => z) (fun _ _ z => z) (fun _ z => z) (fun z => z) (fun z => z) (fun z => z)⟩)
    · skip
      exfalso; omega
theorem op_root_m (hM : CM I M A) (hok : (0 ≤ x ∧ x < 2) ∧ (-1 ≤ y ∧ y < 4)) : jc L xs (d + 1) 128 [.ref 103, .int (iI x), .int (iI y)] (jx_G j I M p) (fun v g1 => ∃ I', g1 = jx_G j I' M p ∧ fr mW I I' ∧ v = none ∧ CM I' M (jm_u (jm_u A 109 x.toNat y) 103 44 0) ∧ I' 103 0 = iI 0) := by
  unfold jc
  refine jv_aload_n (pc' := 1) (k := 0) (x := 103) rfl rfl rfl rfl ?_
  refine jv_iload_n (pc' := 2) (k := 1) (x := (iI x)) rfl rfl rfl rfl ?_
  refine jv_if_lt (t := 20) (pc' := 5) (a := x) rfl rfl rfl (by omega) (fun hz_1 => ?_) (fun hz_1 => ?_)
  · skip
    refine jv_iconst (pc' := 21) (n := 1) rfl rfl ?_
    refine jx_step (pc' := 25) rfl ?_
    refine jv_putI (pc' := 28) (c := 12) (k := 0) rfl rfl rfl rfl (fun _ _ _  => rfl) rfl rfl ?_
    refine jv_aload_n (pc' := 29) (k := 0) (x := 103) rfl rfl rfl rfl ?_
    refine jv_getI (pc' := 32) (c := 12) (k := 0) (v := (iI 1)) rfl rfl rfl (fun _ _ => rfl) rfl rfl rfl ?_
    refine jv_if_ne (t := 46) (pc' := 35) (a := 1) rfl rfl rfl (by omega) (fun hz_2 => ?_) (fun hz_2 => ?_)
    · skip
      refine jv_retV rfl rfl ⟨_, _, rfl, ?_⟩
      first
      | (exfalso; omega)
      | exact ⟨_, rfl, (fr_u (by simp [mW]) (fr_r _)), rfl, CM_u (CM_u (CM_n hM (by simp [pers])) (by omega)) (by omega), rfl⟩
    · skip
      exact absurd hz_2 (by decide)
  · skip
    refine jv_iload_n (pc' := 6) (k := 1) (x := (iI x)) rfl rfl rfl rfl ?_
    refine jv_iconst (pc' := 7) (n := 1) rfl rfl ?_
    refine jv_ic_gt (t := 20) (pc' := 10) (a := x) (b := 1) rfl rfl rfl (by omega) (fun hz_3 => ?_) (fun hz_3 => ?_)
    · skip
      refine jv_iconst (pc' := 21) (n := 1) rfl rfl ?_
      refine jx_step (pc' := 25) rfl ?_
      refine jv_putI (pc' := 28) (c := 12) (k := 0) rfl rfl rfl rfl (fun _ _ _  => rfl) rfl rfl ?_
      refine jv_aload_n (pc' := 29) (k := 0) (x := 103) rfl rfl rfl rfl ?_
      refine jv_getI (pc' := 32) (c := 12) (k := 0) (v := (iI 1)) rfl rfl rfl (fun _ _ => rfl) rfl rfl rfl ?_
      refine jv_if_ne (t := 46) (pc' := 35) (a := 1) rfl rfl rfl (by omega) (fun hz_4 => ?_) (fun hz_4 => ?_)
      · skip
        refine jv_retV rfl rfl ⟨_, _, rfl, ?_⟩
        first
        | (exfalso; omega)
        | exact ⟨_, rfl, (fr_u (by simp [mW]) (fr_r _)), rfl, CM_u (CM_u (CM_n hM (by simp [pers])) (by omega)) (by omega), rfl⟩
      · skip
        exact absurd hz_4 (by decide)
    · skip
      refine jv_iload_n (pc' := 11) (k := 2) (x := (iI y)) rfl rfl rfl rfl ?_
      refine jv_iconst (pc' := 12) (n := -1) rfl rfl ?_
      refine jv_ic_lt (t := 20) (pc' := 15) (a := y) (b := (-1)) rfl rfl rfl (by omega) (fun hz_5 => ?_) (fun hz_5 => ?_)
      · skip
        refine jv_iconst (pc' := 21) (n := 1) rfl rfl ?_
        refine jx_step (pc' := 25) rfl ?_
        refine jv_putI (pc' := 28) (c := 12) (k := 0) rfl rfl rfl rfl (fun _ _ _  => rfl) rfl rfl ?_
        refine jv_aload_n (pc' := 29) (k := 0) (x := 103) rfl rfl rfl rfl ?_
        refine jv_getI (pc' := 32) (c := 12) (k := 0) (v := (iI 1)) rfl rfl rfl (fun _ _ => rfl) rfl rfl rfl ?_
        refine jv_if_ne (t := 46) (pc' := 35) (a := 1) rfl rfl rfl (by omega) (fun hz_6 => ?_) (fun hz_6 => ?_)
        · skip
          refine jv_retV rfl rfl ⟨_, _, rfl, ?_⟩
          first
          | (exfalso; omega)
          | exact ⟨_, rfl, (fr_u (by simp [mW]) (fr_r _)), rfl, CM_u (CM_u (CM_n hM (by simp [pers])) (by omega)) (by omega), rfl⟩
        · skip
          exact absurd hz_6 (by decide)
      · skip
        refine jv_iload_n (pc' := 16) (k := 2) (x := (iI y)) rfl rfl rfl rfl ?_
        refine jv_iconst (pc' := 17) (n := 3) rfl rfl ?_
        refine jv_ic_le (t := 24) (pc' := 20) (a := y) (b := 3) rfl rfl rfl (by omega) (fun hz_7 => ?_) (fun hz_7 => ?_)
        · skip
          refine jv_iconst (pc' := 25) (n := 0) rfl rfl ?_
          refine jv_putI (pc' := 28) (c := 12) (k := 0) rfl rfl rfl rfl (fun _ _ _  => rfl) rfl rfl ?_
          refine jv_aload_n (pc' := 29) (k := 0) (x := 103) rfl rfl rfl rfl ?_
          refine jv_getI (pc' := 32) (c := 12) (k := 0) (v := (iI 0)) rfl rfl rfl (fun _ _ => rfl) rfl rfl rfl ?_
          refine jv_if_ne (t := 46) (pc' := 35) (a := 0) rfl rfl rfl (by omega) (fun hz_8 => ?_) (fun hz_8 => ?_)
          · skip
            exact absurd hz_8 (by decide)
          · skip
            refine jv_aload_n (pc' := 36) (k := 0) (x := 103) rfl rfl rfl rfl ?_
            refine jv_getR (pc' := 39) (c := 12) (k := 7) (v := 109) rfl rfl rfl (fun _ _ => rfl) rfl rfl (jR_103_7 _) ?_
            refine jv_iload_n (pc' := 40) (k := 1) (x := (iI x)) rfl rfl rfl rfl ?_
            refine jv_iload_n (pc' := 41) (k := 2) (x := (iI y)) rfl rfl rfl rfl ?_
            refine jv_iastore (pc' := 42) (n := 2) (e := x) (v := (iI y)) rfl rfl rfl rfl rfl (by omega) ?_
            refine jv_aload_n (pc' := 43) (k := 0) (x := 103) rfl rfl rfl rfl ?_
            refine jv_call (pc' := 46) rfl (ml_changed (I := jm_u (jm_u I 103 0 (iI 0)) 109 (x : Int).toNat (iI y))) (fun vq9 gq9 q9 => ?_)
            obtain ⟨rfl, rfl⟩ := q9
            show jx L xs _ 128 46 _ [] _ _
            refine jv_retV rfl rfl ⟨_, _, rfl, ?_⟩
            first
            | (exfalso; omega)
            | exact ⟨_, rfl, (fr_u (by simp [mW]) (fr_u (by simp [mW]) (fr_u (by simp [mW]) (fr_r _)))), rfl, CM_u (CM_u (CM_n hM (by simp [pers])) (by omega)) (by omega), rfl⟩
        · skip
          refine jv_iconst (pc' := 21) (n := 1) rfl rfl ?_
          refine jx_step (pc' := 25) rfl ?_
          refine jv_putI (pc' := 28) (c := 12) (k := 0) rfl rfl rfl rfl (fun _ _ _  => rfl) rfl rfl ?_
          refine jv_aload_n (pc' := 29) (k := 0) (x := 103) rfl rfl rfl rfl ?_
          refine jv_getI (pc' := 32) (c := 12) (k := 0) (v := (iI 1)) rfl rfl rfl (fun _ _ => rfl) rfl rfl rfl ?_
          refine jv_if_ne (t := 46) (pc' := 35) (a := 1) rfl rfl rfl (by omega) (fun hz_10 => ?_) (fun hz_10 => ?_)
          · skip
            refine jv_retV rfl rfl ⟨_, _, rfl, ?_⟩
            first
            | (exfalso; omega)
            | exact ⟨_, rfl, (fr_u (by simp [mW]) (fr_r _)), rfl, CM_u (CM_u (CM_n hM (by simp [pers])) (by omega)) (by omega), rfl⟩
          · skip
            exact absurd hz_10 (by decide)
theorem op_root_b (hx : iR x) (hy : iR y) (hM : CM I M A) (hbad : ¬ ((0 ≤ x ∧ x < 2) ∧ (-1 ≤ y ∧ y < 4))) : jc L xs (d + 1) 128 [.ref 103, .int (iI x), .int (iI y)] (jx_G j I M p) (fun v g1 => ∃ I', g1 = jx_G j I' M p ∧ fr mW I I' ∧ v = none ∧ CM I' M A ∧ I' 103 0 = iI 1) := by
  unfold jc
  refine jv_aload_n (pc' := 1) (k := 0) (x := 103) rfl rfl rfl rfl ?_
  refine jv_iload_n (pc' := 2) (k := 1) (x := (iI x)) rfl rfl rfl rfl ?_
  refine jv_if_lt (t := 20) (pc' := 5) (a := x) rfl rfl rfl (by omega) (fun hz_1 => ?_) (fun hz_1 => ?_)
  · skip
    refine jv_iconst (pc' := 21) (n := 1) rfl rfl ?_
    refine jx_step (pc' := 25) rfl ?_
    refine jv_putI (pc' := 28) (c := 12) (k := 0) rfl rfl rfl rfl (fun _ _ _  => rfl) rfl rfl ?_
    refine jv_aload_n (pc' := 29) (k := 0) (x := 103) rfl rfl rfl rfl ?_
    refine jv_getI (pc' := 32) (c := 12) (k := 0) (v := (iI 1)) rfl rfl rfl (fun _ _ => rfl) rfl rfl rfl ?_
    refine jv_if_ne (t := 46) (pc' := 35) (a := 1) rfl rfl rfl (by omega) (fun hz_2 => ?_) (fun hz_2 => ?_)
    · skip
      refine jv_retV rfl rfl ⟨_, _, rfl, ?_⟩
      first
      | (exfalso; omega)
      | exact ⟨_, rfl, (fr_u (by simp [mW]) (fr_r _)), rfl, CM_n hM (by simp [pers]), rfl⟩
    · skip
      exact absurd hz_2 (by decide)
  · skip
    refine jv_iload_n (pc' := 6) (k := 1) (x := (iI x)) rfl rfl rfl rfl ?_
    refine jv_iconst (pc' := 7) (n := 1) rfl rfl ?_
    refine jv_ic_gt (t := 20) (pc' := 10) (a := x) (b := 1) rfl rfl rfl (by omega) (fun hz_3 => ?_) (fun hz_3 => ?_)
    · skip
      refine jv_iconst (pc' := 21) (n := 1) rfl rfl ?_
      refine jx_step (pc' := 25) rfl ?_
      refine jv_putI (pc' := 28) (c := 12) (k := 0) rfl rfl rfl rfl (fun _ _ _  => rfl) rfl rfl ?_
      refine jv_aload_n (pc' := 29) (k := 0) (x := 103) rfl rfl rfl rfl ?_
      refine jv_getI (pc' := 32) (c := 12) (k := 0) (v := (iI 1)) rfl rfl rfl (fun _ _ => rfl) rfl rfl rfl ?_
      refine jv_if_ne (t := 46) (pc' := 35) (a := 1) rfl rfl rfl (by omega) (fun hz_4 => ?_) (fun hz_4 => ?_)
      · skip
        refine jv_retV rfl rfl ⟨_, _, rfl, ?_⟩
        first
        | (exfalso; omega)
        | exact ⟨_, rfl, (fr_u (by simp [mW]) (fr_r _)), rfl, CM_n hM (by simp [pers]), rfl⟩
      · skip
        exact absurd hz_4 (by decide)
    · skip
      refine jv_iload_n (pc' := 11) (k := 2) (x := (iI y)) rfl rfl rfl rfl ?_
      refine jv_iconst (pc' := 12) (n := -1) rfl rfl ?_
      refine jv_ic_lt (t := 20) (pc' := 15) (a := y) (b := (-1)) rfl rfl rfl (by omega) (fun hz_5 => ?_) (fun hz_5 => ?_)
      · skip
        refine jv_iconst (pc' := 21) (n := 1) rfl rfl ?_
        refine jx_step (pc' := 25) rfl ?_
        refine jv_putI (pc' := 28) (c := 12) (k := 0) rfl rfl rfl rfl (fun _ _ _  => rfl) rfl rfl ?_
        refine jv_aload_n (pc' := 29) (k := 0) (x := 103) rfl rfl rfl rfl ?_
        refine jv_getI (pc' := 32) (c := 12) (k := 0) (v := (iI 1)) rfl rfl rfl (fun _ _ => rfl) rfl rfl rfl ?_
        refine jv_if_ne (t := 46) (pc' := 35) (a := 1) rfl rfl rfl (by omega) (fun hz_6 => ?_) (fun hz_6 => ?_)
        · skip
          refine jv_retV rfl rfl ⟨_, _, rfl, ?_⟩
          first
          | (exfalso; omega)
          | exact ⟨_, rfl, (fr_u (by simp [mW]) (fr_r _)), rfl, CM_n hM (by simp [pers]), rfl⟩
        · skip
          exact absurd hz_6 (by decide)
      · skip
        refine jv_iload_n (pc' := 16) (k := 2) (x := (iI y)) rfl rfl rfl rfl ?_
        refine jv_iconst (pc' := 17) (n := 3) rfl rfl ?_
        refine jv_ic_le (t := 24) (pc' := 20) (a := y) (b := 3) rfl rfl rfl (by omega) (fun hz_7 => ?_) (fun hz_7 => ?_)
        · skip
          refine jv_iconst (pc' := 25) (n := 0) rfl rfl ?_
          refine jv_putI (pc' := 28) (c := 12) (k := 0) rfl rfl rfl rfl (fun _ _ _  => rfl) rfl rfl ?_
          refine jv_aload_n (pc' := 29) (k := 0) (x := 103) rfl rfl rfl rfl ?_
          refine jv_getI (pc' := 32) (c := 12) (k := 0) (v := (iI 0)) rfl rfl rfl (fun _ _ => rfl) rfl rfl rfl ?_
          refine jv_if_ne (t := 46) (pc' := 35) (a := 0) rfl rfl rfl (by omega) (fun hz_8 => ?_) (fun hz_8 => ?_)
          · skip
            exact absurd hz_8 (by decide)
          · skip
            refine jv_aload_n (pc' := 36) (k := 0) (x := 103) rfl rfl rfl rfl ?_
            refine jv_getR (pc' := 39) (c := 12) (k := 7) (v := 109) rfl rfl rfl (fun _ _ => rfl) rfl rfl (jR_103_7 _) ?_
            refine jv_iload_n (pc' := 40) (k := 1) (x := (iI x)) rfl rfl rfl rfl ?_
            refine jv_iload_n (pc' := 41) (k := 2) (x := (iI y)) rfl rfl rfl rfl ?_
            refine jv_iastore (pc' := 42) (n := 2) (e := x) (v := (iI y)) rfl rfl rfl rfl rfl (by omega) ?_
            refine jv_aload_n (pc' := 43) (k := 0) (x := 103) rfl rfl rfl rfl ?_
            refine jv_call (pc' := 46) rfl (ml_changed (I := jm_u (jm_u I 103 0 (iI 0)) 109 (x : Int).toNat (iI y))) (fun vq9 gq9 q9 => ?_)
            obtain ⟨rfl, rfl⟩ := q9
            show jx L xs _ 128 46 _ [] _ _
            refine jv_retV rfl rfl ⟨_, _, rfl, ?_⟩
            first
            | (exfalso; omega)
            | exact ⟨_, rfl, (fr_u (by simp [mW]) (fr_u (by simp [mW]) (fr_u (by simp [mW]) (fr_r _)))), rfl, CM_n hM (by simp [pers]), rfl⟩
        · skip
          refine jv_iconst (pc' := 21) (n := 1) rfl rfl ?_
          refine jx_step (pc' := 25) rfl ?_
          refine jv_putI (pc' := 28) (c := 12) (k := 0) rfl rfl rfl rfl (fun _ _ _  => rfl) rfl rfl ?_
          refine jv_aload_n (pc' := 29) (k := 0) (x := 103) rfl rfl rfl rfl ?_
          refine jv_getI (pc' := 32) (c := 12) (k := 0) (v := (iI 1)) rfl rfl rfl (fun _ _ => rfl) rfl rfl rfl ?_
          refine jv_if_ne (t := 46) (pc' := 35) (a := 1) rfl rfl rfl (by omega) (fun hz_10 => ?_) (fun hz_10 => ?_)
          · skip
            refine jv_retV rfl rfl ⟨_, _, rfl, ?_⟩
            first
            | (exfalso; omega)
            | exact ⟨_, rfl, (fr_u (by simp [mW]) (fr_r _)), rfl, CM_n hM (by simp [pers]), rfl⟩
          · skip
            exact absurd hz_10 (by decide)
end H2
