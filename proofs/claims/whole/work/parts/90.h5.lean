/-! printed by wip/whole/gen/h5.py: operations entry, value -/
section H5
variable {L : Nat} {xs : Nat → Int32} {d j : Nat} {I : Nat → Nat → Int32} {M : Nat → Nat → Int64} {p : Nat → Option Nat}
variable {A : AB} {x y z : Int} {f k q : Nat} {s : DSt}
theorem cl_entriesOf2 (hN : EN I M p A f s) (hf : f < 12) : jc L xs d 27 [.ref 0, .int (iI ((f : Nat) : Int))] (jx_G j I M p) (fun v g1 => v = some (.ref 39) ∧ g1 = jx_G j I M p) := by
  unfold jc
  refine jv_aload_n (pc' := 1) (k := 0) (x := 0) rfl rfl rfl rfl ?_
  refine jv_getI (pc' := 4) (c := 0) (k := 12) (v := (iI ((f : Nat) : Int))) rfl rfl rfl (fun _ _ => rfl) rfl rfl hN.2.2.2.2.1 ?_
  refine jv_iload_n (pc' := 5) (k := 1) (x := (iI ((f : Nat) : Int))) rfl rfl rfl rfl ?_
  refine jv_ic_eq (t := 44) (pc' := 8) (a := ((f : Nat) : Int)) (b := ((f : Nat) : Int)) rfl rfl rfl (by omega) (fun hz_1 => ?_) (fun hz_1 => ?_)
  · skip
    refine jv_aload_n (pc' := 45) (k := 0) (x := 0) rfl rfl rfl rfl ?_
    refine jv_getR (pc' := 48) (c := 0) (k := 4) (v := 38) rfl rfl rfl (fun _ _ => rfl) rfl rfl (jR_0_4 _) ?_
    refine jv_getR (pc' := 51) (c := 6) (k := 0) (v := 39) rfl rfl rfl (fun _ _ => rfl) rfl rfl (jR_38_0 _) ?_
    refine jv_retR rfl rfl ⟨_, _, rfl, ?_⟩
    exact ⟨rfl, rfl⟩
  · skip
    exfalso; omega
theorem cl_has (hx : iR x) (hD : DCe I M s) (hc : 0 ≤ s 0 2 ∧ s 0 2 ≤ 64) : jc L xs d 73 [.ref 39, .int (iI x)] (jx_G j I M p) (fun v g1 => v = some (.int (jb (0 ≤ x ∧ x < s 0 2))) ∧ g1 = jx_G j I M p) := by
  unfold jc
  refine jv_iload_n (pc' := 1) (k := 1) (x := (iI x)) rfl rfl rfl rfl ?_
  refine jv_if_lt (t := 16) (pc' := 4) (a := x) rfl rfl rfl (by omega) (fun h1 => ?_) (fun h1 => ?_)
  · skip
    refine jv_iconst (pc' := 17) (n := 0) rfl rfl ?_
    refine jv_retZ rfl rfl (by first | exact Or.inl rfl | exact Or.inr rfl) ⟨_, _, rfl, ?_⟩
    exact ⟨jq_f (by omega), rfl⟩
  · skip
    refine jv_iload_n (pc' := 5) (k := 1) (x := (iI x)) rfl rfl rfl rfl ?_
    refine jv_aload_n (pc' := 6) (k := 0) (x := 39) rfl rfl rfl rfl ?_
    refine jv_getI (pc' := 9) (c := 7) (k := 2) (v := (iI (s 0 2))) rfl rfl rfl (fun _ _ => rfl) rfl rfl hD.2.2.1 ?_
    refine jv_ic_ge (t := 16) (pc' := 12) (a := x) (b := (s 0 2)) rfl rfl rfl (by omega) (fun h2 => ?_) (fun h2 => ?_)
    · skip
      refine jv_iconst (pc' := 17) (n := 0) rfl rfl ?_
      refine jv_retZ rfl rfl (by first | exact Or.inl rfl | exact Or.inr rfl) ⟨_, _, rfl, ?_⟩
      exact ⟨jq_f (by omega), rfl⟩
    · skip
      refine jv_iconst (pc' := 13) (n := 1) rfl rfl ?_
      refine jx_step (pc' := 17) rfl ?_
      refine jv_retZ rfl rfl (by first | exact Or.inl rfl | exact Or.inr rfl) ⟨_, _, rfl, ?_⟩
      exact ⟨jq_t (by omega), rfl⟩
theorem DCe_f {I : Nat → Nat → Int32} {M : Nat → Nat → Int64} (h : DCe I M s) (hk : (k : Int) < s 0 2) (hq : q < 5) : I 40 (5 * k + q) = iI (s (3 + q) k) := by
  obtain ⟨a, b, c, d, e, _⟩ := h.2.2.2 k hk
  have : q = 0 ∨ q = 1 ∨ q = 2 ∨ q = 3 ∨ q = 4 := by omega
  rcases this with rfl | rfl | rfl | rfl | rfl
  · exact a
  · exact b
  · exact c
  · exact d
  · exact e
theorem DMe_f {I : Nat → Nat → Int32} {M : Nat → Nat → Int64} (h : DMe I M s) (hk : (k : Int) < s 0 2) (hq : q < 5) : I (119 + q) k = iI (s (3 + q) k) := by
  obtain ⟨a, b, c, d, e, _⟩ := h.2.2.2 k hk
  have : q = 0 ∨ q = 1 ∨ q = 2 ∨ q = 3 ∨ q = 4 := by omega
  rcases this with rfl | rfl | rfl | rfl | rfl
  · exact a
  · exact b
  · exact c
  · exact d
  · exact e
theorem op_entry_t (hx : iR x) (hR : CR I M p A) (hbad : ¬ (0 ≤ x ∧ x < A 103 12)) : jt L xs (d + 1) 11 [.ref 0, .int (iI x), .int (iI y), .int (iI z)] (jx_G j I M p) 52 (fun g1 => g1 = jx_G (j + 1) I M p) := by
  unfold jt
  refine jv_aload_n (pc' := 1) (k := 0) (x := 0) rfl rfl rfl rfl ?_
  refine jv_iload_n (pc' := 2) (k := 1) (x := (iI x)) rfl rfl rfl rfl ?_
  refine jv_call (pc' := 5) rfl (cl_isFrame (I := I) (M := M) (by omega) hR) (fun vq1 gq1 q1 => ?_)
  obtain ⟨rfl, rfl⟩ := q1
  show jx L xs _ 11 5 _ [.int (jb (0 ≤ x ∧ x < A 103 12))] _ _
  refine jv_jb_eq (t := 20) (pc' := 8) (P := 0 ≤ x ∧ x < A 103 12) rfl rfl rfl (fun hz_2 => ?_) (fun hz_2 => ?_)
  · skip
    refine jx_ret0 rfl ⟨_, rfl, ?_⟩
    first
    | (exfalso; omega)
    | rfl
  · skip
    exfalso; omega
theorem op_value_t (hx : iR x) (hR : CR I M p A) (hbad : ¬ (0 ≤ x ∧ x < A 103 12)) : jt L xs (d + 1) 12 [.ref 0, .int (iI x), .int (iI y)] (jx_G j I M p) 52 (fun g1 => g1 = jx_G (j + 1) I M p) := by
  unfold jt
  refine jv_aload_n (pc' := 1) (k := 0) (x := 0) rfl rfl rfl rfl ?_
  refine jv_iload_n (pc' := 2) (k := 1) (x := (iI x)) rfl rfl rfl rfl ?_
  refine jv_call (pc' := 5) rfl (cl_isFrame (I := I) (M := M) (by omega) hR) (fun vq1 gq1 q1 => ?_)
  obtain ⟨rfl, rfl⟩ := q1
  show jx L xs _ 12 5 _ [.int (jb (0 ≤ x ∧ x < A 103 12))] _ _
  refine jv_jb_eq (t := 20) (pc' := 8) (P := 0 ≤ x ∧ x < A 103 12) rfl rfl rfl (fun hz_2 => ?_) (fun hz_2 => ?_)
  · skip
    refine jx_ret0 rfl ⟨_, rfl, ?_⟩
    first
    | (exfalso; omega)
    | rfl
  · skip
    exfalso; omega
theorem op_entry_c (hy : iR y) (hz : iR z) (hR : CR I M p A) (hf : (f : Int) < A 103 12) : jx L xs (d + 14) 11 0 (jm_ent [.ref 0, .int (iI ((f : Nat) : Int)), .int (iI y), .int (iI z)]) [] (jx_G j I M p) (fun o => ∃ I' M' p' s, fr cW I I' ∧ fr cV M M' ∧ EN I' M' p' A f s ∧ ((¬ (0 ≤ y ∧ y < s 0 2) ∧ o = (.inr 52, jx_G (j + 1) I' M' p')) ∨ ((0 ≤ y ∧ y < s 0 2) ∧ ((¬ (0 ≤ z ∧ z < 5) ∧ o = (.inr 50, jx_G (j + 1) I' M' p')) ∨ ((0 ≤ z ∧ z < 5) ∧ o = (.inl (some (.int (iI (s (3 + z.toNat) y.toNat)))), jx_G j I' M' p')))))) := by
  have hv12 := hR.1.2.2.2.2.2.2.1
  refine jv_aload_n (pc' := 1) (k := 0) (x := 0) rfl rfl rfl rfl ?_
  refine jv_iload_n (pc' := 2) (k := 1) (x := (iI ((f : Nat) : Int))) rfl rfl rfl rfl ?_
  refine jv_call (pc' := 5) rfl (cl_isFrame (I := I) (M := M) (by omega) hR) (fun vq1 gq1 q1 => ?_)
  obtain ⟨rfl, rfl⟩ := q1
  show jx L xs _ 11 5 _ [.int (jb (0 ≤ ((f : Nat) : Int) ∧ ((f : Nat) : Int) < A 103 12))] _ _
  refine jv_jb_eq (t := 20) (pc' := 8) (P := 0 ≤ ((f : Nat) : Int) ∧ ((f : Nat) : Int) < A 103 12) rfl rfl rfl (fun hz_2 => ?_) (fun hz_2 => ?_)
  · skip
    refine jx_ret0 rfl ?_
    exfalso; omega
  · skip
    refine jv_aload_n (pc' := 9) (k := 0) (x := 0) rfl rfl rfl rfl ?_
    refine jv_iload_n (pc' := 10) (k := 1) (x := (iI ((f : Nat) : Int))) rfl rfl rfl rfl ?_
    refine jv_call (pc' := 13) rfl (cl_entriesOf (I := I) (M := M) (p := p) (f := f) hR (by omega)) (fun vq3 gq3 q3 => ?_)
    obtain ⟨Iq3, Mq3, pq3, rfl, rfl, rq3, tq3, _, sq3, Nq3⟩ := q3
    show jx L xs _ 11 13 _ [.ref 39] _ _
    refine jv_iload_n (pc' := 14) (k := 2) (x := (iI y)) rfl rfl rfl rfl ?_
    have cq3 := Nq3.2.2.2.1
    refine jv_call (pc' := 17) rfl (cl_has (I := Iq3) (M := Mq3) (s := sq3) (by omega) Nq3.2.1 Nq3.2.2.2.1) (fun vq4 gq4 q4 => ?_)
    obtain ⟨rfl, rfl⟩ := q4
    show jx L xs _ 11 17 _ [.int (jb (0 ≤ y ∧ y < sq3 0 2))] _ _
    refine jv_jb_ne (t := 28) (pc' := 20) (P := 0 ≤ y ∧ y < sq3 0 2) rfl rfl rfl (fun hz_5 => ?_) (fun hz_5 => ?_)
    · skip
      refine jv_iload_n (pc' := 29) (k := 3) (x := (iI z)) rfl rfl rfl rfl ?_
      refine jv_if_lt (t := 37) (pc' := 32) (a := z) rfl rfl rfl (by omega) (fun hz_6 => ?_) (fun hz_6 => ?_)
      · skip
        refine jx_ret0 rfl ?_
        exact ⟨_, _, _, sq3, (fr_t (fr_r _) rq3), (fr_t (fr_r _) tq3), Nq3, Or.inr ⟨by omega, Or.inl ⟨by omega, rfl⟩⟩⟩
      · skip
        refine jv_iload_n (pc' := 33) (k := 3) (x := (iI z)) rfl rfl rfl rfl ?_
        refine jv_iconst (pc' := 34) (n := 5) rfl rfl ?_
        refine jv_ic_lt (t := 45) (pc' := 37) (a := z) (b := 5) rfl rfl rfl (by omega) (fun hz_7 => ?_) (fun hz_7 => ?_)
        · skip
          obtain ⟨k, rfl⟩ : ∃ k : Nat, y = ((k : Nat) : Int) := ⟨y.toNat, by omega⟩
          obtain ⟨q, rfl⟩ : ∃ q : Nat, z = ((q : Nat) : Int) := ⟨z.toNat, by omega⟩
          refine jv_aload_n (pc' := 46) (k := 0) (x := 0) rfl rfl rfl rfl ?_
          refine jv_iload_n (pc' := 47) (k := 1) (x := (iI ((f : Nat) : Int))) rfl rfl rfl rfl ?_
          refine jv_call (pc' := 50) rfl (cl_entriesOf2 (I := Iq3) (M := Mq3) (p := pq3) Nq3 (by omega)) (fun vq8 gq8 q8 => ?_)
          obtain ⟨rfl, rfl⟩ := q8
          show jx L xs _ 11 50 _ [.ref 39] _ _
          refine jv_iload_n (pc' := 51) (k := 2) (x := (iI ((k : Nat) : Int))) rfl rfl rfl rfl ?_
          refine jv_iload_n (pc' := 52) (k := 3) (x := (iI ((q : Nat) : Int))) rfl rfl rfl rfl ?_
          refine jv_call (pc' := 55) rfl (cl_fact (I := Iq3) (M := Mq3) (k := k) (q := q) (z := sq3 (3 + q) k) (by omega) (by omega) (DCe_f Nq3.2.1 (by omega) (by omega))) (fun vq9 gq9 q9 => ?_)
          obtain ⟨rfl, rfl⟩ := q9
          show jx L xs _ 11 55 _ [.int (iI (sq3 (3 + q) k))] _ _
          refine jv_retI rfl rfl ?_
          exact ⟨_, _, _, sq3, (fr_t (fr_r _) rq3), (fr_t (fr_r _) tq3), Nq3, Or.inr ⟨by omega, Or.inr ⟨by omega, rfl⟩⟩⟩
        · skip
          refine jx_ret0 rfl ?_
          exact ⟨_, _, _, sq3, (fr_t (fr_r _) rq3), (fr_t (fr_r _) tq3), Nq3, Or.inr ⟨by omega, Or.inl ⟨by omega, rfl⟩⟩⟩
    · skip
      refine jx_ret0 rfl ?_
      exact ⟨_, _, _, sq3, (fr_t (fr_r _) rq3), (fr_t (fr_r _) tq3), Nq3, Or.inl ⟨by omega, rfl⟩⟩
theorem op_value_c (hy : iR y) (hR : CR I M p A) (hf : (f : Int) < A 103 12) : jx L xs (d + 14) 12 0 (jm_ent [.ref 0, .int (iI ((f : Nat) : Int)), .int (iI y)]) [] (jx_G j I M p) (fun o => ∃ I' M' p' s, fr cW I I' ∧ fr cV M M' ∧ EN I' M' p' A f s ∧ ((¬ (0 ≤ y ∧ y < s 0 2) ∧ o = (.inr 52, jx_G (j + 1) I' M' p')) ∨ ((0 ≤ y ∧ y < s 0 2) ∧ o = (.inl (some (.long (lI (s 8 y.toNat)))), jx_G j I' M' p')))) := by
  have hv12 := hR.1.2.2.2.2.2.2.1
  refine jv_aload_n (pc' := 1) (k := 0) (x := 0) rfl rfl rfl rfl ?_
  refine jv_iload_n (pc' := 2) (k := 1) (x := (iI ((f : Nat) : Int))) rfl rfl rfl rfl ?_
  refine jv_call (pc' := 5) rfl (cl_isFrame (I := I) (M := M) (by omega) hR) (fun vq1 gq1 q1 => ?_)
  obtain ⟨rfl, rfl⟩ := q1
  show jx L xs _ 12 5 _ [.int (jb (0 ≤ ((f : Nat) : Int) ∧ ((f : Nat) : Int) < A 103 12))] _ _
  refine jv_jb_eq (t := 20) (pc' := 8) (P := 0 ≤ ((f : Nat) : Int) ∧ ((f : Nat) : Int) < A 103 12) rfl rfl rfl (fun hz_2 => ?_) (fun hz_2 => ?_)
  · skip
    refine jx_ret0 rfl ?_
    exfalso; omega
  · skip
    refine jv_aload_n (pc' := 9) (k := 0) (x := 0) rfl rfl rfl rfl ?_
    refine jv_iload_n (pc' := 10) (k := 1) (x := (iI ((f : Nat) : Int))) rfl rfl rfl rfl ?_
    refine jv_call (pc' := 13) rfl (cl_entriesOf (I := I) (M := M) (p := p) (f := f) hR (by omega)) (fun vq3 gq3 q3 => ?_)
    obtain ⟨Iq3, Mq3, pq3, rfl, rfl, rq3, tq3, _, sq3, Nq3⟩ := q3
    show jx L xs _ 12 13 _ [.ref 39] _ _
    refine jv_iload_n (pc' := 14) (k := 2) (x := (iI y)) rfl rfl rfl rfl ?_
    have cq3 := Nq3.2.2.2.1
    refine jv_call (pc' := 17) rfl (cl_has (I := Iq3) (M := Mq3) (s := sq3) (by omega) Nq3.2.1 Nq3.2.2.2.1) (fun vq4 gq4 q4 => ?_)
    obtain ⟨rfl, rfl⟩ := q4
    show jx L xs _ 12 17 _ [.int (jb (0 ≤ y ∧ y < sq3 0 2))] _ _
    refine jv_jb_ne (t := 28) (pc' := 20) (P := 0 ≤ y ∧ y < sq3 0 2) rfl rfl rfl (fun hz_5 => ?_) (fun hz_5 => ?_)
    · skip
      obtain ⟨k, rfl⟩ : ∃ k : Nat, y = ((k : Nat) : Int) := ⟨y.toNat, by omega⟩
      refine jv_aload_n (pc' := 29) (k := 0) (x := 0) rfl rfl rfl rfl ?_
      refine jv_iload_n (pc' := 30) (k := 1) (x := (iI ((f : Nat) : Int))) rfl rfl rfl rfl ?_
      refine jv_call (pc' := 33) rfl (cl_entriesOf2 (I := Iq3) (M := Mq3) (p := pq3) Nq3 (by omega)) (fun vq6 gq6 q6 => ?_)
      obtain ⟨rfl, rfl⟩ := q6
      show jx L xs _ 12 33 _ [.ref 39] _ _
      refine jv_getR (pc' := 36) (c := 7) (k := 1) (v := 41) rfl rfl rfl (fun _ _ => rfl) rfl rfl (jR_39_1 _) ?_
      refine jv_iload_n (pc' := 37) (k := 2) (x := (iI ((k : Nat) : Int))) rfl rfl rfl rfl ?_
      refine jv_laload (pc' := 38) (n := 64) (e := ((k : Nat) : Int)) (v := (lI (sq3 8 k))) rfl rfl rfl rfl rfl (by omega) ((Nq3.2.1.2.2.2 k (by omega)).2.2.2.2.2) ?_
      refine jv_retJ rfl rfl ?_
      exact ⟨_, _, _, sq3, (fr_t (fr_r _) rq3), (fr_t (fr_r _) tq3), Nq3, Or.inr ⟨by omega, rfl⟩⟩
    · skip
      refine jx_ret0 rfl ?_
      exact ⟨_, _, _, sq3, (fr_t (fr_r _) rq3), (fr_t (fr_r _) tq3), Nq3, Or.inl ⟨by omega, rfl⟩⟩
theorem ml_noEntry (hM : CM I M A) (hv : AV2 A ∧ AV4 A ∧ AV5 A) (hy : iR y) (hf : (f : Int) < A 103 12) (hE : DEC (acL A) (anL A) (afc A) (afv A) (afn A) (aB A f) (aZ A f) (aLim A) (aRoot A f) s) (hc : 0 ≤ s 0 2 ∧ s 0 2 ≤ 64) : jc L xs (d + 7) 153 [.ref 103, .int (iI ((f : Nat) : Int)), .int (iI y)] (jx_G j I M p) (fun v g1 => ∃ I' M', g1 = jx_G j I' M' p ∧ v = some (.int (jb (¬ (0 ≤ y ∧ y < s 0 2)))) ∧ fr mW I I' ∧ fr mV M M' ∧ CM I' M' A ∧ DMe I' M' s ∧ I' 103 0 = I 103 0) := by
  unfold jc
  have hv12 := hv.2.2.2.2.1
  refine jv_aload_n (pc' := 1) (k := 0) (x := 103) rfl rfl rfl rfl ?_
  refine jv_iload_n (pc' := 2) (k := 1) (x := (iI ((f : Nat) : Int))) rfl rfl rfl rfl ?_
  refine jv_call (pc' := 5) rfl (ml_noFrame (I := I) (M := M) (A := A) (by omega) hM hv12) (fun vq1 gq1 q1 => ?_)
  obtain ⟨rfl, rfl⟩ := q1
  show jx L xs _ 153 5 _ [.int (jb (¬ (0 ≤ ((f : Nat) : Int) ∧ ((f : Nat) : Int) < A 103 12)))] _ _
  refine jv_jb_eq (t := 10) (pc' := 8) (P := ¬ (0 ≤ ((f : Nat) : Int) ∧ ((f : Nat) : Int) < A 103 12)) rfl rfl rfl (fun hz_2 => ?_) (fun hz_2 => ?_)
  · skip
    refine jv_aload_n (pc' := 11) (k := 0) (x := 103) rfl rfl rfl rfl ?_
    refine jv_iload_n (pc' := 12) (k := 1) (x := (iI ((f : Nat) : Int))) rfl rfl rfl rfl ?_
    refine jv_call (pc' := 15) rfl (ml_dec (I := I) (M := M) (f := f) hM hv (by omega) hE) (fun vq3 gq3 q3 => ?_)
    obtain ⟨Iq3, Mq3, rfl, rfl, rq3, tq3, Cq3, Dq3, nq3, zq3⟩ := q3
    show jx L xs _ 153 15 _ [] _ _
    refine jv_iload_n (pc' := 16) (k := 2) (x := (iI y)) rfl rfl rfl rfl ?_
    refine jv_if_lt (t := 27) (pc' := 19) (a := y) rfl rfl rfl (by omega) (fun hz_4 => ?_) (fun hz_4 => ?_)
    · skip
      refine jv_iconst (pc' := 28) (n := 1) rfl rfl ?_
      refine jx_step (pc' := 32) rfl ?_
      refine jv_retZ rfl rfl (by first | exact Or.inl rfl | exact Or.inr rfl) ⟨_, _, rfl, ?_⟩
      first
      | (exfalso; omega)
      | exact ⟨_, _, rfl, jq_t (by omega), (fr_t (fr_r _) rq3), (fr_t (fr_r _) tq3), Cq3, Dq3, zq3⟩
    · skip
      refine jv_iload_n (pc' := 20) (k := 2) (x := (iI y)) rfl rfl rfl rfl ?_
      refine jv_aload_n (pc' := 21) (k := 0) (x := 103) rfl rfl rfl rfl ?_
      refine jv_getI (pc' := 24) (c := 12) (k := 22) (v := (iI (s 0 2))) rfl rfl rfl (fun _ _ => rfl) rfl rfl Dq3.2.2.1 ?_
      refine jv_ic_lt (t := 31) (pc' := 27) (a := y) (b := (s 0 2)) rfl rfl rfl (by omega) (fun hz_5 => ?_) (fun hz_5 => ?_)
      · skip
        refine jv_iconst (pc' := 32) (n := 0) rfl rfl ?_
        refine jv_retZ rfl rfl (by first | exact Or.inl rfl | exact Or.inr rfl) ⟨_, _, rfl, ?_⟩
        first
        | (exfalso; omega)
        | exact ⟨_, _, rfl, jq_f (by omega), (fr_t (fr_r _) rq3), (fr_t (fr_r _) tq3), Cq3, Dq3, zq3⟩
      · skip
        refine jv_iconst (pc' := 28) (n := 1) rfl rfl ?_
        refine jx_step (pc' := 32) rfl ?_
        refine jv_retZ rfl rfl (by first | exact Or.inl rfl | exact Or.inr rfl) ⟨_, _, rfl, ?_⟩
        first
        | (exfalso; omega)
        | exact ⟨_, _, rfl, jq_t (by omega), (fr_t (fr_r _) rq3), (fr_t (fr_r _) tq3), Cq3, Dq3, zq3⟩
  · skip
    refine jv_iconst (pc' := 9) (n := 1) rfl rfl ?_
    refine jv_retZ rfl rfl (by first | exact Or.inl rfl | exact Or.inr rfl) ⟨_, _, rfl, ?_⟩
    exfalso; omega
theorem ml_noEntry_b (hM : CM I M A) (hv : AV2 A ∧ AV4 A ∧ AV5 A) (hx : iR x) (hbad : ¬ (0 ≤ x ∧ x < A 103 12)) : jc L xs (d + 1) 153 [.ref 103, .int (iI x), .int (iI y)] (jx_G j I M p) (fun v g1 => v = some (.int (iI 1)) ∧ g1 = jx_G j I M p) := by
  unfold jc
  have hv12 := hv.2.2.2.2.1
  refine jv_aload_n (pc' := 1) (k := 0) (x := 103) rfl rfl rfl rfl ?_
  refine jv_iload_n (pc' := 2) (k := 1) (x := (iI x)) rfl rfl rfl rfl ?_
  refine jv_call (pc' := 5) rfl (ml_noFrame (I := I) (M := M) (A := A) (by omega) hM hv12) (fun vq1 gq1 q1 => ?_)
  obtain ⟨rfl, rfl⟩ := q1
  show jx L xs _ 153 5 _ [.int (jb (¬ (0 ≤ x ∧ x < A 103 12)))] _ _
  refine jv_jb_eq (t := 10) (pc' := 8) (P := ¬ (0 ≤ x ∧ x < A 103 12)) rfl rfl rfl (fun hz_2 => ?_) (fun hz_2 => ?_)
  · skip
    exfalso; omega
  · skip
    refine jv_iconst (pc' := 9) (n := 1) rfl rfl ?_
    refine jv_retZ rfl rfl (by first | exact Or.inl rfl | exact Or.inr rfl) ⟨_, _, rfl, ?_⟩
    first
    | (exfalso; omega)
    | exact ⟨rfl, rfl⟩
theorem op_entry_m (hM : CM I M A) (hv : AV2 A ∧ AV4 A ∧ AV5 A) (hy : iR y) (hz : iR z) (hf : (f : Int) < A 103 12) (hE : DEC (acL A) (anL A) (afc A) (afv A) (afn A) (aB A f) (aZ A f) (aLim A) (aRoot A f) s) (hc : 0 ≤ s 0 2 ∧ s 0 2 ≤ 64) : jc L xs (d + 8) 154 [.ref 103, .int (iI ((f : Nat) : Int)), .int (iI y), .int (iI z)] (jx_G j I M p) (fun v g1 => ∃ I' M', g1 = jx_G j I' M' p ∧ fr mW I I' ∧ fr mV M M' ∧ CM I' M' A ∧ ((¬ (0 ≤ y ∧ y < s 0 2) ∧ I' 103 0 = iI 1) ∨ ((0 ≤ y ∧ y < s 0 2) ∧ ((¬ (0 ≤ z ∧ z < 5) ∧ I' 103 0 = iI 2) ∨ ((0 ≤ z ∧ z < 5) ∧ I' 103 0 = iI 0 ∧ v = some (.int (iI (s (3 + z.toNat) y.toNat)))))))) := by
  unfold jc
  have hv12 := hv.2.2.2.2.1
  refine jv_aload_n (pc' := 1) (k := 0) (x := 103) rfl rfl rfl rfl ?_
  refine jv_aload_n (pc' := 2) (k := 0) (x := 103) rfl rfl rfl rfl ?_
  refine jv_iload_n (pc' := 3) (k := 1) (x := (iI ((f : Nat) : Int))) rfl rfl rfl rfl ?_
  refine jv_iload_n (pc' := 4) (k := 2) (x := (iI y)) rfl rfl rfl rfl ?_
  refine jv_call (pc' := 7) rfl (ml_noEntry (I := I) (M := M) (f := f) (s := s) hM hv hy hf hE hc) (fun vq1 gq1 q1 => ?_)
  obtain ⟨Iq1, Mq1, rfl, rfl, rq1, tq1, Cq1, Dq1, zq1⟩ := q1
  show jx L xs _ 154 7 _ [.int (jb (¬ (0 ≤ y ∧ y < s 0 2))), .ref 103] _ _
  refine jv_jb_eq (t := 14) (pc' := 10) (P := ¬ (0 ≤ y ∧ y < s 0 2)) rfl rfl rfl (fun hz_2 => ?_) (fun hz_2 => ?_)
  · skip
    refine jv_iload_n (pc' := 15) (k := 3) (x := (iI z)) rfl rfl rfl rfl ?_
    refine jv_if_lt (t := 23) (pc' := 18) (a := z) rfl rfl rfl (by omega) (fun hz_3 => ?_) (fun hz_3 => ?_)
    · skip
      refine jv_iconst (pc' := 24) (n := 2) rfl rfl ?_
      refine jx_step (pc' := 28) rfl ?_
      refine jv_putI (pc' := 31) (c := 12) (k := 0) rfl rfl rfl rfl (fun _ _ _  => rfl) rfl rfl ?_
      refine jv_aload_n (pc' := 32) (k := 0) (x := 103) rfl rfl rfl rfl ?_
      refine jv_getI (pc' := 35) (c := 12) (k := 0) (v := (iI 2)) rfl rfl rfl (fun _ _ => rfl) rfl rfl rfl ?_
      refine jv_if_le (t := 40) (pc' := 38) (a := 2) rfl rfl rfl (by omega) (fun hz_4 => ?_) (fun hz_4 => ?_)
      · skip
        exact absurd hz_4 (by decide)
      · skip
        refine jv_iconst (pc' := 39) (n := 0) rfl rfl ?_
        refine jv_retI rfl rfl ⟨_, _, rfl, ?_⟩
        first
        | (exfalso; omega)
        | exact ⟨_, _, rfl, (fr_u (by simp [mW]) (fr_t (fr_r _) rq1)), (fr_t (fr_r _) tq1), (CM_n Cq1 (by simp [pers])), Or.inr ⟨by omega, Or.inl ⟨by omega, rfl⟩⟩⟩
    · skip
      refine jv_iload_n (pc' := 19) (k := 3) (x := (iI z)) rfl rfl rfl rfl ?_
      refine jv_iconst (pc' := 20) (n := 4) rfl rfl ?_
      refine jv_ic_le (t := 27) (pc' := 23) (a := z) (b := 4) rfl rfl rfl (by omega) (fun hz_5 => ?_) (fun hz_5 => ?_)
      · skip
        refine jv_iconst (pc' := 28) (n := 0) rfl rfl ?_
        refine jv_putI (pc' := 31) (c := 12) (k := 0) rfl rfl rfl rfl (fun _ _ _  => rfl) rfl rfl ?_
        refine jv_aload_n (pc' := 32) (k := 0) (x := 103) rfl rfl rfl rfl ?_
        refine jv_getI (pc' := 35) (c := 12) (k := 0) (v := (iI 0)) rfl rfl rfl (fun _ _ => rfl) rfl rfl rfl ?_
        refine jv_if_le (t := 40) (pc' := 38) (a := 0) rfl rfl rfl (by omega) (fun hz_6 => ?_) (fun hz_6 => ?_)
        · skip
          obtain ⟨k, rfl⟩ : ∃ k : Nat, y = ((k : Nat) : Int) := ⟨y.toNat, by omega⟩
          refine jv_iload_n (pc' := 41) (k := 3) (x := (iI z)) rfl rfl rfl rfl ?_
          refine jv_if_ne (t := 53) (pc' := 44) (a := z) rfl rfl rfl (by omega) (fun hz_7 => ?_) (fun hz_7 => ?_)
          · skip
            refine jv_iload_n (pc' := 54) (k := 3) (x := (iI z)) rfl rfl rfl rfl ?_
            refine jv_iconst (pc' := 55) (n := 1) rfl rfl ?_
            refine jv_ic_ne (t := 67) (pc' := 58) (a := z) (b := 1) rfl rfl rfl (by omega) (fun hz_8 => ?_) (fun hz_8 => ?_)
            · skip
              refine jv_iload_n (pc' := 68) (k := 3) (x := (iI z)) rfl rfl rfl rfl ?_
              refine jv_iconst (pc' := 69) (n := 2) rfl rfl ?_
              refine jv_ic_ne (t := 81) (pc' := 72) (a := z) (b := 2) rfl rfl rfl (by omega) (fun hz_9 => ?_) (fun hz_9 => ?_)
              · skip
                refine jv_iload_n (pc' := 82) (k := 3) (x := (iI z)) rfl rfl rfl rfl ?_
                refine jv_iconst (pc' := 83) (n := 3) rfl rfl ?_
                refine jv_ic_ne (t := 95) (pc' := 86) (a := z) (b := 3) rfl rfl rfl (by omega) (fun hz_10 => ?_) (fun hz_10 => ?_)
                · skip
                  obtain rfl : z = 4 := by omega
                  refine jv_aload_n (pc' := 96) (k := 0) (x := 103) rfl rfl rfl rfl ?_
                  refine jv_getR (pc' := 99) (c := 12) (k := 27) (v := 123) rfl rfl rfl (fun _ _ => rfl) rfl rfl (jR_103_27 _) ?_
                  refine jv_iload_n (pc' := 100) (k := 2) (x := (iI ((k : Nat) : Int))) rfl rfl rfl rfl ?_
                  refine jv_iaload (pc' := 101) (n := 65) (e := ((k : Nat) : Int)) (v := (iI (s 7 k))) rfl rfl (by decide) rfl rfl rfl (by omega) (DMe_f (q := 4) Dq1 (by omega) (by omega)) ?_
                  refine jv_retI rfl rfl ⟨_, _, rfl, ?_⟩
                  first
                  | (exfalso; omega)
                  | exact ⟨_, _, rfl, (fr_u (by simp [mW]) (fr_t (fr_r _) rq1)), (fr_t (fr_r _) tq1), (CM_n Cq1 (by simp [pers])), Or.inr ⟨by omega, Or.inr ⟨by omega, rfl, rfl⟩⟩⟩
                · skip
                  obtain rfl : z = 3 := by omega
                  refine jv_aload_n (pc' := 87) (k := 0) (x := 103) rfl rfl rfl rfl ?_
                  refine jv_getR (pc' := 90) (c := 12) (k := 26) (v := 122) rfl rfl rfl (fun _ _ => rfl) rfl rfl (jR_103_26 _) ?_
                  refine jv_iload_n (pc' := 91) (k := 2) (x := (iI ((k : Nat) : Int))) rfl rfl rfl rfl ?_
                  refine jv_iaload (pc' := 92) (n := 65) (e := ((k : Nat) : Int)) (v := (iI (s 6 k))) rfl rfl (by decide) rfl rfl rfl (by omega) (DMe_f (q := 3) Dq1 (by omega) (by omega)) ?_
                  refine jx_step (pc' := 101) rfl ?_
                  refine jv_retI rfl rfl ⟨_, _, rfl, ?_⟩
                  first
                  | (exfalso; omega)
                  | exact ⟨_, _, rfl, (fr_u (by simp [mW]) (fr_t (fr_r _) rq1)), (fr_t (fr_r _) tq1), (CM_n Cq1 (by simp [pers])), Or.inr ⟨by omega, Or.inr ⟨by omega, rfl, rfl⟩⟩⟩
              · skip
                obtain rfl : z = 2 := by omega
                refine jv_aload_n (pc' := 73) (k := 0) (x := 103) rfl rfl rfl rfl ?_
                refine jv_getR (pc' := 76) (c := 12) (k := 25) (v := 121) rfl rfl rfl (fun _ _ => rfl) rfl rfl (jR_103_25 _) ?_
                refine jv_iload_n (pc' := 77) (k := 2) (x := (iI ((k : Nat) : Int))) rfl rfl rfl rfl ?_
                refine jv_iaload (pc' := 78) (n := 65) (e := ((k : Nat) : Int)) (v := (iI (s 5 k))) rfl rfl (by decide) rfl rfl rfl (by omega) (DMe_f (q := 2) Dq1 (by omega) (by omega)) ?_
                refine jx_step (pc' := 101) rfl ?_
                refine jv_retI rfl rfl ⟨_, _, rfl, ?_⟩
                first
                | (exfalso; omega)
                | exact ⟨_, _, rfl, (fr_u (by simp [mW]) (fr_t (fr_r _) rq1)), (fr_t (fr_r _) tq1), (CM_n Cq1 (by simp [pers])), Or.inr ⟨by omega, Or.inr ⟨by omega, rfl, rfl⟩⟩⟩
            · skip
              obtain rfl : z = 1 := by omega
              refine jv_aload_n (pc' := 59) (k := 0) (x := 103) rfl rfl rfl rfl ?_
              refine jv_getR (pc' := 62) (c := 12) (k := 24) (v := 120) rfl rfl rfl (fun _ _ => rfl) rfl rfl (jR_103_24 _) ?_
              refine jv_iload_n (pc' := 63) (k := 2) (x := (iI ((k : Nat) : Int))) rfl rfl rfl rfl ?_
              refine jv_iaload (pc' := 64) (n := 65) (e := ((k : Nat) : Int)) (v := (iI (s 4 k))) rfl rfl (by decide) rfl rfl rfl (by omega) (DMe_f (q := 1) Dq1 (by omega) (by omega)) ?_
              refine jx_step (pc' := 101) rfl ?_
              refine jv_retI rfl rfl ⟨_, _, rfl, ?_⟩
              first
              | (exfalso; omega)
              | exact ⟨_, _, rfl, (fr_u (by simp [mW]) (fr_t (fr_r _) rq1)), (fr_t (fr_r _) tq1), (CM_n Cq1 (by simp [pers])), Or.inr ⟨by omega, Or.inr ⟨by omega, rfl, rfl⟩⟩⟩
          · skip
            obtain rfl : z = 0 := by omega
            refine jv_aload_n (pc' := 45) (k := 0) (x := 103) rfl rfl rfl rfl ?_
            refine jv_getR (pc' := 48) (c := 12) (k := 23) (v := 119) rfl rfl rfl (fun _ _ => rfl) rfl rfl (jR_103_23 _) ?_
            refine jv_iload_n (pc' := 49) (k := 2) (x := (iI ((k : Nat) : Int))) rfl rfl rfl rfl ?_
            refine jv_iaload (pc' := 50) (n := 65) (e := ((k : Nat) : Int)) (v := (iI (s 3 k))) rfl rfl (by decide) rfl rfl rfl (by omega) (DMe_f (q := 0) Dq1 (by omega) (by omega)) ?_
            refine jx_step (pc' := 101) rfl ?_
            refine jv_retI rfl rfl ⟨_, _, rfl, ?_⟩
            first
            | (exfalso; omega)
            | exact ⟨_, _, rfl, (fr_u (by simp [mW]) (fr_t (fr_r _) rq1)), (fr_t (fr_r _) tq1), (CM_n Cq1 (by simp [pers])), Or.inr ⟨by omega, Or.inr ⟨by omega, rfl, rfl⟩⟩⟩
        · skip
          exact absurd hz_6 (by decide)
      · skip
        refine jv_iconst (pc' := 24) (n := 2) rfl rfl ?_
        refine jx_step (pc' := 28) rfl ?_
        refine jv_putI (pc' := 31) (c := 12) (k := 0) rfl rfl rfl rfl (fun _ _ _  => rfl) rfl rfl ?_
        refine jv_aload_n (pc' := 32) (k := 0) (x := 103) rfl rfl rfl rfl ?_
        refine jv_getI (pc' := 35) (c := 12) (k := 0) (v := (iI 2)) rfl rfl rfl (fun _ _ => rfl) rfl rfl rfl ?_
        refine jv_if_le (t := 40) (pc' := 38) (a := 2) rfl rfl rfl (by omega) (fun hz_11 => ?_) (fun hz_11 => ?_)
        · skip
          exact absurd hz_11 (by decide)
        · skip
          refine jv_iconst (pc' := 39) (n := 0) rfl rfl ?_
          refine jv_retI rfl rfl ⟨_, _, rfl, ?_⟩
          first
          | (exfalso; omega)
          | exact ⟨_, _, rfl, (fr_u (by simp [mW]) (fr_t (fr_r _) rq1)), (fr_t (fr_r _) tq1), (CM_n Cq1 (by simp [pers])), Or.inr ⟨by omega, Or.inl ⟨by omega, rfl⟩⟩⟩
  · skip
    refine jv_iconst (pc' := 11) (n := 1) rfl rfl ?_
    refine jx_step (pc' := 28) rfl ?_
    refine jv_putI (pc' := 31) (c := 12) (k := 0) rfl rfl rfl rfl (fun _ _ _  => rfl) rfl rfl ?_
    refine jv_aload_n (pc' := 32) (k := 0) (x := 103) rfl rfl rfl rfl ?_
    refine jv_getI (pc' := 35) (c := 12) (k := 0) (v := (iI 1)) rfl rfl rfl (fun _ _ => rfl) rfl rfl rfl ?_
    refine jv_if_le (t := 40) (pc' := 38) (a := 1) rfl rfl rfl (by omega) (fun hz_12 => ?_) (fun hz_12 => ?_)
    · skip
      exact absurd hz_12 (by decide)
    · skip
      refine jv_iconst (pc' := 39) (n := 0) rfl rfl ?_
      refine jv_retI rfl rfl ⟨_, _, rfl, ?_⟩
      first
      | (exfalso; omega)
      | exact ⟨_, _, rfl, (fr_u (by simp [mW]) (fr_t (fr_r _) rq1)), (fr_t (fr_r _) tq1), (CM_n Cq1 (by simp [pers])), Or.inl ⟨by omega, rfl⟩⟩
theorem op_value_m (hM : CM I M A) (hv : AV2 A ∧ AV4 A ∧ AV5 A) (hy : iR y) (hf : (f : Int) < A 103 12) (hE : DEC (acL A) (anL A) (afc A) (afv A) (afn A) (aB A f) (aZ A f) (aLim A) (aRoot A f) s) (hc : 0 ≤ s 0 2 ∧ s 0 2 ≤ 64) : jc L xs (d + 8) 155 [.ref 103, .int (iI ((f : Nat) : Int)), .int (iI y)] (jx_G j I M p) (fun v g1 => ∃ I' M', g1 = jx_G j I' M' p ∧ fr mW I I' ∧ fr mV M M' ∧ CM I' M' A ∧ ((¬ (0 ≤ y ∧ y < s 0 2) ∧ I' 103 0 = iI 1) ∨ ((0 ≤ y ∧ y < s 0 2) ∧ I' 103 0 = iI 0 ∧ v = some (.long (lI (s 8 y.toNat)))))) := by
  unfold jc
  have hv12 := hv.2.2.2.2.1
  refine jv_aload_n (pc' := 1) (k := 0) (x := 103) rfl rfl rfl rfl ?_
  refine jv_aload_n (pc' := 2) (k := 0) (x := 103) rfl rfl rfl rfl ?_
  refine jv_iload_n (pc' := 3) (k := 1) (x := (iI ((f : Nat) : Int))) rfl rfl rfl rfl ?_
  refine jv_iload_n (pc' := 4) (k := 2) (x := (iI y)) rfl rfl rfl rfl ?_
  refine jv_call (pc' := 7) rfl (ml_noEntry (I := I) (M := M) (f := f) (s := s) hM hv hy hf hE hc) (fun vq1 gq1 q1 => ?_)
  obtain ⟨Iq1, Mq1, rfl, rfl, rq1, tq1, Cq1, Dq1, zq1⟩ := q1
  show jx L xs _ 155 7 _ [.int (jb (¬ (0 ≤ y ∧ y < s 0 2))), .ref 103] _ _
  refine jv_jb_eq (t := 14) (pc' := 10) (P := ¬ (0 ≤ y ∧ y < s 0 2)) rfl rfl rfl (fun hz_2 => ?_) (fun hz_2 => ?_)
  · skip
    refine jv_iconst (pc' := 15) (n := 0) rfl rfl ?_
    refine jv_putI (pc' := 18) (c := 12) (k := 0) rfl rfl rfl rfl (fun _ _ _  => rfl) rfl rfl ?_
    refine jv_aload_n (pc' := 19) (k := 0) (x := 103) rfl rfl rfl rfl ?_
    refine jv_getI (pc' := 22) (c := 12) (k := 0) (v := (iI 0)) rfl rfl rfl (fun _ _ => rfl) rfl rfl rfl ?_
    refine jv_if_le (t := 29) (pc' := 25) (a := 0) rfl rfl rfl (by omega) (fun hz_3 => ?_) (fun hz_3 => ?_)
    · skip
      obtain ⟨k, rfl⟩ : ∃ k : Nat, y = ((k : Nat) : Int) := ⟨y.toNat, by omega⟩
      refine jv_aload_n (pc' := 30) (k := 0) (x := 103) rfl rfl rfl rfl ?_
      refine jv_getR (pc' := 33) (c := 12) (k := 28) (v := 124) rfl rfl rfl (fun _ _ => rfl) rfl rfl (jR_103_28 _) ?_
      refine jv_iload_n (pc' := 34) (k := 2) (x := (iI ((k : Nat) : Int))) rfl rfl rfl rfl ?_
      refine jv_laload (pc' := 35) (n := 65) (e := ((k : Nat) : Int)) (v := (lI (s 8 k))) rfl rfl rfl rfl rfl (by omega) ((Dq1.2.2.2 k (by omega)).2.2.2.2.2) ?_
      refine jv_retJ rfl rfl ⟨_, _, rfl, ?_⟩
      first
      | (exfalso; omega)
      | exact ⟨_, _, rfl, (fr_u (by simp [mW]) (fr_t (fr_r _) rq1)), (fr_t (fr_r _) tq1), (CM_n Cq1 (by simp [pers])), Or.inr ⟨by omega, rfl, rfl⟩⟩
    · skip
      exact absurd hz_3 (by decide)
  · skip
    refine jv_iconst (pc' := 11) (n := 1) rfl rfl ?_
    refine jx_step (pc' := 15) rfl ?_
    refine jv_putI (pc' := 18) (c := 12) (k := 0) rfl rfl rfl rfl (fun _ _ _  => rfl) rfl rfl ?_
    refine jv_aload_n (pc' := 19) (k := 0) (x := 103) rfl rfl rfl rfl ?_
    refine jv_getI (pc' := 22) (c := 12) (k := 0) (v := (iI 1)) rfl rfl rfl (fun _ _ => rfl) rfl rfl rfl ?_
    refine jv_if_le (t := 29) (pc' := 25) (a := 1) rfl rfl rfl (by omega) (fun hz_4 => ?_) (fun hz_4 => ?_)
    · skip
      exact absurd hz_4 (by decide)
    · skip
      refine jv_long (pc' := 26) (y := lI 0) rfl (by decide) ?_
      refine jx_step (pc' := 35) rfl ?_
      refine jv_retJ rfl rfl ⟨_, _, rfl, ?_⟩
      first
      | (exfalso; omega)
      | exact ⟨_, _, rfl, (fr_u (by simp [mW]) (fr_t (fr_r _) rq1)), (fr_t (fr_r _) tq1), (CM_n Cq1 (by simp [pers])), Or.inl ⟨by omega, rfl⟩⟩
theorem op_entry_b (hM : CM I M A) (hv : AV2 A ∧ AV4 A ∧ AV5 A) (hx : iR x) (hbad : ¬ (0 ≤ x ∧ x < A 103 12)) : jc L xs (d + 2) 154 [.ref 103, .int (iI x), .int (iI y), .int (iI z)] (jx_G j I M p) (fun v g1 => ∃ I' M', g1 = jx_G j I' M' p ∧ fr mW I I' ∧ fr mV M M' ∧ CM I' M' A ∧ I' 103 0 = iI 1) := by
  unfold jc
  have hv12 := hv.2.2.2.2.1
  refine jv_aload_n (pc' := 1) (k := 0) (x := 103) rfl rfl rfl rfl ?_
  refine jv_aload_n (pc' := 2) (k := 0) (x := 103) rfl rfl rfl rfl ?_
  refine jv_iload_n (pc' := 3) (k := 1) (x := (iI x)) rfl rfl rfl rfl ?_
  refine jv_iload_n (pc' := 4) (k := 2) (x := (iI y)) rfl rfl rfl rfl ?_
  refine jv_call (pc' := 7) rfl (ml_noEntry_b hM hv hx hbad) (fun vq1 gq1 q1 => ?_)
  obtain ⟨rfl, rfl⟩ := q1
  show jx L xs _ 154 7 _ [.int (iI 1), .ref 103] _ _
  refine jv_if_eq (t := 14) (pc' := 10) (a := 1) rfl rfl rfl (by omega) (fun hz_2 => ?_) (fun hz_2 => ?_)
  · skip
    exact absurd hz_2 (by decide)
  · skip
    refine jv_iconst (pc' := 11) (n := 1) rfl rfl ?_
    refine jx_step (pc' := 28) rfl ?_
    refine jv_putI (pc' := 31) (c := 12) (k := 0) rfl rfl rfl rfl (fun _ _ _  => rfl) rfl rfl ?_
    refine jv_aload_n (pc' := 32) (k := 0) (x := 103) rfl rfl rfl rfl ?_
    refine jv_getI (pc' := 35) (c := 12) (k := 0) (v := (iI 1)) rfl rfl rfl (fun _ _ => rfl) rfl rfl rfl ?_
    refine jv_if_le (t := 40) (pc' := 38) (a := 1) rfl rfl rfl (by omega) (fun hz_3 => ?_) (fun hz_3 => ?_)
    · skip
      exact absurd hz_3 (by decide)
    · skip
      refine jv_iconst (pc' := 39) (n := 0) rfl rfl ?_
      refine jv_retI rfl rfl ⟨_, _, rfl, ?_⟩
      first
      | (exfalso; omega)
      | exact ⟨_, _, rfl, (fr_u (by simp [mW]) (fr_r _)), fr_r _, CM_n hM (by simp [pers]), rfl⟩
theorem op_value_b (hM : CM I M A) (hv : AV2 A ∧ AV4 A ∧ AV5 A) (hx : iR x) (hbad : ¬ (0 ≤ x ∧ x < A 103 12)) : jc L xs (d + 2) 155 [.ref 103, .int (iI x), .int (iI y)] (jx_G j I M p) (fun v g1 => ∃ I' M', g1 = jx_G j I' M' p ∧ fr mW I I' ∧ fr mV M M' ∧ CM I' M' A ∧ I' 103 0 = iI 1) := by
  unfold jc
  have hv12 := hv.2.2.2.2.1
  refine jv_aload_n (pc' := 1) (k := 0) (x := 103) rfl rfl rfl rfl ?_
  refine jv_aload_n (pc' := 2) (k := 0) (x := 103) rfl rfl rfl rfl ?_
  refine jv_iload_n (pc' := 3) (k := 1) (x := (iI x)) rfl rfl rfl rfl ?_
  refine jv_iload_n (pc' := 4) (k := 2) (x := (iI y)) rfl rfl rfl rfl ?_
  refine jv_call (pc' := 7) rfl (ml_noEntry_b hM hv hx hbad) (fun vq1 gq1 q1 => ?_)
  obtain ⟨rfl, rfl⟩ := q1
  show jx L xs _ 155 7 _ [.int (iI 1), .ref 103] _ _
  refine jv_if_eq (t := 14) (pc' := 10) (a := 1) rfl rfl rfl (by omega) (fun hz_2 => ?_) (fun hz_2 => ?_)
  · skip
    exact absurd hz_2 (by decide)
  · skip
    refine jv_iconst (pc' := 11) (n := 1) rfl rfl ?_
    refine jx_step (pc' := 15) rfl ?_
    refine jv_putI (pc' := 18) (c := 12) (k := 0) rfl rfl rfl rfl (fun _ _ _  => rfl) rfl rfl ?_
    refine jv_aload_n (pc' := 19) (k := 0) (x := 103) rfl rfl rfl rfl ?_
    refine jv_getI (pc' := 22) (c := 12) (k := 0) (v := (iI 1)) rfl rfl rfl (fun _ _ => rfl) rfl rfl rfl ?_
    refine jv_if_le (t := 29) (pc' := 25) (a := 1) rfl rfl rfl (by omega) (fun hz_3 => ?_) (fun hz_3 => ?_)
    · skip
      exact absurd hz_3 (by decide)
    · skip
      refine jv_long (pc' := 26) (y := lI 0) rfl (by decide) ?_
      refine jx_step (pc' := 35) rfl ?_
      refine jv_retJ rfl rfl ⟨_, _, rfl, ?_⟩
      first
      | (exfalso; omega)
      | exact ⟨_, _, rfl, (fr_u (by simp [mW]) (fr_r _)), fr_r _, CM_n hM (by simp [pers]), rfl⟩
end H5
