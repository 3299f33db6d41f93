section C2_46
variable {L : Nat} {xs : Nat → Int32} {d j : Nat} {I : Nat → Nat → Int32} {M : Nat → Nat → Int64} {p : Nat → Option Nat}
variable {c : Nat → Int} {n a F m : Nat} {Y : Nat → Nat → Int}
theorem cl_hasField_46 (hY : LB I 46 Y m) {x : Int} (hx : -1 ≤ x ∧ x < 8) : jc L xs d 35 [.ref 46, .int (iI x)] (jx_G j I M p) (fun v g1 => v = some (.int (jb (x ≠ -1 ∧ 0 < Y 4 x.toNat))) ∧ g1 = jx_G j I M p) := by
  unfold jc
  refine jv_iload_n (pc' := 1) (k := 1) (x := (iI x)) rfl rfl rfl rfl ?_
  refine jv_iconst (pc' := 2) (n := -1) rfl rfl ?_
  refine jv_ic_eq (t := 18) (pc' := 5) (a := x) (b := (-1)) rfl rfl rfl (by omega) (fun h1 => ?_) (fun h1 => ?_)
  · skip
    refine jv_iconst (pc' := 19) (n := 0) rfl rfl ?_
    refine jv_retZ rfl rfl (by first | exact Or.inl rfl | exact Or.inr rfl) ⟨_, _, rfl, ?_⟩
    exact ⟨jq_f (by omega), rfl⟩
  · skip
    refine jv_aload_n (pc' := 6) (k := 0) (x := 46) rfl rfl rfl rfl ?_
    refine jv_getR (pc' := 9) (c := 2) (k := 4) (v := 51) rfl rfl rfl (fun _ _ => rfl) rfl rfl (jR_46_4 _) ?_
    refine jv_iload_n (pc' := 10) (k := 1) (x := (iI x)) rfl rfl rfl rfl ?_
    refine jv_iaload (pc' := 11) (n := 8) (e := x) (v := (iI (Y 4 (x : Int).toNat))) rfl rfl (by decide) rfl rfl rfl (by omega) ((hY.2.2.2 (x : Int).toNat (by omega)).1) ?_
    have hy := (hY.2.2.2 x.toNat (by omega)).2.2
    refine jv_if_le (t := 18) (pc' := 14) (a := (Y 4 (x : Int).toNat)) rfl rfl rfl (by omega) (fun h2 => ?_) (fun h2 => ?_)
    · skip
      refine jv_iconst (pc' := 19) (n := 0) rfl rfl ?_
      refine jv_retZ rfl rfl (by first | exact Or.inl rfl | exact Or.inr rfl) ⟨_, _, rfl, ?_⟩
      exact ⟨jq_f (by omega), rfl⟩
    · skip
      refine jv_iconst (pc' := 15) (n := 1) rfl rfl ?_
      refine jx_step (pc' := 19) rfl ?_
      refine jv_retZ rfl rfl (by first | exact Or.inl rfl | exact Or.inr rfl) ⟨_, _, rfl, ?_⟩
      exact ⟨jq_t (by omega), rfl⟩
theorem cl_add_46 (hY : LB I 46 Y m) (hm : m < 40) {x y z : Int} : jc L xs d 36 [.ref 46, .int (iI x), .int (iI y), .int (iI z)] (jx_G j I M p) (fun v g1 => ∃ I', g1 = jx_G j I' M p ∧ v = some (.int (iI 1)) ∧ LB I' 46 (Yad Y m x y z) (m + 1) ∧ fr (wT 46) I I') := by
  unfold jc
  refine jv_aload_n (pc' := 1) (k := 0) (x := 46) rfl rfl rfl rfl ?_
  refine jv_getI (pc' := 4) (c := 2) (k := 6) (v := (iI ((m : Nat) : Int))) rfl rfl rfl (fun _ _ => rfl) rfl rfl hY.1 ?_
  refine jv_bipush (pc' := 6) (n := 40) rfl rfl rfl ?_
  refine jv_ic_lt (t := 11) (pc' := 9) (a := ((m : Nat) : Int)) (b := 40) rfl rfl rfl (by omega) (fun h1 => ?_) (fun h1 => ?_)
  · skip
    refine jv_aload_n (pc' := 12) (k := 0) (x := 46) rfl rfl rfl rfl ?_
    refine jv_getR (pc' := 15) (c := 2) (k := 0) (v := 47) rfl rfl rfl (fun _ _ => rfl) rfl rfl (jR_46_0 _) ?_
    refine jv_aload_n (pc' := 16) (k := 0) (x := 46) rfl rfl rfl rfl ?_
    refine jv_getI (pc' := 19) (c := 2) (k := 6) (v := (iI ((m : Nat) : Int))) rfl rfl rfl (fun _ _ => rfl) rfl rfl hY.1 ?_
    refine jv_iload_n (pc' := 20) (k := 1) (x := (iI x)) rfl rfl rfl rfl ?_
    refine jv_iastore (pc' := 21) (n := 40) (e := ((m : Nat) : Int)) (v := (iI x)) rfl rfl rfl rfl rfl (by omega) ?_
    refine jv_aload_n (pc' := 22) (k := 0) (x := 46) rfl rfl rfl rfl ?_
    refine jv_getR (pc' := 25) (c := 2) (k := 1) (v := 48) rfl rfl rfl (fun _ _ => rfl) rfl rfl (jR_46_1 _) ?_
    refine jv_aload_n (pc' := 26) (k := 0) (x := 46) rfl rfl rfl rfl ?_
    refine jv_getI (pc' := 29) (c := 2) (k := 6) (v := (iI ((m : Nat) : Int))) rfl rfl rfl (fun _ _ => rfl) rfl rfl hY.1 ?_
    refine jv_iload_n (pc' := 30) (k := 2) (x := (iI y)) rfl rfl rfl rfl ?_
    refine jv_iastore (pc' := 31) (n := 40) (e := ((m : Nat) : Int)) (v := (iI y)) rfl rfl rfl rfl rfl (by omega) ?_
    refine jv_aload_n (pc' := 32) (k := 0) (x := 46) rfl rfl rfl rfl ?_
    refine jv_getR (pc' := 35) (c := 2) (k := 2) (v := 49) rfl rfl rfl (fun _ _ => rfl) rfl rfl (jR_46_2 _) ?_
    refine jv_aload_n (pc' := 36) (k := 0) (x := 46) rfl rfl rfl rfl ?_
    refine jv_getI (pc' := 39) (c := 2) (k := 6) (v := (iI ((m : Nat) : Int))) rfl rfl rfl (fun _ _ => rfl) rfl rfl hY.1 ?_
    refine jv_iload_n (pc' := 40) (k := 3) (x := (iI z)) rfl rfl rfl rfl ?_
    refine jv_iastore (pc' := 41) (n := 40) (e := ((m : Nat) : Int)) (v := (iI z)) rfl rfl rfl rfl rfl (by omega) ?_
    refine jv_aload_n (pc' := 42) (k := 0) (x := 46) rfl rfl rfl rfl ?_
    refine jv_getR (pc' := 45) (c := 2) (k := 3) (v := 50) rfl rfl rfl (fun _ _ => rfl) rfl rfl (jR_46_3 _) ?_
    refine jv_aload_n (pc' := 46) (k := 0) (x := 46) rfl rfl rfl rfl ?_
    refine jv_getI (pc' := 49) (c := 2) (k := 6) (v := (iI ((m : Nat) : Int))) rfl rfl rfl (fun _ _ => rfl) rfl rfl hY.1 ?_
    refine jv_iconst (pc' := 50) (n := 0) rfl rfl ?_
    refine jv_iastore (pc' := 51) (n := 40) (e := ((m : Nat) : Int)) (v := (iI 0)) rfl rfl rfl rfl rfl (by omega) ?_
    refine jv_aload_n (pc' := 52) (k := 0) (x := 46) rfl rfl rfl rfl ?_
    refine jx_step (pc' := 53) rfl ?_
    refine jv_getI (pc' := 56) (c := 2) (k := 6) (v := (iI ((m : Nat) : Int))) rfl rfl rfl (fun _ _ => rfl) rfl rfl hY.1 ?_
    refine jv_iconst (pc' := 57) (n := 1) rfl rfl ?_
    refine jv_iadd (pc' := 58) (a := ((m : Nat) : Int)) (b := 1) rfl rfl ?_
    refine jv_putI (pc' := 61) (c := 2) (k := 6) rfl rfl rfl rfl (fun _ _ _  => rfl) rfl rfl ?_
    refine jv_iconst (pc' := 62) (n := 1) rfl rfl ?_
    refine jv_retZ rfl rfl (by first | exact Or.inl rfl | exact Or.inr rfl) ⟨_, _, rfl, ?_⟩
    first
    | (exfalso; omega)
    | exact ⟨_, rfl, rfl, LB_add hY hm, (fr_u (by simp [wT]) (fr_u (by simp [wT]) (fr_u (by simp [wT]) (fr_u (by simp [wT]) (fr_u (by simp [wT]) (fr_r _))))))⟩
  · skip
    refine jv_iconst (pc' := 10) (n := 0) rfl rfl ?_
    refine jv_retZ rfl rfl (by first | exact Or.inl rfl | exact Or.inr rfl) ⟨_, _, rfl, ?_⟩
    first
    | (exfalso; omega)
    | exact ⟨_, rfl, rfl, LB_add hY hm, (fr_r _)⟩
theorem cl_takeKnownName_y_46 (hC : CT I 1 c n) (ha : I 11 1 = iI ((a : Nat) : Int)) (hp : p 19 = some 1) (han : a ≤ n) (hq : p 20 = some 46) (hY : LB I 46 Y m) (hN : NF Y F) (hF : F < 256) (hk : knw c F a) : jc L xs (d + 2) 45 [.ref 10] (jx_G j I M p) (fun v g1 => v = some (.int (iI (c a - 97))) ∧ g1 = jx_G j (jm_u I 11 1 (iI ((a + 1 : Nat) : Int))) M p) := by
  unfold jc
  have hn := hC.2.1
  have hk1 := hk.1
  have hk2 := hk.2
  have hk3 := (hN (c a - 97).toNat (by omega)).1 hk2
  refine jv_aload_n (pc' := 1) (k := 0) (x := 10) rfl rfl rfl rfl ?_
  refine jv_getR (pc' := 4) (c := 3) (k := 0) (v := 11) rfl rfl rfl (fun _ _ => rfl) rfl rfl (jR_10_0 _) ?_
  have hm1 := CT_c hC (a)
  have ho1 := CT_or hC (a)
  by_cases hk2 : 97 ≤ c (a) ∧ c (a) ≤ 104
  · skip
    refine jv_call (pc' := 7) rfl (cl_seenName_y_k (I := I) (a := a) hC ha hp (by omega) hk2) (fun vq3 gq3 q3 => ?_)
    obtain ⟨rfl, rfl⟩ := q3
    show jx L xs _ 45 7 _ [.int (iI (c (a) - 97))] _ _
    refine jv_istore_n (pc' := 8) (k := 1) (x := (iI (c (a) - 97))) rfl rfl rfl rfl (Or.inr rfl) ?_
    refine jv_aload_n (pc' := 9) (k := 0) (x := 10) rfl rfl rfl rfl ?_
    refine jv_getR (pc' := 12) (c := 3) (k := 1) (v := 46) rfl rfl rfl (fun _ _ => rfl) rfl rfl hq ?_
    refine jv_iload_n (pc' := 13) (k := 1) (x := (iI (c (a) - 97))) rfl rfl rfl rfl ?_
    refine jv_call (pc' := 16) rfl (cl_hasField_46 (I := I) hY (x := c (a) - 97) (by omega)) (fun vq4 gq4 q4 => ?_)
    obtain ⟨rfl, rfl⟩ := q4
    show jx L xs _ 45 16 _ [.int (jb (c (a) - 97 ≠ -1 ∧ 0 < Y 4 (c (a) - 97 : Int).toNat))] _ _
    refine jv_jb_ne (t := 21) (pc' := 19) (P := c (a) - 97 ≠ -1 ∧ 0 < Y 4 (c (a) - 97 : Int).toNat) rfl rfl rfl (fun h5 => ?_) (fun h5 => ?_)
    · skip
      refine jv_aload_n (pc' := 22) (k := 0) (x := 10) rfl rfl rfl rfl ?_
      refine jv_getR (pc' := 25) (c := 3) (k := 0) (v := 11) rfl rfl rfl (fun _ _ => rfl) rfl rfl (jR_10_0 _) ?_
      refine jx_step (pc' := 26) rfl ?_
      refine jv_getI (pc' := 29) (c := 4) (k := 1) (v := (iI ((a : Nat) : Int))) rfl rfl rfl (fun _ _ => rfl) rfl rfl ha ?_
      refine jv_iconst (pc' := 30) (n := 1) rfl rfl ?_
      refine jv_iadd (pc' := 31) (a := ((a : Nat) : Int)) (b := 1) rfl rfl ?_
      refine jv_putI (pc' := 34) (c := 4) (k := 1) rfl rfl rfl rfl (fun _ _ _  => rfl) rfl rfl ?_
      refine jv_iload_n (pc' := 35) (k := 1) (x := (iI (c (a) - 97))) rfl rfl rfl rfl ?_
      refine jv_retI rfl rfl ⟨_, _, rfl, ?_⟩
      first
      | (exfalso; omega)
      | exact ⟨rfl, rfl⟩
      | (exfalso; simp_all; done)
    · skip
      refine jv_iconst (pc' := 20) (n := -1) rfl rfl ?_
      refine jv_retI rfl rfl ⟨_, _, rfl, ?_⟩
      first
      | (exfalso; omega)
      | exact ⟨rfl, rfl⟩
      | (exfalso; simp_all; done)
  · skip
    refine jv_call (pc' := 7) rfl (cl_seenName_n_k (I := I) (a := a) hC ha hp (by omega) hk2) (fun vq6 gq6 q6 => ?_)
    obtain ⟨rfl, rfl⟩ := q6
    show jx L xs _ 45 7 _ [.int (iI (-1))] _ _
    refine jv_istore_n (pc' := 8) (k := 1) (x := (iI (-1))) rfl rfl rfl rfl (Or.inr rfl) ?_
    refine jv_aload_n (pc' := 9) (k := 0) (x := 10) rfl rfl rfl rfl ?_
    refine jv_getR (pc' := 12) (c := 3) (k := 1) (v := 46) rfl rfl rfl (fun _ _ => rfl) rfl rfl hq ?_
    refine jv_iload_n (pc' := 13) (k := 1) (x := (iI (-1))) rfl rfl rfl rfl ?_
    refine jv_call (pc' := 16) rfl (cl_hasField_46 (I := I) hY (x := -1) (by omega)) (fun vq7 gq7 q7 => ?_)
    obtain ⟨rfl, rfl⟩ := q7
    show jx L xs _ 45 16 _ [.int (jb (-1 ≠ -1 ∧ 0 < Y 4 (-1 : Int).toNat))] _ _
    refine jv_jb_ne (t := 21) (pc' := 19) (P := -1 ≠ -1 ∧ 0 < Y 4 (-1 : Int).toNat) rfl rfl rfl (fun h8 => ?_) (fun h8 => ?_)
    · skip
      refine jv_aload_n (pc' := 22) (k := 0) (x := 10) rfl rfl rfl rfl ?_
      refine jv_getR (pc' := 25) (c := 3) (k := 0) (v := 11) rfl rfl rfl (fun _ _ => rfl) rfl rfl (jR_10_0 _) ?_
      refine jx_step (pc' := 26) rfl ?_
      refine jv_getI (pc' := 29) (c := 4) (k := 1) (v := (iI ((a : Nat) : Int))) rfl rfl rfl (fun _ _ => rfl) rfl rfl ha ?_
      refine jv_iconst (pc' := 30) (n := 1) rfl rfl ?_
      refine jv_iadd (pc' := 31) (a := ((a : Nat) : Int)) (b := 1) rfl rfl ?_
      refine jv_putI (pc' := 34) (c := 4) (k := 1) rfl rfl rfl rfl (fun _ _ _  => rfl) rfl rfl ?_
      refine jv_iload_n (pc' := 35) (k := 1) (x := (iI (-1))) rfl rfl rfl rfl ?_
      refine jv_retI rfl rfl ⟨_, _, rfl, ?_⟩
      first
      | (exfalso; omega)
      | exact ⟨rfl, rfl⟩
      | (exfalso; simp_all; done)
    · skip
      refine jv_iconst (pc' := 20) (n := -1) rfl rfl ?_
      refine jv_retI rfl rfl ⟨_, _, rfl, ?_⟩
      first
      | (exfalso; omega)
      | exact ⟨rfl, rfl⟩
      | (exfalso; simp_all; done)
theorem cl_takeKnownName_n_46 (hC : CT I 1 c n) (ha : I 11 1 = iI ((a : Nat) : Int)) (hp : p 19 = some 1) (han : a ≤ n) (hq : p 20 = some 46) (hY : LB I 46 Y m) (hN : NF Y F) (hF : F < 256) (hk : ¬ knw c F a) : jc L xs (d + 2) 45 [.ref 10] (jx_G j I M p) (fun v g1 => v = some (.int (iI (-1))) ∧ g1 = jx_G j I M p) := by
  unfold jc
  have hn := hC.2.1
  refine jv_aload_n (pc' := 1) (k := 0) (x := 10) rfl rfl rfl rfl ?_
  refine jv_getR (pc' := 4) (c := 3) (k := 0) (v := 11) rfl rfl rfl (fun _ _ => rfl) rfl rfl (jR_10_0 _) ?_
  have hm1 := CT_c hC (a)
  have ho1 := CT_or hC (a)
  by_cases hk2 : 97 ≤ c (a) ∧ c (a) ≤ 104
  · skip
    refine jv_call (pc' := 7) rfl (cl_seenName_y_k (I := I) (a := a) hC ha hp (by omega) hk2) (fun vq3 gq3 q3 => ?_)
    obtain ⟨rfl, rfl⟩ := q3
    show jx L xs _ 45 7 _ [.int (iI (c (a) - 97))] _ _
    refine jv_istore_n (pc' := 8) (k := 1) (x := (iI (c (a) - 97))) rfl rfl rfl rfl (Or.inr rfl) ?_
    refine jv_aload_n (pc' := 9) (k := 0) (x := 10) rfl rfl rfl rfl ?_
    refine jv_getR (pc' := 12) (c := 3) (k := 1) (v := 46) rfl rfl rfl (fun _ _ => rfl) rfl rfl hq ?_
    refine jv_iload_n (pc' := 13) (k := 1) (x := (iI (c (a) - 97))) rfl rfl rfl rfl ?_
    refine jv_call (pc' := 16) rfl (cl_hasField_46 (I := I) hY (x := c (a) - 97) (by omega)) (fun vq4 gq4 q4 => ?_)
    obtain ⟨rfl, rfl⟩ := q4
    show jx L xs _ 45 16 _ [.int (jb (c (a) - 97 ≠ -1 ∧ 0 < Y 4 (c (a) - 97 : Int).toNat))] _ _
    refine jv_jb_ne (t := 21) (pc' := 19) (P := c (a) - 97 ≠ -1 ∧ 0 < Y 4 (c (a) - 97 : Int).toNat) rfl rfl rfl (fun h5 => ?_) (fun h5 => ?_)
    · skip
      refine jv_aload_n (pc' := 22) (k := 0) (x := 10) rfl rfl rfl rfl ?_
      refine jv_getR (pc' := 25) (c := 3) (k := 0) (v := 11) rfl rfl rfl (fun _ _ => rfl) rfl rfl (jR_10_0 _) ?_
      refine jx_step (pc' := 26) rfl ?_
      refine jv_getI (pc' := 29) (c := 4) (k := 1) (v := (iI ((a : Nat) : Int))) rfl rfl rfl (fun _ _ => rfl) rfl rfl ha ?_
      refine jv_iconst (pc' := 30) (n := 1) rfl rfl ?_
      refine jv_iadd (pc' := 31) (a := ((a : Nat) : Int)) (b := 1) rfl rfl ?_
      refine jv_putI (pc' := 34) (c := 4) (k := 1) rfl rfl rfl rfl (fun _ _ _  => rfl) rfl rfl ?_
      refine jv_iload_n (pc' := 35) (k := 1) (x := (iI (c (a) - 97))) rfl rfl rfl rfl ?_
      refine jv_retI rfl rfl ⟨_, _, rfl, ?_⟩
      first
      | (exfalso; omega)
      | exact ⟨rfl, rfl⟩
      | (exfalso; exact hk ⟨by omega, (hN (c a - 97).toNat (by omega)).2 (by simp_all)⟩)
    · skip
      refine jv_iconst (pc' := 20) (n := -1) rfl rfl ?_
      refine jv_retI rfl rfl ⟨_, _, rfl, ?_⟩
      first
      | (exfalso; omega)
      | exact ⟨rfl, rfl⟩
      | (exfalso; exact hk ⟨by omega, (hN (c a - 97).toNat (by omega)).2 (by simp_all)⟩)
  · skip
    refine jv_call (pc' := 7) rfl (cl_seenName_n_k (I := I) (a := a) hC ha hp (by omega) hk2) (fun vq6 gq6 q6 => ?_)
    obtain ⟨rfl, rfl⟩ := q6
    show jx L xs _ 45 7 _ [.int (iI (-1))] _ _
    refine jv_istore_n (pc' := 8) (k := 1) (x := (iI (-1))) rfl rfl rfl rfl (Or.inr rfl) ?_
    refine jv_aload_n (pc' := 9) (k := 0) (x := 10) rfl rfl rfl rfl ?_
    refine jv_getR (pc' := 12) (c := 3) (k := 1) (v := 46) rfl rfl rfl (fun _ _ => rfl) rfl rfl hq ?_
    refine jv_iload_n (pc' := 13) (k := 1) (x := (iI (-1))) rfl rfl rfl rfl ?_
    refine jv_call (pc' := 16) rfl (cl_hasField_46 (I := I) hY (x := -1) (by omega)) (fun vq7 gq7 q7 => ?_)
    obtain ⟨rfl, rfl⟩ := q7
    show jx L xs _ 45 16 _ [.int (jb (-1 ≠ -1 ∧ 0 < Y 4 (-1 : Int).toNat))] _ _
    refine jv_jb_ne (t := 21) (pc' := 19) (P := -1 ≠ -1 ∧ 0 < Y 4 (-1 : Int).toNat) rfl rfl rfl (fun h8 => ?_) (fun h8 => ?_)
    · skip
      refine jv_aload_n (pc' := 22) (k := 0) (x := 10) rfl rfl rfl rfl ?_
      refine jv_getR (pc' := 25) (c := 3) (k := 0) (v := 11) rfl rfl rfl (fun _ _ => rfl) rfl rfl (jR_10_0 _) ?_
      refine jx_step (pc' := 26) rfl ?_
      refine jv_getI (pc' := 29) (c := 4) (k := 1) (v := (iI ((a : Nat) : Int))) rfl rfl rfl (fun _ _ => rfl) rfl rfl ha ?_
      refine jv_iconst (pc' := 30) (n := 1) rfl rfl ?_
      refine jv_iadd (pc' := 31) (a := ((a : Nat) : Int)) (b := 1) rfl rfl ?_
      refine jv_putI (pc' := 34) (c := 4) (k := 1) rfl rfl rfl rfl (fun _ _ _  => rfl) rfl rfl ?_
      refine jv_iload_n (pc' := 35) (k := 1) (x := (iI (-1))) rfl rfl rfl rfl ?_
      refine jv_retI rfl rfl ⟨_, _, rfl, ?_⟩
      first
      | (exfalso; omega)
      | exact ⟨rfl, rfl⟩
      | (exfalso; exact hk ⟨by omega, (hN (c a - 97).toNat (by omega)).2 (by simp_all)⟩)
    · skip
      refine jv_iconst (pc' := 20) (n := -1) rfl rfl ?_
      refine jv_retI rfl rfl ⟨_, _, rfl, ?_⟩
      first
      | (exfalso; omega)
      | exact ⟨rfl, rfl⟩
      | (exfalso; exact hk ⟨by omega, (hN (c a - 97).toNat (by omega)).2 (by simp_all)⟩)
theorem cl_readCount_46 (hC : CT I 1 c n) (ha : I 11 1 = iI ((a : Nat) : Int)) (hp : p 19 = some 1) (han : a ≤ n) (hq : p 20 = some 46) (hY : LB I 46 Y m) (hN : NF Y F) (hF : F < 256) (hm : m < 40) {x : Int} : jc L xs (d + 3) 43 [.ref 10, .int (iI x)] (jx_G j I M p) (fun v g1 => ∃ I', g1 = jx_G j I' M p ∧ fr (wL 46) I I' ∧ ((cnO c F a ∧ v = some (.int (iI 1)) ∧ I' 11 1 = iI ((a + 1 : Nat) : Int) ∧ ∃ nm, LB I' 46 (Yad Y m x nm 0) (m + 1) ∧ CN c (Yad Y m x nm 0) m a ∧ (¬ x ≤ 2 → UQ Y m → UQ (Yad Y m x nm 0) (m + 1))) ∨ (¬ cnO c F a ∧ v = some (.int (iI 0)) ∧ I' 11 1 = iI ((a : Nat) : Int)))) := by
  unfold jc
  have hn := hC.2.1
  refine jv_aload_n (pc' := 1) (k := 0) (x := 10) rfl rfl rfl rfl ?_
  refine jv_getR (pc' := 4) (c := 3) (k := 0) (v := 11) rfl rfl rfl (fun _ _ => rfl) rfl rfl (jR_10_0 _) ?_
  refine jv_bipush (pc' := 6) (n := 42) rfl rfl rfl ?_
  have hm1 := CT_c hC (a)
  have ho1 := CT_or hC (a)
  by_cases hk2 : c (a) = 42
  · skip
    refine jv_call (pc' := 9) rfl (cl_take_y_k (I := I) (a := a) hC ha hp (by omega) (x := 42) (by omega) hk2) (fun vq3 gq3 q3 => ?_)
    obtain ⟨rfl, rfl⟩ := q3
    show jx L xs _ 43 9 _ [.int (iI 1)] _ _
    refine jv_if_eq (t := 23) (pc' := 12) (a := 1) rfl rfl rfl (by omega) (fun h4 => ?_) (fun h4 => ?_)
    · skip
      exact absurd h4 (by decide)
    · skip
      refine jv_aload_n (pc' := 13) (k := 0) (x := 10) rfl rfl rfl rfl ?_
      refine jv_getR (pc' := 16) (c := 3) (k := 1) (v := 46) rfl rfl rfl (fun _ _ => rfl) rfl rfl hq ?_
      refine jv_iload_n (pc' := 17) (k := 1) (x := (iI x)) rfl rfl rfl rfl ?_
      refine jv_iconst (pc' := 18) (n := -1) rfl rfl ?_
      refine jv_iconst (pc' := 19) (n := 0) rfl rfl ?_
      refine jv_call (pc' := 22) rfl (cl_add_46 (I := jm_u I 11 1 (iI ((a + 1 : Nat) : Int))) hY (by omega)) (fun vq5 gq5 q5 => ?_)
      obtain ⟨Iq5, rfl, rfl, Yq5, rq5⟩ := q5
      have Cq5 := CT_fr (I := jm_u I 11 1 (iI ((a + 1 : Nat) : Int))) (t := 1) (c := c) (n := n) hC rq5 (by simp [wT]) (fun k => by simp [wT])
      show jx L xs _ 43 22 _ [.int (iI 1)] _ _
      refine jv_retZ rfl rfl (by first | exact Or.inl rfl | exact Or.inr rfl) ⟨_, _, rfl, ?_⟩
      first
      | (exfalso; omega)
      | exact ⟨_, rfl, (fr_t (fr_u (by simp [wL]) (fr_r _)) (fr_w rq5 (wT_L 46))), Or.inl ⟨Or.inl hk2, rfl, ((rq5 11 1 (by simp [wT])).trans rfl), _, Yq5, Or.inl ⟨hk2, by simp [Yad]⟩, fun z1 z2 => UQ_ad z1 (Or.inl rfl) z2⟩⟩
  · skip
    refine jv_call (pc' := 9) rfl (cl_take_n_k (I := I) (a := a) hC ha hp (by omega) (x := 42) (by omega) hk2) (fun vq6 gq6 q6 => ?_)
    obtain ⟨rfl, rfl⟩ := q6
    show jx L xs _ 43 9 _ [.int (iI 0)] _ _
    refine jv_if_eq (t := 23) (pc' := 12) (a := 0) rfl rfl rfl (by omega) (fun h7 => ?_) (fun h7 => ?_)
    · skip
      refine jv_aload_n (pc' := 24) (k := 0) (x := 10) rfl rfl rfl rfl ?_
      have hm8 := CT_c hC (a)
      have ho8 := CT_or hC (a)
      by_cases hk9 : knw c F (a)
      · skip
        have hhk9 := hk9.1
        refine jv_call (pc' := 27) rfl (cl_takeKnownName_y_46 (I := I) (a := a) (F := F) hC ha hp  (by omega) hq hY hN hF hk9) (fun vq10 gq10 q10 => ?_)
        obtain ⟨rfl, rfl⟩ := q10
        show jx L xs _ 43 27 _ [.int (iI (c (a) - 97))] _ _
        refine jv_istore_n (pc' := 28) (k := 2) (x := (iI (c (a) - 97))) rfl rfl rfl rfl (Or.inr rfl) ?_
        refine jv_iload_n (pc' := 29) (k := 2) (x := (iI (c (a) - 97))) rfl rfl rfl rfl ?_
        refine jv_iconst (pc' := 30) (n := -1) rfl rfl ?_
        refine jv_ic_eq (t := 50) (pc' := 33) (a := (c (a) - 97)) (b := (-1)) rfl rfl rfl (by omega) (fun h11 => ?_) (fun h11 => ?_)
        · skip
          refine jv_iconst (pc' := 51) (n := 0) rfl rfl ?_
          refine jv_retZ rfl rfl (by first | exact Or.inl rfl | exact Or.inr rfl) ⟨_, _, rfl, ?_⟩
          first
          | (exfalso; omega)
          | exact ⟨_, rfl, (fr_u (by simp [wL]) (fr_r _)), Or.inr ⟨(fun q => q.elim (by assumption) (by assumption)), rfl, rfl⟩⟩
        · skip
          refine jv_aload_n (pc' := 34) (k := 0) (x := 10) rfl rfl rfl rfl ?_
          refine jv_getR (pc' := 37) (c := 3) (k := 1) (v := 46) rfl rfl rfl (fun _ _ => rfl) rfl rfl hq ?_
          refine jv_iload_n (pc' := 38) (k := 1) (x := (iI x)) rfl rfl rfl rfl ?_
          refine jv_iload_n (pc' := 39) (k := 2) (x := (iI (c (a) - 97))) rfl rfl rfl rfl ?_
          refine jv_iconst (pc' := 40) (n := 0) rfl rfl ?_
          refine jv_call (pc' := 43) rfl (cl_add_46 (I := jm_u I 11 1 (iI ((a + 1 : Nat) : Int))) hY (by omega)) (fun vq12 gq12 q12 => ?_)
          obtain ⟨Iq12, rfl, rfl, Yq12, rq12⟩ := q12
          have Cq12 := CT_fr (I := jm_u I 11 1 (iI ((a + 1 : Nat) : Int))) (t := 1) (c := c) (n := n) hC rq12 (by simp [wT]) (fun k => by simp [wT])
          show jx L xs _ 43 43 _ [.int (iI 1)] _ _
          refine jv_if_eq (t := 50) (pc' := 46) (a := 1) rfl rfl rfl (by omega) (fun h13 => ?_) (fun h13 => ?_)
          · skip
            exact absurd h13 (by decide)
          · skip
            refine jv_iconst (pc' := 47) (n := 1) rfl rfl ?_
            refine jx_step (pc' := 51) rfl ?_
            refine jv_retZ rfl rfl (by first | exact Or.inl rfl | exact Or.inr rfl) ⟨_, _, rfl, ?_⟩
            first
            | (exfalso; omega)
            | exact ⟨_, rfl, (fr_t (fr_u (by simp [wL]) (fr_r _)) (fr_w rq12 (wT_L 46))), Or.inl ⟨Or.inr (by assumption), rfl, ((rq12 11 1 (by simp [wT])).trans rfl), _, Yq12, Or.inr ⟨by assumption, by omega, by simp [Yad]⟩, fun z1 z2 => UQ_ad z1 (Or.inr ⟨by omega, by omega, (hN (c a - 97).toNat (by omega)).1 hk9.2⟩) z2⟩⟩
      · skip
        refine jv_call (pc' := 27) rfl (cl_takeKnownName_n_46 (I := I) (a := a) (F := F) hC ha hp  (by omega) hq hY hN hF hk9) (fun vq14 gq14 q14 => ?_)
        obtain ⟨rfl, rfl⟩ := q14
        show jx L xs _ 43 27 _ [.int (iI (-1))] _ _
        refine jv_istore_n (pc' := 28) (k := 2) (x := (iI (-1))) rfl rfl rfl rfl (Or.inr rfl) ?_
        refine jv_iload_n (pc' := 29) (k := 2) (x := (iI (-1))) rfl rfl rfl rfl ?_
        refine jv_iconst (pc' := 30) (n := -1) rfl rfl ?_
        refine jv_ic_eq (t := 50) (pc' := 33) (a := (-1)) (b := (-1)) rfl rfl rfl (by omega) (fun h15 => ?_) (fun h15 => ?_)
        · skip
          refine jv_iconst (pc' := 51) (n := 0) rfl rfl ?_
          refine jv_retZ rfl rfl (by first | exact Or.inl rfl | exact Or.inr rfl) ⟨_, _, rfl, ?_⟩
          first
          | (exfalso; omega)
          | exact ⟨_, rfl, (fr_r _), Or.inr ⟨(fun q => q.elim (by assumption) (by assumption)), rfl, ha⟩⟩
        · skip
          exact absurd h15 (by decide)
    · skip
      exact absurd h7 (by decide)
theorem cl_readCondition_46 (hC : CT I 1 c n) (ha : I 11 1 = iI ((a + 1 : Nat) : Int)) (hp : p 19 = some 1) (han : a + 1 ≤ n) (hq : p 20 = some 46) (hY : LB I 46 Y m) (hN : NF Y F) (hF : F < 256) (hm : m < 40) : jc L xs (d + 3) 44 [.ref 10] (jx_G j I M p) (fun v g1 => ∃ I', g1 = jx_G j I' M p ∧ fr (wL 46) I I' ∧ ((cdO c F a ∧ v = some (.int (iI 1)) ∧ I' 11 1 = iI ((a + 3 + nd c (a + 3) : Nat) : Int) ∧ ∃ kd, LB I' 46 (Yad Y m kd (c (a + 1) - 97) (nv c (a + 3))) (m + 1) ∧ ((c (a + 2) = 61 ∧ kd = 5) ∨ (c (a + 2) = 60 ∧ kd = 6)) ∧ (UQ Y m → UQ (Yad Y m kd (c (a + 1) - 97) (nv c (a + 3))) (m + 1))) ∨ (¬ cdO c F a ∧ v = some (.int (iI 0)) ∧ I' 11 1 = iI ((op2 c F a : Nat) : Int)))) := by
  unfold jc
  have hn := hC.2.1
  refine jv_aload_n (pc' := 1) (k := 0) (x := 10) rfl rfl rfl rfl ?_
  have hm1 := CT_c hC (a + 1)
  have ho1 := CT_or hC (a + 1)
  by_cases hk2 : knw c F (a + 1)
  · skip
    have hhk2 := hk2.1
    refine jv_call (pc' := 4) rfl (cl_takeKnownName_y_46 (I := I) (a := a + 1) (F := F) hC ha hp  (by omega) hq hY hN hF hk2) (fun vq3 gq3 q3 => ?_)
    obtain ⟨rfl, rfl⟩ := q3
    show jx L xs _ 44 4 _ [.int (iI (c (a + 1) - 97))] _ _
    refine jv_istore_n (pc' := 5) (k := 1) (x := (iI (c (a + 1) - 97))) rfl rfl rfl rfl (Or.inr rfl) ?_
    refine jv_iload_n (pc' := 6) (k := 1) (x := (iI (c (a + 1) - 97))) rfl rfl rfl rfl ?_
    refine jv_iconst (pc' := 7) (n := -1) rfl rfl ?_
    refine jv_ic_ne (t := 12) (pc' := 10) (a := (c (a + 1) - 97)) (b := (-1)) rfl rfl rfl (by omega) (fun h4 => ?_) (fun h4 => ?_)
    · skip
      refine jv_aload_n (pc' := 13) (k := 0) (x := 10) rfl rfl rfl rfl ?_
      refine jv_getR (pc' := 16) (c := 3) (k := 0) (v := 11) rfl rfl rfl (fun _ _ => rfl) rfl rfl (jR_10_0 _) ?_
      refine jv_bipush (pc' := 18) (n := 61) rfl rfl rfl ?_
      have hm5 := CT_c hC (a + 2)
      have ho5 := CT_or hC (a + 2)
      by_cases hk6 : c (a + 2) = 61
      · skip
        refine jv_call (pc' := 21) rfl (cl_sees_y_k (I := jm_u I 11 1 (iI ((a + 2 : Nat) : Int))) (a := a + 2) hC rfl hp (by omega) (x := 61) (by omega) hk6) (fun vq7 gq7 q7 => ?_)
        obtain ⟨rfl, rfl⟩ := q7
        show jx L xs _ 44 21 _ [.int (iI 1)] _ _
        refine jv_if_eq (t := 28) (pc' := 24) (a := 1) rfl rfl rfl (by omega) (fun h8 => ?_) (fun h8 => ?_)
        · skip
          exact absurd h8 (by decide)
        · skip
          refine jv_iconst (pc' := 25) (n := 5) rfl rfl ?_
          refine jx_step (pc' := 30) rfl ?_
          refine jv_istore_n (pc' := 31) (k := 2) (x := (iI 5)) rfl rfl rfl rfl (Or.inr rfl) ?_
          refine jv_aload_n (pc' := 32) (k := 0) (x := 10) rfl rfl rfl rfl ?_
          refine jv_getR (pc' := 35) (c := 3) (k := 0) (v := 11) rfl rfl rfl (fun _ _ => rfl) rfl rfl (jR_10_0 _) ?_
          refine jv_bipush (pc' := 37) (n := 61) rfl rfl rfl ?_
          have hm9 := CT_c hC (a + 2)
          have ho9 := CT_or hC (a + 2)
          by_cases hk10 : c (a + 2) = 61
          · skip
            refine jv_call (pc' := 40) rfl (cl_take_y_k (I := jm_u I 11 1 (iI ((a + 2 : Nat) : Int))) (a := a + 2) hC rfl hp (by omega) (x := 61) (by omega) hk10) (fun vq11 gq11 q11 => ?_)
            obtain ⟨rfl, rfl⟩ := q11
            show jx L xs _ 44 40 _ [.int (iI 1)] _ _
            refine jv_if_ne (t := 55) (pc' := 43) (a := 1) rfl rfl rfl (by omega) (fun h12 => ?_) (fun h12 => ?_)
            · skip
              refine jv_aload_n (pc' := 56) (k := 0) (x := 10) rfl rfl rfl rfl ?_
              refine jv_getR (pc' := 59) (c := 3) (k := 0) (v := 11) rfl rfl rfl (fun _ _ => rfl) rfl rfl (jR_10_0 _) ?_
              have hm13 := CT_c hC (a + 3)
              have ho13 := CT_or hC (a + 3)
              have := nd_le c (a + 3)
              have := nv_b c (a + 3)
              have := CT_nd hC 6 (a + 3) (by omega)
              have : nd c (a + 3) = ndk c 6 (a + 3) := rfl
              by_cases hk14 : 0 < nd c (a + 3)
              · skip
                refine jv_call (pc' := 62) rfl (cl_takeNumber_ky (I := jm_u (jm_u I 11 1 (iI ((a + 2 : Nat) : Int))) 11 1 (iI ((a + 3 : Nat) : Int))) (a := a + 3) hC rfl hp (by omega) (by omega) hk14) (fun vq15 gq15 q15 => ?_)
                obtain ⟨rfl, rfl⟩ := q15
                show jx L xs _ 44 62 _ [.int (iI 1)] _ _
                refine jv_if_eq (t := 88) (pc' := 65) (a := 1) rfl rfl rfl (by omega) (fun h16 => ?_) (fun h16 => ?_)
                · skip
                  exact absurd h16 (by decide)
                · skip
                  refine jv_aload_n (pc' := 66) (k := 0) (x := 10) rfl rfl rfl rfl ?_
                  refine jv_getR (pc' := 69) (c := 3) (k := 1) (v := 46) rfl rfl rfl (fun _ _ => rfl) rfl rfl hq ?_
                  refine jv_iload_n (pc' := 70) (k := 2) (x := (iI 5)) rfl rfl rfl rfl ?_
                  refine jv_iload_n (pc' := 71) (k := 1) (x := (iI (c (a + 1) - 97))) rfl rfl rfl rfl ?_
                  refine jv_aload_n (pc' := 72) (k := 0) (x := 10) rfl rfl rfl rfl ?_
                  refine jv_getR (pc' := 75) (c := 3) (k := 0) (v := 11) rfl rfl rfl (fun _ _ => rfl) rfl rfl (jR_10_0 _) ?_
                  refine jv_getI (pc' := 78) (c := 4) (k := 2) (v := (iI (nv c (a + 3)))) rfl rfl rfl (fun _ _ => rfl) rfl rfl rfl ?_
                  refine jv_call (pc' := 81) rfl (cl_add_46 (I := jm_u (jm_u (jm_u (jm_u I 11 1 (iI ((a + 2 : Nat) : Int))) 11 1 (iI ((a + 3 : Nat) : Int))) 11 2 (iI (nv c (a + 3)))) 11 1 (iI ((a + 3 + nd c (a + 3) : Nat) : Int))) hY (by omega)) (fun vq17 gq17 q17 => ?_)
                  obtain ⟨Iq17, rfl, rfl, Yq17, rq17⟩ := q17
                  have Cq17 := CT_fr (I := jm_u (jm_u (jm_u (jm_u I 11 1 (iI ((a + 2 : Nat) : Int))) 11 1 (iI ((a + 3 : Nat) : Int))) 11 2 (iI (nv c (a + 3)))) 11 1 (iI ((a + 3 + nd c (a + 3) : Nat) : Int))) (t := 1) (c := c) (n := n) hC rq17 (by simp [wT]) (fun k => by simp [wT])
                  show jx L xs _ 44 81 _ [.int (iI 1)] _ _
                  refine jv_if_eq (t := 88) (pc' := 84) (a := 1) rfl rfl rfl (by omega) (fun h18 => ?_) (fun h18 => ?_)
                  · skip
                    exact absurd h18 (by decide)
                  · skip
                    refine jv_iconst (pc' := 85) (n := 1) rfl rfl ?_
                    refine jx_step (pc' := 89) rfl ?_
                    refine jv_retZ rfl rfl (by first | exact Or.inl rfl | exact Or.inr rfl) ⟨_, _, rfl, ?_⟩
                    first
                    | (exfalso; omega)
                    | (exact ⟨_, rfl, (fr_t (fr_u (by simp [wL]) (fr_u (by simp [wL]) (fr_u (by simp [wL]) (fr_u (by simp [wL]) (fr_r _))))) (fr_w rq17 (wT_L 46))), Or.inl ⟨⟨by assumption, by omega, by assumption⟩, rfl, ((rq17 11 1 (by simp [wT])).trans rfl), _, Yq17, by omega, fun z2 => UQ_ad (by omega) (Or.inr ⟨by omega, by omega, (hN (c (a + 1) - 97).toNat (by omega)).1 hk2.2⟩) z2⟩⟩)
              · skip
                refine jv_call (pc' := 62) rfl (cl_takeNumber_kn (I := jm_u (jm_u I 11 1 (iI ((a + 2 : Nat) : Int))) 11 1 (iI ((a + 3 : Nat) : Int))) (a := a + 3) hC rfl hp (by omega) (by omega) hk14) (fun vq19 gq19 q19 => ?_)
                obtain ⟨rfl, rfl⟩ := q19
                show jx L xs _ 44 62 _ [.int (iI 0)] _ _
                refine jv_if_eq (t := 88) (pc' := 65) (a := 0) rfl rfl rfl (by omega) (fun h20 => ?_) (fun h20 => ?_)
                · skip
                  refine jv_iconst (pc' := 89) (n := 0) rfl rfl ?_
                  refine jv_retZ rfl rfl (by first | exact Or.inl rfl | exact Or.inr rfl) ⟨_, _, rfl, ?_⟩
                  first
                  | (exfalso; omega)
                  | (refine ⟨_, rfl, (fr_u (by simp [wL]) (fr_u (by simp [wL]) (fr_u (by simp [wL]) (fr_u (by simp [wL]) (fr_r _))))), Or.inr ⟨?_, rfl, ?_⟩⟩
                     · intro q; obtain ⟨q1, q2, q3⟩ := q; first | (exfalso; omega) | contradiction
                     · refine rfl.trans (congrArg (fun z : Nat => iI (z : Int)) ?_); simp [op2, hk2, hk6, hk10, hk14])
                · skip
                  exact absurd h20 (by decide)
            · skip
              exact absurd h12 (by decide)
          · skip
            refine jv_call (pc' := 40) rfl (cl_take_n_k (I := jm_u I 11 1 (iI ((a + 2 : Nat) : Int))) (a := a + 2) hC rfl hp (by omega) (x := 61) (by omega) hk10) (fun vq21 gq21 q21 => ?_)
            obtain ⟨rfl, rfl⟩ := q21
            show jx L xs _ 44 40 _ [.int (iI 0)] _ _
            refine jv_if_ne (t := 55) (pc' := 43) (a := 0) rfl rfl rfl (by omega) (fun h22 => ?_) (fun h22 => ?_)
            · skip
              exact absurd h22 (by decide)
            · skip
              refine jv_aload_n (pc' := 44) (k := 0) (x := 10) rfl rfl rfl rfl ?_
              refine jv_getR (pc' := 47) (c := 3) (k := 0) (v := 11) rfl rfl rfl (fun _ _ => rfl) rfl rfl (jR_10_0 _) ?_
              refine jv_bipush (pc' := 49) (n := 60) rfl rfl rfl ?_
              have hm23 := CT_c hC (a + 2)
              have ho23 := CT_or hC (a + 2)
              by_cases hk24 : c (a + 2) = 60
              · skip
                refine jv_call (pc' := 52) rfl (cl_take_y_k (I := jm_u I 11 1 (iI ((a + 2 : Nat) : Int))) (a := a + 2) hC rfl hp (by omega) (x := 60) (by omega) hk24) (fun vq25 gq25 q25 => ?_)
                obtain ⟨rfl, rfl⟩ := q25
                show jx L xs _ 44 52 _ [.int (iI 1)] _ _
                refine jv_if_eq (t := 88) (pc' := 55) (a := 1) rfl rfl rfl (by omega) (fun h26 => ?_) (fun h26 => ?_)
                · skip
                  exact absurd h26 (by decide)
                · skip
                  refine jv_aload_n (pc' := 56) (k := 0) (x := 10) rfl rfl rfl rfl ?_
                  refine jv_getR (pc' := 59) (c := 3) (k := 0) (v := 11) rfl rfl rfl (fun _ _ => rfl) rfl rfl (jR_10_0 _) ?_
                  have hm27 := CT_c hC (a + 3)
                  have ho27 := CT_or hC (a + 3)
                  have := nd_le c (a + 3)
                  have := nv_b c (a + 3)
                  have := CT_nd hC 6 (a + 3) (by omega)
                  have : nd c (a + 3) = ndk c 6 (a + 3) := rfl
                  by_cases hk28 : 0 < nd c (a + 3)
                  · skip
                    refine jv_call (pc' := 62) rfl (cl_takeNumber_ky (I := jm_u (jm_u I 11 1 (iI ((a + 2 : Nat) : Int))) 11 1 (iI ((a + 3 : Nat) : Int))) (a := a + 3) hC rfl hp (by omega) (by omega) hk28) (fun vq29 gq29 q29 => ?_)
                    obtain ⟨rfl, rfl⟩ := q29
                    show jx L xs _ 44 62 _ [.int (iI 1)] _ _
                    refine jv_if_eq (t := 88) (pc' := 65) (a := 1) rfl rfl rfl (by omega) (fun h30 => ?_) (fun h30 => ?_)
                    · skip
                      exact absurd h30 (by decide)
                    · skip
                      refine jv_aload_n (pc' := 66) (k := 0) (x := 10) rfl rfl rfl rfl ?_
                      refine jv_getR (pc' := 69) (c := 3) (k := 1) (v := 46) rfl rfl rfl (fun _ _ => rfl) rfl rfl hq ?_
                      refine jv_iload_n (pc' := 70) (k := 2) (x := (iI 5)) rfl rfl rfl rfl ?_
                      refine jv_iload_n (pc' := 71) (k := 1) (x := (iI (c (a + 1) - 97))) rfl rfl rfl rfl ?_
                      refine jv_aload_n (pc' := 72) (k := 0) (x := 10) rfl rfl rfl rfl ?_
                      refine jv_getR (pc' := 75) (c := 3) (k := 0) (v := 11) rfl rfl rfl (fun _ _ => rfl) rfl rfl (jR_10_0 _) ?_
                      refine jv_getI (pc' := 78) (c := 4) (k := 2) (v := (iI (nv c (a + 3)))) rfl rfl rfl (fun _ _ => rfl) rfl rfl rfl ?_
                      refine jv_call (pc' := 81) rfl (cl_add_46 (I := jm_u (jm_u (jm_u (jm_u I 11 1 (iI ((a + 2 : Nat) : Int))) 11 1 (iI ((a + 3 : Nat) : Int))) 11 2 (iI (nv c (a + 3)))) 11 1 (iI ((a + 3 + nd c (a + 3) : Nat) : Int))) hY (by omega)) (fun vq31 gq31 q31 => ?_)
                      obtain ⟨Iq31, rfl, rfl, Yq31, rq31⟩ := q31
                      have Cq31 := CT_fr (I := jm_u (jm_u (jm_u (jm_u I 11 1 (iI ((a + 2 : Nat) : Int))) 11 1 (iI ((a + 3 : Nat) : Int))) 11 2 (iI (nv c (a + 3)))) 11 1 (iI ((a + 3 + nd c (a + 3) : Nat) : Int))) (t := 1) (c := c) (n := n) hC rq31 (by simp [wT]) (fun k => by simp [wT])
                      show jx L xs _ 44 81 _ [.int (iI 1)] _ _
                      refine jv_if_eq (t := 88) (pc' := 84) (a := 1) rfl rfl rfl (by omega) (fun h32 => ?_) (fun h32 => ?_)
                      · skip
                        exact absurd h32 (by decide)
                      · skip
                        refine jv_iconst (pc' := 85) (n := 1) rfl rfl ?_
                        refine jx_step (pc' := 89) rfl ?_
                        refine jv_retZ rfl rfl (by first | exact Or.inl rfl | exact Or.inr rfl) ⟨_, _, rfl, ?_⟩
                        first
                        | (exfalso; omega)
                        | (exact ⟨_, rfl, (fr_t (fr_u (by simp [wL]) (fr_u (by simp [wL]) (fr_u (by simp [wL]) (fr_u (by simp [wL]) (fr_r _))))) (fr_w rq31 (wT_L 46))), Or.inl ⟨⟨by assumption, by omega, by assumption⟩, rfl, ((rq31 11 1 (by simp [wT])).trans rfl), _, Yq31, by omega, fun z2 => UQ_ad (by omega) (Or.inr ⟨by omega, by omega, (hN (c (a + 1) - 97).toNat (by omega)).1 hk2.2⟩) z2⟩⟩)
                  · skip
                    refine jv_call (pc' := 62) rfl (cl_takeNumber_kn (I := jm_u (jm_u I 11 1 (iI ((a + 2 : Nat) : Int))) 11 1 (iI ((a + 3 : Nat) : Int))) (a := a + 3) hC rfl hp (by omega) (by omega) hk28) (fun vq33 gq33 q33 => ?_)
                    obtain ⟨rfl, rfl⟩ := q33
                    show jx L xs _ 44 62 _ [.int (iI 0)] _ _
                    refine jv_if_eq (t := 88) (pc' := 65) (a := 0) rfl rfl rfl (by omega) (fun h34 => ?_) (fun h34 => ?_)
                    · skip
                      refine jv_iconst (pc' := 89) (n := 0) rfl rfl ?_
                      refine jv_retZ rfl rfl (by first | exact Or.inl rfl | exact Or.inr rfl) ⟨_, _, rfl, ?_⟩
                      first
                      | (exfalso; omega)
                      | (refine ⟨_, rfl, (fr_u (by simp [wL]) (fr_u (by simp [wL]) (fr_u (by simp [wL]) (fr_u (by simp [wL]) (fr_r _))))), Or.inr ⟨?_, rfl, ?_⟩⟩
                         · intro q; obtain ⟨q1, q2, q3⟩ := q; first | (exfalso; omega) | contradiction
                         · refine rfl.trans (congrArg (fun z : Nat => iI (z : Int)) ?_); simp [op2, hk2, hk6, hk10, hk24, hk28])
                    · skip
                      exact absurd h34 (by decide)
              · skip
                refine jv_call (pc' := 52) rfl (cl_take_n_k (I := jm_u I 11 1 (iI ((a + 2 : Nat) : Int))) (a := a + 2) hC rfl hp (by omega) (x := 60) (by omega) hk24) (fun vq35 gq35 q35 => ?_)
                obtain ⟨rfl, rfl⟩ := q35
                show jx L xs _ 44 52 _ [.int (iI 0)] _ _
                refine jv_if_eq (t := 88) (pc' := 55) (a := 0) rfl rfl rfl (by omega) (fun h36 => ?_) (fun h36 => ?_)
                · skip
                  refine jv_iconst (pc' := 89) (n := 0) rfl rfl ?_
                  refine jv_retZ rfl rfl (by first | exact Or.inl rfl | exact Or.inr rfl) ⟨_, _, rfl, ?_⟩
                  first
                  | (exfalso; omega)
                  | (refine ⟨_, rfl, (fr_u (by simp [wL]) (fr_r _)), Or.inr ⟨?_, rfl, ?_⟩⟩
                     · intro q; obtain ⟨q1, q2, q3⟩ := q; first | (exfalso; omega) | contradiction
                     · refine rfl.trans (congrArg (fun z : Nat => iI (z : Int)) ?_); simp [op2, hk2, hk6, hk10, hk24])
                · skip
                  exact absurd h36 (by decide)
      · skip
        refine jv_call (pc' := 21) rfl (cl_sees_n_k (I := jm_u I 11 1 (iI ((a + 2 : Nat) : Int))) (a := a + 2) hC rfl hp (by omega) (x := 61) (by omega) hk6) (fun vq37 gq37 q37 => ?_)
        obtain ⟨rfl, rfl⟩ := q37
        show jx L xs _ 44 21 _ [.int (iI 0)] _ _
        refine jv_if_eq (t := 28) (pc' := 24) (a := 0) rfl rfl rfl (by omega) (fun h38 => ?_) (fun h38 => ?_)
        · skip
          refine jv_bipush (pc' := 30) (n := 6) rfl rfl rfl ?_
          refine jv_istore_n (pc' := 31) (k := 2) (x := (iI 6)) rfl rfl rfl rfl (Or.inr rfl) ?_
          refine jv_aload_n (pc' := 32) (k := 0) (x := 10) rfl rfl rfl rfl ?_
          refine jv_getR (pc' := 35) (c := 3) (k := 0) (v := 11) rfl rfl rfl (fun _ _ => rfl) rfl rfl (jR_10_0 _) ?_
          refine jv_bipush (pc' := 37) (n := 61) rfl rfl rfl ?_
          have hm39 := CT_c hC (a + 2)
          have ho39 := CT_or hC (a + 2)
          by_cases hk40 : c (a + 2) = 61
          · skip
            refine jv_call (pc' := 40) rfl (cl_take_y_k (I := jm_u I 11 1 (iI ((a + 2 : Nat) : Int))) (a := a + 2) hC rfl hp (by omega) (x := 61) (by omega) hk40) (fun vq41 gq41 q41 => ?_)
            obtain ⟨rfl, rfl⟩ := q41
            show jx L xs _ 44 40 _ [.int (iI 1)] _ _
            refine jv_if_ne (t := 55) (pc' := 43) (a := 1) rfl rfl rfl (by omega) (fun h42 => ?_) (fun h42 => ?_)
            · skip
              refine jv_aload_n (pc' := 56) (k := 0) (x := 10) rfl rfl rfl rfl ?_
              refine jv_getR (pc' := 59) (c := 3) (k := 0) (v := 11) rfl rfl rfl (fun _ _ => rfl) rfl rfl (jR_10_0 _) ?_
              have hm43 := CT_c hC (a + 3)
              have ho43 := CT_or hC (a + 3)
              have := nd_le c (a + 3)
              have := nv_b c (a + 3)
              have := CT_nd hC 6 (a + 3) (by omega)
              have : nd c (a + 3) = ndk c 6 (a + 3) := rfl
              by_cases hk44 : 0 < nd c (a + 3)
              · skip
                refine jv_call (pc' := 62) rfl (cl_takeNumber_ky (I := jm_u (jm_u I 11 1 (iI ((a + 2 : Nat) : Int))) 11 1 (iI ((a + 3 : Nat) : Int))) (a := a + 3) hC rfl hp (by omega) (by omega) hk44) (fun vq45 gq45 q45 => ?_)
                obtain ⟨rfl, rfl⟩ := q45
                show jx L xs _ 44 62 _ [.int (iI 1)] _ _
                refine jv_if_eq (t := 88) (pc' := 65) (a := 1) rfl rfl rfl (by omega) (fun h46 => ?_) (fun h46 => ?_)
                · skip
                  exact absurd h46 (by decide)
                · skip
                  refine jv_aload_n (pc' := 66) (k := 0) (x := 10) rfl rfl rfl rfl ?_
                  refine jv_getR (pc' := 69) (c := 3) (k := 1) (v := 46) rfl rfl rfl (fun _ _ => rfl) rfl rfl hq ?_
                  refine jv_iload_n (pc' := 70) (k := 2) (x := (iI 6)) rfl rfl rfl rfl ?_
                  refine jv_iload_n (pc' := 71) (k := 1) (x := (iI (c (a + 1) - 97))) rfl rfl rfl rfl ?_
                  refine jv_aload_n (pc' := 72) (k := 0) (x := 10) rfl rfl rfl rfl ?_
                  refine jv_getR (pc' := 75) (c := 3) (k := 0) (v := 11) rfl rfl rfl (fun _ _ => rfl) rfl rfl (jR_10_0 _) ?_
                  refine jv_getI (pc' := 78) (c := 4) (k := 2) (v := (iI (nv c (a + 3)))) rfl rfl rfl (fun _ _ => rfl) rfl rfl rfl ?_
                  refine jv_call (pc' := 81) rfl (cl_add_46 (I := jm_u (jm_u (jm_u (jm_u I 11 1 (iI ((a + 2 : Nat) : Int))) 11 1 (iI ((a + 3 : Nat) : Int))) 11 2 (iI (nv c (a + 3)))) 11 1 (iI ((a + 3 + nd c (a + 3) : Nat) : Int))) hY (by omega)) (fun vq47 gq47 q47 => ?_)
                  obtain ⟨Iq47, rfl, rfl, Yq47, rq47⟩ := q47
                  have Cq47 := CT_fr (I := jm_u (jm_u (jm_u (jm_u I 11 1 (iI ((a + 2 : Nat) : Int))) 11 1 (iI ((a + 3 : Nat) : Int))) 11 2 (iI (nv c (a + 3)))) 11 1 (iI ((a + 3 + nd c (a + 3) : Nat) : Int))) (t := 1) (c := c) (n := n) hC rq47 (by simp [wT]) (fun k => by simp [wT])
                  show jx L xs _ 44 81 _ [.int (iI 1)] _ _
                  refine jv_if_eq (t := 88) (pc' := 84) (a := 1) rfl rfl rfl (by omega) (fun h48 => ?_) (fun h48 => ?_)
                  · skip
                    exact absurd h48 (by decide)
                  · skip
                    refine jv_iconst (pc' := 85) (n := 1) rfl rfl ?_
                    refine jx_step (pc' := 89) rfl ?_
                    refine jv_retZ rfl rfl (by first | exact Or.inl rfl | exact Or.inr rfl) ⟨_, _, rfl, ?_⟩
                    first
                    | (exfalso; omega)
                    | (exact ⟨_, rfl, (fr_t (fr_u (by simp [wL]) (fr_u (by simp [wL]) (fr_u (by simp [wL]) (fr_u (by simp [wL]) (fr_r _))))) (fr_w rq47 (wT_L 46))), Or.inl ⟨⟨by assumption, by omega, by assumption⟩, rfl, ((rq47 11 1 (by simp [wT])).trans rfl), _, Yq47, by omega, fun z2 => UQ_ad (by omega) (Or.inr ⟨by omega, by omega, (hN (c (a + 1) - 97).toNat (by omega)).1 hk2.2⟩) z2⟩⟩)
              · skip
                refine jv_call (pc' := 62) rfl (cl_takeNumber_kn (I := jm_u (jm_u I 11 1 (iI ((a + 2 : Nat) : Int))) 11 1 (iI ((a + 3 : Nat) : Int))) (a := a + 3) hC rfl hp (by omega) (by omega) hk44) (fun vq49 gq49 q49 => ?_)
                obtain ⟨rfl, rfl⟩ := q49
                show jx L xs _ 44 62 _ [.int (iI 0)] _ _
                refine jv_if_eq (t := 88) (pc' := 65) (a := 0) rfl rfl rfl (by omega) (fun h50 => ?_) (fun h50 => ?_)
                · skip
                  refine jv_iconst (pc' := 89) (n := 0) rfl rfl ?_
                  refine jv_retZ rfl rfl (by first | exact Or.inl rfl | exact Or.inr rfl) ⟨_, _, rfl, ?_⟩
                  first
                  | (exfalso; omega)
                  | (refine ⟨_, rfl, (fr_u (by simp [wL]) (fr_u (by simp [wL]) (fr_u (by simp [wL]) (fr_u (by simp [wL]) (fr_r _))))), Or.inr ⟨?_, rfl, ?_⟩⟩
                     · intro q; obtain ⟨q1, q2, q3⟩ := q; first | (exfalso; omega) | contradiction
                     · refine rfl.trans (congrArg (fun z : Nat => iI (z : Int)) ?_); simp [op2, hk2, hk6, hk40, hk44])
                · skip
                  exact absurd h50 (by decide)
            · skip
              exact absurd h42 (by decide)
          · skip
            refine jv_call (pc' := 40) rfl (cl_take_n_k (I := jm_u I 11 1 (iI ((a + 2 : Nat) : Int))) (a := a + 2) hC rfl hp (by omega) (x := 61) (by omega) hk40) (fun vq51 gq51 q51 => ?_)
            obtain ⟨rfl, rfl⟩ := q51
            show jx L xs _ 44 40 _ [.int (iI 0)] _ _
            refine jv_if_ne (t := 55) (pc' := 43) (a := 0) rfl rfl rfl (by omega) (fun h52 => ?_) (fun h52 => ?_)
            · skip
              exact absurd h52 (by decide)
            · skip
              refine jv_aload_n (pc' := 44) (k := 0) (x := 10) rfl rfl rfl rfl ?_
              refine jv_getR (pc' := 47) (c := 3) (k := 0) (v := 11) rfl rfl rfl (fun _ _ => rfl) rfl rfl (jR_10_0 _) ?_
              refine jv_bipush (pc' := 49) (n := 60) rfl rfl rfl ?_
              have hm53 := CT_c hC (a + 2)
              have ho53 := CT_or hC (a + 2)
              by_cases hk54 : c (a + 2) = 60
              · skip
                refine jv_call (pc' := 52) rfl (cl_take_y_k (I := jm_u I 11 1 (iI ((a + 2 : Nat) : Int))) (a := a + 2) hC rfl hp (by omega) (x := 60) (by omega) hk54) (fun vq55 gq55 q55 => ?_)
                obtain ⟨rfl, rfl⟩ := q55
                show jx L xs _ 44 52 _ [.int (iI 1)] _ _
                refine jv_if_eq (t := 88) (pc' := 55) (a := 1) rfl rfl rfl (by omega) (fun h56 => ?_) (fun h56 => ?_)
                · skip
                  exact absurd h56 (by decide)
                · skip
                  refine jv_aload_n (pc' := 56) (k := 0) (x := 10) rfl rfl rfl rfl ?_
                  refine jv_getR (pc' := 59) (c := 3) (k := 0) (v := 11) rfl rfl rfl (fun _ _ => rfl) rfl rfl (jR_10_0 _) ?_
                  have hm57 := CT_c hC (a + 3)
                  have ho57 := CT_or hC (a + 3)
                  have := nd_le c (a + 3)
                  have := nv_b c (a + 3)
                  have := CT_nd hC 6 (a + 3) (by omega)
                  have : nd c (a + 3) = ndk c 6 (a + 3) := rfl
                  by_cases hk58 : 0 < nd c (a + 3)
                  · skip
                    refine jv_call (pc' := 62) rfl (cl_takeNumber_ky (I := jm_u (jm_u I 11 1 (iI ((a + 2 : Nat) : Int))) 11 1 (iI ((a + 3 : Nat) : Int))) (a := a + 3) hC rfl hp (by omega) (by omega) hk58) (fun vq59 gq59 q59 => ?_)
                    obtain ⟨rfl, rfl⟩ := q59
                    show jx L xs _ 44 62 _ [.int (iI 1)] _ _
                    refine jv_if_eq (t := 88) (pc' := 65) (a := 1) rfl rfl rfl (by omega) (fun h60 => ?_) (fun h60 => ?_)
                    · skip
                      exact absurd h60 (by decide)
                    · skip
                      refine jv_aload_n (pc' := 66) (k := 0) (x := 10) rfl rfl rfl rfl ?_
                      refine jv_getR (pc' := 69) (c := 3) (k := 1) (v := 46) rfl rfl rfl (fun _ _ => rfl) rfl rfl hq ?_
                      refine jv_iload_n (pc' := 70) (k := 2) (x := (iI 6)) rfl rfl rfl rfl ?_
                      refine jv_iload_n (pc' := 71) (k := 1) (x := (iI (c (a + 1) - 97))) rfl rfl rfl rfl ?_
                      refine jv_aload_n (pc' := 72) (k := 0) (x := 10) rfl rfl rfl rfl ?_
                      refine jv_getR (pc' := 75) (c := 3) (k := 0) (v := 11) rfl rfl rfl (fun _ _ => rfl) rfl rfl (jR_10_0 _) ?_
                      refine jv_getI (pc' := 78) (c := 4) (k := 2) (v := (iI (nv c (a + 3)))) rfl rfl rfl (fun _ _ => rfl) rfl rfl rfl ?_
                      refine jv_call (pc' := 81) rfl (cl_add_46 (I := jm_u (jm_u (jm_u (jm_u I 11 1 (iI ((a + 2 : Nat) : Int))) 11 1 (iI ((a + 3 : Nat) : Int))) 11 2 (iI (nv c (a + 3)))) 11 1 (iI ((a + 3 + nd c (a + 3) : Nat) : Int))) hY (by omega)) (fun vq61 gq61 q61 => ?_)
                      obtain ⟨Iq61, rfl, rfl, Yq61, rq61⟩ := q61
                      have Cq61 := CT_fr (I := jm_u (jm_u (jm_u (jm_u I 11 1 (iI ((a + 2 : Nat) : Int))) 11 1 (iI ((a + 3 : Nat) : Int))) 11 2 (iI (nv c (a + 3)))) 11 1 (iI ((a + 3 + nd c (a + 3) : Nat) : Int))) (t := 1) (c := c) (n := n) hC rq61 (by simp [wT]) (fun k => by simp [wT])
                      show jx L xs _ 44 81 _ [.int (iI 1)] _ _
                      refine jv_if_eq (t := 88) (pc' := 84) (a := 1) rfl rfl rfl (by omega) (fun h62 => ?_) (fun h62 => ?_)
                      · skip
                        exact absurd h62 (by decide)
                      · skip
                        refine jv_iconst (pc' := 85) (n := 1) rfl rfl ?_
                        refine jx_step (pc' := 89) rfl ?_
                        refine jv_retZ rfl rfl (by first | exact Or.inl rfl | exact Or.inr rfl) ⟨_, _, rfl, ?_⟩
                        first
                        | (exfalso; omega)
                        | (exact ⟨_, rfl, (fr_t (fr_u (by simp [wL]) (fr_u (by simp [wL]) (fr_u (by simp [wL]) (fr_u (by simp [wL]) (fr_r _))))) (fr_w rq61 (wT_L 46))), Or.inl ⟨⟨by assumption, by omega, by assumption⟩, rfl, ((rq61 11 1 (by simp [wT])).trans rfl), _, Yq61, by omega, fun z2 => UQ_ad (by omega) (Or.inr ⟨by omega, by omega, (hN (c (a + 1) - 97).toNat (by omega)).1 hk2.2⟩) z2⟩⟩)
                  · skip
                    refine jv_call (pc' := 62) rfl (cl_takeNumber_kn (I := jm_u (jm_u I 11 1 (iI ((a + 2 : Nat) : Int))) 11 1 (iI ((a + 3 : Nat) : Int))) (a := a + 3) hC rfl hp (by omega) (by omega) hk58) (fun vq63 gq63 q63 => ?_)
                    obtain ⟨rfl, rfl⟩ := q63
                    show jx L xs _ 44 62 _ [.int (iI 0)] _ _
                    refine jv_if_eq (t := 88) (pc' := 65) (a := 0) rfl rfl rfl (by omega) (fun h64 => ?_) (fun h64 => ?_)
                    · skip
                      refine jv_iconst (pc' := 89) (n := 0) rfl rfl ?_
                      refine jv_retZ rfl rfl (by first | exact Or.inl rfl | exact Or.inr rfl) ⟨_, _, rfl, ?_⟩
                      first
                      | (exfalso; omega)
                      | (refine ⟨_, rfl, (fr_u (by simp [wL]) (fr_u (by simp [wL]) (fr_u (by simp [wL]) (fr_u (by simp [wL]) (fr_r _))))), Or.inr ⟨?_, rfl, ?_⟩⟩
                         · intro q; obtain ⟨q1, q2, q3⟩ := q; first | (exfalso; omega) | contradiction
                         · refine rfl.trans (congrArg (fun z : Nat => iI (z : Int)) ?_); simp [op2, hk2, hk6, hk40, hk54, hk58])
                    · skip
                      exact absurd h64 (by decide)
              · skip
                refine jv_call (pc' := 52) rfl (cl_take_n_k (I := jm_u I 11 1 (iI ((a + 2 : Nat) : Int))) (a := a + 2) hC rfl hp (by omega) (x := 60) (by omega) hk54) (fun vq65 gq65 q65 => ?_)
                obtain ⟨rfl, rfl⟩ := q65
                show jx L xs _ 44 52 _ [.int (iI 0)] _ _
                refine jv_if_eq (t := 88) (pc' := 55) (a := 0) rfl rfl rfl (by omega) (fun h66 => ?_) (fun h66 => ?_)
                · skip
                  refine jv_iconst (pc' := 89) (n := 0) rfl rfl ?_
                  refine jv_retZ rfl rfl (by first | exact Or.inl rfl | exact Or.inr rfl) ⟨_, _, rfl, ?_⟩
                  first
                  | (exfalso; omega)
                  | (refine ⟨_, rfl, (fr_u (by simp [wL]) (fr_r _)), Or.inr ⟨?_, rfl, ?_⟩⟩
                     · intro q; obtain ⟨q1, q2, q3⟩ := q; first | (exfalso; omega) | contradiction
                     · refine rfl.trans (congrArg (fun z : Nat => iI (z : Int)) ?_); simp [op2, hk2, hk6, hk40, hk54])
                · skip
                  exact absurd h66 (by decide)
        · skip
          exact absurd h38 (by decide)
    · skip
      refine jv_iconst (pc' := 11) (n := 0) rfl rfl ?_
      refine jv_retZ rfl rfl (by first | exact Or.inl rfl | exact Or.inr rfl) ⟨_, _, rfl, ?_⟩
      first
      | (exfalso; omega)
      | (refine ⟨_, rfl, (fr_u (by simp [wL]) (fr_r _)), Or.inr ⟨?_, rfl, ?_⟩⟩
         · intro q; obtain ⟨q1, q2, q3⟩ := q; first | (exfalso; omega) | contradiction
         · refine rfl.trans (congrArg (fun z : Nat => iI (z : Int)) ?_); simp [op2, hk2])
  · skip
    refine jv_call (pc' := 4) rfl (cl_takeKnownName_n_46 (I := I) (a := a + 1) (F := F) hC ha hp  (by omega) hq hY hN hF hk2) (fun vq67 gq67 q67 => ?_)
    obtain ⟨rfl, rfl⟩ := q67
    show jx L xs _ 44 4 _ [.int (iI (-1))] _ _
    refine jv_istore_n (pc' := 5) (k := 1) (x := (iI (-1))) rfl rfl rfl rfl (Or.inr rfl) ?_
    refine jv_iload_n (pc' := 6) (k := 1) (x := (iI (-1))) rfl rfl rfl rfl ?_
    refine jv_iconst (pc' := 7) (n := -1) rfl rfl ?_
    refine jv_ic_ne (t := 12) (pc' := 10) (a := (-1)) (b := (-1)) rfl rfl rfl (by omega) (fun h68 => ?_) (fun h68 => ?_)
    · skip
      exact absurd h68 (by decide)
    · skip
      refine jv_iconst (pc' := 11) (n := 0) rfl rfl ?_
      refine jv_retZ rfl rfl (by first | exact Or.inl rfl | exact Or.inr rfl) ⟨_, _, rfl, ?_⟩
      first
      | (exfalso; omega)
      | (refine ⟨_, rfl, (fr_r _), Or.inr ⟨?_, rfl, ?_⟩⟩
         · intro q; obtain ⟨q1, q2, q3⟩ := q; first | (exfalso; omega) | contradiction
         · refine ha.trans (congrArg (fun z : Nat => iI (z : Int)) ?_); simp [op2, hk2])
theorem cl_readWidth_46 (hC : CT I 1 c n) (ha : I 11 1 = iI ((a + 1 : Nat) : Int)) (hp : p 19 = some 1) (han : a + 1 ≤ n) (hq : p 20 = some 46) (hY : LB I 46 Y m) (hx : 97 ≤ c a ∧ c a ≤ 104) : jc L xs (d + 2) 47 [.ref 10, .int (iI (c a - 97))] (jx_G j I M p) (fun v g1 => ∃ I', g1 = jx_G j I' M p ∧ fr (wL 46) I I' ∧ ((fdV c a ∧ v = some (.int (iI 1)) ∧ I' 11 1 = iI ((fd2 c a : Nat) : Int) ∧ ∃ s, LB I' 46 (Ywd Y (c a - 97).toNat (nv c (a + 1)) s) m ∧ ((s = 1 ∧ c (a + 1 + nd c (a + 1)) = 60 ∧ (nv c (a + 1) = 16 ∨ nv c (a + 1) = 24 ∨ nv c (a + 1) = 32)) ∨ (s = 0 ∧ ¬ ((nv c (a + 1) = 16 ∨ nv c (a + 1) = 24 ∨ nv c (a + 1) = 32) ∧ c (a + 1 + nd c (a + 1)) = 60)))) ∨ (¬ fdV c a ∧ v = some (.int (iI 0)) ∧ I' 11 1 = iI ((a + 1 : Nat) : Int)))) := by
  unfold jc
  have hn := hC.2.1
  refine jv_aload_n (pc' := 1) (k := 0) (x := 10) rfl rfl rfl rfl ?_
  refine jv_getR (pc' := 4) (c := 3) (k := 0) (v := 11) rfl rfl rfl (fun _ _ => rfl) rfl rfl (jR_10_0 _) ?_
  refine jv_getI (pc' := 7) (c := 4) (k := 1) (v := (iI ((a + 1 : Nat) : Int))) rfl rfl rfl (fun _ _ => rfl) rfl rfl ha ?_
  refine jv_istore_n (pc' := 8) (k := 2) (x := (iI ((a + 1 : Nat) : Int))) rfl rfl rfl rfl (Or.inr rfl) ?_
  refine jv_aload_n (pc' := 9) (k := 0) (x := 10) rfl rfl rfl rfl ?_
  refine jv_getR (pc' := 12) (c := 3) (k := 0) (v := 11) rfl rfl rfl (fun _ _ => rfl) rfl rfl (jR_10_0 _) ?_
  have hm1 := CT_c hC (a + 1)
  have ho1 := CT_or hC (a + 1)
  have := nd_le c (a + 1)
  have := nv_b c (a + 1)
  have := CT_nd hC 6 (a + 1) (by omega)
  have : nd c (a + 1) = ndk c 6 (a + 1) := rfl
  by_cases hk2 : 0 < nd c (a + 1)
  · skip
    refine jv_call (pc' := 15) rfl (cl_takeNumber_ky (I := I) (a := a + 1) hC ha hp (by omega) (by omega) hk2) (fun vq3 gq3 q3 => ?_)
    obtain ⟨rfl, rfl⟩ := q3
    show jx L xs _ 47 15 _ [.int (iI 1)] _ _
    refine jv_if_ne (t := 20) (pc' := 18) (a := 1) rfl rfl rfl (by omega) (fun h4 => ?_) (fun h4 => ?_)
    · skip
      refine jv_aload_n (pc' := 21) (k := 0) (x := 10) rfl rfl rfl rfl ?_
      refine jv_getR (pc' := 24) (c := 3) (k := 0) (v := 11) rfl rfl rfl (fun _ _ => rfl) rfl rfl (jR_10_0 _) ?_
      refine jv_getI (pc' := 27) (c := 4) (k := 2) (v := (iI (nv c (a + 1)))) rfl rfl rfl (fun _ _ => rfl) rfl rfl rfl ?_
      refine jv_istore_n (pc' := 28) (k := 3) (x := (iI (nv c (a + 1)))) rfl rfl rfl rfl (Or.inr rfl) ?_
      refine jv_iload_n (pc' := 29) (k := 3) (x := (iI (nv c (a + 1)))) rfl rfl rfl rfl ?_
      refine jv_iconst (pc' := 30) (n := 1) rfl rfl ?_
      refine jv_ic_lt (t := 39) (pc' := 33) (a := (nv c (a + 1))) (b := 1) rfl rfl rfl (by omega) (fun h5 => ?_) (fun h5 => ?_)
      · skip
        refine jv_aload_n (pc' := 40) (k := 0) (x := 10) rfl rfl rfl rfl ?_
        refine jv_getR (pc' := 43) (c := 3) (k := 0) (v := 11) rfl rfl rfl (fun _ _ => rfl) rfl rfl (jR_10_0 _) ?_
        refine jv_iload_n (pc' := 44) (k := 2) (x := (iI ((a + 1 : Nat) : Int))) rfl rfl rfl rfl ?_
        refine jv_putI (pc' := 47) (c := 4) (k := 1) rfl rfl rfl rfl (fun _ _ _  => rfl) rfl rfl ?_
        refine jv_iconst (pc' := 48) (n := 0) rfl rfl ?_
        refine jv_retZ rfl rfl (by first | exact Or.inl rfl | exact Or.inr rfl) ⟨_, _, rfl, ?_⟩
        first
        | (exfalso; omega)
        | exact ⟨_, rfl, (fr_u (by simp [wL]) (fr_u (by simp [wL]) (fr_u (by simp [wL]) (fr_r _)))), Or.inr ⟨(by first | exact fd_V0 (by assumption) | exact fd_V1 (by assumption) (by omega)), rfl, rfl⟩⟩
      · skip
        refine jv_iload_n (pc' := 34) (k := 3) (x := (iI (nv c (a + 1)))) rfl rfl rfl rfl ?_
        refine jv_bipush (pc' := 36) (n := 32) rfl rfl rfl ?_
        refine jv_ic_le (t := 49) (pc' := 39) (a := (nv c (a + 1))) (b := 32) rfl rfl rfl (by omega) (fun h6 => ?_) (fun h6 => ?_)
        · skip
          refine jv_aload_n (pc' := 50) (k := 0) (x := 10) rfl rfl rfl rfl ?_
          refine jv_getR (pc' := 53) (c := 3) (k := 1) (v := 46) rfl rfl rfl (fun _ _ => rfl) rfl rfl hq ?_
          refine jv_getR (pc' := 56) (c := 2) (k := 4) (v := 51) rfl rfl rfl (fun _ _ => rfl) rfl rfl (jR_46_4 _) ?_
          refine jv_iload_n (pc' := 57) (k := 1) (x := (iI (c a - 97))) rfl rfl rfl rfl ?_
          refine jv_iload_n (pc' := 58) (k := 3) (x := (iI (nv c (a + 1)))) rfl rfl rfl rfl ?_
          refine jv_iastore (pc' := 59) (n := 8) (e := (c a - 97)) (v := (iI (nv c (a + 1)))) rfl rfl rfl rfl rfl (by omega) ?_
          refine jv_iload_n (pc' := 60) (k := 3) (x := (iI (nv c (a + 1)))) rfl rfl rfl rfl ?_
          refine jv_bipush (pc' := 62) (n := 16) rfl rfl rfl ?_
          refine jv_ic_eq (t := 77) (pc' := 65) (a := (nv c (a + 1))) (b := 16) rfl rfl rfl (by omega) (fun h7 => ?_) (fun h7 => ?_)
          · skip
            refine jv_iconst (pc' := 78) (n := 1) rfl rfl ?_
            refine jx_step (pc' := 82) rfl ?_
            refine jv_istore (pc' := 84) (k := 4) (x := (iI 1)) rfl rfl rfl (Or.inr rfl) ?_
            refine jv_aload_n (pc' := 85) (k := 0) (x := 10) rfl rfl rfl rfl ?_
            refine jv_getR (pc' := 88) (c := 3) (k := 1) (v := 46) rfl rfl rfl (fun _ _ => rfl) rfl rfl hq ?_
            refine jv_getR (pc' := 91) (c := 2) (k := 5) (v := 52) rfl rfl rfl (fun _ _ => rfl) rfl rfl (jR_46_5 _) ?_
            refine jv_iload_n (pc' := 92) (k := 1) (x := (iI (c a - 97))) rfl rfl rfl rfl ?_
            refine jv_iload (pc' := 94) (k := 4) (x := (iI 1)) rfl rfl rfl ?_
            refine jv_if_eq (t := 113) (pc' := 97) (a := 1) rfl rfl rfl (by omega) (fun h8 => ?_) (fun h8 => ?_)
            · skip
              exact absurd h8 (by decide)
            · skip
              refine jv_aload_n (pc' := 98) (k := 0) (x := 10) rfl rfl rfl rfl ?_
              refine jv_getR (pc' := 101) (c := 3) (k := 0) (v := 11) rfl rfl rfl (fun _ _ => rfl) rfl rfl (jR_10_0 _) ?_
              refine jv_bipush (pc' := 103) (n := 60) rfl rfl rfl ?_
              have hm9 := CT_c hC (a + 1 + nd c (a + 1))
              have ho9 := CT_or hC (a + 1 + nd c (a + 1))
              by_cases hk10 : c (a + 1 + nd c (a + 1)) = 60
              · skip
                refine jv_call (pc' := 106) rfl (cl_take_y_k (I := jm_u (jm_u (jm_u I 11 2 (iI (nv c (a + 1)))) 11 1 (iI ((a + 1 + nd c (a + 1) : Nat) : Int))) 51 (c a - 97 : Int).toNat (iI (nv c (a + 1)))) (a := a + 1 + nd c (a + 1)) hC rfl hp (by omega) (x := 60) (by omega) hk10) (fun vq11 gq11 q11 => ?_)
                obtain ⟨rfl, rfl⟩ := q11
                show jx L xs _ 47 106 _ [.int (iI 1), .int (iI (c a - 97)), .ref 52] _ _
                refine jv_if_eq (t := 113) (pc' := 109) (a := 1) rfl rfl rfl (by omega) (fun h12 => ?_) (fun h12 => ?_)
                · skip
                  exact absurd h12 (by decide)
                · skip
                  refine jv_iconst (pc' := 110) (n := 1) rfl rfl ?_
                  refine jx_step (pc' := 114) rfl ?_
                  refine jv_bastore (pc' := 115) (n := 8) (e := (c a - 97)) (v := (iI 1)) rfl rfl rfl rfl rfl (by omega) (by first | exact Or.inl rfl | exact Or.inr rfl) ?_
                  refine jv_iconst (pc' := 116) (n := 1) rfl rfl ?_
                  refine jv_retZ rfl rfl (by first | exact Or.inl rfl | exact Or.inr rfl) ⟨_, _, rfl, ?_⟩
                  first
                  | (exfalso; omega)
                  | (have e2 : fd2 c a = _ := fd2_y (by assumption) (by omega) (by omega)
                     exact ⟨_, rfl, (fr_u (by simp [wL]) (fr_u (by simp [wL]) (fr_u (by simp [wL]) (fr_u (by simp [wL]) (fr_u (by simp [wL]) (fr_r _)))))), Or.inl ⟨fd_V (by assumption) (by omega), rfl, (by rw [e2]; exact rfl), 1, LB_wd hY (by omega) (by omega) (fun l k h1 h2 => by
                       have h11 : l ≠ 11 := by omega
                       simp [jm_u, h11]), Or.inl ⟨rfl, by assumption, by omega⟩⟩⟩)
              · skip
                refine jv_call (pc' := 106) rfl (cl_take_n_k (I := jm_u (jm_u (jm_u I 11 2 (iI (nv c (a + 1)))) 11 1 (iI ((a + 1 + nd c (a + 1) : Nat) : Int))) 51 (c a - 97 : Int).toNat (iI (nv c (a + 1)))) (a := a + 1 + nd c (a + 1)) hC rfl hp (by omega) (x := 60) (by omega) hk10) (fun vq13 gq13 q13 => ?_)
                obtain ⟨rfl, rfl⟩ := q13
                show jx L xs _ 47 106 _ [.int (iI 0), .int (iI (c a - 97)), .ref 52] _ _
                refine jv_if_eq (t := 113) (pc' := 109) (a := 0) rfl rfl rfl (by omega) (fun h14 => ?_) (fun h14 => ?_)
                · skip
                  refine jv_iconst (pc' := 114) (n := 0) rfl rfl ?_
                  refine jv_bastore (pc' := 115) (n := 8) (e := (c a - 97)) (v := (iI 0)) rfl rfl rfl rfl rfl (by omega) (by first | exact Or.inl rfl | exact Or.inr rfl) ?_
                  refine jv_iconst (pc' := 116) (n := 1) rfl rfl ?_
                  refine jv_retZ rfl rfl (by first | exact Or.inl rfl | exact Or.inr rfl) ⟨_, _, rfl, ?_⟩
                  first
                  | (exfalso; omega)
                  | (have e2 : fd2 c a = _ := fd2_n (by assumption) (by omega)
                     exact ⟨_, rfl, (fr_u (by simp [wL]) (fr_u (by simp [wL]) (fr_u (by simp [wL]) (fr_u (by simp [wL]) (fr_r _))))), Or.inl ⟨fd_V (by assumption) (by omega), rfl, (by rw [e2]; exact rfl), 0, LB_wd hY (by omega) (by omega) (fun l k h1 h2 => by
                       have h11 : l ≠ 11 := by omega
                       simp [jm_u, h11]), Or.inr ⟨rfl, by omega⟩⟩⟩)
                · skip
                  exact absurd h14 (by decide)
          · skip
            refine jv_iload_n (pc' := 66) (k := 3) (x := (iI (nv c (a + 1)))) rfl rfl rfl rfl ?_
            refine jv_bipush (pc' := 68) (n := 24) rfl rfl rfl ?_
            refine jv_ic_eq (t := 77) (pc' := 71) (a := (nv c (a + 1))) (b := 24) rfl rfl rfl (by omega) (fun h15 => ?_) (fun h15 => ?_)
            · skip
              refine jv_iconst (pc' := 78) (n := 1) rfl rfl ?_
              refine jx_step (pc' := 82) rfl ?_
              refine jv_istore (pc' := 84) (k := 4) (x := (iI 1)) rfl rfl rfl (Or.inr rfl) ?_
              refine jv_aload_n (pc' := 85) (k := 0) (x := 10) rfl rfl rfl rfl ?_
              refine jv_getR (pc' := 88) (c := 3) (k := 1) (v := 46) rfl rfl rfl (fun _ _ => rfl) rfl rfl hq ?_
              refine jv_getR (pc' := 91) (c := 2) (k := 5) (v := 52) rfl rfl rfl (fun _ _ => rfl) rfl rfl (jR_46_5 _) ?_
              refine jv_iload_n (pc' := 92) (k := 1) (x := (iI (c a - 97))) rfl rfl rfl rfl ?_
              refine jv_iload (pc' := 94) (k := 4) (x := (iI 1)) rfl rfl rfl ?_
              refine jv_if_eq (t := 113) (pc' := 97) (a := 1) rfl rfl rfl (by omega) (fun h16 => ?_) (fun h16 => ?_)
              · skip
                exact absurd h16 (by decide)
              · skip
                refine jv_aload_n (pc' := 98) (k := 0) (x := 10) rfl rfl rfl rfl ?_
                refine jv_getR (pc' := 101) (c := 3) (k := 0) (v := 11) rfl rfl rfl (fun _ _ => rfl) rfl rfl (jR_10_0 _) ?_
                refine jv_bipush (pc' := 103) (n := 60) rfl rfl rfl ?_
                have hm17 := CT_c hC (a + 1 + nd c (a + 1))
                have ho17 := CT_or hC (a + 1 + nd c (a + 1))
                by_cases hk18 : c (a + 1 + nd c (a + 1)) = 60
                · skip
                  refine jv_call (pc' := 106) rfl (cl_take_y_k (I := jm_u (jm_u (jm_u I 11 2 (iI (nv c (a + 1)))) 11 1 (iI ((a + 1 + nd c (a + 1) : Nat) : Int))) 51 (c a - 97 : Int).toNat (iI (nv c (a + 1)))) (a := a + 1 + nd c (a + 1)) hC rfl hp (by omega) (x := 60) (by omega) hk18) (fun vq19 gq19 q19 => ?_)
                  obtain ⟨rfl, rfl⟩ := q19
                  show jx L xs _ 47 106 _ [.int (iI 1), .int (iI (c a - 97)), .ref 52] _ _
                  refine jv_if_eq (t := 113) (pc' := 109) (a := 1) rfl rfl rfl (by omega) (fun h20 => ?_) (fun h20 => ?_)
                  · skip
                    exact absurd h20 (by decide)
                  · skip
                    refine jv_iconst (pc' := 110) (n := 1) rfl rfl ?_
                    refine jx_step (pc' := 114) rfl ?_
                    refine jv_bastore (pc' := 115) (n := 8) (e := (c a - 97)) (v := (iI 1)) rfl rfl rfl rfl rfl (by omega) (by first | exact Or.inl rfl | exact Or.inr rfl) ?_
                    refine jv_iconst (pc' := 116) (n := 1) rfl rfl ?_
                    refine jv_retZ rfl rfl (by first | exact Or.inl rfl | exact Or.inr rfl) ⟨_, _, rfl, ?_⟩
                    first
                    | (exfalso; omega)
                    | (have e2 : fd2 c a = _ := fd2_y (by assumption) (by omega) (by omega)
                       exact ⟨_, rfl, (fr_u (by simp [wL]) (fr_u (by simp [wL]) (fr_u (by simp [wL]) (fr_u (by simp [wL]) (fr_u (by simp [wL]) (fr_r _)))))), Or.inl ⟨fd_V (by assumption) (by omega), rfl, (by rw [e2]; exact rfl), 1, LB_wd hY (by omega) (by omega) (fun l k h1 h2 => by
                         have h11 : l ≠ 11 := by omega
                         simp [jm_u, h11]), Or.inl ⟨rfl, by assumption, by omega⟩⟩⟩)
                · skip
                  refine jv_call (pc' := 106) rfl (cl_take_n_k (I := jm_u (jm_u (jm_u I 11 2 (iI (nv c (a + 1)))) 11 1 (iI ((a + 1 + nd c (a + 1) : Nat) : Int))) 51 (c a - 97 : Int).toNat (iI (nv c (a + 1)))) (a := a + 1 + nd c (a + 1)) hC rfl hp (by omega) (x := 60) (by omega) hk18) (fun vq21 gq21 q21 => ?_)
                  obtain ⟨rfl, rfl⟩ := q21
                  show jx L xs _ 47 106 _ [.int (iI 0), .int (iI (c a - 97)), .ref 52] _ _
                  refine jv_if_eq (t := 113) (pc' := 109) (a := 0) rfl rfl rfl (by omega) (fun h22 => ?_) (fun h22 => ?_)
                  · skip
                    refine jv_iconst (pc' := 114) (n := 0) rfl rfl ?_
                    refine jv_bastore (pc' := 115) (n := 8) (e := (c a - 97)) (v := (iI 0)) rfl rfl rfl rfl rfl (by omega) (by first | exact Or.inl rfl | exact Or.inr rfl) ?_
                    refine jv_iconst (pc' := 116) (n := 1) rfl rfl ?_
                    refine jv_retZ rfl rfl (by first | exact Or.inl rfl | exact Or.inr rfl) ⟨_, _, rfl, ?_⟩
                    first
                    | (exfalso; omega)
                    | (have e2 : fd2 c a = _ := fd2_n (by assumption) (by omega)
                       exact ⟨_, rfl, (fr_u (by simp [wL]) (fr_u (by simp [wL]) (fr_u (by simp [wL]) (fr_u (by simp [wL]) (fr_r _))))), Or.inl ⟨fd_V (by assumption) (by omega), rfl, (by rw [e2]; exact rfl), 0, LB_wd hY (by omega) (by omega) (fun l k h1 h2 => by
                         have h11 : l ≠ 11 := by omega
                         simp [jm_u, h11]), Or.inr ⟨rfl, by omega⟩⟩⟩)
                  · skip
                    exact absurd h22 (by decide)
            · skip
              refine jv_iload_n (pc' := 72) (k := 3) (x := (iI (nv c (a + 1)))) rfl rfl rfl rfl ?_
              refine jv_bipush (pc' := 74) (n := 32) rfl rfl rfl ?_
              refine jv_ic_ne (t := 81) (pc' := 77) (a := (nv c (a + 1))) (b := 32) rfl rfl rfl (by omega) (fun h23 => ?_) (fun h23 => ?_)
              · skip
                refine jv_iconst (pc' := 82) (n := 0) rfl rfl ?_
                refine jv_istore (pc' := 84) (k := 4) (x := (iI 0)) rfl rfl rfl (Or.inr rfl) ?_
                refine jv_aload_n (pc' := 85) (k := 0) (x := 10) rfl rfl rfl rfl ?_
                refine jv_getR (pc' := 88) (c := 3) (k := 1) (v := 46) rfl rfl rfl (fun _ _ => rfl) rfl rfl hq ?_
                refine jv_getR (pc' := 91) (c := 2) (k := 5) (v := 52) rfl rfl rfl (fun _ _ => rfl) rfl rfl (jR_46_5 _) ?_
                refine jv_iload_n (pc' := 92) (k := 1) (x := (iI (c a - 97))) rfl rfl rfl rfl ?_
                refine jv_iload (pc' := 94) (k := 4) (x := (iI 0)) rfl rfl rfl ?_
                refine jv_if_eq (t := 113) (pc' := 97) (a := 0) rfl rfl rfl (by omega) (fun h24 => ?_) (fun h24 => ?_)
                · skip
                  refine jv_iconst (pc' := 114) (n := 0) rfl rfl ?_
                  refine jv_bastore (pc' := 115) (n := 8) (e := (c a - 97)) (v := (iI 0)) rfl rfl rfl rfl rfl (by omega) (by first | exact Or.inl rfl | exact Or.inr rfl) ?_
                  refine jv_iconst (pc' := 116) (n := 1) rfl rfl ?_
                  refine jv_retZ rfl rfl (by first | exact Or.inl rfl | exact Or.inr rfl) ⟨_, _, rfl, ?_⟩
                  first
                  | (exfalso; omega)
                  | (have e2 : fd2 c a = _ := fd2_n (by assumption) (by omega)
                     exact ⟨_, rfl, (fr_u (by simp [wL]) (fr_u (by simp [wL]) (fr_u (by simp [wL]) (fr_u (by simp [wL]) (fr_r _))))), Or.inl ⟨fd_V (by assumption) (by omega), rfl, (by rw [e2]; exact rfl), 0, LB_wd hY (by omega) (by omega) (fun l k h1 h2 => by
                       have h11 : l ≠ 11 := by omega
                       simp [jm_u, h11]), Or.inr ⟨rfl, by omega⟩⟩⟩)
                · skip
                  exact absurd h24 (by decide)
              · skip
                refine jv_iconst (pc' := 78) (n := 1) rfl rfl ?_
                refine jx_step (pc' := 82) rfl ?_
                refine jv_istore (pc' := 84) (k := 4) (x := (iI 1)) rfl rfl rfl (Or.inr rfl) ?_
                refine jv_aload_n (pc' := 85) (k := 0) (x := 10) rfl rfl rfl rfl ?_
                refine jv_getR (pc' := 88) (c := 3) (k := 1) (v := 46) rfl rfl rfl (fun _ _ => rfl) rfl rfl hq ?_
                refine jv_getR (pc' := 91) (c := 2) (k := 5) (v := 52) rfl rfl rfl (fun _ _ => rfl) rfl rfl (jR_46_5 _) ?_
                refine jv_iload_n (pc' := 92) (k := 1) (x := (iI (c a - 97))) rfl rfl rfl rfl ?_
                refine jv_iload (pc' := 94) (k := 4) (x := (iI 1)) rfl rfl rfl ?_
                refine jv_if_eq (t := 113) (pc' := 97) (a := 1) rfl rfl rfl (by omega) (fun h25 => ?_) (fun h25 => ?_)
                · skip
                  exact absurd h25 (by decide)
                · skip
                  refine jv_aload_n (pc' := 98) (k := 0) (x := 10) rfl rfl rfl rfl ?_
                  refine jv_getR (pc' := 101) (c := 3) (k := 0) (v := 11) rfl rfl rfl (fun _ _ => rfl) rfl rfl (jR_10_0 _) ?_
                  refine jv_bipush (pc' := 103) (n := 60) rfl rfl rfl ?_
                  have hm26 := CT_c hC (a + 1 + nd c (a + 1))
                  have ho26 := CT_or hC (a + 1 + nd c (a + 1))
                  by_cases hk27 : c (a + 1 + nd c (a + 1)) = 60
                  · skip
                    refine jv_call (pc' := 106) rfl (cl_take_y_k (I := jm_u (jm_u (jm_u I 11 2 (iI (nv c (a + 1)))) 11 1 (iI ((a + 1 + nd c (a + 1) : Nat) : Int))) 51 (c a - 97 : Int).toNat (iI (nv c (a + 1)))) (a := a + 1 + nd c (a + 1)) hC rfl hp (by omega) (x := 60) (by omega) hk27) (fun vq28 gq28 q28 => ?_)
                    obtain ⟨rfl, rfl⟩ := q28
                    show jx L xs _ 47 106 _ [.int (iI 1), .int (iI (c a - 97)), .ref 52] _ _
                    refine jv_if_eq (t := 113) (pc' := 109) (a := 1) rfl rfl rfl (by omega) (fun h29 => ?_) (fun h29 => ?_)
                    · skip
                      exact absurd h29 (by decide)
                    · skip
                      refine jv_iconst (pc' := 110) (n := 1) rfl rfl ?_
                      refine jx_step (pc' := 114) rfl ?_
                      refine jv_bastore (pc' := 115) (n := 8) (e := (c a - 97)) (v := (iI 1)) rfl rfl rfl rfl rfl (by omega) (by first | exact Or.inl rfl | exact Or.inr rfl) ?_
                      refine jv_iconst (pc' := 116) (n := 1) rfl rfl ?_
                      refine jv_retZ rfl rfl (by first | exact Or.inl rfl | exact Or.inr rfl) ⟨_, _, rfl, ?_⟩
                      first
                      | (exfalso; omega)
                      | (have e2 : fd2 c a = _ := fd2_y (by assumption) (by omega) (by omega)
                         exact ⟨_, rfl, (fr_u (by simp [wL]) (fr_u (by simp [wL]) (fr_u (by simp [wL]) (fr_u (by simp [wL]) (fr_u (by simp [wL]) (fr_r _)))))), Or.inl ⟨fd_V (by assumption) (by omega), rfl, (by rw [e2]; exact rfl), 1, LB_wd hY (by omega) (by omega) (fun l k h1 h2 => by
                           have h11 : l ≠ 11 := by omega
                           simp [jm_u, h11]), Or.inl ⟨rfl, by assumption, by omega⟩⟩⟩)
                  · skip
                    refine jv_call (pc' := 106) rfl (cl_take_n_k (I := jm_u (jm_u (jm_u I 11 2 (iI (nv c (a + 1)))) 11 1 (iI ((a + 1 + nd c (a + 1) : Nat) : Int))) 51 (c a - 97 : Int).toNat (iI (nv c (a + 1)))) (a := a + 1 + nd c (a + 1)) hC rfl hp (by omega) (x := 60) (by omega) hk27) (fun vq30 gq30 q30 => ?_)
                    obtain ⟨rfl, rfl⟩ := q30
                    show jx L xs _ 47 106 _ [.int (iI 0), .int (iI (c a - 97)), .ref 52] _ _
                    refine jv_if_eq (t := 113) (pc' := 109) (a := 0) rfl rfl rfl (by omega) (fun h31 => ?_) (fun h31 => ?_)
                    · skip
                      refine jv_iconst (pc' := 114) (n := 0) rfl rfl ?_
                      refine jv_bastore (pc' := 115) (n := 8) (e := (c a - 97)) (v := (iI 0)) rfl rfl rfl rfl rfl (by omega) (by first | exact Or.inl rfl | exact Or.inr rfl) ?_
                      refine jv_iconst (pc' := 116) (n := 1) rfl rfl ?_
                      refine jv_retZ rfl rfl (by first | exact Or.inl rfl | exact Or.inr rfl) ⟨_, _, rfl, ?_⟩
                      first
                      | (exfalso; omega)
                      | (have e2 : fd2 c a = _ := fd2_n (by assumption) (by omega)
                         exact ⟨_, rfl, (fr_u (by simp [wL]) (fr_u (by simp [wL]) (fr_u (by simp [wL]) (fr_u (by simp [wL]) (fr_r _))))), Or.inl ⟨fd_V (by assumption) (by omega), rfl, (by rw [e2]; exact rfl), 0, LB_wd hY (by omega) (by omega) (fun l k h1 h2 => by
                           have h11 : l ≠ 11 := by omega
                           simp [jm_u, h11]), Or.inr ⟨rfl, by omega⟩⟩⟩)
                    · skip
                      exact absurd h31 (by decide)
        · skip
          refine jv_aload_n (pc' := 40) (k := 0) (x := 10) rfl rfl rfl rfl ?_
          refine jv_getR (pc' := 43) (c := 3) (k := 0) (v := 11) rfl rfl rfl (fun _ _ => rfl) rfl rfl (jR_10_0 _) ?_
          refine jv_iload_n (pc' := 44) (k := 2) (x := (iI ((a + 1 : Nat) : Int))) rfl rfl rfl rfl ?_
          refine jv_putI (pc' := 47) (c := 4) (k := 1) rfl rfl rfl rfl (fun _ _ _  => rfl) rfl rfl ?_
          refine jv_iconst (pc' := 48) (n := 0) rfl rfl ?_
          refine jv_retZ rfl rfl (by first | exact Or.inl rfl | exact Or.inr rfl) ⟨_, _, rfl, ?_⟩
          first
          | (exfalso; omega)
          | exact ⟨_, rfl, (fr_u (by simp [wL]) (fr_u (by simp [wL]) (fr_u (by simp [wL]) (fr_r _)))), Or.inr ⟨(by first | exact fd_V0 (by assumption) | exact fd_V1 (by assumption) (by omega)), rfl, rfl⟩⟩
    · skip
      exact absurd h4 (by decide)
  · skip
    refine jv_call (pc' := 15) rfl (cl_takeNumber_kn (I := I) (a := a + 1) hC ha hp (by omega) (by omega) hk2) (fun vq32 gq32 q32 => ?_)
    obtain ⟨rfl, rfl⟩ := q32
    show jx L xs _ 47 15 _ [.int (iI 0)] _ _
    refine jv_if_ne (t := 20) (pc' := 18) (a := 0) rfl rfl rfl (by omega) (fun h33 => ?_) (fun h33 => ?_)
    · skip
      exact absurd h33 (by decide)
    · skip
      refine jv_iconst (pc' := 19) (n := 0) rfl rfl ?_
      refine jv_retZ rfl rfl (by first | exact Or.inl rfl | exact Or.inr rfl) ⟨_, _, rfl, ?_⟩
      first
      | (exfalso; omega)
      | exact ⟨_, rfl, (fr_u (by simp [wL]) (fr_u (by simp [wL]) (fr_r _))), Or.inr ⟨(by first | exact fd_V0 (by assumption) | exact fd_V1 (by assumption) (by omega)), rfl, rfl⟩⟩
theorem cl_seesItem_46 (hC : CT I 1 c n) (ha : I 11 1 = iI ((a : Nat) : Int)) (hp : p 19 = some 1) (han : a ≤ n) : jc L xs (d + 2) 41 [.ref 10] (jx_G j I M p) (fun v g1 => v = some (.int (jb ((97 ≤ c a ∧ c a ≤ 104) ∨ c a = 36 ∨ c a = 35 ∨ c a = 63))) ∧ g1 = jx_G j I M p) := by
  unfold jc
  have hn := hC.2.1
  refine jv_aload_n (pc' := 1) (k := 0) (x := 10) rfl rfl rfl rfl ?_
  refine jv_getR (pc' := 4) (c := 3) (k := 0) (v := 11) rfl rfl rfl (fun _ _ => rfl) rfl rfl (jR_10_0 _) ?_
  have hm1 := CT_c hC (a)
  have ho1 := CT_or hC (a)
  by_cases hk2 : 97 ≤ c (a) ∧ c (a) ≤ 104
  · skip
    refine jv_call (pc' := 7) rfl (cl_seenName_y_k (I := I) (a := a) hC ha hp (by omega) hk2) (fun vq3 gq3 q3 => ?_)
    obtain ⟨rfl, rfl⟩ := q3
    show jx L xs _ 41 7 _ [.int (iI (c (a) - 97))] _ _
    refine jv_iconst (pc' := 8) (n := -1) rfl rfl ?_
    refine jv_ic_ne (t := 47) (pc' := 11) (a := (c (a) - 97)) (b := (-1)) rfl rfl rfl (by omega) (fun h4 => ?_) (fun h4 => ?_)
    · skip
      refine jv_iconst (pc' := 48) (n := 1) rfl rfl ?_
      refine jx_step (pc' := 52) rfl ?_
      refine jv_retZ rfl rfl (by first | exact Or.inl rfl | exact Or.inr rfl) ⟨_, _, rfl, ?_⟩
      first
      | (exfalso; omega)
      | exact ⟨jq_t (by omega), rfl⟩
    · skip
      refine jv_aload_n (pc' := 12) (k := 0) (x := 10) rfl rfl rfl rfl ?_
      refine jv_getR (pc' := 15) (c := 3) (k := 0) (v := 11) rfl rfl rfl (fun _ _ => rfl) rfl rfl (jR_10_0 _) ?_
      refine jv_bipush (pc' := 17) (n := 36) rfl rfl rfl ?_
      have hm5 := CT_c hC (a)
      have ho5 := CT_or hC (a)
      by_cases hk6 : c (a) = 36
      · skip
        refine jv_call (pc' := 20) rfl (cl_sees_y_k (I := I) (a := a) hC ha hp (by omega) (x := 36) (by omega) hk6) (fun vq7 gq7 q7 => ?_)
        obtain ⟨rfl, rfl⟩ := q7
        show jx L xs _ 41 20 _ [.int (iI 1)] _ _
        refine jv_if_ne (t := 47) (pc' := 23) (a := 1) rfl rfl rfl (by omega) (fun h8 => ?_) (fun h8 => ?_)
        · skip
          refine jv_iconst (pc' := 48) (n := 1) rfl rfl ?_
          refine jx_step (pc' := 52) rfl ?_
          refine jv_retZ rfl rfl (by first | exact Or.inl rfl | exact Or.inr rfl) ⟨_, _, rfl, ?_⟩
          first
          | (exfalso; omega)
          | exact ⟨jq_t (by omega), rfl⟩
        · skip
          exact absurd h8 (by decide)
      · skip
        refine jv_call (pc' := 20) rfl (cl_sees_n_k (I := I) (a := a) hC ha hp (by omega) (x := 36) (by omega) hk6) (fun vq9 gq9 q9 => ?_)
        obtain ⟨rfl, rfl⟩ := q9
        show jx L xs _ 41 20 _ [.int (iI 0)] _ _
        refine jv_if_ne (t := 47) (pc' := 23) (a := 0) rfl rfl rfl (by omega) (fun h10 => ?_) (fun h10 => ?_)
        · skip
          exact absurd h10 (by decide)
        · skip
          refine jv_aload_n (pc' := 24) (k := 0) (x := 10) rfl rfl rfl rfl ?_
          refine jv_getR (pc' := 27) (c := 3) (k := 0) (v := 11) rfl rfl rfl (fun _ _ => rfl) rfl rfl (jR_10_0 _) ?_
          refine jv_bipush (pc' := 29) (n := 35) rfl rfl rfl ?_
          have hm11 := CT_c hC (a)
          have ho11 := CT_or hC (a)
          by_cases hk12 : c (a) = 35
          · skip
            refine jv_call (pc' := 32) rfl (cl_sees_y_k (I := I) (a := a) hC ha hp (by omega) (x := 35) (by omega) hk12) (fun vq13 gq13 q13 => ?_)
            obtain ⟨rfl, rfl⟩ := q13
            show jx L xs _ 41 32 _ [.int (iI 1)] _ _
            refine jv_if_ne (t := 47) (pc' := 35) (a := 1) rfl rfl rfl (by omega) (fun h14 => ?_) (fun h14 => ?_)
            · skip
              refine jv_iconst (pc' := 48) (n := 1) rfl rfl ?_
              refine jx_step (pc' := 52) rfl ?_
              refine jv_retZ rfl rfl (by first | exact Or.inl rfl | exact Or.inr rfl) ⟨_, _, rfl, ?_⟩
              first
              | (exfalso; omega)
              | exact ⟨jq_t (by omega), rfl⟩
            · skip
              exact absurd h14 (by decide)
          · skip
            refine jv_call (pc' := 32) rfl (cl_sees_n_k (I := I) (a := a) hC ha hp (by omega) (x := 35) (by omega) hk12) (fun vq15 gq15 q15 => ?_)
            obtain ⟨rfl, rfl⟩ := q15
            show jx L xs _ 41 32 _ [.int (iI 0)] _ _
            refine jv_if_ne (t := 47) (pc' := 35) (a := 0) rfl rfl rfl (by omega) (fun h16 => ?_) (fun h16 => ?_)
            · skip
              exact absurd h16 (by decide)
            · skip
              refine jv_aload_n (pc' := 36) (k := 0) (x := 10) rfl rfl rfl rfl ?_
              refine jv_getR (pc' := 39) (c := 3) (k := 0) (v := 11) rfl rfl rfl (fun _ _ => rfl) rfl rfl (jR_10_0 _) ?_
              refine jv_bipush (pc' := 41) (n := 63) rfl rfl rfl ?_
              have hm17 := CT_c hC (a)
              have ho17 := CT_or hC (a)
              by_cases hk18 : c (a) = 63
              · skip
                refine jv_call (pc' := 44) rfl (cl_sees_y_k (I := I) (a := a) hC ha hp (by omega) (x := 63) (by omega) hk18) (fun vq19 gq19 q19 => ?_)
                obtain ⟨rfl, rfl⟩ := q19
                show jx L xs _ 41 44 _ [.int (iI 1)] _ _
                refine jv_if_eq (t := 51) (pc' := 47) (a := 1) rfl rfl rfl (by omega) (fun h20 => ?_) (fun h20 => ?_)
                · skip
                  exact absurd h20 (by decide)
                · skip
                  refine jv_iconst (pc' := 48) (n := 1) rfl rfl ?_
                  refine jx_step (pc' := 52) rfl ?_
                  refine jv_retZ rfl rfl (by first | exact Or.inl rfl | exact Or.inr rfl) ⟨_, _, rfl, ?_⟩
                  first
                  | (exfalso; omega)
                  | exact ⟨jq_t (by omega), rfl⟩
              · skip
                refine jv_call (pc' := 44) rfl (cl_sees_n_k (I := I) (a := a) hC ha hp (by omega) (x := 63) (by omega) hk18) (fun vq21 gq21 q21 => ?_)
                obtain ⟨rfl, rfl⟩ := q21
                show jx L xs _ 41 44 _ [.int (iI 0)] _ _
                refine jv_if_eq (t := 51) (pc' := 47) (a := 0) rfl rfl rfl (by omega) (fun h22 => ?_) (fun h22 => ?_)
                · skip
                  refine jv_iconst (pc' := 52) (n := 0) rfl rfl ?_
                  refine jv_retZ rfl rfl (by first | exact Or.inl rfl | exact Or.inr rfl) ⟨_, _, rfl, ?_⟩
                  first
                  | (exfalso; omega)
                  | exact ⟨jq_f (by omega), rfl⟩
                · skip
                  exact absurd h22 (by decide)
  · skip
    refine jv_call (pc' := 7) rfl (cl_seenName_n_k (I := I) (a := a) hC ha hp (by omega) hk2) (fun vq23 gq23 q23 => ?_)
    obtain ⟨rfl, rfl⟩ := q23
    show jx L xs _ 41 7 _ [.int (iI (-1))] _ _
    refine jv_iconst (pc' := 8) (n := -1) rfl rfl ?_
    refine jv_ic_ne (t := 47) (pc' := 11) (a := (-1)) (b := (-1)) rfl rfl rfl (by omega) (fun h24 => ?_) (fun h24 => ?_)
    · skip
      exact absurd h24 (by decide)
    · skip
      refine jv_aload_n (pc' := 12) (k := 0) (x := 10) rfl rfl rfl rfl ?_
      refine jv_getR (pc' := 15) (c := 3) (k := 0) (v := 11) rfl rfl rfl (fun _ _ => rfl) rfl rfl (jR_10_0 _) ?_
      refine jv_bipush (pc' := 17) (n := 36) rfl rfl rfl ?_
      have hm25 := CT_c hC (a)
      have ho25 := CT_or hC (a)
      by_cases hk26 : c (a) = 36
      · skip
        refine jv_call (pc' := 20) rfl (cl_sees_y_k (I := I) (a := a) hC ha hp (by omega) (x := 36) (by omega) hk26) (fun vq27 gq27 q27 => ?_)
        obtain ⟨rfl, rfl⟩ := q27
        show jx L xs _ 41 20 _ [.int (iI 1)] _ _
        refine jv_if_ne (t := 47) (pc' := 23) (a := 1) rfl rfl rfl (by omega) (fun h28 => ?_) (fun h28 => ?_)
        · skip
          refine jv_iconst (pc' := 48) (n := 1) rfl rfl ?_
          refine jx_step (pc' := 52) rfl ?_
          refine jv_retZ rfl rfl (by first | exact Or.inl rfl | exact Or.inr rfl) ⟨_, _, rfl, ?_⟩
          first
          | (exfalso; omega)
          | exact ⟨jq_t (by omega), rfl⟩
        · skip
          exact absurd h28 (by decide)
      · skip
        refine jv_call (pc' := 20) rfl (cl_sees_n_k (I := I) (a := a) hC ha hp (by omega) (x := 36) (by omega) hk26) (fun vq29 gq29 q29 => ?_)
        obtain ⟨rfl, rfl⟩ := q29
        show jx L xs _ 41 20 _ [.int (iI 0)] _ _
        refine jv_if_ne (t := 47) (pc' := 23) (a := 0) rfl rfl rfl (by omega) (fun h30 => ?_) (fun h30 => ?_)
        · skip
          exact absurd h30 (by decide)
        · skip
          refine jv_aload_n (pc' := 24) (k := 0) (x := 10) rfl rfl rfl rfl ?_
          refine jv_getR (pc' := 27) (c := 3) (k := 0) (v := 11) rfl rfl rfl (fun _ _ => rfl) rfl rfl (jR_10_0 _) ?_
          refine jv_bipush (pc' := 29) (n := 35) rfl rfl rfl ?_
          have hm31 := CT_c hC (a)
          have ho31 := CT_or hC (a)
          by_cases hk32 : c (a) = 35
          · skip
            refine jv_call (pc' := 32) rfl (cl_sees_y_k (I := I) (a := a) hC ha hp (by omega) (x := 35) (by omega) hk32) (fun vq33 gq33 q33 => ?_)
            obtain ⟨rfl, rfl⟩ := q33
            show jx L xs _ 41 32 _ [.int (iI 1)] _ _
            refine jv_if_ne (t := 47) (pc' := 35) (a := 1) rfl rfl rfl (by omega) (fun h34 => ?_) (fun h34 => ?_)
            · skip
              refine jv_iconst (pc' := 48) (n := 1) rfl rfl ?_
              refine jx_step (pc' := 52) rfl ?_
              refine jv_retZ rfl rfl (by first | exact Or.inl rfl | exact Or.inr rfl) ⟨_, _, rfl, ?_⟩
              first
              | (exfalso; omega)
              | exact ⟨jq_t (by omega), rfl⟩
            · skip
              exact absurd h34 (by decide)
          · skip
            refine jv_call (pc' := 32) rfl (cl_sees_n_k (I := I) (a := a) hC ha hp (by omega) (x := 35) (by omega) hk32) (fun vq35 gq35 q35 => ?_)
            obtain ⟨rfl, rfl⟩ := q35
            show jx L xs _ 41 32 _ [.int (iI 0)] _ _
            refine jv_if_ne (t := 47) (pc' := 35) (a := 0) rfl rfl rfl (by omega) (fun h36 => ?_) (fun h36 => ?_)
            · skip
              exact absurd h36 (by decide)
            · skip
              refine jv_aload_n (pc' := 36) (k := 0) (x := 10) rfl rfl rfl rfl ?_
              refine jv_getR (pc' := 39) (c := 3) (k := 0) (v := 11) rfl rfl rfl (fun _ _ => rfl) rfl rfl (jR_10_0 _) ?_
              refine jv_bipush (pc' := 41) (n := 63) rfl rfl rfl ?_
              have hm37 := CT_c hC (a)
              have ho37 := CT_or hC (a)
              by_cases hk38 : c (a) = 63
              · skip
                refine jv_call (pc' := 44) rfl (cl_sees_y_k (I := I) (a := a) hC ha hp (by omega) (x := 63) (by omega) hk38) (fun vq39 gq39 q39 => ?_)
                obtain ⟨rfl, rfl⟩ := q39
                show jx L xs _ 41 44 _ [.int (iI 1)] _ _
                refine jv_if_eq (t := 51) (pc' := 47) (a := 1) rfl rfl rfl (by omega) (fun h40 => ?_) (fun h40 => ?_)
                · skip
                  exact absurd h40 (by decide)
                · skip
                  refine jv_iconst (pc' := 48) (n := 1) rfl rfl ?_
                  refine jx_step (pc' := 52) rfl ?_
                  refine jv_retZ rfl rfl (by first | exact Or.inl rfl | exact Or.inr rfl) ⟨_, _, rfl, ?_⟩
                  first
                  | (exfalso; omega)
                  | exact ⟨jq_t (by omega), rfl⟩
              · skip
                refine jv_call (pc' := 44) rfl (cl_sees_n_k (I := I) (a := a) hC ha hp (by omega) (x := 63) (by omega) hk38) (fun vq41 gq41 q41 => ?_)
                obtain ⟨rfl, rfl⟩ := q41
                show jx L xs _ 41 44 _ [.int (iI 0)] _ _
                refine jv_if_eq (t := 51) (pc' := 47) (a := 0) rfl rfl rfl (by omega) (fun h42 => ?_) (fun h42 => ?_)
                · skip
                  refine jv_iconst (pc' := 52) (n := 0) rfl rfl ?_
                  refine jv_retZ rfl rfl (by first | exact Or.inl rfl | exact Or.inr rfl) ⟨_, _, rfl, ?_⟩
                  first
                  | (exfalso; omega)
                  | exact ⟨jq_f (by omega), rfl⟩
                · skip
                  exact absurd h42 (by decide)
theorem cl_readField_46 (hC : CT I 1 c n) (ha : I 11 1 = iI ((a : Nat) : Int)) (hp : p 19 = some 1) (han : a ≤ n) (hq : p 20 = some 46) (hY : LB I 46 Y m) (hN : NF Y F) (hF : F < 256) (hm : 2 * m ≤ a) : jc L xs (d + 3) 46 [.ref 10] (jx_G j I M p) (fun v g1 => ∃ I', g1 = jx_G j I' M p ∧ fr (wL 46) I I' ∧ I' 11 1 = iI ((fdA c F a : Nat) : Int) ∧ ((fdOk c F a ∧ v = some (.int (iI 1)) ∧ fdA c F a ≤ n ∧ a + 2 ≤ fdA c F a ∧ ∃ Y', LB I' 46 Y' (m + 1) ∧ NF Y' (fdF c F a) ∧ YX 0 m Y Y' ∧ (UQ Y m → UQ Y' (m + 1)) ∧ (c (fdA c F a) ≠ 60 → FI c Y' m a (fdA c F a))) ∨ (¬ fdOk c F a ∧ v = some (.int (iI 0))))) := by
  unfold jc
  have hn := hC.2.1
  refine jv_aload_n (pc' := 1) (k := 0) (x := 10) rfl rfl rfl rfl ?_
  refine jv_getR (pc' := 4) (c := 3) (k := 0) (v := 11) rfl rfl rfl (fun _ _ => rfl) rfl rfl (jR_10_0 _) ?_
  have hm1 := CT_c hC (a)
  have ho1 := CT_or hC (a)
  by_cases hk2 : 97 ≤ c (a) ∧ c (a) ≤ 104
  · skip
    refine jv_call (pc' := 7) rfl (cl_seenName_y_k (I := I) (a := a) hC ha hp (by omega) hk2) (fun vq3 gq3 q3 => ?_)
    obtain ⟨rfl, rfl⟩ := q3
    show jx L xs _ 46 7 _ [.int (iI (c (a) - 97))] _ _
    refine jv_istore_n (pc' := 8) (k := 1) (x := (iI (c (a) - 97))) rfl rfl rfl rfl (Or.inr rfl) ?_
    refine jv_iload_n (pc' := 9) (k := 1) (x := (iI (c (a) - 97))) rfl rfl rfl rfl ?_
    refine jv_iconst (pc' := 10) (n := -1) rfl rfl ?_
    refine jv_ic_eq (t := 24) (pc' := 13) (a := (c (a) - 97)) (b := (-1)) rfl rfl rfl (by omega) (fun h4 => ?_) (fun h4 => ?_)
    · skip
      refine jv_iconst (pc' := 25) (n := 0) rfl rfl ?_
      refine jv_retZ rfl rfl (by first | exact Or.inl rfl | exact Or.inr rfl) ⟨_, _, rfl, ?_⟩
      first
      | (exfalso; omega)
      | (obtain ⟨e1, e2, e3⟩ := fd_A0 (c := c) (F := F) (a := a) (by
           intro q; unfold fdN at q
           first | (exfalso; omega) | (have q2 := (hN (c a - 97).toNat (by omega)).2 (by simp_all); rw [q.2] at q2; cases q2))
         exact ⟨_, rfl, (fr_r _), by rw [e1]; exact ha, Or.inr ⟨e3, rfl⟩⟩)
    · skip
      refine jv_aload_n (pc' := 14) (k := 0) (x := 10) rfl rfl rfl rfl ?_
      refine jv_getR (pc' := 17) (c := 3) (k := 1) (v := 46) rfl rfl rfl (fun _ _ => rfl) rfl rfl hq ?_
      refine jv_iload_n (pc' := 18) (k := 1) (x := (iI (c (a) - 97))) rfl rfl rfl rfl ?_
      refine jv_call (pc' := 21) rfl (cl_hasField_46 (I := I) hY (x := c (a) - 97) (by omega)) (fun vq5 gq5 q5 => ?_)
      obtain ⟨rfl, rfl⟩ := q5
      show jx L xs _ 46 21 _ [.int (jb (c (a) - 97 ≠ -1 ∧ 0 < Y 4 (c (a) - 97 : Int).toNat))] _ _
      refine jv_jb_eq (t := 26) (pc' := 24) (P := c (a) - 97 ≠ -1 ∧ 0 < Y 4 (c (a) - 97 : Int).toNat) rfl rfl rfl (fun h6 => ?_) (fun h6 => ?_)
      · skip
        have hw0 : ¬ 0 < Y 4 (c a - 97).toNat := by intro q; simp_all
        have hnb : F.testBit (c a - 97).toNat = false := by
          cases hq2 : F.testBit (c a - 97).toNat with
          | false => rfl
          | true => exact absurd ((hN (c a - 97).toNat (by omega)).1 hq2) hw0
        refine jv_aload_n (pc' := 27) (k := 0) (x := 10) rfl rfl rfl rfl ?_
        refine jv_getR (pc' := 30) (c := 3) (k := 0) (v := 11) rfl rfl rfl (fun _ _ => rfl) rfl rfl (jR_10_0 _) ?_
        refine jx_step (pc' := 31) rfl ?_
        refine jv_getI (pc' := 34) (c := 4) (k := 1) (v := (iI ((a : Nat) : Int))) rfl rfl rfl (fun _ _ => rfl) rfl rfl ha ?_
        refine jv_iconst (pc' := 35) (n := 1) rfl rfl ?_
        refine jv_iadd (pc' := 36) (a := ((a : Nat) : Int)) (b := 1) rfl rfl ?_
        refine jv_putI (pc' := 39) (c := 4) (k := 1) rfl rfl rfl rfl (fun _ _ _  => rfl) rfl rfl ?_
        refine jv_aload_n (pc' := 40) (k := 0) (x := 10) rfl rfl rfl rfl ?_
        refine jv_iload_n (pc' := 41) (k := 1) (x := (iI (c (a) - 97))) rfl rfl rfl rfl ?_
        refine jv_call (pc' := 44) rfl (cl_readWidth_46 (I := jm_u I 11 1 (iI (((a : Nat) : Int) + 1))) (a := a) (n := n) (m := m) (Y := Y) hC rfl hp (by omega) hq hY (by omega)) (fun vq7 gq7 q7 => ?_)
        obtain ⟨Iq7, rfl, rq7, q7⟩ := q7
        have Cq7 := CT_fr (I := jm_u I 11 1 (iI (((a : Nat) : Int) + 1))) (t := 1) (c := c) (n := n) hC rq7 (by simp [wL]) (fun k => by simp [wL])
        rcases q7 with ⟨oq7, rfl, aq7, s, Yq7, sq7⟩ | ⟨oq7, rfl, aq7⟩
        · skip
          have hV2 := fd_pos oq7
          have h2 := fd2_le c a
          have h3 := CT_nd Cq7 6 (a + 1) (by omega)
          have h4 : nd c (a + 1) = ndk c 6 (a + 1) := rfl
          have h5 := fd2_in Cq7 (a := a) (by omega)
          show jx L xs _ 46 44 _ [.int (iI 1)] _ _
          refine jv_if_ne (t := 49) (pc' := 47) (a := 1) rfl rfl rfl (by omega) (fun h8 => ?_) (fun h8 => ?_)
          · skip
            refine jv_aload_n (pc' := 50) (k := 0) (x := 10) rfl rfl rfl rfl ?_
            refine jv_getR (pc' := 53) (c := 3) (k := 0) (v := 11) rfl rfl rfl (fun _ _ => rfl) rfl rfl (jR_10_0 _) ?_
            refine jv_bipush (pc' := 55) (n := 33) rfl rfl rfl ?_
            have hm9 := CT_c Cq7 (fd2 c a)
            have ho9 := CT_or Cq7 (fd2 c a)
            by_cases hk10 : c (fd2 c a) = 33
            · skip
              refine jv_call (pc' := 58) rfl (cl_take_y_k (I := Iq7) (a := fd2 c a) Cq7 aq7 hp (by omega) (x := 33) (by omega) hk10) (fun vq11 gq11 q11 => ?_)
              obtain ⟨rfl, rfl⟩ := q11
              show jx L xs _ 46 58 _ [.int (iI 1)] _ _
              refine jv_if_eq (t := 72) (pc' := 61) (a := 1) rfl rfl rfl (by omega) (fun h12 => ?_) (fun h12 => ?_)
              · skip
                exact absurd h12 (by decide)
              · skip
                refine jv_aload_n (pc' := 62) (k := 0) (x := 10) rfl rfl rfl rfl ?_
                refine jv_getR (pc' := 65) (c := 3) (k := 1) (v := 46) rfl rfl rfl (fun _ _ => rfl) rfl rfl hq ?_
                refine jv_iconst (pc' := 66) (n := 2) rfl rfl ?_
                refine jv_iload_n (pc' := 67) (k := 1) (x := (iI (c (a) - 97))) rfl rfl rfl rfl ?_
                refine jv_iconst (pc' := 68) (n := 0) rfl rfl ?_
                refine jv_call (pc' := 71) rfl (cl_add_46 (I := jm_u Iq7 11 1 (iI ((fd2 c a + 1 : Nat) : Int))) Yq7 (by omega)) (fun vq13 gq13 q13 => ?_)
                obtain ⟨Iq13, rfl, rfl, Yq13, rq13⟩ := q13
                have Cq13 := CT_fr (I := jm_u Iq7 11 1 (iI ((fd2 c a + 1 : Nat) : Int))) (t := 1) (c := c) (n := n) Cq7 rq13 (by simp [wT]) (fun k => by simp [wT])
                show jx L xs _ 46 71 _ [.int (iI 1)] _ _
                refine jv_retZ rfl rfl (by first | exact Or.inl rfl | exact Or.inr rfl) ⟨_, _, rfl, ?_⟩
                first
                | (exfalso; omega)
                | (have eA : fdA c F a = fd2 c a + 1 := (fd_A (show fdN c F a from ⟨by omega, hnb⟩) oq7).trans ((if_neg (by omega)).trans (if_pos (by assumption)))
                   have eF : fdF c F a = F ||| 2 ^ (c a - 97).toNat := fd_F (show fdN c F a from ⟨by omega, hnb⟩) oq7
                   refine ⟨_, rfl, (fr_t (fr_u (by simp [wL]) (fr_t (fr_u (by simp [wL]) (fr_r _)) rq7)) (fr_w rq13 (wT_L 46))), by rw [eA]; exact ((rq13 11 1 (by simp [wT])).trans rfl), Or.inl ⟨⟨(show fdN c F a from ⟨by omega, hnb⟩), oq7, by intro q; first | assumption | omega⟩, rfl, by omega, by omega, _, Yq13, by rw [eF]; exact NF_ad (NF_wd hN (by omega)), YX_t (YX_wd hw0) (YX_ad _ _ _ _), fun z => UQ_fd hw0 (by omega) (by omega) z, fun hne => ?_⟩⟩
                   rw [eA] at hne ⊢
                   refine ⟨by omega, by simp [Yad], by omega, by omega, by simp [Yad, Ywd], fd2 c a, ?_, Or.inr (Or.inl ⟨by assumption, by simp [Yad], rfl⟩)⟩
                   exact fd_sw sq7 hV2.1 (by simp [Yad, Ywd]) (by intro q; apply hne; first | (exfalso; omega) | exact q))
            · skip
              refine jv_call (pc' := 58) rfl (cl_take_n_k (I := Iq7) (a := fd2 c a) Cq7 aq7 hp (by omega) (x := 33) (by omega) hk10) (fun vq14 gq14 q14 => ?_)
              obtain ⟨rfl, rfl⟩ := q14
              show jx L xs _ 46 58 _ [.int (iI 0)] _ _
              refine jv_if_eq (t := 72) (pc' := 61) (a := 0) rfl rfl rfl (by omega) (fun h15 => ?_) (fun h15 => ?_)
              · skip
                refine jv_aload_n (pc' := 73) (k := 0) (x := 10) rfl rfl rfl rfl ?_
                refine jv_getR (pc' := 76) (c := 3) (k := 0) (v := 11) rfl rfl rfl (fun _ _ => rfl) rfl rfl (jR_10_0 _) ?_
                refine jv_bipush (pc' := 78) (n := 61) rfl rfl rfl ?_
                have hm16 := CT_c Cq7 (fd2 c a)
                have ho16 := CT_or Cq7 (fd2 c a)
                by_cases hk17 : c (fd2 c a) = 61
                · skip
                  refine jv_call (pc' := 81) rfl (cl_take_y_k (I := Iq7) (a := fd2 c a) Cq7 aq7 hp (by omega) (x := 61) (by omega) hk17) (fun vq18 gq18 q18 => ?_)
                  obtain ⟨rfl, rfl⟩ := q18
                  show jx L xs _ 46 81 _ [.int (iI 1)] _ _
                  refine jv_if_eq (t := 119) (pc' := 84) (a := 1) rfl rfl rfl (by omega) (fun h19 => ?_) (fun h19 => ?_)
                  · skip
                    exact absurd h19 (by decide)
                  · skip
                    refine jv_aload_n (pc' := 85) (k := 0) (x := 10) rfl rfl rfl rfl ?_
                    refine jv_getR (pc' := 88) (c := 3) (k := 0) (v := 11) rfl rfl rfl (fun _ _ => rfl) rfl rfl (jR_10_0 _) ?_
                    have hm20 := CT_c Cq7 (fd2 c a + 1)
                    have ho20 := CT_or Cq7 (fd2 c a + 1)
                    have := nd_le c (fd2 c a + 1)
                    have := nv_b c (fd2 c a + 1)
                    have := CT_nd Cq7 6 (fd2 c a + 1) (by omega)
                    have : nd c (fd2 c a + 1) = ndk c 6 (fd2 c a + 1) := rfl
                    by_cases hk21 : 0 < nd c (fd2 c a + 1)
                    · skip
                      refine jv_call (pc' := 91) rfl (cl_takeNumber_ky (I := jm_u Iq7 11 1 (iI ((fd2 c a + 1 : Nat) : Int))) (a := fd2 c a + 1) Cq7 rfl hp (by omega) (by omega) hk21) (fun vq22 gq22 q22 => ?_)
                      obtain ⟨rfl, rfl⟩ := q22
                      show jx L xs _ 46 91 _ [.int (iI 1)] _ _
                      refine jv_if_eq (t := 117) (pc' := 94) (a := 1) rfl rfl rfl (by omega) (fun h23 => ?_) (fun h23 => ?_)
                      · skip
                        exact absurd h23 (by decide)
                      · skip
                        refine jv_aload_n (pc' := 95) (k := 0) (x := 10) rfl rfl rfl rfl ?_
                        refine jv_getR (pc' := 98) (c := 3) (k := 1) (v := 46) rfl rfl rfl (fun _ _ => rfl) rfl rfl hq ?_
                        refine jv_iconst (pc' := 99) (n := 1) rfl rfl ?_
                        refine jv_iload_n (pc' := 100) (k := 1) (x := (iI (c (a) - 97))) rfl rfl rfl rfl ?_
                        refine jv_aload_n (pc' := 101) (k := 0) (x := 10) rfl rfl rfl rfl ?_
                        refine jv_getR (pc' := 104) (c := 3) (k := 0) (v := 11) rfl rfl rfl (fun _ _ => rfl) rfl rfl (jR_10_0 _) ?_
                        refine jv_getI (pc' := 107) (c := 4) (k := 2) (v := (iI (nv c (fd2 c a + 1)))) rfl rfl rfl (fun _ _ => rfl) rfl rfl rfl ?_
                        refine jv_call (pc' := 110) rfl (cl_add_46 (I := jm_u (jm_u (jm_u Iq7 11 1 (iI ((fd2 c a + 1 : Nat) : Int))) 11 2 (iI (nv c (fd2 c a + 1)))) 11 1 (iI ((fd2 c a + 1 + nd c (fd2 c a + 1) : Nat) : Int))) Yq7 (by omega)) (fun vq24 gq24 q24 => ?_)
                        obtain ⟨Iq24, rfl, rfl, Yq24, rq24⟩ := q24
                        have Cq24 := CT_fr (I := jm_u (jm_u (jm_u Iq7 11 1 (iI ((fd2 c a + 1 : Nat) : Int))) 11 2 (iI (nv c (fd2 c a + 1)))) 11 1 (iI ((fd2 c a + 1 + nd c (fd2 c a + 1) : Nat) : Int))) (t := 1) (c := c) (n := n) Cq7 rq24 (by simp [wT]) (fun k => by simp [wT])
                        show jx L xs _ 46 110 _ [.int (iI 1)] _ _
                        refine jv_if_eq (t := 117) (pc' := 113) (a := 1) rfl rfl rfl (by omega) (fun h25 => ?_) (fun h25 => ?_)
                        · skip
                          exact absurd h25 (by decide)
                        · skip
                          refine jv_iconst (pc' := 114) (n := 1) rfl rfl ?_
                          refine jx_step (pc' := 118) rfl ?_
                          refine jv_retZ rfl rfl (by first | exact Or.inl rfl | exact Or.inr rfl) ⟨_, _, rfl, ?_⟩
                          first
                          | (exfalso; omega)
                          | (have eA : fdA c F a = fd2 c a + 1 + nd c (fd2 c a + 1) := (fd_A (show fdN c F a from ⟨by omega, hnb⟩) oq7).trans (if_pos (by assumption))
                             have eF : fdF c F a = F ||| 2 ^ (c a - 97).toNat := fd_F (show fdN c F a from ⟨by omega, hnb⟩) oq7
                             refine ⟨_, rfl, (fr_t (fr_u (by simp [wL]) (fr_u (by simp [wL]) (fr_u (by simp [wL]) (fr_t (fr_u (by simp [wL]) (fr_r _)) rq7)))) (fr_w rq24 (wT_L 46))), by rw [eA]; exact ((rq24 11 1 (by simp [wT])).trans rfl), Or.inl ⟨⟨(show fdN c F a from ⟨by omega, hnb⟩), oq7, by intro q; first | assumption | omega⟩, rfl, by omega, by omega, _, Yq24, by rw [eF]; exact NF_ad (NF_wd hN (by omega)), YX_t (YX_wd hw0) (YX_ad _ _ _ _), fun z => UQ_fd hw0 (by omega) (by omega) z, fun hne => ?_⟩⟩
                             rw [eA] at hne ⊢
                             refine ⟨by omega, by simp [Yad], by omega, by omega, by simp [Yad, Ywd], fd2 c a, ?_, Or.inl ⟨by assumption, by assumption, by simp [Yad], by simp [Yad], rfl⟩⟩
                             exact fd_sw sq7 hV2.1 (by simp [Yad, Ywd]) (by intro q; apply hne; first | (exfalso; omega) | exact q))
                    · skip
                      refine jv_call (pc' := 91) rfl (cl_takeNumber_kn (I := jm_u Iq7 11 1 (iI ((fd2 c a + 1 : Nat) : Int))) (a := fd2 c a + 1) Cq7 rfl hp (by omega) (by omega) hk21) (fun vq26 gq26 q26 => ?_)
                      obtain ⟨rfl, rfl⟩ := q26
                      show jx L xs _ 46 91 _ [.int (iI 0)] _ _
                      refine jv_if_eq (t := 117) (pc' := 94) (a := 0) rfl rfl rfl (by omega) (fun h27 => ?_) (fun h27 => ?_)
                      · skip
                        refine jv_iconst (pc' := 118) (n := 0) rfl rfl ?_
                        refine jv_retZ rfl rfl (by first | exact Or.inl rfl | exact Or.inr rfl) ⟨_, _, rfl, ?_⟩
                        first
                        | (exfalso; omega)
                        | (have hz0 : nd c (fd2 c a + 1) = 0 := Nat.eq_zero_of_not_pos (by assumption)
                           have eA : fdA c F a = fd2 c a + 1 := (fd_A (show fdN c F a from ⟨by omega, hnb⟩) oq7).trans ((if_pos (by assumption)).trans (by rw [hz0]))
                           exact ⟨_, rfl, (fr_u (by simp [wL]) (fr_u (by simp [wL]) (fr_u (by simp [wL]) (fr_t (fr_u (by simp [wL]) (fr_r _)) rq7)))), by rw [eA]; exact rfl, Or.inr ⟨fun q => by have := q.2.2 (by assumption); omega, rfl⟩⟩)
                      · skip
                        exact absurd h27 (by decide)
                · skip
                  refine jv_call (pc' := 81) rfl (cl_take_n_k (I := Iq7) (a := fd2 c a) Cq7 aq7 hp (by omega) (x := 61) (by omega) hk17) (fun vq28 gq28 q28 => ?_)
                  obtain ⟨rfl, rfl⟩ := q28
                  show jx L xs _ 46 81 _ [.int (iI 0)] _ _
                  refine jv_if_eq (t := 119) (pc' := 84) (a := 0) rfl rfl rfl (by omega) (fun h29 => ?_) (fun h29 => ?_)
                  · skip
                    refine jv_aload_n (pc' := 120) (k := 0) (x := 10) rfl rfl rfl rfl ?_
                    refine jv_getR (pc' := 123) (c := 3) (k := 1) (v := 46) rfl rfl rfl (fun _ _ => rfl) rfl rfl hq ?_
                    refine jv_iconst (pc' := 124) (n := 0) rfl rfl ?_
                    refine jv_iload_n (pc' := 125) (k := 1) (x := (iI (c (a) - 97))) rfl rfl rfl rfl ?_
                    refine jv_iconst (pc' := 126) (n := 0) rfl rfl ?_
                    refine jv_call (pc' := 129) rfl (cl_add_46 (I := Iq7) Yq7 (by omega)) (fun vq30 gq30 q30 => ?_)
                    obtain ⟨Iq30, rfl, rfl, Yq30, rq30⟩ := q30
                    have Cq30 := CT_fr (I := Iq7) (t := 1) (c := c) (n := n) Cq7 rq30 (by simp [wT]) (fun k => by simp [wT])
                    show jx L xs _ 46 129 _ [.int (iI 1)] _ _
                    refine jv_retZ rfl rfl (by first | exact Or.inl rfl | exact Or.inr rfl) ⟨_, _, rfl, ?_⟩
                    first
                    | (exfalso; omega)
                    | (have eA : fdA c F a = fd2 c a := (fd_A (show fdN c F a from ⟨by omega, hnb⟩) oq7).trans ((if_neg (by assumption)).trans (if_neg (by assumption)))
                       have eF : fdF c F a = F ||| 2 ^ (c a - 97).toNat := fd_F (show fdN c F a from ⟨by omega, hnb⟩) oq7
                       refine ⟨_, rfl, (fr_t (fr_t (fr_u (by simp [wL]) (fr_r _)) rq7) (fr_w rq30 (wT_L 46))), by rw [eA]; exact ((rq30 11 1 (by simp [wT])).trans aq7), Or.inl ⟨⟨(show fdN c F a from ⟨by omega, hnb⟩), oq7, by intro q; first | assumption | omega⟩, rfl, by omega, by omega, _, Yq30, by rw [eF]; exact NF_ad (NF_wd hN (by omega)), YX_t (YX_wd hw0) (YX_ad _ _ _ _), fun z => UQ_fd hw0 (by omega) (by omega) z, fun hne => ?_⟩⟩
                       rw [eA] at hne ⊢
                       refine ⟨by omega, by simp [Yad], by omega, by omega, by simp [Yad, Ywd], fd2 c a, ?_, Or.inr (Or.inr ⟨by assumption, by assumption, by simp [Yad], rfl⟩)⟩
                       exact fd_sw sq7 hV2.1 (by simp [Yad, Ywd]) (by intro q; apply hne; first | (exfalso; omega) | exact q))
                  · skip
                    exact absurd h29 (by decide)
              · skip
                exact absurd h15 (by decide)
          · skip
            exact absurd h8 (by decide)
        · skip
          show jx L xs _ 46 44 _ [.int (iI 0)] _ _
          refine jv_if_ne (t := 49) (pc' := 47) (a := 0) rfl rfl rfl (by omega) (fun h31 => ?_) (fun h31 => ?_)
          · skip
            exact absurd h31 (by decide)
          · skip
            refine jv_iconst (pc' := 48) (n := 0) rfl rfl ?_
            refine jv_retZ rfl rfl (by first | exact Or.inl rfl | exact Or.inr rfl) ⟨_, _, rfl, ?_⟩
            first
            | (exfalso; omega)
            | (obtain ⟨e1, e2, e3⟩ := fd_A1 (show fdN c F a from ⟨by omega, hnb⟩) oq7
               exact ⟨_, rfl, (fr_t (fr_u (by simp [wL]) (fr_r _)) rq7), by rw [e1]; exact aq7, Or.inr ⟨e3, rfl⟩⟩)
      · skip
        refine jv_iconst (pc' := 25) (n := 0) rfl rfl ?_
        refine jv_retZ rfl rfl (by first | exact Or.inl rfl | exact Or.inr rfl) ⟨_, _, rfl, ?_⟩
        first
        | (exfalso; omega)
        | (obtain ⟨e1, e2, e3⟩ := fd_A0 (c := c) (F := F) (a := a) (by
             intro q; unfold fdN at q
             first | (exfalso; omega) | (have q2 := (hN (c a - 97).toNat (by omega)).2 (by simp_all); rw [q.2] at q2; cases q2))
           exact ⟨_, rfl, (fr_r _), by rw [e1]; exact ha, Or.inr ⟨e3, rfl⟩⟩)
  · skip
    refine jv_call (pc' := 7) rfl (cl_seenName_n_k (I := I) (a := a) hC ha hp (by omega) hk2) (fun vq32 gq32 q32 => ?_)
    obtain ⟨rfl, rfl⟩ := q32
    show jx L xs _ 46 7 _ [.int (iI (-1))] _ _
    refine jv_istore_n (pc' := 8) (k := 1) (x := (iI (-1))) rfl rfl rfl rfl (Or.inr rfl) ?_
    refine jv_iload_n (pc' := 9) (k := 1) (x := (iI (-1))) rfl rfl rfl rfl ?_
    refine jv_iconst (pc' := 10) (n := -1) rfl rfl ?_
    refine jv_ic_eq (t := 24) (pc' := 13) (a := (-1)) (b := (-1)) rfl rfl rfl (by omega) (fun h33 => ?_) (fun h33 => ?_)
    · skip
      refine jv_iconst (pc' := 25) (n := 0) rfl rfl ?_
      refine jv_retZ rfl rfl (by first | exact Or.inl rfl | exact Or.inr rfl) ⟨_, _, rfl, ?_⟩
      first
      | (exfalso; omega)
      | (obtain ⟨e1, e2, e3⟩ := fd_A0 (c := c) (F := F) (a := a) (by
           intro q; unfold fdN at q
           first | (exfalso; omega) | (have q2 := (hN (c a - 97).toNat (by omega)).2 (by simp_all); rw [q.2] at q2; cases q2))
         exact ⟨_, rfl, (fr_r _), by rw [e1]; exact ha, Or.inr ⟨e3, rfl⟩⟩)
    · skip
      exact absurd h33 (by decide)
end C2_46
