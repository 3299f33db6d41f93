/-! printed by wip/whole/gen/d2.py: the bits of a frame in the reference -/
def FM (I : Nat → Nat → Int32) (f : Nat) (B : Nat → Nat) (sz : Nat) : Prop := f < 12 ∧ I 115 f = iI (sz : Int) ∧ sz ≤ 40 ∧ (∀ k, k < sz → I 116 (40 * f + k) = iI ((B k : Nat) : Int)) ∧ (∀ k, B k < 256)
theorem FM_fr {W : Nat → Nat → Prop} {I I' : Nat → Nat → Int32} {f : Nat} {B : Nat → Nat} {sz : Nat} (h : FM I f B sz) (q : fr W I I') (h1 : ¬ W 115 f) (h2 : ∀ k, ¬ W 116 k) : FM I' f B sz :=
  ⟨h.1, (q _ _ h1).trans h.2.1, h.2.2.1, fun k hk => (q _ _ (h2 _)).trans (h.2.2.2.1 k hk), h.2.2.2.2⟩
theorem bv_s (B : Nat → Nat) (a n : Nat) : bv B a (n + 1) = 2 * bv B a n + bt B (a + n) := rfl
theorem tv_s (B : Nat → Nat) (a n i : Nat) : tv B a n (i + 1) = 256 * tv B a n i + bv B (a + (n - 8 - 8 * i)) 8 := rfl
section D2
variable {L : Nat} {xs : Nat → Int32} {d j : Nat} {I : Nat → Nat → Int32} {M : Nat → Nat → Int64} {p : Nat → Option Nat}
variable {fi : Nat} {B : Nat → Nat} {sz a n : Nat}
theorem ml_bitsAt (hB : FM I fi B sz) (hin : I 103 29 = iI (fi : Int)) (hn : n ≤ 32) (h : a + n ≤ 8 * sz) : jc L xs d 139 [.ref 103, .int (iI ((a : Nat) : Int)), .int (iI ((n : Nat) : Int))] (jx_G j I M p) (fun v g1 => v = some (.long (lI ((bv B a n : Nat) : Int))) ∧ g1 = jx_G j I M p) := by
  unfold jc
  have hs := hB.2.2.1
  have hf := hB.1
  refine jv_long (pc' := 1) (y := lI 0) rfl (by decide) ?_
  refine jv_lstore_n (pc' := 2) (k := 3) (x := (lI 0)) rfl rfl rfl rfl (Or.inr rfl) ?_
  refine jv_iload_n (pc' := 3) (k := 1) (x := (iI ((a : Nat) : Int))) rfl rfl rfl rfl ?_
  refine jv_istore (pc' := 5) (k := 5) (x := (iI ((a : Nat) : Int))) rfl rfl rfl (Or.inr rfl) ?_
  have H1 : ∀ (N : Nat) (i : Nat), n - i < N → (i ≤ n) → ∀ f : jm_F, f 0 = some (.ref 103) → f 1 = some (.int (iI ((a : Nat) : Int))) → f 2 = some (.int (iI ((n : Nat) : Int))) → f 3 = some (.long (lI ((bv B a i : Nat) : Int))) → f 5 = some (.int (iI ((a + i : Nat) : Int))) → jm_lng (f 4) = false → jx L xs (d) 139 5 f [] (jx_G j I M p) (fun z => ∃ v g1, z = (.inl v, g1) ∧ (fun v g1 => v = some (.long (lI ((bv B a n : Nat) : Int))) ∧ g1 = jx_G j I M p) v g1) := by
    intro N
    induction N with
    | zero => intro i hN; exact absurd hN (Nat.not_lt_zero _)
    | succ N ih =>
      intro i hN hi f hf0 hf1 hf2 hf3 hf5 hg4
      refine jv_iload (pc' := 7) (k := 5) (x := (iI ((a + i : Nat) : Int))) rfl rfl hf5 ?_
      refine jv_iload_n (pc' := 8) (k := 1) (x := (iI ((a : Nat) : Int))) rfl rfl rfl hf1 ?_
      refine jv_iload_n (pc' := 9) (k := 2) (x := (iI ((n : Nat) : Int))) rfl rfl rfl hf2 ?_
      refine jv_iadd (pc' := 10) (a := ((a : Nat) : Int)) (b := ((n : Nat) : Int)) rfl rfl ?_
      refine jv_ic_ge (t := 56) (pc' := 13) (a := ((a + i : Nat) : Int)) (b := (((a : Nat) : Int) + ((n : Nat) : Int))) rfl rfl rfl (by omega) (fun h2 => ?_) (fun h2 => ?_)
      · skip
        refine jv_lload_n (pc' := 57) (k := 3) (x := (lI ((bv B a i : Nat) : Int))) rfl rfl rfl hf3 ?_
        refine jv_retJ rfl rfl ⟨_, _, rfl, ?_⟩
        have e : i = n := by omega
        subst e
        exact ⟨rfl, rfl⟩
      · skip
        have hb1 := bv_32 B a (n := i) (by omega)
        have hb2 := bt_lt B (a + i)
        refine jv_long (pc' := 16) (y := lI 2) rfl (by decide) ?_
        refine jv_lload_n (pc' := 17) (k := 3) (x := (lI ((bv B a i : Nat) : Int))) rfl rfl rfl hf3 ?_
        refine jv_lmul (pc' := 18) (a := 2) (b := ((bv B a i : Nat) : Int)) rfl rfl ?_
        refine jv_aload_n (pc' := 19) (k := 0) (x := 103) rfl rfl rfl hf0 ?_
        refine jv_getR (pc' := 22) (c := 12) (k := 16) (v := 116) rfl rfl rfl (fun _ _ => rfl) rfl rfl (jR_103_16 _) ?_
        refine jv_bipush (pc' := 24) (n := 40) rfl rfl rfl ?_
        refine jv_aload_n (pc' := 25) (k := 0) (x := 103) rfl rfl rfl hf0 ?_
        refine jv_getI (pc' := 28) (c := 12) (k := 29) (v := (iI (fi : Int))) rfl rfl rfl (fun _ _ => rfl) rfl rfl hin ?_
        refine jv_imul (pc' := 29) (a := 40) (b := (fi : Int)) rfl rfl ?_
        refine jv_iload (pc' := 31) (k := 5) (x := (iI ((a + i : Nat) : Int))) rfl rfl hf5 ?_
        refine jv_bipush (pc' := 33) (n := 8) rfl rfl rfl ?_
        refine jv_int (pc' := 34) (y := (iI (((a + i) / 8 : Nat) : Int))) rfl (iI_D8 (by omega)) ?_
        refine jv_iadd (pc' := 35) (a := (40 * (fi : Int))) (b := (((a + i) / 8 : Nat) : Int)) rfl rfl ?_
        refine jv_iaload (pc' := 36) (n := 480) (e := ((40 * (fi : Int)) + (((a + i) / 8 : Nat) : Int))) (v := (iI ((B ((a + i) / 8) : Nat) : Int))) rfl rfl (by decide) rfl rfl rfl (by omega) ((congrArg (I 116) (show ((40 * (fi : Int)) + (((a + i) / 8 : Nat) : Int) : Int).toNat = 40 * fi + (a + i) / 8 by omega)).trans (hB.2.2.2.1 ((a + i) / 8) (by omega))) ?_
        refine jv_bipush (pc' := 38) (n := 7) rfl rfl rfl ?_
        refine jv_iload (pc' := 40) (k := 5) (x := (iI ((a + i : Nat) : Int))) rfl rfl hf5 ?_
        refine jv_bipush (pc' := 42) (n := 8) rfl rfl rfl ?_
        refine jv_int (pc' := 43) (y := (iI (((a + i) % 8 : Nat) : Int))) rfl (iI_R8 (by omega)) ?_
        refine jv_isub (pc' := 44) (a := 7) (b := (((a + i) % 8 : Nat) : Int)) rfl rfl ?_
        refine jv_int (pc' := 45) (y := (iI ((B ((a + i) / 8) : Nat) : Int)) >>> ((iI (7 - (((a + i) % 8 : Nat) : Int))) &&& 31)) rfl rfl ?_
        refine jv_iconst (pc' := 46) (n := 1) rfl rfl ?_
        refine jv_int (pc' := 47) (y := (iI ((bt B (a + i) : Nat) : Int))) rfl (bt_I hB.2.2.2.2 (a + i)) ?_
        refine jv_i2l (pc' := 48) (a := ((bt B (a + i) : Nat) : Int)) rfl rfl (by omega) ?_
        refine jv_ladd (pc' := 49) (a := (2 * ((bv B a i : Nat) : Int))) (b := ((bt B (a + i) : Nat) : Int)) rfl rfl ?_
        rw [show (2 * ((bv B a i : Nat) : Int)) + ((bt B (a + i) : Nat) : Int) = ((bv B a (i + 1) : Nat) : Int) by rw [bv_s]; omega]
        refine jv_lstore_n (pc' := 50) (k := 3) (x := (lI ((bv B a (i + 1) : Nat) : Int))) rfl rfl rfl rfl (Or.inr (congrArg jm_lng hf2)) ?_
        refine jv_iinc (pc' := 53) (k := 5) (a := ((a + i : Nat) : Int)) rfl rfl hf5 rfl (Or.inr rfl) ?_
        refine jx_step (pc' := 5) rfl ?_
        exact ih (i + 1) (by omega) (by omega) _ hf0 hf1 hf2 rfl rfl rfl
  exact H1 _ 0 (Nat.lt_succ_self _) (by omega) _ rfl rfl rfl rfl rfl rfl
theorem ml_turnedAt (hB : FM I fi B sz) (hin : I 103 29 = iI (fi : Int)) {m : Nat} (hm : m ≤ 4) (h : a + 8 * m ≤ 8 * sz) : jc L xs (d + 1) 140 [.ref 103, .int (iI ((a : Nat) : Int)), .int (iI ((8 * m : Nat) : Int))] (jx_G j I M p) (fun v g1 => v = some (.long (lI ((tv B a (8 * m) m : Nat) : Int))) ∧ g1 = jx_G j I M p) := by
  unfold jc
  have hs := hB.2.2.1
  have hf := hB.1
  refine jv_long (pc' := 1) (y := lI 0) rfl (by decide) ?_
  refine jv_lstore_n (pc' := 2) (k := 3) (x := (lI 0)) rfl rfl rfl rfl (Or.inr rfl) ?_
  refine jv_iload_n (pc' := 3) (k := 2) (x := (iI ((8 * m : Nat) : Int))) rfl rfl rfl rfl ?_
  refine jv_bipush (pc' := 5) (n := 8) rfl rfl rfl ?_
  refine jv_isub (pc' := 6) (a := ((8 * m : Nat) : Int)) (b := 8) rfl rfl ?_
  refine jv_istore (pc' := 8) (k := 5) (x := (iI (((8 * m : Nat) : Int) - 8))) rfl rfl rfl (Or.inr rfl) ?_
  have H1 : ∀ (N : Nat) (i : Nat) (z : Int), m - i < N → (i ≤ m) → (z = 8 * (m : Int) - 8 - 8 * (i : Int)) → ∀ f : jm_F, f 0 = some (.ref 103) → f 1 = some (.int (iI ((a : Nat) : Int))) → f 2 = some (.int (iI ((8 * m : Nat) : Int))) → f 3 = some (.long (lI ((tv B a (8 * m) i : Nat) : Int))) → f 5 = some (.int (iI z)) → jm_lng (f 4) = false → jx L xs ((d + 1)) 140 8 f [] (jx_G j I M p) (fun z => ∃ v g1, z = (.inl v, g1) ∧ (fun v g1 => v = some (.long (lI ((tv B a (8 * m) m : Nat) : Int))) ∧ g1 = jx_G j I M p) v g1) := by
    intro N
    induction N with
    | zero => intro i z hN; exact absurd hN (Nat.not_lt_zero _)
    | succ N ih =>
      intro i z hN hi hz f hf0 hf1 hf2 hf3 hf5 hg4
      refine jv_iload (pc' := 10) (k := 5) (x := (iI z)) rfl rfl hf5 ?_
      refine jv_if_lt (t := 36) (pc' := 13) (a := z) rfl rfl rfl (by omega) (fun h2 => ?_) (fun h2 => ?_)
      · skip
        refine jv_lload_n (pc' := 37) (k := 3) (x := (lI ((tv B a (8 * m) i : Nat) : Int))) rfl rfl rfl hf3 ?_
        refine jv_retJ rfl rfl ⟨_, _, rfl, ?_⟩
        have e : i = m := by omega
        subst e
        exact ⟨rfl, rfl⟩
      · skip
        have hb2 := tv_32 B a (8 * m) (i := i) (by omega)
        have hb3 := bv_lt B (a + (8 * m - 8 - 8 * i)) 8
        refine jv_long (pc' := 16) (y := lI 256) rfl (by decide) ?_
        refine jv_lload_n (pc' := 17) (k := 3) (x := (lI ((tv B a (8 * m) i : Nat) : Int))) rfl rfl rfl hf3 ?_
        refine jv_lmul (pc' := 18) (a := 256) (b := ((tv B a (8 * m) i : Nat) : Int)) rfl rfl ?_
        refine jv_aload_n (pc' := 19) (k := 0) (x := 103) rfl rfl rfl hf0 ?_
        refine jv_iload_n (pc' := 20) (k := 1) (x := (iI ((a : Nat) : Int))) rfl rfl rfl hf1 ?_
        refine jv_iload (pc' := 22) (k := 5) (x := (iI z)) rfl rfl hf5 ?_
        refine jv_iadd (pc' := 23) (a := ((a : Nat) : Int)) (b := z) rfl rfl ?_
        refine jv_bipush (pc' := 25) (n := 8) rfl rfl rfl ?_
        rw [show ((a : Nat) : Int) + z = ((a + (8 * m - 8 - 8 * i) : Nat) : Int) by omega]
        refine jv_call (pc' := 28) rfl (ml_bitsAt (a := a + (8 * m - 8 - 8 * i)) (n := 8) hB hin (by omega) (by omega)) (fun vq3 gq3 q3 => ?_)
        obtain ⟨rfl, rfl⟩ := q3
        show jx L xs _ 140 28 _ [.long (lI ((bv B (a + (8 * m - 8 - 8 * i)) 8 : Nat) : Int)), .long (lI (256 * ((tv B a (8 * m) i : Nat) : Int)))] _ _
        refine jv_ladd (pc' := 29) (a := (256 * ((tv B a (8 * m) i : Nat) : Int))) (b := ((bv B (a + (8 * m - 8 - 8 * i)) 8 : Nat) : Int)) rfl rfl ?_
        rw [show (256 * ((tv B a (8 * m) i : Nat) : Int)) + ((bv B (a + (8 * m - 8 - 8 * i)) 8 : Nat) : Int) = ((tv B a (8 * m) (i + 1) : Nat) : Int) by rw [tv_s]; omega]
        refine jv_lstore_n (pc' := 30) (k := 3) (x := (lI ((tv B a (8 * m) (i + 1) : Nat) : Int))) rfl rfl rfl rfl (Or.inr (congrArg jm_lng hf2)) ?_
        refine jv_iinc (pc' := 33) (k := 5) (a := z) rfl rfl hf5 rfl (Or.inr rfl) ?_
        refine jx_step (pc' := 8) rfl ?_
        exact ih (i + 1) (z + (-8)) (by omega) (by omega) (by omega) _ hf0 hf1 hf2 rfl rfl rfl
  exact H1 _ 0 (((8 * m : Nat) : Int) - 8) (Nat.lt_succ_self _) (by omega) (by omega) _ rfl rfl rfl rfl rfl rfl
theorem ml_sumBefore (hB : FM I fi B sz) (hin : I 103 29 = iI (fi : Int)) (hbeg : I 103 31 = iI ((a : Nat) : Int)) (hbit : I 103 30 = iI ((n : Nat) : Int)) (ha : a ≤ 1000) (hn : n ≤ 1000) : jc L xs d 141 [.ref 103] (jx_G j I M p) (fun v g1 => v = some (.long (lI ((sm B a n sz : Nat) : Int))) ∧ g1 = jx_G j I M p) := by
  unfold jc
  have hs := hB.2.2.1
  have hf := hB.1
  refine jv_long (pc' := 1) (y := lI 0) rfl (by decide) ?_
  refine jv_lstore_n (pc' := 2) (k := 1) (x := (lI 0)) rfl rfl rfl rfl (Or.inr rfl) ?_
  refine jv_iconst (pc' := 3) (n := 0) rfl rfl ?_
  refine jv_istore_n (pc' := 4) (k := 3) (x := (iI 0)) rfl rfl rfl rfl (Or.inr rfl) ?_
  have H1 : ∀ (N : Nat) (i : Nat) (z : Int), sz - i < N → (i ≤ sz) → (z = ((sm B a n i : Nat) : Int)) → ∀ f : jm_F, f 0 = some (.ref 103) → f 1 = some (.long (lI z)) → f 3 = some (.int (iI ((i : Nat) : Int))) → jm_lng (f 2) = false → jx L xs (d) 141 4 f [] (jx_G j I M p) (fun z => ∃ v g1, z = (.inl v, g1) ∧ (fun v g1 => v = some (.long (lI ((sm B a n sz : Nat) : Int))) ∧ g1 = jx_G j I M p) v g1) := by
    intro N
    induction N with
    | zero => intro i z hN; exact absurd hN (Nat.not_lt_zero _)
    | succ N ih =>
      intro i z hN hi hz f hf0 hf1 hf3 hg2
      refine jv_iload_n (pc' := 5) (k := 3) (x := (iI ((i : Nat) : Int))) rfl rfl rfl hf3 ?_
      refine jv_aload_n (pc' := 6) (k := 0) (x := 103) rfl rfl rfl hf0 ?_
      refine jv_getR (pc' := 9) (c := 12) (k := 15) (v := 115) rfl rfl rfl (fun _ _ => rfl) rfl rfl (jR_103_15 _) ?_
      refine jv_aload_n (pc' := 10) (k := 0) (x := 103) rfl rfl rfl hf0 ?_
      refine jv_getI (pc' := 13) (c := 12) (k := 29) (v := (iI (fi : Int))) rfl rfl rfl (fun _ _ => rfl) rfl rfl hin ?_
      refine jv_iaload (pc' := 14) (n := 12) (e := (fi : Int)) (v := (iI (sz : Int))) rfl rfl (by decide) rfl rfl rfl (by omega) hB.2.1 ?_
      refine jv_ic_ge (t := 70) (pc' := 17) (a := ((i : Nat) : Int)) (b := (sz : Int)) rfl rfl rfl (by omega) (fun h2 => ?_) (fun h2 => ?_)
      · skip
        refine jv_lload_n (pc' := 71) (k := 1) (x := (lI z)) rfl rfl rfl hf1 ?_
        refine jv_retJ rfl rfl ⟨_, _, rfl, ?_⟩
        have e : i = sz := by omega
        subst e
        subst hz
        exact ⟨rfl, rfl⟩
      · skip
        have hb1 := sm_lt hB.2.2.2.2 a n i
        have hb2 := hB.2.2.2.2 i
        refine jv_bipush (pc' := 19) (n := 8) rfl rfl rfl ?_
        refine jv_iload_n (pc' := 20) (k := 3) (x := (iI ((i : Nat) : Int))) rfl rfl rfl hf3 ?_
        refine jv_imul (pc' := 21) (a := 8) (b := ((i : Nat) : Int)) rfl rfl ?_
        refine jv_aload_n (pc' := 22) (k := 0) (x := 103) rfl rfl rfl hf0 ?_
        refine jv_getI (pc' := 25) (c := 12) (k := 31) (v := (iI ((a : Nat) : Int))) rfl rfl rfl (fun _ _ => rfl) rfl rfl hbeg ?_
        refine jv_ic_lt (t := 62) (pc' := 28) (a := (8 * ((i : Nat) : Int))) (b := ((a : Nat) : Int)) rfl rfl rfl (by omega) (fun h3 => ?_) (fun h3 => ?_)
        · skip
          refine jv_lload_n (pc' := 63) (k := 1) (x := (lI z)) rfl rfl rfl hf1 ?_
          refine jv_lstore_n (pc' := 64) (k := 1) (x := (lI z)) rfl rfl rfl rfl (Or.inr (congrArg jm_lng hf0)) ?_
          refine jv_iinc (pc' := 67) (k := 3) (a := ((i : Nat) : Int)) rfl rfl hf3 rfl (Or.inr rfl) ?_
          refine jx_step (pc' := 4) rfl ?_
          exact ih (i + 1) z (by omega) (by omega) (by unfold sm; split <;> omega) _ hf0 rfl rfl rfl
        · skip
          refine jv_bipush (pc' := 30) (n := 8) rfl rfl rfl ?_
          refine jv_iload_n (pc' := 31) (k := 3) (x := (iI ((i : Nat) : Int))) rfl rfl rfl hf3 ?_
          refine jv_imul (pc' := 32) (a := 8) (b := ((i : Nat) : Int)) rfl rfl ?_
          refine jv_bipush (pc' := 34) (n := 8) rfl rfl rfl ?_
          refine jv_iadd (pc' := 35) (a := (8 * ((i : Nat) : Int))) (b := 8) rfl rfl ?_
          refine jv_aload_n (pc' := 36) (k := 0) (x := 103) rfl rfl rfl hf0 ?_
          refine jv_getI (pc' := 39) (c := 12) (k := 30) (v := (iI ((n : Nat) : Int))) rfl rfl rfl (fun _ _ => rfl) rfl rfl hbit ?_
          refine jv_ic_gt (t := 62) (pc' := 42) (a := ((8 * ((i : Nat) : Int)) + 8)) (b := ((n : Nat) : Int)) rfl rfl rfl (by omega) (fun h4 => ?_) (fun h4 => ?_)
          · skip
            refine jv_lload_n (pc' := 63) (k := 1) (x := (lI z)) rfl rfl rfl hf1 ?_
            refine jv_lstore_n (pc' := 64) (k := 1) (x := (lI z)) rfl rfl rfl rfl (Or.inr (congrArg jm_lng hf0)) ?_
            refine jv_iinc (pc' := 67) (k := 3) (a := ((i : Nat) : Int)) rfl rfl hf3 rfl (Or.inr rfl) ?_
            refine jx_step (pc' := 4) rfl ?_
            exact ih (i + 1) z (by omega) (by omega) (by unfold sm; split <;> omega) _ hf0 rfl rfl rfl
          · skip
            refine jv_lload_n (pc' := 43) (k := 1) (x := (lI z)) rfl rfl rfl hf1 ?_
            refine jv_aload_n (pc' := 44) (k := 0) (x := 103) rfl rfl rfl hf0 ?_
            refine jv_getR (pc' := 47) (c := 12) (k := 16) (v := 116) rfl rfl rfl (fun _ _ => rfl) rfl rfl (jR_103_16 _) ?_
            refine jv_bipush (pc' := 49) (n := 40) rfl rfl rfl ?_
            refine jv_aload_n (pc' := 50) (k := 0) (x := 103) rfl rfl rfl hf0 ?_
            refine jv_getI (pc' := 53) (c := 12) (k := 29) (v := (iI (fi : Int))) rfl rfl rfl (fun _ _ => rfl) rfl rfl hin ?_
            refine jv_imul (pc' := 54) (a := 40) (b := (fi : Int)) rfl rfl ?_
            refine jv_iload_n (pc' := 55) (k := 3) (x := (iI ((i : Nat) : Int))) rfl rfl rfl hf3 ?_
            refine jv_iadd (pc' := 56) (a := (40 * (fi : Int))) (b := ((i : Nat) : Int)) rfl rfl ?_
            refine jv_iaload (pc' := 57) (n := 480) (e := ((40 * (fi : Int)) + ((i : Nat) : Int))) (v := (iI ((B i : Nat) : Int))) rfl rfl (by decide) rfl rfl rfl (by omega) ((congrArg (I 116) (show ((40 * (fi : Int)) + ((i : Nat) : Int) : Int).toNat = 40 * fi + i by omega)).trans (hB.2.2.2.1 i (by omega))) ?_
            refine jv_i2l (pc' := 58) (a := ((B i : Nat) : Int)) rfl rfl (by omega) ?_
            refine jv_ladd (pc' := 59) (a := z) (b := ((B i : Nat) : Int)) rfl rfl ?_
            refine jx_step (pc' := 63) rfl ?_
            refine jv_lstore_n (pc' := 64) (k := 1) (x := (lI (z + ((B i : Nat) : Int)))) rfl rfl rfl rfl (Or.inr (congrArg jm_lng hf0)) ?_
            refine jv_iinc (pc' := 67) (k := 3) (a := ((i : Nat) : Int)) rfl rfl hf3 rfl (Or.inr rfl) ?_
            refine jx_step (pc' := 4) rfl ?_
            exact ih (i + 1) (z + ((B i : Nat) : Int)) (by omega) (by omega) (by unfold sm; split <;> omega) _ hf0 rfl rfl rfl
  exact H1 _ 0 0 (Nat.lt_succ_self _) (by omega) rfl _ rfl rfl rfl rfl
end D2
