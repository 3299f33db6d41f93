/-! printed by wip/whole/gen/d1.py: the bits of a frame -/
def bt (B : Nat → Nat) (b : Nat) : Nat := if (B (b / 8)).testBit (7 - b % 8) then 1 else 0
def bv (B : Nat → Nat) (a : Nat) : Nat → Nat
  | 0 => 0
  | n + 1 => 2 * bv B a n + bt B (a + n)
theorem bt_lt (B : Nat → Nat) (b : Nat) : bt B b < 2 := by unfold bt; split <;> omega
theorem bv_lt (B : Nat → Nat) (a : Nat) : ∀ n, bv B a n < 2 ^ n := by
  intro n
  induction n with
  | zero => exact Nat.one_pos
  | succ n ih =>
    have h := bt_lt B (a + n)
    have e : bv B a (n + 1) = 2 * bv B a n + bt B (a + n) := rfl
    rw [e, Nat.pow_succ]; omega
theorem bv_32 (B : Nat → Nat) (a : Nat) {n : Nat} (h : n ≤ 32) : bv B a n < 4294967296 :=
  Nat.lt_of_lt_of_le (bv_lt B a n) (Nat.pow_le_pow_right (n := 2) (by decide) h)
theorem bv_add (B : Nat → Nat) (a m : Nat) : ∀ n, bv B a (m + n) = bv B a m * 2 ^ n + bv B (a + m) n := by
  intro n
  induction n with
  | zero => show bv B a m = bv B a m * 2 ^ 0 + 0; simp
  | succ n ih =>
    have e1 : bv B a (m + (n + 1)) = 2 * bv B a (m + n) + bt B (a + (m + n)) := rfl
    have e2 : bv B (a + m) (n + 1) = 2 * bv B (a + m) n + bt B (a + m + n) := rfl
    rw [e1, e2, ih, Nat.pow_succ, show a + (m + n) = a + m + n by omega]
    have e3 : bv B a m * (2 ^ n * 2) = 2 * (bv B a m * 2 ^ n) := by rw [Nat.mul_comm (2 ^ n) 2, Nat.mul_left_comm]
    rw [e3]; omega
/-- the byte i from the end -/
theorem bv_byte (B : Nat → Nat) (a : Nat) {n i : Nat} (h : 8 * (i + 1) ≤ n) : bv B a n / 2 ^ (8 * i) % 256 = bv B (a + (n - 8 - 8 * i)) 8 := by
  have e1 := bv_add B a (n - 8 * i) (8 * i)
  rw [show n - 8 * i + 8 * i = n by omega] at e1
  have h1 := bv_lt B (a + (n - 8 * i)) (8 * i)
  have e2 := bv_add B a (n - 8 - 8 * i) 8
  rw [show n - 8 - 8 * i + 8 = n - 8 * i by omega] at e2
  have h2 := bv_lt B (a + (n - 8 - 8 * i)) 8
  rw [e1, Nat.mul_comm, Nat.mul_add_div (Nat.two_pow_pos _), Nat.div_eq_of_lt h1, e2]
  omega
def tv (B : Nat → Nat) (a n : Nat) : Nat → Nat
  | 0 => 0
  | i + 1 => 256 * tv B a n i + bv B (a + (n - 8 - 8 * i)) 8
theorem tv_lt (B : Nat → Nat) (a n : Nat) : ∀ i, tv B a n i < 256 ^ i := by
  intro i
  induction i with
  | zero => exact Nat.one_pos
  | succ i ih =>
    have h := bv_lt B (a + (n - 8 - 8 * i)) 8
    have e : tv B a n (i + 1) = 256 * tv B a n i + bv B (a + (n - 8 - 8 * i)) 8 := rfl
    rw [e, Nat.pow_succ]; omega
theorem tv_32 (B : Nat → Nat) (a n : Nat) {i : Nat} (h : i ≤ 4) : tv B a n i < 4294967296 :=
  Nat.lt_of_lt_of_le (tv_lt B a n i) (Nat.pow_le_pow_right (n := 256) (by decide) h)
def sm (B : Nat → Nat) (lo hi : Nat) : Nat → Nat
  | 0 => 0
  | k + 1 => if lo ≤ 8 * k ∧ 8 * k + 8 ≤ hi then sm B lo hi k + B k else sm B lo hi k
theorem sm_lt {B : Nat → Nat} (hB : ∀ k, B k < 256) (lo hi : Nat) : ∀ k, sm B lo hi k ≤ 256 * k := by
  intro k
  induction k with
  | zero => exact Nat.le_refl _
  | succ k ih =>
    have := hB k
    unfold sm
    split <;> omega
theorem bt_I {B : Nat → Nat} (hB : ∀ k, B k < 256) (b : Nat) : (iI ((B (b / 8) : Nat) : Int) >>> (iI (7 - ((b % 8 : Nat) : Int)) &&& 31)) &&& iI 1 = iI ((bt B b : Nat) : Int) := by
  rw [fl_b (F := B (b / 8)) (hB _) (z := 7 - ((b % 8 : Nat) : Int)) (by omega) (b := (B (b / 8)).testBit (7 - b % 8)) (by congr 1; omega)]
  unfold bt
  split <;> rfl
/-- the frame object F: its bytes -/
def FB (I : Nat → Nat → Int32) (F : Nat) (B : Nat → Nat) (sz : Nat) : Prop := I F 1 = iI (sz : Int) ∧ sz ≤ 40 ∧ (∀ k, k < sz → I (F + 1) k = iI ((B k : Nat) : Int)) ∧ (∀ k, B k < 256)
abbrev FL (F : Nat) : Prop := F = 14 ∨ F = 16 ∨ F = 18 ∨ F = 20 ∨ F = 22 ∨ F = 24 ∨ F = 26 ∨ F = 28 ∨ F = 30 ∨ F = 32 ∨ F = 34 ∨ F = 36
theorem FB_fr {W : Nat → Nat → Prop} {I I' : Nat → Nat → Int32} {F : Nat} {B : Nat → Nat} {sz : Nat} (h : FB I F B sz) (f : fr W I I') (h1 : ¬ W F 1) (h2 : ∀ k, ¬ W (F + 1) k) : FB I' F B sz :=
  ⟨(f F 1 h1).trans h.1, h.2.1, fun k hk => (f (F + 1) k (h2 k)).trans (h.2.2.1 k hk), h.2.2.2⟩
theorem FL_S {t : Nat} (h : FL t) : ¬ t + 1 = jm_S := by
  have : jm_S = 1000000 := rfl
  omega
theorem FL_A {t : Nat} (h : FL t) (j : Nat) (I : Nat → Nat → Int32) (M : Nat → Nat → Int64) (p : Nat → Option Nat) : jm_isA (jx_G j I M p) t 5 = true := by
  rcases h with rfl | rfl | rfl | rfl | rfl | rfl | rfl | rfl | rfl | rfl | rfl | rfl <;> rfl
theorem FL_B {t : Nat} (h : FL t) (j : Nat) (I : Nat → Nat → Int32) (M : Nat → Nat → Int64) (p : Nat → Option Nat) : jm_isA (jx_G j I M p) (t + 1) 20 = true := by
  rcases h with rfl | rfl | rfl | rfl | rfl | rfl | rfl | rfl | rfl | rfl | rfl | rfl <;> rfl
theorem FL_n {t : Nat} (h : FL t) : (jm_SH (t + 1)).2 = 40 := by
  rcases h with rfl | rfl | rfl | rfl | rfl | rfl | rfl | rfl | rfl | rfl | rfl | rfl <;> rfl
theorem FL_R {t : Nat} (h : FL t) (p : Nat → Option Nat) : jx_R p t 0 = some (t + 1) := by
  rcases h with rfl | rfl | rfl | rfl | rfl | rfl | rfl | rfl | rfl | rfl | rfl | rfl
  · exact jR_14_0 p
  · exact jR_16_0 p
  · exact jR_18_0 p
  · exact jR_20_0 p
  · exact jR_22_0 p
  · exact jR_24_0 p
  · exact jR_26_0 p
  · exact jR_28_0 p
  · exact jR_30_0 p
  · exact jR_32_0 p
  · exact jR_34_0 p
  · exact jR_36_0 p
section D1
variable {L : Nat} {xs : Nat → Int32} {d j : Nat} {I : Nat → Nat → Int32} {M : Nat → Nat → Int64} {p : Nat → Option Nat}
variable {F : Nat} {B : Nat → Nat} {sz a n : Nat}
theorem cl_bitsAt (hl : FL F) (hB : FB I F B sz) (hn : n ≤ 32) (h : a + n ≤ 8 * sz) : jc L xs d 58 [.ref F, .int (iI ((a : Nat) : Int)), .int (iI ((n : Nat) : Int))] (jx_G j I M p) (fun v g1 => v = some (.long (lI ((bv B a n : Nat) : Int))) ∧ g1 = jx_G j I M p) := by
  unfold jc
  have hs := hB.2.1
  refine jv_long (pc' := 1) (y := lI 0) rfl (by decide) ?_
  refine jv_lstore_n (pc' := 2) (k := 3) (x := (lI 0)) rfl rfl rfl rfl (Or.inr rfl) ?_
  refine jv_iload_n (pc' := 3) (k := 1) (x := (iI ((a : Nat) : Int))) rfl rfl rfl rfl ?_
  refine jv_istore (pc' := 5) (k := 5) (x := (iI ((a : Nat) : Int))) rfl rfl rfl (Or.inr rfl) ?_
  have H1 : ∀ (N : Nat) (i : Nat), n - i < N → (i ≤ n) → ∀ f : jm_F, f 0 = some (.ref F) → f 1 = some (.int (iI ((a : Nat) : Int))) → f 2 = some (.int (iI ((n : Nat) : Int))) → f 3 = some (.long (lI ((bv B a i : Nat) : Int))) → f 5 = some (.int (iI ((a + i : Nat) : Int))) → jm_lng (f 4) = false → jx L xs (d) 58 5 f [] (jx_G j I M p) (fun z => ∃ v g1, z = (.inl v, g1) ∧ (fun v g1 => v = some (.long (lI ((bv B a n : Nat) : Int))) ∧ g1 = jx_G j I M p) v g1) := by
    intro N
    induction N with
    | zero => intro i hN; exact absurd hN (Nat.not_lt_zero _)
    | succ N ih =>
      intro i hN hi f hf0 hf1 hf2 hf3 hf5 hg4
      refine jv_iload (pc' := 7) (k := 5) (x := (iI ((a + i : Nat) : Int))) rfl rfl hf5 ?_
      refine jv_iload_n (pc' := 8) (k := 1) (x := (iI ((a : Nat) : Int))) rfl rfl rfl hf1 ?_
      refine jv_iload_n (pc' := 9) (k := 2) (x := (iI ((n : Nat) : Int))) rfl rfl rfl hf2 ?_
      refine jv_iadd (pc' := 10) (a := ((a : Nat) : Int)) (b := ((n : Nat) : Int)) rfl rfl ?_
      refine jv_ic_ge (t := 71) (pc' := 13) (a := ((a + i : Nat) : Int)) (b := (((a : Nat) : Int) + ((n : Nat) : Int))) rfl rfl rfl (by omega) (fun h2 => ?_) (fun h2 => ?_)
      · skip
        refine jv_lload_n (pc' := 72) (k := 3) (x := (lI ((bv B a i : Nat) : Int))) rfl rfl rfl hf3 ?_
        refine jv_retJ rfl rfl ⟨_, _, rfl, ?_⟩
        have e : i = n := by omega
        subst e
        exact ⟨rfl, rfl⟩
      · skip
        have hb1 := bv_32 B a (n := i) (by omega)
        have hb2 := bt_lt B (a + i)
        refine jv_iload (pc' := 15) (k := 5) (x := (iI ((a + i : Nat) : Int))) rfl rfl hf5 ?_
        refine jv_iconst (pc' := 16) (n := 3) rfl rfl ?_
        refine jv_int (pc' := 17) (y := (iI (((a + i) / 8 : Nat) : Int))) rfl (iI_S3 (by omega)) ?_
        refine jv_istore (pc' := 19) (k := 6) (x := (iI (((a + i) / 8 : Nat) : Int))) rfl rfl rfl (Or.inr (congrArg jm_lng hf5)) ?_
        refine jv_iload (pc' := 21) (k := 6) (x := (iI (((a + i) / 8 : Nat) : Int))) rfl rfl rfl ?_
        refine jv_if_lt (t := 54) (pc' := 24) (a := (((a + i) / 8 : Nat) : Int)) rfl rfl rfl (by omega) (fun h3 => ?_) (fun h3 => ?_)
        · skip
          exfalso; omega
        · skip
          refine jv_iload (pc' := 26) (k := 6) (x := (iI (((a + i) / 8 : Nat) : Int))) rfl rfl rfl ?_
          refine jv_aload_n (pc' := 27) (k := 0) (x := F) rfl rfl rfl hf0 ?_
          refine jv_getI (pc' := 30) (c := 5) (k := 1) (v := (iI (sz : Int))) rfl rfl rfl (fun _ _ => rfl) (FL_A hl j _ M p) rfl hB.1 ?_
          refine jv_ic_ge (t := 54) (pc' := 33) (a := (((a + i) / 8 : Nat) : Int)) (b := (sz : Int)) rfl rfl rfl (by omega) (fun h4 => ?_) (fun h4 => ?_)
          · skip
            exfalso; omega
          · skip
            refine jv_aload_n (pc' := 34) (k := 0) (x := F) rfl rfl rfl hf0 ?_
            refine jv_getR (pc' := 37) (c := 5) (k := 0) (v := (F + 1)) rfl rfl rfl (fun _ _ => rfl) (FL_A hl j _ M p) rfl (FL_R hl p) ?_
            refine jv_iload (pc' := 39) (k := 6) (x := (iI (((a + i) / 8 : Nat) : Int))) rfl rfl rfl ?_
            refine jv_iaload (pc' := 40) (n := 40) (e := (((a + i) / 8 : Nat) : Int)) (v := (iI ((B ((a + i) / 8) : Nat) : Int))) rfl rfl (FL_S hl) (FL_B hl j _ M p) (FL_n hl) rfl (by omega) (hB.2.2.1 ((a + i) / 8) (by omega)) ?_
            refine jv_bipush (pc' := 42) (n := 7) rfl rfl rfl ?_
            refine jv_iload (pc' := 44) (k := 5) (x := (iI ((a + i : Nat) : Int))) rfl rfl hf5 ?_
            refine jv_bipush (pc' := 46) (n := 7) rfl rfl rfl ?_
            refine jv_int (pc' := 47) (y := (iI (((a + i) % 8 : Nat) : Int))) rfl (iI_A7 (by omega)) ?_
            refine jv_isub (pc' := 48) (a := 7) (b := (((a + i) % 8 : Nat) : Int)) rfl rfl ?_
            refine jv_int (pc' := 49) (y := (iI ((B ((a + i) / 8) : Nat) : Int)) >>> ((iI (7 - (((a + i) % 8 : Nat) : Int))) &&& 31)) rfl rfl ?_
            refine jv_iconst (pc' := 50) (n := 1) rfl rfl ?_
            refine jv_int (pc' := 51) (y := (iI ((bt B (a + i) : Nat) : Int))) rfl (bt_I hB.2.2.2 (a + i)) ?_
            refine jx_step (pc' := 55) rfl ?_
            refine jv_istore (pc' := 57) (k := 7) (x := (iI ((bt B (a + i) : Nat) : Int))) rfl rfl rfl (Or.inr rfl) ?_
            first | (exfalso; omega) | skip
            refine jv_lload_n (pc' := 58) (k := 3) (x := (lI ((bv B a i : Nat) : Int))) rfl rfl rfl hf3 ?_
            refine jv_iconst (pc' := 59) (n := 1) rfl rfl ?_
            refine jv_long (pc' := 60) (y := (lI ((bv B a i : Nat) : Int)) <<< ((iI 1).toInt64 &&& 63)) rfl rfl ?_
            refine jv_iload (pc' := 62) (k := 7) (x := (iI ((bt B (a + i) : Nat) : Int))) rfl rfl rfl ?_
            refine jv_i2l (pc' := 63) (a := ((bt B (a + i) : Nat) : Int)) rfl rfl (by omega) ?_
            refine jv_long (pc' := 64) (y := (lI ((bv B a (i + 1) : Nat) : Int))) rfl (lI_bit (a := bv B a i) (t := bt B (a + i)) (by omega) (by omega)) ?_
            refine jv_lstore_n (pc' := 65) (k := 3) (x := (lI ((bv B a (i + 1) : Nat) : Int))) rfl rfl rfl rfl (Or.inr (congrArg jm_lng hf2)) ?_
            refine jv_iinc (pc' := 68) (k := 5) (a := ((a + i : Nat) : Int)) rfl rfl hf5 rfl (Or.inr rfl) ?_
            refine jx_step (pc' := 5) rfl ?_
            exact ih (i + 1) (by omega) (by omega) _ hf0 hf1 hf2 rfl rfl rfl
  exact H1 _ 0 (Nat.lt_succ_self _) (by omega) _ rfl rfl rfl rfl rfl rfl
theorem cl_sumBetween (hl : FL F) (hB : FB I F B sz) (ha : a ≤ 1000) (hn : n ≤ 1000) : jc L xs d 59 [.ref F, .int (iI ((a : Nat) : Int)), .int (iI ((n : Nat) : Int))] (jx_G j I M p) (fun v g1 => v = some (.long (lI ((sm B a n sz : Nat) : Int))) ∧ g1 = jx_G j I M p) := by
  unfold jc
  have hs := hB.2.1
  refine jv_long (pc' := 1) (y := lI 0) rfl (by decide) ?_
  refine jv_lstore_n (pc' := 2) (k := 3) (x := (lI 0)) rfl rfl rfl rfl (Or.inr rfl) ?_
  refine jv_iconst (pc' := 3) (n := 0) rfl rfl ?_
  refine jv_istore (pc' := 5) (k := 5) (x := (iI 0)) rfl rfl rfl (Or.inr rfl) ?_
  have H1 : ∀ (N : Nat) (i : Nat) (z : Int), sz - i < N → (i ≤ sz) → (z = ((sm B a n i : Nat) : Int)) → ∀ f : jm_F, f 0 = some (.ref F) → f 1 = some (.int (iI ((a : Nat) : Int))) → f 2 = some (.int (iI ((n : Nat) : Int))) → f 3 = some (.long (lI z)) → f 5 = some (.int (iI ((i : Nat) : Int))) → jm_lng (f 4) = false → jx L xs (d) 59 5 f [] (jx_G j I M p) (fun z => ∃ v g1, z = (.inl v, g1) ∧ (fun v g1 => v = some (.long (lI ((sm B a n sz : Nat) : Int))) ∧ g1 = jx_G j I M p) v g1) := by
    intro N
    induction N with
    | zero => intro i z hN; exact absurd hN (Nat.not_lt_zero _)
    | succ N ih =>
      intro i z hN hi hz f hf0 hf1 hf2 hf3 hf5 hg4
      refine jv_iload (pc' := 7) (k := 5) (x := (iI ((i : Nat) : Int))) rfl rfl hf5 ?_
      refine jv_aload_n (pc' := 8) (k := 0) (x := F) rfl rfl rfl hf0 ?_
      refine jv_getI (pc' := 11) (c := 5) (k := 1) (v := (iI (sz : Int))) rfl rfl rfl (fun _ _ => rfl) (FL_A hl j _ M p) rfl hB.1 ?_
      refine jv_ic_ge (t := 52) (pc' := 14) (a := ((i : Nat) : Int)) (b := (sz : Int)) rfl rfl rfl (by omega) (fun h2 => ?_) (fun h2 => ?_)
      · skip
        refine jv_lload_n (pc' := 53) (k := 3) (x := (lI z)) rfl rfl rfl hf3 ?_
        refine jv_retJ rfl rfl ⟨_, _, rfl, ?_⟩
        have e : i = sz := by omega
        subst e
        subst hz
        exact ⟨rfl, rfl⟩
      · skip
        have hb1 := sm_lt hB.2.2.2 a n i
        have hb2 := hB.2.2.2 i
        refine jv_bipush (pc' := 16) (n := 8) rfl rfl rfl ?_
        refine jv_iload (pc' := 18) (k := 5) (x := (iI ((i : Nat) : Int))) rfl rfl hf5 ?_
        refine jv_imul (pc' := 19) (a := 8) (b := ((i : Nat) : Int)) rfl rfl ?_
        refine jv_iload_n (pc' := 20) (k := 1) (x := (iI ((a : Nat) : Int))) rfl rfl rfl hf1 ?_
        refine jv_ic_lt (t := 46) (pc' := 23) (a := (8 * ((i : Nat) : Int))) (b := ((a : Nat) : Int)) rfl rfl rfl (by omega) (fun h3 => ?_) (fun h3 => ?_)
        · skip
          refine jv_iinc (pc' := 49) (k := 5) (a := ((i : Nat) : Int)) rfl rfl hf5 rfl (Or.inr hg4) ?_
          refine jx_step (pc' := 5) rfl ?_
          exact ih (i + 1) z (by omega) (by omega) (by unfold sm; split <;> omega) _ hf0 hf1 hf2 hf3 rfl hg4
        · skip
          refine jv_bipush (pc' := 25) (n := 8) rfl rfl rfl ?_
          refine jv_iload (pc' := 27) (k := 5) (x := (iI ((i : Nat) : Int))) rfl rfl hf5 ?_
          refine jv_imul (pc' := 28) (a := 8) (b := ((i : Nat) : Int)) rfl rfl ?_
          refine jv_bipush (pc' := 30) (n := 8) rfl rfl rfl ?_
          refine jv_iadd (pc' := 31) (a := (8 * ((i : Nat) : Int))) (b := 8) rfl rfl ?_
          refine jv_iload_n (pc' := 32) (k := 2) (x := (iI ((n : Nat) : Int))) rfl rfl rfl hf2 ?_
          refine jv_ic_gt (t := 46) (pc' := 35) (a := ((8 * ((i : Nat) : Int)) + 8)) (b := ((n : Nat) : Int)) rfl rfl rfl (by omega) (fun h4 => ?_) (fun h4 => ?_)
          · skip
            refine jv_iinc (pc' := 49) (k := 5) (a := ((i : Nat) : Int)) rfl rfl hf5 rfl (Or.inr hg4) ?_
            refine jx_step (pc' := 5) rfl ?_
            exact ih (i + 1) z (by omega) (by omega) (by unfold sm; split <;> omega) _ hf0 hf1 hf2 hf3 rfl hg4
          · skip
            refine jv_lload_n (pc' := 36) (k := 3) (x := (lI z)) rfl rfl rfl hf3 ?_
            refine jv_aload_n (pc' := 37) (k := 0) (x := F) rfl rfl rfl hf0 ?_
            refine jv_getR (pc' := 40) (c := 5) (k := 0) (v := (F + 1)) rfl rfl rfl (fun _ _ => rfl) (FL_A hl j _ M p) rfl (FL_R hl p) ?_
            refine jv_iload (pc' := 42) (k := 5) (x := (iI ((i : Nat) : Int))) rfl rfl hf5 ?_
            refine jv_iaload (pc' := 43) (n := 40) (e := ((i : Nat) : Int)) (v := (iI ((B i : Nat) : Int))) rfl rfl (FL_S hl) (FL_B hl j _ M p) (FL_n hl) rfl (by omega) (hB.2.2.1 i (by omega)) ?_
            refine jv_i2l (pc' := 44) (a := ((B i : Nat) : Int)) rfl rfl (by omega) ?_
            refine jv_ladd (pc' := 45) (a := z) (b := ((B i : Nat) : Int)) rfl rfl ?_
            refine jv_lstore_n (pc' := 46) (k := 3) (x := (lI (z + ((B i : Nat) : Int)))) rfl rfl rfl rfl (Or.inr (congrArg jm_lng hf2)) ?_
            refine jv_iinc (pc' := 49) (k := 5) (a := ((i : Nat) : Int)) rfl rfl hf5 rfl (Or.inr rfl) ?_
            refine jx_step (pc' := 5) rfl ?_
            exact ih (i + 1) (z + ((B i : Nat) : Int)) (by omega) (by omega) (by unfold sm; split <;> omega) _ hf0 hf1 hf2 rfl rfl rfl
  exact H1 _ 0 0 (Nat.lt_succ_self _) (by omega) rfl _ rfl rfl rfl rfl rfl rfl
theorem cl_swapBytes {m : Nat} (hm : m ≤ 4) : jc L xs d 71 [.long (lI ((bv B a (8 * m) : Nat) : Int)), .int (iI ((8 * m : Nat) : Int))] (jx_G j I M p) (fun v g1 => v = some (.long (lI ((tv B a (8 * m) m : Nat) : Int))) ∧ g1 = jx_G j I M p) := by
  unfold jc
  refine jv_long (pc' := 1) (y := lI 0) rfl (by decide) ?_
  refine jv_lstore_n (pc' := 2) (k := 3) (x := (lI 0)) rfl rfl rfl rfl (Or.inr rfl) ?_
  refine jv_iconst (pc' := 3) (n := 0) rfl rfl ?_
  refine jv_istore (pc' := 5) (k := 5) (x := (iI 0)) rfl rfl rfl (Or.inr rfl) ?_
  have H1 : ∀ (N : Nat) (i : Nat), m - i < N → (i ≤ m) → ∀ f : jm_F, f 0 = some (.long (lI ((bv B a (8 * m) : Nat) : Int))) → f 2 = some (.int (iI ((8 * m : Nat) : Int))) → f 3 = some (.long (lI ((tv B a (8 * m) i : Nat) : Int))) → f 5 = some (.int (iI ((8 * i : Nat) : Int))) → jm_lng (f 4) = false → jx L xs (d) 71 5 f [] (jx_G j I M p) (fun z => ∃ v g1, z = (.inl v, g1) ∧ (fun v g1 => v = some (.long (lI ((tv B a (8 * m) m : Nat) : Int))) ∧ g1 = jx_G j I M p) v g1) := by
    intro N
    induction N with
    | zero => intro i hN; exact absurd hN (Nat.not_lt_zero _)
    | succ N ih =>
      intro i hN hi f hf0 hf2 hf3 hf5 hg4
      refine jv_iload (pc' := 7) (k := 5) (x := (iI ((8 * i : Nat) : Int))) rfl rfl hf5 ?_
      refine jv_iload_n (pc' := 8) (k := 2) (x := (iI ((8 * m : Nat) : Int))) rfl rfl rfl hf2 ?_
      refine jv_ic_ge (t := 31) (pc' := 11) (a := ((8 * i : Nat) : Int)) (b := ((8 * m : Nat) : Int)) rfl rfl rfl (by omega) (fun h2 => ?_) (fun h2 => ?_)
      · skip
        refine jv_lload_n (pc' := 32) (k := 3) (x := (lI ((tv B a (8 * m) i : Nat) : Int))) rfl rfl rfl hf3 ?_
        refine jv_retJ rfl rfl ⟨_, _, rfl, ?_⟩
        have e : i = m := by omega
        subst e
        exact ⟨rfl, rfl⟩
      · skip
        have hb1 := bv_32 B a (n := 8 * m) (by omega)
        have hb2 := tv_32 B a (8 * m) (i := i) (by omega)
        have hb3 := bv_lt B (a + (8 * m - 8 - 8 * i)) 8
        refine jv_lload_n (pc' := 12) (k := 3) (x := (lI ((tv B a (8 * m) i : Nat) : Int))) rfl rfl rfl hf3 ?_
        refine jv_bipush (pc' := 14) (n := 8) rfl rfl rfl ?_
        refine jv_long (pc' := 15) (y := (lI ((tv B a (8 * m) i : Nat) : Int)) <<< ((iI 8).toInt64 &&& 63)) rfl rfl ?_
        refine jv_lload_n (pc' := 16) (k := 0) (x := (lI ((bv B a (8 * m) : Nat) : Int))) rfl rfl rfl hf0 ?_
        refine jv_iload (pc' := 18) (k := 5) (x := (iI ((8 * i : Nat) : Int))) rfl rfl hf5 ?_
        refine jv_long (pc' := 19) (y := (lI ((bv B a (8 * m) / 2 ^ (8 * i) : Nat) : Int))) rfl (lI_shr (a := bv B a (8 * m)) (k := 8 * i) (by omega) (by omega)) ?_
        refine jv_long (pc' := 22) (y := lI 255) rfl (by decide) ?_
        refine jv_long (pc' := 23) (y := (lI ((bv B (a + (8 * m - 8 - 8 * i)) 8 : Nat) : Int))) rfl ((lI_mask (k := 8) (by omega) (Nat.lt_of_le_of_lt (Nat.div_le_self _ _) (by omega))).trans (congrArg (fun z : Nat => lI (z : Int)) (bv_byte B a (n := 8 * m) (i := i) (by omega)))) ?_
        refine jv_long (pc' := 24) (y := (lI ((tv B a (8 * m) (i + 1) : Nat) : Int))) rfl (lI_byte (a := tv B a (8 * m) i) (by omega) (by omega)) ?_
        refine jv_lstore_n (pc' := 25) (k := 3) (x := (lI ((tv B a (8 * m) (i + 1) : Nat) : Int))) rfl rfl rfl rfl (Or.inr (congrArg jm_lng hf2)) ?_
        refine jv_iinc (pc' := 28) (k := 5) (a := ((8 * i : Nat) : Int)) rfl rfl hf5 rfl (Or.inr rfl) ?_
        refine jx_step (pc' := 5) rfl ?_
        exact ih (i + 1) (by omega) (by omega) _ hf0 hf2 rfl rfl rfl
  exact H1 _ 0 (Nat.lt_succ_self _) (by omega) _ rfl rfl rfl rfl rfl
end D1
