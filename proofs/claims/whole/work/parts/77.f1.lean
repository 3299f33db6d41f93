/-! printed by wip/whole/gen/f1.py: the class reads a test of a filter -/
def wF (l k : Nat) : Prop := (l = 95 ∧ (k = 2 ∨ k = 3 ∨ k = 5)) ∨ (l = 96 ∧ (k = 1 ∨ k = 2)) ∨ l = 97
def wF0 (l k : Nat) : Prop := (l = 95 ∧ (k = 2 ∨ k = 3)) ∨ (l = 96 ∧ (k = 1 ∨ k = 2)) ∨ l = 97
theorem wF_0 (l k : Nat) (h : wF0 l k) : wF l k := by unfold wF0 at h; unfold wF; omega
def VD (s : DSt) (l nm : Int) (k : Nat) : Prop := s 3 k = l ∧ s 4 k = nm ∧ s 7 k ≠ 1 ∧ s 7 k ≠ 4
theorem DCe_F {I I' : Nat → Nat → Int32} {M : Nat → Nat → Int64} {s : DSt} (h : DCe I M s) (f : fr wF I I') : DCe I' M s := DCe_fr (V := fun _ _ => False) h f (fr_r _) ⟨by simp [wF], by simp [wF], by simp [wF], fun k => by simp [wF]⟩ (fun _ h => h)
section F1
variable {L : Nat} {xs : Nat → Int32} {d j : Nat} {I : Nat → Nat → Int32} {M : Nat → Nat → Int64} {p : Nat → Option Nat}
variable {s : DSt} {W : Nat → Nat → Int} {sz : Nat} {k q : Nat} {z l nm : Int}
theorem cl_fact (hk : k < 64) (hq : q < 5) (hz : I 40 (5 * k + q) = iI z) : jc L xs d 74 [.ref 39, .int (iI ((k : Nat) : Int)), .int (iI ((q : Nat) : Int))] (jx_G j I M p) (fun v g1 => v = some (.int (iI z)) ∧ g1 = jx_G j I M p) := by
  unfold jc
  refine jv_aload_n (pc' := 1) (k := 0) (x := 39) rfl rfl rfl rfl ?_
  refine jv_getR (pc' := 4) (c := 7) (k := 0) (v := 40) rfl rfl rfl (fun _ _ => rfl) rfl rfl (jR_39_0 _) ?_
  refine jv_iload_n (pc' := 5) (k := 1) (x := (iI ((k : Nat) : Int))) rfl rfl rfl rfl ?_
  refine jv_iconst (pc' := 6) (n := 5) rfl rfl ?_
  refine jv_imul (pc' := 7) (a := ((k : Nat) : Int)) (b := 5) rfl rfl ?_
  refine jv_iload_n (pc' := 8) (k := 2) (x := (iI ((q : Nat) : Int))) rfl rfl rfl rfl ?_
  refine jv_iadd (pc' := 9) (a := (((k : Nat) : Int) * 5)) (b := ((q : Nat) : Int)) rfl rfl ?_
  refine jv_iaload (pc' := 10) (n := 320) (e := ((((k : Nat) : Int) * 5) + ((q : Nat) : Int))) (v := (iI z)) rfl rfl (by decide) rfl rfl rfl (by omega) ((congrArg (I 40) (show ((((k : Nat) : Int) * 5) + ((q : Nat) : Int) : Int).toNat = 5 * k + q by omega)).trans hz) ?_
  refine jv_retI rfl rfl ⟨_, _, rfl, ?_⟩
  exact ⟨rfl, rfl⟩
theorem cl_isValued (hD : DCe I M s) (hE : EP W sz s) (hc : s 0 2 ≤ 64) (hk : (k : Int) < s 0 2) (hl : iR l) (hn : iR nm) : jc L xs (d + 1) 76 [.ref 39, .int (iI ((k : Nat) : Int)), .int (iI l), .int (iI nm)] (jx_G j I M p) (fun v g1 => v = some (.int (jb (VD s l nm k))) ∧ g1 = jx_G j I M p) := by
  unfold jc
  have he := (hE k hk).1
  refine jv_aload_n (pc' := 1) (k := 0) (x := 39) rfl rfl rfl rfl ?_
  refine jv_iload_n (pc' := 2) (k := 1) (x := (iI ((k : Nat) : Int))) rfl rfl rfl rfl ?_
  refine jv_iconst (pc' := 3) (n := 4) rfl rfl ?_
  refine jv_call (pc' := 6) rfl (show jc L xs _ 74 [.ref 39, .int (iI ((k : Nat) : Int)), .int (iI 4)] (jx_G j I M p) _ from cl_fact (k := k) (q := 4) (z := s 7 k) (by omega) (by omega) (hD.2.2.2 k hk).2.2.2.2.1) (fun vq1 gq1 q1 => ?_)
  obtain ⟨rfl, rfl⟩ := q1
  show jx L xs _ 76 6 _ [.int (iI (s 7 k))] _ _
  refine jv_istore (pc' := 8) (k := 4) (x := (iI (s 7 k))) rfl rfl rfl (Or.inr rfl) ?_
  refine jv_aload_n (pc' := 9) (k := 0) (x := 39) rfl rfl rfl rfl ?_
  refine jv_iload_n (pc' := 10) (k := 1) (x := (iI ((k : Nat) : Int))) rfl rfl rfl rfl ?_
  refine jv_iconst (pc' := 11) (n := 0) rfl rfl ?_
  refine jv_call (pc' := 14) rfl (show jc L xs _ 74 [.ref 39, .int (iI ((k : Nat) : Int)), .int (iI 0)] (jx_G j I M p) _ from cl_fact (k := k) (q := 0) (z := s 3 k) (by omega) (by omega) (hD.2.2.2 k hk).1) (fun vq2 gq2 q2 => ?_)
  obtain ⟨rfl, rfl⟩ := q2
  show jx L xs _ 76 14 _ [.int (iI (s 3 k))] _ _
  refine jv_iload_n (pc' := 15) (k := 2) (x := (iI l)) rfl rfl rfl rfl ?_
  refine jv_ic_ne (t := 44) (pc' := 18) (a := (s 3 k)) (b := l) rfl rfl rfl (by omega) (fun hz_3 => ?_) (fun hz_3 => ?_)
  · skip
    refine jv_iconst (pc' := 45) (n := 0) rfl rfl ?_
    refine jv_retZ rfl rfl (by first | exact Or.inl rfl | exact Or.inr rfl) ⟨_, _, rfl, ?_⟩
    exact ⟨jq_f (by unfold VD; omega), rfl⟩
  · skip
    refine jv_aload_n (pc' := 19) (k := 0) (x := 39) rfl rfl rfl rfl ?_
    refine jv_iload_n (pc' := 20) (k := 1) (x := (iI ((k : Nat) : Int))) rfl rfl rfl rfl ?_
    refine jv_iconst (pc' := 21) (n := 1) rfl rfl ?_
    refine jv_call (pc' := 24) rfl (show jc L xs _ 74 [.ref 39, .int (iI ((k : Nat) : Int)), .int (iI 1)] (jx_G j I M p) _ from cl_fact (k := k) (q := 1) (z := s 4 k) (by omega) (by omega) (hD.2.2.2 k hk).2.1) (fun vq4 gq4 q4 => ?_)
    obtain ⟨rfl, rfl⟩ := q4
    show jx L xs _ 76 24 _ [.int (iI (s 4 k))] _ _
    refine jv_iload_n (pc' := 25) (k := 3) (x := (iI nm)) rfl rfl rfl rfl ?_
    refine jv_ic_ne (t := 44) (pc' := 28) (a := (s 4 k)) (b := nm) rfl rfl rfl (by omega) (fun hz_5 => ?_) (fun hz_5 => ?_)
    · skip
      refine jv_iconst (pc' := 45) (n := 0) rfl rfl ?_
      refine jv_retZ rfl rfl (by first | exact Or.inl rfl | exact Or.inr rfl) ⟨_, _, rfl, ?_⟩
      exact ⟨jq_f (by unfold VD; omega), rfl⟩
    · skip
      refine jv_iload (pc' := 30) (k := 4) (x := (iI (s 7 k))) rfl rfl rfl ?_
      refine jv_iconst (pc' := 31) (n := 1) rfl rfl ?_
      refine jv_ic_eq (t := 44) (pc' := 34) (a := (s 7 k)) (b := 1) rfl rfl rfl (by omega) (fun hz_6 => ?_) (fun hz_6 => ?_)
      · skip
        refine jv_iconst (pc' := 45) (n := 0) rfl rfl ?_
        refine jv_retZ rfl rfl (by first | exact Or.inl rfl | exact Or.inr rfl) ⟨_, _, rfl, ?_⟩
        exact ⟨jq_f (by unfold VD; omega), rfl⟩
      · skip
        refine jv_iload (pc' := 36) (k := 4) (x := (iI (s 7 k))) rfl rfl rfl ?_
        refine jv_iconst (pc' := 37) (n := 4) rfl rfl ?_
        refine jv_ic_eq (t := 44) (pc' := 40) (a := (s 7 k)) (b := 4) rfl rfl rfl (by omega) (fun hz_7 => ?_) (fun hz_7 => ?_)
        · skip
          refine jv_iconst (pc' := 45) (n := 0) rfl rfl ?_
          refine jv_retZ rfl rfl (by first | exact Or.inl rfl | exact Or.inr rfl) ⟨_, _, rfl, ?_⟩
          exact ⟨jq_f (by unfold VD; omega), rfl⟩
        · skip
          refine jv_iconst (pc' := 41) (n := 1) rfl rfl ?_
          refine jx_step (pc' := 45) rfl ?_
          refine jv_retZ rfl rfl (by first | exact Or.inl rfl | exact Or.inr rfl) ⟨_, _, rfl, ?_⟩
          exact ⟨jq_t (by unfold VD; omega), rfl⟩
variable {op vv num : Int}
theorem fitN_61 {op v num : Int} (h : op = 61) : fitN op v num ↔ v = num := by subst h; unfold fitN; simp
theorem fitN_60 {op v num : Int} (h : op = 60) : fitN op v num ↔ v < num := by subst h; unfold fitN; simp
theorem fitN_62 {op v num : Int} (h : op = 62) : fitN op v num ↔ num < v := by subst h; unfold fitN; simp
theorem fitN_126 {op v num : Int} (h : op = 126) : fitN op v num ↔ ¬ (lI v &&& lI num = lI 0) := by subst h; unfold fitN; simp
theorem jx_lc_ne0 {L : Nat} {xs : Nat → Int32} {d mi pc : Nat} {f : jm_F} {r : List Value} {g : jm_H} {Q : jm_O → Prop} {t pc' pc2 : Nat} {x : Int64} {off : Int} (hl : jm_tab mi pc = some (.lcmp, 1)) (h2 : pc + 1 = pc2) (ht : jm_tab mi pc2 = some (.ifCond .eq off, 3)) (hg : jm_tg pc2 off = some t) (hp : pc2 + 3 = pc') (kt : x = lI 0 → jx L xs d mi t f r g Q) (kf : ¬ x = lI 0 → jx L xs d mi pc' f r g Q) : jx L xs d mi pc f (.long (lI 0) :: .long x :: r) g Q := by
  obtain ⟨z, hz, rfl⟩ := lI_of x
  refine jv_lc_eq (a := z) (b := 0) hl h2 ht hg hp ⟨hz, by omega⟩ (fun q => kt (by rw [q])) (fun q => kf (fun y => q ?_))
  rwa [lI_eq ⟨hz, by omega, by omega⟩] at y
theorem cl_fitsNumber (h3 : I 95 3 = iI op) (hop : cm op) (hv : 0 ≤ vv ∧ vv < 4294967296) (hn : 0 ≤ num ∧ num < 1000000) : jc L xs d 93 [.ref 95, .long (lI vv), .int (iI num)] (jx_G j I M p) (fun v g1 => v = some (.int (jb (fitN op vv num))) ∧ g1 = jx_G j I M p) := by
  unfold jc
  refine jv_aload_n (pc' := 1) (k := 0) (x := 95) rfl rfl rfl rfl ?_
  refine jv_getI (pc' := 4) (c := 9) (k := 3) (v := (iI op)) rfl rfl rfl (fun _ _ => rfl) rfl rfl h3 ?_
  rcases hop with h0 | h0 | h0 | h0
  · skip
    rw [show op = 61 by exact h0]
    show jx L xs _ 93 4 _ [.int (iI 61)] _ _
    refine jx_step (pc' := 32) rfl ?_
    show jx L xs _ 93 32 _ [] _ _
    refine jv_lload_n (pc' := 33) (k := 1) (x := (lI vv)) rfl rfl rfl rfl ?_
    refine jv_iload_n (pc' := 34) (k := 3) (x := (iI num)) rfl rfl rfl rfl ?_
    refine jv_i2l (pc' := 35) (a := num) rfl rfl (by omega) ?_
    refine jv_lc_ne (t := 43) (pc' := 39) (a := vv) (b := num) rfl rfl rfl rfl rfl (by omega) (fun hz_1 => ?_) (fun hz_1 => ?_)
    · skip
      refine jv_iconst (pc' := 44) (n := 0) rfl rfl ?_
      refine jv_retZ rfl rfl (by first | exact Or.inl rfl | exact Or.inr rfl) ⟨_, _, rfl, ?_⟩
      exact ⟨jq_f ((fun z => by have := (fitN_61 (by omega)).1 z; omega)), rfl⟩
    · skip
      refine jv_iconst (pc' := 40) (n := 1) rfl rfl ?_
      refine jx_step (pc' := 44) rfl ?_
      refine jv_retZ rfl rfl (by first | exact Or.inl rfl | exact Or.inr rfl) ⟨_, _, rfl, ?_⟩
      exact ⟨jq_t ((fitN_61 (by omega)).2 (by omega)), rfl⟩
  · skip
    rw [show op = 60 by exact h0]
    show jx L xs _ 93 4 _ [.int (iI 60)] _ _
    refine jx_step (pc' := 45) rfl ?_
    show jx L xs _ 93 45 _ [] _ _
    refine jv_lload_n (pc' := 46) (k := 1) (x := (lI vv)) rfl rfl rfl rfl ?_
    refine jv_iload_n (pc' := 47) (k := 3) (x := (iI num)) rfl rfl rfl rfl ?_
    refine jv_i2l (pc' := 48) (a := num) rfl rfl (by omega) ?_
    refine jv_lc_ge (t := 56) (pc' := 52) (a := vv) (b := num) rfl rfl rfl rfl rfl (by omega) (fun hz_2 => ?_) (fun hz_2 => ?_)
    · skip
      refine jv_iconst (pc' := 57) (n := 0) rfl rfl ?_
      refine jv_retZ rfl rfl (by first | exact Or.inl rfl | exact Or.inr rfl) ⟨_, _, rfl, ?_⟩
      exact ⟨jq_f ((fun z => by have := (fitN_60 (by omega)).1 z; omega)), rfl⟩
    · skip
      refine jv_iconst (pc' := 53) (n := 1) rfl rfl ?_
      refine jx_step (pc' := 57) rfl ?_
      refine jv_retZ rfl rfl (by first | exact Or.inl rfl | exact Or.inr rfl) ⟨_, _, rfl, ?_⟩
      exact ⟨jq_t ((fitN_60 (by omega)).2 (by omega)), rfl⟩
  · skip
    rw [show op = 62 by exact h0]
    show jx L xs _ 93 4 _ [.int (iI 62)] _ _
    refine jx_step (pc' := 58) rfl ?_
    show jx L xs _ 93 58 _ [] _ _
    refine jv_lload_n (pc' := 59) (k := 1) (x := (lI vv)) rfl rfl rfl rfl ?_
    refine jv_iload_n (pc' := 60) (k := 3) (x := (iI num)) rfl rfl rfl rfl ?_
    refine jv_i2l (pc' := 61) (a := num) rfl rfl (by omega) ?_
    refine jv_lc_le (t := 69) (pc' := 65) (a := vv) (b := num) rfl rfl rfl rfl rfl (by omega) (fun hz_3 => ?_) (fun hz_3 => ?_)
    · skip
      refine jv_iconst (pc' := 70) (n := 0) rfl rfl ?_
      refine jv_retZ rfl rfl (by first | exact Or.inl rfl | exact Or.inr rfl) ⟨_, _, rfl, ?_⟩
      exact ⟨jq_f ((fun z => by have := (fitN_62 (by omega)).1 z; omega)), rfl⟩
    · skip
      refine jv_iconst (pc' := 66) (n := 1) rfl rfl ?_
      refine jx_step (pc' := 70) rfl ?_
      refine jv_retZ rfl rfl (by first | exact Or.inl rfl | exact Or.inr rfl) ⟨_, _, rfl, ?_⟩
      exact ⟨jq_t ((fitN_62 (by omega)).2 (by omega)), rfl⟩
  · skip
    rw [show op = 126 by exact h0]
    show jx L xs _ 93 4 _ [.int (iI 126)] _ _
    refine jx_step (pc' := 71) rfl ?_
    show jx L xs _ 93 71 _ [] _ _
    refine jv_lload_n (pc' := 72) (k := 1) (x := (lI vv)) rfl rfl rfl rfl ?_
    refine jv_iload_n (pc' := 73) (k := 3) (x := (iI num)) rfl rfl rfl rfl ?_
    refine jv_i2l (pc' := 74) (a := num) rfl rfl (by omega) ?_
    refine jv_long (pc' := 75) (y := (lI vv) &&& (lI num)) rfl rfl ?_
    refine jv_long (pc' := 76) (y := lI 0) rfl (by decide) ?_
    refine jx_lc_ne0 (t := 84) (pc' := 80) (x := lI vv &&& lI num) rfl rfl rfl rfl rfl (fun hz_4 => ?_) (fun hz_4 => ?_)
    · skip
      refine jv_iconst (pc' := 85) (n := 0) rfl rfl ?_
      refine jv_retZ rfl rfl (by first | exact Or.inl rfl | exact Or.inr rfl) ⟨_, _, rfl, ?_⟩
      exact ⟨jq_f ((fun z => (fitN_126 (by omega)).1 z hz_4)), rfl⟩
    · skip
      refine jv_iconst (pc' := 81) (n := 1) rfl rfl ?_
      refine jx_step (pc' := 85) rfl ?_
      refine jv_retZ rfl rfl (by first | exact Or.inl rfl | exact Or.inr rfl) ⟨_, _, rfl, ?_⟩
      exact ⟨jq_t ((fitN_126 (by omega)).2 hz_4), rfl⟩
def FTj (cnt i : Nat) (Nf : Nat → Int) (op vv : Int) (P : Prop) : Prop := P ↔ (cnt = 0 ∨ ∃ i2, i2 < i ∧ fitN op vv (Nf i2))
def FTp (cnt : Nat) (Nf : Nat → Int) (op vv : Int) : Prop := cnt = 0 ∨ ∃ i, i < cnt ∧ fitN op vv (Nf i)
variable {cnt : Nat} {Nf : Nat → Int}
theorem cl_fits (h2 : I 95 2 = iI (cnt : Int)) (h3 : I 95 3 = iI op) (hc4 : cnt ≤ 4) (hop : 0 < cnt → cm op) (hv : 0 ≤ vv ∧ vv < 4294967296) (hNn : ∀ i, i < cnt → I 97 i = iI (Nf i) ∧ 0 ≤ Nf i ∧ Nf i < 1000000) : jc L xs (d + 1) 92 [.ref 95, .long (lI vv)] (jx_G j I M p) (fun v g1 => v = some (.int (jb (FTp cnt Nf op vv))) ∧ g1 = jx_G j I M p) := by
  unfold jc
  refine jv_aload_n (pc' := 1) (k := 0) (x := 95) rfl rfl rfl rfl ?_
  refine jv_getI (pc' := 4) (c := 9) (k := 2) (v := (iI (cnt : Int))) rfl rfl rfl (fun _ _ => rfl) rfl rfl h2 ?_
  refine jv_if_ne (t := 11) (pc' := 7) (a := (cnt : Int)) rfl rfl rfl (by omega) (fun hz_1 => ?_) (fun hz_1 => ?_)
  · skip
    refine jv_iconst (pc' := 12) (n := 0) rfl rfl ?_
    rw [show iI 0 = jb (cnt = 0) from (jb_f (by omega)).symm]
    refine jv_istore_n (pc' := 13) (k := 3) (x := (jb (cnt = 0))) rfl rfl rfl rfl (Or.inr rfl) ?_
    refine jv_iconst (pc' := 14) (n := 0) rfl rfl ?_
    refine jv_istore (pc' := 16) (k := 4) (x := (iI 0)) rfl rfl rfl (Or.inr rfl) ?_
    have H2 : ∀ (N : Nat) (i : Nat) (P : Prop), cnt - i < N → (i ≤ cnt) → (FTj cnt i Nf op vv P) → ∀ f : jm_F, f 0 = some (.ref 95) → f 1 = some (.long (lI vv)) → f 3 = some (.int (jb P)) → f 4 = some (.int (iI ((i : Nat) : Int))) → jm_lng (f 2) = false → jx L xs ((d + 1)) 92 16 f [] (jx_G j I M p) (fun z => ∃ v g1, z = (.inl v, g1) ∧ (fun v g1 => v = some (.int (jb (FTp cnt Nf op vv))) ∧ g1 = jx_G j I M p) v g1) := by
      intro N
      induction N with
      | zero => intro i P hN; exact absurd hN (Nat.not_lt_zero _)
      | succ N ih =>
        intro i P hN hi hJ f hf0 hf1 hf3 hf4 hg2
        refine jv_iload (pc' := 18) (k := 4) (x := (iI ((i : Nat) : Int))) rfl rfl hf4 ?_
        refine jv_aload_n (pc' := 19) (k := 0) (x := 95) rfl rfl rfl hf0 ?_
        refine jv_getI (pc' := 22) (c := 9) (k := 2) (v := (iI (cnt : Int))) rfl rfl rfl (fun _ _ => rfl) rfl rfl h2 ?_
        refine jv_ic_ge (t := 48) (pc' := 25) (a := ((i : Nat) : Int)) (b := (cnt : Int)) rfl rfl rfl (by omega) (fun hz_3 => ?_) (fun hz_3 => ?_)
        · skip
          refine jv_iload_n (pc' := 49) (k := 3) (x := (jb P)) rfl rfl rfl hf3 ?_
          refine jv_retZ rfl rfl (jb_01 _) ⟨_, _, rfl, ?_⟩
          refine ⟨jq_e ?_, rfl⟩
          constructor
          · intro z; rcases hJ.1 z with y | ⟨i2, y1, y2⟩
            · exact Or.inl y
            · exact Or.inr ⟨i2, by omega, y2⟩
          · intro z; rcases z with z | ⟨i2, y1, y2⟩
            · exact hJ.2 (Or.inl z)
            · first | exact hJ.2 (Or.inr ⟨i2, by omega, y2⟩) | assumption
        · skip
          refine jv_iload_n (pc' := 26) (k := 3) (x := (jb P)) rfl rfl rfl hf3 ?_
          refine jv_jb_ne (t := 48) (pc' := 29) (P := P) rfl rfl rfl (fun hz_4 => ?_) (fun hz_4 => ?_)
          · skip
            refine jv_iload_n (pc' := 49) (k := 3) (x := (jb P)) rfl rfl rfl hf3 ?_
            refine jv_retZ rfl rfl (jb_01 _) ⟨_, _, rfl, ?_⟩
            refine ⟨jq_e ?_, rfl⟩
            constructor
            · intro z; rcases hJ.1 z with y | ⟨i2, y1, y2⟩
              · exact Or.inl y
              · exact Or.inr ⟨i2, by omega, y2⟩
            · intro z; rcases z with z | ⟨i2, y1, y2⟩
              · exact hJ.2 (Or.inl z)
              · first | exact hJ.2 (Or.inr ⟨i2, by omega, y2⟩) | assumption
          · skip
            refine jv_aload_n (pc' := 30) (k := 0) (x := 95) rfl rfl rfl hf0 ?_
            refine jv_lload_n (pc' := 31) (k := 1) (x := (lI vv)) rfl rfl rfl hf1 ?_
            refine jv_aload_n (pc' := 32) (k := 0) (x := 95) rfl rfl rfl hf0 ?_
            refine jv_getR (pc' := 35) (c := 9) (k := 1) (v := 97) rfl rfl rfl (fun _ _ => rfl) rfl rfl (jR_95_1 _) ?_
            refine jv_iload (pc' := 37) (k := 4) (x := (iI ((i : Nat) : Int))) rfl rfl hf4 ?_
            refine jv_iaload (pc' := 38) (n := 4) (e := ((i : Nat) : Int)) (v := (iI (Nf i))) rfl rfl (by decide) rfl rfl rfl (by omega) ((hNn i (by omega)).1) ?_
            refine jv_call (pc' := 41) rfl (cl_fitsNumber (op := op) (vv := vv) (num := Nf i) h3 (hop (by omega)) hv (hNn i (by omega)).2) (fun vq5 gq5 q5 => ?_)
            obtain ⟨rfl, rfl⟩ := q5
            show jx L xs _ 92 41 _ [.int (jb (fitN op vv (Nf i)))] _ _
            refine jv_istore_n (pc' := 42) (k := 3) (x := (jb (fitN op vv (Nf i)))) rfl rfl rfl rfl (Or.inr hg2) ?_
            refine jv_iinc (pc' := 45) (k := 4) (a := ((i : Nat) : Int)) rfl rfl hf4 rfl (Or.inr rfl) ?_
            refine jx_step (pc' := 16) rfl ?_
            exact ih (i + 1) (fitN op vv (Nf i)) (by omega) (by omega) (by
                  constructor
                  · intro z; exact Or.inr ⟨i, by omega, z⟩
                  · intro z
                    rcases z with z | ⟨i2, y1, y2⟩
                    · omega
                    · by_cases e : i2 = i
                      · subst e; exact y2
                      · exact absurd (hJ.2 (Or.inr ⟨i2, by omega, y2⟩)) (by assumption)) _ hf0 hf1 rfl rfl hg2
    exact H2 _ 0 (cnt = 0) (Nat.lt_succ_self _) (by omega) ⟨Or.inl, fun z => z.elim id (fun ⟨_, y, _⟩ => absurd y (by omega))⟩ _ rfl rfl rfl rfl rfl
  · skip
    refine jv_iconst (pc' := 8) (n := 1) rfl rfl ?_
    refine jx_step (pc' := 12) rfl ?_
    rw [show iI 1 = jb (cnt = 0) from (jb_t (by omega)).symm]
    refine jv_istore_n (pc' := 13) (k := 3) (x := (jb (cnt = 0))) rfl rfl rfl rfl (Or.inr rfl) ?_
    refine jv_iconst (pc' := 14) (n := 0) rfl rfl ?_
    refine jv_istore (pc' := 16) (k := 4) (x := (iI 0)) rfl rfl rfl (Or.inr rfl) ?_
    have H6 : ∀ (N : Nat) (i : Nat) (P : Prop), cnt - i < N → (i ≤ cnt) → (FTj cnt i Nf op vv P) → ∀ f : jm_F, f 0 = some (.ref 95) → f 1 = some (.long (lI vv)) → f 3 = some (.int (jb P)) → f 4 = some (.int (iI ((i : Nat) : Int))) → jm_lng (f 2) = false → jx L xs ((d + 1)) 92 16 f [] (jx_G j I M p) (fun z => ∃ v g1, z = (.inl v, g1) ∧ (fun v g1 => v = some (.int (jb (FTp cnt Nf op vv))) ∧ g1 = jx_G j I M p) v g1) := by
      intro N
      induction N with
      | zero => intro i P hN; exact absurd hN (Nat.not_lt_zero _)
      | succ N ih =>
        intro i P hN hi hJ f hf0 hf1 hf3 hf4 hg2
        refine jv_iload (pc' := 18) (k := 4) (x := (iI ((i : Nat) : Int))) rfl rfl hf4 ?_
        refine jv_aload_n (pc' := 19) (k := 0) (x := 95) rfl rfl rfl hf0 ?_
        refine jv_getI (pc' := 22) (c := 9) (k := 2) (v := (iI (cnt : Int))) rfl rfl rfl (fun _ _ => rfl) rfl rfl h2 ?_
        refine jv_ic_ge (t := 48) (pc' := 25) (a := ((i : Nat) : Int)) (b := (cnt : Int)) rfl rfl rfl (by omega) (fun hz_7 => ?_) (fun hz_7 => ?_)
        · skip
          refine jv_iload_n (pc' := 49) (k := 3) (x := (jb P)) rfl rfl rfl hf3 ?_
          refine jv_retZ rfl rfl (jb_01 _) ⟨_, _, rfl, ?_⟩
          refine ⟨jq_e ?_, rfl⟩
          constructor
          · intro z; rcases hJ.1 z with y | ⟨i2, y1, y2⟩
            · exact Or.inl y
            · exact Or.inr ⟨i2, by omega, y2⟩
          · intro z; rcases z with z | ⟨i2, y1, y2⟩
            · exact hJ.2 (Or.inl z)
            · first | exact hJ.2 (Or.inr ⟨i2, by omega, y2⟩) | assumption
        · skip
          refine jv_iload_n (pc' := 26) (k := 3) (x := (jb P)) rfl rfl rfl hf3 ?_
          refine jv_jb_ne (t := 48) (pc' := 29) (P := P) rfl rfl rfl (fun hz_8 => ?_) (fun hz_8 => ?_)
          · skip
            refine jv_iload_n (pc' := 49) (k := 3) (x := (jb P)) rfl rfl rfl hf3 ?_
            refine jv_retZ rfl rfl (jb_01 _) ⟨_, _, rfl, ?_⟩
            refine ⟨jq_e ?_, rfl⟩
            constructor
            · intro z; rcases hJ.1 z with y | ⟨i2, y1, y2⟩
              · exact Or.inl y
              · exact Or.inr ⟨i2, by omega, y2⟩
            · intro z; rcases z with z | ⟨i2, y1, y2⟩
              · exact hJ.2 (Or.inl z)
              · first | exact hJ.2 (Or.inr ⟨i2, by omega, y2⟩) | assumption
          · skip
            refine jv_aload_n (pc' := 30) (k := 0) (x := 95) rfl rfl rfl hf0 ?_
            refine jv_lload_n (pc' := 31) (k := 1) (x := (lI vv)) rfl rfl rfl hf1 ?_
            refine jv_aload_n (pc' := 32) (k := 0) (x := 95) rfl rfl rfl hf0 ?_
            refine jv_getR (pc' := 35) (c := 9) (k := 1) (v := 97) rfl rfl rfl (fun _ _ => rfl) rfl rfl (jR_95_1 _) ?_
            refine jv_iload (pc' := 37) (k := 4) (x := (iI ((i : Nat) : Int))) rfl rfl hf4 ?_
            refine jv_iaload (pc' := 38) (n := 4) (e := ((i : Nat) : Int)) (v := (iI (Nf i))) rfl rfl (by decide) rfl rfl rfl (by omega) ((hNn i (by omega)).1) ?_
            refine jv_call (pc' := 41) rfl (cl_fitsNumber (op := op) (vv := vv) (num := Nf i) h3 (hop (by omega)) hv (hNn i (by omega)).2) (fun vq9 gq9 q9 => ?_)
            obtain ⟨rfl, rfl⟩ := q9
            show jx L xs _ 92 41 _ [.int (jb (fitN op vv (Nf i)))] _ _
            refine jv_istore_n (pc' := 42) (k := 3) (x := (jb (fitN op vv (Nf i)))) rfl rfl rfl rfl (Or.inr hg2) ?_
            refine jv_iinc (pc' := 45) (k := 4) (a := ((i : Nat) : Int)) rfl rfl hf4 rfl (Or.inr rfl) ?_
            refine jx_step (pc' := 16) rfl ?_
            exact ih (i + 1) (fitN op vv (Nf i)) (by omega) (by omega) (by
                  constructor
                  · intro z; exact Or.inr ⟨i, by omega, z⟩
                  · intro z
                    rcases z with z | ⟨i2, y1, y2⟩
                    · omega
                    · by_cases e : i2 = i
                      · subst e; exact y2
                      · exact absurd (hJ.2 (Or.inr ⟨i2, by omega, y2⟩)) (by assumption)) _ hf0 hf1 rfl rfl hg2
    exact H6 _ 0 (cnt = 0) (Nat.lt_succ_self _) (by omega) ⟨Or.inl, fun z => z.elim id (fun ⟨_, y, _⟩ => absurd y (by omega))⟩ _ rfl rfl rfl rfl rfl
variable {c : Nat → Int} {n a t : Nat}
theorem cl_takeNumber_qy (hl : TL t) (hC : CT I t c n) (ha : I 96 1 = iI ((a : Nat) : Int)) (hp : p 21 = some t) (hb : a ≤ 80) (han : a ≤ n) (h : 0 < nd c a) : jc L xs d 55 [.ref 96] (jx_G j I M p) (fun v g1 => v = some (.int (iI 1)) ∧ g1 = jx_G j (jm_u (jm_u I 96 2 (iI (nv c a))) 96 1 (iI ((a + nd c a : Nat) : Int))) M p) :=
  jc_mono (cl_takeNumber_q hl hC ha hp hb han) (fun v g1 q => by rw [jb_t h] at q; exact q)
theorem cl_takeNumber_qn (hl : TL t) (hC : CT I t c n) (ha : I 96 1 = iI ((a : Nat) : Int)) (hp : p 21 = some t) (hb : a ≤ 80) (han : a ≤ n) (h : ¬ 0 < nd c a) : jc L xs d 55 [.ref 96] (jx_G j I M p) (fun v g1 => v = some (.int (iI 0)) ∧ g1 = jx_G j (jm_u (jm_u I 96 2 (iI 0)) 96 1 (iI ((a : Nat) : Int))) M p) :=
  jc_mono (cl_takeNumber_q hl hC ha hp hb han) (fun v g1 q => by
    rw [jb_f h] at q
    have e : nd c a = 0 := by omega
    have e2 : nv c a = 0 := by unfold nv; rw [e]; rfl
    rw [e2, e] at q
    exact q)
def RCJ (c : Nat → Int) (a : Nat) (k q : Nat) (Nf : Nat → Int) : Prop := (k = 0 ∧ q = a + 1) ∨ (0 < k ∧ k ≤ mo (c a) + 1 ∧ 0 < nd c (a + 1) ∧ (qO c (mo (c a)) (a + 1 + nd c (a + 1)) ↔ qO c (mo (c a) + 1 - k) q) ∧ qA c (mo (c a)) (a + 1 + nd c (a + 1)) = qA c (mo (c a) + 1 - k) q ∧ ∀ P : Int → Prop, ((∃ x, x ∈ nv c (a + 1) :: nq c (mo (c a)) (a + 1 + nd c (a + 1)) ∧ P x) ↔ ((∃ i, i < k ∧ P (Nf i)) ∨ ∃ x, x ∈ nq c (mo (c a) + 1 - k) q ∧ P x)))
theorem qO_y {c : Nat → Int} {k q : Nat} (h : c q = 44) (hn : 0 < nd c (q + 1)) : (qO c (k + 1) q ↔ qO c k (q + 1 + nd c (q + 1))) ∧ qA c (k + 1) q = qA c k (q + 1 + nd c (q + 1)) ∧ nq c (k + 1) q = nv c (q + 1) :: nq c k (q + 1 + nd c (q + 1)) := by
  refine ⟨⟨fun z => (z h).2, fun z _ => ⟨hn, z⟩⟩, ?_, ?_⟩
  · show (if c q = 44 then _ else _) = _
    rw [if_pos h, if_pos hn]
  · show (if c q = 44 ∧ 0 < nd c (q + 1) then _ else _) = _
    rw [if_pos ⟨h, hn⟩]
theorem qO_n {c : Nat → Int} {k q : Nat} (h : c q = 44) (hn : ¬ 0 < nd c (q + 1)) : ¬ qO c (k + 1) q ∧ qA c (k + 1) q = q + 1 := by
  refine ⟨fun z => hn (z h).1, ?_⟩
  show (if c q = 44 then _ else _) = _
  rw [if_pos h, if_neg hn]
theorem qO_e {c : Nat → Int} {k q : Nat} (h : k = 0 ∨ c q ≠ 44) : qO c k q ∧ qA c k q = q ∧ nq c k q = [] := by
  cases k with
  | zero => exact ⟨trivial, rfl, rfl⟩
  | succ k =>
    have h : c q ≠ 44 := by rcases h with h | h; omega; exact h
    refine ⟨fun z => absurd z h, ?_, ?_⟩
    · show (if c q = 44 then _ else _) = _
      rw [if_neg h]
    · show (if c q = 44 ∧ _ then _ else _) = _
      rw [if_neg (fun z => h z.1)]
theorem RCJ_0 {c : Nat → Int} {a : Nat} {Nf Nf' : Nat → Int} (hn : 0 < nd c (a + 1)) (h : Nf' 0 = nv c (a + 1)) : RCJ c a 1 (a + 1 + nd c (a + 1)) Nf' := by
  refine Or.inr ⟨by omega, by omega, hn, ?_, ?_, fun P => ?_⟩
  · rw [Nat.add_sub_cancel]
  · rw [Nat.add_sub_cancel]
  · rw [Nat.add_sub_cancel]
    constructor
    · rintro ⟨x, hx, hP⟩
      rcases List.mem_cons.1 hx with e | e
      · exact Or.inl ⟨0, by omega, by rw [h, ← e]; exact hP⟩
      · exact Or.inr ⟨x, e, hP⟩
    · rintro (⟨i, hi, hP⟩ | ⟨x, hx, hP⟩)
      · have e : i = 0 := by omega
        subst e
        exact ⟨_, List.mem_cons_self, by rw [← h]; exact hP⟩
      · exact ⟨x, List.mem_cons_of_mem _ hx, hP⟩
theorem RCJ_s {c : Nat → Int} {a k q : Nat} {Nf Nf' : Nat → Int} (hJ : RCJ c a k q Nf) (hk : 0 < k) (hk2 : k ≤ mo (c a)) (hc : c q = 44) (hn : 0 < nd c (q + 1)) (h : Nf' k = nv c (q + 1)) (h2 : ∀ i, i < k → Nf' i = Nf i) : RCJ c a (k + 1) (q + 1 + nd c (q + 1)) Nf' := by
  rcases hJ with hJ | ⟨_, _, h1, h3, h4, h5⟩
  · omega
  · obtain ⟨e1, e2, e3⟩ := qO_y (k := mo (c a) - k) hc hn
    have ek : mo (c a) + 1 - k = mo (c a) - k + 1 := by omega
    have ek2 : mo (c a) + 1 - (k + 1) = mo (c a) - k := by omega
    rw [ek] at h3 h4
    refine Or.inr ⟨by omega, by omega, h1, ?_, ?_, fun P => ?_⟩
    · rw [ek2]; exact h3.trans e1
    · rw [ek2]; exact h4.trans e2
    · rw [ek2]
      have h6 := h5 P
      rw [ek, e3] at h6
      refine h6.trans ?_
      constructor
      · rintro (⟨i, hi, hP⟩ | ⟨x, hx, hP⟩)
        · exact Or.inl ⟨i, by omega, by rw [h2 i hi]; exact hP⟩
        · rcases List.mem_cons.1 hx with e | e
          · exact Or.inl ⟨k, by omega, by rw [h, ← e]; exact hP⟩
          · exact Or.inr ⟨x, e, hP⟩
      · rintro (⟨i, hi, hP⟩ | ⟨x, hx, hP⟩)
        · by_cases e : i = k
          · subst e; exact Or.inr ⟨_, List.mem_cons_self, by rw [← h]; exact hP⟩
          · exact Or.inl ⟨i, by omega, by rw [← h2 i (by omega)]; exact hP⟩
        · exact Or.inr ⟨x, List.mem_cons_of_mem _ hx, hP⟩
theorem RCJ_e {c : Nat → Int} {a k q : Nat} {Nf : Nat → Int} (hm : cm (c a)) (hJ : RCJ c a k q Nf) (hk : 0 < k) (h : mo (c a) + 1 ≤ k ∨ c q ≠ 44) : cO c a ∧ cA c a = q ∧ cN c a ≠ [] ∧ ∀ P : Int → Prop, ((∃ x, x ∈ cN c a ∧ P x) ↔ ∃ i, i < k ∧ P (Nf i)) := by
  rcases hJ with hJ | ⟨_, _, h1, h3, h4, h5⟩
  · omega
  · obtain ⟨e1, e2, e3⟩ := qO_e (c := c) (k := mo (c a) + 1 - k) (q := q) (by omega)
    have eN : cN c a = nv c (a + 1) :: nq c (mo (c a)) (a + 1 + nd c (a + 1)) := if_pos hm
    refine ⟨fun _ => ⟨h1, h3.2 e1⟩, ?_, by rw [eN]; simp, fun P => ?_⟩
    · unfold cA; rw [if_pos hm, if_pos h1, h4, e2]
    · rw [eN]
      refine (h5 P).trans ?_
      rw [e3]
      constructor
      · rintro (z | ⟨x, hx, _⟩)
        · exact z
        · cases hx
      · exact Or.inl
theorem RCJ_f0 {c : Nat → Int} {a : Nat} (hm : cm (c a)) (h : ¬ 0 < nd c (a + 1)) : ¬ cO c a ∧ cA c a = a + 1 := ⟨fun z => h (z hm).1, by unfold cA; rw [if_pos hm, if_neg h]⟩
theorem RCJ_f {c : Nat → Int} {a k q : Nat} {Nf : Nat → Int} (hm : cm (c a)) (hJ : RCJ c a k q Nf) (hk : 0 < k) (hk2 : k ≤ mo (c a)) (hc : c q = 44) (hn : ¬ 0 < nd c (q + 1)) : ¬ cO c a ∧ cA c a = q + 1 := by
  rcases hJ with hJ | ⟨_, _, h1, h3, h4, h5⟩
  · omega
  · obtain ⟨e1, e2⟩ := qO_n (k := mo (c a) - k) hc hn
    have ek : mo (c a) + 1 - k = mo (c a) - k + 1 := by omega
    rw [ek] at h3 h4
    refine ⟨fun z => e1 (h3.1 (z hm).2), ?_⟩
    unfold cA; rw [if_pos hm, if_pos h1, h4, e2]
theorem c_none {c : Nat → Int} {a : Nat} (hm : ¬ cm (c a)) : cO c a ∧ cA c a = a ∧ cN c a = [] := ⟨fun z => absurd z hm, if_neg hm, if_neg hm⟩
set_option maxHeartbeats 4000000 in
theorem cl_readComparison (hl : TL t) (hC : CT I t c n) (ha : I 96 1 = iI ((a : Nat) : Int)) (hp : p 21 = some t) (han : a ≤ n) : jc L xs (d + 2) 91 [.ref 95] (jx_G j I M p) (fun v g1 => ∃ I', g1 = jx_G j I' M p ∧ fr wF0 I I' ∧ I' 96 1 = iI ((cA c a : Nat) : Int) ∧ ((cO c a ∧ v = some (.int (iI 1)) ∧ ∃ (cnt : Nat) (Nf : Nat → Int), I' 95 2 = iI (cnt : Int) ∧ I' 95 3 = iI (c a) ∧ cnt ≤ 4 ∧ (0 < cnt → cm (c a)) ∧ (∀ i, i < cnt → I' 97 i = iI (Nf i) ∧ 0 ≤ Nf i ∧ Nf i < 1000000) ∧ (cnt = 0 ↔ cN c a = []) ∧ (∀ P : Int → Prop, ((∃ x, x ∈ cN c a ∧ P x) ↔ ∃ i, i < cnt ∧ P (Nf i)))) ∨ (¬ cO c a ∧ v = some (.int (iI 0))))) := by
  unfold jc
  have hn := hC.2.1
  refine jv_aload_n (pc' := 1) (k := 0) (x := 95) rfl rfl rfl rfl ?_
  refine jv_aload_n (pc' := 2) (k := 0) (x := 95) rfl rfl rfl rfl ?_
  refine jv_getR (pc' := 5) (c := 9) (k := 0) (v := 96) rfl rfl rfl (fun _ _ => rfl) rfl rfl (jR_95_0 _) ?_
  have hm1 := CT_c hC (a)
  have ho1 := CT_or hC (a)
  refine jv_call (pc' := 8) rfl (cl_seen_q (I := I) (a := a) hl hC ha hp (by omega)) (fun vq2 gq2 q2 => ?_)
  obtain ⟨rfl, rfl⟩ := q2
  show jx L xs _ 91 8 _ [.int (iI (c (a))), .ref 95] _ _
  refine jv_putI (pc' := 11) (c := 9) (k := 3) rfl rfl rfl rfl (fun _ _ _  => rfl) rfl rfl ?_
  refine jv_aload_n (pc' := 12) (k := 0) (x := 95) rfl rfl rfl rfl ?_
  refine jv_iconst (pc' := 13) (n := 0) rfl rfl ?_
  refine jv_putI (pc' := 16) (c := 9) (k := 2) rfl rfl rfl rfl (fun _ _ _  => rfl) rfl rfl ?_
  refine jv_aload_n (pc' := 17) (k := 0) (x := 95) rfl rfl rfl rfl ?_
  refine jv_getI (pc' := 20) (c := 9) (k := 3) (v := (iI (c (a)))) rfl rfl rfl (fun _ _ => rfl) rfl rfl rfl ?_
  refine jv_bipush (pc' := 22) (n := 61) rfl rfl rfl ?_
  refine jv_ic_eq (t := 54) (pc' := 25) (a := (c (a))) (b := 61) rfl rfl rfl (by omega) (fun hz_3 => ?_) (fun hz_3 => ?_)
  · skip
    refine jv_aload_n (pc' := 55) (k := 0) (x := 95) rfl rfl rfl rfl ?_
    refine jv_getR (pc' := 58) (c := 9) (k := 0) (v := 96) rfl rfl rfl (fun _ _ => rfl) rfl rfl (jR_95_0 _) ?_
    refine jx_step (pc' := 59) rfl ?_
    refine jv_getI (pc' := 62) (c := 4) (k := 1) (v := (iI ((a : Nat) : Int))) rfl rfl rfl (fun _ _ => rfl) rfl rfl ha ?_
    refine jv_iconst (pc' := 63) (n := 1) rfl rfl ?_
    refine jv_iadd (pc' := 64) (a := ((a : Nat) : Int)) (b := 1) rfl rfl ?_
    refine jv_putI (pc' := 67) (c := 4) (k := 1) rfl rfl rfl rfl (fun _ _ _  => rfl) rfl rfl ?_
    refine jv_aload_n (pc' := 68) (k := 0) (x := 95) rfl rfl rfl rfl ?_
    refine jv_getI (pc' := 71) (c := 9) (k := 3) (v := (iI (c (a)))) rfl rfl rfl (fun _ _ => rfl) rfl rfl rfl ?_
    refine jv_bipush (pc' := 73) (n := 61) rfl rfl rfl ?_
    refine jv_ic_ne (t := 80) (pc' := 76) (a := (c (a))) (b := 61) rfl rfl rfl (by omega) (fun hz_4 => ?_) (fun hz_4 => ?_)
    · skip
      refine jv_iconst (pc' := 81) (n := 1) rfl rfl ?_
      refine jv_istore_n (pc' := 82) (k := 1) (x := (iI 1)) rfl rfl rfl rfl (Or.inr rfl) ?_
      refine jv_iconst (pc' := 83) (n := 0) rfl rfl ?_
      refine jv_istore_n (pc' := 84) (k := 2) (x := (iI 0)) rfl rfl rfl rfl (Or.inr rfl) ?_
      have hm : cm (c a) := by unfold cm; omega
      have hmo : mo (c a) = 3 ∧ c a = 61 ∨ mo (c a) = 0 ∧ c a ≠ 61 := by unfold mo; split <;> omega
      have H5 : ∀ (N : Nat) (k : Nat) (q : Nat) (I1 : Nat → Nat → Int32) (Nf : Nat → Int), 4 - k < N → (k ≤ 4) → (q ≤ n) → (fr wF0 I I1) → (I1 96 1 = iI ((q : Nat) : Int)) → (I1 95 2 = iI (k : Int)) → (I1 95 3 = iI (c a)) → (∀ i, i < k → I1 97 i = iI (Nf i) ∧ 0 ≤ Nf i ∧ Nf i < 1000000) → (RCJ c a k q Nf) → ∀ f : jm_F, f 0 = some (.ref 95) → f 1 = some (.int (iI 1)) → f 2 = some (.int (iI ((k : Nat) : Int))) → jx L xs ((d + 2)) 91 84 f [] (jx_G j I1 M p) (fun z => ∃ v g1, z = (.inl v, g1) ∧ (fun v g1 => ∃ I', g1 = jx_G j I' M p ∧ fr wF0 I I' ∧ I' 96 1 = iI ((cA c a : Nat) : Int) ∧ ((cO c a ∧ v = some (.int (iI 1)) ∧ ∃ (cnt : Nat) (Nf : Nat → Int), I' 95 2 = iI (cnt : Int) ∧ I' 95 3 = iI (c a) ∧ cnt ≤ 4 ∧ (0 < cnt → cm (c a)) ∧ (∀ i, i < cnt → I' 97 i = iI (Nf i) ∧ 0 ≤ Nf i ∧ Nf i < 1000000) ∧ (cnt = 0 ↔ cN c a = []) ∧ (∀ P : Int → Prop, ((∃ x, x ∈ cN c a ∧ P x) ↔ ∃ i, i < cnt ∧ P (Nf i)))) ∨ (¬ cO c a ∧ v = some (.int (iI 0))))) v g1) := by
        intro N
        induction N with
        | zero => intro k q I1 Nf hN; exact absurd hN (Nat.not_lt_zero _)
        | succ N ih =>
          intro k q I1 Nf hN hk4 hqn hf hq h2 h3 hN hJ f hf0 hf1 hf2 
          refine jv_iload_n (pc' := 85) (k := 2) (x := (iI ((k : Nat) : Int))) rfl rfl rfl hf2 ?_
          have hq0 : (k = 0 ∧ q = a + 1) ∨ (0 < k ∧ k ≤ mo (c a) + 1) := by
            rcases hJ with z | z
            · exact Or.inl z
            · exact Or.inr ⟨z.1, z.2.1⟩
          have C1 : CT I1 t c n := CT_fr (W := wF0) (I := I) (t := t) (c := c) (n := n) hC hf (by unfold wF0; omega) (by intro k; unfold wF0; omega)
          refine jv_iload_n (pc' := 86) (k := 1) (x := (iI 1)) rfl rfl rfl hf1 ?_
          refine jv_ic_ge (t := 146) (pc' := 89) (a := ((k : Nat) : Int)) (b := 1) rfl rfl rfl (by omega) (fun hz_6 => ?_) (fun hz_6 => ?_)
          · skip
            refine jv_iconst (pc' := 147) (n := 1) rfl rfl ?_
            refine jv_retZ rfl rfl (by first | exact Or.inl rfl | exact Or.inr rfl) ⟨_, _, rfl, ?_⟩
            first
            | (exfalso; omega)
            | (obtain ⟨e1, e2, e3, e4⟩ := RCJ_e hm hJ (by omega) (by omega)
               exact ⟨_, rfl, hf, by rw [e2]; exact hq, Or.inl ⟨e1, rfl, k, Nf, h2, h3, by omega, fun _ => hm, hN, ⟨fun z => by omega, fun z => absurd z e3⟩, e4⟩⟩)
          · skip
            refine jv_iload_n (pc' := 90) (k := 2) (x := (iI ((k : Nat) : Int))) rfl rfl rfl hf2 ?_
            refine jv_if_eq (t := 105) (pc' := 93) (a := ((k : Nat) : Int)) rfl rfl rfl (by omega) (fun hz_7 => ?_) (fun hz_7 => ?_)
            · skip
              refine jv_aload_n (pc' := 106) (k := 0) (x := 95) rfl rfl rfl hf0 ?_
              refine jv_getR (pc' := 109) (c := 9) (k := 0) (v := 96) rfl rfl rfl (fun _ _ => rfl) rfl rfl (jR_95_0 _) ?_
              have hm8 := CT_c C1 (q)
              have ho8 := CT_or C1 (q)
              have := nd_le c (q)
              have := nv_b c (q)
              have hnd9 := nd_in C1.2.2.2.2 (a := q) (by omega)
              by_cases hk10 : 0 < nd c (q)
              · skip
                refine jv_call (pc' := 112) rfl (cl_takeNumber_qy (I := I1) (a := q) hl C1 hq hp (by omega) (by omega) hk10) (fun vq11 gq11 q11 => ?_)
                obtain ⟨rfl, rfl⟩ := q11
                show jx L xs _ 91 112 _ [.int (iI 1)] _ _
                refine jv_if_ne (t := 117) (pc' := 115) (a := 1) rfl rfl rfl (by omega) (fun hz_12 => ?_) (fun hz_12 => ?_)
                · skip
                  refine jv_aload_n (pc' := 118) (k := 0) (x := 95) rfl rfl rfl hf0 ?_
                  refine jv_getR (pc' := 121) (c := 9) (k := 1) (v := 97) rfl rfl rfl (fun _ _ => rfl) rfl rfl (jR_95_1 _) ?_
                  refine jv_iload_n (pc' := 122) (k := 2) (x := (iI ((k : Nat) : Int))) rfl rfl rfl hf2 ?_
                  refine jv_aload_n (pc' := 123) (k := 0) (x := 95) rfl rfl rfl hf0 ?_
                  refine jv_getR (pc' := 126) (c := 9) (k := 0) (v := 96) rfl rfl rfl (fun _ _ => rfl) rfl rfl (jR_95_0 _) ?_
                  refine jv_getI (pc' := 129) (c := 4) (k := 2) (v := (iI (nv c (q)))) rfl rfl rfl (fun _ _ => rfl) rfl rfl rfl ?_
                  refine jv_iastore (pc' := 130) (n := 4) (e := ((k : Nat) : Int)) (v := (iI (nv c (q)))) rfl rfl rfl rfl rfl (by omega) ?_
                  refine jv_aload_n (pc' := 131) (k := 0) (x := 95) rfl rfl rfl hf0 ?_
                  refine jx_step (pc' := 132) rfl ?_
                  refine jv_getI (pc' := 135) (c := 9) (k := 2) (v := (iI ((k : Nat) : Int))) rfl rfl rfl (fun _ _ => rfl) rfl rfl h2 ?_
                  refine jv_iconst (pc' := 136) (n := 1) rfl rfl ?_
                  refine jv_iadd (pc' := 137) (a := ((k : Nat) : Int)) (b := 1) rfl rfl ?_
                  refine jv_putI (pc' := 140) (c := 9) (k := 2) rfl rfl rfl rfl (fun _ _ _  => rfl) rfl rfl ?_
                  refine jv_iinc (pc' := 143) (k := 2) (a := ((k : Nat) : Int)) rfl rfl hf2 rfl (Or.inr (congrArg jm_lng hf1)) ?_
                  refine jx_step (pc' := 84) rfl ?_
                  exact ih (k + 1) (q + nd c (q)) (jm_u (jm_u (jm_u (jm_u I1 96 2 (iI (nv c (q)))) 96 1 (iI ((q + nd c (q) : Nat) : Int))) 97 (((k : Nat) : Int) : Int).toNat (iI (nv c (q)))) 95 2 (iI (((k : Nat) : Int) + 1))) (fun i => if i = k then nv c (q) else Nf i) (by omega) (by omega) (by omega) (fr_u (by simp [wF0]) (fr_u (by simp [wF0]) (fr_u (by simp [wF0]) (fr_u (by simp [wF0]) hf)))) rfl rfl h3 (fun i hi => by
                        by_cases e : i = k
                        · subst e; rw [if_pos rfl]; exact ⟨(jm_u_n2 (by omega)).trans (jm_u_eq ⟨rfl, by omega⟩), by omega⟩
                        · rw [if_neg e]; exact ⟨(jm_u_n2 (by omega)).trans ((jm_u_n2 (by omega)).trans ((jm_u_n2 (by omega)).trans ((jm_u_n2 (by omega)).trans (by first | exact (hN i (by omega)).1 | exact (jm_u_n2 (by omega)).trans (hN i (by omega)).1)))), (hN i (by omega)).2⟩) (by first | (rcases hq0 with ⟨e0, e1⟩ | e0; subst e0; subst e1; exact RCJ_0 (Nf := Nf) (by assumption) (if_pos rfl); omega) | exact RCJ_s hJ (by omega) (by omega) (by assumption) (by assumption) (if_pos rfl) (fun i hi => if_neg (by omega))) _ hf0 hf1 rfl 
                · skip
                  exact absurd hz_12 (by decide)
              · skip
                refine jv_call (pc' := 112) rfl (cl_takeNumber_qn (I := I1) (a := q) hl C1 hq hp (by omega) (by omega) hk10) (fun vq13 gq13 q13 => ?_)
                obtain ⟨rfl, rfl⟩ := q13
                show jx L xs _ 91 112 _ [.int (iI 0)] _ _
                refine jv_if_ne (t := 117) (pc' := 115) (a := 0) rfl rfl rfl (by omega) (fun hz_14 => ?_) (fun hz_14 => ?_)
                · skip
                  exact absurd hz_14 (by decide)
                · skip
                  refine jv_iconst (pc' := 116) (n := 0) rfl rfl ?_
                  refine jv_retZ rfl rfl (by first | exact Or.inl rfl | exact Or.inr rfl) ⟨_, _, rfl, ?_⟩
                  first
                  | (exfalso; omega)
                  | (obtain ⟨e1, e2⟩ := RCJ_f hm hJ (by omega) (by omega) (by assumption) (by assumption)
                     exact ⟨_, rfl, (fr_u (by simp [wF0]) (fr_u (by simp [wF0]) hf)), by rw [e2]; exact rfl, Or.inr ⟨e1, rfl⟩⟩)
                  | (have hq : q = a + 1 := by unfold RCJ at hJ; omega
                     subst hq
                     obtain ⟨e1, e2⟩ := RCJ_f0 hm (by assumption)
                     exact ⟨_, rfl, (fr_u (by simp [wF0]) (fr_u (by simp [wF0]) hf)), by rw [e2]; exact rfl, Or.inr ⟨e1, rfl⟩⟩)
            · skip
              refine jv_aload_n (pc' := 94) (k := 0) (x := 95) rfl rfl rfl hf0 ?_
              refine jv_getR (pc' := 97) (c := 9) (k := 0) (v := 96) rfl rfl rfl (fun _ _ => rfl) rfl rfl (jR_95_0 _) ?_
              refine jv_bipush (pc' := 99) (n := 44) rfl rfl rfl ?_
              have hm15 := CT_c C1 (q)
              have ho15 := CT_or C1 (q)
              by_cases hk16 : c (q) = 44
              · skip
                refine jv_call (pc' := 102) rfl (cl_take_y_q (I := I1) (a := q) hl C1 hq hp (by omega) (x := 44) (by omega) hk16) (fun vq17 gq17 q17 => ?_)
                obtain ⟨rfl, rfl⟩ := q17
                show jx L xs _ 91 102 _ [.int (iI 1)] _ _
                refine jv_if_eq (t := 146) (pc' := 105) (a := 1) rfl rfl rfl (by omega) (fun hz_18 => ?_) (fun hz_18 => ?_)
                · skip
                  exact absurd hz_18 (by decide)
                · skip
                  refine jv_aload_n (pc' := 106) (k := 0) (x := 95) rfl rfl rfl hf0 ?_
                  refine jv_getR (pc' := 109) (c := 9) (k := 0) (v := 96) rfl rfl rfl (fun _ _ => rfl) rfl rfl (jR_95_0 _) ?_
                  have C19 : CT (jm_u I1 96 1 (iI ((q + 1 : Nat) : Int))) t c n := CT_fr (W := wF) (I := I1) (t := t) (c := c) (n := n) C1 (fr_u (by simp [wF]) (fr_r _)) (by unfold wF; omega) (by intro k; unfold wF; omega)
                  have hm20 := CT_c C19 (q + 1)
                  have ho20 := CT_or C19 (q + 1)
                  have := nd_le c (q + 1)
                  have := nv_b c (q + 1)
                  have hnd21 := nd_in C19.2.2.2.2 (a := q + 1) (by omega)
                  by_cases hk22 : 0 < nd c (q + 1)
                  · skip
                    refine jv_call (pc' := 112) rfl (cl_takeNumber_qy (I := jm_u I1 96 1 (iI ((q + 1 : Nat) : Int))) (a := q + 1) hl C19 rfl hp (by omega) (by omega) hk22) (fun vq23 gq23 q23 => ?_)
                    obtain ⟨rfl, rfl⟩ := q23
                    show jx L xs _ 91 112 _ [.int (iI 1)] _ _
                    refine jv_if_ne (t := 117) (pc' := 115) (a := 1) rfl rfl rfl (by omega) (fun hz_24 => ?_) (fun hz_24 => ?_)
                    · skip
                      refine jv_aload_n (pc' := 118) (k := 0) (x := 95) rfl rfl rfl hf0 ?_
                      refine jv_getR (pc' := 121) (c := 9) (k := 1) (v := 97) rfl rfl rfl (fun _ _ => rfl) rfl rfl (jR_95_1 _) ?_
                      refine jv_iload_n (pc' := 122) (k := 2) (x := (iI ((k : Nat) : Int))) rfl rfl rfl hf2 ?_
                      refine jv_aload_n (pc' := 123) (k := 0) (x := 95) rfl rfl rfl hf0 ?_
                      refine jv_getR (pc' := 126) (c := 9) (k := 0) (v := 96) rfl rfl rfl (fun _ _ => rfl) rfl rfl (jR_95_0 _) ?_
                      refine jv_getI (pc' := 129) (c := 4) (k := 2) (v := (iI (nv c (q + 1)))) rfl rfl rfl (fun _ _ => rfl) rfl rfl rfl ?_
                      refine jv_iastore (pc' := 130) (n := 4) (e := ((k : Nat) : Int)) (v := (iI (nv c (q + 1)))) rfl rfl rfl rfl rfl (by omega) ?_
                      refine jv_aload_n (pc' := 131) (k := 0) (x := 95) rfl rfl rfl hf0 ?_
                      refine jx_step (pc' := 132) rfl ?_
                      refine jv_getI (pc' := 135) (c := 9) (k := 2) (v := (iI ((k : Nat) : Int))) rfl rfl rfl (fun _ _ => rfl) rfl rfl h2 ?_
                      refine jv_iconst (pc' := 136) (n := 1) rfl rfl ?_
                      refine jv_iadd (pc' := 137) (a := ((k : Nat) : Int)) (b := 1) rfl rfl ?_
                      refine jv_putI (pc' := 140) (c := 9) (k := 2) rfl rfl rfl rfl (fun _ _ _  => rfl) rfl rfl ?_
                      refine jv_iinc (pc' := 143) (k := 2) (a := ((k : Nat) : Int)) rfl rfl hf2 rfl (Or.inr (congrArg jm_lng hf1)) ?_
                      refine jx_step (pc' := 84) rfl ?_
                      exact ih (k + 1) (q + 1 + nd c (q + 1)) (jm_u (jm_u (jm_u (jm_u (jm_u I1 96 1 (iI ((q + 1 : Nat) : Int))) 96 2 (iI (nv c (q + 1)))) 96 1 (iI ((q + 1 + nd c (q + 1) : Nat) : Int))) 97 (((k : Nat) : Int) : Int).toNat (iI (nv c (q + 1)))) 95 2 (iI (((k : Nat) : Int) + 1))) (fun i => if i = k then nv c (q + 1) else Nf i) (by omega) (by omega) (by omega) (fr_u (by simp [wF0]) (fr_u (by simp [wF0]) (fr_u (by simp [wF0]) (fr_u (by simp [wF0]) (fr_u (by simp [wF0]) hf))))) rfl rfl h3 (fun i hi => by
                            by_cases e : i = k
                            · subst e; rw [if_pos rfl]; exact ⟨(jm_u_n2 (by omega)).trans (jm_u_eq ⟨rfl, by omega⟩), by omega⟩
                            · rw [if_neg e]; exact ⟨(jm_u_n2 (by omega)).trans ((jm_u_n2 (by omega)).trans ((jm_u_n2 (by omega)).trans ((jm_u_n2 (by omega)).trans (by first | exact (hN i (by omega)).1 | exact (jm_u_n2 (by omega)).trans (hN i (by omega)).1)))), (hN i (by omega)).2⟩) (by first | (rcases hq0 with ⟨e0, e1⟩ | e0; subst e0; subst e1; exact RCJ_0 (Nf := Nf) (by assumption) (if_pos rfl); omega) | exact RCJ_s hJ (by omega) (by omega) (by assumption) (by assumption) (if_pos rfl) (fun i hi => if_neg (by omega))) _ hf0 hf1 rfl 
                    · skip
                      exact absurd hz_24 (by decide)
                  · skip
                    refine jv_call (pc' := 112) rfl (cl_takeNumber_qn (I := jm_u I1 96 1 (iI ((q + 1 : Nat) : Int))) (a := q + 1) hl C19 rfl hp (by omega) (by omega) hk22) (fun vq25 gq25 q25 => ?_)
                    obtain ⟨rfl, rfl⟩ := q25
                    show jx L xs _ 91 112 _ [.int (iI 0)] _ _
                    refine jv_if_ne (t := 117) (pc' := 115) (a := 0) rfl rfl rfl (by omega) (fun hz_26 => ?_) (fun hz_26 => ?_)
                    · skip
                      exact absurd hz_26 (by decide)
                    · skip
                      refine jv_iconst (pc' := 116) (n := 0) rfl rfl ?_
                      refine jv_retZ rfl rfl (by first | exact Or.inl rfl | exact Or.inr rfl) ⟨_, _, rfl, ?_⟩
                      first
                      | (exfalso; omega)
                      | (obtain ⟨e1, e2⟩ := RCJ_f hm hJ (by omega) (by omega) (by assumption) (by assumption)
                         exact ⟨_, rfl, (fr_u (by simp [wF0]) (fr_u (by simp [wF0]) (fr_u (by simp [wF0]) hf))), by rw [e2]; exact rfl, Or.inr ⟨e1, rfl⟩⟩)
                      | (have hq : q = a + 1 := by unfold RCJ at hJ; omega
                         subst hq
                         obtain ⟨e1, e2⟩ := RCJ_f0 hm (by assumption)
                         exact ⟨_, rfl, (fr_u (by simp [wF0]) (fr_u (by simp [wF0]) (fr_u (by simp [wF0]) hf))), by rw [e2]; exact rfl, Or.inr ⟨e1, rfl⟩⟩)
              · skip
                refine jv_call (pc' := 102) rfl (cl_take_n_q (I := I1) (a := q) hl C1 hq hp (by omega) (x := 44) (by omega) hk16) (fun vq27 gq27 q27 => ?_)
                obtain ⟨rfl, rfl⟩ := q27
                show jx L xs _ 91 102 _ [.int (iI 0)] _ _
                refine jv_if_eq (t := 146) (pc' := 105) (a := 0) rfl rfl rfl (by omega) (fun hz_28 => ?_) (fun hz_28 => ?_)
                · skip
                  refine jv_iconst (pc' := 147) (n := 1) rfl rfl ?_
                  refine jv_retZ rfl rfl (by first | exact Or.inl rfl | exact Or.inr rfl) ⟨_, _, rfl, ?_⟩
                  first
                  | (exfalso; omega)
                  | (obtain ⟨e1, e2, e3, e4⟩ := RCJ_e hm hJ (by omega) (by omega)
                     exact ⟨_, rfl, hf, by rw [e2]; exact hq, Or.inl ⟨e1, rfl, k, Nf, h2, h3, by omega, fun _ => hm, hN, ⟨fun z => by omega, fun z => absurd z e3⟩, e4⟩⟩)
                · skip
                  exact absurd hz_28 (by decide)
      exact H5 _ 0 (a + 1) (jm_u (jm_u (jm_u I 95 3 (iI (c (a)))) 95 2 (iI 0)) 96 1 (iI (((a : Nat) : Int) + 1))) (fun _ => 0) (Nat.lt_succ_self _) (by omega) (by omega) (fr_u (by simp [wF0]) (fr_u (by simp [wF0]) (fr_u (by simp [wF0]) (fr_r _)))) rfl rfl rfl (fun i hi => absurd hi (by omega)) (Or.inl ⟨rfl, rfl⟩) _ rfl rfl rfl 
    · skip
      refine jv_iconst (pc' := 77) (n := 4) rfl rfl ?_
      refine jx_step (pc' := 81) rfl ?_
      refine jv_istore_n (pc' := 82) (k := 1) (x := (iI 4)) rfl rfl rfl rfl (Or.inr rfl) ?_
      refine jv_iconst (pc' := 83) (n := 0) rfl rfl ?_
      refine jv_istore_n (pc' := 84) (k := 2) (x := (iI 0)) rfl rfl rfl rfl (Or.inr rfl) ?_
      have hm : cm (c a) := by unfold cm; omega
      have hmo : mo (c a) = 3 ∧ c a = 61 ∨ mo (c a) = 0 ∧ c a ≠ 61 := by unfold mo; split <;> omega
      have H29 : ∀ (N : Nat) (k : Nat) (q : Nat) (I1 : Nat → Nat → Int32) (Nf : Nat → Int), 4 - k < N → (k ≤ 4) → (q ≤ n) → (fr wF0 I I1) → (I1 96 1 = iI ((q : Nat) : Int)) → (I1 95 2 = iI (k : Int)) → (I1 95 3 = iI (c a)) → (∀ i, i < k → I1 97 i = iI (Nf i) ∧ 0 ≤ Nf i ∧ Nf i < 1000000) → (RCJ c a k q Nf) → ∀ f : jm_F, f 0 = some (.ref 95) → f 1 = some (.int (iI 4)) → f 2 = some (.int (iI ((k : Nat) : Int))) → jx L xs ((d + 2)) 91 84 f [] (jx_G j I1 M p) (fun z => ∃ v g1, z = (.inl v, g1) ∧ (fun v g1 => ∃ I', g1 = jx_G j I' M p ∧ fr wF0 I I' ∧ I' 96 1 = iI ((cA c a : Nat) : Int) ∧ ((cO c a ∧ v = some (.int (iI 1)) ∧ ∃ (cnt : Nat) (Nf : Nat → Int), I' 95 2 = iI (cnt : Int) ∧ I' 95 3 = iI (c a) ∧ cnt ≤ 4 ∧ (0 < cnt → cm (c a)) ∧ (∀ i, i < cnt → I' 97 i = iI (Nf i) ∧ 0 ≤ Nf i ∧ Nf i < 1000000) ∧ (cnt = 0 ↔ cN c a = []) ∧ (∀ P : Int → Prop, ((∃ x, x ∈ cN c a ∧ P x) ↔ ∃ i, i < cnt ∧ P (Nf i)))) ∨ (¬ cO c a ∧ v = some (.int (iI 0))))) v g1) := by
        intro N
        induction N with
        | zero => intro k q I1 Nf hN; exact absurd hN (Nat.not_lt_zero _)
        | succ N ih =>
          intro k q I1 Nf hN hk4 hqn hf hq h2 h3 hN hJ f hf0 hf1 hf2 
          refine jv_iload_n (pc' := 85) (k := 2) (x := (iI ((k : Nat) : Int))) rfl rfl rfl hf2 ?_
          have hq0 : (k = 0 ∧ q = a + 1) ∨ (0 < k ∧ k ≤ mo (c a) + 1) := by
            rcases hJ with z | z
            · exact Or.inl z
            · exact Or.inr ⟨z.1, z.2.1⟩
          have C1 : CT I1 t c n := CT_fr (W := wF0) (I := I) (t := t) (c := c) (n := n) hC hf (by unfold wF0; omega) (by intro k; unfold wF0; omega)
          refine jv_iload_n (pc' := 86) (k := 1) (x := (iI 4)) rfl rfl rfl hf1 ?_
          refine jv_ic_ge (t := 146) (pc' := 89) (a := ((k : Nat) : Int)) (b := 4) rfl rfl rfl (by omega) (fun hz_30 => ?_) (fun hz_30 => ?_)
          · skip
            refine jv_iconst (pc' := 147) (n := 1) rfl rfl ?_
            refine jv_retZ rfl rfl (by first | exact Or.inl rfl | exact Or.inr rfl) ⟨_, _, rfl, ?_⟩
            first
            | (exfalso; omega)
            | (obtain ⟨e1, e2, e3, e4⟩ := RCJ_e hm hJ (by omega) (by omega)
               exact ⟨_, rfl, hf, by rw [e2]; exact hq, Or.inl ⟨e1, rfl, k, Nf, h2, h3, by omega, fun _ => hm, hN, ⟨fun z => by omega, fun z => absurd z e3⟩, e4⟩⟩)
          · skip
            refine jv_iload_n (pc' := 90) (k := 2) (x := (iI ((k : Nat) : Int))) rfl rfl rfl hf2 ?_
            refine jv_if_eq (t := 105) (pc' := 93) (a := ((k : Nat) : Int)) rfl rfl rfl (by omega) (fun hz_31 => ?_) (fun hz_31 => ?_)
            · skip
              refine jv_aload_n (pc' := 106) (k := 0) (x := 95) rfl rfl rfl hf0 ?_
              refine jv_getR (pc' := 109) (c := 9) (k := 0) (v := 96) rfl rfl rfl (fun _ _ => rfl) rfl rfl (jR_95_0 _) ?_
              have hm32 := CT_c C1 (q)
              have ho32 := CT_or C1 (q)
              have := nd_le c (q)
              have := nv_b c (q)
              have hnd33 := nd_in C1.2.2.2.2 (a := q) (by omega)
              by_cases hk34 : 0 < nd c (q)
              · skip
                refine jv_call (pc' := 112) rfl (cl_takeNumber_qy (I := I1) (a := q) hl C1 hq hp (by omega) (by omega) hk34) (fun vq35 gq35 q35 => ?_)
                obtain ⟨rfl, rfl⟩ := q35
                show jx L xs _ 91 112 _ [.int (iI 1)] _ _
                refine jv_if_ne (t := 117) (pc' := 115) (a := 1) rfl rfl rfl (by omega) (fun hz_36 => ?_) (fun hz_36 => ?_)
                · skip
                  refine jv_aload_n (pc' := 118) (k := 0) (x := 95) rfl rfl rfl hf0 ?_
                  refine jv_getR (pc' := 121) (c := 9) (k := 1) (v := 97) rfl rfl rfl (fun _ _ => rfl) rfl rfl (jR_95_1 _) ?_
                  refine jv_iload_n (pc' := 122) (k := 2) (x := (iI ((k : Nat) : Int))) rfl rfl rfl hf2 ?_
                  refine jv_aload_n (pc' := 123) (k := 0) (x := 95) rfl rfl rfl hf0 ?_
                  refine jv_getR (pc' := 126) (c := 9) (k := 0) (v := 96) rfl rfl rfl (fun _ _ => rfl) rfl rfl (jR_95_0 _) ?_
                  refine jv_getI (pc' := 129) (c := 4) (k := 2) (v := (iI (nv c (q)))) rfl rfl rfl (fun _ _ => rfl) rfl rfl rfl ?_
                  refine jv_iastore (pc' := 130) (n := 4) (e := ((k : Nat) : Int)) (v := (iI (nv c (q)))) rfl rfl rfl rfl rfl (by omega) ?_
                  refine jv_aload_n (pc' := 131) (k := 0) (x := 95) rfl rfl rfl hf0 ?_
                  refine jx_step (pc' := 132) rfl ?_
                  refine jv_getI (pc' := 135) (c := 9) (k := 2) (v := (iI ((k : Nat) : Int))) rfl rfl rfl (fun _ _ => rfl) rfl rfl h2 ?_
                  refine jv_iconst (pc' := 136) (n := 1) rfl rfl ?_
                  refine jv_iadd (pc' := 137) (a := ((k : Nat) : Int)) (b := 1) rfl rfl ?_
                  refine jv_putI (pc' := 140) (c := 9) (k := 2) rfl rfl rfl rfl (fun _ _ _  => rfl) rfl rfl ?_
                  refine jv_iinc (pc' := 143) (k := 2) (a := ((k : Nat) : Int)) rfl rfl hf2 rfl (Or.inr (congrArg jm_lng hf1)) ?_
                  refine jx_step (pc' := 84) rfl ?_
                  exact ih (k + 1) (q + nd c (q)) (jm_u (jm_u (jm_u (jm_u I1 96 2 (iI (nv c (q)))) 96 1 (iI ((q + nd c (q) : Nat) : Int))) 97 (((k : Nat) : Int) : Int).toNat (iI (nv c (q)))) 95 2 (iI (((k : Nat) : Int) + 1))) (fun i => if i = k then nv c (q) else Nf i) (by omega) (by omega) (by omega) (fr_u (by simp [wF0]) (fr_u (by simp [wF0]) (fr_u (by simp [wF0]) (fr_u (by simp [wF0]) hf)))) rfl rfl h3 (fun i hi => by
                        by_cases e : i = k
                        · subst e; rw [if_pos rfl]; exact ⟨(jm_u_n2 (by omega)).trans (jm_u_eq ⟨rfl, by omega⟩), by omega⟩
                        · rw [if_neg e]; exact ⟨(jm_u_n2 (by omega)).trans ((jm_u_n2 (by omega)).trans ((jm_u_n2 (by omega)).trans ((jm_u_n2 (by omega)).trans (by first | exact (hN i (by omega)).1 | exact (jm_u_n2 (by omega)).trans (hN i (by omega)).1)))), (hN i (by omega)).2⟩) (by first | (rcases hq0 with ⟨e0, e1⟩ | e0; subst e0; subst e1; exact RCJ_0 (Nf := Nf) (by assumption) (if_pos rfl); omega) | exact RCJ_s hJ (by omega) (by omega) (by assumption) (by assumption) (if_pos rfl) (fun i hi => if_neg (by omega))) _ hf0 hf1 rfl 
                · skip
                  exact absurd hz_36 (by decide)
              · skip
                refine jv_call (pc' := 112) rfl (cl_takeNumber_qn (I := I1) (a := q) hl C1 hq hp (by omega) (by omega) hk34) (fun vq37 gq37 q37 => ?_)
                obtain ⟨rfl, rfl⟩ := q37
                show jx L xs _ 91 112 _ [.int (iI 0)] _ _
                refine jv_if_ne (t := 117) (pc' := 115) (a := 0) rfl rfl rfl (by omega) (fun hz_38 => ?_) (fun hz_38 => ?_)
                · skip
                  exact absurd hz_38 (by decide)
                · skip
                  refine jv_iconst (pc' := 116) (n := 0) rfl rfl ?_
                  refine jv_retZ rfl rfl (by first | exact Or.inl rfl | exact Or.inr rfl) ⟨_, _, rfl, ?_⟩
                  first
                  | (exfalso; omega)
                  | (obtain ⟨e1, e2⟩ := RCJ_f hm hJ (by omega) (by omega) (by assumption) (by assumption)
                     exact ⟨_, rfl, (fr_u (by simp [wF0]) (fr_u (by simp [wF0]) hf)), by rw [e2]; exact rfl, Or.inr ⟨e1, rfl⟩⟩)
                  | (have hq : q = a + 1 := by unfold RCJ at hJ; omega
                     subst hq
                     obtain ⟨e1, e2⟩ := RCJ_f0 hm (by assumption)
                     exact ⟨_, rfl, (fr_u (by simp [wF0]) (fr_u (by simp [wF0]) hf)), by rw [e2]; exact rfl, Or.inr ⟨e1, rfl⟩⟩)
            · skip
              refine jv_aload_n (pc' := 94) (k := 0) (x := 95) rfl rfl rfl hf0 ?_
              refine jv_getR (pc' := 97) (c := 9) (k := 0) (v := 96) rfl rfl rfl (fun _ _ => rfl) rfl rfl (jR_95_0 _) ?_
              refine jv_bipush (pc' := 99) (n := 44) rfl rfl rfl ?_
              have hm39 := CT_c C1 (q)
              have ho39 := CT_or C1 (q)
              by_cases hk40 : c (q) = 44
              · skip
                refine jv_call (pc' := 102) rfl (cl_take_y_q (I := I1) (a := q) hl C1 hq hp (by omega) (x := 44) (by omega) hk40) (fun vq41 gq41 q41 => ?_)
                obtain ⟨rfl, rfl⟩ := q41
                show jx L xs _ 91 102 _ [.int (iI 1)] _ _
                refine jv_if_eq (t := 146) (pc' := 105) (a := 1) rfl rfl rfl (by omega) (fun hz_42 => ?_) (fun hz_42 => ?_)
                · skip
                  exact absurd hz_42 (by decide)
                · skip
                  refine jv_aload_n (pc' := 106) (k := 0) (x := 95) rfl rfl rfl hf0 ?_
                  refine jv_getR (pc' := 109) (c := 9) (k := 0) (v := 96) rfl rfl rfl (fun _ _ => rfl) rfl rfl (jR_95_0 _) ?_
                  have C43 : CT (jm_u I1 96 1 (iI ((q + 1 : Nat) : Int))) t c n := CT_fr (W := wF) (I := I1) (t := t) (c := c) (n := n) C1 (fr_u (by simp [wF]) (fr_r _)) (by unfold wF; omega) (by intro k; unfold wF; omega)
                  have hm44 := CT_c C43 (q + 1)
                  have ho44 := CT_or C43 (q + 1)
                  have := nd_le c (q + 1)
                  have := nv_b c (q + 1)
                  have hnd45 := nd_in C43.2.2.2.2 (a := q + 1) (by omega)
                  by_cases hk46 : 0 < nd c (q + 1)
                  · skip
                    refine jv_call (pc' := 112) rfl (cl_takeNumber_qy (I := jm_u I1 96 1 (iI ((q + 1 : Nat) : Int))) (a := q + 1) hl C43 rfl hp (by omega) (by omega) hk46) (fun vq47 gq47 q47 => ?_)
                    obtain ⟨rfl, rfl⟩ := q47
                    show jx L xs _ 91 112 _ [.int (iI 1)] _ _
                    refine jv_if_ne (t := 117) (pc' := 115) (a := 1) rfl rfl rfl (by omega) (fun hz_48 => ?_) (fun hz_48 => ?_)
                    · skip
                      refine jv_aload_n (pc' := 118) (k := 0) (x := 95) rfl rfl rfl hf0 ?_
                      refine jv_getR (pc' := 121) (c := 9) (k := 1) (v := 97) rfl rfl rfl (fun _ _ => rfl) rfl rfl (jR_95_1 _) ?_
                      refine jv_iload_n (pc' := 122) (k := 2) (x := (iI ((k : Nat) : Int))) rfl rfl rfl hf2 ?_
                      refine jv_aload_n (pc' := 123) (k := 0) (x := 95) rfl rfl rfl hf0 ?_
                      refine jv_getR (pc' := 126) (c := 9) (k := 0) (v := 96) rfl rfl rfl (fun _ _ => rfl) rfl rfl (jR_95_0 _) ?_
                      refine jv_getI (pc' := 129) (c := 4) (k := 2) (v := (iI (nv c (q + 1)))) rfl rfl rfl (fun _ _ => rfl) rfl rfl rfl ?_
                      refine jv_iastore (pc' := 130) (n := 4) (e := ((k : Nat) : Int)) (v := (iI (nv c (q + 1)))) rfl rfl rfl rfl rfl (by omega) ?_
                      refine jv_aload_n (pc' := 131) (k := 0) (x := 95) rfl rfl rfl hf0 ?_
                      refine jx_step (pc' := 132) rfl ?_
                      refine jv_getI (pc' := 135) (c := 9) (k := 2) (v := (iI ((k : Nat) : Int))) rfl rfl rfl (fun _ _ => rfl) rfl rfl h2 ?_
                      refine jv_iconst (pc' := 136) (n := 1) rfl rfl ?_
                      refine jv_iadd (pc' := 137) (a := ((k : Nat) : Int)) (b := 1) rfl rfl ?_
                      refine jv_putI (pc' := 140) (c := 9) (k := 2) rfl rfl rfl rfl (fun _ _ _  => rfl) rfl rfl ?_
                      refine jv_iinc (pc' := 143) (k := 2) (a := ((k : Nat) : Int)) rfl rfl hf2 rfl (Or.inr (congrArg jm_lng hf1)) ?_
                      refine jx_step (pc' := 84) rfl ?_
                      exact ih (k + 1) (q + 1 + nd c (q + 1)) (jm_u (jm_u (jm_u (jm_u (jm_u I1 96 1 (iI ((q + 1 : Nat) : Int))) 96 2 (iI (nv c (q + 1)))) 96 1 (iI ((q + 1 + nd c (q + 1) : Nat) : Int))) 97 (((k : Nat) : Int) : Int).toNat (iI (nv c (q + 1)))) 95 2 (iI (((k : Nat) : Int) + 1))) (fun i => if i = k then nv c (q + 1) else Nf i) (by omega) (by omega) (by omega) (fr_u (by simp [wF0]) (fr_u (by simp [wF0]) (fr_u (by simp [wF0]) (fr_u (by simp [wF0]) (fr_u (by simp [wF0]) hf))))) rfl rfl h3 (fun i hi => by
                            by_cases e : i = k
                            · subst e; rw [if_pos rfl]; exact ⟨(jm_u_n2 (by omega)).trans (jm_u_eq ⟨rfl, by omega⟩), by omega⟩
                            · rw [if_neg e]; exact ⟨(jm_u_n2 (by omega)).trans ((jm_u_n2 (by omega)).trans ((jm_u_n2 (by omega)).trans ((jm_u_n2 (by omega)).trans (by first | exact (hN i (by omega)).1 | exact (jm_u_n2 (by omega)).trans (hN i (by omega)).1)))), (hN i (by omega)).2⟩) (by first | (rcases hq0 with ⟨e0, e1⟩ | e0; subst e0; subst e1; exact RCJ_0 (Nf := Nf) (by assumption) (if_pos rfl); omega) | exact RCJ_s hJ (by omega) (by omega) (by assumption) (by assumption) (if_pos rfl) (fun i hi => if_neg (by omega))) _ hf0 hf1 rfl 
                    · skip
                      exact absurd hz_48 (by decide)
                  · skip
                    refine jv_call (pc' := 112) rfl (cl_takeNumber_qn (I := jm_u I1 96 1 (iI ((q + 1 : Nat) : Int))) (a := q + 1) hl C43 rfl hp (by omega) (by omega) hk46) (fun vq49 gq49 q49 => ?_)
                    obtain ⟨rfl, rfl⟩ := q49
                    show jx L xs _ 91 112 _ [.int (iI 0)] _ _
                    refine jv_if_ne (t := 117) (pc' := 115) (a := 0) rfl rfl rfl (by omega) (fun hz_50 => ?_) (fun hz_50 => ?_)
                    · skip
                      exact absurd hz_50 (by decide)
                    · skip
                      refine jv_iconst (pc' := 116) (n := 0) rfl rfl ?_
                      refine jv_retZ rfl rfl (by first | exact Or.inl rfl | exact Or.inr rfl) ⟨_, _, rfl, ?_⟩
                      first
                      | (exfalso; omega)
                      | (obtain ⟨e1, e2⟩ := RCJ_f hm hJ (by omega) (by omega) (by assumption) (by assumption)
                         exact ⟨_, rfl, (fr_u (by simp [wF0]) (fr_u (by simp [wF0]) (fr_u (by simp [wF0]) hf))), by rw [e2]; exact rfl, Or.inr ⟨e1, rfl⟩⟩)
                      | (have hq : q = a + 1 := by unfold RCJ at hJ; omega
                         subst hq
                         obtain ⟨e1, e2⟩ := RCJ_f0 hm (by assumption)
                         exact ⟨_, rfl, (fr_u (by simp [wF0]) (fr_u (by simp [wF0]) (fr_u (by simp [wF0]) hf))), by rw [e2]; exact rfl, Or.inr ⟨e1, rfl⟩⟩)
              · skip
                refine jv_call (pc' := 102) rfl (cl_take_n_q (I := I1) (a := q) hl C1 hq hp (by omega) (x := 44) (by omega) hk40) (fun vq51 gq51 q51 => ?_)
                obtain ⟨rfl, rfl⟩ := q51
                show jx L xs _ 91 102 _ [.int (iI 0)] _ _
                refine jv_if_eq (t := 146) (pc' := 105) (a := 0) rfl rfl rfl (by omega) (fun hz_52 => ?_) (fun hz_52 => ?_)
                · skip
                  refine jv_iconst (pc' := 147) (n := 1) rfl rfl ?_
                  refine jv_retZ rfl rfl (by first | exact Or.inl rfl | exact Or.inr rfl) ⟨_, _, rfl, ?_⟩
                  first
                  | (exfalso; omega)
                  | (obtain ⟨e1, e2, e3, e4⟩ := RCJ_e hm hJ (by omega) (by omega)
                     exact ⟨_, rfl, hf, by rw [e2]; exact hq, Or.inl ⟨e1, rfl, k, Nf, h2, h3, by omega, fun _ => hm, hN, ⟨fun z => by omega, fun z => absurd z e3⟩, e4⟩⟩)
                · skip
                  exact absurd hz_52 (by decide)
      exact H29 _ 0 (a + 1) (jm_u (jm_u (jm_u I 95 3 (iI (c (a)))) 95 2 (iI 0)) 96 1 (iI (((a : Nat) : Int) + 1))) (fun _ => 0) (Nat.lt_succ_self _) (by omega) (by omega) (fr_u (by simp [wF0]) (fr_u (by simp [wF0]) (fr_u (by simp [wF0]) (fr_r _)))) rfl rfl rfl (fun i hi => absurd hi (by omega)) (Or.inl ⟨rfl, rfl⟩) _ rfl rfl rfl 
  · skip
    refine jv_aload_n (pc' := 26) (k := 0) (x := 95) rfl rfl rfl rfl ?_
    refine jv_getI (pc' := 29) (c := 9) (k := 3) (v := (iI (c (a)))) rfl rfl rfl (fun _ _ => rfl) rfl rfl rfl ?_
    refine jv_bipush (pc' := 31) (n := 60) rfl rfl rfl ?_
    refine jv_ic_eq (t := 54) (pc' := 34) (a := (c (a))) (b := 60) rfl rfl rfl (by omega) (fun hz_53 => ?_) (fun hz_53 => ?_)
    · skip
      refine jv_aload_n (pc' := 55) (k := 0) (x := 95) rfl rfl rfl rfl ?_
      refine jv_getR (pc' := 58) (c := 9) (k := 0) (v := 96) rfl rfl rfl (fun _ _ => rfl) rfl rfl (jR_95_0 _) ?_
      refine jx_step (pc' := 59) rfl ?_
      refine jv_getI (pc' := 62) (c := 4) (k := 1) (v := (iI ((a : Nat) : Int))) rfl rfl rfl (fun _ _ => rfl) rfl rfl ha ?_
      refine jv_iconst (pc' := 63) (n := 1) rfl rfl ?_
      refine jv_iadd (pc' := 64) (a := ((a : Nat) : Int)) (b := 1) rfl rfl ?_
      refine jv_putI (pc' := 67) (c := 4) (k := 1) rfl rfl rfl rfl (fun _ _ _  => rfl) rfl rfl ?_
      refine jv_aload_n (pc' := 68) (k := 0) (x := 95) rfl rfl rfl rfl ?_
      refine jv_getI (pc' := 71) (c := 9) (k := 3) (v := (iI (c (a)))) rfl rfl rfl (fun _ _ => rfl) rfl rfl rfl ?_
      refine jv_bipush (pc' := 73) (n := 61) rfl rfl rfl ?_
      refine jv_ic_ne (t := 80) (pc' := 76) (a := (c (a))) (b := 61) rfl rfl rfl (by omega) (fun hz_54 => ?_) (fun hz_54 => ?_)
      · skip
        refine jv_iconst (pc' := 81) (n := 1) rfl rfl ?_
        refine jv_istore_n (pc' := 82) (k := 1) (x := (iI 1)) rfl rfl rfl rfl (Or.inr rfl) ?_
        refine jv_iconst (pc' := 83) (n := 0) rfl rfl ?_
        refine jv_istore_n (pc' := 84) (k := 2) (x := (iI 0)) rfl rfl rfl rfl (Or.inr rfl) ?_
        have hm : cm (c a) := by unfold cm; omega
        have hmo : mo (c a) = 3 ∧ c a = 61 ∨ mo (c a) = 0 ∧ c a ≠ 61 := by unfold mo; split <;> omega
        have H55 : ∀ (N : Nat) (k : Nat) (q : Nat) (I1 : Nat → Nat → Int32) (Nf : Nat → Int), 4 - k < N → (k ≤ 4) → (q ≤ n) → (fr wF0 I I1) → (I1 96 1 = iI ((q : Nat) : Int)) → (I1 95 2 = iI (k : Int)) → (I1 95 3 = iI (c a)) → (∀ i, i < k → I1 97 i = iI (Nf i) ∧ 0 ≤ Nf i ∧ Nf i < 1000000) → (RCJ c a k q Nf) → ∀ f : jm_F, f 0 = some (.ref 95) → f 1 = some (.int (iI 1)) → f 2 = some (.int (iI ((k : Nat) : Int))) → jx L xs ((d + 2)) 91 84 f [] (jx_G j I1 M p) (fun z => ∃ v g1, z = (.inl v, g1) ∧ (fun v g1 => ∃ I', g1 = jx_G j I' M p ∧ fr wF0 I I' ∧ I' 96 1 = iI ((cA c a : Nat) : Int) ∧ ((cO c a ∧ v = some (.int (iI 1)) ∧ ∃ (cnt : Nat) (Nf : Nat → Int), I' 95 2 = iI (cnt : Int) ∧ I' 95 3 = iI (c a) ∧ cnt ≤ 4 ∧ (0 < cnt → cm (c a)) ∧ (∀ i, i < cnt → I' 97 i = iI (Nf i) ∧ 0 ≤ Nf i ∧ Nf i < 1000000) ∧ (cnt = 0 ↔ cN c a = []) ∧ (∀ P : Int → Prop, ((∃ x, x ∈ cN c a ∧ P x) ↔ ∃ i, i < cnt ∧ P (Nf i)))) ∨ (¬ cO c a ∧ v = some (.int (iI 0))))) v g1) := by
          intro N
          induction N with
          | zero => intro k q I1 Nf hN; exact absurd hN (Nat.not_lt_zero _)
          | succ N ih =>
            intro k q I1 Nf hN hk4 hqn hf hq h2 h3 hN hJ f hf0 hf1 hf2 
            refine jv_iload_n (pc' := 85) (k := 2) (x := (iI ((k : Nat) : Int))) rfl rfl rfl hf2 ?_
            have hq0 : (k = 0 ∧ q = a + 1) ∨ (0 < k ∧ k ≤ mo (c a) + 1) := by
              rcases hJ with z | z
              · exact Or.inl z
              · exact Or.inr ⟨z.1, z.2.1⟩
            have C1 : CT I1 t c n := CT_fr (W := wF0) (I := I) (t := t) (c := c) (n := n) hC hf (by unfold wF0; omega) (by intro k; unfold wF0; omega)
            refine jv_iload_n (pc' := 86) (k := 1) (x := (iI 1)) rfl rfl rfl hf1 ?_
            refine jv_ic_ge (t := 146) (pc' := 89) (a := ((k : Nat) : Int)) (b := 1) rfl rfl rfl (by omega) (fun hz_56 => ?_) (fun hz_56 => ?_)
            · skip
              refine jv_iconst (pc' := 147) (n := 1) rfl rfl ?_
              refine jv_retZ rfl rfl (by first | exact Or.inl rfl | exact Or.inr rfl) ⟨_, _, rfl, ?_⟩
              first
              | (exfalso; omega)
              | (obtain ⟨e1, e2, e3, e4⟩ := RCJ_e hm hJ (by omega) (by omega)
                 exact ⟨_, rfl, hf, by rw [e2]; exact hq, Or.inl ⟨e1, rfl, k, Nf, h2, h3, by omega, fun _ => hm, hN, ⟨fun z => by omega, fun z => absurd z e3⟩, e4⟩⟩)
            · skip
              refine jv_iload_n (pc' := 90) (k := 2) (x := (iI ((k : Nat) : Int))) rfl rfl rfl hf2 ?_
              refine jv_if_eq (t := 105) (pc' := 93) (a := ((k : Nat) : Int)) rfl rfl rfl (by omega) (fun hz_57 => ?_) (fun hz_57 => ?_)
              · skip
                refine jv_aload_n (pc' := 106) (k := 0) (x := 95) rfl rfl rfl hf0 ?_
                refine jv_getR (pc' := 109) (c := 9) (k := 0) (v := 96) rfl rfl rfl (fun _ _ => rfl) rfl rfl (jR_95_0 _) ?_
                have hm58 := CT_c C1 (q)
                have ho58 := CT_or C1 (q)
                have := nd_le c (q)
                have := nv_b c (q)
                have hnd59 := nd_in C1.2.2.2.2 (a := q) (by omega)
                by_cases hk60 : 0 < nd c (q)
                · skip
                  refine jv_call (pc' := 112) rfl (cl_takeNumber_qy (I := I1) (a := q) hl C1 hq hp (by omega) (by omega) hk60) (fun vq61 gq61 q61 => ?_)
                  obtain ⟨rfl, rfl⟩ := q61
                  show jx L xs _ 91 112 _ [.int (iI 1)] _ _
                  refine jv_if_ne (t := 117) (pc' := 115) (a := 1) rfl rfl rfl (by omega) (fun hz_62 => ?_) (fun hz_62 => ?_)
                  · skip
                    refine jv_aload_n (pc' := 118) (k := 0) (x := 95) rfl rfl rfl hf0 ?_
                    refine jv_getR (pc' := 121) (c := 9) (k := 1) (v := 97) rfl rfl rfl (fun _ _ => rfl) rfl rfl (jR_95_1 _) ?_
                    refine jv_iload_n (pc' := 122) (k := 2) (x := (iI ((k : Nat) : Int))) rfl rfl rfl hf2 ?_
                    refine jv_aload_n (pc' := 123) (k := 0) (x := 95) rfl rfl rfl hf0 ?_
                    refine jv_getR (pc' := 126) (c := 9) (k := 0) (v := 96) rfl rfl rfl (fun _ _ => rfl) rfl rfl (jR_95_0 _) ?_
                    refine jv_getI (pc' := 129) (c := 4) (k := 2) (v := (iI (nv c (q)))) rfl rfl rfl (fun _ _ => rfl) rfl rfl rfl ?_
                    refine jv_iastore (pc' := 130) (n := 4) (e := ((k : Nat) : Int)) (v := (iI (nv c (q)))) rfl rfl rfl rfl rfl (by omega) ?_
                    refine jv_aload_n (pc' := 131) (k := 0) (x := 95) rfl rfl rfl hf0 ?_
                    refine jx_step (pc' := 132) rfl ?_
                    refine jv_getI (pc' := 135) (c := 9) (k := 2) (v := (iI ((k : Nat) : Int))) rfl rfl rfl (fun _ _ => rfl) rfl rfl h2 ?_
                    refine jv_iconst (pc' := 136) (n := 1) rfl rfl ?_
                    refine jv_iadd (pc' := 137) (a := ((k : Nat) : Int)) (b := 1) rfl rfl ?_
                    refine jv_putI (pc' := 140) (c := 9) (k := 2) rfl rfl rfl rfl (fun _ _ _  => rfl) rfl rfl ?_
                    refine jv_iinc (pc' := 143) (k := 2) (a := ((k : Nat) : Int)) rfl rfl hf2 rfl (Or.inr (congrArg jm_lng hf1)) ?_
                    refine jx_step (pc' := 84) rfl ?_
                    exact ih (k + 1) (q + nd c (q)) (jm_u (jm_u (jm_u (jm_u I1 96 2 (iI (nv c (q)))) 96 1 (iI ((q + nd c (q) : Nat) : Int))) 97 (((k : Nat) : Int) : Int).toNat (iI (nv c (q)))) 95 2 (iI (((k : Nat) : Int) + 1))) (fun i => if i = k then nv c (q) else Nf i) (by omega) (by omega) (by omega) (fr_u (by simp [wF0]) (fr_u (by simp [wF0]) (fr_u (by simp [wF0]) (fr_u (by simp [wF0]) hf)))) rfl rfl h3 (fun i hi => by
                          by_cases e : i = k
                          · subst e; rw [if_pos rfl]; exact ⟨(jm_u_n2 (by omega)).trans (jm_u_eq ⟨rfl, by omega⟩), by omega⟩
                          · rw [if_neg e]; exact ⟨(jm_u_n2 (by omega)).trans ((jm_u_n2 (by omega)).trans ((jm_u_n2 (by omega)).trans ((jm_u_n2 (by omega)).trans (by first | exact (hN i (by omega)).1 | exact (jm_u_n2 (by omega)).trans (hN i (by omega)).1)))), (hN i (by omega)).2⟩) (by first | (rcases hq0 with ⟨e0, e1⟩ | e0; subst e0; subst e1; exact RCJ_0 (Nf := Nf) (by assumption) (if_pos rfl); omega) | exact RCJ_s hJ (by omega) (by omega) (by assumption) (by assumption) (if_pos rfl) (fun i hi => if_neg (by omega))) _ hf0 hf1 rfl 
                  · skip
                    exact absurd hz_62 (by decide)
                · skip
                  refine jv_call (pc' := 112) rfl (cl_takeNumber_qn (I := I1) (a := q) hl C1 hq hp (by omega) (by omega) hk60) (fun vq63 gq63 q63 => ?_)
                  obtain ⟨rfl, rfl⟩ := q63
                  show jx L xs _ 91 112 _ [.int (iI 0)] _ _
                  refine jv_if_ne (t := 117) (pc' := 115) (a := 0) rfl rfl rfl (by omega) (fun hz_64 => ?_) (fun hz_64 => ?_)
                  · skip
                    exact absurd hz_64 (by decide)
                  · skip
                    refine jv_iconst (pc' := 116) (n := 0) rfl rfl ?_
                    refine jv_retZ rfl rfl (by first | exact Or.inl rfl | exact Or.inr rfl) ⟨_, _, rfl, ?_⟩
                    first
                    | (exfalso; omega)
                    | (obtain ⟨e1, e2⟩ := RCJ_f hm hJ (by omega) (by omega) (by assumption) (by assumption)
                       exact ⟨_, rfl, (fr_u (by simp [wF0]) (fr_u (by simp [wF0]) hf)), by rw [e2]; exact rfl, Or.inr ⟨e1, rfl⟩⟩)
                    | (have hq : q = a + 1 := by unfold RCJ at hJ; omega
                       subst hq
                       obtain ⟨e1, e2⟩ := RCJ_f0 hm (by assumption)
                       exact ⟨_, rfl, (fr_u (by simp [wF0]) (fr_u (by simp [wF0]) hf)), by rw [e2]; exact rfl, Or.inr ⟨e1, rfl⟩⟩)
              · skip
                refine jv_aload_n (pc' := 94) (k := 0) (x := 95) rfl rfl rfl hf0 ?_
                refine jv_getR (pc' := 97) (c := 9) (k := 0) (v := 96) rfl rfl rfl (fun _ _ => rfl) rfl rfl (jR_95_0 _) ?_
                refine jv_bipush (pc' := 99) (n := 44) rfl rfl rfl ?_
                have hm65 := CT_c C1 (q)
                have ho65 := CT_or C1 (q)
                by_cases hk66 : c (q) = 44
                · skip
                  refine jv_call (pc' := 102) rfl (cl_take_y_q (I := I1) (a := q) hl C1 hq hp (by omega) (x := 44) (by omega) hk66) (fun vq67 gq67 q67 => ?_)
                  obtain ⟨rfl, rfl⟩ := q67
                  show jx L xs _ 91 102 _ [.int (iI 1)] _ _
                  refine jv_if_eq (t := 146) (pc' := 105) (a := 1) rfl rfl rfl (by omega) (fun hz_68 => ?_) (fun hz_68 => ?_)
                  · skip
                    exact absurd hz_68 (by decide)
                  · skip
                    refine jv_aload_n (pc' := 106) (k := 0) (x := 95) rfl rfl rfl hf0 ?_
                    refine jv_getR (pc' := 109) (c := 9) (k := 0) (v := 96) rfl rfl rfl (fun _ _ => rfl) rfl rfl (jR_95_0 _) ?_
                    have C69 : CT (jm_u I1 96 1 (iI ((q + 1 : Nat) : Int))) t c n := CT_fr (W := wF) (I := I1) (t := t) (c := c) (n := n) C1 (fr_u (by simp [wF]) (fr_r _)) (by unfold wF; omega) (by intro k; unfold wF; omega)
                    have hm70 := CT_c C69 (q + 1)
                    have ho70 := CT_or C69 (q + 1)
                    have := nd_le c (q + 1)
                    have := nv_b c (q + 1)
                    have hnd71 := nd_in C69.2.2.2.2 (a := q + 1) (by omega)
                    by_cases hk72 : 0 < nd c (q + 1)
                    · skip
                      refine jv_call (pc' := 112) rfl (cl_takeNumber_qy (I := jm_u I1 96 1 (iI ((q + 1 : Nat) : Int))) (a := q + 1) hl C69 rfl hp (by omega) (by omega) hk72) (fun vq73 gq73 q73 => ?_)
                      obtain ⟨rfl, rfl⟩ := q73
                      show jx L xs _ 91 112 _ [.int (iI 1)] _ _
                      refine jv_if_ne (t := 117) (pc' := 115) (a := 1) rfl rfl rfl (by omega) (fun hz_74 => ?_) (fun hz_74 => ?_)
                      · skip
                        refine jv_aload_n (pc' := 118) (k := 0) (x := 95) rfl rfl rfl hf0 ?_
                        refine jv_getR (pc' := 121) (c := 9) (k := 1) (v := 97) rfl rfl rfl (fun _ _ => rfl) rfl rfl (jR_95_1 _) ?_
                        refine jv_iload_n (pc' := 122) (k := 2) (x := (iI ((k : Nat) : Int))) rfl rfl rfl hf2 ?_
                        refine jv_aload_n (pc' := 123) (k := 0) (x := 95) rfl rfl rfl hf0 ?_
                        refine jv_getR (pc' := 126) (c := 9) (k := 0) (v := 96) rfl rfl rfl (fun _ _ => rfl) rfl rfl (jR_95_0 _) ?_
                        refine jv_getI (pc' := 129) (c := 4) (k := 2) (v := (iI (nv c (q + 1)))) rfl rfl rfl (fun _ _ => rfl) rfl rfl rfl ?_
                        refine jv_iastore (pc' := 130) (n := 4) (e := ((k : Nat) : Int)) (v := (iI (nv c (q + 1)))) rfl rfl rfl rfl rfl (by omega) ?_
                        refine jv_aload_n (pc' := 131) (k := 0) (x := 95) rfl rfl rfl hf0 ?_
                        refine jx_step (pc' := 132) rfl ?_
                        refine jv_getI (pc' := 135) (c := 9) (k := 2) (v := (iI ((k : Nat) : Int))) rfl rfl rfl (fun _ _ => rfl) rfl rfl h2 ?_
                        refine jv_iconst (pc' := 136) (n := 1) rfl rfl ?_
                        refine jv_iadd (pc' := 137) (a := ((k : Nat) : Int)) (b := 1) rfl rfl ?_
                        refine jv_putI (pc' := 140) (c := 9) (k := 2) rfl rfl rfl rfl (fun _ _ _  => rfl) rfl rfl ?_
                        refine jv_iinc (pc' := 143) (k := 2) (a := ((k : Nat) : Int)) rfl rfl hf2 rfl (Or.inr (congrArg jm_lng hf1)) ?_
                        refine jx_step (pc' := 84) rfl ?_
                        exact ih (k + 1) (q + 1 + nd c (q + 1)) (jm_u (jm_u (jm_u (jm_u (jm_u I1 96 1 (iI ((q + 1 : Nat) : Int))) 96 2 (iI (nv c (q + 1)))) 96 1 (iI ((q + 1 + nd c (q + 1) : Nat) : Int))) 97 (((k : Nat) : Int) : Int).toNat (iI (nv c (q + 1)))) 95 2 (iI (((k : Nat) : Int) + 1))) (fun i => if i = k then nv c (q + 1) else Nf i) (by omega) (by omega) (by omega) (fr_u (by simp [wF0]) (fr_u (by simp [wF0]) (fr_u (by simp [wF0]) (fr_u (by simp [wF0]) (fr_u (by simp [wF0]) hf))))) rfl rfl h3 (fun i hi => by
                              by_cases e : i = k
                              · subst e; rw [if_pos rfl]; exact ⟨(jm_u_n2 (by omega)).trans (jm_u_eq ⟨rfl, by omega⟩), by omega⟩
                              · rw [if_neg e]; exact ⟨(jm_u_n2 (by omega)).trans ((jm_u_n2 (by omega)).trans ((jm_u_n2 (by omega)).trans ((jm_u_n2 (by omega)).trans (by first | exact (hN i (by omega)).1 | exact (jm_u_n2 (by omega)).trans (hN i (by omega)).1)))), (hN i (by omega)).2⟩) (by first | (rcases hq0 with ⟨e0, e1⟩ | e0; subst e0; subst e1; exact RCJ_0 (Nf := Nf) (by assumption) (if_pos rfl); omega) | exact RCJ_s hJ (by omega) (by omega) (by assumption) (by assumption) (if_pos rfl) (fun i hi => if_neg (by omega))) _ hf0 hf1 rfl 
                      · skip
                        exact absurd hz_74 (by decide)
                    · skip
                      refine jv_call (pc' := 112) rfl (cl_takeNumber_qn (I := jm_u I1 96 1 (iI ((q + 1 : Nat) : Int))) (a := q + 1) hl C69 rfl hp (by omega) (by omega) hk72) (fun vq75 gq75 q75 => ?_)
                      obtain ⟨rfl, rfl⟩ := q75
                      show jx L xs _ 91 112 _ [.int (iI 0)] _ _
                      refine jv_if_ne (t := 117) (pc' := 115) (a := 0) rfl rfl rfl (by omega) (fun hz_76 => ?_) (fun hz_76 => ?_)
                      · skip
                        exact absurd hz_76 (by decide)
                      · skip
                        refine jv_iconst (pc' := 116) (n := 0) rfl rfl ?_
                        refine jv_retZ rfl rfl (by first | exact Or.inl rfl | exact Or.inr rfl) ⟨_, _, rfl, ?_⟩
                        first
                        | (exfalso; omega)
                        | (obtain ⟨e1, e2⟩ := RCJ_f hm hJ (by omega) (by omega) (by assumption) (by assumption)
                           exact ⟨_, rfl, (fr_u (by simp [wF0]) (fr_u (by simp [wF0]) (fr_u (by simp [wF0]) hf))), by rw [e2]; exact rfl, Or.inr ⟨e1, rfl⟩⟩)
                        | (have hq : q = a + 1 := by unfold RCJ at hJ; omega
                           subst hq
                           obtain ⟨e1, e2⟩ := RCJ_f0 hm (by assumption)
                           exact ⟨_, rfl, (fr_u (by simp [wF0]) (fr_u (by simp [wF0]) (fr_u (by simp [wF0]) hf))), by rw [e2]; exact rfl, Or.inr ⟨e1, rfl⟩⟩)
                · skip
                  refine jv_call (pc' := 102) rfl (cl_take_n_q (I := I1) (a := q) hl C1 hq hp (by omega) (x := 44) (by omega) hk66) (fun vq77 gq77 q77 => ?_)
                  obtain ⟨rfl, rfl⟩ := q77
                  show jx L xs _ 91 102 _ [.int (iI 0)] _ _
                  refine jv_if_eq (t := 146) (pc' := 105) (a := 0) rfl rfl rfl (by omega) (fun hz_78 => ?_) (fun hz_78 => ?_)
                  · skip
                    refine jv_iconst (pc' := 147) (n := 1) rfl rfl ?_
                    refine jv_retZ rfl rfl (by first | exact Or.inl rfl | exact Or.inr rfl) ⟨_, _, rfl, ?_⟩
                    first
                    | (exfalso; omega)
                    | (obtain ⟨e1, e2, e3, e4⟩ := RCJ_e hm hJ (by omega) (by omega)
                       exact ⟨_, rfl, hf, by rw [e2]; exact hq, Or.inl ⟨e1, rfl, k, Nf, h2, h3, by omega, fun _ => hm, hN, ⟨fun z => by omega, fun z => absurd z e3⟩, e4⟩⟩)
                  · skip
                    exact absurd hz_78 (by decide)
        exact H55 _ 0 (a + 1) (jm_u (jm_u (jm_u I 95 3 (iI (c (a)))) 95 2 (iI 0)) 96 1 (iI (((a : Nat) : Int) + 1))) (fun _ => 0) (Nat.lt_succ_self _) (by omega) (by omega) (fr_u (by simp [wF0]) (fr_u (by simp [wF0]) (fr_u (by simp [wF0]) (fr_r _)))) rfl rfl rfl (fun i hi => absurd hi (by omega)) (Or.inl ⟨rfl, rfl⟩) _ rfl rfl rfl 
      · skip
        refine jv_iconst (pc' := 77) (n := 4) rfl rfl ?_
        refine jx_step (pc' := 81) rfl ?_
        refine jv_istore_n (pc' := 82) (k := 1) (x := (iI 4)) rfl rfl rfl rfl (Or.inr rfl) ?_
        refine jv_iconst (pc' := 83) (n := 0) rfl rfl ?_
        refine jv_istore_n (pc' := 84) (k := 2) (x := (iI 0)) rfl rfl rfl rfl (Or.inr rfl) ?_
        have hm : cm (c a) := by unfold cm; omega
        have hmo : mo (c a) = 3 ∧ c a = 61 ∨ mo (c a) = 0 ∧ c a ≠ 61 := by unfold mo; split <;> omega
        have H79 : ∀ (N : Nat) (k : Nat) (q : Nat) (I1 : Nat → Nat → Int32) (Nf : Nat → Int), 4 - k < N → (k ≤ 4) → (q ≤ n) → (fr wF0 I I1) → (I1 96 1 = iI ((q : Nat) : Int)) → (I1 95 2 = iI (k : Int)) → (I1 95 3 = iI (c a)) → (∀ i, i < k → I1 97 i = iI (Nf i) ∧ 0 ≤ Nf i ∧ Nf i < 1000000) → (RCJ c a k q Nf) → ∀ f : jm_F, f 0 = some (.ref 95) → f 1 = some (.int (iI 4)) → f 2 = some (.int (iI ((k : Nat) : Int))) → jx L xs ((d + 2)) 91 84 f [] (jx_G j I1 M p) (fun z => ∃ v g1, z = (.inl v, g1) ∧ (fun v g1 => ∃ I', g1 = jx_G j I' M p ∧ fr wF0 I I' ∧ I' 96 1 = iI ((cA c a : Nat) : Int) ∧ ((cO c a ∧ v = some (.int (iI 1)) ∧ ∃ (cnt : Nat) (Nf : Nat → Int), I' 95 2 = iI (cnt : Int) ∧ I' 95 3 = iI (c a) ∧ cnt ≤ 4 ∧ (0 < cnt → cm (c a)) ∧ (∀ i, i < cnt → I' 97 i = iI (Nf i) ∧ 0 ≤ Nf i ∧ Nf i < 1000000) ∧ (cnt = 0 ↔ cN c a = []) ∧ (∀ P : Int → Prop, ((∃ x, x ∈ cN c a ∧ P x) ↔ ∃ i, i < cnt ∧ P (Nf i)))) ∨ (¬ cO c a ∧ v = some (.int (iI 0))))) v g1) := by
          intro N
          induction N with
          | zero => intro k q I1 Nf hN; exact absurd hN (Nat.not_lt_zero _)
          | succ N ih =>
            intro k q I1 Nf hN hk4 hqn hf hq h2 h3 hN hJ f hf0 hf1 hf2 
            refine jv_iload_n (pc' := 85) (k := 2) (x := (iI ((k : Nat) : Int))) rfl rfl rfl hf2 ?_
            have hq0 : (k = 0 ∧ q = a + 1) ∨ (0 < k ∧ k ≤ mo (c a) + 1) := by
              rcases hJ with z | z
              · exact Or.inl z
              · exact Or.inr ⟨z.1, z.2.1⟩
            have C1 : CT I1 t c n := CT_fr (W := wF0) (I := I) (t := t) (c := c) (n := n) hC hf (by unfold wF0; omega) (by intro k; unfold wF0; omega)
            refine jv_iload_n (pc' := 86) (k := 1) (x := (iI 4)) rfl rfl rfl hf1 ?_
            refine jv_ic_ge (t := 146) (pc' := 89) (a := ((k : Nat) : Int)) (b := 4) rfl rfl rfl (by omega) (fun hz_80 => ?_) (fun hz_80 => ?_)
            · skip
              refine jv_iconst (pc' := 147) (n := 1) rfl rfl ?_
              refine jv_retZ rfl rfl (by first | exact Or.inl rfl | exact Or.inr rfl) ⟨_, _, rfl, ?_⟩
              first
              | (exfalso; omega)
              | (obtain ⟨e1, e2, e3, e4⟩ := RCJ_e hm hJ (by omega) (by omega)
                 exact ⟨_, rfl, hf, by rw [e2]; exact hq, Or.inl ⟨e1, rfl, k, Nf, h2, h3, by omega, fun _ => hm, hN, ⟨fun z => by omega, fun z => absurd z e3⟩, e4⟩⟩)
            · skip
              refine jv_iload_n (pc' := 90) (k := 2) (x := (iI ((k : Nat) : Int))) rfl rfl rfl hf2 ?_
              refine jv_if_eq (t := 105) (pc' := 93) (a := ((k : Nat) : Int)) rfl rfl rfl (by omega) (fun hz_81 => ?_) (fun hz_81 => ?_)
              · skip
                refine jv_aload_n (pc' := 106) (k := 0) (x := 95) rfl rfl rfl hf0 ?_
                refine jv_getR (pc' := 109) (c := 9) (k := 0) (v := 96) rfl rfl rfl (fun _ _ => rfl) rfl rfl (jR_95_0 _) ?_
                have hm82 := CT_c C1 (q)
                have ho82 := CT_or C1 (q)
                have := nd_le c (q)
                have := nv_b c (q)
                have hnd83 := nd_in C1.2.2.2.2 (a := q) (by omega)
                by_cases hk84 : 0 < nd c (q)
                · skip
                  refine jv_call (pc' := 112) rfl (cl_takeNumber_qy (I := I1) (a := q) hl C1 hq hp (by omega) (by omega) hk84) (fun vq85 gq85 q85 => ?_)
                  obtain ⟨rfl, rfl⟩ := q85
                  show jx L xs _ 91 112 _ [.int (iI 1)] _ _
                  refine jv_if_ne (t := 117) (pc' := 115) (a := 1) rfl rfl rfl (by omega) (fun hz_86 => ?_) (fun hz_86 => ?_)
                  · skip
                    refine jv_aload_n (pc' := 118) (k := 0) (x := 95) rfl rfl rfl hf0 ?_
                    refine jv_getR (pc' := 121) (c := 9) (k := 1) (v := 97) rfl rfl rfl (fun _ _ => rfl) rfl rfl (jR_95_1 _) ?_
                    refine jv_iload_n (pc' := 122) (k := 2) (x := (iI ((k : Nat) : Int))) rfl rfl rfl hf2 ?_
                    refine jv_aload_n (pc' := 123) (k := 0) (x := 95) rfl rfl rfl hf0 ?_
                    refine jv_getR (pc' := 126) (c := 9) (k := 0) (v := 96) rfl rfl rfl (fun _ _ => rfl) rfl rfl (jR_95_0 _) ?_
                    refine jv_getI (pc' := 129) (c := 4) (k := 2) (v := (iI (nv c (q)))) rfl rfl rfl (fun _ _ => rfl) rfl rfl rfl ?_
                    refine jv_iastore (pc' := 130) (n := 4) (e := ((k : Nat) : Int)) (v := (iI (nv c (q)))) rfl rfl rfl rfl rfl (by omega) ?_
                    refine jv_aload_n (pc' := 131) (k := 0) (x := 95) rfl rfl rfl hf0 ?_
                    refine jx_step (pc' := 132) rfl ?_
                    refine jv_getI (pc' := 135) (c := 9) (k := 2) (v := (iI ((k : Nat) : Int))) rfl rfl rfl (fun _ _ => rfl) rfl rfl h2 ?_
                    refine jv_iconst (pc' := 136) (n := 1) rfl rfl ?_
                    refine jv_iadd (pc' := 137) (a := ((k : Nat) : Int)) (b := 1) rfl rfl ?_
                    refine jv_putI (pc' := 140) (c := 9) (k := 2) rfl rfl rfl rfl (fun _ _ _  => rfl) rfl rfl ?_
                    refine jv_iinc (pc' := 143) (k := 2) (a := ((k : Nat) : Int)) rfl rfl hf2 rfl (Or.inr (congrArg jm_lng hf1)) ?_
                    refine jx_step (pc' := 84) rfl ?_
                    exact ih (k + 1) (q + nd c (q)) (jm_u (jm_u (jm_u (jm_u I1 96 2 (iI (nv c (q)))) 96 1 (iI ((q + nd c (q) : Nat) : Int))) 97 (((k : Nat) : Int) : Int).toNat (iI (nv c (q)))) 95 2 (iI (((k : Nat) : Int) + 1))) (fun i => if i = k then nv c (q) else Nf i) (by omega) (by omega) (by omega) (fr_u (by simp [wF0]) (fr_u (by simp [wF0]) (fr_u (by simp [wF0]) (fr_u (by simp [wF0]) hf)))) rfl rfl h3 (fun i hi => by
                          by_cases e : i = k
                          · subst e; rw [if_pos rfl]; exact ⟨(jm_u_n2 (by omega)).trans (jm_u_eq ⟨rfl, by omega⟩), by omega⟩
                          · rw [if_neg e]; exact ⟨(jm_u_n2 (by omega)).trans ((jm_u_n2 (by omega)).trans ((jm_u_n2 (by omega)).trans ((jm_u_n2 (by omega)).trans (by first | exact (hN i (by omega)).1 | exact (jm_u_n2 (by omega)).trans (hN i (by omega)).1)))), (hN i (by omega)).2⟩) (by first | (rcases hq0 with ⟨e0, e1⟩ | e0; subst e0; subst e1; exact RCJ_0 (Nf := Nf) (by assumption) (if_pos rfl); omega) | exact RCJ_s hJ (by omega) (by omega) (by assumption) (by assumption) (if_pos rfl) (fun i hi => if_neg (by omega))) _ hf0 hf1 rfl 
                  · skip
                    exact absurd hz_86 (by decide)
                · skip
                  refine jv_call (pc' := 112) rfl (cl_takeNumber_qn (I := I1) (a := q) hl C1 hq hp (by omega) (by omega) hk84) (fun vq87 gq87 q87 => ?_)
                  obtain ⟨rfl, rfl⟩ := q87
                  show jx L xs _ 91 112 _ [.int (iI 0)] _ _
                  refine jv_if_ne (t := 117) (pc' := 115) (a := 0) rfl rfl rfl (by omega) (fun hz_88 => ?_) (fun hz_88 => ?_)
                  · skip
                    exact absurd hz_88 (by decide)
                  · skip
                    refine jv_iconst (pc' := 116) (n := 0) rfl rfl ?_
                    refine jv_retZ rfl rfl (by first | exact Or.inl rfl | exact Or.inr rfl) ⟨_, _, rfl, ?_⟩
                    first
                    | (exfalso; omega)
                    | (obtain ⟨e1, e2⟩ := RCJ_f hm hJ (by omega) (by omega) (by assumption) (by assumption)
                       exact ⟨_, rfl, (fr_u (by simp [wF0]) (fr_u (by simp [wF0]) hf)), by rw [e2]; exact rfl, Or.inr ⟨e1, rfl⟩⟩)
                    | (have hq : q = a + 1 := by unfold RCJ at hJ; omega
                       subst hq
                       obtain ⟨e1, e2⟩ := RCJ_f0 hm (by assumption)
                       exact ⟨_, rfl, (fr_u (by simp [wF0]) (fr_u (by simp [wF0]) hf)), by rw [e2]; exact rfl, Or.inr ⟨e1, rfl⟩⟩)
              · skip
                refine jv_aload_n (pc' := 94) (k := 0) (x := 95) rfl rfl rfl hf0 ?_
                refine jv_getR (pc' := 97) (c := 9) (k := 0) (v := 96) rfl rfl rfl (fun _ _ => rfl) rfl rfl (jR_95_0 _) ?_
                refine jv_bipush (pc' := 99) (n := 44) rfl rfl rfl ?_
                have hm89 := CT_c C1 (q)
                have ho89 := CT_or C1 (q)
                by_cases hk90 : c (q) = 44
                · skip
                  refine jv_call (pc' := 102) rfl (cl_take_y_q (I := I1) (a := q) hl C1 hq hp (by omega) (x := 44) (by omega) hk90) (fun vq91 gq91 q91 => ?_)
                  obtain ⟨rfl, rfl⟩ := q91
                  show jx L xs _ 91 102 _ [.int (iI 1)] _ _
                  refine jv_if_eq (t := 146) (pc' := 105) (a := 1) rfl rfl rfl (by omega) (fun hz_92 => ?_) (fun hz_92 => ?_)
                  · skip
                    exact absurd hz_92 (by decide)
                  · skip
                    refine jv_aload_n (pc' := 106) (k := 0) (x := 95) rfl rfl rfl hf0 ?_
                    refine jv_getR (pc' := 109) (c := 9) (k := 0) (v := 96) rfl rfl rfl (fun _ _ => rfl) rfl rfl (jR_95_0 _) ?_
                    have C93 : CT (jm_u I1 96 1 (iI ((q + 1 : Nat) : Int))) t c n := CT_fr (W := wF) (I := I1) (t := t) (c := c) (n := n) C1 (fr_u (by simp [wF]) (fr_r _)) (by unfold wF; omega) (by intro k; unfold wF; omega)
                    have hm94 := CT_c C93 (q + 1)
                    have ho94 := CT_or C93 (q + 1)
                    have := nd_le c (q + 1)
                    have := nv_b c (q + 1)
                    have hnd95 := nd_in C93.2.2.2.2 (a := q + 1) (by omega)
                    by_cases hk96 : 0 < nd c (q + 1)
                    · skip
                      refine jv_call (pc' := 112) rfl (cl_takeNumber_qy (I := jm_u I1 96 1 (iI ((q + 1 : Nat) : Int))) (a := q + 1) hl C93 rfl hp (by omega) (by omega) hk96) (fun vq97 gq97 q97 => ?_)
                      obtain ⟨rfl, rfl⟩ := q97
                      show jx L xs _ 91 112 _ [.int (iI 1)] _ _
                      refine jv_if_ne (t := 117) (pc' := 115) (a := 1) rfl rfl rfl (by omega) (fun hz_98 => ?_) (fun hz_98 => ?_)
                      · skip
                        refine jv_aload_n (pc' := 118) (k := 0) (x := 95) rfl rfl rfl hf0 ?_
                        refine jv_getR (pc' := 121) (c := 9) (k := 1) (v := 97) rfl rfl rfl (fun _ _ => rfl) rfl rfl (jR_95_1 _) ?_
                        refine jv_iload_n (pc' := 122) (k := 2) (x := (iI ((k : Nat) : Int))) rfl rfl rfl hf2 ?_
                        refine jv_aload_n (pc' := 123) (k := 0) (x := 95) rfl rfl rfl hf0 ?_
                        refine jv_getR (pc' := 126) (c := 9) (k := 0) (v := 96) rfl rfl rfl (fun _ _ => rfl) rfl rfl (jR_95_0 _) ?_
                        refine jv_getI (pc' := 129) (c := 4) (k := 2) (v := (iI (nv c (q + 1)))) rfl rfl rfl (fun _ _ => rfl) rfl rfl rfl ?_
                        refine jv_iastore (pc' := 130) (n := 4) (e := ((k : Nat) : Int)) (v := (iI (nv c (q + 1)))) rfl rfl rfl rfl rfl (by omega) ?_
                        refine jv_aload_n (pc' := 131) (k := 0) (x := 95) rfl rfl rfl hf0 ?_
                        refine jx_step (pc' := 132) rfl ?_
                        refine jv_getI (pc' := 135) (c := 9) (k := 2) (v := (iI ((k : Nat) : Int))) rfl rfl rfl (fun _ _ => rfl) rfl rfl h2 ?_
                        refine jv_iconst (pc' := 136) (n := 1) rfl rfl ?_
                        refine jv_iadd (pc' := 137) (a := ((k : Nat) : Int)) (b := 1) rfl rfl ?_
                        refine jv_putI (pc' := 140) (c := 9) (k := 2) rfl rfl rfl rfl (fun _ _ _  => rfl) rfl rfl ?_
                        refine jv_iinc (pc' := 143) (k := 2) (a := ((k : Nat) : Int)) rfl rfl hf2 rfl (Or.inr (congrArg jm_lng hf1)) ?_
                        refine jx_step (pc' := 84) rfl ?_
                        exact ih (k + 1) (q + 1 + nd c (q + 1)) (jm_u (jm_u (jm_u (jm_u (jm_u I1 96 1 (iI ((q + 1 : Nat) : Int))) 96 2 (iI (nv c (q + 1)))) 96 1 (iI ((q + 1 + nd c (q + 1) : Nat) : Int))) 97 (((k : Nat) : Int) : Int).toNat (iI (nv c (q + 1)))) 95 2 (iI (((k : Nat) : Int) + 1))) (fun i => if i = k then nv c (q + 1) else Nf i) (by omega) (by omega) (by omega) (fr_u (by simp [wF0]) (fr_u (by simp [wF0]) (fr_u (by simp [wF0]) (fr_u (by simp [wF0]) (fr_u (by simp [wF0]) hf))))) rfl rfl h3 (fun i hi => by
                              by_cases e : i = k
                              · subst e; rw [if_pos rfl]; exact ⟨(jm_u_n2 (by omega)).trans (jm_u_eq ⟨rfl, by omega⟩), by omega⟩
                              · rw [if_neg e]; exact ⟨(jm_u_n2 (by omega)).trans ((jm_u_n2 (by omega)).trans ((jm_u_n2 (by omega)).trans ((jm_u_n2 (by omega)).trans (by first | exact (hN i (by omega)).1 | exact (jm_u_n2 (by omega)).trans (hN i (by omega)).1)))), (hN i (by omega)).2⟩) (by first | (rcases hq0 with ⟨e0, e1⟩ | e0; subst e0; subst e1; exact RCJ_0 (Nf := Nf) (by assumption) (if_pos rfl); omega) | exact RCJ_s hJ (by omega) (by omega) (by assumption) (by assumption) (if_pos rfl) (fun i hi => if_neg (by omega))) _ hf0 hf1 rfl 
                      · skip
                        exact absurd hz_98 (by decide)
                    · skip
                      refine jv_call (pc' := 112) rfl (cl_takeNumber_qn (I := jm_u I1 96 1 (iI ((q + 1 : Nat) : Int))) (a := q + 1) hl C93 rfl hp (by omega) (by omega) hk96) (fun vq99 gq99 q99 => ?_)
                      obtain ⟨rfl, rfl⟩ := q99
                      show jx L xs _ 91 112 _ [.int (iI 0)] _ _
                      refine jv_if_ne (t := 117) (pc' := 115) (a := 0) rfl rfl rfl (by omega) (fun hz_100 => ?_) (fun hz_100 => ?_)
                      · skip
                        exact absurd hz_100 (by decide)
                      · skip
                        refine jv_iconst (pc' := 116) (n := 0) rfl rfl ?_
                        refine jv_retZ rfl rfl (by first | exact Or.inl rfl | exact Or.inr rfl) ⟨_, _, rfl, ?_⟩
                        first
                        | (exfalso; omega)
                        | (obtain ⟨e1, e2⟩ := RCJ_f hm hJ (by omega) (by omega) (by assumption) (by assumption)
                           exact ⟨_, rfl, (fr_u (by simp [wF0]) (fr_u (by simp [wF0]) (fr_u (by simp [wF0]) hf))), by rw [e2]; exact rfl, Or.inr ⟨e1, rfl⟩⟩)
                        | (have hq : q = a + 1 := by unfold RCJ at hJ; omega
                           subst hq
                           obtain ⟨e1, e2⟩ := RCJ_f0 hm (by assumption)
                           exact ⟨_, rfl, (fr_u (by simp [wF0]) (fr_u (by simp [wF0]) (fr_u (by simp [wF0]) hf))), by rw [e2]; exact rfl, Or.inr ⟨e1, rfl⟩⟩)
                · skip
                  refine jv_call (pc' := 102) rfl (cl_take_n_q (I := I1) (a := q) hl C1 hq hp (by omega) (x := 44) (by omega) hk90) (fun vq101 gq101 q101 => ?_)
                  obtain ⟨rfl, rfl⟩ := q101
                  show jx L xs _ 91 102 _ [.int (iI 0)] _ _
                  refine jv_if_eq (t := 146) (pc' := 105) (a := 0) rfl rfl rfl (by omega) (fun hz_102 => ?_) (fun hz_102 => ?_)
                  · skip
                    refine jv_iconst (pc' := 147) (n := 1) rfl rfl ?_
                    refine jv_retZ rfl rfl (by first | exact Or.inl rfl | exact Or.inr rfl) ⟨_, _, rfl, ?_⟩
                    first
                    | (exfalso; omega)
                    | (obtain ⟨e1, e2, e3, e4⟩ := RCJ_e hm hJ (by omega) (by omega)
                       exact ⟨_, rfl, hf, by rw [e2]; exact hq, Or.inl ⟨e1, rfl, k, Nf, h2, h3, by omega, fun _ => hm, hN, ⟨fun z => by omega, fun z => absurd z e3⟩, e4⟩⟩)
                  · skip
                    exact absurd hz_102 (by decide)
        exact H79 _ 0 (a + 1) (jm_u (jm_u (jm_u I 95 3 (iI (c (a)))) 95 2 (iI 0)) 96 1 (iI (((a : Nat) : Int) + 1))) (fun _ => 0) (Nat.lt_succ_self _) (by omega) (by omega) (fr_u (by simp [wF0]) (fr_u (by simp [wF0]) (fr_u (by simp [wF0]) (fr_r _)))) rfl rfl rfl (fun i hi => absurd hi (by omega)) (Or.inl ⟨rfl, rfl⟩) _ rfl rfl rfl 
    · skip
      refine jv_aload_n (pc' := 35) (k := 0) (x := 95) rfl rfl rfl rfl ?_
      refine jv_getI (pc' := 38) (c := 9) (k := 3) (v := (iI (c (a)))) rfl rfl rfl (fun _ _ => rfl) rfl rfl rfl ?_
      refine jv_bipush (pc' := 40) (n := 62) rfl rfl rfl ?_
      refine jv_ic_eq (t := 54) (pc' := 43) (a := (c (a))) (b := 62) rfl rfl rfl (by omega) (fun hz_103 => ?_) (fun hz_103 => ?_)
      · skip
        refine jv_aload_n (pc' := 55) (k := 0) (x := 95) rfl rfl rfl rfl ?_
        refine jv_getR (pc' := 58) (c := 9) (k := 0) (v := 96) rfl rfl rfl (fun _ _ => rfl) rfl rfl (jR_95_0 _) ?_
        refine jx_step (pc' := 59) rfl ?_
        refine jv_getI (pc' := 62) (c := 4) (k := 1) (v := (iI ((a : Nat) : Int))) rfl rfl rfl (fun _ _ => rfl) rfl rfl ha ?_
        refine jv_iconst (pc' := 63) (n := 1) rfl rfl ?_
        refine jv_iadd (pc' := 64) (a := ((a : Nat) : Int)) (b := 1) rfl rfl ?_
        refine jv_putI (pc' := 67) (c := 4) (k := 1) rfl rfl rfl rfl (fun _ _ _  => rfl) rfl rfl ?_
        refine jv_aload_n (pc' := 68) (k := 0) (x := 95) rfl rfl rfl rfl ?_
        refine jv_getI (pc' := 71) (c := 9) (k := 3) (v := (iI (c (a)))) rfl rfl rfl (fun _ _ => rfl) rfl rfl rfl ?_
        refine jv_bipush (pc' := 73) (n := 61) rfl rfl rfl ?_
        refine jv_ic_ne (t := 80) (pc' := 76) (a := (c (a))) (b := 61) rfl rfl rfl (by omega) (fun hz_104 => ?_) (fun hz_104 => ?_)
        · skip
          refine jv_iconst (pc' := 81) (n := 1) rfl rfl ?_
          refine jv_istore_n (pc' := 82) (k := 1) (x := (iI 1)) rfl rfl rfl rfl (Or.inr rfl) ?_
          refine jv_iconst (pc' := 83) (n := 0) rfl rfl ?_
          refine jv_istore_n (pc' := 84) (k := 2) (x := (iI 0)) rfl rfl rfl rfl (Or.inr rfl) ?_
          have hm : cm (c a) := by unfold cm; omega
          have hmo : mo (c a) = 3 ∧ c a = 61 ∨ mo (c a) = 0 ∧ c a ≠ 61 := by unfold mo; split <;> omega
          have H105 : ∀ (N : Nat) (k : Nat) (q : Nat) (I1 : Nat → Nat → Int32) (Nf : Nat → Int), 4 - k < N → (k ≤ 4) → (q ≤ n) → (fr wF0 I I1) → (I1 96 1 = iI ((q : Nat) : Int)) → (I1 95 2 = iI (k : Int)) → (I1 95 3 = iI (c a)) → (∀ i, i < k → I1 97 i = iI (Nf i) ∧ 0 ≤ Nf i ∧ Nf i < 1000000) → (RCJ c a k q Nf) → ∀ f : jm_F, f 0 = some (.ref 95) → f 1 = some (.int (iI 1)) → f 2 = some (.int (iI ((k : Nat) : Int))) → jx L xs ((d + 2)) 91 84 f [] (jx_G j I1 M p) (fun z => ∃ v g1, z = (.inl v, g1) ∧ (fun v g1 => ∃ I', g1 = jx_G j I' M p ∧ fr wF0 I I' ∧ I' 96 1 = iI ((cA c a : Nat) : Int) ∧ ((cO c a ∧ v = some (.int (iI 1)) ∧ ∃ (cnt : Nat) (Nf : Nat → Int), I' 95 2 = iI (cnt : Int) ∧ I' 95 3 = iI (c a) ∧ cnt ≤ 4 ∧ (0 < cnt → cm (c a)) ∧ (∀ i, i < cnt → I' 97 i = iI (Nf i) ∧ 0 ≤ Nf i ∧ Nf i < 1000000) ∧ (cnt = 0 ↔ cN c a = []) ∧ (∀ P : Int → Prop, ((∃ x, x ∈ cN c a ∧ P x) ↔ ∃ i, i < cnt ∧ P (Nf i)))) ∨ (¬ cO c a ∧ v = some (.int (iI 0))))) v g1) := by
            intro N
            induction N with
            | zero => intro k q I1 Nf hN; exact absurd hN (Nat.not_lt_zero _)
            | succ N ih =>
              intro k q I1 Nf hN hk4 hqn hf hq h2 h3 hN hJ f hf0 hf1 hf2 
              refine jv_iload_n (pc' := 85) (k := 2) (x := (iI ((k : Nat) : Int))) rfl rfl rfl hf2 ?_
              have hq0 : (k = 0 ∧ q = a + 1) ∨ (0 < k ∧ k ≤ mo (c a) + 1) := by
                rcases hJ with z | z
                · exact Or.inl z
                · exact Or.inr ⟨z.1, z.2.1⟩
              have C1 : CT I1 t c n := CT_fr (W := wF0) (I := I) (t := t) (c := c) (n := n) hC hf (by unfold wF0; omega) (by intro k; unfold wF0; omega)
              refine jv_iload_n (pc' := 86) (k := 1) (x := (iI 1)) rfl rfl rfl hf1 ?_
              refine jv_ic_ge (t := 146) (pc' := 89) (a := ((k : Nat) : Int)) (b := 1) rfl rfl rfl (by omega) (fun hz_106 => ?_) (fun hz_106 => ?_)
              · skip
                refine jv_iconst (pc' := 147) (n := 1) rfl rfl ?_
                refine jv_retZ rfl rfl (by first | exact Or.inl rfl | exact Or.inr rfl) ⟨_, _, rfl, ?_⟩
                first
                | (exfalso; omega)
                | (obtain ⟨e1, e2, e3, e4⟩ := RCJ_e hm hJ (by omega) (by omega)
                   exact ⟨_, rfl, hf, by rw [e2]; exact hq, Or.inl ⟨e1, rfl, k, Nf, h2, h3, by omega, fun _ => hm, hN, ⟨fun z => by omega, fun z => absurd z e3⟩, e4⟩⟩)
              · skip
                refine jv_iload_n (pc' := 90) (k := 2) (x := (iI ((k : Nat) : Int))) rfl rfl rfl hf2 ?_
                refine jv_if_eq (t := 105) (pc' := 93) (a := ((k : Nat) : Int)) rfl rfl rfl (by omega) (fun hz_107 => ?_) (fun hz_107 => ?_)
                · skip
                  refine jv_aload_n (pc' := 106) (k := 0) (x := 95) rfl rfl rfl hf0 ?_
                  refine jv_getR (pc' := 109) (c := 9) (k := 0) (v := 96) rfl rfl rfl (fun _ _ => rfl) rfl rfl (jR_95_0 _) ?_
                  have hm108 := CT_c C1 (q)
                  have ho108 := CT_or C1 (q)
                  have := nd_le c (q)
                  have := nv_b c (q)
                  have hnd109 := nd_in C1.2.2.2.2 (a := q) (by omega)
                  by_cases hk110 : 0 < nd c (q)
                  · skip
                    refine jv_call (pc' := 112) rfl (cl_takeNumber_qy (I := I1) (a := q) hl C1 hq hp (by omega) (by omega) hk110) (fun vq111 gq111 q111 => ?_)
                    obtain ⟨rfl, rfl⟩ := q111
                    show jx L xs _ 91 112 _ [.int (iI 1)] _ _
                    refine jv_if_ne (t := 117) (pc' := 115) (a := 1) rfl rfl rfl (by omega) (fun hz_112 => ?_) (fun hz_112 => ?_)
                    · skip
                      refine jv_aload_n (pc' := 118) (k := 0) (x := 95) rfl rfl rfl hf0 ?_
                      refine jv_getR (pc' := 121) (c := 9) (k := 1) (v := 97) rfl rfl rfl (fun _ _ => rfl) rfl rfl (jR_95_1 _) ?_
                      refine jv_iload_n (pc' := 122) (k := 2) (x := (iI ((k : Nat) : Int))) rfl rfl rfl hf2 ?_
                      refine jv_aload_n (pc' := 123) (k := 0) (x := 95) rfl rfl rfl hf0 ?_
                      refine jv_getR (pc' := 126) (c := 9) (k := 0) (v := 96) rfl rfl rfl (fun _ _ => rfl) rfl rfl (jR_95_0 _) ?_
                      refine jv_getI (pc' := 129) (c := 4) (k := 2) (v := (iI (nv c (q)))) rfl rfl rfl (fun _ _ => rfl) rfl rfl rfl ?_
                      refine jv_iastore (pc' := 130) (n := 4) (e := ((k : Nat) : Int)) (v := (iI (nv c (q)))) rfl rfl rfl rfl rfl (by omega) ?_
                      refine jv_aload_n (pc' := 131) (k := 0) (x := 95) rfl rfl rfl hf0 ?_
                      refine jx_step (pc' := 132) rfl ?_
                      refine jv_getI (pc' := 135) (c := 9) (k := 2) (v := (iI ((k : Nat) : Int))) rfl rfl rfl (fun _ _ => rfl) rfl rfl h2 ?_
                      refine jv_iconst (pc' := 136) (n := 1) rfl rfl ?_
                      refine jv_iadd (pc' := 137) (a := ((k : Nat) : Int)) (b := 1) rfl rfl ?_
                      refine jv_putI (pc' := 140) (c := 9) (k := 2) rfl rfl rfl rfl (fun _ _ _  => rfl) rfl rfl ?_
                      refine jv_iinc (pc' := 143) (k := 2) (a := ((k : Nat) : Int)) rfl rfl hf2 rfl (Or.inr (congrArg jm_lng hf1)) ?_
                      refine jx_step (pc' := 84) rfl ?_
                      exact ih (k + 1) (q + nd c (q)) (jm_u (jm_u (jm_u (jm_u I1 96 2 (iI (nv c (q)))) 96 1 (iI ((q + nd c (q) : Nat) : Int))) 97 (((k : Nat) : Int) : Int).toNat (iI (nv c (q)))) 95 2 (iI (((k : Nat) : Int) + 1))) (fun i => if i = k then nv c (q) else Nf i) (by omega) (by omega) (by omega) (fr_u (by simp [wF0]) (fr_u (by simp [wF0]) (fr_u (by simp [wF0]) (fr_u (by simp [wF0]) hf)))) rfl rfl h3 (fun i hi => by
                            by_cases e : i = k
                            · subst e; rw [if_pos rfl]; exact ⟨(jm_u_n2 (by omega)).trans (jm_u_eq ⟨rfl, by omega⟩), by omega⟩
                            · rw [if_neg e]; exact ⟨(jm_u_n2 (by omega)).trans ((jm_u_n2 (by omega)).trans ((jm_u_n2 (by omega)).trans ((jm_u_n2 (by omega)).trans (by first | exact (hN i (by omega)).1 | exact (jm_u_n2 (by omega)).trans (hN i (by omega)).1)))), (hN i (by omega)).2⟩) (by first | (rcases hq0 with ⟨e0, e1⟩ | e0; subst e0; subst e1; exact RCJ_0 (Nf := Nf) (by assumption) (if_pos rfl); omega) | exact RCJ_s hJ (by omega) (by omega) (by assumption) (by assumption) (if_pos rfl) (fun i hi => if_neg (by omega))) _ hf0 hf1 rfl 
                    · skip
                      exact absurd hz_112 (by decide)
                  · skip
                    refine jv_call (pc' := 112) rfl (cl_takeNumber_qn (I := I1) (a := q) hl C1 hq hp (by omega) (by omega) hk110) (fun vq113 gq113 q113 => ?_)
                    obtain ⟨rfl, rfl⟩ := q113
                    show jx L xs _ 91 112 _ [.int (iI 0)] _ _
                    refine jv_if_ne (t := 117) (pc' := 115) (a := 0) rfl rfl rfl (by omega) (fun hz_114 => ?_) (fun hz_114 => ?_)
                    · skip
                      exact absurd hz_114 (by decide)
                    · skip
                      refine jv_iconst (pc' := 116) (n := 0) rfl rfl ?_
                      refine jv_retZ rfl rfl (by first | exact Or.inl rfl | exact Or.inr rfl) ⟨_, _, rfl, ?_⟩
                      first
                      | (exfalso; omega)
                      | (obtain ⟨e1, e2⟩ := RCJ_f hm hJ (by omega) (by omega) (by assumption) (by assumption)
                         exact ⟨_, rfl, (fr_u (by simp [wF0]) (fr_u (by simp [wF0]) hf)), by rw [e2]; exact rfl, Or.inr ⟨e1, rfl⟩⟩)
                      | (have hq : q = a + 1 := by unfold RCJ at hJ; omega
                         subst hq
                         obtain ⟨e1, e2⟩ := RCJ_f0 hm (by assumption)
                         exact ⟨_, rfl, (fr_u (by simp [wF0]) (fr_u (by simp [wF0]) hf)), by rw [e2]; exact rfl, Or.inr ⟨e1, rfl⟩⟩)
                · skip
                  refine jv_aload_n (pc' := 94) (k := 0) (x := 95) rfl rfl rfl hf0 ?_
                  refine jv_getR (pc' := 97) (c := 9) (k := 0) (v := 96) rfl rfl rfl (fun _ _ => rfl) rfl rfl (jR_95_0 _) ?_
                  refine jv_bipush (pc' := 99) (n := 44) rfl rfl rfl ?_
                  have hm115 := CT_c C1 (q)
                  have ho115 := CT_or C1 (q)
                  by_cases hk116 : c (q) = 44
                  · skip
                    refine jv_call (pc' := 102) rfl (cl_take_y_q (I := I1) (a := q) hl C1 hq hp (by omega) (x := 44) (by omega) hk116) (fun vq117 gq117 q117 => ?_)
                    obtain ⟨rfl, rfl⟩ := q117
                    show jx L xs _ 91 102 _ [.int (iI 1)] _ _
                    refine jv_if_eq (t := 146) (pc' := 105) (a := 1) rfl rfl rfl (by omega) (fun hz_118 => ?_) (fun hz_118 => ?_)
                    · skip
                      exact absurd hz_118 (by decide)
                    · skip
                      refine jv_aload_n (pc' := 106) (k := 0) (x := 95) rfl rfl rfl hf0 ?_
                      refine jv_getR (pc' := 109) (c := 9) (k := 0) (v := 96) rfl rfl rfl (fun _ _ => rfl) rfl rfl (jR_95_0 _) ?_
                      have C119 : CT (jm_u I1 96 1 (iI ((q + 1 : Nat) : Int))) t c n := CT_fr (W := wF) (I := I1) (t := t) (c := c) (n := n) C1 (fr_u (by simp [wF]) (fr_r _)) (by unfold wF; omega) (by intro k; unfold wF; omega)
                      have hm120 := CT_c C119 (q + 1)
                      have ho120 := CT_or C119 (q + 1)
                      have := nd_le c (q + 1)
                      have := nv_b c (q + 1)
                      have hnd121 := nd_in C119.2.2.2.2 (a := q + 1) (by omega)
                      by_cases hk122 : 0 < nd c (q + 1)
                      · skip
                        refine jv_call (pc' := 112) rfl (cl_takeNumber_qy (I := jm_u I1 96 1 (iI ((q + 1 : Nat) : Int))) (a := q + 1) hl C119 rfl hp (by omega) (by omega) hk122) (fun vq123 gq123 q123 => ?_)
                        obtain ⟨rfl, rfl⟩ := q123
                        show jx L xs _ 91 112 _ [.int (iI 1)] _ _
                        refine jv_if_ne (t := 117) (pc' := 115) (a := 1) rfl rfl rfl (by omega) (fun hz_124 => ?_) (fun hz_124 => ?_)
                        · skip
                          refine jv_aload_n (pc' := 118) (k := 0) (x := 95) rfl rfl rfl hf0 ?_
                          refine jv_getR (pc' := 121) (c := 9) (k := 1) (v := 97) rfl rfl rfl (fun _ _ => rfl) rfl rfl (jR_95_1 _) ?_
                          refine jv_iload_n (pc' := 122) (k := 2) (x := (iI ((k : Nat) : Int))) rfl rfl rfl hf2 ?_
                          refine jv_aload_n (pc' := 123) (k := 0) (x := 95) rfl rfl rfl hf0 ?_
                          refine jv_getR (pc' := 126) (c := 9) (k := 0) (v := 96) rfl rfl rfl (fun _ _ => rfl) rfl rfl (jR_95_0 _) ?_
                          refine jv_getI (pc' := 129) (c := 4) (k := 2) (v := (iI (nv c (q + 1)))) rfl rfl rfl (fun _ _ => rfl) rfl rfl rfl ?_
                          refine jv_iastore (pc' := 130) (n := 4) (e := ((k : Nat) : Int)) (v := (iI (nv c (q + 1)))) rfl rfl rfl rfl rfl (by omega) ?_
                          refine jv_aload_n (pc' := 131) (k := 0) (x := 95) rfl rfl rfl hf0 ?_
                          refine jx_step (pc' := 132) rfl ?_
                          refine jv_getI (pc' := 135) (c := 9) (k := 2) (v := (iI ((k : Nat) : Int))) rfl rfl rfl (fun _ _ => rfl) rfl rfl h2 ?_
                          refine jv_iconst (pc' := 136) (n := 1) rfl rfl ?_
                          refine jv_iadd (pc' := 137) (a := ((k : Nat) : Int)) (b := 1) rfl rfl ?_
                          refine jv_putI (pc' := 140) (c := 9) (k := 2) rfl rfl rfl rfl (fun _ _ _  => rfl) rfl rfl ?_
                          refine jv_iinc (pc' := 143) (k := 2) (a := ((k : Nat) : Int)) rfl rfl hf2 rfl (Or.inr (congrArg jm_lng hf1)) ?_
                          refine jx_step (pc' := 84) rfl ?_
                          exact ih (k + 1) (q + 1 + nd c (q + 1)) (jm_u (jm_u (jm_u (jm_u (jm_u I1 96 1 (iI ((q + 1 : Nat) : Int))) 96 2 (iI (nv c (q + 1)))) 96 1 (iI ((q + 1 + nd c (q + 1) : Nat) : Int))) 97 (((k : Nat) : Int) : Int).toNat (iI (nv c (q + 1)))) 95 2 (iI (((k : Nat) : Int) + 1))) (fun i => if i = k then nv c (q + 1) else Nf i) (by omega) (by omega) (by omega) (fr_u (by simp [wF0]) (fr_u (by simp [wF0]) (fr_u (by simp [wF0]) (fr_u (by simp [wF0]) (fr_u (by simp [wF0]) hf))))) rfl rfl h3 (fun i hi => by
                                by_cases e : i = k
                                · subst e; rw [if_pos rfl]; exact ⟨(jm_u_n2 (by omega)).trans (jm_u_eq ⟨rfl, by omega⟩), by omega⟩
                                · rw [if_neg e]; exact ⟨(jm_u_n2 (by omega)).trans ((jm_u_n2 (by omega)).trans ((jm_u_n2 (by omega)).trans ((jm_u_n2 (by omega)).trans (by first | exact (hN i (by omega)).1 | exact (jm_u_n2 (by omega)).trans (hN i (by omega)).1)))), (hN i (by omega)).2⟩) (by first | (rcases hq0 with ⟨e0, e1⟩ | e0; subst e0; subst e1; exact RCJ_0 (Nf := Nf) (by assumption) (if_pos rfl); omega) | exact RCJ_s hJ (by omega) (by omega) (by assumption) (by assumption) (if_pos rfl) (fun i hi => if_neg (by omega))) _ hf0 hf1 rfl 
                        · skip
                          exact absurd hz_124 (by decide)
                      · skip
                        refine jv_call (pc' := 112) rfl (cl_takeNumber_qn (I := jm_u I1 96 1 (iI ((q + 1 : Nat) : Int))) (a := q + 1) hl C119 rfl hp (by omega) (by omega) hk122) (fun vq125 gq125 q125 => ?_)
                        obtain ⟨rfl, rfl⟩ := q125
                        show jx L xs _ 91 112 _ [.int (iI 0)] _ _
                        refine jv_if_ne (t := 117) (pc' := 115) (a := 0) rfl rfl rfl (by omega) (fun hz_126 => ?_) (fun hz_126 => ?_)
                        · skip
                          exact absurd hz_126 (by decide)
                        · skip
                          refine jv_iconst (pc' := 116) (n := 0) rfl rfl ?_
                          refine jv_retZ rfl rfl (by first | exact Or.inl rfl | exact Or.inr rfl) ⟨_, _, rfl, ?_⟩
                          first
                          | (exfalso; omega)
                          | (obtain ⟨e1, e2⟩ := RCJ_f hm hJ (by omega) (by omega) (by assumption) (by assumption)
                             exact ⟨_, rfl, (fr_u (by simp [wF0]) (fr_u (by simp [wF0]) (fr_u (by simp [wF0]) hf))), by rw [e2]; exact rfl, Or.inr ⟨e1, rfl⟩⟩)
                          | (have hq : q = a + 1 := by unfold RCJ at hJ; omega
                             subst hq
                             obtain ⟨e1, e2⟩ := RCJ_f0 hm (by assumption)
                             exact ⟨_, rfl, (fr_u (by simp [wF0]) (fr_u (by simp [wF0]) (fr_u (by simp [wF0]) hf))), by rw [e2]; exact rfl, Or.inr ⟨e1, rfl⟩⟩)
                  · skip
                    refine jv_call (pc' := 102) rfl (cl_take_n_q (I := I1) (a := q) hl C1 hq hp (by omega) (x := 44) (by omega) hk116) (fun vq127 gq127 q127 => ?_)
                    obtain ⟨rfl, rfl⟩ := q127
                    show jx L xs _ 91 102 _ [.int (iI 0)] _ _
                    refine jv_if_eq (t := 146) (pc' := 105) (a := 0) rfl rfl rfl (by omega) (fun hz_128 => ?_) (fun hz_128 => ?_)
                    · skip
                      refine jv_iconst (pc' := 147) (n := 1) rfl rfl ?_
                      refine jv_retZ rfl rfl (by first | exact Or.inl rfl | exact Or.inr rfl) ⟨_, _, rfl, ?_⟩
                      first
                      | (exfalso; omega)
                      | (obtain ⟨e1, e2, e3, e4⟩ := RCJ_e hm hJ (by omega) (by omega)
                         exact ⟨_, rfl, hf, by rw [e2]; exact hq, Or.inl ⟨e1, rfl, k, Nf, h2, h3, by omega, fun _ => hm, hN, ⟨fun z => by omega, fun z => absurd z e3⟩, e4⟩⟩)
                    · skip
                      exact absurd hz_128 (by decide)
          exact H105 _ 0 (a + 1) (jm_u (jm_u (jm_u I 95 3 (iI (c (a)))) 95 2 (iI 0)) 96 1 (iI (((a : Nat) : Int) + 1))) (fun _ => 0) (Nat.lt_succ_self _) (by omega) (by omega) (fr_u (by simp [wF0]) (fr_u (by simp [wF0]) (fr_u (by simp [wF0]) (fr_r _)))) rfl rfl rfl (fun i hi => absurd hi (by omega)) (Or.inl ⟨rfl, rfl⟩) _ rfl rfl rfl 
        · skip
          refine jv_iconst (pc' := 77) (n := 4) rfl rfl ?_
          refine jx_step (pc' := 81) rfl ?_
          refine jv_istore_n (pc' := 82) (k := 1) (x := (iI 4)) rfl rfl rfl rfl (Or.inr rfl) ?_
          refine jv_iconst (pc' := 83) (n := 0) rfl rfl ?_
          refine jv_istore_n (pc' := 84) (k := 2) (x := (iI 0)) rfl rfl rfl rfl (Or.inr rfl) ?_
          have hm : cm (c a) := by unfold cm; omega
          have hmo : mo (c a) = 3 ∧ c a = 61 ∨ mo (c a) = 0 ∧ c a ≠ 61 := by unfold mo; split <;> omega
          have H129 : ∀ (N : Nat) (k : Nat) (q : Nat) (I1 : Nat → Nat → Int32) (Nf : Nat → Int), 4 - k < N → (k ≤ 4) → (q ≤ n) → (fr wF0 I I1) → (I1 96 1 = iI ((q : Nat) : Int)) → (I1 95 2 = iI (k : Int)) → (I1 95 3 = iI (c a)) → (∀ i, i < k → I1 97 i = iI (Nf i) ∧ 0 ≤ Nf i ∧ Nf i < 1000000) → (RCJ c a k q Nf) → ∀ f : jm_F, f 0 = some (.ref 95) → f 1 = some (.int (iI 4)) → f 2 = some (.int (iI ((k : Nat) : Int))) → jx L xs ((d + 2)) 91 84 f [] (jx_G j I1 M p) (fun z => ∃ v g1, z = (.inl v, g1) ∧ (fun v g1 => ∃ I', g1 = jx_G j I' M p ∧ fr wF0 I I' ∧ I' 96 1 = iI ((cA c a : Nat) : Int) ∧ ((cO c a ∧ v = some (.int (iI 1)) ∧ ∃ (cnt : Nat) (Nf : Nat → Int), I' 95 2 = iI (cnt : Int) ∧ I' 95 3 = iI (c a) ∧ cnt ≤ 4 ∧ (0 < cnt → cm (c a)) ∧ (∀ i, i < cnt → I' 97 i = iI (Nf i) ∧ 0 ≤ Nf i ∧ Nf i < 1000000) ∧ (cnt = 0 ↔ cN c a = []) ∧ (∀ P : Int → Prop, ((∃ x, x ∈ cN c a ∧ P x) ↔ ∃ i, i < cnt ∧ P (Nf i)))) ∨ (¬ cO c a ∧ v = some (.int (iI 0))))) v g1) := by
            intro N
            induction N with
            | zero => intro k q I1 Nf hN; exact absurd hN (Nat.not_lt_zero _)
            | succ N ih =>
              intro k q I1 Nf hN hk4 hqn hf hq h2 h3 hN hJ f hf0 hf1 hf2 
              refine jv_iload_n (pc' := 85) (k := 2) (x := (iI ((k : Nat) : Int))) rfl rfl rfl hf2 ?_
              have hq0 : (k = 0 ∧ q = a + 1) ∨ (0 < k ∧ k ≤ mo (c a) + 1) := by
                rcases hJ with z | z
                · exact Or.inl z
                · exact Or.inr ⟨z.1, z.2.1⟩
              have C1 : CT I1 t c n := CT_fr (W := wF0) (I := I) (t := t) (c := c) (n := n) hC hf (by unfold wF0; omega) (by intro k; unfold wF0; omega)
              refine jv_iload_n (pc' := 86) (k := 1) (x := (iI 4)) rfl rfl rfl hf1 ?_
              refine jv_ic_ge (t := 146) (pc' := 89) (a := ((k : Nat) : Int)) (b := 4) rfl rfl rfl (by omega) (fun hz_130 => ?_) (fun hz_130 => ?_)
              · skip
                refine jv_iconst (pc' := 147) (n := 1) rfl rfl ?_
                refine jv_retZ rfl rfl (by first | exact Or.inl rfl | exact Or.inr rfl) ⟨_, _, rfl, ?_⟩
                first
                | (exfalso; omega)
                | (obtain ⟨e1, e2, e3, e4⟩ := RCJ_e hm hJ (by omega) (by omega)
                   exact ⟨_, rfl, hf, by rw [e2]; exact hq, Or.inl ⟨e1, rfl, k, Nf, h2, h3, by omega, fun _ => hm, hN, ⟨fun z => by omega, fun z => absurd z e3⟩, e4⟩⟩)
              · skip
                refine jv_iload_n (pc' := 90) (k := 2) (x := (iI ((k : Nat) : Int))) rfl rfl rfl hf2 ?_
                refine jv_if_eq (t := 105) (pc' := 93) (a := ((k : Nat) : Int)) rfl rfl rfl (by omega) (fun hz_131 => ?_) (fun hz_131 => ?_)
                · skip
                  refine jv_aload_n (pc' := 106) (k := 0) (x := 95) rfl rfl rfl hf0 ?_
                  refine jv_getR (pc' := 109) (c := 9) (k := 0) (v := 96) rfl rfl rfl (fun _ _ => rfl) rfl rfl (jR_95_0 _) ?_
                  have hm132 := CT_c C1 (q)
                  have ho132 := CT_or C1 (q)
                  have := nd_le c (q)
                  have := nv_b c (q)
                  have hnd133 := nd_in C1.2.2.2.2 (a := q) (by omega)
                  by_cases hk134 : 0 < nd c (q)
                  · skip
                    refine jv_call (pc' := 112) rfl (cl_takeNumber_qy (I := I1) (a := q) hl C1 hq hp (by omega) (by omega) hk134) (fun vq135 gq135 q135 => ?_)
                    obtain ⟨rfl, rfl⟩ := q135
                    show jx L xs _ 91 112 _ [.int (iI 1)] _ _
                    refine jv_if_ne (t := 117) (pc' := 115) (a := 1) rfl rfl rfl (by omega) (fun hz_136 => ?_) (fun hz_136 => ?_)
                    · skip
                      refine jv_aload_n (pc' := 118) (k := 0) (x := 95) rfl rfl rfl hf0 ?_
                      refine jv_getR (pc' := 121) (c := 9) (k := 1) (v := 97) rfl rfl rfl (fun _ _ => rfl) rfl rfl (jR_95_1 _) ?_
                      refine jv_iload_n (pc' := 122) (k := 2) (x := (iI ((k : Nat) : Int))) rfl rfl rfl hf2 ?_
                      refine jv_aload_n (pc' := 123) (k := 0) (x := 95) rfl rfl rfl hf0 ?_
                      refine jv_getR (pc' := 126) (c := 9) (k := 0) (v := 96) rfl rfl rfl (fun _ _ => rfl) rfl rfl (jR_95_0 _) ?_
                      refine jv_getI (pc' := 129) (c := 4) (k := 2) (v := (iI (nv c (q)))) rfl rfl rfl (fun _ _ => rfl) rfl rfl rfl ?_
                      refine jv_iastore (pc' := 130) (n := 4) (e := ((k : Nat) : Int)) (v := (iI (nv c (q)))) rfl rfl rfl rfl rfl (by omega) ?_
                      refine jv_aload_n (pc' := 131) (k := 0) (x := 95) rfl rfl rfl hf0 ?_
                      refine jx_step (pc' := 132) rfl ?_
                      refine jv_getI (pc' := 135) (c := 9) (k := 2) (v := (iI ((k : Nat) : Int))) rfl rfl rfl (fun _ _ => rfl) rfl rfl h2 ?_
                      refine jv_iconst (pc' := 136) (n := 1) rfl rfl ?_
                      refine jv_iadd (pc' := 137) (a := ((k : Nat) : Int)) (b := 1) rfl rfl ?_
                      refine jv_putI (pc' := 140) (c := 9) (k := 2) rfl rfl rfl rfl (fun _ _ _  => rfl) rfl rfl ?_
                      refine jv_iinc (pc' := 143) (k := 2) (a := ((k : Nat) : Int)) rfl rfl hf2 rfl (Or.inr (congrArg jm_lng hf1)) ?_
                      refine jx_step (pc' := 84) rfl ?_
                      exact ih (k + 1) (q + nd c (q)) (jm_u (jm_u (jm_u (jm_u I1 96 2 (iI (nv c (q)))) 96 1 (iI ((q + nd c (q) : Nat) : Int))) 97 (((k : Nat) : Int) : Int).toNat (iI (nv c (q)))) 95 2 (iI (((k : Nat) : Int) + 1))) (fun i => if i = k then nv c (q) else Nf i) (by omega) (by omega) (by omega) (fr_u (by simp [wF0]) (fr_u (by simp [wF0]) (fr_u (by simp [wF0]) (fr_u (by simp [wF0]) hf)))) rfl rfl h3 (fun i hi => by
                            by_cases e : i = k
                            · subst e; rw [if_pos rfl]; exact ⟨(jm_u_n2 (by omega)).trans (jm_u_eq ⟨rfl, by omega⟩), by omega⟩
                            · rw [if_neg e]; exact ⟨(jm_u_n2 (by omega)).trans ((jm_u_n2 (by omega)).trans ((jm_u_n2 (by omega)).trans ((jm_u_n2 (by omega)).trans (by first | exact (hN i (by omega)).1 | exact (jm_u_n2 (by omega)).trans (hN i (by omega)).1)))), (hN i (by omega)).2⟩) (by first | (rcases hq0 with ⟨e0, e1⟩ | e0; subst e0; subst e1; exact RCJ_0 (Nf := Nf) (by assumption) (if_pos rfl); omega) | exact RCJ_s hJ (by omega) (by omega) (by assumption) (by assumption) (if_pos rfl) (fun i hi => if_neg (by omega))) _ hf0 hf1 rfl 
                    · skip
                      exact absurd hz_136 (by decide)
                  · skip
                    refine jv_call (pc' := 112) rfl (cl_takeNumber_qn (I := I1) (a := q) hl C1 hq hp (by omega) (by omega) hk134) (fun vq137 gq137 q137 => ?_)
                    obtain ⟨rfl, rfl⟩ := q137
                    show jx L xs _ 91 112 _ [.int (iI 0)] _ _
                    refine jv_if_ne (t := 117) (pc' := 115) (a := 0) rfl rfl rfl (by omega) (fun hz_138 => ?_) (fun hz_138 => ?_)
                    · skip
                      exact absurd hz_138 (by decide)
                    · skip
                      refine jv_iconst (pc' := 116) (n := 0) rfl rfl ?_
                      refine jv_retZ rfl rfl (by first | exact Or.inl rfl | exact Or.inr rfl) ⟨_, _, rfl, ?_⟩
                      first
                      | (exfalso; omega)
                      | (obtain ⟨e1, e2⟩ := RCJ_f hm hJ (by omega) (by omega) (by assumption) (by assumption)
                         exact ⟨_, rfl, (fr_u (by simp [wF0]) (fr_u (by simp [wF0]) hf)), by rw [e2]; exact rfl, Or.inr ⟨e1, rfl⟩⟩)
                      | (have hq : q = a + 1 := by unfold RCJ at hJ; omega
                         subst hq
                         obtain ⟨e1, e2⟩ := RCJ_f0 hm (by assumption)
                         exact ⟨_, rfl, (fr_u (by simp [wF0]) (fr_u (by simp [wF0]) hf)), by rw [e2]; exact rfl, Or.inr ⟨e1, rfl⟩⟩)
                · skip
                  refine jv_aload_n (pc' := 94) (k := 0) (x := 95) rfl rfl rfl hf0 ?_
                  refine jv_getR (pc' := 97) (c := 9) (k := 0) (v := 96) rfl rfl rfl (fun _ _ => rfl) rfl rfl (jR_95_0 _) ?_
                  refine jv_bipush (pc' := 99) (n := 44) rfl rfl rfl ?_
                  have hm139 := CT_c C1 (q)
                  have ho139 := CT_or C1 (q)
                  by_cases hk140 : c (q) = 44
                  · skip
                    refine jv_call (pc' := 102) rfl (cl_take_y_q (I := I1) (a := q) hl C1 hq hp (by omega) (x := 44) (by omega) hk140) (fun vq141 gq141 q141 => ?_)
                    obtain ⟨rfl, rfl⟩ := q141
                    show jx L xs _ 91 102 _ [.int (iI 1)] _ _
                    refine jv_if_eq (t := 146) (pc' := 105) (a := 1) rfl rfl rfl (by omega) (fun hz_142 => ?_) (fun hz_142 => ?_)
                    · skip
                      exact absurd hz_142 (by decide)
                    · skip
                      refine jv_aload_n (pc' := 106) (k := 0) (x := 95) rfl rfl rfl hf0 ?_
                      refine jv_getR (pc' := 109) (c := 9) (k := 0) (v := 96) rfl rfl rfl (fun _ _ => rfl) rfl rfl (jR_95_0 _) ?_
                      have C143 : CT (jm_u I1 96 1 (iI ((q + 1 : Nat) : Int))) t c n := CT_fr (W := wF) (I := I1) (t := t) (c := c) (n := n) C1 (fr_u (by simp [wF]) (fr_r _)) (by unfold wF; omega) (by intro k; unfold wF; omega)
                      have hm144 := CT_c C143 (q + 1)
                      have ho144 := CT_or C143 (q + 1)
                      have := nd_le c (q + 1)
                      have := nv_b c (q + 1)
                      have hnd145 := nd_in C143.2.2.2.2 (a := q + 1) (by omega)
                      by_cases hk146 : 0 < nd c (q + 1)
                      · skip
                        refine jv_call (pc' := 112) rfl (cl_takeNumber_qy (I := jm_u I1 96 1 (iI ((q + 1 : Nat) : Int))) (a := q + 1) hl C143 rfl hp (by omega) (by omega) hk146) (fun vq147 gq147 q147 => ?_)
                        obtain ⟨rfl, rfl⟩ := q147
                        show jx L xs _ 91 112 _ [.int (iI 1)] _ _
                        refine jv_if_ne (t := 117) (pc' := 115) (a := 1) rfl rfl rfl (by omega) (fun hz_148 => ?_) (fun hz_148 => ?_)
                        · skip
                          refine jv_aload_n (pc' := 118) (k := 0) (x := 95) rfl rfl rfl hf0 ?_
                          refine jv_getR (pc' := 121) (c := 9) (k := 1) (v := 97) rfl rfl rfl (fun _ _ => rfl) rfl rfl (jR_95_1 _) ?_
                          refine jv_iload_n (pc' := 122) (k := 2) (x := (iI ((k : Nat) : Int))) rfl rfl rfl hf2 ?_
                          refine jv_aload_n (pc' := 123) (k := 0) (x := 95) rfl rfl rfl hf0 ?_
                          refine jv_getR (pc' := 126) (c := 9) (k := 0) (v := 96) rfl rfl rfl (fun _ _ => rfl) rfl rfl (jR_95_0 _) ?_
                          refine jv_getI (pc' := 129) (c := 4) (k := 2) (v := (iI (nv c (q + 1)))) rfl rfl rfl (fun _ _ => rfl) rfl rfl rfl ?_
                          refine jv_iastore (pc' := 130) (n := 4) (e := ((k : Nat) : Int)) (v := (iI (nv c (q + 1)))) rfl rfl rfl rfl rfl (by omega) ?_
                          refine jv_aload_n (pc' := 131) (k := 0) (x := 95) rfl rfl rfl hf0 ?_
                          refine jx_step (pc' := 132) rfl ?_
                          refine jv_getI (pc' := 135) (c := 9) (k := 2) (v := (iI ((k : Nat) : Int))) rfl rfl rfl (fun _ _ => rfl) rfl rfl h2 ?_
                          refine jv_iconst (pc' := 136) (n := 1) rfl rfl ?_
                          refine jv_iadd (pc' := 137) (a := ((k : Nat) : Int)) (b := 1) rfl rfl ?_
                          refine jv_putI (pc' := 140) (c := 9) (k := 2) rfl rfl rfl rfl (fun _ _ _  => rfl) rfl rfl ?_
                          refine jv_iinc (pc' := 143) (k := 2) (a := ((k : Nat) : Int)) rfl rfl hf2 rfl (Or.inr (congrArg jm_lng hf1)) ?_
                          refine jx_step (pc' := 84) rfl ?_
                          exact ih (k + 1) (q + 1 + nd c (q + 1)) (jm_u (jm_u (jm_u (jm_u (jm_u I1 96 1 (iI ((q + 1 : Nat) : Int))) 96 2 (iI (nv c (q + 1)))) 96 1 (iI ((q + 1 + nd c (q + 1) : Nat) : Int))) 97 (((k : Nat) : Int) : Int).toNat (iI (nv c (q + 1)))) 95 2 (iI (((k : Nat) : Int) + 1))) (fun i => if i = k then nv c (q + 1) else Nf i) (by omega) (by omega) (by omega) (fr_u (by simp [wF0]) (fr_u (by simp [wF0]) (fr_u (by simp [wF0]) (fr_u (by simp [wF0]) (fr_u (by simp [wF0]) hf))))) rfl rfl h3 (fun i hi => by
                                by_cases e : i = k
                                · subst e; rw [if_pos rfl]; exact ⟨(jm_u_n2 (by omega)).trans (jm_u_eq ⟨rfl, by omega⟩), by omega⟩
                                · rw [if_neg e]; exact ⟨(jm_u_n2 (by omega)).trans ((jm_u_n2 (by omega)).trans ((jm_u_n2 (by omega)).trans ((jm_u_n2 (by omega)).trans (by first | exact (hN i (by omega)).1 | exact (jm_u_n2 (by omega)).trans (hN i (by omega)).1)))), (hN i (by omega)).2⟩) (by first | (rcases hq0 with ⟨e0, e1⟩ | e0; subst e0; subst e1; exact RCJ_0 (Nf := Nf) (by assumption) (if_pos rfl); omega) | exact RCJ_s hJ (by omega) (by omega) (by assumption) (by assumption) (if_pos rfl) (fun i hi => if_neg (by omega))) _ hf0 hf1 rfl 
                        · skip
                          exact absurd hz_148 (by decide)
                      · skip
                        refine jv_call (pc' := 112) rfl (cl_takeNumber_qn (I := jm_u I1 96 1 (iI ((q + 1 : Nat) : Int))) (a := q + 1) hl C143 rfl hp (by omega) (by omega) hk146) (fun vq149 gq149 q149 => ?_)
                        obtain ⟨rfl, rfl⟩ := q149
                        show jx L xs _ 91 112 _ [.int (iI 0)] _ _
                        refine jv_if_ne (t := 117) (pc' := 115) (a := 0) rfl rfl rfl (by omega) (fun hz_150 => ?_) (fun hz_150 => ?_)
                        · skip
                          exact absurd hz_150 (by decide)
                        · skip
                          refine jv_iconst (pc' := 116) (n := 0) rfl rfl ?_
                          refine jv_retZ rfl rfl (by first | exact Or.inl rfl | exact Or.inr rfl) ⟨_, _, rfl, ?_⟩
                          first
                          | (exfalso; omega)
                          | (obtain ⟨e1, e2⟩ := RCJ_f hm hJ (by omega) (by omega) (by assumption) (by assumption)
                             exact ⟨_, rfl, (fr_u (by simp [wF0]) (fr_u (by simp [wF0]) (fr_u (by simp [wF0]) hf))), by rw [e2]; exact rfl, Or.inr ⟨e1, rfl⟩⟩)
                          | (have hq : q = a + 1 := by unfold RCJ at hJ; omega
                             subst hq
                             obtain ⟨e1, e2⟩ := RCJ_f0 hm (by assumption)
                             exact ⟨_, rfl, (fr_u (by simp [wF0]) (fr_u (by simp [wF0]) (fr_u (by simp [wF0]) hf))), by rw [e2]; exact rfl, Or.inr ⟨e1, rfl⟩⟩)
                  · skip
                    refine jv_call (pc' := 102) rfl (cl_take_n_q (I := I1) (a := q) hl C1 hq hp (by omega) (x := 44) (by omega) hk140) (fun vq151 gq151 q151 => ?_)
                    obtain ⟨rfl, rfl⟩ := q151
                    show jx L xs _ 91 102 _ [.int (iI 0)] _ _
                    refine jv_if_eq (t := 146) (pc' := 105) (a := 0) rfl rfl rfl (by omega) (fun hz_152 => ?_) (fun hz_152 => ?_)
                    · skip
                      refine jv_iconst (pc' := 147) (n := 1) rfl rfl ?_
                      refine jv_retZ rfl rfl (by first | exact Or.inl rfl | exact Or.inr rfl) ⟨_, _, rfl, ?_⟩
                      first
                      | (exfalso; omega)
                      | (obtain ⟨e1, e2, e3, e4⟩ := RCJ_e hm hJ (by omega) (by omega)
                         exact ⟨_, rfl, hf, by rw [e2]; exact hq, Or.inl ⟨e1, rfl, k, Nf, h2, h3, by omega, fun _ => hm, hN, ⟨fun z => by omega, fun z => absurd z e3⟩, e4⟩⟩)
                    · skip
                      exact absurd hz_152 (by decide)
          exact H129 _ 0 (a + 1) (jm_u (jm_u (jm_u I 95 3 (iI (c (a)))) 95 2 (iI 0)) 96 1 (iI (((a : Nat) : Int) + 1))) (fun _ => 0) (Nat.lt_succ_self _) (by omega) (by omega) (fr_u (by simp [wF0]) (fr_u (by simp [wF0]) (fr_u (by simp [wF0]) (fr_r _)))) rfl rfl rfl (fun i hi => absurd hi (by omega)) (Or.inl ⟨rfl, rfl⟩) _ rfl rfl rfl 
      · skip
        refine jv_aload_n (pc' := 44) (k := 0) (x := 95) rfl rfl rfl rfl ?_
        refine jv_getI (pc' := 47) (c := 9) (k := 3) (v := (iI (c (a)))) rfl rfl rfl (fun _ _ => rfl) rfl rfl rfl ?_
        refine jv_bipush (pc' := 49) (n := 126) rfl rfl rfl ?_
        refine jv_ic_eq (t := 54) (pc' := 52) (a := (c (a))) (b := 126) rfl rfl rfl (by omega) (fun hz_153 => ?_) (fun hz_153 => ?_)
        · skip
          refine jv_aload_n (pc' := 55) (k := 0) (x := 95) rfl rfl rfl rfl ?_
          refine jv_getR (pc' := 58) (c := 9) (k := 0) (v := 96) rfl rfl rfl (fun _ _ => rfl) rfl rfl (jR_95_0 _) ?_
          refine jx_step (pc' := 59) rfl ?_
          refine jv_getI (pc' := 62) (c := 4) (k := 1) (v := (iI ((a : Nat) : Int))) rfl rfl rfl (fun _ _ => rfl) rfl rfl ha ?_
          refine jv_iconst (pc' := 63) (n := 1) rfl rfl ?_
          refine jv_iadd (pc' := 64) (a := ((a : Nat) : Int)) (b := 1) rfl rfl ?_
          refine jv_putI (pc' := 67) (c := 4) (k := 1) rfl rfl rfl rfl (fun _ _ _  => rfl) rfl rfl ?_
          refine jv_aload_n (pc' := 68) (k := 0) (x := 95) rfl rfl rfl rfl ?_
          refine jv_getI (pc' := 71) (c := 9) (k := 3) (v := (iI (c (a)))) rfl rfl rfl (fun _ _ => rfl) rfl rfl rfl ?_
          refine jv_bipush (pc' := 73) (n := 61) rfl rfl rfl ?_
          refine jv_ic_ne (t := 80) (pc' := 76) (a := (c (a))) (b := 61) rfl rfl rfl (by omega) (fun hz_154 => ?_) (fun hz_154 => ?_)
          · skip
            refine jv_iconst (pc' := 81) (n := 1) rfl rfl ?_
            refine jv_istore_n (pc' := 82) (k := 1) (x := (iI 1)) rfl rfl rfl rfl (Or.inr rfl) ?_
            refine jv_iconst (pc' := 83) (n := 0) rfl rfl ?_
            refine jv_istore_n (pc' := 84) (k := 2) (x := (iI 0)) rfl rfl rfl rfl (Or.inr rfl) ?_
            have hm : cm (c a) := by unfold cm; omega
            have hmo : mo (c a) = 3 ∧ c a = 61 ∨ mo (c a) = 0 ∧ c a ≠ 61 := by unfold mo; split <;> omega
            have H155 : ∀ (N : Nat) (k : Nat) (q : Nat) (I1 : Nat → Nat → Int32) (Nf : Nat → Int), 4 - k < N → (k ≤ 4) → (q ≤ n) → (fr wF0 I I1) → (I1 96 1 = iI ((q : Nat) : Int)) → (I1 95 2 = iI (k : Int)) → (I1 95 3 = iI (c a)) → (∀ i, i < k → I1 97 i = iI (Nf i) ∧ 0 ≤ Nf i ∧ Nf i < 1000000) → (RCJ c a k q Nf) → ∀ f : jm_F, f 0 = some (.ref 95) → f 1 = some (.int (iI 1)) → f 2 = some (.int (iI ((k : Nat) : Int))) → jx L xs ((d + 2)) 91 84 f [] (jx_G j I1 M p) (fun z => ∃ v g1, z = (.inl v, g1) ∧ (fun v g1 => ∃ I', g1 = jx_G j I' M p ∧ fr wF0 I I' ∧ I' 96 1 = iI ((cA c a : Nat) : Int) ∧ ((cO c a ∧ v = some (.int (iI 1)) ∧ ∃ (cnt : Nat) (Nf : Nat → Int), I' 95 2 = iI (cnt : Int) ∧ I' 95 3 = iI (c a) ∧ cnt ≤ 4 ∧ (0 < cnt → cm (c a)) ∧ (∀ i, i < cnt → I' 97 i = iI (Nf i) ∧ 0 ≤ Nf i ∧ Nf i < 1000000) ∧ (cnt = 0 ↔ cN c a = []) ∧ (∀ P : Int → Prop, ((∃ x, x ∈ cN c a ∧ P x) ↔ ∃ i, i < cnt ∧ P (Nf i)))) ∨ (¬ cO c a ∧ v = some (.int (iI 0))))) v g1) := by
              intro N
              induction N with
              | zero => intro k q I1 Nf hN; exact absurd hN (Nat.not_lt_zero _)
              | succ N ih =>
                intro k q I1 Nf hN hk4 hqn hf hq h2 h3 hN hJ f hf0 hf1 hf2 
                refine jv_iload_n (pc' := 85) (k := 2) (x := (iI ((k : Nat) : Int))) rfl rfl rfl hf2 ?_
                have hq0 : (k = 0 ∧ q = a + 1) ∨ (0 < k ∧ k ≤ mo (c a) + 1) := by
                  rcases hJ with z | z
                  · exact Or.inl z
                  · exact Or.inr ⟨z.1, z.2.1⟩
                have C1 : CT I1 t c n := CT_fr (W := wF0) (I := I) (t := t) (c := c) (n := n) hC hf (by unfold wF0; omega) (by intro k; unfold wF0; omega)
                refine jv_iload_n (pc' := 86) (k := 1) (x := (iI 1)) rfl rfl rfl hf1 ?_
                refine jv_ic_ge (t := 146) (pc' := 89) (a := ((k : Nat) : Int)) (b := 1) rfl rfl rfl (by omega) (fun hz_156 => ?_) (fun hz_156 => ?_)
                · skip
                  refine jv_iconst (pc' := 147) (n := 1) rfl rfl ?_
                  refine jv_retZ rfl rfl (by first | exact Or.inl rfl | exact Or.inr rfl) ⟨_, _, rfl, ?_⟩
                  first
                  | (exfalso; omega)
                  | (obtain ⟨e1, e2, e3, e4⟩ := RCJ_e hm hJ (by omega) (by omega)
                     exact ⟨_, rfl, hf, by rw [e2]; exact hq, Or.inl ⟨e1, rfl, k, Nf, h2, h3, by omega, fun _ => hm, hN, ⟨fun z => by omega, fun z => absurd z e3⟩, e4⟩⟩)
                · skip
                  refine jv_iload_n (pc' := 90) (k := 2) (x := (iI ((k : Nat) : Int))) rfl rfl rfl hf2 ?_
                  refine jv_if_eq (t := 105) (pc' := 93) (a := ((k : Nat) : Int)) rfl rfl rfl (by omega) (fun hz_157 => ?_) (fun hz_157 => ?_)
                  · skip
                    refine jv_aload_n (pc' := 106) (k := 0) (x := 95) rfl rfl rfl hf0 ?_
                    refine jv_getR (pc' := 109) (c := 9) (k := 0) (v := 96) rfl rfl rfl (fun _ _ => rfl) rfl rfl (jR_95_0 _) ?_
                    have hm158 := CT_c C1 (q)
                    have ho158 := CT_or C1 (q)
                    have := nd_le c (q)
                    have := nv_b c (q)
                    have hnd159 := nd_in C1.2.2.2.2 (a := q) (by omega)
                    by_cases hk160 : 0 < nd c (q)
                    · skip
                      refine jv_call (pc' := 112) rfl (cl_takeNumber_qy (I := I1) (a := q) hl C1 hq hp (by omega) (by omega) hk160) (fun vq161 gq161 q161 => ?_)
                      obtain ⟨rfl, rfl⟩ := q161
                      show jx L xs _ 91 112 _ [.int (iI 1)] _ _
                      refine jv_if_ne (t := 117) (pc' := 115) (a := 1) rfl rfl rfl (by omega) (fun hz_162 => ?_) (fun hz_162 => ?_)
                      · skip
                        refine jv_aload_n (pc' := 118) (k := 0) (x := 95) rfl rfl rfl hf0 ?_
                        refine jv_getR (pc' := 121) (c := 9) (k := 1) (v := 97) rfl rfl rfl (fun _ _ => rfl) rfl rfl (jR_95_1 _) ?_
                        refine jv_iload_n (pc' := 122) (k := 2) (x := (iI ((k : Nat) : Int))) rfl rfl rfl hf2 ?_
                        refine jv_aload_n (pc' := 123) (k := 0) (x := 95) rfl rfl rfl hf0 ?_
                        refine jv_getR (pc' := 126) (c := 9) (k := 0) (v := 96) rfl rfl rfl (fun _ _ => rfl) rfl rfl (jR_95_0 _) ?_
                        refine jv_getI (pc' := 129) (c := 4) (k := 2) (v := (iI (nv c (q)))) rfl rfl rfl (fun _ _ => rfl) rfl rfl rfl ?_
                        refine jv_iastore (pc' := 130) (n := 4) (e := ((k : Nat) : Int)) (v := (iI (nv c (q)))) rfl rfl rfl rfl rfl (by omega) ?_
                        refine jv_aload_n (pc' := 131) (k := 0) (x := 95) rfl rfl rfl hf0 ?_
                        refine jx_step (pc' := 132) rfl ?_
                        refine jv_getI (pc' := 135) (c := 9) (k := 2) (v := (iI ((k : Nat) : Int))) rfl rfl rfl (fun _ _ => rfl) rfl rfl h2 ?_
                        refine jv_iconst (pc' := 136) (n := 1) rfl rfl ?_
                        refine jv_iadd (pc' := 137) (a := ((k : Nat) : Int)) (b := 1) rfl rfl ?_
                        refine jv_putI (pc' := 140) (c := 9) (k := 2) rfl rfl rfl rfl (fun _ _ _  => rfl) rfl rfl ?_
                        refine jv_iinc (pc' := 143) (k := 2) (a := ((k : Nat) : Int)) rfl rfl hf2 rfl (Or.inr (congrArg jm_lng hf1)) ?_
                        refine jx_step (pc' := 84) rfl ?_
                        exact ih (k + 1) (q + nd c (q)) (jm_u (jm_u (jm_u (jm_u I1 96 2 (iI (nv c (q)))) 96 1 (iI ((q + nd c (q) : Nat) : Int))) 97 (((k : Nat) : Int) : Int).toNat (iI (nv c (q)))) 95 2 (iI (((k : Nat) : Int) + 1))) (fun i => if i = k then nv c (q) else Nf i) (by omega) (by omega) (by omega) (fr_u (by simp [wF0]) (fr_u (by simp [wF0]) (fr_u (by simp [wF0]) (fr_u (by simp [wF0]) hf)))) rfl rfl h3 (fun i hi => by
                              by_cases e : i = k
                              · subst e; rw [if_pos rfl]; exact ⟨(jm_u_n2 (by omega)).trans (jm_u_eq ⟨rfl, by omega⟩), by omega⟩
                              · rw [if_neg e]; exact ⟨(jm_u_n2 (by omega)).trans ((jm_u_n2 (by omega)).trans ((jm_u_n2 (by omega)).trans ((jm_u_n2 (by omega)).trans (by first | exact (hN i (by omega)).1 | exact (jm_u_n2 (by omega)).trans (hN i (by omega)).1)))), (hN i (by omega)).2⟩) (by first | (rcases hq0 with ⟨e0, e1⟩ | e0; subst e0; subst e1; exact RCJ_0 (Nf := Nf) (by assumption) (if_pos rfl); omega) | exact RCJ_s hJ (by omega) (by omega) (by assumption) (by assumption) (if_pos rfl) (fun i hi => if_neg (by omega))) _ hf0 hf1 rfl 
                      · skip
                        exact absurd hz_162 (by decide)
                    · skip
                      refine jv_call (pc' := 112) rfl (cl_takeNumber_qn (I := I1) (a := q) hl C1 hq hp (by omega) (by omega) hk160) (fun vq163 gq163 q163 => ?_)
                      obtain ⟨rfl, rfl⟩ := q163
                      show jx L xs _ 91 112 _ [.int (iI 0)] _ _
                      refine jv_if_ne (t := 117) (pc' := 115) (a := 0) rfl rfl rfl (by omega) (fun hz_164 => ?_) (fun hz_164 => ?_)
                      · skip
                        exact absurd hz_164 (by decide)
                      · skip
                        refine jv_iconst (pc' := 116) (n := 0) rfl rfl ?_
                        refine jv_retZ rfl rfl (by first | exact Or.inl rfl | exact Or.inr rfl) ⟨_, _, rfl, ?_⟩
                        first
                        | (exfalso; omega)
                        | (obtain ⟨e1, e2⟩ := RCJ_f hm hJ (by omega) (by omega) (by assumption) (by assumption)
                           exact ⟨_, rfl, (fr_u (by simp [wF0]) (fr_u (by simp [wF0]) hf)), by rw [e2]; exact rfl, Or.inr ⟨e1, rfl⟩⟩)
                        | (have hq : q = a + 1 := by unfold RCJ at hJ; omega
                           subst hq
                           obtain ⟨e1, e2⟩ := RCJ_f0 hm (by assumption)
                           exact ⟨_, rfl, (fr_u (by simp [wF0]) (fr_u (by simp [wF0]) hf)), by rw [e2]; exact rfl, Or.inr ⟨e1, rfl⟩⟩)
                  · skip
                    refine jv_aload_n (pc' := 94) (k := 0) (x := 95) rfl rfl rfl hf0 ?_
                    refine jv_getR (pc' := 97) (c := 9) (k := 0) (v := 96) rfl rfl rfl (fun _ _ => rfl) rfl rfl (jR_95_0 _) ?_
                    refine jv_bipush (pc' := 99) (n := 44) rfl rfl rfl ?_
                    have hm165 := CT_c C1 (q)
                    have ho165 := CT_or C1 (q)
                    by_cases hk166 : c (q) = 44
                    · skip
                      refine jv_call (pc' := 102) rfl (cl_take_y_q (I := I1) (a := q) hl C1 hq hp (by omega) (x := 44) (by omega) hk166) (fun vq167 gq167 q167 => ?_)
                      obtain ⟨rfl, rfl⟩ := q167
                      show jx L xs _ 91 102 _ [.int (iI 1)] _ _
                      refine jv_if_eq (t := 146) (pc' := 105) (a := 1) rfl rfl rfl (by omega) (fun hz_168 => ?_) (fun hz_168 => ?_)
                      · skip
                        exact absurd hz_168 (by decide)
                      · skip
                        refine jv_aload_n (pc' := 106) (k := 0) (x := 95) rfl rfl rfl hf0 ?_
                        refine jv_getR (pc' := 109) (c := 9) (k := 0) (v := 96) rfl rfl rfl (fun _ _ => rfl) rfl rfl (jR_95_0 _) ?_
                        have C169 : CT (jm_u I1 96 1 (iI ((q + 1 : Nat) : Int))) t c n := CT_fr (W := wF) (I := I1) (t := t) (c := c) (n := n) C1 (fr_u (by simp [wF]) (fr_r _)) (by unfold wF; omega) (by intro k; unfold wF; omega)
                        have hm170 := CT_c C169 (q + 1)
                        have ho170 := CT_or C169 (q + 1)
                        have := nd_le c (q + 1)
                        have := nv_b c (q + 1)
                        have hnd171 := nd_in C169.2.2.2.2 (a := q + 1) (by omega)
                        by_cases hk172 : 0 < nd c (q + 1)
                        · skip
                          refine jv_call (pc' := 112) rfl (cl_takeNumber_qy (I := jm_u I1 96 1 (iI ((q + 1 : Nat) : Int))) (a := q + 1) hl C169 rfl hp (by omega) (by omega) hk172) (fun vq173 gq173 q173 => ?_)
                          obtain ⟨rfl, rfl⟩ := q173
                          show jx L xs _ 91 112 _ [.int (iI 1)] _ _
                          refine jv_if_ne (t := 117) (pc' := 115) (a := 1) rfl rfl rfl (by omega) (fun hz_174 => ?_) (fun hz_174 => ?_)
                          · skip
                            refine jv_aload_n (pc' := 118) (k := 0) (x := 95) rfl rfl rfl hf0 ?_
                            refine jv_getR (pc' := 121) (c := 9) (k := 1) (v := 97) rfl rfl rfl (fun _ _ => rfl) rfl rfl (jR_95_1 _) ?_
                            refine jv_iload_n (pc' := 122) (k := 2) (x := (iI ((k : Nat) : Int))) rfl rfl rfl hf2 ?_
                            refine jv_aload_n (pc' := 123) (k := 0) (x := 95) rfl rfl rfl hf0 ?_
                            refine jv_getR (pc' := 126) (c := 9) (k := 0) (v := 96) rfl rfl rfl (fun _ _ => rfl) rfl rfl (jR_95_0 _) ?_
                            refine jv_getI (pc' := 129) (c := 4) (k := 2) (v := (iI (nv c (q + 1)))) rfl rfl rfl (fun _ _ => rfl) rfl rfl rfl ?_
                            refine jv_iastore (pc' := 130) (n := 4) (e := ((k : Nat) : Int)) (v := (iI (nv c (q + 1)))) rfl rfl rfl rfl rfl (by omega) ?_
                            refine jv_aload_n (pc' := 131) (k := 0) (x := 95) rfl rfl rfl hf0 ?_
                            refine jx_step (pc' := 132) rfl ?_
                            refine jv_getI (pc' := 135) (c := 9) (k := 2) (v := (iI ((k : Nat) : Int))) rfl rfl rfl (fun _ _ => rfl) rfl rfl h2 ?_
                            refine jv_iconst (pc' := 136) (n := 1) rfl rfl ?_
                            refine jv_iadd (pc' := 137) (a := ((k : Nat) : Int)) (b := 1) rfl rfl ?_
                            refine jv_putI (pc' := 140) (c := 9) (k := 2) rfl rfl rfl rfl (fun _ _ _  => rfl) rfl rfl ?_
                            refine jv_iinc (pc' := 143) (k := 2) (a := ((k : Nat) : Int)) rfl rfl hf2 rfl (Or.inr (congrArg jm_lng hf1)) ?_
                            refine jx_step (pc' := 84) rfl ?_
                            exact ih (k + 1) (q + 1 + nd c (q + 1)) (jm_u (jm_u (jm_u (jm_u (jm_u I1 96 1 (iI ((q + 1 : Nat) : Int))) 96 2 (iI (nv c (q + 1)))) 96 1 (iI ((q + 1 + nd c (q + 1) : Nat) : Int))) 97 (((k : Nat) : Int) : Int).toNat (iI (nv c (q + 1)))) 95 2 (iI (((k : Nat) : Int) + 1))) (fun i => if i = k then nv c (q + 1) else Nf i) (by omega) (by omega) (by omega) (fr_u (by simp [wF0]) (fr_u (by simp [wF0]) (fr_u (by simp [wF0]) (fr_u (by simp [wF0]) (fr_u (by simp [wF0]) hf))))) rfl rfl h3 (fun i hi => by
                                  by_cases e : i = k
                                  · subst e; rw [if_pos rfl]; exact ⟨(jm_u_n2 (by omega)).trans (jm_u_eq ⟨rfl, by omega⟩), by omega⟩
                                  · rw [if_neg e]; exact ⟨(jm_u_n2 (by omega)).trans ((jm_u_n2 (by omega)).trans ((jm_u_n2 (by omega)).trans ((jm_u_n2 (by omega)).trans (by first | exact (hN i (by omega)).1 | exact (jm_u_n2 (by omega)).trans (hN i (by omega)).1)))), (hN i (by omega)).2⟩) (by first | (rcases hq0 with ⟨e0, e1⟩ | e0; subst e0; subst e1; exact RCJ_0 (Nf := Nf) (by assumption) (if_pos rfl); omega) | exact RCJ_s hJ (by omega) (by omega) (by assumption) (by assumption) (if_pos rfl) (fun i hi => if_neg (by omega))) _ hf0 hf1 rfl 
                          · skip
                            exact absurd hz_174 (by decide)
                        · skip
                          refine jv_call (pc' := 112) rfl (cl_takeNumber_qn (I := jm_u I1 96 1 (iI ((q + 1 : Nat) : Int))) (a := q + 1) hl C169 rfl hp (by omega) (by omega) hk172) (fun vq175 gq175 q175 => ?_)
                          obtain ⟨rfl, rfl⟩ := q175
                          show jx L xs _ 91 112 _ [.int (iI 0)] _ _
                          refine jv_if_ne (t := 117) (pc' := 115) (a := 0) rfl rfl rfl (by omega) (fun hz_176 => ?_) (fun hz_176 => ?_)
                          · skip
                            exact absurd hz_176 (by decide)
                          · skip
                            refine jv_iconst (pc' := 116) (n := 0) rfl rfl ?_
                            refine jv_retZ rfl rfl (by first | exact Or.inl rfl | exact Or.inr rfl) ⟨_, _, rfl, ?_⟩
                            first
                            | (exfalso; omega)
                            | (obtain ⟨e1, e2⟩ := RCJ_f hm hJ (by omega) (by omega) (by assumption) (by assumption)
                               exact ⟨_, rfl, (fr_u (by simp [wF0]) (fr_u (by simp [wF0]) (fr_u (by simp [wF0]) hf))), by rw [e2]; exact rfl, Or.inr ⟨e1, rfl⟩⟩)
                            | (have hq : q = a + 1 := by unfold RCJ at hJ; omega
                               subst hq
                               obtain ⟨e1, e2⟩ := RCJ_f0 hm (by assumption)
                               exact ⟨_, rfl, (fr_u (by simp [wF0]) (fr_u (by simp [wF0]) (fr_u (by simp [wF0]) hf))), by rw [e2]; exact rfl, Or.inr ⟨e1, rfl⟩⟩)
                    · skip
                      refine jv_call (pc' := 102) rfl (cl_take_n_q (I := I1) (a := q) hl C1 hq hp (by omega) (x := 44) (by omega) hk166) (fun vq177 gq177 q177 => ?_)
                      obtain ⟨rfl, rfl⟩ := q177
                      show jx L xs _ 91 102 _ [.int (iI 0)] _ _
                      refine jv_if_eq (t := 146) (pc' := 105) (a := 0) rfl rfl rfl (by omega) (fun hz_178 => ?_) (fun hz_178 => ?_)
                      · skip
                        refine jv_iconst (pc' := 147) (n := 1) rfl rfl ?_
                        refine jv_retZ rfl rfl (by first | exact Or.inl rfl | exact Or.inr rfl) ⟨_, _, rfl, ?_⟩
                        first
                        | (exfalso; omega)
                        | (obtain ⟨e1, e2, e3, e4⟩ := RCJ_e hm hJ (by omega) (by omega)
                           exact ⟨_, rfl, hf, by rw [e2]; exact hq, Or.inl ⟨e1, rfl, k, Nf, h2, h3, by omega, fun _ => hm, hN, ⟨fun z => by omega, fun z => absurd z e3⟩, e4⟩⟩)
                      · skip
                        exact absurd hz_178 (by decide)
            exact H155 _ 0 (a + 1) (jm_u (jm_u (jm_u I 95 3 (iI (c (a)))) 95 2 (iI 0)) 96 1 (iI (((a : Nat) : Int) + 1))) (fun _ => 0) (Nat.lt_succ_self _) (by omega) (by omega) (fr_u (by simp [wF0]) (fr_u (by simp [wF0]) (fr_u (by simp [wF0]) (fr_r _)))) rfl rfl rfl (fun i hi => absurd hi (by omega)) (Or.inl ⟨rfl, rfl⟩) _ rfl rfl rfl 
          · skip
            refine jv_iconst (pc' := 77) (n := 4) rfl rfl ?_
            refine jx_step (pc' := 81) rfl ?_
            refine jv_istore_n (pc' := 82) (k := 1) (x := (iI 4)) rfl rfl rfl rfl (Or.inr rfl) ?_
            refine jv_iconst (pc' := 83) (n := 0) rfl rfl ?_
            refine jv_istore_n (pc' := 84) (k := 2) (x := (iI 0)) rfl rfl rfl rfl (Or.inr rfl) ?_
            have hm : cm (c a) := by unfold cm; omega
            have hmo : mo (c a) = 3 ∧ c a = 61 ∨ mo (c a) = 0 ∧ c a ≠ 61 := by unfold mo; split <;> omega
            have H179 : ∀ (N : Nat) (k : Nat) (q : Nat) (I1 : Nat → Nat → Int32) (Nf : Nat → Int), 4 - k < N → (k ≤ 4) → (q ≤ n) → (fr wF0 I I1) → (I1 96 1 = iI ((q : Nat) : Int)) → (I1 95 2 = iI (k : Int)) → (I1 95 3 = iI (c a)) → (∀ i, i < k → I1 97 i = iI (Nf i) ∧ 0 ≤ Nf i ∧ Nf i < 1000000) → (RCJ c a k q Nf) → ∀ f : jm_F, f 0 = some (.ref 95) → f 1 = some (.int (iI 4)) → f 2 = some (.int (iI ((k : Nat) : Int))) → jx L xs ((d + 2)) 91 84 f [] (jx_G j I1 M p) (fun z => ∃ v g1, z = (.inl v, g1) ∧ (fun v g1 => ∃ I', g1 = jx_G j I' M p ∧ fr wF0 I I' ∧ I' 96 1 = iI ((cA c a : Nat) : Int) ∧ ((cO c a ∧ v = some (.int (iI 1)) ∧ ∃ (cnt : Nat) (Nf : Nat → Int), I' 95 2 = iI (cnt : Int) ∧ I' 95 3 = iI (c a) ∧ cnt ≤ 4 ∧ (0 < cnt → cm (c a)) ∧ (∀ i, i < cnt → I' 97 i = iI (Nf i) ∧ 0 ≤ Nf i ∧ Nf i < 1000000) ∧ (cnt = 0 ↔ cN c a = []) ∧ (∀ P : Int → Prop, ((∃ x, x ∈ cN c a ∧ P x) ↔ ∃ i, i < cnt ∧ P (Nf i)))) ∨ (¬ cO c a ∧ v = some (.int (iI 0))))) v g1) := by
              intro N
              induction N with
              | zero => intro k q I1 Nf hN; exact absurd hN (Nat.not_lt_zero _)
              | succ N ih =>
                intro k q I1 Nf hN hk4 hqn hf hq h2 h3 hN hJ f hf0 hf1 hf2 
                refine jv_iload_n (pc' := 85) (k := 2) (x := (iI ((k : Nat) : Int))) rfl rfl rfl hf2 ?_
                have hq0 : (k = 0 ∧ q = a + 1) ∨ (0 < k ∧ k ≤ mo (c a) + 1) := by
                  rcases hJ with z | z
                  · exact Or.inl z
                  · exact Or.inr ⟨z.1, z.2.1⟩
                have C1 : CT I1 t c n := CT_fr (W := wF0) (I := I) (t := t) (c := c) (n := n) hC hf (by unfold wF0; omega) (by intro k; unfold wF0; omega)
                refine jv_iload_n (pc' := 86) (k := 1) (x := (iI 4)) rfl rfl rfl hf1 ?_
                refine jv_ic_ge (t := 146) (pc' := 89) (a := ((k : Nat) : Int)) (b := 4) rfl rfl rfl (by omega) (fun hz_180 => ?_) (fun hz_180 => ?_)
                · skip
                  refine jv_iconst (pc' := 147) (n := 1) rfl rfl ?_
                  refine jv_retZ rfl rfl (by first | exact Or.inl rfl | exact Or.inr rfl) ⟨_, _, rfl, ?_⟩
                  first
                  | (exfalso; omega)
                  | (obtain ⟨e1, e2, e3, e4⟩ := RCJ_e hm hJ (by omega) (by omega)
                     exact ⟨_, rfl, hf, by rw [e2]; exact hq, Or.inl ⟨e1, rfl, k, Nf, h2, h3, by omega, fun _ => hm, hN, ⟨fun z => by omega, fun z => absurd z e3⟩, e4⟩⟩)
                · skip
                  refine jv_iload_n (pc' := 90) (k := 2) (x := (iI ((k : Nat) : Int))) rfl rfl rfl hf2 ?_
                  refine jv_if_eq (t := 105) (pc' := 93) (a := ((k : Nat) : Int)) rfl rfl rfl (by omega) (fun hz_181 => ?_) (fun hz_181 => ?_)
                  · skip
                    refine jv_aload_n (pc' := 106) (k := 0) (x := 95) rfl rfl rfl hf0 ?_
                    refine jv_getR (pc' := 109) (c := 9) (k := 0) (v := 96) rfl rfl rfl (fun _ _ => rfl) rfl rfl (jR_95_0 _) ?_
                    have hm182 := CT_c C1 (q)
                    have ho182 := CT_or C1 (q)
                    have := nd_le c (q)
                    have := nv_b c (q)
                    have hnd183 := nd_in C1.2.2.2.2 (a := q) (by omega)
                    by_cases hk184 : 0 < nd c (q)
                    · skip
                      refine jv_call (pc' := 112) rfl (cl_takeNumber_qy (I := I1) (a := q) hl C1 hq hp (by omega) (by omega) hk184) (fun vq185 gq185 q185 => ?_)
                      obtain ⟨rfl, rfl⟩ := q185
                      show jx L xs _ 91 112 _ [.int (iI 1)] _ _
                      refine jv_if_ne (t := 117) (pc' := 115) (a := 1) rfl rfl rfl (by omega) (fun hz_186 => ?_) (fun hz_186 => ?_)
                      · skip
                        refine jv_aload_n (pc' := 118) (k := 0) (x := 95) rfl rfl rfl hf0 ?_
                        refine jv_getR (pc' := 121) (c := 9) (k := 1) (v := 97) rfl rfl rfl (fun _ _ => rfl) rfl rfl (jR_95_1 _) ?_
                        refine jv_iload_n (pc' := 122) (k := 2) (x := (iI ((k : Nat) : Int))) rfl rfl rfl hf2 ?_
                        refine jv_aload_n (pc' := 123) (k := 0) (x := 95) rfl rfl rfl hf0 ?_
                        refine jv_getR (pc' := 126) (c := 9) (k := 0) (v := 96) rfl rfl rfl (fun _ _ => rfl) rfl rfl (jR_95_0 _) ?_
                        refine jv_getI (pc' := 129) (c := 4) (k := 2) (v := (iI (nv c (q)))) rfl rfl rfl (fun _ _ => rfl) rfl rfl rfl ?_
                        refine jv_iastore (pc' := 130) (n := 4) (e := ((k : Nat) : Int)) (v := (iI (nv c (q)))) rfl rfl rfl rfl rfl (by omega) ?_
                        refine jv_aload_n (pc' := 131) (k := 0) (x := 95) rfl rfl rfl hf0 ?_
                        refine jx_step (pc' := 132) rfl ?_
                        refine jv_getI (pc' := 135) (c := 9) (k := 2) (v := (iI ((k : Nat) : Int))) rfl rfl rfl (fun _ _ => rfl) rfl rfl h2 ?_
                        refine jv_iconst (pc' := 136) (n := 1) rfl rfl ?_
                        refine jv_iadd (pc' := 137) (a := ((k : Nat) : Int)) (b := 1) rfl rfl ?_
                        refine jv_putI (pc' := 140) (c := 9) (k := 2) rfl rfl rfl rfl (fun _ _ _  => rfl) rfl rfl ?_
                        refine jv_iinc (pc' := 143) (k := 2) (a := ((k : Nat) : Int)) rfl rfl hf2 rfl (Or.inr (congrArg jm_lng hf1)) ?_
                        refine jx_step (pc' := 84) rfl ?_
                        exact ih (k + 1) (q + nd c (q)) (jm_u (jm_u (jm_u (jm_u I1 96 2 (iI (nv c (q)))) 96 1 (iI ((q + nd c (q) : Nat) : Int))) 97 (((k : Nat) : Int) : Int).toNat (iI (nv c (q)))) 95 2 (iI (((k : Nat) : Int) + 1))) (fun i => if i = k then nv c (q) else Nf i) (by omega) (by omega) (by omega) (fr_u (by simp [wF0]) (fr_u (by simp [wF0]) (fr_u (by simp [wF0]) (fr_u (by simp [wF0]) hf)))) rfl rfl h3 (fun i hi => by
                              by_cases e : i = k
                              · subst e; rw [if_pos rfl]; exact ⟨(jm_u_n2 (by omega)).trans (jm_u_eq ⟨rfl, by omega⟩), by omega⟩
                              · rw [if_neg e]; exact ⟨(jm_u_n2 (by omega)).trans ((jm_u_n2 (by omega)).trans ((jm_u_n2 (by omega)).trans ((jm_u_n2 (by omega)).trans (by first | exact (hN i (by omega)).1 | exact (jm_u_n2 (by omega)).trans (hN i (by omega)).1)))), (hN i (by omega)).2⟩) (by first | (rcases hq0 with ⟨e0, e1⟩ | e0; subst e0; subst e1; exact RCJ_0 (Nf := Nf) (by assumption) (if_pos rfl); omega) | exact RCJ_s hJ (by omega) (by omega) (by assumption) (by assumption) (if_pos rfl) (fun i hi => if_neg (by omega))) _ hf0 hf1 rfl 
                      · skip
                        exact absurd hz_186 (by decide)
                    · skip
                      refine jv_call (pc' := 112) rfl (cl_takeNumber_qn (I := I1) (a := q) hl C1 hq hp (by omega) (by omega) hk184) (fun vq187 gq187 q187 => ?_)
                      obtain ⟨rfl, rfl⟩ := q187
                      show jx L xs _ 91 112 _ [.int (iI 0)] _ _
                      refine jv_if_ne (t := 117) (pc' := 115) (a := 0) rfl rfl rfl (by omega) (fun hz_188 => ?_) (fun hz_188 => ?_)
                      · skip
                        exact absurd hz_188 (by decide)
                      · skip
                        refine jv_iconst (pc' := 116) (n := 0) rfl rfl ?_
                        refine jv_retZ rfl rfl (by first | exact Or.inl rfl | exact Or.inr rfl) ⟨_, _, rfl, ?_⟩
                        first
                        | (exfalso; omega)
                        | (obtain ⟨e1, e2⟩ := RCJ_f hm hJ (by omega) (by omega) (by assumption) (by assumption)
                           exact ⟨_, rfl, (fr_u (by simp [wF0]) (fr_u (by simp [wF0]) hf)), by rw [e2]; exact rfl, Or.inr ⟨e1, rfl⟩⟩)
                        | (have hq : q = a + 1 := by unfold RCJ at hJ; omega
                           subst hq
                           obtain ⟨e1, e2⟩ := RCJ_f0 hm (by assumption)
                           exact ⟨_, rfl, (fr_u (by simp [wF0]) (fr_u (by simp [wF0]) hf)), by rw [e2]; exact rfl, Or.inr ⟨e1, rfl⟩⟩)
                  · skip
                    refine jv_aload_n (pc' := 94) (k := 0) (x := 95) rfl rfl rfl hf0 ?_
                    refine jv_getR (pc' := 97) (c := 9) (k := 0) (v := 96) rfl rfl rfl (fun _ _ => rfl) rfl rfl (jR_95_0 _) ?_
                    refine jv_bipush (pc' := 99) (n := 44) rfl rfl rfl ?_
                    have hm189 := CT_c C1 (q)
                    have ho189 := CT_or C1 (q)
                    by_cases hk190 : c (q) = 44
                    · skip
                      refine jv_call (pc' := 102) rfl (cl_take_y_q (I := I1) (a := q) hl C1 hq hp (by omega) (x := 44) (by omega) hk190) (fun vq191 gq191 q191 => ?_)
                      obtain ⟨rfl, rfl⟩ := q191
                      show jx L xs _ 91 102 _ [.int (iI 1)] _ _
                      refine jv_if_eq (t := 146) (pc' := 105) (a := 1) rfl rfl rfl (by omega) (fun hz_192 => ?_) (fun hz_192 => ?_)
                      · skip
                        exact absurd hz_192 (by decide)
                      · skip
                        refine jv_aload_n (pc' := 106) (k := 0) (x := 95) rfl rfl rfl hf0 ?_
                        refine jv_getR (pc' := 109) (c := 9) (k := 0) (v := 96) rfl rfl rfl (fun _ _ => rfl) rfl rfl (jR_95_0 _) ?_
                        have C193 : CT (jm_u I1 96 1 (iI ((q + 1 : Nat) : Int))) t c n := CT_fr (W := wF) (I := I1) (t := t) (c := c) (n := n) C1 (fr_u (by simp [wF]) (fr_r _)) (by unfold wF; omega) (by intro k; unfold wF; omega)
                        have hm194 := CT_c C193 (q + 1)
                        have ho194 := CT_or C193 (q + 1)
                        have := nd_le c (q + 1)
                        have := nv_b c (q + 1)
                        have hnd195 := nd_in C193.2.2.2.2 (a := q + 1) (by omega)
                        by_cases hk196 : 0 < nd c (q + 1)
                        · skip
                          refine jv_call (pc' := 112) rfl (cl_takeNumber_qy (I := jm_u I1 96 1 (iI ((q + 1 : Nat) : Int))) (a := q + 1) hl C193 rfl hp (by omega) (by omega) hk196) (fun vq197 gq197 q197 => ?_)
                          obtain ⟨rfl, rfl⟩ := q197
                          show jx L xs _ 91 112 _ [.int (iI 1)] _ _
                          refine jv_if_ne (t := 117) (pc' := 115) (a := 1) rfl rfl rfl (by omega) (fun hz_198 => ?_) (fun hz_198 => ?_)
                          · skip
                            refine jv_aload_n (pc' := 118) (k := 0) (x := 95) rfl rfl rfl hf0 ?_
                            refine jv_getR (pc' := 121) (c := 9) (k := 1) (v := 97) rfl rfl rfl (fun _ _ => rfl) rfl rfl (jR_95_1 _) ?_
                            refine jv_iload_n (pc' := 122) (k := 2) (x := (iI ((k : Nat) : Int))) rfl rfl rfl hf2 ?_
                            refine jv_aload_n (pc' := 123) (k := 0) (x := 95) rfl rfl rfl hf0 ?_
                            refine jv_getR (pc' := 126) (c := 9) (k := 0) (v := 96) rfl rfl rfl (fun _ _ => rfl) rfl rfl (jR_95_0 _) ?_
                            refine jv_getI (pc' := 129) (c := 4) (k := 2) (v := (iI (nv c (q + 1)))) rfl rfl rfl (fun _ _ => rfl) rfl rfl rfl ?_
                            refine jv_iastore (pc' := 130) (n := 4) (e := ((k : Nat) : Int)) (v := (iI (nv c (q + 1)))) rfl rfl rfl rfl rfl (by omega) ?_
                            refine jv_aload_n (pc' := 131) (k := 0) (x := 95) rfl rfl rfl hf0 ?_
                            refine jx_step (pc' := 132) rfl ?_
                            refine jv_getI (pc' := 135) (c := 9) (k := 2) (v := (iI ((k : Nat) : Int))) rfl rfl rfl (fun _ _ => rfl) rfl rfl h2 ?_
                            refine jv_iconst (pc' := 136) (n := 1) rfl rfl ?_
                            refine jv_iadd (pc' := 137) (a := ((k : Nat) : Int)) (b := 1) rfl rfl ?_
                            refine jv_putI (pc' := 140) (c := 9) (k := 2) rfl rfl rfl rfl (fun _ _ _  => rfl) rfl rfl ?_
                            refine jv_iinc (pc' := 143) (k := 2) (a := ((k : Nat) : Int)) rfl rfl hf2 rfl (Or.inr (congrArg jm_lng hf1)) ?_
                            refine jx_step (pc' := 84) rfl ?_
                            exact ih (k + 1) (q + 1 + nd c (q + 1)) (jm_u (jm_u (jm_u (jm_u (jm_u I1 96 1 (iI ((q + 1 : Nat) : Int))) 96 2 (iI (nv c (q + 1)))) 96 1 (iI ((q + 1 + nd c (q + 1) : Nat) : Int))) 97 (((k : Nat) : Int) : Int).toNat (iI (nv c (q + 1)))) 95 2 (iI (((k : Nat) : Int) + 1))) (fun i => if i = k then nv c (q + 1) else Nf i) (by omega) (by omega) (by omega) (fr_u (by simp [wF0]) (fr_u (by simp [wF0]) (fr_u (by simp [wF0]) (fr_u (by simp [wF0]) (fr_u (by simp [wF0]) hf))))) rfl rfl h3 (fun i hi => by
                                  by_cases e : i = k
                                  · subst e; rw [if_pos rfl]; exact ⟨(jm_u_n2 (by omega)).trans (jm_u_eq ⟨rfl, by omega⟩), by omega⟩
                                  · rw [if_neg e]; exact ⟨(jm_u_n2 (by omega)).trans ((jm_u_n2 (by omega)).trans ((jm_u_n2 (by omega)).trans ((jm_u_n2 (by omega)).trans (by first | exact (hN i (by omega)).1 | exact (jm_u_n2 (by omega)).trans (hN i (by omega)).1)))), (hN i (by omega)).2⟩) (by first | (rcases hq0 with ⟨e0, e1⟩ | e0; subst e0; subst e1; exact RCJ_0 (Nf := Nf) (by assumption) (if_pos rfl); omega) | exact RCJ_s hJ (by omega) (by omega) (by assumption) (by assumption) (if_pos rfl) (fun i hi => if_neg (by omega))) _ hf0 hf1 rfl 
                          · skip
                            exact absurd hz_198 (by decide)
                        · skip
                          refine jv_call (pc' := 112) rfl (cl_takeNumber_qn (I := jm_u I1 96 1 (iI ((q + 1 : Nat) : Int))) (a := q + 1) hl C193 rfl hp (by omega) (by omega) hk196) (fun vq199 gq199 q199 => ?_)
                          obtain ⟨rfl, rfl⟩ := q199
                          show jx L xs _ 91 112 _ [.int (iI 0)] _ _
                          refine jv_if_ne (t := 117) (pc' := 115) (a := 0) rfl rfl rfl (by omega) (fun hz_200 => ?_) (fun hz_200 => ?_)
                          · skip
                            exact absurd hz_200 (by decide)
                          · skip
                            refine jv_iconst (pc' := 116) (n := 0) rfl rfl ?_
                            refine jv_retZ rfl rfl (by first | exact Or.inl rfl | exact Or.inr rfl) ⟨_, _, rfl, ?_⟩
                            first
                            | (exfalso; omega)
                            | (obtain ⟨e1, e2⟩ := RCJ_f hm hJ (by omega) (by omega) (by assumption) (by assumption)
                               exact ⟨_, rfl, (fr_u (by simp [wF0]) (fr_u (by simp [wF0]) (fr_u (by simp [wF0]) hf))), by rw [e2]; exact rfl, Or.inr ⟨e1, rfl⟩⟩)
                            | (have hq : q = a + 1 := by unfold RCJ at hJ; omega
                               subst hq
                               obtain ⟨e1, e2⟩ := RCJ_f0 hm (by assumption)
                               exact ⟨_, rfl, (fr_u (by simp [wF0]) (fr_u (by simp [wF0]) (fr_u (by simp [wF0]) hf))), by rw [e2]; exact rfl, Or.inr ⟨e1, rfl⟩⟩)
                    · skip
                      refine jv_call (pc' := 102) rfl (cl_take_n_q (I := I1) (a := q) hl C1 hq hp (by omega) (x := 44) (by omega) hk190) (fun vq201 gq201 q201 => ?_)
                      obtain ⟨rfl, rfl⟩ := q201
                      show jx L xs _ 91 102 _ [.int (iI 0)] _ _
                      refine jv_if_eq (t := 146) (pc' := 105) (a := 0) rfl rfl rfl (by omega) (fun hz_202 => ?_) (fun hz_202 => ?_)
                      · skip
                        refine jv_iconst (pc' := 147) (n := 1) rfl rfl ?_
                        refine jv_retZ rfl rfl (by first | exact Or.inl rfl | exact Or.inr rfl) ⟨_, _, rfl, ?_⟩
                        first
                        | (exfalso; omega)
                        | (obtain ⟨e1, e2, e3, e4⟩ := RCJ_e hm hJ (by omega) (by omega)
                           exact ⟨_, rfl, hf, by rw [e2]; exact hq, Or.inl ⟨e1, rfl, k, Nf, h2, h3, by omega, fun _ => hm, hN, ⟨fun z => by omega, fun z => absurd z e3⟩, e4⟩⟩)
                      · skip
                        exact absurd hz_202 (by decide)
            exact H179 _ 0 (a + 1) (jm_u (jm_u (jm_u I 95 3 (iI (c (a)))) 95 2 (iI 0)) 96 1 (iI (((a : Nat) : Int) + 1))) (fun _ => 0) (Nat.lt_succ_self _) (by omega) (by omega) (fr_u (by simp [wF0]) (fr_u (by simp [wF0]) (fr_u (by simp [wF0]) (fr_r _)))) rfl rfl rfl (fun i hi => absurd hi (by omega)) (Or.inl ⟨rfl, rfl⟩) _ rfl rfl rfl 
        · skip
          refine jv_iconst (pc' := 53) (n := 1) rfl rfl ?_
          refine jv_retZ rfl rfl (by first | exact Or.inl rfl | exact Or.inr rfl) ⟨_, _, rfl, ?_⟩
          first
          | (exfalso; omega)
          | (obtain ⟨e1, e2, e3⟩ := c_none (c := c) (a := a) (by unfold cm; omega)
             exact ⟨_, rfl, (fr_u (by simp [wF0]) (fr_u (by simp [wF0]) (fr_r _))), by rw [e2]; exact ha, Or.inl ⟨e1, rfl, 0, fun _ => 0, rfl, rfl, by omega, fun z => absurd z (by omega), fun i hi => absurd hi (by omega), ⟨fun _ => e3, fun _ => rfl⟩, fun P => by rw [e3]; exact ⟨fun ⟨x, hx, _⟩ => (by cases hx), fun ⟨i, hi, _⟩ => absurd hi (by omega)⟩⟩⟩)
def TJ (c : Nat → Int) (s : DSt) (a k : Nat) (P : Prop) : Prop := P ↔ ∃ k2 : Nat, k2 < k ∧ (s 3 k2 = c a - 48 ∧ s 4 k2 = nmq c a ∧ s 7 k2 ≠ 1 ∧ s 7 k2 ≠ 4) ∧ fitP c (a + 2) (s 8 k2)
variable {s : DSt} {W : Nat → Nat → Int} {sz : Nat}
set_option maxHeartbeats 4000000 in
theorem cl_readTest (hl : TL t) (hC : CT I t c n) (ha : I 96 1 = iI ((a : Nat) : Int)) (hp : p 21 = some t) (han : a ≤ n) (hp22 : p 22 = some 39) (hD : DCe I M s) (hE : EP W sz s) (hc : 0 ≤ s 0 2 ∧ s 0 2 ≤ 64) : jc L xs (d + 3) 90 [.ref 95] (jx_G j I M p) (fun v g1 => ∃ I', g1 = jx_G j I' M p ∧ fr wF I I' ∧ I' 96 1 = iI ((tA c a : Nat) : Int) ∧ ((tO c a ∧ v = some (.int (iI 1)) ∧ I' 95 5 = jb (tV c s a)) ∨ (¬ tO c a ∧ v = some (.int (iI 0)) ∧ I' 95 5 = I 95 5))) := by
  unfold jc
  have hn := hC.2.1
  have hnr : -100 ≤ nmq c a ∧ nmq c a ≤ 255 := by
    have := CT_c hC (a + 1); unfold nmq; split <;> omega
  refine jv_aload_n (pc' := 1) (k := 0) (x := 95) rfl rfl rfl rfl ?_
  refine jv_getR (pc' := 4) (c := 9) (k := 0) (v := 96) rfl rfl rfl (fun _ _ => rfl) rfl rfl (jR_95_0 _) ?_
  have hm1 := CT_c hC (a)
  have ho1 := CT_or hC (a)
  refine jv_call (pc' := 7) rfl (cl_seen_q (I := I) (a := a) hl hC ha hp (by omega)) (fun vq2 gq2 q2 => ?_)
  obtain ⟨rfl, rfl⟩ := q2
  show jx L xs _ 90 7 _ [.int (iI (c (a)))] _ _
  refine jv_bipush (pc' := 9) (n := 48) rfl rfl rfl ?_
  refine jv_isub (pc' := 10) (a := (c (a))) (b := 48) rfl rfl ?_
  refine jv_istore_n (pc' := 11) (k := 1) (x := (iI ((c (a)) - 48))) rfl rfl rfl rfl (Or.inr rfl) ?_
  refine jv_iload_n (pc' := 12) (k := 1) (x := (iI ((c (a)) - 48))) rfl rfl rfl rfl ?_
  refine jv_call (pc' := 15) rfl (cl_isLayer (by omega)) (fun vq3 gq3 q3 => ?_)
  obtain ⟨rfl, rfl⟩ := q3
  show jx L xs _ 90 15 _ [.int (jb (0 ≤ ((c (a)) - 48) ∧ ((c (a)) - 48) < 4))] _ _
  refine jv_jb_ne (t := 20) (pc' := 18) (P := 0 ≤ ((c (a)) - 48) ∧ ((c (a)) - 48) < 4) rfl rfl rfl (fun hz_4 => ?_) (fun hz_4 => ?_)
  · skip
    refine jv_aload_n (pc' := 21) (k := 0) (x := 95) rfl rfl rfl rfl ?_
    refine jv_getR (pc' := 24) (c := 9) (k := 0) (v := 96) rfl rfl rfl (fun _ _ => rfl) rfl rfl (jR_95_0 _) ?_
    refine jx_step (pc' := 25) rfl ?_
    refine jv_getI (pc' := 28) (c := 4) (k := 1) (v := (iI ((a : Nat) : Int))) rfl rfl rfl (fun _ _ => rfl) rfl rfl ha ?_
    refine jv_iconst (pc' := 29) (n := 1) rfl rfl ?_
    refine jv_iadd (pc' := 30) (a := ((a : Nat) : Int)) (b := 1) rfl rfl ?_
    refine jv_putI (pc' := 33) (c := 4) (k := 1) rfl rfl rfl rfl (fun _ _ _  => rfl) rfl rfl ?_
    refine jv_aload_n (pc' := 34) (k := 0) (x := 95) rfl rfl rfl rfl ?_
    refine jv_getR (pc' := 37) (c := 9) (k := 0) (v := 96) rfl rfl rfl (fun _ _ => rfl) rfl rfl (jR_95_0 _) ?_
    refine jv_bipush (pc' := 39) (n := 36) rfl rfl rfl ?_
    have C5 : CT (jm_u I 96 1 (iI (((a : Nat) : Int) + 1))) t c n := CT_fr (W := wF) (I := I) (t := t) (c := c) (n := n) hC (fr_u (by simp [wF]) (fr_r _)) (by unfold wF; omega) (by intro k; unfold wF; omega)
    have hm6 := CT_c C5 (a + 1)
    have ho6 := CT_or C5 (a + 1)
    by_cases hk7 : c (a + 1) = 36
    · skip
      refine jv_call (pc' := 42) rfl (cl_sees_y_q (I := jm_u I 96 1 (iI (((a : Nat) : Int) + 1))) (a := a + 1) hl C5 rfl hp (by omega) (x := 36) (by omega) hk7) (fun vq8 gq8 q8 => ?_)
      obtain ⟨rfl, rfl⟩ := q8
      show jx L xs _ 90 42 _ [.int (iI 1)] _ _
      refine jv_if_eq (t := 50) (pc' := 45) (a := 1) rfl rfl rfl (by omega) (fun hz_9 => ?_) (fun hz_9 => ?_)
      · skip
        exact absurd hz_9 (by decide)
      · skip
        refine jv_bipush (pc' := 47) (n := 8) rfl rfl rfl ?_
        refine jx_step (pc' := 57) rfl ?_
        rw [show 8 = nmq c a by unfold nmq; first | (rw [if_pos (by assumption)]) | (rw [if_neg (by assumption)])]
        have hq1 : nmq c a ≠ -1 := by unfold nmq; split <;> omega
        refine jv_istore_n (pc' := 58) (k := 2) (x := (iI (nmq c a))) rfl rfl rfl rfl (Or.inr rfl) ?_
        refine jv_iload_n (pc' := 59) (k := 2) (x := (iI (nmq c a))) rfl rfl rfl rfl ?_
        refine jv_iconst (pc' := 60) (n := -1) rfl rfl ?_
        refine jv_ic_ne (t := 65) (pc' := 63) (a := (nmq c a)) (b := (-1)) rfl rfl rfl (by omega) (fun hz_10 => ?_) (fun hz_10 => ?_)
        · skip
          refine jv_aload_n (pc' := 66) (k := 0) (x := 95) rfl rfl rfl rfl ?_
          refine jv_getR (pc' := 69) (c := 9) (k := 0) (v := 96) rfl rfl rfl (fun _ _ => rfl) rfl rfl (jR_95_0 _) ?_
          refine jx_step (pc' := 70) rfl ?_
          refine jv_getI (pc' := 73) (c := 4) (k := 1) (v := (iI ((a + 1 : Nat) : Int))) rfl rfl rfl (fun _ _ => rfl) rfl rfl rfl ?_
          refine jv_iconst (pc' := 74) (n := 1) rfl rfl ?_
          refine jv_iadd (pc' := 75) (a := ((a + 1 : Nat) : Int)) (b := 1) rfl rfl ?_
          refine jv_putI (pc' := 78) (c := 4) (k := 1) rfl rfl rfl rfl (fun _ _ _  => rfl) rfl rfl ?_
          refine jv_aload_n (pc' := 79) (k := 0) (x := 95) rfl rfl rfl rfl ?_
          have C12 : CT (jm_u (jm_u I 96 1 (iI (((a : Nat) : Int) + 1))) 96 1 (iI (((a + 1 : Nat) : Int) + 1))) t c n := CT_fr (W := wF) (I := jm_u I 96 1 (iI (((a : Nat) : Int) + 1))) (t := t) (c := c) (n := n) C5 (fr_u (by simp [wF]) (fr_r _)) (by unfold wF; omega) (by intro k; unfold wF; omega)
          refine jv_call (pc' := 82) rfl (cl_readComparison (I := jm_u (jm_u I 96 1 (iI (((a : Nat) : Int) + 1))) 96 1 (iI (((a + 1 : Nat) : Int) + 1))) (a := a + 2) hl C12 rfl hp (by omega)) (fun vq11 gq11 q11 => ?_)
          obtain ⟨Iq11, rfl, rq11, aq11, q11⟩ := q11
          rcases q11 with ⟨oq11, rfl, cnt, Nf, h2, h3, hc4, hop, hNn, hnil, hP⟩ | ⟨oq11, rfl⟩
          · skip
            show jx L xs _ 90 82 _ [.int (iI 1)] _ _
            refine jv_if_ne (t := 87) (pc' := 85) (a := 1) rfl rfl rfl (by omega) (fun hz_13 => ?_) (fun hz_13 => ?_)
            · skip
              refine jv_aload_n (pc' := 88) (k := 0) (x := 95) rfl rfl rfl rfl ?_
              refine jv_iconst (pc' := 89) (n := 0) rfl rfl ?_
              refine jv_putZ (pc' := 92) (c := 9) (k := 5) rfl rfl rfl rfl (fun _ _ _ hz => if_pos hz) rfl rfl (by first | exact Or.inl rfl | exact Or.inr rfl) ?_
              refine jv_iconst (pc' := 93) (n := 0) rfl rfl ?_
              refine jv_istore_n (pc' := 94) (k := 3) (x := (iI 0)) rfl rfl rfl rfl (Or.inr rfl) ?_
              have H14 : ∀ (N : Nat) (k : Nat) (I1 : Nat → Nat → Int32) (P : Prop), 64 - k < N → ((k : Int) ≤ s 0 2) → (fr wF I I1) → (I1 96 1 = iI ((cA c (a + 2) : Nat) : Int)) → (∀ k, I1 97 k = (jm_u Iq11 95 5 (iI 0)) 97 k) → (I1 95 5 = jb P) → (TJ c s a k P) → (∀ k, k ≠ 5 → I1 95 k = (jm_u Iq11 95 5 (iI 0)) 95 k) → ∀ f : jm_F, f 0 = some (.ref 95) → f 1 = some (.int (iI (c a - 48))) → f 2 = some (.int (iI (nmq c a))) → f 3 = some (.int (iI ((k : Nat) : Int))) → jx L xs ((d + 3)) 90 94 f [] (jx_G j I1 M p) (fun z => ∃ v g1, z = (.inl v, g1) ∧ (fun v g1 => ∃ I', g1 = jx_G j I' M p ∧ fr wF I I' ∧ I' 96 1 = iI ((tA c a : Nat) : Int) ∧ ((tO c a ∧ v = some (.int (iI 1)) ∧ I' 95 5 = jb (tV c s a)) ∨ (¬ tO c a ∧ v = some (.int (iI 0)) ∧ I' 95 5 = I 95 5))) v g1) := by
                intro N
                induction N with
                | zero => intro k I1 P hN; exact absurd hN (Nat.not_lt_zero _)
                | succ N ih =>
                  intro k I1 P hN hk hf ha1 h97 hT hJ h95 f hf0 hf1 hf2 hf3 
                  refine jv_iload_n (pc' := 95) (k := 3) (x := (iI ((k : Nat) : Int))) rfl rfl rfl hf3 ?_
                  have hD1 : DCe I1 M s := DCe_F hD hf
                  have hjr : ∀ k2 : Nat, k2 < k → (k2 : Int) < s 0 2 := fun k2 h => by omega
                  have h21 : I1 95 2 = iI (cnt : Int) := (h95 2 (by omega)).trans h2
                  have h31 : I1 95 3 = iI (c (a + 2)) := (h95 3 (by omega)).trans h3
                  have hN1 : ∀ i, i < cnt → I1 97 i = iI (Nf i) ∧ 0 ≤ Nf i ∧ Nf i < 1000000 := fun i hi => ⟨(h97 i).trans (hNn i hi).1, (hNn i hi).2⟩
                  refine jv_aload_n (pc' := 96) (k := 0) (x := 95) rfl rfl rfl hf0 ?_
                  refine jv_getR (pc' := 99) (c := 9) (k := 4) (v := 39) rfl rfl rfl (fun _ _ => rfl) rfl rfl hp22 ?_
                  refine jv_getI (pc' := 102) (c := 7) (k := 2) (v := (iI (s 0 2))) rfl rfl rfl (fun _ _ => rfl) rfl rfl hD1.2.2.1 ?_
                  refine jv_ic_ge (t := 156) (pc' := 105) (a := ((k : Nat) : Int)) (b := (s 0 2)) rfl rfl rfl (by omega) (fun hz_15 => ?_) (fun hz_15 => ?_)
                  · skip
                    refine jv_iconst (pc' := 157) (n := 1) rfl rfl ?_
                    refine jv_retZ rfl rfl (by first | exact Or.inl rfl | exact Or.inr rfl) ⟨_, _, rfl, ?_⟩
                    first
                    | (exfalso; omega)
                    | (have e1 : tA c a = cA c (a + 2) := (if_pos (by omega)).trans (if_pos (by omega))
                       have hx : P ↔ tV c s a := by
                         constructor
                         · intro z
                           obtain ⟨k2, y1, y2, y3⟩ := hJ.1 z
                           exact ⟨k2, hjr k2 y1, y2, y3⟩
                         · intro z
                           first
                           | assumption
                           | (obtain ⟨k2, y1, y2, y3⟩ := z
                              exact hJ.2 ⟨k2, by omega, y2, y3⟩)
                       exact ⟨_, rfl, hf, by rw [e1]; exact ha1, Or.inl ⟨⟨by omega, by omega, oq11⟩, rfl, by rw [← jb_e hx]; exact hT⟩⟩)
                  · skip
                    refine jv_aload_n (pc' := 106) (k := 0) (x := 95) rfl rfl rfl hf0 ?_
                    refine jv_getI (pc' := 109) (c := 9) (k := 5) (v := (jb P)) rfl rfl rfl (fun _ _ => rfl) rfl rfl hT ?_
                    refine jv_jb_ne (t := 156) (pc' := 112) (P := P) rfl rfl rfl (fun hz_16 => ?_) (fun hz_16 => ?_)
                    · skip
                      refine jv_iconst (pc' := 157) (n := 1) rfl rfl ?_
                      refine jv_retZ rfl rfl (by first | exact Or.inl rfl | exact Or.inr rfl) ⟨_, _, rfl, ?_⟩
                      first
                      | (exfalso; omega)
                      | (have e1 : tA c a = cA c (a + 2) := (if_pos (by omega)).trans (if_pos (by omega))
                         have hx : P ↔ tV c s a := by
                           constructor
                           · intro z
                             obtain ⟨k2, y1, y2, y3⟩ := hJ.1 z
                             exact ⟨k2, hjr k2 y1, y2, y3⟩
                           · intro z
                             first
                             | assumption
                             | (obtain ⟨k2, y1, y2, y3⟩ := z
                                exact hJ.2 ⟨k2, by omega, y2, y3⟩)
                         exact ⟨_, rfl, hf, by rw [e1]; exact ha1, Or.inl ⟨⟨by omega, by omega, oq11⟩, rfl, by rw [← jb_e hx]; exact hT⟩⟩)
                    · skip
                      have he := (hE k (by omega)).1
                      have hfi : fitP c (a + 2) (s 8 k) ↔ FTp cnt Nf (c (a + 2)) (s 8 k) := by
                        unfold fitP FTp
                        rw [← hP (fun x => fitN (c (a + 2)) (s 8 k) x), hnil]
                      refine jv_aload_n (pc' := 113) (k := 0) (x := 95) rfl rfl rfl hf0 ?_
                      refine jv_aload_n (pc' := 114) (k := 0) (x := 95) rfl rfl rfl hf0 ?_
                      refine jv_getR (pc' := 117) (c := 9) (k := 4) (v := 39) rfl rfl rfl (fun _ _ => rfl) rfl rfl hp22 ?_
                      refine jv_iload_n (pc' := 118) (k := 3) (x := (iI ((k : Nat) : Int))) rfl rfl rfl hf3 ?_
                      refine jv_iload_n (pc' := 119) (k := 1) (x := (iI (c a - 48))) rfl rfl rfl hf1 ?_
                      refine jv_iload_n (pc' := 120) (k := 2) (x := (iI (nmq c a))) rfl rfl rfl hf2 ?_
                      refine jv_call (pc' := 123) rfl (cl_isValued (I := I1) (k := k) (l := c a - 48) (nm := nmq c a) hD1 hE hc.2 (by omega) (by omega) (by omega)) (fun vq17 gq17 q17 => ?_)
                      obtain ⟨rfl, rfl⟩ := q17
                      show jx L xs _ 90 123 _ [.int (jb (VD s (c a - 48) (nmq c a) k)), .ref 95] _ _
                      refine jv_jb_eq (t := 146) (pc' := 126) (P := VD s (c a - 48) (nmq c a) k) rfl rfl rfl (fun hz_18 => ?_) (fun hz_18 => ?_)
                      · skip
                        refine jv_iconst (pc' := 147) (n := 0) rfl rfl ?_
                        refine jv_putZ (pc' := 150) (c := 9) (k := 5) rfl rfl rfl rfl (fun _ _ _ hz => if_pos hz) rfl rfl (by first | exact Or.inl rfl | exact Or.inr rfl) ?_
                        refine jv_iinc (pc' := 153) (k := 3) (a := ((k : Nat) : Int)) rfl rfl hf3 rfl (Or.inr (congrArg jm_lng hf2)) ?_
                        refine jx_step (pc' := 94) rfl ?_
                        exact ih (k + 1) (jm_u I1 95 5 (iI 0)) (VD s (c a - 48) (nmq c a) k ∧ fitP c (a + 2) (s 8 k)) (by omega) (by omega) (fr_u (by simp [wF]) hf) ha1 h97 (jb_f (by first | exact ⟨by assumption, hfi.2 (by assumption)⟩ | exact fun z => absurd z.1 (by assumption) | exact fun z => absurd (hfi.1 z.2) (by assumption))).symm (by
                              constructor
                              · intro z; exact ⟨k, by omega, z.1, z.2⟩
                              · intro z
                                obtain ⟨k2, y1, y2, y3⟩ := z
                                by_cases e : k2 = k
                                · subst e; exact ⟨y2, y3⟩
                                · exact absurd (hJ.2 ⟨k2, by omega, y2, y3⟩) (by assumption)) (fun k hk => (jm_u_n2 (by omega)).trans (h95 k hk)) _ hf0 hf1 hf2 rfl 
                      · skip
                        refine jv_aload_n (pc' := 127) (k := 0) (x := 95) rfl rfl rfl hf0 ?_
                        refine jv_aload_n (pc' := 128) (k := 0) (x := 95) rfl rfl rfl hf0 ?_
                        refine jv_getR (pc' := 131) (c := 9) (k := 4) (v := 39) rfl rfl rfl (fun _ _ => rfl) rfl rfl hp22 ?_
                        refine jv_getR (pc' := 134) (c := 7) (k := 1) (v := 41) rfl rfl rfl (fun _ _ => rfl) rfl rfl (jR_39_1 _) ?_
                        refine jv_iload_n (pc' := 135) (k := 3) (x := (iI ((k : Nat) : Int))) rfl rfl rfl hf3 ?_
                        refine jv_laload (pc' := 136) (n := 64) (e := ((k : Nat) : Int)) (v := (lI (s 8 k))) rfl rfl rfl rfl rfl (by omega) ((hD1.2.2.2 k (by omega)).2.2.2.2.2) ?_
                        refine jv_call (pc' := 139) rfl (cl_fits (I := I1) (cnt := cnt) (op := c (a + 2)) (Nf := Nf) (vv := s 8 k) h21 h31 hc4 hop he.2.2.2.2 hN1) (fun vq19 gq19 q19 => ?_)
                        obtain ⟨rfl, rfl⟩ := q19
                        show jx L xs _ 90 139 _ [.int (jb (FTp cnt Nf (c (a + 2)) (s 8 k))), .ref 95] _ _
                        refine jv_jb_eq (t := 146) (pc' := 142) (P := FTp cnt Nf (c (a + 2)) (s 8 k)) rfl rfl rfl (fun hz_20 => ?_) (fun hz_20 => ?_)
                        · skip
                          refine jv_iconst (pc' := 147) (n := 0) rfl rfl ?_
                          refine jv_putZ (pc' := 150) (c := 9) (k := 5) rfl rfl rfl rfl (fun _ _ _ hz => if_pos hz) rfl rfl (by first | exact Or.inl rfl | exact Or.inr rfl) ?_
                          refine jv_iinc (pc' := 153) (k := 3) (a := ((k : Nat) : Int)) rfl rfl hf3 rfl (Or.inr (congrArg jm_lng hf2)) ?_
                          refine jx_step (pc' := 94) rfl ?_
                          exact ih (k + 1) (jm_u I1 95 5 (iI 0)) (VD s (c a - 48) (nmq c a) k ∧ fitP c (a + 2) (s 8 k)) (by omega) (by omega) (fr_u (by simp [wF]) hf) ha1 h97 (jb_f (by first | exact ⟨by assumption, hfi.2 (by assumption)⟩ | exact fun z => absurd z.1 (by assumption) | exact fun z => absurd (hfi.1 z.2) (by assumption))).symm (by
                                constructor
                                · intro z; exact ⟨k, by omega, z.1, z.2⟩
                                · intro z
                                  obtain ⟨k2, y1, y2, y3⟩ := z
                                  by_cases e : k2 = k
                                  · subst e; exact ⟨y2, y3⟩
                                  · exact absurd (hJ.2 ⟨k2, by omega, y2, y3⟩) (by assumption)) (fun k hk => (jm_u_n2 (by omega)).trans (h95 k hk)) _ hf0 hf1 hf2 rfl 
                        · skip
                          refine jv_iconst (pc' := 143) (n := 1) rfl rfl ?_
                          refine jx_step (pc' := 147) rfl ?_
                          refine jv_putZ (pc' := 150) (c := 9) (k := 5) rfl rfl rfl rfl (fun _ _ _ hz => if_pos hz) rfl rfl (by first | exact Or.inl rfl | exact Or.inr rfl) ?_
                          refine jv_iinc (pc' := 153) (k := 3) (a := ((k : Nat) : Int)) rfl rfl hf3 rfl (Or.inr (congrArg jm_lng hf2)) ?_
                          refine jx_step (pc' := 94) rfl ?_
                          exact ih (k + 1) (jm_u I1 95 5 (iI 1)) (VD s (c a - 48) (nmq c a) k ∧ fitP c (a + 2) (s 8 k)) (by omega) (by omega) (fr_u (by simp [wF]) hf) ha1 h97 (jb_t (by first | exact ⟨by assumption, hfi.2 (by assumption)⟩ | exact fun z => absurd z.1 (by assumption) | exact fun z => absurd (hfi.1 z.2) (by assumption))).symm (by
                                constructor
                                · intro z; exact ⟨k, by omega, z.1, z.2⟩
                                · intro z
                                  obtain ⟨k2, y1, y2, y3⟩ := z
                                  by_cases e : k2 = k
                                  · subst e; exact ⟨y2, y3⟩
                                  · exact absurd (hJ.2 ⟨k2, by omega, y2, y3⟩) (by assumption)) (fun k hk => (jm_u_n2 (by omega)).trans (h95 k hk)) _ hf0 hf1 hf2 rfl 
              exact H14 _ 0 (jm_u Iq11 95 5 (iI 0)) False (Nat.lt_succ_self _) (by omega) (fr_u (by simp [wF]) (fr_t (fr_u (by simp [wF]) (fr_u (by simp [wF]) (fr_r _))) (fr_w rq11 wF_0))) aq11 (fun k => rfl) (jb_f (fun z : False => z)).symm ⟨False.elim, fun ⟨k2, y, _⟩ => absurd y (by omega)⟩ (fun k hk => rfl) _ rfl rfl rfl rfl 
            · skip
              exact absurd hz_13 (by decide)
          · skip
            show jx L xs _ 90 82 _ [.int (iI 0)] _ _
            refine jv_if_ne (t := 87) (pc' := 85) (a := 0) rfl rfl rfl (by omega) (fun hz_21 => ?_) (fun hz_21 => ?_)
            · skip
              exact absurd hz_21 (by decide)
            · skip
              refine jv_iconst (pc' := 86) (n := 0) rfl rfl ?_
              refine jv_retZ rfl rfl (by first | exact Or.inl rfl | exact Or.inr rfl) ⟨_, _, rfl, ?_⟩
              first
              | (exfalso; omega)
              | (have e1 : tA c a = cA c (a + 2) := (if_pos (by omega)).trans (if_pos (by omega))
                 exact ⟨_, rfl, (fr_t (fr_u (by simp [wF]) (fr_u (by simp [wF]) (fr_r _))) (fr_w rq11 wF_0)), by rw [e1]; exact aq11, Or.inr ⟨fun z => oq11 z.2.2, rfl, (rq11 95 5 (by simp [wF0])).trans rfl⟩⟩)
        · skip
          refine jv_iconst (pc' := 64) (n := 0) rfl rfl ?_
          refine jv_retZ rfl rfl (by first | exact Or.inl rfl | exact Or.inr rfl) ⟨_, _, rfl, ?_⟩
          first
          | (exfalso; omega)
          | (have e1 : tA c a = a + 1 := (if_pos (by omega)).trans (if_neg (by omega))
             exact ⟨_, rfl, (fr_u (by simp [wF]) (fr_r _)), by rw [e1]; exact rfl, Or.inr ⟨fun z => by have := z.2.1; omega, rfl, rfl⟩⟩)
    · skip
      refine jv_call (pc' := 42) rfl (cl_sees_n_q (I := jm_u I 96 1 (iI (((a : Nat) : Int) + 1))) (a := a + 1) hl C5 rfl hp (by omega) (x := 36) (by omega) hk7) (fun vq22 gq22 q22 => ?_)
      obtain ⟨rfl, rfl⟩ := q22
      show jx L xs _ 90 42 _ [.int (iI 0)] _ _
      refine jv_if_eq (t := 50) (pc' := 45) (a := 0) rfl rfl rfl (by omega) (fun hz_23 => ?_) (fun hz_23 => ?_)
      · skip
        refine jv_aload_n (pc' := 51) (k := 0) (x := 95) rfl rfl rfl rfl ?_
        refine jv_getR (pc' := 54) (c := 9) (k := 0) (v := 96) rfl rfl rfl (fun _ _ => rfl) rfl rfl (jR_95_0 _) ?_
        have hm24 := CT_c C5 (a + 1)
        have ho24 := CT_or C5 (a + 1)
        by_cases hk25 : 97 ≤ c (a + 1) ∧ c (a + 1) ≤ 104
        · skip
          refine jv_call (pc' := 57) rfl (cl_seenName_y_q (I := jm_u I 96 1 (iI (((a : Nat) : Int) + 1))) (a := a + 1) hl C5 rfl hp (by omega) hk25) (fun vq26 gq26 q26 => ?_)
          obtain ⟨rfl, rfl⟩ := q26
          show jx L xs _ 90 57 _ [.int (iI (c (a + 1) - 97))] _ _
          rw [show c (a + 1) - 97 = nmq c a by unfold nmq; first | (rw [if_pos (by assumption)]) | (rw [if_neg (by assumption)])]
          have hq1 : nmq c a ≠ -1 := by unfold nmq; split <;> omega
          refine jv_istore_n (pc' := 58) (k := 2) (x := (iI (nmq c a))) rfl rfl rfl rfl (Or.inr rfl) ?_
          refine jv_iload_n (pc' := 59) (k := 2) (x := (iI (nmq c a))) rfl rfl rfl rfl ?_
          refine jv_iconst (pc' := 60) (n := -1) rfl rfl ?_
          refine jv_ic_ne (t := 65) (pc' := 63) (a := (nmq c a)) (b := (-1)) rfl rfl rfl (by omega) (fun hz_27 => ?_) (fun hz_27 => ?_)
          · skip
            refine jv_aload_n (pc' := 66) (k := 0) (x := 95) rfl rfl rfl rfl ?_
            refine jv_getR (pc' := 69) (c := 9) (k := 0) (v := 96) rfl rfl rfl (fun _ _ => rfl) rfl rfl (jR_95_0 _) ?_
            refine jx_step (pc' := 70) rfl ?_
            refine jv_getI (pc' := 73) (c := 4) (k := 1) (v := (iI ((a + 1 : Nat) : Int))) rfl rfl rfl (fun _ _ => rfl) rfl rfl rfl ?_
            refine jv_iconst (pc' := 74) (n := 1) rfl rfl ?_
            refine jv_iadd (pc' := 75) (a := ((a + 1 : Nat) : Int)) (b := 1) rfl rfl ?_
            refine jv_putI (pc' := 78) (c := 4) (k := 1) rfl rfl rfl rfl (fun _ _ _  => rfl) rfl rfl ?_
            refine jv_aload_n (pc' := 79) (k := 0) (x := 95) rfl rfl rfl rfl ?_
            have C29 : CT (jm_u (jm_u I 96 1 (iI (((a : Nat) : Int) + 1))) 96 1 (iI (((a + 1 : Nat) : Int) + 1))) t c n := CT_fr (W := wF) (I := jm_u I 96 1 (iI (((a : Nat) : Int) + 1))) (t := t) (c := c) (n := n) C5 (fr_u (by simp [wF]) (fr_r _)) (by unfold wF; omega) (by intro k; unfold wF; omega)
            refine jv_call (pc' := 82) rfl (cl_readComparison (I := jm_u (jm_u I 96 1 (iI (((a : Nat) : Int) + 1))) 96 1 (iI (((a + 1 : Nat) : Int) + 1))) (a := a + 2) hl C29 rfl hp (by omega)) (fun vq28 gq28 q28 => ?_)
            obtain ⟨Iq28, rfl, rq28, aq28, q28⟩ := q28
            rcases q28 with ⟨oq28, rfl, cnt, Nf, h2, h3, hc4, hop, hNn, hnil, hP⟩ | ⟨oq28, rfl⟩
            · skip
              show jx L xs _ 90 82 _ [.int (iI 1)] _ _
              refine jv_if_ne (t := 87) (pc' := 85) (a := 1) rfl rfl rfl (by omega) (fun hz_30 => ?_) (fun hz_30 => ?_)
              · skip
                refine jv_aload_n (pc' := 88) (k := 0) (x := 95) rfl rfl rfl rfl ?_
                refine jv_iconst (pc' := 89) (n := 0) rfl rfl ?_
                refine jv_putZ (pc' := 92) (c := 9) (k := 5) rfl rfl rfl rfl (fun _ _ _ hz => if_pos hz) rfl rfl (by first | exact Or.inl rfl | exact Or.inr rfl) ?_
                refine jv_iconst (pc' := 93) (n := 0) rfl rfl ?_
                refine jv_istore_n (pc' := 94) (k := 3) (x := (iI 0)) rfl rfl rfl rfl (Or.inr rfl) ?_
                have H31 : ∀ (N : Nat) (k : Nat) (I1 : Nat → Nat → Int32) (P : Prop), 64 - k < N → ((k : Int) ≤ s 0 2) → (fr wF I I1) → (I1 96 1 = iI ((cA c (a + 2) : Nat) : Int)) → (∀ k, I1 97 k = (jm_u Iq28 95 5 (iI 0)) 97 k) → (I1 95 5 = jb P) → (TJ c s a k P) → (∀ k, k ≠ 5 → I1 95 k = (jm_u Iq28 95 5 (iI 0)) 95 k) → ∀ f : jm_F, f 0 = some (.ref 95) → f 1 = some (.int (iI (c a - 48))) → f 2 = some (.int (iI (nmq c a))) → f 3 = some (.int (iI ((k : Nat) : Int))) → jx L xs ((d + 3)) 90 94 f [] (jx_G j I1 M p) (fun z => ∃ v g1, z = (.inl v, g1) ∧ (fun v g1 => ∃ I', g1 = jx_G j I' M p ∧ fr wF I I' ∧ I' 96 1 = iI ((tA c a : Nat) : Int) ∧ ((tO c a ∧ v = some (.int (iI 1)) ∧ I' 95 5 = jb (tV c s a)) ∨ (¬ tO c a ∧ v = some (.int (iI 0)) ∧ I' 95 5 = I 95 5))) v g1) := by
                  intro N
                  induction N with
                  | zero => intro k I1 P hN; exact absurd hN (Nat.not_lt_zero _)
                  | succ N ih =>
                    intro k I1 P hN hk hf ha1 h97 hT hJ h95 f hf0 hf1 hf2 hf3 
                    refine jv_iload_n (pc' := 95) (k := 3) (x := (iI ((k : Nat) : Int))) rfl rfl rfl hf3 ?_
                    have hD1 : DCe I1 M s := DCe_F hD hf
                    have hjr : ∀ k2 : Nat, k2 < k → (k2 : Int) < s 0 2 := fun k2 h => by omega
                    have h21 : I1 95 2 = iI (cnt : Int) := (h95 2 (by omega)).trans h2
                    have h31 : I1 95 3 = iI (c (a + 2)) := (h95 3 (by omega)).trans h3
                    have hN1 : ∀ i, i < cnt → I1 97 i = iI (Nf i) ∧ 0 ≤ Nf i ∧ Nf i < 1000000 := fun i hi => ⟨(h97 i).trans (hNn i hi).1, (hNn i hi).2⟩
                    refine jv_aload_n (pc' := 96) (k := 0) (x := 95) rfl rfl rfl hf0 ?_
                    refine jv_getR (pc' := 99) (c := 9) (k := 4) (v := 39) rfl rfl rfl (fun _ _ => rfl) rfl rfl hp22 ?_
                    refine jv_getI (pc' := 102) (c := 7) (k := 2) (v := (iI (s 0 2))) rfl rfl rfl (fun _ _ => rfl) rfl rfl hD1.2.2.1 ?_
                    refine jv_ic_ge (t := 156) (pc' := 105) (a := ((k : Nat) : Int)) (b := (s 0 2)) rfl rfl rfl (by omega) (fun hz_32 => ?_) (fun hz_32 => ?_)
                    · skip
                      refine jv_iconst (pc' := 157) (n := 1) rfl rfl ?_
                      refine jv_retZ rfl rfl (by first | exact Or.inl rfl | exact Or.inr rfl) ⟨_, _, rfl, ?_⟩
                      first
                      | (exfalso; omega)
                      | (have e1 : tA c a = cA c (a + 2) := (if_pos (by omega)).trans (if_pos (by omega))
                         have hx : P ↔ tV c s a := by
                           constructor
                           · intro z
                             obtain ⟨k2, y1, y2, y3⟩ := hJ.1 z
                             exact ⟨k2, hjr k2 y1, y2, y3⟩
                           · intro z
                             first
                             | assumption
                             | (obtain ⟨k2, y1, y2, y3⟩ := z
                                exact hJ.2 ⟨k2, by omega, y2, y3⟩)
                         exact ⟨_, rfl, hf, by rw [e1]; exact ha1, Or.inl ⟨⟨by omega, by omega, oq28⟩, rfl, by rw [← jb_e hx]; exact hT⟩⟩)
                    · skip
                      refine jv_aload_n (pc' := 106) (k := 0) (x := 95) rfl rfl rfl hf0 ?_
                      refine jv_getI (pc' := 109) (c := 9) (k := 5) (v := (jb P)) rfl rfl rfl (fun _ _ => rfl) rfl rfl hT ?_
                      refine jv_jb_ne (t := 156) (pc' := 112) (P := P) rfl rfl rfl (fun hz_33 => ?_) (fun hz_33 => ?_)
                      · skip
                        refine jv_iconst (pc' := 157) (n := 1) rfl rfl ?_
                        refine jv_retZ rfl rfl (by first | exact Or.inl rfl | exact Or.inr rfl) ⟨_, _, rfl, ?_⟩
                        first
                        | (exfalso; omega)
                        | (have e1 : tA c a = cA c (a + 2) := (if_pos (by omega)).trans (if_pos (by omega))
                           have hx : P ↔ tV c s a := by
                             constructor
                             · intro z
                               obtain ⟨k2, y1, y2, y3⟩ := hJ.1 z
                               exact ⟨k2, hjr k2 y1, y2, y3⟩
                             · intro z
                               first
                               | assumption
                               | (obtain ⟨k2, y1, y2, y3⟩ := z
                                  exact hJ.2 ⟨k2, by omega, y2, y3⟩)
                           exact ⟨_, rfl, hf, by rw [e1]; exact ha1, Or.inl ⟨⟨by omega, by omega, oq28⟩, rfl, by rw [← jb_e hx]; exact hT⟩⟩)
                      · skip
                        have he := (hE k (by omega)).1
                        have hfi : fitP c (a + 2) (s 8 k) ↔ FTp cnt Nf (c (a + 2)) (s 8 k) := by
                          unfold fitP FTp
                          rw [← hP (fun x => fitN (c (a + 2)) (s 8 k) x), hnil]
                        refine jv_aload_n (pc' := 113) (k := 0) (x := 95) rfl rfl rfl hf0 ?_
                        refine jv_aload_n (pc' := 114) (k := 0) (x := 95) rfl rfl rfl hf0 ?_
                        refine jv_getR (pc' := 117) (c := 9) (k := 4) (v := 39) rfl rfl rfl (fun _ _ => rfl) rfl rfl hp22 ?_
                        refine jv_iload_n (pc' := 118) (k := 3) (x := (iI ((k : Nat) : Int))) rfl rfl rfl hf3 ?_
                        refine jv_iload_n (pc' := 119) (k := 1) (x := (iI (c a - 48))) rfl rfl rfl hf1 ?_
                        refine jv_iload_n (pc' := 120) (k := 2) (x := (iI (nmq c a))) rfl rfl rfl hf2 ?_
                        refine jv_call (pc' := 123) rfl (cl_isValued (I := I1) (k := k) (l := c a - 48) (nm := nmq c a) hD1 hE hc.2 (by omega) (by omega) (by omega)) (fun vq34 gq34 q34 => ?_)
                        obtain ⟨rfl, rfl⟩ := q34
                        show jx L xs _ 90 123 _ [.int (jb (VD s (c a - 48) (nmq c a) k)), .ref 95] _ _
                        refine jv_jb_eq (t := 146) (pc' := 126) (P := VD s (c a - 48) (nmq c a) k) rfl rfl rfl (fun hz_35 => ?_) (fun hz_35 => ?_)
                        · skip
                          refine jv_iconst (pc' := 147) (n := 0) rfl rfl ?_
                          refine jv_putZ (pc' := 150) (c := 9) (k := 5) rfl rfl rfl rfl (fun _ _ _ hz => if_pos hz) rfl rfl (by first | exact Or.inl rfl | exact Or.inr rfl) ?_
                          refine jv_iinc (pc' := 153) (k := 3) (a := ((k : Nat) : Int)) rfl rfl hf3 rfl (Or.inr (congrArg jm_lng hf2)) ?_
                          refine jx_step (pc' := 94) rfl ?_
                          exact ih (k + 1) (jm_u I1 95 5 (iI 0)) (VD s (c a - 48) (nmq c a) k ∧ fitP c (a + 2) (s 8 k)) (by omega) (by omega) (fr_u (by simp [wF]) hf) ha1 h97 (jb_f (by first | exact ⟨by assumption, hfi.2 (by assumption)⟩ | exact fun z => absurd z.1 (by assumption) | exact fun z => absurd (hfi.1 z.2) (by assumption))).symm (by
                                constructor
                                · intro z; exact ⟨k, by omega, z.1, z.2⟩
                                · intro z
                                  obtain ⟨k2, y1, y2, y3⟩ := z
                                  by_cases e : k2 = k
                                  · subst e; exact ⟨y2, y3⟩
                                  · exact absurd (hJ.2 ⟨k2, by omega, y2, y3⟩) (by assumption)) (fun k hk => (jm_u_n2 (by omega)).trans (h95 k hk)) _ hf0 hf1 hf2 rfl 
                        · skip
                          refine jv_aload_n (pc' := 127) (k := 0) (x := 95) rfl rfl rfl hf0 ?_
                          refine jv_aload_n (pc' := 128) (k := 0) (x := 95) rfl rfl rfl hf0 ?_
                          refine jv_getR (pc' := 131) (c := 9) (k := 4) (v := 39) rfl rfl rfl (fun _ _ => rfl) rfl rfl hp22 ?_
                          refine jv_getR (pc' := 134) (c := 7) (k := 1) (v := 41) rfl rfl rfl (fun _ _ => rfl) rfl rfl (jR_39_1 _) ?_
                          refine jv_iload_n (pc' := 135) (k := 3) (x := (iI ((k : Nat) : Int))) rfl rfl rfl hf3 ?_
                          refine jv_laload (pc' := 136) (n := 64) (e := ((k : Nat) : Int)) (v := (lI (s 8 k))) rfl rfl rfl rfl rfl (by omega) ((hD1.2.2.2 k (by omega)).2.2.2.2.2) ?_
                          refine jv_call (pc' := 139) rfl (cl_fits (I := I1) (cnt := cnt) (op := c (a + 2)) (Nf := Nf) (vv := s 8 k) h21 h31 hc4 hop he.2.2.2.2 hN1) (fun vq36 gq36 q36 => ?_)
                          obtain ⟨rfl, rfl⟩ := q36
                          show jx L xs _ 90 139 _ [.int (jb (FTp cnt Nf (c (a + 2)) (s 8 k))), .ref 95] _ _
                          refine jv_jb_eq (t := 146) (pc' := 142) (P := FTp cnt Nf (c (a + 2)) (s 8 k)) rfl rfl rfl (fun hz_37 => ?_) (fun hz_37 => ?_)
                          · skip
                            refine jv_iconst (pc' := 147) (n := 0) rfl rfl ?_
                            refine jv_putZ (pc' := 150) (c := 9) (k := 5) rfl rfl rfl rfl (fun _ _ _ hz => if_pos hz) rfl rfl (by first | exact Or.inl rfl | exact Or.inr rfl) ?_
                            refine jv_iinc (pc' := 153) (k := 3) (a := ((k : Nat) : Int)) rfl rfl hf3 rfl (Or.inr (congrArg jm_lng hf2)) ?_
                            refine jx_step (pc' := 94) rfl ?_
                            exact ih (k + 1) (jm_u I1 95 5 (iI 0)) (VD s (c a - 48) (nmq c a) k ∧ fitP c (a + 2) (s 8 k)) (by omega) (by omega) (fr_u (by simp [wF]) hf) ha1 h97 (jb_f (by first | exact ⟨by assumption, hfi.2 (by assumption)⟩ | exact fun z => absurd z.1 (by assumption) | exact fun z => absurd (hfi.1 z.2) (by assumption))).symm (by
                                  constructor
                                  · intro z; exact ⟨k, by omega, z.1, z.2⟩
                                  · intro z
                                    obtain ⟨k2, y1, y2, y3⟩ := z
                                    by_cases e : k2 = k
                                    · subst e; exact ⟨y2, y3⟩
                                    · exact absurd (hJ.2 ⟨k2, by omega, y2, y3⟩) (by assumption)) (fun k hk => (jm_u_n2 (by omega)).trans (h95 k hk)) _ hf0 hf1 hf2 rfl 
                          · skip
                            refine jv_iconst (pc' := 143) (n := 1) rfl rfl ?_
                            refine jx_step (pc' := 147) rfl ?_
                            refine jv_putZ (pc' := 150) (c := 9) (k := 5) rfl rfl rfl rfl (fun _ _ _ hz => if_pos hz) rfl rfl (by first | exact Or.inl rfl | exact Or.inr rfl) ?_
                            refine jv_iinc (pc' := 153) (k := 3) (a := ((k : Nat) : Int)) rfl rfl hf3 rfl (Or.inr (congrArg jm_lng hf2)) ?_
                            refine jx_step (pc' := 94) rfl ?_
                            exact ih (k + 1) (jm_u I1 95 5 (iI 1)) (VD s (c a - 48) (nmq c a) k ∧ fitP c (a + 2) (s 8 k)) (by omega) (by omega) (fr_u (by simp [wF]) hf) ha1 h97 (jb_t (by first | exact ⟨by assumption, hfi.2 (by assumption)⟩ | exact fun z => absurd z.1 (by assumption) | exact fun z => absurd (hfi.1 z.2) (by assumption))).symm (by
                                  constructor
                                  · intro z; exact ⟨k, by omega, z.1, z.2⟩
                                  · intro z
                                    obtain ⟨k2, y1, y2, y3⟩ := z
                                    by_cases e : k2 = k
                                    · subst e; exact ⟨y2, y3⟩
                                    · exact absurd (hJ.2 ⟨k2, by omega, y2, y3⟩) (by assumption)) (fun k hk => (jm_u_n2 (by omega)).trans (h95 k hk)) _ hf0 hf1 hf2 rfl 
                exact H31 _ 0 (jm_u Iq28 95 5 (iI 0)) False (Nat.lt_succ_self _) (by omega) (fr_u (by simp [wF]) (fr_t (fr_u (by simp [wF]) (fr_u (by simp [wF]) (fr_r _))) (fr_w rq28 wF_0))) aq28 (fun k => rfl) (jb_f (fun z : False => z)).symm ⟨False.elim, fun ⟨k2, y, _⟩ => absurd y (by omega)⟩ (fun k hk => rfl) _ rfl rfl rfl rfl 
              · skip
                exact absurd hz_30 (by decide)
            · skip
              show jx L xs _ 90 82 _ [.int (iI 0)] _ _
              refine jv_if_ne (t := 87) (pc' := 85) (a := 0) rfl rfl rfl (by omega) (fun hz_38 => ?_) (fun hz_38 => ?_)
              · skip
                exact absurd hz_38 (by decide)
              · skip
                refine jv_iconst (pc' := 86) (n := 0) rfl rfl ?_
                refine jv_retZ rfl rfl (by first | exact Or.inl rfl | exact Or.inr rfl) ⟨_, _, rfl, ?_⟩
                first
                | (exfalso; omega)
                | (have e1 : tA c a = cA c (a + 2) := (if_pos (by omega)).trans (if_pos (by omega))
                   exact ⟨_, rfl, (fr_t (fr_u (by simp [wF]) (fr_u (by simp [wF]) (fr_r _))) (fr_w rq28 wF_0)), by rw [e1]; exact aq28, Or.inr ⟨fun z => oq28 z.2.2, rfl, (rq28 95 5 (by simp [wF0])).trans rfl⟩⟩)
          · skip
            refine jv_iconst (pc' := 64) (n := 0) rfl rfl ?_
            refine jv_retZ rfl rfl (by first | exact Or.inl rfl | exact Or.inr rfl) ⟨_, _, rfl, ?_⟩
            first
            | (exfalso; omega)
            | (have e1 : tA c a = a + 1 := (if_pos (by omega)).trans (if_neg (by omega))
               exact ⟨_, rfl, (fr_u (by simp [wF]) (fr_r _)), by rw [e1]; exact rfl, Or.inr ⟨fun z => by have := z.2.1; omega, rfl, rfl⟩⟩)
        · skip
          refine jv_call (pc' := 57) rfl (cl_seenName_n_q (I := jm_u I 96 1 (iI (((a : Nat) : Int) + 1))) (a := a + 1) hl C5 rfl hp (by omega) hk25) (fun vq39 gq39 q39 => ?_)
          obtain ⟨rfl, rfl⟩ := q39
          show jx L xs _ 90 57 _ [.int (iI (-1))] _ _
          refine jv_istore_n (pc' := 58) (k := 2) (x := (iI (-1))) rfl rfl rfl rfl (Or.inr rfl) ?_
          refine jv_iload_n (pc' := 59) (k := 2) (x := (iI (-1))) rfl rfl rfl rfl ?_
          refine jv_iconst (pc' := 60) (n := -1) rfl rfl ?_
          refine jv_ic_ne (t := 65) (pc' := 63) (a := (-1)) (b := (-1)) rfl rfl rfl (by omega) (fun hz_40 => ?_) (fun hz_40 => ?_)
          · skip
            exact absurd hz_40 (by decide)
          · skip
            refine jv_iconst (pc' := 64) (n := 0) rfl rfl ?_
            refine jv_retZ rfl rfl (by first | exact Or.inl rfl | exact Or.inr rfl) ⟨_, _, rfl, ?_⟩
            first
            | (exfalso; omega)
            | (have e1 : tA c a = a + 1 := (if_pos (by omega)).trans (if_neg (by omega))
               exact ⟨_, rfl, (fr_u (by simp [wF]) (fr_r _)), by rw [e1]; exact rfl, Or.inr ⟨fun z => by have := z.2.1; omega, rfl, rfl⟩⟩)
      · skip
        exact absurd hz_23 (by decide)
  · skip
    refine jv_iconst (pc' := 19) (n := 0) rfl rfl ?_
    refine jv_retZ rfl rfl (by first | exact Or.inl rfl | exact Or.inr rfl) ⟨_, _, rfl, ?_⟩
    first
    | (exfalso; omega)
    | (have e1 : tA c a = a := if_neg (by omega)
       exact ⟨_, rfl, (fr_r _), by rw [e1]; exact ha, Or.inr ⟨fun z => by have := z.1; omega, rfl, rfl⟩⟩)
end F1
