/-! printed by wip/whole/gen/g5.py: filters as the operations use them -/
def FS (s : DSt) (l nm r : Int) : Prop := (∃ k : Nat, r = (k : Int) ∧ (k : Int) < s 0 2 ∧ VD s l nm k ∧ ∀ i, i < k → ¬ VD s l nm i) ∨ (r = -1 ∧ ∀ k : Nat, (k : Int) < s 0 2 → ¬ VD s l nm k)
theorem FS_det {s : DSt} {l nm r1 r2 : Int} (h : FS s l nm r1) (q : FS s l nm r2) : r1 = r2 := by
  rcases h with ⟨k, rfl, h1, h2, h3⟩ | ⟨rfl, h1⟩ <;> rcases q with ⟨m, rfl, q1, q2, q3⟩ | ⟨rfl, q1⟩
  · by_cases e : k < m
    · exact absurd h2 (q3 k e)
    · by_cases e2 : m < k
      · exact absurd q2 (h3 m e2)
      · congr 1; omega
  · exact absurd h2 (q1 k h1)
  · exact absurd q2 (h1 m q1)
  · rfl
def FSj (s : DSt) (l nm : Int) (k : Nat) : Prop := ∀ i, i < k → ¬ VD s l nm i
theorem QE_le {c : Nat → Int} {n : Nat} (hn : ∀ k, n ≤ k → c k = -1) (h80 : n ≤ 80) {ok : Bool} {e : Nat} : ∀ {k md a : Nat} {ks : List Bool}, QE c n k md a ks ok e → e ≤ 80 := by
  intro k
  induction k with
  | zero =>
    intro md a ks h
    have hb := h.1.1
    rcases h.2 with z | z | z | z
    · have := z.2.2.2.2; omega
    · have e1 := z.2.2.2.2
      by_cases ha : a ≤ n
      · have := tA_b hn ha; omega
      · have h0 := hn a (by omega)
        have : tA c a = a := if_neg (by omega)
        omega
    · have := z.2.2.2.2; omega
    · have := z.2.2.2.2; omega
  | succ k ih => intro md a ks h; obtain ⟨_, x, y, z, _, h⟩ := h; exact ih h
theorem QF_1 {c : Nat → Int} {n a : Nat} (ha : a ≤ 80) (h : c a ≠ 38 ∧ c a ≠ 124) : QE c n 0 1 a [] (decide (a = n)) a := ⟨⟨ha, by simp⟩, Or.inr (Or.inr (Or.inl ⟨rfl, rfl, h, rfl, rfl⟩))⟩
section G5
variable {L : Nat} {xs : Nat → Int32} {d j : Nat} {I : Nat → Nat → Int32} {M : Nat → Nat → Int64} {p : Nat → Option Nat}
variable {s : DSt} {W : Nat → Nat → Int} {sz : Nat} {l nm : Int}
theorem cl_first (hD : DCe I M s) (hE : EP W sz s) (hc : 0 ≤ s 0 2 ∧ s 0 2 ≤ 64) (hl : iR l) (hn : iR nm) : jc L xs (d + 2) 77 [.ref 39, .int (iI l), .int (iI nm)] (jx_G j I M p) (fun v g1 => ∃ r : Int, v = some (.int (iI r)) ∧ g1 = jx_G j I M p ∧ FS s l nm r) := by
  unfold jc
  refine jv_iconst (pc' := 1) (n := 0) rfl rfl ?_
  refine jv_istore_n (pc' := 2) (k := 3) (x := (iI 0)) rfl rfl rfl rfl (Or.inr rfl) ?_
  have H1 : ∀ (N : Nat) (k : Nat), 64 - k < N → ((k : Int) ≤ s 0 2) → (FSj s l nm k) → ∀ f : jm_F, f 0 = some (.ref 39) → f 1 = some (.int (iI l)) → f 2 = some (.int (iI nm)) → f 3 = some (.int (iI ((k : Nat) : Int))) → jx L xs ((d + 2)) 77 2 f [] (jx_G j I M p) (fun z => ∃ v g1, z = (.inl v, g1) ∧ (fun v g1 => ∃ r : Int, v = some (.int (iI r)) ∧ g1 = jx_G j I M p ∧ FS s l nm r) v g1) := by
    intro N
    induction N with
    | zero => intro k hN; exact absurd hN (Nat.not_lt_zero _)
    | succ N ih =>
      intro k hN hk hJ f hf0 hf1 hf2 hf3 
      refine jv_iload_n (pc' := 3) (k := 3) (x := (iI ((k : Nat) : Int))) rfl rfl rfl hf3 ?_
      refine jv_aload_n (pc' := 4) (k := 0) (x := 39) rfl rfl rfl hf0 ?_
      refine jv_getI (pc' := 7) (c := 7) (k := 2) (v := (iI (s 0 2))) rfl rfl rfl (fun _ _ => rfl) rfl rfl hD.2.2.1 ?_
      refine jv_ic_ge (t := 28) (pc' := 10) (a := ((k : Nat) : Int)) (b := (s 0 2)) rfl rfl rfl (by omega) (fun hz_2 => ?_) (fun hz_2 => ?_)
      · skip
        refine jv_iconst (pc' := 29) (n := -1) rfl rfl ?_
        refine jv_retI rfl rfl ⟨_, _, rfl, ?_⟩
        exact ⟨-1, rfl, rfl, Or.inr ⟨rfl, fun i hi => hJ i (by omega)⟩⟩
      · skip
        refine jv_aload_n (pc' := 11) (k := 0) (x := 39) rfl rfl rfl hf0 ?_
        refine jv_iload_n (pc' := 12) (k := 3) (x := (iI ((k : Nat) : Int))) rfl rfl rfl hf3 ?_
        refine jv_iload_n (pc' := 13) (k := 1) (x := (iI l)) rfl rfl rfl hf1 ?_
        refine jv_iload_n (pc' := 14) (k := 2) (x := (iI nm)) rfl rfl rfl hf2 ?_
        refine jv_call (pc' := 17) rfl (cl_isValued (k := k) hD hE hc.2 (by omega) hl hn) (fun vq3 gq3 q3 => ?_)
        obtain ⟨rfl, rfl⟩ := q3
        show jx L xs _ 77 17 _ [.int (jb (VD s l nm k))] _ _
        refine jv_jb_eq (t := 22) (pc' := 20) (P := VD s l nm k) rfl rfl rfl (fun hz_4 => ?_) (fun hz_4 => ?_)
        · skip
          refine jv_iinc (pc' := 25) (k := 3) (a := ((k : Nat) : Int)) rfl rfl hf3 rfl (Or.inr (congrArg jm_lng hf2)) ?_
          refine jx_step (pc' := 2) rfl ?_
          exact ih (k + 1) (by omega) (by omega) (fun i hi => by
                by_cases e : i = k
                · subst e; first | assumption | (intro z; obtain ⟨z1, z2, z3, z4⟩ := z; first | omega | contradiction)
                · exact hJ i (by omega)) _ hf0 hf1 hf2 rfl 
        · skip
          refine jv_iload_n (pc' := 21) (k := 3) (x := (iI ((k : Nat) : Int))) rfl rfl rfl hf3 ?_
          refine jv_retI rfl rfl ⟨_, _, rfl, ?_⟩
          exact ⟨_, rfl, rfl, Or.inl ⟨k, rfl, by omega, (by first | assumption | exact ⟨by omega, by omega, by omega, by omega⟩), hJ⟩⟩
  exact H1 _ 0 (Nat.lt_succ_self _) (by omega) (fun i hi => absurd hi (by omega)) _ rfl rfl rfl rfl 
theorem ml_first (hM : DMe I M s) (hE : EP W sz s) (hc : 0 ≤ s 0 2 ∧ s 0 2 ≤ 64) (hl : iR l) (hn : iR nm) : jc L xs (d + 1) 163 [.ref 103, .int (iI l), .int (iI nm)] (jx_G j I M p) (fun v g1 => ∃ r : Int, v = some (.int (iI r)) ∧ g1 = jx_G j I M p ∧ FS s l nm r) := by
  unfold jc
  refine jv_iconst (pc' := 1) (n := 0) rfl rfl ?_
  refine jv_istore_n (pc' := 2) (k := 3) (x := (iI 0)) rfl rfl rfl rfl (Or.inr rfl) ?_
  have H1 : ∀ (N : Nat) (k : Nat), 64 - k < N → ((k : Int) ≤ s 0 2) → (FSj s l nm k) → ∀ f : jm_F, f 0 = some (.ref 103) → f 1 = some (.int (iI l)) → f 2 = some (.int (iI nm)) → f 3 = some (.int (iI ((k : Nat) : Int))) → jx L xs ((d + 1)) 163 2 f [] (jx_G j I M p) (fun z => ∃ v g1, z = (.inl v, g1) ∧ (fun v g1 => ∃ r : Int, v = some (.int (iI r)) ∧ g1 = jx_G j I M p ∧ FS s l nm r) v g1) := by
    intro N
    induction N with
    | zero => intro k hN; exact absurd hN (Nat.not_lt_zero _)
    | succ N ih =>
      intro k hN hk hJ f hf0 hf1 hf2 hf3 
      refine jv_iload_n (pc' := 3) (k := 3) (x := (iI ((k : Nat) : Int))) rfl rfl rfl hf3 ?_
      refine jv_aload_n (pc' := 4) (k := 0) (x := 103) rfl rfl rfl hf0 ?_
      refine jv_getI (pc' := 7) (c := 12) (k := 22) (v := (iI (s 0 2))) rfl rfl rfl (fun _ _ => rfl) rfl rfl hM.2.2.1 ?_
      refine jv_ic_ge (t := 46) (pc' := 10) (a := ((k : Nat) : Int)) (b := (s 0 2)) rfl rfl rfl (by omega) (fun hz_2 => ?_) (fun hz_2 => ?_)
      · skip
        refine jv_iconst (pc' := 47) (n := -1) rfl rfl ?_
        refine jv_retI rfl rfl ⟨_, _, rfl, ?_⟩
        exact ⟨-1, rfl, rfl, Or.inr ⟨rfl, fun i hi => hJ i (by omega)⟩⟩
      · skip
        have he := (hE k (by omega)).1
        refine jv_aload_n (pc' := 11) (k := 0) (x := 103) rfl rfl rfl hf0 ?_
        refine jv_getR (pc' := 14) (c := 12) (k := 23) (v := 119) rfl rfl rfl (fun _ _ => rfl) rfl rfl (jR_103_23 _) ?_
        refine jv_iload_n (pc' := 15) (k := 3) (x := (iI ((k : Nat) : Int))) rfl rfl rfl hf3 ?_
        refine jv_iaload (pc' := 16) (n := 65) (e := ((k : Nat) : Int)) (v := (iI (s 3 k))) rfl rfl (by decide) rfl rfl rfl (by omega) ((hM.2.2.2 k (by omega)).1) ?_
        refine jv_iload_n (pc' := 17) (k := 1) (x := (iI l)) rfl rfl rfl hf1 ?_
        refine jv_ic_ne (t := 40) (pc' := 20) (a := (s 3 k)) (b := l) rfl rfl rfl (by omega) (fun hz_3 => ?_) (fun hz_3 => ?_)
        · skip
          refine jv_iinc (pc' := 43) (k := 3) (a := ((k : Nat) : Int)) rfl rfl hf3 rfl (Or.inr (congrArg jm_lng hf2)) ?_
          refine jx_step (pc' := 2) rfl ?_
          exact ih (k + 1) (by omega) (by omega) (fun i hi => by
                by_cases e : i = k
                · subst e; first | assumption | (intro z; obtain ⟨z1, z2, z3, z4⟩ := z; first | omega | contradiction)
                · exact hJ i (by omega)) _ hf0 hf1 hf2 rfl 
        · skip
          refine jv_aload_n (pc' := 21) (k := 0) (x := 103) rfl rfl rfl hf0 ?_
          refine jv_getR (pc' := 24) (c := 12) (k := 24) (v := 120) rfl rfl rfl (fun _ _ => rfl) rfl rfl (jR_103_24 _) ?_
          refine jv_iload_n (pc' := 25) (k := 3) (x := (iI ((k : Nat) : Int))) rfl rfl rfl hf3 ?_
          refine jv_iaload (pc' := 26) (n := 65) (e := ((k : Nat) : Int)) (v := (iI (s 4 k))) rfl rfl (by decide) rfl rfl rfl (by omega) ((hM.2.2.2 k (by omega)).2.1) ?_
          refine jv_iload_n (pc' := 27) (k := 2) (x := (iI nm)) rfl rfl rfl hf2 ?_
          refine jv_ic_ne (t := 40) (pc' := 30) (a := (s 4 k)) (b := nm) rfl rfl rfl (by omega) (fun hz_4 => ?_) (fun hz_4 => ?_)
          · skip
            refine jv_iinc (pc' := 43) (k := 3) (a := ((k : Nat) : Int)) rfl rfl hf3 rfl (Or.inr (congrArg jm_lng hf2)) ?_
            refine jx_step (pc' := 2) rfl ?_
            exact ih (k + 1) (by omega) (by omega) (fun i hi => by
                  by_cases e : i = k
                  · subst e; first | assumption | (intro z; obtain ⟨z1, z2, z3, z4⟩ := z; first | omega | contradiction)
                  · exact hJ i (by omega)) _ hf0 hf1 hf2 rfl 
          · skip
            refine jv_aload_n (pc' := 31) (k := 0) (x := 103) rfl rfl rfl hf0 ?_
            refine jv_iload_n (pc' := 32) (k := 3) (x := (iI ((k : Nat) : Int))) rfl rfl rfl hf3 ?_
            refine jv_call (pc' := 35) rfl (ml_counts (k := k) hM hE hc (by omega)) (fun vq5 gq5 q5 => ?_)
            obtain ⟨rfl, rfl⟩ := q5
            show jx L xs _ 163 35 _ [.int (jb (s 7 k ≠ 1 ∧ s 7 k ≠ 4))] _ _
            refine jv_jb_eq (t := 40) (pc' := 38) (P := s 7 k ≠ 1 ∧ s 7 k ≠ 4) rfl rfl rfl (fun hz_6 => ?_) (fun hz_6 => ?_)
            · skip
              refine jv_iinc (pc' := 43) (k := 3) (a := ((k : Nat) : Int)) rfl rfl hf3 rfl (Or.inr (congrArg jm_lng hf2)) ?_
              refine jx_step (pc' := 2) rfl ?_
              exact ih (k + 1) (by omega) (by omega) (fun i hi => by
                    by_cases e : i = k
                    · subst e; first | assumption | (intro z; obtain ⟨z1, z2, z3, z4⟩ := z; first | omega | contradiction)
                    · exact hJ i (by omega)) _ hf0 hf1 hf2 rfl 
            · skip
              refine jv_iload_n (pc' := 39) (k := 3) (x := (iI ((k : Nat) : Int))) rfl rfl rfl hf3 ?_
              refine jv_retI rfl rfl ⟨_, _, rfl, ?_⟩
              exact ⟨_, rfl, rfl, Or.inl ⟨k, rfl, by omega, (by first | assumption | exact ⟨by omega, by omega, by omega, by omega⟩), hJ⟩⟩
  exact H1 _ 0 (Nat.lt_succ_self _) (by omega) (fun i hi => absurd hi (by omega)) _ rfl rfl rfl rfl 
theorem ml_firstBlock (hM : DMe I M s) (hE : EP W sz s) (hc : 0 ≤ s 0 2 ∧ s 0 2 ≤ 64) (hl : iR l) : jc L xs d 169 [.ref 103, .int (iI l)] (jx_G j I M p) (fun v g1 => ∃ r : Int, v = some (.int (iI r)) ∧ g1 = jx_G j I M p ∧ FS s l 8 r) := by
  unfold jc
  refine jv_iconst (pc' := 1) (n := 0) rfl rfl ?_
  refine jv_istore_n (pc' := 2) (k := 2) (x := (iI 0)) rfl rfl rfl rfl (Or.inr rfl) ?_
  have H1 : ∀ (N : Nat) (k : Nat), 64 - k < N → ((k : Int) ≤ s 0 2) → (FSj s l 8 k) → ∀ f : jm_F, f 0 = some (.ref 103) → f 1 = some (.int (iI l)) → f 2 = some (.int (iI ((k : Nat) : Int))) → jx L xs (d) 169 2 f [] (jx_G j I M p) (fun z => ∃ v g1, z = (.inl v, g1) ∧ (fun v g1 => ∃ r : Int, v = some (.int (iI r)) ∧ g1 = jx_G j I M p ∧ FS s l 8 r) v g1) := by
    intro N
    induction N with
    | zero => intro k hN; exact absurd hN (Nat.not_lt_zero _)
    | succ N ih =>
      intro k hN hk hJ f hf0 hf1 hf2 
      refine jv_iload_n (pc' := 3) (k := 2) (x := (iI ((k : Nat) : Int))) rfl rfl rfl hf2 ?_
      refine jv_aload_n (pc' := 4) (k := 0) (x := 103) rfl rfl rfl hf0 ?_
      refine jv_getI (pc' := 7) (c := 12) (k := 22) (v := (iI (s 0 2))) rfl rfl rfl (fun _ _ => rfl) rfl rfl hM.2.2.1 ?_
      refine jv_ic_ge (t := 48) (pc' := 10) (a := ((k : Nat) : Int)) (b := (s 0 2)) rfl rfl rfl (by omega) (fun hz_2 => ?_) (fun hz_2 => ?_)
      · skip
        refine jv_iconst (pc' := 49) (n := -1) rfl rfl ?_
        refine jv_retI rfl rfl ⟨_, _, rfl, ?_⟩
        exact ⟨-1, rfl, rfl, Or.inr ⟨rfl, fun i hi => hJ i (by omega)⟩⟩
      · skip
        have he := (hE k (by omega)).1
        have he2 := (hE k (by omega)).2
        refine jv_aload_n (pc' := 11) (k := 0) (x := 103) rfl rfl rfl hf0 ?_
        refine jv_getR (pc' := 14) (c := 12) (k := 23) (v := 119) rfl rfl rfl (fun _ _ => rfl) rfl rfl (jR_103_23 _) ?_
        refine jv_iload_n (pc' := 15) (k := 2) (x := (iI ((k : Nat) : Int))) rfl rfl rfl hf2 ?_
        refine jv_iaload (pc' := 16) (n := 65) (e := ((k : Nat) : Int)) (v := (iI (s 3 k))) rfl rfl (by decide) rfl rfl rfl (by omega) ((hM.2.2.2 k (by omega)).1) ?_
        refine jv_iload_n (pc' := 17) (k := 1) (x := (iI l)) rfl rfl rfl hf1 ?_
        refine jv_ic_ne (t := 42) (pc' := 20) (a := (s 3 k)) (b := l) rfl rfl rfl (by omega) (fun hz_3 => ?_) (fun hz_3 => ?_)
        · skip
          refine jv_iinc (pc' := 45) (k := 2) (a := ((k : Nat) : Int)) rfl rfl hf2 rfl (Or.inr (congrArg jm_lng hf1)) ?_
          refine jx_step (pc' := 2) rfl ?_
          exact ih (k + 1) (by omega) (by omega) (fun i hi => by
                by_cases e : i = k
                · subst e; first | assumption | (intro z; obtain ⟨z1, z2, z3, z4⟩ := z; first | omega | contradiction)
                · exact hJ i (by omega)) _ hf0 hf1 rfl 
        · skip
          refine jv_aload_n (pc' := 21) (k := 0) (x := 103) rfl rfl rfl hf0 ?_
          refine jv_getR (pc' := 24) (c := 12) (k := 24) (v := 120) rfl rfl rfl (fun _ _ => rfl) rfl rfl (jR_103_24 _) ?_
          refine jv_iload_n (pc' := 25) (k := 2) (x := (iI ((k : Nat) : Int))) rfl rfl rfl hf2 ?_
          refine jv_iaload (pc' := 26) (n := 65) (e := ((k : Nat) : Int)) (v := (iI (s 4 k))) rfl rfl (by decide) rfl rfl rfl (by omega) ((hM.2.2.2 k (by omega)).2.1) ?_
          refine jv_bipush (pc' := 28) (n := 8) rfl rfl rfl ?_
          refine jv_ic_ne (t := 42) (pc' := 31) (a := (s 4 k)) (b := 8) rfl rfl rfl (by omega) (fun hz_4 => ?_) (fun hz_4 => ?_)
          · skip
            refine jv_iinc (pc' := 45) (k := 2) (a := ((k : Nat) : Int)) rfl rfl hf2 rfl (Or.inr (congrArg jm_lng hf1)) ?_
            refine jx_step (pc' := 2) rfl ?_
            exact ih (k + 1) (by omega) (by omega) (fun i hi => by
                  by_cases e : i = k
                  · subst e; first | assumption | (intro z; obtain ⟨z1, z2, z3, z4⟩ := z; first | omega | contradiction)
                  · exact hJ i (by omega)) _ hf0 hf1 rfl 
          · skip
            refine jv_aload_n (pc' := 32) (k := 0) (x := 103) rfl rfl rfl hf0 ?_
            refine jv_getR (pc' := 35) (c := 12) (k := 27) (v := 123) rfl rfl rfl (fun _ _ => rfl) rfl rfl (jR_103_27 _) ?_
            refine jv_iload_n (pc' := 36) (k := 2) (x := (iI ((k : Nat) : Int))) rfl rfl rfl hf2 ?_
            refine jv_iaload (pc' := 37) (n := 65) (e := ((k : Nat) : Int)) (v := (iI (s 7 k))) rfl rfl (by decide) rfl rfl rfl (by omega) ((hM.2.2.2 k (by omega)).2.2.2.2.1) ?_
            refine jv_if_ne (t := 42) (pc' := 40) (a := (s 7 k)) rfl rfl rfl (by omega) (fun hz_5 => ?_) (fun hz_5 => ?_)
            · skip
              refine jv_iinc (pc' := 45) (k := 2) (a := ((k : Nat) : Int)) rfl rfl hf2 rfl (Or.inr (congrArg jm_lng hf1)) ?_
              refine jx_step (pc' := 2) rfl ?_
              exact ih (k + 1) (by omega) (by omega) (fun i hi => by
                    by_cases e : i = k
                    · subst e; first | assumption | (intro z; obtain ⟨z1, z2, z3, z4⟩ := z; first | omega | contradiction)
                    · exact hJ i (by omega)) _ hf0 hf1 rfl 
            · skip
              refine jv_iload_n (pc' := 41) (k := 2) (x := (iI ((k : Nat) : Int))) rfl rfl rfl hf2 ?_
              refine jv_retI rfl rfl ⟨_, _, rfl, ?_⟩
              exact ⟨_, rfl, rfl, Or.inl ⟨k, rfl, by omega, (by first | assumption | exact ⟨by omega, by omega, by omega, by omega⟩), hJ⟩⟩
  exact H1 _ 0 (Nat.lt_succ_self _) (by omega) (fun i hi => absurd hi (by omega)) _ rfl rfl rfl 
variable {cL : Nat → Nat → Int} {nL fc : Nat → Nat} {fva fnx : Nat → Nat → Int} {B : Nat → Nat} {fi lim lk fq : Nat} {root : Int} {cF : Nat → Nat → Int} {nF : Nat → Nat}
set_option maxHeartbeats 4000000 in
set_option maxRecDepth 100000 in
theorem ml_matches {k : Nat} {y0 l0 t0 : Bool} (hD : MD I fi B sz lim cL nL fc fva fnx) (hlk : I 113 fi = iI ((lk : Nat) : Int)) (hlk2 : lk < 2) (hroot : I 109 lk = iI root) (hr4 : -1 ≤ root ∧ root < 4) (hDE : DEC cL nL fc fva fnx B sz lim root s) (hE : EP W sz s) (hc : 0 ≤ s 0 2 ∧ s 0 2 ≤ 64) (hF : MFL I cF nF) (hTX : TXS cF nF) (hfq : fq < 4) (hR0 : VR (cF fq) s k 0 [(false, true, false)] (nF fq) [(y0, l0, t0)]) : jc L xs (d + 7) 159 [.ref 103, .int (iI ((fq : Nat) : Int)), .int (iI ((fi : Nat) : Int))] (jx_G j I M p) (fun v g1 => ∃ I' M', g1 = jx_G j I' M' p ∧ v = some (.int (jb ((y0 || l0) = true))) ∧ fr wB I I' ∧ fr wN M M' ∧ DMe I' M' s ∧ I' 103 29 = iI (fi : Int)) := by
  unfold jc
  refine jv_aload_n (pc' := 1) (k := 0) (x := 103) rfl rfl rfl rfl ?_
  refine jv_iload_n (pc' := 2) (k := 2) (x := (iI ((fi : Nat) : Int))) rfl rfl rfl rfl ?_
  refine jv_call (pc' := 5) rfl (ml_decodeAll hD hlk hlk2 hroot hr4 hDE) (fun vq1 gq1 q1 => ?_)
  obtain ⟨I1, M1, rfl, rfl, r1, t1, D1, in1⟩ := q1
  have F1 : MFL I1 cF nF := MFL_fr hF r1 (by intro k; simp [wA])
  have Fl := F1 fq hfq
  have hl80 := Fl.2.1
  show jx L xs _ 159 5 _ [] _ _
  refine jv_aload_n (pc' := 6) (k := 0) (x := 103) rfl rfl rfl rfl ?_
  refine jv_aload_n (pc' := 7) (k := 0) (x := 103) rfl rfl rfl rfl ?_
  refine jv_getR (pc' := 10) (c := 12) (k := 6) (v := 108) rfl rfl rfl (fun _ _ => rfl) rfl rfl (jR_103_6 _) ?_
  refine jv_iload_n (pc' := 11) (k := 1) (x := (iI ((fq : Nat) : Int))) rfl rfl rfl rfl ?_
  refine jv_iaload (pc' := 12) (n := 4) (e := ((fq : Nat) : Int)) (v := (iI ((nF fq : Nat) : Int))) rfl rfl (by decide) rfl rfl rfl (by omega) Fl.1 ?_
  refine jv_putI (pc' := 15) (c := 12) (k := 18) rfl rfl rfl rfl (fun _ _ _  => rfl) rfl rfl ?_
  refine jv_iconst (pc' := 16) (n := 0) rfl rfl ?_
  refine jv_istore_n (pc' := 17) (k := 3) (x := (iI 0)) rfl rfl rfl rfl (Or.inr rfl) ?_
  have H2 : ∀ (N : Nat) (i : Nat) (I2 : Nat → Nat → Int32), nF fq - i < N → (i ≤ nF fq) → (fr (fun l _ => l = 117) (jm_u I1 103 18 (iI ((nF fq : Nat) : Int))) I2) → (∀ k, k < i → I2 117 k = iI (cF fq k)) → ∀ f : jm_F, f 0 = some (.ref 103) → f 1 = some (.int (iI ((fq : Nat) : Int))) → f 2 = some (.int (iI ((fi : Nat) : Int))) → f 3 = some (.int (iI ((i : Nat) : Int))) → jx L xs ((d + 7)) 159 17 f [] (jx_G j I2 M1 p) (fun z => ∃ v g1, z = (.inl v, g1) ∧ (fun v g1 => ∃ I' M', g1 = jx_G j I' M' p ∧ v = some (.int (jb ((y0 || l0) = true))) ∧ fr wB I I' ∧ fr wN M M' ∧ DMe I' M' s ∧ I' 103 29 = iI (fi : Int)) v g1) := by
    intro N
    induction N with
    | zero => intro i I2 hN; exact absurd hN (Nat.not_lt_zero _)
    | succ N ih =>
      intro i I2 hN hi f117 hcc f hf0 hf1 hf2 hf3 
      refine jv_iload_n (pc' := 18) (k := 3) (x := (iI ((i : Nat) : Int))) rfl rfl rfl hf3 ?_
      refine jv_aload_n (pc' := 19) (k := 0) (x := 103) rfl rfl rfl hf0 ?_
      refine jv_getI (pc' := 22) (c := 12) (k := 18) (v := (iI ((nF fq : Nat) : Int))) rfl rfl rfl (fun _ _ => rfl) rfl rfl ((f117 103 18 (by omega)).trans rfl) ?_
      refine jv_ic_ge (t := 48) (pc' := 25) (a := ((i : Nat) : Int)) (b := ((nF fq : Nat) : Int)) rfl rfl rfl (by omega) (fun hz_3 => ?_) (fun hz_3 => ?_)
      · skip
        refine jv_aload_n (pc' := 49) (k := 0) (x := 103) rfl rfl rfl hf0 ?_
        refine jv_iconst (pc' := 50) (n := 0) rfl rfl ?_
        refine jv_putI (pc' := 53) (c := 12) (k := 19) rfl rfl rfl rfl (fun _ _ _  => rfl) rfl rfl ?_
        refine jv_iconst (pc' := 54) (n := 0) rfl rfl ?_
        refine jv_istore_n (pc' := 55) (k := 3) (x := (iI 0)) rfl rfl rfl rfl (Or.inr (congrArg jm_lng hf2)) ?_
        refine jv_aload_n (pc' := 56) (k := 0) (x := 103) rfl rfl rfl hf0 ?_
        refine jv_iconst (pc' := 57) (n := 0) rfl rfl ?_
        refine jv_call (pc' := 60) rfl (ml_begin (I := jm_u I2 103 19 (iI 0)) (q := 0) (by omega)) (fun vq4 gq4 q4 => ?_)
        obtain ⟨rfl, rfl⟩ := q4
        show jx L xs _ 159 60 _ [] _ _
        have T2 : MT (jm_u (jm_u (jm_u (jm_u I2 103 19 (iI 0)) 130 0 (iI 0)) 131 0 (iI 1)) 132 0 (iI 0)) (cF fq) (nF fq) := ⟨(f117 103 18 (by omega)).trans rfl, hl80, fun k hk => hcc k (by omega), (hTX fq hfq).1, (hTX fq hfq).2⟩
        have E1 : DMe I2 M1 s := DMe_fr (W := fun l _ => l = 117) (V := fun _ _ => False) (I := jm_u I1 103 18 (iI ((nF fq : Nat) : Int))) (M := M1) D1 f117 (fr_r _) ⟨by omega, by omega, by omega, fun l k h1 h2 => by omega⟩ (fun k h => h)
        have R2 : fr wB I (jm_u (jm_u (jm_u (jm_u I2 103 19 (iI 0)) 130 0 (iI 0)) 131 0 (iI 1)) 132 0 (iI 0)) := (fr_u (by simp [wB, wA]) (fr_u (by simp [wB, wA]) (fr_u (by simp [wB, wA]) (fr_u (by simp [wB, wA]) (fr_t (fr_t (fr_w r1 (fun l k h => Or.inl h)) (fr_u (show wB 103 18 from Or.inl (by simp [wA])) (fr_r _))) (fr_w f117 (fun l k h => Or.inl (by unfold wA; omega))))))))
        refine jx_mono (ml_mloop (I := jm_u (jm_u (jm_u (jm_u I2 103 19 (iI 0)) 130 0 (iI 0)) 131 0 (iI 1)) 132 0 (iI 0)) (M := M1) T2 rfl E1 hE hc ⟨⟨rfl, rfl, rfl⟩, trivial⟩ hR0 _ hf0 hf1 hf2 rfl) (fun z hz => ?_)
        obtain ⟨v, g1, rfl, I', rfl, rfl, fv⟩ := hz
        exact ⟨_, _, rfl, I', M1, rfl, rfl, fr_t R2 (fr_w fv (fun l k h => by unfold wV at h; unfold wB wA; omega)), t1, DMe_fr (V := fun _ _ => False) (I := jm_u (jm_u (jm_u (jm_u I2 103 19 (iI 0)) 130 0 (iI 0)) 131 0 (iI 1)) 132 0 (iI 0)) (M := M1) E1 fv (fr_r _) ⟨by simp [wV], by simp [wV], by simp [wV], fun l k h1 h2 => by unfold wV; omega⟩ (fun _ h => h), (fv 103 29 (by simp [wV])).trans ((f117 103 29 (by omega)).trans in1)⟩
      · skip
        refine jv_aload_n (pc' := 26) (k := 0) (x := 103) rfl rfl rfl hf0 ?_
        refine jv_getR (pc' := 29) (c := 12) (k := 17) (v := 117) rfl rfl rfl (fun _ _ => rfl) rfl rfl (jR_103_17 _) ?_
        refine jv_iload_n (pc' := 30) (k := 3) (x := (iI ((i : Nat) : Int))) rfl rfl rfl hf3 ?_
        refine jv_aload_n (pc' := 31) (k := 0) (x := 103) rfl rfl rfl hf0 ?_
        refine jv_getR (pc' := 34) (c := 12) (k := 5) (v := 107) rfl rfl rfl (fun _ _ => rfl) rfl rfl (jR_103_5 _) ?_
        refine jv_bipush (pc' := 36) (n := 80) rfl rfl rfl ?_
        refine jv_iload_n (pc' := 37) (k := 1) (x := (iI ((fq : Nat) : Int))) rfl rfl rfl hf1 ?_
        refine jv_imul (pc' := 38) (a := 80) (b := ((fq : Nat) : Int)) rfl rfl ?_
        refine jv_iload_n (pc' := 39) (k := 3) (x := (iI ((i : Nat) : Int))) rfl rfl rfl hf3 ?_
        refine jv_iadd (pc' := 40) (a := (80 * ((fq : Nat) : Int))) (b := ((i : Nat) : Int)) rfl rfl ?_
        refine jv_iaload (pc' := 41) (n := 320) (e := ((80 * ((fq : Nat) : Int)) + ((i : Nat) : Int))) (v := (iI (cF fq i))) rfl rfl (by decide) rfl rfl rfl (by omega) ((f117 107 _ (by omega)).trans ((congrArg (I1 107) (show ((80 * ((fq : Nat) : Int)) + ((i : Nat) : Int) : Int).toNat = 80 * fq + i by omega)).trans (Fl.2.2 i (by omega)))) ?_
        refine jv_iastore (pc' := 42) (n := 80) (e := ((i : Nat) : Int)) (v := (iI (cF fq i))) rfl rfl rfl rfl rfl (by omega) ?_
        refine jv_iinc (pc' := 45) (k := 3) (a := ((i : Nat) : Int)) rfl rfl hf3 rfl (Or.inr (congrArg jm_lng hf2)) ?_
        refine jx_step (pc' := 17) rfl ?_
        exact ih (i + 1) (jm_u I2 117 (((i : Nat) : Int) : Int).toNat (iI (cF fq i))) (by omega) (by omega) (fr_t f117 (fr_u rfl (fr_r _))) (fun k hk => by
              by_cases ek : k = i
              · subst ek; exact jm_u_eq ⟨rfl, rfl⟩
              · exact (jm_u_n2 (by omega)).trans (hcc k (by omega))) _ hf0 hf1 hf2 rfl 
  exact H2 _ 0 (jm_u I1 103 18 (iI ((nF fq : Nat) : Int))) (Nat.lt_succ_self _) (by omega) (fr_r _) (fun k hk => absurd hk (by omega)) _ rfl rfl rfl rfl 
variable {c : Nat → Int} {n t : Nat}
theorem cl_fstart  : jc L xs (d + 1) 86 [.ref 95, .ref t, .ref 39] (jx_G j I M p) (fun v g1 => v = none ∧ g1 = jx_G j (jm_u I 96 1 (iI 0)) M (fun q => if q = 22 then some 39 else if q = 21 then some t else p q)) := by
  unfold jc
  refine jv_aload_n (pc' := 1) (k := 0) (x := 95) rfl rfl rfl rfl ?_
  refine jv_getR (pc' := 4) (c := 9) (k := 0) (v := 96) rfl rfl rfl (fun _ _ => rfl) rfl rfl (jR_95_0 _) ?_
  refine jv_aload_n (pc' := 5) (k := 1) (x := t) rfl rfl rfl rfl ?_
  refine jv_call (pc' := 8) rfl (cl_start_96 (t := t)) (fun vq1 gq1 q1 => ?_)
  obtain ⟨rfl, rfl⟩ := q1
  show jx L xs _ 86 8 _ [] _ _
  refine jv_aload_n (pc' := 9) (k := 0) (x := 95) rfl rfl rfl rfl ?_
  refine jv_aload_n (pc' := 10) (k := 2) (x := 39) rfl rfl rfl rfl ?_
  refine jv_putR (pc' := 13) (c := 9) (k := 4) (i := 22) rfl rfl rfl rfl (fun _ _ _ => rfl) rfl rfl rfl ?_
  refine jv_retV rfl rfl ⟨_, _, rfl, ?_⟩
  exact ⟨rfl, rfl⟩
theorem cl_readWhole (hl : TL t) (hC : CT I t c n) (hD : DCe I M s) (hE : EP W sz s) (hc : 0 ≤ s 0 2 ∧ s 0 2 ≤ 64) (htz : ∃ z : Bool, I 95 5 = iI (ib z)) : jc L xs (d + 31) 84 [.ref 95, .ref t, .ref 39] (jx_G j I M p) (fun v g1 => ∃ I', g1 = jx_G j I' M (fun q => if q = 22 then some 39 else if q = 21 then some t else p q) ∧ fr wF I I' ∧ (∃ z : Bool, I' 95 5 = iI (ib z)) ∧ ((v = some (.int (iI (-1))) ∧ ∃ i e, QE c n i 0 0 [] true e) ∨ (∃ e i : Nat, v = some (.int (iI ((e : Nat) : Int))) ∧ e ≤ 80 ∧ QE c n i 0 0 [] false e))) := by
  unfold jc
  have hn := hC.2.1
  have hcn := hC.2.2.2.2
  refine jv_aload_n (pc' := 1) (k := 0) (x := 95) rfl rfl rfl rfl ?_
  refine jv_aload_n (pc' := 2) (k := 1) (x := t) rfl rfl rfl rfl ?_
  refine jv_aload_n (pc' := 3) (k := 2) (x := 39) rfl rfl rfl rfl ?_
  refine jv_call (pc' := 6) rfl (cl_fstart (t := t)) (fun vq1 gq1 q1 => ?_)
  obtain ⟨rfl, rfl⟩ := q1
  show jx L xs _ 84 6 _ [] _ _
  refine jv_aload_n (pc' := 7) (k := 0) (x := 95) rfl rfl rfl rfl ?_
  refine jv_iconst (pc' := 8) (n := 0) rfl rfl ?_
  have C1 : CT (jm_u I 96 1 (iI 0)) t c n := CT_u hC hl (by omega)
  have G1 : DCe (jm_u I 96 1 (iI 0)) M s := DCe_F hD (fr_u (by simp [wF]) (fr_r _))
  refine jv_call (pc' := 11) rfl (cl_CFL0 L xs d j (jm_u I 96 1 (iI 0)) M (fun q => if q = 22 then some 39 else if q = 21 then some t else p q) c n 0 t s W sz [] hl C1 rfl rfl (by omega) rfl G1 hE hc htz rfl (Or.inl rfl)) (fun vq2 gq2 q2 => ?_)
  obtain ⟨I1, e, rfl, r1, a1, tz1, q2⟩ := q2
  have C2 : CT I1 t c n := CT_fr (W := wF) (I := jm_u I 96 1 (iI 0)) (t := t) (c := c) (n := n) C1 r1 (by unfold wF; omega) (by intro k; unfold wF; omega)
  rcases q2 with ⟨rfl, l1, l2, ⟨i1, Q1⟩, b, tb, X1, X2⟩ | ⟨rfl, i1, E1⟩
  · have QE1 := QR_QE Q1 (QF_1 (n := n) (by omega) X2)
    rcases b with _ | _
    · skip
      show jx L xs _ 84 11 _ [.int (iI 1)] _ _
      refine jv_if_eq (t := 28) (pc' := 14) (a := 1) rfl rfl rfl (by omega) (fun hz_3 => ?_) (fun hz_3 => ?_)
      · skip
        exact absurd hz_3 (by decide)
      · skip
        refine jv_aload_n (pc' := 15) (k := 0) (x := 95) rfl rfl rfl rfl ?_
        refine jv_getR (pc' := 18) (c := 9) (k := 0) (v := 96) rfl rfl rfl (fun _ _ => rfl) rfl rfl (jR_95_0 _) ?_
        refine jv_call (pc' := 21) rfl (cl_isAtEnd_q (a := e) hl C2 a1 rfl (by omega)) (fun vq4 gq4 q4 => ?_)
        obtain ⟨rfl, rfl⟩ := q4
        show jx L xs _ 84 21 _ [.int (jb (n ≤ e))] _ _
        refine jv_jb_eq (t := 28) (pc' := 24) (P := n ≤ e) rfl rfl rfl (fun hz_5 => ?_) (fun hz_5 => ?_)
        · skip
          refine jv_aload_n (pc' := 29) (k := 0) (x := 95) rfl rfl rfl rfl ?_
          refine jv_getR (pc' := 32) (c := 9) (k := 0) (v := 96) rfl rfl rfl (fun _ _ => rfl) rfl rfl (jR_95_0 _) ?_
          refine jv_getI (pc' := 35) (c := 4) (k := 1) (v := (iI ((e : Nat) : Int))) rfl rfl rfl (fun _ _ => rfl) rfl rfl a1 ?_
          refine jv_retI rfl rfl ⟨_, _, rfl, ?_⟩
          first
          | (exfalso; omega)
          | (rw [decide_eq_false (show ¬ e = n by omega)] at QE1
             exact ⟨_, rfl, (fr_t (fr_u (by simp [wF]) (fr_r _)) r1), tz1, Or.inr ⟨e, _, rfl, by omega, QE1⟩⟩)
        · skip
          refine jv_iconst (pc' := 25) (n := -1) rfl rfl ?_
          refine jx_step (pc' := 35) rfl ?_
          refine jv_retI rfl rfl ⟨_, _, rfl, ?_⟩
          first
          | (exfalso; omega)
          | (have ee : e = n := by omega
             rw [decide_eq_true ee] at QE1
             exact ⟨_, rfl, (fr_t (fr_u (by simp [wF]) (fr_r _)) r1), tz1, Or.inl ⟨rfl, _, _, QE1⟩⟩)
    · skip
      show jx L xs _ 84 11 _ [.int (iI 1)] _ _
      refine jv_if_eq (t := 28) (pc' := 14) (a := 1) rfl rfl rfl (by omega) (fun hz_6 => ?_) (fun hz_6 => ?_)
      · skip
        exact absurd hz_6 (by decide)
      · skip
        refine jv_aload_n (pc' := 15) (k := 0) (x := 95) rfl rfl rfl rfl ?_
        refine jv_getR (pc' := 18) (c := 9) (k := 0) (v := 96) rfl rfl rfl (fun _ _ => rfl) rfl rfl (jR_95_0 _) ?_
        refine jv_call (pc' := 21) rfl (cl_isAtEnd_q (a := e) hl C2 a1 rfl (by omega)) (fun vq7 gq7 q7 => ?_)
        obtain ⟨rfl, rfl⟩ := q7
        show jx L xs _ 84 21 _ [.int (jb (n ≤ e))] _ _
        refine jv_jb_eq (t := 28) (pc' := 24) (P := n ≤ e) rfl rfl rfl (fun hz_8 => ?_) (fun hz_8 => ?_)
        · skip
          refine jv_aload_n (pc' := 29) (k := 0) (x := 95) rfl rfl rfl rfl ?_
          refine jv_getR (pc' := 32) (c := 9) (k := 0) (v := 96) rfl rfl rfl (fun _ _ => rfl) rfl rfl (jR_95_0 _) ?_
          refine jv_getI (pc' := 35) (c := 4) (k := 1) (v := (iI ((e : Nat) : Int))) rfl rfl rfl (fun _ _ => rfl) rfl rfl a1 ?_
          refine jv_retI rfl rfl ⟨_, _, rfl, ?_⟩
          first
          | (exfalso; omega)
          | (rw [decide_eq_false (show ¬ e = n by omega)] at QE1
             exact ⟨_, rfl, (fr_t (fr_u (by simp [wF]) (fr_r _)) r1), tz1, Or.inr ⟨e, _, rfl, by omega, QE1⟩⟩)
        · skip
          refine jv_iconst (pc' := 25) (n := -1) rfl rfl ?_
          refine jx_step (pc' := 35) rfl ?_
          refine jv_retI rfl rfl ⟨_, _, rfl, ?_⟩
          first
          | (exfalso; omega)
          | (have ee : e = n := by omega
             rw [decide_eq_true ee] at QE1
             exact ⟨_, rfl, (fr_t (fr_u (by simp [wF]) (fr_r _)) r1), tz1, Or.inl ⟨rfl, _, _, QE1⟩⟩)
  · have hle := QE_le hcn hn E1
    show jx L xs _ 84 11 _ [.int (iI 0)] _ _
    refine jv_if_eq (t := 28) (pc' := 14) (a := 0) rfl rfl rfl (by omega) (fun hz_9 => ?_) (fun hz_9 => ?_)
    · skip
      refine jv_aload_n (pc' := 29) (k := 0) (x := 95) rfl rfl rfl rfl ?_
      refine jv_getR (pc' := 32) (c := 9) (k := 0) (v := 96) rfl rfl rfl (fun _ _ => rfl) rfl rfl (jR_95_0 _) ?_
      refine jv_getI (pc' := 35) (c := 4) (k := 1) (v := (iI ((e : Nat) : Int))) rfl rfl rfl (fun _ _ => rfl) rfl rfl a1 ?_
      refine jv_retI rfl rfl ⟨_, _, rfl, ?_⟩
      first
      | (exfalso; omega)
      | exact ⟨_, rfl, (fr_t (fr_u (by simp [wF]) (fr_r _)) r1), tz1, Or.inr ⟨e, i1, rfl, hle, E1⟩⟩
    · skip
      exact absurd hz_9 (by decide)
theorem cl_isTrue (hl : TL t) (hC : CT I t c n) (hD : DCe I M s) (hE : EP W sz s) (hc : 0 ≤ s 0 2 ∧ s 0 2 ≤ 64) (htz : ∃ z : Bool, I 95 5 = iI (ib z)) {iq eq : Nat} (hQ : QE c n iq 0 0 [] true eq) : jc L xs (d + 31) 85 [.ref 95, .ref t, .ref 39] (jx_G j I M p) (fun v g1 => ∃ (I' : Nat → Nat → Int32) (k : Nat) (y0 l0 t0 : Bool), g1 = jx_G j I' M (fun q => if q = 22 then some 39 else if q = 21 then some t else p q) ∧ fr wF I I' ∧ (∃ z : Bool, I' 95 5 = iI (ib z)) ∧ VR c s k 0 [(false, true, false)] n [(y0, l0, t0)] ∧ v = some (.int (jb ((y0 || l0) = true)))) := by
  unfold jc
  have hn := hC.2.1
  have hcn := hC.2.2.2.2
  refine jv_aload_n (pc' := 1) (k := 0) (x := 95) rfl rfl rfl rfl ?_
  refine jv_aload_n (pc' := 2) (k := 1) (x := t) rfl rfl rfl rfl ?_
  refine jv_aload_n (pc' := 3) (k := 2) (x := 39) rfl rfl rfl rfl ?_
  refine jv_call (pc' := 6) rfl (cl_fstart (t := t)) (fun vq1 gq1 q1 => ?_)
  obtain ⟨rfl, rfl⟩ := q1
  show jx L xs _ 85 6 _ [] _ _
  refine jv_aload_n (pc' := 7) (k := 0) (x := 95) rfl rfl rfl rfl ?_
  refine jv_iconst (pc' := 8) (n := 0) rfl rfl ?_
  have C1 : CT (jm_u I 96 1 (iI 0)) t c n := CT_u hC hl (by omega)
  have G1 : DCe (jm_u I 96 1 (iI 0)) M s := DCe_F hD (fr_u (by simp [wF]) (fr_r _))
  refine jv_call (pc' := 11) rfl (cl_CFL0 L xs d j (jm_u I 96 1 (iI 0)) M (fun q => if q = 22 then some 39 else if q = 21 then some t else p q) c n 0 t s W sz [] hl C1 rfl rfl (by omega) rfl G1 hE hc htz rfl (Or.inl rfl)) (fun vq2 gq2 q2 => ?_)
  obtain ⟨I1, e, rfl, r1, a1, tz1, q2⟩ := q2
  have C2 : CT I1 t c n := CT_fr (W := wF) (I := jm_u I 96 1 (iI 0)) (t := t) (c := c) (n := n) C1 r1 (by unfold wF; omega) (by intro k; unfold wF; omega)
  rcases q2 with ⟨rfl, l1, l2, ⟨i1, Q1⟩, b, tb, X1, X2⟩ | ⟨rfl, i1, E1⟩
  · have QE1 := QR_QE Q1 (QF_1 (n := n) (by omega) X2)
    rcases b with _ | _
    · skip
      show jx L xs _ 85 11 _ [.int (iI 1)] _ _
      refine jv_if_eq (t := 25) (pc' := 14) (a := 1) rfl rfl rfl (by omega) (fun hz_3 => ?_) (fun hz_3 => ?_)
      · skip
        exact absurd hz_3 (by decide)
      · skip
        refine jv_aload_n (pc' := 15) (k := 0) (x := 95) rfl rfl rfl rfl ?_
        refine jv_getI (pc' := 18) (c := 9) (k := 5) (v := (iI 0)) rfl rfl rfl (fun _ _ => rfl) rfl rfl tb ?_
        refine jv_if_eq (t := 25) (pc' := 21) (a := 0) rfl rfl rfl (by omega) (fun hz_4 => ?_) (fun hz_4 => ?_)
        · skip
          refine jv_iconst (pc' := 26) (n := 0) rfl rfl ?_
          refine jv_retZ rfl rfl (by first | exact Or.inl rfl | exact Or.inr rfl) ⟨_, _, rfl, ?_⟩
          first
          | (exfalso; omega)
          | (have ed := QE_det hQ QE1
             have ee : e = n := of_decide_eq_true ed.symm
             obtain ⟨k, y, l, hk, hb⟩ := X1 [] (by simp)
             rw [ee] at hk
             exact ⟨_, k, y, l, false, rfl, (fr_t (fr_u (by simp [wF]) (fr_r _)) r1), tz1, hk, by rw [← hb]; exact jq_f (by decide)⟩)
        · skip
          exact absurd hz_4 (by decide)
    · skip
      show jx L xs _ 85 11 _ [.int (iI 1)] _ _
      refine jv_if_eq (t := 25) (pc' := 14) (a := 1) rfl rfl rfl (by omega) (fun hz_5 => ?_) (fun hz_5 => ?_)
      · skip
        exact absurd hz_5 (by decide)
      · skip
        refine jv_aload_n (pc' := 15) (k := 0) (x := 95) rfl rfl rfl rfl ?_
        refine jv_getI (pc' := 18) (c := 9) (k := 5) (v := (iI 1)) rfl rfl rfl (fun _ _ => rfl) rfl rfl tb ?_
        refine jv_if_eq (t := 25) (pc' := 21) (a := 1) rfl rfl rfl (by omega) (fun hz_6 => ?_) (fun hz_6 => ?_)
        · skip
          exact absurd hz_6 (by decide)
        · skip
          refine jv_iconst (pc' := 22) (n := 1) rfl rfl ?_
          refine jx_step (pc' := 26) rfl ?_
          refine jv_retZ rfl rfl (by first | exact Or.inl rfl | exact Or.inr rfl) ⟨_, _, rfl, ?_⟩
          first
          | (exfalso; omega)
          | (have ed := QE_det hQ QE1
             have ee : e = n := of_decide_eq_true ed.symm
             obtain ⟨k, y, l, hk, hb⟩ := X1 [] (by simp)
             rw [ee] at hk
             exact ⟨_, k, y, l, false, rfl, (fr_t (fr_u (by simp [wF]) (fr_r _)) r1), tz1, hk, by rw [← hb]; exact jq_t rfl⟩)
  · have hle := QE_le hcn hn E1
    show jx L xs _ 85 11 _ [.int (iI 0)] _ _
    refine jv_if_eq (t := 25) (pc' := 14) (a := 0) rfl rfl rfl (by omega) (fun hz_7 => ?_) (fun hz_7 => ?_)
    · skip
      refine jv_iconst (pc' := 26) (n := 0) rfl rfl ?_
      refine jv_retZ rfl rfl (by first | exact Or.inl rfl | exact Or.inr rfl) ⟨_, _, rfl, ?_⟩
      first
      | (exfalso; omega)
      | exact absurd (QE_det hQ E1) (by decide)
    · skip
      exact absurd hz_7 (by decide)
end G5
