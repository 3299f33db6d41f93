/-! printed by wip/whole/gen/g3.py: the reference finds a test true or not -/
def HX (s : DSt) (l nm : Int) (k : Nat) (G : Int → Prop) : Prop := ∃ i : Nat, i < k ∧ VD s l nm i ∧ G (s 8 i)
def HP (s : DSt) (l nm : Int) (G : Int → Prop) : Prop := ∃ i : Nat, (i : Int) < s 0 2 ∧ VD s l nm i ∧ G (s 8 i)
def HJ (s : DSt) (l nm : Int) (k : Nat) (G : Int → Prop) (P : Prop) : Prop := P ↔ HX s l nm k G
theorem HJ_s {s : DSt} {l nm : Int} {k : Nat} {G : Int → Prop} {P : Prop} (h : HJ s l nm k G P) : HJ s l nm (k + 1) G (P ∨ (VD s l nm k ∧ G (s 8 k))) := by
  constructor
  · rintro (z | z)
    · obtain ⟨i, h1, h2⟩ := h.1 z; exact ⟨i, by omega, h2⟩
    · exact ⟨k, by omega, z⟩
  · rintro ⟨i, h1, h2⟩
    by_cases e : i = k
    · subst e; exact Or.inr h2
    · exact Or.inl (h.2 ⟨i, by omega, h2⟩)
theorem HJ_e {s : DSt} {l nm : Int} {k : Nat} {G : Int → Prop} {P : Prop} (h : HJ s l nm k G P) (hk : (k : Int) = s 0 2) : P ↔ HP s l nm G := by
  constructor
  · intro z; obtain ⟨i, h1, h2⟩ := h.1 z; exact ⟨i, by omega, h2⟩
  · rintro ⟨i, h1, h2⟩; exact h.2 ⟨i, by omega, h2⟩
section G3
variable {L : Nat} {xs : Nat → Int32} {d j : Nat} {I : Nat → Nat → Int32} {M : Nat → Nat → Int64} {p : Nat → Option Nat}
variable {c : Nat → Int} {n a : Nat} {s : DSt} {W : Nat → Nat → Int} {sz : Nat} {k : Nat} {l nm num : Int}
theorem ml_counts (hM : DMe I M s) (hE : EP W sz s) (hc : 0 ≤ s 0 2 ∧ s 0 2 ≤ 64) (hk : (k : Int) < s 0 2) : jc L xs d 156 [.ref 103, .int (iI ((k : Nat) : Int))] (jx_G j I M p) (fun v g1 => v = some (.int (jb (s 7 k ≠ 1 ∧ s 7 k ≠ 4))) ∧ g1 = jx_G j I M p) := by
  unfold jc
  have he := (hE k hk).1
  refine jv_aload_n (pc' := 1) (k := 0) (x := 103) rfl rfl rfl rfl ?_
  refine jv_getR (pc' := 4) (c := 12) (k := 27) (v := 123) rfl rfl rfl (fun _ _ => rfl) rfl rfl (jR_103_27 _) ?_
  refine jv_iload_n (pc' := 5) (k := 1) (x := (iI ((k : Nat) : Int))) rfl rfl rfl rfl ?_
  refine jv_iaload (pc' := 6) (n := 65) (e := ((k : Nat) : Int)) (v := (iI (s 7 k))) rfl rfl (by decide) rfl rfl rfl (by omega) ((hM.2.2.2 k hk).2.2.2.2.1) ?_
  refine jv_iconst (pc' := 7) (n := 1) rfl rfl ?_
  refine jv_ic_eq (t := 24) (pc' := 10) (a := (s 7 k)) (b := 1) rfl rfl rfl (by omega) (fun hz_1 => ?_) (fun hz_1 => ?_)
  · skip
    refine jv_iconst (pc' := 25) (n := 0) rfl rfl ?_
    refine jv_retZ rfl rfl (by first | exact Or.inl rfl | exact Or.inr rfl) ⟨_, _, rfl, ?_⟩
    exact ⟨jq_f (by omega), rfl⟩
  · skip
    refine jv_aload_n (pc' := 11) (k := 0) (x := 103) rfl rfl rfl rfl ?_
    refine jv_getR (pc' := 14) (c := 12) (k := 27) (v := 123) rfl rfl rfl (fun _ _ => rfl) rfl rfl (jR_103_27 _) ?_
    refine jv_iload_n (pc' := 15) (k := 1) (x := (iI ((k : Nat) : Int))) rfl rfl rfl rfl ?_
    refine jv_iaload (pc' := 16) (n := 65) (e := ((k : Nat) : Int)) (v := (iI (s 7 k))) rfl rfl (by decide) rfl rfl rfl (by omega) ((hM.2.2.2 k hk).2.2.2.2.1) ?_
    refine jv_iconst (pc' := 17) (n := 4) rfl rfl ?_
    refine jv_ic_eq (t := 24) (pc' := 20) (a := (s 7 k)) (b := 4) rfl rfl rfl (by omega) (fun hz_2 => ?_) (fun hz_2 => ?_)
    · skip
      refine jv_iconst (pc' := 25) (n := 0) rfl rfl ?_
      refine jv_retZ rfl rfl (by first | exact Or.inl rfl | exact Or.inr rfl) ⟨_, _, rfl, ?_⟩
      exact ⟨jq_f (by omega), rfl⟩
    · skip
      refine jv_iconst (pc' := 21) (n := 1) rfl rfl ?_
      refine jx_step (pc' := 25) rfl ?_
      refine jv_retZ rfl rfl (by first | exact Or.inl rfl | exact Or.inr rfl) ⟨_, _, rfl, ?_⟩
      exact ⟨jq_t (by omega), rfl⟩
theorem ml_has_61 (hM : DMe I M s) (hE : EP W sz s) (hc : 0 ≤ s 0 2 ∧ s 0 2 ≤ 64) (hl : iR l) (hn : iR nm) (hnu : 0 ≤ num ∧ num < 1000000) : jc L xs (d + 1) 157 [.ref 103, .int (iI l), .int (iI nm), .int (iI (61)), .int (iI num)] (jx_G j I M p) (fun v g1 => v = some (.int (jb (HP s l nm (fun v => fitN 61 v num)))) ∧ g1 = jx_G j I M p) := by
  unfold jc
  refine jv_iconst (pc' := 1) (n := 0) rfl rfl ?_
  rw [show iI 0 = jb False from (jb_f id).symm]
  refine jv_istore (pc' := 3) (k := 5) (x := (jb False)) rfl rfl rfl (Or.inr rfl) ?_
  refine jv_iconst (pc' := 4) (n := 0) rfl rfl ?_
  refine jv_istore (pc' := 6) (k := 6) (x := (iI 0)) rfl rfl rfl (Or.inr rfl) ?_
  have H1 : ∀ (N : Nat) (k : Nat) (P : Prop), 64 - k < N → ((k : Int) ≤ s 0 2) → (HJ s l nm k (fun v => fitN 61 v num) P) → ∀ f : jm_F, f 0 = some (.ref 103) → f 1 = some (.int (iI l)) → f 2 = some (.int (iI nm)) → f 3 = some (.int (iI 61)) → f 4 = some (.int (iI num)) → f 5 = some (.int (jb P)) → f 6 = some (.int (iI ((k : Nat) : Int))) → jx L xs ((d + 1)) 157 6 f [] (jx_G j I M p) (fun z => ∃ v g1, z = (.inl v, g1) ∧ (fun v g1 => v = some (.int (jb (HP s l nm (fun v => fitN 61 v num)))) ∧ g1 = jx_G j I M p) v g1) := by
    intro N
    induction N with
    | zero => intro k P hN; exact absurd hN (Nat.not_lt_zero _)
    | succ N ih =>
      intro k P hN hk hJ f hf0 hf1 hf2 hf3 hf4 hf5 hf6 
      refine jv_iload (pc' := 8) (k := 6) (x := (iI ((k : Nat) : Int))) rfl rfl hf6 ?_
      refine jv_aload_n (pc' := 9) (k := 0) (x := 103) rfl rfl rfl hf0 ?_
      refine jv_getI (pc' := 12) (c := 12) (k := 22) (v := (iI (s 0 2))) rfl rfl rfl (fun _ _ => rfl) rfl rfl hM.2.2.1 ?_
      refine jv_ic_ge (t := 171) (pc' := 15) (a := ((k : Nat) : Int)) (b := (s 0 2)) rfl rfl rfl (by omega) (fun hz_2 => ?_) (fun hz_2 => ?_)
      · skip
        refine jv_iload (pc' := 173) (k := 5) (x := (jb P)) rfl rfl hf5 ?_
        refine jv_retZ rfl rfl (jb_01 _) ⟨_, _, rfl, ?_⟩
        exact ⟨jq_e (HJ_e hJ (by omega)), rfl⟩
      · skip
        have he := (hE k (by omega)).1
        refine jv_aload_n (pc' := 16) (k := 0) (x := 103) rfl rfl rfl hf0 ?_
        refine jv_getR (pc' := 19) (c := 12) (k := 28) (v := 124) rfl rfl rfl (fun _ _ => rfl) rfl rfl (jR_103_28 _) ?_
        refine jv_iload (pc' := 21) (k := 6) (x := (iI ((k : Nat) : Int))) rfl rfl hf6 ?_
        refine jv_laload (pc' := 22) (n := 65) (e := ((k : Nat) : Int)) (v := (lI (s 8 k))) rfl rfl rfl rfl rfl (by omega) ((hM.2.2.2 k (by omega)).2.2.2.2.2) ?_
        refine jv_lstore (pc' := 24) (k := 7) (x := (lI (s 8 k))) rfl rfl rfl (Or.inr (congrArg jm_lng hf6)) ?_
        refine jv_iload_n (pc' := 25) (k := 3) (x := (iI 61)) rfl rfl rfl hf3 ?_
        refine jv_bipush (pc' := 27) (n := 61) rfl rfl rfl ?_
        refine jv_ic_ne (t := 47) (pc' := 30) (a := 61) (b := 61) rfl rfl rfl (by omega) (fun hz_3 => ?_) (fun hz_3 => ?_)
        · skip
          exact absurd hz_3 (by decide)
        · skip
          refine jv_lload (pc' := 32) (k := 7) (x := (lI (s 8 k))) rfl rfl rfl ?_
          refine jv_iload (pc' := 34) (k := 4) (x := (iI num)) rfl rfl hf4 ?_
          refine jv_i2l (pc' := 35) (a := num) rfl rfl (by omega) ?_
          refine jv_lc_ne (t := 43) (pc' := 39) (a := (s 8 k)) (b := num) rfl rfl rfl rfl rfl (by omega) (fun hz_4 => ?_) (fun hz_4 => ?_)
          · skip
            refine jv_iconst (pc' := 44) (n := 0) rfl rfl ?_
            refine jx_step (pc' := 115) rfl ?_
            rw [show iI 0 = jb (fitN 61 (s 8 k) num) from (jb_f (fun z => by have := (fitN_61 rfl).1 z; omega)).symm]
            refine jv_istore (pc' := 117) (k := 9) (x := (jb (fitN 61 (s 8 k) num))) rfl rfl rfl (Or.inr rfl) ?_
            refine jv_iload (pc' := 119) (k := 5) (x := (jb P)) rfl rfl hf5 ?_
            refine jv_jb_ne (t := 158) (pc' := 122) (P := P) rfl rfl rfl (fun hz_5 => ?_) (fun hz_5 => ?_)
            · skip
              refine jv_iconst (pc' := 159) (n := 1) rfl rfl ?_
              refine jx_step (pc' := 163) rfl ?_
              rw [show iI 1 = jb (P ∨ (VD s l nm k ∧ fitN 61 (s 8 k) num)) from (jb_t (by first | exact Or.inl (by assumption) | exact Or.inr ⟨⟨by omega, by omega, by omega, by omega⟩, by assumption⟩)).symm]
              refine jv_istore (pc' := 165) (k := 5) (x := (jb (P ∨ (VD s l nm k ∧ fitN 61 (s 8 k) num)))) rfl rfl rfl (Or.inr (congrArg jm_lng hf4)) ?_
              refine jv_iinc (pc' := 168) (k := 6) (a := ((k : Nat) : Int)) rfl rfl hf6 rfl (Or.inr rfl) ?_
              refine jx_step (pc' := 6) rfl ?_
              exact ih (k + 1) (P ∨ (VD s l nm k ∧ fitN 61 (s 8 k) num)) (by omega) (by omega) (HJ_s hJ) _ hf0 hf1 hf2 hf3 hf4 rfl rfl 
            · skip
              refine jv_aload_n (pc' := 123) (k := 0) (x := 103) rfl rfl rfl hf0 ?_
              refine jv_iload (pc' := 125) (k := 6) (x := (iI ((k : Nat) : Int))) rfl rfl hf6 ?_
              refine jv_call (pc' := 128) rfl (ml_counts (k := k) hM hE hc (by omega)) (fun vq6 gq6 q6 => ?_)
              obtain ⟨rfl, rfl⟩ := q6
              show jx L xs _ 157 128 _ [.int (jb (s 7 k ≠ 1 ∧ s 7 k ≠ 4))] _ _
              refine jv_jb_eq (t := 162) (pc' := 131) (P := s 7 k ≠ 1 ∧ s 7 k ≠ 4) rfl rfl rfl (fun hz_7 => ?_) (fun hz_7 => ?_)
              · skip
                refine jv_iconst (pc' := 163) (n := 0) rfl rfl ?_
                rw [show iI 0 = jb (P ∨ (VD s l nm k ∧ fitN 61 (s 8 k) num)) from (jb_f (fun z => by rcases z with z | ⟨⟨z1, z2, z3, z4⟩, z5⟩ <;> first | contradiction | omega)).symm]
                refine jv_istore (pc' := 165) (k := 5) (x := (jb (P ∨ (VD s l nm k ∧ fitN 61 (s 8 k) num)))) rfl rfl rfl (Or.inr (congrArg jm_lng hf4)) ?_
                refine jv_iinc (pc' := 168) (k := 6) (a := ((k : Nat) : Int)) rfl rfl hf6 rfl (Or.inr rfl) ?_
                refine jx_step (pc' := 6) rfl ?_
                exact ih (k + 1) (P ∨ (VD s l nm k ∧ fitN 61 (s 8 k) num)) (by omega) (by omega) (HJ_s hJ) _ hf0 hf1 hf2 hf3 hf4 rfl rfl 
              · skip
                refine jv_aload_n (pc' := 132) (k := 0) (x := 103) rfl rfl rfl hf0 ?_
                refine jv_getR (pc' := 135) (c := 12) (k := 23) (v := 119) rfl rfl rfl (fun _ _ => rfl) rfl rfl (jR_103_23 _) ?_
                refine jv_iload (pc' := 137) (k := 6) (x := (iI ((k : Nat) : Int))) rfl rfl hf6 ?_
                refine jv_iaload (pc' := 138) (n := 65) (e := ((k : Nat) : Int)) (v := (iI (s 3 k))) rfl rfl (by decide) rfl rfl rfl (by omega) ((hM.2.2.2 k (by omega)).1) ?_
                refine jv_iload_n (pc' := 139) (k := 1) (x := (iI l)) rfl rfl rfl hf1 ?_
                refine jv_ic_ne (t := 162) (pc' := 142) (a := (s 3 k)) (b := l) rfl rfl rfl (by omega) (fun hz_8 => ?_) (fun hz_8 => ?_)
                · skip
                  refine jv_iconst (pc' := 163) (n := 0) rfl rfl ?_
                  rw [show iI 0 = jb (P ∨ (VD s l nm k ∧ fitN 61 (s 8 k) num)) from (jb_f (fun z => by rcases z with z | ⟨⟨z1, z2, z3, z4⟩, z5⟩ <;> first | contradiction | omega)).symm]
                  refine jv_istore (pc' := 165) (k := 5) (x := (jb (P ∨ (VD s l nm k ∧ fitN 61 (s 8 k) num)))) rfl rfl rfl (Or.inr (congrArg jm_lng hf4)) ?_
                  refine jv_iinc (pc' := 168) (k := 6) (a := ((k : Nat) : Int)) rfl rfl hf6 rfl (Or.inr rfl) ?_
                  refine jx_step (pc' := 6) rfl ?_
                  exact ih (k + 1) (P ∨ (VD s l nm k ∧ fitN 61 (s 8 k) num)) (by omega) (by omega) (HJ_s hJ) _ hf0 hf1 hf2 hf3 hf4 rfl rfl 
                · skip
                  refine jv_aload_n (pc' := 143) (k := 0) (x := 103) rfl rfl rfl hf0 ?_
                  refine jv_getR (pc' := 146) (c := 12) (k := 24) (v := 120) rfl rfl rfl (fun _ _ => rfl) rfl rfl (jR_103_24 _) ?_
                  refine jv_iload (pc' := 148) (k := 6) (x := (iI ((k : Nat) : Int))) rfl rfl hf6 ?_
                  refine jv_iaload (pc' := 149) (n := 65) (e := ((k : Nat) : Int)) (v := (iI (s 4 k))) rfl rfl (by decide) rfl rfl rfl (by omega) ((hM.2.2.2 k (by omega)).2.1) ?_
                  refine jv_iload_n (pc' := 150) (k := 2) (x := (iI nm)) rfl rfl rfl hf2 ?_
                  refine jv_ic_ne (t := 162) (pc' := 153) (a := (s 4 k)) (b := nm) rfl rfl rfl (by omega) (fun hz_9 => ?_) (fun hz_9 => ?_)
                  · skip
                    refine jv_iconst (pc' := 163) (n := 0) rfl rfl ?_
                    rw [show iI 0 = jb (P ∨ (VD s l nm k ∧ fitN 61 (s 8 k) num)) from (jb_f (fun z => by rcases z with z | ⟨⟨z1, z2, z3, z4⟩, z5⟩ <;> first | contradiction | omega)).symm]
                    refine jv_istore (pc' := 165) (k := 5) (x := (jb (P ∨ (VD s l nm k ∧ fitN 61 (s 8 k) num)))) rfl rfl rfl (Or.inr (congrArg jm_lng hf4)) ?_
                    refine jv_iinc (pc' := 168) (k := 6) (a := ((k : Nat) : Int)) rfl rfl hf6 rfl (Or.inr rfl) ?_
                    refine jx_step (pc' := 6) rfl ?_
                    exact ih (k + 1) (P ∨ (VD s l nm k ∧ fitN 61 (s 8 k) num)) (by omega) (by omega) (HJ_s hJ) _ hf0 hf1 hf2 hf3 hf4 rfl rfl 
                  · skip
                    refine jv_iload (pc' := 155) (k := 9) (x := (jb (fitN 61 (s 8 k) num))) rfl rfl rfl ?_
                    refine jv_jb_eq (t := 162) (pc' := 158) (P := fitN 61 (s 8 k) num) rfl rfl rfl (fun hz_10 => ?_) (fun hz_10 => ?_)
                    · skip
                      refine jv_iconst (pc' := 163) (n := 0) rfl rfl ?_
                      rw [show iI 0 = jb (P ∨ (VD s l nm k ∧ fitN 61 (s 8 k) num)) from (jb_f (fun z => by rcases z with z | ⟨⟨z1, z2, z3, z4⟩, z5⟩ <;> first | contradiction | omega)).symm]
                      refine jv_istore (pc' := 165) (k := 5) (x := (jb (P ∨ (VD s l nm k ∧ fitN 61 (s 8 k) num)))) rfl rfl rfl (Or.inr (congrArg jm_lng hf4)) ?_
                      refine jv_iinc (pc' := 168) (k := 6) (a := ((k : Nat) : Int)) rfl rfl hf6 rfl (Or.inr rfl) ?_
                      refine jx_step (pc' := 6) rfl ?_
                      exact ih (k + 1) (P ∨ (VD s l nm k ∧ fitN 61 (s 8 k) num)) (by omega) (by omega) (HJ_s hJ) _ hf0 hf1 hf2 hf3 hf4 rfl rfl 
                    · skip
                      refine jv_iconst (pc' := 159) (n := 1) rfl rfl ?_
                      refine jx_step (pc' := 163) rfl ?_
                      rw [show iI 1 = jb (P ∨ (VD s l nm k ∧ fitN 61 (s 8 k) num)) from (jb_t (by first | exact Or.inl (by assumption) | exact Or.inr ⟨⟨by omega, by omega, by omega, by omega⟩, by assumption⟩)).symm]
                      refine jv_istore (pc' := 165) (k := 5) (x := (jb (P ∨ (VD s l nm k ∧ fitN 61 (s 8 k) num)))) rfl rfl rfl (Or.inr (congrArg jm_lng hf4)) ?_
                      refine jv_iinc (pc' := 168) (k := 6) (a := ((k : Nat) : Int)) rfl rfl hf6 rfl (Or.inr rfl) ?_
                      refine jx_step (pc' := 6) rfl ?_
                      exact ih (k + 1) (P ∨ (VD s l nm k ∧ fitN 61 (s 8 k) num)) (by omega) (by omega) (HJ_s hJ) _ hf0 hf1 hf2 hf3 hf4 rfl rfl 
          · skip
            refine jv_iconst (pc' := 40) (n := 1) rfl rfl ?_
            refine jx_step (pc' := 115) rfl ?_
            rw [show iI 1 = jb (fitN 61 (s 8 k) num) from (jb_t ((fitN_61 rfl).2 (by omega))).symm]
            refine jv_istore (pc' := 117) (k := 9) (x := (jb (fitN 61 (s 8 k) num))) rfl rfl rfl (Or.inr rfl) ?_
            refine jv_iload (pc' := 119) (k := 5) (x := (jb P)) rfl rfl hf5 ?_
            refine jv_jb_ne (t := 158) (pc' := 122) (P := P) rfl rfl rfl (fun hz_11 => ?_) (fun hz_11 => ?_)
            · skip
              refine jv_iconst (pc' := 159) (n := 1) rfl rfl ?_
              refine jx_step (pc' := 163) rfl ?_
              rw [show iI 1 = jb (P ∨ (VD s l nm k ∧ fitN 61 (s 8 k) num)) from (jb_t (by first | exact Or.inl (by assumption) | exact Or.inr ⟨⟨by omega, by omega, by omega, by omega⟩, by assumption⟩)).symm]
              refine jv_istore (pc' := 165) (k := 5) (x := (jb (P ∨ (VD s l nm k ∧ fitN 61 (s 8 k) num)))) rfl rfl rfl (Or.inr (congrArg jm_lng hf4)) ?_
              refine jv_iinc (pc' := 168) (k := 6) (a := ((k : Nat) : Int)) rfl rfl hf6 rfl (Or.inr rfl) ?_
              refine jx_step (pc' := 6) rfl ?_
              exact ih (k + 1) (P ∨ (VD s l nm k ∧ fitN 61 (s 8 k) num)) (by omega) (by omega) (HJ_s hJ) _ hf0 hf1 hf2 hf3 hf4 rfl rfl 
            · skip
              refine jv_aload_n (pc' := 123) (k := 0) (x := 103) rfl rfl rfl hf0 ?_
              refine jv_iload (pc' := 125) (k := 6) (x := (iI ((k : Nat) : Int))) rfl rfl hf6 ?_
              refine jv_call (pc' := 128) rfl (ml_counts (k := k) hM hE hc (by omega)) (fun vq12 gq12 q12 => ?_)
              obtain ⟨rfl, rfl⟩ := q12
              show jx L xs _ 157 128 _ [.int (jb (s 7 k ≠ 1 ∧ s 7 k ≠ 4))] _ _
              refine jv_jb_eq (t := 162) (pc' := 131) (P := s 7 k ≠ 1 ∧ s 7 k ≠ 4) rfl rfl rfl (fun hz_13 => ?_) (fun hz_13 => ?_)
              · skip
                refine jv_iconst (pc' := 163) (n := 0) rfl rfl ?_
                rw [show iI 0 = jb (P ∨ (VD s l nm k ∧ fitN 61 (s 8 k) num)) from (jb_f (fun z => by rcases z with z | ⟨⟨z1, z2, z3, z4⟩, z5⟩ <;> first | contradiction | omega)).symm]
                refine jv_istore (pc' := 165) (k := 5) (x := (jb (P ∨ (VD s l nm k ∧ fitN 61 (s 8 k) num)))) rfl rfl rfl (Or.inr (congrArg jm_lng hf4)) ?_
                refine jv_iinc (pc' := 168) (k := 6) (a := ((k : Nat) : Int)) rfl rfl hf6 rfl (Or.inr rfl) ?_
                refine jx_step (pc' := 6) rfl ?_
                exact ih (k + 1) (P ∨ (VD s l nm k ∧ fitN 61 (s 8 k) num)) (by omega) (by omega) (HJ_s hJ) _ hf0 hf1 hf2 hf3 hf4 rfl rfl 
              · skip
                refine jv_aload_n (pc' := 132) (k := 0) (x := 103) rfl rfl rfl hf0 ?_
                refine jv_getR (pc' := 135) (c := 12) (k := 23) (v := 119) rfl rfl rfl (fun _ _ => rfl) rfl rfl (jR_103_23 _) ?_
                refine jv_iload (pc' := 137) (k := 6) (x := (iI ((k : Nat) : Int))) rfl rfl hf6 ?_
                refine jv_iaload (pc' := 138) (n := 65) (e := ((k : Nat) : Int)) (v := (iI (s 3 k))) rfl rfl (by decide) rfl rfl rfl (by omega) ((hM.2.2.2 k (by omega)).1) ?_
                refine jv_iload_n (pc' := 139) (k := 1) (x := (iI l)) rfl rfl rfl hf1 ?_
                refine jv_ic_ne (t := 162) (pc' := 142) (a := (s 3 k)) (b := l) rfl rfl rfl (by omega) (fun hz_14 => ?_) (fun hz_14 => ?_)
                · skip
                  refine jv_iconst (pc' := 163) (n := 0) rfl rfl ?_
                  rw [show iI 0 = jb (P ∨ (VD s l nm k ∧ fitN 61 (s 8 k) num)) from (jb_f (fun z => by rcases z with z | ⟨⟨z1, z2, z3, z4⟩, z5⟩ <;> first | contradiction | omega)).symm]
                  refine jv_istore (pc' := 165) (k := 5) (x := (jb (P ∨ (VD s l nm k ∧ fitN 61 (s 8 k) num)))) rfl rfl rfl (Or.inr (congrArg jm_lng hf4)) ?_
                  refine jv_iinc (pc' := 168) (k := 6) (a := ((k : Nat) : Int)) rfl rfl hf6 rfl (Or.inr rfl) ?_
                  refine jx_step (pc' := 6) rfl ?_
                  exact ih (k + 1) (P ∨ (VD s l nm k ∧ fitN 61 (s 8 k) num)) (by omega) (by omega) (HJ_s hJ) _ hf0 hf1 hf2 hf3 hf4 rfl rfl 
                · skip
                  refine jv_aload_n (pc' := 143) (k := 0) (x := 103) rfl rfl rfl hf0 ?_
                  refine jv_getR (pc' := 146) (c := 12) (k := 24) (v := 120) rfl rfl rfl (fun _ _ => rfl) rfl rfl (jR_103_24 _) ?_
                  refine jv_iload (pc' := 148) (k := 6) (x := (iI ((k : Nat) : Int))) rfl rfl hf6 ?_
                  refine jv_iaload (pc' := 149) (n := 65) (e := ((k : Nat) : Int)) (v := (iI (s 4 k))) rfl rfl (by decide) rfl rfl rfl (by omega) ((hM.2.2.2 k (by omega)).2.1) ?_
                  refine jv_iload_n (pc' := 150) (k := 2) (x := (iI nm)) rfl rfl rfl hf2 ?_
                  refine jv_ic_ne (t := 162) (pc' := 153) (a := (s 4 k)) (b := nm) rfl rfl rfl (by omega) (fun hz_15 => ?_) (fun hz_15 => ?_)
                  · skip
                    refine jv_iconst (pc' := 163) (n := 0) rfl rfl ?_
                    rw [show iI 0 = jb (P ∨ (VD s l nm k ∧ fitN 61 (s 8 k) num)) from (jb_f (fun z => by rcases z with z | ⟨⟨z1, z2, z3, z4⟩, z5⟩ <;> first | contradiction | omega)).symm]
                    refine jv_istore (pc' := 165) (k := 5) (x := (jb (P ∨ (VD s l nm k ∧ fitN 61 (s 8 k) num)))) rfl rfl rfl (Or.inr (congrArg jm_lng hf4)) ?_
                    refine jv_iinc (pc' := 168) (k := 6) (a := ((k : Nat) : Int)) rfl rfl hf6 rfl (Or.inr rfl) ?_
                    refine jx_step (pc' := 6) rfl ?_
                    exact ih (k + 1) (P ∨ (VD s l nm k ∧ fitN 61 (s 8 k) num)) (by omega) (by omega) (HJ_s hJ) _ hf0 hf1 hf2 hf3 hf4 rfl rfl 
                  · skip
                    refine jv_iload (pc' := 155) (k := 9) (x := (jb (fitN 61 (s 8 k) num))) rfl rfl rfl ?_
                    refine jv_jb_eq (t := 162) (pc' := 158) (P := fitN 61 (s 8 k) num) rfl rfl rfl (fun hz_16 => ?_) (fun hz_16 => ?_)
                    · skip
                      refine jv_iconst (pc' := 163) (n := 0) rfl rfl ?_
                      rw [show iI 0 = jb (P ∨ (VD s l nm k ∧ fitN 61 (s 8 k) num)) from (jb_f (fun z => by rcases z with z | ⟨⟨z1, z2, z3, z4⟩, z5⟩ <;> first | contradiction | omega)).symm]
                      refine jv_istore (pc' := 165) (k := 5) (x := (jb (P ∨ (VD s l nm k ∧ fitN 61 (s 8 k) num)))) rfl rfl rfl (Or.inr (congrArg jm_lng hf4)) ?_
                      refine jv_iinc (pc' := 168) (k := 6) (a := ((k : Nat) : Int)) rfl rfl hf6 rfl (Or.inr rfl) ?_
                      refine jx_step (pc' := 6) rfl ?_
                      exact ih (k + 1) (P ∨ (VD s l nm k ∧ fitN 61 (s 8 k) num)) (by omega) (by omega) (HJ_s hJ) _ hf0 hf1 hf2 hf3 hf4 rfl rfl 
                    · skip
                      refine jv_iconst (pc' := 159) (n := 1) rfl rfl ?_
                      refine jx_step (pc' := 163) rfl ?_
                      rw [show iI 1 = jb (P ∨ (VD s l nm k ∧ fitN 61 (s 8 k) num)) from (jb_t (by first | exact Or.inl (by assumption) | exact Or.inr ⟨⟨by omega, by omega, by omega, by omega⟩, by assumption⟩)).symm]
                      refine jv_istore (pc' := 165) (k := 5) (x := (jb (P ∨ (VD s l nm k ∧ fitN 61 (s 8 k) num)))) rfl rfl rfl (Or.inr (congrArg jm_lng hf4)) ?_
                      refine jv_iinc (pc' := 168) (k := 6) (a := ((k : Nat) : Int)) rfl rfl hf6 rfl (Or.inr rfl) ?_
                      refine jx_step (pc' := 6) rfl ?_
                      exact ih (k + 1) (P ∨ (VD s l nm k ∧ fitN 61 (s 8 k) num)) (by omega) (by omega) (HJ_s hJ) _ hf0 hf1 hf2 hf3 hf4 rfl rfl 
  exact H1 _ 0 False (Nat.lt_succ_self _) (by omega) ⟨False.elim, fun ⟨_, h, _⟩ => absurd h (by omega)⟩ _ rfl rfl rfl rfl rfl rfl rfl 
theorem ml_has_60 (hM : DMe I M s) (hE : EP W sz s) (hc : 0 ≤ s 0 2 ∧ s 0 2 ≤ 64) (hl : iR l) (hn : iR nm) (hnu : 0 ≤ num ∧ num < 1000000) : jc L xs (d + 1) 157 [.ref 103, .int (iI l), .int (iI nm), .int (iI (60)), .int (iI num)] (jx_G j I M p) (fun v g1 => v = some (.int (jb (HP s l nm (fun v => fitN 60 v num)))) ∧ g1 = jx_G j I M p) := by
  unfold jc
  refine jv_iconst (pc' := 1) (n := 0) rfl rfl ?_
  rw [show iI 0 = jb False from (jb_f id).symm]
  refine jv_istore (pc' := 3) (k := 5) (x := (jb False)) rfl rfl rfl (Or.inr rfl) ?_
  refine jv_iconst (pc' := 4) (n := 0) rfl rfl ?_
  refine jv_istore (pc' := 6) (k := 6) (x := (iI 0)) rfl rfl rfl (Or.inr rfl) ?_
  have H1 : ∀ (N : Nat) (k : Nat) (P : Prop), 64 - k < N → ((k : Int) ≤ s 0 2) → (HJ s l nm k (fun v => fitN 60 v num) P) → ∀ f : jm_F, f 0 = some (.ref 103) → f 1 = some (.int (iI l)) → f 2 = some (.int (iI nm)) → f 3 = some (.int (iI 60)) → f 4 = some (.int (iI num)) → f 5 = some (.int (jb P)) → f 6 = some (.int (iI ((k : Nat) : Int))) → jx L xs ((d + 1)) 157 6 f [] (jx_G j I M p) (fun z => ∃ v g1, z = (.inl v, g1) ∧ (fun v g1 => v = some (.int (jb (HP s l nm (fun v => fitN 60 v num)))) ∧ g1 = jx_G j I M p) v g1) := by
    intro N
    induction N with
    | zero => intro k P hN; exact absurd hN (Nat.not_lt_zero _)
    | succ N ih =>
      intro k P hN hk hJ f hf0 hf1 hf2 hf3 hf4 hf5 hf6 
      refine jv_iload (pc' := 8) (k := 6) (x := (iI ((k : Nat) : Int))) rfl rfl hf6 ?_
      refine jv_aload_n (pc' := 9) (k := 0) (x := 103) rfl rfl rfl hf0 ?_
      refine jv_getI (pc' := 12) (c := 12) (k := 22) (v := (iI (s 0 2))) rfl rfl rfl (fun _ _ => rfl) rfl rfl hM.2.2.1 ?_
      refine jv_ic_ge (t := 171) (pc' := 15) (a := ((k : Nat) : Int)) (b := (s 0 2)) rfl rfl rfl (by omega) (fun hz_2 => ?_) (fun hz_2 => ?_)
      · skip
        refine jv_iload (pc' := 173) (k := 5) (x := (jb P)) rfl rfl hf5 ?_
        refine jv_retZ rfl rfl (jb_01 _) ⟨_, _, rfl, ?_⟩
        exact ⟨jq_e (HJ_e hJ (by omega)), rfl⟩
      · skip
        have he := (hE k (by omega)).1
        refine jv_aload_n (pc' := 16) (k := 0) (x := 103) rfl rfl rfl hf0 ?_
        refine jv_getR (pc' := 19) (c := 12) (k := 28) (v := 124) rfl rfl rfl (fun _ _ => rfl) rfl rfl (jR_103_28 _) ?_
        refine jv_iload (pc' := 21) (k := 6) (x := (iI ((k : Nat) : Int))) rfl rfl hf6 ?_
        refine jv_laload (pc' := 22) (n := 65) (e := ((k : Nat) : Int)) (v := (lI (s 8 k))) rfl rfl rfl rfl rfl (by omega) ((hM.2.2.2 k (by omega)).2.2.2.2.2) ?_
        refine jv_lstore (pc' := 24) (k := 7) (x := (lI (s 8 k))) rfl rfl rfl (Or.inr (congrArg jm_lng hf6)) ?_
        refine jv_iload_n (pc' := 25) (k := 3) (x := (iI 60)) rfl rfl rfl hf3 ?_
        refine jv_bipush (pc' := 27) (n := 61) rfl rfl rfl ?_
        refine jv_ic_ne (t := 47) (pc' := 30) (a := 60) (b := 61) rfl rfl rfl (by omega) (fun hz_3 => ?_) (fun hz_3 => ?_)
        · skip
          refine jv_iload_n (pc' := 48) (k := 3) (x := (iI 60)) rfl rfl rfl hf3 ?_
          refine jv_bipush (pc' := 50) (n := 60) rfl rfl rfl ?_
          refine jv_ic_ne (t := 70) (pc' := 53) (a := 60) (b := 60) rfl rfl rfl (by omega) (fun hz_4 => ?_) (fun hz_4 => ?_)
          · skip
            exact absurd hz_4 (by decide)
          · skip
            refine jv_lload (pc' := 55) (k := 7) (x := (lI (s 8 k))) rfl rfl rfl ?_
            refine jv_iload (pc' := 57) (k := 4) (x := (iI num)) rfl rfl hf4 ?_
            refine jv_i2l (pc' := 58) (a := num) rfl rfl (by omega) ?_
            refine jv_lc_ge (t := 66) (pc' := 62) (a := (s 8 k)) (b := num) rfl rfl rfl rfl rfl (by omega) (fun hz_5 => ?_) (fun hz_5 => ?_)
            · skip
              refine jv_iconst (pc' := 67) (n := 0) rfl rfl ?_
              refine jx_step (pc' := 115) rfl ?_
              rw [show iI 0 = jb (fitN 60 (s 8 k) num) from (jb_f (fun z => by have := (fitN_60 rfl).1 z; omega)).symm]
              refine jv_istore (pc' := 117) (k := 9) (x := (jb (fitN 60 (s 8 k) num))) rfl rfl rfl (Or.inr rfl) ?_
              refine jv_iload (pc' := 119) (k := 5) (x := (jb P)) rfl rfl hf5 ?_
              refine jv_jb_ne (t := 158) (pc' := 122) (P := P) rfl rfl rfl (fun hz_6 => ?_) (fun hz_6 => ?_)
              · skip
                refine jv_iconst (pc' := 159) (n := 1) rfl rfl ?_
                refine jx_step (pc' := 163) rfl ?_
                rw [show iI 1 = jb (P ∨ (VD s l nm k ∧ fitN 60 (s 8 k) num)) from (jb_t (by first | exact Or.inl (by assumption) | exact Or.inr ⟨⟨by omega, by omega, by omega, by omega⟩, by assumption⟩)).symm]
                refine jv_istore (pc' := 165) (k := 5) (x := (jb (P ∨ (VD s l nm k ∧ fitN 60 (s 8 k) num)))) rfl rfl rfl (Or.inr (congrArg jm_lng hf4)) ?_
                refine jv_iinc (pc' := 168) (k := 6) (a := ((k : Nat) : Int)) rfl rfl hf6 rfl (Or.inr rfl) ?_
                refine jx_step (pc' := 6) rfl ?_
                exact ih (k + 1) (P ∨ (VD s l nm k ∧ fitN 60 (s 8 k) num)) (by omega) (by omega) (HJ_s hJ) _ hf0 hf1 hf2 hf3 hf4 rfl rfl 
              · skip
                refine jv_aload_n (pc' := 123) (k := 0) (x := 103) rfl rfl rfl hf0 ?_
                refine jv_iload (pc' := 125) (k := 6) (x := (iI ((k : Nat) : Int))) rfl rfl hf6 ?_
                refine jv_call (pc' := 128) rfl (ml_counts (k := k) hM hE hc (by omega)) (fun vq7 gq7 q7 => ?_)
                obtain ⟨rfl, rfl⟩ := q7
                show jx L xs _ 157 128 _ [.int (jb (s 7 k ≠ 1 ∧ s 7 k ≠ 4))] _ _
                refine jv_jb_eq (t := 162) (pc' := 131) (P := s 7 k ≠ 1 ∧ s 7 k ≠ 4) rfl rfl rfl (fun hz_8 => ?_) (fun hz_8 => ?_)
                · skip
                  refine jv_iconst (pc' := 163) (n := 0) rfl rfl ?_
                  rw [show iI 0 = jb (P ∨ (VD s l nm k ∧ fitN 60 (s 8 k) num)) from (jb_f (fun z => by rcases z with z | ⟨⟨z1, z2, z3, z4⟩, z5⟩ <;> first | contradiction | omega)).symm]
                  refine jv_istore (pc' := 165) (k := 5) (x := (jb (P ∨ (VD s l nm k ∧ fitN 60 (s 8 k) num)))) rfl rfl rfl (Or.inr (congrArg jm_lng hf4)) ?_
                  refine jv_iinc (pc' := 168) (k := 6) (a := ((k : Nat) : Int)) rfl rfl hf6 rfl (Or.inr rfl) ?_
                  refine jx_step (pc' := 6) rfl ?_
                  exact ih (k + 1) (P ∨ (VD s l nm k ∧ fitN 60 (s 8 k) num)) (by omega) (by omega) (HJ_s hJ) _ hf0 hf1 hf2 hf3 hf4 rfl rfl 
                · skip
                  refine jv_aload_n (pc' := 132) (k := 0) (x := 103) rfl rfl rfl hf0 ?_
                  refine jv_getR (pc' := 135) (c := 12) (k := 23) (v := 119) rfl rfl rfl (fun _ _ => rfl) rfl rfl (jR_103_23 _) ?_
                  refine jv_iload (pc' := 137) (k := 6) (x := (iI ((k : Nat) : Int))) rfl rfl hf6 ?_
                  refine jv_iaload (pc' := 138) (n := 65) (e := ((k : Nat) : Int)) (v := (iI (s 3 k))) rfl rfl (by decide) rfl rfl rfl (by omega) ((hM.2.2.2 k (by omega)).1) ?_
                  refine jv_iload_n (pc' := 139) (k := 1) (x := (iI l)) rfl rfl rfl hf1 ?_
                  refine jv_ic_ne (t := 162) (pc' := 142) (a := (s 3 k)) (b := l) rfl rfl rfl (by omega) (fun hz_9 => ?_) (fun hz_9 => ?_)
                  · skip
                    refine jv_iconst (pc' := 163) (n := 0) rfl rfl ?_
                    rw [show iI 0 = jb (P ∨ (VD s l nm k ∧ fitN 60 (s 8 k) num)) from (jb_f (fun z => by rcases z with z | ⟨⟨z1, z2, z3, z4⟩, z5⟩ <;> first | contradiction | omega)).symm]
                    refine jv_istore (pc' := 165) (k := 5) (x := (jb (P ∨ (VD s l nm k ∧ fitN 60 (s 8 k) num)))) rfl rfl rfl (Or.inr (congrArg jm_lng hf4)) ?_
                    refine jv_iinc (pc' := 168) (k := 6) (a := ((k : Nat) : Int)) rfl rfl hf6 rfl (Or.inr rfl) ?_
                    refine jx_step (pc' := 6) rfl ?_
                    exact ih (k + 1) (P ∨ (VD s l nm k ∧ fitN 60 (s 8 k) num)) (by omega) (by omega) (HJ_s hJ) _ hf0 hf1 hf2 hf3 hf4 rfl rfl 
                  · skip
                    refine jv_aload_n (pc' := 143) (k := 0) (x := 103) rfl rfl rfl hf0 ?_
                    refine jv_getR (pc' := 146) (c := 12) (k := 24) (v := 120) rfl rfl rfl (fun _ _ => rfl) rfl rfl (jR_103_24 _) ?_
                    refine jv_iload (pc' := 148) (k := 6) (x := (iI ((k : Nat) : Int))) rfl rfl hf6 ?_
                    refine jv_iaload (pc' := 149) (n := 65) (e := ((k : Nat) : Int)) (v := (iI (s 4 k))) rfl rfl (by decide) rfl rfl rfl (by omega) ((hM.2.2.2 k (by omega)).2.1) ?_
                    refine jv_iload_n (pc' := 150) (k := 2) (x := (iI nm)) rfl rfl rfl hf2 ?_
                    refine jv_ic_ne (t := 162) (pc' := 153) (a := (s 4 k)) (b := nm) rfl rfl rfl (by omega) (fun hz_10 => ?_) (fun hz_10 => ?_)
                    · skip
                      refine jv_iconst (pc' := 163) (n := 0) rfl rfl ?_
                      rw [show iI 0 = jb (P ∨ (VD s l nm k ∧ fitN 60 (s 8 k) num)) from (jb_f (fun z => by rcases z with z | ⟨⟨z1, z2, z3, z4⟩, z5⟩ <;> first | contradiction | omega)).symm]
                      refine jv_istore (pc' := 165) (k := 5) (x := (jb (P ∨ (VD s l nm k ∧ fitN 60 (s 8 k) num)))) rfl rfl rfl (Or.inr (congrArg jm_lng hf4)) ?_
                      refine jv_iinc (pc' := 168) (k := 6) (a := ((k : Nat) : Int)) rfl rfl hf6 rfl (Or.inr rfl) ?_
                      refine jx_step (pc' := 6) rfl ?_
                      exact ih (k + 1) (P ∨ (VD s l nm k ∧ fitN 60 (s 8 k) num)) (by omega) (by omega) (HJ_s hJ) _ hf0 hf1 hf2 hf3 hf4 rfl rfl 
                    · skip
                      refine jv_iload (pc' := 155) (k := 9) (x := (jb (fitN 60 (s 8 k) num))) rfl rfl rfl ?_
                      refine jv_jb_eq (t := 162) (pc' := 158) (P := fitN 60 (s 8 k) num) rfl rfl rfl (fun hz_11 => ?_) (fun hz_11 => ?_)
                      · skip
                        refine jv_iconst (pc' := 163) (n := 0) rfl rfl ?_
                        rw [show iI 0 = jb (P ∨ (VD s l nm k ∧ fitN 60 (s 8 k) num)) from (jb_f (fun z => by rcases z with z | ⟨⟨z1, z2, z3, z4⟩, z5⟩ <;> first | contradiction | omega)).symm]
                        refine jv_istore (pc' := 165) (k := 5) (x := (jb (P ∨ (VD s l nm k ∧ fitN 60 (s 8 k) num)))) rfl rfl rfl (Or.inr (congrArg jm_lng hf4)) ?_
                        refine jv_iinc (pc' := 168) (k := 6) (a := ((k : Nat) : Int)) rfl rfl hf6 rfl (Or.inr rfl) ?_
                        refine jx_step (pc' := 6) rfl ?_
                        exact ih (k + 1) (P ∨ (VD s l nm k ∧ fitN 60 (s 8 k) num)) (by omega) (by omega) (HJ_s hJ) _ hf0 hf1 hf2 hf3 hf4 rfl rfl 
                      · skip
                        refine jv_iconst (pc' := 159) (n := 1) rfl rfl ?_
                        refine jx_step (pc' := 163) rfl ?_
                        rw [show iI 1 = jb (P ∨ (VD s l nm k ∧ fitN 60 (s 8 k) num)) from (jb_t (by first | exact Or.inl (by assumption) | exact Or.inr ⟨⟨by omega, by omega, by omega, by omega⟩, by assumption⟩)).symm]
                        refine jv_istore (pc' := 165) (k := 5) (x := (jb (P ∨ (VD s l nm k ∧ fitN 60 (s 8 k) num)))) rfl rfl rfl (Or.inr (congrArg jm_lng hf4)) ?_
                        refine jv_iinc (pc' := 168) (k := 6) (a := ((k : Nat) : Int)) rfl rfl hf6 rfl (Or.inr rfl) ?_
                        refine jx_step (pc' := 6) rfl ?_
                        exact ih (k + 1) (P ∨ (VD s l nm k ∧ fitN 60 (s 8 k) num)) (by omega) (by omega) (HJ_s hJ) _ hf0 hf1 hf2 hf3 hf4 rfl rfl 
            · skip
              refine jv_iconst (pc' := 63) (n := 1) rfl rfl ?_
              refine jx_step (pc' := 115) rfl ?_
              rw [show iI 1 = jb (fitN 60 (s 8 k) num) from (jb_t ((fitN_60 rfl).2 (by omega))).symm]
              refine jv_istore (pc' := 117) (k := 9) (x := (jb (fitN 60 (s 8 k) num))) rfl rfl rfl (Or.inr rfl) ?_
              refine jv_iload (pc' := 119) (k := 5) (x := (jb P)) rfl rfl hf5 ?_
              refine jv_jb_ne (t := 158) (pc' := 122) (P := P) rfl rfl rfl (fun hz_12 => ?_) (fun hz_12 => ?_)
              · skip
                refine jv_iconst (pc' := 159) (n := 1) rfl rfl ?_
                refine jx_step (pc' := 163) rfl ?_
                rw [show iI 1 = jb (P ∨ (VD s l nm k ∧ fitN 60 (s 8 k) num)) from (jb_t (by first | exact Or.inl (by assumption) | exact Or.inr ⟨⟨by omega, by omega, by omega, by omega⟩, by assumption⟩)).symm]
                refine jv_istore (pc' := 165) (k := 5) (x := (jb (P ∨ (VD s l nm k ∧ fitN 60 (s 8 k) num)))) rfl rfl rfl (Or.inr (congrArg jm_lng hf4)) ?_
                refine jv_iinc (pc' := 168) (k := 6) (a := ((k : Nat) : Int)) rfl rfl hf6 rfl (Or.inr rfl) ?_
                refine jx_step (pc' := 6) rfl ?_
                exact ih (k + 1) (P ∨ (VD s l nm k ∧ fitN 60 (s 8 k) num)) (by omega) (by omega) (HJ_s hJ) _ hf0 hf1 hf2 hf3 hf4 rfl rfl 
              · skip
                refine jv_aload_n (pc' := 123) (k := 0) (x := 103) rfl rfl rfl hf0 ?_
                refine jv_iload (pc' := 125) (k := 6) (x := (iI ((k : Nat) : Int))) rfl rfl hf6 ?_
                refine jv_call (pc' := 128) rfl (ml_counts (k := k) hM hE hc (by omega)) (fun vq13 gq13 q13 => ?_)
                obtain ⟨rfl, rfl⟩ := q13
                show jx L xs _ 157 128 _ [.int (jb (s 7 k ≠ 1 ∧ s 7 k ≠ 4))] _ _
                refine jv_jb_eq (t := 162) (pc' := 131) (P := s 7 k ≠ 1 ∧ s 7 k ≠ 4) rfl rfl rfl (fun hz_14 => ?_) (fun hz_14 => ?_)
                · skip
                  refine jv_iconst (pc' := 163) (n := 0) rfl rfl ?_
                  rw [show iI 0 = jb (P ∨ (VD s l nm k ∧ fitN 60 (s 8 k) num)) from (jb_f (fun z => by rcases z with z | ⟨⟨z1, z2, z3, z4⟩, z5⟩ <;> first | contradiction | omega)).symm]
                  refine jv_istore (pc' := 165) (k := 5) (x := (jb (P ∨ (VD s l nm k ∧ fitN 60 (s 8 k) num)))) rfl rfl rfl (Or.inr (congrArg jm_lng hf4)) ?_
                  refine jv_iinc (pc' := 168) (k := 6) (a := ((k : Nat) : Int)) rfl rfl hf6 rfl (Or.inr rfl) ?_
                  refine jx_step (pc' := 6) rfl ?_
                  exact ih (k + 1) (P ∨ (VD s l nm k ∧ fitN 60 (s 8 k) num)) (by omega) (by omega) (HJ_s hJ) _ hf0 hf1 hf2 hf3 hf4 rfl rfl 
                · skip
                  refine jv_aload_n (pc' := 132) (k := 0) (x := 103) rfl rfl rfl hf0 ?_
                  refine jv_getR (pc' := 135) (c := 12) (k := 23) (v := 119) rfl rfl rfl (fun _ _ => rfl) rfl rfl (jR_103_23 _) ?_
                  refine jv_iload (pc' := 137) (k := 6) (x := (iI ((k : Nat) : Int))) rfl rfl hf6 ?_
                  refine jv_iaload (pc' := 138) (n := 65) (e := ((k : Nat) : Int)) (v := (iI (s 3 k))) rfl rfl (by decide) rfl rfl rfl (by omega) ((hM.2.2.2 k (by omega)).1) ?_
                  refine jv_iload_n (pc' := 139) (k := 1) (x := (iI l)) rfl rfl rfl hf1 ?_
                  refine jv_ic_ne (t := 162) (pc' := 142) (a := (s 3 k)) (b := l) rfl rfl rfl (by omega) (fun hz_15 => ?_) (fun hz_15 => ?_)
                  · skip
                    refine jv_iconst (pc' := 163) (n := 0) rfl rfl ?_
                    rw [show iI 0 = jb (P ∨ (VD s l nm k ∧ fitN 60 (s 8 k) num)) from (jb_f (fun z => by rcases z with z | ⟨⟨z1, z2, z3, z4⟩, z5⟩ <;> first | contradiction | omega)).symm]
                    refine jv_istore (pc' := 165) (k := 5) (x := (jb (P ∨ (VD s l nm k ∧ fitN 60 (s 8 k) num)))) rfl rfl rfl (Or.inr (congrArg jm_lng hf4)) ?_
                    refine jv_iinc (pc' := 168) (k := 6) (a := ((k : Nat) : Int)) rfl rfl hf6 rfl (Or.inr rfl) ?_
                    refine jx_step (pc' := 6) rfl ?_
                    exact ih (k + 1) (P ∨ (VD s l nm k ∧ fitN 60 (s 8 k) num)) (by omega) (by omega) (HJ_s hJ) _ hf0 hf1 hf2 hf3 hf4 rfl rfl 
                  · skip
                    refine jv_aload_n (pc' := 143) (k := 0) (x := 103) rfl rfl rfl hf0 ?_
                    refine jv_getR (pc' := 146) (c := 12) (k := 24) (v := 120) rfl rfl rfl (fun _ _ => rfl) rfl rfl (jR_103_24 _) ?_
                    refine jv_iload (pc' := 148) (k := 6) (x := (iI ((k : Nat) : Int))) rfl rfl hf6 ?_
                    refine jv_iaload (pc' := 149) (n := 65) (e := ((k : Nat) : Int)) (v := (iI (s 4 k))) rfl rfl (by decide) rfl rfl rfl (by omega) ((hM.2.2.2 k (by omega)).2.1) ?_
                    refine jv_iload_n (pc' := 150) (k := 2) (x := (iI nm)) rfl rfl rfl hf2 ?_
                    refine jv_ic_ne (t := 162) (pc' := 153) (a := (s 4 k)) (b := nm) rfl rfl rfl (by omega) (fun hz_16 => ?_) (fun hz_16 => ?_)
                    · skip
                      refine jv_iconst (pc' := 163) (n := 0) rfl rfl ?_
                      rw [show iI 0 = jb (P ∨ (VD s l nm k ∧ fitN 60 (s 8 k) num)) from (jb_f (fun z => by rcases z with z | ⟨⟨z1, z2, z3, z4⟩, z5⟩ <;> first | contradiction | omega)).symm]
                      refine jv_istore (pc' := 165) (k := 5) (x := (jb (P ∨ (VD s l nm k ∧ fitN 60 (s 8 k) num)))) rfl rfl rfl (Or.inr (congrArg jm_lng hf4)) ?_
                      refine jv_iinc (pc' := 168) (k := 6) (a := ((k : Nat) : Int)) rfl rfl hf6 rfl (Or.inr rfl) ?_
                      refine jx_step (pc' := 6) rfl ?_
                      exact ih (k + 1) (P ∨ (VD s l nm k ∧ fitN 60 (s 8 k) num)) (by omega) (by omega) (HJ_s hJ) _ hf0 hf1 hf2 hf3 hf4 rfl rfl 
                    · skip
                      refine jv_iload (pc' := 155) (k := 9) (x := (jb (fitN 60 (s 8 k) num))) rfl rfl rfl ?_
                      refine jv_jb_eq (t := 162) (pc' := 158) (P := fitN 60 (s 8 k) num) rfl rfl rfl (fun hz_17 => ?_) (fun hz_17 => ?_)
                      · skip
                        refine jv_iconst (pc' := 163) (n := 0) rfl rfl ?_
                        rw [show iI 0 = jb (P ∨ (VD s l nm k ∧ fitN 60 (s 8 k) num)) from (jb_f (fun z => by rcases z with z | ⟨⟨z1, z2, z3, z4⟩, z5⟩ <;> first | contradiction | omega)).symm]
                        refine jv_istore (pc' := 165) (k := 5) (x := (jb (P ∨ (VD s l nm k ∧ fitN 60 (s 8 k) num)))) rfl rfl rfl (Or.inr (congrArg jm_lng hf4)) ?_
                        refine jv_iinc (pc' := 168) (k := 6) (a := ((k : Nat) : Int)) rfl rfl hf6 rfl (Or.inr rfl) ?_
                        refine jx_step (pc' := 6) rfl ?_
                        exact ih (k + 1) (P ∨ (VD s l nm k ∧ fitN 60 (s 8 k) num)) (by omega) (by omega) (HJ_s hJ) _ hf0 hf1 hf2 hf3 hf4 rfl rfl 
                      · skip
                        refine jv_iconst (pc' := 159) (n := 1) rfl rfl ?_
                        refine jx_step (pc' := 163) rfl ?_
                        rw [show iI 1 = jb (P ∨ (VD s l nm k ∧ fitN 60 (s 8 k) num)) from (jb_t (by first | exact Or.inl (by assumption) | exact Or.inr ⟨⟨by omega, by omega, by omega, by omega⟩, by assumption⟩)).symm]
                        refine jv_istore (pc' := 165) (k := 5) (x := (jb (P ∨ (VD s l nm k ∧ fitN 60 (s 8 k) num)))) rfl rfl rfl (Or.inr (congrArg jm_lng hf4)) ?_
                        refine jv_iinc (pc' := 168) (k := 6) (a := ((k : Nat) : Int)) rfl rfl hf6 rfl (Or.inr rfl) ?_
                        refine jx_step (pc' := 6) rfl ?_
                        exact ih (k + 1) (P ∨ (VD s l nm k ∧ fitN 60 (s 8 k) num)) (by omega) (by omega) (HJ_s hJ) _ hf0 hf1 hf2 hf3 hf4 rfl rfl 
        · skip
          exact absurd hz_3 (by decide)
  exact H1 _ 0 False (Nat.lt_succ_self _) (by omega) ⟨False.elim, fun ⟨_, h, _⟩ => absurd h (by omega)⟩ _ rfl rfl rfl rfl rfl rfl rfl 
theorem ml_has_62 (hM : DMe I M s) (hE : EP W sz s) (hc : 0 ≤ s 0 2 ∧ s 0 2 ≤ 64) (hl : iR l) (hn : iR nm) (hnu : 0 ≤ num ∧ num < 1000000) : jc L xs (d + 1) 157 [.ref 103, .int (iI l), .int (iI nm), .int (iI (62)), .int (iI num)] (jx_G j I M p) (fun v g1 => v = some (.int (jb (HP s l nm (fun v => fitN 62 v num)))) ∧ g1 = jx_G j I M p) := by
  unfold jc
  refine jv_iconst (pc' := 1) (n := 0) rfl rfl ?_
  rw [show iI 0 = jb False from (jb_f id).symm]
  refine jv_istore (pc' := 3) (k := 5) (x := (jb False)) rfl rfl rfl (Or.inr rfl) ?_
  refine jv_iconst (pc' := 4) (n := 0) rfl rfl ?_
  refine jv_istore (pc' := 6) (k := 6) (x := (iI 0)) rfl rfl rfl (Or.inr rfl) ?_
  have H1 : ∀ (N : Nat) (k : Nat) (P : Prop), 64 - k < N → ((k : Int) ≤ s 0 2) → (HJ s l nm k (fun v => fitN 62 v num) P) → ∀ f : jm_F, f 0 = some (.ref 103) → f 1 = some (.int (iI l)) → f 2 = some (.int (iI nm)) → f 3 = some (.int (iI 62)) → f 4 = some (.int (iI num)) → f 5 = some (.int (jb P)) → f 6 = some (.int (iI ((k : Nat) : Int))) → jx L xs ((d + 1)) 157 6 f [] (jx_G j I M p) (fun z => ∃ v g1, z = (.inl v, g1) ∧ (fun v g1 => v = some (.int (jb (HP s l nm (fun v => fitN 62 v num)))) ∧ g1 = jx_G j I M p) v g1) := by
    intro N
    induction N with
    | zero => intro k P hN; exact absurd hN (Nat.not_lt_zero _)
    | succ N ih =>
      intro k P hN hk hJ f hf0 hf1 hf2 hf3 hf4 hf5 hf6 
      refine jv_iload (pc' := 8) (k := 6) (x := (iI ((k : Nat) : Int))) rfl rfl hf6 ?_
      refine jv_aload_n (pc' := 9) (k := 0) (x := 103) rfl rfl rfl hf0 ?_
      refine jv_getI (pc' := 12) (c := 12) (k := 22) (v := (iI (s 0 2))) rfl rfl rfl (fun _ _ => rfl) rfl rfl hM.2.2.1 ?_
      refine jv_ic_ge (t := 171) (pc' := 15) (a := ((k : Nat) : Int)) (b := (s 0 2)) rfl rfl rfl (by omega) (fun hz_2 => ?_) (fun hz_2 => ?_)
      · skip
        refine jv_iload (pc' := 173) (k := 5) (x := (jb P)) rfl rfl hf5 ?_
        refine jv_retZ rfl rfl (jb_01 _) ⟨_, _, rfl, ?_⟩
        exact ⟨jq_e (HJ_e hJ (by omega)), rfl⟩
      · skip
        have he := (hE k (by omega)).1
        refine jv_aload_n (pc' := 16) (k := 0) (x := 103) rfl rfl rfl hf0 ?_
        refine jv_getR (pc' := 19) (c := 12) (k := 28) (v := 124) rfl rfl rfl (fun _ _ => rfl) rfl rfl (jR_103_28 _) ?_
        refine jv_iload (pc' := 21) (k := 6) (x := (iI ((k : Nat) : Int))) rfl rfl hf6 ?_
        refine jv_laload (pc' := 22) (n := 65) (e := ((k : Nat) : Int)) (v := (lI (s 8 k))) rfl rfl rfl rfl rfl (by omega) ((hM.2.2.2 k (by omega)).2.2.2.2.2) ?_
        refine jv_lstore (pc' := 24) (k := 7) (x := (lI (s 8 k))) rfl rfl rfl (Or.inr (congrArg jm_lng hf6)) ?_
        refine jv_iload_n (pc' := 25) (k := 3) (x := (iI 62)) rfl rfl rfl hf3 ?_
        refine jv_bipush (pc' := 27) (n := 61) rfl rfl rfl ?_
        refine jv_ic_ne (t := 47) (pc' := 30) (a := 62) (b := 61) rfl rfl rfl (by omega) (fun hz_3 => ?_) (fun hz_3 => ?_)
        · skip
          refine jv_iload_n (pc' := 48) (k := 3) (x := (iI 62)) rfl rfl rfl hf3 ?_
          refine jv_bipush (pc' := 50) (n := 60) rfl rfl rfl ?_
          refine jv_ic_ne (t := 70) (pc' := 53) (a := 62) (b := 60) rfl rfl rfl (by omega) (fun hz_4 => ?_) (fun hz_4 => ?_)
          · skip
            refine jv_iload_n (pc' := 71) (k := 3) (x := (iI 62)) rfl rfl rfl hf3 ?_
            refine jv_bipush (pc' := 73) (n := 62) rfl rfl rfl ?_
            refine jv_ic_ne (t := 93) (pc' := 76) (a := 62) (b := 62) rfl rfl rfl (by omega) (fun hz_5 => ?_) (fun hz_5 => ?_)
            · skip
              exact absurd hz_5 (by decide)
            · skip
              refine jv_lload (pc' := 78) (k := 7) (x := (lI (s 8 k))) rfl rfl rfl ?_
              refine jv_iload (pc' := 80) (k := 4) (x := (iI num)) rfl rfl hf4 ?_
              refine jv_i2l (pc' := 81) (a := num) rfl rfl (by omega) ?_
              refine jv_lc_le (t := 89) (pc' := 85) (a := (s 8 k)) (b := num) rfl rfl rfl rfl rfl (by omega) (fun hz_6 => ?_) (fun hz_6 => ?_)
              · skip
                refine jv_iconst (pc' := 90) (n := 0) rfl rfl ?_
                refine jx_step (pc' := 115) rfl ?_
                rw [show iI 0 = jb (fitN 62 (s 8 k) num) from (jb_f (fun z => by have := (fitN_62 rfl).1 z; omega)).symm]
                refine jv_istore (pc' := 117) (k := 9) (x := (jb (fitN 62 (s 8 k) num))) rfl rfl rfl (Or.inr rfl) ?_
                refine jv_iload (pc' := 119) (k := 5) (x := (jb P)) rfl rfl hf5 ?_
                refine jv_jb_ne (t := 158) (pc' := 122) (P := P) rfl rfl rfl (fun hz_7 => ?_) (fun hz_7 => ?_)
                · skip
                  refine jv_iconst (pc' := 159) (n := 1) rfl rfl ?_
                  refine jx_step (pc' := 163) rfl ?_
                  rw [show iI 1 = jb (P ∨ (VD s l nm k ∧ fitN 62 (s 8 k) num)) from (jb_t (by first | exact Or.inl (by assumption) | exact Or.inr ⟨⟨by omega, by omega, by omega, by omega⟩, by assumption⟩)).symm]
                  refine jv_istore (pc' := 165) (k := 5) (x := (jb (P ∨ (VD s l nm k ∧ fitN 62 (s 8 k) num)))) rfl rfl rfl (Or.inr (congrArg jm_lng hf4)) ?_
                  refine jv_iinc (pc' := 168) (k := 6) (a := ((k : Nat) : Int)) rfl rfl hf6 rfl (Or.inr rfl) ?_
                  refine jx_step (pc' := 6) rfl ?_
                  exact ih (k + 1) (P ∨ (VD s l nm k ∧ fitN 62 (s 8 k) num)) (by omega) (by omega) (HJ_s hJ) _ hf0 hf1 hf2 hf3 hf4 rfl rfl 
                · skip
                  refine jv_aload_n (pc' := 123) (k := 0) (x := 103) rfl rfl rfl hf0 ?_
                  refine jv_iload (pc' := 125) (k := 6) (x := (iI ((k : Nat) : Int))) rfl rfl hf6 ?_
                  refine jv_call (pc' := 128) rfl (ml_counts (k := k) hM hE hc (by omega)) (fun vq8 gq8 q8 => ?_)
                  obtain ⟨rfl, rfl⟩ := q8
                  show jx L xs _ 157 128 _ [.int (jb (s 7 k ≠ 1 ∧ s 7 k ≠ 4))] _ _
                  refine jv_jb_eq (t := 162) (pc' := 131) (P := s 7 k ≠ 1 ∧ s 7 k ≠ 4) rfl rfl rfl (fun hz_9 => ?_) (fun hz_9 => ?_)
                  · skip
                    refine jv_iconst (pc' := 163) (n := 0) rfl rfl ?_
                    rw [show iI 0 = jb (P ∨ (VD s l nm k ∧ fitN 62 (s 8 k) num)) from (jb_f (fun z => by rcases z with z | ⟨⟨z1, z2, z3, z4⟩, z5⟩ <;> first | contradiction | omega)).symm]
                    refine jv_istore (pc' := 165) (k := 5) (x := (jb (P ∨ (VD s l nm k ∧ fitN 62 (s 8 k) num)))) rfl rfl rfl (Or.inr (congrArg jm_lng hf4)) ?_
                    refine jv_iinc (pc' := 168) (k := 6) (a := ((k : Nat) : Int)) rfl rfl hf6 rfl (Or.inr rfl) ?_
                    refine jx_step (pc' := 6) rfl ?_
                    exact ih (k + 1) (P ∨ (VD s l nm k ∧ fitN 62 (s 8 k) num)) (by omega) (by omega) (HJ_s hJ) _ hf0 hf1 hf2 hf3 hf4 rfl rfl 
                  · skip
                    refine jv_aload_n (pc' := 132) (k := 0) (x := 103) rfl rfl rfl hf0 ?_
                    refine jv_getR (pc' := 135) (c := 12) (k := 23) (v := 119) rfl rfl rfl (fun _ _ => rfl) rfl rfl (jR_103_23 _) ?_
                    refine jv_iload (pc' := 137) (k := 6) (x := (iI ((k : Nat) : Int))) rfl rfl hf6 ?_
                    refine jv_iaload (pc' := 138) (n := 65) (e := ((k : Nat) : Int)) (v := (iI (s 3 k))) rfl rfl (by decide) rfl rfl rfl (by omega) ((hM.2.2.2 k (by omega)).1) ?_
                    refine jv_iload_n (pc' := 139) (k := 1) (x := (iI l)) rfl rfl rfl hf1 ?_
                    refine jv_ic_ne (t := 162) (pc' := 142) (a := (s 3 k)) (b := l) rfl rfl rfl (by omega) (fun hz_10 => ?_) (fun hz_10 => ?_)
                    · skip
                      refine jv_iconst (pc' := 163) (n := 0) rfl rfl ?_
                      rw [show iI 0 = jb (P ∨ (VD s l nm k ∧ fitN 62 (s 8 k) num)) from (jb_f (fun z => by rcases z with z | ⟨⟨z1, z2, z3, z4⟩, z5⟩ <;> first | contradiction | omega)).symm]
                      refine jv_istore (pc' := 165) (k := 5) (x := (jb (P ∨ (VD s l nm k ∧ fitN 62 (s 8 k) num)))) rfl rfl rfl (Or.inr (congrArg jm_lng hf4)) ?_
                      refine jv_iinc (pc' := 168) (k := 6) (a := ((k : Nat) : Int)) rfl rfl hf6 rfl (Or.inr rfl) ?_
                      refine jx_step (pc' := 6) rfl ?_
                      exact ih (k + 1) (P ∨ (VD s l nm k ∧ fitN 62 (s 8 k) num)) (by omega) (by omega) (HJ_s hJ) _ hf0 hf1 hf2 hf3 hf4 rfl rfl 
                    · skip
                      refine jv_aload_n (pc' := 143) (k := 0) (x := 103) rfl rfl rfl hf0 ?_
                      refine jv_getR (pc' := 146) (c := 12) (k := 24) (v := 120) rfl rfl rfl (fun _ _ => rfl) rfl rfl (jR_103_24 _) ?_
                      refine jv_iload (pc' := 148) (k := 6) (x := (iI ((k : Nat) : Int))) rfl rfl hf6 ?_
                      refine jv_iaload (pc' := 149) (n := 65) (e := ((k : Nat) : Int)) (v := (iI (s 4 k))) rfl rfl (by decide) rfl rfl rfl (by omega) ((hM.2.2.2 k (by omega)).2.1) ?_
                      refine jv_iload_n (pc' := 150) (k := 2) (x := (iI nm)) rfl rfl rfl hf2 ?_
                      refine jv_ic_ne (t := 162) (pc' := 153) (a := (s 4 k)) (b := nm) rfl rfl rfl (by omega) (fun hz_11 => ?_) (fun hz_11 => ?_)
                      · skip
                        refine jv_iconst (pc' := 163) (n := 0) rfl rfl ?_
                        rw [show iI 0 = jb (P ∨ (VD s l nm k ∧ fitN 62 (s 8 k) num)) from (jb_f (fun z => by rcases z with z | ⟨⟨z1, z2, z3, z4⟩, z5⟩ <;> first | contradiction | omega)).symm]
                        refine jv_istore (pc' := 165) (k := 5) (x := (jb (P ∨ (VD s l nm k ∧ fitN 62 (s 8 k) num)))) rfl rfl rfl (Or.inr (congrArg jm_lng hf4)) ?_
                        refine jv_iinc (pc' := 168) (k := 6) (a := ((k : Nat) : Int)) rfl rfl hf6 rfl (Or.inr rfl) ?_
                        refine jx_step (pc' := 6) rfl ?_
                        exact ih (k + 1) (P ∨ (VD s l nm k ∧ fitN 62 (s 8 k) num)) (by omega) (by omega) (HJ_s hJ) _ hf0 hf1 hf2 hf3 hf4 rfl rfl 
                      · skip
                        refine jv_iload (pc' := 155) (k := 9) (x := (jb (fitN 62 (s 8 k) num))) rfl rfl rfl ?_
                        refine jv_jb_eq (t := 162) (pc' := 158) (P := fitN 62 (s 8 k) num) rfl rfl rfl (fun hz_12 => ?_) (fun hz_12 => ?_)
                        · skip
                          refine jv_iconst (pc' := 163) (n := 0) rfl rfl ?_
                          rw [show iI 0 = jb (P ∨ (VD s l nm k ∧ fitN 62 (s 8 k) num)) from (jb_f (fun z => by rcases z with z | ⟨⟨z1, z2, z3, z4⟩, z5⟩ <;> first | contradiction | omega)).symm]
                          refine jv_istore (pc' := 165) (k := 5) (x := (jb (P ∨ (VD s l nm k ∧ fitN 62 (s 8 k) num)))) rfl rfl rfl (Or.inr (congrArg jm_lng hf4)) ?_
                          refine jv_iinc (pc' := 168) (k := 6) (a := ((k : Nat) : Int)) rfl rfl hf6 rfl (Or.inr rfl) ?_
                          refine jx_step (pc' := 6) rfl ?_
                          exact ih (k + 1) (P ∨ (VD s l nm k ∧ fitN 62 (s 8 k) num)) (by omega) (by omega) (HJ_s hJ) _ hf0 hf1 hf2 hf3 hf4 rfl rfl 
                        · skip
                          refine jv_iconst (pc' := 159) (n := 1) rfl rfl ?_
                          refine jx_step (pc' := 163) rfl ?_
                          rw [show iI 1 = jb (P ∨ (VD s l nm k ∧ fitN 62 (s 8 k) num)) from (jb_t (by first | exact Or.inl (by assumption) | exact Or.inr ⟨⟨by omega, by omega, by omega, by omega⟩, by assumption⟩)).symm]
                          refine jv_istore (pc' := 165) (k := 5) (x := (jb (P ∨ (VD s l nm k ∧ fitN 62 (s 8 k) num)))) rfl rfl rfl (Or.inr (congrArg jm_lng hf4)) ?_
                          refine jv_iinc (pc' := 168) (k := 6) (a := ((k : Nat) : Int)) rfl rfl hf6 rfl (Or.inr rfl) ?_
                          refine jx_step (pc' := 6) rfl ?_
                          exact ih (k + 1) (P ∨ (VD s l nm k ∧ fitN 62 (s 8 k) num)) (by omega) (by omega) (HJ_s hJ) _ hf0 hf1 hf2 hf3 hf4 rfl rfl 
              · skip
                refine jv_iconst (pc' := 86) (n := 1) rfl rfl ?_
                refine jx_step (pc' := 115) rfl ?_
                rw [show iI 1 = jb (fitN 62 (s 8 k) num) from (jb_t ((fitN_62 rfl).2 (by omega))).symm]
                refine jv_istore (pc' := 117) (k := 9) (x := (jb (fitN 62 (s 8 k) num))) rfl rfl rfl (Or.inr rfl) ?_
                refine jv_iload (pc' := 119) (k := 5) (x := (jb P)) rfl rfl hf5 ?_
                refine jv_jb_ne (t := 158) (pc' := 122) (P := P) rfl rfl rfl (fun hz_13 => ?_) (fun hz_13 => ?_)
                · skip
                  refine jv_iconst (pc' := 159) (n := 1) rfl rfl ?_
                  refine jx_step (pc' := 163) rfl ?_
                  rw [show iI 1 = jb (P ∨ (VD s l nm k ∧ fitN 62 (s 8 k) num)) from (jb_t (by first | exact Or.inl (by assumption) | exact Or.inr ⟨⟨by omega, by omega, by omega, by omega⟩, by assumption⟩)).symm]
                  refine jv_istore (pc' := 165) (k := 5) (x := (jb (P ∨ (VD s l nm k ∧ fitN 62 (s 8 k) num)))) rfl rfl rfl (Or.inr (congrArg jm_lng hf4)) ?_
                  refine jv_iinc (pc' := 168) (k := 6) (a := ((k : Nat) : Int)) rfl rfl hf6 rfl (Or.inr rfl) ?_
                  refine jx_step (pc' := 6) rfl ?_
                  exact ih (k + 1) (P ∨ (VD s l nm k ∧ fitN 62 (s 8 k) num)) (by omega) (by omega) (HJ_s hJ) _ hf0 hf1 hf2 hf3 hf4 rfl rfl 
                · skip
                  refine jv_aload_n (pc' := 123) (k := 0) (x := 103) rfl rfl rfl hf0 ?_
                  refine jv_iload (pc' := 125) (k := 6) (x := (iI ((k : Nat) : Int))) rfl rfl hf6 ?_
                  refine jv_call (pc' := 128) rfl (ml_counts (k := k) hM hE hc (by omega)) (fun vq14 gq14 q14 => ?_)
                  obtain ⟨rfl, rfl⟩ := q14
                  show jx L xs _ 157 128 _ [.int (jb (s 7 k ≠ 1 ∧ s 7 k ≠ 4))] _ _
                  refine jv_jb_eq (t := 162) (pc' := 131) (P := s 7 k ≠ 1 ∧ s 7 k ≠ 4) rfl rfl rfl (fun hz_15 => ?_) (fun hz_15 => ?_)
                  · skip
                    refine jv_iconst (pc' := 163) (n := 0) rfl rfl ?_
                    rw [show iI 0 = jb (P ∨ (VD s l nm k ∧ fitN 62 (s 8 k) num)) from (jb_f (fun z => by rcases z with z | ⟨⟨z1, z2, z3, z4⟩, z5⟩ <;> first | contradiction | omega)).symm]
                    refine jv_istore (pc' := 165) (k := 5) (x := (jb (P ∨ (VD s l nm k ∧ fitN 62 (s 8 k) num)))) rfl rfl rfl (Or.inr (congrArg jm_lng hf4)) ?_
                    refine jv_iinc (pc' := 168) (k := 6) (a := ((k : Nat) : Int)) rfl rfl hf6 rfl (Or.inr rfl) ?_
                    refine jx_step (pc' := 6) rfl ?_
                    exact ih (k + 1) (P ∨ (VD s l nm k ∧ fitN 62 (s 8 k) num)) (by omega) (by omega) (HJ_s hJ) _ hf0 hf1 hf2 hf3 hf4 rfl rfl 
                  · skip
                    refine jv_aload_n (pc' := 132) (k := 0) (x := 103) rfl rfl rfl hf0 ?_
                    refine jv_getR (pc' := 135) (c := 12) (k := 23) (v := 119) rfl rfl rfl (fun _ _ => rfl) rfl rfl (jR_103_23 _) ?_
                    refine jv_iload (pc' := 137) (k := 6) (x := (iI ((k : Nat) : Int))) rfl rfl hf6 ?_
                    refine jv_iaload (pc' := 138) (n := 65) (e := ((k : Nat) : Int)) (v := (iI (s 3 k))) rfl rfl (by decide) rfl rfl rfl (by omega) ((hM.2.2.2 k (by omega)).1) ?_
                    refine jv_iload_n (pc' := 139) (k := 1) (x := (iI l)) rfl rfl rfl hf1 ?_
                    refine jv_ic_ne (t := 162) (pc' := 142) (a := (s 3 k)) (b := l) rfl rfl rfl (by omega) (fun hz_16 => ?_) (fun hz_16 => ?_)
                    · skip
                      refine jv_iconst (pc' := 163) (n := 0) rfl rfl ?_
                      rw [show iI 0 = jb (P ∨ (VD s l nm k ∧ fitN 62 (s 8 k) num)) from (jb_f (fun z => by rcases z with z | ⟨⟨z1, z2, z3, z4⟩, z5⟩ <;> first | contradiction | omega)).symm]
                      refine jv_istore (pc' := 165) (k := 5) (x := (jb (P ∨ (VD s l nm k ∧ fitN 62 (s 8 k) num)))) rfl rfl rfl (Or.inr (congrArg jm_lng hf4)) ?_
                      refine jv_iinc (pc' := 168) (k := 6) (a := ((k : Nat) : Int)) rfl rfl hf6 rfl (Or.inr rfl) ?_
                      refine jx_step (pc' := 6) rfl ?_
                      exact ih (k + 1) (P ∨ (VD s l nm k ∧ fitN 62 (s 8 k) num)) (by omega) (by omega) (HJ_s hJ) _ hf0 hf1 hf2 hf3 hf4 rfl rfl 
                    · skip
                      refine jv_aload_n (pc' := 143) (k := 0) (x := 103) rfl rfl rfl hf0 ?_
                      refine jv_getR (pc' := 146) (c := 12) (k := 24) (v := 120) rfl rfl rfl (fun _ _ => rfl) rfl rfl (jR_103_24 _) ?_
                      refine jv_iload (pc' := 148) (k := 6) (x := (iI ((k : Nat) : Int))) rfl rfl hf6 ?_
                      refine jv_iaload (pc' := 149) (n := 65) (e := ((k : Nat) : Int)) (v := (iI (s 4 k))) rfl rfl (by decide) rfl rfl rfl (by omega) ((hM.2.2.2 k (by omega)).2.1) ?_
                      refine jv_iload_n (pc' := 150) (k := 2) (x := (iI nm)) rfl rfl rfl hf2 ?_
                      refine jv_ic_ne (t := 162) (pc' := 153) (a := (s 4 k)) (b := nm) rfl rfl rfl (by omega) (fun hz_17 => ?_) (fun hz_17 => ?_)
                      · skip
                        refine jv_iconst (pc' := 163) (n := 0) rfl rfl ?_
                        rw [show iI 0 = jb (P ∨ (VD s l nm k ∧ fitN 62 (s 8 k) num)) from (jb_f (fun z => by rcases z with z | ⟨⟨z1, z2, z3, z4⟩, z5⟩ <;> first | contradiction | omega)).symm]
                        refine jv_istore (pc' := 165) (k := 5) (x := (jb (P ∨ (VD s l nm k ∧ fitN 62 (s 8 k) num)))) rfl rfl rfl (Or.inr (congrArg jm_lng hf4)) ?_
                        refine jv_iinc (pc' := 168) (k := 6) (a := ((k : Nat) : Int)) rfl rfl hf6 rfl (Or.inr rfl) ?_
                        refine jx_step (pc' := 6) rfl ?_
                        exact ih (k + 1) (P ∨ (VD s l nm k ∧ fitN 62 (s 8 k) num)) (by omega) (by omega) (HJ_s hJ) _ hf0 hf1 hf2 hf3 hf4 rfl rfl 
                      · skip
                        refine jv_iload (pc' := 155) (k := 9) (x := (jb (fitN 62 (s 8 k) num))) rfl rfl rfl ?_
                        refine jv_jb_eq (t := 162) (pc' := 158) (P := fitN 62 (s 8 k) num) rfl rfl rfl (fun hz_18 => ?_) (fun hz_18 => ?_)
                        · skip
                          refine jv_iconst (pc' := 163) (n := 0) rfl rfl ?_
                          rw [show iI 0 = jb (P ∨ (VD s l nm k ∧ fitN 62 (s 8 k) num)) from (jb_f (fun z => by rcases z with z | ⟨⟨z1, z2, z3, z4⟩, z5⟩ <;> first | contradiction | omega)).symm]
                          refine jv_istore (pc' := 165) (k := 5) (x := (jb (P ∨ (VD s l nm k ∧ fitN 62 (s 8 k) num)))) rfl rfl rfl (Or.inr (congrArg jm_lng hf4)) ?_
                          refine jv_iinc (pc' := 168) (k := 6) (a := ((k : Nat) : Int)) rfl rfl hf6 rfl (Or.inr rfl) ?_
                          refine jx_step (pc' := 6) rfl ?_
                          exact ih (k + 1) (P ∨ (VD s l nm k ∧ fitN 62 (s 8 k) num)) (by omega) (by omega) (HJ_s hJ) _ hf0 hf1 hf2 hf3 hf4 rfl rfl 
                        · skip
                          refine jv_iconst (pc' := 159) (n := 1) rfl rfl ?_
                          refine jx_step (pc' := 163) rfl ?_
                          rw [show iI 1 = jb (P ∨ (VD s l nm k ∧ fitN 62 (s 8 k) num)) from (jb_t (by first | exact Or.inl (by assumption) | exact Or.inr ⟨⟨by omega, by omega, by omega, by omega⟩, by assumption⟩)).symm]
                          refine jv_istore (pc' := 165) (k := 5) (x := (jb (P ∨ (VD s l nm k ∧ fitN 62 (s 8 k) num)))) rfl rfl rfl (Or.inr (congrArg jm_lng hf4)) ?_
                          refine jv_iinc (pc' := 168) (k := 6) (a := ((k : Nat) : Int)) rfl rfl hf6 rfl (Or.inr rfl) ?_
                          refine jx_step (pc' := 6) rfl ?_
                          exact ih (k + 1) (P ∨ (VD s l nm k ∧ fitN 62 (s 8 k) num)) (by omega) (by omega) (HJ_s hJ) _ hf0 hf1 hf2 hf3 hf4 rfl rfl 
          · skip
            exact absurd hz_4 (by decide)
        · skip
          exact absurd hz_3 (by decide)
  exact H1 _ 0 False (Nat.lt_succ_self _) (by omega) ⟨False.elim, fun ⟨_, h, _⟩ => absurd h (by omega)⟩ _ rfl rfl rfl rfl rfl rfl rfl 
theorem ml_has_126 (hM : DMe I M s) (hE : EP W sz s) (hc : 0 ≤ s 0 2 ∧ s 0 2 ≤ 64) (hl : iR l) (hn : iR nm) (hnu : 0 ≤ num ∧ num < 1000000) : jc L xs (d + 1) 157 [.ref 103, .int (iI l), .int (iI nm), .int (iI (126)), .int (iI num)] (jx_G j I M p) (fun v g1 => v = some (.int (jb (HP s l nm (fun v => fitN 126 v num)))) ∧ g1 = jx_G j I M p) := by
  unfold jc
  refine jv_iconst (pc' := 1) (n := 0) rfl rfl ?_
  rw [show iI 0 = jb False from (jb_f id).symm]
  refine jv_istore (pc' := 3) (k := 5) (x := (jb False)) rfl rfl rfl (Or.inr rfl) ?_
  refine jv_iconst (pc' := 4) (n := 0) rfl rfl ?_
  refine jv_istore (pc' := 6) (k := 6) (x := (iI 0)) rfl rfl rfl (Or.inr rfl) ?_
  have H1 : ∀ (N : Nat) (k : Nat) (P : Prop), 64 - k < N → ((k : Int) ≤ s 0 2) → (HJ s l nm k (fun v => fitN 126 v num) P) → ∀ f : jm_F, f 0 = some (.ref 103) → f 1 = some (.int (iI l)) → f 2 = some (.int (iI nm)) → f 3 = some (.int (iI 126)) → f 4 = some (.int (iI num)) → f 5 = some (.int (jb P)) → f 6 = some (.int (iI ((k : Nat) : Int))) → jx L xs ((d + 1)) 157 6 f [] (jx_G j I M p) (fun z => ∃ v g1, z = (.inl v, g1) ∧ (fun v g1 => v = some (.int (jb (HP s l nm (fun v => fitN 126 v num)))) ∧ g1 = jx_G j I M p) v g1) := by
    intro N
    induction N with
    | zero => intro k P hN; exact absurd hN (Nat.not_lt_zero _)
    | succ N ih =>
      intro k P hN hk hJ f hf0 hf1 hf2 hf3 hf4 hf5 hf6 
      refine jv_iload (pc' := 8) (k := 6) (x := (iI ((k : Nat) : Int))) rfl rfl hf6 ?_
      refine jv_aload_n (pc' := 9) (k := 0) (x := 103) rfl rfl rfl hf0 ?_
      refine jv_getI (pc' := 12) (c := 12) (k := 22) (v := (iI (s 0 2))) rfl rfl rfl (fun _ _ => rfl) rfl rfl hM.2.2.1 ?_
      refine jv_ic_ge (t := 171) (pc' := 15) (a := ((k : Nat) : Int)) (b := (s 0 2)) rfl rfl rfl (by omega) (fun hz_2 => ?_) (fun hz_2 => ?_)
      · skip
        refine jv_iload (pc' := 173) (k := 5) (x := (jb P)) rfl rfl hf5 ?_
        refine jv_retZ rfl rfl (jb_01 _) ⟨_, _, rfl, ?_⟩
        exact ⟨jq_e (HJ_e hJ (by omega)), rfl⟩
      · skip
        have he := (hE k (by omega)).1
        refine jv_aload_n (pc' := 16) (k := 0) (x := 103) rfl rfl rfl hf0 ?_
        refine jv_getR (pc' := 19) (c := 12) (k := 28) (v := 124) rfl rfl rfl (fun _ _ => rfl) rfl rfl (jR_103_28 _) ?_
        refine jv_iload (pc' := 21) (k := 6) (x := (iI ((k : Nat) : Int))) rfl rfl hf6 ?_
        refine jv_laload (pc' := 22) (n := 65) (e := ((k : Nat) : Int)) (v := (lI (s 8 k))) rfl rfl rfl rfl rfl (by omega) ((hM.2.2.2 k (by omega)).2.2.2.2.2) ?_
        refine jv_lstore (pc' := 24) (k := 7) (x := (lI (s 8 k))) rfl rfl rfl (Or.inr (congrArg jm_lng hf6)) ?_
        refine jv_iload_n (pc' := 25) (k := 3) (x := (iI 126)) rfl rfl rfl hf3 ?_
        refine jv_bipush (pc' := 27) (n := 61) rfl rfl rfl ?_
        refine jv_ic_ne (t := 47) (pc' := 30) (a := 126) (b := 61) rfl rfl rfl (by omega) (fun hz_3 => ?_) (fun hz_3 => ?_)
        · skip
          refine jv_iload_n (pc' := 48) (k := 3) (x := (iI 126)) rfl rfl rfl hf3 ?_
          refine jv_bipush (pc' := 50) (n := 60) rfl rfl rfl ?_
          refine jv_ic_ne (t := 70) (pc' := 53) (a := 126) (b := 60) rfl rfl rfl (by omega) (fun hz_4 => ?_) (fun hz_4 => ?_)
          · skip
            refine jv_iload_n (pc' := 71) (k := 3) (x := (iI 126)) rfl rfl rfl hf3 ?_
            refine jv_bipush (pc' := 73) (n := 62) rfl rfl rfl ?_
            refine jv_ic_ne (t := 93) (pc' := 76) (a := 126) (b := 62) rfl rfl rfl (by omega) (fun hz_5 => ?_) (fun hz_5 => ?_)
            · skip
              refine jv_iload_n (pc' := 94) (k := 3) (x := (iI 126)) rfl rfl rfl hf3 ?_
              refine jv_bipush (pc' := 96) (n := 126) rfl rfl rfl ?_
              refine jv_ic_ne (t := 110) (pc' := 99) (a := 126) (b := 126) rfl rfl rfl (by omega) (fun hz_6 => ?_) (fun hz_6 => ?_)
              · skip
                exact absurd hz_6 (by decide)
              · skip
                refine jv_lload (pc' := 101) (k := 7) (x := (lI (s 8 k))) rfl rfl rfl ?_
                refine jv_iload (pc' := 103) (k := 4) (x := (iI num)) rfl rfl hf4 ?_
                refine jv_i2l (pc' := 104) (a := num) rfl rfl (by omega) ?_
                refine jv_long (pc' := 105) (y := (lI (s 8 k)) &&& (lI num)) rfl rfl ?_
                refine jv_long (pc' := 106) (y := lI 0) rfl (by decide) ?_
                refine jx_lc_ne0 (t := 114) (pc' := 110) (x := lI (s 8 k) &&& lI num) rfl rfl rfl rfl rfl (fun hz_7 => ?_) (fun hz_7 => ?_)
                · skip
                  refine jv_iconst (pc' := 115) (n := 0) rfl rfl ?_
                  rw [show iI 0 = jb (fitN 126 (s 8 k) num) from (jb_f (fun z => (fitN_126 rfl).1 z hz_7)).symm]
                  refine jv_istore (pc' := 117) (k := 9) (x := (jb (fitN 126 (s 8 k) num))) rfl rfl rfl (Or.inr rfl) ?_
                  refine jv_iload (pc' := 119) (k := 5) (x := (jb P)) rfl rfl hf5 ?_
                  refine jv_jb_ne (t := 158) (pc' := 122) (P := P) rfl rfl rfl (fun hz_8 => ?_) (fun hz_8 => ?_)
                  · skip
                    refine jv_iconst (pc' := 159) (n := 1) rfl rfl ?_
                    refine jx_step (pc' := 163) rfl ?_
                    rw [show iI 1 = jb (P ∨ (VD s l nm k ∧ fitN 126 (s 8 k) num)) from (jb_t (by first | exact Or.inl (by assumption) | exact Or.inr ⟨⟨by omega, by omega, by omega, by omega⟩, by assumption⟩)).symm]
                    refine jv_istore (pc' := 165) (k := 5) (x := (jb (P ∨ (VD s l nm k ∧ fitN 126 (s 8 k) num)))) rfl rfl rfl (Or.inr (congrArg jm_lng hf4)) ?_
                    refine jv_iinc (pc' := 168) (k := 6) (a := ((k : Nat) : Int)) rfl rfl hf6 rfl (Or.inr rfl) ?_
                    refine jx_step (pc' := 6) rfl ?_
                    exact ih (k + 1) (P ∨ (VD s l nm k ∧ fitN 126 (s 8 k) num)) (by omega) (by omega) (HJ_s hJ) _ hf0 hf1 hf2 hf3 hf4 rfl rfl 
                  · skip
                    refine jv_aload_n (pc' := 123) (k := 0) (x := 103) rfl rfl rfl hf0 ?_
                    refine jv_iload (pc' := 125) (k := 6) (x := (iI ((k : Nat) : Int))) rfl rfl hf6 ?_
                    refine jv_call (pc' := 128) rfl (ml_counts (k := k) hM hE hc (by omega)) (fun vq9 gq9 q9 => ?_)
                    obtain ⟨rfl, rfl⟩ := q9
                    show jx L xs _ 157 128 _ [.int (jb (s 7 k ≠ 1 ∧ s 7 k ≠ 4))] _ _
                    refine jv_jb_eq (t := 162) (pc' := 131) (P := s 7 k ≠ 1 ∧ s 7 k ≠ 4) rfl rfl rfl (fun hz_10 => ?_) (fun hz_10 => ?_)
                    · skip
                      refine jv_iconst (pc' := 163) (n := 0) rfl rfl ?_
                      rw [show iI 0 = jb (P ∨ (VD s l nm k ∧ fitN 126 (s 8 k) num)) from (jb_f (fun z => by rcases z with z | ⟨⟨z1, z2, z3, z4⟩, z5⟩ <;> first | contradiction | omega)).symm]
                      refine jv_istore (pc' := 165) (k := 5) (x := (jb (P ∨ (VD s l nm k ∧ fitN 126 (s 8 k) num)))) rfl rfl rfl (Or.inr (congrArg jm_lng hf4)) ?_
                      refine jv_iinc (pc' := 168) (k := 6) (a := ((k : Nat) : Int)) rfl rfl hf6 rfl (Or.inr rfl) ?_
                      refine jx_step (pc' := 6) rfl ?_
                      exact ih (k + 1) (P ∨ (VD s l nm k ∧ fitN 126 (s 8 k) num)) (by omega) (by omega) (HJ_s hJ) _ hf0 hf1 hf2 hf3 hf4 rfl rfl 
                    · skip
                      refine jv_aload_n (pc' := 132) (k := 0) (x := 103) rfl rfl rfl hf0 ?_
                      refine jv_getR (pc' := 135) (c := 12) (k := 23) (v := 119) rfl rfl rfl (fun _ _ => rfl) rfl rfl (jR_103_23 _) ?_
                      refine jv_iload (pc' := 137) (k := 6) (x := (iI ((k : Nat) : Int))) rfl rfl hf6 ?_
                      refine jv_iaload (pc' := 138) (n := 65) (e := ((k : Nat) : Int)) (v := (iI (s 3 k))) rfl rfl (by decide) rfl rfl rfl (by omega) ((hM.2.2.2 k (by omega)).1) ?_
                      refine jv_iload_n (pc' := 139) (k := 1) (x := (iI l)) rfl rfl rfl hf1 ?_
                      refine jv_ic_ne (t := 162) (pc' := 142) (a := (s 3 k)) (b := l) rfl rfl rfl (by omega) (fun hz_11 => ?_) (fun hz_11 => ?_)
                      · skip
                        refine jv_iconst (pc' := 163) (n := 0) rfl rfl ?_
                        rw [show iI 0 = jb (P ∨ (VD s l nm k ∧ fitN 126 (s 8 k) num)) from (jb_f (fun z => by rcases z with z | ⟨⟨z1, z2, z3, z4⟩, z5⟩ <;> first | contradiction | omega)).symm]
                        refine jv_istore (pc' := 165) (k := 5) (x := (jb (P ∨ (VD s l nm k ∧ fitN 126 (s 8 k) num)))) rfl rfl rfl (Or.inr (congrArg jm_lng hf4)) ?_
                        refine jv_iinc (pc' := 168) (k := 6) (a := ((k : Nat) : Int)) rfl rfl hf6 rfl (Or.inr rfl) ?_
                        refine jx_step (pc' := 6) rfl ?_
                        exact ih (k + 1) (P ∨ (VD s l nm k ∧ fitN 126 (s 8 k) num)) (by omega) (by omega) (HJ_s hJ) _ hf0 hf1 hf2 hf3 hf4 rfl rfl 
                      · skip
                        refine jv_aload_n (pc' := 143) (k := 0) (x := 103) rfl rfl rfl hf0 ?_
                        refine jv_getR (pc' := 146) (c := 12) (k := 24) (v := 120) rfl rfl rfl (fun _ _ => rfl) rfl rfl (jR_103_24 _) ?_
                        refine jv_iload (pc' := 148) (k := 6) (x := (iI ((k : Nat) : Int))) rfl rfl hf6 ?_
                        refine jv_iaload (pc' := 149) (n := 65) (e := ((k : Nat) : Int)) (v := (iI (s 4 k))) rfl rfl (by decide) rfl rfl rfl (by omega) ((hM.2.2.2 k (by omega)).2.1) ?_
                        refine jv_iload_n (pc' := 150) (k := 2) (x := (iI nm)) rfl rfl rfl hf2 ?_
                        refine jv_ic_ne (t := 162) (pc' := 153) (a := (s 4 k)) (b := nm) rfl rfl rfl (by omega) (fun hz_12 => ?_) (fun hz_12 => ?_)
                        · skip
                          refine jv_iconst (pc' := 163) (n := 0) rfl rfl ?_
                          rw [show iI 0 = jb (P ∨ (VD s l nm k ∧ fitN 126 (s 8 k) num)) from (jb_f (fun z => by rcases z with z | ⟨⟨z1, z2, z3, z4⟩, z5⟩ <;> first | contradiction | omega)).symm]
                          refine jv_istore (pc' := 165) (k := 5) (x := (jb (P ∨ (VD s l nm k ∧ fitN 126 (s 8 k) num)))) rfl rfl rfl (Or.inr (congrArg jm_lng hf4)) ?_
                          refine jv_iinc (pc' := 168) (k := 6) (a := ((k : Nat) : Int)) rfl rfl hf6 rfl (Or.inr rfl) ?_
                          refine jx_step (pc' := 6) rfl ?_
                          exact ih (k + 1) (P ∨ (VD s l nm k ∧ fitN 126 (s 8 k) num)) (by omega) (by omega) (HJ_s hJ) _ hf0 hf1 hf2 hf3 hf4 rfl rfl 
                        · skip
                          refine jv_iload (pc' := 155) (k := 9) (x := (jb (fitN 126 (s 8 k) num))) rfl rfl rfl ?_
                          refine jv_jb_eq (t := 162) (pc' := 158) (P := fitN 126 (s 8 k) num) rfl rfl rfl (fun hz_13 => ?_) (fun hz_13 => ?_)
                          · skip
                            refine jv_iconst (pc' := 163) (n := 0) rfl rfl ?_
                            rw [show iI 0 = jb (P ∨ (VD s l nm k ∧ fitN 126 (s 8 k) num)) from (jb_f (fun z => by rcases z with z | ⟨⟨z1, z2, z3, z4⟩, z5⟩ <;> first | contradiction | omega)).symm]
                            refine jv_istore (pc' := 165) (k := 5) (x := (jb (P ∨ (VD s l nm k ∧ fitN 126 (s 8 k) num)))) rfl rfl rfl (Or.inr (congrArg jm_lng hf4)) ?_
                            refine jv_iinc (pc' := 168) (k := 6) (a := ((k : Nat) : Int)) rfl rfl hf6 rfl (Or.inr rfl) ?_
                            refine jx_step (pc' := 6) rfl ?_
                            exact ih (k + 1) (P ∨ (VD s l nm k ∧ fitN 126 (s 8 k) num)) (by omega) (by omega) (HJ_s hJ) _ hf0 hf1 hf2 hf3 hf4 rfl rfl 
                          · skip
                            refine jv_iconst (pc' := 159) (n := 1) rfl rfl ?_
                            refine jx_step (pc' := 163) rfl ?_
                            rw [show iI 1 = jb (P ∨ (VD s l nm k ∧ fitN 126 (s 8 k) num)) from (jb_t (by first | exact Or.inl (by assumption) | exact Or.inr ⟨⟨by omega, by omega, by omega, by omega⟩, by assumption⟩)).symm]
                            refine jv_istore (pc' := 165) (k := 5) (x := (jb (P ∨ (VD s l nm k ∧ fitN 126 (s 8 k) num)))) rfl rfl rfl (Or.inr (congrArg jm_lng hf4)) ?_
                            refine jv_iinc (pc' := 168) (k := 6) (a := ((k : Nat) : Int)) rfl rfl hf6 rfl (Or.inr rfl) ?_
                            refine jx_step (pc' := 6) rfl ?_
                            exact ih (k + 1) (P ∨ (VD s l nm k ∧ fitN 126 (s 8 k) num)) (by omega) (by omega) (HJ_s hJ) _ hf0 hf1 hf2 hf3 hf4 rfl rfl 
                · skip
                  refine jv_iconst (pc' := 111) (n := 1) rfl rfl ?_
                  refine jx_step (pc' := 115) rfl ?_
                  rw [show iI 1 = jb (fitN 126 (s 8 k) num) from (jb_t ((fitN_126 rfl).2 hz_7)).symm]
                  refine jv_istore (pc' := 117) (k := 9) (x := (jb (fitN 126 (s 8 k) num))) rfl rfl rfl (Or.inr rfl) ?_
                  refine jv_iload (pc' := 119) (k := 5) (x := (jb P)) rfl rfl hf5 ?_
                  refine jv_jb_ne (t := 158) (pc' := 122) (P := P) rfl rfl rfl (fun hz_14 => ?_) (fun hz_14 => ?_)
                  · skip
                    refine jv_iconst (pc' := 159) (n := 1) rfl rfl ?_
                    refine jx_step (pc' := 163) rfl ?_
                    rw [show iI 1 = jb (P ∨ (VD s l nm k ∧ fitN 126 (s 8 k) num)) from (jb_t (by first | exact Or.inl (by assumption) | exact Or.inr ⟨⟨by omega, by omega, by omega, by omega⟩, by assumption⟩)).symm]
                    refine jv_istore (pc' := 165) (k := 5) (x := (jb (P ∨ (VD s l nm k ∧ fitN 126 (s 8 k) num)))) rfl rfl rfl (Or.inr (congrArg jm_lng hf4)) ?_
                    refine jv_iinc (pc' := 168) (k := 6) (a := ((k : Nat) : Int)) rfl rfl hf6 rfl (Or.inr rfl) ?_
                    refine jx_step (pc' := 6) rfl ?_
                    exact ih (k + 1) (P ∨ (VD s l nm k ∧ fitN 126 (s 8 k) num)) (by omega) (by omega) (HJ_s hJ) _ hf0 hf1 hf2 hf3 hf4 rfl rfl 
                  · skip
                    refine jv_aload_n (pc' := 123) (k := 0) (x := 103) rfl rfl rfl hf0 ?_
                    refine jv_iload (pc' := 125) (k := 6) (x := (iI ((k : Nat) : Int))) rfl rfl hf6 ?_
                    refine jv_call (pc' := 128) rfl (ml_counts (k := k) hM hE hc (by omega)) (fun vq15 gq15 q15 => ?_)
                    obtain ⟨rfl, rfl⟩ := q15
                    show jx L xs _ 157 128 _ [.int (jb (s 7 k ≠ 1 ∧ s 7 k ≠ 4))] _ _
                    refine jv_jb_eq (t := 162) (pc' := 131) (P := s 7 k ≠ 1 ∧ s 7 k ≠ 4) rfl rfl rfl (fun hz_16 => ?_) (fun hz_16 => ?_)
                    · skip
                      refine jv_iconst (pc' := 163) (n := 0) rfl rfl ?_
                      rw [show iI 0 = jb (P ∨ (VD s l nm k ∧ fitN 126 (s 8 k) num)) from (jb_f (fun z => by rcases z with z | ⟨⟨z1, z2, z3, z4⟩, z5⟩ <;> first | contradiction | omega)).symm]
                      refine jv_istore (pc' := 165) (k := 5) (x := (jb (P ∨ (VD s l nm k ∧ fitN 126 (s 8 k) num)))) rfl rfl rfl (Or.inr (congrArg jm_lng hf4)) ?_
                      refine jv_iinc (pc' := 168) (k := 6) (a := ((k : Nat) : Int)) rfl rfl hf6 rfl (Or.inr rfl) ?_
                      refine jx_step (pc' := 6) rfl ?_
                      exact ih (k + 1) (P ∨ (VD s l nm k ∧ fitN 126 (s 8 k) num)) (by omega) (by omega) (HJ_s hJ) _ hf0 hf1 hf2 hf3 hf4 rfl rfl 
                    · skip
                      refine jv_aload_n (pc' := 132) (k := 0) (x := 103) rfl rfl rfl hf0 ?_
                      refine jv_getR (pc' := 135) (c := 12) (k := 23) (v := 119) rfl rfl rfl (fun _ _ => rfl) rfl rfl (jR_103_23 _) ?_
                      refine jv_iload (pc' := 137) (k := 6) (x := (iI ((k : Nat) : Int))) rfl rfl hf6 ?_
                      refine jv_iaload (pc' := 138) (n := 65) (e := ((k : Nat) : Int)) (v := (iI (s 3 k))) rfl rfl (by decide) rfl rfl rfl (by omega) ((hM.2.2.2 k (by omega)).1) ?_
                      refine jv_iload_n (pc' := 139) (k := 1) (x := (iI l)) rfl rfl rfl hf1 ?_
                      refine jv_ic_ne (t := 162) (pc' := 142) (a := (s 3 k)) (b := l) rfl rfl rfl (by omega) (fun hz_17 => ?_) (fun hz_17 => ?_)
                      · skip
                        refine jv_iconst (pc' := 163) (n := 0) rfl rfl ?_
                        rw [show iI 0 = jb (P ∨ (VD s l nm k ∧ fitN 126 (s 8 k) num)) from (jb_f (fun z => by rcases z with z | ⟨⟨z1, z2, z3, z4⟩, z5⟩ <;> first | contradiction | omega)).symm]
                        refine jv_istore (pc' := 165) (k := 5) (x := (jb (P ∨ (VD s l nm k ∧ fitN 126 (s 8 k) num)))) rfl rfl rfl (Or.inr (congrArg jm_lng hf4)) ?_
                        refine jv_iinc (pc' := 168) (k := 6) (a := ((k : Nat) : Int)) rfl rfl hf6 rfl (Or.inr rfl) ?_
                        refine jx_step (pc' := 6) rfl ?_
                        exact ih (k + 1) (P ∨ (VD s l nm k ∧ fitN 126 (s 8 k) num)) (by omega) (by omega) (HJ_s hJ) _ hf0 hf1 hf2 hf3 hf4 rfl rfl 
                      · skip
                        refine jv_aload_n (pc' := 143) (k := 0) (x := 103) rfl rfl rfl hf0 ?_
                        refine jv_getR (pc' := 146) (c := 12) (k := 24) (v := 120) rfl rfl rfl (fun _ _ => rfl) rfl rfl (jR_103_24 _) ?_
                        refine jv_iload (pc' := 148) (k := 6) (x := (iI ((k : Nat) : Int))) rfl rfl hf6 ?_
                        refine jv_iaload (pc' := 149) (n := 65) (e := ((k : Nat) : Int)) (v := (iI (s 4 k))) rfl rfl (by decide) rfl rfl rfl (by omega) ((hM.2.2.2 k (by omega)).2.1) ?_
                        refine jv_iload_n (pc' := 150) (k := 2) (x := (iI nm)) rfl rfl rfl hf2 ?_
                        refine jv_ic_ne (t := 162) (pc' := 153) (a := (s 4 k)) (b := nm) rfl rfl rfl (by omega) (fun hz_18 => ?_) (fun hz_18 => ?_)
                        · skip
                          refine jv_iconst (pc' := 163) (n := 0) rfl rfl ?_
                          rw [show iI 0 = jb (P ∨ (VD s l nm k ∧ fitN 126 (s 8 k) num)) from (jb_f (fun z => by rcases z with z | ⟨⟨z1, z2, z3, z4⟩, z5⟩ <;> first | contradiction | omega)).symm]
                          refine jv_istore (pc' := 165) (k := 5) (x := (jb (P ∨ (VD s l nm k ∧ fitN 126 (s 8 k) num)))) rfl rfl rfl (Or.inr (congrArg jm_lng hf4)) ?_
                          refine jv_iinc (pc' := 168) (k := 6) (a := ((k : Nat) : Int)) rfl rfl hf6 rfl (Or.inr rfl) ?_
                          refine jx_step (pc' := 6) rfl ?_
                          exact ih (k + 1) (P ∨ (VD s l nm k ∧ fitN 126 (s 8 k) num)) (by omega) (by omega) (HJ_s hJ) _ hf0 hf1 hf2 hf3 hf4 rfl rfl 
                        · skip
                          refine jv_iload (pc' := 155) (k := 9) (x := (jb (fitN 126 (s 8 k) num))) rfl rfl rfl ?_
                          refine jv_jb_eq (t := 162) (pc' := 158) (P := fitN 126 (s 8 k) num) rfl rfl rfl (fun hz_19 => ?_) (fun hz_19 => ?_)
                          · skip
                            refine jv_iconst (pc' := 163) (n := 0) rfl rfl ?_
                            rw [show iI 0 = jb (P ∨ (VD s l nm k ∧ fitN 126 (s 8 k) num)) from (jb_f (fun z => by rcases z with z | ⟨⟨z1, z2, z3, z4⟩, z5⟩ <;> first | contradiction | omega)).symm]
                            refine jv_istore (pc' := 165) (k := 5) (x := (jb (P ∨ (VD s l nm k ∧ fitN 126 (s 8 k) num)))) rfl rfl rfl (Or.inr (congrArg jm_lng hf4)) ?_
                            refine jv_iinc (pc' := 168) (k := 6) (a := ((k : Nat) : Int)) rfl rfl hf6 rfl (Or.inr rfl) ?_
                            refine jx_step (pc' := 6) rfl ?_
                            exact ih (k + 1) (P ∨ (VD s l nm k ∧ fitN 126 (s 8 k) num)) (by omega) (by omega) (HJ_s hJ) _ hf0 hf1 hf2 hf3 hf4 rfl rfl 
                          · skip
                            refine jv_iconst (pc' := 159) (n := 1) rfl rfl ?_
                            refine jx_step (pc' := 163) rfl ?_
                            rw [show iI 1 = jb (P ∨ (VD s l nm k ∧ fitN 126 (s 8 k) num)) from (jb_t (by first | exact Or.inl (by assumption) | exact Or.inr ⟨⟨by omega, by omega, by omega, by omega⟩, by assumption⟩)).symm]
                            refine jv_istore (pc' := 165) (k := 5) (x := (jb (P ∨ (VD s l nm k ∧ fitN 126 (s 8 k) num)))) rfl rfl rfl (Or.inr (congrArg jm_lng hf4)) ?_
                            refine jv_iinc (pc' := 168) (k := 6) (a := ((k : Nat) : Int)) rfl rfl hf6 rfl (Or.inr rfl) ?_
                            refine jx_step (pc' := 6) rfl ?_
                            exact ih (k + 1) (P ∨ (VD s l nm k ∧ fitN 126 (s 8 k) num)) (by omega) (by omega) (HJ_s hJ) _ hf0 hf1 hf2 hf3 hf4 rfl rfl 
            · skip
              exact absurd hz_5 (by decide)
          · skip
            exact absurd hz_4 (by decide)
        · skip
          exact absurd hz_3 (by decide)
  exact H1 _ 0 False (Nat.lt_succ_self _) (by omega) ⟨False.elim, fun ⟨_, h, _⟩ => absurd h (by omega)⟩ _ rfl rfl rfl rfl rfl rfl rfl 
theorem ml_has_m (hM : DMe I M s) (hE : EP W sz s) (hc : 0 ≤ s 0 2 ∧ s 0 2 ≤ 64) (hl : iR l) (hn : iR nm) (hnu : 0 ≤ num ∧ num < 1000000) : jc L xs (d + 1) 157 [.ref 103, .int (iI l), .int (iI nm), .int (iI (-1)), .int (iI num)] (jx_G j I M p) (fun v g1 => v = some (.int (jb (HP s l nm (fun _ => True)))) ∧ g1 = jx_G j I M p) := by
  unfold jc
  refine jv_iconst (pc' := 1) (n := 0) rfl rfl ?_
  rw [show iI 0 = jb False from (jb_f id).symm]
  refine jv_istore (pc' := 3) (k := 5) (x := (jb False)) rfl rfl rfl (Or.inr rfl) ?_
  refine jv_iconst (pc' := 4) (n := 0) rfl rfl ?_
  refine jv_istore (pc' := 6) (k := 6) (x := (iI 0)) rfl rfl rfl (Or.inr rfl) ?_
  have H1 : ∀ (N : Nat) (k : Nat) (P : Prop), 64 - k < N → ((k : Int) ≤ s 0 2) → (HJ s l nm k (fun _ => True) P) → ∀ f : jm_F, f 0 = some (.ref 103) → f 1 = some (.int (iI l)) → f 2 = some (.int (iI nm)) → f 3 = some (.int (iI (-1))) → f 4 = some (.int (iI num)) → f 5 = some (.int (jb P)) → f 6 = some (.int (iI ((k : Nat) : Int))) → jx L xs ((d + 1)) 157 6 f [] (jx_G j I M p) (fun z => ∃ v g1, z = (.inl v, g1) ∧ (fun v g1 => v = some (.int (jb (HP s l nm (fun _ => True)))) ∧ g1 = jx_G j I M p) v g1) := by
    intro N
    induction N with
    | zero => intro k P hN; exact absurd hN (Nat.not_lt_zero _)
    | succ N ih =>
      intro k P hN hk hJ f hf0 hf1 hf2 hf3 hf4 hf5 hf6 
      refine jv_iload (pc' := 8) (k := 6) (x := (iI ((k : Nat) : Int))) rfl rfl hf6 ?_
      refine jv_aload_n (pc' := 9) (k := 0) (x := 103) rfl rfl rfl hf0 ?_
      refine jv_getI (pc' := 12) (c := 12) (k := 22) (v := (iI (s 0 2))) rfl rfl rfl (fun _ _ => rfl) rfl rfl hM.2.2.1 ?_
      refine jv_ic_ge (t := 171) (pc' := 15) (a := ((k : Nat) : Int)) (b := (s 0 2)) rfl rfl rfl (by omega) (fun hz_2 => ?_) (fun hz_2 => ?_)
      · skip
        refine jv_iload (pc' := 173) (k := 5) (x := (jb P)) rfl rfl hf5 ?_
        refine jv_retZ rfl rfl (jb_01 _) ⟨_, _, rfl, ?_⟩
        exact ⟨jq_e (HJ_e hJ (by omega)), rfl⟩
      · skip
        have he := (hE k (by omega)).1
        refine jv_aload_n (pc' := 16) (k := 0) (x := 103) rfl rfl rfl hf0 ?_
        refine jv_getR (pc' := 19) (c := 12) (k := 28) (v := 124) rfl rfl rfl (fun _ _ => rfl) rfl rfl (jR_103_28 _) ?_
        refine jv_iload (pc' := 21) (k := 6) (x := (iI ((k : Nat) : Int))) rfl rfl hf6 ?_
        refine jv_laload (pc' := 22) (n := 65) (e := ((k : Nat) : Int)) (v := (lI (s 8 k))) rfl rfl rfl rfl rfl (by omega) ((hM.2.2.2 k (by omega)).2.2.2.2.2) ?_
        refine jv_lstore (pc' := 24) (k := 7) (x := (lI (s 8 k))) rfl rfl rfl (Or.inr (congrArg jm_lng hf6)) ?_
        refine jv_iload_n (pc' := 25) (k := 3) (x := (iI (-1))) rfl rfl rfl hf3 ?_
        refine jv_bipush (pc' := 27) (n := 61) rfl rfl rfl ?_
        refine jv_ic_ne (t := 47) (pc' := 30) (a := (-1)) (b := 61) rfl rfl rfl (by omega) (fun hz_3 => ?_) (fun hz_3 => ?_)
        · skip
          refine jv_iload_n (pc' := 48) (k := 3) (x := (iI (-1))) rfl rfl rfl hf3 ?_
          refine jv_bipush (pc' := 50) (n := 60) rfl rfl rfl ?_
          refine jv_ic_ne (t := 70) (pc' := 53) (a := (-1)) (b := 60) rfl rfl rfl (by omega) (fun hz_4 => ?_) (fun hz_4 => ?_)
          · skip
            refine jv_iload_n (pc' := 71) (k := 3) (x := (iI (-1))) rfl rfl rfl hf3 ?_
            refine jv_bipush (pc' := 73) (n := 62) rfl rfl rfl ?_
            refine jv_ic_ne (t := 93) (pc' := 76) (a := (-1)) (b := 62) rfl rfl rfl (by omega) (fun hz_5 => ?_) (fun hz_5 => ?_)
            · skip
              refine jv_iload_n (pc' := 94) (k := 3) (x := (iI (-1))) rfl rfl rfl hf3 ?_
              refine jv_bipush (pc' := 96) (n := 126) rfl rfl rfl ?_
              refine jv_ic_ne (t := 110) (pc' := 99) (a := (-1)) (b := 126) rfl rfl rfl (by omega) (fun hz_6 => ?_) (fun hz_6 => ?_)
              · skip
                refine jv_iconst (pc' := 111) (n := 1) rfl rfl ?_
                refine jx_step (pc' := 115) rfl ?_
                rw [show iI 1 = jb (True) from (jb_t trivial).symm]
                refine jv_istore (pc' := 117) (k := 9) (x := (jb True)) rfl rfl rfl (Or.inr rfl) ?_
                refine jv_iload (pc' := 119) (k := 5) (x := (jb P)) rfl rfl hf5 ?_
                refine jv_jb_ne (t := 158) (pc' := 122) (P := P) rfl rfl rfl (fun hz_7 => ?_) (fun hz_7 => ?_)
                · skip
                  refine jv_iconst (pc' := 159) (n := 1) rfl rfl ?_
                  refine jx_step (pc' := 163) rfl ?_
                  rw [show iI 1 = jb (P ∨ (VD s l nm k ∧ True)) from (jb_t (by first | exact Or.inl (by assumption) | exact Or.inr ⟨⟨by omega, by omega, by omega, by omega⟩, by assumption⟩)).symm]
                  refine jv_istore (pc' := 165) (k := 5) (x := (jb (P ∨ (VD s l nm k ∧ True)))) rfl rfl rfl (Or.inr (congrArg jm_lng hf4)) ?_
                  refine jv_iinc (pc' := 168) (k := 6) (a := ((k : Nat) : Int)) rfl rfl hf6 rfl (Or.inr rfl) ?_
                  refine jx_step (pc' := 6) rfl ?_
                  exact ih (k + 1) (P ∨ (VD s l nm k ∧ True)) (by omega) (by omega) (HJ_s hJ) _ hf0 hf1 hf2 hf3 hf4 rfl rfl 
                · skip
                  refine jv_aload_n (pc' := 123) (k := 0) (x := 103) rfl rfl rfl hf0 ?_
                  refine jv_iload (pc' := 125) (k := 6) (x := (iI ((k : Nat) : Int))) rfl rfl hf6 ?_
                  refine jv_call (pc' := 128) rfl (ml_counts (k := k) hM hE hc (by omega)) (fun vq8 gq8 q8 => ?_)
                  obtain ⟨rfl, rfl⟩ := q8
                  show jx L xs _ 157 128 _ [.int (jb (s 7 k ≠ 1 ∧ s 7 k ≠ 4))] _ _
                  refine jv_jb_eq (t := 162) (pc' := 131) (P := s 7 k ≠ 1 ∧ s 7 k ≠ 4) rfl rfl rfl (fun hz_9 => ?_) (fun hz_9 => ?_)
                  · skip
                    refine jv_iconst (pc' := 163) (n := 0) rfl rfl ?_
                    rw [show iI 0 = jb (P ∨ (VD s l nm k ∧ True)) from (jb_f (fun z => by rcases z with z | ⟨⟨z1, z2, z3, z4⟩, z5⟩ <;> first | contradiction | omega)).symm]
                    refine jv_istore (pc' := 165) (k := 5) (x := (jb (P ∨ (VD s l nm k ∧ True)))) rfl rfl rfl (Or.inr (congrArg jm_lng hf4)) ?_
                    refine jv_iinc (pc' := 168) (k := 6) (a := ((k : Nat) : Int)) rfl rfl hf6 rfl (Or.inr rfl) ?_
                    refine jx_step (pc' := 6) rfl ?_
                    exact ih (k + 1) (P ∨ (VD s l nm k ∧ True)) (by omega) (by omega) (HJ_s hJ) _ hf0 hf1 hf2 hf3 hf4 rfl rfl 
                  · skip
                    refine jv_aload_n (pc' := 132) (k := 0) (x := 103) rfl rfl rfl hf0 ?_
                    refine jv_getR (pc' := 135) (c := 12) (k := 23) (v := 119) rfl rfl rfl (fun _ _ => rfl) rfl rfl (jR_103_23 _) ?_
                    refine jv_iload (pc' := 137) (k := 6) (x := (iI ((k : Nat) : Int))) rfl rfl hf6 ?_
                    refine jv_iaload (pc' := 138) (n := 65) (e := ((k : Nat) : Int)) (v := (iI (s 3 k))) rfl rfl (by decide) rfl rfl rfl (by omega) ((hM.2.2.2 k (by omega)).1) ?_
                    refine jv_iload_n (pc' := 139) (k := 1) (x := (iI l)) rfl rfl rfl hf1 ?_
                    refine jv_ic_ne (t := 162) (pc' := 142) (a := (s 3 k)) (b := l) rfl rfl rfl (by omega) (fun hz_10 => ?_) (fun hz_10 => ?_)
                    · skip
                      refine jv_iconst (pc' := 163) (n := 0) rfl rfl ?_
                      rw [show iI 0 = jb (P ∨ (VD s l nm k ∧ True)) from (jb_f (fun z => by rcases z with z | ⟨⟨z1, z2, z3, z4⟩, z5⟩ <;> first | contradiction | omega)).symm]
                      refine jv_istore (pc' := 165) (k := 5) (x := (jb (P ∨ (VD s l nm k ∧ True)))) rfl rfl rfl (Or.inr (congrArg jm_lng hf4)) ?_
                      refine jv_iinc (pc' := 168) (k := 6) (a := ((k : Nat) : Int)) rfl rfl hf6 rfl (Or.inr rfl) ?_
                      refine jx_step (pc' := 6) rfl ?_
                      exact ih (k + 1) (P ∨ (VD s l nm k ∧ True)) (by omega) (by omega) (HJ_s hJ) _ hf0 hf1 hf2 hf3 hf4 rfl rfl 
                    · skip
                      refine jv_aload_n (pc' := 143) (k := 0) (x := 103) rfl rfl rfl hf0 ?_
                      refine jv_getR (pc' := 146) (c := 12) (k := 24) (v := 120) rfl rfl rfl (fun _ _ => rfl) rfl rfl (jR_103_24 _) ?_
                      refine jv_iload (pc' := 148) (k := 6) (x := (iI ((k : Nat) : Int))) rfl rfl hf6 ?_
                      refine jv_iaload (pc' := 149) (n := 65) (e := ((k : Nat) : Int)) (v := (iI (s 4 k))) rfl rfl (by decide) rfl rfl rfl (by omega) ((hM.2.2.2 k (by omega)).2.1) ?_
                      refine jv_iload_n (pc' := 150) (k := 2) (x := (iI nm)) rfl rfl rfl hf2 ?_
                      refine jv_ic_ne (t := 162) (pc' := 153) (a := (s 4 k)) (b := nm) rfl rfl rfl (by omega) (fun hz_11 => ?_) (fun hz_11 => ?_)
                      · skip
                        refine jv_iconst (pc' := 163) (n := 0) rfl rfl ?_
                        rw [show iI 0 = jb (P ∨ (VD s l nm k ∧ True)) from (jb_f (fun z => by rcases z with z | ⟨⟨z1, z2, z3, z4⟩, z5⟩ <;> first | contradiction | omega)).symm]
                        refine jv_istore (pc' := 165) (k := 5) (x := (jb (P ∨ (VD s l nm k ∧ True)))) rfl rfl rfl (Or.inr (congrArg jm_lng hf4)) ?_
                        refine jv_iinc (pc' := 168) (k := 6) (a := ((k : Nat) : Int)) rfl rfl hf6 rfl (Or.inr rfl) ?_
                        refine jx_step (pc' := 6) rfl ?_
                        exact ih (k + 1) (P ∨ (VD s l nm k ∧ True)) (by omega) (by omega) (HJ_s hJ) _ hf0 hf1 hf2 hf3 hf4 rfl rfl 
                      · skip
                        refine jv_iload (pc' := 155) (k := 9) (x := (jb True)) rfl rfl rfl ?_
                        refine jv_jb_eq (t := 162) (pc' := 158) (P := True) rfl rfl rfl (fun hz_12 => ?_) (fun hz_12 => ?_)
                        · skip
                          refine jv_iconst (pc' := 163) (n := 0) rfl rfl ?_
                          rw [show iI 0 = jb (P ∨ (VD s l nm k ∧ True)) from (jb_f (fun z => by rcases z with z | ⟨⟨z1, z2, z3, z4⟩, z5⟩ <;> first | contradiction | omega)).symm]
                          refine jv_istore (pc' := 165) (k := 5) (x := (jb (P ∨ (VD s l nm k ∧ True)))) rfl rfl rfl (Or.inr (congrArg jm_lng hf4)) ?_
                          refine jv_iinc (pc' := 168) (k := 6) (a := ((k : Nat) : Int)) rfl rfl hf6 rfl (Or.inr rfl) ?_
                          refine jx_step (pc' := 6) rfl ?_
                          exact ih (k + 1) (P ∨ (VD s l nm k ∧ True)) (by omega) (by omega) (HJ_s hJ) _ hf0 hf1 hf2 hf3 hf4 rfl rfl 
                        · skip
                          refine jv_iconst (pc' := 159) (n := 1) rfl rfl ?_
                          refine jx_step (pc' := 163) rfl ?_
                          rw [show iI 1 = jb (P ∨ (VD s l nm k ∧ True)) from (jb_t (by first | exact Or.inl (by assumption) | exact Or.inr ⟨⟨by omega, by omega, by omega, by omega⟩, by assumption⟩)).symm]
                          refine jv_istore (pc' := 165) (k := 5) (x := (jb (P ∨ (VD s l nm k ∧ True)))) rfl rfl rfl (Or.inr (congrArg jm_lng hf4)) ?_
                          refine jv_iinc (pc' := 168) (k := 6) (a := ((k : Nat) : Int)) rfl rfl hf6 rfl (Or.inr rfl) ?_
                          refine jx_step (pc' := 6) rfl ?_
                          exact ih (k + 1) (P ∨ (VD s l nm k ∧ True)) (by omega) (by omega) (HJ_s hJ) _ hf0 hf1 hf2 hf3 hf4 rfl rfl 
              · skip
                exact absurd hz_6 (by decide)
            · skip
              exact absurd hz_5 (by decide)
          · skip
            exact absurd hz_4 (by decide)
        · skip
          exact absurd hz_3 (by decide)
  exact H1 _ 0 False (Nat.lt_succ_self _) (by omega) ⟨False.elim, fun ⟨_, h, _⟩ => absurd h (by omega)⟩ _ rfl rfl rfl rfl rfl rfl rfl 
theorem ml_has_c {op : Int} (hop : cm op) (hM : DMe I M s) (hE : EP W sz s) (hc : 0 ≤ s 0 2 ∧ s 0 2 ≤ 64) (hl : iR l) (hn : iR nm) (hnu : 0 ≤ num ∧ num < 1000000) : jc L xs (d + 1) 157 [.ref 103, .int (iI l), .int (iI nm), .int (iI op), .int (iI num)] (jx_G j I M p) (fun v g1 => v = some (.int (jb (HP s l nm (fun v => fitN op v num)))) ∧ g1 = jx_G j I M p) := by
  rcases hop with rfl | rfl | rfl | rfl
  · exact ml_has_61 hM hE hc hl hn hnu
  · exact ml_has_60 hM hE hc hl hn hnu
  · exact ml_has_62 hM hE hc hl hn hnu
  · exact ml_has_126 hM hE hc hl hn hnu
def PJ (c : Nat → Int) (s : DSt) (a m q : Nat) (P : Prop) : Prop := 0 < nd c (q + 1) ∧ qO c m (q + 1 + nd c (q + 1)) ∧ qA c m (q + 1 + nd c (q + 1)) = cA c (a + 2) ∧ ((∃ x, x ∈ cN c (a + 2) ∧ HP s (c a - 48) (nmq c a) (fun v => fitN (c (a + 2)) v x)) ↔ (P ∨ ∃ x, x ∈ nv c (q + 1) :: nq c m (q + 1 + nd c (q + 1)) ∧ HP s (c a - 48) (nmq c a) (fun v => fitN (c (a + 2)) v x)))
def PK (c : Nat → Int) (s : DSt) (a q : Nat) (P : Prop) : Prop := q = cA c (a + 2) ∧ ((∃ x, x ∈ cN c (a + 2) ∧ HP s (c a - 48) (nmq c a) (fun v => fitN (c (a + 2)) v x)) ↔ P)
theorem PJ_0 {c : Nat → Int} {s : DSt} {a : Nat} (hm : cm (c (a + 2))) (h : cO c (a + 2)) : PJ c s a (mo (c (a + 2))) (a + 2) False := by
  obtain ⟨h1, h2⟩ := h hm
  refine ⟨h1, h2, ?_, ?_⟩
  · unfold cA; rw [if_pos hm, if_pos h1]
  · have eN : cN c (a + 2) = nv c (a + 2 + 1) :: nq c (mo (c (a + 2))) (a + 2 + 1 + nd c (a + 2 + 1)) := if_pos hm
    rw [eN]; simp
theorem PJ_s {c : Nat → Int} {s : DSt} {a m q : Nat} {P : Prop} (h : PJ c s a (m + 1) q P) (hc : c (q + 1 + nd c (q + 1)) = 44) : PJ c s a m (q + 1 + nd c (q + 1)) (HP s (c a - 48) (nmq c a) (fun v => fitN (c (a + 2)) v (nv c (q + 1))) ∨ P) := by
  obtain ⟨h1, h2, h3, h4⟩ := h
  obtain ⟨h5, h6⟩ := h2 hc
  obtain ⟨_, e2, e3⟩ := qO_y (k := m) hc h5
  refine ⟨h5, h6, by rw [← e2]; exact h3, h4.trans ?_⟩
  rw [e3]
  constructor
  · rintro (z | ⟨x, hx, hz⟩)
    · exact Or.inl (Or.inr z)
    · rcases List.mem_cons.1 hx with e | e
      · rw [e] at hz; exact Or.inl (Or.inl hz)
      · exact Or.inr ⟨x, e, hz⟩
  · rintro ((z | z) | ⟨x, hx, hz⟩)
    · exact Or.inr ⟨_, List.mem_cons_self, z⟩
    · exact Or.inl z
    · exact Or.inr ⟨x, List.mem_cons_of_mem _ hx, hz⟩
theorem PJ_e {c : Nat → Int} {s : DSt} {a m q : Nat} {P : Prop} (h : PJ c s a m q P) (hc : c (q + 1 + nd c (q + 1)) ≠ 44) : PK c s a (q + 1 + nd c (q + 1)) (HP s (c a - 48) (nmq c a) (fun v => fitN (c (a + 2)) v (nv c (q + 1))) ∨ P) := by
  obtain ⟨h1, h2, h3, h4⟩ := h
  obtain ⟨_, e2, e3⟩ := qO_e (c := c) (k := m) (Or.inr hc)
  refine ⟨by rw [← h3, e2], h4.trans ?_⟩
  rw [e3]
  constructor
  · rintro (z | ⟨x, hx, hz⟩)
    · exact Or.inr z
    · rcases List.mem_cons.1 hx with e | e
      · rw [e] at hz; exact Or.inl hz
      · cases e
  · rintro (z | z)
    · exact Or.inr ⟨_, List.mem_cons_self, z⟩
    · exact Or.inl z
theorem PJ_m {c : Nat → Int} {s : DSt} {a m q : Nat} {P : Prop} (h : PJ c s a m q P) (hc : c (q + 1 + nd c (q + 1)) = 44) (hx : c (cA c (a + 2)) ≠ 44) : ∃ m', m = m' + 1 := by
  cases m with
  | zero =>
    have : q + 1 + nd c (q + 1) = cA c (a + 2) := h.2.2.1
    rw [this] at hc; exact absurd hc hx
  | succ m => exact ⟨m, rfl⟩
theorem PJ_le {c : Nat → Int} {s : DSt} {a m q n : Nat} {P : Prop} (hn : ∀ k, n ≤ k → c k = -1) (h : PJ c s a m q P) (hq : q < n) : q + 1 + nd c (q + 1) ≤ n := nd_in hn (by omega)
theorem tV_1 {c : Nat → Int} {s : DSt} {a : Nat} (h : ¬ cm (c (a + 2))) : HP s (c a - 48) (nmq c a) (fun _ => True) ↔ tV c s a := by
  have e := (c_none (c := c) (a := a + 2) h).2.2
  constructor
  · rintro ⟨i, h1, h2, _⟩; exact ⟨i, h1, h2, Or.inl e⟩
  · rintro ⟨i, h1, h2, _⟩; exact ⟨i, h1, h2, trivial⟩
theorem tV_2 {c : Nat → Int} {s : DSt} {a : Nat} (h : cm (c (a + 2))) : (∃ x, x ∈ cN c (a + 2) ∧ HP s (c a - 48) (nmq c a) (fun v => fitN (c (a + 2)) v x)) ↔ tV c s a := by
  have eN : cN c (a + 2) = nv c (a + 2 + 1) :: nq c (mo (c (a + 2))) (a + 2 + 1 + nd c (a + 2 + 1)) := if_pos h
  constructor
  · rintro ⟨x, hx, i, h1, h2, h3⟩; exact ⟨i, h1, h2, Or.inr ⟨x, hx, h3⟩⟩
  · rintro ⟨i, h1, h2, h3 | ⟨x, hx, h3⟩⟩
    · rw [eN] at h3; cases h3
    · exact ⟨x, hx, i, h1, h2, h3⟩
set_option maxHeartbeats 4000000 in
theorem ml_passes (hT : MT I c n) (hat : I 103 19 = iI ((a : Nat) : Int)) (han : a ≤ n) (hM : DMe I M s) (hE : EP W sz s) (hc : 0 ≤ s 0 2 ∧ s 0 2 ≤ 64) (ht : tO c a) (h44 : c (tA c a) ≠ 44) : jc L xs (d + 2) 158 [.ref 103] (jx_G j I M p) (fun v g1 => ∃ I', g1 = jx_G j I' M p ∧ v = some (.int (jb (tV c s a))) ∧ fr (fun l k => l = 103 ∧ k = 19) I I' ∧ I' 103 19 = iI ((tA c a : Nat) : Int)) := by
  unfold jc
  have hn := hT.2.1
  have ht1 := ht.1
  have ht2 := ht.2.1
  have hnr : -100 ≤ nmq c a ∧ nmq c a ≤ 255 := by
    have := MT_c hT (a + 1); unfold nmq; split <;> omega
  have eT : tA c a = cA c (a + 2) := (if_pos ht1).trans (if_pos ht2)
  rw [eT] at h44
  refine jv_aload_n (pc' := 1) (k := 0) (x := 103) rfl rfl rfl rfl ?_
  have hm1 := MT_c hT (a)
  have ho1 := MT_or hT (a)
  refine jv_call (pc' := 4) rfl (ml_here (I := I) (a := a) hT hat (by omega)) (fun vq2 gq2 q2 => ?_)
  obtain ⟨rfl, rfl⟩ := q2
  show jx L xs _ 158 4 _ [.int (iI (c (a)))] _ _
  refine jv_bipush (pc' := 6) (n := 48) rfl rfl rfl ?_
  refine jv_isub (pc' := 7) (a := (c (a))) (b := 48) rfl rfl ?_
  refine jv_istore_n (pc' := 8) (k := 1) (x := (iI ((c (a)) - 48))) rfl rfl rfl rfl (Or.inr rfl) ?_
  refine jv_aload_n (pc' := 9) (k := 0) (x := 103) rfl rfl rfl rfl ?_
  refine jx_step (pc' := 10) rfl ?_
  refine jv_getI (pc' := 13) (c := 12) (k := 19) (v := (iI ((a : Nat) : Int))) rfl rfl rfl (fun _ _ => rfl) rfl rfl hat ?_
  refine jv_iconst (pc' := 14) (n := 1) rfl rfl ?_
  refine jv_iadd (pc' := 15) (a := ((a : Nat) : Int)) (b := 1) rfl rfl ?_
  refine jv_putI (pc' := 18) (c := 12) (k := 19) rfl rfl rfl rfl (fun _ _ _  => rfl) rfl rfl ?_
  refine jv_aload_n (pc' := 19) (k := 0) (x := 103) rfl rfl rfl rfl ?_
  have hm3 := MT_c hT (a + 1)
  have ho3 := MT_or hT (a + 1)
  refine jv_call (pc' := 22) rfl (ml_here (I := jm_u I 103 19 (iI (((a : Nat) : Int) + 1))) (a := a + 1) hT rfl (by omega)) (fun vq4 gq4 q4 => ?_)
  obtain ⟨rfl, rfl⟩ := q4
  show jx L xs _ 158 22 _ [.int (iI (c (a + 1)))] _ _
  refine jv_bipush (pc' := 24) (n := 36) rfl rfl rfl ?_
  refine jv_ic_ne (t := 32) (pc' := 27) (a := (c (a + 1))) (b := 36) rfl rfl rfl (by omega) (fun hz_5 => ?_) (fun hz_5 => ?_)
  · skip
    refine jv_aload_n (pc' := 33) (k := 0) (x := 103) rfl rfl rfl rfl ?_
    have hm6 := MT_c hT (a + 1)
    have ho6 := MT_or hT (a + 1)
    refine jv_call (pc' := 36) rfl (ml_here (I := jm_u I 103 19 (iI (((a : Nat) : Int) + 1))) (a := a + 1) hT rfl (by omega)) (fun vq7 gq7 q7 => ?_)
    obtain ⟨rfl, rfl⟩ := q7
    show jx L xs _ 158 36 _ [.int (iI (c (a + 1)))] _ _
    refine jv_bipush (pc' := 38) (n := 97) rfl rfl rfl ?_
    refine jv_isub (pc' := 39) (a := (c (a + 1))) (b := 97) rfl rfl ?_
    rw [show (c (a + 1)) - 97 = nmq c a by unfold nmq; first | (rw [if_pos (by omega)]) | (rw [if_neg (by omega)])]
    refine jv_istore_n (pc' := 40) (k := 2) (x := (iI (nmq c a))) rfl rfl rfl rfl (Or.inr rfl) ?_
    refine jv_aload_n (pc' := 41) (k := 0) (x := 103) rfl rfl rfl rfl ?_
    refine jx_step (pc' := 42) rfl ?_
    refine jv_getI (pc' := 45) (c := 12) (k := 19) (v := (iI ((a + 1 : Nat) : Int))) rfl rfl rfl (fun _ _ => rfl) rfl rfl rfl ?_
    refine jv_iconst (pc' := 46) (n := 1) rfl rfl ?_
    refine jv_iadd (pc' := 47) (a := ((a + 1 : Nat) : Int)) (b := 1) rfl rfl ?_
    refine jv_putI (pc' := 50) (c := 12) (k := 19) rfl rfl rfl rfl (fun _ _ _  => rfl) rfl rfl ?_
    refine jv_aload_n (pc' := 51) (k := 0) (x := 103) rfl rfl rfl rfl ?_
    have hm8 := MT_c hT (a + 2)
    have ho8 := MT_or hT (a + 2)
    refine jv_call (pc' := 54) rfl (ml_here (I := jm_u (jm_u I 103 19 (iI (((a : Nat) : Int) + 1))) 103 19 (iI (((a + 1 : Nat) : Int) + 1))) (a := a + 2) hT rfl (by omega)) (fun vq9 gq9 q9 => ?_)
    obtain ⟨rfl, rfl⟩ := q9
    show jx L xs _ 158 54 _ [.int (iI (c (a + 2)))] _ _
    refine jv_istore_n (pc' := 55) (k := 3) (x := (iI (c (a + 2)))) rfl rfl rfl rfl (Or.inr rfl) ?_
    refine jv_iload_n (pc' := 56) (k := 3) (x := (iI (c (a + 2)))) rfl rfl rfl rfl ?_
    refine jv_bipush (pc' := 58) (n := 61) rfl rfl rfl ?_
    refine jv_ic_eq (t := 88) (pc' := 61) (a := (c (a + 2))) (b := 61) rfl rfl rfl (by omega) (fun hz_10 => ?_) (fun hz_10 => ?_)
    · skip
      refine jv_iconst (pc' := 89) (n := 0) rfl rfl ?_
      have hcm : cm (c (a + 2)) := by unfold cm; omega
      rw [show iI 0 = jb False from (jb_f id).symm]
      refine jv_istore (pc' := 91) (k := 4) (x := (jb False)) rfl rfl rfl (Or.inr rfl) ?_
      refine jv_iconst (pc' := 92) (n := 1) rfl rfl ?_
      refine jv_istore (pc' := 94) (k := 5) (x := (iI 1)) rfl rfl rfl (Or.inr rfl) ?_
      have H11 : ∀ (N : Nat) (m : Nat) (q : Nat) (mr : Int) (P : Prop) (I1 : Nat → Nat → Int32), (if mr = 1 then m + 1 else 0) < N → (fr (fun l k => l = 103 ∧ k = 19) I I1) → (I1 103 19 = iI ((q : Nat) : Int)) → ((mr = 1 ∧ q < n ∧ PJ c s a m q P) ∨ (mr = 0 ∧ PK c s a q P)) → ∀ f : jm_F, f 0 = some (.ref 103) → f 1 = some (.int (iI (c a - 48))) → f 2 = some (.int (iI (nmq c a))) → f 3 = some (.int (iI (c (a + 2)))) → f 4 = some (.int (jb P)) → f 5 = some (.int (iI mr)) → jx L xs ((d + 2)) 158 94 f [] (jx_G j I1 M p) (fun z => ∃ v g1, z = (.inl v, g1) ∧ (fun v g1 => ∃ I', g1 = jx_G j I' M p ∧ v = some (.int (jb (tV c s a))) ∧ fr (fun l k => l = 103 ∧ k = 19) I I' ∧ I' 103 19 = iI ((tA c a : Nat) : Int)) v g1) := by
        intro N
        induction N with
        | zero => intro m q mr P I1 hN; exact absurd hN (Nat.not_lt_zero _)
        | succ N ih =>
          intro m q mr P I1 hN hf hq hJ f hf0 hf1 hf2 hf3 hf4 hf5 
          refine jv_iload (pc' := 96) (k := 5) (x := (iI mr)) rfl rfl hf5 ?_
          have T1 : MT I1 c n := MT_fr hT hf (by simp) (by intro k; simp)
          rcases hJ with ⟨rfl, hqn, hJ⟩ | ⟨rfl, hJ⟩
          · skip
            show jx L xs _ 158 96 _ [.int (iI 1)] _ _
            refine jv_if_eq (t := 154) (pc' := 99) (a := 1) rfl rfl rfl (by omega) (fun hz_12 => ?_) (fun hz_12 => ?_)
            · skip
              exact absurd hz_12 (by decide)
            · skip
              refine jv_aload_n (pc' := 100) (k := 0) (x := 103) rfl rfl rfl hf0 ?_
              refine jx_step (pc' := 101) rfl ?_
              refine jv_getI (pc' := 104) (c := 12) (k := 19) (v := (iI ((q : Nat) : Int))) rfl rfl rfl (fun _ _ => rfl) rfl rfl hq ?_
              refine jv_iconst (pc' := 105) (n := 1) rfl rfl ?_
              refine jv_iadd (pc' := 106) (a := ((q : Nat) : Int)) (b := 1) rfl rfl ?_
              refine jv_putI (pc' := 109) (c := 12) (k := 19) rfl rfl rfl rfl (fun _ _ _  => rfl) rfl rfl ?_
              refine jv_aload_n (pc' := 110) (k := 0) (x := 103) rfl rfl rfl hf0 ?_
              refine jv_iload_n (pc' := 111) (k := 1) (x := (iI (c a - 48))) rfl rfl rfl hf1 ?_
              refine jv_iload_n (pc' := 112) (k := 2) (x := (iI (nmq c a))) rfl rfl rfl hf2 ?_
              refine jv_iload_n (pc' := 113) (k := 3) (x := (iI (c (a + 2)))) rfl rfl rfl hf3 ?_
              refine jv_aload_n (pc' := 114) (k := 0) (x := 103) rfl rfl rfl hf0 ?_
              have hm13 := MT_c T1 (q + 1)
              have ho13 := MT_or T1 (q + 1)
              have nb14 := nv_b c (q + 1)
              have nl14 := nd_le c (q + 1)
              have nn14 := nd_in T1.2.2.2.2 (a := q + 1) (by omega)
              refine jv_call (pc' := 117) rfl (ml_number_y (I := jm_u I1 103 19 (iI (((q : Nat) : Int) + 1))) (a := q + 1) T1 rfl (by omega) hJ.1) (fun vq15 gq15 q15 => ?_)
              obtain ⟨rfl, rfl⟩ := q15
              show jx L xs _ 158 117 _ [.int (iI (nv c (q + 1))), .int (iI (c (a + 2))), .int (iI (nmq c a)), .int (iI (c a - 48)), .ref 103] _ _
              have M120 : DMe (jm_u (jm_u I1 103 19 (iI (((q : Nat) : Int) + 1))) 103 19 (iI ((q + 1 + nd c (q + 1) : Nat) : Int))) M s := DMe_fr (W := fun l k => l = 103 ∧ k = 19) (V := fun _ _ => False) (I := I) hM (fr_u (by simp) (fr_u (by simp) hf)) (fr_r _) ⟨by omega, by omega, by omega, fun l k h1 h2 => by omega⟩ (fun _ h => h)
              refine jv_call (pc' := 120) rfl (ml_has_c (I := jm_u (jm_u I1 103 19 (iI (((q : Nat) : Int) + 1))) 103 19 (iI ((q + 1 + nd c (q + 1) : Nat) : Int))) (l := c a - 48) (nm := nmq c a) (op := c (a + 2)) (num := nv c (q + 1)) hcm M120 hE hc (by omega) (by omega) (by omega)) (fun vq16 gq16 q16 => ?_)
              obtain ⟨rfl, rfl⟩ := q16
              show jx L xs _ 158 120 _ [.int (jb (HP s (c a - 48) (nmq c a) (fun v => fitN (c (a + 2)) v (nv c (q + 1)))))] _ _
              refine jv_jb_ne (t := 128) (pc' := 123) (P := HP s (c a - 48) (nmq c a) (fun v => fitN (c (a + 2)) v (nv c (q + 1)))) rfl rfl rfl (fun hz_17 => ?_) (fun hz_17 => ?_)
              · skip
                refine jv_iconst (pc' := 129) (n := 1) rfl rfl ?_
                refine jx_step (pc' := 133) rfl ?_
                rw [show iI 1 = jb (HP s (c a - 48) (nmq c a) (fun v => fitN (c (a + 2)) v (nv c (q + 1))) ∨ P) from (jb_t (by first | exact Or.inl (by assumption) | exact Or.inr (by assumption))).symm]
                refine jv_istore (pc' := 135) (k := 4) (x := (jb (HP s (c a - 48) (nmq c a) (fun v => fitN (c (a + 2)) v (nv c (q + 1))) ∨ P))) rfl rfl rfl (Or.inr (congrArg jm_lng hf3)) ?_
                refine jv_aload_n (pc' := 136) (k := 0) (x := 103) rfl rfl rfl hf0 ?_
                have hm18 := MT_c T1 (q + 1 + nd c (q + 1))
                have ho18 := MT_or T1 (q + 1 + nd c (q + 1))
                refine jv_call (pc' := 139) rfl (ml_here (I := jm_u (jm_u I1 103 19 (iI (((q : Nat) : Int) + 1))) 103 19 (iI ((q + 1 + nd c (q + 1) : Nat) : Int))) (a := q + 1 + nd c (q + 1)) T1 rfl (by omega)) (fun vq19 gq19 q19 => ?_)
                obtain ⟨rfl, rfl⟩ := q19
                show jx L xs _ 158 139 _ [.int (iI (c (q + 1 + nd c (q + 1))))] _ _
                refine jv_bipush (pc' := 141) (n := 44) rfl rfl rfl ?_
                refine jv_ic_ne (t := 148) (pc' := 144) (a := (c (q + 1 + nd c (q + 1)))) (b := 44) rfl rfl rfl (by omega) (fun hz_20 => ?_) (fun hz_20 => ?_)
                · skip
                  refine jv_iconst (pc' := 149) (n := 0) rfl rfl ?_
                  refine jv_istore (pc' := 151) (k := 5) (x := (iI 0)) rfl rfl rfl (Or.inr rfl) ?_
                  refine jx_step (pc' := 94) rfl ?_
                  exact ih 0 (q + 1 + nd c (q + 1)) 0 (HP s (c a - 48) (nmq c a) (fun v => fitN (c (a + 2)) v (nv c (q + 1))) ∨ P) (jm_u (jm_u I1 103 19 (iI (((q : Nat) : Int) + 1))) 103 19 (iI ((q + 1 + nd c (q + 1) : Nat) : Int))) (by simp at hN ⊢; try omega) (fr_u (by simp) (fr_u (by simp) hf)) rfl (Or.inr ⟨rfl, PJ_e hJ (by omega)⟩) _ hf0 hf1 hf2 hf3 rfl rfl 
                · skip
                  obtain ⟨m2, rfl⟩ := PJ_m hJ (by omega) h44
                  refine jv_iconst (pc' := 145) (n := 1) rfl rfl ?_
                  refine jx_step (pc' := 149) rfl ?_
                  refine jv_istore (pc' := 151) (k := 5) (x := (iI 1)) rfl rfl rfl (Or.inr rfl) ?_
                  refine jx_step (pc' := 94) rfl ?_
                  exact ih m2 (q + 1 + nd c (q + 1)) 1 (HP s (c a - 48) (nmq c a) (fun v => fitN (c (a + 2)) v (nv c (q + 1))) ∨ P) (jm_u (jm_u I1 103 19 (iI (((q : Nat) : Int) + 1))) 103 19 (iI ((q + 1 + nd c (q + 1) : Nat) : Int))) (by simp at hN ⊢; try omega) (fr_u (by simp) (fr_u (by simp) hf)) rfl (Or.inl ⟨rfl, by omega, PJ_s hJ (by omega)⟩) _ hf0 hf1 hf2 hf3 rfl rfl 
              · skip
                refine jv_iload (pc' := 125) (k := 4) (x := (jb P)) rfl rfl hf4 ?_
                refine jv_jb_eq (t := 132) (pc' := 128) (P := P) rfl rfl rfl (fun hz_21 => ?_) (fun hz_21 => ?_)
                · skip
                  refine jv_iconst (pc' := 133) (n := 0) rfl rfl ?_
                  rw [show iI 0 = jb (HP s (c a - 48) (nmq c a) (fun v => fitN (c (a + 2)) v (nv c (q + 1))) ∨ P) from (jb_f (fun z => by rcases z with z | z <;> contradiction)).symm]
                  refine jv_istore (pc' := 135) (k := 4) (x := (jb (HP s (c a - 48) (nmq c a) (fun v => fitN (c (a + 2)) v (nv c (q + 1))) ∨ P))) rfl rfl rfl (Or.inr (congrArg jm_lng hf3)) ?_
                  refine jv_aload_n (pc' := 136) (k := 0) (x := 103) rfl rfl rfl hf0 ?_
                  have hm22 := MT_c T1 (q + 1 + nd c (q + 1))
                  have ho22 := MT_or T1 (q + 1 + nd c (q + 1))
                  refine jv_call (pc' := 139) rfl (ml_here (I := jm_u (jm_u I1 103 19 (iI (((q : Nat) : Int) + 1))) 103 19 (iI ((q + 1 + nd c (q + 1) : Nat) : Int))) (a := q + 1 + nd c (q + 1)) T1 rfl (by omega)) (fun vq23 gq23 q23 => ?_)
                  obtain ⟨rfl, rfl⟩ := q23
                  show jx L xs _ 158 139 _ [.int (iI (c (q + 1 + nd c (q + 1))))] _ _
                  refine jv_bipush (pc' := 141) (n := 44) rfl rfl rfl ?_
                  refine jv_ic_ne (t := 148) (pc' := 144) (a := (c (q + 1 + nd c (q + 1)))) (b := 44) rfl rfl rfl (by omega) (fun hz_24 => ?_) (fun hz_24 => ?_)
                  · skip
                    refine jv_iconst (pc' := 149) (n := 0) rfl rfl ?_
                    refine jv_istore (pc' := 151) (k := 5) (x := (iI 0)) rfl rfl rfl (Or.inr rfl) ?_
                    refine jx_step (pc' := 94) rfl ?_
                    exact ih 0 (q + 1 + nd c (q + 1)) 0 (HP s (c a - 48) (nmq c a) (fun v => fitN (c (a + 2)) v (nv c (q + 1))) ∨ P) (jm_u (jm_u I1 103 19 (iI (((q : Nat) : Int) + 1))) 103 19 (iI ((q + 1 + nd c (q + 1) : Nat) : Int))) (by simp at hN ⊢; try omega) (fr_u (by simp) (fr_u (by simp) hf)) rfl (Or.inr ⟨rfl, PJ_e hJ (by omega)⟩) _ hf0 hf1 hf2 hf3 rfl rfl 
                  · skip
                    obtain ⟨m2, rfl⟩ := PJ_m hJ (by omega) h44
                    refine jv_iconst (pc' := 145) (n := 1) rfl rfl ?_
                    refine jx_step (pc' := 149) rfl ?_
                    refine jv_istore (pc' := 151) (k := 5) (x := (iI 1)) rfl rfl rfl (Or.inr rfl) ?_
                    refine jx_step (pc' := 94) rfl ?_
                    exact ih m2 (q + 1 + nd c (q + 1)) 1 (HP s (c a - 48) (nmq c a) (fun v => fitN (c (a + 2)) v (nv c (q + 1))) ∨ P) (jm_u (jm_u I1 103 19 (iI (((q : Nat) : Int) + 1))) 103 19 (iI ((q + 1 + nd c (q + 1) : Nat) : Int))) (by simp at hN ⊢; try omega) (fr_u (by simp) (fr_u (by simp) hf)) rfl (Or.inl ⟨rfl, by omega, PJ_s hJ (by omega)⟩) _ hf0 hf1 hf2 hf3 rfl rfl 
                · skip
                  refine jv_iconst (pc' := 129) (n := 1) rfl rfl ?_
                  refine jx_step (pc' := 133) rfl ?_
                  rw [show iI 1 = jb (HP s (c a - 48) (nmq c a) (fun v => fitN (c (a + 2)) v (nv c (q + 1))) ∨ P) from (jb_t (by first | exact Or.inl (by assumption) | exact Or.inr (by assumption))).symm]
                  refine jv_istore (pc' := 135) (k := 4) (x := (jb (HP s (c a - 48) (nmq c a) (fun v => fitN (c (a + 2)) v (nv c (q + 1))) ∨ P))) rfl rfl rfl (Or.inr (congrArg jm_lng hf3)) ?_
                  refine jv_aload_n (pc' := 136) (k := 0) (x := 103) rfl rfl rfl hf0 ?_
                  have hm25 := MT_c T1 (q + 1 + nd c (q + 1))
                  have ho25 := MT_or T1 (q + 1 + nd c (q + 1))
                  refine jv_call (pc' := 139) rfl (ml_here (I := jm_u (jm_u I1 103 19 (iI (((q : Nat) : Int) + 1))) 103 19 (iI ((q + 1 + nd c (q + 1) : Nat) : Int))) (a := q + 1 + nd c (q + 1)) T1 rfl (by omega)) (fun vq26 gq26 q26 => ?_)
                  obtain ⟨rfl, rfl⟩ := q26
                  show jx L xs _ 158 139 _ [.int (iI (c (q + 1 + nd c (q + 1))))] _ _
                  refine jv_bipush (pc' := 141) (n := 44) rfl rfl rfl ?_
                  refine jv_ic_ne (t := 148) (pc' := 144) (a := (c (q + 1 + nd c (q + 1)))) (b := 44) rfl rfl rfl (by omega) (fun hz_27 => ?_) (fun hz_27 => ?_)
                  · skip
                    refine jv_iconst (pc' := 149) (n := 0) rfl rfl ?_
                    refine jv_istore (pc' := 151) (k := 5) (x := (iI 0)) rfl rfl rfl (Or.inr rfl) ?_
                    refine jx_step (pc' := 94) rfl ?_
                    exact ih 0 (q + 1 + nd c (q + 1)) 0 (HP s (c a - 48) (nmq c a) (fun v => fitN (c (a + 2)) v (nv c (q + 1))) ∨ P) (jm_u (jm_u I1 103 19 (iI (((q : Nat) : Int) + 1))) 103 19 (iI ((q + 1 + nd c (q + 1) : Nat) : Int))) (by simp at hN ⊢; try omega) (fr_u (by simp) (fr_u (by simp) hf)) rfl (Or.inr ⟨rfl, PJ_e hJ (by omega)⟩) _ hf0 hf1 hf2 hf3 rfl rfl 
                  · skip
                    obtain ⟨m2, rfl⟩ := PJ_m hJ (by omega) h44
                    refine jv_iconst (pc' := 145) (n := 1) rfl rfl ?_
                    refine jx_step (pc' := 149) rfl ?_
                    refine jv_istore (pc' := 151) (k := 5) (x := (iI 1)) rfl rfl rfl (Or.inr rfl) ?_
                    refine jx_step (pc' := 94) rfl ?_
                    exact ih m2 (q + 1 + nd c (q + 1)) 1 (HP s (c a - 48) (nmq c a) (fun v => fitN (c (a + 2)) v (nv c (q + 1))) ∨ P) (jm_u (jm_u I1 103 19 (iI (((q : Nat) : Int) + 1))) 103 19 (iI ((q + 1 + nd c (q + 1) : Nat) : Int))) (by simp at hN ⊢; try omega) (fr_u (by simp) (fr_u (by simp) hf)) rfl (Or.inl ⟨rfl, by omega, PJ_s hJ (by omega)⟩) _ hf0 hf1 hf2 hf3 rfl rfl 
          · skip
            show jx L xs _ 158 96 _ [.int (iI 0)] _ _
            refine jv_if_eq (t := 154) (pc' := 99) (a := 0) rfl rfl rfl (by omega) (fun hz_28 => ?_) (fun hz_28 => ?_)
            · skip
              refine jv_iload (pc' := 156) (k := 4) (x := (jb P)) rfl rfl hf4 ?_
              refine jv_retZ rfl rfl (jb_01 _) ⟨_, _, rfl, ?_⟩
              first
              | (exfalso; omega)
              | exact ⟨_, rfl, jq_e (hJ.2.symm.trans (tV_2 hcm)), hf, by rw [eT, ← hJ.1]; exact hq⟩
            · skip
              exact absurd hz_28 (by decide)
      exact H11 _ (mo (c (a + 2))) (a + 2) 1 False (jm_u (jm_u I 103 19 (iI (((a : Nat) : Int) + 1))) 103 19 (iI (((a + 1 : Nat) : Int) + 1))) (Nat.lt_succ_self _) (fr_u (by simp) (fr_u (by simp) (fr_r _))) rfl (Or.inl ⟨rfl, by omega, PJ_0 hcm ht.2.2⟩) _ rfl rfl rfl rfl rfl rfl 
    · skip
      refine jv_iload_n (pc' := 62) (k := 3) (x := (iI (c (a + 2)))) rfl rfl rfl rfl ?_
      refine jv_bipush (pc' := 64) (n := 60) rfl rfl rfl ?_
      refine jv_ic_eq (t := 88) (pc' := 67) (a := (c (a + 2))) (b := 60) rfl rfl rfl (by omega) (fun hz_29 => ?_) (fun hz_29 => ?_)
      · skip
        refine jv_iconst (pc' := 89) (n := 0) rfl rfl ?_
        have hcm : cm (c (a + 2)) := by unfold cm; omega
        rw [show iI 0 = jb False from (jb_f id).symm]
        refine jv_istore (pc' := 91) (k := 4) (x := (jb False)) rfl rfl rfl (Or.inr rfl) ?_
        refine jv_iconst (pc' := 92) (n := 1) rfl rfl ?_
        refine jv_istore (pc' := 94) (k := 5) (x := (iI 1)) rfl rfl rfl (Or.inr rfl) ?_
        have H30 : ∀ (N : Nat) (m : Nat) (q : Nat) (mr : Int) (P : Prop) (I1 : Nat → Nat → Int32), (if mr = 1 then m + 1 else 0) < N → (fr (fun l k => l = 103 ∧ k = 19) I I1) → (I1 103 19 = iI ((q : Nat) : Int)) → ((mr = 1 ∧ q < n ∧ PJ c s a m q P) ∨ (mr = 0 ∧ PK c s a q P)) → ∀ f : jm_F, f 0 = some (.ref 103) → f 1 = some (.int (iI (c a - 48))) → f 2 = some (.int (iI (nmq c a))) → f 3 = some (.int (iI (c (a + 2)))) → f 4 = some (.int (jb P)) → f 5 = some (.int (iI mr)) → jx L xs ((d + 2)) 158 94 f [] (jx_G j I1 M p) (fun z => ∃ v g1, z = (.inl v, g1) ∧ (fun v g1 => ∃ I', g1 = jx_G j I' M p ∧ v = some (.int (jb (tV c s a))) ∧ fr (fun l k => l = 103 ∧ k = 19) I I' ∧ I' 103 19 = iI ((tA c a : Nat) : Int)) v g1) := by
          intro N
          induction N with
          | zero => intro m q mr P I1 hN; exact absurd hN (Nat.not_lt_zero _)
          | succ N ih =>
            intro m q mr P I1 hN hf hq hJ f hf0 hf1 hf2 hf3 hf4 hf5 
            refine jv_iload (pc' := 96) (k := 5) (x := (iI mr)) rfl rfl hf5 ?_
            have T1 : MT I1 c n := MT_fr hT hf (by simp) (by intro k; simp)
            rcases hJ with ⟨rfl, hqn, hJ⟩ | ⟨rfl, hJ⟩
            · skip
              show jx L xs _ 158 96 _ [.int (iI 1)] _ _
              refine jv_if_eq (t := 154) (pc' := 99) (a := 1) rfl rfl rfl (by omega) (fun hz_31 => ?_) (fun hz_31 => ?_)
              · skip
                exact absurd hz_31 (by decide)
              · skip
                refine jv_aload_n (pc' := 100) (k := 0) (x := 103) rfl rfl rfl hf0 ?_
                refine jx_step (pc' := 101) rfl ?_
                refine jv_getI (pc' := 104) (c := 12) (k := 19) (v := (iI ((q : Nat) : Int))) rfl rfl rfl (fun _ _ => rfl) rfl rfl hq ?_
                refine jv_iconst (pc' := 105) (n := 1) rfl rfl ?_
                refine jv_iadd (pc' := 106) (a := ((q : Nat) : Int)) (b := 1) rfl rfl ?_
                refine jv_putI (pc' := 109) (c := 12) (k := 19) rfl rfl rfl rfl (fun _ _ _  => rfl) rfl rfl ?_
                refine jv_aload_n (pc' := 110) (k := 0) (x := 103) rfl rfl rfl hf0 ?_
                refine jv_iload_n (pc' := 111) (k := 1) (x := (iI (c a - 48))) rfl rfl rfl hf1 ?_
                refine jv_iload_n (pc' := 112) (k := 2) (x := (iI (nmq c a))) rfl rfl rfl hf2 ?_
                refine jv_iload_n (pc' := 113) (k := 3) (x := (iI (c (a + 2)))) rfl rfl rfl hf3 ?_
                refine jv_aload_n (pc' := 114) (k := 0) (x := 103) rfl rfl rfl hf0 ?_
                have hm32 := MT_c T1 (q + 1)
                have ho32 := MT_or T1 (q + 1)
                have nb33 := nv_b c (q + 1)
                have nl33 := nd_le c (q + 1)
                have nn33 := nd_in T1.2.2.2.2 (a := q + 1) (by omega)
                refine jv_call (pc' := 117) rfl (ml_number_y (I := jm_u I1 103 19 (iI (((q : Nat) : Int) + 1))) (a := q + 1) T1 rfl (by omega) hJ.1) (fun vq34 gq34 q34 => ?_)
                obtain ⟨rfl, rfl⟩ := q34
                show jx L xs _ 158 117 _ [.int (iI (nv c (q + 1))), .int (iI (c (a + 2))), .int (iI (nmq c a)), .int (iI (c a - 48)), .ref 103] _ _
                have M120 : DMe (jm_u (jm_u I1 103 19 (iI (((q : Nat) : Int) + 1))) 103 19 (iI ((q + 1 + nd c (q + 1) : Nat) : Int))) M s := DMe_fr (W := fun l k => l = 103 ∧ k = 19) (V := fun _ _ => False) (I := I) hM (fr_u (by simp) (fr_u (by simp) hf)) (fr_r _) ⟨by omega, by omega, by omega, fun l k h1 h2 => by omega⟩ (fun _ h => h)
                refine jv_call (pc' := 120) rfl (ml_has_c (I := jm_u (jm_u I1 103 19 (iI (((q : Nat) : Int) + 1))) 103 19 (iI ((q + 1 + nd c (q + 1) : Nat) : Int))) (l := c a - 48) (nm := nmq c a) (op := c (a + 2)) (num := nv c (q + 1)) hcm M120 hE hc (by omega) (by omega) (by omega)) (fun vq35 gq35 q35 => ?_)
                obtain ⟨rfl, rfl⟩ := q35
                show jx L xs _ 158 120 _ [.int (jb (HP s (c a - 48) (nmq c a) (fun v => fitN (c (a + 2)) v (nv c (q + 1)))))] _ _
                refine jv_jb_ne (t := 128) (pc' := 123) (P := HP s (c a - 48) (nmq c a) (fun v => fitN (c (a + 2)) v (nv c (q + 1)))) rfl rfl rfl (fun hz_36 => ?_) (fun hz_36 => ?_)
                · skip
                  refine jv_iconst (pc' := 129) (n := 1) rfl rfl ?_
                  refine jx_step (pc' := 133) rfl ?_
                  rw [show iI 1 = jb (HP s (c a - 48) (nmq c a) (fun v => fitN (c (a + 2)) v (nv c (q + 1))) ∨ P) from (jb_t (by first | exact Or.inl (by assumption) | exact Or.inr (by assumption))).symm]
                  refine jv_istore (pc' := 135) (k := 4) (x := (jb (HP s (c a - 48) (nmq c a) (fun v => fitN (c (a + 2)) v (nv c (q + 1))) ∨ P))) rfl rfl rfl (Or.inr (congrArg jm_lng hf3)) ?_
                  refine jv_aload_n (pc' := 136) (k := 0) (x := 103) rfl rfl rfl hf0 ?_
                  have hm37 := MT_c T1 (q + 1 + nd c (q + 1))
                  have ho37 := MT_or T1 (q + 1 + nd c (q + 1))
                  refine jv_call (pc' := 139) rfl (ml_here (I := jm_u (jm_u I1 103 19 (iI (((q : Nat) : Int) + 1))) 103 19 (iI ((q + 1 + nd c (q + 1) : Nat) : Int))) (a := q + 1 + nd c (q + 1)) T1 rfl (by omega)) (fun vq38 gq38 q38 => ?_)
                  obtain ⟨rfl, rfl⟩ := q38
                  show jx L xs _ 158 139 _ [.int (iI (c (q + 1 + nd c (q + 1))))] _ _
                  refine jv_bipush (pc' := 141) (n := 44) rfl rfl rfl ?_
                  refine jv_ic_ne (t := 148) (pc' := 144) (a := (c (q + 1 + nd c (q + 1)))) (b := 44) rfl rfl rfl (by omega) (fun hz_39 => ?_) (fun hz_39 => ?_)
                  · skip
                    refine jv_iconst (pc' := 149) (n := 0) rfl rfl ?_
                    refine jv_istore (pc' := 151) (k := 5) (x := (iI 0)) rfl rfl rfl (Or.inr rfl) ?_
                    refine jx_step (pc' := 94) rfl ?_
                    exact ih 0 (q + 1 + nd c (q + 1)) 0 (HP s (c a - 48) (nmq c a) (fun v => fitN (c (a + 2)) v (nv c (q + 1))) ∨ P) (jm_u (jm_u I1 103 19 (iI (((q : Nat) : Int) + 1))) 103 19 (iI ((q + 1 + nd c (q + 1) : Nat) : Int))) (by simp at hN ⊢; try omega) (fr_u (by simp) (fr_u (by simp) hf)) rfl (Or.inr ⟨rfl, PJ_e hJ (by omega)⟩) _ hf0 hf1 hf2 hf3 rfl rfl 
                  · skip
                    obtain ⟨m2, rfl⟩ := PJ_m hJ (by omega) h44
                    refine jv_iconst (pc' := 145) (n := 1) rfl rfl ?_
                    refine jx_step (pc' := 149) rfl ?_
                    refine jv_istore (pc' := 151) (k := 5) (x := (iI 1)) rfl rfl rfl (Or.inr rfl) ?_
                    refine jx_step (pc' := 94) rfl ?_
                    exact ih m2 (q + 1 + nd c (q + 1)) 1 (HP s (c a - 48) (nmq c a) (fun v => fitN (c (a + 2)) v (nv c (q + 1))) ∨ P) (jm_u (jm_u I1 103 19 (iI (((q : Nat) : Int) + 1))) 103 19 (iI ((q + 1 + nd c (q + 1) : Nat) : Int))) (by simp at hN ⊢; try omega) (fr_u (by simp) (fr_u (by simp) hf)) rfl (Or.inl ⟨rfl, by omega, PJ_s hJ (by omega)⟩) _ hf0 hf1 hf2 hf3 rfl rfl 
                · skip
                  refine jv_iload (pc' := 125) (k := 4) (x := (jb P)) rfl rfl hf4 ?_
                  refine jv_jb_eq (t := 132) (pc' := 128) (P := P) rfl rfl rfl (fun hz_40 => ?_) (fun hz_40 => ?_)
                  · skip
                    refine jv_iconst (pc' := 133) (n := 0) rfl rfl ?_
                    rw [show iI 0 = jb (HP s (c a - 48) (nmq c a) (fun v => fitN (c (a + 2)) v (nv c (q + 1))) ∨ P) from (jb_f (fun z => by rcases z with z | z <;> contradiction)).symm]
                    refine jv_istore (pc' := 135) (k := 4) (x := (jb (HP s (c a - 48) (nmq c a) (fun v => fitN (c (a + 2)) v (nv c (q + 1))) ∨ P))) rfl rfl rfl (Or.inr (congrArg jm_lng hf3)) ?_
                    refine jv_aload_n (pc' := 136) (k := 0) (x := 103) rfl rfl rfl hf0 ?_
                    have hm41 := MT_c T1 (q + 1 + nd c (q + 1))
                    have ho41 := MT_or T1 (q + 1 + nd c (q + 1))
                    refine jv_call (pc' := 139) rfl (ml_here (I := jm_u (jm_u I1 103 19 (iI (((q : Nat) : Int) + 1))) 103 19 (iI ((q + 1 + nd c (q + 1) : Nat) : Int))) (a := q + 1 + nd c (q + 1)) T1 rfl (by omega)) (fun vq42 gq42 q42 => ?_)
                    obtain ⟨rfl, rfl⟩ := q42
                    show jx L xs _ 158 139 _ [.int (iI (c (q + 1 + nd c (q + 1))))] _ _
                    refine jv_bipush (pc' := 141) (n := 44) rfl rfl rfl ?_
                    refine jv_ic_ne (t := 148) (pc' := 144) (a := (c (q + 1 + nd c (q + 1)))) (b := 44) rfl rfl rfl (by omega) (fun hz_43 => ?_) (fun hz_43 => ?_)
                    · skip
                      refine jv_iconst (pc' := 149) (n := 0) rfl rfl ?_
                      refine jv_istore (pc' := 151) (k := 5) (x := (iI 0)) rfl rfl rfl (Or.inr rfl) ?_
                      refine jx_step (pc' := 94) rfl ?_
                      exact ih 0 (q + 1 + nd c (q + 1)) 0 (HP s (c a - 48) (nmq c a) (fun v => fitN (c (a + 2)) v (nv c (q + 1))) ∨ P) (jm_u (jm_u I1 103 19 (iI (((q : Nat) : Int) + 1))) 103 19 (iI ((q + 1 + nd c (q + 1) : Nat) : Int))) (by simp at hN ⊢; try omega) (fr_u (by simp) (fr_u (by simp) hf)) rfl (Or.inr ⟨rfl, PJ_e hJ (by omega)⟩) _ hf0 hf1 hf2 hf3 rfl rfl 
                    · skip
                      obtain ⟨m2, rfl⟩ := PJ_m hJ (by omega) h44
                      refine jv_iconst (pc' := 145) (n := 1) rfl rfl ?_
                      refine jx_step (pc' := 149) rfl ?_
                      refine jv_istore (pc' := 151) (k := 5) (x := (iI 1)) rfl rfl rfl (Or.inr rfl) ?_
                      refine jx_step (pc' := 94) rfl ?_
                      exact ih m2 (q + 1 + nd c (q + 1)) 1 (HP s (c a - 48) (nmq c a) (fun v => fitN (c (a + 2)) v (nv c (q + 1))) ∨ P) (jm_u (jm_u I1 103 19 (iI (((q : Nat) : Int) + 1))) 103 19 (iI ((q + 1 + nd c (q + 1) : Nat) : Int))) (by simp at hN ⊢; try omega) (fr_u (by simp) (fr_u (by simp) hf)) rfl (Or.inl ⟨rfl, by omega, PJ_s hJ (by omega)⟩) _ hf0 hf1 hf2 hf3 rfl rfl 
                  · skip
                    refine jv_iconst (pc' := 129) (n := 1) rfl rfl ?_
                    refine jx_step (pc' := 133) rfl ?_
                    rw [show iI 1 = jb (HP s (c a - 48) (nmq c a) (fun v => fitN (c (a + 2)) v (nv c (q + 1))) ∨ P) from (jb_t (by first | exact Or.inl (by assumption) | exact Or.inr (by assumption))).symm]
                    refine jv_istore (pc' := 135) (k := 4) (x := (jb (HP s (c a - 48) (nmq c a) (fun v => fitN (c (a + 2)) v (nv c (q + 1))) ∨ P))) rfl rfl rfl (Or.inr (congrArg jm_lng hf3)) ?_
                    refine jv_aload_n (pc' := 136) (k := 0) (x := 103) rfl rfl rfl hf0 ?_
                    have hm44 := MT_c T1 (q + 1 + nd c (q + 1))
                    have ho44 := MT_or T1 (q + 1 + nd c (q + 1))
                    refine jv_call (pc' := 139) rfl (ml_here (I := jm_u (jm_u I1 103 19 (iI (((q : Nat) : Int) + 1))) 103 19 (iI ((q + 1 + nd c (q + 1) : Nat) : Int))) (a := q + 1 + nd c (q + 1)) T1 rfl (by omega)) (fun vq45 gq45 q45 => ?_)
                    obtain ⟨rfl, rfl⟩ := q45
                    show jx L xs _ 158 139 _ [.int (iI (c (q + 1 + nd c (q + 1))))] _ _
                    refine jv_bipush (pc' := 141) (n := 44) rfl rfl rfl ?_
                    refine jv_ic_ne (t := 148) (pc' := 144) (a := (c (q + 1 + nd c (q + 1)))) (b := 44) rfl rfl rfl (by omega) (fun hz_46 => ?_) (fun hz_46 => ?_)
                    · skip
                      refine jv_iconst (pc' := 149) (n := 0) rfl rfl ?_
                      refine jv_istore (pc' := 151) (k := 5) (x := (iI 0)) rfl rfl rfl (Or.inr rfl) ?_
                      refine jx_step (pc' := 94) rfl ?_
                      exact ih 0 (q + 1 + nd c (q + 1)) 0 (HP s (c a - 48) (nmq c a) (fun v => fitN (c (a + 2)) v (nv c (q + 1))) ∨ P) (jm_u (jm_u I1 103 19 (iI (((q : Nat) : Int) + 1))) 103 19 (iI ((q + 1 + nd c (q + 1) : Nat) : Int))) (by simp at hN ⊢; try omega) (fr_u (by simp) (fr_u (by simp) hf)) rfl (Or.inr ⟨rfl, PJ_e hJ (by omega)⟩) _ hf0 hf1 hf2 hf3 rfl rfl 
                    · skip
                      obtain ⟨m2, rfl⟩ := PJ_m hJ (by omega) h44
                      refine jv_iconst (pc' := 145) (n := 1) rfl rfl ?_
                      refine jx_step (pc' := 149) rfl ?_
                      refine jv_istore (pc' := 151) (k := 5) (x := (iI 1)) rfl rfl rfl (Or.inr rfl) ?_
                      refine jx_step (pc' := 94) rfl ?_
                      exact ih m2 (q + 1 + nd c (q + 1)) 1 (HP s (c a - 48) (nmq c a) (fun v => fitN (c (a + 2)) v (nv c (q + 1))) ∨ P) (jm_u (jm_u I1 103 19 (iI (((q : Nat) : Int) + 1))) 103 19 (iI ((q + 1 + nd c (q + 1) : Nat) : Int))) (by simp at hN ⊢; try omega) (fr_u (by simp) (fr_u (by simp) hf)) rfl (Or.inl ⟨rfl, by omega, PJ_s hJ (by omega)⟩) _ hf0 hf1 hf2 hf3 rfl rfl 
            · skip
              show jx L xs _ 158 96 _ [.int (iI 0)] _ _
              refine jv_if_eq (t := 154) (pc' := 99) (a := 0) rfl rfl rfl (by omega) (fun hz_47 => ?_) (fun hz_47 => ?_)
              · skip
                refine jv_iload (pc' := 156) (k := 4) (x := (jb P)) rfl rfl hf4 ?_
                refine jv_retZ rfl rfl (jb_01 _) ⟨_, _, rfl, ?_⟩
                first
                | (exfalso; omega)
                | exact ⟨_, rfl, jq_e (hJ.2.symm.trans (tV_2 hcm)), hf, by rw [eT, ← hJ.1]; exact hq⟩
              · skip
                exact absurd hz_47 (by decide)
        exact H30 _ (mo (c (a + 2))) (a + 2) 1 False (jm_u (jm_u I 103 19 (iI (((a : Nat) : Int) + 1))) 103 19 (iI (((a + 1 : Nat) : Int) + 1))) (Nat.lt_succ_self _) (fr_u (by simp) (fr_u (by simp) (fr_r _))) rfl (Or.inl ⟨rfl, by omega, PJ_0 hcm ht.2.2⟩) _ rfl rfl rfl rfl rfl rfl 
      · skip
        refine jv_iload_n (pc' := 68) (k := 3) (x := (iI (c (a + 2)))) rfl rfl rfl rfl ?_
        refine jv_bipush (pc' := 70) (n := 62) rfl rfl rfl ?_
        refine jv_ic_eq (t := 88) (pc' := 73) (a := (c (a + 2))) (b := 62) rfl rfl rfl (by omega) (fun hz_48 => ?_) (fun hz_48 => ?_)
        · skip
          refine jv_iconst (pc' := 89) (n := 0) rfl rfl ?_
          have hcm : cm (c (a + 2)) := by unfold cm; omega
          rw [show iI 0 = jb False from (jb_f id).symm]
          refine jv_istore (pc' := 91) (k := 4) (x := (jb False)) rfl rfl rfl (Or.inr rfl) ?_
          refine jv_iconst (pc' := 92) (n := 1) rfl rfl ?_
          refine jv_istore (pc' := 94) (k := 5) (x := (iI 1)) rfl rfl rfl (Or.inr rfl) ?_
          have H49 : ∀ (N : Nat) (m : Nat) (q : Nat) (mr : Int) (P : Prop) (I1 : Nat → Nat → Int32), (if mr = 1 then m + 1 else 0) < N → (fr (fun l k => l = 103 ∧ k = 19) I I1) → (I1 103 19 = iI ((q : Nat) : Int)) → ((mr = 1 ∧ q < n ∧ PJ c s a m q P) ∨ (mr = 0 ∧ PK c s a q P)) → ∀ f : jm_F, f 0 = some (.ref 103) → f 1 = some (.int (iI (c a - 48))) → f 2 = some (.int (iI (nmq c a))) → f 3 = some (.int (iI (c (a + 2)))) → f 4 = some (.int (jb P)) → f 5 = some (.int (iI mr)) → jx L xs ((d + 2)) 158 94 f [] (jx_G j I1 M p) (fun z => ∃ v g1, z = (.inl v, g1) ∧ (fun v g1 => ∃ I', g1 = jx_G j I' M p ∧ v = some (.int (jb (tV c s a))) ∧ fr (fun l k => l = 103 ∧ k = 19) I I' ∧ I' 103 19 = iI ((tA c a : Nat) : Int)) v g1) := by
            intro N
            induction N with
            | zero => intro m q mr P I1 hN; exact absurd hN (Nat.not_lt_zero _)
            | succ N ih =>
              intro m q mr P I1 hN hf hq hJ f hf0 hf1 hf2 hf3 hf4 hf5 
              refine jv_iload (pc' := 96) (k := 5) (x := (iI mr)) rfl rfl hf5 ?_
              have T1 : MT I1 c n := MT_fr hT hf (by simp) (by intro k; simp)
              rcases hJ with ⟨rfl, hqn, hJ⟩ | ⟨rfl, hJ⟩
              · skip
                show jx L xs _ 158 96 _ [.int (iI 1)] _ _
                refine jv_if_eq (t := 154) (pc' := 99) (a := 1) rfl rfl rfl (by omega) (fun hz_50 => ?_) (fun hz_50 => ?_)
                · skip
                  exact absurd hz_50 (by decide)
                · skip
                  refine jv_aload_n (pc' := 100) (k := 0) (x := 103) rfl rfl rfl hf0 ?_
                  refine jx_step (pc' := 101) rfl ?_
                  refine jv_getI (pc' := 104) (c := 12) (k := 19) (v := (iI ((q : Nat) : Int))) rfl rfl rfl (fun _ _ => rfl) rfl rfl hq ?_
                  refine jv_iconst (pc' := 105) (n := 1) rfl rfl ?_
                  refine jv_iadd (pc' := 106) (a := ((q : Nat) : Int)) (b := 1) rfl rfl ?_
                  refine jv_putI (pc' := 109) (c := 12) (k := 19) rfl rfl rfl rfl (fun _ _ _  => rfl) rfl rfl ?_
                  refine jv_aload_n (pc' := 110) (k := 0) (x := 103) rfl rfl rfl hf0 ?_
                  refine jv_iload_n (pc' := 111) (k := 1) (x := (iI (c a - 48))) rfl rfl rfl hf1 ?_
                  refine jv_iload_n (pc' := 112) (k := 2) (x := (iI (nmq c a))) rfl rfl rfl hf2 ?_
                  refine jv_iload_n (pc' := 113) (k := 3) (x := (iI (c (a + 2)))) rfl rfl rfl hf3 ?_
                  refine jv_aload_n (pc' := 114) (k := 0) (x := 103) rfl rfl rfl hf0 ?_
                  have hm51 := MT_c T1 (q + 1)
                  have ho51 := MT_or T1 (q + 1)
                  have nb52 := nv_b c (q + 1)
                  have nl52 := nd_le c (q + 1)
                  have nn52 := nd_in T1.2.2.2.2 (a := q + 1) (by omega)
                  refine jv_call (pc' := 117) rfl (ml_number_y (I := jm_u I1 103 19 (iI (((q : Nat) : Int) + 1))) (a := q + 1) T1 rfl (by omega) hJ.1) (fun vq53 gq53 q53 => ?_)
                  obtain ⟨rfl, rfl⟩ := q53
                  show jx L xs _ 158 117 _ [.int (iI (nv c (q + 1))), .int (iI (c (a + 2))), .int (iI (nmq c a)), .int (iI (c a - 48)), .ref 103] _ _
                  have M120 : DMe (jm_u (jm_u I1 103 19 (iI (((q : Nat) : Int) + 1))) 103 19 (iI ((q + 1 + nd c (q + 1) : Nat) : Int))) M s := DMe_fr (W := fun l k => l = 103 ∧ k = 19) (V := fun _ _ => False) (I := I) hM (fr_u (by simp) (fr_u (by simp) hf)) (fr_r _) ⟨by omega, by omega, by omega, fun l k h1 h2 => by omega⟩ (fun _ h => h)
                  refine jv_call (pc' := 120) rfl (ml_has_c (I := jm_u (jm_u I1 103 19 (iI (((q : Nat) : Int) + 1))) 103 19 (iI ((q + 1 + nd c (q + 1) : Nat) : Int))) (l := c a - 48) (nm := nmq c a) (op := c (a + 2)) (num := nv c (q + 1)) hcm M120 hE hc (by omega) (by omega) (by omega)) (fun vq54 gq54 q54 => ?_)
                  obtain ⟨rfl, rfl⟩ := q54
                  show jx L xs _ 158 120 _ [.int (jb (HP s (c a - 48) (nmq c a) (fun v => fitN (c (a + 2)) v (nv c (q + 1)))))] _ _
                  refine jv_jb_ne (t := 128) (pc' := 123) (P := HP s (c a - 48) (nmq c a) (fun v => fitN (c (a + 2)) v (nv c (q + 1)))) rfl rfl rfl (fun hz_55 => ?_) (fun hz_55 => ?_)
                  · skip
                    refine jv_iconst (pc' := 129) (n := 1) rfl rfl ?_
                    refine jx_step (pc' := 133) rfl ?_
                    rw [show iI 1 = jb (HP s (c a - 48) (nmq c a) (fun v => fitN (c (a + 2)) v (nv c (q + 1))) ∨ P) from (jb_t (by first | exact Or.inl (by assumption) | exact Or.inr (by assumption))).symm]
                    refine jv_istore (pc' := 135) (k := 4) (x := (jb (HP s (c a - 48) (nmq c a) (fun v => fitN (c (a + 2)) v (nv c (q + 1))) ∨ P))) rfl rfl rfl (Or.inr (congrArg jm_lng hf3)) ?_
                    refine jv_aload_n (pc' := 136) (k := 0) (x := 103) rfl rfl rfl hf0 ?_
                    have hm56 := MT_c T1 (q + 1 + nd c (q + 1))
                    have ho56 := MT_or T1 (q + 1 + nd c (q + 1))
                    refine jv_call (pc' := 139) rfl (ml_here (I := jm_u (jm_u I1 103 19 (iI (((q : Nat) : Int) + 1))) 103 19 (iI ((q + 1 + nd c (q + 1) : Nat) : Int))) (a := q + 1 + nd c (q + 1)) T1 rfl (by omega)) (fun vq57 gq57 q57 => ?_)
                    obtain ⟨rfl, rfl⟩ := q57
                    show jx L xs _ 158 139 _ [.int (iI (c (q + 1 + nd c (q + 1))))] _ _
                    refine jv_bipush (pc' := 141) (n := 44) rfl rfl rfl ?_
                    refine jv_ic_ne (t := 148) (pc' := 144) (a := (c (q + 1 + nd c (q + 1)))) (b := 44) rfl rfl rfl (by omega) (fun hz_58 => ?_) (fun hz_58 => ?_)
                    · skip
                      refine jv_iconst (pc' := 149) (n := 0) rfl rfl ?_
                      refine jv_istore (pc' := 151) (k := 5) (x := (iI 0)) rfl rfl rfl (Or.inr rfl) ?_
                      refine jx_step (pc' := 94) rfl ?_
                      exact ih 0 (q + 1 + nd c (q + 1)) 0 (HP s (c a - 48) (nmq c a) (fun v => fitN (c (a + 2)) v (nv c (q + 1))) ∨ P) (jm_u (jm_u I1 103 19 (iI (((q : Nat) : Int) + 1))) 103 19 (iI ((q + 1 + nd c (q + 1) : Nat) : Int))) (by simp at hN ⊢; try omega) (fr_u (by simp) (fr_u (by simp) hf)) rfl (Or.inr ⟨rfl, PJ_e hJ (by omega)⟩) _ hf0 hf1 hf2 hf3 rfl rfl 
                    · skip
                      obtain ⟨m2, rfl⟩ := PJ_m hJ (by omega) h44
                      refine jv_iconst (pc' := 145) (n := 1) rfl rfl ?_
                      refine jx_step (pc' := 149) rfl ?_
                      refine jv_istore (pc' := 151) (k := 5) (x := (iI 1)) rfl rfl rfl (Or.inr rfl) ?_
                      refine jx_step (pc' := 94) rfl ?_
                      exact ih m2 (q + 1 + nd c (q + 1)) 1 (HP s (c a - 48) (nmq c a) (fun v => fitN (c (a + 2)) v (nv c (q + 1))) ∨ P) (jm_u (jm_u I1 103 19 (iI (((q : Nat) : Int) + 1))) 103 19 (iI ((q + 1 + nd c (q + 1) : Nat) : Int))) (by simp at hN ⊢; try omega) (fr_u (by simp) (fr_u (by simp) hf)) rfl (Or.inl ⟨rfl, by omega, PJ_s hJ (by omega)⟩) _ hf0 hf1 hf2 hf3 rfl rfl 
                  · skip
                    refine jv_iload (pc' := 125) (k := 4) (x := (jb P)) rfl rfl hf4 ?_
                    refine jv_jb_eq (t := 132) (pc' := 128) (P := P) rfl rfl rfl (fun hz_59 => ?_) (fun hz_59 => ?_)
                    · skip
                      refine jv_iconst (pc' := 133) (n := 0) rfl rfl ?_
                      rw [show iI 0 = jb (HP s (c a - 48) (nmq c a) (fun v => fitN (c (a + 2)) v (nv c (q + 1))) ∨ P) from (jb_f (fun z => by rcases z with z | z <;> contradiction)).symm]
                      refine jv_istore (pc' := 135) (k := 4) (x := (jb (HP s (c a - 48) (nmq c a) (fun v => fitN (c (a + 2)) v (nv c (q + 1))) ∨ P))) rfl rfl rfl (Or.inr (congrArg jm_lng hf3)) ?_
                      refine jv_aload_n (pc' := 136) (k := 0) (x := 103) rfl rfl rfl hf0 ?_
                      have hm60 := MT_c T1 (q + 1 + nd c (q + 1))
                      have ho60 := MT_or T1 (q + 1 + nd c (q + 1))
                      refine jv_call (pc' := 139) rfl (ml_here (I := jm_u (jm_u I1 103 19 (iI (((q : Nat) : Int) + 1))) 103 19 (iI ((q + 1 + nd c (q + 1) : Nat) : Int))) (a := q + 1 + nd c (q + 1)) T1 rfl (by omega)) (fun vq61 gq61 q61 => ?_)
                      obtain ⟨rfl, rfl⟩ := q61
                      show jx L xs _ 158 139 _ [.int (iI (c (q + 1 + nd c (q + 1))))] _ _
                      refine jv_bipush (pc' := 141) (n := 44) rfl rfl rfl ?_
                      refine jv_ic_ne (t := 148) (pc' := 144) (a := (c (q + 1 + nd c (q + 1)))) (b := 44) rfl rfl rfl (by omega) (fun hz_62 => ?_) (fun hz_62 => ?_)
                      · skip
                        refine jv_iconst (pc' := 149) (n := 0) rfl rfl ?_
                        refine jv_istore (pc' := 151) (k := 5) (x := (iI 0)) rfl rfl rfl (Or.inr rfl) ?_
                        refine jx_step (pc' := 94) rfl ?_
                        exact ih 0 (q + 1 + nd c (q + 1)) 0 (HP s (c a - 48) (nmq c a) (fun v => fitN (c (a + 2)) v (nv c (q + 1))) ∨ P) (jm_u (jm_u I1 103 19 (iI (((q : Nat) : Int) + 1))) 103 19 (iI ((q + 1 + nd c (q + 1) : Nat) : Int))) (by simp at hN ⊢; try omega) (fr_u (by simp) (fr_u (by simp) hf)) rfl (Or.inr ⟨rfl, PJ_e hJ (by omega)⟩) _ hf0 hf1 hf2 hf3 rfl rfl 
                      · skip
                        obtain ⟨m2, rfl⟩ := PJ_m hJ (by omega) h44
                        refine jv_iconst (pc' := 145) (n := 1) rfl rfl ?_
                        refine jx_step (pc' := 149) rfl ?_
                        refine jv_istore (pc' := 151) (k := 5) (x := (iI 1)) rfl rfl rfl (Or.inr rfl) ?_
                        refine jx_step (pc' := 94) rfl ?_
                        exact ih m2 (q + 1 + nd c (q + 1)) 1 (HP s (c a - 48) (nmq c a) (fun v => fitN (c (a + 2)) v (nv c (q + 1))) ∨ P) (jm_u (jm_u I1 103 19 (iI (((q : Nat) : Int) + 1))) 103 19 (iI ((q + 1 + nd c (q + 1) : Nat) : Int))) (by simp at hN ⊢; try omega) (fr_u (by simp) (fr_u (by simp) hf)) rfl (Or.inl ⟨rfl, by omega, PJ_s hJ (by omega)⟩) _ hf0 hf1 hf2 hf3 rfl rfl 
                    · skip
                      refine jv_iconst (pc' := 129) (n := 1) rfl rfl ?_
                      refine jx_step (pc' := 133) rfl ?_
                      rw [show iI 1 = jb (HP s (c a - 48) (nmq c a) (fun v => fitN (c (a + 2)) v (nv c (q + 1))) ∨ P) from (jb_t (by first | exact Or.inl (by assumption) | exact Or.inr (by assumption))).symm]
                      refine jv_istore (pc' := 135) (k := 4) (x := (jb (HP s (c a - 48) (nmq c a) (fun v => fitN (c (a + 2)) v (nv c (q + 1))) ∨ P))) rfl rfl rfl (Or.inr (congrArg jm_lng hf3)) ?_
                      refine jv_aload_n (pc' := 136) (k := 0) (x := 103) rfl rfl rfl hf0 ?_
                      have hm63 := MT_c T1 (q + 1 + nd c (q + 1))
                      have ho63 := MT_or T1 (q + 1 + nd c (q + 1))
                      refine jv_call (pc' := 139) rfl (ml_here (I := jm_u (jm_u I1 103 19 (iI (((q : Nat) : Int) + 1))) 103 19 (iI ((q + 1 + nd c (q + 1) : Nat) : Int))) (a := q + 1 + nd c (q + 1)) T1 rfl (by omega)) (fun vq64 gq64 q64 => ?_)
                      obtain ⟨rfl, rfl⟩ := q64
                      show jx L xs _ 158 139 _ [.int (iI (c (q + 1 + nd c (q + 1))))] _ _
                      refine jv_bipush (pc' := 141) (n := 44) rfl rfl rfl ?_
                      refine jv_ic_ne (t := 148) (pc' := 144) (a := (c (q + 1 + nd c (q + 1)))) (b := 44) rfl rfl rfl (by omega) (fun hz_65 => ?_) (fun hz_65 => ?_)
                      · skip
                        refine jv_iconst (pc' := 149) (n := 0) rfl rfl ?_
                        refine jv_istore (pc' := 151) (k := 5) (x := (iI 0)) rfl rfl rfl (Or.inr rfl) ?_
                        refine jx_step (pc' := 94) rfl ?_
                        exact ih 0 (q + 1 + nd c (q + 1)) 0 (HP s (c a - 48) (nmq c a) (fun v => fitN (c (a + 2)) v (nv c (q + 1))) ∨ P) (jm_u (jm_u I1 103 19 (iI (((q : Nat) : Int) + 1))) 103 19 (iI ((q + 1 + nd c (q + 1) : Nat) : Int))) (by simp at hN ⊢; try omega) (fr_u (by simp) (fr_u (by simp) hf)) rfl (Or.inr ⟨rfl, PJ_e hJ (by omega)⟩) _ hf0 hf1 hf2 hf3 rfl rfl 
                      · skip
                        obtain ⟨m2, rfl⟩ := PJ_m hJ (by omega) h44
                        refine jv_iconst (pc' := 145) (n := 1) rfl rfl ?_
                        refine jx_step (pc' := 149) rfl ?_
                        refine jv_istore (pc' := 151) (k := 5) (x := (iI 1)) rfl rfl rfl (Or.inr rfl) ?_
                        refine jx_step (pc' := 94) rfl ?_
                        exact ih m2 (q + 1 + nd c (q + 1)) 1 (HP s (c a - 48) (nmq c a) (fun v => fitN (c (a + 2)) v (nv c (q + 1))) ∨ P) (jm_u (jm_u I1 103 19 (iI (((q : Nat) : Int) + 1))) 103 19 (iI ((q + 1 + nd c (q + 1) : Nat) : Int))) (by simp at hN ⊢; try omega) (fr_u (by simp) (fr_u (by simp) hf)) rfl (Or.inl ⟨rfl, by omega, PJ_s hJ (by omega)⟩) _ hf0 hf1 hf2 hf3 rfl rfl 
              · skip
                show jx L xs _ 158 96 _ [.int (iI 0)] _ _
                refine jv_if_eq (t := 154) (pc' := 99) (a := 0) rfl rfl rfl (by omega) (fun hz_66 => ?_) (fun hz_66 => ?_)
                · skip
                  refine jv_iload (pc' := 156) (k := 4) (x := (jb P)) rfl rfl hf4 ?_
                  refine jv_retZ rfl rfl (jb_01 _) ⟨_, _, rfl, ?_⟩
                  first
                  | (exfalso; omega)
                  | exact ⟨_, rfl, jq_e (hJ.2.symm.trans (tV_2 hcm)), hf, by rw [eT, ← hJ.1]; exact hq⟩
                · skip
                  exact absurd hz_66 (by decide)
          exact H49 _ (mo (c (a + 2))) (a + 2) 1 False (jm_u (jm_u I 103 19 (iI (((a : Nat) : Int) + 1))) 103 19 (iI (((a + 1 : Nat) : Int) + 1))) (Nat.lt_succ_self _) (fr_u (by simp) (fr_u (by simp) (fr_r _))) rfl (Or.inl ⟨rfl, by omega, PJ_0 hcm ht.2.2⟩) _ rfl rfl rfl rfl rfl rfl 
        · skip
          refine jv_iload_n (pc' := 74) (k := 3) (x := (iI (c (a + 2)))) rfl rfl rfl rfl ?_
          refine jv_bipush (pc' := 76) (n := 126) rfl rfl rfl ?_
          refine jv_ic_eq (t := 88) (pc' := 79) (a := (c (a + 2))) (b := 126) rfl rfl rfl (by omega) (fun hz_67 => ?_) (fun hz_67 => ?_)
          · skip
            refine jv_iconst (pc' := 89) (n := 0) rfl rfl ?_
            have hcm : cm (c (a + 2)) := by unfold cm; omega
            rw [show iI 0 = jb False from (jb_f id).symm]
            refine jv_istore (pc' := 91) (k := 4) (x := (jb False)) rfl rfl rfl (Or.inr rfl) ?_
            refine jv_iconst (pc' := 92) (n := 1) rfl rfl ?_
            refine jv_istore (pc' := 94) (k := 5) (x := (iI 1)) rfl rfl rfl (Or.inr rfl) ?_
            have H68 : ∀ (N : Nat) (m : Nat) (q : Nat) (mr : Int) (P : Prop) (I1 : Nat → Nat → Int32), (if mr = 1 then m + 1 else 0) < N → (fr (fun l k => l = 103 ∧ k = 19) I I1) → (I1 103 19 = iI ((q : Nat) : Int)) → ((mr = 1 ∧ q < n ∧ PJ c s a m q P) ∨ (mr = 0 ∧ PK c s a q P)) → ∀ f : jm_F, f 0 = some (.ref 103) → f 1 = some (.int (iI (c a - 48))) → f 2 = some (.int (iI (nmq c a))) → f 3 = some (.int (iI (c (a + 2)))) → f 4 = some (.int (jb P)) → f 5 = some (.int (iI mr)) → jx L xs ((d + 2)) 158 94 f [] (jx_G j I1 M p) (fun z => ∃ v g1, z = (.inl v, g1) ∧ (fun v g1 => ∃ I', g1 = jx_G j I' M p ∧ v = some (.int (jb (tV c s a))) ∧ fr (fun l k => l = 103 ∧ k = 19) I I' ∧ I' 103 19 = iI ((tA c a : Nat) : Int)) v g1) := by
              intro N
              induction N with
              | zero => intro m q mr P I1 hN; exact absurd hN (Nat.not_lt_zero _)
              | succ N ih =>
                intro m q mr P I1 hN hf hq hJ f hf0 hf1 hf2 hf3 hf4 hf5 
                refine jv_iload (pc' := 96) (k := 5) (x := (iI mr)) rfl rfl hf5 ?_
                have T1 : MT I1 c n := MT_fr hT hf (by simp) (by intro k; simp)
                rcases hJ with ⟨rfl, hqn, hJ⟩ | ⟨rfl, hJ⟩
                · skip
                  show jx L xs _ 158 96 _ [.int (iI 1)] _ _
                  refine jv_if_eq (t := 154) (pc' := 99) (a := 1) rfl rfl rfl (by omega) (fun hz_69 => ?_) (fun hz_69 => ?_)
                  · skip
                    exact absurd hz_69 (by decide)
                  · skip
                    refine jv_aload_n (pc' := 100) (k := 0) (x := 103) rfl rfl rfl hf0 ?_
                    refine jx_step (pc' := 101) rfl ?_
                    refine jv_getI (pc' := 104) (c := 12) (k := 19) (v := (iI ((q : Nat) : Int))) rfl rfl rfl (fun _ _ => rfl) rfl rfl hq ?_
                    refine jv_iconst (pc' := 105) (n := 1) rfl rfl ?_
                    refine jv_iadd (pc' := 106) (a := ((q : Nat) : Int)) (b := 1) rfl rfl ?_
                    refine jv_putI (pc' := 109) (c := 12) (k := 19) rfl rfl rfl rfl (fun _ _ _  => rfl) rfl rfl ?_
                    refine jv_aload_n (pc' := 110) (k := 0) (x := 103) rfl rfl rfl hf0 ?_
                    refine jv_iload_n (pc' := 111) (k := 1) (x := (iI (c a - 48))) rfl rfl rfl hf1 ?_
                    refine jv_iload_n (pc' := 112) (k := 2) (x := (iI (nmq c a))) rfl rfl rfl hf2 ?_
                    refine jv_iload_n (pc' := 113) (k := 3) (x := (iI (c (a + 2)))) rfl rfl rfl hf3 ?_
                    refine jv_aload_n (pc' := 114) (k := 0) (x := 103) rfl rfl rfl hf0 ?_
                    have hm70 := MT_c T1 (q + 1)
                    have ho70 := MT_or T1 (q + 1)
                    have nb71 := nv_b c (q + 1)
                    have nl71 := nd_le c (q + 1)
                    have nn71 := nd_in T1.2.2.2.2 (a := q + 1) (by omega)
                    refine jv_call (pc' := 117) rfl (ml_number_y (I := jm_u I1 103 19 (iI (((q : Nat) : Int) + 1))) (a := q + 1) T1 rfl (by omega) hJ.1) (fun vq72 gq72 q72 => ?_)
                    obtain ⟨rfl, rfl⟩ := q72
                    show jx L xs _ 158 117 _ [.int (iI (nv c (q + 1))), .int (iI (c (a + 2))), .int (iI (nmq c a)), .int (iI (c a - 48)), .ref 103] _ _
                    have M120 : DMe (jm_u (jm_u I1 103 19 (iI (((q : Nat) : Int) + 1))) 103 19 (iI ((q + 1 + nd c (q + 1) : Nat) : Int))) M s := DMe_fr (W := fun l k => l = 103 ∧ k = 19) (V := fun _ _ => False) (I := I) hM (fr_u (by simp) (fr_u (by simp) hf)) (fr_r _) ⟨by omega, by omega, by omega, fun l k h1 h2 => by omega⟩ (fun _ h => h)
                    refine jv_call (pc' := 120) rfl (ml_has_c (I := jm_u (jm_u I1 103 19 (iI (((q : Nat) : Int) + 1))) 103 19 (iI ((q + 1 + nd c (q + 1) : Nat) : Int))) (l := c a - 48) (nm := nmq c a) (op := c (a + 2)) (num := nv c (q + 1)) hcm M120 hE hc (by omega) (by omega) (by omega)) (fun vq73 gq73 q73 => ?_)
                    obtain ⟨rfl, rfl⟩ := q73
                    show jx L xs _ 158 120 _ [.int (jb (HP s (c a - 48) (nmq c a) (fun v => fitN (c (a + 2)) v (nv c (q + 1)))))] _ _
                    refine jv_jb_ne (t := 128) (pc' := 123) (P := HP s (c a - 48) (nmq c a) (fun v => fitN (c (a + 2)) v (nv c (q + 1)))) rfl rfl rfl (fun hz_74 => ?_) (fun hz_74 => ?_)
                    · skip
                      refine jv_iconst (pc' := 129) (n := 1) rfl rfl ?_
                      refine jx_step (pc' := 133) rfl ?_
                      rw [show iI 1 = jb (HP s (c a - 48) (nmq c a) (fun v => fitN (c (a + 2)) v (nv c (q + 1))) ∨ P) from (jb_t (by first | exact Or.inl (by assumption) | exact Or.inr (by assumption))).symm]
                      refine jv_istore (pc' := 135) (k := 4) (x := (jb (HP s (c a - 48) (nmq c a) (fun v => fitN (c (a + 2)) v (nv c (q + 1))) ∨ P))) rfl rfl rfl (Or.inr (congrArg jm_lng hf3)) ?_
                      refine jv_aload_n (pc' := 136) (k := 0) (x := 103) rfl rfl rfl hf0 ?_
                      have hm75 := MT_c T1 (q + 1 + nd c (q + 1))
                      have ho75 := MT_or T1 (q + 1 + nd c (q + 1))
                      refine jv_call (pc' := 139) rfl (ml_here (I := jm_u (jm_u I1 103 19 (iI (((q : Nat) : Int) + 1))) 103 19 (iI ((q + 1 + nd c (q + 1) : Nat) : Int))) (a := q + 1 + nd c (q + 1)) T1 rfl (by omega)) (fun vq76 gq76 q76 => ?_)
                      obtain ⟨rfl, rfl⟩ := q76
                      show jx L xs _ 158 139 _ [.int (iI (c (q + 1 + nd c (q + 1))))] _ _
                      refine jv_bipush (pc' := 141) (n := 44) rfl rfl rfl ?_
                      refine jv_ic_ne (t := 148) (pc' := 144) (a := (c (q + 1 + nd c (q + 1)))) (b := 44) rfl rfl rfl (by omega) (fun hz_77 => ?_) (fun hz_77 => ?_)
                      · skip
                        refine jv_iconst (pc' := 149) (n := 0) rfl rfl ?_
                        refine jv_istore (pc' := 151) (k := 5) (x := (iI 0)) rfl rfl rfl (Or.inr rfl) ?_
                        refine jx_step (pc' := 94) rfl ?_
                        exact ih 0 (q + 1 + nd c (q + 1)) 0 (HP s (c a - 48) (nmq c a) (fun v => fitN (c (a + 2)) v (nv c (q + 1))) ∨ P) (jm_u (jm_u I1 103 19 (iI (((q : Nat) : Int) + 1))) 103 19 (iI ((q + 1 + nd c (q + 1) : Nat) : Int))) (by simp at hN ⊢; try omega) (fr_u (by simp) (fr_u (by simp) hf)) rfl (Or.inr ⟨rfl, PJ_e hJ (by omega)⟩) _ hf0 hf1 hf2 hf3 rfl rfl 
                      · skip
                        obtain ⟨m2, rfl⟩ := PJ_m hJ (by omega) h44
                        refine jv_iconst (pc' := 145) (n := 1) rfl rfl ?_
                        refine jx_step (pc' := 149) rfl ?_
                        refine jv_istore (pc' := 151) (k := 5) (x := (iI 1)) rfl rfl rfl (Or.inr rfl) ?_
                        refine jx_step (pc' := 94) rfl ?_
                        exact ih m2 (q + 1 + nd c (q + 1)) 1 (HP s (c a - 48) (nmq c a) (fun v => fitN (c (a + 2)) v (nv c (q + 1))) ∨ P) (jm_u (jm_u I1 103 19 (iI (((q : Nat) : Int) + 1))) 103 19 (iI ((q + 1 + nd c (q + 1) : Nat) : Int))) (by simp at hN ⊢; try omega) (fr_u (by simp) (fr_u (by simp) hf)) rfl (Or.inl ⟨rfl, by omega, PJ_s hJ (by omega)⟩) _ hf0 hf1 hf2 hf3 rfl rfl 
                    · skip
                      refine jv_iload (pc' := 125) (k := 4) (x := (jb P)) rfl rfl hf4 ?_
                      refine jv_jb_eq (t := 132) (pc' := 128) (P := P) rfl rfl rfl (fun hz_78 => ?_) (fun hz_78 => ?_)
                      · skip
                        refine jv_iconst (pc' := 133) (n := 0) rfl rfl ?_
                        rw [show iI 0 = jb (HP s (c a - 48) (nmq c a) (fun v => fitN (c (a + 2)) v (nv c (q + 1))) ∨ P) from (jb_f (fun z => by rcases z with z | z <;> contradiction)).symm]
                        refine jv_istore (pc' := 135) (k := 4) (x := (jb (HP s (c a - 48) (nmq c a) (fun v => fitN (c (a + 2)) v (nv c (q + 1))) ∨ P))) rfl rfl rfl (Or.inr (congrArg jm_lng hf3)) ?_
                        refine jv_aload_n (pc' := 136) (k := 0) (x := 103) rfl rfl rfl hf0 ?_
                        have hm79 := MT_c T1 (q + 1 + nd c (q + 1))
                        have ho79 := MT_or T1 (q + 1 + nd c (q + 1))
                        refine jv_call (pc' := 139) rfl (ml_here (I := jm_u (jm_u I1 103 19 (iI (((q : Nat) : Int) + 1))) 103 19 (iI ((q + 1 + nd c (q + 1) : Nat) : Int))) (a := q + 1 + nd c (q + 1)) T1 rfl (by omega)) (fun vq80 gq80 q80 => ?_)
                        obtain ⟨rfl, rfl⟩ := q80
                        show jx L xs _ 158 139 _ [.int (iI (c (q + 1 + nd c (q + 1))))] _ _
                        refine jv_bipush (pc' := 141) (n := 44) rfl rfl rfl ?_
                        refine jv_ic_ne (t := 148) (pc' := 144) (a := (c (q + 1 + nd c (q + 1)))) (b := 44) rfl rfl rfl (by omega) (fun hz_81 => ?_) (fun hz_81 => ?_)
                        · skip
                          refine jv_iconst (pc' := 149) (n := 0) rfl rfl ?_
                          refine jv_istore (pc' := 151) (k := 5) (x := (iI 0)) rfl rfl rfl (Or.inr rfl) ?_
                          refine jx_step (pc' := 94) rfl ?_
                          exact ih 0 (q + 1 + nd c (q + 1)) 0 (HP s (c a - 48) (nmq c a) (fun v => fitN (c (a + 2)) v (nv c (q + 1))) ∨ P) (jm_u (jm_u I1 103 19 (iI (((q : Nat) : Int) + 1))) 103 19 (iI ((q + 1 + nd c (q + 1) : Nat) : Int))) (by simp at hN ⊢; try omega) (fr_u (by simp) (fr_u (by simp) hf)) rfl (Or.inr ⟨rfl, PJ_e hJ (by omega)⟩) _ hf0 hf1 hf2 hf3 rfl rfl 
                        · skip
                          obtain ⟨m2, rfl⟩ := PJ_m hJ (by omega) h44
                          refine jv_iconst (pc' := 145) (n := 1) rfl rfl ?_
                          refine jx_step (pc' := 149) rfl ?_
                          refine jv_istore (pc' := 151) (k := 5) (x := (iI 1)) rfl rfl rfl (Or.inr rfl) ?_
                          refine jx_step (pc' := 94) rfl ?_
                          exact ih m2 (q + 1 + nd c (q + 1)) 1 (HP s (c a - 48) (nmq c a) (fun v => fitN (c (a + 2)) v (nv c (q + 1))) ∨ P) (jm_u (jm_u I1 103 19 (iI (((q : Nat) : Int) + 1))) 103 19 (iI ((q + 1 + nd c (q + 1) : Nat) : Int))) (by simp at hN ⊢; try omega) (fr_u (by simp) (fr_u (by simp) hf)) rfl (Or.inl ⟨rfl, by omega, PJ_s hJ (by omega)⟩) _ hf0 hf1 hf2 hf3 rfl rfl 
                      · skip
                        refine jv_iconst (pc' := 129) (n := 1) rfl rfl ?_
                        refine jx_step (pc' := 133) rfl ?_
                        rw [show iI 1 = jb (HP s (c a - 48) (nmq c a) (fun v => fitN (c (a + 2)) v (nv c (q + 1))) ∨ P) from (jb_t (by first | exact Or.inl (by assumption) | exact Or.inr (by assumption))).symm]
                        refine jv_istore (pc' := 135) (k := 4) (x := (jb (HP s (c a - 48) (nmq c a) (fun v => fitN (c (a + 2)) v (nv c (q + 1))) ∨ P))) rfl rfl rfl (Or.inr (congrArg jm_lng hf3)) ?_
                        refine jv_aload_n (pc' := 136) (k := 0) (x := 103) rfl rfl rfl hf0 ?_
                        have hm82 := MT_c T1 (q + 1 + nd c (q + 1))
                        have ho82 := MT_or T1 (q + 1 + nd c (q + 1))
                        refine jv_call (pc' := 139) rfl (ml_here (I := jm_u (jm_u I1 103 19 (iI (((q : Nat) : Int) + 1))) 103 19 (iI ((q + 1 + nd c (q + 1) : Nat) : Int))) (a := q + 1 + nd c (q + 1)) T1 rfl (by omega)) (fun vq83 gq83 q83 => ?_)
                        obtain ⟨rfl, rfl⟩ := q83
                        show jx L xs _ 158 139 _ [.int (iI (c (q + 1 + nd c (q + 1))))] _ _
                        refine jv_bipush (pc' := 141) (n := 44) rfl rfl rfl ?_
                        refine jv_ic_ne (t := 148) (pc' := 144) (a := (c (q + 1 + nd c (q + 1)))) (b := 44) rfl rfl rfl (by omega) (fun hz_84 => ?_) (fun hz_84 => ?_)
                        · skip
                          refine jv_iconst (pc' := 149) (n := 0) rfl rfl ?_
                          refine jv_istore (pc' := 151) (k := 5) (x := (iI 0)) rfl rfl rfl (Or.inr rfl) ?_
                          refine jx_step (pc' := 94) rfl ?_
                          exact ih 0 (q + 1 + nd c (q + 1)) 0 (HP s (c a - 48) (nmq c a) (fun v => fitN (c (a + 2)) v (nv c (q + 1))) ∨ P) (jm_u (jm_u I1 103 19 (iI (((q : Nat) : Int) + 1))) 103 19 (iI ((q + 1 + nd c (q + 1) : Nat) : Int))) (by simp at hN ⊢; try omega) (fr_u (by simp) (fr_u (by simp) hf)) rfl (Or.inr ⟨rfl, PJ_e hJ (by omega)⟩) _ hf0 hf1 hf2 hf3 rfl rfl 
                        · skip
                          obtain ⟨m2, rfl⟩ := PJ_m hJ (by omega) h44
                          refine jv_iconst (pc' := 145) (n := 1) rfl rfl ?_
                          refine jx_step (pc' := 149) rfl ?_
                          refine jv_istore (pc' := 151) (k := 5) (x := (iI 1)) rfl rfl rfl (Or.inr rfl) ?_
                          refine jx_step (pc' := 94) rfl ?_
                          exact ih m2 (q + 1 + nd c (q + 1)) 1 (HP s (c a - 48) (nmq c a) (fun v => fitN (c (a + 2)) v (nv c (q + 1))) ∨ P) (jm_u (jm_u I1 103 19 (iI (((q : Nat) : Int) + 1))) 103 19 (iI ((q + 1 + nd c (q + 1) : Nat) : Int))) (by simp at hN ⊢; try omega) (fr_u (by simp) (fr_u (by simp) hf)) rfl (Or.inl ⟨rfl, by omega, PJ_s hJ (by omega)⟩) _ hf0 hf1 hf2 hf3 rfl rfl 
                · skip
                  show jx L xs _ 158 96 _ [.int (iI 0)] _ _
                  refine jv_if_eq (t := 154) (pc' := 99) (a := 0) rfl rfl rfl (by omega) (fun hz_85 => ?_) (fun hz_85 => ?_)
                  · skip
                    refine jv_iload (pc' := 156) (k := 4) (x := (jb P)) rfl rfl hf4 ?_
                    refine jv_retZ rfl rfl (jb_01 _) ⟨_, _, rfl, ?_⟩
                    first
                    | (exfalso; omega)
                    | exact ⟨_, rfl, jq_e (hJ.2.symm.trans (tV_2 hcm)), hf, by rw [eT, ← hJ.1]; exact hq⟩
                  · skip
                    exact absurd hz_85 (by decide)
            exact H68 _ (mo (c (a + 2))) (a + 2) 1 False (jm_u (jm_u I 103 19 (iI (((a : Nat) : Int) + 1))) 103 19 (iI (((a + 1 : Nat) : Int) + 1))) (Nat.lt_succ_self _) (fr_u (by simp) (fr_u (by simp) (fr_r _))) rfl (Or.inl ⟨rfl, by omega, PJ_0 hcm ht.2.2⟩) _ rfl rfl rfl rfl rfl rfl 
          · skip
            refine jv_aload_n (pc' := 80) (k := 0) (x := 103) rfl rfl rfl rfl ?_
            refine jv_iload_n (pc' := 81) (k := 1) (x := (iI ((c (a)) - 48))) rfl rfl rfl rfl ?_
            refine jv_iload_n (pc' := 82) (k := 2) (x := (iI (nmq c a))) rfl rfl rfl rfl ?_
            refine jv_iconst (pc' := 83) (n := -1) rfl rfl ?_
            refine jv_iconst (pc' := 84) (n := 0) rfl rfl ?_
            have M87 : DMe (jm_u (jm_u I 103 19 (iI (((a : Nat) : Int) + 1))) 103 19 (iI (((a + 1 : Nat) : Int) + 1))) M s := DMe_fr (W := fun l k => l = 103 ∧ k = 19) (V := fun _ _ => False) (I := I) hM (fr_u (by simp) (fr_u (by simp) (fr_r _))) (fr_r _) ⟨by omega, by omega, by omega, fun l k h1 h2 => by omega⟩ (fun _ h => h)
            refine jv_call (pc' := 87) rfl (ml_has_m (I := jm_u (jm_u I 103 19 (iI (((a : Nat) : Int) + 1))) 103 19 (iI (((a + 1 : Nat) : Int) + 1))) (l := c a - 48) (nm := nmq c a) (num := 0) M87 hE hc (by omega) (by omega) (by omega)) (fun vq86 gq86 q86 => ?_)
            obtain ⟨rfl, rfl⟩ := q86
            show jx L xs _ 158 87 _ [.int (jb (HP s (c a - 48) (nmq c a) (fun _ => True)))] _ _
            refine jv_retZ rfl rfl (jb_01 _) ⟨_, _, rfl, ?_⟩
            first
            | (exfalso; omega)
            | exact ⟨_, rfl, jq_e (tV_1 (by unfold cm; omega)), (fr_u (by simp) (fr_u (by simp) (fr_r _))), by rw [eT, (c_none (c := c) (a := a + 2) (by unfold cm; omega)).2.1]; exact rfl⟩
  · skip
    refine jv_bipush (pc' := 29) (n := 8) rfl rfl rfl ?_
    refine jx_step (pc' := 39) rfl ?_
    rw [show 8 = nmq c a by unfold nmq; first | (rw [if_pos (by omega)]) | (rw [if_neg (by omega)])]
    refine jv_istore_n (pc' := 40) (k := 2) (x := (iI (nmq c a))) rfl rfl rfl rfl (Or.inr rfl) ?_
    refine jv_aload_n (pc' := 41) (k := 0) (x := 103) rfl rfl rfl rfl ?_
    refine jx_step (pc' := 42) rfl ?_
    refine jv_getI (pc' := 45) (c := 12) (k := 19) (v := (iI ((a + 1 : Nat) : Int))) rfl rfl rfl (fun _ _ => rfl) rfl rfl rfl ?_
    refine jv_iconst (pc' := 46) (n := 1) rfl rfl ?_
    refine jv_iadd (pc' := 47) (a := ((a + 1 : Nat) : Int)) (b := 1) rfl rfl ?_
    refine jv_putI (pc' := 50) (c := 12) (k := 19) rfl rfl rfl rfl (fun _ _ _  => rfl) rfl rfl ?_
    refine jv_aload_n (pc' := 51) (k := 0) (x := 103) rfl rfl rfl rfl ?_
    have hm87 := MT_c hT (a + 2)
    have ho87 := MT_or hT (a + 2)
    refine jv_call (pc' := 54) rfl (ml_here (I := jm_u (jm_u I 103 19 (iI (((a : Nat) : Int) + 1))) 103 19 (iI (((a + 1 : Nat) : Int) + 1))) (a := a + 2) hT rfl (by omega)) (fun vq88 gq88 q88 => ?_)
    obtain ⟨rfl, rfl⟩ := q88
    show jx L xs _ 158 54 _ [.int (iI (c (a + 2)))] _ _
    refine jv_istore_n (pc' := 55) (k := 3) (x := (iI (c (a + 2)))) rfl rfl rfl rfl (Or.inr rfl) ?_
    refine jv_iload_n (pc' := 56) (k := 3) (x := (iI (c (a + 2)))) rfl rfl rfl rfl ?_
    refine jv_bipush (pc' := 58) (n := 61) rfl rfl rfl ?_
    refine jv_ic_eq (t := 88) (pc' := 61) (a := (c (a + 2))) (b := 61) rfl rfl rfl (by omega) (fun hz_89 => ?_) (fun hz_89 => ?_)
    · skip
      refine jv_iconst (pc' := 89) (n := 0) rfl rfl ?_
      have hcm : cm (c (a + 2)) := by unfold cm; omega
      rw [show iI 0 = jb False from (jb_f id).symm]
      refine jv_istore (pc' := 91) (k := 4) (x := (jb False)) rfl rfl rfl (Or.inr rfl) ?_
      refine jv_iconst (pc' := 92) (n := 1) rfl rfl ?_
      refine jv_istore (pc' := 94) (k := 5) (x := (iI 1)) rfl rfl rfl (Or.inr rfl) ?_
      have H90 : ∀ (N : Nat) (m : Nat) (q : Nat) (mr : Int) (P : Prop) (I1 : Nat → Nat → Int32), (if mr = 1 then m + 1 else 0) < N → (fr (fun l k => l = 103 ∧ k = 19) I I1) → (I1 103 19 = iI ((q : Nat) : Int)) → ((mr = 1 ∧ q < n ∧ PJ c s a m q P) ∨ (mr = 0 ∧ PK c s a q P)) → ∀ f : jm_F, f 0 = some (.ref 103) → f 1 = some (.int (iI (c a - 48))) → f 2 = some (.int (iI (nmq c a))) → f 3 = some (.int (iI (c (a + 2)))) → f 4 = some (.int (jb P)) → f 5 = some (.int (iI mr)) → jx L xs ((d + 2)) 158 94 f [] (jx_G j I1 M p) (fun z => ∃ v g1, z = (.inl v, g1) ∧ (fun v g1 => ∃ I', g1 = jx_G j I' M p ∧ v = some (.int (jb (tV c s a))) ∧ fr (fun l k => l = 103 ∧ k = 19) I I' ∧ I' 103 19 = iI ((tA c a : Nat) : Int)) v g1) := by
        intro N
        induction N with
        | zero => intro m q mr P I1 hN; exact absurd hN (Nat.not_lt_zero _)
        | succ N ih =>
          intro m q mr P I1 hN hf hq hJ f hf0 hf1 hf2 hf3 hf4 hf5 
          refine jv_iload (pc' := 96) (k := 5) (x := (iI mr)) rfl rfl hf5 ?_
          have T1 : MT I1 c n := MT_fr hT hf (by simp) (by intro k; simp)
          rcases hJ with ⟨rfl, hqn, hJ⟩ | ⟨rfl, hJ⟩
          · skip
            show jx L xs _ 158 96 _ [.int (iI 1)] _ _
            refine jv_if_eq (t := 154) (pc' := 99) (a := 1) rfl rfl rfl (by omega) (fun hz_91 => ?_) (fun hz_91 => ?_)
            · skip
              exact absurd hz_91 (by decide)
            · skip
              refine jv_aload_n (pc' := 100) (k := 0) (x := 103) rfl rfl rfl hf0 ?_
              refine jx_step (pc' := 101) rfl ?_
              refine jv_getI (pc' := 104) (c := 12) (k := 19) (v := (iI ((q : Nat) : Int))) rfl rfl rfl (fun _ _ => rfl) rfl rfl hq ?_
              refine jv_iconst (pc' := 105) (n := 1) rfl rfl ?_
              refine jv_iadd (pc' := 106) (a := ((q : Nat) : Int)) (b := 1) rfl rfl ?_
              refine jv_putI (pc' := 109) (c := 12) (k := 19) rfl rfl rfl rfl (fun _ _ _  => rfl) rfl rfl ?_
              refine jv_aload_n (pc' := 110) (k := 0) (x := 103) rfl rfl rfl hf0 ?_
              refine jv_iload_n (pc' := 111) (k := 1) (x := (iI (c a - 48))) rfl rfl rfl hf1 ?_
              refine jv_iload_n (pc' := 112) (k := 2) (x := (iI (nmq c a))) rfl rfl rfl hf2 ?_
              refine jv_iload_n (pc' := 113) (k := 3) (x := (iI (c (a + 2)))) rfl rfl rfl hf3 ?_
              refine jv_aload_n (pc' := 114) (k := 0) (x := 103) rfl rfl rfl hf0 ?_
              have hm92 := MT_c T1 (q + 1)
              have ho92 := MT_or T1 (q + 1)
              have nb93 := nv_b c (q + 1)
              have nl93 := nd_le c (q + 1)
              have nn93 := nd_in T1.2.2.2.2 (a := q + 1) (by omega)
              refine jv_call (pc' := 117) rfl (ml_number_y (I := jm_u I1 103 19 (iI (((q : Nat) : Int) + 1))) (a := q + 1) T1 rfl (by omega) hJ.1) (fun vq94 gq94 q94 => ?_)
              obtain ⟨rfl, rfl⟩ := q94
              show jx L xs _ 158 117 _ [.int (iI (nv c (q + 1))), .int (iI (c (a + 2))), .int (iI (nmq c a)), .int (iI (c a - 48)), .ref 103] _ _
              have M120 : DMe (jm_u (jm_u I1 103 19 (iI (((q : Nat) : Int) + 1))) 103 19 (iI ((q + 1 + nd c (q + 1) : Nat) : Int))) M s := DMe_fr (W := fun l k => l = 103 ∧ k = 19) (V := fun _ _ => False) (I := I) hM (fr_u (by simp) (fr_u (by simp) hf)) (fr_r _) ⟨by omega, by omega, by omega, fun l k h1 h2 => by omega⟩ (fun _ h => h)
              refine jv_call (pc' := 120) rfl (ml_has_c (I := jm_u (jm_u I1 103 19 (iI (((q : Nat) : Int) + 1))) 103 19 (iI ((q + 1 + nd c (q + 1) : Nat) : Int))) (l := c a - 48) (nm := nmq c a) (op := c (a + 2)) (num := nv c (q + 1)) hcm M120 hE hc (by omega) (by omega) (by omega)) (fun vq95 gq95 q95 => ?_)
              obtain ⟨rfl, rfl⟩ := q95
              show jx L xs _ 158 120 _ [.int (jb (HP s (c a - 48) (nmq c a) (fun v => fitN (c (a + 2)) v (nv c (q + 1)))))] _ _
              refine jv_jb_ne (t := 128) (pc' := 123) (P := HP s (c a - 48) (nmq c a) (fun v => fitN (c (a + 2)) v (nv c (q + 1)))) rfl rfl rfl (fun hz_96 => ?_) (fun hz_96 => ?_)
              · skip
                refine jv_iconst (pc' := 129) (n := 1) rfl rfl ?_
                refine jx_step (pc' := 133) rfl ?_
                rw [show iI 1 = jb (HP s (c a - 48) (nmq c a) (fun v => fitN (c (a + 2)) v (nv c (q + 1))) ∨ P) from (jb_t (by first | exact Or.inl (by assumption) | exact Or.inr (by assumption))).symm]
                refine jv_istore (pc' := 135) (k := 4) (x := (jb (HP s (c a - 48) (nmq c a) (fun v => fitN (c (a + 2)) v (nv c (q + 1))) ∨ P))) rfl rfl rfl (Or.inr (congrArg jm_lng hf3)) ?_
                refine jv_aload_n (pc' := 136) (k := 0) (x := 103) rfl rfl rfl hf0 ?_
                have hm97 := MT_c T1 (q + 1 + nd c (q + 1))
                have ho97 := MT_or T1 (q + 1 + nd c (q + 1))
                refine jv_call (pc' := 139) rfl (ml_here (I := jm_u (jm_u I1 103 19 (iI (((q : Nat) : Int) + 1))) 103 19 (iI ((q + 1 + nd c (q + 1) : Nat) : Int))) (a := q + 1 + nd c (q + 1)) T1 rfl (by omega)) (fun vq98 gq98 q98 => ?_)
                obtain ⟨rfl, rfl⟩ := q98
                show jx L xs _ 158 139 _ [.int (iI (c (q + 1 + nd c (q + 1))))] _ _
                refine jv_bipush (pc' := 141) (n := 44) rfl rfl rfl ?_
                refine jv_ic_ne (t := 148) (pc' := 144) (a := (c (q + 1 + nd c (q + 1)))) (b := 44) rfl rfl rfl (by omega) (fun hz_99 => ?_) (fun hz_99 => ?_)
                · skip
                  refine jv_iconst (pc' := 149) (n := 0) rfl rfl ?_
                  refine jv_istore (pc' := 151) (k := 5) (x := (iI 0)) rfl rfl rfl (Or.inr rfl) ?_
                  refine jx_step (pc' := 94) rfl ?_
                  exact ih 0 (q + 1 + nd c (q + 1)) 0 (HP s (c a - 48) (nmq c a) (fun v => fitN (c (a + 2)) v (nv c (q + 1))) ∨ P) (jm_u (jm_u I1 103 19 (iI (((q : Nat) : Int) + 1))) 103 19 (iI ((q + 1 + nd c (q + 1) : Nat) : Int))) (by simp at hN ⊢; try omega) (fr_u (by simp) (fr_u (by simp) hf)) rfl (Or.inr ⟨rfl, PJ_e hJ (by omega)⟩) _ hf0 hf1 hf2 hf3 rfl rfl 
                · skip
                  obtain ⟨m2, rfl⟩ := PJ_m hJ (by omega) h44
                  refine jv_iconst (pc' := 145) (n := 1) rfl rfl ?_
                  refine jx_step (pc' := 149) rfl ?_
                  refine jv_istore (pc' := 151) (k := 5) (x := (iI 1)) rfl rfl rfl (Or.inr rfl) ?_
                  refine jx_step (pc' := 94) rfl ?_
                  exact ih m2 (q + 1 + nd c (q + 1)) 1 (HP s (c a - 48) (nmq c a) (fun v => fitN (c (a + 2)) v (nv c (q + 1))) ∨ P) (jm_u (jm_u I1 103 19 (iI (((q : Nat) : Int) + 1))) 103 19 (iI ((q + 1 + nd c (q + 1) : Nat) : Int))) (by simp at hN ⊢; try omega) (fr_u (by simp) (fr_u (by simp) hf)) rfl (Or.inl ⟨rfl, by omega, PJ_s hJ (by omega)⟩) _ hf0 hf1 hf2 hf3 rfl rfl 
              · skip
                refine jv_iload (pc' := 125) (k := 4) (x := (jb P)) rfl rfl hf4 ?_
                refine jv_jb_eq (t := 132) (pc' := 128) (P := P) rfl rfl rfl (fun hz_100 => ?_) (fun hz_100 => ?_)
                · skip
                  refine jv_iconst (pc' := 133) (n := 0) rfl rfl ?_
                  rw [show iI 0 = jb (HP s (c a - 48) (nmq c a) (fun v => fitN (c (a + 2)) v (nv c (q + 1))) ∨ P) from (jb_f (fun z => by rcases z with z | z <;> contradiction)).symm]
                  refine jv_istore (pc' := 135) (k := 4) (x := (jb (HP s (c a - 48) (nmq c a) (fun v => fitN (c (a + 2)) v (nv c (q + 1))) ∨ P))) rfl rfl rfl (Or.inr (congrArg jm_lng hf3)) ?_
                  refine jv_aload_n (pc' := 136) (k := 0) (x := 103) rfl rfl rfl hf0 ?_
                  have hm101 := MT_c T1 (q + 1 + nd c (q + 1))
                  have ho101 := MT_or T1 (q + 1 + nd c (q + 1))
                  refine jv_call (pc' := 139) rfl (ml_here (I := jm_u (jm_u I1 103 19 (iI (((q : Nat) : Int) + 1))) 103 19 (iI ((q + 1 + nd c (q + 1) : Nat) : Int))) (a := q + 1 + nd c (q + 1)) T1 rfl (by omega)) (fun vq102 gq102 q102 => ?_)
                  obtain ⟨rfl, rfl⟩ := q102
                  show jx L xs _ 158 139 _ [.int (iI (c (q + 1 + nd c (q + 1))))] _ _
                  refine jv_bipush (pc' := 141) (n := 44) rfl rfl rfl ?_
                  refine jv_ic_ne (t := 148) (pc' := 144) (a := (c (q + 1 + nd c (q + 1)))) (b := 44) rfl rfl rfl (by omega) (fun hz_103 => ?_) (fun hz_103 => ?_)
                  · skip
                    refine jv_iconst (pc' := 149) (n := 0) rfl rfl ?_
                    refine jv_istore (pc' := 151) (k := 5) (x := (iI 0)) rfl rfl rfl (Or.inr rfl) ?_
                    refine jx_step (pc' := 94) rfl ?_
                    exact ih 0 (q + 1 + nd c (q + 1)) 0 (HP s (c a - 48) (nmq c a) (fun v => fitN (c (a + 2)) v (nv c (q + 1))) ∨ P) (jm_u (jm_u I1 103 19 (iI (((q : Nat) : Int) + 1))) 103 19 (iI ((q + 1 + nd c (q + 1) : Nat) : Int))) (by simp at hN ⊢; try omega) (fr_u (by simp) (fr_u (by simp) hf)) rfl (Or.inr ⟨rfl, PJ_e hJ (by omega)⟩) _ hf0 hf1 hf2 hf3 rfl rfl 
                  · skip
                    obtain ⟨m2, rfl⟩ := PJ_m hJ (by omega) h44
                    refine jv_iconst (pc' := 145) (n := 1) rfl rfl ?_
                    refine jx_step (pc' := 149) rfl ?_
                    refine jv_istore (pc' := 151) (k := 5) (x := (iI 1)) rfl rfl rfl (Or.inr rfl) ?_
                    refine jx_step (pc' := 94) rfl ?_
                    exact ih m2 (q + 1 + nd c (q + 1)) 1 (HP s (c a - 48) (nmq c a) (fun v => fitN (c (a + 2)) v (nv c (q + 1))) ∨ P) (jm_u (jm_u I1 103 19 (iI (((q : Nat) : Int) + 1))) 103 19 (iI ((q + 1 + nd c (q + 1) : Nat) : Int))) (by simp at hN ⊢; try omega) (fr_u (by simp) (fr_u (by simp) hf)) rfl (Or.inl ⟨rfl, by omega, PJ_s hJ (by omega)⟩) _ hf0 hf1 hf2 hf3 rfl rfl 
                · skip
                  refine jv_iconst (pc' := 129) (n := 1) rfl rfl ?_
                  refine jx_step (pc' := 133) rfl ?_
                  rw [show iI 1 = jb (HP s (c a - 48) (nmq c a) (fun v => fitN (c (a + 2)) v (nv c (q + 1))) ∨ P) from (jb_t (by first | exact Or.inl (by assumption) | exact Or.inr (by assumption))).symm]
                  refine jv_istore (pc' := 135) (k := 4) (x := (jb (HP s (c a - 48) (nmq c a) (fun v => fitN (c (a + 2)) v (nv c (q + 1))) ∨ P))) rfl rfl rfl (Or.inr (congrArg jm_lng hf3)) ?_
                  refine jv_aload_n (pc' := 136) (k := 0) (x := 103) rfl rfl rfl hf0 ?_
                  have hm104 := MT_c T1 (q + 1 + nd c (q + 1))
                  have ho104 := MT_or T1 (q + 1 + nd c (q + 1))
                  refine jv_call (pc' := 139) rfl (ml_here (I := jm_u (jm_u I1 103 19 (iI (((q : Nat) : Int) + 1))) 103 19 (iI ((q + 1 + nd c (q + 1) : Nat) : Int))) (a := q + 1 + nd c (q + 1)) T1 rfl (by omega)) (fun vq105 gq105 q105 => ?_)
                  obtain ⟨rfl, rfl⟩ := q105
                  show jx L xs _ 158 139 _ [.int (iI (c (q + 1 + nd c (q + 1))))] _ _
                  refine jv_bipush (pc' := 141) (n := 44) rfl rfl rfl ?_
                  refine jv_ic_ne (t := 148) (pc' := 144) (a := (c (q + 1 + nd c (q + 1)))) (b := 44) rfl rfl rfl (by omega) (fun hz_106 => ?_) (fun hz_106 => ?_)
                  · skip
                    refine jv_iconst (pc' := 149) (n := 0) rfl rfl ?_
                    refine jv_istore (pc' := 151) (k := 5) (x := (iI 0)) rfl rfl rfl (Or.inr rfl) ?_
                    refine jx_step (pc' := 94) rfl ?_
                    exact ih 0 (q + 1 + nd c (q + 1)) 0 (HP s (c a - 48) (nmq c a) (fun v => fitN (c (a + 2)) v (nv c (q + 1))) ∨ P) (jm_u (jm_u I1 103 19 (iI (((q : Nat) : Int) + 1))) 103 19 (iI ((q + 1 + nd c (q + 1) : Nat) : Int))) (by simp at hN ⊢; try omega) (fr_u (by simp) (fr_u (by simp) hf)) rfl (Or.inr ⟨rfl, PJ_e hJ (by omega)⟩) _ hf0 hf1 hf2 hf3 rfl rfl 
                  · skip
                    obtain ⟨m2, rfl⟩ := PJ_m hJ (by omega) h44
                    refine jv_iconst (pc' := 145) (n := 1) rfl rfl ?_
                    refine jx_step (pc' := 149) rfl ?_
                    refine jv_istore (pc' := 151) (k := 5) (x := (iI 1)) rfl rfl rfl (Or.inr rfl) ?_
                    refine jx_step (pc' := 94) rfl ?_
                    exact ih m2 (q + 1 + nd c (q + 1)) 1 (HP s (c a - 48) (nmq c a) (fun v => fitN (c (a + 2)) v (nv c (q + 1))) ∨ P) (jm_u (jm_u I1 103 19 (iI (((q : Nat) : Int) + 1))) 103 19 (iI ((q + 1 + nd c (q + 1) : Nat) : Int))) (by simp at hN ⊢; try omega) (fr_u (by simp) (fr_u (by simp) hf)) rfl (Or.inl ⟨rfl, by omega, PJ_s hJ (by omega)⟩) _ hf0 hf1 hf2 hf3 rfl rfl 
          · skip
            show jx L xs _ 158 96 _ [.int (iI 0)] _ _
            refine jv_if_eq (t := 154) (pc' := 99) (a := 0) rfl rfl rfl (by omega) (fun hz_107 => ?_) (fun hz_107 => ?_)
            · skip
              refine jv_iload (pc' := 156) (k := 4) (x := (jb P)) rfl rfl hf4 ?_
              refine jv_retZ rfl rfl (jb_01 _) ⟨_, _, rfl, ?_⟩
              first
              | (exfalso; omega)
              | exact ⟨_, rfl, jq_e (hJ.2.symm.trans (tV_2 hcm)), hf, by rw [eT, ← hJ.1]; exact hq⟩
            · skip
              exact absurd hz_107 (by decide)
      exact H90 _ (mo (c (a + 2))) (a + 2) 1 False (jm_u (jm_u I 103 19 (iI (((a : Nat) : Int) + 1))) 103 19 (iI (((a + 1 : Nat) : Int) + 1))) (Nat.lt_succ_self _) (fr_u (by simp) (fr_u (by simp) (fr_r _))) rfl (Or.inl ⟨rfl, by omega, PJ_0 hcm ht.2.2⟩) _ rfl rfl rfl rfl rfl rfl 
    · skip
      refine jv_iload_n (pc' := 62) (k := 3) (x := (iI (c (a + 2)))) rfl rfl rfl rfl ?_
      refine jv_bipush (pc' := 64) (n := 60) rfl rfl rfl ?_
      refine jv_ic_eq (t := 88) (pc' := 67) (a := (c (a + 2))) (b := 60) rfl rfl rfl (by omega) (fun hz_108 => ?_) (fun hz_108 => ?_)
      · skip
        refine jv_iconst (pc' := 89) (n := 0) rfl rfl ?_
        have hcm : cm (c (a + 2)) := by unfold cm; omega
        rw [show iI 0 = jb False from (jb_f id).symm]
        refine jv_istore (pc' := 91) (k := 4) (x := (jb False)) rfl rfl rfl (Or.inr rfl) ?_
        refine jv_iconst (pc' := 92) (n := 1) rfl rfl ?_
        refine jv_istore (pc' := 94) (k := 5) (x := (iI 1)) rfl rfl rfl (Or.inr rfl) ?_
        have H109 : ∀ (N : Nat) (m : Nat) (q : Nat) (mr : Int) (P : Prop) (I1 : Nat → Nat → Int32), (if mr = 1 then m + 1 else 0) < N → (fr (fun l k => l = 103 ∧ k = 19) I I1) → (I1 103 19 = iI ((q : Nat) : Int)) → ((mr = 1 ∧ q < n ∧ PJ c s a m q P) ∨ (mr = 0 ∧ PK c s a q P)) → ∀ f : jm_F, f 0 = some (.ref 103) → f 1 = some (.int (iI (c a - 48))) → f 2 = some (.int (iI (nmq c a))) → f 3 = some (.int (iI (c (a + 2)))) → f 4 = some (.int (jb P)) → f 5 = some (.int (iI mr)) → jx L xs ((d + 2)) 158 94 f [] (jx_G j I1 M p) (fun z => ∃ v g1, z = (.inl v, g1) ∧ (fun v g1 => ∃ I', g1 = jx_G j I' M p ∧ v = some (.int (jb (tV c s a))) ∧ fr (fun l k => l = 103 ∧ k = 19) I I' ∧ I' 103 19 = iI ((tA c a : Nat) : Int)) v g1) := by
          intro N
          induction N with
          | zero => intro m q mr P I1 hN; exact absurd hN (Nat.not_lt_zero _)
          | succ N ih =>
            intro m q mr P I1 hN hf hq hJ f hf0 hf1 hf2 hf3 hf4 hf5 
            refine jv_iload (pc' := 96) (k := 5) (x := (iI mr)) rfl rfl hf5 ?_
            have T1 : MT I1 c n := MT_fr hT hf (by simp) (by intro k; simp)
            rcases hJ with ⟨rfl, hqn, hJ⟩ | ⟨rfl, hJ⟩
            · skip
              show jx L xs _ 158 96 _ [.int (iI 1)] _ _
              refine jv_if_eq (t := 154) (pc' := 99) (a := 1) rfl rfl rfl (by omega) (fun hz_110 => ?_) (fun hz_110 => ?_)
              · skip
                exact absurd hz_110 (by decide)
              · skip
                refine jv_aload_n (pc' := 100) (k := 0) (x := 103) rfl rfl rfl hf0 ?_
                refine jx_step (pc' := 101) rfl ?_
                refine jv_getI (pc' := 104) (c := 12) (k := 19) (v := (iI ((q : Nat) : Int))) rfl rfl rfl (fun _ _ => rfl) rfl rfl hq ?_
                refine jv_iconst (pc' := 105) (n := 1) rfl rfl ?_
                refine jv_iadd (pc' := 106) (a := ((q : Nat) : Int)) (b := 1) rfl rfl ?_
                refine jv_putI (pc' := 109) (c := 12) (k := 19) rfl rfl rfl rfl (fun _ _ _  => rfl) rfl rfl ?_
                refine jv_aload_n (pc' := 110) (k := 0) (x := 103) rfl rfl rfl hf0 ?_
                refine jv_iload_n (pc' := 111) (k := 1) (x := (iI (c a - 48))) rfl rfl rfl hf1 ?_
                refine jv_iload_n (pc' := 112) (k := 2) (x := (iI (nmq c a))) rfl rfl rfl hf2 ?_
                refine jv_iload_n (pc' := 113) (k := 3) (x := (iI (c (a + 2)))) rfl rfl rfl hf3 ?_
                refine jv_aload_n (pc' := 114) (k := 0) (x := 103) rfl rfl rfl hf0 ?_
                have hm111 := MT_c T1 (q + 1)
                have ho111 := MT_or T1 (q + 1)
                have nb112 := nv_b c (q + 1)
                have nl112 := nd_le c (q + 1)
                have nn112 := nd_in T1.2.2.2.2 (a := q + 1) (by omega)
                refine jv_call (pc' := 117) rfl (ml_number_y (I := jm_u I1 103 19 (iI (((q : Nat) : Int) + 1))) (a := q + 1) T1 rfl (by omega) hJ.1) (fun vq113 gq113 q113 => ?_)
                obtain ⟨rfl, rfl⟩ := q113
                show jx L xs _ 158 117 _ [.int (iI (nv c (q + 1))), .int (iI (c (a + 2))), .int (iI (nmq c a)), .int (iI (c a - 48)), .ref 103] _ _
                have M120 : DMe (jm_u (jm_u I1 103 19 (iI (((q : Nat) : Int) + 1))) 103 19 (iI ((q + 1 + nd c (q + 1) : Nat) : Int))) M s := DMe_fr (W := fun l k => l = 103 ∧ k = 19) (V := fun _ _ => False) (I := I) hM (fr_u (by simp) (fr_u (by simp) hf)) (fr_r _) ⟨by omega, by omega, by omega, fun l k h1 h2 => by omega⟩ (fun _ h => h)
                refine jv_call (pc' := 120) rfl (ml_has_c (I := jm_u (jm_u I1 103 19 (iI (((q : Nat) : Int) + 1))) 103 19 (iI ((q + 1 + nd c (q + 1) : Nat) : Int))) (l := c a - 48) (nm := nmq c a) (op := c (a + 2)) (num := nv c (q + 1)) hcm M120 hE hc (by omega) (by omega) (by omega)) (fun vq114 gq114 q114 => ?_)
                obtain ⟨rfl, rfl⟩ := q114
                show jx L xs _ 158 120 _ [.int (jb (HP s (c a - 48) (nmq c a) (fun v => fitN (c (a + 2)) v (nv c (q + 1)))))] _ _
                refine jv_jb_ne (t := 128) (pc' := 123) (P := HP s (c a - 48) (nmq c a) (fun v => fitN (c (a + 2)) v (nv c (q + 1)))) rfl rfl rfl (fun hz_115 => ?_) (fun hz_115 => ?_)
                · skip
                  refine jv_iconst (pc' := 129) (n := 1) rfl rfl ?_
                  refine jx_step (pc' := 133) rfl ?_
                  rw [show iI 1 = jb (HP s (c a - 48) (nmq c a) (fun v => fitN (c (a + 2)) v (nv c (q + 1))) ∨ P) from (jb_t (by first | exact Or.inl (by assumption) | exact Or.inr (by assumption))).symm]
                  refine jv_istore (pc' := 135) (k := 4) (x := (jb (HP s (c a - 48) (nmq c a) (fun v => fitN (c (a + 2)) v (nv c (q + 1))) ∨ P))) rfl rfl rfl (Or.inr (congrArg jm_lng hf3)) ?_
                  refine jv_aload_n (pc' := 136) (k := 0) (x := 103) rfl rfl rfl hf0 ?_
                  have hm116 := MT_c T1 (q + 1 + nd c (q + 1))
                  have ho116 := MT_or T1 (q + 1 + nd c (q + 1))
                  refine jv_call (pc' := 139) rfl (ml_here (I := jm_u (jm_u I1 103 19 (iI (((q : Nat) : Int) + 1))) 103 19 (iI ((q + 1 + nd c (q + 1) : Nat) : Int))) (a := q + 1 + nd c (q + 1)) T1 rfl (by omega)) (fun vq117 gq117 q117 => ?_)
                  obtain ⟨rfl, rfl⟩ := q117
                  show jx L xs _ 158 139 _ [.int (iI (c (q + 1 + nd c (q + 1))))] _ _
                  refine jv_bipush (pc' := 141) (n := 44) rfl rfl rfl ?_
                  refine jv_ic_ne (t := 148) (pc' := 144) (a := (c (q + 1 + nd c (q + 1)))) (b := 44) rfl rfl rfl (by omega) (fun hz_118 => ?_) (fun hz_118 => ?_)
                  · skip
                    refine jv_iconst (pc' := 149) (n := 0) rfl rfl ?_
                    refine jv_istore (pc' := 151) (k := 5) (x := (iI 0)) rfl rfl rfl (Or.inr rfl) ?_
                    refine jx_step (pc' := 94) rfl ?_
                    exact ih 0 (q + 1 + nd c (q + 1)) 0 (HP s (c a - 48) (nmq c a) (fun v => fitN (c (a + 2)) v (nv c (q + 1))) ∨ P) (jm_u (jm_u I1 103 19 (iI (((q : Nat) : Int) + 1))) 103 19 (iI ((q + 1 + nd c (q + 1) : Nat) : Int))) (by simp at hN ⊢; try omega) (fr_u (by simp) (fr_u (by simp) hf)) rfl (Or.inr ⟨rfl, PJ_e hJ (by omega)⟩) _ hf0 hf1 hf2 hf3 rfl rfl 
                  · skip
                    obtain ⟨m2, rfl⟩ := PJ_m hJ (by omega) h44
                    refine jv_iconst (pc' := 145) (n := 1) rfl rfl ?_
                    refine jx_step (pc' := 149) rfl ?_
                    refine jv_istore (pc' := 151) (k := 5) (x := (iI 1)) rfl rfl rfl (Or.inr rfl) ?_
                    refine jx_step (pc' := 94) rfl ?_
                    exact ih m2 (q + 1 + nd c (q + 1)) 1 (HP s (c a - 48) (nmq c a) (fun v => fitN (c (a + 2)) v (nv c (q + 1))) ∨ P) (jm_u (jm_u I1 103 19 (iI (((q : Nat) : Int) + 1))) 103 19 (iI ((q + 1 + nd c (q + 1) : Nat) : Int))) (by simp at hN ⊢; try omega) (fr_u (by simp) (fr_u (by simp) hf)) rfl (Or.inl ⟨rfl, by omega, PJ_s hJ (by omega)⟩) _ hf0 hf1 hf2 hf3 rfl rfl 
                · skip
                  refine jv_iload (pc' := 125) (k := 4) (x := (jb P)) rfl rfl hf4 ?_
                  refine jv_jb_eq (t := 132) (pc' := 128) (P := P) rfl rfl rfl (fun hz_119 => ?_) (fun hz_119 => ?_)
                  · skip
                    refine jv_iconst (pc' := 133) (n := 0) rfl rfl ?_
                    rw [show iI 0 = jb (HP s (c a - 48) (nmq c a) (fun v => fitN (c (a + 2)) v (nv c (q + 1))) ∨ P) from (jb_f (fun z => by rcases z with z | z <;> contradiction)).symm]
                    refine jv_istore (pc' := 135) (k := 4) (x := (jb (HP s (c a - 48) (nmq c a) (fun v => fitN (c (a + 2)) v (nv c (q + 1))) ∨ P))) rfl rfl rfl (Or.inr (congrArg jm_lng hf3)) ?_
                    refine jv_aload_n (pc' := 136) (k := 0) (x := 103) rfl rfl rfl hf0 ?_
                    have hm120 := MT_c T1 (q + 1 + nd c (q + 1))
                    have ho120 := MT_or T1 (q + 1 + nd c (q + 1))
                    refine jv_call (pc' := 139) rfl (ml_here (I := jm_u (jm_u I1 103 19 (iI (((q : Nat) : Int) + 1))) 103 19 (iI ((q + 1 + nd c (q + 1) : Nat) : Int))) (a := q + 1 + nd c (q + 1)) T1 rfl (by omega)) (fun vq121 gq121 q121 => ?_)
                    obtain ⟨rfl, rfl⟩ := q121
                    show jx L xs _ 158 139 _ [.int (iI (c (q + 1 + nd c (q + 1))))] _ _
                    refine jv_bipush (pc' := 141) (n := 44) rfl rfl rfl ?_
                    refine jv_ic_ne (t := 148) (pc' := 144) (a := (c (q + 1 + nd c (q + 1)))) (b := 44) rfl rfl rfl (by omega) (fun hz_122 => ?_) (fun hz_122 => ?_)
                    · skip
                      refine jv_iconst (pc' := 149) (n := 0) rfl rfl ?_
                      refine jv_istore (pc' := 151) (k := 5) (x := (iI 0)) rfl rfl rfl (Or.inr rfl) ?_
                      refine jx_step (pc' := 94) rfl ?_
                      exact ih 0 (q + 1 + nd c (q + 1)) 0 (HP s (c a - 48) (nmq c a) (fun v => fitN (c (a + 2)) v (nv c (q + 1))) ∨ P) (jm_u (jm_u I1 103 19 (iI (((q : Nat) : Int) + 1))) 103 19 (iI ((q + 1 + nd c (q + 1) : Nat) : Int))) (by simp at hN ⊢; try omega) (fr_u (by simp) (fr_u (by simp) hf)) rfl (Or.inr ⟨rfl, PJ_e hJ (by omega)⟩) _ hf0 hf1 hf2 hf3 rfl rfl 
                    · skip
                      obtain ⟨m2, rfl⟩ := PJ_m hJ (by omega) h44
                      refine jv_iconst (pc' := 145) (n := 1) rfl rfl ?_
                      refine jx_step (pc' := 149) rfl ?_
                      refine jv_istore (pc' := 151) (k := 5) (x := (iI 1)) rfl rfl rfl (Or.inr rfl) ?_
                      refine jx_step (pc' := 94) rfl ?_
                      exact ih m2 (q + 1 + nd c (q + 1)) 1 (HP s (c a - 48) (nmq c a) (fun v => fitN (c (a + 2)) v (nv c (q + 1))) ∨ P) (jm_u (jm_u I1 103 19 (iI (((q : Nat) : Int) + 1))) 103 19 (iI ((q + 1 + nd c (q + 1) : Nat) : Int))) (by simp at hN ⊢; try omega) (fr_u (by simp) (fr_u (by simp) hf)) rfl (Or.inl ⟨rfl, by omega, PJ_s hJ (by omega)⟩) _ hf0 hf1 hf2 hf3 rfl rfl 
                  · skip
                    refine jv_iconst (pc' := 129) (n := 1) rfl rfl ?_
                    refine jx_step (pc' := 133) rfl ?_
                    rw [show iI 1 = jb (HP s (c a - 48) (nmq c a) (fun v => fitN (c (a + 2)) v (nv c (q + 1))) ∨ P) from (jb_t (by first | exact Or.inl (by assumption) | exact Or.inr (by assumption))).symm]
                    refine jv_istore (pc' := 135) (k := 4) (x := (jb (HP s (c a - 48) (nmq c a) (fun v => fitN (c (a + 2)) v (nv c (q + 1))) ∨ P))) rfl rfl rfl (Or.inr (congrArg jm_lng hf3)) ?_
                    refine jv_aload_n (pc' := 136) (k := 0) (x := 103) rfl rfl rfl hf0 ?_
                    have hm123 := MT_c T1 (q + 1 + nd c (q + 1))
                    have ho123 := MT_or T1 (q + 1 + nd c (q + 1))
                    refine jv_call (pc' := 139) rfl (ml_here (I := jm_u (jm_u I1 103 19 (iI (((q : Nat) : Int) + 1))) 103 19 (iI ((q + 1 + nd c (q + 1) : Nat) : Int))) (a := q + 1 + nd c (q + 1)) T1 rfl (by omega)) (fun vq124 gq124 q124 => ?_)
                    obtain ⟨rfl, rfl⟩ := q124
                    show jx L xs _ 158 139 _ [.int (iI (c (q + 1 + nd c (q + 1))))] _ _
                    refine jv_bipush (pc' := 141) (n := 44) rfl rfl rfl ?_
                    refine jv_ic_ne (t := 148) (pc' := 144) (a := (c (q + 1 + nd c (q + 1)))) (b := 44) rfl rfl rfl (by omega) (fun hz_125 => ?_) (fun hz_125 => ?_)
                    · skip
                      refine jv_iconst (pc' := 149) (n := 0) rfl rfl ?_
                      refine jv_istore (pc' := 151) (k := 5) (x := (iI 0)) rfl rfl rfl (Or.inr rfl) ?_
                      refine jx_step (pc' := 94) rfl ?_
                      exact ih 0 (q + 1 + nd c (q + 1)) 0 (HP s (c a - 48) (nmq c a) (fun v => fitN (c (a + 2)) v (nv c (q + 1))) ∨ P) (jm_u (jm_u I1 103 19 (iI (((q : Nat) : Int) + 1))) 103 19 (iI ((q + 1 + nd c (q + 1) : Nat) : Int))) (by simp at hN ⊢; try omega) (fr_u (by simp) (fr_u (by simp) hf)) rfl (Or.inr ⟨rfl, PJ_e hJ (by omega)⟩) _ hf0 hf1 hf2 hf3 rfl rfl 
                    · skip
                      obtain ⟨m2, rfl⟩ := PJ_m hJ (by omega) h44
                      refine jv_iconst (pc' := 145) (n := 1) rfl rfl ?_
                      refine jx_step (pc' := 149) rfl ?_
                      refine jv_istore (pc' := 151) (k := 5) (x := (iI 1)) rfl rfl rfl (Or.inr rfl) ?_
                      refine jx_step (pc' := 94) rfl ?_
                      exact ih m2 (q + 1 + nd c (q + 1)) 1 (HP s (c a - 48) (nmq c a) (fun v => fitN (c (a + 2)) v (nv c (q + 1))) ∨ P) (jm_u (jm_u I1 103 19 (iI (((q : Nat) : Int) + 1))) 103 19 (iI ((q + 1 + nd c (q + 1) : Nat) : Int))) (by simp at hN ⊢; try omega) (fr_u (by simp) (fr_u (by simp) hf)) rfl (Or.inl ⟨rfl, by omega, PJ_s hJ (by omega)⟩) _ hf0 hf1 hf2 hf3 rfl rfl 
            · skip
              show jx L xs _ 158 96 _ [.int (iI 0)] _ _
              refine jv_if_eq (t := 154) (pc' := 99) (a := 0) rfl rfl rfl (by omega) (fun hz_126 => ?_) (fun hz_126 => ?_)
              · skip
                refine jv_iload (pc' := 156) (k := 4) (x := (jb P)) rfl rfl hf4 ?_
                refine jv_retZ rfl rfl (jb_01 _) ⟨_, _, rfl, ?_⟩
                first
                | (exfalso; omega)
                | exact ⟨_, rfl, jq_e (hJ.2.symm.trans (tV_2 hcm)), hf, by rw [eT, ← hJ.1]; exact hq⟩
              · skip
                exact absurd hz_126 (by decide)
        exact H109 _ (mo (c (a + 2))) (a + 2) 1 False (jm_u (jm_u I 103 19 (iI (((a : Nat) : Int) + 1))) 103 19 (iI (((a + 1 : Nat) : Int) + 1))) (Nat.lt_succ_self _) (fr_u (by simp) (fr_u (by simp) (fr_r _))) rfl (Or.inl ⟨rfl, by omega, PJ_0 hcm ht.2.2⟩) _ rfl rfl rfl rfl rfl rfl 
      · skip
        refine jv_iload_n (pc' := 68) (k := 3) (x := (iI (c (a + 2)))) rfl rfl rfl rfl ?_
        refine jv_bipush (pc' := 70) (n := 62) rfl rfl rfl ?_
        refine jv_ic_eq (t := 88) (pc' := 73) (a := (c (a + 2))) (b := 62) rfl rfl rfl (by omega) (fun hz_127 => ?_) (fun hz_127 => ?_)
        · skip
          refine jv_iconst (pc' := 89) (n := 0) rfl rfl ?_
          have hcm : cm (c (a + 2)) := by unfold cm; omega
          rw [show iI 0 = jb False from (jb_f id).symm]
          refine jv_istore (pc' := 91) (k := 4) (x := (jb False)) rfl rfl rfl (Or.inr rfl) ?_
          refine jv_iconst (pc' := 92) (n := 1) rfl rfl ?_
          refine jv_istore (pc' := 94) (k := 5) (x := (iI 1)) rfl rfl rfl (Or.inr rfl) ?_
          have H128 : ∀ (N : Nat) (m : Nat) (q : Nat) (mr : Int) (P : Prop) (I1 : Nat → Nat → Int32), (if mr = 1 then m + 1 else 0) < N → (fr (fun l k => l = 103 ∧ k = 19) I I1) → (I1 103 19 = iI ((q : Nat) : Int)) → ((mr = 1 ∧ q < n ∧ PJ c s a m q P) ∨ (mr = 0 ∧ PK c s a q P)) → ∀ f : jm_F, f 0 = some (.ref 103) → f 1 = some (.int (iI (c a - 48))) → f 2 = some (.int (iI (nmq c a))) → f 3 = some (.int (iI (c (a + 2)))) → f 4 = some (.int (jb P)) → f 5 = some (.int (iI mr)) → jx L xs ((d + 2)) 158 94 f [] (jx_G j I1 M p) (fun z => ∃ v g1, z = (.inl v, g1) ∧ (fun v g1 => ∃ I', g1 = jx_G j I' M p ∧ v = some (.int (jb (tV c s a))) ∧ fr (fun l k => l = 103 ∧ k = 19) I I' ∧ I' 103 19 = iI ((tA c a : Nat) : Int)) v g1) := by
            intro N
            induction N with
            | zero => intro m q mr P I1 hN; exact absurd hN (Nat.not_lt_zero _)
            | succ N ih =>
              intro m q mr P I1 hN hf hq hJ f hf0 hf1 hf2 hf3 hf4 hf5 
              refine jv_iload (pc' := 96) (k := 5) (x := (iI mr)) rfl rfl hf5 ?_
              have T1 : MT I1 c n := MT_fr hT hf (by simp) (by intro k; simp)
              rcases hJ with ⟨rfl, hqn, hJ⟩ | ⟨rfl, hJ⟩
              · skip
                show jx L xs _ 158 96 _ [.int (iI 1)] _ _
                refine jv_if_eq (t := 154) (pc' := 99) (a := 1) rfl rfl rfl (by omega) (fun hz_129 => ?_) (fun hz_129 => ?_)
                · skip
                  exact absurd hz_129 (by decide)
                · skip
                  refine jv_aload_n (pc' := 100) (k := 0) (x := 103) rfl rfl rfl hf0 ?_
                  refine jx_step (pc' := 101) rfl ?_
                  refine jv_getI (pc' := 104) (c := 12) (k := 19) (v := (iI ((q : Nat) : Int))) rfl rfl rfl (fun _ _ => rfl) rfl rfl hq ?_
                  refine jv_iconst (pc' := 105) (n := 1) rfl rfl ?_
                  refine jv_iadd (pc' := 106) (a := ((q : Nat) : Int)) (b := 1) rfl rfl ?_
                  refine jv_putI (pc' := 109) (c := 12) (k := 19) rfl rfl rfl rfl (fun _ _ _  => rfl) rfl rfl ?_
                  refine jv_aload_n (pc' := 110) (k := 0) (x := 103) rfl rfl rfl hf0 ?_
                  refine jv_iload_n (pc' := 111) (k := 1) (x := (iI (c a - 48))) rfl rfl rfl hf1 ?_
                  refine jv_iload_n (pc' := 112) (k := 2) (x := (iI (nmq c a))) rfl rfl rfl hf2 ?_
                  refine jv_iload_n (pc' := 113) (k := 3) (x := (iI (c (a + 2)))) rfl rfl rfl hf3 ?_
                  refine jv_aload_n (pc' := 114) (k := 0) (x := 103) rfl rfl rfl hf0 ?_
                  have hm130 := MT_c T1 (q + 1)
                  have ho130 := MT_or T1 (q + 1)
                  have nb131 := nv_b c (q + 1)
                  have nl131 := nd_le c (q + 1)
                  have nn131 := nd_in T1.2.2.2.2 (a := q + 1) (by omega)
                  refine jv_call (pc' := 117) rfl (ml_number_y (I := jm_u I1 103 19 (iI (((q : Nat) : Int) + 1))) (a := q + 1) T1 rfl (by omega) hJ.1) (fun vq132 gq132 q132 => ?_)
                  obtain ⟨rfl, rfl⟩ := q132
                  show jx L xs _ 158 117 _ [.int (iI (nv c (q + 1))), .int (iI (c (a + 2))), .int (iI (nmq c a)), .int (iI (c a - 48)), .ref 103] _ _
                  have M120 : DMe (jm_u (jm_u I1 103 19 (iI (((q : Nat) : Int) + 1))) 103 19 (iI ((q + 1 + nd c (q + 1) : Nat) : Int))) M s := DMe_fr (W := fun l k => l = 103 ∧ k = 19) (V := fun _ _ => False) (I := I) hM (fr_u (by simp) (fr_u (by simp) hf)) (fr_r _) ⟨by omega, by omega, by omega, fun l k h1 h2 => by omega⟩ (fun _ h => h)
                  refine jv_call (pc' := 120) rfl (ml_has_c (I := jm_u (jm_u I1 103 19 (iI (((q : Nat) : Int) + 1))) 103 19 (iI ((q + 1 + nd c (q + 1) : Nat) : Int))) (l := c a - 48) (nm := nmq c a) (op := c (a + 2)) (num := nv c (q + 1)) hcm M120 hE hc (by omega) (by omega) (by omega)) (fun vq133 gq133 q133 => ?_)
                  obtain ⟨rfl, rfl⟩ := q133
                  show jx L xs _ 158 120 _ [.int (jb (HP s (c a - 48) (nmq c a) (fun v => fitN (c (a + 2)) v (nv c (q + 1)))))] _ _
                  refine jv_jb_ne (t := 128) (pc' := 123) (P := HP s (c a - 48) (nmq c a) (fun v => fitN (c (a + 2)) v (nv c (q + 1)))) rfl rfl rfl (fun hz_134 => ?_) (fun hz_134 => ?_)
                  · skip
                    refine jv_iconst (pc' := 129) (n := 1) rfl rfl ?_
                    refine jx_step (pc' := 133) rfl ?_
                    rw [show iI 1 = jb (HP s (c a - 48) (nmq c a) (fun v => fitN (c (a + 2)) v (nv c (q + 1))) ∨ P) from (jb_t (by first | exact Or.inl (by assumption) | exact Or.inr (by assumption))).symm]
                    refine jv_istore (pc' := 135) (k := 4) (x := (jb (HP s (c a - 48) (nmq c a) (fun v => fitN (c (a + 2)) v (nv c (q + 1))) ∨ P))) rfl rfl rfl (Or.inr (congrArg jm_lng hf3)) ?_
                    refine jv_aload_n (pc' := 136) (k := 0) (x := 103) rfl rfl rfl hf0 ?_
                    have hm135 := MT_c T1 (q + 1 + nd c (q + 1))
                    have ho135 := MT_or T1 (q + 1 + nd c (q + 1))
                    refine jv_call (pc' := 139) rfl (ml_here (I := jm_u (jm_u I1 103 19 (iI (((q : Nat) : Int) + 1))) 103 19 (iI ((q + 1 + nd c (q + 1) : Nat) : Int))) (a := q + 1 + nd c (q + 1)) T1 rfl (by omega)) (fun vq136 gq136 q136 => ?_)
                    obtain ⟨rfl, rfl⟩ := q136
                    show jx L xs _ 158 139 _ [.int (iI (c (q + 1 + nd c (q + 1))))] _ _
                    refine jv_bipush (pc' := 141) (n := 44) rfl rfl rfl ?_
                    refine jv_ic_ne (t := 148) (pc' := 144) (a := (c (q + 1 + nd c (q + 1)))) (b := 44) rfl rfl rfl (by omega) (fun hz_137 => ?_) (fun hz_137 => ?_)
                    · skip
                      refine jv_iconst (pc' := 149) (n := 0) rfl rfl ?_
                      refine jv_istore (pc' := 151) (k := 5) (x := (iI 0)) rfl rfl rfl (Or.inr rfl) ?_
                      refine jx_step (pc' := 94) rfl ?_
                      exact ih 0 (q + 1 + nd c (q + 1)) 0 (HP s (c a - 48) (nmq c a) (fun v => fitN (c (a + 2)) v (nv c (q + 1))) ∨ P) (jm_u (jm_u I1 103 19 (iI (((q : Nat) : Int) + 1))) 103 19 (iI ((q + 1 + nd c (q + 1) : Nat) : Int))) (by simp at hN ⊢; try omega) (fr_u (by simp) (fr_u (by simp) hf)) rfl (Or.inr ⟨rfl, PJ_e hJ (by omega)⟩) _ hf0 hf1 hf2 hf3 rfl rfl 
                    · skip
                      obtain ⟨m2, rfl⟩ := PJ_m hJ (by omega) h44
                      refine jv_iconst (pc' := 145) (n := 1) rfl rfl ?_
                      refine jx_step (pc' := 149) rfl ?_
                      refine jv_istore (pc' := 151) (k := 5) (x := (iI 1)) rfl rfl rfl (Or.inr rfl) ?_
                      refine jx_step (pc' := 94) rfl ?_
                      exact ih m2 (q + 1 + nd c (q + 1)) 1 (HP s (c a - 48) (nmq c a) (fun v => fitN (c (a + 2)) v (nv c (q + 1))) ∨ P) (jm_u (jm_u I1 103 19 (iI (((q : Nat) : Int) + 1))) 103 19 (iI ((q + 1 + nd c (q + 1) : Nat) : Int))) (by simp at hN ⊢; try omega) (fr_u (by simp) (fr_u (by simp) hf)) rfl (Or.inl ⟨rfl, by omega, PJ_s hJ (by omega)⟩) _ hf0 hf1 hf2 hf3 rfl rfl 
                  · skip
                    refine jv_iload (pc' := 125) (k := 4) (x := (jb P)) rfl rfl hf4 ?_
                    refine jv_jb_eq (t := 132) (pc' := 128) (P := P) rfl rfl rfl (fun hz_138 => ?_) (fun hz_138 => ?_)
                    · skip
                      refine jv_iconst (pc' := 133) (n := 0) rfl rfl ?_
                      rw [show iI 0 = jb (HP s (c a - 48) (nmq c a) (fun v => fitN (c (a + 2)) v (nv c (q + 1))) ∨ P) from (jb_f (fun z => by rcases z with z | z <;> contradiction)).symm]
                      refine jv_istore (pc' := 135) (k := 4) (x := (jb (HP s (c a - 48) (nmq c a) (fun v => fitN (c (a + 2)) v (nv c (q + 1))) ∨ P))) rfl rfl rfl (Or.inr (congrArg jm_lng hf3)) ?_
                      refine jv_aload_n (pc' := 136) (k := 0) (x := 103) rfl rfl rfl hf0 ?_
                      have hm139 := MT_c T1 (q + 1 + nd c (q + 1))
                      have ho139 := MT_or T1 (q + 1 + nd c (q + 1))
                      refine jv_call (pc' := 139) rfl (ml_here (I := jm_u (jm_u I1 103 19 (iI (((q : Nat) : Int) + 1))) 103 19 (iI ((q + 1 + nd c (q + 1) : Nat) : Int))) (a := q + 1 + nd c (q + 1)) T1 rfl (by omega)) (fun vq140 gq140 q140 => ?_)
                      obtain ⟨rfl, rfl⟩ := q140
                      show jx L xs _ 158 139 _ [.int (iI (c (q + 1 + nd c (q + 1))))] _ _
                      refine jv_bipush (pc' := 141) (n := 44) rfl rfl rfl ?_
                      refine jv_ic_ne (t := 148) (pc' := 144) (a := (c (q + 1 + nd c (q + 1)))) (b := 44) rfl rfl rfl (by omega) (fun hz_141 => ?_) (fun hz_141 => ?_)
                      · skip
                        refine jv_iconst (pc' := 149) (n := 0) rfl rfl ?_
                        refine jv_istore (pc' := 151) (k := 5) (x := (iI 0)) rfl rfl rfl (Or.inr rfl) ?_
                        refine jx_step (pc' := 94) rfl ?_
                        exact ih 0 (q + 1 + nd c (q + 1)) 0 (HP s (c a - 48) (nmq c a) (fun v => fitN (c (a + 2)) v (nv c (q + 1))) ∨ P) (jm_u (jm_u I1 103 19 (iI (((q : Nat) : Int) + 1))) 103 19 (iI ((q + 1 + nd c (q + 1) : Nat) : Int))) (by simp at hN ⊢; try omega) (fr_u (by simp) (fr_u (by simp) hf)) rfl (Or.inr ⟨rfl, PJ_e hJ (by omega)⟩) _ hf0 hf1 hf2 hf3 rfl rfl 
                      · skip
                        obtain ⟨m2, rfl⟩ := PJ_m hJ (by omega) h44
                        refine jv_iconst (pc' := 145) (n := 1) rfl rfl ?_
                        refine jx_step (pc' := 149) rfl ?_
                        refine jv_istore (pc' := 151) (k := 5) (x := (iI 1)) rfl rfl rfl (Or.inr rfl) ?_
                        refine jx_step (pc' := 94) rfl ?_
                        exact ih m2 (q + 1 + nd c (q + 1)) 1 (HP s (c a - 48) (nmq c a) (fun v => fitN (c (a + 2)) v (nv c (q + 1))) ∨ P) (jm_u (jm_u I1 103 19 (iI (((q : Nat) : Int) + 1))) 103 19 (iI ((q + 1 + nd c (q + 1) : Nat) : Int))) (by simp at hN ⊢; try omega) (fr_u (by simp) (fr_u (by simp) hf)) rfl (Or.inl ⟨rfl, by omega, PJ_s hJ (by omega)⟩) _ hf0 hf1 hf2 hf3 rfl rfl 
                    · skip
                      refine jv_iconst (pc' := 129) (n := 1) rfl rfl ?_
                      refine jx_step (pc' := 133) rfl ?_
                      rw [show iI 1 = jb (HP s (c a - 48) (nmq c a) (fun v => fitN (c (a + 2)) v (nv c (q + 1))) ∨ P) from (jb_t (by first | exact Or.inl (by assumption) | exact Or.inr (by assumption))).symm]
                      refine jv_istore (pc' := 135) (k := 4) (x := (jb (HP s (c a - 48) (nmq c a) (fun v => fitN (c (a + 2)) v (nv c (q + 1))) ∨ P))) rfl rfl rfl (Or.inr (congrArg jm_lng hf3)) ?_
                      refine jv_aload_n (pc' := 136) (k := 0) (x := 103) rfl rfl rfl hf0 ?_
                      have hm142 := MT_c T1 (q + 1 + nd c (q + 1))
                      have ho142 := MT_or T1 (q + 1 + nd c (q + 1))
                      refine jv_call (pc' := 139) rfl (ml_here (I := jm_u (jm_u I1 103 19 (iI (((q : Nat) : Int) + 1))) 103 19 (iI ((q + 1 + nd c (q + 1) : Nat) : Int))) (a := q + 1 + nd c (q + 1)) T1 rfl (by omega)) (fun vq143 gq143 q143 => ?_)
                      obtain ⟨rfl, rfl⟩ := q143
                      show jx L xs _ 158 139 _ [.int (iI (c (q + 1 + nd c (q + 1))))] _ _
                      refine jv_bipush (pc' := 141) (n := 44) rfl rfl rfl ?_
                      refine jv_ic_ne (t := 148) (pc' := 144) (a := (c (q + 1 + nd c (q + 1)))) (b := 44) rfl rfl rfl (by omega) (fun hz_144 => ?_) (fun hz_144 => ?_)
                      · skip
                        refine jv_iconst (pc' := 149) (n := 0) rfl rfl ?_
                        refine jv_istore (pc' := 151) (k := 5) (x := (iI 0)) rfl rfl rfl (Or.inr rfl) ?_
                        refine jx_step (pc' := 94) rfl ?_
                        exact ih 0 (q + 1 + nd c (q + 1)) 0 (HP s (c a - 48) (nmq c a) (fun v => fitN (c (a + 2)) v (nv c (q + 1))) ∨ P) (jm_u (jm_u I1 103 19 (iI (((q : Nat) : Int) + 1))) 103 19 (iI ((q + 1 + nd c (q + 1) : Nat) : Int))) (by simp at hN ⊢; try omega) (fr_u (by simp) (fr_u (by simp) hf)) rfl (Or.inr ⟨rfl, PJ_e hJ (by omega)⟩) _ hf0 hf1 hf2 hf3 rfl rfl 
                      · skip
                        obtain ⟨m2, rfl⟩ := PJ_m hJ (by omega) h44
                        refine jv_iconst (pc' := 145) (n := 1) rfl rfl ?_
                        refine jx_step (pc' := 149) rfl ?_
                        refine jv_istore (pc' := 151) (k := 5) (x := (iI 1)) rfl rfl rfl (Or.inr rfl) ?_
                        refine jx_step (pc' := 94) rfl ?_
                        exact ih m2 (q + 1 + nd c (q + 1)) 1 (HP s (c a - 48) (nmq c a) (fun v => fitN (c (a + 2)) v (nv c (q + 1))) ∨ P) (jm_u (jm_u I1 103 19 (iI (((q : Nat) : Int) + 1))) 103 19 (iI ((q + 1 + nd c (q + 1) : Nat) : Int))) (by simp at hN ⊢; try omega) (fr_u (by simp) (fr_u (by simp) hf)) rfl (Or.inl ⟨rfl, by omega, PJ_s hJ (by omega)⟩) _ hf0 hf1 hf2 hf3 rfl rfl 
              · skip
                show jx L xs _ 158 96 _ [.int (iI 0)] _ _
                refine jv_if_eq (t := 154) (pc' := 99) (a := 0) rfl rfl rfl (by omega) (fun hz_145 => ?_) (fun hz_145 => ?_)
                · skip
                  refine jv_iload (pc' := 156) (k := 4) (x := (jb P)) rfl rfl hf4 ?_
                  refine jv_retZ rfl rfl (jb_01 _) ⟨_, _, rfl, ?_⟩
                  first
                  | (exfalso; omega)
                  | exact ⟨_, rfl, jq_e (hJ.2.symm.trans (tV_2 hcm)), hf, by rw [eT, ← hJ.1]; exact hq⟩
                · skip
                  exact absurd hz_145 (by decide)
          exact H128 _ (mo (c (a + 2))) (a + 2) 1 False (jm_u (jm_u I 103 19 (iI (((a : Nat) : Int) + 1))) 103 19 (iI (((a + 1 : Nat) : Int) + 1))) (Nat.lt_succ_self _) (fr_u (by simp) (fr_u (by simp) (fr_r _))) rfl (Or.inl ⟨rfl, by omega, PJ_0 hcm ht.2.2⟩) _ rfl rfl rfl rfl rfl rfl 
        · skip
          refine jv_iload_n (pc' := 74) (k := 3) (x := (iI (c (a + 2)))) rfl rfl rfl rfl ?_
          refine jv_bipush (pc' := 76) (n := 126) rfl rfl rfl ?_
          refine jv_ic_eq (t := 88) (pc' := 79) (a := (c (a + 2))) (b := 126) rfl rfl rfl (by omega) (fun hz_146 => ?_) (fun hz_146 => ?_)
          · skip
            refine jv_iconst (pc' := 89) (n := 0) rfl rfl ?_
            have hcm : cm (c (a + 2)) := by unfold cm; omega
            rw [show iI 0 = jb False from (jb_f id).symm]
            refine jv_istore (pc' := 91) (k := 4) (x := (jb False)) rfl rfl rfl (Or.inr rfl) ?_
            refine jv_iconst (pc' := 92) (n := 1) rfl rfl ?_
            refine jv_istore (pc' := 94) (k := 5) (x := (iI 1)) rfl rfl rfl (Or.inr rfl) ?_
            have H147 : ∀ (N : Nat) (m : Nat) (q : Nat) (mr : Int) (P : Prop) (I1 : Nat → Nat → Int32), (if mr = 1 then m + 1 else 0) < N → (fr (fun l k => l = 103 ∧ k = 19) I I1) → (I1 103 19 = iI ((q : Nat) : Int)) → ((mr = 1 ∧ q < n ∧ PJ c s a m q P) ∨ (mr = 0 ∧ PK c s a q P)) → ∀ f : jm_F, f 0 = some (.ref 103) → f 1 = some (.int (iI (c a - 48))) → f 2 = some (.int (iI (nmq c a))) → f 3 = some (.int (iI (c (a + 2)))) → f 4 = some (.int (jb P)) → f 5 = some (.int (iI mr)) → jx L xs ((d + 2)) 158 94 f [] (jx_G j I1 M p) (fun z => ∃ v g1, z = (.inl v, g1) ∧ (fun v g1 => ∃ I', g1 = jx_G j I' M p ∧ v = some (.int (jb (tV c s a))) ∧ fr (fun l k => l = 103 ∧ k = 19) I I' ∧ I' 103 19 = iI ((tA c a : Nat) : Int)) v g1) := by
              intro N
              induction N with
              | zero => intro m q mr P I1 hN; exact absurd hN (Nat.not_lt_zero _)
              | succ N ih =>
                intro m q mr P I1 hN hf hq hJ f hf0 hf1 hf2 hf3 hf4 hf5 
                refine jv_iload (pc' := 96) (k := 5) (x := (iI mr)) rfl rfl hf5 ?_
                have T1 : MT I1 c n := MT_fr hT hf (by simp) (by intro k; simp)
                rcases hJ with ⟨rfl, hqn, hJ⟩ | ⟨rfl, hJ⟩
                · skip
                  show jx L xs _ 158 96 _ [.int (iI 1)] _ _
                  refine jv_if_eq (t := 154) (pc' := 99) (a := 1) rfl rfl rfl (by omega) (fun hz_148 => ?_) (fun hz_148 => ?_)
                  · skip
                    exact absurd hz_148 (by decide)
                  · skip
                    refine jv_aload_n (pc' := 100) (k := 0) (x := 103) rfl rfl rfl hf0 ?_
                    refine jx_step (pc' := 101) rfl ?_
                    refine jv_getI (pc' := 104) (c := 12) (k := 19) (v := (iI ((q : Nat) : Int))) rfl rfl rfl (fun _ _ => rfl) rfl rfl hq ?_
                    refine jv_iconst (pc' := 105) (n := 1) rfl rfl ?_
                    refine jv_iadd (pc' := 106) (a := ((q : Nat) : Int)) (b := 1) rfl rfl ?_
                    refine jv_putI (pc' := 109) (c := 12) (k := 19) rfl rfl rfl rfl (fun _ _ _  => rfl) rfl rfl ?_
                    refine jv_aload_n (pc' := 110) (k := 0) (x := 103) rfl rfl rfl hf0 ?_
                    refine jv_iload_n (pc' := 111) (k := 1) (x := (iI (c a - 48))) rfl rfl rfl hf1 ?_
                    refine jv_iload_n (pc' := 112) (k := 2) (x := (iI (nmq c a))) rfl rfl rfl hf2 ?_
                    refine jv_iload_n (pc' := 113) (k := 3) (x := (iI (c (a + 2)))) rfl rfl rfl hf3 ?_
                    refine jv_aload_n (pc' := 114) (k := 0) (x := 103) rfl rfl rfl hf0 ?_
                    have hm149 := MT_c T1 (q + 1)
                    have ho149 := MT_or T1 (q + 1)
                    have nb150 := nv_b c (q + 1)
                    have nl150 := nd_le c (q + 1)
                    have nn150 := nd_in T1.2.2.2.2 (a := q + 1) (by omega)
                    refine jv_call (pc' := 117) rfl (ml_number_y (I := jm_u I1 103 19 (iI (((q : Nat) : Int) + 1))) (a := q + 1) T1 rfl (by omega) hJ.1) (fun vq151 gq151 q151 => ?_)
                    obtain ⟨rfl, rfl⟩ := q151
                    show jx L xs _ 158 117 _ [.int (iI (nv c (q + 1))), .int (iI (c (a + 2))), .int (iI (nmq c a)), .int (iI (c a - 48)), .ref 103] _ _
                    have M120 : DMe (jm_u (jm_u I1 103 19 (iI (((q : Nat) : Int) + 1))) 103 19 (iI ((q + 1 + nd c (q + 1) : Nat) : Int))) M s := DMe_fr (W := fun l k => l = 103 ∧ k = 19) (V := fun _ _ => False) (I := I) hM (fr_u (by simp) (fr_u (by simp) hf)) (fr_r _) ⟨by omega, by omega, by omega, fun l k h1 h2 => by omega⟩ (fun _ h => h)
                    refine jv_call (pc' := 120) rfl (ml_has_c (I := jm_u (jm_u I1 103 19 (iI (((q : Nat) : Int) + 1))) 103 19 (iI ((q + 1 + nd c (q + 1) : Nat) : Int))) (l := c a - 48) (nm := nmq c a) (op := c (a + 2)) (num := nv c (q + 1)) hcm M120 hE hc (by omega) (by omega) (by omega)) (fun vq152 gq152 q152 => ?_)
                    obtain ⟨rfl, rfl⟩ := q152
                    show jx L xs _ 158 120 _ [.int (jb (HP s (c a - 48) (nmq c a) (fun v => fitN (c (a + 2)) v (nv c (q + 1)))))] _ _
                    refine jv_jb_ne (t := 128) (pc' := 123) (P := HP s (c a - 48) (nmq c a) (fun v => fitN (c (a + 2)) v (nv c (q + 1)))) rfl rfl rfl (fun hz_153 => ?_) (fun hz_153 => ?_)
                    · skip
                      refine jv_iconst (pc' := 129) (n := 1) rfl rfl ?_
                      refine jx_step (pc' := 133) rfl ?_
                      rw [show iI 1 = jb (HP s (c a - 48) (nmq c a) (fun v => fitN (c (a + 2)) v (nv c (q + 1))) ∨ P) from (jb_t (by first | exact Or.inl (by assumption) | exact Or.inr (by assumption))).symm]
                      refine jv_istore (pc' := 135) (k := 4) (x := (jb (HP s (c a - 48) (nmq c a) (fun v => fitN (c (a + 2)) v (nv c (q + 1))) ∨ P))) rfl rfl rfl (Or.inr (congrArg jm_lng hf3)) ?_
                      refine jv_aload_n (pc' := 136) (k := 0) (x := 103) rfl rfl rfl hf0 ?_
                      have hm154 := MT_c T1 (q + 1 + nd c (q + 1))
                      have ho154 := MT_or T1 (q + 1 + nd c (q + 1))
                      refine jv_call (pc' := 139) rfl (ml_here (I := jm_u (jm_u I1 103 19 (iI (((q : Nat) : Int) + 1))) 103 19 (iI ((q + 1 + nd c (q + 1) : Nat) : Int))) (a := q + 1 + nd c (q + 1)) T1 rfl (by omega)) (fun vq155 gq155 q155 => ?_)
                      obtain ⟨rfl, rfl⟩ := q155
                      show jx L xs _ 158 139 _ [.int (iI (c (q + 1 + nd c (q + 1))))] _ _
                      refine jv_bipush (pc' := 141) (n := 44) rfl rfl rfl ?_
                      refine jv_ic_ne (t := 148) (pc' := 144) (a := (c (q + 1 + nd c (q + 1)))) (b := 44) rfl rfl rfl (by omega) (fun hz_156 => ?_) (fun hz_156 => ?_)
                      · skip
                        refine jv_iconst (pc' := 149) (n := 0) rfl rfl ?_
                        refine jv_istore (pc' := 151) (k := 5) (x := (iI 0)) rfl rfl rfl (Or.inr rfl) ?_
                        refine jx_step (pc' := 94) rfl ?_
                        exact ih 0 (q + 1 + nd c (q + 1)) 0 (HP s (c a - 48) (nmq c a) (fun v => fitN (c (a + 2)) v (nv c (q + 1))) ∨ P) (jm_u (jm_u I1 103 19 (iI (((q : Nat) : Int) + 1))) 103 19 (iI ((q + 1 + nd c (q + 1) : Nat) : Int))) (by simp at hN ⊢; try omega) (fr_u (by simp) (fr_u (by simp) hf)) rfl (Or.inr ⟨rfl, PJ_e hJ (by omega)⟩) _ hf0 hf1 hf2 hf3 rfl rfl 
                      · skip
                        obtain ⟨m2, rfl⟩ := PJ_m hJ (by omega) h44
                        refine jv_iconst (pc' := 145) (n := 1) rfl rfl ?_
                        refine jx_step (pc' := 149) rfl ?_
                        refine jv_istore (pc' := 151) (k := 5) (x := (iI 1)) rfl rfl rfl (Or.inr rfl) ?_
                        refine jx_step (pc' := 94) rfl ?_
                        exact ih m2 (q + 1 + nd c (q + 1)) 1 (HP s (c a - 48) (nmq c a) (fun v => fitN (c (a + 2)) v (nv c (q + 1))) ∨ P) (jm_u (jm_u I1 103 19 (iI (((q : Nat) : Int) + 1))) 103 19 (iI ((q + 1 + nd c (q + 1) : Nat) : Int))) (by simp at hN ⊢; try omega) (fr_u (by simp) (fr_u (by simp) hf)) rfl (Or.inl ⟨rfl, by omega, PJ_s hJ (by omega)⟩) _ hf0 hf1 hf2 hf3 rfl rfl 
                    · skip
                      refine jv_iload (pc' := 125) (k := 4) (x := (jb P)) rfl rfl hf4 ?_
                      refine jv_jb_eq (t := 132) (pc' := 128) (P := P) rfl rfl rfl (fun hz_157 => ?_) (fun hz_157 => ?_)
                      · skip
                        refine jv_iconst (pc' := 133) (n := 0) rfl rfl ?_
                        rw [show iI 0 = jb (HP s (c a - 48) (nmq c a) (fun v => fitN (c (a + 2)) v (nv c (q + 1))) ∨ P) from (jb_f (fun z => by rcases z with z | z <;> contradiction)).symm]
                        refine jv_istore (pc' := 135) (k := 4) (x := (jb (HP s (c a - 48) (nmq c a) (fun v => fitN (c (a + 2)) v (nv c (q + 1))) ∨ P))) rfl rfl rfl (Or.inr (congrArg jm_lng hf3)) ?_
                        refine jv_aload_n (pc' := 136) (k := 0) (x := 103) rfl rfl rfl hf0 ?_
                        have hm158 := MT_c T1 (q + 1 + nd c (q + 1))
                        have ho158 := MT_or T1 (q + 1 + nd c (q + 1))
                        refine jv_call (pc' := 139) rfl (ml_here (I := jm_u (jm_u I1 103 19 (iI (((q : Nat) : Int) + 1))) 103 19 (iI ((q + 1 + nd c (q + 1) : Nat) : Int))) (a := q + 1 + nd c (q + 1)) T1 rfl (by omega)) (fun vq159 gq159 q159 => ?_)
                        obtain ⟨rfl, rfl⟩ := q159
                        show jx L xs _ 158 139 _ [.int (iI (c (q + 1 + nd c (q + 1))))] _ _
                        refine jv_bipush (pc' := 141) (n := 44) rfl rfl rfl ?_
                        refine jv_ic_ne (t := 148) (pc' := 144) (a := (c (q + 1 + nd c (q + 1)))) (b := 44) rfl rfl rfl (by omega) (fun hz_160 => ?_) (fun hz_160 => ?_)
                        · skip
                          refine jv_iconst (pc' := 149) (n := 0) rfl rfl ?_
                          refine jv_istore (pc' := 151) (k := 5) (x := (iI 0)) rfl rfl rfl (Or.inr rfl) ?_
                          refine jx_step (pc' := 94) rfl ?_
                          exact ih 0 (q + 1 + nd c (q + 1)) 0 (HP s (c a - 48) (nmq c a) (fun v => fitN (c (a + 2)) v (nv c (q + 1))) ∨ P) (jm_u (jm_u I1 103 19 (iI (((q : Nat) : Int) + 1))) 103 19 (iI ((q + 1 + nd c (q + 1) : Nat) : Int))) (by simp at hN ⊢; try omega) (fr_u (by simp) (fr_u (by simp) hf)) rfl (Or.inr ⟨rfl, PJ_e hJ (by omega)⟩) _ hf0 hf1 hf2 hf3 rfl rfl 
                        · skip
                          obtain ⟨m2, rfl⟩ := PJ_m hJ (by omega) h44
                          refine jv_iconst (pc' := 145) (n := 1) rfl rfl ?_
                          refine jx_step (pc' := 149) rfl ?_
                          refine jv_istore (pc' := 151) (k := 5) (x := (iI 1)) rfl rfl rfl (Or.inr rfl) ?_
                          refine jx_step (pc' := 94) rfl ?_
                          exact ih m2 (q + 1 + nd c (q + 1)) 1 (HP s (c a - 48) (nmq c a) (fun v => fitN (c (a + 2)) v (nv c (q + 1))) ∨ P) (jm_u (jm_u I1 103 19 (iI (((q : Nat) : Int) + 1))) 103 19 (iI ((q + 1 + nd c (q + 1) : Nat) : Int))) (by simp at hN ⊢; try omega) (fr_u (by simp) (fr_u (by simp) hf)) rfl (Or.inl ⟨rfl, by omega, PJ_s hJ (by omega)⟩) _ hf0 hf1 hf2 hf3 rfl rfl 
                      · skip
                        refine jv_iconst (pc' := 129) (n := 1) rfl rfl ?_
                        refine jx_step (pc' := 133) rfl ?_
                        rw [show iI 1 = jb (HP s (c a - 48) (nmq c a) (fun v => fitN (c (a + 2)) v (nv c (q + 1))) ∨ P) from (jb_t (by first | exact Or.inl (by assumption) | exact Or.inr (by assumption))).symm]
                        refine jv_istore (pc' := 135) (k := 4) (x := (jb (HP s (c a - 48) (nmq c a) (fun v => fitN (c (a + 2)) v (nv c (q + 1))) ∨ P))) rfl rfl rfl (Or.inr (congrArg jm_lng hf3)) ?_
                        refine jv_aload_n (pc' := 136) (k := 0) (x := 103) rfl rfl rfl hf0 ?_
                        have hm161 := MT_c T1 (q + 1 + nd c (q + 1))
                        have ho161 := MT_or T1 (q + 1 + nd c (q + 1))
                        refine jv_call (pc' := 139) rfl (ml_here (I := jm_u (jm_u I1 103 19 (iI (((q : Nat) : Int) + 1))) 103 19 (iI ((q + 1 + nd c (q + 1) : Nat) : Int))) (a := q + 1 + nd c (q + 1)) T1 rfl (by omega)) (fun vq162 gq162 q162 => ?_)
                        obtain ⟨rfl, rfl⟩ := q162
                        show jx L xs _ 158 139 _ [.int (iI (c (q + 1 + nd c (q + 1))))] _ _
                        refine jv_bipush (pc' := 141) (n := 44) rfl rfl rfl ?_
                        refine jv_ic_ne (t := 148) (pc' := 144) (a := (c (q + 1 + nd c (q + 1)))) (b := 44) rfl rfl rfl (by omega) (fun hz_163 => ?_) (fun hz_163 => ?_)
                        · skip
                          refine jv_iconst (pc' := 149) (n := 0) rfl rfl ?_
                          refine jv_istore (pc' := 151) (k := 5) (x := (iI 0)) rfl rfl rfl (Or.inr rfl) ?_
                          refine jx_step (pc' := 94) rfl ?_
                          exact ih 0 (q + 1 + nd c (q + 1)) 0 (HP s (c a - 48) (nmq c a) (fun v => fitN (c (a + 2)) v (nv c (q + 1))) ∨ P) (jm_u (jm_u I1 103 19 (iI (((q : Nat) : Int) + 1))) 103 19 (iI ((q + 1 + nd c (q + 1) : Nat) : Int))) (by simp at hN ⊢; try omega) (fr_u (by simp) (fr_u (by simp) hf)) rfl (Or.inr ⟨rfl, PJ_e hJ (by omega)⟩) _ hf0 hf1 hf2 hf3 rfl rfl 
                        · skip
                          obtain ⟨m2, rfl⟩ := PJ_m hJ (by omega) h44
                          refine jv_iconst (pc' := 145) (n := 1) rfl rfl ?_
                          refine jx_step (pc' := 149) rfl ?_
                          refine jv_istore (pc' := 151) (k := 5) (x := (iI 1)) rfl rfl rfl (Or.inr rfl) ?_
                          refine jx_step (pc' := 94) rfl ?_
                          exact ih m2 (q + 1 + nd c (q + 1)) 1 (HP s (c a - 48) (nmq c a) (fun v => fitN (c (a + 2)) v (nv c (q + 1))) ∨ P) (jm_u (jm_u I1 103 19 (iI (((q : Nat) : Int) + 1))) 103 19 (iI ((q + 1 + nd c (q + 1) : Nat) : Int))) (by simp at hN ⊢; try omega) (fr_u (by simp) (fr_u (by simp) hf)) rfl (Or.inl ⟨rfl, by omega, PJ_s hJ (by omega)⟩) _ hf0 hf1 hf2 hf3 rfl rfl 
                · skip
                  show jx L xs _ 158 96 _ [.int (iI 0)] _ _
                  refine jv_if_eq (t := 154) (pc' := 99) (a := 0) rfl rfl rfl (by omega) (fun hz_164 => ?_) (fun hz_164 => ?_)
                  · skip
                    refine jv_iload (pc' := 156) (k := 4) (x := (jb P)) rfl rfl hf4 ?_
                    refine jv_retZ rfl rfl (jb_01 _) ⟨_, _, rfl, ?_⟩
                    first
                    | (exfalso; omega)
                    | exact ⟨_, rfl, jq_e (hJ.2.symm.trans (tV_2 hcm)), hf, by rw [eT, ← hJ.1]; exact hq⟩
                  · skip
                    exact absurd hz_164 (by decide)
            exact H147 _ (mo (c (a + 2))) (a + 2) 1 False (jm_u (jm_u I 103 19 (iI (((a : Nat) : Int) + 1))) 103 19 (iI (((a + 1 : Nat) : Int) + 1))) (Nat.lt_succ_self _) (fr_u (by simp) (fr_u (by simp) (fr_r _))) rfl (Or.inl ⟨rfl, by omega, PJ_0 hcm ht.2.2⟩) _ rfl rfl rfl rfl rfl rfl 
          · skip
            refine jv_aload_n (pc' := 80) (k := 0) (x := 103) rfl rfl rfl rfl ?_
            refine jv_iload_n (pc' := 81) (k := 1) (x := (iI ((c (a)) - 48))) rfl rfl rfl rfl ?_
            refine jv_iload_n (pc' := 82) (k := 2) (x := (iI (nmq c a))) rfl rfl rfl rfl ?_
            refine jv_iconst (pc' := 83) (n := -1) rfl rfl ?_
            refine jv_iconst (pc' := 84) (n := 0) rfl rfl ?_
            have M87 : DMe (jm_u (jm_u I 103 19 (iI (((a : Nat) : Int) + 1))) 103 19 (iI (((a + 1 : Nat) : Int) + 1))) M s := DMe_fr (W := fun l k => l = 103 ∧ k = 19) (V := fun _ _ => False) (I := I) hM (fr_u (by simp) (fr_u (by simp) (fr_r _))) (fr_r _) ⟨by omega, by omega, by omega, fun l k h1 h2 => by omega⟩ (fun _ h => h)
            refine jv_call (pc' := 87) rfl (ml_has_m (I := jm_u (jm_u I 103 19 (iI (((a : Nat) : Int) + 1))) 103 19 (iI (((a + 1 : Nat) : Int) + 1))) (l := c a - 48) (nm := nmq c a) (num := 0) M87 hE hc (by omega) (by omega) (by omega)) (fun vq165 gq165 q165 => ?_)
            obtain ⟨rfl, rfl⟩ := q165
            show jx L xs _ 158 87 _ [.int (jb (HP s (c a - 48) (nmq c a) (fun _ => True)))] _ _
            refine jv_retZ rfl rfl (jb_01 _) ⟨_, _, rfl, ?_⟩
            first
            | (exfalso; omega)
            | exact ⟨_, rfl, jq_e (tV_1 (by unfold cm; omega)), (fr_u (by simp) (fr_u (by simp) (fr_r _))), by rw [eT, (c_none (c := c) (a := a + 2) (by unfold cm; omega)).2.1]; exact rfl⟩
end G3
