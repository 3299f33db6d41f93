/-! printed by wip/whole/gen/g2.py: the reference tells whether a text is a filter -/
section G2
variable {L : Nat} {xs : Nat → Int32} {d j : Nat} {I : Nat → Nat → Int32} {M : Nat → Nat → Int64} {p : Nat → Option Nat}
variable {c : Nat → Int} {n a : Nat}
set_option maxHeartbeats 4000000 in
theorem ml_isFilter {ok : Bool} {e k : Nat} (hT : MT I c n) (hQ0 : QE c n k 0 0 [] ok e) : jc L xs (d + 4) 124 [.ref 103] (jx_G j I M p) (fun v g1 => ∃ I', g1 = jx_G j I' M p ∧ v = some (.int (jb (ok = true))) ∧ (ok = false → I' 103 19 = iI ((e : Nat) : Int)) ∧ fr wQ I I') := by
  unfold jc
  have hn := hT.2.1
  refine jv_aload_n (pc' := 1) (k := 0) (x := 103) rfl rfl rfl rfl ?_
  refine jv_iconst (pc' := 2) (n := 0) rfl rfl ?_
  refine jv_putI (pc' := 5) (c := 12) (k := 19) rfl rfl rfl rfl (fun _ _ _  => rfl) rfl rfl ?_
  refine jv_iconst (pc' := 6) (n := 0) rfl rfl ?_
  refine jv_istore_n (pc' := 7) (k := 1) (x := (iI 0)) rfl rfl rfl rfl (Or.inr rfl) ?_
  have H1 : ∀ (N7 : Nat) (k1 : Nat) (a1 : Nat) (ks : List Bool) (I1 : Nat → Nat → Int32), k1 < N7 → (fr wQ I I1) → (I1 103 19 = iI ((a1 : Nat) : Int)) → (OQ I1 ks) → (QE c n k1 0 a1 ks ok e) → (a1 ≤ n) → ∀ f : jm_F, f 0 = some (.ref 103) → f 1 = some (.int (iI ((ks.length : Nat) : Int))) → jx L xs ((d + 4)) 124 7 f [] (jx_G j I1 M p) (fun z => ∃ v g1, z = (.inl v, g1) ∧ (fun v g1 => ∃ I', g1 = jx_G j I' M p ∧ v = some (.int (jb (ok = true))) ∧ (ok = false → I' 103 19 = iI ((e : Nat) : Int)) ∧ fr wQ I I') v g1) := by
    intro N7
    induction N7 with
    | zero => intro k1 a1 ks I1 hN7; exact absurd hN7 (Nat.not_lt_zero _)
    | succ N7 ih7 =>
      intro k1 a1 ks I1 hN7 hf7 ha7 hO7 hQ han f hf0 hf1 
      refine jv_aload_n (pc' := 8) (k := 0) (x := 103) rfl rfl rfl hf0 ?_
      have T1 : MT I1 c n := MT_fr hT hf7 (by simp [wQ]) (by intro k; simp [wQ])
      have hB := QE_QB hQ
      have hb1 := hB.1
      have hb2 := hB.2
      have hm2 := MT_c T1 (a1)
      have ho2 := MT_or T1 (a1)
      refine jv_call (pc' := 11) rfl (ml_here (I := I1) (a := a1) T1 ha7 (by omega)) (fun vq3 gq3 q3 => ?_)
      obtain ⟨rfl, rfl⟩ := q3
      show jx L xs _ 124 11 _ [.int (iI (c (a1)))] _ _
      refine jv_istore_n (pc' := 12) (k := 2) (x := (iI (c (a1)))) rfl rfl rfl rfl (Or.inr (congrArg jm_lng hf1)) ?_
      refine jv_iload_n (pc' := 13) (k := 2) (x := (iI (c (a1)))) rfl rfl rfl rfl ?_
      refine jv_bipush (pc' := 15) (n := 33) rfl rfl rfl ?_
      refine jv_ic_eq (t := 24) (pc' := 18) (a := (c (a1))) (b := 33) rfl rfl rfl (by omega) (fun hz_4 => ?_) (fun hz_4 => ?_)
      · skip
        refine jv_iload_n (pc' := 25) (k := 1) (x := (iI ((ks.length : Nat) : Int))) rfl rfl rfl hf1 ?_
        refine jv_bipush (pc' := 27) (n := 8) rfl rfl rfl ?_
        refine jv_ic_ne (t := 32) (pc' := 30) (a := ((ks.length : Nat) : Int)) (b := 8) rfl rfl rfl (by omega) (fun hz_5 => ?_) (fun hz_5 => ?_)
        · skip
          refine jv_aload_n (pc' := 33) (k := 0) (x := 103) rfl rfl rfl hf0 ?_
          refine jv_getR (pc' := 36) (c := 12) (k := 21) (v := 118) rfl rfl rfl (fun _ _ => rfl) rfl rfl (jR_103_21 _) ?_
          refine jv_iload_n (pc' := 37) (k := 1) (x := (iI ((ks.length : Nat) : Int))) rfl rfl rfl hf1 ?_
          refine jv_iload_n (pc' := 38) (k := 2) (x := (iI (c (a1)))) rfl rfl rfl rfl ?_
          refine jv_bipush (pc' := 40) (n := 33) rfl rfl rfl ?_
          refine jv_ic_ne (t := 47) (pc' := 43) (a := (c (a1))) (b := 33) rfl rfl rfl (by omega) (fun hz_6 => ?_) (fun hz_6 => ?_)
          · skip
            refine jv_iconst (pc' := 48) (n := 2) rfl rfl ?_
            refine jv_iastore (pc' := 49) (n := 16) (e := ((ks.length : Nat) : Int)) (v := (iI 2)) rfl rfl rfl rfl rfl (by omega) ?_
            obtain ⟨k2, e2, hQ2⟩ := Q0b hQ (by omega) (by omega)
            refine jv_iinc (pc' := 52) (k := 1) (a := ((ks.length : Nat) : Int)) rfl rfl hf1 rfl (Or.inr (congrArg jm_lng hf0)) ?_
            refine jv_aload_n (pc' := 53) (k := 0) (x := 103) rfl rfl rfl hf0 ?_
            refine jx_step (pc' := 54) rfl ?_
            refine jv_getI (pc' := 57) (c := 12) (k := 19) (v := (iI ((a1 : Nat) : Int))) rfl rfl rfl (fun _ _ => rfl) rfl rfl ha7 ?_
            refine jv_iconst (pc' := 58) (n := 1) rfl rfl ?_
            refine jv_iadd (pc' := 59) (a := ((a1 : Nat) : Int)) (b := 1) rfl rfl ?_
            refine jv_putI (pc' := 62) (c := 12) (k := 19) rfl rfl rfl rfl (fun _ _ _  => rfl) rfl rfl ?_
            refine jx_step (pc' := 173) rfl ?_
            refine jx_step (pc' := 7) rfl ?_
            exact ih7 k2 (a1 + 1) (true :: ks) (jm_u (jm_u I1 118 (((ks.length : Nat) : Int) : Int).toNat (iI 2)) 103 19 (iI (((a1 : Nat) : Int) + 1))) (by omega) (fr_u (by simp [wQ]) (fr_u (by simp [wQ]) hf7)) rfl ⟨(jm_u_n2 (by omega)).trans (jm_u_eq ⟨rfl, by omega⟩), OQ_c hO7 (fun i hi => (jm_u_n2 (by omega)).trans (jm_u_n2 (by omega)))⟩ hQ2 (by omega) _ hf0 rfl 
          · skip
            refine jv_iconst (pc' := 44) (n := 1) rfl rfl ?_
            refine jx_step (pc' := 48) rfl ?_
            refine jv_iastore (pc' := 49) (n := 16) (e := ((ks.length : Nat) : Int)) (v := (iI 1)) rfl rfl rfl rfl rfl (by omega) ?_
            obtain ⟨k2, e2, hQ2⟩ := Q0n hQ (by omega) (by omega)
            refine jv_iinc (pc' := 52) (k := 1) (a := ((ks.length : Nat) : Int)) rfl rfl hf1 rfl (Or.inr (congrArg jm_lng hf0)) ?_
            refine jv_aload_n (pc' := 53) (k := 0) (x := 103) rfl rfl rfl hf0 ?_
            refine jx_step (pc' := 54) rfl ?_
            refine jv_getI (pc' := 57) (c := 12) (k := 19) (v := (iI ((a1 : Nat) : Int))) rfl rfl rfl (fun _ _ => rfl) rfl rfl ha7 ?_
            refine jv_iconst (pc' := 58) (n := 1) rfl rfl ?_
            refine jv_iadd (pc' := 59) (a := ((a1 : Nat) : Int)) (b := 1) rfl rfl ?_
            refine jv_putI (pc' := 62) (c := 12) (k := 19) rfl rfl rfl rfl (fun _ _ _  => rfl) rfl rfl ?_
            refine jx_step (pc' := 173) rfl ?_
            refine jx_step (pc' := 7) rfl ?_
            exact ih7 k2 (a1 + 1) (false :: ks) (jm_u (jm_u I1 118 (((ks.length : Nat) : Int) : Int).toNat (iI 1)) 103 19 (iI (((a1 : Nat) : Int) + 1))) (by omega) (fr_u (by simp [wQ]) (fr_u (by simp [wQ]) hf7)) rfl ⟨(jm_u_n2 (by omega)).trans (jm_u_eq ⟨rfl, by omega⟩), OQ_c hO7 (fun i hi => (jm_u_n2 (by omega)).trans (jm_u_n2 (by omega)))⟩ hQ2 (by omega) _ hf0 rfl 
        · skip
          refine jv_iconst (pc' := 31) (n := 0) rfl rfl ?_
          refine jv_retZ rfl rfl (by first | exact Or.inl rfl | exact Or.inr rfl) ⟨_, _, rfl, ?_⟩
          first
          | (exfalso; omega)
          | (obtain ⟨e1, e2⟩ := Q0d hQ (by omega) (by omega)
             subst e1; subst e2
             exact ⟨_, rfl, jq_f (by simp), fun _ => ha7, hf7⟩)
      · skip
        refine jv_iload_n (pc' := 19) (k := 2) (x := (iI (c (a1)))) rfl rfl rfl rfl ?_
        refine jv_bipush (pc' := 21) (n := 40) rfl rfl rfl ?_
        refine jv_ic_ne (t := 65) (pc' := 24) (a := (c (a1))) (b := 40) rfl rfl rfl (by omega) (fun hz_7 => ?_) (fun hz_7 => ?_)
        · skip
          refine jv_aload_n (pc' := 66) (k := 0) (x := 103) rfl rfl rfl hf0 ?_
          refine jv_call (pc' := 69) rfl (ml_test (I := I1) (a := a1) T1 ha7 (by omega)) (fun vq8 gq8 q8 => ?_)
          obtain ⟨Iq8, rfl, rfl, rq8, aq8⟩ := q8
          have tb := tA_b T1.2.2.2.2 (a := a1) (by omega)
          have Rq8 : fr wQ I1 Iq8 := fr_w rq8 (fun l k h => Or.inl h)
          have Oq8 : OQ Iq8 ks := OQ_c hO7 (fun i _ => rq8 118 i (by omega))
          show jx L xs _ 124 69 _ [.int (jb (tO c a1))] _ _
          refine jv_jb_ne (t := 74) (pc' := 72) (P := tO c a1) rfl rfl rfl (fun hz_9 => ?_) (fun hz_9 => ?_)
          · skip
            obtain ⟨k2, e2, hQ2⟩ := Q0t hQ (by omega) (by assumption)
            have H10 : ∀ (N74 : Nat) (k1 : Nat) (a1 : Nat) (ks : List Bool) (I1 : Nat → Nat → Int32), k1 < N74 → (fr wQ I I1) → (I1 103 19 = iI ((a1 : Nat) : Int)) → (OQ I1 ks) → (QE c n k1 1 a1 ks ok e) → (k1 < N7) → (a1 ≤ n) → ∀ f : jm_F, f 0 = some (.ref 103) → f 1 = some (.int (iI ((ks.length : Nat) : Int))) → jx L xs ((d + 4)) 124 74 f [] (jx_G j I1 M p) (fun z => ∃ v g1, z = (.inl v, g1) ∧ (fun v g1 => ∃ I', g1 = jx_G j I' M p ∧ v = some (.int (jb (ok = true))) ∧ (ok = false → I' 103 19 = iI ((e : Nat) : Int)) ∧ fr wQ I I') v g1) := by
              intro N74
              induction N74 with
              | zero => intro k1 a1 ks I1 hN74; exact absurd hN74 (Nat.not_lt_zero _)
              | succ N74 ih74 =>
                intro k1 a1 ks I1 hN74 hf74 ha74 hO74 hQ74 hk74 han f hf0 hf1 
                refine jv_iload_n (pc' := 75) (k := 1) (x := (iI ((ks.length : Nat) : Int))) rfl rfl rfl hf1 ?_
                have hB := QE_QB hQ74
                have hb1 := hB.1
                have hb2 := hB.2
                have T74 : MT I1 c n := MT_fr hT hf74 (by simp [wQ]) (by intro k; simp [wQ])
                rcases ks with _ | ⟨b0, r0⟩
                · skip
                  show jx L xs _ 124 75 _ [.int (iI 0)] _ _
                  refine jv_if_le (t := 96) (pc' := 78) (a := 0) rfl rfl rfl (by omega) (fun hz_11 => ?_) (fun hz_11 => ?_)
                  · skip
                    have H12 : ∀ (N96 : Nat) (k1 : Nat) (a1 : Nat) (ks : List Bool) (I1 : Nat → Nat → Int32), k1 < N96 → (fr wQ I I1) → (I1 103 19 = iI ((a1 : Nat) : Int)) → (OQ I1 ks) → (QE c n k1 1 a1 ks ok e) → (k1 < N7) → (a1 ≤ n) → (HK ks) → ∀ f : jm_F, f 0 = some (.ref 103) → f 1 = some (.int (iI ((ks.length : Nat) : Int))) → jx L xs ((d + 4)) 124 96 f [] (jx_G j I1 M p) (fun z => ∃ v g1, z = (.inl v, g1) ∧ (fun v g1 => ∃ I', g1 = jx_G j I' M p ∧ v = some (.int (jb (ok = true))) ∧ (ok = false → I' 103 19 = iI ((e : Nat) : Int)) ∧ fr wQ I I') v g1) := by
                      intro N96
                      induction N96 with
                      | zero => intro k1 a1 ks I1 hN96; exact absurd hN96 (Nat.not_lt_zero _)
                      | succ N96 ih96 =>
                        intro k1 a1 ks I1 hN96 hf96 ha96 hO96 hQ96 hk96 han hHK f hf0 hf1 
                        refine jv_iload_n (pc' := 97) (k := 1) (x := (iI ((ks.length : Nat) : Int))) rfl rfl rfl hf1 ?_
                        have hB := QE_QB hQ96
                        have hb1 := hB.1
                        have hb2 := hB.2
                        have T96 : MT I1 c n := MT_fr hT hf96 (by simp [wQ]) (by intro k; simp [wQ])
                        rcases hHK with hHK | ⟨r0, hHK⟩
                        · subst hHK
                          have hHK : HK [] := Or.inl rfl
                          show jx L xs _ 124 97 _ [.int (iI 0)] _ _
                          refine jv_if_le (t := 134) (pc' := 100) (a := 0) rfl rfl rfl (by omega) (fun hz_13 => ?_) (fun hz_13 => ?_)
                          · skip
                            refine jv_aload_n (pc' := 135) (k := 0) (x := 103) rfl rfl rfl hf0 ?_
                            refine jv_bipush (pc' := 137) (n := 38) rfl rfl rfl ?_
                            have hm14 := MT_c T96 (a1)
                            have ho14 := MT_or T96 (a1)
                            by_cases hk15 : c (a1) = 38
                            · skip
                              refine jv_call (pc' := 140) rfl (ml_takes_y (I := I1) (a := a1) (x := 38) (by omega) T96 ha96 (by omega) hk15) (fun vq16 gq16 q16 => ?_)
                              obtain ⟨rfl, rfl⟩ := q16
                              show jx L xs _ 124 140 _ [.int (iI 1)] _ _
                              refine jv_if_ne (t := 173) (pc' := 143) (a := 1) rfl rfl rfl (by omega) (fun hz_17 => ?_) (fun hz_17 => ?_)
                              · skip
                                obtain ⟨k3, e3, hQ3⟩ := Q1j hQ96 hHK (by omega)
                                refine jx_step (pc' := 7) rfl ?_
                                exact ih7 k3 (a1 + 1) ([]) (jm_u I1 103 19 (iI ((a1 + 1 : Nat) : Int))) (by omega) (fr_u (by simp [wQ]) hf96) rfl (OQ_c hO96 (fun i _ => rfl)) hQ3 (by omega) _ hf0 hf1 
                              · skip
                                exact absurd hz_17 (by decide)
                            · skip
                              refine jv_call (pc' := 140) rfl (ml_takes_n (I := I1) (a := a1) (x := 38) (by omega) T96 ha96 (by omega) hk15) (fun vq18 gq18 q18 => ?_)
                              obtain ⟨rfl, rfl⟩ := q18
                              show jx L xs _ 124 140 _ [.int (iI 0)] _ _
                              refine jv_if_ne (t := 173) (pc' := 143) (a := 0) rfl rfl rfl (by omega) (fun hz_19 => ?_) (fun hz_19 => ?_)
                              · skip
                                exact absurd hz_19 (by decide)
                              · skip
                                refine jv_aload_n (pc' := 144) (k := 0) (x := 103) rfl rfl rfl hf0 ?_
                                refine jv_bipush (pc' := 146) (n := 124) rfl rfl rfl ?_
                                have hm20 := MT_c T96 (a1)
                                have ho20 := MT_or T96 (a1)
                                by_cases hk21 : c (a1) = 124
                                · skip
                                  refine jv_call (pc' := 149) rfl (ml_takes_y (I := I1) (a := a1) (x := 124) (by omega) T96 ha96 (by omega) hk21) (fun vq22 gq22 q22 => ?_)
                                  obtain ⟨rfl, rfl⟩ := q22
                                  show jx L xs _ 124 149 _ [.int (iI 1)] _ _
                                  refine jv_if_ne (t := 173) (pc' := 152) (a := 1) rfl rfl rfl (by omega) (fun hz_23 => ?_) (fun hz_23 => ?_)
                                  · skip
                                    obtain ⟨k3, e3, hQ3⟩ := Q1j hQ96 hHK (by omega)
                                    refine jx_step (pc' := 7) rfl ?_
                                    exact ih7 k3 (a1 + 1) ([]) (jm_u I1 103 19 (iI ((a1 + 1 : Nat) : Int))) (by omega) (fr_u (by simp [wQ]) hf96) rfl (OQ_c hO96 (fun i _ => rfl)) hQ3 (by omega) _ hf0 hf1 
                                  · skip
                                    exact absurd hz_23 (by decide)
                                · skip
                                  refine jv_call (pc' := 149) rfl (ml_takes_n (I := I1) (a := a1) (x := 124) (by omega) T96 ha96 (by omega) hk21) (fun vq24 gq24 q24 => ?_)
                                  obtain ⟨rfl, rfl⟩ := q24
                                  show jx L xs _ 124 149 _ [.int (iI 0)] _ _
                                  refine jv_if_ne (t := 173) (pc' := 152) (a := 0) rfl rfl rfl (by omega) (fun hz_25 => ?_) (fun hz_25 => ?_)
                                  · skip
                                    exact absurd hz_25 (by decide)
                                  · skip
                                    refine jv_iload_n (pc' := 153) (k := 1) (x := (iI 0)) rfl rfl rfl hf1 ?_
                                    refine jv_if_ne (t := 171) (pc' := 156) (a := 0) rfl rfl rfl (by omega) (fun hz_26 => ?_) (fun hz_26 => ?_)
                                    · skip
                                      exact absurd hz_26 (by decide)
                                    · skip
                                      refine jv_aload_n (pc' := 157) (k := 0) (x := 103) rfl rfl rfl hf0 ?_
                                      refine jv_getI (pc' := 160) (c := 12) (k := 19) (v := (iI ((a1 : Nat) : Int))) rfl rfl rfl (fun _ _ => rfl) rfl rfl ha96 ?_
                                      refine jv_aload_n (pc' := 161) (k := 0) (x := 103) rfl rfl rfl hf0 ?_
                                      refine jv_getI (pc' := 164) (c := 12) (k := 18) (v := (iI (n : Int))) rfl rfl rfl (fun _ _ => rfl) rfl rfl T96.1 ?_
                                      refine jv_ic_ne (t := 171) (pc' := 167) (a := ((a1 : Nat) : Int)) (b := (n : Int)) rfl rfl rfl (by omega) (fun hz_27 => ?_) (fun hz_27 => ?_)
                                      · skip
                                        refine jv_iconst (pc' := 172) (n := 0) rfl rfl ?_
                                        refine jv_retZ rfl rfl (by first | exact Or.inl rfl | exact Or.inr rfl) ⟨_, _, rfl, ?_⟩
                                        first
                                        | (exfalso; omega)
                                        | (obtain ⟨e1, e2⟩ := Q1x hQ96 (by omega)
                                           subst e2
                                           exact ⟨_, rfl, jq_f (by rw [e1]; simp; omega), fun _ => ha96, hf96⟩)
                                      · skip
                                        refine jv_iconst (pc' := 168) (n := 1) rfl rfl ?_
                                        refine jx_step (pc' := 172) rfl ?_
                                        refine jv_retZ rfl rfl (by first | exact Or.inl rfl | exact Or.inr rfl) ⟨_, _, rfl, ?_⟩
                                        first
                                        | (exfalso; omega)
                                        | (obtain ⟨e1, e2⟩ := Q1x hQ96 (by omega)
                                           subst e2
                                           exact ⟨_, rfl, jq_t (by rw [e1]; simp; omega), fun _ => ha96, hf96⟩)
                          · skip
                            exact absurd hz_13 (by decide)
                        · subst hHK
                          have hHK : HK (true :: r0) := Or.inr ⟨r0, rfl⟩
                          have hlen : r0.length + 1 ≤ 8 := hb2
                          show jx L xs _ 124 97 _ [.int (iI ((r0.length + 1 : Nat) : Int))] _ _
                          refine jv_if_le (t := 134) (pc' := 100) (a := ((r0.length + 1 : Nat) : Int)) rfl rfl rfl (by omega) (fun hz_28 => ?_) (fun hz_28 => ?_)
                          · skip
                            refine jv_aload_n (pc' := 135) (k := 0) (x := 103) rfl rfl rfl hf0 ?_
                            refine jv_bipush (pc' := 137) (n := 38) rfl rfl rfl ?_
                            have hm29 := MT_c T96 (a1)
                            have ho29 := MT_or T96 (a1)
                            by_cases hk30 : c (a1) = 38
                            · skip
                              refine jv_call (pc' := 140) rfl (ml_takes_y (I := I1) (a := a1) (x := 38) (by omega) T96 ha96 (by omega) hk30) (fun vq31 gq31 q31 => ?_)
                              obtain ⟨rfl, rfl⟩ := q31
                              show jx L xs _ 124 140 _ [.int (iI 1)] _ _
                              refine jv_if_ne (t := 173) (pc' := 143) (a := 1) rfl rfl rfl (by omega) (fun hz_32 => ?_) (fun hz_32 => ?_)
                              · skip
                                obtain ⟨k3, e3, hQ3⟩ := Q1j hQ96 hHK (by omega)
                                refine jx_step (pc' := 7) rfl ?_
                                exact ih7 k3 (a1 + 1) (true :: r0) (jm_u I1 103 19 (iI ((a1 + 1 : Nat) : Int))) (by omega) (fr_u (by simp [wQ]) hf96) rfl (OQ_c hO96 (fun i _ => rfl)) hQ3 (by omega) _ hf0 hf1 
                              · skip
                                exact absurd hz_32 (by decide)
                            · skip
                              refine jv_call (pc' := 140) rfl (ml_takes_n (I := I1) (a := a1) (x := 38) (by omega) T96 ha96 (by omega) hk30) (fun vq33 gq33 q33 => ?_)
                              obtain ⟨rfl, rfl⟩ := q33
                              show jx L xs _ 124 140 _ [.int (iI 0)] _ _
                              refine jv_if_ne (t := 173) (pc' := 143) (a := 0) rfl rfl rfl (by omega) (fun hz_34 => ?_) (fun hz_34 => ?_)
                              · skip
                                exact absurd hz_34 (by decide)
                              · skip
                                refine jv_aload_n (pc' := 144) (k := 0) (x := 103) rfl rfl rfl hf0 ?_
                                refine jv_bipush (pc' := 146) (n := 124) rfl rfl rfl ?_
                                have hm35 := MT_c T96 (a1)
                                have ho35 := MT_or T96 (a1)
                                by_cases hk36 : c (a1) = 124
                                · skip
                                  refine jv_call (pc' := 149) rfl (ml_takes_y (I := I1) (a := a1) (x := 124) (by omega) T96 ha96 (by omega) hk36) (fun vq37 gq37 q37 => ?_)
                                  obtain ⟨rfl, rfl⟩ := q37
                                  show jx L xs _ 124 149 _ [.int (iI 1)] _ _
                                  refine jv_if_ne (t := 173) (pc' := 152) (a := 1) rfl rfl rfl (by omega) (fun hz_38 => ?_) (fun hz_38 => ?_)
                                  · skip
                                    obtain ⟨k3, e3, hQ3⟩ := Q1j hQ96 hHK (by omega)
                                    refine jx_step (pc' := 7) rfl ?_
                                    exact ih7 k3 (a1 + 1) (true :: r0) (jm_u I1 103 19 (iI ((a1 + 1 : Nat) : Int))) (by omega) (fr_u (by simp [wQ]) hf96) rfl (OQ_c hO96 (fun i _ => rfl)) hQ3 (by omega) _ hf0 hf1 
                                  · skip
                                    exact absurd hz_38 (by decide)
                                · skip
                                  refine jv_call (pc' := 149) rfl (ml_takes_n (I := I1) (a := a1) (x := 124) (by omega) T96 ha96 (by omega) hk36) (fun vq39 gq39 q39 => ?_)
                                  obtain ⟨rfl, rfl⟩ := q39
                                  show jx L xs _ 124 149 _ [.int (iI 0)] _ _
                                  refine jv_if_ne (t := 173) (pc' := 152) (a := 0) rfl rfl rfl (by omega) (fun hz_40 => ?_) (fun hz_40 => ?_)
                                  · skip
                                    exact absurd hz_40 (by decide)
                                  · skip
                                    refine jv_iload_n (pc' := 153) (k := 1) (x := (iI ((r0.length + 1 : Nat) : Int))) rfl rfl rfl hf1 ?_
                                    refine jv_if_ne (t := 171) (pc' := 156) (a := ((r0.length + 1 : Nat) : Int)) rfl rfl rfl (by omega) (fun hz_41 => ?_) (fun hz_41 => ?_)
                                    · skip
                                      refine jv_iconst (pc' := 172) (n := 0) rfl rfl ?_
                                      refine jv_retZ rfl rfl (by first | exact Or.inl rfl | exact Or.inr rfl) ⟨_, _, rfl, ?_⟩
                                      first
                                      | (exfalso; omega)
                                      | (obtain ⟨e1, e2⟩ := Q1y hQ96 (by omega)
                                         subst e1; subst e2
                                         exact ⟨_, rfl, jq_f (by simp), fun _ => ha96, hf96⟩)
                                    · skip
                                      refine jv_aload_n (pc' := 157) (k := 0) (x := 103) rfl rfl rfl hf0 ?_
                                      refine jv_getI (pc' := 160) (c := 12) (k := 19) (v := (iI ((a1 : Nat) : Int))) rfl rfl rfl (fun _ _ => rfl) rfl rfl ha96 ?_
                                      refine jv_aload_n (pc' := 161) (k := 0) (x := 103) rfl rfl rfl hf0 ?_
                                      refine jv_getI (pc' := 164) (c := 12) (k := 18) (v := (iI (n : Int))) rfl rfl rfl (fun _ _ => rfl) rfl rfl T96.1 ?_
                                      refine jv_ic_ne (t := 171) (pc' := 167) (a := ((a1 : Nat) : Int)) (b := (n : Int)) rfl rfl rfl (by omega) (fun hz_42 => ?_) (fun hz_42 => ?_)
                                      · skip
                                        refine jv_iconst (pc' := 172) (n := 0) rfl rfl ?_
                                        refine jv_retZ rfl rfl (by first | exact Or.inl rfl | exact Or.inr rfl) ⟨_, _, rfl, ?_⟩
                                        first
                                        | (exfalso; omega)
                                        | (obtain ⟨e1, e2⟩ := Q1y hQ96 (by omega)
                                           subst e1; subst e2
                                           exact ⟨_, rfl, jq_f (by simp), fun _ => ha96, hf96⟩)
                                      · skip
                                        refine jv_iconst (pc' := 168) (n := 1) rfl rfl ?_
                                        refine jx_step (pc' := 172) rfl ?_
                                        refine jv_retZ rfl rfl (by first | exact Or.inl rfl | exact Or.inr rfl) ⟨_, _, rfl, ?_⟩
                                        first
                                        | (exfalso; omega)
                                        | (obtain ⟨e1, e2⟩ := Q1y hQ96 (by omega)
                                           subst e1; subst e2
                                           exact ⟨_, rfl, jq_f (by simp), fun _ => ha96, hf96⟩)
                          · skip
                            refine jv_aload_n (pc' := 101) (k := 0) (x := 103) rfl rfl rfl hf0 ?_
                            refine jv_bipush (pc' := 103) (n := 41) rfl rfl rfl ?_
                            have hm43 := MT_c T96 (a1)
                            have ho43 := MT_or T96 (a1)
                            by_cases hk44 : c (a1) = 41
                            · skip
                              refine jv_call (pc' := 106) rfl (ml_takes_y (I := I1) (a := a1) (x := 41) (by omega) T96 ha96 (by omega) hk44) (fun vq45 gq45 q45 => ?_)
                              obtain ⟨rfl, rfl⟩ := q45
                              show jx L xs _ 124 106 _ [.int (iI 1)] _ _
                              refine jv_if_eq (t := 134) (pc' := 109) (a := 1) rfl rfl rfl (by omega) (fun hz_46 => ?_) (fun hz_46 => ?_)
                              · skip
                                exact absurd hz_46 (by decide)
                              · skip
                                refine jv_iinc (pc' := 112) (k := 1) (a := ((r0.length + 1 : Nat) : Int)) rfl rfl hf1 rfl (Or.inr (congrArg jm_lng hf0)) ?_
                                obtain ⟨k4, e4, hQ4⟩ := Q1e hQ96 (by assumption)
                                have H47 : ∀ (N112 : Nat) (k1 : Nat) (a1 : Nat) (ks : List Bool) (I1 : Nat → Nat → Int32), k1 < N112 → (fr wQ I I1) → (I1 103 19 = iI ((a1 : Nat) : Int)) → (OQ I1 ks) → (QE c n k1 1 a1 ks ok e) → (k1 < N96) → (k1 < N7) → (a1 ≤ n) → ∀ f : jm_F, f 0 = some (.ref 103) → f 1 = some (.int (iI ((ks.length : Nat) : Int))) → jx L xs ((d + 4)) 124 112 f [] (jx_G j I1 M p) (fun z => ∃ v g1, z = (.inl v, g1) ∧ (fun v g1 => ∃ I', g1 = jx_G j I' M p ∧ v = some (.int (jb (ok = true))) ∧ (ok = false → I' 103 19 = iI ((e : Nat) : Int)) ∧ fr wQ I I') v g1) := by
                                  intro N112
                                  induction N112 with
                                  | zero => intro k1 a1 ks I1 hN112; exact absurd hN112 (Nat.not_lt_zero _)
                                  | succ N112 ih112 =>
                                    intro k1 a1 ks I1 hN112 hf112 ha112 hO112 hQ112 hk112 hk7 han f hf0 hf1 
                                    refine jv_iload_n (pc' := 113) (k := 1) (x := (iI ((ks.length : Nat) : Int))) rfl rfl rfl hf1 ?_
                                    have hB := QE_QB hQ112
                                    have hb1 := hB.1
                                    have hb2 := hB.2
                                    have T112 : MT I1 c n := MT_fr hT hf112 (by simp [wQ]) (by intro k; simp [wQ])
                                    rcases ks with _ | ⟨b0, r0⟩
                                    · skip
                                      show jx L xs _ 124 113 _ [.int (iI 0)] _ _
                                      refine jv_if_le (t := 96) (pc' := 116) (a := 0) rfl rfl rfl (by omega) (fun hz_48 => ?_) (fun hz_48 => ?_)
                                      · skip
                                        exact ih96 k1 a1 ([]) I1 (by omega) hf112 ha112 hO112 hQ112 (by omega) han (Or.inl rfl) _ hf0 hf1 
                                      · skip
                                        exact absurd hz_48 (by decide)
                                    · rcases b0 with _ | _
                                      · skip
                                        have hlen : r0.length + 1 ≤ 8 := hb2
                                        obtain ⟨k4, e4, hQ4⟩ := Q1f hQ112
                                        show jx L xs _ 124 113 _ [.int (iI ((r0.length + 1 : Nat) : Int))] _ _
                                        refine jv_if_le (t := 96) (pc' := 116) (a := ((r0.length + 1 : Nat) : Int)) rfl rfl rfl (by omega) (fun hz_49 => ?_) (fun hz_49 => ?_)
                                        · skip
                                          exfalso; omega
                                        · skip
                                          refine jv_aload_n (pc' := 117) (k := 0) (x := 103) rfl rfl rfl hf0 ?_
                                          refine jv_getR (pc' := 120) (c := 12) (k := 21) (v := 118) rfl rfl rfl (fun _ _ => rfl) rfl rfl (jR_103_21 _) ?_
                                          refine jv_iload_n (pc' := 121) (k := 1) (x := (iI ((r0.length + 1 : Nat) : Int))) rfl rfl rfl hf1 ?_
                                          refine jv_iconst (pc' := 122) (n := 1) rfl rfl ?_
                                          refine jv_isub (pc' := 123) (a := ((r0.length + 1 : Nat) : Int)) (b := 1) rfl rfl ?_
                                          refine jv_iaload (pc' := 124) (n := 16) (e := (((r0.length + 1 : Nat) : Int) - 1)) (v := (iI 1)) rfl rfl (by decide) rfl rfl rfl (by omega) ((congrArg (I1 118) (show (((r0.length + 1 : Nat) : Int) - 1 : Int).toNat = r0.length by omega)).trans hO112.1) ?_
                                          refine jv_iconst (pc' := 125) (n := 1) rfl rfl ?_
                                          refine jv_ic_ne (t := 96) (pc' := 128) (a := 1) (b := 1) rfl rfl rfl (by omega) (fun hz_50 => ?_) (fun hz_50 => ?_)
                                          · skip
                                            exact absurd hz_50 (by decide)
                                          · skip
                                            refine jv_iinc (pc' := 131) (k := 1) (a := ((r0.length + 1 : Nat) : Int)) rfl rfl hf1 rfl (Or.inr (congrArg jm_lng hf0)) ?_
                                            refine jx_step (pc' := 112) rfl ?_
                                            exact ih112 k4 a1 r0 I1 (by omega) hf112 ha112 hO112.2 hQ4 (by omega) (by omega) han _ hf0 (congrArg (fun z => some (Value.int (iI z))) (show ((r0.length + 1 : Nat) : Int) + (-1) = ((r0.length : Nat) : Int) by omega)) 
                                      · skip
                                        have hlen : r0.length + 1 ≤ 8 := hb2
                                        show jx L xs _ 124 113 _ [.int (iI ((r0.length + 1 : Nat) : Int))] _ _
                                        refine jv_if_le (t := 96) (pc' := 116) (a := ((r0.length + 1 : Nat) : Int)) rfl rfl rfl (by omega) (fun hz_51 => ?_) (fun hz_51 => ?_)
                                        · skip
                                          exact ih96 k1 a1 (true :: r0) I1 (by omega) hf112 ha112 hO112 hQ112 (by omega) han (Or.inr ⟨r0, rfl⟩) _ hf0 hf1 
                                        · skip
                                          refine jv_aload_n (pc' := 117) (k := 0) (x := 103) rfl rfl rfl hf0 ?_
                                          refine jv_getR (pc' := 120) (c := 12) (k := 21) (v := 118) rfl rfl rfl (fun _ _ => rfl) rfl rfl (jR_103_21 _) ?_
                                          refine jv_iload_n (pc' := 121) (k := 1) (x := (iI ((r0.length + 1 : Nat) : Int))) rfl rfl rfl hf1 ?_
                                          refine jv_iconst (pc' := 122) (n := 1) rfl rfl ?_
                                          refine jv_isub (pc' := 123) (a := ((r0.length + 1 : Nat) : Int)) (b := 1) rfl rfl ?_
                                          refine jv_iaload (pc' := 124) (n := 16) (e := (((r0.length + 1 : Nat) : Int) - 1)) (v := (iI 2)) rfl rfl (by decide) rfl rfl rfl (by omega) ((congrArg (I1 118) (show (((r0.length + 1 : Nat) : Int) - 1 : Int).toNat = r0.length by omega)).trans hO112.1) ?_
                                          refine jv_iconst (pc' := 125) (n := 1) rfl rfl ?_
                                          refine jv_ic_ne (t := 96) (pc' := 128) (a := 2) (b := 1) rfl rfl rfl (by omega) (fun hz_52 => ?_) (fun hz_52 => ?_)
                                          · skip
                                            exact ih96 k1 a1 (true :: r0) I1 (by omega) hf112 ha112 hO112 hQ112 (by omega) han (Or.inr ⟨r0, rfl⟩) _ hf0 hf1 
                                          · skip
                                            exact absurd hz_52 (by decide)
                                exact H47 _ k4 (a1 + 1) r0 (jm_u I1 103 19 (iI ((a1 + 1 : Nat) : Int))) (Nat.lt_succ_self _) (fr_u (by simp [wQ]) hf96) rfl (OQ_c hO96.2 (fun i _ => rfl)) hQ4 (by omega) (by omega) (by omega) _ hf0 (congrArg (fun z => some (Value.int (iI z))) (show ((r0.length + 1 : Nat) : Int) + (-1) = ((r0.length : Nat) : Int) by omega)) 
                            · skip
                              refine jv_call (pc' := 106) rfl (ml_takes_n (I := I1) (a := a1) (x := 41) (by omega) T96 ha96 (by omega) hk44) (fun vq53 gq53 q53 => ?_)
                              obtain ⟨rfl, rfl⟩ := q53
                              show jx L xs _ 124 106 _ [.int (iI 0)] _ _
                              refine jv_if_eq (t := 134) (pc' := 109) (a := 0) rfl rfl rfl (by omega) (fun hz_54 => ?_) (fun hz_54 => ?_)
                              · skip
                                refine jv_aload_n (pc' := 135) (k := 0) (x := 103) rfl rfl rfl hf0 ?_
                                refine jv_bipush (pc' := 137) (n := 38) rfl rfl rfl ?_
                                have hm55 := MT_c T96 (a1)
                                have ho55 := MT_or T96 (a1)
                                by_cases hk56 : c (a1) = 38
                                · skip
                                  refine jv_call (pc' := 140) rfl (ml_takes_y (I := I1) (a := a1) (x := 38) (by omega) T96 ha96 (by omega) hk56) (fun vq57 gq57 q57 => ?_)
                                  obtain ⟨rfl, rfl⟩ := q57
                                  show jx L xs _ 124 140 _ [.int (iI 1)] _ _
                                  refine jv_if_ne (t := 173) (pc' := 143) (a := 1) rfl rfl rfl (by omega) (fun hz_58 => ?_) (fun hz_58 => ?_)
                                  · skip
                                    obtain ⟨k3, e3, hQ3⟩ := Q1j hQ96 hHK (by omega)
                                    refine jx_step (pc' := 7) rfl ?_
                                    exact ih7 k3 (a1 + 1) (true :: r0) (jm_u I1 103 19 (iI ((a1 + 1 : Nat) : Int))) (by omega) (fr_u (by simp [wQ]) hf96) rfl (OQ_c hO96 (fun i _ => rfl)) hQ3 (by omega) _ hf0 hf1 
                                  · skip
                                    exact absurd hz_58 (by decide)
                                · skip
                                  refine jv_call (pc' := 140) rfl (ml_takes_n (I := I1) (a := a1) (x := 38) (by omega) T96 ha96 (by omega) hk56) (fun vq59 gq59 q59 => ?_)
                                  obtain ⟨rfl, rfl⟩ := q59
                                  show jx L xs _ 124 140 _ [.int (iI 0)] _ _
                                  refine jv_if_ne (t := 173) (pc' := 143) (a := 0) rfl rfl rfl (by omega) (fun hz_60 => ?_) (fun hz_60 => ?_)
                                  · skip
                                    exact absurd hz_60 (by decide)
                                  · skip
                                    refine jv_aload_n (pc' := 144) (k := 0) (x := 103) rfl rfl rfl hf0 ?_
                                    refine jv_bipush (pc' := 146) (n := 124) rfl rfl rfl ?_
                                    have hm61 := MT_c T96 (a1)
                                    have ho61 := MT_or T96 (a1)
                                    by_cases hk62 : c (a1) = 124
                                    · skip
                                      refine jv_call (pc' := 149) rfl (ml_takes_y (I := I1) (a := a1) (x := 124) (by omega) T96 ha96 (by omega) hk62) (fun vq63 gq63 q63 => ?_)
                                      obtain ⟨rfl, rfl⟩ := q63
                                      show jx L xs _ 124 149 _ [.int (iI 1)] _ _
                                      refine jv_if_ne (t := 173) (pc' := 152) (a := 1) rfl rfl rfl (by omega) (fun hz_64 => ?_) (fun hz_64 => ?_)
                                      · skip
                                        obtain ⟨k3, e3, hQ3⟩ := Q1j hQ96 hHK (by omega)
                                        refine jx_step (pc' := 7) rfl ?_
                                        exact ih7 k3 (a1 + 1) (true :: r0) (jm_u I1 103 19 (iI ((a1 + 1 : Nat) : Int))) (by omega) (fr_u (by simp [wQ]) hf96) rfl (OQ_c hO96 (fun i _ => rfl)) hQ3 (by omega) _ hf0 hf1 
                                      · skip
                                        exact absurd hz_64 (by decide)
                                    · skip
                                      refine jv_call (pc' := 149) rfl (ml_takes_n (I := I1) (a := a1) (x := 124) (by omega) T96 ha96 (by omega) hk62) (fun vq65 gq65 q65 => ?_)
                                      obtain ⟨rfl, rfl⟩ := q65
                                      show jx L xs _ 124 149 _ [.int (iI 0)] _ _
                                      refine jv_if_ne (t := 173) (pc' := 152) (a := 0) rfl rfl rfl (by omega) (fun hz_66 => ?_) (fun hz_66 => ?_)
                                      · skip
                                        exact absurd hz_66 (by decide)
                                      · skip
                                        refine jv_iload_n (pc' := 153) (k := 1) (x := (iI ((r0.length + 1 : Nat) : Int))) rfl rfl rfl hf1 ?_
                                        refine jv_if_ne (t := 171) (pc' := 156) (a := ((r0.length + 1 : Nat) : Int)) rfl rfl rfl (by omega) (fun hz_67 => ?_) (fun hz_67 => ?_)
                                        · skip
                                          refine jv_iconst (pc' := 172) (n := 0) rfl rfl ?_
                                          refine jv_retZ rfl rfl (by first | exact Or.inl rfl | exact Or.inr rfl) ⟨_, _, rfl, ?_⟩
                                          first
                                          | (exfalso; omega)
                                          | (obtain ⟨e1, e2⟩ := Q1y hQ96 (by omega)
                                             subst e1; subst e2
                                             exact ⟨_, rfl, jq_f (by simp), fun _ => ha96, hf96⟩)
                                        · skip
                                          refine jv_aload_n (pc' := 157) (k := 0) (x := 103) rfl rfl rfl hf0 ?_
                                          refine jv_getI (pc' := 160) (c := 12) (k := 19) (v := (iI ((a1 : Nat) : Int))) rfl rfl rfl (fun _ _ => rfl) rfl rfl ha96 ?_
                                          refine jv_aload_n (pc' := 161) (k := 0) (x := 103) rfl rfl rfl hf0 ?_
                                          refine jv_getI (pc' := 164) (c := 12) (k := 18) (v := (iI (n : Int))) rfl rfl rfl (fun _ _ => rfl) rfl rfl T96.1 ?_
                                          refine jv_ic_ne (t := 171) (pc' := 167) (a := ((a1 : Nat) : Int)) (b := (n : Int)) rfl rfl rfl (by omega) (fun hz_68 => ?_) (fun hz_68 => ?_)
                                          · skip
                                            refine jv_iconst (pc' := 172) (n := 0) rfl rfl ?_
                                            refine jv_retZ rfl rfl (by first | exact Or.inl rfl | exact Or.inr rfl) ⟨_, _, rfl, ?_⟩
                                            first
                                            | (exfalso; omega)
                                            | (obtain ⟨e1, e2⟩ := Q1y hQ96 (by omega)
                                               subst e1; subst e2
                                               exact ⟨_, rfl, jq_f (by simp), fun _ => ha96, hf96⟩)
                                          · skip
                                            refine jv_iconst (pc' := 168) (n := 1) rfl rfl ?_
                                            refine jx_step (pc' := 172) rfl ?_
                                            refine jv_retZ rfl rfl (by first | exact Or.inl rfl | exact Or.inr rfl) ⟨_, _, rfl, ?_⟩
                                            first
                                            | (exfalso; omega)
                                            | (obtain ⟨e1, e2⟩ := Q1y hQ96 (by omega)
                                               subst e1; subst e2
                                               exact ⟨_, rfl, jq_f (by simp), fun _ => ha96, hf96⟩)
                              · skip
                                exact absurd hz_54 (by decide)
                    exact H12 _ k1 a1 ([]) I1 (Nat.lt_succ_self _) hf74 ha74 hO74 hQ74 (by omega) han (Or.inl rfl) _ hf0 hf1 
                  · skip
                    exact absurd hz_11 (by decide)
                · rcases b0 with _ | _
                  · skip
                    have hlen : r0.length + 1 ≤ 8 := hb2
                    obtain ⟨k4, e4, hQ4⟩ := Q1f hQ74
                    show jx L xs _ 124 75 _ [.int (iI ((r0.length + 1 : Nat) : Int))] _ _
                    refine jv_if_le (t := 96) (pc' := 78) (a := ((r0.length + 1 : Nat) : Int)) rfl rfl rfl (by omega) (fun hz_69 => ?_) (fun hz_69 => ?_)
                    · skip
                      exfalso; omega
                    · skip
                      refine jv_aload_n (pc' := 79) (k := 0) (x := 103) rfl rfl rfl hf0 ?_
                      refine jv_getR (pc' := 82) (c := 12) (k := 21) (v := 118) rfl rfl rfl (fun _ _ => rfl) rfl rfl (jR_103_21 _) ?_
                      refine jv_iload_n (pc' := 83) (k := 1) (x := (iI ((r0.length + 1 : Nat) : Int))) rfl rfl rfl hf1 ?_
                      refine jv_iconst (pc' := 84) (n := 1) rfl rfl ?_
                      refine jv_isub (pc' := 85) (a := ((r0.length + 1 : Nat) : Int)) (b := 1) rfl rfl ?_
                      refine jv_iaload (pc' := 86) (n := 16) (e := (((r0.length + 1 : Nat) : Int) - 1)) (v := (iI 1)) rfl rfl (by decide) rfl rfl rfl (by omega) ((congrArg (I1 118) (show (((r0.length + 1 : Nat) : Int) - 1 : Int).toNat = r0.length by omega)).trans hO74.1) ?_
                      refine jv_iconst (pc' := 87) (n := 1) rfl rfl ?_
                      refine jv_ic_ne (t := 96) (pc' := 90) (a := 1) (b := 1) rfl rfl rfl (by omega) (fun hz_70 => ?_) (fun hz_70 => ?_)
                      · skip
                        exact absurd hz_70 (by decide)
                      · skip
                        refine jv_iinc (pc' := 93) (k := 1) (a := ((r0.length + 1 : Nat) : Int)) rfl rfl hf1 rfl (Or.inr (congrArg jm_lng hf0)) ?_
                        refine jx_step (pc' := 74) rfl ?_
                        exact ih74 k4 a1 r0 I1 (by omega) hf74 ha74 hO74.2 hQ4 (by omega) han _ hf0 (congrArg (fun z => some (Value.int (iI z))) (show ((r0.length + 1 : Nat) : Int) + (-1) = ((r0.length : Nat) : Int) by omega)) 
                  · skip
                    have hlen : r0.length + 1 ≤ 8 := hb2
                    show jx L xs _ 124 75 _ [.int (iI ((r0.length + 1 : Nat) : Int))] _ _
                    refine jv_if_le (t := 96) (pc' := 78) (a := ((r0.length + 1 : Nat) : Int)) rfl rfl rfl (by omega) (fun hz_71 => ?_) (fun hz_71 => ?_)
                    · skip
                      have H72 : ∀ (N96 : Nat) (k1 : Nat) (a1 : Nat) (ks : List Bool) (I1 : Nat → Nat → Int32), k1 < N96 → (fr wQ I I1) → (I1 103 19 = iI ((a1 : Nat) : Int)) → (OQ I1 ks) → (QE c n k1 1 a1 ks ok e) → (k1 < N7) → (a1 ≤ n) → (HK ks) → ∀ f : jm_F, f 0 = some (.ref 103) → f 1 = some (.int (iI ((ks.length : Nat) : Int))) → jx L xs ((d + 4)) 124 96 f [] (jx_G j I1 M p) (fun z => ∃ v g1, z = (.inl v, g1) ∧ (fun v g1 => ∃ I', g1 = jx_G j I' M p ∧ v = some (.int (jb (ok = true))) ∧ (ok = false → I' 103 19 = iI ((e : Nat) : Int)) ∧ fr wQ I I') v g1) := by
                        intro N96
                        induction N96 with
                        | zero => intro k1 a1 ks I1 hN96; exact absurd hN96 (Nat.not_lt_zero _)
                        | succ N96 ih96 =>
                          intro k1 a1 ks I1 hN96 hf96 ha96 hO96 hQ96 hk96 han hHK f hf0 hf1 
                          refine jv_iload_n (pc' := 97) (k := 1) (x := (iI ((ks.length : Nat) : Int))) rfl rfl rfl hf1 ?_
                          have hB := QE_QB hQ96
                          have hb1 := hB.1
                          have hb2 := hB.2
                          have T96 : MT I1 c n := MT_fr hT hf96 (by simp [wQ]) (by intro k; simp [wQ])
                          rcases hHK with hHK | ⟨r0, hHK⟩
                          · subst hHK
                            have hHK : HK [] := Or.inl rfl
                            show jx L xs _ 124 97 _ [.int (iI 0)] _ _
                            refine jv_if_le (t := 134) (pc' := 100) (a := 0) rfl rfl rfl (by omega) (fun hz_73 => ?_) (fun hz_73 => ?_)
                            · skip
                              refine jv_aload_n (pc' := 135) (k := 0) (x := 103) rfl rfl rfl hf0 ?_
                              refine jv_bipush (pc' := 137) (n := 38) rfl rfl rfl ?_
                              have hm74 := MT_c T96 (a1)
                              have ho74 := MT_or T96 (a1)
                              by_cases hk75 : c (a1) = 38
                              · skip
                                refine jv_call (pc' := 140) rfl (ml_takes_y (I := I1) (a := a1) (x := 38) (by omega) T96 ha96 (by omega) hk75) (fun vq76 gq76 q76 => ?_)
                                obtain ⟨rfl, rfl⟩ := q76
                                show jx L xs _ 124 140 _ [.int (iI 1)] _ _
                                refine jv_if_ne (t := 173) (pc' := 143) (a := 1) rfl rfl rfl (by omega) (fun hz_77 => ?_) (fun hz_77 => ?_)
                                · skip
                                  obtain ⟨k3, e3, hQ3⟩ := Q1j hQ96 hHK (by omega)
                                  refine jx_step (pc' := 7) rfl ?_
                                  exact ih7 k3 (a1 + 1) ([]) (jm_u I1 103 19 (iI ((a1 + 1 : Nat) : Int))) (by omega) (fr_u (by simp [wQ]) hf96) rfl (OQ_c hO96 (fun i _ => rfl)) hQ3 (by omega) _ hf0 hf1 
                                · skip
                                  exact absurd hz_77 (by decide)
                              · skip
                                refine jv_call (pc' := 140) rfl (ml_takes_n (I := I1) (a := a1) (x := 38) (by omega) T96 ha96 (by omega) hk75) (fun vq78 gq78 q78 => ?_)
                                obtain ⟨rfl, rfl⟩ := q78
                                show jx L xs _ 124 140 _ [.int (iI 0)] _ _
                                refine jv_if_ne (t := 173) (pc' := 143) (a := 0) rfl rfl rfl (by omega) (fun hz_79 => ?_) (fun hz_79 => ?_)
                                · skip
                                  exact absurd hz_79 (by decide)
                                · skip
                                  refine jv_aload_n (pc' := 144) (k := 0) (x := 103) rfl rfl rfl hf0 ?_
                                  refine jv_bipush (pc' := 146) (n := 124) rfl rfl rfl ?_
                                  have hm80 := MT_c T96 (a1)
                                  have ho80 := MT_or T96 (a1)
                                  by_cases hk81 : c (a1) = 124
                                  · skip
                                    refine jv_call (pc' := 149) rfl (ml_takes_y (I := I1) (a := a1) (x := 124) (by omega) T96 ha96 (by omega) hk81) (fun vq82 gq82 q82 => ?_)
                                    obtain ⟨rfl, rfl⟩ := q82
                                    show jx L xs _ 124 149 _ [.int (iI 1)] _ _
                                    refine jv_if_ne (t := 173) (pc' := 152) (a := 1) rfl rfl rfl (by omega) (fun hz_83 => ?_) (fun hz_83 => ?_)
                                    · skip
                                      obtain ⟨k3, e3, hQ3⟩ := Q1j hQ96 hHK (by omega)
                                      refine jx_step (pc' := 7) rfl ?_
                                      exact ih7 k3 (a1 + 1) ([]) (jm_u I1 103 19 (iI ((a1 + 1 : Nat) : Int))) (by omega) (fr_u (by simp [wQ]) hf96) rfl (OQ_c hO96 (fun i _ => rfl)) hQ3 (by omega) _ hf0 hf1 
                                    · skip
                                      exact absurd hz_83 (by decide)
                                  · skip
                                    refine jv_call (pc' := 149) rfl (ml_takes_n (I := I1) (a := a1) (x := 124) (by omega) T96 ha96 (by omega) hk81) (fun vq84 gq84 q84 => ?_)
                                    obtain ⟨rfl, rfl⟩ := q84
                                    show jx L xs _ 124 149 _ [.int (iI 0)] _ _
                                    refine jv_if_ne (t := 173) (pc' := 152) (a := 0) rfl rfl rfl (by omega) (fun hz_85 => ?_) (fun hz_85 => ?_)
                                    · skip
                                      exact absurd hz_85 (by decide)
                                    · skip
                                      refine jv_iload_n (pc' := 153) (k := 1) (x := (iI 0)) rfl rfl rfl hf1 ?_
                                      refine jv_if_ne (t := 171) (pc' := 156) (a := 0) rfl rfl rfl (by omega) (fun hz_86 => ?_) (fun hz_86 => ?_)
                                      · skip
                                        exact absurd hz_86 (by decide)
                                      · skip
                                        refine jv_aload_n (pc' := 157) (k := 0) (x := 103) rfl rfl rfl hf0 ?_
                                        refine jv_getI (pc' := 160) (c := 12) (k := 19) (v := (iI ((a1 : Nat) : Int))) rfl rfl rfl (fun _ _ => rfl) rfl rfl ha96 ?_
                                        refine jv_aload_n (pc' := 161) (k := 0) (x := 103) rfl rfl rfl hf0 ?_
                                        refine jv_getI (pc' := 164) (c := 12) (k := 18) (v := (iI (n : Int))) rfl rfl rfl (fun _ _ => rfl) rfl rfl T96.1 ?_
                                        refine jv_ic_ne (t := 171) (pc' := 167) (a := ((a1 : Nat) : Int)) (b := (n : Int)) rfl rfl rfl (by omega) (fun hz_87 => ?_) (fun hz_87 => ?_)
                                        · skip
                                          refine jv_iconst (pc' := 172) (n := 0) rfl rfl ?_
                                          refine jv_retZ rfl rfl (by first | exact Or.inl rfl | exact Or.inr rfl) ⟨_, _, rfl, ?_⟩
                                          first
                                          | (exfalso; omega)
                                          | (obtain ⟨e1, e2⟩ := Q1x hQ96 (by omega)
                                             subst e2
                                             exact ⟨_, rfl, jq_f (by rw [e1]; simp; omega), fun _ => ha96, hf96⟩)
                                        · skip
                                          refine jv_iconst (pc' := 168) (n := 1) rfl rfl ?_
                                          refine jx_step (pc' := 172) rfl ?_
                                          refine jv_retZ rfl rfl (by first | exact Or.inl rfl | exact Or.inr rfl) ⟨_, _, rfl, ?_⟩
                                          first
                                          | (exfalso; omega)
                                          | (obtain ⟨e1, e2⟩ := Q1x hQ96 (by omega)
                                             subst e2
                                             exact ⟨_, rfl, jq_t (by rw [e1]; simp; omega), fun _ => ha96, hf96⟩)
                            · skip
                              exact absurd hz_73 (by decide)
                          · subst hHK
                            have hHK : HK (true :: r0) := Or.inr ⟨r0, rfl⟩
                            have hlen : r0.length + 1 ≤ 8 := hb2
                            show jx L xs _ 124 97 _ [.int (iI ((r0.length + 1 : Nat) : Int))] _ _
                            refine jv_if_le (t := 134) (pc' := 100) (a := ((r0.length + 1 : Nat) : Int)) rfl rfl rfl (by omega) (fun hz_88 => ?_) (fun hz_88 => ?_)
                            · skip
                              refine jv_aload_n (pc' := 135) (k := 0) (x := 103) rfl rfl rfl hf0 ?_
                              refine jv_bipush (pc' := 137) (n := 38) rfl rfl rfl ?_
                              have hm89 := MT_c T96 (a1)
                              have ho89 := MT_or T96 (a1)
                              by_cases hk90 : c (a1) = 38
                              · skip
                                refine jv_call (pc' := 140) rfl (ml_takes_y (I := I1) (a := a1) (x := 38) (by omega) T96 ha96 (by omega) hk90) (fun vq91 gq91 q91 => ?_)
                                obtain ⟨rfl, rfl⟩ := q91
                                show jx L xs _ 124 140 _ [.int (iI 1)] _ _
                                refine jv_if_ne (t := 173) (pc' := 143) (a := 1) rfl rfl rfl (by omega) (fun hz_92 => ?_) (fun hz_92 => ?_)
                                · skip
                                  obtain ⟨k3, e3, hQ3⟩ := Q1j hQ96 hHK (by omega)
                                  refine jx_step (pc' := 7) rfl ?_
                                  exact ih7 k3 (a1 + 1) (true :: r0) (jm_u I1 103 19 (iI ((a1 + 1 : Nat) : Int))) (by omega) (fr_u (by simp [wQ]) hf96) rfl (OQ_c hO96 (fun i _ => rfl)) hQ3 (by omega) _ hf0 hf1 
                                · skip
                                  exact absurd hz_92 (by decide)
                              · skip
                                refine jv_call (pc' := 140) rfl (ml_takes_n (I := I1) (a := a1) (x := 38) (by omega) T96 ha96 (by omega) hk90) (fun vq93 gq93 q93 => ?_)
                                obtain ⟨rfl, rfl⟩ := q93
                                show jx L xs _ 124 140 _ [.int (iI 0)] _ _
                                refine jv_if_ne (t := 173) (pc' := 143) (a := 0) rfl rfl rfl (by omega) (fun hz_94 => ?_) (fun hz_94 => ?_)
                                · skip
                                  exact absurd hz_94 (by decide)
                                · skip
                                  refine jv_aload_n (pc' := 144) (k := 0) (x := 103) rfl rfl rfl hf0 ?_
                                  refine jv_bipush (pc' := 146) (n := 124) rfl rfl rfl ?_
                                  have hm95 := MT_c T96 (a1)
                                  have ho95 := MT_or T96 (a1)
                                  by_cases hk96 : c (a1) = 124
                                  · skip
                                    refine jv_call (pc' := 149) rfl (ml_takes_y (I := I1) (a := a1) (x := 124) (by omega) T96 ha96 (by omega) hk96) (fun vq97 gq97 q97 => ?_)
                                    obtain ⟨rfl, rfl⟩ := q97
                                    show jx L xs _ 124 149 _ [.int (iI 1)] _ _
                                    refine jv_if_ne (t := 173) (pc' := 152) (a := 1) rfl rfl rfl (by omega) (fun hz_98 => ?_) (fun hz_98 => ?_)
                                    · skip
                                      obtain ⟨k3, e3, hQ3⟩ := Q1j hQ96 hHK (by omega)
                                      refine jx_step (pc' := 7) rfl ?_
                                      exact ih7 k3 (a1 + 1) (true :: r0) (jm_u I1 103 19 (iI ((a1 + 1 : Nat) : Int))) (by omega) (fr_u (by simp [wQ]) hf96) rfl (OQ_c hO96 (fun i _ => rfl)) hQ3 (by omega) _ hf0 hf1 
                                    · skip
                                      exact absurd hz_98 (by decide)
                                  · skip
                                    refine jv_call (pc' := 149) rfl (ml_takes_n (I := I1) (a := a1) (x := 124) (by omega) T96 ha96 (by omega) hk96) (fun vq99 gq99 q99 => ?_)
                                    obtain ⟨rfl, rfl⟩ := q99
                                    show jx L xs _ 124 149 _ [.int (iI 0)] _ _
                                    refine jv_if_ne (t := 173) (pc' := 152) (a := 0) rfl rfl rfl (by omega) (fun hz_100 => ?_) (fun hz_100 => ?_)
                                    · skip
                                      exact absurd hz_100 (by decide)
                                    · skip
                                      refine jv_iload_n (pc' := 153) (k := 1) (x := (iI ((r0.length + 1 : Nat) : Int))) rfl rfl rfl hf1 ?_
                                      refine jv_if_ne (t := 171) (pc' := 156) (a := ((r0.length + 1 : Nat) : Int)) rfl rfl rfl (by omega) (fun hz_101 => ?_) (fun hz_101 => ?_)
                                      · skip
                                        refine jv_iconst (pc' := 172) (n := 0) rfl rfl ?_
                                        refine jv_retZ rfl rfl (by first | exact Or.inl rfl | exact Or.inr rfl) ⟨_, _, rfl, ?_⟩
                                        first
                                        | (exfalso; omega)
                                        | (obtain ⟨e1, e2⟩ := Q1y hQ96 (by omega)
                                           subst e1; subst e2
                                           exact ⟨_, rfl, jq_f (by simp), fun _ => ha96, hf96⟩)
                                      · skip
                                        refine jv_aload_n (pc' := 157) (k := 0) (x := 103) rfl rfl rfl hf0 ?_
                                        refine jv_getI (pc' := 160) (c := 12) (k := 19) (v := (iI ((a1 : Nat) : Int))) rfl rfl rfl (fun _ _ => rfl) rfl rfl ha96 ?_
                                        refine jv_aload_n (pc' := 161) (k := 0) (x := 103) rfl rfl rfl hf0 ?_
                                        refine jv_getI (pc' := 164) (c := 12) (k := 18) (v := (iI (n : Int))) rfl rfl rfl (fun _ _ => rfl) rfl rfl T96.1 ?_
                                        refine jv_ic_ne (t := 171) (pc' := 167) (a := ((a1 : Nat) : Int)) (b := (n : Int)) rfl rfl rfl (by omega) (fun hz_102 => ?_) (fun hz_102 => ?_)
                                        · skip
                                          refine jv_iconst (pc' := 172) (n := 0) rfl rfl ?_
                                          refine jv_retZ rfl rfl (by first | exact Or.inl rfl | exact Or.inr rfl) ⟨_, _, rfl, ?_⟩
                                          first
                                          | (exfalso; omega)
                                          | (obtain ⟨e1, e2⟩ := Q1y hQ96 (by omega)
                                             subst e1; subst e2
                                             exact ⟨_, rfl, jq_f (by simp), fun _ => ha96, hf96⟩)
                                        · skip
                                          refine jv_iconst (pc' := 168) (n := 1) rfl rfl ?_
                                          refine jx_step (pc' := 172) rfl ?_
                                          refine jv_retZ rfl rfl (by first | exact Or.inl rfl | exact Or.inr rfl) ⟨_, _, rfl, ?_⟩
                                          first
                                          | (exfalso; omega)
                                          | (obtain ⟨e1, e2⟩ := Q1y hQ96 (by omega)
                                             subst e1; subst e2
                                             exact ⟨_, rfl, jq_f (by simp), fun _ => ha96, hf96⟩)
                            · skip
                              refine jv_aload_n (pc' := 101) (k := 0) (x := 103) rfl rfl rfl hf0 ?_
                              refine jv_bipush (pc' := 103) (n := 41) rfl rfl rfl ?_
                              have hm103 := MT_c T96 (a1)
                              have ho103 := MT_or T96 (a1)
                              by_cases hk104 : c (a1) = 41
                              · skip
                                refine jv_call (pc' := 106) rfl (ml_takes_y (I := I1) (a := a1) (x := 41) (by omega) T96 ha96 (by omega) hk104) (fun vq105 gq105 q105 => ?_)
                                obtain ⟨rfl, rfl⟩ := q105
                                show jx L xs _ 124 106 _ [.int (iI 1)] _ _
                                refine jv_if_eq (t := 134) (pc' := 109) (a := 1) rfl rfl rfl (by omega) (fun hz_106 => ?_) (fun hz_106 => ?_)
                                · skip
                                  exact absurd hz_106 (by decide)
                                · skip
                                  refine jv_iinc (pc' := 112) (k := 1) (a := ((r0.length + 1 : Nat) : Int)) rfl rfl hf1 rfl (Or.inr (congrArg jm_lng hf0)) ?_
                                  obtain ⟨k4, e4, hQ4⟩ := Q1e hQ96 (by assumption)
                                  have H107 : ∀ (N112 : Nat) (k1 : Nat) (a1 : Nat) (ks : List Bool) (I1 : Nat → Nat → Int32), k1 < N112 → (fr wQ I I1) → (I1 103 19 = iI ((a1 : Nat) : Int)) → (OQ I1 ks) → (QE c n k1 1 a1 ks ok e) → (k1 < N96) → (k1 < N7) → (a1 ≤ n) → ∀ f : jm_F, f 0 = some (.ref 103) → f 1 = some (.int (iI ((ks.length : Nat) : Int))) → jx L xs ((d + 4)) 124 112 f [] (jx_G j I1 M p) (fun z => ∃ v g1, z = (.inl v, g1) ∧ (fun v g1 => ∃ I', g1 = jx_G j I' M p ∧ v = some (.int (jb (ok = true))) ∧ (ok = false → I' 103 19 = iI ((e : Nat) : Int)) ∧ fr wQ I I') v g1) := by
                                    intro N112
                                    induction N112 with
                                    | zero => intro k1 a1 ks I1 hN112; exact absurd hN112 (Nat.not_lt_zero _)
                                    | succ N112 ih112 =>
                                      intro k1 a1 ks I1 hN112 hf112 ha112 hO112 hQ112 hk112 hk7 han f hf0 hf1 
                                      refine jv_iload_n (pc' := 113) (k := 1) (x := (iI ((ks.length : Nat) : Int))) rfl rfl rfl hf1 ?_
                                      have hB := QE_QB hQ112
                                      have hb1 := hB.1
                                      have hb2 := hB.2
                                      have T112 : MT I1 c n := MT_fr hT hf112 (by simp [wQ]) (by intro k; simp [wQ])
                                      rcases ks with _ | ⟨b0, r0⟩
                                      · skip
                                        show jx L xs _ 124 113 _ [.int (iI 0)] _ _
                                        refine jv_if_le (t := 96) (pc' := 116) (a := 0) rfl rfl rfl (by omega) (fun hz_108 => ?_) (fun hz_108 => ?_)
                                        · skip
                                          exact ih96 k1 a1 ([]) I1 (by omega) hf112 ha112 hO112 hQ112 (by omega) han (Or.inl rfl) _ hf0 hf1 
                                        · skip
                                          exact absurd hz_108 (by decide)
                                      · rcases b0 with _ | _
                                        · skip
                                          have hlen : r0.length + 1 ≤ 8 := hb2
                                          obtain ⟨k4, e4, hQ4⟩ := Q1f hQ112
                                          show jx L xs _ 124 113 _ [.int (iI ((r0.length + 1 : Nat) : Int))] _ _
                                          refine jv_if_le (t := 96) (pc' := 116) (a := ((r0.length + 1 : Nat) : Int)) rfl rfl rfl (by omega) (fun hz_109 => ?_) (fun hz_109 => ?_)
                                          · skip
                                            exfalso; omega
                                          · skip
                                            refine jv_aload_n (pc' := 117) (k := 0) (x := 103) rfl rfl rfl hf0 ?_
                                            refine jv_getR (pc' := 120) (c := 12) (k := 21) (v := 118) rfl rfl rfl (fun _ _ => rfl) rfl rfl (jR_103_21 _) ?_
                                            refine jv_iload_n (pc' := 121) (k := 1) (x := (iI ((r0.length + 1 : Nat) : Int))) rfl rfl rfl hf1 ?_
                                            refine jv_iconst (pc' := 122) (n := 1) rfl rfl ?_
                                            refine jv_isub (pc' := 123) (a := ((r0.length + 1 : Nat) : Int)) (b := 1) rfl rfl ?_
                                            refine jv_iaload (pc' := 124) (n := 16) (e := (((r0.length + 1 : Nat) : Int) - 1)) (v := (iI 1)) rfl rfl (by decide) rfl rfl rfl (by omega) ((congrArg (I1 118) (show (((r0.length + 1 : Nat) : Int) - 1 : Int).toNat = r0.length by omega)).trans hO112.1) ?_
                                            refine jv_iconst (pc' := 125) (n := 1) rfl rfl ?_
                                            refine jv_ic_ne (t := 96) (pc' := 128) (a := 1) (b := 1) rfl rfl rfl (by omega) (fun hz_110 => ?_) (fun hz_110 => ?_)
                                            · skip
                                              exact absurd hz_110 (by decide)
                                            · skip
                                              refine jv_iinc (pc' := 131) (k := 1) (a := ((r0.length + 1 : Nat) : Int)) rfl rfl hf1 rfl (Or.inr (congrArg jm_lng hf0)) ?_
                                              refine jx_step (pc' := 112) rfl ?_
                                              exact ih112 k4 a1 r0 I1 (by omega) hf112 ha112 hO112.2 hQ4 (by omega) (by omega) han _ hf0 (congrArg (fun z => some (Value.int (iI z))) (show ((r0.length + 1 : Nat) : Int) + (-1) = ((r0.length : Nat) : Int) by omega)) 
                                        · skip
                                          have hlen : r0.length + 1 ≤ 8 := hb2
                                          show jx L xs _ 124 113 _ [.int (iI ((r0.length + 1 : Nat) : Int))] _ _
                                          refine jv_if_le (t := 96) (pc' := 116) (a := ((r0.length + 1 : Nat) : Int)) rfl rfl rfl (by omega) (fun hz_111 => ?_) (fun hz_111 => ?_)
                                          · skip
                                            exact ih96 k1 a1 (true :: r0) I1 (by omega) hf112 ha112 hO112 hQ112 (by omega) han (Or.inr ⟨r0, rfl⟩) _ hf0 hf1 
                                          · skip
                                            refine jv_aload_n (pc' := 117) (k := 0) (x := 103) rfl rfl rfl hf0 ?_
                                            refine jv_getR (pc' := 120) (c := 12) (k := 21) (v := 118) rfl rfl rfl (fun _ _ => rfl) rfl rfl (jR_103_21 _) ?_
                                            refine jv_iload_n (pc' := 121) (k := 1) (x := (iI ((r0.length + 1 : Nat) : Int))) rfl rfl rfl hf1 ?_
                                            refine jv_iconst (pc' := 122) (n := 1) rfl rfl ?_
                                            refine jv_isub (pc' := 123) (a := ((r0.length + 1 : Nat) : Int)) (b := 1) rfl rfl ?_
                                            refine jv_iaload (pc' := 124) (n := 16) (e := (((r0.length + 1 : Nat) : Int) - 1)) (v := (iI 2)) rfl rfl (by decide) rfl rfl rfl (by omega) ((congrArg (I1 118) (show (((r0.length + 1 : Nat) : Int) - 1 : Int).toNat = r0.length by omega)).trans hO112.1) ?_
                                            refine jv_iconst (pc' := 125) (n := 1) rfl rfl ?_
                                            refine jv_ic_ne (t := 96) (pc' := 128) (a := 2) (b := 1) rfl rfl rfl (by omega) (fun hz_112 => ?_) (fun hz_112 => ?_)
                                            · skip
                                              exact ih96 k1 a1 (true :: r0) I1 (by omega) hf112 ha112 hO112 hQ112 (by omega) han (Or.inr ⟨r0, rfl⟩) _ hf0 hf1 
                                            · skip
                                              exact absurd hz_112 (by decide)
                                  exact H107 _ k4 (a1 + 1) r0 (jm_u I1 103 19 (iI ((a1 + 1 : Nat) : Int))) (Nat.lt_succ_self _) (fr_u (by simp [wQ]) hf96) rfl (OQ_c hO96.2 (fun i _ => rfl)) hQ4 (by omega) (by omega) (by omega) _ hf0 (congrArg (fun z => some (Value.int (iI z))) (show ((r0.length + 1 : Nat) : Int) + (-1) = ((r0.length : Nat) : Int) by omega)) 
                              · skip
                                refine jv_call (pc' := 106) rfl (ml_takes_n (I := I1) (a := a1) (x := 41) (by omega) T96 ha96 (by omega) hk104) (fun vq113 gq113 q113 => ?_)
                                obtain ⟨rfl, rfl⟩ := q113
                                show jx L xs _ 124 106 _ [.int (iI 0)] _ _
                                refine jv_if_eq (t := 134) (pc' := 109) (a := 0) rfl rfl rfl (by omega) (fun hz_114 => ?_) (fun hz_114 => ?_)
                                · skip
                                  refine jv_aload_n (pc' := 135) (k := 0) (x := 103) rfl rfl rfl hf0 ?_
                                  refine jv_bipush (pc' := 137) (n := 38) rfl rfl rfl ?_
                                  have hm115 := MT_c T96 (a1)
                                  have ho115 := MT_or T96 (a1)
                                  by_cases hk116 : c (a1) = 38
                                  · skip
                                    refine jv_call (pc' := 140) rfl (ml_takes_y (I := I1) (a := a1) (x := 38) (by omega) T96 ha96 (by omega) hk116) (fun vq117 gq117 q117 => ?_)
                                    obtain ⟨rfl, rfl⟩ := q117
                                    show jx L xs _ 124 140 _ [.int (iI 1)] _ _
                                    refine jv_if_ne (t := 173) (pc' := 143) (a := 1) rfl rfl rfl (by omega) (fun hz_118 => ?_) (fun hz_118 => ?_)
                                    · skip
                                      obtain ⟨k3, e3, hQ3⟩ := Q1j hQ96 hHK (by omega)
                                      refine jx_step (pc' := 7) rfl ?_
                                      exact ih7 k3 (a1 + 1) (true :: r0) (jm_u I1 103 19 (iI ((a1 + 1 : Nat) : Int))) (by omega) (fr_u (by simp [wQ]) hf96) rfl (OQ_c hO96 (fun i _ => rfl)) hQ3 (by omega) _ hf0 hf1 
                                    · skip
                                      exact absurd hz_118 (by decide)
                                  · skip
                                    refine jv_call (pc' := 140) rfl (ml_takes_n (I := I1) (a := a1) (x := 38) (by omega) T96 ha96 (by omega) hk116) (fun vq119 gq119 q119 => ?_)
                                    obtain ⟨rfl, rfl⟩ := q119
                                    show jx L xs _ 124 140 _ [.int (iI 0)] _ _
                                    refine jv_if_ne (t := 173) (pc' := 143) (a := 0) rfl rfl rfl (by omega) (fun hz_120 => ?_) (fun hz_120 => ?_)
                                    · skip
                                      exact absurd hz_120 (by decide)
                                    · skip
                                      refine jv_aload_n (pc' := 144) (k := 0) (x := 103) rfl rfl rfl hf0 ?_
                                      refine jv_bipush (pc' := 146) (n := 124) rfl rfl rfl ?_
                                      have hm121 := MT_c T96 (a1)
                                      have ho121 := MT_or T96 (a1)
                                      by_cases hk122 : c (a1) = 124
                                      · skip
                                        refine jv_call (pc' := 149) rfl (ml_takes_y (I := I1) (a := a1) (x := 124) (by omega) T96 ha96 (by omega) hk122) (fun vq123 gq123 q123 => ?_)
                                        obtain ⟨rfl, rfl⟩ := q123
                                        show jx L xs _ 124 149 _ [.int (iI 1)] _ _
                                        refine jv_if_ne (t := 173) (pc' := 152) (a := 1) rfl rfl rfl (by omega) (fun hz_124 => ?_) (fun hz_124 => ?_)
                                        · skip
                                          obtain ⟨k3, e3, hQ3⟩ := Q1j hQ96 hHK (by omega)
                                          refine jx_step (pc' := 7) rfl ?_
                                          exact ih7 k3 (a1 + 1) (true :: r0) (jm_u I1 103 19 (iI ((a1 + 1 : Nat) : Int))) (by omega) (fr_u (by simp [wQ]) hf96) rfl (OQ_c hO96 (fun i _ => rfl)) hQ3 (by omega) _ hf0 hf1 
                                        · skip
                                          exact absurd hz_124 (by decide)
                                      · skip
                                        refine jv_call (pc' := 149) rfl (ml_takes_n (I := I1) (a := a1) (x := 124) (by omega) T96 ha96 (by omega) hk122) (fun vq125 gq125 q125 => ?_)
                                        obtain ⟨rfl, rfl⟩ := q125
                                        show jx L xs _ 124 149 _ [.int (iI 0)] _ _
                                        refine jv_if_ne (t := 173) (pc' := 152) (a := 0) rfl rfl rfl (by omega) (fun hz_126 => ?_) (fun hz_126 => ?_)
                                        · skip
                                          exact absurd hz_126 (by decide)
                                        · skip
                                          refine jv_iload_n (pc' := 153) (k := 1) (x := (iI ((r0.length + 1 : Nat) : Int))) rfl rfl rfl hf1 ?_
                                          refine jv_if_ne (t := 171) (pc' := 156) (a := ((r0.length + 1 : Nat) : Int)) rfl rfl rfl (by omega) (fun hz_127 => ?_) (fun hz_127 => ?_)
                                          · skip
                                            refine jv_iconst (pc' := 172) (n := 0) rfl rfl ?_
                                            refine jv_retZ rfl rfl (by first | exact Or.inl rfl | exact Or.inr rfl) ⟨_, _, rfl, ?_⟩
                                            first
                                            | (exfalso; omega)
                                            | (obtain ⟨e1, e2⟩ := Q1y hQ96 (by omega)
                                               subst e1; subst e2
                                               exact ⟨_, rfl, jq_f (by simp), fun _ => ha96, hf96⟩)
                                          · skip
                                            refine jv_aload_n (pc' := 157) (k := 0) (x := 103) rfl rfl rfl hf0 ?_
                                            refine jv_getI (pc' := 160) (c := 12) (k := 19) (v := (iI ((a1 : Nat) : Int))) rfl rfl rfl (fun _ _ => rfl) rfl rfl ha96 ?_
                                            refine jv_aload_n (pc' := 161) (k := 0) (x := 103) rfl rfl rfl hf0 ?_
                                            refine jv_getI (pc' := 164) (c := 12) (k := 18) (v := (iI (n : Int))) rfl rfl rfl (fun _ _ => rfl) rfl rfl T96.1 ?_
                                            refine jv_ic_ne (t := 171) (pc' := 167) (a := ((a1 : Nat) : Int)) (b := (n : Int)) rfl rfl rfl (by omega) (fun hz_128 => ?_) (fun hz_128 => ?_)
                                            · skip
                                              refine jv_iconst (pc' := 172) (n := 0) rfl rfl ?_
                                              refine jv_retZ rfl rfl (by first | exact Or.inl rfl | exact Or.inr rfl) ⟨_, _, rfl, ?_⟩
                                              first
                                              | (exfalso; omega)
                                              | (obtain ⟨e1, e2⟩ := Q1y hQ96 (by omega)
                                                 subst e1; subst e2
                                                 exact ⟨_, rfl, jq_f (by simp), fun _ => ha96, hf96⟩)
                                            · skip
                                              refine jv_iconst (pc' := 168) (n := 1) rfl rfl ?_
                                              refine jx_step (pc' := 172) rfl ?_
                                              refine jv_retZ rfl rfl (by first | exact Or.inl rfl | exact Or.inr rfl) ⟨_, _, rfl, ?_⟩
                                              first
                                              | (exfalso; omega)
                                              | (obtain ⟨e1, e2⟩ := Q1y hQ96 (by omega)
                                                 subst e1; subst e2
                                                 exact ⟨_, rfl, jq_f (by simp), fun _ => ha96, hf96⟩)
                                · skip
                                  exact absurd hz_114 (by decide)
                      exact H72 _ k1 a1 (true :: r0) I1 (Nat.lt_succ_self _) hf74 ha74 hO74 hQ74 (by omega) han (Or.inr ⟨r0, rfl⟩) _ hf0 hf1 
                    · skip
                      refine jv_aload_n (pc' := 79) (k := 0) (x := 103) rfl rfl rfl hf0 ?_
                      refine jv_getR (pc' := 82) (c := 12) (k := 21) (v := 118) rfl rfl rfl (fun _ _ => rfl) rfl rfl (jR_103_21 _) ?_
                      refine jv_iload_n (pc' := 83) (k := 1) (x := (iI ((r0.length + 1 : Nat) : Int))) rfl rfl rfl hf1 ?_
                      refine jv_iconst (pc' := 84) (n := 1) rfl rfl ?_
                      refine jv_isub (pc' := 85) (a := ((r0.length + 1 : Nat) : Int)) (b := 1) rfl rfl ?_
                      refine jv_iaload (pc' := 86) (n := 16) (e := (((r0.length + 1 : Nat) : Int) - 1)) (v := (iI 2)) rfl rfl (by decide) rfl rfl rfl (by omega) ((congrArg (I1 118) (show (((r0.length + 1 : Nat) : Int) - 1 : Int).toNat = r0.length by omega)).trans hO74.1) ?_
                      refine jv_iconst (pc' := 87) (n := 1) rfl rfl ?_
                      refine jv_ic_ne (t := 96) (pc' := 90) (a := 2) (b := 1) rfl rfl rfl (by omega) (fun hz_129 => ?_) (fun hz_129 => ?_)
                      · skip
                        have H130 : ∀ (N96 : Nat) (k1 : Nat) (a1 : Nat) (ks : List Bool) (I1 : Nat → Nat → Int32), k1 < N96 → (fr wQ I I1) → (I1 103 19 = iI ((a1 : Nat) : Int)) → (OQ I1 ks) → (QE c n k1 1 a1 ks ok e) → (k1 < N7) → (a1 ≤ n) → (HK ks) → ∀ f : jm_F, f 0 = some (.ref 103) → f 1 = some (.int (iI ((ks.length : Nat) : Int))) → jx L xs ((d + 4)) 124 96 f [] (jx_G j I1 M p) (fun z => ∃ v g1, z = (.inl v, g1) ∧ (fun v g1 => ∃ I', g1 = jx_G j I' M p ∧ v = some (.int (jb (ok = true))) ∧ (ok = false → I' 103 19 = iI ((e : Nat) : Int)) ∧ fr wQ I I') v g1) := by
                          intro N96
                          induction N96 with
                          | zero => intro k1 a1 ks I1 hN96; exact absurd hN96 (Nat.not_lt_zero _)
                          | succ N96 ih96 =>
                            intro k1 a1 ks I1 hN96 hf96 ha96 hO96 hQ96 hk96 han hHK f hf0 hf1 
                            refine jv_iload_n (pc' := 97) (k := 1) (x := (iI ((ks.length : Nat) : Int))) rfl rfl rfl hf1 ?_
                            have hB := QE_QB hQ96
                            have hb1 := hB.1
                            have hb2 := hB.2
                            have T96 : MT I1 c n := MT_fr hT hf96 (by simp [wQ]) (by intro k; simp [wQ])
                            rcases hHK with hHK | ⟨r0, hHK⟩
                            · subst hHK
                              have hHK : HK [] := Or.inl rfl
                              show jx L xs _ 124 97 _ [.int (iI 0)] _ _
                              refine jv_if_le (t := 134) (pc' := 100) (a := 0) rfl rfl rfl (by omega) (fun hz_131 => ?_) (fun hz_131 => ?_)
                              · skip
                                refine jv_aload_n (pc' := 135) (k := 0) (x := 103) rfl rfl rfl hf0 ?_
                                refine jv_bipush (pc' := 137) (n := 38) rfl rfl rfl ?_
                                have hm132 := MT_c T96 (a1)
                                have ho132 := MT_or T96 (a1)
                                by_cases hk133 : c (a1) = 38
                                · skip
                                  refine jv_call (pc' := 140) rfl (ml_takes_y (I := I1) (a := a1) (x := 38) (by omega) T96 ha96 (by omega) hk133) (fun vq134 gq134 q134 => ?_)
                                  obtain ⟨rfl, rfl⟩ := q134
                                  show jx L xs _ 124 140 _ [.int (iI 1)] _ _
                                  refine jv_if_ne (t := 173) (pc' := 143) (a := 1) rfl rfl rfl (by omega) (fun hz_135 => ?_) (fun hz_135 => ?_)
                                  · skip
                                    obtain ⟨k3, e3, hQ3⟩ := Q1j hQ96 hHK (by omega)
                                    refine jx_step (pc' := 7) rfl ?_
                                    exact ih7 k3 (a1 + 1) ([]) (jm_u I1 103 19 (iI ((a1 + 1 : Nat) : Int))) (by omega) (fr_u (by simp [wQ]) hf96) rfl (OQ_c hO96 (fun i _ => rfl)) hQ3 (by omega) _ hf0 hf1 
                                  · skip
                                    exact absurd hz_135 (by decide)
                                · skip
                                  refine jv_call (pc' := 140) rfl (ml_takes_n (I := I1) (a := a1) (x := 38) (by omega) T96 ha96 (by omega) hk133) (fun vq136 gq136 q136 => ?_)
                                  obtain ⟨rfl, rfl⟩ := q136
                                  show jx L xs _ 124 140 _ [.int (iI 0)] _ _
                                  refine jv_if_ne (t := 173) (pc' := 143) (a := 0) rfl rfl rfl (by omega) (fun hz_137 => ?_) (fun hz_137 => ?_)
                                  · skip
                                    exact absurd hz_137 (by decide)
                                  · skip
                                    refine jv_aload_n (pc' := 144) (k := 0) (x := 103) rfl rfl rfl hf0 ?_
                                    refine jv_bipush (pc' := 146) (n := 124) rfl rfl rfl ?_
                                    have hm138 := MT_c T96 (a1)
                                    have ho138 := MT_or T96 (a1)
                                    by_cases hk139 : c (a1) = 124
                                    · skip
                                      refine jv_call (pc' := 149) rfl (ml_takes_y (I := I1) (a := a1) (x := 124) (by omega) T96 ha96 (by omega) hk139) (fun vq140 gq140 q140 => ?_)
                                      obtain ⟨rfl, rfl⟩ := q140
                                      show jx L xs _ 124 149 _ [.int (iI 1)] _ _
                                      refine jv_if_ne (t := 173) (pc' := 152) (a := 1) rfl rfl rfl (by omega) (fun hz_141 => ?_) (fun hz_141 => ?_)
                                      · skip
                                        obtain ⟨k3, e3, hQ3⟩ := Q1j hQ96 hHK (by omega)
                                        refine jx_step (pc' := 7) rfl ?_
                                        exact ih7 k3 (a1 + 1) ([]) (jm_u I1 103 19 (iI ((a1 + 1 : Nat) : Int))) (by omega) (fr_u (by simp [wQ]) hf96) rfl (OQ_c hO96 (fun i _ => rfl)) hQ3 (by omega) _ hf0 hf1 
                                      · skip
                                        exact absurd hz_141 (by decide)
                                    · skip
                                      refine jv_call (pc' := 149) rfl (ml_takes_n (I := I1) (a := a1) (x := 124) (by omega) T96 ha96 (by omega) hk139) (fun vq142 gq142 q142 => ?_)
                                      obtain ⟨rfl, rfl⟩ := q142
                                      show jx L xs _ 124 149 _ [.int (iI 0)] _ _
                                      refine jv_if_ne (t := 173) (pc' := 152) (a := 0) rfl rfl rfl (by omega) (fun hz_143 => ?_) (fun hz_143 => ?_)
                                      · skip
                                        exact absurd hz_143 (by decide)
                                      · skip
                                        refine jv_iload_n (pc' := 153) (k := 1) (x := (iI 0)) rfl rfl rfl hf1 ?_
                                        refine jv_if_ne (t := 171) (pc' := 156) (a := 0) rfl rfl rfl (by omega) (fun hz_144 => ?_) (fun hz_144 => ?_)
                                        · skip
                                          exact absurd hz_144 (by decide)
                                        · skip
                                          refine jv_aload_n (pc' := 157) (k := 0) (x := 103) rfl rfl rfl hf0 ?_
                                          refine jv_getI (pc' := 160) (c := 12) (k := 19) (v := (iI ((a1 : Nat) : Int))) rfl rfl rfl (fun _ _ => rfl) rfl rfl ha96 ?_
                                          refine jv_aload_n (pc' := 161) (k := 0) (x := 103) rfl rfl rfl hf0 ?_
                                          refine jv_getI (pc' := 164) (c := 12) (k := 18) (v := (iI (n : Int))) rfl rfl rfl (fun _ _ => rfl) rfl rfl T96.1 ?_
                                          refine jv_ic_ne (t := 171) (pc' := 167) (a := ((a1 : Nat) : Int)) (b := (n : Int)) rfl rfl rfl (by omega) (fun hz_145 => ?_) (fun hz_145 => ?_)
                                          · skip
                                            refine jv_iconst (pc' := 172) (n := 0) rfl rfl ?_
                                            refine jv_retZ rfl rfl (by first | exact Or.inl rfl | exact Or.inr rfl) ⟨_, _, rfl, ?_⟩
                                            first
                                            | (exfalso; omega)
                                            | (obtain ⟨e1, e2⟩ := Q1x hQ96 (by omega)
                                               subst e2
                                               exact ⟨_, rfl, jq_f (by rw [e1]; simp; omega), fun _ => ha96, hf96⟩)
                                          · skip
                                            refine jv_iconst (pc' := 168) (n := 1) rfl rfl ?_
                                            refine jx_step (pc' := 172) rfl ?_
                                            refine jv_retZ rfl rfl (by first | exact Or.inl rfl | exact Or.inr rfl) ⟨_, _, rfl, ?_⟩
                                            first
                                            | (exfalso; omega)
                                            | (obtain ⟨e1, e2⟩ := Q1x hQ96 (by omega)
                                               subst e2
                                               exact ⟨_, rfl, jq_t (by rw [e1]; simp; omega), fun _ => ha96, hf96⟩)
                              · skip
                                exact absurd hz_131 (by decide)
                            · subst hHK
                              have hHK : HK (true :: r0) := Or.inr ⟨r0, rfl⟩
                              have hlen : r0.length + 1 ≤ 8 := hb2
                              show jx L xs _ 124 97 _ [.int (iI ((r0.length + 1 : Nat) : Int))] _ _
                              refine jv_if_le (t := 134) (pc' := 100) (a := ((r0.length + 1 : Nat) : Int)) rfl rfl rfl (by omega) (fun hz_146 => ?_) (fun hz_146 => ?_)
                              · skip
                                refine jv_aload_n (pc' := 135) (k := 0) (x := 103) rfl rfl rfl hf0 ?_
                                refine jv_bipush (pc' := 137) (n := 38) rfl rfl rfl ?_
                                have hm147 := MT_c T96 (a1)
                                have ho147 := MT_or T96 (a1)
                                by_cases hk148 : c (a1) = 38
                                · skip
                                  refine jv_call (pc' := 140) rfl (ml_takes_y (I := I1) (a := a1) (x := 38) (by omega) T96 ha96 (by omega) hk148) (fun vq149 gq149 q149 => ?_)
                                  obtain ⟨rfl, rfl⟩ := q149
                                  show jx L xs _ 124 140 _ [.int (iI 1)] _ _
                                  refine jv_if_ne (t := 173) (pc' := 143) (a := 1) rfl rfl rfl (by omega) (fun hz_150 => ?_) (fun hz_150 => ?_)
                                  · skip
                                    obtain ⟨k3, e3, hQ3⟩ := Q1j hQ96 hHK (by omega)
                                    refine jx_step (pc' := 7) rfl ?_
                                    exact ih7 k3 (a1 + 1) (true :: r0) (jm_u I1 103 19 (iI ((a1 + 1 : Nat) : Int))) (by omega) (fr_u (by simp [wQ]) hf96) rfl (OQ_c hO96 (fun i _ => rfl)) hQ3 (by omega) _ hf0 hf1 
                                  · skip
                                    exact absurd hz_150 (by decide)
                                · skip
                                  refine jv_call (pc' := 140) rfl (ml_takes_n (I := I1) (a := a1) (x := 38) (by omega) T96 ha96 (by omega) hk148) (fun vq151 gq151 q151 => ?_)
                                  obtain ⟨rfl, rfl⟩ := q151
                                  show jx L xs _ 124 140 _ [.int (iI 0)] _ _
                                  refine jv_if_ne (t := 173) (pc' := 143) (a := 0) rfl rfl rfl (by omega) (fun hz_152 => ?_) (fun hz_152 => ?_)
                                  · skip
                                    exact absurd hz_152 (by decide)
                                  · skip
                                    refine jv_aload_n (pc' := 144) (k := 0) (x := 103) rfl rfl rfl hf0 ?_
                                    refine jv_bipush (pc' := 146) (n := 124) rfl rfl rfl ?_
                                    have hm153 := MT_c T96 (a1)
                                    have ho153 := MT_or T96 (a1)
                                    by_cases hk154 : c (a1) = 124
                                    · skip
                                      refine jv_call (pc' := 149) rfl (ml_takes_y (I := I1) (a := a1) (x := 124) (by omega) T96 ha96 (by omega) hk154) (fun vq155 gq155 q155 => ?_)
                                      obtain ⟨rfl, rfl⟩ := q155
                                      show jx L xs _ 124 149 _ [.int (iI 1)] _ _
                                      refine jv_if_ne (t := 173) (pc' := 152) (a := 1) rfl rfl rfl (by omega) (fun hz_156 => ?_) (fun hz_156 => ?_)
                                      · skip
                                        obtain ⟨k3, e3, hQ3⟩ := Q1j hQ96 hHK (by omega)
                                        refine jx_step (pc' := 7) rfl ?_
                                        exact ih7 k3 (a1 + 1) (true :: r0) (jm_u I1 103 19 (iI ((a1 + 1 : Nat) : Int))) (by omega) (fr_u (by simp [wQ]) hf96) rfl (OQ_c hO96 (fun i _ => rfl)) hQ3 (by omega) _ hf0 hf1 
                                      · skip
                                        exact absurd hz_156 (by decide)
                                    · skip
                                      refine jv_call (pc' := 149) rfl (ml_takes_n (I := I1) (a := a1) (x := 124) (by omega) T96 ha96 (by omega) hk154) (fun vq157 gq157 q157 => ?_)
                                      obtain ⟨rfl, rfl⟩ := q157
                                      show jx L xs _ 124 149 _ [.int (iI 0)] _ _
                                      refine jv_if_ne (t := 173) (pc' := 152) (a := 0) rfl rfl rfl (by omega) (fun hz_158 => ?_) (fun hz_158 => ?_)
                                      · skip
                                        exact absurd hz_158 (by decide)
                                      · skip
                                        refine jv_iload_n (pc' := 153) (k := 1) (x := (iI ((r0.length + 1 : Nat) : Int))) rfl rfl rfl hf1 ?_
                                        refine jv_if_ne (t := 171) (pc' := 156) (a := ((r0.length + 1 : Nat) : Int)) rfl rfl rfl (by omega) (fun hz_159 => ?_) (fun hz_159 => ?_)
                                        · skip
                                          refine jv_iconst (pc' := 172) (n := 0) rfl rfl ?_
                                          refine jv_retZ rfl rfl (by first | exact Or.inl rfl | exact Or.inr rfl) ⟨_, _, rfl, ?_⟩
                                          first
                                          | (exfalso; omega)
                                          | (obtain ⟨e1, e2⟩ := Q1y hQ96 (by omega)
                                             subst e1; subst e2
                                             exact ⟨_, rfl, jq_f (by simp), fun _ => ha96, hf96⟩)
                                        · skip
                                          refine jv_aload_n (pc' := 157) (k := 0) (x := 103) rfl rfl rfl hf0 ?_
                                          refine jv_getI (pc' := 160) (c := 12) (k := 19) (v := (iI ((a1 : Nat) : Int))) rfl rfl rfl (fun _ _ => rfl) rfl rfl ha96 ?_
                                          refine jv_aload_n (pc' := 161) (k := 0) (x := 103) rfl rfl rfl hf0 ?_
                                          refine jv_getI (pc' := 164) (c := 12) (k := 18) (v := (iI (n : Int))) rfl rfl rfl (fun _ _ => rfl) rfl rfl T96.1 ?_
                                          refine jv_ic_ne (t := 171) (pc' := 167) (a := ((a1 : Nat) : Int)) (b := (n : Int)) rfl rfl rfl (by omega) (fun hz_160 => ?_) (fun hz_160 => ?_)
                                          · skip
                                            refine jv_iconst (pc' := 172) (n := 0) rfl rfl ?_
                                            refine jv_retZ rfl rfl (by first | exact Or.inl rfl | exact Or.inr rfl) ⟨_, _, rfl, ?_⟩
                                            first
                                            | (exfalso; omega)
                                            | (obtain ⟨e1, e2⟩ := Q1y hQ96 (by omega)
                                               subst e1; subst e2
                                               exact ⟨_, rfl, jq_f (by simp), fun _ => ha96, hf96⟩)
                                          · skip
                                            refine jv_iconst (pc' := 168) (n := 1) rfl rfl ?_
                                            refine jx_step (pc' := 172) rfl ?_
                                            refine jv_retZ rfl rfl (by first | exact Or.inl rfl | exact Or.inr rfl) ⟨_, _, rfl, ?_⟩
                                            first
                                            | (exfalso; omega)
                                            | (obtain ⟨e1, e2⟩ := Q1y hQ96 (by omega)
                                               subst e1; subst e2
                                               exact ⟨_, rfl, jq_f (by simp), fun _ => ha96, hf96⟩)
                              · skip
                                refine jv_aload_n (pc' := 101) (k := 0) (x := 103) rfl rfl rfl hf0 ?_
                                refine jv_bipush (pc' := 103) (n := 41) rfl rfl rfl ?_
                                have hm161 := MT_c T96 (a1)
                                have ho161 := MT_or T96 (a1)
                                by_cases hk162 : c (a1) = 41
                                · skip
                                  refine jv_call (pc' := 106) rfl (ml_takes_y (I := I1) (a := a1) (x := 41) (by omega) T96 ha96 (by omega) hk162) (fun vq163 gq163 q163 => ?_)
                                  obtain ⟨rfl, rfl⟩ := q163
                                  show jx L xs _ 124 106 _ [.int (iI 1)] _ _
                                  refine jv_if_eq (t := 134) (pc' := 109) (a := 1) rfl rfl rfl (by omega) (fun hz_164 => ?_) (fun hz_164 => ?_)
                                  · skip
                                    exact absurd hz_164 (by decide)
                                  · skip
                                    refine jv_iinc (pc' := 112) (k := 1) (a := ((r0.length + 1 : Nat) : Int)) rfl rfl hf1 rfl (Or.inr (congrArg jm_lng hf0)) ?_
                                    obtain ⟨k4, e4, hQ4⟩ := Q1e hQ96 (by assumption)
                                    have H165 : ∀ (N112 : Nat) (k1 : Nat) (a1 : Nat) (ks : List Bool) (I1 : Nat → Nat → Int32), k1 < N112 → (fr wQ I I1) → (I1 103 19 = iI ((a1 : Nat) : Int)) → (OQ I1 ks) → (QE c n k1 1 a1 ks ok e) → (k1 < N96) → (k1 < N7) → (a1 ≤ n) → ∀ f : jm_F, f 0 = some (.ref 103) → f 1 = some (.int (iI ((ks.length : Nat) : Int))) → jx L xs ((d + 4)) 124 112 f [] (jx_G j I1 M p) (fun z => ∃ v g1, z = (.inl v, g1) ∧ (fun v g1 => ∃ I', g1 = jx_G j I' M p ∧ v = some (.int (jb (ok = true))) ∧ (ok = false → I' 103 19 = iI ((e : Nat) : Int)) ∧ fr wQ I I') v g1) := by
                                      intro N112
                                      induction N112 with
                                      | zero => intro k1 a1 ks I1 hN112; exact absurd hN112 (Nat.not_lt_zero _)
                                      | succ N112 ih112 =>
                                        intro k1 a1 ks I1 hN112 hf112 ha112 hO112 hQ112 hk112 hk7 han f hf0 hf1 
                                        refine jv_iload_n (pc' := 113) (k := 1) (x := (iI ((ks.length : Nat) : Int))) rfl rfl rfl hf1 ?_
                                        have hB := QE_QB hQ112
                                        have hb1 := hB.1
                                        have hb2 := hB.2
                                        have T112 : MT I1 c n := MT_fr hT hf112 (by simp [wQ]) (by intro k; simp [wQ])
                                        rcases ks with _ | ⟨b0, r0⟩
                                        · skip
                                          show jx L xs _ 124 113 _ [.int (iI 0)] _ _
                                          refine jv_if_le (t := 96) (pc' := 116) (a := 0) rfl rfl rfl (by omega) (fun hz_166 => ?_) (fun hz_166 => ?_)
                                          · skip
                                            exact ih96 k1 a1 ([]) I1 (by omega) hf112 ha112 hO112 hQ112 (by omega) han (Or.inl rfl) _ hf0 hf1 
                                          · skip
                                            exact absurd hz_166 (by decide)
                                        · rcases b0 with _ | _
                                          · skip
                                            have hlen : r0.length + 1 ≤ 8 := hb2
                                            obtain ⟨k4, e4, hQ4⟩ := Q1f hQ112
                                            show jx L xs _ 124 113 _ [.int (iI ((r0.length + 1 : Nat) : Int))] _ _
                                            refine jv_if_le (t := 96) (pc' := 116) (a := ((r0.length + 1 : Nat) : Int)) rfl rfl rfl (by omega) (fun hz_167 => ?_) (fun hz_167 => ?_)
                                            · skip
                                              exfalso; omega
                                            · skip
                                              refine jv_aload_n (pc' := 117) (k := 0) (x := 103) rfl rfl rfl hf0 ?_
                                              refine jv_getR (pc' := 120) (c := 12) (k := 21) (v := 118) rfl rfl rfl (fun _ _ => rfl) rfl rfl (jR_103_21 _) ?_
                                              refine jv_iload_n (pc' := 121) (k := 1) (x := (iI ((r0.length + 1 : Nat) : Int))) rfl rfl rfl hf1 ?_
                                              refine jv_iconst (pc' := 122) (n := 1) rfl rfl ?_
                                              refine jv_isub (pc' := 123) (a := ((r0.length + 1 : Nat) : Int)) (b := 1) rfl rfl ?_
                                              refine jv_iaload (pc' := 124) (n := 16) (e := (((r0.length + 1 : Nat) : Int) - 1)) (v := (iI 1)) rfl rfl (by decide) rfl rfl rfl (by omega) ((congrArg (I1 118) (show (((r0.length + 1 : Nat) : Int) - 1 : Int).toNat = r0.length by omega)).trans hO112.1) ?_
                                              refine jv_iconst (pc' := 125) (n := 1) rfl rfl ?_
                                              refine jv_ic_ne (t := 96) (pc' := 128) (a := 1) (b := 1) rfl rfl rfl (by omega) (fun hz_168 => ?_) (fun hz_168 => ?_)
                                              · skip
                                                exact absurd hz_168 (by decide)
                                              · skip
                                                refine jv_iinc (pc' := 131) (k := 1) (a := ((r0.length + 1 : Nat) : Int)) rfl rfl hf1 rfl (Or.inr (congrArg jm_lng hf0)) ?_
                                                refine jx_step (pc' := 112) rfl ?_
                                                exact ih112 k4 a1 r0 I1 (by omega) hf112 ha112 hO112.2 hQ4 (by omega) (by omega) han _ hf0 (congrArg (fun z => some (Value.int (iI z))) (show ((r0.length + 1 : Nat) : Int) + (-1) = ((r0.length : Nat) : Int) by omega)) 
                                          · skip
                                            have hlen : r0.length + 1 ≤ 8 := hb2
                                            show jx L xs _ 124 113 _ [.int (iI ((r0.length + 1 : Nat) : Int))] _ _
                                            refine jv_if_le (t := 96) (pc' := 116) (a := ((r0.length + 1 : Nat) : Int)) rfl rfl rfl (by omega) (fun hz_169 => ?_) (fun hz_169 => ?_)
                                            · skip
                                              exact ih96 k1 a1 (true :: r0) I1 (by omega) hf112 ha112 hO112 hQ112 (by omega) han (Or.inr ⟨r0, rfl⟩) _ hf0 hf1 
                                            · skip
                                              refine jv_aload_n (pc' := 117) (k := 0) (x := 103) rfl rfl rfl hf0 ?_
                                              refine jv_getR (pc' := 120) (c := 12) (k := 21) (v := 118) rfl rfl rfl (fun _ _ => rfl) rfl rfl (jR_103_21 _) ?_
                                              refine jv_iload_n (pc' := 121) (k := 1) (x := (iI ((r0.length + 1 : Nat) : Int))) rfl rfl rfl hf1 ?_
                                              refine jv_iconst (pc' := 122) (n := 1) rfl rfl ?_
                                              refine jv_isub (pc' := 123) (a := ((r0.length + 1 : Nat) : Int)) (b := 1) rfl rfl ?_
                                              refine jv_iaload (pc' := 124) (n := 16) (e := (((r0.length + 1 : Nat) : Int) - 1)) (v := (iI 2)) rfl rfl (by decide) rfl rfl rfl (by omega) ((congrArg (I1 118) (show (((r0.length + 1 : Nat) : Int) - 1 : Int).toNat = r0.length by omega)).trans hO112.1) ?_
                                              refine jv_iconst (pc' := 125) (n := 1) rfl rfl ?_
                                              refine jv_ic_ne (t := 96) (pc' := 128) (a := 2) (b := 1) rfl rfl rfl (by omega) (fun hz_170 => ?_) (fun hz_170 => ?_)
                                              · skip
                                                exact ih96 k1 a1 (true :: r0) I1 (by omega) hf112 ha112 hO112 hQ112 (by omega) han (Or.inr ⟨r0, rfl⟩) _ hf0 hf1 
                                              · skip
                                                exact absurd hz_170 (by decide)
                                    exact H165 _ k4 (a1 + 1) r0 (jm_u I1 103 19 (iI ((a1 + 1 : Nat) : Int))) (Nat.lt_succ_self _) (fr_u (by simp [wQ]) hf96) rfl (OQ_c hO96.2 (fun i _ => rfl)) hQ4 (by omega) (by omega) (by omega) _ hf0 (congrArg (fun z => some (Value.int (iI z))) (show ((r0.length + 1 : Nat) : Int) + (-1) = ((r0.length : Nat) : Int) by omega)) 
                                · skip
                                  refine jv_call (pc' := 106) rfl (ml_takes_n (I := I1) (a := a1) (x := 41) (by omega) T96 ha96 (by omega) hk162) (fun vq171 gq171 q171 => ?_)
                                  obtain ⟨rfl, rfl⟩ := q171
                                  show jx L xs _ 124 106 _ [.int (iI 0)] _ _
                                  refine jv_if_eq (t := 134) (pc' := 109) (a := 0) rfl rfl rfl (by omega) (fun hz_172 => ?_) (fun hz_172 => ?_)
                                  · skip
                                    refine jv_aload_n (pc' := 135) (k := 0) (x := 103) rfl rfl rfl hf0 ?_
                                    refine jv_bipush (pc' := 137) (n := 38) rfl rfl rfl ?_
                                    have hm173 := MT_c T96 (a1)
                                    have ho173 := MT_or T96 (a1)
                                    by_cases hk174 : c (a1) = 38
                                    · skip
                                      refine jv_call (pc' := 140) rfl (ml_takes_y (I := I1) (a := a1) (x := 38) (by omega) T96 ha96 (by omega) hk174) (fun vq175 gq175 q175 => ?_)
                                      obtain ⟨rfl, rfl⟩ := q175
                                      show jx L xs _ 124 140 _ [.int (iI 1)] _ _
                                      refine jv_if_ne (t := 173) (pc' := 143) (a := 1) rfl rfl rfl (by omega) (fun hz_176 => ?_) (fun hz_176 => ?_)
                                      · skip
                                        obtain ⟨k3, e3, hQ3⟩ := Q1j hQ96 hHK (by omega)
                                        refine jx_step (pc' := 7) rfl ?_
                                        exact ih7 k3 (a1 + 1) (true :: r0) (jm_u I1 103 19 (iI ((a1 + 1 : Nat) : Int))) (by omega) (fr_u (by simp [wQ]) hf96) rfl (OQ_c hO96 (fun i _ => rfl)) hQ3 (by omega) _ hf0 hf1 
                                      · skip
                                        exact absurd hz_176 (by decide)
                                    · skip
                                      refine jv_call (pc' := 140) rfl (ml_takes_n (I := I1) (a := a1) (x := 38) (by omega) T96 ha96 (by omega) hk174) (fun vq177 gq177 q177 => ?_)
                                      obtain ⟨rfl, rfl⟩ := q177
                                      show jx L xs _ 124 140 _ [.int (iI 0)] _ _
                                      refine jv_if_ne (t := 173) (pc' := 143) (a := 0) rfl rfl rfl (by omega) (fun hz_178 => ?_) (fun hz_178 => ?_)
                                      · skip
                                        exact absurd hz_178 (by decide)
                                      · skip
                                        refine jv_aload_n (pc' := 144) (k := 0) (x := 103) rfl rfl rfl hf0 ?_
                                        refine jv_bipush (pc' := 146) (n := 124) rfl rfl rfl ?_
                                        have hm179 := MT_c T96 (a1)
                                        have ho179 := MT_or T96 (a1)
                                        by_cases hk180 : c (a1) = 124
                                        · skip
                                          refine jv_call (pc' := 149) rfl (ml_takes_y (I := I1) (a := a1) (x := 124) (by omega) T96 ha96 (by omega) hk180) (fun vq181 gq181 q181 => ?_)
                                          obtain ⟨rfl, rfl⟩ := q181
                                          show jx L xs _ 124 149 _ [.int (iI 1)] _ _
                                          refine jv_if_ne (t := 173) (pc' := 152) (a := 1) rfl rfl rfl (by omega) (fun hz_182 => ?_) (fun hz_182 => ?_)
                                          · skip
                                            obtain ⟨k3, e3, hQ3⟩ := Q1j hQ96 hHK (by omega)
                                            refine jx_step (pc' := 7) rfl ?_
                                            exact ih7 k3 (a1 + 1) (true :: r0) (jm_u I1 103 19 (iI ((a1 + 1 : Nat) : Int))) (by omega) (fr_u (by simp [wQ]) hf96) rfl (OQ_c hO96 (fun i _ => rfl)) hQ3 (by omega) _ hf0 hf1 
                                          · skip
                                            exact absurd hz_182 (by decide)
                                        · skip
                                          refine jv_call (pc' := 149) rfl (ml_takes_n (I := I1) (a := a1) (x := 124) (by omega) T96 ha96 (by omega) hk180) (fun vq183 gq183 q183 => ?_)
                                          obtain ⟨rfl, rfl⟩ := q183
                                          show jx L xs _ 124 149 _ [.int (iI 0)] _ _
                                          refine jv_if_ne (t := 173) (pc' := 152) (a := 0) rfl rfl rfl (by omega) (fun hz_184 => ?_) (fun hz_184 => ?_)
                                          · skip
                                            exact absurd hz_184 (by decide)
                                          · skip
                                            refine jv_iload_n (pc' := 153) (k := 1) (x := (iI ((r0.length + 1 : Nat) : Int))) rfl rfl rfl hf1 ?_
                                            refine jv_if_ne (t := 171) (pc' := 156) (a := ((r0.length + 1 : Nat) : Int)) rfl rfl rfl (by omega) (fun hz_185 => ?_) (fun hz_185 => ?_)
                                            · skip
                                              refine jv_iconst (pc' := 172) (n := 0) rfl rfl ?_
                                              refine jv_retZ rfl rfl (by first | exact Or.inl rfl | exact Or.inr rfl) ⟨_, _, rfl, ?_⟩
                                              first
                                              | (exfalso; omega)
                                              | (obtain ⟨e1, e2⟩ := Q1y hQ96 (by omega)
                                                 subst e1; subst e2
                                                 exact ⟨_, rfl, jq_f (by simp), fun _ => ha96, hf96⟩)
                                            · skip
                                              refine jv_aload_n (pc' := 157) (k := 0) (x := 103) rfl rfl rfl hf0 ?_
                                              refine jv_getI (pc' := 160) (c := 12) (k := 19) (v := (iI ((a1 : Nat) : Int))) rfl rfl rfl (fun _ _ => rfl) rfl rfl ha96 ?_
                                              refine jv_aload_n (pc' := 161) (k := 0) (x := 103) rfl rfl rfl hf0 ?_
                                              refine jv_getI (pc' := 164) (c := 12) (k := 18) (v := (iI (n : Int))) rfl rfl rfl (fun _ _ => rfl) rfl rfl T96.1 ?_
                                              refine jv_ic_ne (t := 171) (pc' := 167) (a := ((a1 : Nat) : Int)) (b := (n : Int)) rfl rfl rfl (by omega) (fun hz_186 => ?_) (fun hz_186 => ?_)
                                              · skip
                                                refine jv_iconst (pc' := 172) (n := 0) rfl rfl ?_
                                                refine jv_retZ rfl rfl (by first | exact Or.inl rfl | exact Or.inr rfl) ⟨_, _, rfl, ?_⟩
                                                first
                                                | (exfalso; omega)
                                                | (obtain ⟨e1, e2⟩ := Q1y hQ96 (by omega)
                                                   subst e1; subst e2
                                                   exact ⟨_, rfl, jq_f (by simp), fun _ => ha96, hf96⟩)
                                              · skip
                                                refine jv_iconst (pc' := 168) (n := 1) rfl rfl ?_
                                                refine jx_step (pc' := 172) rfl ?_
                                                refine jv_retZ rfl rfl (by first | exact Or.inl rfl | exact Or.inr rfl) ⟨_, _, rfl, ?_⟩
                                                first
                                                | (exfalso; omega)
                                                | (obtain ⟨e1, e2⟩ := Q1y hQ96 (by omega)
                                                   subst e1; subst e2
                                                   exact ⟨_, rfl, jq_f (by simp), fun _ => ha96, hf96⟩)
                                  · skip
                                    exact absurd hz_172 (by decide)
                        exact H130 _ k1 a1 (true :: r0) I1 (Nat.lt_succ_self _) hf74 ha74 hO74 hQ74 (by omega) han (Or.inr ⟨r0, rfl⟩) _ hf0 hf1 
                      · skip
                        exact absurd hz_129 (by decide)
            exact H10 _ k2 (tA c a1) ks Iq8 (Nat.lt_succ_self _) (fr_t hf7 Rq8) aq8 Oq8 hQ2 (by omega) (by omega) _ hf0 hf1 
          · skip
            refine jv_iconst (pc' := 73) (n := 0) rfl rfl ?_
            refine jv_retZ rfl rfl (by first | exact Or.inl rfl | exact Or.inr rfl) ⟨_, _, rfl, ?_⟩
            first
            | (exfalso; omega)
            | (obtain ⟨e1, e2⟩ := Q0f hQ (by omega) (by assumption)
               subst e1; subst e2
               exact ⟨_, rfl, jq_f (by simp), fun _ => aq8, (fr_t hf7 Rq8)⟩)
        · skip
          refine jv_iload_n (pc' := 25) (k := 1) (x := (iI ((ks.length : Nat) : Int))) rfl rfl rfl hf1 ?_
          refine jv_bipush (pc' := 27) (n := 8) rfl rfl rfl ?_
          refine jv_ic_ne (t := 32) (pc' := 30) (a := ((ks.length : Nat) : Int)) (b := 8) rfl rfl rfl (by omega) (fun hz_187 => ?_) (fun hz_187 => ?_)
          · skip
            refine jv_aload_n (pc' := 33) (k := 0) (x := 103) rfl rfl rfl hf0 ?_
            refine jv_getR (pc' := 36) (c := 12) (k := 21) (v := 118) rfl rfl rfl (fun _ _ => rfl) rfl rfl (jR_103_21 _) ?_
            refine jv_iload_n (pc' := 37) (k := 1) (x := (iI ((ks.length : Nat) : Int))) rfl rfl rfl hf1 ?_
            refine jv_iload_n (pc' := 38) (k := 2) (x := (iI (c (a1)))) rfl rfl rfl rfl ?_
            refine jv_bipush (pc' := 40) (n := 33) rfl rfl rfl ?_
            refine jv_ic_ne (t := 47) (pc' := 43) (a := (c (a1))) (b := 33) rfl rfl rfl (by omega) (fun hz_188 => ?_) (fun hz_188 => ?_)
            · skip
              refine jv_iconst (pc' := 48) (n := 2) rfl rfl ?_
              refine jv_iastore (pc' := 49) (n := 16) (e := ((ks.length : Nat) : Int)) (v := (iI 2)) rfl rfl rfl rfl rfl (by omega) ?_
              obtain ⟨k2, e2, hQ2⟩ := Q0b hQ (by omega) (by omega)
              refine jv_iinc (pc' := 52) (k := 1) (a := ((ks.length : Nat) : Int)) rfl rfl hf1 rfl (Or.inr (congrArg jm_lng hf0)) ?_
              refine jv_aload_n (pc' := 53) (k := 0) (x := 103) rfl rfl rfl hf0 ?_
              refine jx_step (pc' := 54) rfl ?_
              refine jv_getI (pc' := 57) (c := 12) (k := 19) (v := (iI ((a1 : Nat) : Int))) rfl rfl rfl (fun _ _ => rfl) rfl rfl ha7 ?_
              refine jv_iconst (pc' := 58) (n := 1) rfl rfl ?_
              refine jv_iadd (pc' := 59) (a := ((a1 : Nat) : Int)) (b := 1) rfl rfl ?_
              refine jv_putI (pc' := 62) (c := 12) (k := 19) rfl rfl rfl rfl (fun _ _ _  => rfl) rfl rfl ?_
              refine jx_step (pc' := 173) rfl ?_
              refine jx_step (pc' := 7) rfl ?_
              exact ih7 k2 (a1 + 1) (true :: ks) (jm_u (jm_u I1 118 (((ks.length : Nat) : Int) : Int).toNat (iI 2)) 103 19 (iI (((a1 : Nat) : Int) + 1))) (by omega) (fr_u (by simp [wQ]) (fr_u (by simp [wQ]) hf7)) rfl ⟨(jm_u_n2 (by omega)).trans (jm_u_eq ⟨rfl, by omega⟩), OQ_c hO7 (fun i hi => (jm_u_n2 (by omega)).trans (jm_u_n2 (by omega)))⟩ hQ2 (by omega) _ hf0 rfl 
            · skip
              refine jv_iconst (pc' := 44) (n := 1) rfl rfl ?_
              refine jx_step (pc' := 48) rfl ?_
              refine jv_iastore (pc' := 49) (n := 16) (e := ((ks.length : Nat) : Int)) (v := (iI 1)) rfl rfl rfl rfl rfl (by omega) ?_
              obtain ⟨k2, e2, hQ2⟩ := Q0n hQ (by omega) (by omega)
              refine jv_iinc (pc' := 52) (k := 1) (a := ((ks.length : Nat) : Int)) rfl rfl hf1 rfl (Or.inr (congrArg jm_lng hf0)) ?_
              refine jv_aload_n (pc' := 53) (k := 0) (x := 103) rfl rfl rfl hf0 ?_
              refine jx_step (pc' := 54) rfl ?_
              refine jv_getI (pc' := 57) (c := 12) (k := 19) (v := (iI ((a1 : Nat) : Int))) rfl rfl rfl (fun _ _ => rfl) rfl rfl ha7 ?_
              refine jv_iconst (pc' := 58) (n := 1) rfl rfl ?_
              refine jv_iadd (pc' := 59) (a := ((a1 : Nat) : Int)) (b := 1) rfl rfl ?_
              refine jv_putI (pc' := 62) (c := 12) (k := 19) rfl rfl rfl rfl (fun _ _ _  => rfl) rfl rfl ?_
              refine jx_step (pc' := 173) rfl ?_
              refine jx_step (pc' := 7) rfl ?_
              exact ih7 k2 (a1 + 1) (false :: ks) (jm_u (jm_u I1 118 (((ks.length : Nat) : Int) : Int).toNat (iI 1)) 103 19 (iI (((a1 : Nat) : Int) + 1))) (by omega) (fr_u (by simp [wQ]) (fr_u (by simp [wQ]) hf7)) rfl ⟨(jm_u_n2 (by omega)).trans (jm_u_eq ⟨rfl, by omega⟩), OQ_c hO7 (fun i hi => (jm_u_n2 (by omega)).trans (jm_u_n2 (by omega)))⟩ hQ2 (by omega) _ hf0 rfl 
          · skip
            refine jv_iconst (pc' := 31) (n := 0) rfl rfl ?_
            refine jv_retZ rfl rfl (by first | exact Or.inl rfl | exact Or.inr rfl) ⟨_, _, rfl, ?_⟩
            first
            | (exfalso; omega)
            | (obtain ⟨e1, e2⟩ := Q0d hQ (by omega) (by omega)
               subst e1; subst e2
               exact ⟨_, rfl, jq_f (by simp), fun _ => ha7, hf7⟩)
  exact H1 _ k 0 ([]) (jm_u I 103 19 (iI 0)) (Nat.lt_succ_self _) (fr_u (by simp [wQ]) (fr_r _)) rfl trivial hQ0 (by omega) _ rfl rfl 
end G2
