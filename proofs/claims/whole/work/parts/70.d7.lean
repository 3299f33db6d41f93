/-! printed by wip/whole/gen/d7.py: the reference follows the flat machine -/
theorem MT_or {I : Nat → Nat → Int32} {c : Nat → Int} {n : Nat} (h : MT I c n) (a : Nat) : (c a = -1 ∧ n ≤ a) ∨ (0 ≤ c a ∧ a < n) := by
  by_cases e : a < n
  · exact Or.inr ⟨(h.2.2.2.1 a e).1, e⟩
  · exact Or.inl ⟨h.2.2.2.2 a (by omega), by omega⟩
theorem DR_b {c : Nat → Int} {B : Nat → Nat} {lim sz bg : Nat} {l : Int} {k1 md a : Nat} {k : DK} {s : DSt} {md' a' : Nat} {k' : DK} {s' : DSt} (h : DR c B lim sz bg l k1 md a k s md' a' k' s') (q : a' ≤ 80) : a ≤ 80 := by
  cases k1 with
  | zero => have := h.2.1; omega
  | succ k1 => exact h.1.1
theorem DR_k {c : Nat → Int} {B : Nat → Nat} {lim sz bg : Nat} {l : Int} {k1 md a : Nat} {k : DK} {s : DSt} {md' a' : Nat} {s' : DSt} (h : DR c B lim sz bg l k1 md a k s md' a' [] s') : k.length ≤ 3 := by
  cases k1 with
  | zero => rw [h.2.2.1]; decide
  | succ k1 => exact h.1.2.1
theorem DQ_B {c : Nat → Int} {B : Nat → Nat} {lim sz bg : Nat} {l : Int} {k1 md a : Nat} {k : DK} {s s' : DSt} (h : DQ c B lim sz bg l k1 md a k s s') : DB lim sz a k s := by
  cases k1 with
  | zero => exact h.1
  | succ k1 => exact h.1
theorem LQ_b {c : Nat → Int} {n a e : Nat} (h : LQ c n 1 a e) : a < 80 := by
  cases n with
  | zero => exact absurd h.1 (by decide)
  | succ n => exact h.2.1
section D7
variable {L : Nat} {xs : Nat → Int32} {d j : Nat} {I : Nat → Nat → Int32} {M : Nat → Nat → Int64} {p : Nat → Option Nat}
variable {fi : Nat} {B : Nat → Nat} {sz : Nat} {l : Int} {bg lim : Nat} {c : Nat → Int} {n : Nat} {s s' : DSt} {a : Nat} {k : DK}
theorem DT1_a {a0 : Nat} {md' a' : Nat} {k' : DK} (h : DT c B lim sz bg l 1 a k s md' a' k' s') : DT c B lim sz bg l 1 a0 k s md' a' k' s' := Or.inr (Or.inr (Or.inr (Or.inr (Or.inr ⟨rfl, DT1 h⟩))))
theorem DO1_a {a0 : Nat} (h : DO c B lim sz bg l 1 a k s s') : DO c B lim sz bg l 1 a0 k s s' := Or.inr (Or.inr ⟨rfl, DO1 h⟩)
set_option maxHeartbeats 4000000 in
theorem ml_runItems_t (hX : MX I fi B sz l bg lim c n) (hS : MS I M a k s) {k1 e : Nat} (hP : DR c B lim sz bg l k1 0 a k s 0 e [] s') (he80 : e ≤ 80) (hce : c e = -1 ∨ c e = 62) : jc L xs (d + 4) 148 [.ref 103] (jx_G j I M p) (fun v g1 => ∃ I' M', g1 = jx_G j I' M' p ∧ v = none ∧ fr wM I I' ∧ fr wN M M' ∧ MS I' M' e [] s') := by
  unfold jc
  have H1 : ∀ (N : Nat) (k1 : Nat) (a1 : Nat) (ks : DK) (s1 : DSt) (I1 : Nat → Nat → Int32) (M1 : Nat → Nat → Int64), k1 < N → (fr wM I I1) → (fr wN M M1) → (MS I1 M1 a1 ks s1) → (DR c B lim sz bg l k1 0 a1 ks s1 0 e [] s') → ∀ f : jm_F, f 0 = some (.ref 103) → jx L xs ((d + 4)) 148 0 f [] (jx_G j I1 M1 p) (fun z => ∃ v g1, z = (.inl v, g1) ∧ (fun v g1 => ∃ I' M', g1 = jx_G j I' M' p ∧ v = none ∧ fr wM I I' ∧ fr wN M M' ∧ MS I' M' e [] s') v g1) := by
    intro N
    induction N with
    | zero => intro k1 a1 ks s1 I1 M1 hN; exact absurd hN (Nat.not_lt_zero _)
    | succ N ih =>
      intro k1 a1 ks s1 I1 M1 hN hf hm hS1 hP1 f hf0 
      refine jv_aload_n (pc' := 1) (k := 0) (x := 103) rfl rfl rfl hf0 ?_
      have X1 := MX_fr hX hf
      have hsz := X1.2.1.2.2.1
      have hn80 := X1.1.2.1
      have ho1 := MT_or X1.1 a1
      have hmc := MT_c X1.1 a1
      rcases k1 with _ | k1
      · obtain ⟨_, e1, e2, e3⟩ := hP1
        have hce1 : c a1 = -1 ∨ c a1 = 62 := by rw [e1]; exact hce
        refine jv_getI (pc' := 4) (c := 12) (k := 33) (v := (iI 0)) rfl rfl rfl (fun _ _ => rfl) rfl rfl hS1.2.1 ?_
        refine jv_if_ne (t := 91) (pc' := 7) (a := 0) rfl rfl rfl (by omega) (fun hz_2 => ?_) (fun hz_2 => ?_)
        · skip
          exact absurd hz_2 (by decide)
        · skip
          refine jv_aload_n (pc' := 8) (k := 0) (x := 103) rfl rfl rfl hf0 ?_
          refine jv_getI (pc' := 11) (c := 12) (k := 19) (v := (iI ((a1 : Nat) : Int))) rfl rfl rfl (fun _ _ => rfl) rfl rfl hS1.1 ?_
          refine jv_aload_n (pc' := 12) (k := 0) (x := 103) rfl rfl rfl hf0 ?_
          refine jv_getI (pc' := 15) (c := 12) (k := 18) (v := (iI (n : Int))) rfl rfl rfl (fun _ _ => rfl) rfl rfl X1.1.1 ?_
          refine jv_ic_ge (t := 91) (pc' := 18) (a := ((a1 : Nat) : Int)) (b := (n : Int)) rfl rfl rfl (by omega) (fun hz_3 => ?_) (fun hz_3 => ?_)
          · skip
            refine jv_retV rfl rfl ⟨_, _, rfl, ?_⟩
            first
            | (exfalso; omega)
            | (subst e1; subst e2; subst e3; exact ⟨_, _, rfl, rfl, hf, hm, hS1⟩)
          · skip
            refine jv_aload_n (pc' := 19) (k := 0) (x := 103) rfl rfl rfl hf0 ?_
            refine jv_call (pc' := 22) rfl (ml_here (I := I1) (a := a1) X1.1 hS1.1 (by omega)) (fun vq4 gq4 q4 => ?_)
            obtain ⟨rfl, rfl⟩ := q4
            show jx L xs _ 148 22 _ [.int (iI (c a1))] _ _
            refine jv_bipush (pc' := 24) (n := 62) rfl rfl rfl ?_
            refine jv_ic_eq (t := 91) (pc' := 27) (a := (c a1)) (b := 62) rfl rfl rfl (by omega) (fun hz_5 => ?_) (fun hz_5 => ?_)
            · skip
              refine jv_retV rfl rfl ⟨_, _, rfl, ?_⟩
              first
              | (exfalso; omega)
              | (subst e1; subst e2; subst e3; exact ⟨_, _, rfl, rfl, hf, hm, hS1⟩)
            · skip
              refine jv_aload_n (pc' := 28) (k := 0) (x := 103) rfl rfl rfl hf0 ?_
              refine jv_call (pc' := 31) rfl (ml_here (I := I1) (a := a1) X1.1 hS1.1 (by omega)) (fun vq6 gq6 q6 => ?_)
              obtain ⟨rfl, rfl⟩ := q6
              show jx L xs _ 148 31 _ [.int (iI (c a1))] _ _
              refine jv_istore_n (pc' := 32) (k := 1) (x := (iI (c a1))) rfl rfl rfl rfl (Or.inr (congrArg jm_lng hf0)) ?_
              refine jv_iload_n (pc' := 33) (k := 1) (x := (iI (c a1))) rfl rfl rfl rfl ?_
              refine jv_bipush (pc' := 35) (n := 41) rfl rfl rfl ?_
              refine jv_ic_ne (t := 45) (pc' := 38) (a := (c a1)) (b := 41) rfl rfl rfl (by omega) (fun hz_7 => ?_) (fun hz_7 => ?_)
              · skip
                refine jv_iload_n (pc' := 46) (k := 1) (x := (iI (c a1))) rfl rfl rfl rfl ?_
                refine jv_bipush (pc' := 48) (n := 36) rfl rfl rfl ?_
                refine jv_ic_ne (t := 58) (pc' := 51) (a := (c a1)) (b := 36) rfl rfl rfl (by omega) (fun hz_8 => ?_) (fun hz_8 => ?_)
                · skip
                  refine jv_iload_n (pc' := 59) (k := 1) (x := (iI (c a1))) rfl rfl rfl rfl ?_
                  refine jv_bipush (pc' := 61) (n := 35) rfl rfl rfl ?_
                  refine jv_ic_ne (t := 71) (pc' := 64) (a := (c a1)) (b := 35) rfl rfl rfl (by omega) (fun hz_9 => ?_) (fun hz_9 => ?_)
                  · skip
                    refine jv_iload_n (pc' := 72) (k := 1) (x := (iI (c a1))) rfl rfl rfl rfl ?_
                    refine jv_bipush (pc' := 74) (n := 63) rfl rfl rfl ?_
                    refine jv_ic_ne (t := 84) (pc' := 77) (a := (c a1)) (b := 63) rfl rfl rfl (by omega) (fun hz_10 => ?_) (fun hz_10 => ?_)
                    · skip
                      exfalso; omega
                    · skip
                      exfalso; omega
                  · skip
                    exfalso; omega
                · skip
                  exfalso; omega
              · skip
                exfalso; omega
      · obtain ⟨hB1, md2, a2, ks2, s2, hT, hP1⟩ := hP1
        have ha80 := hB1.1
        have hV1 := hB1.2.2.1
        have hb2 : a2 ≤ 80 := DR_b hP1 he80
        have hk3 : ks2.length ≤ 3 := DR_k hP1
        rcases hT with ⟨_, hm2, hk2, Y, f, hFI, hFD⟩ | ⟨_, hm2, hk2, ha2, Y, f, hBK, hBL⟩ | ⟨_, hm2, hs2, Y, f, hHD, h35, hk2⟩ | ⟨_, hm2, hs2, Y, f, b, hHD, h63, hop⟩ | ⟨_, hm2, hs2, hk2, hkne, h41⟩ | ⟨h01, _⟩
        · skip
          subst hm2; subst hk2
          have hfc := hFI.1
          refine jv_getI (pc' := 4) (c := 12) (k := 33) (v := (iI 0)) rfl rfl rfl (fun _ _ => rfl) rfl rfl hS1.2.1 ?_
          refine jv_if_ne (t := 91) (pc' := 7) (a := 0) rfl rfl rfl (by omega) (fun hz_11 => ?_) (fun hz_11 => ?_)
          · skip
            exact absurd hz_11 (by decide)
          · skip
            refine jv_aload_n (pc' := 8) (k := 0) (x := 103) rfl rfl rfl hf0 ?_
            refine jv_getI (pc' := 11) (c := 12) (k := 19) (v := (iI ((a1 : Nat) : Int))) rfl rfl rfl (fun _ _ => rfl) rfl rfl hS1.1 ?_
            refine jv_aload_n (pc' := 12) (k := 0) (x := 103) rfl rfl rfl hf0 ?_
            refine jv_getI (pc' := 15) (c := 12) (k := 18) (v := (iI (n : Int))) rfl rfl rfl (fun _ _ => rfl) rfl rfl X1.1.1 ?_
            refine jv_ic_ge (t := 91) (pc' := 18) (a := ((a1 : Nat) : Int)) (b := (n : Int)) rfl rfl rfl (by omega) (fun hz_12 => ?_) (fun hz_12 => ?_)
            · skip
              refine jv_retV rfl rfl ⟨_, _, rfl, ?_⟩
              exfalso; omega
            · skip
              refine jv_aload_n (pc' := 19) (k := 0) (x := 103) rfl rfl rfl hf0 ?_
              refine jv_call (pc' := 22) rfl (ml_here (I := I1) (a := a1) X1.1 hS1.1 (by omega)) (fun vq13 gq13 q13 => ?_)
              obtain ⟨rfl, rfl⟩ := q13
              show jx L xs _ 148 22 _ [.int (iI (c a1))] _ _
              refine jv_bipush (pc' := 24) (n := 62) rfl rfl rfl ?_
              refine jv_ic_eq (t := 91) (pc' := 27) (a := (c a1)) (b := 62) rfl rfl rfl (by omega) (fun hz_14 => ?_) (fun hz_14 => ?_)
              · skip
                refine jv_retV rfl rfl ⟨_, _, rfl, ?_⟩
                exfalso; omega
              · skip
                refine jv_aload_n (pc' := 28) (k := 0) (x := 103) rfl rfl rfl hf0 ?_
                refine jv_call (pc' := 31) rfl (ml_here (I := I1) (a := a1) X1.1 hS1.1 (by omega)) (fun vq15 gq15 q15 => ?_)
                obtain ⟨rfl, rfl⟩ := q15
                show jx L xs _ 148 31 _ [.int (iI (c a1))] _ _
                refine jv_istore_n (pc' := 32) (k := 1) (x := (iI (c a1))) rfl rfl rfl rfl (Or.inr (congrArg jm_lng hf0)) ?_
                refine jv_iload_n (pc' := 33) (k := 1) (x := (iI (c a1))) rfl rfl rfl rfl ?_
                refine jv_bipush (pc' := 35) (n := 41) rfl rfl rfl ?_
                refine jv_ic_ne (t := 45) (pc' := 38) (a := (c a1)) (b := 41) rfl rfl rfl (by omega) (fun hz_16 => ?_) (fun hz_16 => ?_)
                · skip
                  refine jv_iload_n (pc' := 46) (k := 1) (x := (iI (c a1))) rfl rfl rfl rfl ?_
                  refine jv_bipush (pc' := 48) (n := 36) rfl rfl rfl ?_
                  refine jv_ic_ne (t := 58) (pc' := 51) (a := (c a1)) (b := 36) rfl rfl rfl (by omega) (fun hz_17 => ?_) (fun hz_17 => ?_)
                  · skip
                    refine jv_iload_n (pc' := 59) (k := 1) (x := (iI (c a1))) rfl rfl rfl rfl ?_
                    refine jv_bipush (pc' := 61) (n := 35) rfl rfl rfl ?_
                    refine jv_ic_ne (t := 71) (pc' := 64) (a := (c a1)) (b := 35) rfl rfl rfl (by omega) (fun hz_18 => ?_) (fun hz_18 => ?_)
                    · skip
                      refine jv_iload_n (pc' := 72) (k := 1) (x := (iI (c a1))) rfl rfl rfl rfl ?_
                      refine jv_bipush (pc' := 74) (n := 63) rfl rfl rfl ?_
                      refine jv_ic_ne (t := 84) (pc' := 77) (a := (c a1)) (b := 63) rfl rfl rfl (by omega) (fun hz_19 => ?_) (fun hz_19 => ?_)
                      · skip
                        refine jv_aload_n (pc' := 85) (k := 0) (x := 103) rfl rfl rfl hf0 ?_
                        refine jv_call (pc' := 88) rfl (ml_runField (s := s1) (I := I1) (M := M1) (a := a1) (ok := true) X1 hS1.2.2.2.2 hV1 hS1.1 hS1.2.1 hFI (by omega) hFD) (fun vq20 gq20 q20 => ?_)
                        obtain ⟨Iq20, Mq20, rfl, rfl, rq20, tq20, Dq20, aq20, oq20⟩ := q20
                        show jx L xs _ 148 88 _ [] _ _
                        refine jx_step (pc' := 0) rfl ?_
                        exact ih k1 a2 ks2 s2 Iq20 Mq20 (by omega) (fr_t hf (fr_w rq20 wM_1)) (fr_t hm (fr_w tq20 wN_1)) ⟨aq20, oq20, (rq20 103 37 (by simp [wM1])).trans hS1.2.2.1, SK_fr hS1.2.2.2.1 rq20 tq20, Dq20⟩ hP1 _ hf0 
                      · skip
                        exfalso; omega
                    · skip
                      exfalso; omega
                  · skip
                    exfalso; omega
                · skip
                  exfalso; omega
        · skip
          subst hm2; subst hk2; subst ha2
          have hfc := hBK.1
          refine jv_getI (pc' := 4) (c := 12) (k := 33) (v := (iI 0)) rfl rfl rfl (fun _ _ => rfl) rfl rfl hS1.2.1 ?_
          refine jv_if_ne (t := 91) (pc' := 7) (a := 0) rfl rfl rfl (by omega) (fun hz_21 => ?_) (fun hz_21 => ?_)
          · skip
            exact absurd hz_21 (by decide)
          · skip
            refine jv_aload_n (pc' := 8) (k := 0) (x := 103) rfl rfl rfl hf0 ?_
            refine jv_getI (pc' := 11) (c := 12) (k := 19) (v := (iI ((a1 : Nat) : Int))) rfl rfl rfl (fun _ _ => rfl) rfl rfl hS1.1 ?_
            refine jv_aload_n (pc' := 12) (k := 0) (x := 103) rfl rfl rfl hf0 ?_
            refine jv_getI (pc' := 15) (c := 12) (k := 18) (v := (iI (n : Int))) rfl rfl rfl (fun _ _ => rfl) rfl rfl X1.1.1 ?_
            refine jv_ic_ge (t := 91) (pc' := 18) (a := ((a1 : Nat) : Int)) (b := (n : Int)) rfl rfl rfl (by omega) (fun hz_22 => ?_) (fun hz_22 => ?_)
            · skip
              refine jv_retV rfl rfl ⟨_, _, rfl, ?_⟩
              exfalso; omega
            · skip
              refine jv_aload_n (pc' := 19) (k := 0) (x := 103) rfl rfl rfl hf0 ?_
              refine jv_call (pc' := 22) rfl (ml_here (I := I1) (a := a1) X1.1 hS1.1 (by omega)) (fun vq23 gq23 q23 => ?_)
              obtain ⟨rfl, rfl⟩ := q23
              show jx L xs _ 148 22 _ [.int (iI (c a1))] _ _
              refine jv_bipush (pc' := 24) (n := 62) rfl rfl rfl ?_
              refine jv_ic_eq (t := 91) (pc' := 27) (a := (c a1)) (b := 62) rfl rfl rfl (by omega) (fun hz_24 => ?_) (fun hz_24 => ?_)
              · skip
                refine jv_retV rfl rfl ⟨_, _, rfl, ?_⟩
                exfalso; omega
              · skip
                refine jv_aload_n (pc' := 28) (k := 0) (x := 103) rfl rfl rfl hf0 ?_
                refine jv_call (pc' := 31) rfl (ml_here (I := I1) (a := a1) X1.1 hS1.1 (by omega)) (fun vq25 gq25 q25 => ?_)
                obtain ⟨rfl, rfl⟩ := q25
                show jx L xs _ 148 31 _ [.int (iI (c a1))] _ _
                refine jv_istore_n (pc' := 32) (k := 1) (x := (iI (c a1))) rfl rfl rfl rfl (Or.inr (congrArg jm_lng hf0)) ?_
                refine jv_iload_n (pc' := 33) (k := 1) (x := (iI (c a1))) rfl rfl rfl rfl ?_
                refine jv_bipush (pc' := 35) (n := 41) rfl rfl rfl ?_
                refine jv_ic_ne (t := 45) (pc' := 38) (a := (c a1)) (b := 41) rfl rfl rfl (by omega) (fun hz_26 => ?_) (fun hz_26 => ?_)
                · skip
                  refine jv_iload_n (pc' := 46) (k := 1) (x := (iI (c a1))) rfl rfl rfl rfl ?_
                  refine jv_bipush (pc' := 48) (n := 36) rfl rfl rfl ?_
                  refine jv_ic_ne (t := 58) (pc' := 51) (a := (c a1)) (b := 36) rfl rfl rfl (by omega) (fun hz_27 => ?_) (fun hz_27 => ?_)
                  · skip
                    refine jv_iload_n (pc' := 59) (k := 1) (x := (iI (c a1))) rfl rfl rfl rfl ?_
                    refine jv_bipush (pc' := 61) (n := 35) rfl rfl rfl ?_
                    refine jv_ic_ne (t := 71) (pc' := 64) (a := (c a1)) (b := 35) rfl rfl rfl (by omega) (fun hz_28 => ?_) (fun hz_28 => ?_)
                    · skip
                      refine jv_iload_n (pc' := 72) (k := 1) (x := (iI (c a1))) rfl rfl rfl rfl ?_
                      refine jv_bipush (pc' := 74) (n := 63) rfl rfl rfl ?_
                      refine jv_ic_ne (t := 84) (pc' := 77) (a := (c a1)) (b := 63) rfl rfl rfl (by omega) (fun hz_29 => ?_) (fun hz_29 => ?_)
                      · skip
                        exfalso; omega
                      · skip
                        exfalso; omega
                    · skip
                      exfalso; omega
                  · skip
                    refine jv_aload_n (pc' := 52) (k := 0) (x := 103) rfl rfl rfl hf0 ?_
                    refine jv_call (pc' := 55) rfl (ml_runBlock (s := s1) (I := I1) (M := M1) (a := a1) (ok := true) X1 hS1.2.2.2.2 hV1 hS1.1 hS1.2.1 hBK (by omega) hBL) (fun vq30 gq30 q30 => ?_)
                    obtain ⟨Iq30, Mq30, rfl, rfl, rq30, tq30, Dq30, aq30, oq30⟩ := q30
                    show jx L xs _ 148 55 _ [] _ _
                    refine jx_step (pc' := 88) rfl ?_
                    refine jx_step (pc' := 0) rfl ?_
                    exact ih k1 (a1 + 2) ks2 s2 Iq30 Mq30 (by omega) (fr_t hf (fr_w rq30 wM_1)) (fr_t hm (fr_w tq30 wN_1)) ⟨aq30, oq30, (rq30 103 37 (by simp [wM1])).trans hS1.2.2.1, SK_fr hS1.2.2.2.1 rq30 tq30, Dq30⟩ hP1 _ hf0 
                · skip
                  exfalso; omega
        · skip
          subst hm2; subst hs2; subst hk2
          rcases k1 with _ | k1
          · exact absurd hP1.1 (by decide)
          · obtain ⟨hB2, md3, a3, ks3, s3, hT2, hP1⟩ := hP1
            have hm3 := (DT1 hT2).1
            subst hm3
            refine jv_getI (pc' := 4) (c := 12) (k := 33) (v := (iI 0)) rfl rfl rfl (fun _ _ => rfl) rfl rfl hS1.2.1 ?_
            refine jv_if_ne (t := 91) (pc' := 7) (a := 0) rfl rfl rfl (by omega) (fun hz_31 => ?_) (fun hz_31 => ?_)
            · skip
              exact absurd hz_31 (by decide)
            · skip
              refine jv_aload_n (pc' := 8) (k := 0) (x := 103) rfl rfl rfl hf0 ?_
              refine jv_getI (pc' := 11) (c := 12) (k := 19) (v := (iI ((a1 : Nat) : Int))) rfl rfl rfl (fun _ _ => rfl) rfl rfl hS1.1 ?_
              refine jv_aload_n (pc' := 12) (k := 0) (x := 103) rfl rfl rfl hf0 ?_
              refine jv_getI (pc' := 15) (c := 12) (k := 18) (v := (iI (n : Int))) rfl rfl rfl (fun _ _ => rfl) rfl rfl X1.1.1 ?_
              refine jv_ic_ge (t := 91) (pc' := 18) (a := ((a1 : Nat) : Int)) (b := (n : Int)) rfl rfl rfl (by omega) (fun hz_32 => ?_) (fun hz_32 => ?_)
              · skip
                refine jv_retV rfl rfl ⟨_, _, rfl, ?_⟩
                exfalso; omega
              · skip
                refine jv_aload_n (pc' := 19) (k := 0) (x := 103) rfl rfl rfl hf0 ?_
                refine jv_call (pc' := 22) rfl (ml_here (I := I1) (a := a1) X1.1 hS1.1 (by omega)) (fun vq33 gq33 q33 => ?_)
                obtain ⟨rfl, rfl⟩ := q33
                show jx L xs _ 148 22 _ [.int (iI (c a1))] _ _
                refine jv_bipush (pc' := 24) (n := 62) rfl rfl rfl ?_
                refine jv_ic_eq (t := 91) (pc' := 27) (a := (c a1)) (b := 62) rfl rfl rfl (by omega) (fun hz_34 => ?_) (fun hz_34 => ?_)
                · skip
                  refine jv_retV rfl rfl ⟨_, _, rfl, ?_⟩
                  exfalso; omega
                · skip
                  refine jv_aload_n (pc' := 28) (k := 0) (x := 103) rfl rfl rfl hf0 ?_
                  refine jv_call (pc' := 31) rfl (ml_here (I := I1) (a := a1) X1.1 hS1.1 (by omega)) (fun vq35 gq35 q35 => ?_)
                  obtain ⟨rfl, rfl⟩ := q35
                  show jx L xs _ 148 31 _ [.int (iI (c a1))] _ _
                  refine jv_istore_n (pc' := 32) (k := 1) (x := (iI (c a1))) rfl rfl rfl rfl (Or.inr (congrArg jm_lng hf0)) ?_
                  refine jv_iload_n (pc' := 33) (k := 1) (x := (iI (c a1))) rfl rfl rfl rfl ?_
                  refine jv_bipush (pc' := 35) (n := 41) rfl rfl rfl ?_
                  refine jv_ic_ne (t := 45) (pc' := 38) (a := (c a1)) (b := 41) rfl rfl rfl (by omega) (fun hz_36 => ?_) (fun hz_36 => ?_)
                  · skip
                    refine jv_iload_n (pc' := 46) (k := 1) (x := (iI (c a1))) rfl rfl rfl rfl ?_
                    refine jv_bipush (pc' := 48) (n := 36) rfl rfl rfl ?_
                    refine jv_ic_ne (t := 58) (pc' := 51) (a := (c a1)) (b := 36) rfl rfl rfl (by omega) (fun hz_37 => ?_) (fun hz_37 => ?_)
                    · skip
                      refine jv_iload_n (pc' := 59) (k := 1) (x := (iI (c a1))) rfl rfl rfl rfl ?_
                      refine jv_bipush (pc' := 61) (n := 35) rfl rfl rfl ?_
                      refine jv_ic_ne (t := 71) (pc' := 64) (a := (c a1)) (b := 35) rfl rfl rfl (by omega) (fun hz_38 => ?_) (fun hz_38 => ?_)
                      · skip
                        refine jv_iload_n (pc' := 72) (k := 1) (x := (iI (c a1))) rfl rfl rfl rfl ?_
                        refine jv_bipush (pc' := 74) (n := 63) rfl rfl rfl ?_
                        refine jv_ic_ne (t := 84) (pc' := 77) (a := (c a1)) (b := 63) rfl rfl rfl (by omega) (fun hz_39 => ?_) (fun hz_39 => ?_)
                        · skip
                          exfalso; omega
                        · skip
                          exfalso; omega
                      · skip
                        refine jv_aload_n (pc' := 65) (k := 0) (x := 103) rfl rfl rfl hf0 ?_
                        refine jv_call (pc' := 68) rfl (ml_runGroup_t (I := I1) (M := M1) (a := a1) X1 hS1 hB1 hHD h35 hb2 hB2 hT2) (fun vq40 gq40 q40 => ?_)
                        obtain ⟨Iq40, Mq40, rfl, rfl, rq40, tq40, Sq40⟩ := q40
                        show jx L xs _ 148 68 _ [] _ _
                        refine jx_step (pc' := 88) rfl ?_
                        refine jx_step (pc' := 0) rfl ?_
                        exact ih k1 a3 ks3 s3 Iq40 Mq40 (by omega) (fr_t hf rq40) (fr_t hm tq40) Sq40 hP1 _ hf0 
                    · skip
                      exfalso; omega
                  · skip
                    exfalso; omega
        · subst hm2; subst hs2
          rcases hop with ⟨hch, ha2, hk2⟩ | ⟨hch, hk2, m, hLQ⟩
          · subst ha2; subst hk2
            refine jv_getI (pc' := 4) (c := 12) (k := 33) (v := (iI 0)) rfl rfl rfl (fun _ _ => rfl) rfl rfl hS1.2.1 ?_
            refine jv_if_ne (t := 91) (pc' := 7) (a := 0) rfl rfl rfl (by omega) (fun hz_41 => ?_) (fun hz_41 => ?_)
            · skip
              exact absurd hz_41 (by decide)
            · skip
              refine jv_aload_n (pc' := 8) (k := 0) (x := 103) rfl rfl rfl hf0 ?_
              refine jv_getI (pc' := 11) (c := 12) (k := 19) (v := (iI ((a1 : Nat) : Int))) rfl rfl rfl (fun _ _ => rfl) rfl rfl hS1.1 ?_
              refine jv_aload_n (pc' := 12) (k := 0) (x := 103) rfl rfl rfl hf0 ?_
              refine jv_getI (pc' := 15) (c := 12) (k := 18) (v := (iI (n : Int))) rfl rfl rfl (fun _ _ => rfl) rfl rfl X1.1.1 ?_
              refine jv_ic_ge (t := 91) (pc' := 18) (a := ((a1 : Nat) : Int)) (b := (n : Int)) rfl rfl rfl (by omega) (fun hz_42 => ?_) (fun hz_42 => ?_)
              · skip
                refine jv_retV rfl rfl ⟨_, _, rfl, ?_⟩
                exfalso; omega
              · skip
                refine jv_aload_n (pc' := 19) (k := 0) (x := 103) rfl rfl rfl hf0 ?_
                refine jv_call (pc' := 22) rfl (ml_here (I := I1) (a := a1) X1.1 hS1.1 (by omega)) (fun vq43 gq43 q43 => ?_)
                obtain ⟨rfl, rfl⟩ := q43
                show jx L xs _ 148 22 _ [.int (iI (c a1))] _ _
                refine jv_bipush (pc' := 24) (n := 62) rfl rfl rfl ?_
                refine jv_ic_eq (t := 91) (pc' := 27) (a := (c a1)) (b := 62) rfl rfl rfl (by omega) (fun hz_44 => ?_) (fun hz_44 => ?_)
                · skip
                  refine jv_retV rfl rfl ⟨_, _, rfl, ?_⟩
                  exfalso; omega
                · skip
                  refine jv_aload_n (pc' := 28) (k := 0) (x := 103) rfl rfl rfl hf0 ?_
                  refine jv_call (pc' := 31) rfl (ml_here (I := I1) (a := a1) X1.1 hS1.1 (by omega)) (fun vq45 gq45 q45 => ?_)
                  obtain ⟨rfl, rfl⟩ := q45
                  show jx L xs _ 148 31 _ [.int (iI (c a1))] _ _
                  refine jv_istore_n (pc' := 32) (k := 1) (x := (iI (c a1))) rfl rfl rfl rfl (Or.inr (congrArg jm_lng hf0)) ?_
                  refine jv_iload_n (pc' := 33) (k := 1) (x := (iI (c a1))) rfl rfl rfl rfl ?_
                  refine jv_bipush (pc' := 35) (n := 41) rfl rfl rfl ?_
                  refine jv_ic_ne (t := 45) (pc' := 38) (a := (c a1)) (b := 41) rfl rfl rfl (by omega) (fun hz_46 => ?_) (fun hz_46 => ?_)
                  · skip
                    refine jv_iload_n (pc' := 46) (k := 1) (x := (iI (c a1))) rfl rfl rfl rfl ?_
                    refine jv_bipush (pc' := 48) (n := 36) rfl rfl rfl ?_
                    refine jv_ic_ne (t := 58) (pc' := 51) (a := (c a1)) (b := 36) rfl rfl rfl (by omega) (fun hz_47 => ?_) (fun hz_47 => ?_)
                    · skip
                      refine jv_iload_n (pc' := 59) (k := 1) (x := (iI (c a1))) rfl rfl rfl rfl ?_
                      refine jv_bipush (pc' := 61) (n := 35) rfl rfl rfl ?_
                      refine jv_ic_ne (t := 71) (pc' := 64) (a := (c a1)) (b := 35) rfl rfl rfl (by omega) (fun hz_48 => ?_) (fun hz_48 => ?_)
                      · skip
                        refine jv_iload_n (pc' := 72) (k := 1) (x := (iI (c a1))) rfl rfl rfl rfl ?_
                        refine jv_bipush (pc' := 74) (n := 63) rfl rfl rfl ?_
                        refine jv_ic_ne (t := 84) (pc' := 77) (a := (c a1)) (b := 63) rfl rfl rfl (by omega) (fun hz_49 => ?_) (fun hz_49 => ?_)
                        · skip
                          exfalso; omega
                        · skip
                          refine jv_aload_n (pc' := 78) (k := 0) (x := 103) rfl rfl rfl hf0 ?_
                          refine jv_call (pc' := 81) rfl (ml_runOption_y (I := I1) (M := M1) (a := a1) X1 hS1 hB1 hHD h63 hb2 hch hk3) (fun vq50 gq50 q50 => ?_)
                          obtain ⟨Iq50, Mq50, rfl, rfl, rq50, tq50, Sq50⟩ := q50
                          show jx L xs _ 148 81 _ [] _ _
                          refine jx_step (pc' := 88) rfl ?_
                          refine jx_step (pc' := 0) rfl ?_
                          exact ih k1 _ _ _ Iq50 Mq50 (by omega) (fr_t hf rq50) (fr_t hm tq50) Sq50 hP1 _ hf0 
                      · skip
                        exfalso; omega
                    · skip
                      exfalso; omega
                  · skip
                    exfalso; omega
          · subst hk2
            have hlb := LQ_b hLQ
            refine jv_getI (pc' := 4) (c := 12) (k := 33) (v := (iI 0)) rfl rfl rfl (fun _ _ => rfl) rfl rfl hS1.2.1 ?_
            refine jv_if_ne (t := 91) (pc' := 7) (a := 0) rfl rfl rfl (by omega) (fun hz_51 => ?_) (fun hz_51 => ?_)
            · skip
              exact absurd hz_51 (by decide)
            · skip
              refine jv_aload_n (pc' := 8) (k := 0) (x := 103) rfl rfl rfl hf0 ?_
              refine jv_getI (pc' := 11) (c := 12) (k := 19) (v := (iI ((a1 : Nat) : Int))) rfl rfl rfl (fun _ _ => rfl) rfl rfl hS1.1 ?_
              refine jv_aload_n (pc' := 12) (k := 0) (x := 103) rfl rfl rfl hf0 ?_
              refine jv_getI (pc' := 15) (c := 12) (k := 18) (v := (iI (n : Int))) rfl rfl rfl (fun _ _ => rfl) rfl rfl X1.1.1 ?_
              refine jv_ic_ge (t := 91) (pc' := 18) (a := ((a1 : Nat) : Int)) (b := (n : Int)) rfl rfl rfl (by omega) (fun hz_52 => ?_) (fun hz_52 => ?_)
              · skip
                refine jv_retV rfl rfl ⟨_, _, rfl, ?_⟩
                exfalso; omega
              · skip
                refine jv_aload_n (pc' := 19) (k := 0) (x := 103) rfl rfl rfl hf0 ?_
                refine jv_call (pc' := 22) rfl (ml_here (I := I1) (a := a1) X1.1 hS1.1 (by omega)) (fun vq53 gq53 q53 => ?_)
                obtain ⟨rfl, rfl⟩ := q53
                show jx L xs _ 148 22 _ [.int (iI (c a1))] _ _
                refine jv_bipush (pc' := 24) (n := 62) rfl rfl rfl ?_
                refine jv_ic_eq (t := 91) (pc' := 27) (a := (c a1)) (b := 62) rfl rfl rfl (by omega) (fun hz_54 => ?_) (fun hz_54 => ?_)
                · skip
                  refine jv_retV rfl rfl ⟨_, _, rfl, ?_⟩
                  exfalso; omega
                · skip
                  refine jv_aload_n (pc' := 28) (k := 0) (x := 103) rfl rfl rfl hf0 ?_
                  refine jv_call (pc' := 31) rfl (ml_here (I := I1) (a := a1) X1.1 hS1.1 (by omega)) (fun vq55 gq55 q55 => ?_)
                  obtain ⟨rfl, rfl⟩ := q55
                  show jx L xs _ 148 31 _ [.int (iI (c a1))] _ _
                  refine jv_istore_n (pc' := 32) (k := 1) (x := (iI (c a1))) rfl rfl rfl rfl (Or.inr (congrArg jm_lng hf0)) ?_
                  refine jv_iload_n (pc' := 33) (k := 1) (x := (iI (c a1))) rfl rfl rfl rfl ?_
                  refine jv_bipush (pc' := 35) (n := 41) rfl rfl rfl ?_
                  refine jv_ic_ne (t := 45) (pc' := 38) (a := (c a1)) (b := 41) rfl rfl rfl (by omega) (fun hz_56 => ?_) (fun hz_56 => ?_)
                  · skip
                    refine jv_iload_n (pc' := 46) (k := 1) (x := (iI (c a1))) rfl rfl rfl rfl ?_
                    refine jv_bipush (pc' := 48) (n := 36) rfl rfl rfl ?_
                    refine jv_ic_ne (t := 58) (pc' := 51) (a := (c a1)) (b := 36) rfl rfl rfl (by omega) (fun hz_57 => ?_) (fun hz_57 => ?_)
                    · skip
                      refine jv_iload_n (pc' := 59) (k := 1) (x := (iI (c a1))) rfl rfl rfl rfl ?_
                      refine jv_bipush (pc' := 61) (n := 35) rfl rfl rfl ?_
                      refine jv_ic_ne (t := 71) (pc' := 64) (a := (c a1)) (b := 35) rfl rfl rfl (by omega) (fun hz_58 => ?_) (fun hz_58 => ?_)
                      · skip
                        refine jv_iload_n (pc' := 72) (k := 1) (x := (iI (c a1))) rfl rfl rfl rfl ?_
                        refine jv_bipush (pc' := 74) (n := 63) rfl rfl rfl ?_
                        refine jv_ic_ne (t := 84) (pc' := 77) (a := (c a1)) (b := 63) rfl rfl rfl (by omega) (fun hz_59 => ?_) (fun hz_59 => ?_)
                        · skip
                          exfalso; omega
                        · skip
                          refine jv_aload_n (pc' := 78) (k := 0) (x := 103) rfl rfl rfl hf0 ?_
                          refine jv_call (pc' := 81) rfl (ml_runOption_n (I := I1) (M := M1) (a := a1) X1 hS1 hB1 hHD h63 (by omega) hch hLQ) (fun vq60 gq60 q60 => ?_)
                          obtain ⟨Iq60, Mq60, rfl, rfl, rq60, tq60, Sq60⟩ := q60
                          show jx L xs _ 148 81 _ [] _ _
                          refine jx_step (pc' := 88) rfl ?_
                          refine jx_step (pc' := 0) rfl ?_
                          exact ih k1 _ _ _ Iq60 Mq60 (by omega) (fr_t hf rq60) (fr_t hm tq60) Sq60 hP1 _ hf0 
                      · skip
                        exfalso; omega
                    · skip
                      exfalso; omega
                  · skip
                    exfalso; omega
        · skip
          subst hm2; subst hs2; subst hk2
          rcases k1 with _ | k1
          · exact absurd hP1.1 (by decide)
          · obtain ⟨hB2, md3, a3, ks3, s3, hT2, hP1⟩ := hP1
            have hm3 := (DT1 hT2).1
            subst hm3
            refine jv_getI (pc' := 4) (c := 12) (k := 33) (v := (iI 0)) rfl rfl rfl (fun _ _ => rfl) rfl rfl hS1.2.1 ?_
            refine jv_if_ne (t := 91) (pc' := 7) (a := 0) rfl rfl rfl (by omega) (fun hz_61 => ?_) (fun hz_61 => ?_)
            · skip
              exact absurd hz_61 (by decide)
            · skip
              refine jv_aload_n (pc' := 8) (k := 0) (x := 103) rfl rfl rfl hf0 ?_
              refine jv_getI (pc' := 11) (c := 12) (k := 19) (v := (iI ((a1 : Nat) : Int))) rfl rfl rfl (fun _ _ => rfl) rfl rfl hS1.1 ?_
              refine jv_aload_n (pc' := 12) (k := 0) (x := 103) rfl rfl rfl hf0 ?_
              refine jv_getI (pc' := 15) (c := 12) (k := 18) (v := (iI (n : Int))) rfl rfl rfl (fun _ _ => rfl) rfl rfl X1.1.1 ?_
              refine jv_ic_ge (t := 91) (pc' := 18) (a := ((a1 : Nat) : Int)) (b := (n : Int)) rfl rfl rfl (by omega) (fun hz_62 => ?_) (fun hz_62 => ?_)
              · skip
                refine jv_retV rfl rfl ⟨_, _, rfl, ?_⟩
                exfalso; omega
              · skip
                refine jv_aload_n (pc' := 19) (k := 0) (x := 103) rfl rfl rfl hf0 ?_
                refine jv_call (pc' := 22) rfl (ml_here (I := I1) (a := a1) X1.1 hS1.1 (by omega)) (fun vq63 gq63 q63 => ?_)
                obtain ⟨rfl, rfl⟩ := q63
                show jx L xs _ 148 22 _ [.int (iI (c a1))] _ _
                refine jv_bipush (pc' := 24) (n := 62) rfl rfl rfl ?_
                refine jv_ic_eq (t := 91) (pc' := 27) (a := (c a1)) (b := 62) rfl rfl rfl (by omega) (fun hz_64 => ?_) (fun hz_64 => ?_)
                · skip
                  refine jv_retV rfl rfl ⟨_, _, rfl, ?_⟩
                  exfalso; omega
                · skip
                  refine jv_aload_n (pc' := 28) (k := 0) (x := 103) rfl rfl rfl hf0 ?_
                  refine jv_call (pc' := 31) rfl (ml_here (I := I1) (a := a1) X1.1 hS1.1 (by omega)) (fun vq65 gq65 q65 => ?_)
                  obtain ⟨rfl, rfl⟩ := q65
                  show jx L xs _ 148 31 _ [.int (iI (c a1))] _ _
                  refine jv_istore_n (pc' := 32) (k := 1) (x := (iI (c a1))) rfl rfl rfl rfl (Or.inr (congrArg jm_lng hf0)) ?_
                  refine jv_iload_n (pc' := 33) (k := 1) (x := (iI (c a1))) rfl rfl rfl rfl ?_
                  refine jv_bipush (pc' := 35) (n := 41) rfl rfl rfl ?_
                  refine jv_ic_ne (t := 45) (pc' := 38) (a := (c a1)) (b := 41) rfl rfl rfl (by omega) (fun hz_66 => ?_) (fun hz_66 => ?_)
                  · skip
                    refine jv_iload_n (pc' := 46) (k := 1) (x := (iI (c a1))) rfl rfl rfl rfl ?_
                    refine jv_bipush (pc' := 48) (n := 36) rfl rfl rfl ?_
                    refine jv_ic_ne (t := 58) (pc' := 51) (a := (c a1)) (b := 36) rfl rfl rfl (by omega) (fun hz_67 => ?_) (fun hz_67 => ?_)
                    · skip
                      refine jv_iload_n (pc' := 59) (k := 1) (x := (iI (c a1))) rfl rfl rfl rfl ?_
                      refine jv_bipush (pc' := 61) (n := 35) rfl rfl rfl ?_
                      refine jv_ic_ne (t := 71) (pc' := 64) (a := (c a1)) (b := 35) rfl rfl rfl (by omega) (fun hz_68 => ?_) (fun hz_68 => ?_)
                      · skip
                        refine jv_iload_n (pc' := 72) (k := 1) (x := (iI (c a1))) rfl rfl rfl rfl ?_
                        refine jv_bipush (pc' := 74) (n := 63) rfl rfl rfl ?_
                        refine jv_ic_ne (t := 84) (pc' := 77) (a := (c a1)) (b := 63) rfl rfl rfl (by omega) (fun hz_69 => ?_) (fun hz_69 => ?_)
                        · skip
                          exfalso; omega
                        · skip
                          exfalso; omega
                      · skip
                        exfalso; omega
                    · skip
                      exfalso; omega
                  · skip
                    refine jv_aload_n (pc' := 39) (k := 0) (x := 103) rfl rfl rfl hf0 ?_
                    refine jv_call (pc' := 42) rfl (ml_repeat_t (I := I1) (M := M1) (a := a1) X1 hS1 hB1 (DT1_a hT2)) (fun vq70 gq70 q70 => ?_)
                    obtain ⟨Iq70, Mq70, rfl, rfl, rq70, tq70, Sq70⟩ := q70
                    show jx L xs _ 148 42 _ [] _ _
                    refine jx_step (pc' := 88) rfl ?_
                    refine jx_step (pc' := 0) rfl ?_
                    exact ih k1 a3 ks3 s3 Iq70 Mq70 (by omega) (fr_t hf rq70) (fr_t hm tq70) Sq70 hP1 _ hf0 
        · exact absurd h01 (by decide)
  exact H1 _ k1 a k s I M (Nat.lt_succ_self _) (fr_r _) (fr_r _) hS hP _ rfl 
set_option maxHeartbeats 4000000 in
theorem ml_runItems_q (hX : MX I fi B sz l bg lim c n) (hS : MS I M a k s) {k1 : Nat} (hP : DQ c B lim sz bg l k1 0 a k s s') : jc L xs (d + 4) 148 [.ref 103] (jx_G j I M p) (fun v g1 => ∃ I' M', g1 = jx_G j I' M' p ∧ v = none ∧ fr wM I I' ∧ fr wN M M' ∧ DM I' M' s' ∧ I' 103 33 = iI 1) := by
  unfold jc
  have H1 : ∀ (N : Nat) (k1 : Nat) (a1 : Nat) (ks : DK) (s1 : DSt) (I1 : Nat → Nat → Int32) (M1 : Nat → Nat → Int64), k1 < N → (fr wM I I1) → (fr wN M M1) → (MS I1 M1 a1 ks s1) → (DQ c B lim sz bg l k1 0 a1 ks s1 s') → ∀ f : jm_F, f 0 = some (.ref 103) → jx L xs ((d + 4)) 148 0 f [] (jx_G j I1 M1 p) (fun z => ∃ v g1, z = (.inl v, g1) ∧ (fun v g1 => ∃ I' M', g1 = jx_G j I' M' p ∧ v = none ∧ fr wM I I' ∧ fr wN M M' ∧ DM I' M' s' ∧ I' 103 33 = iI 1) v g1) := by
    intro N
    induction N with
    | zero => intro k1 a1 ks s1 I1 M1 hN; exact absurd hN (Nat.not_lt_zero _)
    | succ N ih =>
      intro k1 a1 ks s1 I1 M1 hN hf hm hS1 hP1 f hf0 
      refine jv_aload_n (pc' := 1) (k := 0) (x := 103) rfl rfl rfl hf0 ?_
      have X1 := MX_fr hX hf
      have hsz := X1.2.1.2.2.1
      have hn80 := X1.1.2.1
      have ho1 := MT_or X1.1 a1
      have hmc := MT_c X1.1 a1
      rcases k1 with _ | k1
      · obtain ⟨hB1, hP1⟩ := hP1
        have ha80 := hB1.1
        have hV1 := hB1.2.2.1
        rcases hP1 with ⟨_, Y, f, e, he80, hFI, hFD⟩ | ⟨_, Y, f, he80, hBK, hBL⟩ | ⟨h01, _⟩
        · skip
          have hfc := hFI.1
          refine jv_getI (pc' := 4) (c := 12) (k := 33) (v := (iI 0)) rfl rfl rfl (fun _ _ => rfl) rfl rfl hS1.2.1 ?_
          refine jv_if_ne (t := 91) (pc' := 7) (a := 0) rfl rfl rfl (by omega) (fun hz_2 => ?_) (fun hz_2 => ?_)
          · skip
            exact absurd hz_2 (by decide)
          · skip
            refine jv_aload_n (pc' := 8) (k := 0) (x := 103) rfl rfl rfl hf0 ?_
            refine jv_getI (pc' := 11) (c := 12) (k := 19) (v := (iI ((a1 : Nat) : Int))) rfl rfl rfl (fun _ _ => rfl) rfl rfl hS1.1 ?_
            refine jv_aload_n (pc' := 12) (k := 0) (x := 103) rfl rfl rfl hf0 ?_
            refine jv_getI (pc' := 15) (c := 12) (k := 18) (v := (iI (n : Int))) rfl rfl rfl (fun _ _ => rfl) rfl rfl X1.1.1 ?_
            refine jv_ic_ge (t := 91) (pc' := 18) (a := ((a1 : Nat) : Int)) (b := (n : Int)) rfl rfl rfl (by omega) (fun hz_3 => ?_) (fun hz_3 => ?_)
            · skip
              refine jv_retV rfl rfl ⟨_, _, rfl, ?_⟩
              exfalso; omega
            · skip
              refine jv_aload_n (pc' := 19) (k := 0) (x := 103) rfl rfl rfl hf0 ?_
              refine jv_call (pc' := 22) rfl (ml_here (I := I1) (a := a1) X1.1 hS1.1 (by omega)) (fun vq4 gq4 q4 => ?_)
              obtain ⟨rfl, rfl⟩ := q4
              show jx L xs _ 148 22 _ [.int (iI (c a1))] _ _
              refine jv_bipush (pc' := 24) (n := 62) rfl rfl rfl ?_
              refine jv_ic_eq (t := 91) (pc' := 27) (a := (c a1)) (b := 62) rfl rfl rfl (by omega) (fun hz_5 => ?_) (fun hz_5 => ?_)
              · skip
                refine jv_retV rfl rfl ⟨_, _, rfl, ?_⟩
                exfalso; omega
              · skip
                refine jv_aload_n (pc' := 28) (k := 0) (x := 103) rfl rfl rfl hf0 ?_
                refine jv_call (pc' := 31) rfl (ml_here (I := I1) (a := a1) X1.1 hS1.1 (by omega)) (fun vq6 gq6 q6 => ?_)
                obtain ⟨rfl, rfl⟩ := q6
                show jx L xs _ 148 31 _ [.int (iI (c a1))] _ _
                refine jv_istore_n (pc' := 32) (k := 1) (x := (iI (c a1))) rfl rfl rfl rfl (Or.inr (congrArg jm_lng hf0)) ?_
                refine jv_iload_n (pc' := 33) (k := 1) (x := (iI (c a1))) rfl rfl rfl rfl ?_
                refine jv_bipush (pc' := 35) (n := 41) rfl rfl rfl ?_
                refine jv_ic_ne (t := 45) (pc' := 38) (a := (c a1)) (b := 41) rfl rfl rfl (by omega) (fun hz_7 => ?_) (fun hz_7 => ?_)
                · skip
                  refine jv_iload_n (pc' := 46) (k := 1) (x := (iI (c a1))) rfl rfl rfl rfl ?_
                  refine jv_bipush (pc' := 48) (n := 36) rfl rfl rfl ?_
                  refine jv_ic_ne (t := 58) (pc' := 51) (a := (c a1)) (b := 36) rfl rfl rfl (by omega) (fun hz_8 => ?_) (fun hz_8 => ?_)
                  · skip
                    refine jv_iload_n (pc' := 59) (k := 1) (x := (iI (c a1))) rfl rfl rfl rfl ?_
                    refine jv_bipush (pc' := 61) (n := 35) rfl rfl rfl ?_
                    refine jv_ic_ne (t := 71) (pc' := 64) (a := (c a1)) (b := 35) rfl rfl rfl (by omega) (fun hz_9 => ?_) (fun hz_9 => ?_)
                    · skip
                      refine jv_iload_n (pc' := 72) (k := 1) (x := (iI (c a1))) rfl rfl rfl rfl ?_
                      refine jv_bipush (pc' := 74) (n := 63) rfl rfl rfl ?_
                      refine jv_ic_ne (t := 84) (pc' := 77) (a := (c a1)) (b := 63) rfl rfl rfl (by omega) (fun hz_10 => ?_) (fun hz_10 => ?_)
                      · skip
                        refine jv_aload_n (pc' := 85) (k := 0) (x := 103) rfl rfl rfl hf0 ?_
                        refine jv_call (pc' := 88) rfl (ml_runField (s := s1) (I := I1) (M := M1) (a := a1) (ok := false) X1 hS1.2.2.2.2 hV1 hS1.1 hS1.2.1 hFI (by omega) hFD) (fun vq11 gq11 q11 => ?_)
                        obtain ⟨Iq11, Mq11, rfl, rfl, rq11, tq11, Dq11, aq11, oq11⟩ := q11
                        show jx L xs _ 148 88 _ [] _ _
                        refine jx_step (pc' := 0) rfl ?_
                        refine jv_aload_n (pc' := 1) (k := 0) (x := 103) rfl rfl rfl hf0 ?_
                        refine jv_getI (pc' := 4) (c := 12) (k := 33) (v := (iI 1)) rfl rfl rfl (fun _ _ => rfl) rfl rfl oq11 ?_
                        refine jv_if_ne (t := 91) (pc' := 7) (a := 1) rfl rfl rfl (by omega) (fun hz_12 => ?_) (fun hz_12 => ?_)
                        · skip
                          refine jv_retV rfl rfl ⟨_, _, rfl, ?_⟩
                          exact ⟨_, _, rfl, rfl, (fr_t hf (fr_w rq11 wM_1)), (fr_t hm (fr_w tq11 wN_1)), Dq11, oq11⟩
                        · skip
                          exact absurd hz_12 (by decide)
                      · skip
                        exfalso; omega
                    · skip
                      exfalso; omega
                  · skip
                    exfalso; omega
                · skip
                  exfalso; omega
        · skip
          have hfc := hBK.1
          refine jv_getI (pc' := 4) (c := 12) (k := 33) (v := (iI 0)) rfl rfl rfl (fun _ _ => rfl) rfl rfl hS1.2.1 ?_
          refine jv_if_ne (t := 91) (pc' := 7) (a := 0) rfl rfl rfl (by omega) (fun hz_13 => ?_) (fun hz_13 => ?_)
          · skip
            exact absurd hz_13 (by decide)
          · skip
            refine jv_aload_n (pc' := 8) (k := 0) (x := 103) rfl rfl rfl hf0 ?_
            refine jv_getI (pc' := 11) (c := 12) (k := 19) (v := (iI ((a1 : Nat) : Int))) rfl rfl rfl (fun _ _ => rfl) rfl rfl hS1.1 ?_
            refine jv_aload_n (pc' := 12) (k := 0) (x := 103) rfl rfl rfl hf0 ?_
            refine jv_getI (pc' := 15) (c := 12) (k := 18) (v := (iI (n : Int))) rfl rfl rfl (fun _ _ => rfl) rfl rfl X1.1.1 ?_
            refine jv_ic_ge (t := 91) (pc' := 18) (a := ((a1 : Nat) : Int)) (b := (n : Int)) rfl rfl rfl (by omega) (fun hz_14 => ?_) (fun hz_14 => ?_)
            · skip
              refine jv_retV rfl rfl ⟨_, _, rfl, ?_⟩
              exfalso; omega
            · skip
              refine jv_aload_n (pc' := 19) (k := 0) (x := 103) rfl rfl rfl hf0 ?_
              refine jv_call (pc' := 22) rfl (ml_here (I := I1) (a := a1) X1.1 hS1.1 (by omega)) (fun vq15 gq15 q15 => ?_)
              obtain ⟨rfl, rfl⟩ := q15
              show jx L xs _ 148 22 _ [.int (iI (c a1))] _ _
              refine jv_bipush (pc' := 24) (n := 62) rfl rfl rfl ?_
              refine jv_ic_eq (t := 91) (pc' := 27) (a := (c a1)) (b := 62) rfl rfl rfl (by omega) (fun hz_16 => ?_) (fun hz_16 => ?_)
              · skip
                refine jv_retV rfl rfl ⟨_, _, rfl, ?_⟩
                exfalso; omega
              · skip
                refine jv_aload_n (pc' := 28) (k := 0) (x := 103) rfl rfl rfl hf0 ?_
                refine jv_call (pc' := 31) rfl (ml_here (I := I1) (a := a1) X1.1 hS1.1 (by omega)) (fun vq17 gq17 q17 => ?_)
                obtain ⟨rfl, rfl⟩ := q17
                show jx L xs _ 148 31 _ [.int (iI (c a1))] _ _
                refine jv_istore_n (pc' := 32) (k := 1) (x := (iI (c a1))) rfl rfl rfl rfl (Or.inr (congrArg jm_lng hf0)) ?_
                refine jv_iload_n (pc' := 33) (k := 1) (x := (iI (c a1))) rfl rfl rfl rfl ?_
                refine jv_bipush (pc' := 35) (n := 41) rfl rfl rfl ?_
                refine jv_ic_ne (t := 45) (pc' := 38) (a := (c a1)) (b := 41) rfl rfl rfl (by omega) (fun hz_18 => ?_) (fun hz_18 => ?_)
                · skip
                  refine jv_iload_n (pc' := 46) (k := 1) (x := (iI (c a1))) rfl rfl rfl rfl ?_
                  refine jv_bipush (pc' := 48) (n := 36) rfl rfl rfl ?_
                  refine jv_ic_ne (t := 58) (pc' := 51) (a := (c a1)) (b := 36) rfl rfl rfl (by omega) (fun hz_19 => ?_) (fun hz_19 => ?_)
                  · skip
                    refine jv_iload_n (pc' := 59) (k := 1) (x := (iI (c a1))) rfl rfl rfl rfl ?_
                    refine jv_bipush (pc' := 61) (n := 35) rfl rfl rfl ?_
                    refine jv_ic_ne (t := 71) (pc' := 64) (a := (c a1)) (b := 35) rfl rfl rfl (by omega) (fun hz_20 => ?_) (fun hz_20 => ?_)
                    · skip
                      refine jv_iload_n (pc' := 72) (k := 1) (x := (iI (c a1))) rfl rfl rfl rfl ?_
                      refine jv_bipush (pc' := 74) (n := 63) rfl rfl rfl ?_
                      refine jv_ic_ne (t := 84) (pc' := 77) (a := (c a1)) (b := 63) rfl rfl rfl (by omega) (fun hz_21 => ?_) (fun hz_21 => ?_)
                      · skip
                        exfalso; omega
                      · skip
                        exfalso; omega
                    · skip
                      exfalso; omega
                  · skip
                    refine jv_aload_n (pc' := 52) (k := 0) (x := 103) rfl rfl rfl hf0 ?_
                    refine jv_call (pc' := 55) rfl (ml_runBlock (s := s1) (I := I1) (M := M1) (a := a1) (ok := false) X1 hS1.2.2.2.2 hV1 hS1.1 hS1.2.1 hBK (by omega) hBL) (fun vq22 gq22 q22 => ?_)
                    obtain ⟨Iq22, Mq22, rfl, rfl, rq22, tq22, Dq22, aq22, oq22⟩ := q22
                    show jx L xs _ 148 55 _ [] _ _
                    refine jx_step (pc' := 88) rfl ?_
                    refine jx_step (pc' := 0) rfl ?_
                    refine jv_aload_n (pc' := 1) (k := 0) (x := 103) rfl rfl rfl hf0 ?_
                    refine jv_getI (pc' := 4) (c := 12) (k := 33) (v := (iI 1)) rfl rfl rfl (fun _ _ => rfl) rfl rfl oq22 ?_
                    refine jv_if_ne (t := 91) (pc' := 7) (a := 1) rfl rfl rfl (by omega) (fun hz_23 => ?_) (fun hz_23 => ?_)
                    · skip
                      refine jv_retV rfl rfl ⟨_, _, rfl, ?_⟩
                      exact ⟨_, _, rfl, rfl, (fr_t hf (fr_w rq22 wM_1)), (fr_t hm (fr_w tq22 wN_1)), Dq22, oq22⟩
                    · skip
                      exact absurd hz_23 (by decide)
                · skip
                  exfalso; omega
        · exact absurd h01 (by decide)
      · obtain ⟨hB1, md2, a2, ks2, s2, hT, hP1⟩ := hP1
        have ha80 := hB1.1
        have hV1 := hB1.2.2.1
        have hb2 : a2 ≤ 80 := (DQ_B hP1).1
        have hk3 : ks2.length ≤ 3 := (DQ_B hP1).2.1
        rcases hT with ⟨_, hm2, hk2, Y, f, hFI, hFD⟩ | ⟨_, hm2, hk2, ha2, Y, f, hBK, hBL⟩ | ⟨_, hm2, hs2, Y, f, hHD, h35, hk2⟩ | ⟨_, hm2, hs2, Y, f, b, hHD, h63, hop⟩ | ⟨_, hm2, hs2, hk2, hkne, h41⟩ | ⟨h01, _⟩
        · skip
          subst hm2; subst hk2
          have hfc := hFI.1
          refine jv_getI (pc' := 4) (c := 12) (k := 33) (v := (iI 0)) rfl rfl rfl (fun _ _ => rfl) rfl rfl hS1.2.1 ?_
          refine jv_if_ne (t := 91) (pc' := 7) (a := 0) rfl rfl rfl (by omega) (fun hz_24 => ?_) (fun hz_24 => ?_)
          · skip
            exact absurd hz_24 (by decide)
          · skip
            refine jv_aload_n (pc' := 8) (k := 0) (x := 103) rfl rfl rfl hf0 ?_
            refine jv_getI (pc' := 11) (c := 12) (k := 19) (v := (iI ((a1 : Nat) : Int))) rfl rfl rfl (fun _ _ => rfl) rfl rfl hS1.1 ?_
            refine jv_aload_n (pc' := 12) (k := 0) (x := 103) rfl rfl rfl hf0 ?_
            refine jv_getI (pc' := 15) (c := 12) (k := 18) (v := (iI (n : Int))) rfl rfl rfl (fun _ _ => rfl) rfl rfl X1.1.1 ?_
            refine jv_ic_ge (t := 91) (pc' := 18) (a := ((a1 : Nat) : Int)) (b := (n : Int)) rfl rfl rfl (by omega) (fun hz_25 => ?_) (fun hz_25 => ?_)
            · skip
              refine jv_retV rfl rfl ⟨_, _, rfl, ?_⟩
              exfalso; omega
            · skip
              refine jv_aload_n (pc' := 19) (k := 0) (x := 103) rfl rfl rfl hf0 ?_
              refine jv_call (pc' := 22) rfl (ml_here (I := I1) (a := a1) X1.1 hS1.1 (by omega)) (fun vq26 gq26 q26 => ?_)
              obtain ⟨rfl, rfl⟩ := q26
              show jx L xs _ 148 22 _ [.int (iI (c a1))] _ _
              refine jv_bipush (pc' := 24) (n := 62) rfl rfl rfl ?_
              refine jv_ic_eq (t := 91) (pc' := 27) (a := (c a1)) (b := 62) rfl rfl rfl (by omega) (fun hz_27 => ?_) (fun hz_27 => ?_)
              · skip
                refine jv_retV rfl rfl ⟨_, _, rfl, ?_⟩
                exfalso; omega
              · skip
                refine jv_aload_n (pc' := 28) (k := 0) (x := 103) rfl rfl rfl hf0 ?_
                refine jv_call (pc' := 31) rfl (ml_here (I := I1) (a := a1) X1.1 hS1.1 (by omega)) (fun vq28 gq28 q28 => ?_)
                obtain ⟨rfl, rfl⟩ := q28
                show jx L xs _ 148 31 _ [.int (iI (c a1))] _ _
                refine jv_istore_n (pc' := 32) (k := 1) (x := (iI (c a1))) rfl rfl rfl rfl (Or.inr (congrArg jm_lng hf0)) ?_
                refine jv_iload_n (pc' := 33) (k := 1) (x := (iI (c a1))) rfl rfl rfl rfl ?_
                refine jv_bipush (pc' := 35) (n := 41) rfl rfl rfl ?_
                refine jv_ic_ne (t := 45) (pc' := 38) (a := (c a1)) (b := 41) rfl rfl rfl (by omega) (fun hz_29 => ?_) (fun hz_29 => ?_)
                · skip
                  refine jv_iload_n (pc' := 46) (k := 1) (x := (iI (c a1))) rfl rfl rfl rfl ?_
                  refine jv_bipush (pc' := 48) (n := 36) rfl rfl rfl ?_
                  refine jv_ic_ne (t := 58) (pc' := 51) (a := (c a1)) (b := 36) rfl rfl rfl (by omega) (fun hz_30 => ?_) (fun hz_30 => ?_)
                  · skip
                    refine jv_iload_n (pc' := 59) (k := 1) (x := (iI (c a1))) rfl rfl rfl rfl ?_
                    refine jv_bipush (pc' := 61) (n := 35) rfl rfl rfl ?_
                    refine jv_ic_ne (t := 71) (pc' := 64) (a := (c a1)) (b := 35) rfl rfl rfl (by omega) (fun hz_31 => ?_) (fun hz_31 => ?_)
                    · skip
                      refine jv_iload_n (pc' := 72) (k := 1) (x := (iI (c a1))) rfl rfl rfl rfl ?_
                      refine jv_bipush (pc' := 74) (n := 63) rfl rfl rfl ?_
                      refine jv_ic_ne (t := 84) (pc' := 77) (a := (c a1)) (b := 63) rfl rfl rfl (by omega) (fun hz_32 => ?_) (fun hz_32 => ?_)
                      · skip
                        refine jv_aload_n (pc' := 85) (k := 0) (x := 103) rfl rfl rfl hf0 ?_
                        refine jv_call (pc' := 88) rfl (ml_runField (s := s1) (I := I1) (M := M1) (a := a1) (ok := true) X1 hS1.2.2.2.2 hV1 hS1.1 hS1.2.1 hFI (by omega) hFD) (fun vq33 gq33 q33 => ?_)
                        obtain ⟨Iq33, Mq33, rfl, rfl, rq33, tq33, Dq33, aq33, oq33⟩ := q33
                        show jx L xs _ 148 88 _ [] _ _
                        refine jx_step (pc' := 0) rfl ?_
                        exact ih k1 a2 ks2 s2 Iq33 Mq33 (by omega) (fr_t hf (fr_w rq33 wM_1)) (fr_t hm (fr_w tq33 wN_1)) ⟨aq33, oq33, (rq33 103 37 (by simp [wM1])).trans hS1.2.2.1, SK_fr hS1.2.2.2.1 rq33 tq33, Dq33⟩ hP1 _ hf0 
                      · skip
                        exfalso; omega
                    · skip
                      exfalso; omega
                  · skip
                    exfalso; omega
                · skip
                  exfalso; omega
        · skip
          subst hm2; subst hk2; subst ha2
          have hfc := hBK.1
          refine jv_getI (pc' := 4) (c := 12) (k := 33) (v := (iI 0)) rfl rfl rfl (fun _ _ => rfl) rfl rfl hS1.2.1 ?_
          refine jv_if_ne (t := 91) (pc' := 7) (a := 0) rfl rfl rfl (by omega) (fun hz_34 => ?_) (fun hz_34 => ?_)
          · skip
            exact absurd hz_34 (by decide)
          · skip
            refine jv_aload_n (pc' := 8) (k := 0) (x := 103) rfl rfl rfl hf0 ?_
            refine jv_getI (pc' := 11) (c := 12) (k := 19) (v := (iI ((a1 : Nat) : Int))) rfl rfl rfl (fun _ _ => rfl) rfl rfl hS1.1 ?_
            refine jv_aload_n (pc' := 12) (k := 0) (x := 103) rfl rfl rfl hf0 ?_
            refine jv_getI (pc' := 15) (c := 12) (k := 18) (v := (iI (n : Int))) rfl rfl rfl (fun _ _ => rfl) rfl rfl X1.1.1 ?_
            refine jv_ic_ge (t := 91) (pc' := 18) (a := ((a1 : Nat) : Int)) (b := (n : Int)) rfl rfl rfl (by omega) (fun hz_35 => ?_) (fun hz_35 => ?_)
            · skip
              refine jv_retV rfl rfl ⟨_, _, rfl, ?_⟩
              exfalso; omega
            · skip
              refine jv_aload_n (pc' := 19) (k := 0) (x := 103) rfl rfl rfl hf0 ?_
              refine jv_call (pc' := 22) rfl (ml_here (I := I1) (a := a1) X1.1 hS1.1 (by omega)) (fun vq36 gq36 q36 => ?_)
              obtain ⟨rfl, rfl⟩ := q36
              show jx L xs _ 148 22 _ [.int (iI (c a1))] _ _
              refine jv_bipush (pc' := 24) (n := 62) rfl rfl rfl ?_
              refine jv_ic_eq (t := 91) (pc' := 27) (a := (c a1)) (b := 62) rfl rfl rfl (by omega) (fun hz_37 => ?_) (fun hz_37 => ?_)
              · skip
                refine jv_retV rfl rfl ⟨_, _, rfl, ?_⟩
                exfalso; omega
              · skip
                refine jv_aload_n (pc' := 28) (k := 0) (x := 103) rfl rfl rfl hf0 ?_
                refine jv_call (pc' := 31) rfl (ml_here (I := I1) (a := a1) X1.1 hS1.1 (by omega)) (fun vq38 gq38 q38 => ?_)
                obtain ⟨rfl, rfl⟩ := q38
                show jx L xs _ 148 31 _ [.int (iI (c a1))] _ _
                refine jv_istore_n (pc' := 32) (k := 1) (x := (iI (c a1))) rfl rfl rfl rfl (Or.inr (congrArg jm_lng hf0)) ?_
                refine jv_iload_n (pc' := 33) (k := 1) (x := (iI (c a1))) rfl rfl rfl rfl ?_
                refine jv_bipush (pc' := 35) (n := 41) rfl rfl rfl ?_
                refine jv_ic_ne (t := 45) (pc' := 38) (a := (c a1)) (b := 41) rfl rfl rfl (by omega) (fun hz_39 => ?_) (fun hz_39 => ?_)
                · skip
                  refine jv_iload_n (pc' := 46) (k := 1) (x := (iI (c a1))) rfl rfl rfl rfl ?_
                  refine jv_bipush (pc' := 48) (n := 36) rfl rfl rfl ?_
                  refine jv_ic_ne (t := 58) (pc' := 51) (a := (c a1)) (b := 36) rfl rfl rfl (by omega) (fun hz_40 => ?_) (fun hz_40 => ?_)
                  · skip
                    refine jv_iload_n (pc' := 59) (k := 1) (x := (iI (c a1))) rfl rfl rfl rfl ?_
                    refine jv_bipush (pc' := 61) (n := 35) rfl rfl rfl ?_
                    refine jv_ic_ne (t := 71) (pc' := 64) (a := (c a1)) (b := 35) rfl rfl rfl (by omega) (fun hz_41 => ?_) (fun hz_41 => ?_)
                    · skip
                      refine jv_iload_n (pc' := 72) (k := 1) (x := (iI (c a1))) rfl rfl rfl rfl ?_
                      refine jv_bipush (pc' := 74) (n := 63) rfl rfl rfl ?_
                      refine jv_ic_ne (t := 84) (pc' := 77) (a := (c a1)) (b := 63) rfl rfl rfl (by omega) (fun hz_42 => ?_) (fun hz_42 => ?_)
                      · skip
                        exfalso; omega
                      · skip
                        exfalso; omega
                    · skip
                      exfalso; omega
                  · skip
                    refine jv_aload_n (pc' := 52) (k := 0) (x := 103) rfl rfl rfl hf0 ?_
                    refine jv_call (pc' := 55) rfl (ml_runBlock (s := s1) (I := I1) (M := M1) (a := a1) (ok := true) X1 hS1.2.2.2.2 hV1 hS1.1 hS1.2.1 hBK (by omega) hBL) (fun vq43 gq43 q43 => ?_)
                    obtain ⟨Iq43, Mq43, rfl, rfl, rq43, tq43, Dq43, aq43, oq43⟩ := q43
                    show jx L xs _ 148 55 _ [] _ _
                    refine jx_step (pc' := 88) rfl ?_
                    refine jx_step (pc' := 0) rfl ?_
                    exact ih k1 (a1 + 2) ks2 s2 Iq43 Mq43 (by omega) (fr_t hf (fr_w rq43 wM_1)) (fr_t hm (fr_w tq43 wN_1)) ⟨aq43, oq43, (rq43 103 37 (by simp [wM1])).trans hS1.2.2.1, SK_fr hS1.2.2.2.1 rq43 tq43, Dq43⟩ hP1 _ hf0 
                · skip
                  exfalso; omega
        · skip
          subst hm2; subst hs2; subst hk2
          rcases k1 with _ | k1
          · obtain ⟨hB2, hO⟩ := hP1
            refine jv_getI (pc' := 4) (c := 12) (k := 33) (v := (iI 0)) rfl rfl rfl (fun _ _ => rfl) rfl rfl hS1.2.1 ?_
            refine jv_if_ne (t := 91) (pc' := 7) (a := 0) rfl rfl rfl (by omega) (fun hz_44 => ?_) (fun hz_44 => ?_)
            · skip
              exact absurd hz_44 (by decide)
            · skip
              refine jv_aload_n (pc' := 8) (k := 0) (x := 103) rfl rfl rfl hf0 ?_
              refine jv_getI (pc' := 11) (c := 12) (k := 19) (v := (iI ((a1 : Nat) : Int))) rfl rfl rfl (fun _ _ => rfl) rfl rfl hS1.1 ?_
              refine jv_aload_n (pc' := 12) (k := 0) (x := 103) rfl rfl rfl hf0 ?_
              refine jv_getI (pc' := 15) (c := 12) (k := 18) (v := (iI (n : Int))) rfl rfl rfl (fun _ _ => rfl) rfl rfl X1.1.1 ?_
              refine jv_ic_ge (t := 91) (pc' := 18) (a := ((a1 : Nat) : Int)) (b := (n : Int)) rfl rfl rfl (by omega) (fun hz_45 => ?_) (fun hz_45 => ?_)
              · skip
                refine jv_retV rfl rfl ⟨_, _, rfl, ?_⟩
                exfalso; omega
              · skip
                refine jv_aload_n (pc' := 19) (k := 0) (x := 103) rfl rfl rfl hf0 ?_
                refine jv_call (pc' := 22) rfl (ml_here (I := I1) (a := a1) X1.1 hS1.1 (by omega)) (fun vq46 gq46 q46 => ?_)
                obtain ⟨rfl, rfl⟩ := q46
                show jx L xs _ 148 22 _ [.int (iI (c a1))] _ _
                refine jv_bipush (pc' := 24) (n := 62) rfl rfl rfl ?_
                refine jv_ic_eq (t := 91) (pc' := 27) (a := (c a1)) (b := 62) rfl rfl rfl (by omega) (fun hz_47 => ?_) (fun hz_47 => ?_)
                · skip
                  refine jv_retV rfl rfl ⟨_, _, rfl, ?_⟩
                  exfalso; omega
                · skip
                  refine jv_aload_n (pc' := 28) (k := 0) (x := 103) rfl rfl rfl hf0 ?_
                  refine jv_call (pc' := 31) rfl (ml_here (I := I1) (a := a1) X1.1 hS1.1 (by omega)) (fun vq48 gq48 q48 => ?_)
                  obtain ⟨rfl, rfl⟩ := q48
                  show jx L xs _ 148 31 _ [.int (iI (c a1))] _ _
                  refine jv_istore_n (pc' := 32) (k := 1) (x := (iI (c a1))) rfl rfl rfl rfl (Or.inr (congrArg jm_lng hf0)) ?_
                  refine jv_iload_n (pc' := 33) (k := 1) (x := (iI (c a1))) rfl rfl rfl rfl ?_
                  refine jv_bipush (pc' := 35) (n := 41) rfl rfl rfl ?_
                  refine jv_ic_ne (t := 45) (pc' := 38) (a := (c a1)) (b := 41) rfl rfl rfl (by omega) (fun hz_49 => ?_) (fun hz_49 => ?_)
                  · skip
                    refine jv_iload_n (pc' := 46) (k := 1) (x := (iI (c a1))) rfl rfl rfl rfl ?_
                    refine jv_bipush (pc' := 48) (n := 36) rfl rfl rfl ?_
                    refine jv_ic_ne (t := 58) (pc' := 51) (a := (c a1)) (b := 36) rfl rfl rfl (by omega) (fun hz_50 => ?_) (fun hz_50 => ?_)
                    · skip
                      refine jv_iload_n (pc' := 59) (k := 1) (x := (iI (c a1))) rfl rfl rfl rfl ?_
                      refine jv_bipush (pc' := 61) (n := 35) rfl rfl rfl ?_
                      refine jv_ic_ne (t := 71) (pc' := 64) (a := (c a1)) (b := 35) rfl rfl rfl (by omega) (fun hz_51 => ?_) (fun hz_51 => ?_)
                      · skip
                        refine jv_iload_n (pc' := 72) (k := 1) (x := (iI (c a1))) rfl rfl rfl rfl ?_
                        refine jv_bipush (pc' := 74) (n := 63) rfl rfl rfl ?_
                        refine jv_ic_ne (t := 84) (pc' := 77) (a := (c a1)) (b := 63) rfl rfl rfl (by omega) (fun hz_52 => ?_) (fun hz_52 => ?_)
                        · skip
                          exfalso; omega
                        · skip
                          exfalso; omega
                      · skip
                        refine jv_aload_n (pc' := 65) (k := 0) (x := 103) rfl rfl rfl hf0 ?_
                        refine jv_call (pc' := 68) rfl (ml_runGroup_q (I := I1) (M := M1) (a := a1) X1 hS1 hB1 hHD h35 hb2 hB2 hO) (fun vq53 gq53 q53 => ?_)
                        obtain ⟨Iq53, Mq53, rfl, rfl, rq53, tq53, Dq53, oq53⟩ := q53
                        show jx L xs _ 148 68 _ [] _ _
                        refine jx_step (pc' := 88) rfl ?_
                        refine jx_step (pc' := 0) rfl ?_
                        refine jv_aload_n (pc' := 1) (k := 0) (x := 103) rfl rfl rfl hf0 ?_
                        refine jv_getI (pc' := 4) (c := 12) (k := 33) (v := (iI 1)) rfl rfl rfl (fun _ _ => rfl) rfl rfl oq53 ?_
                        refine jv_if_ne (t := 91) (pc' := 7) (a := 1) rfl rfl rfl (by omega) (fun hz_54 => ?_) (fun hz_54 => ?_)
                        · skip
                          refine jv_retV rfl rfl ⟨_, _, rfl, ?_⟩
                          exact ⟨_, _, rfl, rfl, (fr_t hf rq53), (fr_t hm tq53), Dq53, oq53⟩
                        · skip
                          exact absurd hz_54 (by decide)
                    · skip
                      exfalso; omega
                  · skip
                    exfalso; omega
          · obtain ⟨hB2, md3, a3, ks3, s3, hT2, hP1⟩ := hP1
            have hm3 := (DT1 hT2).1
            subst hm3
            refine jv_getI (pc' := 4) (c := 12) (k := 33) (v := (iI 0)) rfl rfl rfl (fun _ _ => rfl) rfl rfl hS1.2.1 ?_
            refine jv_if_ne (t := 91) (pc' := 7) (a := 0) rfl rfl rfl (by omega) (fun hz_55 => ?_) (fun hz_55 => ?_)
            · skip
              exact absurd hz_55 (by decide)
            · skip
              refine jv_aload_n (pc' := 8) (k := 0) (x := 103) rfl rfl rfl hf0 ?_
              refine jv_getI (pc' := 11) (c := 12) (k := 19) (v := (iI ((a1 : Nat) : Int))) rfl rfl rfl (fun _ _ => rfl) rfl rfl hS1.1 ?_
              refine jv_aload_n (pc' := 12) (k := 0) (x := 103) rfl rfl rfl hf0 ?_
              refine jv_getI (pc' := 15) (c := 12) (k := 18) (v := (iI (n : Int))) rfl rfl rfl (fun _ _ => rfl) rfl rfl X1.1.1 ?_
              refine jv_ic_ge (t := 91) (pc' := 18) (a := ((a1 : Nat) : Int)) (b := (n : Int)) rfl rfl rfl (by omega) (fun hz_56 => ?_) (fun hz_56 => ?_)
              · skip
                refine jv_retV rfl rfl ⟨_, _, rfl, ?_⟩
                exfalso; omega
              · skip
                refine jv_aload_n (pc' := 19) (k := 0) (x := 103) rfl rfl rfl hf0 ?_
                refine jv_call (pc' := 22) rfl (ml_here (I := I1) (a := a1) X1.1 hS1.1 (by omega)) (fun vq57 gq57 q57 => ?_)
                obtain ⟨rfl, rfl⟩ := q57
                show jx L xs _ 148 22 _ [.int (iI (c a1))] _ _
                refine jv_bipush (pc' := 24) (n := 62) rfl rfl rfl ?_
                refine jv_ic_eq (t := 91) (pc' := 27) (a := (c a1)) (b := 62) rfl rfl rfl (by omega) (fun hz_58 => ?_) (fun hz_58 => ?_)
                · skip
                  refine jv_retV rfl rfl ⟨_, _, rfl, ?_⟩
                  exfalso; omega
                · skip
                  refine jv_aload_n (pc' := 28) (k := 0) (x := 103) rfl rfl rfl hf0 ?_
                  refine jv_call (pc' := 31) rfl (ml_here (I := I1) (a := a1) X1.1 hS1.1 (by omega)) (fun vq59 gq59 q59 => ?_)
                  obtain ⟨rfl, rfl⟩ := q59
                  show jx L xs _ 148 31 _ [.int (iI (c a1))] _ _
                  refine jv_istore_n (pc' := 32) (k := 1) (x := (iI (c a1))) rfl rfl rfl rfl (Or.inr (congrArg jm_lng hf0)) ?_
                  refine jv_iload_n (pc' := 33) (k := 1) (x := (iI (c a1))) rfl rfl rfl rfl ?_
                  refine jv_bipush (pc' := 35) (n := 41) rfl rfl rfl ?_
                  refine jv_ic_ne (t := 45) (pc' := 38) (a := (c a1)) (b := 41) rfl rfl rfl (by omega) (fun hz_60 => ?_) (fun hz_60 => ?_)
                  · skip
                    refine jv_iload_n (pc' := 46) (k := 1) (x := (iI (c a1))) rfl rfl rfl rfl ?_
                    refine jv_bipush (pc' := 48) (n := 36) rfl rfl rfl ?_
                    refine jv_ic_ne (t := 58) (pc' := 51) (a := (c a1)) (b := 36) rfl rfl rfl (by omega) (fun hz_61 => ?_) (fun hz_61 => ?_)
                    · skip
                      refine jv_iload_n (pc' := 59) (k := 1) (x := (iI (c a1))) rfl rfl rfl rfl ?_
                      refine jv_bipush (pc' := 61) (n := 35) rfl rfl rfl ?_
                      refine jv_ic_ne (t := 71) (pc' := 64) (a := (c a1)) (b := 35) rfl rfl rfl (by omega) (fun hz_62 => ?_) (fun hz_62 => ?_)
                      · skip
                        refine jv_iload_n (pc' := 72) (k := 1) (x := (iI (c a1))) rfl rfl rfl rfl ?_
                        refine jv_bipush (pc' := 74) (n := 63) rfl rfl rfl ?_
                        refine jv_ic_ne (t := 84) (pc' := 77) (a := (c a1)) (b := 63) rfl rfl rfl (by omega) (fun hz_63 => ?_) (fun hz_63 => ?_)
                        · skip
                          exfalso; omega
                        · skip
                          exfalso; omega
                      · skip
                        refine jv_aload_n (pc' := 65) (k := 0) (x := 103) rfl rfl rfl hf0 ?_
                        refine jv_call (pc' := 68) rfl (ml_runGroup_t (I := I1) (M := M1) (a := a1) X1 hS1 hB1 hHD h35 hb2 hB2 hT2) (fun vq64 gq64 q64 => ?_)
                        obtain ⟨Iq64, Mq64, rfl, rfl, rq64, tq64, Sq64⟩ := q64
                        show jx L xs _ 148 68 _ [] _ _
                        refine jx_step (pc' := 88) rfl ?_
                        refine jx_step (pc' := 0) rfl ?_
                        exact ih k1 a3 ks3 s3 Iq64 Mq64 (by omega) (fr_t hf rq64) (fr_t hm tq64) Sq64 hP1 _ hf0 
                    · skip
                      exfalso; omega
                  · skip
                    exfalso; omega
        · subst hm2; subst hs2
          rcases hop with ⟨hch, ha2, hk2⟩ | ⟨hch, hk2, m, hLQ⟩
          · subst ha2; subst hk2
            refine jv_getI (pc' := 4) (c := 12) (k := 33) (v := (iI 0)) rfl rfl rfl (fun _ _ => rfl) rfl rfl hS1.2.1 ?_
            refine jv_if_ne (t := 91) (pc' := 7) (a := 0) rfl rfl rfl (by omega) (fun hz_65 => ?_) (fun hz_65 => ?_)
            · skip
              exact absurd hz_65 (by decide)
            · skip
              refine jv_aload_n (pc' := 8) (k := 0) (x := 103) rfl rfl rfl hf0 ?_
              refine jv_getI (pc' := 11) (c := 12) (k := 19) (v := (iI ((a1 : Nat) : Int))) rfl rfl rfl (fun _ _ => rfl) rfl rfl hS1.1 ?_
              refine jv_aload_n (pc' := 12) (k := 0) (x := 103) rfl rfl rfl hf0 ?_
              refine jv_getI (pc' := 15) (c := 12) (k := 18) (v := (iI (n : Int))) rfl rfl rfl (fun _ _ => rfl) rfl rfl X1.1.1 ?_
              refine jv_ic_ge (t := 91) (pc' := 18) (a := ((a1 : Nat) : Int)) (b := (n : Int)) rfl rfl rfl (by omega) (fun hz_66 => ?_) (fun hz_66 => ?_)
              · skip
                refine jv_retV rfl rfl ⟨_, _, rfl, ?_⟩
                exfalso; omega
              · skip
                refine jv_aload_n (pc' := 19) (k := 0) (x := 103) rfl rfl rfl hf0 ?_
                refine jv_call (pc' := 22) rfl (ml_here (I := I1) (a := a1) X1.1 hS1.1 (by omega)) (fun vq67 gq67 q67 => ?_)
                obtain ⟨rfl, rfl⟩ := q67
                show jx L xs _ 148 22 _ [.int (iI (c a1))] _ _
                refine jv_bipush (pc' := 24) (n := 62) rfl rfl rfl ?_
                refine jv_ic_eq (t := 91) (pc' := 27) (a := (c a1)) (b := 62) rfl rfl rfl (by omega) (fun hz_68 => ?_) (fun hz_68 => ?_)
                · skip
                  refine jv_retV rfl rfl ⟨_, _, rfl, ?_⟩
                  exfalso; omega
                · skip
                  refine jv_aload_n (pc' := 28) (k := 0) (x := 103) rfl rfl rfl hf0 ?_
                  refine jv_call (pc' := 31) rfl (ml_here (I := I1) (a := a1) X1.1 hS1.1 (by omega)) (fun vq69 gq69 q69 => ?_)
                  obtain ⟨rfl, rfl⟩ := q69
                  show jx L xs _ 148 31 _ [.int (iI (c a1))] _ _
                  refine jv_istore_n (pc' := 32) (k := 1) (x := (iI (c a1))) rfl rfl rfl rfl (Or.inr (congrArg jm_lng hf0)) ?_
                  refine jv_iload_n (pc' := 33) (k := 1) (x := (iI (c a1))) rfl rfl rfl rfl ?_
                  refine jv_bipush (pc' := 35) (n := 41) rfl rfl rfl ?_
                  refine jv_ic_ne (t := 45) (pc' := 38) (a := (c a1)) (b := 41) rfl rfl rfl (by omega) (fun hz_70 => ?_) (fun hz_70 => ?_)
                  · skip
                    refine jv_iload_n (pc' := 46) (k := 1) (x := (iI (c a1))) rfl rfl rfl rfl ?_
                    refine jv_bipush (pc' := 48) (n := 36) rfl rfl rfl ?_
                    refine jv_ic_ne (t := 58) (pc' := 51) (a := (c a1)) (b := 36) rfl rfl rfl (by omega) (fun hz_71 => ?_) (fun hz_71 => ?_)
                    · skip
                      refine jv_iload_n (pc' := 59) (k := 1) (x := (iI (c a1))) rfl rfl rfl rfl ?_
                      refine jv_bipush (pc' := 61) (n := 35) rfl rfl rfl ?_
                      refine jv_ic_ne (t := 71) (pc' := 64) (a := (c a1)) (b := 35) rfl rfl rfl (by omega) (fun hz_72 => ?_) (fun hz_72 => ?_)
                      · skip
                        refine jv_iload_n (pc' := 72) (k := 1) (x := (iI (c a1))) rfl rfl rfl rfl ?_
                        refine jv_bipush (pc' := 74) (n := 63) rfl rfl rfl ?_
                        refine jv_ic_ne (t := 84) (pc' := 77) (a := (c a1)) (b := 63) rfl rfl rfl (by omega) (fun hz_73 => ?_) (fun hz_73 => ?_)
                        · skip
                          exfalso; omega
                        · skip
                          refine jv_aload_n (pc' := 78) (k := 0) (x := 103) rfl rfl rfl hf0 ?_
                          refine jv_call (pc' := 81) rfl (ml_runOption_y (I := I1) (M := M1) (a := a1) X1 hS1 hB1 hHD h63 hb2 hch hk3) (fun vq74 gq74 q74 => ?_)
                          obtain ⟨Iq74, Mq74, rfl, rfl, rq74, tq74, Sq74⟩ := q74
                          show jx L xs _ 148 81 _ [] _ _
                          refine jx_step (pc' := 88) rfl ?_
                          refine jx_step (pc' := 0) rfl ?_
                          exact ih k1 _ _ _ Iq74 Mq74 (by omega) (fr_t hf rq74) (fr_t hm tq74) Sq74 hP1 _ hf0 
                      · skip
                        exfalso; omega
                    · skip
                      exfalso; omega
                  · skip
                    exfalso; omega
          · subst hk2
            have hlb := LQ_b hLQ
            refine jv_getI (pc' := 4) (c := 12) (k := 33) (v := (iI 0)) rfl rfl rfl (fun _ _ => rfl) rfl rfl hS1.2.1 ?_
            refine jv_if_ne (t := 91) (pc' := 7) (a := 0) rfl rfl rfl (by omega) (fun hz_75 => ?_) (fun hz_75 => ?_)
            · skip
              exact absurd hz_75 (by decide)
            · skip
              refine jv_aload_n (pc' := 8) (k := 0) (x := 103) rfl rfl rfl hf0 ?_
              refine jv_getI (pc' := 11) (c := 12) (k := 19) (v := (iI ((a1 : Nat) : Int))) rfl rfl rfl (fun _ _ => rfl) rfl rfl hS1.1 ?_
              refine jv_aload_n (pc' := 12) (k := 0) (x := 103) rfl rfl rfl hf0 ?_
              refine jv_getI (pc' := 15) (c := 12) (k := 18) (v := (iI (n : Int))) rfl rfl rfl (fun _ _ => rfl) rfl rfl X1.1.1 ?_
              refine jv_ic_ge (t := 91) (pc' := 18) (a := ((a1 : Nat) : Int)) (b := (n : Int)) rfl rfl rfl (by omega) (fun hz_76 => ?_) (fun hz_76 => ?_)
              · skip
                refine jv_retV rfl rfl ⟨_, _, rfl, ?_⟩
                exfalso; omega
              · skip
                refine jv_aload_n (pc' := 19) (k := 0) (x := 103) rfl rfl rfl hf0 ?_
                refine jv_call (pc' := 22) rfl (ml_here (I := I1) (a := a1) X1.1 hS1.1 (by omega)) (fun vq77 gq77 q77 => ?_)
                obtain ⟨rfl, rfl⟩ := q77
                show jx L xs _ 148 22 _ [.int (iI (c a1))] _ _
                refine jv_bipush (pc' := 24) (n := 62) rfl rfl rfl ?_
                refine jv_ic_eq (t := 91) (pc' := 27) (a := (c a1)) (b := 62) rfl rfl rfl (by omega) (fun hz_78 => ?_) (fun hz_78 => ?_)
                · skip
                  refine jv_retV rfl rfl ⟨_, _, rfl, ?_⟩
                  exfalso; omega
                · skip
                  refine jv_aload_n (pc' := 28) (k := 0) (x := 103) rfl rfl rfl hf0 ?_
                  refine jv_call (pc' := 31) rfl (ml_here (I := I1) (a := a1) X1.1 hS1.1 (by omega)) (fun vq79 gq79 q79 => ?_)
                  obtain ⟨rfl, rfl⟩ := q79
                  show jx L xs _ 148 31 _ [.int (iI (c a1))] _ _
                  refine jv_istore_n (pc' := 32) (k := 1) (x := (iI (c a1))) rfl rfl rfl rfl (Or.inr (congrArg jm_lng hf0)) ?_
                  refine jv_iload_n (pc' := 33) (k := 1) (x := (iI (c a1))) rfl rfl rfl rfl ?_
                  refine jv_bipush (pc' := 35) (n := 41) rfl rfl rfl ?_
                  refine jv_ic_ne (t := 45) (pc' := 38) (a := (c a1)) (b := 41) rfl rfl rfl (by omega) (fun hz_80 => ?_) (fun hz_80 => ?_)
                  · skip
                    refine jv_iload_n (pc' := 46) (k := 1) (x := (iI (c a1))) rfl rfl rfl rfl ?_
                    refine jv_bipush (pc' := 48) (n := 36) rfl rfl rfl ?_
                    refine jv_ic_ne (t := 58) (pc' := 51) (a := (c a1)) (b := 36) rfl rfl rfl (by omega) (fun hz_81 => ?_) (fun hz_81 => ?_)
                    · skip
                      refine jv_iload_n (pc' := 59) (k := 1) (x := (iI (c a1))) rfl rfl rfl rfl ?_
                      refine jv_bipush (pc' := 61) (n := 35) rfl rfl rfl ?_
                      refine jv_ic_ne (t := 71) (pc' := 64) (a := (c a1)) (b := 35) rfl rfl rfl (by omega) (fun hz_82 => ?_) (fun hz_82 => ?_)
                      · skip
                        refine jv_iload_n (pc' := 72) (k := 1) (x := (iI (c a1))) rfl rfl rfl rfl ?_
                        refine jv_bipush (pc' := 74) (n := 63) rfl rfl rfl ?_
                        refine jv_ic_ne (t := 84) (pc' := 77) (a := (c a1)) (b := 63) rfl rfl rfl (by omega) (fun hz_83 => ?_) (fun hz_83 => ?_)
                        · skip
                          exfalso; omega
                        · skip
                          refine jv_aload_n (pc' := 78) (k := 0) (x := 103) rfl rfl rfl hf0 ?_
                          refine jv_call (pc' := 81) rfl (ml_runOption_n (I := I1) (M := M1) (a := a1) X1 hS1 hB1 hHD h63 (by omega) hch hLQ) (fun vq84 gq84 q84 => ?_)
                          obtain ⟨Iq84, Mq84, rfl, rfl, rq84, tq84, Sq84⟩ := q84
                          show jx L xs _ 148 81 _ [] _ _
                          refine jx_step (pc' := 88) rfl ?_
                          refine jx_step (pc' := 0) rfl ?_
                          exact ih k1 _ _ _ Iq84 Mq84 (by omega) (fr_t hf rq84) (fr_t hm tq84) Sq84 hP1 _ hf0 
                      · skip
                        exfalso; omega
                    · skip
                      exfalso; omega
                  · skip
                    exfalso; omega
        · skip
          subst hm2; subst hs2; subst hk2
          rcases k1 with _ | k1
          · obtain ⟨hB2, hO⟩ := hP1
            refine jv_getI (pc' := 4) (c := 12) (k := 33) (v := (iI 0)) rfl rfl rfl (fun _ _ => rfl) rfl rfl hS1.2.1 ?_
            refine jv_if_ne (t := 91) (pc' := 7) (a := 0) rfl rfl rfl (by omega) (fun hz_85 => ?_) (fun hz_85 => ?_)
            · skip
              exact absurd hz_85 (by decide)
            · skip
              refine jv_aload_n (pc' := 8) (k := 0) (x := 103) rfl rfl rfl hf0 ?_
              refine jv_getI (pc' := 11) (c := 12) (k := 19) (v := (iI ((a1 : Nat) : Int))) rfl rfl rfl (fun _ _ => rfl) rfl rfl hS1.1 ?_
              refine jv_aload_n (pc' := 12) (k := 0) (x := 103) rfl rfl rfl hf0 ?_
              refine jv_getI (pc' := 15) (c := 12) (k := 18) (v := (iI (n : Int))) rfl rfl rfl (fun _ _ => rfl) rfl rfl X1.1.1 ?_
              refine jv_ic_ge (t := 91) (pc' := 18) (a := ((a1 : Nat) : Int)) (b := (n : Int)) rfl rfl rfl (by omega) (fun hz_86 => ?_) (fun hz_86 => ?_)
              · skip
                refine jv_retV rfl rfl ⟨_, _, rfl, ?_⟩
                exfalso; omega
              · skip
                refine jv_aload_n (pc' := 19) (k := 0) (x := 103) rfl rfl rfl hf0 ?_
                refine jv_call (pc' := 22) rfl (ml_here (I := I1) (a := a1) X1.1 hS1.1 (by omega)) (fun vq87 gq87 q87 => ?_)
                obtain ⟨rfl, rfl⟩ := q87
                show jx L xs _ 148 22 _ [.int (iI (c a1))] _ _
                refine jv_bipush (pc' := 24) (n := 62) rfl rfl rfl ?_
                refine jv_ic_eq (t := 91) (pc' := 27) (a := (c a1)) (b := 62) rfl rfl rfl (by omega) (fun hz_88 => ?_) (fun hz_88 => ?_)
                · skip
                  refine jv_retV rfl rfl ⟨_, _, rfl, ?_⟩
                  exfalso; omega
                · skip
                  refine jv_aload_n (pc' := 28) (k := 0) (x := 103) rfl rfl rfl hf0 ?_
                  refine jv_call (pc' := 31) rfl (ml_here (I := I1) (a := a1) X1.1 hS1.1 (by omega)) (fun vq89 gq89 q89 => ?_)
                  obtain ⟨rfl, rfl⟩ := q89
                  show jx L xs _ 148 31 _ [.int (iI (c a1))] _ _
                  refine jv_istore_n (pc' := 32) (k := 1) (x := (iI (c a1))) rfl rfl rfl rfl (Or.inr (congrArg jm_lng hf0)) ?_
                  refine jv_iload_n (pc' := 33) (k := 1) (x := (iI (c a1))) rfl rfl rfl rfl ?_
                  refine jv_bipush (pc' := 35) (n := 41) rfl rfl rfl ?_
                  refine jv_ic_ne (t := 45) (pc' := 38) (a := (c a1)) (b := 41) rfl rfl rfl (by omega) (fun hz_90 => ?_) (fun hz_90 => ?_)
                  · skip
                    refine jv_iload_n (pc' := 46) (k := 1) (x := (iI (c a1))) rfl rfl rfl rfl ?_
                    refine jv_bipush (pc' := 48) (n := 36) rfl rfl rfl ?_
                    refine jv_ic_ne (t := 58) (pc' := 51) (a := (c a1)) (b := 36) rfl rfl rfl (by omega) (fun hz_91 => ?_) (fun hz_91 => ?_)
                    · skip
                      refine jv_iload_n (pc' := 59) (k := 1) (x := (iI (c a1))) rfl rfl rfl rfl ?_
                      refine jv_bipush (pc' := 61) (n := 35) rfl rfl rfl ?_
                      refine jv_ic_ne (t := 71) (pc' := 64) (a := (c a1)) (b := 35) rfl rfl rfl (by omega) (fun hz_92 => ?_) (fun hz_92 => ?_)
                      · skip
                        refine jv_iload_n (pc' := 72) (k := 1) (x := (iI (c a1))) rfl rfl rfl rfl ?_
                        refine jv_bipush (pc' := 74) (n := 63) rfl rfl rfl ?_
                        refine jv_ic_ne (t := 84) (pc' := 77) (a := (c a1)) (b := 63) rfl rfl rfl (by omega) (fun hz_93 => ?_) (fun hz_93 => ?_)
                        · skip
                          exfalso; omega
                        · skip
                          exfalso; omega
                      · skip
                        exfalso; omega
                    · skip
                      exfalso; omega
                  · skip
                    refine jv_aload_n (pc' := 39) (k := 0) (x := 103) rfl rfl rfl hf0 ?_
                    refine jv_call (pc' := 42) rfl (ml_repeat_q (I := I1) (M := M1) (a := a1) X1 hS1 hB1 (DO1_a hO)) (fun vq94 gq94 q94 => ?_)
                    obtain ⟨Iq94, Mq94, rfl, rfl, rq94, tq94, Dq94, oq94⟩ := q94
                    show jx L xs _ 148 42 _ [] _ _
                    refine jx_step (pc' := 88) rfl ?_
                    refine jx_step (pc' := 0) rfl ?_
                    refine jv_aload_n (pc' := 1) (k := 0) (x := 103) rfl rfl rfl hf0 ?_
                    refine jv_getI (pc' := 4) (c := 12) (k := 33) (v := (iI 1)) rfl rfl rfl (fun _ _ => rfl) rfl rfl oq94 ?_
                    refine jv_if_ne (t := 91) (pc' := 7) (a := 1) rfl rfl rfl (by omega) (fun hz_95 => ?_) (fun hz_95 => ?_)
                    · skip
                      refine jv_retV rfl rfl ⟨_, _, rfl, ?_⟩
                      exact ⟨_, _, rfl, rfl, (fr_t hf rq94), (fr_t hm tq94), Dq94, oq94⟩
                    · skip
                      exact absurd hz_95 (by decide)
          · obtain ⟨hB2, md3, a3, ks3, s3, hT2, hP1⟩ := hP1
            have hm3 := (DT1 hT2).1
            subst hm3
            refine jv_getI (pc' := 4) (c := 12) (k := 33) (v := (iI 0)) rfl rfl rfl (fun _ _ => rfl) rfl rfl hS1.2.1 ?_
            refine jv_if_ne (t := 91) (pc' := 7) (a := 0) rfl rfl rfl (by omega) (fun hz_96 => ?_) (fun hz_96 => ?_)
            · skip
              exact absurd hz_96 (by decide)
            · skip
              refine jv_aload_n (pc' := 8) (k := 0) (x := 103) rfl rfl rfl hf0 ?_
              refine jv_getI (pc' := 11) (c := 12) (k := 19) (v := (iI ((a1 : Nat) : Int))) rfl rfl rfl (fun _ _ => rfl) rfl rfl hS1.1 ?_
              refine jv_aload_n (pc' := 12) (k := 0) (x := 103) rfl rfl rfl hf0 ?_
              refine jv_getI (pc' := 15) (c := 12) (k := 18) (v := (iI (n : Int))) rfl rfl rfl (fun _ _ => rfl) rfl rfl X1.1.1 ?_
              refine jv_ic_ge (t := 91) (pc' := 18) (a := ((a1 : Nat) : Int)) (b := (n : Int)) rfl rfl rfl (by omega) (fun hz_97 => ?_) (fun hz_97 => ?_)
              · skip
                refine jv_retV rfl rfl ⟨_, _, rfl, ?_⟩
                exfalso; omega
              · skip
                refine jv_aload_n (pc' := 19) (k := 0) (x := 103) rfl rfl rfl hf0 ?_
                refine jv_call (pc' := 22) rfl (ml_here (I := I1) (a := a1) X1.1 hS1.1 (by omega)) (fun vq98 gq98 q98 => ?_)
                obtain ⟨rfl, rfl⟩ := q98
                show jx L xs _ 148 22 _ [.int (iI (c a1))] _ _
                refine jv_bipush (pc' := 24) (n := 62) rfl rfl rfl ?_
                refine jv_ic_eq (t := 91) (pc' := 27) (a := (c a1)) (b := 62) rfl rfl rfl (by omega) (fun hz_99 => ?_) (fun hz_99 => ?_)
                · skip
                  refine jv_retV rfl rfl ⟨_, _, rfl, ?_⟩
                  exfalso; omega
                · skip
                  refine jv_aload_n (pc' := 28) (k := 0) (x := 103) rfl rfl rfl hf0 ?_
                  refine jv_call (pc' := 31) rfl (ml_here (I := I1) (a := a1) X1.1 hS1.1 (by omega)) (fun vq100 gq100 q100 => ?_)
                  obtain ⟨rfl, rfl⟩ := q100
                  show jx L xs _ 148 31 _ [.int (iI (c a1))] _ _
                  refine jv_istore_n (pc' := 32) (k := 1) (x := (iI (c a1))) rfl rfl rfl rfl (Or.inr (congrArg jm_lng hf0)) ?_
                  refine jv_iload_n (pc' := 33) (k := 1) (x := (iI (c a1))) rfl rfl rfl rfl ?_
                  refine jv_bipush (pc' := 35) (n := 41) rfl rfl rfl ?_
                  refine jv_ic_ne (t := 45) (pc' := 38) (a := (c a1)) (b := 41) rfl rfl rfl (by omega) (fun hz_101 => ?_) (fun hz_101 => ?_)
                  · skip
                    refine jv_iload_n (pc' := 46) (k := 1) (x := (iI (c a1))) rfl rfl rfl rfl ?_
                    refine jv_bipush (pc' := 48) (n := 36) rfl rfl rfl ?_
                    refine jv_ic_ne (t := 58) (pc' := 51) (a := (c a1)) (b := 36) rfl rfl rfl (by omega) (fun hz_102 => ?_) (fun hz_102 => ?_)
                    · skip
                      refine jv_iload_n (pc' := 59) (k := 1) (x := (iI (c a1))) rfl rfl rfl rfl ?_
                      refine jv_bipush (pc' := 61) (n := 35) rfl rfl rfl ?_
                      refine jv_ic_ne (t := 71) (pc' := 64) (a := (c a1)) (b := 35) rfl rfl rfl (by omega) (fun hz_103 => ?_) (fun hz_103 => ?_)
                      · skip
                        refine jv_iload_n (pc' := 72) (k := 1) (x := (iI (c a1))) rfl rfl rfl rfl ?_
                        refine jv_bipush (pc' := 74) (n := 63) rfl rfl rfl ?_
                        refine jv_ic_ne (t := 84) (pc' := 77) (a := (c a1)) (b := 63) rfl rfl rfl (by omega) (fun hz_104 => ?_) (fun hz_104 => ?_)
                        · skip
                          exfalso; omega
                        · skip
                          exfalso; omega
                      · skip
                        exfalso; omega
                    · skip
                      exfalso; omega
                  · skip
                    refine jv_aload_n (pc' := 39) (k := 0) (x := 103) rfl rfl rfl hf0 ?_
                    refine jv_call (pc' := 42) rfl (ml_repeat_t (I := I1) (M := M1) (a := a1) X1 hS1 hB1 (DT1_a hT2)) (fun vq105 gq105 q105 => ?_)
                    obtain ⟨Iq105, Mq105, rfl, rfl, rq105, tq105, Sq105⟩ := q105
                    show jx L xs _ 148 42 _ [] _ _
                    refine jx_step (pc' := 88) rfl ?_
                    refine jx_step (pc' := 0) rfl ?_
                    exact ih k1 a3 ks3 s3 Iq105 Mq105 (by omega) (fr_t hf rq105) (fr_t hm tq105) Sq105 hP1 _ hf0 
        · exact absurd h01 (by decide)
  exact H1 _ k1 a k s I M (Nat.lt_succ_self _) (fr_r _) (fr_r _) hS hP _ rfl 
end D7
