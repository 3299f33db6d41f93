section C3_3
theorem cl_RO_3 {D e : Nat} (hD : D < 3) (hI : CRI 3 (D + 1) (e + 3)) : CRO 3 D (e + 4) := by
  intro L xs d j I M p c n a F m Y b r hC ha hp han hq hY hN hF hm hr hca
  show jc L xs (d + e + 4) _ _ _ _
  unfold jc
  have hn := hC.2.1
  have ho0 := CT_or hC a
  refine jv_aload_n (pc' := 1) (k := 0) (x := 10) rfl rfl rfl rfl ?_
  refine jv_getR (pc' := 4) (c := 3) (k := 1) (v := 3) rfl rfl rfl (fun _ _ => rfl) rfl rfl hq ?_
  refine jv_getI (pc' := 7) (c := 2) (k := 6) (v := (iI ((m : Nat) : Int))) rfl rfl rfl (fun _ _ => rfl) rfl rfl hY.1 ?_
  refine jv_istore_n (pc' := 8) (k := 2) (x := (iI ((m : Nat) : Int))) rfl rfl rfl rfl (Or.inr rfl) ?_
  refine jv_aload_n (pc' := 9) (k := 0) (x := 10) rfl rfl rfl rfl ?_
  refine jv_getR (pc' := 12) (c := 3) (k := 0) (v := 11) rfl rfl rfl (fun _ _ => rfl) rfl rfl (jR_10_0 _) ?_
  refine jv_bipush (pc' := 14) (n := 35) rfl rfl rfl ?_
  have hm1 := CT_c hC (a)
  have ho1 := CT_or hC (a)
  by_cases hk2 : c (a) = 35
  · skip
    refine jv_call (pc' := 17) rfl (cl_take_y_k (I := I) (a := a) hC ha hp (by omega) (x := 35) (by omega) hk2) (fun vq3 gq3 q3 => ?_)
    obtain ⟨rfl, rfl⟩ := q3
    show jx L xs _ 42 17 _ [.int (iI 1)] _ _
    refine jv_if_eq (t := 28) (pc' := 20) (a := 1) rfl rfl rfl (by omega) (fun h4 => ?_) (fun h4 => ?_)
    · skip
      exact absurd h4 (by decide)
    · skip
      refine jv_aload_n (pc' := 21) (k := 0) (x := 10) rfl rfl rfl rfl ?_
      refine jv_iconst (pc' := 22) (n := 4) rfl rfl ?_
      refine jv_call (pc' := 25) rfl (cl_readCount_3 (I := jm_u I 11 1 (iI ((a + 1 : Nat) : Int))) (a := a + 1) (n := n) (m := m) (Y := Y) (F := F) hC rfl hp (by omega) hq hY hN hF (by omega)) (fun vq5 gq5 q5 => ?_)
      obtain ⟨Iq5, rfl, rq5, q5⟩ := q5
      have Cq5 : CT Iq5 1 c n := CT_fr (I := jm_u I 11 1 (iI ((a + 1 : Nat) : Int))) (t := 1) (c := c) (n := n) hC rq5 (by simp [wL]) (fun k => by simp [wL])
      rcases q5 with ⟨oq5, rfl, aq5, nm, Yq5, nq5, uq5⟩ | ⟨oq5, rfl, aq5⟩
      · skip
        have y1q5 : c (a + 1) = 42 ∨ (97 ≤ c (a + 1) ∧ c (a + 1) ≤ 104) := oq5.elim Or.inl (fun z => Or.inr z.1)
        have y2q5 := CT_or Cq5 (a + 1)
        show jx L xs _ 42 25 _ [.int (iI 1)] _ _
        refine jx_step (pc' := 52) rfl ?_
        refine jv_istore_n (pc' := 53) (k := 3) (x := (iI 1)) rfl rfl rfl rfl (Or.inr rfl) ?_
        refine jv_iload_n (pc' := 54) (k := 3) (x := (iI 1)) rfl rfl rfl rfl ?_
        refine jv_if_eq (t := 91) (pc' := 57) (a := 1) rfl rfl rfl (by omega) (fun h6 => ?_) (fun h6 => ?_)
        · skip
          exact absurd h6 (by decide)
        · skip
          refine jv_aload_n (pc' := 58) (k := 0) (x := 10) rfl rfl rfl rfl ?_
          refine jv_getR (pc' := 61) (c := 3) (k := 0) (v := 11) rfl rfl rfl (fun _ _ => rfl) rfl rfl (jR_10_0 _) ?_
          refine jv_bipush (pc' := 63) (n := 40) rfl rfl rfl ?_
          have hm7 := CT_c Cq5 (a + 2)
          have ho7 := CT_or Cq5 (a + 2)
          by_cases hk8 : c (a + 2) = 40
          · skip
            refine jv_call (pc' := 66) rfl (cl_take_y_k (I := Iq5) (a := a + 2) Cq5 aq5 hp (by omega) (x := 40) (by omega) hk8) (fun vq9 gq9 q9 => ?_)
            obtain ⟨rfl, rfl⟩ := q9
            show jx L xs _ 42 66 _ [.int (iI 1)] _ _
            refine jv_if_eq (t := 91) (pc' := 69) (a := 1) rfl rfl rfl (by omega) (fun h10 => ?_) (fun h10 => ?_)
            · skip
              exact absurd h10 (by decide)
            · skip
              refine jv_aload_n (pc' := 70) (k := 0) (x := 10) rfl rfl rfl rfl ?_
              refine jv_iload_n (pc' := 71) (k := 1) (x := (iI ((D : Nat) : Int))) rfl rfl rfl rfl ?_
              refine jv_iconst (pc' := 72) (n := 1) rfl rfl ?_
              refine jv_iadd (pc' := 73) (a := ((D : Nat) : Int)) (b := 1) rfl rfl ?_
              refine jv_call (pc' := 76) rfl (hI L xs d j (jm_u Iq5 11 1 (iI ((a + 3 : Nat) : Int))) M p c n (a + 3) F (m + 1) (Yad Y m 4 nm 0) (b :: r) Cq5 rfl hp (by omega) hq Yq5 (NF_ad hN) hF (by omega) (by simp [hr])) (fun vq11 gq11 q11 => ?_)
              obtain ⟨Iq11, rfl, rq11, a2, aq11, q11⟩ := q11
              have Cq11 : CT Iq11 1 c n := CT_fr (I := jm_u Iq5 11 1 (iI ((a + 3 : Nat) : Int))) (t := 1) (c := c) (n := n) Cq5 rq11 (by simp [wL]) (fun k => by simp [wL])
              rcases q11 with ⟨rfl, k2, F2, Y2, m2, pq11, Yq11, nq11, fq11, ⟨xq11, uq11⟩, h1q11, h2q11, h3q11, iq11, tq11⟩ | ⟨rfl, k2, pq11⟩
              · skip
                have zq11 := iq11 rfl
                unfold ist at zq11
                have yq11 := Yq11.2.1
                show jx L xs _ 42 76 _ [.int (iI 1)] _ _
                refine jv_if_eq (t := 91) (pc' := 79) (a := 1) rfl rfl rfl (by omega) (fun h12 => ?_) (fun h12 => ?_)
                · skip
                  exact absurd h12 (by decide)
                · skip
                  refine jv_aload_n (pc' := 80) (k := 0) (x := 10) rfl rfl rfl rfl ?_
                  refine jv_getR (pc' := 83) (c := 3) (k := 0) (v := 11) rfl rfl rfl (fun _ _ => rfl) rfl rfl (jR_10_0 _) ?_
                  refine jv_bipush (pc' := 85) (n := 41) rfl rfl rfl ?_
                  have hm13 := CT_c Cq11 (a2)
                  have ho13 := CT_or Cq11 (a2)
                  by_cases hk14 : c (a2) = 41
                  · skip
                    refine jv_call (pc' := 88) rfl (cl_take_y_k (I := Iq11) (a := a2) Cq11 aq11 hp (by omega) (x := 41) (by omega) hk14) (fun vq15 gq15 q15 => ?_)
                    obtain ⟨rfl, rfl⟩ := q15
                    show jx L xs _ 42 88 _ [.int (iI 1)] _ _
                    refine jv_if_ne (t := 93) (pc' := 91) (a := 1) rfl rfl rfl (by omega) (fun h16 => ?_) (fun h16 => ?_)
                    · skip
                      refine jv_aload_n (pc' := 94) (k := 0) (x := 10) rfl rfl rfl rfl ?_
                      refine jv_getR (pc' := 97) (c := 3) (k := 1) (v := 3) rfl rfl rfl (fun _ _ => rfl) rfl rfl hq ?_
                      refine jv_getR (pc' := 100) (c := 2) (k := 3) (v := 7) rfl rfl rfl (fun _ _ => rfl) rfl rfl (jR_3_3 _) ?_
                      refine jv_iload_n (pc' := 101) (k := 2) (x := (iI ((m : Nat) : Int))) rfl rfl rfl rfl ?_
                      refine jv_aload_n (pc' := 102) (k := 0) (x := 10) rfl rfl rfl rfl ?_
                      refine jv_getR (pc' := 105) (c := 3) (k := 1) (v := 3) rfl rfl rfl (fun _ _ => rfl) rfl rfl hq ?_
                      refine jv_getI (pc' := 108) (c := 2) (k := 6) (v := (iI ((m2 : Nat) : Int))) rfl rfl rfl (fun _ _ => rfl) rfl rfl Yq11.1 ?_
                      refine jv_iload_n (pc' := 109) (k := 2) (x := (iI ((m : Nat) : Int))) rfl rfl rfl rfl ?_
                      refine jv_isub (pc' := 110) (a := ((m2 : Nat) : Int)) (b := ((m : Nat) : Int)) rfl rfl ?_
                      refine jv_iconst (pc' := 111) (n := 1) rfl rfl ?_
                      refine jv_isub (pc' := 112) (a := (((m2 : Nat) : Int) - ((m : Nat) : Int))) (b := 1) rfl rfl ?_
                      refine jv_iastore (pc' := 113) (n := 40) (e := ((m : Nat) : Int)) (v := (iI ((((m2 : Nat) : Int) - ((m : Nat) : Int)) - 1))) rfl rfl rfl rfl rfl (by omega) ?_
                      refine jv_iconst (pc' := 114) (n := 1) rfl rfl ?_
                      refine jv_retZ rfl rfl (by first | exact Or.inl rfl | exact Or.inr rfl) ⟨_, _, rfl, ?_⟩
                      first
                      | (exfalso; omega)
                      | (have e0 := op_A3 (by omega) oq5 (by assumption)
                         obtain ⟨q1, t1⟩ := tq11 (Or.inr (by omega))
                         have hd1 : HD c (Yad Y m 4 nm 0) m a (a + 3) := Or.inl ⟨by omega, by simp [Yad], nq5, by assumption, rfl⟩
                         have hx1 := HD_x (Y' := Y2) (f := 0) (t := m + 1) xq11 (by omega) (by omega) hd1
                         have hin : ∀ (v : Int), YX (m + 1) m2 Y2 (Yin Y2 m v) := fun v => YX_in (by omega)
                         have hd2 : ∀ (v : Int), HD c (Yin Y2 m v) m a (a + 3) := fun v => by
                           unfold HD CN at hx1 ⊢; simpa [Yin] using hx1
                         refine ⟨_, rfl, (fr_u (by simp [wL]) (fr_u (by simp [wL]) (fr_t (fr_u (by simp [wL]) (fr_t (fr_u (by simp [wL]) (fr_r _)) rq5)) rq11))), a2 + 1, rfl, Or.inl ⟨rfl, _, F2, _, m2, PR_app (PR_1 ⟨by omega, hF, by simp; omega⟩ (PS_op (by omega) (by omega) e0.1 e0.2)) (PR_app pq11 (PR_1 ⟨by omega, fq11, by simp; omega⟩ (PS_cl (by assumption)))), LB_in (i := m) (v := ((m2 : Nat) : Int) - ((m : Nat) : Int) - 1) Yq11, NF_in nq11, fq11, ⟨?_, fun z => UQ_in (by unfold HD at hx1; omega) (uq11 (uq5 (by omega) z))⟩, by omega, by omega, by omega, by simp, fun _ => ⟨_, IT_hd (hd2 _) (IT_x (hin _) (by omega) (by omega) t1) (by simp; omega) (by assumption) (by simp [Yin]; omega)⟩⟩⟩
                         have hy3 := YX_t (YX_m (YX_ad Y (f := 0) (m := m) _ _ _) (by omega) (by omega)) (YX_m xq11 (f' := 0) (t' := m) (by omega) (by omega))
                         refine YX_t hy3 ⟨fun r hr k h1 h2 => if_neg (by omega), fun i hi => ⟨if_neg (by omega), if_neg (by omega)⟩⟩)
                    · skip
                      exact absurd h16 (by decide)
                  · skip
                    refine jv_call (pc' := 88) rfl (cl_take_n_k (I := Iq11) (a := a2) Cq11 aq11 hp (by omega) (x := 41) (by omega) hk14) (fun vq17 gq17 q17 => ?_)
                    obtain ⟨rfl, rfl⟩ := q17
                    show jx L xs _ 42 88 _ [.int (iI 0)] _ _
                    refine jv_if_ne (t := 93) (pc' := 91) (a := 0) rfl rfl rfl (by omega) (fun h18 => ?_) (fun h18 => ?_)
                    · skip
                      exact absurd h18 (by decide)
                    · skip
                      refine jv_iconst (pc' := 92) (n := 0) rfl rfl ?_
                      refine jv_retZ rfl rfl (by first | exact Or.inl rfl | exact Or.inr rfl) ⟨_, _, rfl, ?_⟩
                      first
                      | (exfalso; omega)
                      | (have e0 := op_A3 (by omega) oq5 (by assumption)
                         have e1 := (fd_A0 (c := c) (F := F2) (a := a2) (fun z => by have := z.1; omega))
                         have e2 := PF_bad (n := n) (F := F2) (b := true) (r := b :: r) (Or.inr (Or.inr ⟨by simp, by assumption⟩)) (by omega) e1.2.2
                         rw [e1.1] at e2
                         exact ⟨_, rfl, (fr_t (fr_u (by simp [wL]) (fr_t (fr_u (by simp [wL]) (fr_r _)) rq5)) rq11), _, aq11, Or.inr ⟨rfl, _, PR_PE (PR_1 ⟨by omega, hF, by simp; omega⟩ (PS_op (by omega) (by omega) e0.1 e0.2)) (PR_PE pq11 (PE_0 ⟨by omega, fq11, by simp; omega⟩ e2))⟩⟩)
              · skip
                show jx L xs _ 42 76 _ [.int (iI 0)] _ _
                refine jv_if_eq (t := 91) (pc' := 79) (a := 0) rfl rfl rfl (by omega) (fun h19 => ?_) (fun h19 => ?_)
                · skip
                  refine jv_iconst (pc' := 92) (n := 0) rfl rfl ?_
                  refine jv_retZ rfl rfl (by first | exact Or.inl rfl | exact Or.inr rfl) ⟨_, _, rfl, ?_⟩
                  first
                  | (exfalso; omega)
                  | (have e0 := op_A3 (by omega) oq5 (by assumption)
                     exact ⟨_, rfl, (fr_t (fr_u (by simp [wL]) (fr_t (fr_u (by simp [wL]) (fr_r _)) rq5)) rq11), _, aq11, Or.inr ⟨rfl, _, PR_PE (PR_1 ⟨by omega, hF, by simp; omega⟩ (PS_op (by omega) (by omega) e0.1 e0.2)) pq11⟩⟩)
                · skip
                  exact absurd h19 (by decide)
          · skip
            refine jv_call (pc' := 66) rfl (cl_take_n_k (I := Iq5) (a := a + 2) Cq5 aq5 hp (by omega) (x := 40) (by omega) hk8) (fun vq20 gq20 q20 => ?_)
            obtain ⟨rfl, rfl⟩ := q20
            show jx L xs _ 42 66 _ [.int (iI 0)] _ _
            refine jv_if_eq (t := 91) (pc' := 69) (a := 0) rfl rfl rfl (by omega) (fun h21 => ?_) (fun h21 => ?_)
            · skip
              refine jv_iconst (pc' := 92) (n := 0) rfl rfl ?_
              refine jv_retZ rfl rfl (by first | exact Or.inl rfl | exact Or.inr rfl) ⟨_, _, rfl, ?_⟩
              first
              | (exfalso; omega)
              | (have e0 := op_A2 (by omega) oq5 (by assumption)
                 exact ⟨_, rfl, (fr_t (fr_u (by simp [wL]) (fr_r _)) rq5), a + 2, aq5, Or.inr ⟨rfl, 0, PE_0 ⟨by omega, hF, by simp; omega⟩ (PF_o1 (by omega) (by omega) e0.1 e0.2)⟩⟩)
            · skip
              exact absurd h21 (by decide)
      · skip
        show jx L xs _ 42 25 _ [.int (iI 0)] _ _
        refine jx_step (pc' := 52) rfl ?_
        refine jv_istore_n (pc' := 53) (k := 3) (x := (iI 0)) rfl rfl rfl rfl (Or.inr rfl) ?_
        refine jv_iload_n (pc' := 54) (k := 3) (x := (iI 0)) rfl rfl rfl rfl ?_
        refine jv_if_eq (t := 91) (pc' := 57) (a := 0) rfl rfl rfl (by omega) (fun h22 => ?_) (fun h22 => ?_)
        · skip
          refine jv_iconst (pc' := 92) (n := 0) rfl rfl ?_
          refine jv_retZ rfl rfl (by first | exact Or.inl rfl | exact Or.inr rfl) ⟨_, _, rfl, ?_⟩
          first
          | (exfalso; omega)
          | (have e0 := op_A1 (by omega) oq5
             exact ⟨_, rfl, (fr_t (fr_u (by simp [wL]) (fr_r _)) rq5), a + 1, aq5, Or.inr ⟨rfl, 0, PE_0 ⟨by omega, hF, by simp; omega⟩ (PF_o1 (by omega) (by omega) e0.1 e0.2)⟩⟩)
        · skip
          exact absurd h22 (by decide)
  · skip
    refine jv_call (pc' := 17) rfl (cl_take_n_k (I := I) (a := a) hC ha hp (by omega) (x := 35) (by omega) hk2) (fun vq23 gq23 q23 => ?_)
    obtain ⟨rfl, rfl⟩ := q23
    show jx L xs _ 42 17 _ [.int (iI 0)] _ _
    refine jv_if_eq (t := 28) (pc' := 20) (a := 0) rfl rfl rfl (by omega) (fun h24 => ?_) (fun h24 => ?_)
    · skip
      refine jv_aload_n (pc' := 29) (k := 0) (x := 10) rfl rfl rfl rfl ?_
      refine jv_getR (pc' := 32) (c := 3) (k := 0) (v := 11) rfl rfl rfl (fun _ _ => rfl) rfl rfl (jR_10_0 _) ?_
      refine jv_bipush (pc' := 34) (n := 63) rfl rfl rfl ?_
      have hm25 := CT_c hC (a)
      have ho25 := CT_or hC (a)
      by_cases hk26 : c (a) = 63
      · skip
        refine jv_call (pc' := 37) rfl (cl_take_y_k (I := I) (a := a) hC ha hp (by omega) (x := 63) (by omega) hk26) (fun vq27 gq27 q27 => ?_)
        obtain ⟨rfl, rfl⟩ := q27
        show jx L xs _ 42 37 _ [.int (iI 1)] _ _
        refine jv_if_eq (t := 51) (pc' := 40) (a := 1) rfl rfl rfl (by omega) (fun h28 => ?_) (fun h28 => ?_)
        · skip
          exact absurd h28 (by decide)
        · skip
          refine jv_aload_n (pc' := 41) (k := 0) (x := 10) rfl rfl rfl rfl ?_
          refine jv_call (pc' := 44) rfl (cl_readCondition_3 (I := jm_u I 11 1 (iI ((a + 1 : Nat) : Int))) (a := a) (n := n) (m := m) (Y := Y) (F := F) hC rfl hp (by omega) hq hY hN hF (by omega)) (fun vq29 gq29 q29 => ?_)
          obtain ⟨Iq29, rfl, rq29, q29⟩ := q29
          have Cq29 : CT Iq29 1 c n := CT_fr (I := jm_u I 11 1 (iI ((a + 1 : Nat) : Int))) (t := 1) (c := c) (n := n) hC rq29 (by simp [wL]) (fun k => by simp [wL])
          rcases q29 with ⟨oq29, rfl, aq29, kd, Yq29, nq29, uq29⟩ | ⟨oq29, rfl, aq29⟩
          · skip
            have k1q29 := oq29.1.1
            have k2q29 := oq29.2.1
            have k3q29 := oq29.2.2
            have k4q29 := CT_or Cq29 (a + 2)
            have k5q29 := CT_nd Cq29 6 (a + 3) (by omega)
            have k6q29 : nd c (a + 3) = ndk c 6 (a + 3) := rfl
            have k7q29 := nd_le c (a + 3)
            show jx L xs _ 42 44 _ [.int (iI 1)] _ _
            refine jv_if_eq (t := 51) (pc' := 47) (a := 1) rfl rfl rfl (by omega) (fun h30 => ?_) (fun h30 => ?_)
            · skip
              exact absurd h30 (by decide)
            · skip
              refine jv_iconst (pc' := 48) (n := 1) rfl rfl ?_
              refine jx_step (pc' := 52) rfl ?_
              refine jv_istore_n (pc' := 53) (k := 3) (x := (iI 1)) rfl rfl rfl rfl (Or.inr rfl) ?_
              refine jv_iload_n (pc' := 54) (k := 3) (x := (iI 1)) rfl rfl rfl rfl ?_
              refine jv_if_eq (t := 91) (pc' := 57) (a := 1) rfl rfl rfl (by omega) (fun h31 => ?_) (fun h31 => ?_)
              · skip
                exact absurd h31 (by decide)
              · skip
                refine jv_aload_n (pc' := 58) (k := 0) (x := 10) rfl rfl rfl rfl ?_
                refine jv_getR (pc' := 61) (c := 3) (k := 0) (v := 11) rfl rfl rfl (fun _ _ => rfl) rfl rfl (jR_10_0 _) ?_
                refine jv_bipush (pc' := 63) (n := 40) rfl rfl rfl ?_
                have hm32 := CT_c Cq29 (a + 3 + nd c (a + 3))
                have ho32 := CT_or Cq29 (a + 3 + nd c (a + 3))
                by_cases hk33 : c (a + 3 + nd c (a + 3)) = 40
                · skip
                  refine jv_call (pc' := 66) rfl (cl_take_y_k (I := Iq29) (a := a + 3 + nd c (a + 3)) Cq29 aq29 hp (by omega) (x := 40) (by omega) hk33) (fun vq34 gq34 q34 => ?_)
                  obtain ⟨rfl, rfl⟩ := q34
                  show jx L xs _ 42 66 _ [.int (iI 1)] _ _
                  refine jv_if_eq (t := 91) (pc' := 69) (a := 1) rfl rfl rfl (by omega) (fun h35 => ?_) (fun h35 => ?_)
                  · skip
                    exact absurd h35 (by decide)
                  · skip
                    refine jv_aload_n (pc' := 70) (k := 0) (x := 10) rfl rfl rfl rfl ?_
                    refine jv_iload_n (pc' := 71) (k := 1) (x := (iI ((D : Nat) : Int))) rfl rfl rfl rfl ?_
                    refine jv_iconst (pc' := 72) (n := 1) rfl rfl ?_
                    refine jv_iadd (pc' := 73) (a := ((D : Nat) : Int)) (b := 1) rfl rfl ?_
                    refine jv_call (pc' := 76) rfl (hI L xs d j (jm_u Iq29 11 1 (iI ((a + 3 + nd c (a + 3) + 1 : Nat) : Int))) M p c n (a + 3 + nd c (a + 3) + 1) F (m + 1) (Yad Y m kd (c (a + 1) - 97) (nv c (a + 3))) (b :: r) Cq29 rfl hp (by omega) hq Yq29 (NF_ad hN) hF (by omega) (by simp [hr])) (fun vq36 gq36 q36 => ?_)
                    obtain ⟨Iq36, rfl, rq36, a2, aq36, q36⟩ := q36
                    have Cq36 : CT Iq36 1 c n := CT_fr (I := jm_u Iq29 11 1 (iI ((a + 3 + nd c (a + 3) + 1 : Nat) : Int))) (t := 1) (c := c) (n := n) Cq29 rq36 (by simp [wL]) (fun k => by simp [wL])
                    rcases q36 with ⟨rfl, k2, F2, Y2, m2, pq36, Yq36, nq36, fq36, ⟨xq36, uq36⟩, h1q36, h2q36, h3q36, iq36, tq36⟩ | ⟨rfl, k2, pq36⟩
                    · skip
                      have zq36 := iq36 rfl
                      unfold ist at zq36
                      have yq36 := Yq36.2.1
                      show jx L xs _ 42 76 _ [.int (iI 1)] _ _
                      refine jv_if_eq (t := 91) (pc' := 79) (a := 1) rfl rfl rfl (by omega) (fun h37 => ?_) (fun h37 => ?_)
                      · skip
                        exact absurd h37 (by decide)
                      · skip
                        refine jv_aload_n (pc' := 80) (k := 0) (x := 10) rfl rfl rfl rfl ?_
                        refine jv_getR (pc' := 83) (c := 3) (k := 0) (v := 11) rfl rfl rfl (fun _ _ => rfl) rfl rfl (jR_10_0 _) ?_
                        refine jv_bipush (pc' := 85) (n := 41) rfl rfl rfl ?_
                        have hm38 := CT_c Cq36 (a2)
                        have ho38 := CT_or Cq36 (a2)
                        by_cases hk39 : c (a2) = 41
                        · skip
                          refine jv_call (pc' := 88) rfl (cl_take_y_k (I := Iq36) (a := a2) Cq36 aq36 hp (by omega) (x := 41) (by omega) hk39) (fun vq40 gq40 q40 => ?_)
                          obtain ⟨rfl, rfl⟩ := q40
                          show jx L xs _ 42 88 _ [.int (iI 1)] _ _
                          refine jv_if_ne (t := 93) (pc' := 91) (a := 1) rfl rfl rfl (by omega) (fun h41 => ?_) (fun h41 => ?_)
                          · skip
                            refine jv_aload_n (pc' := 94) (k := 0) (x := 10) rfl rfl rfl rfl ?_
                            refine jv_getR (pc' := 97) (c := 3) (k := 1) (v := 3) rfl rfl rfl (fun _ _ => rfl) rfl rfl hq ?_
                            refine jv_getR (pc' := 100) (c := 2) (k := 3) (v := 7) rfl rfl rfl (fun _ _ => rfl) rfl rfl (jR_3_3 _) ?_
                            refine jv_iload_n (pc' := 101) (k := 2) (x := (iI ((m : Nat) : Int))) rfl rfl rfl rfl ?_
                            refine jv_aload_n (pc' := 102) (k := 0) (x := 10) rfl rfl rfl rfl ?_
                            refine jv_getR (pc' := 105) (c := 3) (k := 1) (v := 3) rfl rfl rfl (fun _ _ => rfl) rfl rfl hq ?_
                            refine jv_getI (pc' := 108) (c := 2) (k := 6) (v := (iI ((m2 : Nat) : Int))) rfl rfl rfl (fun _ _ => rfl) rfl rfl Yq36.1 ?_
                            refine jv_iload_n (pc' := 109) (k := 2) (x := (iI ((m : Nat) : Int))) rfl rfl rfl rfl ?_
                            refine jv_isub (pc' := 110) (a := ((m2 : Nat) : Int)) (b := ((m : Nat) : Int)) rfl rfl ?_
                            refine jv_iconst (pc' := 111) (n := 1) rfl rfl ?_
                            refine jv_isub (pc' := 112) (a := (((m2 : Nat) : Int) - ((m : Nat) : Int))) (b := 1) rfl rfl ?_
                            refine jv_iastore (pc' := 113) (n := 40) (e := ((m : Nat) : Int)) (v := (iI ((((m2 : Nat) : Int) - ((m : Nat) : Int)) - 1))) rfl rfl rfl rfl rfl (by omega) ?_
                            refine jv_iconst (pc' := 114) (n := 1) rfl rfl ?_
                            refine jv_retZ rfl rfl (by first | exact Or.inl rfl | exact Or.inr rfl) ⟨_, _, rfl, ?_⟩
                            first
                            | (exfalso; omega)
                            | (have e0 := op_B3 (by omega) oq29 (by assumption)
                               obtain ⟨q1, t1⟩ := tq36 (Or.inr (by omega))
                               have hd1 : HD c (Yad Y m kd (c (a + 1) - 97) (nv c (a + 3))) m a (a + 3 + nd c (a + 3) + 1) := Or.inr ⟨by omega, by omega, by simp [Yad], (by rcases nq29 with ⟨z1, z2⟩ | ⟨z1, z2⟩; exact Or.inl ⟨z1, by simp [Yad, z2]⟩; exact Or.inr ⟨z1, by simp [Yad, z2]⟩), oq29.2.2, by simp [Yad], by assumption, rfl⟩
                               have hx1 := HD_x (Y' := Y2) (f := 0) (t := m + 1) xq36 (by omega) (by omega) hd1
                               have hin : ∀ (v : Int), YX (m + 1) m2 Y2 (Yin Y2 m v) := fun v => YX_in (by omega)
                               have hd2 : ∀ (v : Int), HD c (Yin Y2 m v) m a (a + 3 + nd c (a + 3) + 1) := fun v => by
                                 unfold HD CN at hx1 ⊢; simpa [Yin] using hx1
                               refine ⟨_, rfl, (fr_u (by simp [wL]) (fr_u (by simp [wL]) (fr_t (fr_u (by simp [wL]) (fr_t (fr_u (by simp [wL]) (fr_r _)) rq29)) rq36))), a2 + 1, rfl, Or.inl ⟨rfl, _, F2, _, m2, PR_app (PR_1 ⟨by omega, hF, by simp; omega⟩ (PS_op (by omega) (by omega) e0.1 e0.2)) (PR_app pq36 (PR_1 ⟨by omega, fq36, by simp; omega⟩ (PS_cl (by assumption)))), LB_in (i := m) (v := ((m2 : Nat) : Int) - ((m : Nat) : Int) - 1) Yq36, NF_in nq36, fq36, ⟨?_, fun z => UQ_in (by unfold HD at hx1; omega) (uq36 (uq29 z))⟩, by omega, by omega, by omega, by simp, fun _ => ⟨_, IT_hd (hd2 _) (IT_x (hin _) (by omega) (by omega) t1) (by simp; omega) (by assumption) (by simp [Yin]; omega)⟩⟩⟩
                               have hy3 := YX_t (YX_m (YX_ad Y (f := 0) (m := m) _ _ _) (by omega) (by omega)) (YX_m xq36 (f' := 0) (t' := m) (by omega) (by omega))
                               refine YX_t hy3 ⟨fun r hr k h1 h2 => if_neg (by omega), fun i hi => ⟨if_neg (by omega), if_neg (by omega)⟩⟩)
                          · skip
                            exact absurd h41 (by decide)
                        · skip
                          refine jv_call (pc' := 88) rfl (cl_take_n_k (I := Iq36) (a := a2) Cq36 aq36 hp (by omega) (x := 41) (by omega) hk39) (fun vq42 gq42 q42 => ?_)
                          obtain ⟨rfl, rfl⟩ := q42
                          show jx L xs _ 42 88 _ [.int (iI 0)] _ _
                          refine jv_if_ne (t := 93) (pc' := 91) (a := 0) rfl rfl rfl (by omega) (fun h43 => ?_) (fun h43 => ?_)
                          · skip
                            exact absurd h43 (by decide)
                          · skip
                            refine jv_iconst (pc' := 92) (n := 0) rfl rfl ?_
                            refine jv_retZ rfl rfl (by first | exact Or.inl rfl | exact Or.inr rfl) ⟨_, _, rfl, ?_⟩
                            first
                            | (exfalso; omega)
                            | (have e0 := op_B3 (by omega) oq29 (by assumption)
                               have e1 := (fd_A0 (c := c) (F := F2) (a := a2) (fun z => by have := z.1; omega))
                               have e2 := PF_bad (n := n) (F := F2) (b := true) (r := b :: r) (Or.inr (Or.inr ⟨by simp, by assumption⟩)) (by omega) e1.2.2
                               rw [e1.1] at e2
                               exact ⟨_, rfl, (fr_t (fr_u (by simp [wL]) (fr_t (fr_u (by simp [wL]) (fr_r _)) rq29)) rq36), _, aq36, Or.inr ⟨rfl, _, PR_PE (PR_1 ⟨by omega, hF, by simp; omega⟩ (PS_op (by omega) (by omega) e0.1 e0.2)) (PR_PE pq36 (PE_0 ⟨by omega, fq36, by simp; omega⟩ e2))⟩⟩)
                    · skip
                      show jx L xs _ 42 76 _ [.int (iI 0)] _ _
                      refine jv_if_eq (t := 91) (pc' := 79) (a := 0) rfl rfl rfl (by omega) (fun h44 => ?_) (fun h44 => ?_)
                      · skip
                        refine jv_iconst (pc' := 92) (n := 0) rfl rfl ?_
                        refine jv_retZ rfl rfl (by first | exact Or.inl rfl | exact Or.inr rfl) ⟨_, _, rfl, ?_⟩
                        first
                        | (exfalso; omega)
                        | (have e0 := op_B3 (by omega) oq29 (by assumption)
                           exact ⟨_, rfl, (fr_t (fr_u (by simp [wL]) (fr_t (fr_u (by simp [wL]) (fr_r _)) rq29)) rq36), _, aq36, Or.inr ⟨rfl, _, PR_PE (PR_1 ⟨by omega, hF, by simp; omega⟩ (PS_op (by omega) (by omega) e0.1 e0.2)) pq36⟩⟩)
                      · skip
                        exact absurd h44 (by decide)
                · skip
                  refine jv_call (pc' := 66) rfl (cl_take_n_k (I := Iq29) (a := a + 3 + nd c (a + 3)) Cq29 aq29 hp (by omega) (x := 40) (by omega) hk33) (fun vq45 gq45 q45 => ?_)
                  obtain ⟨rfl, rfl⟩ := q45
                  show jx L xs _ 42 66 _ [.int (iI 0)] _ _
                  refine jv_if_eq (t := 91) (pc' := 69) (a := 0) rfl rfl rfl (by omega) (fun h46 => ?_) (fun h46 => ?_)
                  · skip
                    refine jv_iconst (pc' := 92) (n := 0) rfl rfl ?_
                    refine jv_retZ rfl rfl (by first | exact Or.inl rfl | exact Or.inr rfl) ⟨_, _, rfl, ?_⟩
                    first
                    | (exfalso; omega)
                    | (have e0 := op_B2 (by omega) oq29 (by assumption)
                       exact ⟨_, rfl, (fr_t (fr_u (by simp [wL]) (fr_r _)) rq29), a + 3 + nd c (a + 3), aq29, Or.inr ⟨rfl, 0, PE_0 ⟨by omega, hF, by simp; omega⟩ (PF_o1 (by omega) (by omega) e0.1 e0.2)⟩⟩)
                  · skip
                    exact absurd h46 (by decide)
          · skip
            show jx L xs _ 42 44 _ [.int (iI 0)] _ _
            refine jv_if_eq (t := 51) (pc' := 47) (a := 0) rfl rfl rfl (by omega) (fun h47 => ?_) (fun h47 => ?_)
            · skip
              refine jv_iconst (pc' := 52) (n := 0) rfl rfl ?_
              refine jv_istore_n (pc' := 53) (k := 3) (x := (iI 0)) rfl rfl rfl rfl (Or.inr rfl) ?_
              refine jv_iload_n (pc' := 54) (k := 3) (x := (iI 0)) rfl rfl rfl rfl ?_
              refine jv_if_eq (t := 91) (pc' := 57) (a := 0) rfl rfl rfl (by omega) (fun h48 => ?_) (fun h48 => ?_)
              · skip
                refine jv_iconst (pc' := 92) (n := 0) rfl rfl ?_
                refine jv_retZ rfl rfl (by first | exact Or.inl rfl | exact Or.inr rfl) ⟨_, _, rfl, ?_⟩
                first
                | (exfalso; omega)
                | (have e0 := op_B1 (by omega) oq29
                   exact ⟨_, rfl, (fr_t (fr_u (by simp [wL]) (fr_r _)) rq29), op2 c F a, aq29, Or.inr ⟨rfl, 0, PE_0 ⟨by omega, hF, by simp; omega⟩ (PF_o1 (by omega) (by omega) e0.1 e0.2)⟩⟩)
              · skip
                exact absurd h48 (by decide)
            · skip
              exact absurd h47 (by decide)
      · skip
        refine jv_call (pc' := 37) rfl (cl_take_n_k (I := I) (a := a) hC ha hp (by omega) (x := 63) (by omega) hk26) (fun vq49 gq49 q49 => ?_)
        obtain ⟨rfl, rfl⟩ := q49
        show jx L xs _ 42 37 _ [.int (iI 0)] _ _
        refine jv_if_eq (t := 51) (pc' := 40) (a := 0) rfl rfl rfl (by omega) (fun h50 => ?_) (fun h50 => ?_)
        · skip
          refine jv_iconst (pc' := 52) (n := 0) rfl rfl ?_
          refine jv_istore_n (pc' := 53) (k := 3) (x := (iI 0)) rfl rfl rfl rfl (Or.inr rfl) ?_
          refine jv_iload_n (pc' := 54) (k := 3) (x := (iI 0)) rfl rfl rfl rfl ?_
          refine jv_if_eq (t := 91) (pc' := 57) (a := 0) rfl rfl rfl (by omega) (fun h51 => ?_) (fun h51 => ?_)
          · skip
            refine jv_iconst (pc' := 92) (n := 0) rfl rfl ?_
            refine jv_retZ rfl rfl (by first | exact Or.inl rfl | exact Or.inr rfl) ⟨_, _, rfl, ?_⟩
            exfalso; omega
          · skip
            exact absurd h51 (by decide)
        · skip
          exact absurd h50 (by decide)
    · skip
      exact absurd h24 (by decide)
theorem cl_RI_3 {D e : Nat} (hD : D ≤ 3) (hO : D < 3 → CRO 3 D (e + 3)) : CRI 3 D (e + 4) := by
  intro L xs d j I M p c n a F m Y r hC ha hp han hq hY hN hF hm hr
  show jc L xs (d + e + 4) _ _ _ _
  unfold jc
  have hn := hC.2.1
  refine jv_iconst (pc' := 1) (n := 1) rfl rfl ?_
  refine jv_istore_n (pc' := 2) (k := 2) (x := (iI 1)) rfl rfl rfl rfl (Or.inr rfl) ?_
  refine jv_iconst (pc' := 3) (n := 0) rfl rfl ?_
  refine jv_istore_n (pc' := 4) (k := 3) (x := (iI 0)) rfl rfl rfl rfl (Or.inr rfl) ?_
  have H1 : ∀ (N : Nat) (kk : Nat) (gd : Int) (I1 : Nat → Nat → Int32) (a1 : Nat), 40 - kk < N → (kk ≤ 40) → (fr (wL 3) I I1) → (I1 11 1 = iI ((a1 : Nat) : Int)) → (RJ c n 3 Y m a F r kk gd I1 a1) → ∀ f : jm_F, f 0 = some (.ref 10) → f 1 = some (.int (iI ((D : Nat) : Int))) → f 2 = some (.int (iI gd)) → f 3 = some (.int (iI ((kk : Nat) : Int))) → jx L xs ((d + e + 4)) 40 4 f [] (jx_G j I1 M p) (fun z => ∃ v g1, z = (.inl v, g1) ∧ (∃ I', g1 = jx_G j I' M p ∧ RI c n 3 Y m a F false r false v I I')) := by
    intro N
    induction N with
    | zero => intro kk gd I1 a1 hN; exact absurd hN (Nat.not_lt_zero _)
    | succ N ih =>
      intro kk gd I1 a1 hN hkk hf ha1 hJ f hf0 hf1 hf2 hf3 
      refine jv_iload_n (pc' := 5) (k := 3) (x := (iI ((kk : Nat) : Int))) rfl rfl rfl hf3 ?_
      have C1 : CT I1 1 c n := CT_fr (I := I) (t := 1) (c := c) (n := n) hC hf (by simp [wL]) (fun k => by simp [wL])
      have hn := C1.2.1
      rcases hJ with ⟨rfl, k1, F1, Y1, m1, b1, p1, hb1, Y1h, N1, F1h, ⟨x1, u1⟩, h1, h2, h3, t1⟩ | ⟨rfl, k1, p1⟩
      · skip
        have ho1 := CT_or C1 a1
        have hm40 := Y1h.2.1
        show jx L xs _ 40 5 _ [.int (iI ((kk : Nat) : Int))] _ _
        refine jv_bipush (pc' := 7) (n := 40) rfl rfl rfl ?_
        refine jv_ic_ge (t := 103) (pc' := 10) (a := ((kk : Nat) : Int)) (b := 40) rfl rfl rfl (by omega) (fun h2 => ?_) (fun h2 => ?_)
        · skip
          refine jv_iload_n (pc' := 104) (k := 2) (x := (iI 1)) rfl rfl rfl hf2 ?_
          refine jv_retZ rfl rfl (by first | exact Or.inl rfl | exact Or.inr rfl) ⟨_, _, rfl, ?_⟩
          first
          | (exfalso; omega)
          | (have hb2 : b1 = true := hb1.2 (by omega)
             subst hb2
             refine ⟨_, rfl, hf, a1, ha1, Or.inl ⟨rfl, k1, F1, Y1, m1, p1, Y1h, N1, F1h, ⟨x1, u1⟩, by omega, by omega, by omega, fun _ => ?_, fun z => t1 (by simpa using z)⟩⟩
             unfold ist
             first | assumption | omega)
        · skip
          refine jv_iload_n (pc' := 11) (k := 2) (x := (iI 1)) rfl rfl rfl hf2 ?_
          refine jv_if_eq (t := 103) (pc' := 14) (a := 1) rfl rfl rfl (by omega) (fun h3 => ?_) (fun h3 => ?_)
          · skip
            exact absurd h3 (by decide)
          · skip
            refine jv_iload_n (pc' := 15) (k := 3) (x := (iI ((kk : Nat) : Int))) rfl rfl rfl hf3 ?_
            refine jv_if_eq (t := 25) (pc' := 18) (a := ((kk : Nat) : Int)) rfl rfl rfl (by omega) (fun h4 => ?_) (fun h4 => ?_)
            · skip
              have hb3 : b1 = false ∨ ((97 ≤ c a1 ∧ c a1 ≤ 104) ∨ c a1 = 36 ∨ c a1 = 35 ∨ c a1 = 63) := by
                cases b1
                · exact Or.inl rfl
                · have := hb1.1 rfl; first | exact Or.inr (by assumption) | (exfalso; omega)
              refine jv_aload_n (pc' := 26) (k := 0) (x := 10) rfl rfl rfl hf0 ?_
              refine jv_getR (pc' := 29) (c := 3) (k := 0) (v := 11) rfl rfl rfl (fun _ _ => rfl) rfl rfl (jR_10_0 _) ?_
              refine jv_bipush (pc' := 31) (n := 36) rfl rfl rfl ?_
              have hm5 := CT_c C1 (a1)
              have ho5 := CT_or C1 (a1)
              by_cases hk6 : c (a1) = 36
              · skip
                refine jv_call (pc' := 34) rfl (cl_take_y_k (I := I1) (a := a1) C1 ha1 hp (by omega) (x := 36) (by omega) hk6) (fun vq7 gq7 q7 => ?_)
                obtain ⟨rfl, rfl⟩ := q7
                show jx L xs _ 40 34 _ [.int (iI 1)] _ _
                refine jv_if_eq (t := 46) (pc' := 37) (a := 1) rfl rfl rfl (by omega) (fun h8 => ?_) (fun h8 => ?_)
                · skip
                  exact absurd h8 (by decide)
                · skip
                  refine jv_aload_n (pc' := 38) (k := 0) (x := 10) rfl rfl rfl hf0 ?_
                  refine jv_iconst (pc' := 39) (n := 3) rfl rfl ?_
                  refine jv_call (pc' := 42) rfl (cl_readCount_3 (I := jm_u I1 11 1 (iI ((a1 + 1 : Nat) : Int))) (a := a1 + 1) (n := n) (m := m1) (Y := Y1) (F := F1) C1 rfl hp (by omega) hq Y1h N1 F1h (by omega)) (fun vq9 gq9 q9 => ?_)
                  obtain ⟨Iq9, rfl, rq9, q9⟩ := q9
                  have Cq9 : CT Iq9 1 c n := CT_fr (I := jm_u I1 11 1 (iI ((a1 + 1 : Nat) : Int))) (t := 1) (c := c) (n := n) C1 rq9 (by simp [wL]) (fun k => by simp [wL])
                  rcases q9 with ⟨oq9, rfl, aq9, nm, Yq9, nq9, uq9⟩ | ⟨oq9, rfl, aq9⟩
                  · skip
                    have y1q9 : c (a1 + 1) = 42 ∨ (97 ≤ c (a1 + 1) ∧ c (a1 + 1) ≤ 104) := oq9.elim Or.inl (fun z => Or.inr z.1)
                    have y2q9 := CT_or Cq9 (a1 + 1)
                    show jx L xs _ 40 42 _ [.int (iI 1)] _ _
                    refine jv_istore_n (pc' := 43) (k := 2) (x := (iI 1)) rfl rfl rfl rfl (Or.inr (congrArg jm_lng hf1)) ?_
                    refine jx_step (pc' := 97) rfl ?_
                    refine jv_iinc (pc' := 100) (k := 3) (a := ((kk : Nat) : Int)) rfl rfl hf3 rfl (Or.inr rfl) ?_
                    refine jx_step (pc' := 4) rfl ?_
                    exact ih (kk + 1) 1 Iq9 (a1 + 2) (by omega) (by omega) (fr_t hf (fr_t (fr_u (by simp [wL]) (fr_r _)) rq9)) aq9 (Or.inl ⟨rfl, _, F1, _, m1 + 1, true, PR_app p1 (PR_1 ⟨by omega, F1h, by simp; omega⟩ (PS_bl (by assumption) oq9)), by simp, Yq9, (NF_ad N1), F1h, ⟨YX_t x1 (YX_m (YX_ad _ (f := 0) _ _ _) (by omega) (by omega)), fun z => (fun z => (uq9 (by omega) z)) (u1 z)⟩, by omega, by omega, by omega, fun z => (by obtain ⟨q1, t1⟩ := t1 (by omega); exact ⟨_, IT_app (IT_x (YX_ad _ (f := 0) _ _ _) (by omega) (by omega) t1) (IT_bk ⟨by assumption, by simp [Yad], nq9⟩)⟩)⟩) _ hf0 hf1 rfl rfl 
                  · skip
                    show jx L xs _ 40 42 _ [.int (iI 0)] _ _
                    refine jv_istore_n (pc' := 43) (k := 2) (x := (iI 0)) rfl rfl rfl rfl (Or.inr (congrArg jm_lng hf1)) ?_
                    refine jx_step (pc' := 97) rfl ?_
                    refine jv_iinc (pc' := 100) (k := 3) (a := ((kk : Nat) : Int)) rfl rfl hf3 rfl (Or.inr rfl) ?_
                    refine jx_step (pc' := 4) rfl ?_
                    exact ih (kk + 1) 0 Iq9 (a1 + 1) (by omega) (by omega) (fr_t hf (fr_t (fr_u (by simp [wL]) (fr_r _)) rq9)) aq9 (Or.inr ⟨rfl, _, PR_PE p1 (PE_0 ⟨by omega, F1h, by simp; omega⟩ (PF_bl (by assumption) oq9))⟩) _ hf0 hf1 rfl rfl 
              · skip
                refine jv_call (pc' := 34) rfl (cl_take_n_k (I := I1) (a := a1) C1 ha1 hp (by omega) (x := 36) (by omega) hk6) (fun vq10 gq10 q10 => ?_)
                obtain ⟨rfl, rfl⟩ := q10
                show jx L xs _ 40 34 _ [.int (iI 0)] _ _
                refine jv_if_eq (t := 46) (pc' := 37) (a := 0) rfl rfl rfl (by omega) (fun h11 => ?_) (fun h11 => ?_)
                · skip
                  refine jv_aload_n (pc' := 47) (k := 0) (x := 10) rfl rfl rfl hf0 ?_
                  refine jv_getR (pc' := 50) (c := 3) (k := 0) (v := 11) rfl rfl rfl (fun _ _ => rfl) rfl rfl (jR_10_0 _) ?_
                  refine jv_bipush (pc' := 52) (n := 35) rfl rfl rfl ?_
                  have hm12 := CT_c C1 (a1)
                  have ho12 := CT_or C1 (a1)
                  by_cases hk13 : c (a1) = 35
                  · skip
                    refine jv_call (pc' := 55) rfl (cl_sees_y_k (I := I1) (a := a1) C1 ha1 hp (by omega) (x := 35) (by omega) hk13) (fun vq14 gq14 q14 => ?_)
                    obtain ⟨rfl, rfl⟩ := q14
                    show jx L xs _ 40 55 _ [.int (iI 1)] _ _
                    refine jv_if_ne (t := 70) (pc' := 58) (a := 1) rfl rfl rfl (by omega) (fun h15 => ?_) (fun h15 => ?_)
                    · skip
                      refine jv_iload_n (pc' := 71) (k := 1) (x := (iI ((D : Nat) : Int))) rfl rfl rfl hf1 ?_
                      refine jv_iconst (pc' := 72) (n := 3) rfl rfl ?_
                      refine jv_ic_ge (t := 87) (pc' := 75) (a := ((D : Nat) : Int)) (b := 3) rfl rfl rfl (by omega) (fun h16 => ?_) (fun h16 => ?_)
                      · skip
                        refine jv_iconst (pc' := 88) (n := 0) rfl rfl ?_
                        refine jv_istore_n (pc' := 89) (k := 2) (x := (iI 0)) rfl rfl rfl rfl (Or.inr (congrArg jm_lng hf1)) ?_
                        refine jx_step (pc' := 97) rfl ?_
                        refine jv_iinc (pc' := 100) (k := 3) (a := ((kk : Nat) : Int)) rfl rfl hf3 rfl (Or.inr rfl) ?_
                        refine jx_step (pc' := 4) rfl ?_
                        exact ih (kk + 1) 0 I1 a1 (by omega) (by omega) (fr_t hf (fr_r _)) ha1 (Or.inr ⟨rfl, _, PR_PE p1 (PE_0 ⟨by omega, F1h, by simp; omega⟩ (PF_o0 (by omega) (by omega)))⟩) _ hf0 hf1 rfl rfl 
                      · skip
                        refine jv_aload_n (pc' := 76) (k := 0) (x := 10) rfl rfl rfl hf0 ?_
                        refine jv_iload_n (pc' := 77) (k := 1) (x := (iI ((D : Nat) : Int))) rfl rfl rfl hf1 ?_
                        refine jv_call (pc' := 80) rfl (hO (by omega) L xs d j (I1) M p c n a1 F1 m1 Y1 b1 r C1 ha1 hp (by omega) hq Y1h N1 F1h (by omega) hr (by omega)) (fun vq17 gq17 q17 => ?_)
                        obtain ⟨Iq17, rfl, rq17, a2, aq17, q17⟩ := q17
                        have Cq17 : CT Iq17 1 c n := CT_fr (I := I1) (t := 1) (c := c) (n := n) C1 rq17 (by simp [wL]) (fun k => by simp [wL])
                        rcases q17 with ⟨rfl, k2, F2, Y2, m2, pq17, Yq17, nq17, fq17, ⟨xq17, uq17⟩, l1q17, l2q17, l3q17, iq17, tq17⟩ | ⟨rfl, k2, pq17⟩
                        · skip
                          show jx L xs _ 40 80 _ [.int (iI 1)] _ _
                          refine jv_if_eq (t := 87) (pc' := 83) (a := 1) rfl rfl rfl (by omega) (fun h18 => ?_) (fun h18 => ?_)
                          · skip
                            exact absurd h18 (by decide)
                          · skip
                            refine jv_iconst (pc' := 84) (n := 1) rfl rfl ?_
                            refine jx_step (pc' := 88) rfl ?_
                            refine jv_istore_n (pc' := 89) (k := 2) (x := (iI 1)) rfl rfl rfl rfl (Or.inr (congrArg jm_lng hf1)) ?_
                            refine jx_step (pc' := 97) rfl ?_
                            refine jv_iinc (pc' := 100) (k := 3) (a := ((kk : Nat) : Int)) rfl rfl hf3 rfl (Or.inr rfl) ?_
                            refine jx_step (pc' := 4) rfl ?_
                            exact ih (kk + 1) 1 Iq17 a2 (by omega) (by omega) (fr_t hf (fr_t (fr_r _) rq17)) aq17 (Or.inl ⟨rfl, _, F2, Y2, m2, true, PR_app p1 pq17, by simp, Yq17, nq17, fq17, ⟨YX_t x1 (YX_m xq17 (by omega) (by omega)), fun z => uq17 (u1 z)⟩, by omega, by omega, by omega, fun z => (by obtain ⟨q1, t1⟩ := t1 (by omega); obtain ⟨q2, t2⟩ := tq17 (Or.inl rfl); exact ⟨_, IT_app (IT_x xq17 (by omega) (by omega) t1) t2⟩)⟩) _ hf0 hf1 rfl rfl 
                        · skip
                          show jx L xs _ 40 80 _ [.int (iI 0)] _ _
                          refine jv_if_eq (t := 87) (pc' := 83) (a := 0) rfl rfl rfl (by omega) (fun h19 => ?_) (fun h19 => ?_)
                          · skip
                            refine jv_iconst (pc' := 88) (n := 0) rfl rfl ?_
                            refine jv_istore_n (pc' := 89) (k := 2) (x := (iI 0)) rfl rfl rfl rfl (Or.inr (congrArg jm_lng hf1)) ?_
                            refine jx_step (pc' := 97) rfl ?_
                            refine jv_iinc (pc' := 100) (k := 3) (a := ((kk : Nat) : Int)) rfl rfl hf3 rfl (Or.inr rfl) ?_
                            refine jx_step (pc' := 4) rfl ?_
                            exact ih (kk + 1) 0 Iq17 a2 (by omega) (by omega) (fr_t hf (fr_t (fr_r _) rq17)) aq17 (Or.inr ⟨rfl, _, PR_PE p1 pq17⟩) _ hf0 hf1 rfl rfl 
                          · skip
                            exact absurd h19 (by decide)
                    · skip
                      exact absurd h15 (by decide)
                  · skip
                    refine jv_call (pc' := 55) rfl (cl_sees_n_k (I := I1) (a := a1) C1 ha1 hp (by omega) (x := 35) (by omega) hk13) (fun vq20 gq20 q20 => ?_)
                    obtain ⟨rfl, rfl⟩ := q20
                    show jx L xs _ 40 55 _ [.int (iI 0)] _ _
                    refine jv_if_ne (t := 70) (pc' := 58) (a := 0) rfl rfl rfl (by omega) (fun h21 => ?_) (fun h21 => ?_)
                    · skip
                      exact absurd h21 (by decide)
                    · skip
                      refine jv_aload_n (pc' := 59) (k := 0) (x := 10) rfl rfl rfl hf0 ?_
                      refine jv_getR (pc' := 62) (c := 3) (k := 0) (v := 11) rfl rfl rfl (fun _ _ => rfl) rfl rfl (jR_10_0 _) ?_
                      refine jv_bipush (pc' := 64) (n := 63) rfl rfl rfl ?_
                      have hm22 := CT_c C1 (a1)
                      have ho22 := CT_or C1 (a1)
                      by_cases hk23 : c (a1) = 63
                      · skip
                        refine jv_call (pc' := 67) rfl (cl_sees_y_k (I := I1) (a := a1) C1 ha1 hp (by omega) (x := 63) (by omega) hk23) (fun vq24 gq24 q24 => ?_)
                        obtain ⟨rfl, rfl⟩ := q24
                        show jx L xs _ 40 67 _ [.int (iI 1)] _ _
                        refine jv_if_eq (t := 92) (pc' := 70) (a := 1) rfl rfl rfl (by omega) (fun h25 => ?_) (fun h25 => ?_)
                        · skip
                          exact absurd h25 (by decide)
                        · skip
                          refine jv_iload_n (pc' := 71) (k := 1) (x := (iI ((D : Nat) : Int))) rfl rfl rfl hf1 ?_
                          refine jv_iconst (pc' := 72) (n := 3) rfl rfl ?_
                          refine jv_ic_ge (t := 87) (pc' := 75) (a := ((D : Nat) : Int)) (b := 3) rfl rfl rfl (by omega) (fun h26 => ?_) (fun h26 => ?_)
                          · skip
                            refine jv_iconst (pc' := 88) (n := 0) rfl rfl ?_
                            refine jv_istore_n (pc' := 89) (k := 2) (x := (iI 0)) rfl rfl rfl rfl (Or.inr (congrArg jm_lng hf1)) ?_
                            refine jx_step (pc' := 97) rfl ?_
                            refine jv_iinc (pc' := 100) (k := 3) (a := ((kk : Nat) : Int)) rfl rfl hf3 rfl (Or.inr rfl) ?_
                            refine jx_step (pc' := 4) rfl ?_
                            exact ih (kk + 1) 0 I1 a1 (by omega) (by omega) (fr_t hf (fr_r _)) ha1 (Or.inr ⟨rfl, _, PR_PE p1 (PE_0 ⟨by omega, F1h, by simp; omega⟩ (PF_o0 (by omega) (by omega)))⟩) _ hf0 hf1 rfl rfl 
                          · skip
                            refine jv_aload_n (pc' := 76) (k := 0) (x := 10) rfl rfl rfl hf0 ?_
                            refine jv_iload_n (pc' := 77) (k := 1) (x := (iI ((D : Nat) : Int))) rfl rfl rfl hf1 ?_
                            refine jv_call (pc' := 80) rfl (hO (by omega) L xs d j (I1) M p c n a1 F1 m1 Y1 b1 r C1 ha1 hp (by omega) hq Y1h N1 F1h (by omega) hr (by omega)) (fun vq27 gq27 q27 => ?_)
                            obtain ⟨Iq27, rfl, rq27, a2, aq27, q27⟩ := q27
                            have Cq27 : CT Iq27 1 c n := CT_fr (I := I1) (t := 1) (c := c) (n := n) C1 rq27 (by simp [wL]) (fun k => by simp [wL])
                            rcases q27 with ⟨rfl, k2, F2, Y2, m2, pq27, Yq27, nq27, fq27, ⟨xq27, uq27⟩, l1q27, l2q27, l3q27, iq27, tq27⟩ | ⟨rfl, k2, pq27⟩
                            · skip
                              show jx L xs _ 40 80 _ [.int (iI 1)] _ _
                              refine jv_if_eq (t := 87) (pc' := 83) (a := 1) rfl rfl rfl (by omega) (fun h28 => ?_) (fun h28 => ?_)
                              · skip
                                exact absurd h28 (by decide)
                              · skip
                                refine jv_iconst (pc' := 84) (n := 1) rfl rfl ?_
                                refine jx_step (pc' := 88) rfl ?_
                                refine jv_istore_n (pc' := 89) (k := 2) (x := (iI 1)) rfl rfl rfl rfl (Or.inr (congrArg jm_lng hf1)) ?_
                                refine jx_step (pc' := 97) rfl ?_
                                refine jv_iinc (pc' := 100) (k := 3) (a := ((kk : Nat) : Int)) rfl rfl hf3 rfl (Or.inr rfl) ?_
                                refine jx_step (pc' := 4) rfl ?_
                                exact ih (kk + 1) 1 Iq27 a2 (by omega) (by omega) (fr_t hf (fr_t (fr_r _) rq27)) aq27 (Or.inl ⟨rfl, _, F2, Y2, m2, true, PR_app p1 pq27, by simp, Yq27, nq27, fq27, ⟨YX_t x1 (YX_m xq27 (by omega) (by omega)), fun z => uq27 (u1 z)⟩, by omega, by omega, by omega, fun z => (by obtain ⟨q1, t1⟩ := t1 (by omega); obtain ⟨q2, t2⟩ := tq27 (Or.inl rfl); exact ⟨_, IT_app (IT_x xq27 (by omega) (by omega) t1) t2⟩)⟩) _ hf0 hf1 rfl rfl 
                            · skip
                              show jx L xs _ 40 80 _ [.int (iI 0)] _ _
                              refine jv_if_eq (t := 87) (pc' := 83) (a := 0) rfl rfl rfl (by omega) (fun h29 => ?_) (fun h29 => ?_)
                              · skip
                                refine jv_iconst (pc' := 88) (n := 0) rfl rfl ?_
                                refine jv_istore_n (pc' := 89) (k := 2) (x := (iI 0)) rfl rfl rfl rfl (Or.inr (congrArg jm_lng hf1)) ?_
                                refine jx_step (pc' := 97) rfl ?_
                                refine jv_iinc (pc' := 100) (k := 3) (a := ((kk : Nat) : Int)) rfl rfl hf3 rfl (Or.inr rfl) ?_
                                refine jx_step (pc' := 4) rfl ?_
                                exact ih (kk + 1) 0 Iq27 a2 (by omega) (by omega) (fr_t hf (fr_t (fr_r _) rq27)) aq27 (Or.inr ⟨rfl, _, PR_PE p1 pq27⟩) _ hf0 hf1 rfl rfl 
                              · skip
                                exact absurd h29 (by decide)
                      · skip
                        refine jv_call (pc' := 67) rfl (cl_sees_n_k (I := I1) (a := a1) C1 ha1 hp (by omega) (x := 63) (by omega) hk23) (fun vq30 gq30 q30 => ?_)
                        obtain ⟨rfl, rfl⟩ := q30
                        show jx L xs _ 40 67 _ [.int (iI 0)] _ _
                        refine jv_if_eq (t := 92) (pc' := 70) (a := 0) rfl rfl rfl (by omega) (fun h31 => ?_) (fun h31 => ?_)
                        · skip
                          have hb4 : b1 = false ∨ (97 ≤ c a1 ∧ c a1 ≤ 104) := hb3.elim Or.inl (fun z => Or.inr (by omega))
                          refine jv_aload_n (pc' := 93) (k := 0) (x := 10) rfl rfl rfl hf0 ?_
                          refine jv_call (pc' := 96) rfl (cl_readField_3 (I := I1) (a := a1) (n := n) (m := m1) (Y := Y1) (F := F1) C1 ha1 hp (by omega) hq Y1h N1 F1h (by omega)) (fun vq32 gq32 q32 => ?_)
                          obtain ⟨Iq32, rfl, rq32, aq32, q32⟩ := q32
                          have Cq32 : CT Iq32 1 c n := CT_fr (I := I1) (t := 1) (c := c) (n := n) C1 rq32 (by simp [wL]) (fun k => by simp [wL])
                          rcases q32 with ⟨oq32, rfl, l1q32, l2q32, Yq32, hq32, nq32, xq32, uq32, fq32⟩ | ⟨oq32, rfl⟩
                          · skip
                            have y1q32 := oq32.1.1
                            show jx L xs _ 40 96 _ [.int (iI 1)] _ _
                            refine jv_istore_n (pc' := 97) (k := 2) (x := (iI 1)) rfl rfl rfl rfl (Or.inr (congrArg jm_lng hf1)) ?_
                            refine jv_iinc (pc' := 100) (k := 3) (a := ((kk : Nat) : Int)) rfl rfl hf3 rfl (Or.inr rfl) ?_
                            refine jx_step (pc' := 4) rfl ?_
                            exact ih (kk + 1) 1 Iq32 (fdA c F1 a1) (by omega) (by omega) (fr_t hf (fr_t (fr_r _) rq32)) aq32 (Or.inl ⟨rfl, _, fdF c F1 a1, Yq32, m1 + 1, true, PR_app p1 (PR_1 ⟨by omega, F1h, by simp; omega⟩ (PS_fd oq32)), by simp, hq32, nq32, fdF_lt F1h, ⟨YX_t x1 (YX_m xq32 (by omega) (by omega)), fun z => uq32 (u1 z)⟩, by omega, by omega, by omega, fun z => (by obtain ⟨q1, t1⟩ := t1 (by omega); exact ⟨_, IT_app (IT_x xq32 (by omega) (by omega) t1) (IT_fd (fq32 z))⟩)⟩) _ hf0 hf1 rfl rfl 
                          · skip
                            show jx L xs _ 40 96 _ [.int (iI 0)] _ _
                            refine jv_istore_n (pc' := 97) (k := 2) (x := (iI 0)) rfl rfl rfl rfl (Or.inr (congrArg jm_lng hf1)) ?_
                            refine jv_iinc (pc' := 100) (k := 3) (a := ((kk : Nat) : Int)) rfl rfl hf3 rfl (Or.inr rfl) ?_
                            refine jx_step (pc' := 4) rfl ?_
                            exact ih (kk + 1) 0 Iq32 (fdA c F1 a1) (by omega) (by omega) (fr_t hf (fr_t (fr_r _) rq32)) aq32 (Or.inr ⟨rfl, _, PR_PE p1 (PE_0 ⟨by omega, F1h, by simp; omega⟩ (PF_bad (hb4.elim Or.inl (fun z => Or.inr (Or.inl z))) (by omega) oq32))⟩) _ hf0 hf1 rfl rfl 
                        · skip
                          exact absurd h31 (by decide)
                · skip
                  exact absurd h11 (by decide)
            · skip
              refine jv_aload_n (pc' := 19) (k := 0) (x := 10) rfl rfl rfl hf0 ?_
              refine jv_call (pc' := 22) rfl (cl_seesItem_3 (I := I1) (a := a1) (n := n) C1 ha1 hp (by omega)) (fun vq33 gq33 q33 => ?_)
              obtain ⟨rfl, rfl⟩ := q33
              show jx L xs _ 40 22 _ [.int (jb ((97 ≤ c a1 ∧ c a1 ≤ 104) ∨ c a1 = 36 ∨ c a1 = 35 ∨ c a1 = 63))] _ _
              refine jv_jb_eq (t := 103) (pc' := 25) (P := (97 ≤ c a1 ∧ c a1 ≤ 104) ∨ c a1 = 36 ∨ c a1 = 35 ∨ c a1 = 63) rfl rfl rfl (fun h34 => ?_) (fun h34 => ?_)
              · skip
                refine jv_iload_n (pc' := 104) (k := 2) (x := (iI 1)) rfl rfl rfl hf2 ?_
                refine jv_retZ rfl rfl (by first | exact Or.inl rfl | exact Or.inr rfl) ⟨_, _, rfl, ?_⟩
                first
                | (exfalso; omega)
                | (have hb2 : b1 = true := hb1.2 (by omega)
                   subst hb2
                   refine ⟨_, rfl, hf, a1, ha1, Or.inl ⟨rfl, k1, F1, Y1, m1, p1, Y1h, N1, F1h, ⟨x1, u1⟩, by omega, by omega, by omega, fun _ => ?_, fun z => t1 (by simpa using z)⟩⟩
                   unfold ist
                   first | assumption | omega)
              · skip
                have hb3 : b1 = false ∨ ((97 ≤ c a1 ∧ c a1 ≤ 104) ∨ c a1 = 36 ∨ c a1 = 35 ∨ c a1 = 63) := by
                  cases b1
                  · exact Or.inl rfl
                  · have := hb1.1 rfl; first | exact Or.inr (by assumption) | (exfalso; omega)
                refine jv_aload_n (pc' := 26) (k := 0) (x := 10) rfl rfl rfl hf0 ?_
                refine jv_getR (pc' := 29) (c := 3) (k := 0) (v := 11) rfl rfl rfl (fun _ _ => rfl) rfl rfl (jR_10_0 _) ?_
                refine jv_bipush (pc' := 31) (n := 36) rfl rfl rfl ?_
                have hm35 := CT_c C1 (a1)
                have ho35 := CT_or C1 (a1)
                by_cases hk36 : c (a1) = 36
                · skip
                  refine jv_call (pc' := 34) rfl (cl_take_y_k (I := I1) (a := a1) C1 ha1 hp (by omega) (x := 36) (by omega) hk36) (fun vq37 gq37 q37 => ?_)
                  obtain ⟨rfl, rfl⟩ := q37
                  show jx L xs _ 40 34 _ [.int (iI 1)] _ _
                  refine jv_if_eq (t := 46) (pc' := 37) (a := 1) rfl rfl rfl (by omega) (fun h38 => ?_) (fun h38 => ?_)
                  · skip
                    exact absurd h38 (by decide)
                  · skip
                    refine jv_aload_n (pc' := 38) (k := 0) (x := 10) rfl rfl rfl hf0 ?_
                    refine jv_iconst (pc' := 39) (n := 3) rfl rfl ?_
                    refine jv_call (pc' := 42) rfl (cl_readCount_3 (I := jm_u I1 11 1 (iI ((a1 + 1 : Nat) : Int))) (a := a1 + 1) (n := n) (m := m1) (Y := Y1) (F := F1) C1 rfl hp (by omega) hq Y1h N1 F1h (by omega)) (fun vq39 gq39 q39 => ?_)
                    obtain ⟨Iq39, rfl, rq39, q39⟩ := q39
                    have Cq39 : CT Iq39 1 c n := CT_fr (I := jm_u I1 11 1 (iI ((a1 + 1 : Nat) : Int))) (t := 1) (c := c) (n := n) C1 rq39 (by simp [wL]) (fun k => by simp [wL])
                    rcases q39 with ⟨oq39, rfl, aq39, nm, Yq39, nq39, uq39⟩ | ⟨oq39, rfl, aq39⟩
                    · skip
                      have y1q39 : c (a1 + 1) = 42 ∨ (97 ≤ c (a1 + 1) ∧ c (a1 + 1) ≤ 104) := oq39.elim Or.inl (fun z => Or.inr z.1)
                      have y2q39 := CT_or Cq39 (a1 + 1)
                      show jx L xs _ 40 42 _ [.int (iI 1)] _ _
                      refine jv_istore_n (pc' := 43) (k := 2) (x := (iI 1)) rfl rfl rfl rfl (Or.inr (congrArg jm_lng hf1)) ?_
                      refine jx_step (pc' := 97) rfl ?_
                      refine jv_iinc (pc' := 100) (k := 3) (a := ((kk : Nat) : Int)) rfl rfl hf3 rfl (Or.inr rfl) ?_
                      refine jx_step (pc' := 4) rfl ?_
                      exact ih (kk + 1) 1 Iq39 (a1 + 2) (by omega) (by omega) (fr_t hf (fr_t (fr_u (by simp [wL]) (fr_r _)) rq39)) aq39 (Or.inl ⟨rfl, _, F1, _, m1 + 1, true, PR_app p1 (PR_1 ⟨by omega, F1h, by simp; omega⟩ (PS_bl (by assumption) oq39)), by simp, Yq39, (NF_ad N1), F1h, ⟨YX_t x1 (YX_m (YX_ad _ (f := 0) _ _ _) (by omega) (by omega)), fun z => (fun z => (uq39 (by omega) z)) (u1 z)⟩, by omega, by omega, by omega, fun z => (by obtain ⟨q1, t1⟩ := t1 (by omega); exact ⟨_, IT_app (IT_x (YX_ad _ (f := 0) _ _ _) (by omega) (by omega) t1) (IT_bk ⟨by assumption, by simp [Yad], nq39⟩)⟩)⟩) _ hf0 hf1 rfl rfl 
                    · skip
                      show jx L xs _ 40 42 _ [.int (iI 0)] _ _
                      refine jv_istore_n (pc' := 43) (k := 2) (x := (iI 0)) rfl rfl rfl rfl (Or.inr (congrArg jm_lng hf1)) ?_
                      refine jx_step (pc' := 97) rfl ?_
                      refine jv_iinc (pc' := 100) (k := 3) (a := ((kk : Nat) : Int)) rfl rfl hf3 rfl (Or.inr rfl) ?_
                      refine jx_step (pc' := 4) rfl ?_
                      exact ih (kk + 1) 0 Iq39 (a1 + 1) (by omega) (by omega) (fr_t hf (fr_t (fr_u (by simp [wL]) (fr_r _)) rq39)) aq39 (Or.inr ⟨rfl, _, PR_PE p1 (PE_0 ⟨by omega, F1h, by simp; omega⟩ (PF_bl (by assumption) oq39))⟩) _ hf0 hf1 rfl rfl 
                · skip
                  refine jv_call (pc' := 34) rfl (cl_take_n_k (I := I1) (a := a1) C1 ha1 hp (by omega) (x := 36) (by omega) hk36) (fun vq40 gq40 q40 => ?_)
                  obtain ⟨rfl, rfl⟩ := q40
                  show jx L xs _ 40 34 _ [.int (iI 0)] _ _
                  refine jv_if_eq (t := 46) (pc' := 37) (a := 0) rfl rfl rfl (by omega) (fun h41 => ?_) (fun h41 => ?_)
                  · skip
                    refine jv_aload_n (pc' := 47) (k := 0) (x := 10) rfl rfl rfl hf0 ?_
                    refine jv_getR (pc' := 50) (c := 3) (k := 0) (v := 11) rfl rfl rfl (fun _ _ => rfl) rfl rfl (jR_10_0 _) ?_
                    refine jv_bipush (pc' := 52) (n := 35) rfl rfl rfl ?_
                    have hm42 := CT_c C1 (a1)
                    have ho42 := CT_or C1 (a1)
                    by_cases hk43 : c (a1) = 35
                    · skip
                      refine jv_call (pc' := 55) rfl (cl_sees_y_k (I := I1) (a := a1) C1 ha1 hp (by omega) (x := 35) (by omega) hk43) (fun vq44 gq44 q44 => ?_)
                      obtain ⟨rfl, rfl⟩ := q44
                      show jx L xs _ 40 55 _ [.int (iI 1)] _ _
                      refine jv_if_ne (t := 70) (pc' := 58) (a := 1) rfl rfl rfl (by omega) (fun h45 => ?_) (fun h45 => ?_)
                      · skip
                        refine jv_iload_n (pc' := 71) (k := 1) (x := (iI ((D : Nat) : Int))) rfl rfl rfl hf1 ?_
                        refine jv_iconst (pc' := 72) (n := 3) rfl rfl ?_
                        refine jv_ic_ge (t := 87) (pc' := 75) (a := ((D : Nat) : Int)) (b := 3) rfl rfl rfl (by omega) (fun h46 => ?_) (fun h46 => ?_)
                        · skip
                          refine jv_iconst (pc' := 88) (n := 0) rfl rfl ?_
                          refine jv_istore_n (pc' := 89) (k := 2) (x := (iI 0)) rfl rfl rfl rfl (Or.inr (congrArg jm_lng hf1)) ?_
                          refine jx_step (pc' := 97) rfl ?_
                          refine jv_iinc (pc' := 100) (k := 3) (a := ((kk : Nat) : Int)) rfl rfl hf3 rfl (Or.inr rfl) ?_
                          refine jx_step (pc' := 4) rfl ?_
                          exact ih (kk + 1) 0 I1 a1 (by omega) (by omega) (fr_t hf (fr_r _)) ha1 (Or.inr ⟨rfl, _, PR_PE p1 (PE_0 ⟨by omega, F1h, by simp; omega⟩ (PF_o0 (by omega) (by omega)))⟩) _ hf0 hf1 rfl rfl 
                        · skip
                          refine jv_aload_n (pc' := 76) (k := 0) (x := 10) rfl rfl rfl hf0 ?_
                          refine jv_iload_n (pc' := 77) (k := 1) (x := (iI ((D : Nat) : Int))) rfl rfl rfl hf1 ?_
                          refine jv_call (pc' := 80) rfl (hO (by omega) L xs d j (I1) M p c n a1 F1 m1 Y1 b1 r C1 ha1 hp (by omega) hq Y1h N1 F1h (by omega) hr (by omega)) (fun vq47 gq47 q47 => ?_)
                          obtain ⟨Iq47, rfl, rq47, a2, aq47, q47⟩ := q47
                          have Cq47 : CT Iq47 1 c n := CT_fr (I := I1) (t := 1) (c := c) (n := n) C1 rq47 (by simp [wL]) (fun k => by simp [wL])
                          rcases q47 with ⟨rfl, k2, F2, Y2, m2, pq47, Yq47, nq47, fq47, ⟨xq47, uq47⟩, l1q47, l2q47, l3q47, iq47, tq47⟩ | ⟨rfl, k2, pq47⟩
                          · skip
                            show jx L xs _ 40 80 _ [.int (iI 1)] _ _
                            refine jv_if_eq (t := 87) (pc' := 83) (a := 1) rfl rfl rfl (by omega) (fun h48 => ?_) (fun h48 => ?_)
                            · skip
                              exact absurd h48 (by decide)
                            · skip
                              refine jv_iconst (pc' := 84) (n := 1) rfl rfl ?_
                              refine jx_step (pc' := 88) rfl ?_
                              refine jv_istore_n (pc' := 89) (k := 2) (x := (iI 1)) rfl rfl rfl rfl (Or.inr (congrArg jm_lng hf1)) ?_
                              refine jx_step (pc' := 97) rfl ?_
                              refine jv_iinc (pc' := 100) (k := 3) (a := ((kk : Nat) : Int)) rfl rfl hf3 rfl (Or.inr rfl) ?_
                              refine jx_step (pc' := 4) rfl ?_
                              exact ih (kk + 1) 1 Iq47 a2 (by omega) (by omega) (fr_t hf (fr_t (fr_r _) rq47)) aq47 (Or.inl ⟨rfl, _, F2, Y2, m2, true, PR_app p1 pq47, by simp, Yq47, nq47, fq47, ⟨YX_t x1 (YX_m xq47 (by omega) (by omega)), fun z => uq47 (u1 z)⟩, by omega, by omega, by omega, fun z => (by obtain ⟨q1, t1⟩ := t1 (by omega); obtain ⟨q2, t2⟩ := tq47 (Or.inl rfl); exact ⟨_, IT_app (IT_x xq47 (by omega) (by omega) t1) t2⟩)⟩) _ hf0 hf1 rfl rfl 
                          · skip
                            show jx L xs _ 40 80 _ [.int (iI 0)] _ _
                            refine jv_if_eq (t := 87) (pc' := 83) (a := 0) rfl rfl rfl (by omega) (fun h49 => ?_) (fun h49 => ?_)
                            · skip
                              refine jv_iconst (pc' := 88) (n := 0) rfl rfl ?_
                              refine jv_istore_n (pc' := 89) (k := 2) (x := (iI 0)) rfl rfl rfl rfl (Or.inr (congrArg jm_lng hf1)) ?_
                              refine jx_step (pc' := 97) rfl ?_
                              refine jv_iinc (pc' := 100) (k := 3) (a := ((kk : Nat) : Int)) rfl rfl hf3 rfl (Or.inr rfl) ?_
                              refine jx_step (pc' := 4) rfl ?_
                              exact ih (kk + 1) 0 Iq47 a2 (by omega) (by omega) (fr_t hf (fr_t (fr_r _) rq47)) aq47 (Or.inr ⟨rfl, _, PR_PE p1 pq47⟩) _ hf0 hf1 rfl rfl 
                            · skip
                              exact absurd h49 (by decide)
                      · skip
                        exact absurd h45 (by decide)
                    · skip
                      refine jv_call (pc' := 55) rfl (cl_sees_n_k (I := I1) (a := a1) C1 ha1 hp (by omega) (x := 35) (by omega) hk43) (fun vq50 gq50 q50 => ?_)
                      obtain ⟨rfl, rfl⟩ := q50
                      show jx L xs _ 40 55 _ [.int (iI 0)] _ _
                      refine jv_if_ne (t := 70) (pc' := 58) (a := 0) rfl rfl rfl (by omega) (fun h51 => ?_) (fun h51 => ?_)
                      · skip
                        exact absurd h51 (by decide)
                      · skip
                        refine jv_aload_n (pc' := 59) (k := 0) (x := 10) rfl rfl rfl hf0 ?_
                        refine jv_getR (pc' := 62) (c := 3) (k := 0) (v := 11) rfl rfl rfl (fun _ _ => rfl) rfl rfl (jR_10_0 _) ?_
                        refine jv_bipush (pc' := 64) (n := 63) rfl rfl rfl ?_
                        have hm52 := CT_c C1 (a1)
                        have ho52 := CT_or C1 (a1)
                        by_cases hk53 : c (a1) = 63
                        · skip
                          refine jv_call (pc' := 67) rfl (cl_sees_y_k (I := I1) (a := a1) C1 ha1 hp (by omega) (x := 63) (by omega) hk53) (fun vq54 gq54 q54 => ?_)
                          obtain ⟨rfl, rfl⟩ := q54
                          show jx L xs _ 40 67 _ [.int (iI 1)] _ _
                          refine jv_if_eq (t := 92) (pc' := 70) (a := 1) rfl rfl rfl (by omega) (fun h55 => ?_) (fun h55 => ?_)
                          · skip
                            exact absurd h55 (by decide)
                          · skip
                            refine jv_iload_n (pc' := 71) (k := 1) (x := (iI ((D : Nat) : Int))) rfl rfl rfl hf1 ?_
                            refine jv_iconst (pc' := 72) (n := 3) rfl rfl ?_
                            refine jv_ic_ge (t := 87) (pc' := 75) (a := ((D : Nat) : Int)) (b := 3) rfl rfl rfl (by omega) (fun h56 => ?_) (fun h56 => ?_)
                            · skip
                              refine jv_iconst (pc' := 88) (n := 0) rfl rfl ?_
                              refine jv_istore_n (pc' := 89) (k := 2) (x := (iI 0)) rfl rfl rfl rfl (Or.inr (congrArg jm_lng hf1)) ?_
                              refine jx_step (pc' := 97) rfl ?_
                              refine jv_iinc (pc' := 100) (k := 3) (a := ((kk : Nat) : Int)) rfl rfl hf3 rfl (Or.inr rfl) ?_
                              refine jx_step (pc' := 4) rfl ?_
                              exact ih (kk + 1) 0 I1 a1 (by omega) (by omega) (fr_t hf (fr_r _)) ha1 (Or.inr ⟨rfl, _, PR_PE p1 (PE_0 ⟨by omega, F1h, by simp; omega⟩ (PF_o0 (by omega) (by omega)))⟩) _ hf0 hf1 rfl rfl 
                            · skip
                              refine jv_aload_n (pc' := 76) (k := 0) (x := 10) rfl rfl rfl hf0 ?_
                              refine jv_iload_n (pc' := 77) (k := 1) (x := (iI ((D : Nat) : Int))) rfl rfl rfl hf1 ?_
                              refine jv_call (pc' := 80) rfl (hO (by omega) L xs d j (I1) M p c n a1 F1 m1 Y1 b1 r C1 ha1 hp (by omega) hq Y1h N1 F1h (by omega) hr (by omega)) (fun vq57 gq57 q57 => ?_)
                              obtain ⟨Iq57, rfl, rq57, a2, aq57, q57⟩ := q57
                              have Cq57 : CT Iq57 1 c n := CT_fr (I := I1) (t := 1) (c := c) (n := n) C1 rq57 (by simp [wL]) (fun k => by simp [wL])
                              rcases q57 with ⟨rfl, k2, F2, Y2, m2, pq57, Yq57, nq57, fq57, ⟨xq57, uq57⟩, l1q57, l2q57, l3q57, iq57, tq57⟩ | ⟨rfl, k2, pq57⟩
                              · skip
                                show jx L xs _ 40 80 _ [.int (iI 1)] _ _
                                refine jv_if_eq (t := 87) (pc' := 83) (a := 1) rfl rfl rfl (by omega) (fun h58 => ?_) (fun h58 => ?_)
                                · skip
                                  exact absurd h58 (by decide)
                                · skip
                                  refine jv_iconst (pc' := 84) (n := 1) rfl rfl ?_
                                  refine jx_step (pc' := 88) rfl ?_
                                  refine jv_istore_n (pc' := 89) (k := 2) (x := (iI 1)) rfl rfl rfl rfl (Or.inr (congrArg jm_lng hf1)) ?_
                                  refine jx_step (pc' := 97) rfl ?_
                                  refine jv_iinc (pc' := 100) (k := 3) (a := ((kk : Nat) : Int)) rfl rfl hf3 rfl (Or.inr rfl) ?_
                                  refine jx_step (pc' := 4) rfl ?_
                                  exact ih (kk + 1) 1 Iq57 a2 (by omega) (by omega) (fr_t hf (fr_t (fr_r _) rq57)) aq57 (Or.inl ⟨rfl, _, F2, Y2, m2, true, PR_app p1 pq57, by simp, Yq57, nq57, fq57, ⟨YX_t x1 (YX_m xq57 (by omega) (by omega)), fun z => uq57 (u1 z)⟩, by omega, by omega, by omega, fun z => (by obtain ⟨q1, t1⟩ := t1 (by omega); obtain ⟨q2, t2⟩ := tq57 (Or.inl rfl); exact ⟨_, IT_app (IT_x xq57 (by omega) (by omega) t1) t2⟩)⟩) _ hf0 hf1 rfl rfl 
                              · skip
                                show jx L xs _ 40 80 _ [.int (iI 0)] _ _
                                refine jv_if_eq (t := 87) (pc' := 83) (a := 0) rfl rfl rfl (by omega) (fun h59 => ?_) (fun h59 => ?_)
                                · skip
                                  refine jv_iconst (pc' := 88) (n := 0) rfl rfl ?_
                                  refine jv_istore_n (pc' := 89) (k := 2) (x := (iI 0)) rfl rfl rfl rfl (Or.inr (congrArg jm_lng hf1)) ?_
                                  refine jx_step (pc' := 97) rfl ?_
                                  refine jv_iinc (pc' := 100) (k := 3) (a := ((kk : Nat) : Int)) rfl rfl hf3 rfl (Or.inr rfl) ?_
                                  refine jx_step (pc' := 4) rfl ?_
                                  exact ih (kk + 1) 0 Iq57 a2 (by omega) (by omega) (fr_t hf (fr_t (fr_r _) rq57)) aq57 (Or.inr ⟨rfl, _, PR_PE p1 pq57⟩) _ hf0 hf1 rfl rfl 
                                · skip
                                  exact absurd h59 (by decide)
                        · skip
                          refine jv_call (pc' := 67) rfl (cl_sees_n_k (I := I1) (a := a1) C1 ha1 hp (by omega) (x := 63) (by omega) hk53) (fun vq60 gq60 q60 => ?_)
                          obtain ⟨rfl, rfl⟩ := q60
                          show jx L xs _ 40 67 _ [.int (iI 0)] _ _
                          refine jv_if_eq (t := 92) (pc' := 70) (a := 0) rfl rfl rfl (by omega) (fun h61 => ?_) (fun h61 => ?_)
                          · skip
                            have hb4 : b1 = false ∨ (97 ≤ c a1 ∧ c a1 ≤ 104) := hb3.elim Or.inl (fun z => Or.inr (by omega))
                            refine jv_aload_n (pc' := 93) (k := 0) (x := 10) rfl rfl rfl hf0 ?_
                            refine jv_call (pc' := 96) rfl (cl_readField_3 (I := I1) (a := a1) (n := n) (m := m1) (Y := Y1) (F := F1) C1 ha1 hp (by omega) hq Y1h N1 F1h (by omega)) (fun vq62 gq62 q62 => ?_)
                            obtain ⟨Iq62, rfl, rq62, aq62, q62⟩ := q62
                            have Cq62 : CT Iq62 1 c n := CT_fr (I := I1) (t := 1) (c := c) (n := n) C1 rq62 (by simp [wL]) (fun k => by simp [wL])
                            rcases q62 with ⟨oq62, rfl, l1q62, l2q62, Yq62, hq62, nq62, xq62, uq62, fq62⟩ | ⟨oq62, rfl⟩
                            · skip
                              have y1q62 := oq62.1.1
                              show jx L xs _ 40 96 _ [.int (iI 1)] _ _
                              refine jv_istore_n (pc' := 97) (k := 2) (x := (iI 1)) rfl rfl rfl rfl (Or.inr (congrArg jm_lng hf1)) ?_
                              refine jv_iinc (pc' := 100) (k := 3) (a := ((kk : Nat) : Int)) rfl rfl hf3 rfl (Or.inr rfl) ?_
                              refine jx_step (pc' := 4) rfl ?_
                              exact ih (kk + 1) 1 Iq62 (fdA c F1 a1) (by omega) (by omega) (fr_t hf (fr_t (fr_r _) rq62)) aq62 (Or.inl ⟨rfl, _, fdF c F1 a1, Yq62, m1 + 1, true, PR_app p1 (PR_1 ⟨by omega, F1h, by simp; omega⟩ (PS_fd oq62)), by simp, hq62, nq62, fdF_lt F1h, ⟨YX_t x1 (YX_m xq62 (by omega) (by omega)), fun z => uq62 (u1 z)⟩, by omega, by omega, by omega, fun z => (by obtain ⟨q1, t1⟩ := t1 (by omega); exact ⟨_, IT_app (IT_x xq62 (by omega) (by omega) t1) (IT_fd (fq62 z))⟩)⟩) _ hf0 hf1 rfl rfl 
                            · skip
                              show jx L xs _ 40 96 _ [.int (iI 0)] _ _
                              refine jv_istore_n (pc' := 97) (k := 2) (x := (iI 0)) rfl rfl rfl rfl (Or.inr (congrArg jm_lng hf1)) ?_
                              refine jv_iinc (pc' := 100) (k := 3) (a := ((kk : Nat) : Int)) rfl rfl hf3 rfl (Or.inr rfl) ?_
                              refine jx_step (pc' := 4) rfl ?_
                              exact ih (kk + 1) 0 Iq62 (fdA c F1 a1) (by omega) (by omega) (fr_t hf (fr_t (fr_r _) rq62)) aq62 (Or.inr ⟨rfl, _, PR_PE p1 (PE_0 ⟨by omega, F1h, by simp; omega⟩ (PF_bad (hb4.elim Or.inl (fun z => Or.inr (Or.inl z))) (by omega) oq62))⟩) _ hf0 hf1 rfl rfl 
                          · skip
                            exact absurd h61 (by decide)
                  · skip
                    exact absurd h41 (by decide)
      · skip
        show jx L xs _ 40 5 _ [.int (iI ((kk : Nat) : Int))] _ _
        refine jv_bipush (pc' := 7) (n := 40) rfl rfl rfl ?_
        refine jv_ic_ge (t := 103) (pc' := 10) (a := ((kk : Nat) : Int)) (b := 40) rfl rfl rfl (by omega) (fun h63 => ?_) (fun h63 => ?_)
        · skip
          refine jv_iload_n (pc' := 104) (k := 2) (x := (iI 0)) rfl rfl rfl hf2 ?_
          refine jv_retZ rfl rfl (by first | exact Or.inl rfl | exact Or.inr rfl) ⟨_, _, rfl, ?_⟩
          first
          | (exfalso; omega)
          | exact ⟨_, rfl, hf, a1, ha1, Or.inr ⟨rfl, k1, p1⟩⟩
        · skip
          refine jv_iload_n (pc' := 11) (k := 2) (x := (iI 0)) rfl rfl rfl hf2 ?_
          refine jv_if_eq (t := 103) (pc' := 14) (a := 0) rfl rfl rfl (by omega) (fun h64 => ?_) (fun h64 => ?_)
          · skip
            refine jv_iload_n (pc' := 104) (k := 2) (x := (iI 0)) rfl rfl rfl hf2 ?_
            refine jv_retZ rfl rfl (by first | exact Or.inl rfl | exact Or.inr rfl) ⟨_, _, rfl, ?_⟩
            first
            | (exfalso; omega)
            | exact ⟨_, rfl, hf, a1, ha1, Or.inr ⟨rfl, k1, p1⟩⟩
          · skip
            exact absurd h64 (by decide)
  exact H1 _ 0 1 I a (Nat.lt_succ_self _) (by omega) (fr_r _) ha (Or.inl ⟨rfl, 0, F, Y, m, false, ⟨rfl, rfl, rfl⟩, by simp, hY, hN, hF, ⟨YX_r _ _ _, fun z => z⟩, by omega, by omega, by omega, fun _ => ⟨0, rfl, rfl⟩⟩) _ rfl rfl rfl rfl 
theorem cl_RI0_3 : CRI 3 0 10 := cl_RI_3 (D := 0) (e := 6) (by omega) (fun _ => cl_RO_3 (D := 0) (e := 5) (by omega) (cl_RI_3 (D := 1) (e := 4) (by omega) (fun _ => cl_RO_3 (D := 1) (e := 3) (by omega) (cl_RI_3 (D := 2) (e := 2) (by omega) (fun _ => cl_RO_3 (D := 2) (e := 1) (by omega) (cl_RI_3 (D := 3) (e := 0) (by omega) (fun h => absurd h (by omega))))))))
variable {L : Nat} {xs : Nat → Int32} {d j : Nat} {I : Nat → Nat → Int32} {M : Nat → Nat → Int64} {p : Nat → Option Nat}
variable {c : Nat → Int} {n a F m : Nat} {Y : Nat → Nat → Int}
theorem cl_clear_3  : jc L xs (d + 1) 33 [.ref 3] (jx_G j I M p) (fun v g1 => ∃ I', g1 = jx_G j I' M p ∧ v = none ∧ LB I' 3 (Y0 I 3) 0 ∧ I' 3 7 = iI (-1) ∧ fr (wC 3) I I' ∧ fr (fun l _ => 3 ≤ l ∧ l ≤ 3 + 6) I I') := by
  unfold jc
  refine jv_aload_n (pc' := 1) (k := 0) (x := 3) rfl rfl rfl rfl ?_
  refine jv_iconst (pc' := 2) (n := 0) rfl rfl ?_
  refine jv_putI (pc' := 5) (c := 2) (k := 6) rfl rfl rfl rfl (fun _ _ _  => rfl) rfl rfl ?_
  refine jv_aload_n (pc' := 6) (k := 0) (x := 3) rfl rfl rfl rfl ?_
  refine jv_iconst (pc' := 7) (n := -1) rfl rfl ?_
  refine jv_putI (pc' := 10) (c := 2) (k := 7) rfl rfl rfl rfl (fun _ _ _  => rfl) rfl rfl ?_
  refine jv_aload_n (pc' := 11) (k := 0) (x := 3) rfl rfl rfl rfl ?_
  refine jv_getR (pc' := 14) (c := 2) (k := 4) (v := 8) rfl rfl rfl (fun _ _ => rfl) rfl rfl (jR_3_4 _) ?_
  refine jv_iconst (pc' := 15) (n := 0) rfl rfl ?_
  refine jv_call (pc' := 18) rfl (cl_fill_8 (I := jm_u (jm_u I 3 6 (iI 0)) 3 7 (iI (-1))) (x := 0)) (fun vq1 gq1 q1 => ?_)
  obtain ⟨Iq1, rfl, rfl, wq1, rq1⟩ := q1
  show jx L xs _ 33 18 _ [] _ _
  refine jv_retV rfl rfl ⟨_, _, rfl, ?_⟩
  refine ⟨_, rfl, rfl, LB_0 ((rq1 _ _ (by omega)).trans rfl) wq1 (fun k => (rq1 _ _ (by omega)).trans ((jm_u_n2 (by omega)).trans (jm_u_n2 (by omega)))), (rq1 _ _ (by omega)).trans rfl, (fr_t (fr_u (by simp [wC]) (fr_u (by simp [wC]) (fr_r _))) (fr_w rq1 (fun l k h => by simp only [wC]; omega))), (fr_t (fr_u (by omega) (fr_u (by omega) (fr_r _))) (fr_w rq1 (fun l k h => by omega)))⟩
theorem cl_readChooser_3 (hC : CT I 1 c n) (ha : I 11 1 = iI ((a : Nat) : Int)) (hp : p 19 = some 1) (han : a ≤ n) (hq : p 20 = some 3) (hY : LB I 3 Y m) (hN : NF Y F) (hF : F < 256) (hch : I 3 7 = iI (-1)) : jc L xs (d + 3) 39 [.ref 10] (jx_G j I M p) (fun v g1 => ∃ I', g1 = jx_G j I' M p ∧ fr (wC 3) I I' ∧ ((c a ≠ 62 ∧ v = some (.int (iI 1)) ∧ I' 11 1 = iI ((a : Nat) : Int) ∧ LB I' 3 Y m ∧ I' 3 7 = iI (-1)) ∨ (c a = 62 ∧ knw c F (a + 1) ∧ v = some (.int (iI 1)) ∧ I' 11 1 = iI ((a + 2 : Nat) : Int) ∧ LB I' 3 Y m ∧ I' 3 7 = iI (c (a + 1) - 97)) ∨ (c a = 62 ∧ ¬ knw c F (a + 1) ∧ v = some (.int (iI 0)) ∧ I' 11 1 = iI ((a + 1 : Nat) : Int)))) := by
  unfold jc
  have hn := hC.2.1
  refine jv_aload_n (pc' := 1) (k := 0) (x := 10) rfl rfl rfl rfl ?_
  refine jv_getR (pc' := 4) (c := 3) (k := 0) (v := 11) rfl rfl rfl (fun _ _ => rfl) rfl rfl (jR_10_0 _) ?_
  refine jv_bipush (pc' := 6) (n := 62) rfl rfl rfl ?_
  have hm1 := CT_c hC (a)
  have ho1 := CT_or hC (a)
  by_cases hk2 : c (a) = 62
  · skip
    refine jv_call (pc' := 9) rfl (cl_take_y_k (I := I) (a := a) hC ha hp (by omega) (x := 62) (by omega) hk2) (fun vq3 gq3 q3 => ?_)
    obtain ⟨rfl, rfl⟩ := q3
    show jx L xs _ 39 9 _ [.int (iI 1)] _ _
    refine jv_if_ne (t := 14) (pc' := 12) (a := 1) rfl rfl rfl (by omega) (fun h4 => ?_) (fun h4 => ?_)
    · skip
      refine jv_aload_n (pc' := 15) (k := 0) (x := 10) rfl rfl rfl rfl ?_
      refine jv_getR (pc' := 18) (c := 3) (k := 1) (v := 3) rfl rfl rfl (fun _ _ => rfl) rfl rfl hq ?_
      refine jv_aload_n (pc' := 19) (k := 0) (x := 10) rfl rfl rfl rfl ?_
      have hm5 := CT_c hC (a + 1)
      have ho5 := CT_or hC (a + 1)
      by_cases hk6 : knw c F (a + 1)
      · skip
        have hhk6 := hk6.1
        refine jv_call (pc' := 22) rfl (cl_takeKnownName_y_3 (I := jm_u I 11 1 (iI ((a + 1 : Nat) : Int))) (a := a + 1) (F := F) hC rfl hp  (by omega) hq hY hN hF hk6) (fun vq7 gq7 q7 => ?_)
        obtain ⟨rfl, rfl⟩ := q7
        show jx L xs _ 39 22 _ [.int (iI (c (a + 1) - 97)), .ref 3] _ _
        refine jv_putI (pc' := 25) (c := 2) (k := 7) rfl rfl rfl rfl (fun _ _ _  => rfl) rfl rfl ?_
        refine jv_aload_n (pc' := 26) (k := 0) (x := 10) rfl rfl rfl rfl ?_
        refine jv_getR (pc' := 29) (c := 3) (k := 1) (v := 3) rfl rfl rfl (fun _ _ => rfl) rfl rfl hq ?_
        refine jv_getI (pc' := 32) (c := 2) (k := 7) (v := (iI (c (a + 1) - 97))) rfl rfl rfl (fun _ _ => rfl) rfl rfl rfl ?_
        refine jv_iconst (pc' := 33) (n := -1) rfl rfl ?_
        refine jv_ic_eq (t := 40) (pc' := 36) (a := (c (a + 1) - 97)) (b := (-1)) rfl rfl rfl (by omega) (fun h8 => ?_) (fun h8 => ?_)
        · skip
          refine jv_iconst (pc' := 41) (n := 0) rfl rfl ?_
          refine jv_retZ rfl rfl (by first | exact Or.inl rfl | exact Or.inr rfl) ⟨_, _, rfl, ?_⟩
          first
          | (exfalso; omega)
          | exact ⟨_, rfl, (fr_u (by simp [wC]) (fr_u (by simp [wC]) (fr_u (by simp [wC]) (fr_r _)))), Or.inr (Or.inl ⟨by assumption, by assumption, rfl, rfl, LB_ch hY, rfl⟩)⟩
        · skip
          refine jv_iconst (pc' := 37) (n := 1) rfl rfl ?_
          refine jx_step (pc' := 41) rfl ?_
          refine jv_retZ rfl rfl (by first | exact Or.inl rfl | exact Or.inr rfl) ⟨_, _, rfl, ?_⟩
          first
          | (exfalso; omega)
          | exact ⟨_, rfl, (fr_u (by simp [wC]) (fr_u (by simp [wC]) (fr_u (by simp [wC]) (fr_r _)))), Or.inr (Or.inl ⟨by assumption, by assumption, rfl, rfl, LB_ch hY, rfl⟩)⟩
      · skip
        refine jv_call (pc' := 22) rfl (cl_takeKnownName_n_3 (I := jm_u I 11 1 (iI ((a + 1 : Nat) : Int))) (a := a + 1) (F := F) hC rfl hp  (by omega) hq hY hN hF hk6) (fun vq9 gq9 q9 => ?_)
        obtain ⟨rfl, rfl⟩ := q9
        show jx L xs _ 39 22 _ [.int (iI (-1)), .ref 3] _ _
        refine jv_putI (pc' := 25) (c := 2) (k := 7) rfl rfl rfl rfl (fun _ _ _  => rfl) rfl rfl ?_
        refine jv_aload_n (pc' := 26) (k := 0) (x := 10) rfl rfl rfl rfl ?_
        refine jv_getR (pc' := 29) (c := 3) (k := 1) (v := 3) rfl rfl rfl (fun _ _ => rfl) rfl rfl hq ?_
        refine jv_getI (pc' := 32) (c := 2) (k := 7) (v := (iI (-1))) rfl rfl rfl (fun _ _ => rfl) rfl rfl rfl ?_
        refine jv_iconst (pc' := 33) (n := -1) rfl rfl ?_
        refine jv_ic_eq (t := 40) (pc' := 36) (a := (-1)) (b := (-1)) rfl rfl rfl (by omega) (fun h10 => ?_) (fun h10 => ?_)
        · skip
          refine jv_iconst (pc' := 41) (n := 0) rfl rfl ?_
          refine jv_retZ rfl rfl (by first | exact Or.inl rfl | exact Or.inr rfl) ⟨_, _, rfl, ?_⟩
          first
          | (exfalso; omega)
          | exact ⟨_, rfl, (fr_u (by simp [wC]) (fr_u (by simp [wC]) (fr_r _))), Or.inr (Or.inr ⟨by assumption, by assumption, rfl, rfl⟩)⟩
        · skip
          exact absurd h10 (by decide)
    · skip
      exact absurd h4 (by decide)
  · skip
    refine jv_call (pc' := 9) rfl (cl_take_n_k (I := I) (a := a) hC ha hp (by omega) (x := 62) (by omega) hk2) (fun vq11 gq11 q11 => ?_)
    obtain ⟨rfl, rfl⟩ := q11
    show jx L xs _ 39 9 _ [.int (iI 0)] _ _
    refine jv_if_ne (t := 14) (pc' := 12) (a := 0) rfl rfl rfl (by omega) (fun h12 => ?_) (fun h12 => ?_)
    · skip
      exact absurd h12 (by decide)
    · skip
      refine jv_iconst (pc' := 13) (n := 1) rfl rfl ?_
      refine jv_retZ rfl rfl (by first | exact Or.inl rfl | exact Or.inr rfl) ⟨_, _, rfl, ?_⟩
      first
      | (exfalso; omega)
      | exact ⟨_, rfl, (fr_r _), Or.inl ⟨by assumption, rfl, ha, hY, hch⟩⟩
theorem cl_readLayer_3 (hC : CT I 1 c n) : jc L xs (d + 11) 38 [.ref 10, .ref 1, .ref 3] (jx_G j I M p) (fun v g1 => ∃ I', g1 = jx_G j I' M (fun q => if q = 20 then some 3 else if q = 19 then some 1 else p q) ∧ fr (wC 3) I I' ∧ ((v = some (.int (iI (-1))) ∧ LAY I' 3 c n ∧ ∃ k e, PE c n k 0 0 [false] true e) ∨ (∃ e k : Nat, v = some (.int (iI ((e : Nat) : Int))) ∧ PE c n k 0 0 [false] false e))) := by
  unfold jc
  have hn := hC.2.1
  refine jv_aload_n (pc' := 1) (k := 0) (x := 10) rfl rfl rfl rfl ?_
  refine jv_getR (pc' := 4) (c := 3) (k := 0) (v := 11) rfl rfl rfl (fun _ _ => rfl) rfl rfl (jR_10_0 _) ?_
  refine jv_aload_n (pc' := 5) (k := 1) (x := 1) rfl rfl rfl rfl ?_
  refine jv_call (pc' := 8) rfl (cl_start_11 (I := I) (t := 1)) (fun vq1 gq1 q1 => ?_)
  obtain ⟨rfl, rfl⟩ := q1
  show jx L xs _ 38 8 _ [] _ _
  refine jv_aload_n (pc' := 9) (k := 0) (x := 10) rfl rfl rfl rfl ?_
  refine jv_aload_n (pc' := 10) (k := 2) (x := 3) rfl rfl rfl rfl ?_
  refine jv_putR (pc' := 13) (c := 3) (k := 1) (i := 20) rfl rfl rfl rfl (fun _ _ _ => rfl) rfl rfl rfl ?_
  refine jv_aload_n (pc' := 14) (k := 0) (x := 10) rfl rfl rfl rfl ?_
  refine jv_getR (pc' := 17) (c := 3) (k := 1) (v := 3) rfl rfl rfl (fun _ _ => rfl) rfl rfl rfl ?_
  refine jv_call (pc' := 20) rfl (cl_clear_3 (I := jm_u I 11 1 (iI 0))) (fun vq2 gq2 q2 => ?_)
  obtain ⟨Iq2, rfl, rfl, Yq2, cq2, rq2, sq2⟩ := q2
  have Dq2 : fr (wC 3) I Iq2 := (fr_t (fr_u (by simp [wC]) (fr_r _)) rq2)
  have Cq2 : CT Iq2 1 c n := CT_fr (I := I) (t := 1) (c := c) (n := n) hC Dq2 (by simp [wC]) (fun k => by simp [wC])
  have aq2 : Iq2 11 1 = iI ((0 : Nat) : Int) := (sq2 11 1 (by simp)).trans rfl
  show jx L xs _ 38 20 _ [] _ _
  refine jv_aload_n (pc' := 21) (k := 0) (x := 10) rfl rfl rfl rfl ?_
  refine jv_iconst (pc' := 22) (n := 0) rfl rfl ?_
  refine jv_call (pc' := 25) rfl (cl_RI0_3 L xs d j (Iq2) M _ c n 0 0 0 (Y0 (jm_u I 11 1 (iI 0)) 3) [] Cq2 aq2 rfl (by omega) rfl Yq2 (NF_0 _ _) (by omega) (by omega) rfl) (fun vq3 gq3 q3 => ?_)
  obtain ⟨Iq3, rfl, rq3, a2, aq3, q3⟩ := q3
  have chq3 : Iq3 3 7 = iI (-1) := (rq3 3 7 (by simp [wL])).trans cq2
  have Cq3 : CT Iq3 1 c n := CT_fr (I := Iq2) (t := 1) (c := c) (n := n) Cq2 (fr_w rq3 (wL_C 3)) (by simp [wC]) (fun k => by simp [wC])
  rcases q3 with ⟨rfl, k2, F2, Y2, m2, pq3, Yq3, nq3, fq3, ⟨xq3, uq3⟩, h1q3, h2q3, h3q3, iq3, tq3⟩ | ⟨rfl, k2, pq3⟩
  · skip
    have zq3 := iq3 rfl
    show jx L xs _ 38 25 _ [.int (iI 1)] _ _
    refine jv_if_eq (t := 49) (pc' := 28) (a := 1) rfl rfl rfl (by omega) (fun h4 => ?_) (fun h4 => ?_)
    · skip
      exact absurd h4 (by decide)
    · skip
      refine jv_aload_n (pc' := 29) (k := 0) (x := 10) rfl rfl rfl rfl ?_
      refine jv_call (pc' := 32) rfl (cl_readChooser_3 (d := d + 7) (I := Iq3) (a := a2) (n := n) (m := m2) (Y := Y2) (F := F2) Cq3 aq3 rfl (by omega) rfl Yq3 nq3 fq3 chq3) (fun vq5 gq5 q5 => ?_)
      obtain ⟨Iq5, rfl, rq5, q5⟩ := q5
      have Cq5 : CT Iq5 1 c n := CT_fr (I := Iq3) (t := 1) (c := c) (n := n) Cq3 rq5 (by simp [wC]) (fun k => by simp [wC])
      rcases q5 with ⟨oq5, rfl, aq5, Yq5, cq5⟩ | ⟨oq5, kq5, rfl, aq5, Yq5, cq5⟩ | ⟨oq5, kq5, rfl, aq5⟩
      · skip
        have o1q5 := CT_or Cq5 a2
        show jx L xs _ 38 32 _ [.int (iI 1)] _ _
        refine jv_if_eq (t := 49) (pc' := 35) (a := 1) rfl rfl rfl (by omega) (fun h6 => ?_) (fun h6 => ?_)
        · skip
          exact absurd h6 (by decide)
        · skip
          refine jv_aload_n (pc' := 36) (k := 0) (x := 10) rfl rfl rfl rfl ?_
          refine jv_getR (pc' := 39) (c := 3) (k := 0) (v := 11) rfl rfl rfl (fun _ _ => rfl) rfl rfl (jR_10_0 _) ?_
          refine jv_call (pc' := 42) rfl (cl_isAtEnd_k (I := Iq5) (a := a2) (n := n) Cq5 aq5 rfl (by omega)) (fun vq7 gq7 q7 => ?_)
          obtain ⟨rfl, rfl⟩ := q7
          show jx L xs _ 38 42 _ [.int (jb (n ≤ a2))] _ _
          refine jv_jb_eq (t := 49) (pc' := 45) (P := n ≤ a2) rfl rfl rfl (fun h8 => ?_) (fun h8 => ?_)
          · skip
            refine jv_iconst (pc' := 50) (n := 0) rfl rfl ?_
            refine jv_istore_n (pc' := 51) (k := 3) (x := (iI 0)) rfl rfl rfl rfl (Or.inr rfl) ?_
            refine jv_iload_n (pc' := 52) (k := 3) (x := (iI 0)) rfl rfl rfl rfl ?_
            refine jv_if_eq (t := 59) (pc' := 55) (a := 0) rfl rfl rfl (by omega) (fun h9 => ?_) (fun h9 => ?_)
            · skip
              refine jv_aload_n (pc' := 60) (k := 0) (x := 10) rfl rfl rfl rfl ?_
              refine jv_getR (pc' := 63) (c := 3) (k := 0) (v := 11) rfl rfl rfl (fun _ _ => rfl) rfl rfl (jR_10_0 _) ?_
              refine jv_getI (pc' := 66) (c := 4) (k := 1) (v := (iI ((a2 : Nat) : Int))) rfl rfl rfl (fun _ _ => rfl) rfl rfl aq5 ?_
              refine jv_retI rfl rfl ⟨_, _, rfl, ?_⟩
              first
              | (exfalso; omega)
              | (have e1 := Cq5.2.2.2.1 a2 (by omega)
                 exact ⟨_, rfl, (fr_t (fr_t (fr_t (fr_r _) Dq2) (fr_w rq3 (wL_C 3))) rq5), Or.inr ⟨a2, _, rfl, PR_PE pq3 (PE_0 ⟨by omega, fq3, by simp⟩ (PF_top zq3 (by omega) oq5))⟩⟩)
            · skip
              exact absurd h9 (by decide)
          · skip
            refine jv_iconst (pc' := 46) (n := 1) rfl rfl ?_
            refine jx_step (pc' := 50) rfl ?_
            refine jv_istore_n (pc' := 51) (k := 3) (x := (iI 1)) rfl rfl rfl rfl (Or.inr rfl) ?_
            refine jv_iload_n (pc' := 52) (k := 3) (x := (iI 1)) rfl rfl rfl rfl ?_
            refine jv_if_eq (t := 59) (pc' := 55) (a := 1) rfl rfl rfl (by omega) (fun h10 => ?_) (fun h10 => ?_)
            · skip
              exact absurd h10 (by decide)
            · skip
              refine jv_iconst (pc' := 56) (n := -1) rfl rfl ?_
              refine jx_step (pc' := 66) rfl ?_
              refine jv_retI rfl rfl ⟨_, _, rfl, ?_⟩
              first
              | (exfalso; omega)
              | (have e1 : c a2 = -1 := by omega
                 obtain ⟨q1, t1⟩ := tq3 (Or.inr (by omega))
                 exact ⟨_, rfl, (fr_t (fr_t (fr_t (fr_r _) Dq2) (fr_w rq3 (wL_C 3))) rq5), Or.inl ⟨rfl, ⟨Y2, m2, q1, a2, _, Yq5, by omega, t1, uq3 UQ_0, cq5, Or.inl ⟨rfl, by omega⟩⟩, _, a2, PR_PE pq3 (PE_0 ⟨by omega, fq3, by simp⟩ ⟨true, [], rfl, Or.inl ⟨e1, rfl, rfl, rfl⟩⟩)⟩⟩)
      · skip
        have o1q5 := CT_or Cq5 a2
        have o2q5 := CT_or Cq5 (a2 + 1)
        have o3q5 := kq5.1
        show jx L xs _ 38 32 _ [.int (iI 1)] _ _
        refine jv_if_eq (t := 49) (pc' := 35) (a := 1) rfl rfl rfl (by omega) (fun h11 => ?_) (fun h11 => ?_)
        · skip
          exact absurd h11 (by decide)
        · skip
          refine jv_aload_n (pc' := 36) (k := 0) (x := 10) rfl rfl rfl rfl ?_
          refine jv_getR (pc' := 39) (c := 3) (k := 0) (v := 11) rfl rfl rfl (fun _ _ => rfl) rfl rfl (jR_10_0 _) ?_
          refine jv_call (pc' := 42) rfl (cl_isAtEnd_k (I := Iq5) (a := a2 + 2) (n := n) Cq5 aq5 rfl (by omega)) (fun vq12 gq12 q12 => ?_)
          obtain ⟨rfl, rfl⟩ := q12
          show jx L xs _ 38 42 _ [.int (jb (n ≤ a2 + 2))] _ _
          refine jv_jb_eq (t := 49) (pc' := 45) (P := n ≤ a2 + 2) rfl rfl rfl (fun h13 => ?_) (fun h13 => ?_)
          · skip
            refine jv_iconst (pc' := 50) (n := 0) rfl rfl ?_
            refine jv_istore_n (pc' := 51) (k := 3) (x := (iI 0)) rfl rfl rfl rfl (Or.inr rfl) ?_
            refine jv_iload_n (pc' := 52) (k := 3) (x := (iI 0)) rfl rfl rfl rfl ?_
            refine jv_if_eq (t := 59) (pc' := 55) (a := 0) rfl rfl rfl (by omega) (fun h14 => ?_) (fun h14 => ?_)
            · skip
              refine jv_aload_n (pc' := 60) (k := 0) (x := 10) rfl rfl rfl rfl ?_
              refine jv_getR (pc' := 63) (c := 3) (k := 0) (v := 11) rfl rfl rfl (fun _ _ => rfl) rfl rfl (jR_10_0 _) ?_
              refine jv_getI (pc' := 66) (c := 4) (k := 1) (v := (iI ((a2 + 2 : Nat) : Int))) rfl rfl rfl (fun _ _ => rfl) rfl rfl aq5 ?_
              refine jv_retI rfl rfl ⟨_, _, rfl, ?_⟩
              first
              | (exfalso; omega)
              | exact ⟨_, rfl, (fr_t (fr_t (fr_t (fr_r _) Dq2) (fr_w rq3 (wL_C 3))) rq5), Or.inr ⟨a2 + 2, _, rfl, PR_PE pq3 (PE_0 ⟨by omega, fq3, by simp⟩ ⟨true, [], rfl, Or.inr (Or.inr (Or.inr (Or.inr (Or.inr (Or.inl ⟨oq5, rfl, rfl, kq5, (decide_eq_false (by omega)).symm, rfl⟩)))))⟩)⟩⟩
            · skip
              exact absurd h14 (by decide)
          · skip
            refine jv_iconst (pc' := 46) (n := 1) rfl rfl ?_
            refine jx_step (pc' := 50) rfl ?_
            refine jv_istore_n (pc' := 51) (k := 3) (x := (iI 1)) rfl rfl rfl rfl (Or.inr rfl) ?_
            refine jv_iload_n (pc' := 52) (k := 3) (x := (iI 1)) rfl rfl rfl rfl ?_
            refine jv_if_eq (t := 59) (pc' := 55) (a := 1) rfl rfl rfl (by omega) (fun h15 => ?_) (fun h15 => ?_)
            · skip
              exact absurd h15 (by decide)
            · skip
              refine jv_iconst (pc' := 56) (n := -1) rfl rfl ?_
              refine jx_step (pc' := 66) rfl ?_
              refine jv_retI rfl rfl ⟨_, _, rfl, ?_⟩
              first
              | (exfalso; omega)
              | (obtain ⟨q1, t1⟩ := tq3 (Or.inr (by omega))
                 exact ⟨_, rfl, (fr_t (fr_t (fr_t (fr_r _) Dq2) (fr_w rq3 (wL_C 3))) rq5), Or.inl ⟨rfl, ⟨Y2, m2, q1, a2, _, Yq5, by omega, t1, uq3 UQ_0, cq5, Or.inr ⟨oq5, by omega, kq5.1, rfl⟩⟩, _, a2 + 2, PR_PE pq3 (PE_0 ⟨by omega, fq3, by simp⟩ ⟨true, [], rfl, Or.inr (Or.inr (Or.inr (Or.inr (Or.inr (Or.inl ⟨oq5, rfl, rfl, kq5, (decide_eq_true (by omega)).symm, rfl⟩)))))⟩)⟩⟩)
      · skip
        have o1q5 := CT_or Cq5 a2
        show jx L xs _ 38 32 _ [.int (iI 0)] _ _
        refine jv_if_eq (t := 49) (pc' := 35) (a := 0) rfl rfl rfl (by omega) (fun h16 => ?_) (fun h16 => ?_)
        · skip
          refine jv_iconst (pc' := 50) (n := 0) rfl rfl ?_
          refine jv_istore_n (pc' := 51) (k := 3) (x := (iI 0)) rfl rfl rfl rfl (Or.inr rfl) ?_
          refine jv_iload_n (pc' := 52) (k := 3) (x := (iI 0)) rfl rfl rfl rfl ?_
          refine jv_if_eq (t := 59) (pc' := 55) (a := 0) rfl rfl rfl (by omega) (fun h17 => ?_) (fun h17 => ?_)
          · skip
            refine jv_aload_n (pc' := 60) (k := 0) (x := 10) rfl rfl rfl rfl ?_
            refine jv_getR (pc' := 63) (c := 3) (k := 0) (v := 11) rfl rfl rfl (fun _ _ => rfl) rfl rfl (jR_10_0 _) ?_
            refine jv_getI (pc' := 66) (c := 4) (k := 1) (v := (iI ((a2 + 1 : Nat) : Int))) rfl rfl rfl (fun _ _ => rfl) rfl rfl aq5 ?_
            refine jv_retI rfl rfl ⟨_, _, rfl, ?_⟩
            first
            | (exfalso; omega)
            | exact ⟨_, rfl, (fr_t (fr_t (fr_t (fr_r _) Dq2) (fr_w rq3 (wL_C 3))) rq5), Or.inr ⟨a2 + 1, _, rfl, PR_PE pq3 (PE_0 ⟨by omega, fq3, by simp⟩ ⟨true, [], rfl, Or.inr (Or.inr (Or.inr (Or.inr (Or.inl ⟨oq5, rfl, rfl, kq5, rfl, rfl⟩))))⟩)⟩⟩
          · skip
            exact absurd h17 (by decide)
        · skip
          exact absurd h16 (by decide)
  · skip
    show jx L xs _ 38 25 _ [.int (iI 0)] _ _
    refine jv_if_eq (t := 49) (pc' := 28) (a := 0) rfl rfl rfl (by omega) (fun h18 => ?_) (fun h18 => ?_)
    · skip
      refine jv_iconst (pc' := 50) (n := 0) rfl rfl ?_
      refine jv_istore_n (pc' := 51) (k := 3) (x := (iI 0)) rfl rfl rfl rfl (Or.inr rfl) ?_
      refine jv_iload_n (pc' := 52) (k := 3) (x := (iI 0)) rfl rfl rfl rfl ?_
      refine jv_if_eq (t := 59) (pc' := 55) (a := 0) rfl rfl rfl (by omega) (fun h19 => ?_) (fun h19 => ?_)
      · skip
        refine jv_aload_n (pc' := 60) (k := 0) (x := 10) rfl rfl rfl rfl ?_
        refine jv_getR (pc' := 63) (c := 3) (k := 0) (v := 11) rfl rfl rfl (fun _ _ => rfl) rfl rfl (jR_10_0 _) ?_
        refine jv_getI (pc' := 66) (c := 4) (k := 1) (v := (iI ((a2 : Nat) : Int))) rfl rfl rfl (fun _ _ => rfl) rfl rfl aq3 ?_
        refine jv_retI rfl rfl ⟨_, _, rfl, ?_⟩
        first
        | (exfalso; omega)
        | exact ⟨_, rfl, (fr_t (fr_t (fr_r _) Dq2) (fr_w rq3 (wL_C 3))), Or.inr ⟨a2, k2, rfl, pq3⟩⟩
      · skip
        exact absurd h19 (by decide)
    · skip
      exact absurd h18 (by decide)
end C3_3
