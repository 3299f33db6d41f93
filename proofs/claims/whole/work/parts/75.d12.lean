/-! printed by wip/whole/gen/d12.py: the reference runs a layer, and the layers of a frame -/
def MD (I : Nat → Nat → Int32) (fi : Nat) (B : Nat → Nat) (sz lim : Nat) (cL : Nat → Nat → Int) (nL fc : Nat → Nat) (fva fnx : Nat → Nat → Int) : Prop := FM I fi B sz ∧ I 103 11 = iI (lim : Int) ∧ (1 ≤ lim ∧ lim ≤ 64) ∧ MLY I cL nL ∧ MFW I fc fva fnx ∧ TXS cL nL
theorem MD_fr {I I' : Nat → Nat → Int32} {fi : Nat} {B : Nat → Nat} {sz lim : Nat} {cL : Nat → Nat → Int} {nL fc : Nat → Nat} {fva fnx : Nat → Nat → Int} (h : MD I fi B sz lim cL nL fc fva fnx) (f : fr wA I I') : MD I' fi B sz lim cL nL fc fva fnx :=
  ⟨FM_fr h.1 f (by simp [wA]) (by intro k; simp [wA]), (f _ _ (by simp [wA])).trans h.2.1, h.2.2.1, MLY_fr h.2.2.2.1 f (by intro k; simp [wA]), MFW_fr h.2.2.2.2.1 f (by intro k; simp [wA]), h.2.2.2.2.2⟩
section D12
variable {L : Nat} {xs : Nat → Int32} {d j : Nat} {I : Nat → Nat → Int32} {M : Nat → Nat → Int64} {p : Nat → Option Nat}
variable {cL : Nat → Nat → Int} {nL fc : Nat → Nat} {fva fnx : Nat → Nat → Int} {B : Nat → Nat} {ln fi sz lim : Nat} {s s' s2 : DSt}
set_option maxHeartbeats 4000000 in
theorem ml_runLayer_t (hD : MD I fi B sz lim cL nL fc fva fnx) (hin : I 103 29 = iI (fi : Int)) (hln : ln < 4) (h34 : I 103 34 = iI ((ln : Nat) : Int)) (hov : I 103 33 = iI 0) (hM : DMe I M s) (hV : DVb lim sz s) (hst : s 0 1 < lim) {k e : Nat} (hP : DR (cL ln) B lim sz (s 0 0).toNat (ln : Int) k 0 0 [] (dZ (dS s)) 0 e [] s') (he80 : e ≤ 80) (hce : cL ln e = -1 ∨ cL ln e = 62) : jc L xs (d + 5) 150 [.ref 103] (jx_G j I M p) (fun v g1 => ∃ I' M', g1 = jx_G j I' M' p ∧ v = none ∧ fr wA I I' ∧ fr wN M M' ∧ MS I' M' e [] s' ∧ MT I' (cL ln) (nL ln) ∧ I' 103 34 = iI ((ln : Nat) : Int) ∧ I' 103 29 = iI (fi : Int)) := by
  unfold jc
  have hLl := hD.2.2.2.1 ln hln
  have hlim := hD.2.2.1.2
  have hlim1 := hD.2.2.1.1
  have hs40 := hD.1.2.2.1
  have hl80 := hLl.2.1
  obtain ⟨hv0, hv1, hv2⟩ := hV
  obtain ⟨pl, hpl⟩ : ∃ pl : Nat, s 0 0 = ((pl : Nat) : Int) := ⟨(s 0 0).toNat, by omega⟩
  have hpl2 : (s 0 0).toNat = pl := by omega
  refine jv_aload_n (pc' := 1) (k := 0) (x := 103) rfl rfl rfl rfl ?_
  refine jv_aload_n (pc' := 2) (k := 0) (x := 103) rfl rfl rfl rfl ?_
  refine jv_getR (pc' := 5) (c := 12) (k := 4) (v := 106) rfl rfl rfl (fun _ _ => rfl) rfl rfl (jR_103_4 _) ?_
  refine jv_aload_n (pc' := 6) (k := 0) (x := 103) rfl rfl rfl rfl ?_
  refine jv_getI (pc' := 9) (c := 12) (k := 34) (v := (iI ((ln : Nat) : Int))) rfl rfl rfl (fun _ _ => rfl) rfl rfl h34 ?_
  refine jv_iaload (pc' := 10) (n := 4) (e := ((ln : Nat) : Int)) (v := (iI ((nL ln : Nat) : Int))) rfl rfl (by decide) rfl rfl rfl (by omega) hLl.1 ?_
  refine jv_putI (pc' := 13) (c := 12) (k := 18) rfl rfl rfl rfl (fun _ _ _  => rfl) rfl rfl ?_
  refine jv_iconst (pc' := 14) (n := 0) rfl rfl ?_
  refine jv_istore_n (pc' := 15) (k := 1) (x := (iI 0)) rfl rfl rfl rfl (Or.inr rfl) ?_
  have H1 : ∀ (N : Nat) (i : Nat) (I1 : Nat → Nat → Int32), nL ln - i < N → (i ≤ nL ln) → (fr (fun l _ => l = 117) (jm_u I 103 18 (iI ((nL ln : Nat) : Int))) I1) → (∀ k, k < i → I1 117 k = iI (cL ln k)) → ∀ f : jm_F, f 0 = some (.ref 103) → f 1 = some (.int (iI ((i : Nat) : Int))) → jx L xs ((d + 5)) 150 15 f [] (jx_G j I1 M p) (fun z => ∃ v g1, z = (.inl v, g1) ∧ (fun v g1 => ∃ I' M', g1 = jx_G j I' M' p ∧ v = none ∧ fr wA I I' ∧ fr wN M M' ∧ MS I' M' e [] s' ∧ MT I' (cL ln) (nL ln) ∧ I' 103 34 = iI ((ln : Nat) : Int) ∧ I' 103 29 = iI (fi : Int)) v g1) := by
    intro N
    induction N with
    | zero => intro i I1 hN; exact absurd hN (Nat.not_lt_zero _)
    | succ N ih =>
      intro i I1 hN hi f117 hc f hf0 hf1 
      refine jv_iload_n (pc' := 16) (k := 1) (x := (iI ((i : Nat) : Int))) rfl rfl rfl hf1 ?_
      refine jv_aload_n (pc' := 17) (k := 0) (x := 103) rfl rfl rfl hf0 ?_
      refine jv_getI (pc' := 20) (c := 12) (k := 18) (v := (iI ((nL ln : Nat) : Int))) rfl rfl rfl (fun _ _ => rfl) rfl rfl ((f117 103 18 (by omega)).trans rfl) ?_
      refine jv_ic_ge (t := 49) (pc' := 23) (a := ((i : Nat) : Int)) (b := ((nL ln : Nat) : Int)) rfl rfl rfl (by omega) (fun hz_2 => ?_) (fun hz_2 => ?_)
      · skip
        refine jv_aload_n (pc' := 50) (k := 0) (x := 103) rfl rfl rfl hf0 ?_
        refine jv_sipush (pc' := 53) (n := 255) rfl rfl rfl ?_
        refine jv_putI (pc' := 56) (c := 12) (k := 20) rfl rfl rfl rfl (fun _ _ _  => rfl) rfl rfl ?_
        refine jv_aload_n (pc' := 57) (k := 0) (x := 103) rfl rfl rfl hf0 ?_
        refine jv_iconst (pc' := 58) (n := 0) rfl rfl ?_
        refine jv_putI (pc' := 61) (c := 12) (k := 19) rfl rfl rfl rfl (fun _ _ _  => rfl) rfl rfl ?_
        refine jv_aload_n (pc' := 62) (k := 0) (x := 103) rfl rfl rfl hf0 ?_
        refine jv_iconst (pc' := 63) (n := 0) rfl rfl ?_
        refine jv_putI (pc' := 66) (c := 12) (k := 37) rfl rfl rfl rfl (fun _ _ _  => rfl) rfl rfl ?_
        refine jv_aload_n (pc' := 67) (k := 0) (x := 103) rfl rfl rfl hf0 ?_
        refine jv_aload_n (pc' := 68) (k := 0) (x := 103) rfl rfl rfl hf0 ?_
        refine jv_getI (pc' := 71) (c := 12) (k := 30) (v := (iI ((pl : Nat) : Int))) rfl rfl rfl (fun _ _ => rfl) rfl rfl ((f117 103 30 (by omega)).trans (hM.1.trans (congrArg iI hpl))) ?_
        refine jv_putI (pc' := 74) (c := 12) (k := 31) rfl rfl rfl rfl (fun _ _ _  => rfl) rfl rfl ?_
        refine jv_iconst (pc' := 75) (n := 0) rfl rfl ?_
        refine jv_istore_n (pc' := 76) (k := 1) (x := (iI 0)) rfl rfl rfl rfl (Or.inr (congrArg jm_lng hf0)) ?_
        have ei : i = nL ln := by omega
        have H3 : ∀ (N : Nat) (i2 : Nat) (I2 : Nat → Nat → Int32) (M2 : Nat → Nat → Int64), 8 - i2 < N → (i2 ≤ 8) → (fr (fun l _ => l = 126) (jm_u (jm_u (jm_u (jm_u I1 103 20 (iI 255)) 103 19 (iI 0)) 103 37 (iI 0)) 103 31 (iI ((pl : Nat) : Int))) I2) → (fr (fun l _ => l = 125) M M2) → (∀ k, k < i2 → M2 125 k = lI 0 ∧ I2 126 k = iI 0) → ∀ f : jm_F, f 0 = some (.ref 103) → f 1 = some (.int (iI ((i2 : Nat) : Int))) → jx L xs ((d + 5)) 150 76 f [] (jx_G j I2 M2 p) (fun z => ∃ v g1, z = (.inl v, g1) ∧ (fun v g1 => ∃ I' M', g1 = jx_G j I' M' p ∧ v = none ∧ fr wA I I' ∧ fr wN M M' ∧ MS I' M' e [] s' ∧ MT I' (cL ln) (nL ln) ∧ I' 103 34 = iI ((ln : Nat) : Int) ∧ I' 103 29 = iI (fi : Int)) v g1) := by
          intro N
          induction N with
          | zero => intro i2 I2 M2 hN; exact absurd hN (Nat.not_lt_zero _)
          | succ N ih =>
            intro i2 I2 M2 hN hi2 f126 f125 h8 f hf0 hf1 
            refine jv_iload_n (pc' := 77) (k := 1) (x := (iI ((i2 : Nat) : Int))) rfl rfl rfl hf1 ?_
            refine jv_bipush (pc' := 79) (n := 8) rfl rfl rfl ?_
            refine jv_ic_ge (t := 102) (pc' := 82) (a := ((i2 : Nat) : Int)) (b := 8) rfl rfl rfl (by omega) (fun hz_4 => ?_) (fun hz_4 => ?_)
            · skip
              have R2 : fr wA I I2 := (fr_t (fr_u (by simp [wA]) (fr_u (by simp [wA]) (fr_u (by simp [wA]) (fr_u (by simp [wA]) (fr_t (fr_u (by simp [wA]) (fr_r _)) (fr_w f117 (fun l k h => by unfold wA; omega))))))) (fr_w f126 (fun l k h => by unfold wA; omega)))
              have c7 : ∀ k, k ≠ 18 → k ≠ 19 → k ≠ 20 → k ≠ 31 → k ≠ 37 → I2 103 k = I 103 k := fun k h1 h2 h3 h4 h5 => (f126 103 k (by omega)).trans ((jm_u_n2 (by omega)).trans ((jm_u_n2 (by omega)).trans ((jm_u_n2 (by omega)).trans ((jm_u_n2 (by omega)).trans ((f117 103 k (by omega)).trans (jm_u_n2 (by omega)))))))
              have T2 : MT I2 (cL ln) (nL ln) := ⟨(f126 103 18 (by omega)).trans ((f117 103 18 (by omega)).trans rfl), hLl.2.1, fun k hk => (f126 117 k (by omega)).trans (hc k (by omega)), (hD.2.2.2.2.2 ln hln).1, (hD.2.2.2.2.2 ln hln).2⟩
              have X2 : MX I2 fi B sz ((ln : Nat) : Int) pl lim (cL ln) (nL ln) := ⟨T2, FM_fr hD.1 R2 (by simp [wA]) (by intro k; simp [wA]), (c7 29 (by omega) (by omega) (by omega) (by omega) (by omega)).trans hin, (c7 34 (by omega) (by omega) (by omega) (by omega) (by omega)).trans h34, (f126 103 31 (by omega)).trans rfl, (c7 11 (by omega) (by omega) (by omega) (by omega) (by omega)).trans hD.2.1, (f126 103 20 (by omega)).trans rfl, hD.2.2.1.2, by omega, by omega⟩
              have E1 : DMe I1 M s := DMe_fr (W := fun l _ => l = 117) (V := fun _ _ => False) (I := jm_u I 103 18 (iI ((nL ln : Nat) : Int))) (M := M) hM f117 (fr_r _) ⟨by omega, by omega, by omega, fun l k h1 h2 => by omega⟩ (fun k h => h)
              have E2 : DMe I2 M2 s := DMe_fr (W := fun l _ => l = 126) (V := fun l _ => l = 125) (I := jm_u (jm_u (jm_u (jm_u I1 103 20 (iI 255)) 103 19 (iI 0)) 103 37 (iI 0)) 103 31 (iI ((pl : Nat) : Int))) (M := M) E1 f126 f125 ⟨by omega, by omega, by omega, fun l k h1 h2 => by omega⟩ (fun k => by omega)
              have D2 : DM I2 M2 (dZ s) := DM_Z E2 (fun k hk => h8 k (by omega))
              have z0 : dZ s 0 1 = s 0 1 := rfl
              have z1 : dZ s 0 2 = s 0 2 := rfl
              refine jv_aload_n (pc' := 103) (k := 0) (x := 103) rfl rfl rfl hf0 ?_
              refine jv_bipush (pc' := 105) (n := 10) rfl rfl rfl ?_
              refine jv_call (pc' := 108) rfl (ml_st_y (I := I2) (M := M2) (s := dZ s) (nm := 10) X2.2.2.2.1 X2.2.2.2.2.2.1 hlim D2 (by omega)) (fun vq5 gq5 q5 => ?_)
              obtain ⟨I3, rfl, rfl, D3, u3⟩ := q5
              have r3 : fr wM I2 I3 := fr_w u3 (fun l k h => by unfold wM; omega)
              have X3 := MX_fr X2 r3
              have S3 : MS I3 M2 0 [] (dZ (dS s)) := ⟨(u3 103 19 (by omega)).trans ((f126 103 19 (by omega)).trans rfl), (u3 103 33 (by omega)).trans ((c7 33 (by omega) (by omega) (by omega) (by omega) (by omega)).trans hov), (u3 103 37 (by omega)).trans ((f126 103 37 (by omega)).trans rfl), trivial, dSZ s ▸ D3⟩
              show jx L xs _ 150 108 _ [.int (iI 1)] _ _
              refine jv_if_eq (t := 115) (pc' := 111) (a := 1) rfl rfl rfl (by omega) (fun hz_6 => ?_) (fun hz_6 => ?_)
              · skip
                exact absurd hz_6 (by decide)
              · skip
                refine jv_aload_n (pc' := 112) (k := 0) (x := 103) rfl rfl rfl hf0 ?_
                refine jv_call (pc' := 115) rfl (ml_runItems_t X3 S3 (hpl2 ▸ hP) he80 hce) (fun vq7 gq7 q7 => ?_)
                obtain ⟨I4, M4, rfl, rfl, r4, t4, S4⟩ := q7
                show jx L xs _ 150 115 _ [] _ _
                refine jv_retV rfl rfl ⟨_, _, rfl, ?_⟩
                exact ⟨_, _, rfl, rfl, fr_t R2 (fr_t (fr_w r3 wA_M) (fr_w r4 wA_M)), fr_t (fr_w f125 (fun l k h => Or.inr (Or.inl h))) t4, S4, (MX_fr X3 r4).1, (MX_fr X3 r4).2.2.2.1, (MX_fr X3 r4).2.2.1⟩
            · skip
              refine jv_aload_n (pc' := 83) (k := 0) (x := 103) rfl rfl rfl hf0 ?_
              refine jv_getR (pc' := 86) (c := 12) (k := 35) (v := 125) rfl rfl rfl (fun _ _ => rfl) rfl rfl (jR_103_35 _) ?_
              refine jv_iload_n (pc' := 87) (k := 1) (x := (iI ((i2 : Nat) : Int))) rfl rfl rfl hf1 ?_
              refine jv_long (pc' := 88) (y := lI 0) rfl (by decide) ?_
              refine jv_lastore (pc' := 89) (n := 8) (e := ((i2 : Nat) : Int)) (v := (lI 0)) rfl rfl rfl rfl rfl (by omega) ?_
              refine jv_aload_n (pc' := 90) (k := 0) (x := 103) rfl rfl rfl hf0 ?_
              refine jv_getR (pc' := 93) (c := 12) (k := 36) (v := 126) rfl rfl rfl (fun _ _ => rfl) rfl rfl (jR_103_36 _) ?_
              refine jv_iload_n (pc' := 94) (k := 1) (x := (iI ((i2 : Nat) : Int))) rfl rfl rfl hf1 ?_
              refine jv_iconst (pc' := 95) (n := 0) rfl rfl ?_
              refine jv_bastore (pc' := 96) (n := 8) (e := ((i2 : Nat) : Int)) (v := (iI 0)) rfl rfl rfl rfl rfl (by omega) (by first | exact Or.inl rfl | exact Or.inr rfl) ?_
              refine jv_iinc (pc' := 99) (k := 1) (a := ((i2 : Nat) : Int)) rfl rfl hf1 rfl (Or.inr (congrArg jm_lng hf0)) ?_
              refine jx_step (pc' := 76) rfl ?_
              exact ih (i2 + 1) (jm_u I2 126 (((i2 : Nat) : Int) : Int).toNat (iI 0)) (jm_u M2 125 (((i2 : Nat) : Int) : Int).toNat (lI 0)) (by omega) (by omega) (fr_t f126 (fr_u rfl (fr_r _))) (fr_t f125 (fr_u rfl (fr_r _))) (fun k hk => by
                    by_cases ek : k = i2
                    · subst ek; exact ⟨jm_u_eq ⟨rfl, rfl⟩, jm_u_eq ⟨rfl, rfl⟩⟩
                    · exact ⟨(jm_u_n2 (by omega)).trans (h8 k (by omega)).1, (jm_u_n2 (by omega)).trans (h8 k (by omega)).2⟩) _ hf0 rfl 
        exact H3 _ 0 (jm_u (jm_u (jm_u (jm_u I1 103 20 (iI 255)) 103 19 (iI 0)) 103 37 (iI 0)) 103 31 (iI ((pl : Nat) : Int))) M (Nat.lt_succ_self _) (by omega) (fr_r _) (fr_r _) (fun k hk => absurd hk (by omega)) _ hf0 rfl 
      · skip
        refine jv_aload_n (pc' := 24) (k := 0) (x := 103) rfl rfl rfl hf0 ?_
        refine jv_getR (pc' := 27) (c := 12) (k := 17) (v := 117) rfl rfl rfl (fun _ _ => rfl) rfl rfl (jR_103_17 _) ?_
        refine jv_iload_n (pc' := 28) (k := 1) (x := (iI ((i : Nat) : Int))) rfl rfl rfl hf1 ?_
        refine jv_aload_n (pc' := 29) (k := 0) (x := 103) rfl rfl rfl hf0 ?_
        refine jv_getR (pc' := 32) (c := 12) (k := 3) (v := 105) rfl rfl rfl (fun _ _ => rfl) rfl rfl (jR_103_3 _) ?_
        refine jv_bipush (pc' := 34) (n := 80) rfl rfl rfl ?_
        refine jv_aload_n (pc' := 35) (k := 0) (x := 103) rfl rfl rfl hf0 ?_
        refine jv_getI (pc' := 38) (c := 12) (k := 34) (v := (iI ((ln : Nat) : Int))) rfl rfl rfl (fun _ _ => rfl) rfl rfl ((f117 103 34 (by omega)).trans h34) ?_
        refine jv_imul (pc' := 39) (a := 80) (b := ((ln : Nat) : Int)) rfl rfl ?_
        refine jv_iload_n (pc' := 40) (k := 1) (x := (iI ((i : Nat) : Int))) rfl rfl rfl hf1 ?_
        refine jv_iadd (pc' := 41) (a := (80 * ((ln : Nat) : Int))) (b := ((i : Nat) : Int)) rfl rfl ?_
        refine jv_iaload (pc' := 42) (n := 320) (e := ((80 * ((ln : Nat) : Int)) + ((i : Nat) : Int))) (v := (iI (cL ln i))) rfl rfl (by decide) rfl rfl rfl (by omega) ((f117 105 _ (by omega)).trans ((congrArg (I 105) (show ((80 * ((ln : Nat) : Int)) + ((i : Nat) : Int) : Int).toNat = 80 * ln + i by omega)).trans (hLl.2.2 i (by omega)))) ?_
        refine jv_iastore (pc' := 43) (n := 80) (e := ((i : Nat) : Int)) (v := (iI (cL ln i))) rfl rfl rfl rfl rfl (by omega) ?_
        refine jv_iinc (pc' := 46) (k := 1) (a := ((i : Nat) : Int)) rfl rfl hf1 rfl (Or.inr (congrArg jm_lng hf0)) ?_
        refine jx_step (pc' := 15) rfl ?_
        exact ih (i + 1) (jm_u I1 117 (((i : Nat) : Int) : Int).toNat (iI (cL ln i))) (by omega) (by omega) (fr_t f117 (fr_u rfl (fr_r _))) (fun k hk => by
              by_cases ek : k = i
              · subst ek; exact jm_u_eq ⟨rfl, rfl⟩
              · exact (jm_u_n2 (by omega)).trans (hc k (by omega))) _ hf0 rfl 
  exact H1 _ 0 (jm_u I 103 18 (iI ((nL ln : Nat) : Int))) (Nat.lt_succ_self _) (by omega) (fr_r _) (fun k hk => absurd hk (by omega)) _ rfl rfl 
set_option maxHeartbeats 4000000 in
theorem ml_runLayer_q (hD : MD I fi B sz lim cL nL fc fva fnx) (hin : I 103 29 = iI (fi : Int)) (hln : ln < 4) (h34 : I 103 34 = iI ((ln : Nat) : Int)) (hov : I 103 33 = iI 0) (hM : DMe I M s) (hV : DVb lim sz s) (hst : s 0 1 < lim) {k : Nat} (hP : DQ (cL ln) B lim sz (s 0 0).toNat (ln : Int) k 0 0 [] (dZ (dS s)) s') : jc L xs (d + 5) 150 [.ref 103] (jx_G j I M p) (fun v g1 => ∃ I' M', g1 = jx_G j I' M' p ∧ v = none ∧ fr wA I I' ∧ fr wN M M' ∧ DMe I' M' s' ∧ I' 103 33 = iI 1 ∧ I' 103 29 = iI (fi : Int)) := by
  unfold jc
  have hLl := hD.2.2.2.1 ln hln
  have hlim := hD.2.2.1.2
  have hlim1 := hD.2.2.1.1
  have hs40 := hD.1.2.2.1
  have hl80 := hLl.2.1
  obtain ⟨hv0, hv1, hv2⟩ := hV
  obtain ⟨pl, hpl⟩ : ∃ pl : Nat, s 0 0 = ((pl : Nat) : Int) := ⟨(s 0 0).toNat, by omega⟩
  have hpl2 : (s 0 0).toNat = pl := by omega
  refine jv_aload_n (pc' := 1) (k := 0) (x := 103) rfl rfl rfl rfl ?_
  refine jv_aload_n (pc' := 2) (k := 0) (x := 103) rfl rfl rfl rfl ?_
  refine jv_getR (pc' := 5) (c := 12) (k := 4) (v := 106) rfl rfl rfl (fun _ _ => rfl) rfl rfl (jR_103_4 _) ?_
  refine jv_aload_n (pc' := 6) (k := 0) (x := 103) rfl rfl rfl rfl ?_
  refine jv_getI (pc' := 9) (c := 12) (k := 34) (v := (iI ((ln : Nat) : Int))) rfl rfl rfl (fun _ _ => rfl) rfl rfl h34 ?_
  refine jv_iaload (pc' := 10) (n := 4) (e := ((ln : Nat) : Int)) (v := (iI ((nL ln : Nat) : Int))) rfl rfl (by decide) rfl rfl rfl (by omega) hLl.1 ?_
  refine jv_putI (pc' := 13) (c := 12) (k := 18) rfl rfl rfl rfl (fun _ _ _  => rfl) rfl rfl ?_
  refine jv_iconst (pc' := 14) (n := 0) rfl rfl ?_
  refine jv_istore_n (pc' := 15) (k := 1) (x := (iI 0)) rfl rfl rfl rfl (Or.inr rfl) ?_
  have H1 : ∀ (N : Nat) (i : Nat) (I1 : Nat → Nat → Int32), nL ln - i < N → (i ≤ nL ln) → (fr (fun l _ => l = 117) (jm_u I 103 18 (iI ((nL ln : Nat) : Int))) I1) → (∀ k, k < i → I1 117 k = iI (cL ln k)) → ∀ f : jm_F, f 0 = some (.ref 103) → f 1 = some (.int (iI ((i : Nat) : Int))) → jx L xs ((d + 5)) 150 15 f [] (jx_G j I1 M p) (fun z => ∃ v g1, z = (.inl v, g1) ∧ (fun v g1 => ∃ I' M', g1 = jx_G j I' M' p ∧ v = none ∧ fr wA I I' ∧ fr wN M M' ∧ DMe I' M' s' ∧ I' 103 33 = iI 1 ∧ I' 103 29 = iI (fi : Int)) v g1) := by
    intro N
    induction N with
    | zero => intro i I1 hN; exact absurd hN (Nat.not_lt_zero _)
    | succ N ih =>
      intro i I1 hN hi f117 hc f hf0 hf1 
      refine jv_iload_n (pc' := 16) (k := 1) (x := (iI ((i : Nat) : Int))) rfl rfl rfl hf1 ?_
      refine jv_aload_n (pc' := 17) (k := 0) (x := 103) rfl rfl rfl hf0 ?_
      refine jv_getI (pc' := 20) (c := 12) (k := 18) (v := (iI ((nL ln : Nat) : Int))) rfl rfl rfl (fun _ _ => rfl) rfl rfl ((f117 103 18 (by omega)).trans rfl) ?_
      refine jv_ic_ge (t := 49) (pc' := 23) (a := ((i : Nat) : Int)) (b := ((nL ln : Nat) : Int)) rfl rfl rfl (by omega) (fun hz_2 => ?_) (fun hz_2 => ?_)
      · skip
        refine jv_aload_n (pc' := 50) (k := 0) (x := 103) rfl rfl rfl hf0 ?_
        refine jv_sipush (pc' := 53) (n := 255) rfl rfl rfl ?_
        refine jv_putI (pc' := 56) (c := 12) (k := 20) rfl rfl rfl rfl (fun _ _ _  => rfl) rfl rfl ?_
        refine jv_aload_n (pc' := 57) (k := 0) (x := 103) rfl rfl rfl hf0 ?_
        refine jv_iconst (pc' := 58) (n := 0) rfl rfl ?_
        refine jv_putI (pc' := 61) (c := 12) (k := 19) rfl rfl rfl rfl (fun _ _ _  => rfl) rfl rfl ?_
        refine jv_aload_n (pc' := 62) (k := 0) (x := 103) rfl rfl rfl hf0 ?_
        refine jv_iconst (pc' := 63) (n := 0) rfl rfl ?_
        refine jv_putI (pc' := 66) (c := 12) (k := 37) rfl rfl rfl rfl (fun _ _ _  => rfl) rfl rfl ?_
        refine jv_aload_n (pc' := 67) (k := 0) (x := 103) rfl rfl rfl hf0 ?_
        refine jv_aload_n (pc' := 68) (k := 0) (x := 103) rfl rfl rfl hf0 ?_
        refine jv_getI (pc' := 71) (c := 12) (k := 30) (v := (iI ((pl : Nat) : Int))) rfl rfl rfl (fun _ _ => rfl) rfl rfl ((f117 103 30 (by omega)).trans (hM.1.trans (congrArg iI hpl))) ?_
        refine jv_putI (pc' := 74) (c := 12) (k := 31) rfl rfl rfl rfl (fun _ _ _  => rfl) rfl rfl ?_
        refine jv_iconst (pc' := 75) (n := 0) rfl rfl ?_
        refine jv_istore_n (pc' := 76) (k := 1) (x := (iI 0)) rfl rfl rfl rfl (Or.inr (congrArg jm_lng hf0)) ?_
        have ei : i = nL ln := by omega
        have H3 : ∀ (N : Nat) (i2 : Nat) (I2 : Nat → Nat → Int32) (M2 : Nat → Nat → Int64), 8 - i2 < N → (i2 ≤ 8) → (fr (fun l _ => l = 126) (jm_u (jm_u (jm_u (jm_u I1 103 20 (iI 255)) 103 19 (iI 0)) 103 37 (iI 0)) 103 31 (iI ((pl : Nat) : Int))) I2) → (fr (fun l _ => l = 125) M M2) → (∀ k, k < i2 → M2 125 k = lI 0 ∧ I2 126 k = iI 0) → ∀ f : jm_F, f 0 = some (.ref 103) → f 1 = some (.int (iI ((i2 : Nat) : Int))) → jx L xs ((d + 5)) 150 76 f [] (jx_G j I2 M2 p) (fun z => ∃ v g1, z = (.inl v, g1) ∧ (fun v g1 => ∃ I' M', g1 = jx_G j I' M' p ∧ v = none ∧ fr wA I I' ∧ fr wN M M' ∧ DMe I' M' s' ∧ I' 103 33 = iI 1 ∧ I' 103 29 = iI (fi : Int)) v g1) := by
          intro N
          induction N with
          | zero => intro i2 I2 M2 hN; exact absurd hN (Nat.not_lt_zero _)
          | succ N ih =>
            intro i2 I2 M2 hN hi2 f126 f125 h8 f hf0 hf1 
            refine jv_iload_n (pc' := 77) (k := 1) (x := (iI ((i2 : Nat) : Int))) rfl rfl rfl hf1 ?_
            refine jv_bipush (pc' := 79) (n := 8) rfl rfl rfl ?_
            refine jv_ic_ge (t := 102) (pc' := 82) (a := ((i2 : Nat) : Int)) (b := 8) rfl rfl rfl (by omega) (fun hz_4 => ?_) (fun hz_4 => ?_)
            · skip
              have R2 : fr wA I I2 := (fr_t (fr_u (by simp [wA]) (fr_u (by simp [wA]) (fr_u (by simp [wA]) (fr_u (by simp [wA]) (fr_t (fr_u (by simp [wA]) (fr_r _)) (fr_w f117 (fun l k h => by unfold wA; omega))))))) (fr_w f126 (fun l k h => by unfold wA; omega)))
              have c7 : ∀ k, k ≠ 18 → k ≠ 19 → k ≠ 20 → k ≠ 31 → k ≠ 37 → I2 103 k = I 103 k := fun k h1 h2 h3 h4 h5 => (f126 103 k (by omega)).trans ((jm_u_n2 (by omega)).trans ((jm_u_n2 (by omega)).trans ((jm_u_n2 (by omega)).trans ((jm_u_n2 (by omega)).trans ((f117 103 k (by omega)).trans (jm_u_n2 (by omega)))))))
              have T2 : MT I2 (cL ln) (nL ln) := ⟨(f126 103 18 (by omega)).trans ((f117 103 18 (by omega)).trans rfl), hLl.2.1, fun k hk => (f126 117 k (by omega)).trans (hc k (by omega)), (hD.2.2.2.2.2 ln hln).1, (hD.2.2.2.2.2 ln hln).2⟩
              have X2 : MX I2 fi B sz ((ln : Nat) : Int) pl lim (cL ln) (nL ln) := ⟨T2, FM_fr hD.1 R2 (by simp [wA]) (by intro k; simp [wA]), (c7 29 (by omega) (by omega) (by omega) (by omega) (by omega)).trans hin, (c7 34 (by omega) (by omega) (by omega) (by omega) (by omega)).trans h34, (f126 103 31 (by omega)).trans rfl, (c7 11 (by omega) (by omega) (by omega) (by omega) (by omega)).trans hD.2.1, (f126 103 20 (by omega)).trans rfl, hD.2.2.1.2, by omega, by omega⟩
              have E1 : DMe I1 M s := DMe_fr (W := fun l _ => l = 117) (V := fun _ _ => False) (I := jm_u I 103 18 (iI ((nL ln : Nat) : Int))) (M := M) hM f117 (fr_r _) ⟨by omega, by omega, by omega, fun l k h1 h2 => by omega⟩ (fun k h => h)
              have E2 : DMe I2 M2 s := DMe_fr (W := fun l _ => l = 126) (V := fun l _ => l = 125) (I := jm_u (jm_u (jm_u (jm_u I1 103 20 (iI 255)) 103 19 (iI 0)) 103 37 (iI 0)) 103 31 (iI ((pl : Nat) : Int))) (M := M) E1 f126 f125 ⟨by omega, by omega, by omega, fun l k h1 h2 => by omega⟩ (fun k => by omega)
              have D2 : DM I2 M2 (dZ s) := DM_Z E2 (fun k hk => h8 k (by omega))
              have z0 : dZ s 0 1 = s 0 1 := rfl
              have z1 : dZ s 0 2 = s 0 2 := rfl
              refine jv_aload_n (pc' := 103) (k := 0) (x := 103) rfl rfl rfl hf0 ?_
              refine jv_bipush (pc' := 105) (n := 10) rfl rfl rfl ?_
              refine jv_call (pc' := 108) rfl (ml_st_y (I := I2) (M := M2) (s := dZ s) (nm := 10) X2.2.2.2.1 X2.2.2.2.2.2.1 hlim D2 (by omega)) (fun vq5 gq5 q5 => ?_)
              obtain ⟨I3, rfl, rfl, D3, u3⟩ := q5
              have r3 : fr wM I2 I3 := fr_w u3 (fun l k h => by unfold wM; omega)
              have X3 := MX_fr X2 r3
              have S3 : MS I3 M2 0 [] (dZ (dS s)) := ⟨(u3 103 19 (by omega)).trans ((f126 103 19 (by omega)).trans rfl), (u3 103 33 (by omega)).trans ((c7 33 (by omega) (by omega) (by omega) (by omega) (by omega)).trans hov), (u3 103 37 (by omega)).trans ((f126 103 37 (by omega)).trans rfl), trivial, dSZ s ▸ D3⟩
              show jx L xs _ 150 108 _ [.int (iI 1)] _ _
              refine jv_if_eq (t := 115) (pc' := 111) (a := 1) rfl rfl rfl (by omega) (fun hz_6 => ?_) (fun hz_6 => ?_)
              · skip
                exact absurd hz_6 (by decide)
              · skip
                refine jv_aload_n (pc' := 112) (k := 0) (x := 103) rfl rfl rfl hf0 ?_
                refine jv_call (pc' := 115) rfl (ml_runItems_q X3 S3 (hpl2 ▸ hP)) (fun vq7 gq7 q7 => ?_)
                obtain ⟨I4, M4, rfl, rfl, r4, t4, D4, o4⟩ := q7
                show jx L xs _ 150 115 _ [] _ _
                refine jv_retV rfl rfl ⟨_, _, rfl, ?_⟩
                exact ⟨_, _, rfl, rfl, fr_t R2 (fr_t (fr_w r3 wA_M) (fr_w r4 wA_M)), fr_t (fr_w f125 (fun l k h => Or.inr (Or.inl h))) t4, DMe_dn D4 (fun _ _ _ _ => rfl), o4, (r4 103 29 (by simp [wM])).trans X3.2.2.1⟩
            · skip
              refine jv_aload_n (pc' := 83) (k := 0) (x := 103) rfl rfl rfl hf0 ?_
              refine jv_getR (pc' := 86) (c := 12) (k := 35) (v := 125) rfl rfl rfl (fun _ _ => rfl) rfl rfl (jR_103_35 _) ?_
              refine jv_iload_n (pc' := 87) (k := 1) (x := (iI ((i2 : Nat) : Int))) rfl rfl rfl hf1 ?_
              refine jv_long (pc' := 88) (y := lI 0) rfl (by decide) ?_
              refine jv_lastore (pc' := 89) (n := 8) (e := ((i2 : Nat) : Int)) (v := (lI 0)) rfl rfl rfl rfl rfl (by omega) ?_
              refine jv_aload_n (pc' := 90) (k := 0) (x := 103) rfl rfl rfl hf0 ?_
              refine jv_getR (pc' := 93) (c := 12) (k := 36) (v := 126) rfl rfl rfl (fun _ _ => rfl) rfl rfl (jR_103_36 _) ?_
              refine jv_iload_n (pc' := 94) (k := 1) (x := (iI ((i2 : Nat) : Int))) rfl rfl rfl hf1 ?_
              refine jv_iconst (pc' := 95) (n := 0) rfl rfl ?_
              refine jv_bastore (pc' := 96) (n := 8) (e := ((i2 : Nat) : Int)) (v := (iI 0)) rfl rfl rfl rfl rfl (by omega) (by first | exact Or.inl rfl | exact Or.inr rfl) ?_
              refine jv_iinc (pc' := 99) (k := 1) (a := ((i2 : Nat) : Int)) rfl rfl hf1 rfl (Or.inr (congrArg jm_lng hf0)) ?_
              refine jx_step (pc' := 76) rfl ?_
              exact ih (i2 + 1) (jm_u I2 126 (((i2 : Nat) : Int) : Int).toNat (iI 0)) (jm_u M2 125 (((i2 : Nat) : Int) : Int).toNat (lI 0)) (by omega) (by omega) (fr_t f126 (fr_u rfl (fr_r _))) (fr_t f125 (fr_u rfl (fr_r _))) (fun k hk => by
                    by_cases ek : k = i2
                    · subst ek; exact ⟨jm_u_eq ⟨rfl, rfl⟩, jm_u_eq ⟨rfl, rfl⟩⟩
                    · exact ⟨(jm_u_n2 (by omega)).trans (h8 k (by omega)).1, (jm_u_n2 (by omega)).trans (h8 k (by omega)).2⟩) _ hf0 rfl 
        exact H3 _ 0 (jm_u (jm_u (jm_u (jm_u I1 103 20 (iI 255)) 103 19 (iI 0)) 103 37 (iI 0)) 103 31 (iI ((pl : Nat) : Int))) M (Nat.lt_succ_self _) (by omega) (fr_r _) (fr_r _) (fun k hk => absurd hk (by omega)) _ hf0 rfl 
      · skip
        refine jv_aload_n (pc' := 24) (k := 0) (x := 103) rfl rfl rfl hf0 ?_
        refine jv_getR (pc' := 27) (c := 12) (k := 17) (v := 117) rfl rfl rfl (fun _ _ => rfl) rfl rfl (jR_103_17 _) ?_
        refine jv_iload_n (pc' := 28) (k := 1) (x := (iI ((i : Nat) : Int))) rfl rfl rfl hf1 ?_
        refine jv_aload_n (pc' := 29) (k := 0) (x := 103) rfl rfl rfl hf0 ?_
        refine jv_getR (pc' := 32) (c := 12) (k := 3) (v := 105) rfl rfl rfl (fun _ _ => rfl) rfl rfl (jR_103_3 _) ?_
        refine jv_bipush (pc' := 34) (n := 80) rfl rfl rfl ?_
        refine jv_aload_n (pc' := 35) (k := 0) (x := 103) rfl rfl rfl hf0 ?_
        refine jv_getI (pc' := 38) (c := 12) (k := 34) (v := (iI ((ln : Nat) : Int))) rfl rfl rfl (fun _ _ => rfl) rfl rfl ((f117 103 34 (by omega)).trans h34) ?_
        refine jv_imul (pc' := 39) (a := 80) (b := ((ln : Nat) : Int)) rfl rfl ?_
        refine jv_iload_n (pc' := 40) (k := 1) (x := (iI ((i : Nat) : Int))) rfl rfl rfl hf1 ?_
        refine jv_iadd (pc' := 41) (a := (80 * ((ln : Nat) : Int))) (b := ((i : Nat) : Int)) rfl rfl ?_
        refine jv_iaload (pc' := 42) (n := 320) (e := ((80 * ((ln : Nat) : Int)) + ((i : Nat) : Int))) (v := (iI (cL ln i))) rfl rfl (by decide) rfl rfl rfl (by omega) ((f117 105 _ (by omega)).trans ((congrArg (I 105) (show ((80 * ((ln : Nat) : Int)) + ((i : Nat) : Int) : Int).toNat = 80 * ln + i by omega)).trans (hLl.2.2 i (by omega)))) ?_
        refine jv_iastore (pc' := 43) (n := 80) (e := ((i : Nat) : Int)) (v := (iI (cL ln i))) rfl rfl rfl rfl rfl (by omega) ?_
        refine jv_iinc (pc' := 46) (k := 1) (a := ((i : Nat) : Int)) rfl rfl hf1 rfl (Or.inr (congrArg jm_lng hf0)) ?_
        refine jx_step (pc' := 15) rfl ?_
        exact ih (i + 1) (jm_u I1 117 (((i : Nat) : Int) : Int).toNat (iI (cL ln i))) (by omega) (by omega) (fr_t f117 (fr_u rfl (fr_r _))) (fun k hk => by
              by_cases ek : k = i
              · subst ek; exact jm_u_eq ⟨rfl, rfl⟩
              · exact (jm_u_n2 (by omega)).trans (hc k (by omega))) _ hf0 rfl 
  exact H1 _ 0 (jm_u I 103 18 (iI ((nL ln : Nat) : Int))) (Nat.lt_succ_self _) (by omega) (fr_r _) (fun k hk => absurd hk (by omega)) _ rfl rfl 
set_option maxHeartbeats 4000000 in
theorem ml_runLayer_n (hD : MD I fi B sz lim cL nL fc fva fnx) (hin : I 103 29 = iI (fi : Int)) (hln : ln < 4) (h34 : I 103 34 = iI ((ln : Nat) : Int)) (hov : I 103 33 = iI 0) (hM : DMe I M s) (hV : DVb lim sz s) (hst : ¬ s 0 1 < lim) : jc L xs (d + 5) 150 [.ref 103] (jx_G j I M p) (fun v g1 => ∃ I' M', g1 = jx_G j I' M' p ∧ v = none ∧ fr wA I I' ∧ fr wN M M' ∧ DMe I' M' (dE s ((ln : Nat) : Int) 10 0 0 4) ∧ I' 103 33 = iI 1 ∧ I' 103 29 = iI (fi : Int)) := by
  unfold jc
  have hLl := hD.2.2.2.1 ln hln
  have hlim := hD.2.2.1.2
  have hlim1 := hD.2.2.1.1
  have hs40 := hD.1.2.2.1
  have hl80 := hLl.2.1
  obtain ⟨hv0, hv1, hv2⟩ := hV
  obtain ⟨pl, hpl⟩ : ∃ pl : Nat, s 0 0 = ((pl : Nat) : Int) := ⟨(s 0 0).toNat, by omega⟩
  have hpl2 : (s 0 0).toNat = pl := by omega
  refine jv_aload_n (pc' := 1) (k := 0) (x := 103) rfl rfl rfl rfl ?_
  refine jv_aload_n (pc' := 2) (k := 0) (x := 103) rfl rfl rfl rfl ?_
  refine jv_getR (pc' := 5) (c := 12) (k := 4) (v := 106) rfl rfl rfl (fun _ _ => rfl) rfl rfl (jR_103_4 _) ?_
  refine jv_aload_n (pc' := 6) (k := 0) (x := 103) rfl rfl rfl rfl ?_
  refine jv_getI (pc' := 9) (c := 12) (k := 34) (v := (iI ((ln : Nat) : Int))) rfl rfl rfl (fun _ _ => rfl) rfl rfl h34 ?_
  refine jv_iaload (pc' := 10) (n := 4) (e := ((ln : Nat) : Int)) (v := (iI ((nL ln : Nat) : Int))) rfl rfl (by decide) rfl rfl rfl (by omega) hLl.1 ?_
  refine jv_putI (pc' := 13) (c := 12) (k := 18) rfl rfl rfl rfl (fun _ _ _  => rfl) rfl rfl ?_
  refine jv_iconst (pc' := 14) (n := 0) rfl rfl ?_
  refine jv_istore_n (pc' := 15) (k := 1) (x := (iI 0)) rfl rfl rfl rfl (Or.inr rfl) ?_
  have H1 : ∀ (N : Nat) (i : Nat) (I1 : Nat → Nat → Int32), nL ln - i < N → (i ≤ nL ln) → (fr (fun l _ => l = 117) (jm_u I 103 18 (iI ((nL ln : Nat) : Int))) I1) → (∀ k, k < i → I1 117 k = iI (cL ln k)) → ∀ f : jm_F, f 0 = some (.ref 103) → f 1 = some (.int (iI ((i : Nat) : Int))) → jx L xs ((d + 5)) 150 15 f [] (jx_G j I1 M p) (fun z => ∃ v g1, z = (.inl v, g1) ∧ (fun v g1 => ∃ I' M', g1 = jx_G j I' M' p ∧ v = none ∧ fr wA I I' ∧ fr wN M M' ∧ DMe I' M' (dE s ((ln : Nat) : Int) 10 0 0 4) ∧ I' 103 33 = iI 1 ∧ I' 103 29 = iI (fi : Int)) v g1) := by
    intro N
    induction N with
    | zero => intro i I1 hN; exact absurd hN (Nat.not_lt_zero _)
    | succ N ih =>
      intro i I1 hN hi f117 hc f hf0 hf1 
      refine jv_iload_n (pc' := 16) (k := 1) (x := (iI ((i : Nat) : Int))) rfl rfl rfl hf1 ?_
      refine jv_aload_n (pc' := 17) (k := 0) (x := 103) rfl rfl rfl hf0 ?_
      refine jv_getI (pc' := 20) (c := 12) (k := 18) (v := (iI ((nL ln : Nat) : Int))) rfl rfl rfl (fun _ _ => rfl) rfl rfl ((f117 103 18 (by omega)).trans rfl) ?_
      refine jv_ic_ge (t := 49) (pc' := 23) (a := ((i : Nat) : Int)) (b := ((nL ln : Nat) : Int)) rfl rfl rfl (by omega) (fun hz_2 => ?_) (fun hz_2 => ?_)
      · skip
        refine jv_aload_n (pc' := 50) (k := 0) (x := 103) rfl rfl rfl hf0 ?_
        refine jv_sipush (pc' := 53) (n := 255) rfl rfl rfl ?_
        refine jv_putI (pc' := 56) (c := 12) (k := 20) rfl rfl rfl rfl (fun _ _ _  => rfl) rfl rfl ?_
        refine jv_aload_n (pc' := 57) (k := 0) (x := 103) rfl rfl rfl hf0 ?_
        refine jv_iconst (pc' := 58) (n := 0) rfl rfl ?_
        refine jv_putI (pc' := 61) (c := 12) (k := 19) rfl rfl rfl rfl (fun _ _ _  => rfl) rfl rfl ?_
        refine jv_aload_n (pc' := 62) (k := 0) (x := 103) rfl rfl rfl hf0 ?_
        refine jv_iconst (pc' := 63) (n := 0) rfl rfl ?_
        refine jv_putI (pc' := 66) (c := 12) (k := 37) rfl rfl rfl rfl (fun _ _ _  => rfl) rfl rfl ?_
        refine jv_aload_n (pc' := 67) (k := 0) (x := 103) rfl rfl rfl hf0 ?_
        refine jv_aload_n (pc' := 68) (k := 0) (x := 103) rfl rfl rfl hf0 ?_
        refine jv_getI (pc' := 71) (c := 12) (k := 30) (v := (iI ((pl : Nat) : Int))) rfl rfl rfl (fun _ _ => rfl) rfl rfl ((f117 103 30 (by omega)).trans (hM.1.trans (congrArg iI hpl))) ?_
        refine jv_putI (pc' := 74) (c := 12) (k := 31) rfl rfl rfl rfl (fun _ _ _  => rfl) rfl rfl ?_
        refine jv_iconst (pc' := 75) (n := 0) rfl rfl ?_
        refine jv_istore_n (pc' := 76) (k := 1) (x := (iI 0)) rfl rfl rfl rfl (Or.inr (congrArg jm_lng hf0)) ?_
        have ei : i = nL ln := by omega
        have H3 : ∀ (N : Nat) (i2 : Nat) (I2 : Nat → Nat → Int32) (M2 : Nat → Nat → Int64), 8 - i2 < N → (i2 ≤ 8) → (fr (fun l _ => l = 126) (jm_u (jm_u (jm_u (jm_u I1 103 20 (iI 255)) 103 19 (iI 0)) 103 37 (iI 0)) 103 31 (iI ((pl : Nat) : Int))) I2) → (fr (fun l _ => l = 125) M M2) → (∀ k, k < i2 → M2 125 k = lI 0 ∧ I2 126 k = iI 0) → ∀ f : jm_F, f 0 = some (.ref 103) → f 1 = some (.int (iI ((i2 : Nat) : Int))) → jx L xs ((d + 5)) 150 76 f [] (jx_G j I2 M2 p) (fun z => ∃ v g1, z = (.inl v, g1) ∧ (fun v g1 => ∃ I' M', g1 = jx_G j I' M' p ∧ v = none ∧ fr wA I I' ∧ fr wN M M' ∧ DMe I' M' (dE s ((ln : Nat) : Int) 10 0 0 4) ∧ I' 103 33 = iI 1 ∧ I' 103 29 = iI (fi : Int)) v g1) := by
          intro N
          induction N with
          | zero => intro i2 I2 M2 hN; exact absurd hN (Nat.not_lt_zero _)
          | succ N ih =>
            intro i2 I2 M2 hN hi2 f126 f125 h8 f hf0 hf1 
            refine jv_iload_n (pc' := 77) (k := 1) (x := (iI ((i2 : Nat) : Int))) rfl rfl rfl hf1 ?_
            refine jv_bipush (pc' := 79) (n := 8) rfl rfl rfl ?_
            refine jv_ic_ge (t := 102) (pc' := 82) (a := ((i2 : Nat) : Int)) (b := 8) rfl rfl rfl (by omega) (fun hz_4 => ?_) (fun hz_4 => ?_)
            · skip
              have R2 : fr wA I I2 := (fr_t (fr_u (by simp [wA]) (fr_u (by simp [wA]) (fr_u (by simp [wA]) (fr_u (by simp [wA]) (fr_t (fr_u (by simp [wA]) (fr_r _)) (fr_w f117 (fun l k h => by unfold wA; omega))))))) (fr_w f126 (fun l k h => by unfold wA; omega)))
              have c7 : ∀ k, k ≠ 18 → k ≠ 19 → k ≠ 20 → k ≠ 31 → k ≠ 37 → I2 103 k = I 103 k := fun k h1 h2 h3 h4 h5 => (f126 103 k (by omega)).trans ((jm_u_n2 (by omega)).trans ((jm_u_n2 (by omega)).trans ((jm_u_n2 (by omega)).trans ((jm_u_n2 (by omega)).trans ((f117 103 k (by omega)).trans (jm_u_n2 (by omega)))))))
              have T2 : MT I2 (cL ln) (nL ln) := ⟨(f126 103 18 (by omega)).trans ((f117 103 18 (by omega)).trans rfl), hLl.2.1, fun k hk => (f126 117 k (by omega)).trans (hc k (by omega)), (hD.2.2.2.2.2 ln hln).1, (hD.2.2.2.2.2 ln hln).2⟩
              have X2 : MX I2 fi B sz ((ln : Nat) : Int) pl lim (cL ln) (nL ln) := ⟨T2, FM_fr hD.1 R2 (by simp [wA]) (by intro k; simp [wA]), (c7 29 (by omega) (by omega) (by omega) (by omega) (by omega)).trans hin, (c7 34 (by omega) (by omega) (by omega) (by omega) (by omega)).trans h34, (f126 103 31 (by omega)).trans rfl, (c7 11 (by omega) (by omega) (by omega) (by omega) (by omega)).trans hD.2.1, (f126 103 20 (by omega)).trans rfl, hD.2.2.1.2, by omega, by omega⟩
              have E1 : DMe I1 M s := DMe_fr (W := fun l _ => l = 117) (V := fun _ _ => False) (I := jm_u I 103 18 (iI ((nL ln : Nat) : Int))) (M := M) hM f117 (fr_r _) ⟨by omega, by omega, by omega, fun l k h1 h2 => by omega⟩ (fun k h => h)
              have E2 : DMe I2 M2 s := DMe_fr (W := fun l _ => l = 126) (V := fun l _ => l = 125) (I := jm_u (jm_u (jm_u (jm_u I1 103 20 (iI 255)) 103 19 (iI 0)) 103 37 (iI 0)) 103 31 (iI ((pl : Nat) : Int))) (M := M) E1 f126 f125 ⟨by omega, by omega, by omega, fun l k h1 h2 => by omega⟩ (fun k => by omega)
              have D2 : DM I2 M2 (dZ s) := DM_Z E2 (fun k hk => h8 k (by omega))
              have z0 : dZ s 0 1 = s 0 1 := rfl
              have z1 : dZ s 0 2 = s 0 2 := rfl
              refine jv_aload_n (pc' := 103) (k := 0) (x := 103) rfl rfl rfl hf0 ?_
              refine jv_bipush (pc' := 105) (n := 10) rfl rfl rfl ?_
              obtain ⟨n0, hn2⟩ : ∃ n0 : Nat, dZ s 0 2 = (n0 : Int) := ⟨(s 0 2).toNat, by omega⟩
              refine jv_call (pc' := 108) rfl (ml_st_n (I := I2) (M := M2) (s := dZ s) (nm := 10) X2.2.2.2.1 X2.2.2.2.2.2.1 hlim D2 (by omega) hn2 (by omega)) (fun vq5 gq5 q5 => ?_)
              obtain ⟨I3, M3, rfl, rfl, D3, r3, t3, o3⟩ := q5
              show jx L xs _ 150 108 _ [.int (iI 0)] _ _
              refine jv_if_eq (t := 115) (pc' := 111) (a := 0) rfl rfl rfl (by omega) (fun hz_6 => ?_) (fun hz_6 => ?_)
              · skip
                refine jv_retV rfl rfl ⟨_, _, rfl, ?_⟩
                exact ⟨_, _, rfl, rfl, fr_t R2 (fr_w r3 wA_1), fr_t (fr_w f125 (fun l k h => Or.inr (Or.inl h))) (fr_w t3 wN_1), DMe_dn D3 (dEZ s _ _ _ _ _), o3, (r3 103 29 (by simp [wM1])).trans X2.2.2.1⟩
              · skip
                exact absurd hz_6 (by decide)
            · skip
              refine jv_aload_n (pc' := 83) (k := 0) (x := 103) rfl rfl rfl hf0 ?_
              refine jv_getR (pc' := 86) (c := 12) (k := 35) (v := 125) rfl rfl rfl (fun _ _ => rfl) rfl rfl (jR_103_35 _) ?_
              refine jv_iload_n (pc' := 87) (k := 1) (x := (iI ((i2 : Nat) : Int))) rfl rfl rfl hf1 ?_
              refine jv_long (pc' := 88) (y := lI 0) rfl (by decide) ?_
              refine jv_lastore (pc' := 89) (n := 8) (e := ((i2 : Nat) : Int)) (v := (lI 0)) rfl rfl rfl rfl rfl (by omega) ?_
              refine jv_aload_n (pc' := 90) (k := 0) (x := 103) rfl rfl rfl hf0 ?_
              refine jv_getR (pc' := 93) (c := 12) (k := 36) (v := 126) rfl rfl rfl (fun _ _ => rfl) rfl rfl (jR_103_36 _) ?_
              refine jv_iload_n (pc' := 94) (k := 1) (x := (iI ((i2 : Nat) : Int))) rfl rfl rfl hf1 ?_
              refine jv_iconst (pc' := 95) (n := 0) rfl rfl ?_
              refine jv_bastore (pc' := 96) (n := 8) (e := ((i2 : Nat) : Int)) (v := (iI 0)) rfl rfl rfl rfl rfl (by omega) (by first | exact Or.inl rfl | exact Or.inr rfl) ?_
              refine jv_iinc (pc' := 99) (k := 1) (a := ((i2 : Nat) : Int)) rfl rfl hf1 rfl (Or.inr (congrArg jm_lng hf0)) ?_
              refine jx_step (pc' := 76) rfl ?_
              exact ih (i2 + 1) (jm_u I2 126 (((i2 : Nat) : Int) : Int).toNat (iI 0)) (jm_u M2 125 (((i2 : Nat) : Int) : Int).toNat (lI 0)) (by omega) (by omega) (fr_t f126 (fr_u rfl (fr_r _))) (fr_t f125 (fr_u rfl (fr_r _))) (fun k hk => by
                    by_cases ek : k = i2
                    · subst ek; exact ⟨jm_u_eq ⟨rfl, rfl⟩, jm_u_eq ⟨rfl, rfl⟩⟩
                    · exact ⟨(jm_u_n2 (by omega)).trans (h8 k (by omega)).1, (jm_u_n2 (by omega)).trans (h8 k (by omega)).2⟩) _ hf0 rfl 
        exact H3 _ 0 (jm_u (jm_u (jm_u (jm_u I1 103 20 (iI 255)) 103 19 (iI 0)) 103 37 (iI 0)) 103 31 (iI ((pl : Nat) : Int))) M (Nat.lt_succ_self _) (by omega) (fr_r _) (fr_r _) (fun k hk => absurd hk (by omega)) _ hf0 rfl 
      · skip
        refine jv_aload_n (pc' := 24) (k := 0) (x := 103) rfl rfl rfl hf0 ?_
        refine jv_getR (pc' := 27) (c := 12) (k := 17) (v := 117) rfl rfl rfl (fun _ _ => rfl) rfl rfl (jR_103_17 _) ?_
        refine jv_iload_n (pc' := 28) (k := 1) (x := (iI ((i : Nat) : Int))) rfl rfl rfl hf1 ?_
        refine jv_aload_n (pc' := 29) (k := 0) (x := 103) rfl rfl rfl hf0 ?_
        refine jv_getR (pc' := 32) (c := 12) (k := 3) (v := 105) rfl rfl rfl (fun _ _ => rfl) rfl rfl (jR_103_3 _) ?_
        refine jv_bipush (pc' := 34) (n := 80) rfl rfl rfl ?_
        refine jv_aload_n (pc' := 35) (k := 0) (x := 103) rfl rfl rfl hf0 ?_
        refine jv_getI (pc' := 38) (c := 12) (k := 34) (v := (iI ((ln : Nat) : Int))) rfl rfl rfl (fun _ _ => rfl) rfl rfl ((f117 103 34 (by omega)).trans h34) ?_
        refine jv_imul (pc' := 39) (a := 80) (b := ((ln : Nat) : Int)) rfl rfl ?_
        refine jv_iload_n (pc' := 40) (k := 1) (x := (iI ((i : Nat) : Int))) rfl rfl rfl hf1 ?_
        refine jv_iadd (pc' := 41) (a := (80 * ((ln : Nat) : Int))) (b := ((i : Nat) : Int)) rfl rfl ?_
        refine jv_iaload (pc' := 42) (n := 320) (e := ((80 * ((ln : Nat) : Int)) + ((i : Nat) : Int))) (v := (iI (cL ln i))) rfl rfl (by decide) rfl rfl rfl (by omega) ((f117 105 _ (by omega)).trans ((congrArg (I 105) (show ((80 * ((ln : Nat) : Int)) + ((i : Nat) : Int) : Int).toNat = 80 * ln + i by omega)).trans (hLl.2.2 i (by omega)))) ?_
        refine jv_iastore (pc' := 43) (n := 80) (e := ((i : Nat) : Int)) (v := (iI (cL ln i))) rfl rfl rfl rfl rfl (by omega) ?_
        refine jv_iinc (pc' := 46) (k := 1) (a := ((i : Nat) : Int)) rfl rfl hf1 rfl (Or.inr (congrArg jm_lng hf0)) ?_
        refine jx_step (pc' := 15) rfl ?_
        exact ih (i + 1) (jm_u I1 117 (((i : Nat) : Int) : Int).toNat (iI (cL ln i))) (by omega) (by omega) (fr_t f117 (fr_u rfl (fr_r _))) (fun k hk => by
              by_cases ek : k = i
              · subst ek; exact jm_u_eq ⟨rfl, rfl⟩
              · exact (jm_u_n2 (by omega)).trans (hc k (by omega))) _ hf0 rfl 
  exact H1 _ 0 (jm_u I 103 18 (iI ((nL ln : Nat) : Int))) (Nat.lt_succ_self _) (by omega) (fr_r _) (fun k hk => absurd hk (by omega)) _ rfl rfl 
variable {root : Int} {lk : Nat}
def DG (cL : Nat → Nat → Int) (nL fc : Nat → Nat) (fva fnx : Nat → Nat → Int) (B : Nat → Nat) (sz lim k1 : Nat) (l1 : Int) (s1 s' : DSt) : Prop := ∃ r s2, DLn cL nL fc fva fnx B sz lim k1 l1 s1 r s2 ∧ (((r = -1 ∨ ∃ l1 : Nat, r = (l1 : Int) ∧ l1 < 4 ∧ nL l1 = 0) ∧ s' = s2) ∨ (∃ l1 : Nat, r = (l1 : Int) ∧ l1 < 4 ∧ 0 < nL l1 ∧ DVb lim sz s2 ∧ LO cL B sz lim l1 s2 s'))
set_option maxHeartbeats 4000000 in
theorem ml_decodeAll (hD : MD I fi B sz lim cL nL fc fva fnx) (hlk : I 113 fi = iI ((lk : Nat) : Int)) (hlk2 : lk < 2) (hroot : I 109 lk = iI root) (hr4 : -1 ≤ root ∧ root < 4) (hE : DEC cL nL fc fva fnx B sz lim root s') : jc L xs (d + 6) 151 [.ref 103, .int (iI ((fi : Nat) : Int))] (jx_G j I M p) (fun v g1 => ∃ I' M', g1 = jx_G j I' M' p ∧ v = none ∧ fr wA I I' ∧ fr wN M M' ∧ DMe I' M' s' ∧ I' 103 29 = iI (fi : Int)) := by
  unfold jc
  have hfi := hD.1.1
  obtain ⟨k, r, s2, hDL, hfin⟩ := hE
  refine jv_aload_n (pc' := 1) (k := 0) (x := 103) rfl rfl rfl rfl ?_
  refine jv_iload_n (pc' := 2) (k := 1) (x := (iI ((fi : Nat) : Int))) rfl rfl rfl rfl ?_
  refine jv_putI (pc' := 5) (c := 12) (k := 29) rfl rfl rfl rfl (fun _ _ _  => rfl) rfl rfl ?_
  refine jv_aload_n (pc' := 6) (k := 0) (x := 103) rfl rfl rfl rfl ?_
  refine jv_iconst (pc' := 7) (n := 0) rfl rfl ?_
  refine jv_putI (pc' := 10) (c := 12) (k := 30) rfl rfl rfl rfl (fun _ _ _  => rfl) rfl rfl ?_
  refine jv_aload_n (pc' := 11) (k := 0) (x := 103) rfl rfl rfl rfl ?_
  refine jv_iconst (pc' := 12) (n := 0) rfl rfl ?_
  refine jv_putI (pc' := 15) (c := 12) (k := 32) rfl rfl rfl rfl (fun _ _ _  => rfl) rfl rfl ?_
  refine jv_aload_n (pc' := 16) (k := 0) (x := 103) rfl rfl rfl rfl ?_
  refine jv_iconst (pc' := 17) (n := 0) rfl rfl ?_
  refine jv_putI (pc' := 20) (c := 12) (k := 22) rfl rfl rfl rfl (fun _ _ _  => rfl) rfl rfl ?_
  refine jv_aload_n (pc' := 21) (k := 0) (x := 103) rfl rfl rfl rfl ?_
  refine jv_iconst (pc' := 22) (n := 0) rfl rfl ?_
  refine jv_putZ (pc' := 25) (c := 12) (k := 33) rfl rfl rfl rfl (fun _ _ _ hz => if_pos hz) rfl rfl (by first | exact Or.inl rfl | exact Or.inr rfl) ?_
  refine jv_aload_n (pc' := 26) (k := 0) (x := 103) rfl rfl rfl rfl ?_
  refine jv_aload_n (pc' := 27) (k := 0) (x := 103) rfl rfl rfl rfl ?_
  refine jv_getR (pc' := 30) (c := 12) (k := 7) (v := 109) rfl rfl rfl (fun _ _ => rfl) rfl rfl (jR_103_7 _) ?_
  refine jv_aload_n (pc' := 31) (k := 0) (x := 103) rfl rfl rfl rfl ?_
  refine jv_getR (pc' := 34) (c := 12) (k := 13) (v := 113) rfl rfl rfl (fun _ _ => rfl) rfl rfl (jR_103_13 _) ?_
  refine jv_iload_n (pc' := 35) (k := 1) (x := (iI ((fi : Nat) : Int))) rfl rfl rfl rfl ?_
  refine jv_iaload (pc' := 36) (n := 12) (e := ((fi : Nat) : Int)) (v := (iI ((lk : Nat) : Int))) rfl rfl (by decide) rfl rfl rfl (by omega) hlk ?_
  refine jv_iaload (pc' := 37) (n := 2) (e := ((lk : Nat) : Int)) (v := (iI root)) rfl rfl (by decide) rfl rfl rfl (by omega) hroot ?_
  refine jv_putI (pc' := 40) (c := 12) (k := 34) rfl rfl rfl rfl (fun _ _ _  => rfl) rfl rfl ?_
  have H1 : ∀ (N : Nat) (k1 : Nat) (l1 : Int) (s1 : DSt) (I1 : Nat → Nat → Int32) (M1 : Nat → Nat → Int64), k1 < N → (fr wA I I1) → (fr wN M M1) → (I1 103 29 = iI (fi : Int)) → (I1 103 33 = iI 0) → (I1 103 34 = iI l1) → (-1 ≤ l1 ∧ l1 < 4) → (DMe I1 M1 s1) → (DG cL nL fc fva fnx B sz lim k1 l1 s1 s') → ∀ f : jm_F, f 0 = some (.ref 103) → f 1 = some (.int (iI ((fi : Nat) : Int))) → jx L xs ((d + 6)) 151 40 f [] (jx_G j I1 M1 p) (fun z => ∃ v g1, z = (.inl v, g1) ∧ (fun v g1 => ∃ I' M', g1 = jx_G j I' M' p ∧ v = none ∧ fr wA I I' ∧ fr wN M M' ∧ DMe I' M' s' ∧ I' 103 29 = iI (fi : Int)) v g1) := by
    intro N
    induction N with
    | zero => intro k1 l1 s1 I1 M1 hN; exact absurd hN (Nat.not_lt_zero _)
    | succ N ih =>
      intro k1 l1 s1 I1 M1 hN hf hm hin hov h34 hl4 hM1 hG f hf0 hf1 
      refine jv_aload_n (pc' := 41) (k := 0) (x := 103) rfl rfl rfl hf0 ?_
      have D1 := MD_fr hD hf
      have hlr : -1 ≤ l1 ∧ l1 < 4 := hl4
      obtain ⟨r, s2, hDL, hfin⟩ := hG
      rcases k1 with _ | k1
      · obtain ⟨e1, e2⟩ := hDL
        subst e1; subst e2
        rcases hfin with ⟨he, e3⟩ | ⟨ln, e3, hln, hn0, hV1, hLO⟩
        · rcases he with he | ⟨ln, he, hln, hn0⟩
          · subst he
            refine jv_getI (pc' := 44) (c := 12) (k := 33) (v := (iI 0)) rfl rfl rfl (fun _ _ => rfl) rfl rfl hov ?_
            refine jv_if_ne (t := 92) (pc' := 47) (a := 0) rfl rfl rfl (by omega) (fun hz_2 => ?_) (fun hz_2 => ?_)
            · skip
              exact absurd hz_2 (by decide)
            · skip
              refine jv_aload_n (pc' := 48) (k := 0) (x := 103) rfl rfl rfl hf0 ?_
              refine jv_getI (pc' := 51) (c := 12) (k := 34) (v := (iI (-1))) rfl rfl rfl (fun _ _ => rfl) rfl rfl h34 ?_
              refine jv_if_lt (t := 92) (pc' := 54) (a := (-1)) rfl rfl rfl (by omega) (fun hz_3 => ?_) (fun hz_3 => ?_)
              · skip
                refine jv_retV rfl rfl ⟨_, _, rfl, ?_⟩
                first
                | (exfalso; omega)
                | (subst e3; exact ⟨_, _, rfl, rfl, hf, hm, hM1, hin⟩)
              · skip
                exact absurd hz_3 (by decide)
          · subst he
            have hLl := D1.2.2.2.1 ln hln
            refine jv_getI (pc' := 44) (c := 12) (k := 33) (v := (iI 0)) rfl rfl rfl (fun _ _ => rfl) rfl rfl hov ?_
            refine jv_if_ne (t := 92) (pc' := 47) (a := 0) rfl rfl rfl (by omega) (fun hz_4 => ?_) (fun hz_4 => ?_)
            · skip
              exact absurd hz_4 (by decide)
            · skip
              refine jv_aload_n (pc' := 48) (k := 0) (x := 103) rfl rfl rfl hf0 ?_
              refine jv_getI (pc' := 51) (c := 12) (k := 34) (v := (iI ((ln : Nat) : Int))) rfl rfl rfl (fun _ _ => rfl) rfl rfl h34 ?_
              refine jv_if_lt (t := 92) (pc' := 54) (a := ((ln : Nat) : Int)) rfl rfl rfl (by omega) (fun hz_5 => ?_) (fun hz_5 => ?_)
              · skip
                refine jv_retV rfl rfl ⟨_, _, rfl, ?_⟩
                first
                | (exfalso; omega)
                | (subst e3; exact ⟨_, _, rfl, rfl, hf, hm, hM1, hin⟩)
              · skip
                refine jv_aload_n (pc' := 55) (k := 0) (x := 103) rfl rfl rfl hf0 ?_
                refine jv_getR (pc' := 58) (c := 12) (k := 4) (v := 106) rfl rfl rfl (fun _ _ => rfl) rfl rfl (jR_103_4 _) ?_
                refine jv_aload_n (pc' := 59) (k := 0) (x := 103) rfl rfl rfl hf0 ?_
                refine jv_getI (pc' := 62) (c := 12) (k := 34) (v := (iI ((ln : Nat) : Int))) rfl rfl rfl (fun _ _ => rfl) rfl rfl h34 ?_
                refine jv_iaload (pc' := 63) (n := 4) (e := ((ln : Nat) : Int)) (v := (iI ((nL ln : Nat) : Int))) rfl rfl (by decide) rfl rfl rfl (by omega) hLl.1 ?_
                refine jv_if_le (t := 92) (pc' := 66) (a := ((nL ln : Nat) : Int)) rfl rfl rfl (by omega) (fun hz_6 => ?_) (fun hz_6 => ?_)
                · skip
                  refine jv_retV rfl rfl ⟨_, _, rfl, ?_⟩
                  first
                  | (exfalso; omega)
                  | (subst e3; exact ⟨_, _, rfl, rfl, hf, hm, hM1, hin⟩)
                · skip
                  exfalso; omega
        · subst e3
          have hLl := D1.2.2.2.1 ln hln
          rcases hLO with ⟨hst, e4⟩ | ⟨hst, kq, hP⟩
          · skip
            refine jv_getI (pc' := 44) (c := 12) (k := 33) (v := (iI 0)) rfl rfl rfl (fun _ _ => rfl) rfl rfl hov ?_
            refine jv_if_ne (t := 92) (pc' := 47) (a := 0) rfl rfl rfl (by omega) (fun hz_7 => ?_) (fun hz_7 => ?_)
            · skip
              exact absurd hz_7 (by decide)
            · skip
              refine jv_aload_n (pc' := 48) (k := 0) (x := 103) rfl rfl rfl hf0 ?_
              refine jv_getI (pc' := 51) (c := 12) (k := 34) (v := (iI ((ln : Nat) : Int))) rfl rfl rfl (fun _ _ => rfl) rfl rfl h34 ?_
              refine jv_if_lt (t := 92) (pc' := 54) (a := ((ln : Nat) : Int)) rfl rfl rfl (by omega) (fun hz_8 => ?_) (fun hz_8 => ?_)
              · skip
                refine jv_retV rfl rfl ⟨_, _, rfl, ?_⟩
                exfalso; omega
              · skip
                refine jv_aload_n (pc' := 55) (k := 0) (x := 103) rfl rfl rfl hf0 ?_
                refine jv_getR (pc' := 58) (c := 12) (k := 4) (v := 106) rfl rfl rfl (fun _ _ => rfl) rfl rfl (jR_103_4 _) ?_
                refine jv_aload_n (pc' := 59) (k := 0) (x := 103) rfl rfl rfl hf0 ?_
                refine jv_getI (pc' := 62) (c := 12) (k := 34) (v := (iI ((ln : Nat) : Int))) rfl rfl rfl (fun _ _ => rfl) rfl rfl h34 ?_
                refine jv_iaload (pc' := 63) (n := 4) (e := ((ln : Nat) : Int)) (v := (iI ((nL ln : Nat) : Int))) rfl rfl (by decide) rfl rfl rfl (by omega) hLl.1 ?_
                refine jv_if_le (t := 92) (pc' := 66) (a := ((nL ln : Nat) : Int)) rfl rfl rfl (by omega) (fun hz_9 => ?_) (fun hz_9 => ?_)
                · skip
                  refine jv_retV rfl rfl ⟨_, _, rfl, ?_⟩
                  exfalso; omega
                · skip
                  refine jv_aload_n (pc' := 67) (k := 0) (x := 103) rfl rfl rfl hf0 ?_
                  refine jv_call (pc' := 70) rfl (ml_runLayer_n (I := I1) (M := M1) D1 hin hln h34 hov hM1 hV1 hst) (fun vq10 gq10 q10 => ?_)
                  obtain ⟨Iq10, Mq10, rfl, rfl, rq10, tq10, Dq10, oq10, iq10⟩ := q10
                  show jx L xs _ 151 70 _ [] _ _
                  refine jv_aload_n (pc' := 71) (k := 0) (x := 103) rfl rfl rfl hf0 ?_
                  refine jv_aload_n (pc' := 72) (k := 0) (x := 103) rfl rfl rfl hf0 ?_
                  refine jv_getI (pc' := 75) (c := 12) (k := 33) (v := (iI 1)) rfl rfl rfl (fun _ _ => rfl) rfl rfl oq10 ?_
                  refine jv_if_eq (t := 82) (pc' := 78) (a := 1) rfl rfl rfl (by omega) (fun hz_11 => ?_) (fun hz_11 => ?_)
                  · skip
                    exact absurd hz_11 (by decide)
                  · skip
                    refine jv_iconst (pc' := 79) (n := -1) rfl rfl ?_
                    refine jx_step (pc' := 86) rfl ?_
                    refine jv_putI (pc' := 89) (c := 12) (k := 34) rfl rfl rfl rfl (fun _ _ _  => rfl) rfl rfl ?_
                    refine jx_step (pc' := 40) rfl ?_
                    refine jv_aload_n (pc' := 41) (k := 0) (x := 103) rfl rfl rfl hf0 ?_
                    refine jv_getI (pc' := 44) (c := 12) (k := 33) (v := (iI 1)) rfl rfl rfl (fun _ _ => rfl) rfl rfl oq10 ?_
                    refine jv_if_ne (t := 92) (pc' := 47) (a := 1) rfl rfl rfl (by omega) (fun hz_12 => ?_) (fun hz_12 => ?_)
                    · skip
                      refine jv_retV rfl rfl ⟨_, _, rfl, ?_⟩
                      first
                      | (exfalso; omega)
                      | exact ⟨_, _, rfl, rfl, (fr_u (by simp [wA]) (fr_t hf rq10)), (fr_t hm tq10), e4 ▸ Dq10, iq10⟩
                    · skip
                      exact absurd hz_12 (by decide)
          · skip
            refine jv_getI (pc' := 44) (c := 12) (k := 33) (v := (iI 0)) rfl rfl rfl (fun _ _ => rfl) rfl rfl hov ?_
            refine jv_if_ne (t := 92) (pc' := 47) (a := 0) rfl rfl rfl (by omega) (fun hz_13 => ?_) (fun hz_13 => ?_)
            · skip
              exact absurd hz_13 (by decide)
            · skip
              refine jv_aload_n (pc' := 48) (k := 0) (x := 103) rfl rfl rfl hf0 ?_
              refine jv_getI (pc' := 51) (c := 12) (k := 34) (v := (iI ((ln : Nat) : Int))) rfl rfl rfl (fun _ _ => rfl) rfl rfl h34 ?_
              refine jv_if_lt (t := 92) (pc' := 54) (a := ((ln : Nat) : Int)) rfl rfl rfl (by omega) (fun hz_14 => ?_) (fun hz_14 => ?_)
              · skip
                refine jv_retV rfl rfl ⟨_, _, rfl, ?_⟩
                exfalso; omega
              · skip
                refine jv_aload_n (pc' := 55) (k := 0) (x := 103) rfl rfl rfl hf0 ?_
                refine jv_getR (pc' := 58) (c := 12) (k := 4) (v := 106) rfl rfl rfl (fun _ _ => rfl) rfl rfl (jR_103_4 _) ?_
                refine jv_aload_n (pc' := 59) (k := 0) (x := 103) rfl rfl rfl hf0 ?_
                refine jv_getI (pc' := 62) (c := 12) (k := 34) (v := (iI ((ln : Nat) : Int))) rfl rfl rfl (fun _ _ => rfl) rfl rfl h34 ?_
                refine jv_iaload (pc' := 63) (n := 4) (e := ((ln : Nat) : Int)) (v := (iI ((nL ln : Nat) : Int))) rfl rfl (by decide) rfl rfl rfl (by omega) hLl.1 ?_
                refine jv_if_le (t := 92) (pc' := 66) (a := ((nL ln : Nat) : Int)) rfl rfl rfl (by omega) (fun hz_15 => ?_) (fun hz_15 => ?_)
                · skip
                  refine jv_retV rfl rfl ⟨_, _, rfl, ?_⟩
                  exfalso; omega
                · skip
                  refine jv_aload_n (pc' := 67) (k := 0) (x := 103) rfl rfl rfl hf0 ?_
                  refine jv_call (pc' := 70) rfl (ml_runLayer_q (I := I1) (M := M1) D1 hin hln h34 hov hM1 hV1 hst hP) (fun vq16 gq16 q16 => ?_)
                  obtain ⟨Iq16, Mq16, rfl, rfl, rq16, tq16, Dq16, oq16, iq16⟩ := q16
                  show jx L xs _ 151 70 _ [] _ _
                  refine jv_aload_n (pc' := 71) (k := 0) (x := 103) rfl rfl rfl hf0 ?_
                  refine jv_aload_n (pc' := 72) (k := 0) (x := 103) rfl rfl rfl hf0 ?_
                  refine jv_getI (pc' := 75) (c := 12) (k := 33) (v := (iI 1)) rfl rfl rfl (fun _ _ => rfl) rfl rfl oq16 ?_
                  refine jv_if_eq (t := 82) (pc' := 78) (a := 1) rfl rfl rfl (by omega) (fun hz_17 => ?_) (fun hz_17 => ?_)
                  · skip
                    exact absurd hz_17 (by decide)
                  · skip
                    refine jv_iconst (pc' := 79) (n := -1) rfl rfl ?_
                    refine jx_step (pc' := 86) rfl ?_
                    refine jv_putI (pc' := 89) (c := 12) (k := 34) rfl rfl rfl rfl (fun _ _ _  => rfl) rfl rfl ?_
                    refine jx_step (pc' := 40) rfl ?_
                    refine jv_aload_n (pc' := 41) (k := 0) (x := 103) rfl rfl rfl hf0 ?_
                    refine jv_getI (pc' := 44) (c := 12) (k := 33) (v := (iI 1)) rfl rfl rfl (fun _ _ => rfl) rfl rfl oq16 ?_
                    refine jv_if_ne (t := 92) (pc' := 47) (a := 1) rfl rfl rfl (by omega) (fun hz_18 => ?_) (fun hz_18 => ?_)
                    · skip
                      refine jv_retV rfl rfl ⟨_, _, rfl, ?_⟩
                      first
                      | (exfalso; omega)
                      | exact ⟨_, _, rfl, rfl, (fr_u (by simp [wA]) (fr_t hf rq16)), (fr_t hm tq16), Dq16, iq16⟩
                    · skip
                      exact absurd hz_18 (by decide)
      · obtain ⟨ln, r1, s3, e1, hln, hn0, hV1, hLR, hDL⟩ := hDL
        subst e1
        have hLl := D1.2.2.2.1 ln hln
        obtain ⟨hst, hV3, kq, e, hP, he80, htail⟩ := hLR
        have hce : cL ln e = -1 ∨ cL ln e = 62 := by
          rcases htail with z | z
          · exact Or.inl z.1
          · exact Or.inr z.1
        have hr1 : -1 ≤ r1 ∧ r1 < 4 := by
          rcases htail with z | ⟨_, _, _, z | z⟩
          · have := z.2; omega
          · rcases z.2 with ⟨k2, z1, z2, z3⟩ | z
            · have := ((D1.2.2.2.2.1 ln hln).2.2.1 k2 z1).2.2.2; omega
            · have := z.2; omega
          · have := z.2; omega
        refine jv_getI (pc' := 44) (c := 12) (k := 33) (v := (iI 0)) rfl rfl rfl (fun _ _ => rfl) rfl rfl hov ?_
        refine jv_if_ne (t := 92) (pc' := 47) (a := 0) rfl rfl rfl (by omega) (fun hz_19 => ?_) (fun hz_19 => ?_)
        · skip
          exact absurd hz_19 (by decide)
        · skip
          refine jv_aload_n (pc' := 48) (k := 0) (x := 103) rfl rfl rfl hf0 ?_
          refine jv_getI (pc' := 51) (c := 12) (k := 34) (v := (iI ((ln : Nat) : Int))) rfl rfl rfl (fun _ _ => rfl) rfl rfl h34 ?_
          refine jv_if_lt (t := 92) (pc' := 54) (a := ((ln : Nat) : Int)) rfl rfl rfl (by omega) (fun hz_20 => ?_) (fun hz_20 => ?_)
          · skip
            refine jv_retV rfl rfl ⟨_, _, rfl, ?_⟩
            exfalso; omega
          · skip
            refine jv_aload_n (pc' := 55) (k := 0) (x := 103) rfl rfl rfl hf0 ?_
            refine jv_getR (pc' := 58) (c := 12) (k := 4) (v := 106) rfl rfl rfl (fun _ _ => rfl) rfl rfl (jR_103_4 _) ?_
            refine jv_aload_n (pc' := 59) (k := 0) (x := 103) rfl rfl rfl hf0 ?_
            refine jv_getI (pc' := 62) (c := 12) (k := 34) (v := (iI ((ln : Nat) : Int))) rfl rfl rfl (fun _ _ => rfl) rfl rfl h34 ?_
            refine jv_iaload (pc' := 63) (n := 4) (e := ((ln : Nat) : Int)) (v := (iI ((nL ln : Nat) : Int))) rfl rfl (by decide) rfl rfl rfl (by omega) hLl.1 ?_
            refine jv_if_le (t := 92) (pc' := 66) (a := ((nL ln : Nat) : Int)) rfl rfl rfl (by omega) (fun hz_21 => ?_) (fun hz_21 => ?_)
            · skip
              refine jv_retV rfl rfl ⟨_, _, rfl, ?_⟩
              exfalso; omega
            · skip
              refine jv_aload_n (pc' := 67) (k := 0) (x := 103) rfl rfl rfl hf0 ?_
              refine jv_call (pc' := 70) rfl (ml_runLayer_t (I := I1) (M := M1) D1 hin hln h34 hov hM1 hV1 hst hP he80 hce) (fun vq22 gq22 q22 => ?_)
              obtain ⟨Iq22, Mq22, rfl, rfl, rq22, tq22, Sq22, Tq22, lq22, iq22⟩ := q22
              show jx L xs _ 151 70 _ [] _ _
              refine jv_aload_n (pc' := 71) (k := 0) (x := 103) rfl rfl rfl hf0 ?_
              refine jv_aload_n (pc' := 72) (k := 0) (x := 103) rfl rfl rfl hf0 ?_
              refine jv_getI (pc' := 75) (c := 12) (k := 33) (v := (iI 0)) rfl rfl rfl (fun _ _ => rfl) rfl rfl Sq22.2.1 ?_
              refine jv_if_eq (t := 82) (pc' := 78) (a := 0) rfl rfl rfl (by omega) (fun hz_23 => ?_) (fun hz_23 => ?_)
              · skip
                refine jv_aload_n (pc' := 83) (k := 0) (x := 103) rfl rfl rfl hf0 ?_
                refine jv_call (pc' := 86) rfl (ml_nextLayer (I := Iq22) (M := Mq22) (ln := ln) (e := e) (r := r1) (s := s3) Tq22 hln lq22 (MD_fr D1 rq22).2.2.2.2.1 Sq22.1 he80 Sq22.2.2.2.2 hV3 htail) (fun vq24 gq24 q24 => ?_)
                obtain ⟨rfl, rfl⟩ := q24
                show jx L xs _ 151 86 _ [.int (iI r1), .ref 103] _ _
                refine jv_putI (pc' := 89) (c := 12) (k := 34) rfl rfl rfl rfl (fun _ _ _  => rfl) rfl rfl ?_
                refine jx_step (pc' := 40) rfl ?_
                exact ih k1 r1 s3 (jm_u Iq22 103 34 (iI r1)) Mq22 (by omega) (fr_u (by simp [wA]) (fr_t hf rq22)) (fr_t hm tq22) iq22 Sq22.2.1 rfl hr1 (DMe_dn Sq22.2.2.2.2 (fun _ _ _ _ => rfl)) ⟨_, _, hDL, hfin⟩ _ hf0 hf1 
              · skip
                exact absurd hz_23 (by decide)
  exact H1 _ k root (fun _ _ => 0) (jm_u (jm_u (jm_u (jm_u (jm_u (jm_u I 103 29 (iI ((fi : Nat) : Int))) 103 30 (iI 0)) 103 32 (iI 0)) 103 22 (iI 0)) 103 33 (iI 0)) 103 34 (iI root)) M (Nat.lt_succ_self _) (fr_u (by simp [wA]) (fr_u (by simp [wA]) (fr_u (by simp [wA]) (fr_u (by simp [wA]) (fr_u (by simp [wA]) (fr_u (by simp [wA]) (fr_r _))))))) (fr_r _) rfl rfl rfl hr4 ⟨rfl, rfl, rfl, fun k hk => absurd (show (k : Int) < 0 from hk) (by omega)⟩ ⟨r, s2, hDL, hfin⟩ _ rfl rfl 
end D12
