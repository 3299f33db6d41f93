/-! printed by wip/whole/gen/d9.py: the class runs a layer, and the layers of a frame -/
section D9
variable {L : Nat} {xs : Nat → Int32} {d j : Nat} {I : Nat → Nat → Int32} {M : Nat → Nat → Int64} {p : Nat → Option Nat}
theorem cl_isDescribed {T : Nat} (hYL : YL T) {m : Int} (h6 : I T 6 = iI m) (hm : 0 ≤ m ∧ m ≤ 40) : jc L xs d 34 [.ref T] (jx_G j I M p) (fun v g1 => v = some (.int (jb (0 < m))) ∧ g1 = jx_G j I M p) := by
  unfold jc
  refine jv_aload_n (pc' := 1) (k := 0) (x := T) rfl rfl rfl rfl ?_
  refine jv_getI (pc' := 4) (c := 2) (k := 6) (v := (iI m)) rfl rfl rfl (fun _ _ => rfl) (YL_A hYL j _ _ p) rfl h6 ?_
  refine jv_if_le (t := 11) (pc' := 7) (a := m) rfl rfl rfl (by omega) (fun h1 => ?_) (fun h1 => ?_)
  · skip
    refine jv_iconst (pc' := 12) (n := 0) rfl rfl ?_
    refine jv_retZ rfl rfl (by first | exact Or.inl rfl | exact Or.inr rfl) ⟨_, _, rfl, ?_⟩
    exact ⟨jq_f (by omega), rfl⟩
  · skip
    refine jv_iconst (pc' := 8) (n := 1) rfl rfl ?_
    refine jx_step (pc' := 12) rfl ?_
    refine jv_retZ rfl rfl (by first | exact Or.inl rfl | exact Or.inr rfl) ⟨_, _, rfl, ?_⟩
    exact ⟨jq_t (by omega), rfl⟩
theorem Wd_Y {I : Nat → Nat → Int32} {Tl : Nat → Nat} {l T m i : Nat} {Y : Nat → Nat → Int} (hT : Tl l = T) (h : LB I T Y m) (hi : i < 8) : Wd I Tl l i = Y 4 i := by
  obtain ⟨a, _, b, c⟩ := h.2.2.2 i hi
  unfold Wd
  rw [hT, a, iI_T ⟨by omega, by omega⟩]
variable {Tl : Nat → Nat} {cL : Nat → Nat → Int} {nL fc : Nat → Nat} {fva fnx : Nat → Nat → Int} {F : Nat} {B : Nat → Nat} {ln T sz lim : Nat} {s : DSt}
set_option maxHeartbeats 4000000 in
theorem cl_runLayer (hR : RX I p Tl cL nL fc fva fnx F B sz lim) (hp17 : p 17 = some F) (h11 : I 38 11 = iI (lim : Int)) (hlim1 : 1 ≤ lim) (hD : DCe I M s) (hV : DVb lim sz s) (hln : ln < 4) (hT : Tl ln = T) : jc L xs (d + 10) 62 [.ref 38, .int (iI ((ln : Nat) : Int))] (jx_G j I M p) (fun v g1 => ∃ I' M' s', g1 = jx_G j I' M' (fun q => if q = 18 then some T else p q) ∧ I' 38 11 = I 38 11 ∧ fr wR I I' ∧ fr wE M M' ∧ DCe I' M' s' ∧ (0 ≤ s' 0 2 ∧ s' 0 2 ≤ 64) ∧ (∀ W : Nat → Nat → Int, (∀ l i, l < 4 → i < 8 → 0 < nL l → W l i = Wd I Tl l i) → EP W sz s → EP W sz s') ∧ ((∃ r : Int, v = some (.int (iI r)) ∧ (-1 ≤ r ∧ r < 4) ∧ 0 < nL ln ∧ LR cL nL fc fva fnx B sz lim ln s r s' ∧ DVb lim sz s' ∧ s 0 1 + 1 ≤ s' 0 1) ∨ (v = some (.int (iI (-1))) ∧ 0 < nL ln ∧ LO cL B sz lim ln s s') ∨ (v = some (.int (iI (-1))) ∧ nL ln = 0 ∧ s' = s))) := by
  unfold jc
  obtain ⟨hpT, hYL, hn80, hLY⟩ := hR.1 ln hln
  rw [hT] at hpT hYL hLY
  have hlim := hR.2.2.2.2.2
  have hs40 := hR.2.2.2.2.1.2.1
  obtain ⟨hv0, hv1, hv2⟩ := hV
  obtain ⟨pl, hpl⟩ : ∃ pl : Nat, s 0 0 = ((pl : Nat) : Int) := ⟨(s 0 0).toNat, by omega⟩
  rcases hLY with ⟨hn0, h60⟩ | ⟨hn0, Y, m, q, e, ch, hLB, hm0, hIT, hUQ, hch, hce⟩
  · skip
    refine jv_aload_n (pc' := 1) (k := 0) (x := 38) rfl rfl rfl rfl ?_
    refine jv_aload_n (pc' := 2) (k := 0) (x := 38) rfl rfl rfl rfl ?_
    refine jv_getR (pc' := 5) (c := 6) (k := 1) (v := 42) rfl rfl rfl (fun _ _ => rfl) rfl rfl (jR_38_1 _) ?_
    refine jv_iload_n (pc' := 6) (k := 1) (x := (iI ((ln : Nat) : Int))) rfl rfl rfl rfl ?_
    refine jv_aaload (pc' := 7) (n := 4) (e := ((ln : Nat) : Int)) (v := T) rfl rfl rfl rfl rfl (by omega) ((jR42 _ hln).trans hpT) ?_
    refine jv_putR (pc' := 10) (c := 6) (k := 6) (i := 18) rfl rfl rfl rfl (fun _ _ _ => rfl) rfl rfl rfl ?_
    refine jv_aload_n (pc' := 11) (k := 0) (x := 38) rfl rfl rfl rfl ?_
    refine jv_iload_n (pc' := 12) (k := 1) (x := (iI ((ln : Nat) : Int))) rfl rfl rfl rfl ?_
    refine jv_putI (pc' := 15) (c := 6) (k := 7) rfl rfl rfl rfl (fun _ _ _  => rfl) rfl rfl ?_
    refine jv_aload_n (pc' := 16) (k := 0) (x := 38) rfl rfl rfl rfl ?_
    refine jv_getR (pc' := 19) (c := 6) (k := 6) (v := T) rfl rfl rfl (fun _ _ => rfl) rfl rfl rfl ?_
    refine jv_callv (pc' := 22) rfl rfl rfl rfl (YL_A hYL j _ _ _) rfl rfl (cl_isDescribed (I := jm_u I 38 7 (iI ((ln : Nat) : Int))) (p := (fun q => if q = 18 then some T else p q)) hYL (m := 0) ((jm_u_n2 (by omega)).trans h60) (by omega)) (fun vq1 gq1 q1 => ?_)
    obtain ⟨rfl, rfl⟩ := q1
    show jx L xs _ 62 22 _ [.int (jb ((0 : Int) < 0))] _ _
    refine jv_jb_eq (t := 34) (pc' := 25) (P := (0 : Int) < 0) rfl rfl rfl (fun hz_2 => ?_) (fun hz_2 => ?_)
    · skip
      refine jv_iconst (pc' := 35) (n := -1) rfl rfl ?_
      refine jv_retI rfl rfl ⟨_, _, rfl, ?_⟩
      first
      | (exfalso; omega)
      | exact ⟨_, _, _, rfl, rfl, (fr_u (by simp [wR]) (fr_r _)), (fr_r _), hD, by omega, fun _ _ z => z, Or.inr (Or.inr ⟨rfl, hn0, rfl⟩)⟩
    · skip
      exfalso; omega
  · skip
    have hV : DVb lim sz s := ⟨hv0, hv1, hv2⟩
    have hm40 := hLB.2.1
    have he80 : e ≤ 80 := by omega
    have hch1 : -1 ≤ ch ∧ ch < 8 := by omega
    refine jv_aload_n (pc' := 1) (k := 0) (x := 38) rfl rfl rfl rfl ?_
    refine jv_aload_n (pc' := 2) (k := 0) (x := 38) rfl rfl rfl rfl ?_
    refine jv_getR (pc' := 5) (c := 6) (k := 1) (v := 42) rfl rfl rfl (fun _ _ => rfl) rfl rfl (jR_38_1 _) ?_
    refine jv_iload_n (pc' := 6) (k := 1) (x := (iI ((ln : Nat) : Int))) rfl rfl rfl rfl ?_
    refine jv_aaload (pc' := 7) (n := 4) (e := ((ln : Nat) : Int)) (v := T) rfl rfl rfl rfl rfl (by omega) ((jR42 _ hln).trans hpT) ?_
    refine jv_putR (pc' := 10) (c := 6) (k := 6) (i := 18) rfl rfl rfl rfl (fun _ _ _ => rfl) rfl rfl rfl ?_
    refine jv_aload_n (pc' := 11) (k := 0) (x := 38) rfl rfl rfl rfl ?_
    refine jv_iload_n (pc' := 12) (k := 1) (x := (iI ((ln : Nat) : Int))) rfl rfl rfl rfl ?_
    refine jv_putI (pc' := 15) (c := 6) (k := 7) rfl rfl rfl rfl (fun _ _ _  => rfl) rfl rfl ?_
    refine jv_aload_n (pc' := 16) (k := 0) (x := 38) rfl rfl rfl rfl ?_
    refine jv_getR (pc' := 19) (c := 6) (k := 6) (v := T) rfl rfl rfl (fun _ _ => rfl) rfl rfl rfl ?_
    refine jv_callv (pc' := 22) rfl rfl rfl rfl (YL_A hYL j _ _ _) rfl rfl (cl_isDescribed (I := jm_u I 38 7 (iI ((ln : Nat) : Int))) (p := (fun q => if q = 18 then some T else p q)) hYL (m := ((m : Nat) : Int)) ((jm_u_n2 (by omega)).trans hLB.1) (by omega)) (fun vq1 gq1 q1 => ?_)
    obtain ⟨rfl, rfl⟩ := q1
    show jx L xs _ 62 22 _ [.int (jb (0 < ((m : Nat) : Int)))] _ _
    refine jv_jb_eq (t := 34) (pc' := 25) (P := 0 < ((m : Nat) : Int)) rfl rfl rfl (fun hz_2 => ?_) (fun hz_2 => ?_)
    · skip
      refine jv_iconst (pc' := 35) (n := -1) rfl rfl ?_
      refine jv_retI rfl rfl ⟨_, _, rfl, ?_⟩
      exfalso; omega
    · skip
      refine jv_aload_n (pc' := 26) (k := 0) (x := 38) rfl rfl rfl rfl ?_
      refine jv_bipush (pc' := 28) (n := 10) rfl rfl rfl ?_
      have D0q3 : DCe (jm_u I 38 7 (iI ((ln : Nat) : Int))) M s := hD
      obtain ⟨s0, DC0, h12⟩ := DCe_up D0q3
      have e00 := h12 0 0 (by omega) (by omega)
      have e01 := h12 0 1 (by omega) (by omega)
      have e02 := h12 0 2 (by omega) (by omega)
      by_cases hst : s 0 1 < lim
      · skip
        refine jv_call (pc' := 31) rfl (cl_ms_y (I := jm_u I 38 7 (iI ((ln : Nat) : Int))) (M := M) (s := s0) (l := ((ln : Nat) : Int)) rfl h11 hlim DC0 (by omega)) (fun vq3 gq3 q3 => ?_)
        obtain ⟨Iq3, rfl, rfl, rq3, Dq3⟩ := q3
        have Eq3 : DCe Iq3 M (dS s) := DCe_dn Dq3 (s12_S h12)
        have Rq3 : fr wR I Iq3 := (fr_t (fr_u (by simp [wR]) (fr_r _)) (fr_w rq3 wR_D))
        show jx L xs _ 62 31 _ [.int (iI 1)] _ _
        refine jv_if_ne (t := 36) (pc' := 34) (a := 1) rfl rfl rfl (by omega) (fun hz_4 => ?_) (fun hz_4 => ?_)
        · skip
          refine jv_aload_n (pc' := 37) (k := 0) (x := 38) rfl rfl rfl rfl ?_
          refine jv_aload_n (pc' := 38) (k := 0) (x := 38) rfl rfl rfl rfl ?_
          refine jv_getI (pc' := 41) (c := 6) (k := 9) (v := (iI ((pl : Nat) : Int))) rfl rfl rfl (fun _ _ => rfl) rfl rfl (Eq3.1.trans (congrArg iI hpl)) ?_
          refine jv_putI (pc' := 44) (c := 6) (k := 8) rfl rfl rfl rfl (fun _ _ _  => rfl) rfl rfl ?_
          refine jv_iconst (pc' := 45) (n := 0) rfl rfl ?_
          refine jv_istore_n (pc' := 46) (k := 2) (x := (iI 0)) rfl rfl rfl rfl (Or.inr rfl) ?_
          have hpl2 : pl = (s 0 0).toNat := by omega
          have H5 : ∀ (N : Nat) (i : Nat) (I2 : Nat → Nat → Int32) (M2 : Nat → Nat → Int64), 8 - i < N → (i ≤ 8) → (fr (fun l _ => l = 45) (jm_u Iq3 38 8 (iI ((pl : Nat) : Int))) I2) → (fr (fun l _ => l = 44) M M2) → (∀ k, k < i → M2 44 k = lI 0 ∧ I2 45 k = iI 0) → ∀ f : jm_F, f 0 = some (.ref 38) → f 1 = some (.int (iI ((ln : Nat) : Int))) → f 2 = some (.int (iI ((i : Nat) : Int))) → jx L xs ((d + 10)) 62 46 f [] (jx_G j I2 M2 (fun q => if q = 18 then some T else p q)) (fun z => ∃ v g1, z = (.inl v, g1) ∧ (fun v g1 => ∃ I' M' s', g1 = jx_G j I' M' (fun q => if q = 18 then some T else p q) ∧ I' 38 11 = I 38 11 ∧ fr wR I I' ∧ fr wE M M' ∧ DCe I' M' s' ∧ (0 ≤ s' 0 2 ∧ s' 0 2 ≤ 64) ∧ (∀ W : Nat → Nat → Int, (∀ l i, l < 4 → i < 8 → 0 < nL l → W l i = Wd I Tl l i) → EP W sz s → EP W sz s') ∧ ((∃ r : Int, v = some (.int (iI r)) ∧ (-1 ≤ r ∧ r < 4) ∧ 0 < nL ln ∧ LR cL nL fc fva fnx B sz lim ln s r s' ∧ DVb lim sz s' ∧ s 0 1 + 1 ≤ s' 0 1) ∨ (v = some (.int (iI (-1))) ∧ 0 < nL ln ∧ LO cL B sz lim ln s s') ∨ (v = some (.int (iI (-1))) ∧ nL ln = 0 ∧ s' = s))) v g1) := by
            intro N
            induction N with
            | zero => intro i I2 M2 hN; exact absurd hN (Nat.not_lt_zero _)
            | succ N ih =>
              intro i I2 M2 hN hi f45 f44 h8 f hf0 hf1 hf2 
              refine jv_iload_n (pc' := 47) (k := 2) (x := (iI ((i : Nat) : Int))) rfl rfl rfl hf2 ?_
              refine jv_bipush (pc' := 49) (n := 8) rfl rfl rfl ?_
              refine jv_ic_ge (t := 72) (pc' := 52) (a := ((i : Nat) : Int)) (b := 8) rfl rfl rfl (by omega) (fun hz_6 => ?_) (fun hz_6 => ?_)
              · skip
                refine jv_aload_n (pc' := 73) (k := 0) (x := 38) rfl rfl rfl hf0 ?_
                refine jv_iconst (pc' := 74) (n := 0) rfl rfl ?_
                refine jv_aload_n (pc' := 75) (k := 0) (x := 38) rfl rfl rfl hf0 ?_
                refine jv_getR (pc' := 78) (c := 6) (k := 6) (v := T) rfl rfl rfl (fun _ _ => rfl) rfl rfl rfl ?_
                refine jv_getI (pc' := 81) (c := 2) (k := 6) (v := (iI ((m : Nat) : Int))) rfl rfl rfl (fun _ _ => rfl) (YL_A hYL j _ _ _) rfl ((f45 T 6 (by omega)).trans (((fr_u (by simp [wR]) (fr_t (fr_r _) Rq3)) T 6 (by unfold wR; omega)).trans hLB.1)) ?_
                refine jv_iconst (pc' := 82) (n := 0) rfl rfl ?_
                have Bq7 : fr wR I I2 := (fr_t (fr_u (by simp [wR]) (fr_t (fr_r _) Rq3)) (fr_w f45 (fun l k h => by unfold wR; omega)))
                have Xq7 := RX_p (p' := (fun q => if q = 18 then some T else p q)) (RX_fr hR Bq7) (fun i h1 h2 => if_neg (by omega))
                have LBq7 : LB I2 T Y m := LB_fr hLB Bq7 (by intro l k q1 q2; unfold wR; omega)
                have DXq7 : DX I2 (fun q => if q = 18 then some T else p q) F T B sz Y m ((ln : Nat) : Int) pl lim := ⟨hR.2.2.2.1, hYL, hp17, rfl, Xq7.2.2.2.2.1, LBq7, (f45 38 7 (by omega)).trans (by first | exact ((rq3 38 7 (by simp [wD])).trans rfl) | rfl), (f45 38 8 (by omega)).trans rfl, (f45 38 11 (by omega)).trans ((rq3 38 11 (by simp [wD])).trans h11), hlim, by omega, by omega, hUQ⟩
                have DCq7 : DC I2 M2 (dZ (dS s)) := DC_Z (DCe_fr (W := fun l _ => l = 45) (V := fun l _ => l = 44) (show DCe (jm_u Iq3 38 8 (iI ((pl : Nat) : Int))) M (dS s) from Eq3) f45 f44 (by simp) (by simp)) (fun k hk => h8 k (by omega))
                refine jv_call (pc' := 85) rfl (cl_CDI3 L xs d j I2 M2 (fun q => if q = 18 then some T else p q) F T B sz Y m ((ln : Nat) : Int) pl lim (dZ (dS s)) (cL ln) q 0 m 0 e 0 [] DXq7 DCq7 (DVb_DV hV hst) hIT (by omega) (by omega) rfl rfl (fun x hx => absurd hx (by simp))) (fun vq7 gq7 q7 => ?_)
                obtain ⟨Iq7, Mq7, sq7, rfl, rq7, tq7, Dq7, Sq7, q7⟩ := q7
                have Yq7 := DX_fr DXq7 rq7
                have Zq7 := RX_fr Xq7 (fr_w rq7 wR_D)
                have Eq7 : DCe Iq7 Mq7 sq7 := DCe_dn Dq7 (fun _ _ _ _ => rfl)
                have Kq7 : ∀ W : Nat → Nat → Int, (∀ l i, l < 4 → i < 8 → 0 < nL l → W l i = Wd I Tl l i) → EP W sz s → EP W sz sq7 := fun W hW hE => Sq7.2.2 W (fun i hi => by rw [Int.toNat_natCast, hW ln i hln hi hn0]; exact Wd_Y hT hLB hi) (EP_Z hE)
                rcases q7 with ⟨rfl, Vq7, ⟨nq7, Pq7⟩, Nq7⟩ | ⟨rfl, nq7, Qq7⟩
                · skip
                  have z1 := Vq7.1
                  have z2 := Vq7.2.1
                  have z3 := Vq7.2.2.1
                  have z4 := Sq7.1
                  have z5 : dZ (dS s) 0 1 = s 0 1 + 1 := rfl
                  show jx L xs _ 62 85 _ [.int (iI 1)] _ _
                  refine jv_if_ne (t := 90) (pc' := 88) (a := 1) rfl rfl rfl (by omega) (fun hz_8 => ?_) (fun hz_8 => ?_)
                  · skip
                    refine jv_aload_n (pc' := 91) (k := 0) (x := 38) rfl rfl rfl hf0 ?_
                    refine jv_getR (pc' := 94) (c := 6) (k := 6) (v := T) rfl rfl rfl (fun _ _ => rfl) rfl rfl rfl ?_
                    refine jv_getI (pc' := 97) (c := 2) (k := 7) (v := (iI ch)) rfl rfl rfl (fun _ _ => rfl) (YL_A hYL j _ _ _) rfl ((rq7 T 7 (by unfold wD; omega)).trans ((Bq7 T 7 (by unfold wR; omega)).trans hch)) ?_
                    refine jv_istore_n (pc' := 98) (k := 2) (x := (iI ch)) rfl rfl rfl rfl (Or.inr (congrArg jm_lng hf1)) ?_
                    refine jv_iload_n (pc' := 99) (k := 2) (x := (iI ch)) rfl rfl rfl rfl ?_
                    refine jv_iconst (pc' := 100) (n := -1) rfl rfl ?_
                    refine jv_ic_eq (t := 116) (pc' := 103) (a := ch) (b := (-1)) rfl rfl rfl (by omega) (fun hz_9 => ?_) (fun hz_9 => ?_)
                    · skip
                      refine jv_iconst (pc' := 117) (n := 0) rfl rfl ?_
                      refine jv_istore_n (pc' := 118) (k := 3) (x := (iI 0)) rfl rfl rfl rfl (Or.inr rfl) ?_
                      refine jv_iload_n (pc' := 119) (k := 3) (x := (iI 0)) rfl rfl rfl rfl ?_
                      refine jv_if_eq (t := 140) (pc' := 122) (a := 0) rfl rfl rfl (by omega) (fun hz_10 => ?_) (fun hz_10 => ?_)
                      · skip
                        refine jv_iconst (pc' := 141) (n := -1) rfl rfl ?_
                        refine jv_retI rfl rfl ⟨_, _, rfl, ?_⟩
                        first
                        | (exfalso; omega)
                        | (rcases hce with ⟨hc1, hc2⟩ | ⟨hc1, hc2, hc3, hc4⟩
                           · have hc6 := (hR.2.2.1 ln hln).2 e (by omega)
                             exact ⟨_, _, _, rfl, (rq7 38 11 (by first | omega | simp [wD])).trans ((f45 38 11 (by first | omega | simp [wD])).trans ((rq3 38 11 (by first | omega | simp [wD])).trans rfl)), (fr_t (fr_t (fr_r _) Bq7) (fr_w rq7 wR_D)), (fr_t (fr_t (fr_r _) (fr_w f44 (fun l k h => Or.inr h))) tq7), Eq7, Sq7.2.1, Kq7, Or.inl ⟨_, rfl, by omega, hn0, ⟨hst, Vq7, nq7, e, hpl2 ▸ Pq7, by omega, Or.inl ⟨hc6, rfl⟩⟩, DVb_of Vq7, by omega⟩⟩
                           · have hc5 : (cL ln (e + 1) - 97).toNat = ch.toNat := by omega
                             first | (exfalso; omega) | exact ⟨_, _, _, rfl, (rq7 38 11 (by first | omega | simp [wD])).trans ((f45 38 11 (by first | omega | simp [wD])).trans ((rq3 38 11 (by first | omega | simp [wD])).trans rfl)), (fr_t (fr_t (fr_r _) Bq7) (fr_w rq7 wR_D)), (fr_t (fr_t (fr_r _) (fr_w f44 (fun l k h => Or.inr h))) tq7), Eq7, Sq7.2.1, Kq7, Or.inl ⟨_, rfl, by omega, hn0, ⟨hst, Vq7, nq7, e, hpl2 ▸ Pq7, by omega, Or.inr ⟨hc1, hc2, hc3, Or.inr ⟨by rw [hc5]; omega, rfl⟩⟩⟩, DVb_of Vq7, by omega⟩⟩)
                      · skip
                        exact absurd hz_10 (by decide)
                    · skip
                      have z6 := (Vq7.2.2.2 ch.toNat (by omega)).2
                      refine jv_aload_n (pc' := 104) (k := 0) (x := 38) rfl rfl rfl hf0 ?_
                      refine jv_getR (pc' := 107) (c := 6) (k := 4) (v := 45) rfl rfl rfl (fun _ _ => rfl) rfl rfl (jR_38_4 _) ?_
                      refine jv_iload_n (pc' := 108) (k := 2) (x := (iI ch)) rfl rfl rfl rfl ?_
                      refine jv_baload (pc' := 109) (n := 8) (e := ch) (v := (iI (sq7 2 ch.toNat))) rfl rfl rfl rfl rfl (by omega) ((Dq7.2.2.2.1 ch.toNat (by omega)).2) ?_
                      refine jv_if_eq (t := 116) (pc' := 112) (a := (sq7 2 ch.toNat)) rfl rfl rfl (by omega) (fun hz_11 => ?_) (fun hz_11 => ?_)
                      · skip
                        refine jv_iconst (pc' := 117) (n := 0) rfl rfl ?_
                        refine jv_istore_n (pc' := 118) (k := 3) (x := (iI 0)) rfl rfl rfl rfl (Or.inr rfl) ?_
                        refine jv_iload_n (pc' := 119) (k := 3) (x := (iI 0)) rfl rfl rfl rfl ?_
                        refine jv_if_eq (t := 140) (pc' := 122) (a := 0) rfl rfl rfl (by omega) (fun hz_12 => ?_) (fun hz_12 => ?_)
                        · skip
                          refine jv_iconst (pc' := 141) (n := -1) rfl rfl ?_
                          refine jv_retI rfl rfl ⟨_, _, rfl, ?_⟩
                          first
                          | (exfalso; omega)
                          | (rcases hce with ⟨hc1, hc2⟩ | ⟨hc1, hc2, hc3, hc4⟩
                             · have hc6 := (hR.2.2.1 ln hln).2 e (by omega)
                               exact ⟨_, _, _, rfl, (rq7 38 11 (by first | omega | simp [wD])).trans ((f45 38 11 (by first | omega | simp [wD])).trans ((rq3 38 11 (by first | omega | simp [wD])).trans rfl)), (fr_t (fr_t (fr_r _) Bq7) (fr_w rq7 wR_D)), (fr_t (fr_t (fr_r _) (fr_w f44 (fun l k h => Or.inr h))) tq7), Eq7, Sq7.2.1, Kq7, Or.inl ⟨_, rfl, by omega, hn0, ⟨hst, Vq7, nq7, e, hpl2 ▸ Pq7, by omega, Or.inl ⟨hc6, rfl⟩⟩, DVb_of Vq7, by omega⟩⟩
                             · have hc5 : (cL ln (e + 1) - 97).toNat = ch.toNat := by omega
                               first | (exfalso; omega) | exact ⟨_, _, _, rfl, (rq7 38 11 (by first | omega | simp [wD])).trans ((f45 38 11 (by first | omega | simp [wD])).trans ((rq3 38 11 (by first | omega | simp [wD])).trans rfl)), (fr_t (fr_t (fr_r _) Bq7) (fr_w rq7 wR_D)), (fr_t (fr_t (fr_r _) (fr_w f44 (fun l k h => Or.inr h))) tq7), Eq7, Sq7.2.1, Kq7, Or.inl ⟨_, rfl, by omega, hn0, ⟨hst, Vq7, nq7, e, hpl2 ▸ Pq7, by omega, Or.inr ⟨hc1, hc2, hc3, Or.inr ⟨by rw [hc5]; omega, rfl⟩⟩⟩, DVb_of Vq7, by omega⟩⟩)
                        · skip
                          exact absurd hz_12 (by decide)
                      · skip
                        refine jv_iconst (pc' := 113) (n := 1) rfl rfl ?_
                        refine jx_step (pc' := 117) rfl ?_
                        refine jv_istore_n (pc' := 118) (k := 3) (x := (iI 1)) rfl rfl rfl rfl (Or.inr rfl) ?_
                        refine jv_iload_n (pc' := 119) (k := 3) (x := (iI 1)) rfl rfl rfl rfl ?_
                        refine jv_if_eq (t := 140) (pc' := 122) (a := 1) rfl rfl rfl (by omega) (fun hz_13 => ?_) (fun hz_13 => ?_)
                        · skip
                          exact absurd hz_13 (by decide)
                        · skip
                          refine jv_aload_n (pc' := 123) (k := 0) (x := 38) rfl rfl rfl hf0 ?_
                          refine jv_getR (pc' := 126) (c := 6) (k := 2) (v := 43) rfl rfl rfl (fun _ _ => rfl) rfl rfl (jR_38_2 _) ?_
                          refine jv_iload_n (pc' := 127) (k := 1) (x := (iI ((ln : Nat) : Int))) rfl rfl rfl hf1 ?_
                          refine jv_aaload (pc' := 128) (n := 4) (e := ((ln : Nat) : Int)) (v := (53 + 10 * ln)) rfl rfl rfl rfl rfl (by omega) (jR43 _ hln) ?_
                          refine jv_aload_n (pc' := 129) (k := 0) (x := 38) rfl rfl rfl hf0 ?_
                          refine jv_getR (pc' := 132) (c := 6) (k := 3) (v := 44) rfl rfl rfl (fun _ _ => rfl) rfl rfl (jR_38_3 _) ?_
                          refine jv_iload_n (pc' := 133) (k := 2) (x := (iI ch)) rfl rfl rfl rfl ?_
                          refine jv_laload (pc' := 134) (n := 8) (e := ch) (v := (lI (sq7 1 ch.toNat))) rfl rfl rfl rfl rfl (by omega) ((Dq7.2.2.2.1 ch.toNat (by omega)).1) ?_
                          refine jv_callv (pc' := 137) rfl rfl rfl rfl (GL_A (GL_l hln) j _ _ _) rfl rfl (cl_layerBehind (I := Iq7) (M := Mq7) (G := 53 + 10 * ln) (vv := sq7 1 ch.toNat) (GL_l hln) (Zq7.2.1 ln hln) (Vq7.2.2.2 _ (by omega)).1) (fun vq14 gq14 q14 => ?_)
                          obtain ⟨r, rfl, rfl, hFO, hr⟩ := q14
                          show jx L xs _ 62 137 _ [.int (iI r)] _ _
                          refine jx_step (pc' := 141) rfl ?_
                          refine jv_retI rfl rfl ⟨_, _, rfl, ?_⟩
                          first
                          | (exfalso; omega)
                          | (rcases hce with ⟨hc1, hc2⟩ | ⟨hc1, hc2, hc3, hc4⟩
                             · exfalso; omega
                             · have hc5 : (cL ln (e + 1) - 97).toNat = ch.toNat := by omega
                               exact ⟨_, _, _, rfl, (rq7 38 11 (by first | omega | simp [wD])).trans ((f45 38 11 (by first | omega | simp [wD])).trans ((rq3 38 11 (by first | omega | simp [wD])).trans rfl)), (fr_t (fr_t (fr_r _) Bq7) (fr_w rq7 wR_D)), (fr_t (fr_t (fr_r _) (fr_w f44 (fun l k h => Or.inr h))) tq7), Eq7, Sq7.2.1, Kq7, Or.inl ⟨_, rfl, hr, hn0, ⟨hst, Vq7, nq7, e, hpl2 ▸ Pq7, by omega, Or.inr ⟨hc1, hc2, hc3, Or.inl ⟨by rw [hc5]; omega, by rw [hc5]; exact hFO⟩⟩⟩, DVb_of Vq7, by omega⟩⟩)
                  · skip
                    exact absurd hz_8 (by decide)
                · skip
                  show jx L xs _ 62 85 _ [.int (iI 0)] _ _
                  refine jv_if_ne (t := 90) (pc' := 88) (a := 0) rfl rfl rfl (by omega) (fun hz_15 => ?_) (fun hz_15 => ?_)
                  · skip
                    exact absurd hz_15 (by decide)
                  · skip
                    refine jv_iconst (pc' := 89) (n := -1) rfl rfl ?_
                    refine jv_retI rfl rfl ⟨_, _, rfl, ?_⟩
                    first
                    | (exfalso; omega)
                    | exact ⟨_, _, _, rfl, (rq7 38 11 (by first | omega | simp [wD])).trans ((f45 38 11 (by first | omega | simp [wD])).trans ((rq3 38 11 (by first | omega | simp [wD])).trans rfl)), (fr_t (fr_t (fr_r _) Bq7) (fr_w rq7 wR_D)), (fr_t (fr_t (fr_r _) (fr_w f44 (fun l k h => Or.inr h))) tq7), Eq7, Sq7.2.1, Kq7, Or.inr (Or.inl ⟨rfl, hn0, Or.inr ⟨hst, nq7, hpl2 ▸ Qq7⟩⟩)⟩
              · skip
                refine jv_aload_n (pc' := 53) (k := 0) (x := 38) rfl rfl rfl hf0 ?_
                refine jv_getR (pc' := 56) (c := 6) (k := 3) (v := 44) rfl rfl rfl (fun _ _ => rfl) rfl rfl (jR_38_3 _) ?_
                refine jv_iload_n (pc' := 57) (k := 2) (x := (iI ((i : Nat) : Int))) rfl rfl rfl hf2 ?_
                refine jv_long (pc' := 58) (y := lI 0) rfl (by decide) ?_
                refine jv_lastore (pc' := 59) (n := 8) (e := ((i : Nat) : Int)) (v := (lI 0)) rfl rfl rfl rfl rfl (by omega) ?_
                refine jv_aload_n (pc' := 60) (k := 0) (x := 38) rfl rfl rfl hf0 ?_
                refine jv_getR (pc' := 63) (c := 6) (k := 4) (v := 45) rfl rfl rfl (fun _ _ => rfl) rfl rfl (jR_38_4 _) ?_
                refine jv_iload_n (pc' := 64) (k := 2) (x := (iI ((i : Nat) : Int))) rfl rfl rfl hf2 ?_
                refine jv_iconst (pc' := 65) (n := 0) rfl rfl ?_
                refine jv_bastore (pc' := 66) (n := 8) (e := ((i : Nat) : Int)) (v := (iI 0)) rfl rfl rfl rfl rfl (by omega) (by first | exact Or.inl rfl | exact Or.inr rfl) ?_
                refine jv_iinc (pc' := 69) (k := 2) (a := ((i : Nat) : Int)) rfl rfl hf2 rfl (Or.inr (congrArg jm_lng hf1)) ?_
                refine jx_step (pc' := 46) rfl ?_
                exact ih (i + 1) (jm_u I2 45 (((i : Nat) : Int) : Int).toNat (iI 0)) (jm_u M2 44 (((i : Nat) : Int) : Int).toNat (lI 0)) (by omega) (by omega) (fr_t f45 (fr_u rfl (fr_r _))) (fr_t f44 (fr_u rfl (fr_r _))) (fun k hk => by
                      by_cases ek : k = i
                      · subst ek; exact ⟨jm_u_eq ⟨rfl, rfl⟩, jm_u_eq ⟨rfl, rfl⟩⟩
                      · exact ⟨(jm_u_n2 (by omega)).trans (h8 k (by omega)).1, (jm_u_n2 (by omega)).trans (h8 k (by omega)).2⟩) _ hf0 hf1 rfl 
          exact H5 _ 0 (jm_u Iq3 38 8 (iI ((pl : Nat) : Int))) M (Nat.lt_succ_self _) (by omega) (fr_r _) (fr_r _) (fun k hk => absurd hk (by omega)) _ rfl rfl rfl 
        · skip
          exact absurd hz_4 (by decide)
      · skip
        obtain ⟨n0, hn2⟩ : ∃ n0 : Nat, s0 0 2 = (n0 : Int) := ⟨(s 0 2).toNat, by omega⟩
        refine jv_call (pc' := 31) rfl (cl_ms_n (I := jm_u I 38 7 (iI ((ln : Nat) : Int))) (M := M) (s := s0) (l := ((ln : Nat) : Int)) (nm := 10) rfl h11 hlim DC0 (by omega) hn2 (by omega)) (fun vq3 gq3 q3 => ?_)
        obtain ⟨Iq3, Mq3, rfl, rfl, rq3, tq3, Dq3⟩ := q3
        have Eq3 : DCe Iq3 Mq3 (dE s ((ln : Nat) : Int) 10 0 0 4) := DCe_dn Dq3 (s12_E h12)
        show jx L xs _ 62 31 _ [.int (iI 0)] _ _
        refine jv_if_ne (t := 36) (pc' := 34) (a := 0) rfl rfl rfl (by omega) (fun hz_16 => ?_) (fun hz_16 => ?_)
        · skip
          exact absurd hz_16 (by decide)
        · skip
          refine jv_iconst (pc' := 35) (n := -1) rfl rfl ?_
          refine jv_retI rfl rfl ⟨_, _, rfl, ?_⟩
          first
          | (exfalso; omega)
          | (obtain ⟨d1, d2, d3⟩ := dE_0 s ((ln : Nat) : Int) 10 0 0 4
             exact ⟨_, _, _, rfl, (rq3 38 11 (by first | omega | simp [wD])).trans rfl, (fr_t (fr_u (by simp [wR]) (fr_r _)) (fr_w rq3 wR_D)), (fr_t (fr_r _) tq3), Eq3, by rw [d3]; omega, fun W _ z => EP_E z (by omega) (by omega) (by omega), Or.inr (Or.inl ⟨rfl, hn0, Or.inl ⟨hst, rfl⟩⟩)⟩)
end D9
