/-! printed by wip/whole/gen/h6.py: operation next -/
theorem CR_F {I I' : Nat → Nat → Int32} {M : Nat → Nat → Int64} {p p' : Nat → Option Nat} {A : AB} (h : CR I M p A) (f : fr wF I I') (hz : ∃ z : Bool, I' 95 5 = iI (ib z)) (hp : ∀ i, i < 21 → p' i = p i) : CR I' M p' A := by
  obtain ⟨hv, d1, ⟨Tl, S, σ, d2, d3, d4⟩, d5, d8, d6, d9, d7⟩ := h
  have hv5 := hv.2.2.2.2.2.2.1
  obtain ⟨_, s, W0, sz, df, h1, h2, h3, h4, h5⟩ := d4
  have hL' : RLy I' p' A Tl S := RLy_w d2 f (fun i hi => hp i (by omega)) (by intro T i k h1 h2; unfold wF; omega)
  refine ⟨hv, CT_fr d1 f (by simp [wF]) (by intro k; simp [wF]), ⟨Tl, S, σ, hL', RFr_w d3 f (fun i h1 h2 => hp i (by omega)) (by intro T i k h1 h2; unfold wF; omega) (by omega), hz, s, W0, sz, df, DCe_F h1 f, h2, h3, (f 0 12 (by simp [wF])).trans h4, ?_⟩, RFo_w d5 f (by intro T i k h1 h2; unfold wF; omega), RSc_w d8 f (by simp [wF]), RFi_w d6 f (by intro l k h1 h2; unfold wF; omega), RTa_w d9 f (fr_r (W := fun _ _ => False) M) (by simp [wF]) (fun _ h => h), RJo_w d7 f (by intro k; simp [wF])⟩
  rcases h5 with h5 | ⟨q, a, b, c, e⟩
  · exact Or.inl h5
  · exact Or.inr ⟨q, a, b, c, EP_Wd e (fun l k hl => f _ _ (by have := (d2.1 l hl).2.1; unfold wF; omega))⟩
/-- filter fq has truth b for frame f -/
def TR (A : AB) (fq f : Nat) (b : Bool) : Prop := ∃ (s : DSt) (W : Nat → Nat → Int) (k : Nat) (y l t : Bool), DEC (acL A) (anL A) (afc A) (afv A) (afn A) (aB A f) (aZ A f) (aLim A) (aRoot A f) s ∧ EP W (aZ A f) s ∧ (0 ≤ s 0 2 ∧ s 0 2 ≤ 64) ∧ VR (acF A fq) s k 0 [(false, true, false)] (anF A fq) [(y, l, t)] ∧ b = (y || l)
def NX (A : AB) (fq f : Nat) (r : Int) : Prop := (∃ k : Nat, f ≤ k ∧ (k : Int) < A 103 12 ∧ (∀ i, f ≤ i → i < k → TR A fq i false) ∧ TR A fq k true ∧ r = (k : Int)) ∨ ((∀ i : Nat, f ≤ i → (i : Int) < A 103 12 → TR A fq i false) ∧ r = -1)
theorem jR86 (p : Nat → Option Nat) {f : Nat} (h : f < 4) : jx_R p 86 f = some (87 + 2 * f) := by
  have : f = 0 ∨ f = 1 ∨ f = 2 ∨ f = 3 := by omega
  rcases this with rfl | rfl | rfl | rfl
  · exact jR_86_0 p
  · exact jR_86_1 p
  · exact jR_86_2 p
  · exact jR_86_3 p
theorem TL_f {f : Nat} (h : f < 4) : TL (87 + 2 * f) := by unfold TL; omega
section H6
variable {L : Nat} {xs : Nat → Int32} {d j : Nat} {I : Nat → Nat → Int32} {M : Nat → Nat → Int64} {p : Nat → Option Nat}
variable {A : AB} {x y : Int} {fq f0 : Nat}
theorem cl_isFilterKnown (hR : CR I M p A) (hfq : fq < 4) : jc L xs d 25 [.ref 0, .int (iI ((fq : Nat) : Int))] (jx_G j I M p) (fun v g1 => v = some (.int (jb (0 < anF A fq))) ∧ g1 = jx_G j I M p) := by
  unfold jc
  have hn := (hR.2.2.2.2.2.1 fq hfq).2.1
  refine jv_aload_n (pc' := 1) (k := 0) (x := 0) rfl rfl rfl rfl ?_
  refine jv_getR (pc' := 4) (c := 0) (k := 5) (v := 86) rfl rfl rfl (fun _ _ => rfl) rfl rfl (jR_0_5 _) ?_
  refine jv_iload_n (pc' := 5) (k := 1) (x := (iI ((fq : Nat) : Int))) rfl rfl rfl rfl ?_
  refine jv_aaload (pc' := 6) (n := 4) (e := ((fq : Nat) : Int)) (v := (87 + 2 * fq)) rfl rfl rfl rfl rfl (by omega) (jR86 _ hfq) ?_
  refine jv_getI (pc' := 9) (c := 1) (k := 1) (v := (iI ((anF A fq : Nat) : Int))) rfl rfl rfl (fun _ _ => rfl) (TL_A (TL_f hfq) j _ _ _) rfl ((hR.2.2.2.2.2.1 fq hfq).1) ?_
  refine jv_if_le (t := 16) (pc' := 12) (a := ((anF A fq : Nat) : Int)) rfl rfl rfl (by omega) (fun h1 => ?_) (fun h1 => ?_)
  · skip
    refine jv_iconst (pc' := 17) (n := 0) rfl rfl ?_
    refine jv_retZ rfl rfl (by first | exact Or.inl rfl | exact Or.inr rfl) ⟨_, _, rfl, ?_⟩
    exact ⟨jq_f (by omega), rfl⟩
  · skip
    refine jv_iconst (pc' := 13) (n := 1) rfl rfl ?_
    refine jx_step (pc' := 17) rfl ?_
    refine jv_retZ rfl rfl (by first | exact Or.inl rfl | exact Or.inr rfl) ⟨_, _, rfl, ?_⟩
    exact ⟨jq_t (by omega), rfl⟩
theorem op_next_t1 (hx : iR x) (hy : iR y) (hbad : ¬ ((0 ≤ x ∧ x < 4) ∧ 0 ≤ y)) : jt L xs (d + 1) 14 [.ref 0, .int (iI x), .int (iI y)] (jx_G j I M p) 50 (fun g1 => g1 = jx_G (j + 1) I M p) := by
  unfold jt
  refine jv_iload_n (pc' := 1) (k := 1) (x := (iI x)) rfl rfl rfl rfl ?_
  refine jv_call (pc' := 4) rfl (cl_isFilter (by omega)) (fun vq1 gq1 q1 => ?_)
  obtain ⟨rfl, rfl⟩ := q1
  show jx L xs _ 14 4 _ [.int (jb (0 ≤ x ∧ x < 4))] _ _
  refine jv_jb_eq (t := 11) (pc' := 7) (P := 0 ≤ x ∧ x < 4) rfl rfl rfl (fun hz_2 => ?_) (fun hz_2 => ?_)
  · skip
    refine jx_ret0 rfl ⟨_, rfl, ?_⟩
    first
    | (exfalso; omega)
    | rfl
  · skip
    refine jv_iload_n (pc' := 8) (k := 2) (x := (iI y)) rfl rfl rfl rfl ?_
    refine jv_if_ge (t := 19) (pc' := 11) (a := y) rfl rfl rfl (by omega) (fun hz_3 => ?_) (fun hz_3 => ?_)
    · skip
      exfalso; omega
    · skip
      refine jx_ret0 rfl ⟨_, rfl, ?_⟩
      first
      | (exfalso; omega)
      | rfl
theorem op_next_t2 (hR : CR I M p A) (hfq : fq < 4) (hy : iR y) (hy0 : 0 ≤ y) (hk : ¬ 0 < anF A fq) : jt L xs (d + 1) 14 [.ref 0, .int (iI ((fq : Nat) : Int)), .int (iI y)] (jx_G j I M p) 53 (fun g1 => g1 = jx_G (j + 1) I M p) := by
  unfold jt
  refine jv_iload_n (pc' := 1) (k := 1) (x := (iI ((fq : Nat) : Int))) rfl rfl rfl rfl ?_
  refine jv_call (pc' := 4) rfl (cl_isFilter (by omega)) (fun vq1 gq1 q1 => ?_)
  obtain ⟨rfl, rfl⟩ := q1
  show jx L xs _ 14 4 _ [.int (jb (0 ≤ ((fq : Nat) : Int) ∧ ((fq : Nat) : Int) < 4))] _ _
  refine jv_jb_eq (t := 11) (pc' := 7) (P := 0 ≤ ((fq : Nat) : Int) ∧ ((fq : Nat) : Int) < 4) rfl rfl rfl (fun hz_2 => ?_) (fun hz_2 => ?_)
  · skip
    exfalso; omega
  · skip
    refine jv_iload_n (pc' := 8) (k := 2) (x := (iI y)) rfl rfl rfl rfl ?_
    refine jv_if_ge (t := 19) (pc' := 11) (a := y) rfl rfl rfl (by omega) (fun hz_3 => ?_) (fun hz_3 => ?_)
    · skip
      refine jv_aload_n (pc' := 20) (k := 0) (x := 0) rfl rfl rfl rfl ?_
      refine jv_iload_n (pc' := 21) (k := 1) (x := (iI ((fq : Nat) : Int))) rfl rfl rfl rfl ?_
      refine jv_call (pc' := 24) rfl (cl_isFilterKnown (fq := fq) hR hfq) (fun vq4 gq4 q4 => ?_)
      obtain ⟨rfl, rfl⟩ := q4
      show jx L xs _ 14 24 _ [.int (jb (0 < anF A fq))] _ _
      refine jv_jb_ne (t := 35) (pc' := 27) (P := 0 < anF A fq) rfl rfl rfl (fun hz_5 => ?_) (fun hz_5 => ?_)
      · skip
        exfalso; omega
      · skip
        refine jx_ret0 rfl ⟨_, rfl, ?_⟩
        first
        | (exfalso; omega)
        | rfl
    · skip
      exfalso; omega
set_option maxHeartbeats 4000000 in
theorem op_next_c (hR : CR I M p A) (hfq : fq < 4) (hf0 : f0 < 2147483648) (hk : 0 < anF A fq) : jc L xs (d + 33) 14 [.ref 0, .int (iI ((fq : Nat) : Int)), .int (iI ((f0 : Nat) : Int))] (jx_G j I M p) (fun v g1 => ∃ (I' : Nat → Nat → Int32) (M' : Nat → Nat → Int64) (p' : Nat → Option Nat) (r : Int), g1 = jx_G j I' M' p' ∧ fr cW I I' ∧ fr cV M M' ∧ CR I' M' p' A ∧ v = some (.int (iI r)) ∧ NX A fq f0 r) := by
  unfold jc
  have hv12 := hR.1.2.2.2.2.2.2.1
  refine jv_iload_n (pc' := 1) (k := 1) (x := (iI ((fq : Nat) : Int))) rfl rfl rfl rfl ?_
  refine jv_call (pc' := 4) rfl (cl_isFilter (by omega)) (fun vq1 gq1 q1 => ?_)
  obtain ⟨rfl, rfl⟩ := q1
  show jx L xs _ 14 4 _ [.int (jb (0 ≤ ((fq : Nat) : Int) ∧ ((fq : Nat) : Int) < 4))] _ _
  refine jv_jb_eq (t := 11) (pc' := 7) (P := 0 ≤ ((fq : Nat) : Int) ∧ ((fq : Nat) : Int) < 4) rfl rfl rfl (fun hz_2 => ?_) (fun hz_2 => ?_)
  · skip
    exfalso; omega
  · skip
    refine jv_iload_n (pc' := 8) (k := 2) (x := (iI ((f0 : Nat) : Int))) rfl rfl rfl rfl ?_
    refine jv_if_ge (t := 19) (pc' := 11) (a := ((f0 : Nat) : Int)) rfl rfl rfl (by omega) (fun hz_3 => ?_) (fun hz_3 => ?_)
    · skip
      refine jv_aload_n (pc' := 20) (k := 0) (x := 0) rfl rfl rfl rfl ?_
      refine jv_iload_n (pc' := 21) (k := 1) (x := (iI ((fq : Nat) : Int))) rfl rfl rfl rfl ?_
      refine jv_call (pc' := 24) rfl (cl_isFilterKnown (fq := fq) hR hfq) (fun vq4 gq4 q4 => ?_)
      obtain ⟨rfl, rfl⟩ := q4
      show jx L xs _ 14 24 _ [.int (jb (0 < anF A fq))] _ _
      refine jv_jb_ne (t := 35) (pc' := 27) (P := 0 < anF A fq) rfl rfl rfl (fun hz_5 => ?_) (fun hz_5 => ?_)
      · skip
        refine jv_iload_n (pc' := 36) (k := 2) (x := (iI ((f0 : Nat) : Int))) rfl rfl rfl rfl ?_
        refine jv_istore_n (pc' := 37) (k := 3) (x := (iI ((f0 : Nat) : Int))) rfl rfl rfl rfl (Or.inr rfl) ?_
        have H6 : ∀ (N : Nat) (k : Nat) (I1 : Nat → Nat → Int32) (M1 : Nat → Nat → Int64) (P1 : Nat → Option Nat), 12 - k < N → (f0 ≤ k ∧ k < 2147483648) → (fr cW I I1) → (fr cV M M1) → (CR I1 M1 P1 A) → (∀ i, f0 ≤ i → i < k → TR A fq i false) → ∀ f : jm_F, f 0 = some (.ref 0) → f 1 = some (.int (iI ((fq : Nat) : Int))) → f 2 = some (.int (iI ((f0 : Nat) : Int))) → f 3 = some (.int (iI ((k : Nat) : Int))) → jx L xs ((d + 33)) 14 37 f [] (jx_G j I1 M1 P1) (fun z => ∃ v g1, z = (.inl v, g1) ∧ (fun v g1 => ∃ (I' : Nat → Nat → Int32) (M' : Nat → Nat → Int64) (p' : Nat → Option Nat) (r : Int), g1 = jx_G j I' M' p' ∧ fr cW I I' ∧ fr cV M M' ∧ CR I' M' p' A ∧ v = some (.int (iI r)) ∧ NX A fq f0 r) v g1) := by
          intro N
          induction N with
          | zero => intro k I1 M1 P1 hN; exact absurd hN (Nat.not_lt_zero _)
          | succ N ih =>
            intro k I1 M1 P1 hN hk0 hf hm hR1 hno f hf0 hf1 hf2 hf3 
            refine jv_iload_n (pc' := 38) (k := 3) (x := (iI ((k : Nat) : Int))) rfl rfl rfl hf3 ?_
            refine jv_aload_n (pc' := 39) (k := 0) (x := 0) rfl rfl rfl hf0 ?_
            refine jv_getI (pc' := 42) (c := 0) (k := 10) (v := (iI (A 103 12))) rfl rfl rfl (fun _ _ => rfl) rfl rfl hR1.2.2.2.2.1.1 ?_
            refine jv_ic_ge (t := 74) (pc' := 45) (a := ((k : Nat) : Int)) (b := (A 103 12)) rfl rfl rfl (by omega) (fun hz_7 => ?_) (fun hz_7 => ?_)
            · skip
              refine jv_iconst (pc' := 75) (n := -1) rfl rfl ?_
              refine jv_retI rfl rfl ⟨_, _, rfl, ?_⟩
              first
              | (exfalso; omega)
              | exact ⟨_, _, _, -1, rfl, hf, hm, hR1, rfl, Or.inr ⟨fun i h1 h2 => hno i h1 (by omega), rfl⟩⟩
            · skip
              refine jv_aload_n (pc' := 46) (k := 0) (x := 0) rfl rfl rfl hf0 ?_
              refine jv_getR (pc' := 49) (c := 0) (k := 6) (v := 95) rfl rfl rfl (fun _ _ => rfl) rfl rfl (jR_0_6 _) ?_
              refine jv_aload_n (pc' := 50) (k := 0) (x := 0) rfl rfl rfl hf0 ?_
              refine jv_getR (pc' := 53) (c := 0) (k := 5) (v := 86) rfl rfl rfl (fun _ _ => rfl) rfl rfl (jR_0_5 _) ?_
              refine jv_iload_n (pc' := 54) (k := 1) (x := (iI ((fq : Nat) : Int))) rfl rfl rfl hf1 ?_
              refine jv_aaload (pc' := 55) (n := 4) (e := ((fq : Nat) : Int)) (v := (87 + 2 * fq)) rfl rfl rfl rfl rfl (by omega) (jR86 _ hfq) ?_
              refine jv_aload_n (pc' := 56) (k := 0) (x := 0) rfl rfl rfl hf0 ?_
              refine jv_iload_n (pc' := 57) (k := 3) (x := (iI ((k : Nat) : Int))) rfl rfl rfl hf3 ?_
              refine jv_call (pc' := 60) rfl (cl_entriesOf (I := I1) (M := M1) (p := P1) (f := k) hR1 (by omega)) (fun vq8 gq8 q8 => ?_)
              obtain ⟨I2, M2, p2, rfl, rfl, r2, t2, _, s2, N2⟩ := q8
              show jx L xs _ 14 60 _ [.ref 39, .ref (87 + 2 * fq), .ref 95] _ _
              obtain ⟨Tl2, S2, hL2, hE2⟩ := N2.2.2.2.2.2
              have htz2 := (N2.1.2.2.1.elim (fun _ h => h.elim (fun _ h => h.elim (fun _ h => h.2.2.1))))
              obtain ⟨iq, eq, hQ⟩ := (N2.1.1.2.2.1 fq hfq).2.2 (by unfold anF at hk; omega)
              refine jv_call (pc' := 63) rfl (cl_isTrue (I := I2) (M := M2) (p := p2) (s := s2) (TL_f hfq) (N2.1.2.2.2.2.2.1 fq hfq) N2.2.1 hE2 N2.2.2.2.1 htz2 hQ) (fun vq9 gq9 q9 => ?_)
              obtain ⟨I3, kv, y0, l0, t0, rfl, r3, tz3, hV, rfl⟩ := q9
              have hR3 := CR_F N2.1 r3 tz3 (p' := (fun q => if q = 22 then some 39 else if q = 21 then some (87 + 2 * fq) else p2 q)) (fun i hi => (if_neg (by omega)).trans (if_neg (by omega)))
              have hTR : TR A fq k (y0 || l0) := ⟨s2, _, kv, y0, l0, t0, N2.2.2.1, hE2, N2.2.2.2.1, hV, rfl⟩
              show jx L xs _ 14 63 _ [.int (jb ((y0 || l0) = true))] _ _
              refine jv_jb_eq (t := 68) (pc' := 66) (P := (y0 || l0) = true) rfl rfl rfl (fun hz_10 => ?_) (fun hz_10 => ?_)
              · skip
                refine jv_iinc (pc' := 71) (k := 3) (a := ((k : Nat) : Int)) rfl rfl hf3 rfl (Or.inr (congrArg jm_lng hf2)) ?_
                refine jx_step (pc' := 37) rfl ?_
                exact ih (k + 1) I3 M2 (fun q => if q = 22 then some 39 else if q = 21 then some (87 + 2 * fq) else p2 q) (by omega) (by omega) (fr_t (fr_t hf r2) (fr_w r3 (fun l k h => by unfold wF at h; unfold cW; omega))) (fr_t hm t2) hR3 (fun i h1 h2 => by
                      by_cases e : i = k
                      · subst e
                        have hq : (y0 || l0) = false := by simpa using (by assumption : ¬ (y0 || l0) = true)
                        rw [← hq]; exact hTR
                      · exact hno i h1 (by omega)) _ hf0 hf1 hf2 rfl 
              · skip
                refine jv_iload_n (pc' := 67) (k := 3) (x := (iI ((k : Nat) : Int))) rfl rfl rfl hf3 ?_
                refine jv_retI rfl rfl ⟨_, _, rfl, ?_⟩
                have hb2 : TR A fq k true := by
                  have hq : (y0 || l0) = true := by first | assumption | (exact Classical.not_not.1 (by assumption))
                  rw [← hq]; exact hTR
                exact ⟨_, _, _, (k : Int), rfl, (fr_t (fr_t hf r2) (fr_w r3 (fun l k h => by unfold wF at h; unfold cW; omega))), (fr_t hm t2), hR3, rfl, Or.inl ⟨k, by omega, by omega, hno, hb2, rfl⟩⟩
        exact H6 _ f0 I M p (Nat.lt_succ_self _) (by omega) (fr_r _) (fr_r _) hR (fun i h1 h2 => absurd h1 (by omega)) _ rfl rfl rfl rfl 
      · skip
        exfalso; omega
    · skip
      exfalso; omega
theorem TR_det0 : True := trivial
theorem ml_mat {b : Bool} {fi : Nat} (hM : CM I M A) (hv : AV2 A ∧ AV3 A ∧ AV4 A ∧ AV5 A) (hfq : fq < 4) (hf : (fi : Int) < A 103 12) (h : TR A fq fi b) : jc L xs (d + 7) 159 [.ref 103, .int (iI ((fq : Nat) : Int)), .int (iI ((fi : Nat) : Int))] (jx_G j I M p) (fun v g1 => ∃ I' M', g1 = jx_G j I' M' p ∧ v = some (.int (jb (b = true))) ∧ fr mW I I' ∧ fr mV M M' ∧ CM I' M' A ∧ I' 103 0 = I 103 0) := by
  obtain ⟨s, W, k, y, l, t, h1, h2, h3, h4, rfl⟩ := h
  have v5 := hv.2.2.2
  obtain ⟨lk, hlke⟩ : ∃ lk : Nat, A 113 fi = ((lk : Nat) : Int) := ⟨(A 113 fi).toNat, by have := (v5.2.2.2 fi hf).1; omega⟩
  have hlk : lk < 2 := by have := (v5.2.2.2 fi hf).1; omega
  have hrt : aRoot A fi = A 109 lk := by unfold aRoot; rw [hlke]; rfl
  refine jc_mono (ml_matches (lk := lk) (root := aRoot A fi) (MD_of hM ⟨hv.1, hv.2.2.1, v5⟩ hf) ((hM.1 113 fi (by simp [pers])).trans (congrArg iI hlke)) hlk (by rw [hrt]; exact hM.1 109 lk (by simp [pers])) (by rw [hrt]; exact v5.1 lk hlk) h1 h2 h3 (MFL_of hM hv.2.1) (TXS_F hv.2.1) hfq h4) (fun v g1 q => ?_)
  obtain ⟨I', M', rfl, rfl, r, tt, D, hin⟩ := q
  exact ⟨I', M', rfl, rfl, fr_w r (fun l k h => by unfold wB wA at h; unfold mW; omega), fr_w tt (fun l k h => by unfold wN at h; unfold mV; omega), CM_fr hM r tt (fun l k hp => by unfold pers at hp; unfold wB wA; omega) (fun l k hl => by unfold wN; omega), r 103 0 (by simp [wB, wA])⟩
theorem op_next_b1 (hM : CM I M A) (hv : AV2 A ∧ AV3 A ∧ AV4 A ∧ AV5 A) (hx : iR x) (hy : iR y) (hbad : ¬ ((0 ≤ x ∧ x < 4) ∧ 0 ≤ y)) : jc L xs (d + 1) 162 [.ref 103, .int (iI x), .int (iI y)] (jx_G j I M p) (fun v g1 => ∃ I' M', g1 = jx_G j I' M' p ∧ fr mW I I' ∧ fr mV M M' ∧ CM I' M' A ∧ I' 103 0 = iI 1) := by
  unfold jc
  refine jv_aload_n (pc' := 1) (k := 0) (x := 103) rfl rfl rfl rfl ?_
  refine jv_iload_n (pc' := 2) (k := 1) (x := (iI x)) rfl rfl rfl rfl ?_
  refine jv_call (pc' := 5) rfl (ml_noLayer (by omega)) (fun vq1 gq1 q1 => ?_)
  obtain ⟨rfl, rfl⟩ := q1
  show jx L xs _ 162 5 _ [.int (jb (x < 0 ∨ 3 < x)), .ref 103] _ _
  refine jv_jb_ne (t := 12) (pc' := 8) (P := x < 0 ∨ 3 < x) rfl rfl rfl (fun hz_2 => ?_) (fun hz_2 => ?_)
  · skip
    refine jv_iconst (pc' := 13) (n := 1) rfl rfl ?_
    refine jx_step (pc' := 30) rfl ?_
    refine jv_putI (pc' := 33) (c := 12) (k := 0) rfl rfl rfl rfl (fun _ _ _  => rfl) rfl rfl ?_
    refine jv_aload_n (pc' := 34) (k := 0) (x := 103) rfl rfl rfl rfl ?_
    refine jv_getI (pc' := 37) (c := 12) (k := 0) (v := (iI 1)) rfl rfl rfl (fun _ _ => rfl) rfl rfl rfl ?_
    refine jv_if_le (t := 42) (pc' := 40) (a := 1) rfl rfl rfl (by omega) (fun hz_3 => ?_) (fun hz_3 => ?_)
    · skip
      exact absurd hz_3 (by decide)
    · skip
      refine jv_iconst (pc' := 41) (n := 0) rfl rfl ?_
      refine jv_retI rfl rfl ⟨_, _, rfl, ?_⟩
      first
      | (exfalso; omega)
      | exact ⟨_, _, rfl, (fr_u (by simp [mW]) (fr_r _)), fr_r _, CM_n hM (by simp [pers]), rfl⟩
  · skip
    refine jv_iload_n (pc' := 9) (k := 2) (x := (iI y)) rfl rfl rfl rfl ?_
    refine jv_if_ge (t := 16) (pc' := 12) (a := y) rfl rfl rfl (by omega) (fun hz_4 => ?_) (fun hz_4 => ?_)
    · skip
      exfalso; omega
    · skip
      refine jv_iconst (pc' := 13) (n := 1) rfl rfl ?_
      refine jx_step (pc' := 30) rfl ?_
      refine jv_putI (pc' := 33) (c := 12) (k := 0) rfl rfl rfl rfl (fun _ _ _  => rfl) rfl rfl ?_
      refine jv_aload_n (pc' := 34) (k := 0) (x := 103) rfl rfl rfl rfl ?_
      refine jv_getI (pc' := 37) (c := 12) (k := 0) (v := (iI 1)) rfl rfl rfl (fun _ _ => rfl) rfl rfl rfl ?_
      refine jv_if_le (t := 42) (pc' := 40) (a := 1) rfl rfl rfl (by omega) (fun hz_5 => ?_) (fun hz_5 => ?_)
      · skip
        exact absurd hz_5 (by decide)
      · skip
        refine jv_iconst (pc' := 41) (n := 0) rfl rfl ?_
        refine jv_retI rfl rfl ⟨_, _, rfl, ?_⟩
        first
        | (exfalso; omega)
        | exact ⟨_, _, rfl, (fr_u (by simp [mW]) (fr_r _)), fr_r _, CM_n hM (by simp [pers]), rfl⟩
theorem op_next_b2 (hM : CM I M A) (hv : AV2 A ∧ AV3 A ∧ AV4 A ∧ AV5 A) (hfq : fq < 4) (hy : iR y) (hy0 : 0 ≤ y) (hk : ¬ 0 < anF A fq) : jc L xs (d + 1) 162 [.ref 103, .int (iI ((fq : Nat) : Int)), .int (iI y)] (jx_G j I M p) (fun v g1 => ∃ I' M', g1 = jx_G j I' M' p ∧ fr mW I I' ∧ fr mV M M' ∧ CM I' M' A ∧ I' 103 0 = iI 2) := by
  unfold jc
  have h108 := (hv.2.1 fq hfq).1
  unfold anF at hk
  refine jv_aload_n (pc' := 1) (k := 0) (x := 103) rfl rfl rfl rfl ?_
  refine jv_iload_n (pc' := 2) (k := 1) (x := (iI ((fq : Nat) : Int))) rfl rfl rfl rfl ?_
  refine jv_call (pc' := 5) rfl (ml_noLayer (by omega)) (fun vq1 gq1 q1 => ?_)
  obtain ⟨rfl, rfl⟩ := q1
  show jx L xs _ 162 5 _ [.int (jb (((fq : Nat) : Int) < 0 ∨ 3 < ((fq : Nat) : Int))), .ref 103] _ _
  refine jv_jb_ne (t := 12) (pc' := 8) (P := ((fq : Nat) : Int) < 0 ∨ 3 < ((fq : Nat) : Int)) rfl rfl rfl (fun hz_2 => ?_) (fun hz_2 => ?_)
  · skip
    exfalso; omega
  · skip
    refine jv_iload_n (pc' := 9) (k := 2) (x := (iI y)) rfl rfl rfl rfl ?_
    refine jv_if_ge (t := 16) (pc' := 12) (a := y) rfl rfl rfl (by omega) (fun hz_3 => ?_) (fun hz_3 => ?_)
    · skip
      refine jv_aload_n (pc' := 17) (k := 0) (x := 103) rfl rfl rfl rfl ?_
      refine jv_getR (pc' := 20) (c := 12) (k := 6) (v := 108) rfl rfl rfl (fun _ _ => rfl) rfl rfl (jR_103_6 _) ?_
      refine jv_iload_n (pc' := 21) (k := 1) (x := (iI ((fq : Nat) : Int))) rfl rfl rfl rfl ?_
      refine jv_iaload (pc' := 22) (n := 4) (e := ((fq : Nat) : Int)) (v := (iI (A 108 fq))) rfl rfl (by decide) rfl rfl rfl (by omega) (hM.1 108 fq (by simp [pers])) ?_
      refine jv_if_ne (t := 29) (pc' := 25) (a := (A 108 fq)) rfl rfl rfl (by omega) (fun hz_4 => ?_) (fun hz_4 => ?_)
      · skip
        exfalso; omega
      · skip
        refine jv_iconst (pc' := 26) (n := 2) rfl rfl ?_
        refine jx_step (pc' := 30) rfl ?_
        refine jv_putI (pc' := 33) (c := 12) (k := 0) rfl rfl rfl rfl (fun _ _ _  => rfl) rfl rfl ?_
        refine jv_aload_n (pc' := 34) (k := 0) (x := 103) rfl rfl rfl rfl ?_
        refine jv_getI (pc' := 37) (c := 12) (k := 0) (v := (iI 2)) rfl rfl rfl (fun _ _ => rfl) rfl rfl rfl ?_
        refine jv_if_le (t := 42) (pc' := 40) (a := 2) rfl rfl rfl (by omega) (fun hz_5 => ?_) (fun hz_5 => ?_)
        · skip
          exact absurd hz_5 (by decide)
        · skip
          refine jv_iconst (pc' := 41) (n := 0) rfl rfl ?_
          refine jv_retI rfl rfl ⟨_, _, rfl, ?_⟩
          first
          | (exfalso; omega)
          | exact ⟨_, _, rfl, (fr_u (by simp [mW]) (fr_r _)), fr_r _, CM_n hM (by simp [pers]), rfl⟩
    · skip
      exfalso; omega
theorem NX_s {k : Nat} {r : Int} (h : NX A fq k r) (hk : (k : Int) < A 103 12) : ∃ b : Bool, TR A fq k b ∧ (b = true → r = (k : Int)) ∧ (b = false → NX A fq (k + 1) r) := by
  rcases h with ⟨m, h1, h2, h3, h4, h5⟩ | ⟨h1, h2⟩
  · by_cases e : m = k
    · subst e; exact ⟨true, h4, fun _ => h5, fun z => (by cases z)⟩
    · exact ⟨false, h3 k (by omega) (by omega), fun z => (by cases z), fun _ => Or.inl ⟨m, by omega, h2, fun i q1 q2 => h3 i (by omega) q2, h4, h5⟩⟩
  · exact ⟨false, h1 k (by omega) hk, fun z => (by cases z), fun _ => Or.inr ⟨fun i q1 q2 => h1 i (by omega) q2, h2⟩⟩
theorem NX_e {k : Nat} {r : Int} (h : NX A fq k r) (hk : ¬ (k : Int) < A 103 12) : r = -1 := by
  rcases h with ⟨m, h1, h2, _⟩ | ⟨_, h2⟩
  · omega
  · exact h2
theorem op_next_m (hM : CM I M A) (hv : AV2 A ∧ AV3 A ∧ AV4 A ∧ AV5 A) {r : Int} (hfq : fq < 4) (hf0 : f0 < 2147483648) (hk : 0 < anF A fq) (hNX : NX A fq f0 r) : jc L xs (d + 8) 162 [.ref 103, .int (iI ((fq : Nat) : Int)), .int (iI ((f0 : Nat) : Int))] (jx_G j I M p) (fun v g1 => ∃ I' M', g1 = jx_G j I' M' p ∧ fr mW I I' ∧ fr mV M M' ∧ CM I' M' A ∧ I' 103 0 = iI 0 ∧ v = some (.int (iI r))) := by
  unfold jc
  have h108 := (hv.2.1 fq hfq).1
  unfold anF at hk
  have hv12 := hv.2.2.2.2.2.1
  refine jv_aload_n (pc' := 1) (k := 0) (x := 103) rfl rfl rfl rfl ?_
  refine jv_iload_n (pc' := 2) (k := 1) (x := (iI ((fq : Nat) : Int))) rfl rfl rfl rfl ?_
  refine jv_call (pc' := 5) rfl (ml_noLayer (by omega)) (fun vq1 gq1 q1 => ?_)
  obtain ⟨rfl, rfl⟩ := q1
  show jx L xs _ 162 5 _ [.int (jb (((fq : Nat) : Int) < 0 ∨ 3 < ((fq : Nat) : Int))), .ref 103] _ _
  refine jv_jb_ne (t := 12) (pc' := 8) (P := ((fq : Nat) : Int) < 0 ∨ 3 < ((fq : Nat) : Int)) rfl rfl rfl (fun hz_2 => ?_) (fun hz_2 => ?_)
  · skip
    exfalso; omega
  · skip
    refine jv_iload_n (pc' := 9) (k := 2) (x := (iI ((f0 : Nat) : Int))) rfl rfl rfl rfl ?_
    refine jv_if_ge (t := 16) (pc' := 12) (a := ((f0 : Nat) : Int)) rfl rfl rfl (by omega) (fun hz_3 => ?_) (fun hz_3 => ?_)
    · skip
      refine jv_aload_n (pc' := 17) (k := 0) (x := 103) rfl rfl rfl rfl ?_
      refine jv_getR (pc' := 20) (c := 12) (k := 6) (v := 108) rfl rfl rfl (fun _ _ => rfl) rfl rfl (jR_103_6 _) ?_
      refine jv_iload_n (pc' := 21) (k := 1) (x := (iI ((fq : Nat) : Int))) rfl rfl rfl rfl ?_
      refine jv_iaload (pc' := 22) (n := 4) (e := ((fq : Nat) : Int)) (v := (iI (A 108 fq))) rfl rfl (by decide) rfl rfl rfl (by omega) (hM.1 108 fq (by simp [pers])) ?_
      refine jv_if_ne (t := 29) (pc' := 25) (a := (A 108 fq)) rfl rfl rfl (by omega) (fun hz_4 => ?_) (fun hz_4 => ?_)
      · skip
        refine jv_iconst (pc' := 30) (n := 0) rfl rfl ?_
        refine jv_putI (pc' := 33) (c := 12) (k := 0) rfl rfl rfl rfl (fun _ _ _  => rfl) rfl rfl ?_
        refine jv_aload_n (pc' := 34) (k := 0) (x := 103) rfl rfl rfl rfl ?_
        refine jv_getI (pc' := 37) (c := 12) (k := 0) (v := (iI 0)) rfl rfl rfl (fun _ _ => rfl) rfl rfl rfl ?_
        refine jv_if_le (t := 42) (pc' := 40) (a := 0) rfl rfl rfl (by omega) (fun hz_5 => ?_) (fun hz_5 => ?_)
        · skip
          refine jv_iload_n (pc' := 43) (k := 2) (x := (iI ((f0 : Nat) : Int))) rfl rfl rfl rfl ?_
          refine jv_istore_n (pc' := 44) (k := 3) (x := (iI ((f0 : Nat) : Int))) rfl rfl rfl rfl (Or.inr rfl) ?_
          have H6 : ∀ (N : Nat) (k : Nat) (I1 : Nat → Nat → Int32) (M1 : Nat → Nat → Int64), 12 - k < N → (k < 2147483648) → (fr mW I I1) → (fr mV M M1) → (CM I1 M1 A) → (I1 103 0 = iI 0) → (NX A fq k r) → ∀ f : jm_F, f 0 = some (.ref 103) → f 1 = some (.int (iI ((fq : Nat) : Int))) → f 2 = some (.int (iI ((f0 : Nat) : Int))) → f 3 = some (.int (iI ((k : Nat) : Int))) → jx L xs ((d + 8)) 162 44 f [] (jx_G j I1 M1 p) (fun z => ∃ v g1, z = (.inl v, g1) ∧ (fun v g1 => ∃ I' M', g1 = jx_G j I' M' p ∧ fr mW I I' ∧ fr mV M M' ∧ CM I' M' A ∧ I' 103 0 = iI 0 ∧ v = some (.int (iI r))) v g1) := by
            intro N
            induction N with
            | zero => intro k I1 M1 hN; exact absurd hN (Nat.not_lt_zero _)
            | succ N ih =>
              intro k I1 M1 hN hkb hf hm hM1 h0 hNX f hf0 hf1 hf2 hf3 
              refine jv_iload_n (pc' := 45) (k := 3) (x := (iI ((k : Nat) : Int))) rfl rfl rfl hf3 ?_
              refine jv_aload_n (pc' := 46) (k := 0) (x := 103) rfl rfl rfl hf0 ?_
              refine jv_getI (pc' := 49) (c := 12) (k := 12) (v := (iI (A 103 12))) rfl rfl rfl (fun _ _ => rfl) rfl rfl (hM1.1 103 12 (by simp [pers])) ?_
              refine jv_ic_ge (t := 69) (pc' := 52) (a := ((k : Nat) : Int)) (b := (A 103 12)) rfl rfl rfl (by omega) (fun hz_7 => ?_) (fun hz_7 => ?_)
              · skip
                refine jv_iconst (pc' := 70) (n := -1) rfl rfl ?_
                refine jv_retI rfl rfl ⟨_, _, rfl, ?_⟩
                first
                | (exfalso; omega)
                | (have er := NX_e hNX (by omega)
                   subst er
                   exact ⟨_, _, rfl, hf, hm, hM1, h0, rfl⟩)
              · skip
                refine jv_aload_n (pc' := 53) (k := 0) (x := 103) rfl rfl rfl hf0 ?_
                refine jv_iload_n (pc' := 54) (k := 1) (x := (iI ((fq : Nat) : Int))) rfl rfl rfl hf1 ?_
                refine jv_iload_n (pc' := 55) (k := 3) (x := (iI ((k : Nat) : Int))) rfl rfl rfl hf3 ?_
                obtain ⟨b, hTb, hb1, hb2⟩ := NX_s hNX (by omega)
                refine jv_call (pc' := 58) rfl (ml_mat (I := I1) (M := M1) (b := b) (fi := k) hM1 hv hfq (by omega) hTb) (fun vq8 gq8 q8 => ?_)
                obtain ⟨I2, M2, rfl, rfl, r2, t2, C2, z2⟩ := q8
                show jx L xs _ 162 58 _ [.int (jb (b = true))] _ _
                refine jv_jb_eq (t := 63) (pc' := 61) (P := b = true) rfl rfl rfl (fun hz_9 => ?_) (fun hz_9 => ?_)
                · skip
                  refine jv_iinc (pc' := 66) (k := 3) (a := ((k : Nat) : Int)) rfl rfl hf3 rfl (Or.inr (congrArg jm_lng hf2)) ?_
                  refine jx_step (pc' := 44) rfl ?_
                  exact ih (k + 1) I2 M2 (by omega) (by omega) (fr_t hf r2) (fr_t hm t2) C2 (z2.trans h0) (hb2 (by simpa using (by assumption : ¬ b = true))) _ hf0 hf1 hf2 rfl 
                · skip
                  refine jv_iload_n (pc' := 62) (k := 3) (x := (iI ((k : Nat) : Int))) rfl rfl rfl hf3 ?_
                  refine jv_retI rfl rfl ⟨_, _, rfl, ?_⟩
                  first
                  | (exfalso; omega)
                  | (have er := hb1 (by first | assumption | exact Classical.not_not.1 (by assumption))
                     subst er
                     exact ⟨_, _, rfl, (fr_t hf r2), (fr_t hm t2), C2, z2.trans h0, rfl⟩)
          exact H6 _ f0 (jm_u I 103 0 (iI 0)) M (Nat.lt_succ_self _) (by omega) (fr_u (by simp [mW]) (fr_r _)) (fr_r _) (CM_n hM (by simp [pers])) rfl hNX _ rfl rfl rfl rfl 
        · skip
          exact absurd hz_5 (by decide)
      · skip
        exfalso; omega
    · skip
      exfalso; omega
end H6
