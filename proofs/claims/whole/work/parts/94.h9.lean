/-! printed by wip/whole/gen/h9.py: operation layer -/
theorem jmi42 {f : Nat} (h : f < 4) : jx_mi 42 ((f : Nat) : Int).toNat = some (13 + f) := by
  have : f = 0 ∨ f = 1 ∨ f = 2 ∨ f = 3 := by omega
  rcases this with rfl | rfl | rfl | rfl <;> rfl
theorem LAY_0 {I : Nat → Nat → Int32} {T : Nat} {c : Nat → Int} {n : Nat} (h : LAY I T c n) (hn : ∀ k, n ≤ k → c k = -1) : 0 < n := by
  obtain ⟨Y, m, q, e, ch, _, hm, hI, _⟩ := h
  have h0 : c 0 ≠ -1 := by
    cases q with
    | zero => exact absurd hI.1 (by omega)
    | succ q =>
      rcases hI with ⟨a, _⟩ | ⟨_, e1, a⟩
      · exact absurd a (by omega)
      · rcases a with ⟨a, _⟩ | ⟨a, _⟩ | ⟨b1, e2, g, a, _⟩
        · have := a.1; omega
        · have := a.1; omega
        · rcases a with a | a
          · have := a.1; omega
          · have := a.1; omega
  by_cases e0 : 0 < n
  · exact e0
  · exact absurd (hn 0 (by omega)) h0
theorem LAY_fr {W : Nat → Nat → Prop} {I I' : Nat → Nat → Int32} {T : Nat} {c : Nat → Int} {n : Nat} (h : LAY I T c n) (f : fr W I I') (hW : ∀ l k, T ≤ l → l ≤ T + 6 → ¬ W l k) : LAY I' T c n := by
  obtain ⟨Y, m, q, e, ch, b1, b2, b3, b4, b5, b6⟩ := h
  exact ⟨Y, m, q, e, ch, LB_fr b1 f hW, b2, b3, b4, (f _ _ (hW _ _ (by omega) (by omega))).trans b5, b6⟩
theorem CR_sp {I I' : Nat → Nat → Int32} {M : Nat → Nat → Int64} {p p' : Nat → Option Nat} {A : AB} {S : Nat} (h : CR I M p A) (hp0 : p 0 = some S) (f : fr (wC S) I I') (hp : ∀ i, i ≠ 19 → i ≠ 20 → p' i = p i) : CR I' M p' A := by
  obtain ⟨hv, d1, ⟨Tl, S0, σ, d2, d3, d4⟩, d5, d8, d6, d9, d7⟩ := h
  have hv5 := hv.2.2.2.2.2.2.1
  obtain rfl : S0 = S := Option.some.inj (d2.2.1.symm.trans hp0)
  have hS := d2.2.2.1
  have hne := d2.2.2.2.1
  have hL' : RLy I' p' A Tl S0 := ⟨LYS_w d2.1 f (fun i h1 h2 => hp i (by omega) (by omega)) (fun l i k hl hi => by have a := (d2.1 l hl).2.1; have b := hne l hl; unfold wC; omega), (hp 0 (by omega) (by omega)).trans d2.2.1, d2.2.2⟩
  have y1 := RFr_w (p' := p') d3 f (fun i h1 h2 => hp i (by omega) (by omega)) (by intro T i k h1 h2; unfold wC; omega) (by omega)
  have y2 := RFo_w d5 f (by intro T i k h1 h2; unfold wC; omega)
  obtain ⟨⟨z, hz⟩, s, W0, sz, df, h1, h2, h3, h4, h5⟩ := d4
  refine ⟨hv, CT_fr d1 f (by unfold wC; omega) (by intro k; unfold wC; omega), ⟨Tl, S0, σ, hL', y1, ⟨z, (f 95 5 (by unfold wC; omega)).trans hz⟩, s, W0, sz, df, DCe_fr h1 f (fr_r (W := fun _ _ => False) M) ⟨by unfold wC; omega, by unfold wC; omega, by unfold wC; omega, by intro k; unfold wC; omega⟩ (fun _ h => h), h2, h3, (f 0 12 (by unfold wC; omega)).trans h4, ?_⟩, y2, RSc_w d8 f ⟨by unfold wC; omega, by unfold wC; omega, by intro k; unfold wC; omega⟩, RFi_w d6 f (by intro l k h1 h2; unfold wC; omega), RTa_w d9 f (fr_r (W := fun _ _ => False) M) ⟨by unfold wC; omega, by intro k; unfold wC; omega⟩ (fun _ h => h), RJo_w d7 f (by intro k; unfold wC; omega)⟩
  rcases h5 with h5 | ⟨q, a, b, c, e⟩
  · exact Or.inl h5
  · exact Or.inr ⟨q, a, b, c, EP_Wd e (fun l k hl => f _ _ (by have := (d2.1 l hl).2.1; have b := hne l hl; unfold wC; omega))⟩
theorem CR_ly {I I' : Nat → Nat → Int32} {M : Nat → Nat → Int64} {p p' : Nat → Option Nat} {A : AB} {S T l : Nat} (h : CR I M p A) (hl : l < 4) (hp0 : p 0 = some S) (hpl : p (13 + l) = some T) (hLY : LAY I S (aC A) (aN A)) (f : fr (fun l k => (l = 1 ∧ k = 1) ∨ wG l k) I I') (h1 : I' 1 1 = iI 0) (g1 : I' 98 2 = iI 0) (g2 : ∀ f, f < 12 → I' 100 f = iI (-1)) (g3 : I' 0 12 = iI (-1)) (hq0 : p' 0 = some T) (hql : p' (13 + l) = some S) (hq : ∀ i, i ≠ 0 → i ≠ 13 + l → p' i = p i) : CR I' M p' (jm_u (aTx 105 A l) 103 44 0) := by
  obtain ⟨hv, d1, ⟨Tl, S0, σ, d2, d3, d4⟩, d5, d8, d6, d9, d7⟩ := h
  have hv5 := hv.2.2.2.2.2.2.1
  obtain rfl : S0 = S := Option.some.inj (d2.2.1.symm.trans hp0)
  obtain rfl : Tl l = T := Option.some.inj ((d2.1 l hl).1.symm.trans hpl)
  have hS := d2.2.2.1
  have hne := d2.2.2.2.1
  have hinj := d2.2.2.2.2
  have hn0 : 0 < aN A := LAY_0 hLY d1.2.2.2.2
  have hn80 := aN_80 hv.1
  have LY1 : LYS I' p Tl (acL A) (anL A) := LYS_w d2.1 f (fun _ _ _ => rfl) (fun l i k hl hi => by have a := (d2.1 l hl).2.1; unfold wG; omega)
  have LY2 : RLy I' p' (aTx 105 A l) (fun i => if i = l then S0 else Tl i) (Tl l) := by
    refine ⟨fun i hi => ?_, hq0, (d2.1 l hl).2.1, fun i hi => ?_, fun i i' hi hi' he => ?_⟩
    · by_cases e : i = l
      · subst e
        have e1 : acL (aTx 105 A i) i = aC A := aX_q (T := 105) (Or.inl rfl)
        have e2 : anL (aTx 105 A i) i = aN A := congrArg Int.toNat (aTx_1 (T := 105) (Or.inl rfl))
        rw [e1, e2, show (fun z => if z = i then S0 else Tl z) i = S0 from if_pos rfl]
        exact ⟨hql, hS, hn80, Or.inr ⟨hn0, LAY_fr hLY f (fun l k q1 q2 => by unfold wG; omega)⟩⟩
      · have e0 : aTx 105 A l 106 i = A 106 i := aTx_2 (T := 105) (Or.inl rfl) e
        have e1 : acL (aTx 105 A l) i = acL A i := aX_o (T := 105) (Or.inl rfl) e (hv.2.1 i hi).1.2 hn80
        have e2 : anL (aTx 105 A l) i = anL A i := congrArg Int.toNat e0
        rw [e1, e2, show (fun z => if z = l then S0 else Tl z) i = Tl i from if_neg e]
        obtain ⟨a, b⟩ := LY1 i hi
        exact ⟨(hq _ (by omega) (by omega)).trans a, b⟩
    · by_cases e : i = l
      · rw [show (fun z => if z = l then S0 else Tl z) i = S0 from if_pos e]; exact fun z => hne l hl z.symm
      · rw [show (fun z => if z = l then S0 else Tl z) i = Tl i from if_neg e]; exact fun z => e (hinj i l hi hl z)
    · by_cases e : i = l
      · by_cases e' : i' = l
        · omega
        · have he2 : S0 = Tl i' := (if_pos e).symm.trans (he.trans (if_neg e'))
          exact absurd he2.symm (hne i' hi')
      · by_cases e' : i' = l
        · have he2 : Tl i = S0 := (if_neg e).symm.trans (he.trans (if_pos e'))
          exact absurd he2 (hne i hi)
        · exact hinj i i' hi hi' ((if_neg e).symm.trans (he.trans (if_neg e')))
  have k1 : AV1 (jm_u (aTx 105 A l) 103 44 0) := ⟨⟨Int.le_refl _, (show (0 : Int) ≤ 80 by omega)⟩, fun k hk => absurd (show (k : Int) < 0 from hk) (by omega)⟩
  have k2 : AV2 (jm_u (aTx 105 A l) 103 44 0) := fun i hi => aX_v (T := 105) (q := l) (Or.inl rfl) hv.1 hv.2.1 hi
  have k5 : RDr I' (jm_u (aTx 105 A l) 103 44 0) := ⟨h1, Nat.zero_le _, fun k hk => absurd hk (Nat.not_lt_zero _), fun k hk => absurd hk (Nat.not_lt_zero _), fun k _ => if_neg (show ¬ (k : Int) < 0 by omega)⟩
  have k4 : RTa I' M (jm_u (aTx 105 A l) 103 44 0) := RTa_0 g1 g2 rfl
  have k3 : RLy I' p' (jm_u (aTx 105 A l) 103 44 0) (fun i => if i = l then S0 else Tl i) (Tl l) := LY2
  have k6 : RDe I' M (jm_u (aTx 105 A l) 103 44 0) (fun i => if i = l then S0 else Tl i) := RDe_f d4 f (fr_r (W := fun _ _ => False) M) ⟨by simp [wG], by simp [wG], by simp [wG], by simp [wG], by intro k; simp [wG]⟩ (fun _ h => h) g3
  have gg := (⟨k1, k2, k3, k4, k5, k6⟩ : _ ∧ _ ∧ _ ∧ _ ∧ _ ∧ _)
  have eA : jm_u (aTx 105 A l) 103 44 0 = fun i k => if (i = 103 ∧ (k = 2 ∨ k = 44)) ∨ i = 105 ∨ i = 106 then jm_u (aTx 105 A l) 103 44 0 i k else A i k := by
    funext i k
    split
    · rfl
    next q => exact (jm_u_n2 (by omega)).trans (aTx_5 (by omega))
  rw [eA] at gg ⊢
  obtain ⟨k1, k2, k3, k4, k5, k6⟩ := gg
  exact ⟨⟨k1, k2, hv.2.2⟩, k5, ⟨_, _, σ, k3, RFr_w d3 f (fun i h1 h2 => hq i (by omega) (by omega)) (by intro T i k h1 h2; unfold wG; omega) (show A 103 12 ≤ 12 by omega), k6⟩, RFo_w d5 f (by intro T i k h1 h2; unfold wG; omega), RSc_w d8 f (by simp [wG]), RFi_w d6 f (by intro l k h1 h2; unfold wG; omega), k4, RJo_w d7 f (by intro k; simp [wG])⟩
section H9
variable {L : Nat} {xs : Nat → Int32} {d j : Nat} {I : Nat → Nat → Int32} {M : Nat → Nat → Int64} {p : Nat → Option Nat}
variable {A : AB} {x y : Int} {l S n : Nat} {c : Nat → Int}
theorem cl_readLayer (hS : YL S) (hC : CT I 1 c n) : jc L xs (d + 11) 38 [.ref 10, .ref 1, .ref S] (jx_G j I M p) (fun v g1 => ∃ I', g1 = jx_G j I' M (fun q => if q = 20 then some S else if q = 19 then some 1 else p q) ∧ fr (wC S) I I' ∧ ((v = some (.int (iI (-1))) ∧ LAY I' S c n ∧ ∃ k e, PE c n k 0 0 [false] true e) ∨ (∃ e k : Nat, v = some (.int (iI ((e : Nat) : Int))) ∧ PE c n k 0 0 [false] false e))) := by
  rcases hS with rfl | rfl | rfl | rfl | rfl
  · exact cl_readLayer_3 hC
  · exact cl_readLayer_46 hC
  · exact cl_readLayer_56 hC
  · exact cl_readLayer_66 hC
  · exact cl_readLayer_76 hC
theorem op_layer_t (hx : iR x) (hbad : ¬ (0 ≤ x ∧ x < 4)) : jt L xs (d + 1) 4 [.ref 0, .int (iI x)] (jx_G j I M p) 50 (fun g1 => g1 = jx_G (j + 1) I M p) := by
  unfold jt
  refine jv_iload_n (pc' := 1) (k := 1) (x := (iI x)) rfl rfl rfl rfl ?_
  refine jv_call (pc' := 4) rfl (cl_isLayer (by omega)) (fun vq1 gq1 q1 => ?_)
  obtain ⟨rfl, rfl⟩ := q1
  show jx L xs _ 4 4 _ [.int (jb (0 ≤ x ∧ x < 4))] _ _
  refine jv_jb_ne (t := 15) (pc' := 7) (P := 0 ≤ x ∧ x < 4) rfl rfl rfl (fun hz_2 => ?_) (fun hz_2 => ?_)
  · skip
    exfalso; omega
  · skip
    refine jx_ret0 rfl ⟨_, rfl, ?_⟩
    first
    | (exfalso; omega)
    | rfl
/-- the draft as layer l: the answer, and what is kept then -/
def LAA (A : AB) (l : Nat) (r : Int) (A' : AB) : Prop := (r = -1 ∧ (∃ k e, PE (aC A) (aN A) k 0 0 [false] true e) ∧ A' = jm_u (aTx 105 A l) 103 44 0) ∨ ((∃ e k : Nat, r = (e : Int) ∧ PE (aC A) (aN A) k 0 0 [false] false e) ∧ A' = A)
theorem op_layer_c (hR : CR I M p A) (hl : l < 4) : jc L xs (d + 12) 4 [.ref 0, .int (iI ((l : Nat) : Int))] (jx_G j I M p) (fun v g1 => ∃ (I' : Nat → Nat → Int32) (p' : Nat → Option Nat) (r : Int) (A' : AB), g1 = jx_G j I' M p' ∧ fr cW I I' ∧ v = some (.int (iI r)) ∧ LAA A l r A' ∧ CR I' M p' A') := by
  unfold jc
  have hR0 := hR
  obtain ⟨hv, h1, ⟨Tl, S, σ, h2, h3, h4⟩, h5, hSc, h7, h8, h9⟩ := hR0
  have hp0 := h2.2.1
  have hS := h2.2.2.1
  have hS9 : S < 100 := by omega
  have hpl := (h2.1 l hl).1
  refine jv_iload_n (pc' := 1) (k := 1) (x := (iI ((l : Nat) : Int))) rfl rfl rfl rfl ?_
  refine jv_call (pc' := 4) rfl (cl_isLayer (by omega)) (fun vq1 gq1 q1 => ?_)
  obtain ⟨rfl, rfl⟩ := q1
  show jx L xs _ 4 4 _ [.int (jb (0 ≤ ((l : Nat) : Int) ∧ ((l : Nat) : Int) < 4))] _ _
  refine jv_jb_ne (t := 15) (pc' := 7) (P := 0 ≤ ((l : Nat) : Int) ∧ ((l : Nat) : Int) < 4) rfl rfl rfl (fun hz_2 => ?_) (fun hz_2 => ?_)
  · skip
    refine jv_aload_n (pc' := 16) (k := 0) (x := 0) rfl rfl rfl rfl ?_
    refine jv_getR (pc' := 19) (c := 0) (k := 1) (v := 10) rfl rfl rfl (fun _ _ => rfl) rfl rfl (jR_0_1 _) ?_
    refine jv_aload_n (pc' := 20) (k := 0) (x := 0) rfl rfl rfl rfl ?_
    refine jv_getR (pc' := 23) (c := 0) (k := 0) (v := 1) rfl rfl rfl (fun _ _ => rfl) rfl rfl (jR_0_0 _) ?_
    refine jv_aload_n (pc' := 24) (k := 0) (x := 0) rfl rfl rfl rfl ?_
    refine jv_getR (pc' := 27) (c := 0) (k := 9) (v := S) rfl rfl rfl (fun _ _ => rfl) rfl rfl hp0 ?_
    refine jv_call (pc' := 30) rfl (cl_readLayer (I := I) (M := M) (p := p) (S := S) hS hR.2.1) (fun v1 g1 q1 => ?_)
    obtain ⟨I1, rfl, r1, q1⟩ := q1
    have hR1 : CR I1 M (fun q => if q = 20 then some S else if q = 19 then some 1 else p q) A := CR_sp hR hp0 r1 (fun i h1 h2 => (if_neg h2).trans (if_neg h1))
    rcases q1 with ⟨rfl, hLY, hQ⟩ | ⟨e, i, rfl, hQ⟩
    · skip
      show jx L xs _ 4 30 _ [.int (iI (-1))] _ _
      refine jv_istore_n (pc' := 31) (k := 2) (x := (iI (-1))) rfl rfl rfl rfl (Or.inr rfl) ?_
      refine jv_iload_n (pc' := 32) (k := 2) (x := (iI (-1))) rfl rfl rfl rfl ?_
      refine jv_iconst (pc' := 33) (n := -1) rfl rfl ?_
      refine jv_ic_eq (t := 38) (pc' := 36) (a := (-1)) (b := (-1)) rfl rfl rfl (by omega) (fun hz_3 => ?_) (fun hz_3 => ?_)
      · skip
        refine jv_aload_n (pc' := 39) (k := 0) (x := 0) rfl rfl rfl rfl ?_
        refine jv_getR (pc' := 42) (c := 0) (k := 4) (v := 38) rfl rfl rfl (fun _ _ => rfl) rfl rfl (jR_0_4 _) ?_
        refine jv_getR (pc' := 45) (c := 6) (k := 1) (v := 42) rfl rfl rfl (fun _ _ => rfl) rfl rfl (jR_38_1 _) ?_
        refine jv_iload_n (pc' := 46) (k := 1) (x := (iI ((l : Nat) : Int))) rfl rfl rfl rfl ?_
        refine jv_aaload (pc' := 47) (n := 4) (e := ((l : Nat) : Int)) (v := (Tl l)) rfl rfl rfl rfl rfl (by omega) ((jR42 _ hl).trans ((if_neg (by omega)).trans ((if_neg (by omega)).trans hpl))) ?_
        refine jv_astore_n (pc' := 48) (k := 3) (x := (Tl l)) rfl rfl rfl rfl (Or.inr rfl) ?_
        refine jv_aload_n (pc' := 49) (k := 0) (x := 0) rfl rfl rfl rfl ?_
        refine jv_getR (pc' := 52) (c := 0) (k := 4) (v := 38) rfl rfl rfl (fun _ _ => rfl) rfl rfl (jR_0_4 _) ?_
        refine jv_getR (pc' := 55) (c := 6) (k := 1) (v := 42) rfl rfl rfl (fun _ _ => rfl) rfl rfl (jR_38_1 _) ?_
        refine jv_iload_n (pc' := 56) (k := 1) (x := (iI ((l : Nat) : Int))) rfl rfl rfl rfl ?_
        refine jv_aload_n (pc' := 57) (k := 0) (x := 0) rfl rfl rfl rfl ?_
        refine jv_getR (pc' := 60) (c := 0) (k := 9) (v := S) rfl rfl rfl (fun _ _ => rfl) rfl rfl hp0 ?_
        refine jv_aastore (pc' := 61) (n := 4) (i := 13 + l) (e := ((l : Nat) : Int)) (v := S) rfl rfl rfl (YL_A hS j _ _ _) rfl rfl (by omega) (jmi42 hl) ?_
        refine jv_aload_n (pc' := 62) (k := 0) (x := 0) rfl rfl rfl rfl ?_
        refine jv_aload_n (pc' := 63) (k := 3) (x := (Tl l)) rfl rfl rfl rfl ?_
        refine jv_putR (pc' := 66) (c := 0) (k := 9) (i := 0) rfl rfl rfl rfl (fun _ _ _ => rfl) rfl rfl rfl ?_
        refine jv_aload_n (pc' := 67) (k := 0) (x := 0) rfl rfl rfl rfl ?_
        refine jv_getR (pc' := 70) (c := 0) (k := 0) (v := 1) rfl rfl rfl (fun _ _ => rfl) rfl rfl (jR_0_0 _) ?_
        refine jv_iconst (pc' := 71) (n := 0) rfl rfl ?_
        refine jv_putI (pc' := 74) (c := 1) (k := 1) rfl rfl rfl rfl (fun _ _ _  => rfl) rfl rfl ?_
        refine jv_aload_n (pc' := 75) (k := 0) (x := 0) rfl rfl rfl rfl ?_
        refine jv_call (pc' := 78) rfl (cl_forget (I := jm_u I1 1 1 (iI 0))) (fun vq4 gq4 q4 => ?_)
        obtain ⟨Iq4, rfl, rfl, aq4, bq4, rq4, zq4⟩ := q4
        show jx L xs _ 4 78 _ [] _ _
        refine jv_iconst (pc' := 79) (n := -1) rfl rfl ?_
        refine jv_retI rfl rfl ⟨_, _, rfl, ?_⟩
        have f2 : fr (fun l k => (l = 1 ∧ k = 1) ∨ wG l k) I1 Iq4 := fr_t (fr_u (Or.inl ⟨rfl, rfl⟩) (fr_r _)) (fr_w rq4 (fun l k h => Or.inr h))
        exact ⟨_, _, -1, _, rfl, fr_t (fr_w r1 (fun l k h => by unfold wC at h; unfold cW; omega)) (fr_w f2 (fun l k h => by unfold wG at h; unfold cW; omega)), rfl, Or.inl ⟨rfl, hQ, rfl⟩, CR_ly hR1 hl hp0 ((if_neg (by omega)).trans ((if_neg (by omega)).trans hpl)) hLY f2 ((rq4 1 1 (by simp [wG])).trans rfl) aq4 bq4 zq4 rfl ((if_neg (by omega)).trans (if_pos rfl)) (fun i h1 h2 => (if_neg h1).trans (if_neg h2))⟩
      · skip
        exact absurd hz_3 (by decide)
    · skip
      have heb := PE_b hQ
      show jx L xs _ 4 30 _ [.int (iI ((e : Nat) : Int))] _ _
      refine jv_istore_n (pc' := 31) (k := 2) (x := (iI ((e : Nat) : Int))) rfl rfl rfl rfl (Or.inr rfl) ?_
      refine jv_iload_n (pc' := 32) (k := 2) (x := (iI ((e : Nat) : Int))) rfl rfl rfl rfl ?_
      refine jv_iconst (pc' := 33) (n := -1) rfl rfl ?_
      refine jv_ic_eq (t := 38) (pc' := 36) (a := ((e : Nat) : Int)) (b := (-1)) rfl rfl rfl (by omega) (fun hz_5 => ?_) (fun hz_5 => ?_)
      · skip
        refine jv_aload_n (pc' := 39) (k := 0) (x := 0) rfl rfl rfl rfl ?_
        refine jv_getR (pc' := 42) (c := 0) (k := 4) (v := 38) rfl rfl rfl (fun _ _ => rfl) rfl rfl (jR_0_4 _) ?_
        refine jv_getR (pc' := 45) (c := 6) (k := 1) (v := 42) rfl rfl rfl (fun _ _ => rfl) rfl rfl (jR_38_1 _) ?_
        refine jv_iload_n (pc' := 46) (k := 1) (x := (iI ((l : Nat) : Int))) rfl rfl rfl rfl ?_
        refine jv_aaload (pc' := 47) (n := 4) (e := ((l : Nat) : Int)) (v := (Tl l)) rfl rfl rfl rfl rfl (by omega) ((jR42 _ hl).trans ((if_neg (by omega)).trans ((if_neg (by omega)).trans hpl))) ?_
        refine jv_astore_n (pc' := 48) (k := 3) (x := (Tl l)) rfl rfl rfl rfl (Or.inr rfl) ?_
        refine jv_aload_n (pc' := 49) (k := 0) (x := 0) rfl rfl rfl rfl ?_
        refine jv_getR (pc' := 52) (c := 0) (k := 4) (v := 38) rfl rfl rfl (fun _ _ => rfl) rfl rfl (jR_0_4 _) ?_
        refine jv_getR (pc' := 55) (c := 6) (k := 1) (v := 42) rfl rfl rfl (fun _ _ => rfl) rfl rfl (jR_38_1 _) ?_
        refine jv_iload_n (pc' := 56) (k := 1) (x := (iI ((l : Nat) : Int))) rfl rfl rfl rfl ?_
        refine jv_aload_n (pc' := 57) (k := 0) (x := 0) rfl rfl rfl rfl ?_
        refine jv_getR (pc' := 60) (c := 0) (k := 9) (v := S) rfl rfl rfl (fun _ _ => rfl) rfl rfl hp0 ?_
        refine jv_aastore (pc' := 61) (n := 4) (i := 13 + l) (e := ((l : Nat) : Int)) (v := S) rfl rfl rfl (YL_A hS j _ _ _) rfl rfl (by omega) (jmi42 hl) ?_
        refine jv_aload_n (pc' := 62) (k := 0) (x := 0) rfl rfl rfl rfl ?_
        refine jv_aload_n (pc' := 63) (k := 3) (x := (Tl l)) rfl rfl rfl rfl ?_
        refine jv_putR (pc' := 66) (c := 0) (k := 9) (i := 0) rfl rfl rfl rfl (fun _ _ _ => rfl) rfl rfl rfl ?_
        refine jv_aload_n (pc' := 67) (k := 0) (x := 0) rfl rfl rfl rfl ?_
        refine jv_getR (pc' := 70) (c := 0) (k := 0) (v := 1) rfl rfl rfl (fun _ _ => rfl) rfl rfl (jR_0_0 _) ?_
        refine jv_iconst (pc' := 71) (n := 0) rfl rfl ?_
        refine jv_putI (pc' := 74) (c := 1) (k := 1) rfl rfl rfl rfl (fun _ _ _  => rfl) rfl rfl ?_
        refine jv_aload_n (pc' := 75) (k := 0) (x := 0) rfl rfl rfl rfl ?_
        refine jv_call (pc' := 78) rfl (cl_forget (I := jm_u I1 1 1 (iI 0))) (fun vq6 gq6 q6 => ?_)
        obtain ⟨Iq6, rfl, rfl, aq6, bq6, rq6, zq6⟩ := q6
        show jx L xs _ 4 78 _ [] _ _
        refine jv_iconst (pc' := 79) (n := -1) rfl rfl ?_
        refine jv_retI rfl rfl ⟨_, _, rfl, ?_⟩
        exfalso; omega
      · skip
        refine jv_iload_n (pc' := 37) (k := 2) (x := (iI ((e : Nat) : Int))) rfl rfl rfl rfl ?_
        refine jv_retI rfl rfl ⟨_, _, rfl, ?_⟩
        exact ⟨_, _, (e : Int), A, rfl, fr_w r1 (fun l k h => by unfold wC at h; unfold cW; omega), rfl, Or.inr ⟨⟨e, i, rfl, hQ⟩, rfl⟩, hR1⟩
  · skip
    exfalso; omega
theorem op_layer_b (hM : CM I M A) (hx : iR x) (hbad : ¬ (0 ≤ x ∧ x < 4)) : jc L xs (d + 1) 126 [.ref 103, .int (iI x)] (jx_G j I M p) (fun v g1 => ∃ I', g1 = jx_G j I' M p ∧ fr mW I I' ∧ CM I' M A ∧ I' 103 0 = iI 1) := by
  unfold jc
  refine jv_aload_n (pc' := 1) (k := 0) (x := 103) rfl rfl rfl rfl ?_
  refine jv_iload_n (pc' := 2) (k := 1) (x := (iI x)) rfl rfl rfl rfl ?_
  refine jv_call (pc' := 5) rfl (ml_noLayer (by omega)) (fun vq1 gq1 q1 => ?_)
  obtain ⟨rfl, rfl⟩ := q1
  show jx L xs _ 126 5 _ [.int (jb (x < 0 ∨ 3 < x)), .ref 103] _ _
  refine jv_jb_eq (t := 12) (pc' := 8) (P := x < 0 ∨ 3 < x) rfl rfl rfl (fun hz_2 => ?_) (fun hz_2 => ?_)
  · skip
    exfalso; omega
  · skip
    refine jv_iconst (pc' := 9) (n := 1) rfl rfl ?_
    refine jx_step (pc' := 13) rfl ?_
    refine jv_putI (pc' := 16) (c := 12) (k := 0) rfl rfl rfl rfl (fun _ _ _  => rfl) rfl rfl ?_
    refine jv_aload_n (pc' := 17) (k := 0) (x := 103) rfl rfl rfl rfl ?_
    refine jv_getI (pc' := 20) (c := 12) (k := 0) (v := (iI 1)) rfl rfl rfl (fun _ _ => rfl) rfl rfl rfl ?_
    refine jv_if_le (t := 25) (pc' := 23) (a := 1) rfl rfl rfl (by omega) (fun hz_3 => ?_) (fun hz_3 => ?_)
    · skip
      exact absurd hz_3 (by decide)
    · skip
      refine jv_iconst (pc' := 24) (n := 0) rfl rfl ?_
      refine jv_retI rfl rfl ⟨_, _, rfl, ?_⟩
      first
      | (exfalso; omega)
      | exact ⟨_, rfl, (fr_u (by simp [mW]) (fr_r _)), CM_n hM (by simp [pers]), rfl⟩
theorem op_layer_m (hM : CM I M A) (hA : AV1 A) (hl : l < 4) {e i : Nat} (hQ : PE (aC A) (aN A) i 0 0 [false] true e) : jc L xs (d + 5) 126 [.ref 103, .int (iI ((l : Nat) : Int))] (jx_G j I M p) (fun v g1 => ∃ I', g1 = jx_G j I' M p ∧ fr mW I I' ∧ CM I' M (jm_u (aTx 105 A l) 103 44 0) ∧ I' 103 0 = iI 0 ∧ v = some (.int (iI (-1)))) := by
  unfold jc
  have hv1 := hA.1
  have hNa : ((aN A : Nat) : Int) = A 103 2 := by unfold aN; omega
  refine jv_aload_n (pc' := 1) (k := 0) (x := 103) rfl rfl rfl rfl ?_
  refine jv_iload_n (pc' := 2) (k := 1) (x := (iI ((l : Nat) : Int))) rfl rfl rfl rfl ?_
  refine jv_call (pc' := 5) rfl (ml_noLayer (by omega)) (fun vq1 gq1 q1 => ?_)
  obtain ⟨rfl, rfl⟩ := q1
  show jx L xs _ 126 5 _ [.int (jb (((l : Nat) : Int) < 0 ∨ 3 < ((l : Nat) : Int))), .ref 103] _ _
  refine jv_jb_eq (t := 12) (pc' := 8) (P := ((l : Nat) : Int) < 0 ∨ 3 < ((l : Nat) : Int)) rfl rfl rfl (fun hz_2 => ?_) (fun hz_2 => ?_)
  · skip
    refine jv_iconst (pc' := 13) (n := 0) rfl rfl ?_
    refine jv_putI (pc' := 16) (c := 12) (k := 0) rfl rfl rfl rfl (fun _ _ _  => rfl) rfl rfl ?_
    refine jv_aload_n (pc' := 17) (k := 0) (x := 103) rfl rfl rfl rfl ?_
    refine jv_getI (pc' := 20) (c := 12) (k := 0) (v := (iI 0)) rfl rfl rfl (fun _ _ => rfl) rfl rfl rfl ?_
    refine jv_if_le (t := 25) (pc' := 23) (a := 0) rfl rfl rfl (by omega) (fun hz_3 => ?_) (fun hz_3 => ?_)
    · skip
      refine jv_aload_n (pc' := 26) (k := 0) (x := 103) rfl rfl rfl rfl ?_
      have hM0 : CM (jm_u I 103 0 (iI 0)) M A := CM_n hM (by simp [pers])
      refine jv_call (pc' := 29) rfl (ml_load (I := jm_u I 103 0 (iI 0)) hM0 hA) (fun v1 g1 q1 => ?_)
      obtain ⟨I1, rfl, rfl, T1, r1⟩ := q1
      have hM1 : CM I1 M A := CM_fr hM0 r1 (fr_r (W := fun _ _ => False) M) (fun l k hp => by unfold pers at hp; unfold wLd; omega) (fun _ _ _ h => h)
      show jx L xs _ 126 29 _ [] _ _
      refine jv_aload_n (pc' := 30) (k := 0) (x := 103) rfl rfl rfl rfl ?_
      refine jv_call (pc' := 33) rfl (ml_isLayer (I := I1) (ok := true) T1 hQ) (fun v2 g2 q2 => ?_)
      obtain ⟨I2, rfl, e2, at2, r2⟩ := q2
      obtain rfl : v2 = some (.int (iI 1)) := by rw [e2, jb_t rfl]
      have hM2 : CM I2 M A := CM_fr hM1 r2 (fr_r (W := fun _ _ => False) M) (fun l k hp => by unfold pers at hp; unfold wP; omega) (fun _ _ _ h => h)
      have T2 := MT_fr T1 r2 (by unfold wP; omega) (by intro k; unfold wP; omega)
      have z2 : I2 103 0 = iI 0 := (r2 103 0 (by unfold wP; omega)).trans ((r1 103 0 (by unfold wLd; omega)).trans rfl)
      show jx L xs _ 126 33 _ [.int (iI 1)] _ _
      refine jv_if_ne (t := 41) (pc' := 36) (a := 1) rfl rfl rfl (by omega) (fun hz_4 => ?_) (fun hz_4 => ?_)
      · skip
        refine jv_iconst (pc' := 42) (n := 0) rfl rfl ?_
        refine jv_istore_n (pc' := 43) (k := 2) (x := (iI 0)) rfl rfl rfl rfl (Or.inr rfl) ?_
        have H5 : ∀ (N : Nat) (k : Nat) (I4 : Nat → Nat → Int32), 80 - k < N → ((k : Int) ≤ A 103 2) → (fr mW I I4) → (CM I4 M (aCp 105 A l k)) → (MT I4 (aC A) (aN A)) → (I4 103 0 = iI 0) → ∀ f : jm_F, f 0 = some (.ref 103) → f 1 = some (.int (iI ((l : Nat) : Int))) → f 2 = some (.int (iI ((k : Nat) : Int))) → jx L xs ((d + 5)) 126 43 f [] (jx_G j I4 M p) (fun z => ∃ v g1, z = (.inl v, g1) ∧ (fun v g1 => ∃ I', g1 = jx_G j I' M p ∧ fr mW I I' ∧ CM I' M (jm_u (aTx 105 A l) 103 44 0) ∧ I' 103 0 = iI 0 ∧ v = some (.int (iI (-1)))) v g1) := by
          intro N
          induction N with
          | zero => intro k I4 hN; exact absurd hN (Nat.not_lt_zero _)
          | succ N ih =>
            intro k I4 hN hk hf hC hT h0 f hf0 hf1 hf2 
            refine jv_iload_n (pc' := 44) (k := 2) (x := (iI ((k : Nat) : Int))) rfl rfl rfl hf2 ?_
            refine jv_aload_n (pc' := 45) (k := 0) (x := 103) rfl rfl rfl hf0 ?_
            refine jv_getI (pc' := 48) (c := 12) (k := 18) (v := (iI (A 103 2))) rfl rfl rfl (fun _ _ => rfl) rfl rfl (hT.1.trans (congrArg iI hNa)) ?_
            refine jv_ic_ge (t := 74) (pc' := 51) (a := ((k : Nat) : Int)) (b := (A 103 2)) rfl rfl rfl (by omega) (fun hz_6 => ?_) (fun hz_6 => ?_)
            · skip
              refine jv_aload_n (pc' := 75) (k := 0) (x := 103) rfl rfl rfl hf0 ?_
              refine jv_getR (pc' := 78) (c := 12) (k := 4) (v := 106) rfl rfl rfl (fun _ _ => rfl) rfl rfl (jR_103_4 _) ?_
              refine jv_iload_n (pc' := 79) (k := 1) (x := (iI ((l : Nat) : Int))) rfl rfl rfl hf1 ?_
              refine jv_aload_n (pc' := 80) (k := 0) (x := 103) rfl rfl rfl hf0 ?_
              refine jv_getI (pc' := 83) (c := 12) (k := 18) (v := (iI (A 103 2))) rfl rfl rfl (fun _ _ => rfl) rfl rfl (hT.1.trans (congrArg iI hNa)) ?_
              refine jv_iastore (pc' := 84) (n := 4) (e := ((l : Nat) : Int)) (v := (iI (A 103 2))) rfl rfl rfl rfl rfl (by omega) ?_
              refine jv_aload_n (pc' := 85) (k := 0) (x := 103) rfl rfl rfl hf0 ?_
              refine jv_iconst (pc' := 86) (n := 0) rfl rfl ?_
              refine jv_putI (pc' := 89) (c := 12) (k := 2) rfl rfl rfl rfl (fun _ _ _  => rfl) rfl rfl ?_
              refine jv_aload_n (pc' := 90) (k := 0) (x := 103) rfl rfl rfl hf0 ?_
              refine jv_call (pc' := 93) rfl (ml_changed (I := jm_u (jm_u I4 106 (((l : Nat) : Int) : Int).toNat (iI (A 103 2))) 103 2 (iI 0))) (fun vq7 gq7 q7 => ?_)
              obtain ⟨rfl, rfl⟩ := q7
              show jx L xs _ 126 93 _ [] _ _
              refine jv_iconst (pc' := 94) (n := -1) rfl rfl ?_
              refine jv_retI rfl rfl ⟨_, _, rfl, ?_⟩
              first
              | (exfalso; omega)
              | (have ek : k = aN A := by omega
                 subst ek
                 exact ⟨_, rfl, (fr_u (by simp [mW]) (fr_u (by simp [mW]) (fr_u (by simp [mW]) hf))), CM_u (CM_u (CM_u hC (by omega)) (by omega)) (by omega), h0, rfl⟩)
            · skip
              refine jv_aload_n (pc' := 52) (k := 0) (x := 103) rfl rfl rfl hf0 ?_
              refine jv_getR (pc' := 55) (c := 12) (k := 3) (v := 105) rfl rfl rfl (fun _ _ => rfl) rfl rfl (jR_103_3 _) ?_
              refine jv_bipush (pc' := 57) (n := 80) rfl rfl rfl ?_
              refine jv_iload_n (pc' := 58) (k := 1) (x := (iI ((l : Nat) : Int))) rfl rfl rfl hf1 ?_
              refine jv_imul (pc' := 59) (a := 80) (b := ((l : Nat) : Int)) rfl rfl ?_
              refine jv_iload_n (pc' := 60) (k := 2) (x := (iI ((k : Nat) : Int))) rfl rfl rfl hf2 ?_
              refine jv_iadd (pc' := 61) (a := (80 * ((l : Nat) : Int))) (b := ((k : Nat) : Int)) rfl rfl ?_
              refine jv_aload_n (pc' := 62) (k := 0) (x := 103) rfl rfl rfl hf0 ?_
              refine jv_getR (pc' := 65) (c := 12) (k := 17) (v := 117) rfl rfl rfl (fun _ _ => rfl) rfl rfl (jR_103_17 _) ?_
              refine jv_iload_n (pc' := 66) (k := 2) (x := (iI ((k : Nat) : Int))) rfl rfl rfl hf2 ?_
              refine jv_iaload (pc' := 67) (n := 80) (e := ((k : Nat) : Int)) (v := (iI (A 104 k))) rfl rfl (by decide) rfl rfl rfl (by omega) ((hT.2.2.1 k (by omega)).trans (congrArg iI (if_pos (by omega)))) ?_
              refine jv_iastore (pc' := 68) (n := 320) (e := ((80 * ((l : Nat) : Int)) + ((k : Nat) : Int))) (v := (iI (A 104 k))) rfl rfl rfl rfl rfl (by omega) ?_
              refine jv_iinc (pc' := 71) (k := 2) (a := ((k : Nat) : Int)) rfl rfl hf2 rfl (Or.inr (congrArg jm_lng hf1)) ?_
              refine jx_step (pc' := 43) rfl ?_
              exact ih (k + 1) (jm_u I4 105 ((80 * ((l : Nat) : Int)) + ((k : Nat) : Int) : Int).toNat (iI (A 104 k))) (by omega) (by omega) (fr_t hf (fr_u (by simp [mW]) (fr_r _))) (CM_cp hC (by omega) (by omega)) (MT_fr (W := fun l _ => l = 105) hT (fr_u rfl (fr_r _)) (by omega) (by intro k; omega)) h0 _ hf0 hf1 rfl 
        exact H5 _ 0 I2 (Nat.lt_succ_self _) (by omega) (fr_t (fr_t (fr_u (by simp [mW]) (fr_r _)) (fr_w r1 (fun l k h => by unfold wLd at h; unfold mW; omega))) (fr_w r2 (fun l k h => by unfold wP at h; unfold mW; omega))) (by rw [aCp_0]; exact hM2) T2 z2 _ rfl rfl rfl 
      · skip
        exact absurd hz_4 (by decide)
    · skip
      exact absurd hz_3 (by decide)
  · skip
    exfalso; omega
theorem op_layer_w (hM : CM I M A) (hA : AV1 A) (hl : l < 4) {e i : Nat} (hQ : PE (aC A) (aN A) i 0 0 [false] false e) : jc L xs (d + 5) 126 [.ref 103, .int (iI ((l : Nat) : Int))] (jx_G j I M p) (fun v g1 => ∃ I', g1 = jx_G j I' M p ∧ fr mW I I' ∧ CM I' M A ∧ I' 103 0 = iI 0 ∧ v = some (.int (iI ((e : Nat) : Int)))) := by
  unfold jc
  have hv1 := hA.1
  have hNa : ((aN A : Nat) : Int) = A 103 2 := by unfold aN; omega
  refine jv_aload_n (pc' := 1) (k := 0) (x := 103) rfl rfl rfl rfl ?_
  refine jv_iload_n (pc' := 2) (k := 1) (x := (iI ((l : Nat) : Int))) rfl rfl rfl rfl ?_
  refine jv_call (pc' := 5) rfl (ml_noLayer (by omega)) (fun vq1 gq1 q1 => ?_)
  obtain ⟨rfl, rfl⟩ := q1
  show jx L xs _ 126 5 _ [.int (jb (((l : Nat) : Int) < 0 ∨ 3 < ((l : Nat) : Int))), .ref 103] _ _
  refine jv_jb_eq (t := 12) (pc' := 8) (P := ((l : Nat) : Int) < 0 ∨ 3 < ((l : Nat) : Int)) rfl rfl rfl (fun hz_2 => ?_) (fun hz_2 => ?_)
  · skip
    refine jv_iconst (pc' := 13) (n := 0) rfl rfl ?_
    refine jv_putI (pc' := 16) (c := 12) (k := 0) rfl rfl rfl rfl (fun _ _ _  => rfl) rfl rfl ?_
    refine jv_aload_n (pc' := 17) (k := 0) (x := 103) rfl rfl rfl rfl ?_
    refine jv_getI (pc' := 20) (c := 12) (k := 0) (v := (iI 0)) rfl rfl rfl (fun _ _ => rfl) rfl rfl rfl ?_
    refine jv_if_le (t := 25) (pc' := 23) (a := 0) rfl rfl rfl (by omega) (fun hz_3 => ?_) (fun hz_3 => ?_)
    · skip
      refine jv_aload_n (pc' := 26) (k := 0) (x := 103) rfl rfl rfl rfl ?_
      have hM0 : CM (jm_u I 103 0 (iI 0)) M A := CM_n hM (by simp [pers])
      refine jv_call (pc' := 29) rfl (ml_load (I := jm_u I 103 0 (iI 0)) hM0 hA) (fun v1 g1 q1 => ?_)
      obtain ⟨I1, rfl, rfl, T1, r1⟩ := q1
      have hM1 : CM I1 M A := CM_fr hM0 r1 (fr_r (W := fun _ _ => False) M) (fun l k hp => by unfold pers at hp; unfold wLd; omega) (fun _ _ _ h => h)
      show jx L xs _ 126 29 _ [] _ _
      refine jv_aload_n (pc' := 30) (k := 0) (x := 103) rfl rfl rfl rfl ?_
      refine jv_call (pc' := 33) rfl (ml_isLayer (I := I1) (ok := false) T1 hQ) (fun v2 g2 q2 => ?_)
      obtain ⟨I2, rfl, e2, at2, r2⟩ := q2
      obtain rfl : v2 = some (.int (iI 0)) := by rw [e2, jb_f (by decide)]
      have hM2 : CM I2 M A := CM_fr hM1 r2 (fr_r (W := fun _ _ => False) M) (fun l k hp => by unfold pers at hp; unfold wP; omega) (fun _ _ _ h => h)
      have T2 := MT_fr T1 r2 (by unfold wP; omega) (by intro k; unfold wP; omega)
      have z2 : I2 103 0 = iI 0 := (r2 103 0 (by unfold wP; omega)).trans ((r1 103 0 (by unfold wLd; omega)).trans rfl)
      show jx L xs _ 126 33 _ [.int (iI 0)] _ _
      refine jv_if_ne (t := 41) (pc' := 36) (a := 0) rfl rfl rfl (by omega) (fun hz_4 => ?_) (fun hz_4 => ?_)
      · skip
        exact absurd hz_4 (by decide)
      · skip
        refine jv_aload_n (pc' := 37) (k := 0) (x := 103) rfl rfl rfl rfl ?_
        refine jv_getI (pc' := 40) (c := 12) (k := 19) (v := (iI ((e : Nat) : Int))) rfl rfl rfl (fun _ _ => rfl) rfl rfl (at2 rfl) ?_
        refine jv_retI rfl rfl ⟨_, _, rfl, ?_⟩
        first
        | (exfalso; omega)
        | exact ⟨_, rfl, (fr_t (fr_t (fr_u (by simp [mW]) (fr_r _)) (fr_w r1 (fun l k h => by unfold wLd at h; unfold mW; omega))) (fr_w r2 (fun l k h => by unfold wP at h; unfold mW; omega))), hM2, z2, rfl⟩
    · skip
      exact absurd hz_3 (by decide)
  · skip
    exfalso; omega
end H9
