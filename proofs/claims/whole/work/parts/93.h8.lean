/-! printed by wip/whole/gen/h8.py: operation filter; texts copied -/
theorem jm_ua_n {α : Type} {f : Nat → Nat → α} {a b i : Nat} {v : Nat → α} (h : b ≠ a) : jm_ua f a v b i = f b i := if_neg h
theorem jm_ua_e {α : Type} {f : Nat → Nat → α} {a i : Nat} {v : Nat → α} : jm_ua f a v a i = v i := if_pos rfl
theorem cpy0 {α : Type} {f g : Nat → α} {n k : Nat} (h : k < n) : va_cpy f g 0 0 n k = f k := by
  unfold va_cpy
  rw [if_pos ⟨Nat.zero_le _, by omega⟩, Nat.zero_add]
  rfl
theorem fr_ua {α : Type} {W : Nat → Nat → Prop} {I I' : Nat → Nat → α} {a : Nat} {v : Nat → α} (h : ∀ k, W a k) (q : fr W I I') : fr W I (jm_ua I' a v) := fun l i hn => (jm_ua_n (fun e => hn (by rw [e]; exact h i))).trans (q l i hn)
theorem jv_copy {L : Nat} {xs : Nat → Int32} {d mi pc j : Nat} {f : jm_F} {Q : jm_O → Prop} {I : Nat → Nat → Int32} {M : Nat → Nat → Int64} {p : Nat → Option Nat} {pc' x s t a b : Nat} {n : Int} (ht : jm_tab mi pc = some (.invokestatic x, 3)) (hp : pc + 3 = pc') (hm : jm_mt (jm_oc mi) x = some 901) (hs : jm_isA (jx_G j I M p) s 20 = true) (hA : jm_isA (jx_G j I M p) t 20 = true) (ha : (jm_SH s).2 = a) (hb : (jm_SH t).2 = b) (hn : 0 ≤ n ∧ n ≤ a ∧ n ≤ b ∧ n < 1000) (kk : jx L xs d mi pc' f [] (jx_G j (jm_ua I t (va_cpy (I s) (I t) 0 0 n.toNat)) M p) Q) : jx L xs d mi pc f [.int (iI n), .int (iI 0), .ref t, .int (iI 0), .ref s] (jx_G j I M p) Q := by
  subst hp
  refine jx_step (jx_ins ht rfl ?_) kk
  have h0 : (iI 0).toNatClampNeg = 0 := by decide
  have hN : (iI n).toNatClampNeg = n.toNat := iI_N ⟨by omega, by omega⟩
  have h2 : ¬ iI n < 0 := by
    rw [← iI_00, iI_lt ⟨⟨by omega, by omega⟩, by omega⟩]; omega
  simp only [jm_ins, jm_p1, jm_p2, jm_p3, jm_p4, jm_p5, jm_p6, jm_p7, hm]
  rw [if_pos ⟨hs, hA, by decide, by decide, h2, by rw [h0, hN, ha]; omega, by rw [h0, hN, hb]; omega, by decide⟩, h0, hN]
  rfl
/-- m characters of the draft in row q of the texts T -/
def aCp (T : Nat) (A : AB) (q m : Nat) : AB := fun l k => if l = T ∧ 80 * q ≤ k ∧ k < 80 * q + m then A 104 (k - 80 * q) else A l k
/-- the draft is text q of the texts T, and empty -/
def aTx (T : Nat) (A : AB) (q : Nat) : AB := jm_u (jm_u (aCp T A q (aN A)) (T + 1) q (A 103 2)) 103 2 0
theorem aCp_s {T : Nat} {A : AB} {q k i : Nat} (hi : i = 80 * q + k) : jm_u (aCp T A q k) T i (A 104 k) = aCp T A q (k + 1) := by
  funext l k'
  by_cases e : l = T ∧ k' = i
  · rw [jm_u_eq e]
    refine Eq.symm ((if_pos ⟨e.1, by omega, by omega⟩).trans ?_)
    rw [show k' - 80 * q = k by omega]
  · rw [jm_u_n2 e]
    unfold aCp
    by_cases e2 : l = T ∧ 80 * q ≤ k' ∧ k' < 80 * q + k
    · rw [if_pos e2, if_pos (by omega)]
    · rw [if_neg e2, if_neg (by omega)]
theorem aCp_0 {T : Nat} {A : AB} {q : Nat} : aCp T A q 0 = A := by
  funext l k
  exact if_neg (by omega)
theorem CM_cp {I : Nat → Nat → Int32} {M : Nat → Nat → Int64} {T : Nat} {A : AB} {q k i : Nat} (h : CM I M (aCp T A q k)) (hT : T ≠ 133 ∧ T ≠ 134) (hi : i = 80 * q + k) : CM (jm_u I T i (iI (A 104 k))) M (aCp T A q (k + 1)) := by
  rw [← aCp_s hi]; exact CM_u h hT
section TX
variable {T : Nat} {A : AB} {q l k : Nat}
theorem aTx_1 (hT : T = 105 ∨ T = 107) : aTx T A q (T + 1) q = A 103 2 := (jm_u_n2 (by omega)).trans (jm_u_eq ⟨rfl, rfl⟩)
theorem aTx_2 (hT : T = 105 ∨ T = 107) (h : l ≠ q) : aTx T A q (T + 1) l = A (T + 1) l := (jm_u_n2 (by omega)).trans ((jm_u_n2 (by omega)).trans (if_neg (by omega)))
theorem aTx_3 (hT : T = 105 ∨ T = 107) (h : k < aN A) : aTx T A q T (80 * q + k) = A 104 k := (jm_u_n2 (by omega)).trans ((jm_u_n2 (by omega)).trans ((if_pos ⟨rfl, by omega, by omega⟩).trans (by rw [Nat.add_sub_cancel_left])))
theorem aTx_4 (hT : T = 105 ∨ T = 107) (h : l ≠ q) (hk : k < 80) (hN : aN A ≤ 80) : aTx T A q T (80 * l + k) = A T (80 * l + k) := (jm_u_n2 (by omega)).trans ((jm_u_n2 (by omega)).trans (if_neg (by omega)))
theorem aTx_5 (h : ¬ ((l = 103 ∧ k = 2) ∨ l = T ∨ l = T + 1)) : aTx T A q l k = A l k := (jm_u_n2 (by omega)).trans ((jm_u_n2 (by omega)).trans (if_neg (by omega)))
theorem aX_q (hT : T = 105 ∨ T = 107) : (fun k : Nat => if (k : Int) < aTx T A q (T + 1) q then aTx T A q T (80 * q + k) else -1) = aC A := by
  funext k
  rw [aTx_1 hT]
  unfold aC
  by_cases h : (k : Int) < A 103 2
  · rw [if_pos h, if_pos h, aTx_3 hT (by unfold aN; omega)]
  · rw [if_neg h, if_neg h]
theorem aX_o (hT : T = 105 ∨ T = 107) (h : l ≠ q) (hl : A (T + 1) l ≤ 80) (hN : aN A ≤ 80) : (fun k : Nat => if (k : Int) < aTx T A q (T + 1) l then aTx T A q T (80 * l + k) else -1) = (fun k : Nat => if (k : Int) < A (T + 1) l then A T (80 * l + k) else -1) := by
  funext k
  rw [aTx_2 hT h]
  by_cases e : (k : Int) < A (T + 1) l
  · rw [if_pos e, if_pos e, aTx_4 hT h (by omega) hN]
  · rw [if_neg e, if_neg e]
theorem aN_80 (h : AV1 A) : aN A ≤ 80 := by have := h.1; unfold aN; omega
theorem aX_v (hT : T = 105 ∨ T = 107) (h1 : AV1 A) (h : ∀ l, l < 4 → (0 ≤ A (T + 1) l ∧ A (T + 1) l ≤ 80) ∧ (∀ k : Nat, (k : Int) < A (T + 1) l → 0 ≤ A T (80 * l + k) ∧ A T (80 * l + k) < 256)) (hl : l < 4) : (0 ≤ aTx T A q (T + 1) l ∧ aTx T A q (T + 1) l ≤ 80) ∧ (∀ k : Nat, (k : Int) < aTx T A q (T + 1) l → 0 ≤ aTx T A q T (80 * l + k) ∧ aTx T A q T (80 * l + k) < 256) := by
  by_cases e : l = q
  · subst e
    rw [aTx_1 hT]
    exact ⟨h1.1, fun k hk => by rw [aTx_3 hT (by unfold aN; omega)]; exact h1.2 k hk⟩
  · rw [aTx_2 hT e]
    have h2 := h l hl
    exact ⟨h2.1, fun k hk => by rw [aTx_4 hT e (by omega) (aN_80 h1)]; exact h2.2 k hk⟩
end TX
theorem AV3_tx {A : AB} {fq : Nat} (hv : AV1 A) (h : AV3 A) (hQ : ∃ i e, QE (aC A) (aN A) i 0 0 [] true e) : AV3 (aTx 107 A fq) := by
  intro l hl
  have h1 := aX_v (T := 107) (q := fq) (Or.inr rfl) hv (fun l hl => ⟨(h l hl).1, (h l hl).2.1⟩) hl
  refine ⟨h1.1, h1.2, fun h0 => ?_⟩
  by_cases e : l = fq
  · subst e
    have e1 : acF (aTx 107 A l) l = aC A := aX_q (T := 107) (Or.inr rfl)
    have e2 : anF (aTx 107 A l) l = aN A := congrArg Int.toNat (aTx_1 (T := 107) (Or.inr rfl))
    rw [e1, e2]; exact hQ
  · have e0 : aTx 107 A fq 108 l = A 108 l := aTx_2 (T := 107) (Or.inr rfl) e
    have e1 : acF (aTx 107 A fq) l = acF A l := aX_o (T := 107) (Or.inr rfl) e (h l hl).1.2 (aN_80 hv)
    have e2 : anF (aTx 107 A fq) l = anF A l := congrArg Int.toNat e0
    rw [e1, e2]; rw [e0] at h0; exact (h l hl).2.2 h0
theorem CR_fi {I I' : Nat → Nat → Int32} {M : Nat → Nat → Int64} {p : Nat → Option Nat} {A : AB} {fq : Nat} (h : CR I M p A) (hfq : fq < 4) (f : fr (fun l k => (l = 1 ∧ k = 1) ∨ (l = 87 + 2 * fq ∧ k = 1) ∨ l = 88 + 2 * fq) I I') (h1 : I' 1 1 = iI 0) (h2 : CT I' (87 + 2 * fq) (aC A) (aN A)) (hQ : ∃ i e, QE (aC A) (aN A) i 0 0 [] true e) : CR I' M p (aTx 107 A fq) := by
  obtain ⟨hv, d1, ⟨Tl, S, σ, d2, d3, d4⟩, d5, d8, d6, d9, d7⟩ := h
  have hv5 := hv.2.2.2.2.2.2.1
  have g2 : AV3 (aTx 107 A fq) := AV3_tx hv.1 hv.2.2.1 hQ
  have g3 : RFi I' (aTx 107 A fq) := by
    intro l hl
    by_cases e : l = fq
    · subst e
      have e1 : acF (aTx 107 A l) l = aC A := aX_q (T := 107) (Or.inr rfl)
      have e2 : anF (aTx 107 A l) l = aN A := congrArg Int.toNat (aTx_1 (T := 107) (Or.inr rfl))
      rw [e1, e2]; exact h2
    · have e0 : aTx 107 A fq 108 l = A 108 l := aTx_2 (T := 107) (Or.inr rfl) e
      have e1 : acF (aTx 107 A fq) l = acF A l := aX_o (T := 107) (Or.inr rfl) e (hv.2.2.1 l hl).1.2 (aN_80 hv.1)
      have e2 : anF (aTx 107 A fq) l = anF A l := congrArg Int.toNat e0
      rw [e1, e2]; exact CT_fr (d6 l hl) f (by omega) (by intro k; omega)
  have g4 : RTa I M (aTx 107 A fq) := RTa_A d9 (aTx_5 (by omega)) (aTx_5 (by omega)) (fun l k hl => aTx_5 (by omega))
  have g1 : AV1 (aTx 107 A fq) := ⟨⟨Int.le_refl _, (show (0 : Int) ≤ 80 by omega)⟩, fun k hk => absurd (show (k : Int) < 0 from hk) (by omega)⟩
  have g5 : RDr I' (aTx 107 A fq) := ⟨h1, Nat.zero_le _, fun k hk => absurd hk (Nat.not_lt_zero _), fun k hk => absurd hk (Nat.not_lt_zero _), fun k _ => if_neg (show ¬ (k : Int) < 0 by omega)⟩
  have gg : AV1 (aTx 107 A fq) ∧ AV3 (aTx 107 A fq) ∧ RDr I' (aTx 107 A fq) ∧ RFi I' (aTx 107 A fq) ∧ RTa I M (aTx 107 A fq) := ⟨g1, g2, g5, g3, g4⟩
  have eA : aTx 107 A fq = fun l k => if (l = 103 ∧ k = 2) ∨ l = 107 ∨ l = 108 then aTx 107 A fq l k else A l k := by
    funext l k
    split
    · rfl
    next q => exact aTx_5 q
  rw [eA] at gg ⊢
  exact ⟨⟨gg.1, hv.2.1, gg.2.1, hv.2.2.2⟩, gg.2.2.1, ⟨Tl, S, σ, RLy_w d2 f (fun _ _ => rfl) (by intro T i k h1 h2; omega), RFr_w d3 f (fun _ _ _ => rfl) (by intro T i k h1 h2; omega) (show A 103 12 ≤ 12 by omega), RDe_w d2 d4 f (fr_r (W := fun _ _ => False) M) ⟨by omega, by omega, by omega, by omega, by intro k; omega, by omega⟩ (by intro T k h1; omega) (fun _ h => h)⟩, RFo_w d5 f (by intro T i k h1 h2; omega), RSc_w d8 f ⟨by omega, by omega, by intro k; omega⟩, gg.2.2.2.1, RTa_w gg.2.2.2.2 f (fr_r (W := fun _ _ => False) M) ⟨by omega, by intro k; omega⟩ (fun _ h => h), RJo_w d7 f (by intro k; omega)⟩
section H8
variable {L : Nat} {xs : Nat → Int32} {d j : Nat} {I : Nat → Nat → Int32} {M : Nat → Nat → Int64} {p : Nat → Option Nat}
variable {A : AB} {x y : Int} {fq t n : Nat} {c : Nat → Int}
theorem cl_copy (hl : TL t) (ht1 : t ≠ 1) (hC : CT I 1 c n) : jc L xs d 31 [.ref t, .ref 1] (jx_G j I M p) (fun v g1 => ∃ I', g1 = jx_G j I' M p ∧ v = none ∧ CT I' t c n ∧ fr (fun l k => (l = t ∧ k = 1) ∨ l = t + 1) I I') := by
  unfold jc
  have hn80 := hC.2.1
  refine jv_aload_n (pc' := 1) (k := 0) (x := t) rfl rfl rfl rfl ?_
  refine jv_aload_n (pc' := 2) (k := 1) (x := 1) rfl rfl rfl rfl ?_
  refine jv_getI (pc' := 5) (c := 1) (k := 1) (v := (iI ((n : Nat) : Int))) rfl rfl rfl (fun _ _ => rfl) rfl rfl hC.1 ?_
  refine jv_putI (pc' := 8) (c := 1) (k := 1) rfl rfl rfl rfl (fun _ _ _  => rfl) (TL_A hl j _ _ _) rfl ?_
  refine jv_aload_n (pc' := 9) (k := 1) (x := 1) rfl rfl rfl rfl ?_
  refine jv_getR (pc' := 12) (c := 1) (k := 0) (v := 2) rfl rfl rfl (fun _ _ => rfl) rfl rfl (jR_1_0 _) ?_
  refine jv_iconst (pc' := 13) (n := 0) rfl rfl ?_
  refine jv_aload_n (pc' := 14) (k := 0) (x := t) rfl rfl rfl rfl ?_
  refine jv_getR (pc' := 17) (c := 1) (k := 0) (v := (t + 1)) rfl rfl rfl (fun _ _ => rfl) (TL_A hl j _ _ _) rfl (TL_R hl _) ?_
  refine jv_iconst (pc' := 18) (n := 0) rfl rfl ?_
  refine jv_aload_n (pc' := 19) (k := 0) (x := t) rfl rfl rfl rfl ?_
  refine jv_getI (pc' := 22) (c := 1) (k := 1) (v := (iI ((n : Nat) : Int))) rfl rfl rfl (fun _ _ => rfl) (TL_A hl j _ _ _) rfl (jm_u_eq ⟨rfl, rfl⟩) ?_
  refine jv_copy (pc' := 25) (n := ((n : Nat) : Int)) (a := 80) (b := 80) rfl rfl rfl rfl (TL_B hl j _ _ _) rfl (TL_n hl) (by omega) ?_
  refine jv_retV rfl rfl ⟨_, _, rfl, ?_⟩
  refine ⟨_, rfl, rfl, ⟨(jm_ua_n (by omega)).trans (jm_u_eq ⟨rfl, rfl⟩), hC.2.1, fun k hk => jm_ua_e.trans ((cpy0 hk).trans ((jm_u_n2 (by omega)).trans (hC.2.2.1 k hk))), hC.2.2.2⟩, fr_ua (fun k => Or.inr rfl) (fr_u (Or.inl ⟨rfl, rfl⟩) (fr_r _))⟩
theorem op_filter_t (hx : iR x) (hbad : ¬ (0 ≤ x ∧ x < 4)) : jt L xs (d + 1) 13 [.ref 0, .int (iI x)] (jx_G j I M p) 50 (fun g1 => g1 = jx_G (j + 1) I M p) := by
  unfold jt
  refine jv_iload_n (pc' := 1) (k := 1) (x := (iI x)) rfl rfl rfl rfl ?_
  refine jv_call (pc' := 4) rfl (cl_isFilter (by omega)) (fun vq1 gq1 q1 => ?_)
  obtain ⟨rfl, rfl⟩ := q1
  show jx L xs _ 13 4 _ [.int (jb (0 ≤ x ∧ x < 4))] _ _
  refine jv_jb_ne (t := 15) (pc' := 7) (P := 0 ≤ x ∧ x < 4) rfl rfl rfl (fun hz_2 => ?_) (fun hz_2 => ?_)
  · skip
    exfalso; omega
  · skip
    refine jx_ret0 rfl ⟨_, rfl, ?_⟩
    first
    | (exfalso; omega)
    | rfl
/-- the draft as filter fq: the answer, and what is kept then -/
def FIA (A : AB) (fq : Nat) (r : Int) (A' : AB) : Prop := (r = -1 ∧ (∃ i e, QE (aC A) (aN A) i 0 0 [] true e) ∧ A' = aTx 107 A fq) ∨ ((∃ e i : Nat, r = (e : Int) ∧ QE (aC A) (aN A) i 0 0 [] false e) ∧ A' = A)
theorem op_filter_c (hR : CR I M p A) (hfq : fq < 4) : jc L xs (d + 32) 13 [.ref 0, .int (iI ((fq : Nat) : Int))] (jx_G j I M p) (fun v g1 => ∃ (I' : Nat → Nat → Int32) (p' : Nat → Option Nat) (r : Int) (A' : AB), g1 = jx_G j I' M p' ∧ fr cW I I' ∧ v = some (.int (iI r)) ∧ FIA A fq r A' ∧ CR I' M p' A') := by
  unfold jc
  have hR0 := hR
  obtain ⟨hv, h1, ⟨Tl, S, σ, h2, h3, h4⟩, h5, hSc, h7, h8, h9⟩ := hR0
  obtain ⟨htz, s0, W0, sz0, df, hDs, hEs, hcs, hd12, hdf⟩ := h4
  refine jv_iload_n (pc' := 1) (k := 1) (x := (iI ((fq : Nat) : Int))) rfl rfl rfl rfl ?_
  refine jv_call (pc' := 4) rfl (cl_isFilter (by omega)) (fun vq1 gq1 q1 => ?_)
  obtain ⟨rfl, rfl⟩ := q1
  show jx L xs _ 13 4 _ [.int (jb (0 ≤ ((fq : Nat) : Int) ∧ ((fq : Nat) : Int) < 4))] _ _
  refine jv_jb_ne (t := 15) (pc' := 7) (P := 0 ≤ ((fq : Nat) : Int) ∧ ((fq : Nat) : Int) < 4) rfl rfl rfl (fun hz_2 => ?_) (fun hz_2 => ?_)
  · skip
    refine jv_aload_n (pc' := 16) (k := 0) (x := 0) rfl rfl rfl rfl ?_
    refine jv_getR (pc' := 19) (c := 0) (k := 6) (v := 95) rfl rfl rfl (fun _ _ => rfl) rfl rfl (jR_0_6 _) ?_
    refine jv_aload_n (pc' := 20) (k := 0) (x := 0) rfl rfl rfl rfl ?_
    refine jv_getR (pc' := 23) (c := 0) (k := 0) (v := 1) rfl rfl rfl (fun _ _ => rfl) rfl rfl (jR_0_0 _) ?_
    refine jv_aload_n (pc' := 24) (k := 0) (x := 0) rfl rfl rfl rfl ?_
    refine jv_getR (pc' := 27) (c := 0) (k := 4) (v := 38) rfl rfl rfl (fun _ _ => rfl) rfl rfl (jR_0_4 _) ?_
    refine jv_getR (pc' := 30) (c := 6) (k := 0) (v := 39) rfl rfl rfl (fun _ _ => rfl) rfl rfl (jR_38_0 _) ?_
    refine jv_call (pc' := 33) rfl (cl_readWhole (I := I) (M := M) (p := p) (t := 1) (s := s0) (Or.inl rfl) hR.2.1 hDs hEs hcs htz) (fun v1 g1 q1 => ?_)
    obtain ⟨I1, rfl, r1, tz1, q1⟩ := q1
    have hR1 : CR I1 M (fun q => if q = 22 then some 39 else if q = 21 then some 1 else p q) A := CR_F hR r1 tz1 (fun i hi => (if_neg (by omega)).trans (if_neg (by omega)))
    rcases q1 with ⟨rfl, hQ⟩ | ⟨e, i, rfl, he, hQ⟩
    · skip
      show jx L xs _ 13 33 _ [.int (iI (-1))] _ _
      refine jv_istore_n (pc' := 34) (k := 2) (x := (iI (-1))) rfl rfl rfl rfl (Or.inr rfl) ?_
      refine jv_iload_n (pc' := 35) (k := 2) (x := (iI (-1))) rfl rfl rfl rfl ?_
      refine jv_iconst (pc' := 36) (n := -1) rfl rfl ?_
      refine jv_ic_eq (t := 41) (pc' := 39) (a := (-1)) (b := (-1)) rfl rfl rfl (by omega) (fun hz_3 => ?_) (fun hz_3 => ?_)
      · skip
        refine jv_aload_n (pc' := 42) (k := 0) (x := 0) rfl rfl rfl rfl ?_
        refine jv_getR (pc' := 45) (c := 0) (k := 5) (v := 86) rfl rfl rfl (fun _ _ => rfl) rfl rfl (jR_0_5 _) ?_
        refine jv_iload_n (pc' := 46) (k := 1) (x := (iI ((fq : Nat) : Int))) rfl rfl rfl rfl ?_
        refine jv_aaload (pc' := 47) (n := 4) (e := ((fq : Nat) : Int)) (v := (87 + 2 * fq)) rfl rfl rfl rfl rfl (by omega) (jR86 _ hfq) ?_
        refine jv_aload_n (pc' := 48) (k := 0) (x := 0) rfl rfl rfl rfl ?_
        refine jv_getR (pc' := 51) (c := 0) (k := 0) (v := 1) rfl rfl rfl (fun _ _ => rfl) rfl rfl (jR_0_0 _) ?_
        refine jv_callv (pc' := 54) rfl rfl rfl rfl (TL_A (TL_f hfq) j _ _ _) rfl rfl (cl_copy (I := I1) (M := M) (t := 87 + 2 * fq) (TL_f hfq) (by omega) hR1.2.1) (fun v2 g2 q2 => ?_)
        obtain ⟨I2, rfl, rfl, C2, r2⟩ := q2
        show jx L xs _ 13 54 _ [] _ _
        refine jv_aload_n (pc' := 55) (k := 0) (x := 0) rfl rfl rfl rfl ?_
        refine jv_getR (pc' := 58) (c := 0) (k := 0) (v := 1) rfl rfl rfl (fun _ _ => rfl) rfl rfl (jR_0_0 _) ?_
        refine jv_iconst (pc' := 59) (n := 0) rfl rfl ?_
        refine jv_putI (pc' := 62) (c := 1) (k := 1) rfl rfl rfl rfl (fun _ _ _  => rfl) rfl rfl ?_
        refine jv_iconst (pc' := 63) (n := -1) rfl rfl ?_
        refine jv_retI rfl rfl ⟨_, _, rfl, ?_⟩
        have f2 : fr (fun l k => (l = 1 ∧ k = 1) ∨ (l = 87 + 2 * fq ∧ k = 1) ∨ l = 88 + 2 * fq) I1 (jm_u I2 1 1 (iI 0)) := fr_u (Or.inl ⟨rfl, rfl⟩) (fr_w r2 (fun l k h => by omega))
        exact ⟨_, _, -1, _, rfl, fr_t (fr_w r1 (fun l k h => by unfold wF at h; unfold cW; omega)) (fr_w f2 (fun l k h => by unfold cW; omega)), rfl, Or.inl ⟨rfl, hQ, rfl⟩, CR_fi hR1 hfq f2 rfl (CT_fr (W := fun l k => l = 1 ∧ k = 1) C2 (fr_u ⟨rfl, rfl⟩ (fr_r _)) (by omega) (by intro k; omega)) hQ⟩
      · skip
        exact absurd hz_3 (by decide)
    · skip
      show jx L xs _ 13 33 _ [.int (iI ((e : Nat) : Int))] _ _
      refine jv_istore_n (pc' := 34) (k := 2) (x := (iI ((e : Nat) : Int))) rfl rfl rfl rfl (Or.inr rfl) ?_
      refine jv_iload_n (pc' := 35) (k := 2) (x := (iI ((e : Nat) : Int))) rfl rfl rfl rfl ?_
      refine jv_iconst (pc' := 36) (n := -1) rfl rfl ?_
      refine jv_ic_eq (t := 41) (pc' := 39) (a := ((e : Nat) : Int)) (b := (-1)) rfl rfl rfl (by omega) (fun hz_4 => ?_) (fun hz_4 => ?_)
      · skip
        refine jv_aload_n (pc' := 42) (k := 0) (x := 0) rfl rfl rfl rfl ?_
        refine jv_getR (pc' := 45) (c := 0) (k := 5) (v := 86) rfl rfl rfl (fun _ _ => rfl) rfl rfl (jR_0_5 _) ?_
        refine jv_iload_n (pc' := 46) (k := 1) (x := (iI ((fq : Nat) : Int))) rfl rfl rfl rfl ?_
        refine jv_aaload (pc' := 47) (n := 4) (e := ((fq : Nat) : Int)) (v := (87 + 2 * fq)) rfl rfl rfl rfl rfl (by omega) (jR86 _ hfq) ?_
        refine jv_aload_n (pc' := 48) (k := 0) (x := 0) rfl rfl rfl rfl ?_
        refine jv_getR (pc' := 51) (c := 0) (k := 0) (v := 1) rfl rfl rfl (fun _ _ => rfl) rfl rfl (jR_0_0 _) ?_
        refine jv_callv (pc' := 54) rfl rfl rfl rfl (TL_A (TL_f hfq) j _ _ _) rfl rfl (cl_copy (I := I1) (M := M) (t := 87 + 2 * fq) (TL_f hfq) (by omega) hR1.2.1) (fun v2 g2 q2 => ?_)
        obtain ⟨I2, rfl, rfl, C2, r2⟩ := q2
        show jx L xs _ 13 54 _ [] _ _
        refine jv_aload_n (pc' := 55) (k := 0) (x := 0) rfl rfl rfl rfl ?_
        refine jv_getR (pc' := 58) (c := 0) (k := 0) (v := 1) rfl rfl rfl (fun _ _ => rfl) rfl rfl (jR_0_0 _) ?_
        refine jv_iconst (pc' := 59) (n := 0) rfl rfl ?_
        refine jv_putI (pc' := 62) (c := 1) (k := 1) rfl rfl rfl rfl (fun _ _ _  => rfl) rfl rfl ?_
        refine jv_iconst (pc' := 63) (n := -1) rfl rfl ?_
        refine jv_retI rfl rfl ⟨_, _, rfl, ?_⟩
        exfalso; omega
      · skip
        refine jv_iload_n (pc' := 40) (k := 2) (x := (iI ((e : Nat) : Int))) rfl rfl rfl rfl ?_
        refine jv_retI rfl rfl ⟨_, _, rfl, ?_⟩
        exact ⟨_, _, (e : Int), A, rfl, (fr_t (fr_r _) (fr_w r1 (fun l k h => by unfold wF at h; unfold cW; omega))), rfl, Or.inr ⟨⟨e, i, rfl, hQ⟩, rfl⟩, hR1⟩
  · skip
    exfalso; omega
def wLd (l k : Nat) : Prop := l = 117 ∨ (l = 103 ∧ k = 18)
theorem ml_load (hM : CM I M A) (hA : AV1 A) : jc L xs d 125 [.ref 103] (jx_G j I M p) (fun v g1 => ∃ I', g1 = jx_G j I' M p ∧ v = none ∧ MT I' (aC A) (aN A) ∧ fr wLd I I') := by
  unfold jc
  have hv1 := hA.1
  have hNa : ((aN A : Nat) : Int) = A 103 2 := by unfold aN; omega
  refine jv_iconst (pc' := 1) (n := 0) rfl rfl ?_
  refine jv_istore_n (pc' := 2) (k := 1) (x := (iI 0)) rfl rfl rfl rfl (Or.inr rfl) ?_
  have H1 : ∀ (N : Nat) (k : Nat) (I1 : Nat → Nat → Int32), 80 - k < N → ((k : Int) ≤ A 103 2) → (fr (fun l _ => l = 117) I I1) → (∀ i, i < k → I1 117 i = iI (A 104 i)) → ∀ f : jm_F, f 0 = some (.ref 103) → f 1 = some (.int (iI ((k : Nat) : Int))) → jx L xs (d) 125 2 f [] (jx_G j I1 M p) (fun z => ∃ v g1, z = (.inl v, g1) ∧ (fun v g1 => ∃ I', g1 = jx_G j I' M p ∧ v = none ∧ MT I' (aC A) (aN A) ∧ fr wLd I I') v g1) := by
    intro N
    induction N with
    | zero => intro k I1 hN; exact absurd hN (Nat.not_lt_zero _)
    | succ N ih =>
      intro k I1 hN hk hf hr f hf0 hf1 
      refine jv_iload_n (pc' := 3) (k := 1) (x := (iI ((k : Nat) : Int))) rfl rfl rfl hf1 ?_
      refine jv_aload_n (pc' := 4) (k := 0) (x := 103) rfl rfl rfl hf0 ?_
      refine jv_getI (pc' := 7) (c := 12) (k := 2) (v := (iI (A 103 2))) rfl rfl rfl (fun _ _ => rfl) rfl rfl ((hf 103 2 (by omega)).trans (hM.1 103 2 (by simp [pers]))) ?_
      refine jv_ic_ge (t := 28) (pc' := 10) (a := ((k : Nat) : Int)) (b := (A 103 2)) rfl rfl rfl (by omega) (fun h2 => ?_) (fun h2 => ?_)
      · skip
        refine jv_aload_n (pc' := 29) (k := 0) (x := 103) rfl rfl rfl hf0 ?_
        refine jv_aload_n (pc' := 30) (k := 0) (x := 103) rfl rfl rfl hf0 ?_
        refine jv_getI (pc' := 33) (c := 12) (k := 2) (v := (iI (A 103 2))) rfl rfl rfl (fun _ _ => rfl) rfl rfl ((hf 103 2 (by omega)).trans (hM.1 103 2 (by simp [pers]))) ?_
        refine jv_putI (pc' := 36) (c := 12) (k := 18) rfl rfl rfl rfl (fun _ _ _  => rfl) rfl rfl ?_
        refine jv_retV rfl rfl ⟨_, _, rfl, ?_⟩
        have ek : k = aN A := by unfold aN; omega
        subst ek
        refine ⟨_, rfl, rfl, ⟨(congrArg iI (show A 103 2 = ((aN A : Nat) : Int) by omega)), by omega, fun i hi => (jm_u_n2 (by omega)).trans ((hr i hi).trans (congrArg iI (if_pos (by omega)).symm)), fun i hi => ?_, fun i hi => if_neg (by omega)⟩, fr_u (Or.inr ⟨rfl, rfl⟩) (fr_w hf (fun l k h => Or.inl h))⟩
        rw [show aC A i = A 104 i from if_pos (by omega)]
        exact hA.2 i (by omega)
      · skip
        refine jv_aload_n (pc' := 11) (k := 0) (x := 103) rfl rfl rfl hf0 ?_
        refine jv_getR (pc' := 14) (c := 12) (k := 17) (v := 117) rfl rfl rfl (fun _ _ => rfl) rfl rfl (jR_103_17 _) ?_
        refine jv_iload_n (pc' := 15) (k := 1) (x := (iI ((k : Nat) : Int))) rfl rfl rfl hf1 ?_
        refine jv_aload_n (pc' := 16) (k := 0) (x := 103) rfl rfl rfl hf0 ?_
        refine jv_getR (pc' := 19) (c := 12) (k := 1) (v := 104) rfl rfl rfl (fun _ _ => rfl) rfl rfl (jR_103_1 _) ?_
        refine jv_iload_n (pc' := 20) (k := 1) (x := (iI ((k : Nat) : Int))) rfl rfl rfl hf1 ?_
        refine jv_iaload (pc' := 21) (n := 80) (e := ((k : Nat) : Int)) (v := (iI (A 104 k))) rfl rfl (by decide) rfl rfl rfl (by omega) ((hf 104 k (by omega)).trans (hM.1 104 k (by simp [pers]))) ?_
        refine jv_iastore (pc' := 22) (n := 80) (e := ((k : Nat) : Int)) (v := (iI (A 104 k))) rfl rfl rfl rfl rfl (by omega) ?_
        refine jv_iinc (pc' := 25) (k := 1) (a := ((k : Nat) : Int)) rfl rfl hf1 rfl (Or.inr (congrArg jm_lng hf0)) ?_
        refine jx_step (pc' := 2) rfl ?_
        exact ih (k + 1) (jm_u I1 117 (((k : Nat) : Int) : Int).toNat (iI (A 104 k))) (by omega) (by omega) (fr_t hf (fr_u rfl (fr_r _))) (fun i hi => by
              by_cases e : i = k
              · subst e; exact jm_u_eq ⟨rfl, by omega⟩
              · exact (jm_u_n2 (by omega)).trans (hr i (by omega))) _ hf0 rfl 
  exact H1 _ 0 I (Nat.lt_succ_self _) (by omega) (fr_r _) (fun i hi => absurd hi (by omega)) _ rfl rfl 
theorem op_filter_b (hM : CM I M A) (hx : iR x) (hbad : ¬ (0 ≤ x ∧ x < 4)) : jc L xs (d + 1) 127 [.ref 103, .int (iI x)] (jx_G j I M p) (fun v g1 => ∃ I', g1 = jx_G j I' M p ∧ fr mW I I' ∧ CM I' M A ∧ I' 103 0 = iI 1) := by
  unfold jc
  refine jv_aload_n (pc' := 1) (k := 0) (x := 103) rfl rfl rfl rfl ?_
  refine jv_iload_n (pc' := 2) (k := 1) (x := (iI x)) rfl rfl rfl rfl ?_
  refine jv_call (pc' := 5) rfl (ml_noLayer (by omega)) (fun vq1 gq1 q1 => ?_)
  obtain ⟨rfl, rfl⟩ := q1
  show jx L xs _ 127 5 _ [.int (jb (x < 0 ∨ 3 < x)), .ref 103] _ _
  refine jv_jb_eq (t := 12) (pc' := 8) (P := x < 0 ∨ 3 < x) rfl rfl rfl (fun hz_2 => ?_) (fun hz_2 => ?_)
  · skip
    exfalso; omega
  · skip
    refine jv_iconst (pc' := 9) (n := 1) rfl rfl ?_
    refine jx_step (pc' := 13) rfl ?_
    refine jv_putI (pc' := 16) (c := 12) (k := 0) rfl rfl rfl rfl (fun _ _ _  => rfl) rfl rfl ?_
    refine jv_aload_n (pc' := 17) (k := 0) (x := 103) rfl rfl rfl rfl ?_
    refine jv_getI (pc' := 20) (c := 12) (k := 0) (v := (iI 1)) rfl rfl rfl (fun _ _ => rfl) rfl rfl rfl ?_
    refine jv_if_le (t := 25) (pc' := 23) (a := 1) rfl rfl rfl (by omega) (fun hz_3 => ?_) (fun hz_3 => ?_)
    · skip
      exact absurd hz_3 (by decide)
    · skip
      refine jv_iconst (pc' := 24) (n := 0) rfl rfl ?_
      refine jv_retI rfl rfl ⟨_, _, rfl, ?_⟩
      first
      | (exfalso; omega)
      | exact ⟨_, rfl, (fr_u (by simp [mW]) (fr_r _)), CM_n hM (by simp [pers]), rfl⟩
theorem op_filter_m (hM : CM I M A) (hA : AV1 A) (hfq : fq < 4) {e i : Nat} (hQ : QE (aC A) (aN A) i 0 0 [] true e) : jc L xs (d + 5) 127 [.ref 103, .int (iI ((fq : Nat) : Int))] (jx_G j I M p) (fun v g1 => ∃ I', g1 = jx_G j I' M p ∧ fr mW I I' ∧ CM I' M (aTx 107 A fq) ∧ I' 103 0 = iI 0 ∧ v = some (.int (iI (-1)))) := by
  unfold jc
  have hv1 := hA.1
  have hNa : ((aN A : Nat) : Int) = A 103 2 := by unfold aN; omega
  refine jv_aload_n (pc' := 1) (k := 0) (x := 103) rfl rfl rfl rfl ?_
  refine jv_iload_n (pc' := 2) (k := 1) (x := (iI ((fq : Nat) : Int))) rfl rfl rfl rfl ?_
  refine jv_call (pc' := 5) rfl (ml_noLayer (by omega)) (fun vq1 gq1 q1 => ?_)
  obtain ⟨rfl, rfl⟩ := q1
  show jx L xs _ 127 5 _ [.int (jb (((fq : Nat) : Int) < 0 ∨ 3 < ((fq : Nat) : Int))), .ref 103] _ _
  refine jv_jb_eq (t := 12) (pc' := 8) (P := ((fq : Nat) : Int) < 0 ∨ 3 < ((fq : Nat) : Int)) rfl rfl rfl (fun hz_2 => ?_) (fun hz_2 => ?_)
  · skip
    refine jv_iconst (pc' := 13) (n := 0) rfl rfl ?_
    refine jv_putI (pc' := 16) (c := 12) (k := 0) rfl rfl rfl rfl (fun _ _ _  => rfl) rfl rfl ?_
    refine jv_aload_n (pc' := 17) (k := 0) (x := 103) rfl rfl rfl rfl ?_
    refine jv_getI (pc' := 20) (c := 12) (k := 0) (v := (iI 0)) rfl rfl rfl (fun _ _ => rfl) rfl rfl rfl ?_
    refine jv_if_le (t := 25) (pc' := 23) (a := 0) rfl rfl rfl (by omega) (fun hz_3 => ?_) (fun hz_3 => ?_)
    · skip
      refine jv_aload_n (pc' := 26) (k := 0) (x := 103) rfl rfl rfl rfl ?_
      have hM0 : CM (jm_u I 103 0 (iI 0)) M A := CM_n hM (by simp [pers])
      refine jv_call (pc' := 29) rfl (ml_load (I := jm_u I 103 0 (iI 0)) hM0 hA) (fun v1 g1 q1 => ?_)
      obtain ⟨I1, rfl, rfl, T1, r1⟩ := q1
      have hM1 : CM I1 M A := CM_fr hM0 r1 (fr_r (W := fun _ _ => False) M) (fun l k hp => by unfold pers at hp; unfold wLd; omega) (fun _ _ _ h => h)
      show jx L xs _ 127 29 _ [] _ _
      refine jv_aload_n (pc' := 30) (k := 0) (x := 103) rfl rfl rfl rfl ?_
      refine jv_call (pc' := 33) rfl (ml_isFilter (I := I1) (ok := true) T1 hQ) (fun v2 g2 q2 => ?_)
      obtain ⟨I2, rfl, e2, at2, r2⟩ := q2
      obtain rfl : v2 = some (.int (iI 1)) := by rw [e2, jb_t rfl]
      have hM2 : CM I2 M A := CM_fr hM1 r2 (fr_r (W := fun _ _ => False) M) (fun l k hp => by unfold pers at hp; unfold wQ; omega) (fun _ _ _ h => h)
      have T2 := MT_fr T1 r2 (by unfold wQ; omega) (by intro k; unfold wQ; omega)
      have z2 : I2 103 0 = iI 0 := (r2 103 0 (by unfold wQ; omega)).trans ((r1 103 0 (by unfold wLd; omega)).trans rfl)
      show jx L xs _ 127 33 _ [.int (iI 1)] _ _
      refine jv_if_ne (t := 41) (pc' := 36) (a := 1) rfl rfl rfl (by omega) (fun hz_4 => ?_) (fun hz_4 => ?_)
      · skip
        refine jv_iconst (pc' := 42) (n := 0) rfl rfl ?_
        refine jv_istore_n (pc' := 43) (k := 2) (x := (iI 0)) rfl rfl rfl rfl (Or.inr rfl) ?_
        have H5 : ∀ (N : Nat) (k : Nat) (I4 : Nat → Nat → Int32), 80 - k < N → ((k : Int) ≤ A 103 2) → (fr mW I I4) → (CM I4 M (aCp 107 A fq k)) → (MT I4 (aC A) (aN A)) → (I4 103 0 = iI 0) → ∀ f : jm_F, f 0 = some (.ref 103) → f 1 = some (.int (iI ((fq : Nat) : Int))) → f 2 = some (.int (iI ((k : Nat) : Int))) → jx L xs ((d + 5)) 127 43 f [] (jx_G j I4 M p) (fun z => ∃ v g1, z = (.inl v, g1) ∧ (fun v g1 => ∃ I', g1 = jx_G j I' M p ∧ fr mW I I' ∧ CM I' M (aTx 107 A fq) ∧ I' 103 0 = iI 0 ∧ v = some (.int (iI (-1)))) v g1) := by
          intro N
          induction N with
          | zero => intro k I4 hN; exact absurd hN (Nat.not_lt_zero _)
          | succ N ih =>
            intro k I4 hN hk hf hC hT h0 f hf0 hf1 hf2 
            refine jv_iload_n (pc' := 44) (k := 2) (x := (iI ((k : Nat) : Int))) rfl rfl rfl hf2 ?_
            refine jv_aload_n (pc' := 45) (k := 0) (x := 103) rfl rfl rfl hf0 ?_
            refine jv_getI (pc' := 48) (c := 12) (k := 18) (v := (iI (A 103 2))) rfl rfl rfl (fun _ _ => rfl) rfl rfl (hT.1.trans (congrArg iI hNa)) ?_
            refine jv_ic_ge (t := 74) (pc' := 51) (a := ((k : Nat) : Int)) (b := (A 103 2)) rfl rfl rfl (by omega) (fun hz_6 => ?_) (fun hz_6 => ?_)
            · skip
              refine jv_aload_n (pc' := 75) (k := 0) (x := 103) rfl rfl rfl hf0 ?_
              refine jv_getR (pc' := 78) (c := 12) (k := 6) (v := 108) rfl rfl rfl (fun _ _ => rfl) rfl rfl (jR_103_6 _) ?_
              refine jv_iload_n (pc' := 79) (k := 1) (x := (iI ((fq : Nat) : Int))) rfl rfl rfl hf1 ?_
              refine jv_aload_n (pc' := 80) (k := 0) (x := 103) rfl rfl rfl hf0 ?_
              refine jv_getI (pc' := 83) (c := 12) (k := 18) (v := (iI (A 103 2))) rfl rfl rfl (fun _ _ => rfl) rfl rfl (hT.1.trans (congrArg iI hNa)) ?_
              refine jv_iastore (pc' := 84) (n := 4) (e := ((fq : Nat) : Int)) (v := (iI (A 103 2))) rfl rfl rfl rfl rfl (by omega) ?_
              refine jv_aload_n (pc' := 85) (k := 0) (x := 103) rfl rfl rfl hf0 ?_
              refine jv_iconst (pc' := 86) (n := 0) rfl rfl ?_
              refine jv_putI (pc' := 89) (c := 12) (k := 2) rfl rfl rfl rfl (fun _ _ _  => rfl) rfl rfl ?_
              refine jv_iconst (pc' := 90) (n := -1) rfl rfl ?_
              refine jv_retI rfl rfl ⟨_, _, rfl, ?_⟩
              first
              | (exfalso; omega)
              | (have ek : k = aN A := by omega
                 subst ek
                 exact ⟨_, rfl, (fr_u (by simp [mW]) (fr_u (by simp [mW]) hf)), CM_u (CM_u hC (by omega)) (by omega), h0, rfl⟩)
            · skip
              refine jv_aload_n (pc' := 52) (k := 0) (x := 103) rfl rfl rfl hf0 ?_
              refine jv_getR (pc' := 55) (c := 12) (k := 5) (v := 107) rfl rfl rfl (fun _ _ => rfl) rfl rfl (jR_103_5 _) ?_
              refine jv_bipush (pc' := 57) (n := 80) rfl rfl rfl ?_
              refine jv_iload_n (pc' := 58) (k := 1) (x := (iI ((fq : Nat) : Int))) rfl rfl rfl hf1 ?_
              refine jv_imul (pc' := 59) (a := 80) (b := ((fq : Nat) : Int)) rfl rfl ?_
              refine jv_iload_n (pc' := 60) (k := 2) (x := (iI ((k : Nat) : Int))) rfl rfl rfl hf2 ?_
              refine jv_iadd (pc' := 61) (a := (80 * ((fq : Nat) : Int))) (b := ((k : Nat) : Int)) rfl rfl ?_
              refine jv_aload_n (pc' := 62) (k := 0) (x := 103) rfl rfl rfl hf0 ?_
              refine jv_getR (pc' := 65) (c := 12) (k := 17) (v := 117) rfl rfl rfl (fun _ _ => rfl) rfl rfl (jR_103_17 _) ?_
              refine jv_iload_n (pc' := 66) (k := 2) (x := (iI ((k : Nat) : Int))) rfl rfl rfl hf2 ?_
              refine jv_iaload (pc' := 67) (n := 80) (e := ((k : Nat) : Int)) (v := (iI (A 104 k))) rfl rfl (by decide) rfl rfl rfl (by omega) ((hT.2.2.1 k (by omega)).trans (congrArg iI (if_pos (by omega)))) ?_
              refine jv_iastore (pc' := 68) (n := 320) (e := ((80 * ((fq : Nat) : Int)) + ((k : Nat) : Int))) (v := (iI (A 104 k))) rfl rfl rfl rfl rfl (by omega) ?_
              refine jv_iinc (pc' := 71) (k := 2) (a := ((k : Nat) : Int)) rfl rfl hf2 rfl (Or.inr (congrArg jm_lng hf1)) ?_
              refine jx_step (pc' := 43) rfl ?_
              exact ih (k + 1) (jm_u I4 107 ((80 * ((fq : Nat) : Int)) + ((k : Nat) : Int) : Int).toNat (iI (A 104 k))) (by omega) (by omega) (fr_t hf (fr_u (by simp [mW]) (fr_r _))) (CM_cp hC (by omega) (by omega)) (MT_fr (W := fun l _ => l = 107) hT (fr_u rfl (fr_r _)) (by omega) (by intro k; omega)) h0 _ hf0 hf1 rfl 
        exact H5 _ 0 I2 (Nat.lt_succ_self _) (by omega) (fr_t (fr_t (fr_u (by simp [mW]) (fr_r _)) (fr_w r1 (fun l k h => by unfold wLd at h; unfold mW; omega))) (fr_w r2 (fun l k h => by unfold wQ at h; unfold mW; omega))) (by rw [aCp_0]; exact hM2) T2 z2 _ rfl rfl rfl 
      · skip
        exact absurd hz_4 (by decide)
    · skip
      exact absurd hz_3 (by decide)
  · skip
    exfalso; omega
theorem op_filter_w (hM : CM I M A) (hA : AV1 A) (hfq : fq < 4) {e i : Nat} (hQ : QE (aC A) (aN A) i 0 0 [] false e) : jc L xs (d + 5) 127 [.ref 103, .int (iI ((fq : Nat) : Int))] (jx_G j I M p) (fun v g1 => ∃ I', g1 = jx_G j I' M p ∧ fr mW I I' ∧ CM I' M A ∧ I' 103 0 = iI 0 ∧ v = some (.int (iI ((e : Nat) : Int)))) := by
  unfold jc
  have hv1 := hA.1
  have hNa : ((aN A : Nat) : Int) = A 103 2 := by unfold aN; omega
  refine jv_aload_n (pc' := 1) (k := 0) (x := 103) rfl rfl rfl rfl ?_
  refine jv_iload_n (pc' := 2) (k := 1) (x := (iI ((fq : Nat) : Int))) rfl rfl rfl rfl ?_
  refine jv_call (pc' := 5) rfl (ml_noLayer (by omega)) (fun vq1 gq1 q1 => ?_)
  obtain ⟨rfl, rfl⟩ := q1
  show jx L xs _ 127 5 _ [.int (jb (((fq : Nat) : Int) < 0 ∨ 3 < ((fq : Nat) : Int))), .ref 103] _ _
  refine jv_jb_eq (t := 12) (pc' := 8) (P := ((fq : Nat) : Int) < 0 ∨ 3 < ((fq : Nat) : Int)) rfl rfl rfl (fun hz_2 => ?_) (fun hz_2 => ?_)
  · skip
    refine jv_iconst (pc' := 13) (n := 0) rfl rfl ?_
    refine jv_putI (pc' := 16) (c := 12) (k := 0) rfl rfl rfl rfl (fun _ _ _  => rfl) rfl rfl ?_
    refine jv_aload_n (pc' := 17) (k := 0) (x := 103) rfl rfl rfl rfl ?_
    refine jv_getI (pc' := 20) (c := 12) (k := 0) (v := (iI 0)) rfl rfl rfl (fun _ _ => rfl) rfl rfl rfl ?_
    refine jv_if_le (t := 25) (pc' := 23) (a := 0) rfl rfl rfl (by omega) (fun hz_3 => ?_) (fun hz_3 => ?_)
    · skip
      refine jv_aload_n (pc' := 26) (k := 0) (x := 103) rfl rfl rfl rfl ?_
      have hM0 : CM (jm_u I 103 0 (iI 0)) M A := CM_n hM (by simp [pers])
      refine jv_call (pc' := 29) rfl (ml_load (I := jm_u I 103 0 (iI 0)) hM0 hA) (fun v1 g1 q1 => ?_)
      obtain ⟨I1, rfl, rfl, T1, r1⟩ := q1
      have hM1 : CM I1 M A := CM_fr hM0 r1 (fr_r (W := fun _ _ => False) M) (fun l k hp => by unfold pers at hp; unfold wLd; omega) (fun _ _ _ h => h)
      show jx L xs _ 127 29 _ [] _ _
      refine jv_aload_n (pc' := 30) (k := 0) (x := 103) rfl rfl rfl rfl ?_
      refine jv_call (pc' := 33) rfl (ml_isFilter (I := I1) (ok := false) T1 hQ) (fun v2 g2 q2 => ?_)
      obtain ⟨I2, rfl, e2, at2, r2⟩ := q2
      obtain rfl : v2 = some (.int (iI 0)) := by rw [e2, jb_f (by decide)]
      have hM2 : CM I2 M A := CM_fr hM1 r2 (fr_r (W := fun _ _ => False) M) (fun l k hp => by unfold pers at hp; unfold wQ; omega) (fun _ _ _ h => h)
      have T2 := MT_fr T1 r2 (by unfold wQ; omega) (by intro k; unfold wQ; omega)
      have z2 : I2 103 0 = iI 0 := (r2 103 0 (by unfold wQ; omega)).trans ((r1 103 0 (by unfold wLd; omega)).trans rfl)
      show jx L xs _ 127 33 _ [.int (iI 0)] _ _
      refine jv_if_ne (t := 41) (pc' := 36) (a := 0) rfl rfl rfl (by omega) (fun hz_4 => ?_) (fun hz_4 => ?_)
      · skip
        exact absurd hz_4 (by decide)
      · skip
        refine jv_aload_n (pc' := 37) (k := 0) (x := 103) rfl rfl rfl rfl ?_
        refine jv_getI (pc' := 40) (c := 12) (k := 19) (v := (iI ((e : Nat) : Int))) rfl rfl rfl (fun _ _ => rfl) rfl rfl (at2 rfl) ?_
        refine jv_retI rfl rfl ⟨_, _, rfl, ?_⟩
        first
        | (exfalso; omega)
        | exact ⟨_, rfl, (fr_t (fr_t (fr_u (by simp [mW]) (fr_r _)) (fr_w r1 (fun l k h => by unfold wLd at h; unfold mW; omega))) (fr_w r2 (fun l k h => by unfold wQ at h; unfold mW; omega))), hM2, z2, rfl⟩
    · skip
      exact absurd hz_3 (by decide)
  · skip
    exfalso; omega
end H8
