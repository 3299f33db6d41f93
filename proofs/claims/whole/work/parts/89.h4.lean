/-! printed by wip/whole/gen/h4.py: the entries of a frame -/
theorem jR13 (p : Nat → Option Nat) {f : Nat} (h : f < 12) : jx_R p 13 f = p (1 + f) := by
  have : f = 0 ∨ f = 1 ∨ f = 2 ∨ f = 3 ∨ f = 4 ∨ f = 5 ∨ f = 6 ∨ f = 7 ∨ f = 8 ∨ f = 9 ∨ f = 10 ∨ f = 11 := by omega
  rcases this with rfl | rfl | rfl | rfl | rfl | rfl | rfl | rfl | rfl | rfl | rfl | rfl <;> rfl
theorem EP_Wd {I I' : Nat → Nat → Int32} {Tl : Nat → Nat} {sz : Nat} {s : DSt} (e : EP (Wd I Tl) sz s) (h : ∀ l k, l < 4 → I' (Tl l + 5) k = I (Tl l + 5) k) : EP (Wd I' Tl) sz s := fun k hk => by
  obtain ⟨e1, e2⟩ := e k hk
  refine ⟨e1, ?_⟩
  rcases e2 with e2 | e2 | e2 | ⟨x1, x2, x3⟩
  · exact Or.inl e2
  · exact Or.inr (Or.inl e2)
  · exact Or.inr (Or.inr (Or.inl e2))
  · refine Or.inr (Or.inr (Or.inr ⟨x1, ?_, x3⟩))
    have hl := e1.1
    have : Wd I' Tl (s 3 k).toNat (s 4 k).toNat = Wd I Tl (s 3 k).toNat (s 4 k).toNat := congrArg Int32.toInt (h _ _ (by omega))
    rw [this]; exact x2
/-- frame f is decoded -/
def EN (I : Nat → Nat → Int32) (M : Nat → Nat → Int64) (p : Nat → Option Nat) (A : AB) (f : Nat) (s : DSt) : Prop := CR I M p A ∧ DCe I M s ∧ DEC (acL A) (anL A) (afc A) (afv A) (afn A) (aB A f) (aZ A f) (aLim A) (aRoot A f) s ∧ (0 ≤ s 0 2 ∧ s 0 2 ≤ 64) ∧ I 0 12 = iI (f : Int) ∧ ∃ Tl S, RLy I p A Tl S ∧ EP (Wd I Tl) (aZ A f) s
def wR2 (l k : Nat) : Prop := wR l k ∨ (l = 0 ∧ k = 12)
theorem EN_mk {I I' : Nat → Nat → Int32} {M M' : Nat → Nat → Int64} {p p' : Nat → Option Nat} {A : AB} {f : Nat} {s : DSt} {Tl σ : Nat → Nat} {S : Nat} (h : CR I M p A) (hL : RLy I p A Tl S) (hF : RFr I p A σ) (hf : (f : Int) < A 103 12) (fr1 : fr wR2 I I') (fr2 : fr wE M M') (hp : ∀ i, i ≠ 17 → i ≠ 18 → p' i = p i) (hD : DCe I' M' s) (hE : DEC (acL A) (anL A) (afc A) (afv A) (afn A) (aB A f) (aZ A f) (aLim A) (aRoot A f) s) (hP : EP (Wd I Tl) (aZ A f) s) (hc : 0 ≤ s 0 2 ∧ s 0 2 ≤ 64) (h12 : I' 0 12 = iI (f : Int)) : EN I' M' p' A f s := by
  obtain ⟨hv, d1, ⟨_, _, _, _, _, d4⟩, d5, d8, d6, d9, d7⟩ := h
  have hv5 := hv.2.2.2.2.2.2.1
  have hL' : RLy I' p' A Tl S := RLy_w hL fr1 (fun i hi => hp i (by omega) (by omega)) (by intro T i k h1 h2; unfold wR2 wR; omega)
  have hP' : EP (Wd I' Tl) (aZ A f) s := EP_Wd hP (fun l k hl => fr1 _ _ (by have := (hL.1 l hl).2.1; unfold wR2 wR; omega))
  obtain ⟨z, hz⟩ := d4.1
  refine ⟨⟨hv, CT_fr d1 fr1 (by simp [wR2, wR]) (by intro k; simp [wR2, wR]), ⟨Tl, S, σ, hL', RFr_w hF fr1 (fun i h1 h2 => hp i (by omega) (by omega)) (by intro T i k h1 h2; unfold wR2 wR; omega) (by omega), ⟨z, (fr1 _ _ (by simp [wR2, wR])).trans hz⟩, s, _, _, (f : Int), hD, hP, hc, h12, Or.inr ⟨f, rfl, hf, hE, hP'⟩⟩, RFo_w d5 fr1 (by intro T i k h1 h2; unfold wR2 wR; omega), RSc_w d8 fr1 (by simp [wR2, wR]), RFi_w d6 fr1 (by intro l k h1 h2; unfold wR2 wR; omega), RTa_w d9 fr1 fr2 (by simp [wR2, wR]) (by intro k; simp [wE]), RJo_w d7 fr1 (by intro k; simp [wR2, wR])⟩, hD, hE, hc, h12, Tl, S, hL', hP'⟩
section H4
variable {L : Nat} {xs : Nat → Int32} {d j : Nat} {I : Nat → Nat → Int32} {M : Nat → Nat → Int64} {p : Nat → Option Nat}
variable {A : AB} {x y z : Int} {f : Nat} {s : DSt}
theorem cl_entriesOf (hR : CR I M p A) (hf : (f : Int) < A 103 12) : jc L xs (d + 12) 27 [.ref 0, .int (iI ((f : Nat) : Int))] (jx_G j I M p) (fun v g1 => ∃ I' M' p', g1 = jx_G j I' M' p' ∧ v = some (.ref 39) ∧ fr cW I I' ∧ fr cV M M' ∧ (∀ i, i ≠ 17 → i ≠ 18 → p' i = p i) ∧ ∃ s, EN I' M' p' A f s) := by
  unfold jc
  have hR0 := hR
  obtain ⟨hv, h1, ⟨Tl, S, σ, h2, h3, h4⟩, h5, hSc, h7, h8, h9⟩ := hR0
  obtain ⟨_, s, W0, sz0, df, hDs, hEs, hcs, hd12, hdf⟩ := h4
  have v5 := hv.2.2.2.2
  have hv12 := v5.2.2.1
  have hf12 : f < 12 := by omega
  obtain ⟨hpf, hFL⟩ := h3.1 f hf12
  have hlm := v5.2.1
  have hlimc : I 0 11 = iI ((aLim A : Nat) : Int) := hSc.2.1.trans (congrArg iI (by unfold aLim; omega))
  obtain ⟨lk, hlke⟩ : ∃ lk : Nat, A 113 f = ((lk : Nat) : Int) := ⟨(A 113 f).toNat, by have := (v5.2.2.2 f hf).1; omega⟩
  have hlk : lk < 2 := by have := (v5.2.2.2 f hf).1; omega
  have hlkc : I (σ f) 2 = iI ((lk : Nat) : Int) := (h3.2.2 f hf).2.1.trans (congrArg iI hlke)
  have hrt : aRoot A f = A 109 lk := by unfold aRoot; rw [hlke]; rfl
  have hroot : -1 ≤ aRoot A f ∧ aRoot A f < 4 := by rw [hrt]; exact v5.1 lk hlk
  have hlim1 : 1 ≤ aLim A ∧ aLim A ≤ 64 := by unfold aLim; omega
  have hX : RX I p Tl (acL A) (anL A) (afc A) (afv A) (afn A) (σ f) (aB A f) (aZ A f) (aLim A) := ⟨h2.1, h5, TXS_L hv.2.1, hFL, FB_of h3 v5 hf, hlim1.2⟩
  have hdr : -1 ≤ df ∧ df < 12 := by
    rcases hdf with z | ⟨f2, z, z2, _⟩ <;> omega
  refine jv_aload_n (pc' := 1) (k := 0) (x := 0) rfl rfl rfl rfl ?_
  refine jv_getI (pc' := 4) (c := 0) (k := 12) (v := (iI df)) rfl rfl rfl (fun _ _ => rfl) rfl rfl hd12 ?_
  refine jv_iload_n (pc' := 5) (k := 1) (x := (iI ((f : Nat) : Int))) rfl rfl rfl rfl ?_
  refine jv_ic_eq (t := 44) (pc' := 8) (a := df) (b := ((f : Nat) : Int)) rfl rfl rfl (by omega) (fun hz_1 => ?_) (fun hz_1 => ?_)
  · skip
    refine jv_aload_n (pc' := 45) (k := 0) (x := 0) rfl rfl rfl rfl ?_
    refine jv_getR (pc' := 48) (c := 0) (k := 4) (v := 38) rfl rfl rfl (fun _ _ => rfl) rfl rfl (jR_0_4 _) ?_
    refine jv_getR (pc' := 51) (c := 6) (k := 0) (v := 39) rfl rfl rfl (fun _ _ => rfl) rfl rfl (jR_38_0 _) ?_
    refine jv_retR rfl rfl ⟨_, _, rfl, ?_⟩
    first
    | (exfalso; omega)
    | (rcases hdf with hdf | ⟨f2, e1, h5, h6, h7⟩
       · exfalso; omega
       · have e2 : f2 = f := by omega
         subst e2
         exact ⟨_, _, _, rfl, rfl, fr_r _, fr_r _, fun _ _ _ => rfl, s, hR, hDs, h6, hcs, e1 ▸ hd12, Tl, S, h2, h7⟩)
  · skip
    refine jv_aload_n (pc' := 9) (k := 0) (x := 0) rfl rfl rfl rfl ?_
    refine jv_getR (pc' := 12) (c := 0) (k := 4) (v := 38) rfl rfl rfl (fun _ _ => rfl) rfl rfl (jR_0_4 _) ?_
    refine jv_aload_n (pc' := 13) (k := 0) (x := 0) rfl rfl rfl rfl ?_
    refine jv_getR (pc' := 16) (c := 0) (k := 3) (v := 13) rfl rfl rfl (fun _ _ => rfl) rfl rfl (jR_0_3 _) ?_
    refine jv_iload_n (pc' := 17) (k := 1) (x := (iI ((f : Nat) : Int))) rfl rfl rfl rfl ?_
    refine jv_aaload (pc' := 18) (n := 12) (e := ((f : Nat) : Int)) (v := (σ f)) rfl rfl rfl rfl rfl (by omega) ((jR13 _ hf12).trans hpf) ?_
    refine jv_aload_n (pc' := 19) (k := 0) (x := 0) rfl rfl rfl rfl ?_
    refine jv_getR (pc' := 22) (c := 0) (k := 2) (v := 12) rfl rfl rfl (fun _ _ => rfl) rfl rfl (jR_0_2 _) ?_
    refine jv_aload_n (pc' := 23) (k := 0) (x := 0) rfl rfl rfl rfl ?_
    refine jv_getR (pc' := 26) (c := 0) (k := 3) (v := 13) rfl rfl rfl (fun _ _ => rfl) rfl rfl (jR_0_3 _) ?_
    refine jv_iload_n (pc' := 27) (k := 1) (x := (iI ((f : Nat) : Int))) rfl rfl rfl rfl ?_
    refine jv_aaload (pc' := 28) (n := 12) (e := ((f : Nat) : Int)) (v := (σ f)) rfl rfl rfl rfl rfl (by omega) ((jR13 _ hf12).trans hpf) ?_
    refine jv_getI (pc' := 31) (c := 5) (k := 2) (v := (iI ((lk : Nat) : Int))) rfl rfl rfl (fun _ _ => rfl) (FL_A hFL j _ _ _) rfl hlkc ?_
    refine jv_iaload (pc' := 32) (n := 2) (e := ((lk : Nat) : Int)) (v := (iI (A 109 lk))) rfl rfl (by decide) rfl rfl rfl (by omega) (hSc.2.2 lk hlk) ?_
    refine jv_aload_n (pc' := 33) (k := 0) (x := 0) rfl rfl rfl rfl ?_
    refine jv_getI (pc' := 36) (c := 0) (k := 11) (v := (iI ((aLim A : Nat) : Int))) rfl rfl rfl (fun _ _ => rfl) rfl rfl (hlimc) ?_
    rw [show A 109 lk = aRoot A f by exact hrt.symm]
    refine jv_call (pc' := 39) rfl (cl_run (I := I) (M := M) (p := p) (Tl := Tl) (root := aRoot A f) (F := σ f) (sz := aZ A f) (lim := aLim A) hX (by omega) hroot) (fun vq2 gq2 q2 => ?_)
    obtain ⟨I1, M1, p1, s1, rfl, rfl, r1, t1, hp1, D1, E1, P1, c1⟩ := q2
    show jx L xs _ 27 39 _ [] _ _
    refine jv_aload_n (pc' := 40) (k := 0) (x := 0) rfl rfl rfl rfl ?_
    refine jv_iload_n (pc' := 41) (k := 1) (x := (iI ((f : Nat) : Int))) rfl rfl rfl rfl ?_
    refine jv_putI (pc' := 44) (c := 0) (k := 12) rfl rfl rfl rfl (fun _ _ _  => rfl) rfl rfl ?_
    refine jv_aload_n (pc' := 45) (k := 0) (x := 0) rfl rfl rfl rfl ?_
    refine jv_getR (pc' := 48) (c := 0) (k := 4) (v := 38) rfl rfl rfl (fun _ _ => rfl) rfl rfl (jR_0_4 _) ?_
    refine jv_getR (pc' := 51) (c := 6) (k := 0) (v := 39) rfl rfl rfl (fun _ _ => rfl) rfl rfl (jR_38_0 _) ?_
    refine jv_retR rfl rfl ⟨_, _, rfl, ?_⟩
    have R1 : fr wR2 I (jm_u I1 0 12 (iI ((f : Nat) : Int))) := fr_u (Or.inr ⟨rfl, rfl⟩) (fr_w r1 (fun l k h => Or.inl h))
    exact ⟨_, _, _, rfl, rfl, fr_w R1 (fun l k h => by unfold wR2 wR at h; unfold cW; omega), fr_w t1 (fun l k h => by unfold wE at h; unfold cV; omega), hp1, s1, EN_mk hR h2 h3 hf R1 t1 hp1 (show DCe I1 M1 s1 from D1) E1 P1 c1 rfl⟩
theorem cl_isFrame (hx : iR x) (hR : CR I M p A) : jc L xs d 26 [.ref 0, .int (iI x)] (jx_G j I M p) (fun v g1 => v = some (.int (jb (0 ≤ x ∧ x < A 103 12))) ∧ g1 = jx_G j I M p) := by
  unfold jc
  have hv12 := hR.1.2.2.2.2.2.2.1
  refine jv_iload_n (pc' := 1) (k := 1) (x := (iI x)) rfl rfl rfl rfl ?_
  refine jv_if_lt (t := 16) (pc' := 4) (a := x) rfl rfl rfl (by omega) (fun h1 => ?_) (fun h1 => ?_)
  · skip
    refine jv_iconst (pc' := 17) (n := 0) rfl rfl ?_
    refine jv_retZ rfl rfl (by first | exact Or.inl rfl | exact Or.inr rfl) ⟨_, _, rfl, ?_⟩
    exact ⟨jq_f (by omega), rfl⟩
  · skip
    refine jv_iload_n (pc' := 5) (k := 1) (x := (iI x)) rfl rfl rfl rfl ?_
    refine jv_aload_n (pc' := 6) (k := 0) (x := 0) rfl rfl rfl rfl ?_
    refine jv_getI (pc' := 9) (c := 0) (k := 10) (v := (iI (A 103 12))) rfl rfl rfl (fun _ _ => rfl) rfl rfl hR.2.2.2.2.1.1 ?_
    refine jv_ic_ge (t := 16) (pc' := 12) (a := x) (b := (A 103 12)) rfl rfl rfl (by omega) (fun h2 => ?_) (fun h2 => ?_)
    · skip
      refine jv_iconst (pc' := 17) (n := 0) rfl rfl ?_
      refine jv_retZ rfl rfl (by first | exact Or.inl rfl | exact Or.inr rfl) ⟨_, _, rfl, ?_⟩
      exact ⟨jq_f (by omega), rfl⟩
    · skip
      refine jv_iconst (pc' := 13) (n := 1) rfl rfl ?_
      refine jx_step (pc' := 17) rfl ?_
      refine jv_retZ rfl rfl (by first | exact Or.inl rfl | exact Or.inr rfl) ⟨_, _, rfl, ?_⟩
      exact ⟨jq_t (by omega), rfl⟩
theorem op_decode_t (hx : iR x) (hR : CR I M p A) (hbad : ¬ (0 ≤ x ∧ x < A 103 12)) : jt L xs (d + 1) 10 [.ref 0, .int (iI x)] (jx_G j I M p) 52 (fun g1 => g1 = jx_G (j + 1) I M p) := by
  unfold jt
  refine jv_aload_n (pc' := 1) (k := 0) (x := 0) rfl rfl rfl rfl ?_
  refine jv_iload_n (pc' := 2) (k := 1) (x := (iI x)) rfl rfl rfl rfl ?_
  refine jv_call (pc' := 5) rfl (cl_isFrame (I := I) (M := M) (by omega) hR) (fun vq1 gq1 q1 => ?_)
  obtain ⟨rfl, rfl⟩ := q1
  show jx L xs _ 10 5 _ [.int (jb (0 ≤ x ∧ x < A 103 12))] _ _
  refine jv_jb_ne (t := 16) (pc' := 8) (P := 0 ≤ x ∧ x < A 103 12) rfl rfl rfl (fun hz_2 => ?_) (fun hz_2 => ?_)
  · skip
    exfalso; omega
  · skip
    refine jx_ret0 rfl ⟨_, rfl, ?_⟩
    first
    | (exfalso; omega)
    | rfl
theorem op_decode_c (hR : CR I M p A) (hf : (f : Int) < A 103 12) : jc L xs (d + 13) 10 [.ref 0, .int (iI ((f : Nat) : Int))] (jx_G j I M p) (fun v g1 => ∃ I' M' p', g1 = jx_G j I' M' p' ∧ fr cW I I' ∧ fr cV M M' ∧ ∃ s, EN I' M' p' A f s ∧ v = some (.int (iI (s 0 2)))) := by
  unfold jc
  have hv12 := hR.1.2.2.2.2.2.2.1
  refine jv_aload_n (pc' := 1) (k := 0) (x := 0) rfl rfl rfl rfl ?_
  refine jv_iload_n (pc' := 2) (k := 1) (x := (iI ((f : Nat) : Int))) rfl rfl rfl rfl ?_
  refine jv_call (pc' := 5) rfl (cl_isFrame (I := I) (M := M) (by omega) hR) (fun vq1 gq1 q1 => ?_)
  obtain ⟨rfl, rfl⟩ := q1
  show jx L xs _ 10 5 _ [.int (jb (0 ≤ ((f : Nat) : Int) ∧ ((f : Nat) : Int) < A 103 12))] _ _
  refine jv_jb_ne (t := 16) (pc' := 8) (P := 0 ≤ ((f : Nat) : Int) ∧ ((f : Nat) : Int) < A 103 12) rfl rfl rfl (fun hz_2 => ?_) (fun hz_2 => ?_)
  · skip
    refine jv_aload_n (pc' := 17) (k := 0) (x := 0) rfl rfl rfl rfl ?_
    refine jv_iload_n (pc' := 18) (k := 1) (x := (iI ((f : Nat) : Int))) rfl rfl rfl rfl ?_
    refine jv_call (pc' := 21) rfl (cl_entriesOf (I := I) (M := M) (p := p) (f := f) hR (by omega)) (fun vq3 gq3 q3 => ?_)
    obtain ⟨Iq3, Mq3, pq3, rfl, rfl, rq3, tq3, _, sq3, Nq3⟩ := q3
    show jx L xs _ 10 21 _ [.ref 39] _ _
    refine jv_getI (pc' := 24) (c := 7) (k := 2) (v := (iI (sq3 0 2))) rfl rfl rfl (fun _ _ => rfl) rfl rfl Nq3.2.1.2.2.1 ?_
    refine jv_retI rfl rfl ⟨_, _, rfl, ?_⟩
    first
    | (exfalso; omega)
    | exact ⟨_, _, _, rfl, (fr_t (fr_r _) rq3), (fr_t (fr_r _) tq3), sq3, Nq3, rfl⟩
  · skip
    exfalso; omega
theorem ml_noFrame (hx : iR x) (hM : CM I M A) (h12 : 0 ≤ A 103 12 ∧ A 103 12 ≤ 12) : jc L xs d 133 [.ref 103, .int (iI x)] (jx_G j I M p) (fun v g1 => v = some (.int (jb (¬ (0 ≤ x ∧ x < A 103 12)))) ∧ g1 = jx_G j I M p) := by
  unfold jc
  refine jv_iload_n (pc' := 1) (k := 1) (x := (iI x)) rfl rfl rfl rfl ?_
  refine jv_if_lt (t := 12) (pc' := 4) (a := x) rfl rfl rfl (by omega) (fun h1 => ?_) (fun h1 => ?_)
  · skip
    refine jv_iconst (pc' := 13) (n := 1) rfl rfl ?_
    refine jx_step (pc' := 17) rfl ?_
    refine jv_retZ rfl rfl (by first | exact Or.inl rfl | exact Or.inr rfl) ⟨_, _, rfl, ?_⟩
    exact ⟨jq_t (by omega), rfl⟩
  · skip
    refine jv_iload_n (pc' := 5) (k := 1) (x := (iI x)) rfl rfl rfl rfl ?_
    refine jv_aload_n (pc' := 6) (k := 0) (x := 103) rfl rfl rfl rfl ?_
    refine jv_getI (pc' := 9) (c := 12) (k := 12) (v := (iI (A 103 12))) rfl rfl rfl (fun _ _ => rfl) rfl rfl (hM.1 103 12 (by simp [pers])) ?_
    refine jv_ic_lt (t := 16) (pc' := 12) (a := x) (b := (A 103 12)) rfl rfl rfl (by omega) (fun h2 => ?_) (fun h2 => ?_)
    · skip
      refine jv_iconst (pc' := 17) (n := 0) rfl rfl ?_
      refine jv_retZ rfl rfl (by first | exact Or.inl rfl | exact Or.inr rfl) ⟨_, _, rfl, ?_⟩
      exact ⟨jq_f (by omega), rfl⟩
    · skip
      refine jv_iconst (pc' := 13) (n := 1) rfl rfl ?_
      refine jx_step (pc' := 17) rfl ?_
      refine jv_retZ rfl rfl (by first | exact Or.inl rfl | exact Or.inr rfl) ⟨_, _, rfl, ?_⟩
      exact ⟨jq_t (by omega), rfl⟩
theorem ml_dec (hM : CM I M A) (hv : AV2 A ∧ AV4 A ∧ AV5 A) (hf : (f : Int) < A 103 12) (hE : DEC (acL A) (anL A) (afc A) (afv A) (afn A) (aB A f) (aZ A f) (aLim A) (aRoot A f) s) : jc L xs (d + 6) 151 [.ref 103, .int (iI ((f : Nat) : Int))] (jx_G j I M p) (fun v g1 => ∃ I' M', g1 = jx_G j I' M' p ∧ v = none ∧ fr mW I I' ∧ fr mV M M' ∧ CM I' M' A ∧ DMe I' M' s ∧ I' 103 29 = iI (f : Int) ∧ I' 103 0 = I 103 0) := by
  have v5 := hv.2.2
  obtain ⟨lk, hlke⟩ : ∃ lk : Nat, A 113 f = ((lk : Nat) : Int) := ⟨(A 113 f).toNat, by have := (v5.2.2.2 f hf).1; omega⟩
  have hlk : lk < 2 := by have := (v5.2.2.2 f hf).1; omega
  have hrt : aRoot A f = A 109 lk := by unfold aRoot; rw [hlke]; rfl
  refine jc_mono (ml_decodeAll (lk := lk) (root := aRoot A f) (MD_of hM hv hf) ((hM.1 113 f (by simp [pers])).trans (congrArg iI hlke)) hlk (by rw [hrt]; exact hM.1 109 lk (by simp [pers])) (by rw [hrt]; exact v5.1 lk hlk) hE) (fun v g1 h => ?_)
  obtain ⟨I', M', rfl, rfl, r, t, D, hin⟩ := h
  exact ⟨I', M', rfl, rfl, fr_w r (fun l k h => by unfold wA at h; unfold mW; omega), fr_w t (fun l k h => by unfold wN at h; unfold mV; omega), CM_fr hM r t (fun l k hp => by unfold pers at hp; unfold wA; omega) (fun l k hl => by unfold wN; omega), D, hin, r 103 0 (by simp [wA])⟩
theorem op_decode_m (hM : CM I M A) (hv : AV2 A ∧ AV4 A ∧ AV5 A) (hf : (f : Int) < A 103 12) (hE : DEC (acL A) (anL A) (afc A) (afv A) (afn A) (aB A f) (aZ A f) (aLim A) (aRoot A f) s) : jc L xs (d + 7) 152 [.ref 103, .int (iI ((f : Nat) : Int))] (jx_G j I M p) (fun v g1 => ∃ I' M', g1 = jx_G j I' M' p ∧ fr mW I I' ∧ fr mV M M' ∧ CM I' M' A ∧ v = some (.int (iI (s 0 2))) ∧ I' 103 0 = iI 0) := by
  unfold jc
  have hv12 := hv.2.2.2.2.1
  refine jv_aload_n (pc' := 1) (k := 0) (x := 103) rfl rfl rfl rfl ?_
  refine jv_aload_n (pc' := 2) (k := 0) (x := 103) rfl rfl rfl rfl ?_
  refine jv_iload_n (pc' := 3) (k := 1) (x := (iI ((f : Nat) : Int))) rfl rfl rfl rfl ?_
  refine jv_call (pc' := 6) rfl (ml_noFrame (I := I) (M := M) (A := A) (by omega) hM hv12) (fun vq1 gq1 q1 => ?_)
  obtain ⟨rfl, rfl⟩ := q1
  show jx L xs _ 152 6 _ [.int (jb (¬ (0 ≤ ((f : Nat) : Int) ∧ ((f : Nat) : Int) < A 103 12))), .ref 103] _ _
  refine jv_jb_eq (t := 13) (pc' := 9) (P := ¬ (0 ≤ ((f : Nat) : Int) ∧ ((f : Nat) : Int) < A 103 12)) rfl rfl rfl (fun hz_2 => ?_) (fun hz_2 => ?_)
  · skip
    refine jv_iconst (pc' := 14) (n := 0) rfl rfl ?_
    refine jv_putI (pc' := 17) (c := 12) (k := 0) rfl rfl rfl rfl (fun _ _ _  => rfl) rfl rfl ?_
    refine jv_aload_n (pc' := 18) (k := 0) (x := 103) rfl rfl rfl rfl ?_
    refine jv_getI (pc' := 21) (c := 12) (k := 0) (v := (iI 0)) rfl rfl rfl (fun _ _ => rfl) rfl rfl rfl ?_
    refine jv_if_le (t := 26) (pc' := 24) (a := 0) rfl rfl rfl (by omega) (fun hz_3 => ?_) (fun hz_3 => ?_)
    · skip
      refine jv_aload_n (pc' := 27) (k := 0) (x := 103) rfl rfl rfl rfl ?_
      refine jv_iload_n (pc' := 28) (k := 1) (x := (iI ((f : Nat) : Int))) rfl rfl rfl rfl ?_
      refine jv_call (pc' := 31) rfl (ml_dec (I := jm_u I 103 0 (iI 0)) (M := M) (f := f) (CM_n hM (by simp [pers])) hv (by omega) hE) (fun vq4 gq4 q4 => ?_)
      obtain ⟨Iq4, Mq4, rfl, rfl, rq4, tq4, Cq4, Dq4, nq4, zq4⟩ := q4
      show jx L xs _ 152 31 _ [] _ _
      refine jv_aload_n (pc' := 32) (k := 0) (x := 103) rfl rfl rfl rfl ?_
      refine jv_getI (pc' := 35) (c := 12) (k := 22) (v := (iI (s 0 2))) rfl rfl rfl (fun _ _ => rfl) rfl rfl Dq4.2.2.1 ?_
      refine jv_retI rfl rfl ⟨_, _, rfl, ?_⟩
      first
      | (exfalso; omega)
      | exact ⟨_, _, rfl, (fr_t (fr_u (by simp [mW]) (fr_r _)) rq4), (fr_t (fr_r _) tq4), Cq4, rfl, (zq4.trans rfl)⟩
    · skip
      exact absurd hz_3 (by decide)
  · skip
    refine jv_iconst (pc' := 10) (n := 1) rfl rfl ?_
    refine jx_step (pc' := 14) rfl ?_
    refine jv_putI (pc' := 17) (c := 12) (k := 0) rfl rfl rfl rfl (fun _ _ _  => rfl) rfl rfl ?_
    refine jv_aload_n (pc' := 18) (k := 0) (x := 103) rfl rfl rfl rfl ?_
    refine jv_getI (pc' := 21) (c := 12) (k := 0) (v := (iI 1)) rfl rfl rfl (fun _ _ => rfl) rfl rfl rfl ?_
    refine jv_if_le (t := 26) (pc' := 24) (a := 1) rfl rfl rfl (by omega) (fun hz_5 => ?_) (fun hz_5 => ?_)
    · skip
      exact absurd hz_5 (by decide)
    · skip
      refine jv_iconst (pc' := 25) (n := 0) rfl rfl ?_
      refine jv_retI rfl rfl ⟨_, _, rfl, ?_⟩
      first
      | (exfalso; omega)
      | exact ⟨_, _, rfl, (fr_u (by simp [mW]) (fr_r _)), (fr_r _), (CM_n hM (by simp [pers])), rfl, rfl⟩
theorem op_decode_b (hM : CM I M A) (hv : AV2 A ∧ AV4 A ∧ AV5 A) (hx : iR x) (hbad : ¬ (0 ≤ x ∧ x < A 103 12)) : jc L xs (d + 1) 152 [.ref 103, .int (iI x)] (jx_G j I M p) (fun v g1 => ∃ I' M', g1 = jx_G j I' M' p ∧ fr mW I I' ∧ fr mV M M' ∧ CM I' M' A ∧ I' 103 0 = iI 1) := by
  unfold jc
  have hv12 := hv.2.2.2.2.1
  refine jv_aload_n (pc' := 1) (k := 0) (x := 103) rfl rfl rfl rfl ?_
  refine jv_aload_n (pc' := 2) (k := 0) (x := 103) rfl rfl rfl rfl ?_
  refine jv_iload_n (pc' := 3) (k := 1) (x := (iI x)) rfl rfl rfl rfl ?_
  refine jv_call (pc' := 6) rfl (ml_noFrame (I := I) (M := M) (A := A) (by omega) hM hv12) (fun vq1 gq1 q1 => ?_)
  obtain ⟨rfl, rfl⟩ := q1
  show jx L xs _ 152 6 _ [.int (jb (¬ (0 ≤ x ∧ x < A 103 12))), .ref 103] _ _
  refine jv_jb_eq (t := 13) (pc' := 9) (P := ¬ (0 ≤ x ∧ x < A 103 12)) rfl rfl rfl (fun hz_2 => ?_) (fun hz_2 => ?_)
  · skip
    refine jv_iconst (pc' := 14) (n := 0) rfl rfl ?_
    refine jv_putI (pc' := 17) (c := 12) (k := 0) rfl rfl rfl rfl (fun _ _ _  => rfl) rfl rfl ?_
    refine jv_aload_n (pc' := 18) (k := 0) (x := 103) rfl rfl rfl rfl ?_
    refine jv_getI (pc' := 21) (c := 12) (k := 0) (v := (iI 0)) rfl rfl rfl (fun _ _ => rfl) rfl rfl rfl ?_
    refine jv_if_le (t := 26) (pc' := 24) (a := 0) rfl rfl rfl (by omega) (fun hz_3 => ?_) (fun hz_3 => ?_)
    · skip
      exfalso; omega
    · skip
      exact absurd hz_3 (by decide)
  · skip
    refine jv_iconst (pc' := 10) (n := 1) rfl rfl ?_
    refine jx_step (pc' := 14) rfl ?_
    refine jv_putI (pc' := 17) (c := 12) (k := 0) rfl rfl rfl rfl (fun _ _ _  => rfl) rfl rfl ?_
    refine jv_aload_n (pc' := 18) (k := 0) (x := 103) rfl rfl rfl rfl ?_
    refine jv_getI (pc' := 21) (c := 12) (k := 0) (v := (iI 1)) rfl rfl rfl (fun _ _ => rfl) rfl rfl rfl ?_
    refine jv_if_le (t := 26) (pc' := 24) (a := 1) rfl rfl rfl (by omega) (fun hz_4 => ?_) (fun hz_4 => ?_)
    · skip
      exact absurd hz_4 (by decide)
    · skip
      refine jv_iconst (pc' := 25) (n := 0) rfl rfl ?_
      refine jv_retI rfl rfl ⟨_, _, rfl, ?_⟩
      first
      | (exfalso; omega)
      | exact ⟨_, _, rfl, (fr_u (by simp [mW]) (fr_r _)), (fr_r _), (CM_n hM (by simp [pers])), rfl⟩
end H4
