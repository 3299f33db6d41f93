/-! printed in part by wip/whole/gen/g1.py: the reference tells a filter's form -/
def RKJ (c : Nat → Int) (a k q : Nat) (gd : Int) : Prop := (gd = 1 ∧ k ≤ 3 ∧ 0 < nd c (a + 1) ∧ (qO c 3 (a + 1 + nd c (a + 1)) ↔ qO c (3 - k) q) ∧ qA c 3 (a + 1 + nd c (a + 1)) = qA c (3 - k) q) ∨ (gd = 0 ∧ ¬ cO c a ∧ cA c a = q)
theorem RKJ_s {c : Nat → Int} {a k q : Nat} (h : RKJ c a k q 1) (hk : k < 3) (hc : c q = 44) (hn : 0 < nd c (q + 1)) : RKJ c a (k + 1) (q + 1 + nd c (q + 1)) 1 := by
  rcases h with ⟨_, _, h1, h2, h3⟩ | h
  · obtain ⟨e1, e2, _⟩ := qO_y (k := 3 - (k + 1)) hc hn
    rw [show 3 - k = 3 - (k + 1) + 1 by omega] at h2 h3
    exact Or.inl ⟨rfl, by omega, h1, h2.trans e1, h3.trans e2⟩
  · exact absurd h.1 (by decide)
theorem RKJ_f {c : Nat → Int} {a k q : Nat} (ha : c a = 61) (h : RKJ c a k q 1) (hk : k < 3) (hc : c q = 44) (hn : ¬ 0 < nd c (q + 1)) : ¬ cO c a ∧ cA c a = q + 1 := by
  have hm : cm (c a) := Or.inl ha
  have hmo : mo (c a) = 3 := if_pos ha
  rcases h with ⟨_, _, h1, h2, h3⟩ | h
  · obtain ⟨e1, e2⟩ := qO_n (k := 3 - (k + 1)) hc hn
    rw [show 3 - k = 3 - (k + 1) + 1 by omega] at h2 h3
    refine ⟨fun z => ?_, ?_⟩
    · have := (z hm).2; rw [hmo] at this; exact e1 (h2.1 this)
    · unfold cA; rw [if_pos hm, if_pos h1, hmo, h3, e2]
  · exact absurd h.1 (by decide)
theorem RKJ_e {c : Nat → Int} {a k q : Nat} (ha : c a = 61) (h : RKJ c a k q 1) (hk : 3 ≤ k ∨ c q ≠ 44) : cO c a ∧ cA c a = q := by
  have hm : cm (c a) := Or.inl ha
  have hmo : mo (c a) = 3 := if_pos ha
  rcases h with ⟨_, _, h1, h2, h3⟩ | h
  · obtain ⟨e1, e2, _⟩ := qO_e (c := c) (k := 3 - k) (q := q) (by omega)
    refine ⟨fun _ => ⟨h1, by rw [hmo]; exact h2.2 e1⟩, ?_⟩
    unfold cA; rw [if_pos hm, if_pos h1, hmo, h3, e2]
  · exact absurd h.1 (by decide)
theorem c_one {c : Nat → Int} {a : Nat} (h : c a = 60 ∨ c a = 62 ∨ c a = 126) : (cO c a ↔ 0 < nd c (a + 1)) ∧ cA c a = a + 1 + nd c (a + 1) := by
  have hm : cm (c a) := by unfold cm; omega
  have hmo : mo (c a) = 0 := if_neg (by omega)
  refine ⟨⟨fun z => (z hm).1, fun z _ => ⟨z, by rw [hmo]; trivial⟩⟩, ?_⟩
  unfold cA
  rw [if_pos hm, hmo]
  split
  · rfl
  · show a + 1 = a + 1 + nd c (a + 1); omega
section QI
variable {c : Nat → Int} {n k a e : Nat} {ks r : List Bool} {ok : Bool}
theorem QE_QB {md : Nat} (h : QE c n k md a ks ok e) : QB a ks := by
  cases k with
  | zero => exact h.1
  | succ k => exact h.1
theorem Q0n (h : QE c n k 0 a ks ok e) (hc : c a = 33) (hl : ks.length < 8) : ∃ k', k = k' + 1 ∧ QE c n k' 0 (a + 1) (false :: ks) ok e := by
  cases k with
  | zero => exact absurd h.2 (fun z => QS_QF (QS_n hc hl) z)
  | succ k => obtain ⟨_, x, y, z, hs, h⟩ := h; obtain ⟨rfl, rfl, rfl⟩ := QS_det hs (QS_n hc hl); exact ⟨k, rfl, h⟩
theorem Q0b (h : QE c n k 0 a ks ok e) (hc : c a = 40) (hl : ks.length < 8) : ∃ k', k = k' + 1 ∧ QE c n k' 0 (a + 1) (true :: ks) ok e := by
  cases k with
  | zero => exact absurd h.2 (fun z => QS_QF (QS_b hc hl) z)
  | succ k => obtain ⟨_, x, y, z, hs, h⟩ := h; obtain ⟨rfl, rfl, rfl⟩ := QS_det hs (QS_b hc hl); exact ⟨k, rfl, h⟩
theorem Q0t (h : QE c n k 0 a ks ok e) (hc : c a ≠ 33 ∧ c a ≠ 40) (ht : tO c a) : ∃ k', k = k' + 1 ∧ QE c n k' 1 (tA c a) ks ok e := by
  cases k with
  | zero => exact absurd h.2 (fun z => QS_QF (QS_t hc ht) z)
  | succ k => obtain ⟨_, x, y, z, hs, h⟩ := h; obtain ⟨rfl, rfl, rfl⟩ := QS_det hs (QS_t hc ht); exact ⟨k, rfl, h⟩
theorem Q1f (h : QE c n k 1 a (false :: r) ok e) : ∃ k', k = k' + 1 ∧ QE c n k' 1 a r ok e := by
  cases k with
  | zero => exact absurd h.2 (fun z => QS_QF QS_m z)
  | succ k => obtain ⟨_, x, y, z, hs, h⟩ := h; obtain ⟨rfl, rfl, rfl⟩ := QS_det hs QS_m; exact ⟨k, rfl, h⟩
theorem Q1e (h : QE c n k 1 a (true :: r) ok e) (hc : c a = 41) : ∃ k', k = k' + 1 ∧ QE c n k' 1 (a + 1) r ok e := by
  cases k with
  | zero => exact absurd h.2 (fun z => QS_QF (QS_e hc) z)
  | succ k => obtain ⟨_, x, y, z, hs, h⟩ := h; obtain ⟨rfl, rfl, rfl⟩ := QS_det hs (QS_e hc); exact ⟨k, rfl, h⟩
theorem Q1j (h : QE c n k 1 a ks ok e) (hk : HK ks) (hc : c a = 38 ∨ c a = 124) : ∃ k', k = k' + 1 ∧ QE c n k' 0 (a + 1) ks ok e := by
  cases k with
  | zero => exact absurd h.2 (fun z => QS_QF (QS_j hk hc) z)
  | succ k => obtain ⟨_, x, y, z, hs, h⟩ := h; obtain ⟨rfl, rfl, rfl⟩ := QS_det hs (QS_j hk hc); exact ⟨k, rfl, h⟩
theorem QF_end {md : Nat} (hf : ∀ md' a' k', ¬ QS c md a ks md' a' k') (h : QE c n k md a ks ok e) : QF c n md a ks ok e := by
  cases k with
  | zero => exact h.2
  | succ k => obtain ⟨_, x, y, z, hs, _⟩ := h; exact absurd hs (hf _ _ _)
theorem Q0d (h : QE c n k 0 a ks ok e) (hc : c a = 33 ∨ c a = 40) (hl : ¬ ks.length < 8) : ok = false ∧ e = a := by
  have q := QF_end (fun md' a' k' z => QS_QF (n := n) z (Or.inl ⟨rfl, hc, hl, rfl, rfl⟩)) h
  rcases q with q | q | q | q
  · exact ⟨q.2.2.2.1, q.2.2.2.2⟩
  · exact absurd q.2.1 (by omega)
  · exact absurd q.1 (by decide)
  · exact absurd q.1 (by decide)
theorem Q0f (h : QE c n k 0 a ks ok e) (hc : c a ≠ 33 ∧ c a ≠ 40) (ht : ¬ tO c a) : ok = false ∧ e = tA c a := by
  have q := QF_end (fun md' a' k' z => QS_QF (n := n) z (Or.inr (Or.inl ⟨rfl, hc, ht, rfl, rfl⟩))) h
  rcases q with q | q | q | q
  · exact absurd q.2.1 (by omega)
  · exact ⟨q.2.2.2.1, q.2.2.2.2⟩
  · exact absurd q.1 (by decide)
  · exact absurd q.1 (by decide)
theorem Q1x (h : QE c n k 1 a [] ok e) (hc : c a ≠ 38 ∧ c a ≠ 124) : ok = decide (a = n) ∧ e = a := by
  have q := QF_end (fun md' a' k' z => QS_QF (n := n) z (Or.inr (Or.inr (Or.inl ⟨rfl, rfl, hc, rfl, rfl⟩)))) h
  rcases q with q | q | q | ⟨_, ⟨r, q⟩, _⟩
  · exact absurd q.1 (by decide)
  · exact absurd q.1 (by decide)
  · exact ⟨q.2.2.2.1, q.2.2.2.2⟩
  · cases q
theorem Q1y (h : QE c n k 1 a (true :: r) ok e) (hc : c a ≠ 38 ∧ c a ≠ 124 ∧ c a ≠ 41) : ok = false ∧ e = a := by
  have q := QF_end (fun md' a' k' z => QS_QF (n := n) z (Or.inr (Or.inr (Or.inr ⟨rfl, ⟨r, rfl⟩, hc, rfl, rfl⟩)))) h
  rcases q with q | q | q | q
  · exact absurd q.1 (by decide)
  · exact absurd q.1 (by decide)
  · exact absurd q.2.1 (by simp)
  · exact ⟨q.2.2.2.1, q.2.2.2.2⟩
end QI
/-- the row of open marks -/
def OQ (I : Nat → Nat → Int32) : List Bool → Prop
  | [] => True
  | b :: r => I 118 r.length = iI (if b then 2 else 1) ∧ OQ I r
theorem OQ_c {I I' : Nat → Nat → Int32} : ∀ {ks : List Bool}, OQ I ks → (∀ i, i < ks.length → I' 118 i = I 118 i) → OQ I' ks := by
  intro ks
  induction ks with
  | nil => intro _ _; trivial
  | cons b r ih => intro h q; exact ⟨(q r.length (by simp)).trans h.1, ih h.2 (fun i hi => q i (by simp; omega))⟩
def wQ (l k : Nat) : Prop := (l = 103 ∧ k = 19) ∨ l = 118

section G1
variable {L : Nat} {xs : Nat → Int32} {d j : Nat} {I : Nat → Nat → Int32} {M : Nat → Nat → Int64} {p : Nat → Option Nat}
variable {c : Nat → Int} {n a : Nat}
set_option maxHeartbeats 4000000 in
theorem ml_compared (hT : MT I c n) (hat : I 103 19 = iI ((a : Nat) : Int)) (han : a ≤ n) : jc L xs (d + 2) 122 [.ref 103] (jx_G j I M p) (fun v g1 => ∃ I', g1 = jx_G j I' M p ∧ v = some (.int (jb (cO c a))) ∧ fr (fun l k => l = 103 ∧ k = 19) I I' ∧ I' 103 19 = iI ((cA c a : Nat) : Int)) := by
  unfold jc
  have hn := hT.2.1
  refine jv_aload_n (pc' := 1) (k := 0) (x := 103) rfl rfl rfl rfl ?_
  refine jv_bipush (pc' := 3) (n := 61) rfl rfl rfl ?_
  have hm1 := MT_c hT (a)
  have ho1 := MT_or hT (a)
  by_cases hk2 : c (a) = 61
  · skip
    refine jv_call (pc' := 6) rfl (ml_takes_y (I := I) (a := a) (x := 61) (by omega) hT hat (by omega) hk2) (fun vq3 gq3 q3 => ?_)
    obtain ⟨rfl, rfl⟩ := q3
    show jx L xs _ 122 6 _ [.int (iI 1)] _ _
    refine jv_if_eq (t := 63) (pc' := 9) (a := 1) rfl rfl rfl (by omega) (fun hz_4 => ?_) (fun hz_4 => ?_)
    · skip
      exact absurd hz_4 (by decide)
    · skip
      refine jv_aload_n (pc' := 10) (k := 0) (x := 103) rfl rfl rfl rfl ?_
      have hm5 := MT_c hT (a + 1)
      have ho5 := MT_or hT (a + 1)
      have nb6 := nv_b c (a + 1)
      have nl6 := nd_le c (a + 1)
      have nn6 := nd_in hT.2.2.2.2 (a := a + 1) (by omega)
      by_cases hk7 : 0 < nd c (a + 1)
      · skip
        refine jv_call (pc' := 13) rfl (ml_number_y (I := jm_u I 103 19 (iI ((a + 1 : Nat) : Int))) (a := a + 1) hT rfl (by omega) hk7) (fun vq8 gq8 q8 => ?_)
        obtain ⟨rfl, rfl⟩ := q8
        show jx L xs _ 122 13 _ [.int (iI (nv c (a + 1)))] _ _
        refine jv_if_lt (t := 20) (pc' := 16) (a := (nv c (a + 1))) rfl rfl rfl (by omega) (fun hz_9 => ?_) (fun hz_9 => ?_)
        · skip
          exfalso; omega
        · skip
          refine jv_iconst (pc' := 17) (n := 1) rfl rfl ?_
          refine jx_step (pc' := 21) rfl ?_
          refine jv_istore_n (pc' := 22) (k := 1) (x := (iI 1)) rfl rfl rfl rfl (Or.inr rfl) ?_
          refine jv_iconst (pc' := 23) (n := 0) rfl rfl ?_
          refine jv_istore_n (pc' := 24) (k := 2) (x := (iI 0)) rfl rfl rfl rfl (Or.inr rfl) ?_
          have h61 : c a = 61 := by omega
          have H10 : ∀ (N : Nat) (k : Nat) (q : Nat) (gd : Int) (I1 : Nat → Nat → Int32), 3 - k < N → (k ≤ 3) → (q ≤ n) → (gd = 1 ∨ gd = 0) → (fr (fun l k => l = 103 ∧ k = 19) I I1) → (I1 103 19 = iI ((q : Nat) : Int)) → (RKJ c a k q gd) → ∀ f : jm_F, f 0 = some (.ref 103) → f 1 = some (.int (iI gd)) → f 2 = some (.int (iI ((k : Nat) : Int))) → jx L xs ((d + 2)) 122 24 f [] (jx_G j I1 M p) (fun z => ∃ v g1, z = (.inl v, g1) ∧ (fun v g1 => ∃ I', g1 = jx_G j I' M p ∧ v = some (.int (jb (cO c a))) ∧ fr (fun l k => l = 103 ∧ k = 19) I I' ∧ I' 103 19 = iI ((cA c a : Nat) : Int)) v g1) := by
            intro N
            induction N with
            | zero => intro k q gd I1 hN; exact absurd hN (Nat.not_lt_zero _)
            | succ N ih =>
              intro k q gd I1 hN hk hqn hgd hf hq hJ f hf0 hf1 hf2 
              refine jv_iload_n (pc' := 25) (k := 2) (x := (iI ((k : Nat) : Int))) rfl rfl rfl hf2 ?_
              have T1 : MT I1 c n := MT_fr hT hf (by simp) (by intro k; simp)
              rcases hgd with hgd | hgd
              · subst hgd
                show jx L xs _ 122 25 _ [.int (iI ((k : Nat) : Int))] _ _
                refine jv_iconst (pc' := 26) (n := 3) rfl rfl ?_
                refine jv_ic_ge (t := 61) (pc' := 29) (a := ((k : Nat) : Int)) (b := 3) rfl rfl rfl (by omega) (fun hz_11 => ?_) (fun hz_11 => ?_)
                · skip
                  refine jv_iload_n (pc' := 62) (k := 1) (x := (iI 1)) rfl rfl rfl hf1 ?_
                  refine jv_retZ rfl rfl (by first | exact Or.inl rfl | exact Or.inr rfl) ⟨_, _, rfl, ?_⟩
                  first
                  | (exfalso; omega)
                  | (obtain ⟨e1, e2⟩ := RKJ_e h61 hJ (by omega)
                     exact ⟨_, rfl, jq_t e1, hf, e2 ▸ hq⟩)
                · skip
                  refine jv_iload_n (pc' := 30) (k := 1) (x := (iI 1)) rfl rfl rfl hf1 ?_
                  refine jv_if_eq (t := 61) (pc' := 33) (a := 1) rfl rfl rfl (by omega) (fun hz_12 => ?_) (fun hz_12 => ?_)
                  · skip
                    exact absurd hz_12 (by decide)
                  · skip
                    refine jv_aload_n (pc' := 34) (k := 0) (x := 103) rfl rfl rfl hf0 ?_
                    refine jv_bipush (pc' := 36) (n := 44) rfl rfl rfl ?_
                    have hm13 := MT_c T1 (q)
                    have ho13 := MT_or T1 (q)
                    by_cases hk14 : c (q) = 44
                    · skip
                      refine jv_call (pc' := 39) rfl (ml_takes_y (I := I1) (a := q) (x := 44) (by omega) T1 hq (by omega) hk14) (fun vq15 gq15 q15 => ?_)
                      obtain ⟨rfl, rfl⟩ := q15
                      show jx L xs _ 122 39 _ [.int (iI 1)] _ _
                      refine jv_if_eq (t := 61) (pc' := 42) (a := 1) rfl rfl rfl (by omega) (fun hz_16 => ?_) (fun hz_16 => ?_)
                      · skip
                        exact absurd hz_16 (by decide)
                      · skip
                        refine jv_aload_n (pc' := 43) (k := 0) (x := 103) rfl rfl rfl hf0 ?_
                        have hm17 := MT_c T1 (q + 1)
                        have ho17 := MT_or T1 (q + 1)
                        have nb18 := nv_b c (q + 1)
                        have nl18 := nd_le c (q + 1)
                        have nn18 := nd_in T1.2.2.2.2 (a := q + 1) (by omega)
                        by_cases hk19 : 0 < nd c (q + 1)
                        · skip
                          refine jv_call (pc' := 46) rfl (ml_number_y (I := jm_u I1 103 19 (iI ((q + 1 : Nat) : Int))) (a := q + 1) T1 rfl (by omega) hk19) (fun vq20 gq20 q20 => ?_)
                          obtain ⟨rfl, rfl⟩ := q20
                          show jx L xs _ 122 46 _ [.int (iI (nv c (q + 1)))] _ _
                          refine jv_if_lt (t := 53) (pc' := 49) (a := (nv c (q + 1))) rfl rfl rfl (by omega) (fun hz_21 => ?_) (fun hz_21 => ?_)
                          · skip
                            exfalso; omega
                          · skip
                            refine jv_iconst (pc' := 50) (n := 1) rfl rfl ?_
                            refine jx_step (pc' := 54) rfl ?_
                            refine jv_istore_n (pc' := 55) (k := 1) (x := (iI 1)) rfl rfl rfl rfl (Or.inr (congrArg jm_lng hf0)) ?_
                            refine jv_iinc (pc' := 58) (k := 2) (a := ((k : Nat) : Int)) rfl rfl hf2 rfl (Or.inr rfl) ?_
                            refine jx_step (pc' := 24) rfl ?_
                            exact ih (k + 1) (q + 1 + nd c (q + 1)) 1 (jm_u (jm_u I1 103 19 (iI ((q + 1 : Nat) : Int))) 103 19 (iI ((q + 1 + nd c (q + 1) : Nat) : Int))) (by omega) (by omega) (by omega) (by omega) (fr_u (by simp) (fr_u (by simp) hf)) rfl (RKJ_s hJ (by omega) (by assumption) (by assumption)) _ hf0 rfl rfl 
                        · skip
                          refine jv_call (pc' := 46) rfl (ml_number_n (I := jm_u I1 103 19 (iI ((q + 1 : Nat) : Int))) (a := q + 1) T1 rfl (by omega) hk19) (fun vq22 gq22 q22 => ?_)
                          obtain ⟨rfl, rfl⟩ := q22
                          show jx L xs _ 122 46 _ [.int (iI (-1))] _ _
                          refine jv_if_lt (t := 53) (pc' := 49) (a := (-1)) rfl rfl rfl (by omega) (fun hz_23 => ?_) (fun hz_23 => ?_)
                          · skip
                            refine jv_iconst (pc' := 54) (n := 0) rfl rfl ?_
                            refine jv_istore_n (pc' := 55) (k := 1) (x := (iI 0)) rfl rfl rfl rfl (Or.inr (congrArg jm_lng hf0)) ?_
                            refine jv_iinc (pc' := 58) (k := 2) (a := ((k : Nat) : Int)) rfl rfl hf2 rfl (Or.inr rfl) ?_
                            refine jx_step (pc' := 24) rfl ?_
                            exact ih (k + 1) (q + 1) 0 (jm_u I1 103 19 (iI ((q + 1 : Nat) : Int))) (by omega) (by omega) (by omega) (by omega) (fr_u (by simp) hf) rfl (Or.inr ⟨rfl, RKJ_f h61 hJ (by omega) (by assumption) (by assumption)⟩) _ hf0 rfl rfl 
                          · skip
                            exact absurd hz_23 (by decide)
                    · skip
                      refine jv_call (pc' := 39) rfl (ml_takes_n (I := I1) (a := q) (x := 44) (by omega) T1 hq (by omega) hk14) (fun vq24 gq24 q24 => ?_)
                      obtain ⟨rfl, rfl⟩ := q24
                      show jx L xs _ 122 39 _ [.int (iI 0)] _ _
                      refine jv_if_eq (t := 61) (pc' := 42) (a := 0) rfl rfl rfl (by omega) (fun hz_25 => ?_) (fun hz_25 => ?_)
                      · skip
                        refine jv_iload_n (pc' := 62) (k := 1) (x := (iI 1)) rfl rfl rfl hf1 ?_
                        refine jv_retZ rfl rfl (by first | exact Or.inl rfl | exact Or.inr rfl) ⟨_, _, rfl, ?_⟩
                        first
                        | (exfalso; omega)
                        | (obtain ⟨e1, e2⟩ := RKJ_e h61 hJ (by omega)
                           exact ⟨_, rfl, jq_t e1, hf, e2 ▸ hq⟩)
                      · skip
                        exact absurd hz_25 (by decide)
              · subst hgd
                show jx L xs _ 122 25 _ [.int (iI ((k : Nat) : Int))] _ _
                refine jv_iconst (pc' := 26) (n := 3) rfl rfl ?_
                refine jv_ic_ge (t := 61) (pc' := 29) (a := ((k : Nat) : Int)) (b := 3) rfl rfl rfl (by omega) (fun hz_26 => ?_) (fun hz_26 => ?_)
                · skip
                  refine jv_iload_n (pc' := 62) (k := 1) (x := (iI 0)) rfl rfl rfl hf1 ?_
                  refine jv_retZ rfl rfl (by first | exact Or.inl rfl | exact Or.inr rfl) ⟨_, _, rfl, ?_⟩
                  first
                  | (exfalso; omega)
                  | (obtain ⟨e1, e2⟩ : ¬ cO c a ∧ cA c a = q := hJ.elim (fun z => absurd z.1 (by decide)) (fun z => z.2)
                     exact ⟨_, rfl, jq_f e1, hf, e2 ▸ hq⟩)
                · skip
                  refine jv_iload_n (pc' := 30) (k := 1) (x := (iI 0)) rfl rfl rfl hf1 ?_
                  refine jv_if_eq (t := 61) (pc' := 33) (a := 0) rfl rfl rfl (by omega) (fun hz_27 => ?_) (fun hz_27 => ?_)
                  · skip
                    refine jv_iload_n (pc' := 62) (k := 1) (x := (iI 0)) rfl rfl rfl hf1 ?_
                    refine jv_retZ rfl rfl (by first | exact Or.inl rfl | exact Or.inr rfl) ⟨_, _, rfl, ?_⟩
                    first
                    | (exfalso; omega)
                    | (obtain ⟨e1, e2⟩ : ¬ cO c a ∧ cA c a = q := hJ.elim (fun z => absurd z.1 (by decide)) (fun z => z.2)
                       exact ⟨_, rfl, jq_f e1, hf, e2 ▸ hq⟩)
                  · skip
                    exact absurd hz_27 (by decide)
          exact H10 _ 0 (a + 1 + nd c (a + 1)) 1 (jm_u (jm_u I 103 19 (iI ((a + 1 : Nat) : Int))) 103 19 (iI ((a + 1 + nd c (a + 1) : Nat) : Int))) (Nat.lt_succ_self _) (by omega) (by omega) (by omega) (fr_u (by simp) (fr_u (by simp) (fr_r _))) rfl (Or.inl ⟨rfl, by omega, by assumption, Iff.rfl, rfl⟩) _ rfl rfl rfl 
      · skip
        refine jv_call (pc' := 13) rfl (ml_number_n (I := jm_u I 103 19 (iI ((a + 1 : Nat) : Int))) (a := a + 1) hT rfl (by omega) hk7) (fun vq28 gq28 q28 => ?_)
        obtain ⟨rfl, rfl⟩ := q28
        show jx L xs _ 122 13 _ [.int (iI (-1))] _ _
        refine jv_if_lt (t := 20) (pc' := 16) (a := (-1)) rfl rfl rfl (by omega) (fun hz_29 => ?_) (fun hz_29 => ?_)
        · skip
          refine jv_iconst (pc' := 21) (n := 0) rfl rfl ?_
          refine jv_istore_n (pc' := 22) (k := 1) (x := (iI 0)) rfl rfl rfl rfl (Or.inr rfl) ?_
          refine jv_iconst (pc' := 23) (n := 0) rfl rfl ?_
          refine jv_istore_n (pc' := 24) (k := 2) (x := (iI 0)) rfl rfl rfl rfl (Or.inr rfl) ?_
          have h61 : c a = 61 := by omega
          have H30 : ∀ (N : Nat) (k : Nat) (q : Nat) (gd : Int) (I1 : Nat → Nat → Int32), 3 - k < N → (k ≤ 3) → (q ≤ n) → (gd = 1 ∨ gd = 0) → (fr (fun l k => l = 103 ∧ k = 19) I I1) → (I1 103 19 = iI ((q : Nat) : Int)) → (RKJ c a k q gd) → ∀ f : jm_F, f 0 = some (.ref 103) → f 1 = some (.int (iI gd)) → f 2 = some (.int (iI ((k : Nat) : Int))) → jx L xs ((d + 2)) 122 24 f [] (jx_G j I1 M p) (fun z => ∃ v g1, z = (.inl v, g1) ∧ (fun v g1 => ∃ I', g1 = jx_G j I' M p ∧ v = some (.int (jb (cO c a))) ∧ fr (fun l k => l = 103 ∧ k = 19) I I' ∧ I' 103 19 = iI ((cA c a : Nat) : Int)) v g1) := by
            intro N
            induction N with
            | zero => intro k q gd I1 hN; exact absurd hN (Nat.not_lt_zero _)
            | succ N ih =>
              intro k q gd I1 hN hk hqn hgd hf hq hJ f hf0 hf1 hf2 
              refine jv_iload_n (pc' := 25) (k := 2) (x := (iI ((k : Nat) : Int))) rfl rfl rfl hf2 ?_
              have T1 : MT I1 c n := MT_fr hT hf (by simp) (by intro k; simp)
              rcases hgd with hgd | hgd
              · subst hgd
                show jx L xs _ 122 25 _ [.int (iI ((k : Nat) : Int))] _ _
                refine jv_iconst (pc' := 26) (n := 3) rfl rfl ?_
                refine jv_ic_ge (t := 61) (pc' := 29) (a := ((k : Nat) : Int)) (b := 3) rfl rfl rfl (by omega) (fun hz_31 => ?_) (fun hz_31 => ?_)
                · skip
                  refine jv_iload_n (pc' := 62) (k := 1) (x := (iI 1)) rfl rfl rfl hf1 ?_
                  refine jv_retZ rfl rfl (by first | exact Or.inl rfl | exact Or.inr rfl) ⟨_, _, rfl, ?_⟩
                  first
                  | (exfalso; omega)
                  | (obtain ⟨e1, e2⟩ := RKJ_e h61 hJ (by omega)
                     exact ⟨_, rfl, jq_t e1, hf, e2 ▸ hq⟩)
                · skip
                  refine jv_iload_n (pc' := 30) (k := 1) (x := (iI 1)) rfl rfl rfl hf1 ?_
                  refine jv_if_eq (t := 61) (pc' := 33) (a := 1) rfl rfl rfl (by omega) (fun hz_32 => ?_) (fun hz_32 => ?_)
                  · skip
                    exact absurd hz_32 (by decide)
                  · skip
                    refine jv_aload_n (pc' := 34) (k := 0) (x := 103) rfl rfl rfl hf0 ?_
                    refine jv_bipush (pc' := 36) (n := 44) rfl rfl rfl ?_
                    have hm33 := MT_c T1 (q)
                    have ho33 := MT_or T1 (q)
                    by_cases hk34 : c (q) = 44
                    · skip
                      refine jv_call (pc' := 39) rfl (ml_takes_y (I := I1) (a := q) (x := 44) (by omega) T1 hq (by omega) hk34) (fun vq35 gq35 q35 => ?_)
                      obtain ⟨rfl, rfl⟩ := q35
                      show jx L xs _ 122 39 _ [.int (iI 1)] _ _
                      refine jv_if_eq (t := 61) (pc' := 42) (a := 1) rfl rfl rfl (by omega) (fun hz_36 => ?_) (fun hz_36 => ?_)
                      · skip
                        exact absurd hz_36 (by decide)
                      · skip
                        refine jv_aload_n (pc' := 43) (k := 0) (x := 103) rfl rfl rfl hf0 ?_
                        have hm37 := MT_c T1 (q + 1)
                        have ho37 := MT_or T1 (q + 1)
                        have nb38 := nv_b c (q + 1)
                        have nl38 := nd_le c (q + 1)
                        have nn38 := nd_in T1.2.2.2.2 (a := q + 1) (by omega)
                        by_cases hk39 : 0 < nd c (q + 1)
                        · skip
                          refine jv_call (pc' := 46) rfl (ml_number_y (I := jm_u I1 103 19 (iI ((q + 1 : Nat) : Int))) (a := q + 1) T1 rfl (by omega) hk39) (fun vq40 gq40 q40 => ?_)
                          obtain ⟨rfl, rfl⟩ := q40
                          show jx L xs _ 122 46 _ [.int (iI (nv c (q + 1)))] _ _
                          refine jv_if_lt (t := 53) (pc' := 49) (a := (nv c (q + 1))) rfl rfl rfl (by omega) (fun hz_41 => ?_) (fun hz_41 => ?_)
                          · skip
                            exfalso; omega
                          · skip
                            refine jv_iconst (pc' := 50) (n := 1) rfl rfl ?_
                            refine jx_step (pc' := 54) rfl ?_
                            refine jv_istore_n (pc' := 55) (k := 1) (x := (iI 1)) rfl rfl rfl rfl (Or.inr (congrArg jm_lng hf0)) ?_
                            refine jv_iinc (pc' := 58) (k := 2) (a := ((k : Nat) : Int)) rfl rfl hf2 rfl (Or.inr rfl) ?_
                            refine jx_step (pc' := 24) rfl ?_
                            exact ih (k + 1) (q + 1 + nd c (q + 1)) 1 (jm_u (jm_u I1 103 19 (iI ((q + 1 : Nat) : Int))) 103 19 (iI ((q + 1 + nd c (q + 1) : Nat) : Int))) (by omega) (by omega) (by omega) (by omega) (fr_u (by simp) (fr_u (by simp) hf)) rfl (RKJ_s hJ (by omega) (by assumption) (by assumption)) _ hf0 rfl rfl 
                        · skip
                          refine jv_call (pc' := 46) rfl (ml_number_n (I := jm_u I1 103 19 (iI ((q + 1 : Nat) : Int))) (a := q + 1) T1 rfl (by omega) hk39) (fun vq42 gq42 q42 => ?_)
                          obtain ⟨rfl, rfl⟩ := q42
                          show jx L xs _ 122 46 _ [.int (iI (-1))] _ _
                          refine jv_if_lt (t := 53) (pc' := 49) (a := (-1)) rfl rfl rfl (by omega) (fun hz_43 => ?_) (fun hz_43 => ?_)
                          · skip
                            refine jv_iconst (pc' := 54) (n := 0) rfl rfl ?_
                            refine jv_istore_n (pc' := 55) (k := 1) (x := (iI 0)) rfl rfl rfl rfl (Or.inr (congrArg jm_lng hf0)) ?_
                            refine jv_iinc (pc' := 58) (k := 2) (a := ((k : Nat) : Int)) rfl rfl hf2 rfl (Or.inr rfl) ?_
                            refine jx_step (pc' := 24) rfl ?_
                            exact ih (k + 1) (q + 1) 0 (jm_u I1 103 19 (iI ((q + 1 : Nat) : Int))) (by omega) (by omega) (by omega) (by omega) (fr_u (by simp) hf) rfl (Or.inr ⟨rfl, RKJ_f h61 hJ (by omega) (by assumption) (by assumption)⟩) _ hf0 rfl rfl 
                          · skip
                            exact absurd hz_43 (by decide)
                    · skip
                      refine jv_call (pc' := 39) rfl (ml_takes_n (I := I1) (a := q) (x := 44) (by omega) T1 hq (by omega) hk34) (fun vq44 gq44 q44 => ?_)
                      obtain ⟨rfl, rfl⟩ := q44
                      show jx L xs _ 122 39 _ [.int (iI 0)] _ _
                      refine jv_if_eq (t := 61) (pc' := 42) (a := 0) rfl rfl rfl (by omega) (fun hz_45 => ?_) (fun hz_45 => ?_)
                      · skip
                        refine jv_iload_n (pc' := 62) (k := 1) (x := (iI 1)) rfl rfl rfl hf1 ?_
                        refine jv_retZ rfl rfl (by first | exact Or.inl rfl | exact Or.inr rfl) ⟨_, _, rfl, ?_⟩
                        first
                        | (exfalso; omega)
                        | (obtain ⟨e1, e2⟩ := RKJ_e h61 hJ (by omega)
                           exact ⟨_, rfl, jq_t e1, hf, e2 ▸ hq⟩)
                      · skip
                        exact absurd hz_45 (by decide)
              · subst hgd
                show jx L xs _ 122 25 _ [.int (iI ((k : Nat) : Int))] _ _
                refine jv_iconst (pc' := 26) (n := 3) rfl rfl ?_
                refine jv_ic_ge (t := 61) (pc' := 29) (a := ((k : Nat) : Int)) (b := 3) rfl rfl rfl (by omega) (fun hz_46 => ?_) (fun hz_46 => ?_)
                · skip
                  refine jv_iload_n (pc' := 62) (k := 1) (x := (iI 0)) rfl rfl rfl hf1 ?_
                  refine jv_retZ rfl rfl (by first | exact Or.inl rfl | exact Or.inr rfl) ⟨_, _, rfl, ?_⟩
                  first
                  | (exfalso; omega)
                  | (obtain ⟨e1, e2⟩ : ¬ cO c a ∧ cA c a = q := hJ.elim (fun z => absurd z.1 (by decide)) (fun z => z.2)
                     exact ⟨_, rfl, jq_f e1, hf, e2 ▸ hq⟩)
                · skip
                  refine jv_iload_n (pc' := 30) (k := 1) (x := (iI 0)) rfl rfl rfl hf1 ?_
                  refine jv_if_eq (t := 61) (pc' := 33) (a := 0) rfl rfl rfl (by omega) (fun hz_47 => ?_) (fun hz_47 => ?_)
                  · skip
                    refine jv_iload_n (pc' := 62) (k := 1) (x := (iI 0)) rfl rfl rfl hf1 ?_
                    refine jv_retZ rfl rfl (by first | exact Or.inl rfl | exact Or.inr rfl) ⟨_, _, rfl, ?_⟩
                    first
                    | (exfalso; omega)
                    | (obtain ⟨e1, e2⟩ : ¬ cO c a ∧ cA c a = q := hJ.elim (fun z => absurd z.1 (by decide)) (fun z => z.2)
                       exact ⟨_, rfl, jq_f e1, hf, e2 ▸ hq⟩)
                  · skip
                    exact absurd hz_47 (by decide)
          exact H30 _ 0 (a + 1) 0 (jm_u I 103 19 (iI ((a + 1 : Nat) : Int))) (Nat.lt_succ_self _) (by omega) (by omega) (by omega) (fr_u (by simp) (fr_r _)) rfl (Or.inr ⟨rfl, RCJ_f0 (Or.inl h61) (by assumption)⟩) _ rfl rfl rfl 
        · skip
          exact absurd hz_29 (by decide)
  · skip
    refine jv_call (pc' := 6) rfl (ml_takes_n (I := I) (a := a) (x := 61) (by omega) hT hat (by omega) hk2) (fun vq48 gq48 q48 => ?_)
    obtain ⟨rfl, rfl⟩ := q48
    show jx L xs _ 122 6 _ [.int (iI 0)] _ _
    refine jv_if_eq (t := 63) (pc' := 9) (a := 0) rfl rfl rfl (by omega) (fun hz_49 => ?_) (fun hz_49 => ?_)
    · skip
      refine jv_aload_n (pc' := 64) (k := 0) (x := 103) rfl rfl rfl rfl ?_
      refine jv_bipush (pc' := 66) (n := 60) rfl rfl rfl ?_
      have hm50 := MT_c hT (a)
      have ho50 := MT_or hT (a)
      by_cases hk51 : c (a) = 60
      · skip
        refine jv_call (pc' := 69) rfl (ml_takes_y (I := I) (a := a) (x := 60) (by omega) hT hat (by omega) hk51) (fun vq52 gq52 q52 => ?_)
        obtain ⟨rfl, rfl⟩ := q52
        show jx L xs _ 122 69 _ [.int (iI 1)] _ _
        refine jv_if_ne (t := 90) (pc' := 72) (a := 1) rfl rfl rfl (by omega) (fun hz_53 => ?_) (fun hz_53 => ?_)
        · skip
          refine jv_aload_n (pc' := 91) (k := 0) (x := 103) rfl rfl rfl rfl ?_
          have hm54 := MT_c hT (a + 1)
          have ho54 := MT_or hT (a + 1)
          have nb55 := nv_b c (a + 1)
          have nl55 := nd_le c (a + 1)
          have nn55 := nd_in hT.2.2.2.2 (a := a + 1) (by omega)
          by_cases hk56 : 0 < nd c (a + 1)
          · skip
            refine jv_call (pc' := 94) rfl (ml_number_y (I := jm_u I 103 19 (iI ((a + 1 : Nat) : Int))) (a := a + 1) hT rfl (by omega) hk56) (fun vq57 gq57 q57 => ?_)
            obtain ⟨rfl, rfl⟩ := q57
            show jx L xs _ 122 94 _ [.int (iI (nv c (a + 1)))] _ _
            refine jv_if_lt (t := 101) (pc' := 97) (a := (nv c (a + 1))) rfl rfl rfl (by omega) (fun hz_58 => ?_) (fun hz_58 => ?_)
            · skip
              exfalso; omega
            · skip
              refine jv_iconst (pc' := 98) (n := 1) rfl rfl ?_
              refine jx_step (pc' := 102) rfl ?_
              refine jv_retZ rfl rfl (by first | exact Or.inl rfl | exact Or.inr rfl) ⟨_, _, rfl, ?_⟩
              first
              | (exfalso; omega)
              | (obtain ⟨e1, e2⟩ := c_one (c := c) (a := a) (by omega)
                 first
                 | exact ⟨_, rfl, jq_t (e1.2 (by assumption)), (fr_u (by simp) (fr_u (by simp) (fr_r _))), e2 ▸ rfl⟩
                 | exact ⟨_, rfl, jq_f (fun z => absurd (e1.1 z) (by assumption)), (fr_u (by simp) (fr_u (by simp) (fr_r _))), (by rw [e2, show nd c (a + 1) = 0 by omega]; exact rfl)⟩)
          · skip
            refine jv_call (pc' := 94) rfl (ml_number_n (I := jm_u I 103 19 (iI ((a + 1 : Nat) : Int))) (a := a + 1) hT rfl (by omega) hk56) (fun vq59 gq59 q59 => ?_)
            obtain ⟨rfl, rfl⟩ := q59
            show jx L xs _ 122 94 _ [.int (iI (-1))] _ _
            refine jv_if_lt (t := 101) (pc' := 97) (a := (-1)) rfl rfl rfl (by omega) (fun hz_60 => ?_) (fun hz_60 => ?_)
            · skip
              refine jv_iconst (pc' := 102) (n := 0) rfl rfl ?_
              refine jv_retZ rfl rfl (by first | exact Or.inl rfl | exact Or.inr rfl) ⟨_, _, rfl, ?_⟩
              first
              | (exfalso; omega)
              | (obtain ⟨e1, e2⟩ := c_one (c := c) (a := a) (by omega)
                 first
                 | exact ⟨_, rfl, jq_f (fun z => absurd (e1.1 z) (by assumption)), (fr_u (by simp) (fr_r _)), e2 ▸ rfl⟩
                 | exact ⟨_, rfl, jq_f (fun z => absurd (e1.1 z) (by assumption)), (fr_u (by simp) (fr_r _)), (by rw [e2, show nd c (a + 1) = 0 by omega]; exact rfl)⟩)
            · skip
              exact absurd hz_60 (by decide)
        · skip
          exact absurd hz_53 (by decide)
      · skip
        refine jv_call (pc' := 69) rfl (ml_takes_n (I := I) (a := a) (x := 60) (by omega) hT hat (by omega) hk51) (fun vq61 gq61 q61 => ?_)
        obtain ⟨rfl, rfl⟩ := q61
        show jx L xs _ 122 69 _ [.int (iI 0)] _ _
        refine jv_if_ne (t := 90) (pc' := 72) (a := 0) rfl rfl rfl (by omega) (fun hz_62 => ?_) (fun hz_62 => ?_)
        · skip
          exact absurd hz_62 (by decide)
        · skip
          refine jv_aload_n (pc' := 73) (k := 0) (x := 103) rfl rfl rfl rfl ?_
          refine jv_bipush (pc' := 75) (n := 62) rfl rfl rfl ?_
          have hm63 := MT_c hT (a)
          have ho63 := MT_or hT (a)
          by_cases hk64 : c (a) = 62
          · skip
            refine jv_call (pc' := 78) rfl (ml_takes_y (I := I) (a := a) (x := 62) (by omega) hT hat (by omega) hk64) (fun vq65 gq65 q65 => ?_)
            obtain ⟨rfl, rfl⟩ := q65
            show jx L xs _ 122 78 _ [.int (iI 1)] _ _
            refine jv_if_ne (t := 90) (pc' := 81) (a := 1) rfl rfl rfl (by omega) (fun hz_66 => ?_) (fun hz_66 => ?_)
            · skip
              refine jv_aload_n (pc' := 91) (k := 0) (x := 103) rfl rfl rfl rfl ?_
              have hm67 := MT_c hT (a + 1)
              have ho67 := MT_or hT (a + 1)
              have nb68 := nv_b c (a + 1)
              have nl68 := nd_le c (a + 1)
              have nn68 := nd_in hT.2.2.2.2 (a := a + 1) (by omega)
              by_cases hk69 : 0 < nd c (a + 1)
              · skip
                refine jv_call (pc' := 94) rfl (ml_number_y (I := jm_u I 103 19 (iI ((a + 1 : Nat) : Int))) (a := a + 1) hT rfl (by omega) hk69) (fun vq70 gq70 q70 => ?_)
                obtain ⟨rfl, rfl⟩ := q70
                show jx L xs _ 122 94 _ [.int (iI (nv c (a + 1)))] _ _
                refine jv_if_lt (t := 101) (pc' := 97) (a := (nv c (a + 1))) rfl rfl rfl (by omega) (fun hz_71 => ?_) (fun hz_71 => ?_)
                · skip
                  exfalso; omega
                · skip
                  refine jv_iconst (pc' := 98) (n := 1) rfl rfl ?_
                  refine jx_step (pc' := 102) rfl ?_
                  refine jv_retZ rfl rfl (by first | exact Or.inl rfl | exact Or.inr rfl) ⟨_, _, rfl, ?_⟩
                  first
                  | (exfalso; omega)
                  | (obtain ⟨e1, e2⟩ := c_one (c := c) (a := a) (by omega)
                     first
                     | exact ⟨_, rfl, jq_t (e1.2 (by assumption)), (fr_u (by simp) (fr_u (by simp) (fr_r _))), e2 ▸ rfl⟩
                     | exact ⟨_, rfl, jq_f (fun z => absurd (e1.1 z) (by assumption)), (fr_u (by simp) (fr_u (by simp) (fr_r _))), (by rw [e2, show nd c (a + 1) = 0 by omega]; exact rfl)⟩)
              · skip
                refine jv_call (pc' := 94) rfl (ml_number_n (I := jm_u I 103 19 (iI ((a + 1 : Nat) : Int))) (a := a + 1) hT rfl (by omega) hk69) (fun vq72 gq72 q72 => ?_)
                obtain ⟨rfl, rfl⟩ := q72
                show jx L xs _ 122 94 _ [.int (iI (-1))] _ _
                refine jv_if_lt (t := 101) (pc' := 97) (a := (-1)) rfl rfl rfl (by omega) (fun hz_73 => ?_) (fun hz_73 => ?_)
                · skip
                  refine jv_iconst (pc' := 102) (n := 0) rfl rfl ?_
                  refine jv_retZ rfl rfl (by first | exact Or.inl rfl | exact Or.inr rfl) ⟨_, _, rfl, ?_⟩
                  first
                  | (exfalso; omega)
                  | (obtain ⟨e1, e2⟩ := c_one (c := c) (a := a) (by omega)
                     first
                     | exact ⟨_, rfl, jq_f (fun z => absurd (e1.1 z) (by assumption)), (fr_u (by simp) (fr_r _)), e2 ▸ rfl⟩
                     | exact ⟨_, rfl, jq_f (fun z => absurd (e1.1 z) (by assumption)), (fr_u (by simp) (fr_r _)), (by rw [e2, show nd c (a + 1) = 0 by omega]; exact rfl)⟩)
                · skip
                  exact absurd hz_73 (by decide)
            · skip
              exact absurd hz_66 (by decide)
          · skip
            refine jv_call (pc' := 78) rfl (ml_takes_n (I := I) (a := a) (x := 62) (by omega) hT hat (by omega) hk64) (fun vq74 gq74 q74 => ?_)
            obtain ⟨rfl, rfl⟩ := q74
            show jx L xs _ 122 78 _ [.int (iI 0)] _ _
            refine jv_if_ne (t := 90) (pc' := 81) (a := 0) rfl rfl rfl (by omega) (fun hz_75 => ?_) (fun hz_75 => ?_)
            · skip
              exact absurd hz_75 (by decide)
            · skip
              refine jv_aload_n (pc' := 82) (k := 0) (x := 103) rfl rfl rfl rfl ?_
              refine jv_bipush (pc' := 84) (n := 126) rfl rfl rfl ?_
              have hm76 := MT_c hT (a)
              have ho76 := MT_or hT (a)
              by_cases hk77 : c (a) = 126
              · skip
                refine jv_call (pc' := 87) rfl (ml_takes_y (I := I) (a := a) (x := 126) (by omega) hT hat (by omega) hk77) (fun vq78 gq78 q78 => ?_)
                obtain ⟨rfl, rfl⟩ := q78
                show jx L xs _ 122 87 _ [.int (iI 1)] _ _
                refine jv_if_eq (t := 97) (pc' := 90) (a := 1) rfl rfl rfl (by omega) (fun hz_79 => ?_) (fun hz_79 => ?_)
                · skip
                  exact absurd hz_79 (by decide)
                · skip
                  refine jv_aload_n (pc' := 91) (k := 0) (x := 103) rfl rfl rfl rfl ?_
                  have hm80 := MT_c hT (a + 1)
                  have ho80 := MT_or hT (a + 1)
                  have nb81 := nv_b c (a + 1)
                  have nl81 := nd_le c (a + 1)
                  have nn81 := nd_in hT.2.2.2.2 (a := a + 1) (by omega)
                  by_cases hk82 : 0 < nd c (a + 1)
                  · skip
                    refine jv_call (pc' := 94) rfl (ml_number_y (I := jm_u I 103 19 (iI ((a + 1 : Nat) : Int))) (a := a + 1) hT rfl (by omega) hk82) (fun vq83 gq83 q83 => ?_)
                    obtain ⟨rfl, rfl⟩ := q83
                    show jx L xs _ 122 94 _ [.int (iI (nv c (a + 1)))] _ _
                    refine jv_if_lt (t := 101) (pc' := 97) (a := (nv c (a + 1))) rfl rfl rfl (by omega) (fun hz_84 => ?_) (fun hz_84 => ?_)
                    · skip
                      exfalso; omega
                    · skip
                      refine jv_iconst (pc' := 98) (n := 1) rfl rfl ?_
                      refine jx_step (pc' := 102) rfl ?_
                      refine jv_retZ rfl rfl (by first | exact Or.inl rfl | exact Or.inr rfl) ⟨_, _, rfl, ?_⟩
                      first
                      | (exfalso; omega)
                      | (obtain ⟨e1, e2⟩ := c_one (c := c) (a := a) (by omega)
                         first
                         | exact ⟨_, rfl, jq_t (e1.2 (by assumption)), (fr_u (by simp) (fr_u (by simp) (fr_r _))), e2 ▸ rfl⟩
                         | exact ⟨_, rfl, jq_f (fun z => absurd (e1.1 z) (by assumption)), (fr_u (by simp) (fr_u (by simp) (fr_r _))), (by rw [e2, show nd c (a + 1) = 0 by omega]; exact rfl)⟩)
                  · skip
                    refine jv_call (pc' := 94) rfl (ml_number_n (I := jm_u I 103 19 (iI ((a + 1 : Nat) : Int))) (a := a + 1) hT rfl (by omega) hk82) (fun vq85 gq85 q85 => ?_)
                    obtain ⟨rfl, rfl⟩ := q85
                    show jx L xs _ 122 94 _ [.int (iI (-1))] _ _
                    refine jv_if_lt (t := 101) (pc' := 97) (a := (-1)) rfl rfl rfl (by omega) (fun hz_86 => ?_) (fun hz_86 => ?_)
                    · skip
                      refine jv_iconst (pc' := 102) (n := 0) rfl rfl ?_
                      refine jv_retZ rfl rfl (by first | exact Or.inl rfl | exact Or.inr rfl) ⟨_, _, rfl, ?_⟩
                      first
                      | (exfalso; omega)
                      | (obtain ⟨e1, e2⟩ := c_one (c := c) (a := a) (by omega)
                         first
                         | exact ⟨_, rfl, jq_f (fun z => absurd (e1.1 z) (by assumption)), (fr_u (by simp) (fr_r _)), e2 ▸ rfl⟩
                         | exact ⟨_, rfl, jq_f (fun z => absurd (e1.1 z) (by assumption)), (fr_u (by simp) (fr_r _)), (by rw [e2, show nd c (a + 1) = 0 by omega]; exact rfl)⟩)
                    · skip
                      exact absurd hz_86 (by decide)
              · skip
                refine jv_call (pc' := 87) rfl (ml_takes_n (I := I) (a := a) (x := 126) (by omega) hT hat (by omega) hk77) (fun vq87 gq87 q87 => ?_)
                obtain ⟨rfl, rfl⟩ := q87
                show jx L xs _ 122 87 _ [.int (iI 0)] _ _
                refine jv_if_eq (t := 97) (pc' := 90) (a := 0) rfl rfl rfl (by omega) (fun hz_88 => ?_) (fun hz_88 => ?_)
                · skip
                  refine jv_iconst (pc' := 98) (n := 1) rfl rfl ?_
                  refine jx_step (pc' := 102) rfl ?_
                  refine jv_retZ rfl rfl (by first | exact Or.inl rfl | exact Or.inr rfl) ⟨_, _, rfl, ?_⟩
                  first
                  | (exfalso; omega)
                  | (obtain ⟨e1, e2, _⟩ := c_none (c := c) (a := a) (by unfold cm; omega)
                     exact ⟨_, rfl, jq_t e1, (fr_r _), by rw [e2]; exact hat⟩)
                · skip
                  exact absurd hz_88 (by decide)
    · skip
      exact absurd hz_49 (by decide)
theorem ml_test (hT : MT I c n) (hat : I 103 19 = iI ((a : Nat) : Int)) (han : a ≤ n) : jc L xs (d + 3) 123 [.ref 103] (jx_G j I M p) (fun v g1 => ∃ I', g1 = jx_G j I' M p ∧ v = some (.int (jb (tO c a))) ∧ fr (fun l k => l = 103 ∧ k = 19) I I' ∧ I' 103 19 = iI ((tA c a : Nat) : Int)) := by
  unfold jc
  have hn := hT.2.1
  refine jv_aload_n (pc' := 1) (k := 0) (x := 103) rfl rfl rfl rfl ?_
  have hm1 := MT_c hT (a)
  have ho1 := MT_or hT (a)
  refine jv_call (pc' := 4) rfl (ml_here (I := I) (a := a) hT hat (by omega)) (fun vq2 gq2 q2 => ?_)
  obtain ⟨rfl, rfl⟩ := q2
  show jx L xs _ 123 4 _ [.int (iI (c (a)))] _ _
  refine jv_istore_n (pc' := 5) (k := 1) (x := (iI (c (a)))) rfl rfl rfl rfl (Or.inr rfl) ?_
  refine jv_iload_n (pc' := 6) (k := 1) (x := (iI (c (a)))) rfl rfl rfl rfl ?_
  refine jv_bipush (pc' := 8) (n := 48) rfl rfl rfl ?_
  refine jv_ic_lt (t := 17) (pc' := 11) (a := (c (a))) (b := 48) rfl rfl rfl (by omega) (fun hz_3 => ?_) (fun hz_3 => ?_)
  · skip
    refine jv_iconst (pc' := 18) (n := 0) rfl rfl ?_
    refine jv_retZ rfl rfl (by first | exact Or.inl rfl | exact Or.inr rfl) ⟨_, _, rfl, ?_⟩
    first
    | (exfalso; omega)
    | (have e1 : tA c a = a := if_neg (by omega)
       exact ⟨_, rfl, jq_f (fun z => by have := z.1; omega), (fr_r _), by rw [e1]; exact hat⟩)
  · skip
    refine jv_iload_n (pc' := 12) (k := 1) (x := (iI (c (a)))) rfl rfl rfl rfl ?_
    refine jv_bipush (pc' := 14) (n := 51) rfl rfl rfl ?_
    refine jv_ic_le (t := 19) (pc' := 17) (a := (c (a))) (b := 51) rfl rfl rfl (by omega) (fun hz_4 => ?_) (fun hz_4 => ?_)
    · skip
      refine jv_aload_n (pc' := 20) (k := 0) (x := 103) rfl rfl rfl rfl ?_
      refine jx_step (pc' := 21) rfl ?_
      refine jv_getI (pc' := 24) (c := 12) (k := 19) (v := (iI ((a : Nat) : Int))) rfl rfl rfl (fun _ _ => rfl) rfl rfl hat ?_
      refine jv_iconst (pc' := 25) (n := 1) rfl rfl ?_
      refine jv_iadd (pc' := 26) (a := ((a : Nat) : Int)) (b := 1) rfl rfl ?_
      refine jv_putI (pc' := 29) (c := 12) (k := 19) rfl rfl rfl rfl (fun _ _ _  => rfl) rfl rfl ?_
      refine jv_aload_n (pc' := 30) (k := 0) (x := 103) rfl rfl rfl rfl ?_
      have hm5 := MT_c hT (a + 1)
      have ho5 := MT_or hT (a + 1)
      refine jv_call (pc' := 33) rfl (ml_here (I := jm_u I 103 19 (iI (((a : Nat) : Int) + 1))) (a := a + 1) hT rfl (by omega)) (fun vq6 gq6 q6 => ?_)
      obtain ⟨rfl, rfl⟩ := q6
      show jx L xs _ 123 33 _ [.int (iI (c (a + 1)))] _ _
      refine jv_call (pc' := 36) rfl (ml_isName (by omega)) (fun vq7 gq7 q7 => ?_)
      obtain ⟨rfl, rfl⟩ := q7
      show jx L xs _ 123 36 _ [.int (jb (97 ≤ (c (a + 1)) ∧ (c (a + 1)) ≤ 104))] _ _
      refine jv_jb_ne (t := 50) (pc' := 39) (P := 97 ≤ (c (a + 1)) ∧ (c (a + 1)) ≤ 104) rfl rfl rfl (fun hz_8 => ?_) (fun hz_8 => ?_)
      · skip
        refine jv_aload_n (pc' := 51) (k := 0) (x := 103) rfl rfl rfl rfl ?_
        refine jx_step (pc' := 52) rfl ?_
        refine jv_getI (pc' := 55) (c := 12) (k := 19) (v := (iI ((a + 1 : Nat) : Int))) rfl rfl rfl (fun _ _ => rfl) rfl rfl rfl ?_
        refine jv_iconst (pc' := 56) (n := 1) rfl rfl ?_
        refine jv_iadd (pc' := 57) (a := ((a + 1 : Nat) : Int)) (b := 1) rfl rfl ?_
        refine jv_putI (pc' := 60) (c := 12) (k := 19) rfl rfl rfl rfl (fun _ _ _  => rfl) rfl rfl ?_
        refine jv_aload_n (pc' := 61) (k := 0) (x := 103) rfl rfl rfl rfl ?_
        refine jv_call (pc' := 64) rfl (ml_compared (I := jm_u (jm_u I 103 19 (iI (((a : Nat) : Int) + 1))) 103 19 (iI (((a + 1 : Nat) : Int) + 1))) (a := a + 2) hT rfl (by omega)) (fun vq9 gq9 q9 => ?_)
        obtain ⟨Iq9, rfl, rfl, rq9, aq9⟩ := q9
        show jx L xs _ 123 64 _ [.int (jb (cO c (a + 2)))] _ _
        refine jv_retZ rfl rfl (jb_01 _) ⟨_, _, rfl, ?_⟩
        first
        | (exfalso; omega)
        | (have e1 : tA c a = cA c (a + 2) := (if_pos (by omega)).trans (if_pos (by omega))
           exact ⟨_, rfl, jq_e ⟨fun z => ⟨by omega, by omega, z⟩, fun z => z.2.2⟩, (fr_t (fr_u (by simp) (fr_u (by simp) (fr_r _))) rq9), by rw [e1]; exact aq9⟩)
      · skip
        refine jv_aload_n (pc' := 40) (k := 0) (x := 103) rfl rfl rfl rfl ?_
        have hm10 := MT_c hT (a + 1)
        have ho10 := MT_or hT (a + 1)
        refine jv_call (pc' := 43) rfl (ml_here (I := jm_u I 103 19 (iI (((a : Nat) : Int) + 1))) (a := a + 1) hT rfl (by omega)) (fun vq11 gq11 q11 => ?_)
        obtain ⟨rfl, rfl⟩ := q11
        show jx L xs _ 123 43 _ [.int (iI (c (a + 1)))] _ _
        refine jv_bipush (pc' := 45) (n := 36) rfl rfl rfl ?_
        refine jv_ic_eq (t := 50) (pc' := 48) (a := (c (a + 1))) (b := 36) rfl rfl rfl (by omega) (fun hz_12 => ?_) (fun hz_12 => ?_)
        · skip
          refine jv_aload_n (pc' := 51) (k := 0) (x := 103) rfl rfl rfl rfl ?_
          refine jx_step (pc' := 52) rfl ?_
          refine jv_getI (pc' := 55) (c := 12) (k := 19) (v := (iI ((a + 1 : Nat) : Int))) rfl rfl rfl (fun _ _ => rfl) rfl rfl rfl ?_
          refine jv_iconst (pc' := 56) (n := 1) rfl rfl ?_
          refine jv_iadd (pc' := 57) (a := ((a + 1 : Nat) : Int)) (b := 1) rfl rfl ?_
          refine jv_putI (pc' := 60) (c := 12) (k := 19) rfl rfl rfl rfl (fun _ _ _  => rfl) rfl rfl ?_
          refine jv_aload_n (pc' := 61) (k := 0) (x := 103) rfl rfl rfl rfl ?_
          refine jv_call (pc' := 64) rfl (ml_compared (I := jm_u (jm_u I 103 19 (iI (((a : Nat) : Int) + 1))) 103 19 (iI (((a + 1 : Nat) : Int) + 1))) (a := a + 2) hT rfl (by omega)) (fun vq13 gq13 q13 => ?_)
          obtain ⟨Iq13, rfl, rfl, rq13, aq13⟩ := q13
          show jx L xs _ 123 64 _ [.int (jb (cO c (a + 2)))] _ _
          refine jv_retZ rfl rfl (jb_01 _) ⟨_, _, rfl, ?_⟩
          first
          | (exfalso; omega)
          | (have e1 : tA c a = cA c (a + 2) := (if_pos (by omega)).trans (if_pos (by omega))
             exact ⟨_, rfl, jq_e ⟨fun z => ⟨by omega, by omega, z⟩, fun z => z.2.2⟩, (fr_t (fr_u (by simp) (fr_u (by simp) (fr_r _))) rq13), by rw [e1]; exact aq13⟩)
        · skip
          refine jv_iconst (pc' := 49) (n := 0) rfl rfl ?_
          refine jv_retZ rfl rfl (by first | exact Or.inl rfl | exact Or.inr rfl) ⟨_, _, rfl, ?_⟩
          first
          | (exfalso; omega)
          | (have e1 : tA c a = a + 1 := (if_pos (by omega)).trans (if_neg (by omega))
             exact ⟨_, rfl, jq_f (fun z => by have := z.2.1; omega), (fr_u (by simp) (fr_r _)), by rw [e1]; exact rfl⟩)
    · skip
      refine jv_iconst (pc' := 18) (n := 0) rfl rfl ?_
      refine jv_retZ rfl rfl (by first | exact Or.inl rfl | exact Or.inr rfl) ⟨_, _, rfl, ?_⟩
      first
      | (exfalso; omega)
      | (have e1 : tA c a = a := if_neg (by omega)
         exact ⟨_, rfl, jq_f (fun z => by have := z.1; omega), (fr_r _), by rw [e1]; exact hat⟩)
end G1
