/-! printed by wip/whole/gen/h10.py: operation follow -/
/-- slot i of the followers G is written -/
def FSP (I I' : Nat → Nat → Int32) (G i : Nat) (c' vx vy : Int) : Prop := fr (fun q _ => G ≤ q ∧ q ≤ G + 2) I I' ∧ I' G 2 = iI c' ∧ I' (G + 1) i = iI vx ∧ I' (G + 2) i = iI vy ∧ ∀ k, k ≠ i → I' (G + 1) k = I (G + 1) k ∧ I' (G + 2) k = I (G + 2) k
theorem FSP_3 {I : Nat → Nat → Int32} {G i : Nat} {c' vx vy : Int} : FSP I (jm_u (jm_u (jm_u I G 2 (iI c')) (G + 1) i (iI vx)) (G + 2) i (iI vy)) G i c' vx vy :=
  ⟨fr_u (by omega) (fr_u (by omega) (fr_u (by omega) (fr_r _))), (jm_u_n2 (by omega)).trans ((jm_u_n2 (by omega)).trans (jm_u_eq ⟨rfl, rfl⟩)), (jm_u_n2 (by omega)).trans (jm_u_eq ⟨rfl, rfl⟩), jm_u_eq ⟨rfl, rfl⟩, fun k hk => ⟨(jm_u_n2 (by omega)).trans ((jm_u_n2 (by omega)).trans (jm_u_n2 (by omega))), (jm_u_n2 (by omega)).trans ((jm_u_n2 (by omega)).trans (jm_u_n2 (by omega)))⟩⟩
theorem FSP_2 {I : Nat → Nat → Int32} {G i : Nat} {c' vx vy : Int} (h : I G 2 = iI c') : FSP I (jm_u (jm_u I (G + 1) i (iI vx)) (G + 2) i (iI vy)) G i c' vx vy :=
  ⟨fr_u (by omega) (fr_u (by omega) (fr_r _)), (jm_u_n2 (by omega)).trans ((jm_u_n2 (by omega)).trans h), (jm_u_n2 (by omega)).trans (jm_u_eq ⟨rfl, rfl⟩), jm_u_eq ⟨rfl, rfl⟩, fun k hk => ⟨(jm_u_n2 (by omega)).trans (jm_u_n2 (by omega)), (jm_u_n2 (by omega)).trans (jm_u_n2 (by omega))⟩⟩
def aFo (A : AB) (l : Nat) (c' : Int) (i : Nat) (vx vy : Int) : AB := jm_u (jm_u (jm_u (jm_u A 103 44 0) 110 l c') 111 (8 * l + i) vx) 112 (8 * l + i) vy
theorem aFo_c {A : AB} {l i : Nat} {c' vx vy : Int} : aFo A l c' i vx vy = jm_u (jm_u (jm_u (jm_u A 110 l c') 103 44 0) 111 (8 * l + i) vx) 112 (8 * l + i) vy := by
  unfold aFo; rw [jm_u_c A 103 44 110 l 0 c' (by omega)]
theorem aFo_k {A : AB} {l i : Nat} {vx vy : Int} : aFo A l (A 110 l) i vx vy = jm_u (jm_u (jm_u A 103 44 0) 111 (8 * l + i) vx) 112 (8 * l + i) vy := by
  unfold aFo; rw [← jm_u_iv (f := jm_u A 103 44 0) (a := 110) (k := l) (v := A 110 l) (jm_u_n2 (by omega))]
section FOS
variable {A : AB} {l i : Nat} {c' vx vy : Int}
theorem aFo_1 : aFo A l c' i vx vy 110 l = c' := (jm_u_n2 (by omega)).trans ((jm_u_n2 (by omega)).trans (jm_u_eq ⟨rfl, rfl⟩))
theorem aFo_1o {l' : Nat} (h : l' ≠ l) : aFo A l c' i vx vy 110 l' = A 110 l' := (jm_u_n2 (by omega)).trans ((jm_u_n2 (by omega)).trans ((jm_u_n2 (by omega)).trans (jm_u_n2 (by omega))))
theorem aFo_2 {k : Nat} : aFo A l c' i vx vy 111 (8 * l + k) = if k = i then vx else A 111 (8 * l + k) := by
  refine (jm_u_n2 (by omega)).trans ?_
  by_cases e : k = i
  · rw [if_pos e]; exact jm_u_eq ⟨rfl, by omega⟩
  · rw [if_neg e]; exact (jm_u_n2 (by omega)).trans ((jm_u_n2 (by omega)).trans (jm_u_n2 (by omega)))
theorem aFo_2o {l' k : Nat} (h : l' ≠ l) (hk : k < 8) (hi : i < 8) : aFo A l c' i vx vy 111 (8 * l' + k) = A 111 (8 * l' + k) := (jm_u_n2 (by omega)).trans ((jm_u_n2 (by omega)).trans ((jm_u_n2 (by omega)).trans (jm_u_n2 (by omega))))
theorem aFo_3 {k : Nat} : aFo A l c' i vx vy 112 (8 * l + k) = if k = i then vy else A 112 (8 * l + k) := by
  by_cases e : k = i
  · rw [if_pos e]; exact jm_u_eq ⟨rfl, by omega⟩
  · rw [if_neg e]; exact (jm_u_n2 (by omega)).trans ((jm_u_n2 (by omega)).trans ((jm_u_n2 (by omega)).trans (jm_u_n2 (by omega))))
theorem aFo_3o {l' k : Nat} (h : l' ≠ l) (hk : k < 8) (hi : i < 8) : aFo A l c' i vx vy 112 (8 * l' + k) = A 112 (8 * l' + k) := (jm_u_n2 (by omega)).trans ((jm_u_n2 (by omega)).trans ((jm_u_n2 (by omega)).trans (jm_u_n2 (by omega))))
theorem CR_fo {I I1 I' : Nat → Nat → Int32} {M : Nat → Nat → Int64} {p : Nat → Option Nat} (h : CR I M p A) (hl : l < 4) (hs : FSP I I1 (53 + 10 * l) i c' vx vy) (f2 : fr wG I1 I') (g1 : I' 98 2 = iI 0) (g2 : ∀ f, f < 12 → I' 100 f = iI (-1)) (g3 : I' 0 12 = iI (-1)) (hc : 0 ≤ c' ∧ c' ≤ 8) (hi8 : i < 8) (hr : (i : Int) < c' → (0 ≤ vx ∧ vx < 2147483648) ∧ (0 ≤ vy ∧ vy < 4)) (hold : ∀ k : Nat, (k : Int) < c' → k ≠ i → (k : Int) < A 110 l) (hdis : ∀ k : Nat, (k : Int) < c' → k ≠ i → (i : Int) < c' → A 111 (8 * l + k) ≠ vx) : CR I' M p (aFo A l c' i vx vy) := by
  obtain ⟨hv, d1, ⟨Tl, S, σ, d2, d3, d4⟩, d5, d8, d6, d9, d7⟩ := h
  have hv5 := hv.2.2.2.2.2.2.1
  have hv4 := hv.2.2.2.1
  have f : fr (fun q k => wG q k ∨ (53 + 10 * l ≤ q ∧ q ≤ 55 + 10 * l)) I I' := fr_t (fr_w hs.1 (fun q k h => by omega)) (fr_w f2 (fun q k h => Or.inl h))
  have rng : ∀ k : Nat, (k : Int) < c' → (0 ≤ aFo A l c' i vx vy 111 (8 * l + k) ∧ aFo A l c' i vx vy 111 (8 * l + k) < 2147483648) ∧ (0 ≤ aFo A l c' i vx vy 112 (8 * l + k) ∧ aFo A l c' i vx vy 112 (8 * l + k) < 4) := fun k hk => by
    rw [aFo_2, aFo_3]
    by_cases e : k = i
    · rw [if_pos e, if_pos e]; exact hr (by omega)
    · rw [if_neg e, if_neg e]; exact (hv4 l hl).2.1 k (hold k hk e)
  have k4 : AV4 (aFo A l c' i vx vy) := by
    intro l' hl'
    by_cases e : l' = l
    · subst e
      rw [aFo_1]
      refine ⟨hc, rng, fun k k' hk hk' he => ?_⟩
      rw [aFo_2, aFo_2] at he
      by_cases e1 : k = i
      · by_cases e2 : k' = i
        · omega
        · rw [if_pos e1, if_neg e2] at he; exact absurd he.symm (hdis k' hk' e2 (by omega))
      · by_cases e2 : k' = i
        · rw [if_neg e1, if_pos e2] at he; exact absurd he (hdis k hk e1 (by omega))
        · rw [if_neg e1, if_neg e2] at he; exact (hv4 l' hl').2.2 k k' (hold k hk e1) (hold k' hk' e2) he
    · rw [aFo_1o e]
      have a := hv4 l' hl'
      refine ⟨a.1, fun k hk => ?_, fun k k' hk hk' he => ?_⟩
      · rw [aFo_2o e (by omega) hi8, aFo_3o e (by omega) hi8]; exact a.2.1 k hk
      · rw [aFo_2o e (by omega) hi8, aFo_2o e (by omega) hi8] at he; exact a.2.2 k k' hk hk' he
  have k5 : RFo I' (aFo A l c' i vx vy) := by
    intro l' hl'
    by_cases e : l' = l
    · subst e
      have ec : ((afc (aFo A l' c' i vx vy) l' : Nat) : Int) = c' := by unfold afc; rw [aFo_1]; omega
      refine ⟨by rw [ec]; exact (f2 _ _ (by unfold wG; omega)).trans hs.2.1, by omega, fun k hk => ?_⟩
      have hk' : (k : Int) < c' := by omega
      refine ⟨(f2 _ _ (by unfold wG; omega)).trans ?_, (f2 _ _ (by unfold wG; omega)).trans ?_, rng k hk'⟩
      · show _ = iI (aFo A l' c' i vx vy 111 (8 * l' + k))
        rw [aFo_2]
        by_cases e1 : k = i
        · rw [if_pos e1, e1]; exact hs.2.2.1
        · rw [if_neg e1, (hs.2.2.2.2 k e1).1]
          exact ((d5 l' hl').2.2 k (by have := hold k hk' e1; unfold afc; omega)).1
      · show _ = iI (aFo A l' c' i vx vy 112 (8 * l' + k))
        rw [aFo_3]
        by_cases e1 : k = i
        · rw [if_pos e1, e1]; exact hs.2.2.2.1
        · rw [if_neg e1, (hs.2.2.2.2 k e1).2]
          exact ((d5 l' hl').2.2 k (by have := hold k hk' e1; unfold afc; omega)).2.1
    · have a := hv4 l' hl'
      have ec : afc (aFo A l c' i vx vy) l' = afc A l' := congrArg Int.toNat (aFo_1o e)
      have a2 := FOC_fr (d5 l' hl') f (by intro k; unfold wG; omega)
      rw [← ec] at a2
      refine ⟨a2.1, a2.2.1, fun k hk => ?_⟩
      have hk8 : k < 8 := by have := a2.2.1; omega
      have b := a2.2.2 k hk
      show I' (53 + 10 * l' + 1) k = iI (aFo A l c' i vx vy 111 (8 * l' + k)) ∧ I' (53 + 10 * l' + 2) k = iI (aFo A l c' i vx vy 112 (8 * l' + k)) ∧ (0 ≤ aFo A l c' i vx vy 111 (8 * l' + k) ∧ aFo A l c' i vx vy 111 (8 * l' + k) < 2147483648) ∧ (0 ≤ aFo A l c' i vx vy 112 (8 * l' + k) ∧ aFo A l c' i vx vy 112 (8 * l' + k) < 4)
      rw [aFo_2o e hk8 hi8, aFo_3o e hk8 hi8]; exact b
  have k6 : RTa I' M (aFo A l c' i vx vy) := RTa_0 g1 g2 rfl
  have gg := (⟨k4, k5, k6⟩ : _ ∧ _ ∧ _)
  have eA : aFo A l c' i vx vy = fun q k => if (q = 103 ∧ k = 44) ∨ q = 110 ∨ q = 111 ∨ q = 112 then aFo A l c' i vx vy q k else A q k := by
    funext q k
    split
    · rfl
    next z => exact (jm_u_n2 (by omega)).trans ((jm_u_n2 (by omega)).trans ((jm_u_n2 (by omega)).trans (jm_u_n2 (by omega))))
  rw [eA] at gg ⊢
  obtain ⟨k4, k5, k6⟩ := gg
  exact ⟨⟨hv.1, hv.2.1, hv.2.2.1, k4, hv.2.2.2.2⟩, CT_fr d1 f (by unfold wG; omega) (by intro k; unfold wG; omega), ⟨Tl, S, σ, RLy_w d2 f (fun _ _ => rfl) (by intro T i k h1 h2; unfold wG; omega), RFr_w d3 f (fun _ _ _ => rfl) (by intro T i k h1 h2; unfold wG; omega) (show A 103 12 ≤ 12 by omega), RDe_f d4 f (fr_r (W := fun _ _ => False) M) ⟨by unfold wG; omega, by unfold wG; omega, by unfold wG; omega, by unfold wG; omega, by intro k; unfold wG; omega⟩ (fun _ h => h) g3⟩, k5, RSc_w d8 f ⟨by unfold wG; omega, by unfold wG; omega, by intro k; unfold wG; omega⟩, RFi_w d6 f (by intro l k h1 h2; unfold wG; omega), k6, RJo_w d7 f (by intro k; unfold wG; omega)⟩
theorem MFW_of {I : Nat → Nat → Int32} {M : Nat → Nat → Int64} (h : CM I M A) (v4 : AV4 A) : MFW I (afc A) (afv A) (afn A) := fun l hl => by
  obtain ⟨h1, h2, h3⟩ := v4 l hl
  have e : ((afc A l : Nat) : Int) = A 110 l := by unfold afc; omega
  refine ⟨by rw [e]; exact h.1 110 l (by unfold pers; omega), by omega, fun k hk => ?_, fun k k' hk hk' he => h3 k k' (by omega) (by omega) he⟩
  obtain ⟨a, b⟩ := h2 k (by omega)
  exact ⟨h.1 111 _ (by unfold pers; omega), h.1 112 _ (by unfold pers; omega), a, b⟩
theorem CM_ui {I : Nat → Nat → Int32} {M : Nat → Nat → Int64} {l k k' : Nat} {z : Int} (h : CM I M A) (hl : l ≠ 133 ∧ l ≠ 134) (hk : k' = k) : CM (jm_u I l k' (iI z)) M (jm_u A l k z) := by
  subst hk; exact CM_u h hl
theorem CM_r {I : Nat → Nat → Int32} {M : Nat → Nat → Int64} {l k k' : Nat} (h : CM I M A) (hp : pers l k) (hk : k' = k) : I l k' = iI (A l k) := by
  subst hk; exact h.1 _ _ hp
end FOS
section H10
variable {L : Nat} {xs : Nat → Int32} {d j : Nat} {I : Nat → Nat → Int32} {M : Nat → Nat → Int64} {p : Nat → Option Nat}
variable {A : AB} {x y z : Int} {l i m G cnt : Nat} {va nx : Nat → Int}
theorem cl_remove_1 (hG : GL G) : jc L xs d 81 [.ref G, .int (iI (-1))] (jx_G j I M p) (fun v g1 => v = none ∧ g1 = jx_G j I M p) := by
  unfold jc
  refine jv_iload_n (pc' := 1) (k := 1) (x := (iI (-1))) rfl rfl rfl rfl ?_
  refine jv_iconst (pc' := 2) (n := -1) rfl rfl ?_
  refine jv_ic_eq (t := 45) (pc' := 5) (a := (-1)) (b := (-1)) rfl rfl rfl (by omega) (fun hz_1 => ?_) (fun hz_1 => ?_)
  · skip
    refine jv_retV rfl rfl ⟨_, _, rfl, ?_⟩
    exact ⟨rfl, rfl⟩
  · skip
    exact absurd hz_1 (by decide)
theorem cl_remove_2 (hG : GL G) (hF : FOC I G (m + 1) va nx) (hi : i < m + 1) : jc L xs d 81 [.ref G, .int (iI ((i : Nat) : Int))] (jx_G j I M p) (fun v g1 => ∃ I', g1 = jx_G j I' M p ∧ v = none ∧ FSP I I' G i ((m : Nat) : Int) (va m) (nx m)) := by
  unfold jc
  have h8 := hF.2.1
  refine jv_iload_n (pc' := 1) (k := 1) (x := (iI ((i : Nat) : Int))) rfl rfl rfl rfl ?_
  refine jv_iconst (pc' := 2) (n := -1) rfl rfl ?_
  refine jv_ic_eq (t := 45) (pc' := 5) (a := ((i : Nat) : Int)) (b := (-1)) rfl rfl rfl (by omega) (fun hz_1 => ?_) (fun hz_1 => ?_)
  · skip
    refine jv_retV rfl rfl ⟨_, _, rfl, ?_⟩
    first
    | (exfalso; omega)
    | exact ⟨_, rfl, rfl, FSP_3⟩
  · skip
    refine jv_aload_n (pc' := 6) (k := 0) (x := G) rfl rfl rfl rfl ?_
    refine jx_step (pc' := 7) rfl ?_
    refine jv_getI (pc' := 10) (c := 8) (k := 2) (v := (iI ((m + 1 : Nat) : Int))) rfl rfl rfl (fun _ _ => rfl) (GL_A hG j _ M p) rfl hF.1 ?_
    refine jv_iconst (pc' := 11) (n := 1) rfl rfl ?_
    refine jv_isub (pc' := 12) (a := ((m + 1 : Nat) : Int)) (b := 1) rfl rfl ?_
    rw [show ((m + 1 : Nat) : Int) - 1 = ((m : Nat) : Int) by omega]
    refine jv_putI (pc' := 15) (c := 8) (k := 2) rfl rfl rfl rfl (fun _ _ _  => rfl) (GL_A hG j _ M p) rfl ?_
    refine jv_aload_n (pc' := 16) (k := 0) (x := G) rfl rfl rfl rfl ?_
    refine jv_getR (pc' := 19) (c := 8) (k := 0) (v := (G + 1)) rfl rfl rfl (fun _ _ => rfl) (GL_A hG j _ M p) rfl (GL_R1 hG p) ?_
    refine jv_iload_n (pc' := 20) (k := 1) (x := (iI ((i : Nat) : Int))) rfl rfl rfl rfl ?_
    refine jv_aload_n (pc' := 21) (k := 0) (x := G) rfl rfl rfl rfl ?_
    refine jv_getR (pc' := 24) (c := 8) (k := 0) (v := (G + 1)) rfl rfl rfl (fun _ _ => rfl) (GL_A hG j _ M p) rfl (GL_R1 hG p) ?_
    refine jv_aload_n (pc' := 25) (k := 0) (x := G) rfl rfl rfl rfl ?_
    refine jv_getI (pc' := 28) (c := 8) (k := 2) (v := (iI ((m : Nat) : Int))) rfl rfl rfl (fun _ _ => rfl) (GL_A hG j _ M p) rfl (jm_u_eq ⟨rfl, rfl⟩) ?_
    refine jv_iaload (pc' := 29) (n := 8) (e := ((m : Nat) : Int)) (v := (iI (va m))) rfl rfl (GL_S hG 1 (by omega)) (GL_B1 hG j _ M p) (GL_n1 hG) rfl (by omega) ((jm_u_n2 (by omega)).trans (hF.2.2 m (by omega)).1) ?_
    refine jv_iastore (pc' := 30) (n := 8) (e := ((i : Nat) : Int)) (v := (iI (va m))) rfl rfl (GL_B1 hG j _ M p) (GL_n1 hG) rfl (by omega) ?_
    refine jv_aload_n (pc' := 31) (k := 0) (x := G) rfl rfl rfl rfl ?_
    refine jv_getR (pc' := 34) (c := 8) (k := 1) (v := (G + 2)) rfl rfl rfl (fun _ _ => rfl) (GL_A hG j _ M p) rfl (GL_R2 hG p) ?_
    refine jv_iload_n (pc' := 35) (k := 1) (x := (iI ((i : Nat) : Int))) rfl rfl rfl rfl ?_
    refine jv_aload_n (pc' := 36) (k := 0) (x := G) rfl rfl rfl rfl ?_
    refine jv_getR (pc' := 39) (c := 8) (k := 1) (v := (G + 2)) rfl rfl rfl (fun _ _ => rfl) (GL_A hG j _ M p) rfl (GL_R2 hG p) ?_
    refine jv_aload_n (pc' := 40) (k := 0) (x := G) rfl rfl rfl rfl ?_
    refine jv_getI (pc' := 43) (c := 8) (k := 2) (v := (iI ((m : Nat) : Int))) rfl rfl rfl (fun _ _ => rfl) (GL_A hG j _ M p) rfl ((jm_u_n2 (by omega)).trans (jm_u_eq ⟨rfl, rfl⟩)) ?_
    refine jv_iaload (pc' := 44) (n := 8) (e := ((m : Nat) : Int)) (v := (iI (nx m))) rfl rfl (GL_S hG 2 (by omega)) (GL_B2 hG j _ M p) (GL_n2 hG) rfl (by omega) ((jm_u_n2 (by omega)).trans ((jm_u_n2 (by omega)).trans (hF.2.2 m (by omega)).2.1)) ?_
    refine jv_iastore (pc' := 45) (n := 8) (e := ((i : Nat) : Int)) (v := (iI (nx m))) rfl rfl (GL_B2 hG j _ M p) (GL_n2 hG) rfl (by omega) ?_
    refine jv_retV rfl rfl ⟨_, _, rfl, ?_⟩
    first
    | (exfalso; omega)
    | exact ⟨_, rfl, rfl, FSP_3⟩
theorem cl_set_1 (hG : GL G) (hF : FOC I G cnt va nx) (hx : 0 ≤ x ∧ x < 2147483648) (hNF : ∀ k, k < cnt → va k ≠ x) : jc L xs (d + 1) 80 [.ref G, .int (iI x), .int (iI (-1))] (jx_G j I M p) (fun v g1 => v = some (.int (iI 1)) ∧ g1 = jx_G j I M p) := by
  unfold jc
  have h8 := hF.2.1
  refine jv_aload_n (pc' := 1) (k := 0) (x := G) rfl rfl rfl rfl ?_
  refine jv_iload_n (pc' := 2) (k := 1) (x := (iI x)) rfl rfl rfl rfl ?_
  refine jv_i2l (pc' := 3) (a := x) rfl rfl (by omega) ?_
  refine jv_callv (pc' := 6) rfl rfl rfl rfl (GL_A hG j _ M p) rfl rfl (cl_find hG hF (by omega)) (fun v1 g1 q1 => ?_)
  obtain ⟨r, rfl, rfl, q1⟩ := q1
  obtain rfl : r = -1 := by
    rcases q1 with ⟨k, rfl, hk, hv⟩ | ⟨h, _⟩
    · exact absurd hv (hNF k hk)
    · exact h
  show jx L xs _ 80 6 _ [.int (iI (-1))] _ _
  refine jv_istore_n (pc' := 7) (k := 3) (x := (iI (-1))) rfl rfl rfl rfl (Or.inr rfl) ?_
  refine jv_iload_n (pc' := 8) (k := 2) (x := (iI (-1))) rfl rfl rfl rfl ?_
  refine jv_iconst (pc' := 9) (n := -1) rfl rfl ?_
  refine jv_ic_ne (t := 19) (pc' := 12) (a := (-1)) (b := (-1)) rfl rfl rfl (by omega) (fun hz_1 => ?_) (fun hz_1 => ?_)
  · skip
    exact absurd hz_1 (by decide)
  · skip
    refine jv_aload_n (pc' := 13) (k := 0) (x := G) rfl rfl rfl rfl ?_
    refine jv_iload_n (pc' := 14) (k := 3) (x := (iI (-1))) rfl rfl rfl rfl ?_
    refine jv_callv (pc' := 17) rfl rfl rfl rfl (GL_A hG j _ M p) rfl rfl (cl_remove_1 hG) (fun v2 g2 q2 => ?_)
    obtain ⟨rfl, rfl⟩ := q2
    show jx L xs _ 80 17 _ [] _ _
    refine jv_iconst (pc' := 18) (n := 1) rfl rfl ?_
    refine jv_retZ rfl rfl (by first | exact Or.inl rfl | exact Or.inr rfl) ⟨_, _, rfl, ?_⟩
    exact ⟨rfl, rfl⟩
theorem cl_set_2 (hG : GL G) (hF : FOC I G (m + 1) va nx) (hx : 0 ≤ x ∧ x < 2147483648) (hi : i < m + 1) (hix : va i = x) (hd : ∀ k k', k < m + 1 → k' < m + 1 → va k = va k' → k = k') : jc L xs (d + 1) 80 [.ref G, .int (iI x), .int (iI (-1))] (jx_G j I M p) (fun v g1 => ∃ I', g1 = jx_G j I' M p ∧ v = some (.int (iI 1)) ∧ FSP I I' G i ((m : Nat) : Int) (va m) (nx m)) := by
  unfold jc
  have h8 := hF.2.1
  refine jv_aload_n (pc' := 1) (k := 0) (x := G) rfl rfl rfl rfl ?_
  refine jv_iload_n (pc' := 2) (k := 1) (x := (iI x)) rfl rfl rfl rfl ?_
  refine jv_i2l (pc' := 3) (a := x) rfl rfl (by omega) ?_
  refine jv_callv (pc' := 6) rfl rfl rfl rfl (GL_A hG j _ M p) rfl rfl (cl_find hG hF (by omega)) (fun v1 g1 q1 => ?_)
  obtain ⟨r, rfl, rfl, q1⟩ := q1
  obtain rfl : r = (i : Int) := by
    rcases q1 with ⟨k, rfl, hk, hv⟩ | ⟨_, hn⟩
    · exact congrArg _ (hd k i hk hi (hv.trans hix.symm))
    · exact absurd hix (hn i hi)
  show jx L xs _ 80 6 _ [.int (iI ((i : Nat) : Int))] _ _
  refine jv_istore_n (pc' := 7) (k := 3) (x := (iI ((i : Nat) : Int))) rfl rfl rfl rfl (Or.inr rfl) ?_
  refine jv_iload_n (pc' := 8) (k := 2) (x := (iI (-1))) rfl rfl rfl rfl ?_
  refine jv_iconst (pc' := 9) (n := -1) rfl rfl ?_
  refine jv_ic_ne (t := 19) (pc' := 12) (a := (-1)) (b := (-1)) rfl rfl rfl (by omega) (fun hz_1 => ?_) (fun hz_1 => ?_)
  · skip
    exact absurd hz_1 (by decide)
  · skip
    refine jv_aload_n (pc' := 13) (k := 0) (x := G) rfl rfl rfl rfl ?_
    refine jv_iload_n (pc' := 14) (k := 3) (x := (iI ((i : Nat) : Int))) rfl rfl rfl rfl ?_
    refine jv_callv (pc' := 17) rfl rfl rfl rfl (GL_A hG j _ M p) rfl rfl (cl_remove_2 hG hF hi) (fun v2 g2 q2 => ?_)
    obtain ⟨I2, rfl, rfl, S2⟩ := q2
    show jx L xs _ 80 17 _ [] _ _
    refine jv_iconst (pc' := 18) (n := 1) rfl rfl ?_
    refine jv_retZ rfl rfl (by first | exact Or.inl rfl | exact Or.inr rfl) ⟨_, _, rfl, ?_⟩
    exact ⟨_, rfl, rfl, S2⟩
theorem cl_set_3 (hG : GL G) (hF : FOC I G cnt va nx) (hx : 0 ≤ x ∧ x < 2147483648) (hi : i < cnt) (hix : va i = x) (hd : ∀ k k', k < cnt → k' < cnt → va k = va k' → k = k') (hy : 0 ≤ y ∧ y < 4) : jc L xs (d + 1) 80 [.ref G, .int (iI x), .int (iI y)] (jx_G j I M p) (fun v g1 => ∃ I', g1 = jx_G j I' M p ∧ v = some (.int (iI 1)) ∧ FSP I I' G i ((cnt : Nat) : Int) x y) := by
  unfold jc
  have h8 := hF.2.1
  refine jv_aload_n (pc' := 1) (k := 0) (x := G) rfl rfl rfl rfl ?_
  refine jv_iload_n (pc' := 2) (k := 1) (x := (iI x)) rfl rfl rfl rfl ?_
  refine jv_i2l (pc' := 3) (a := x) rfl rfl (by omega) ?_
  refine jv_callv (pc' := 6) rfl rfl rfl rfl (GL_A hG j _ M p) rfl rfl (cl_find hG hF (by omega)) (fun v1 g1 q1 => ?_)
  obtain ⟨r, rfl, rfl, q1⟩ := q1
  obtain rfl : r = (i : Int) := by
    rcases q1 with ⟨k, rfl, hk, hv⟩ | ⟨_, hn⟩
    · exact congrArg _ (hd k i hk hi (hv.trans hix.symm))
    · exact absurd hix (hn i hi)
  show jx L xs _ 80 6 _ [.int (iI ((i : Nat) : Int))] _ _
  refine jv_istore_n (pc' := 7) (k := 3) (x := (iI ((i : Nat) : Int))) rfl rfl rfl rfl (Or.inr rfl) ?_
  refine jv_iload_n (pc' := 8) (k := 2) (x := (iI y)) rfl rfl rfl rfl ?_
  refine jv_iconst (pc' := 9) (n := -1) rfl rfl ?_
  refine jv_ic_ne (t := 19) (pc' := 12) (a := y) (b := (-1)) rfl rfl rfl (by omega) (fun hz_1 => ?_) (fun hz_1 => ?_)
  · skip
    refine jv_iload_n (pc' := 20) (k := 3) (x := (iI ((i : Nat) : Int))) rfl rfl rfl rfl ?_
    refine jv_iconst (pc' := 21) (n := -1) rfl rfl ?_
    refine jv_ic_ne (t := 50) (pc' := 24) (a := ((i : Nat) : Int)) (b := (-1)) rfl rfl rfl (by omega) (fun hz_2 => ?_) (fun hz_2 => ?_)
    · skip
      refine jv_aload_n (pc' := 51) (k := 0) (x := G) rfl rfl rfl rfl ?_
      refine jv_getR (pc' := 54) (c := 8) (k := 0) (v := (G + 1)) rfl rfl rfl (fun _ _ => rfl) (GL_A hG j _ M p) rfl (GL_R1 hG p) ?_
      refine jv_iload_n (pc' := 55) (k := 3) (x := (iI ((i : Nat) : Int))) rfl rfl rfl rfl ?_
      refine jv_iload_n (pc' := 56) (k := 1) (x := (iI x)) rfl rfl rfl rfl ?_
      refine jv_iastore (pc' := 57) (n := 8) (e := ((i : Nat) : Int)) (v := (iI x)) rfl rfl (GL_B1 hG j _ M p) (GL_n1 hG) rfl (by omega) ?_
      refine jv_aload_n (pc' := 58) (k := 0) (x := G) rfl rfl rfl rfl ?_
      refine jv_getR (pc' := 61) (c := 8) (k := 1) (v := (G + 2)) rfl rfl rfl (fun _ _ => rfl) (GL_A hG j _ M p) rfl (GL_R2 hG p) ?_
      refine jv_iload_n (pc' := 62) (k := 3) (x := (iI ((i : Nat) : Int))) rfl rfl rfl rfl ?_
      refine jv_iload_n (pc' := 63) (k := 2) (x := (iI y)) rfl rfl rfl rfl ?_
      refine jv_iastore (pc' := 64) (n := 8) (e := ((i : Nat) : Int)) (v := (iI y)) rfl rfl (GL_B2 hG j _ M p) (GL_n2 hG) rfl (by omega) ?_
      refine jv_iconst (pc' := 65) (n := 1) rfl rfl ?_
      refine jv_retZ rfl rfl (by first | exact Or.inl rfl | exact Or.inr rfl) ⟨_, _, rfl, ?_⟩
      first
      | (exfalso; omega)
      | exact ⟨_, rfl, rfl, FSP_2 hF.1⟩
    · skip
      exfalso; omega
  · skip
    exfalso; omega
theorem cl_set_4 (hG : GL G) (hF : FOC I G cnt va nx) (hx : 0 ≤ x ∧ x < 2147483648) (hNF : ∀ k, k < cnt → va k ≠ x) (hc : cnt < 8) (hy : 0 ≤ y ∧ y < 4) : jc L xs (d + 1) 80 [.ref G, .int (iI x), .int (iI y)] (jx_G j I M p) (fun v g1 => ∃ I', g1 = jx_G j I' M p ∧ v = some (.int (iI 1)) ∧ FSP I I' G cnt ((cnt + 1 : Nat) : Int) x y) := by
  unfold jc
  have h8 := hF.2.1
  refine jv_aload_n (pc' := 1) (k := 0) (x := G) rfl rfl rfl rfl ?_
  refine jv_iload_n (pc' := 2) (k := 1) (x := (iI x)) rfl rfl rfl rfl ?_
  refine jv_i2l (pc' := 3) (a := x) rfl rfl (by omega) ?_
  refine jv_callv (pc' := 6) rfl rfl rfl rfl (GL_A hG j _ M p) rfl rfl (cl_find hG hF (by omega)) (fun v1 g1 q1 => ?_)
  obtain ⟨r, rfl, rfl, q1⟩ := q1
  obtain rfl : r = -1 := by
    rcases q1 with ⟨k, rfl, hk, hv⟩ | ⟨h, _⟩
    · exact absurd hv (hNF k hk)
    · exact h
  show jx L xs _ 80 6 _ [.int (iI (-1))] _ _
  refine jv_istore_n (pc' := 7) (k := 3) (x := (iI (-1))) rfl rfl rfl rfl (Or.inr rfl) ?_
  refine jv_iload_n (pc' := 8) (k := 2) (x := (iI y)) rfl rfl rfl rfl ?_
  refine jv_iconst (pc' := 9) (n := -1) rfl rfl ?_
  refine jv_ic_ne (t := 19) (pc' := 12) (a := y) (b := (-1)) rfl rfl rfl (by omega) (fun hz_1 => ?_) (fun hz_1 => ?_)
  · skip
    refine jv_iload_n (pc' := 20) (k := 3) (x := (iI (-1))) rfl rfl rfl rfl ?_
    refine jv_iconst (pc' := 21) (n := -1) rfl rfl ?_
    refine jv_ic_ne (t := 50) (pc' := 24) (a := (-1)) (b := (-1)) rfl rfl rfl (by omega) (fun hz_2 => ?_) (fun hz_2 => ?_)
    · skip
      exact absurd hz_2 (by decide)
    · skip
      refine jv_aload_n (pc' := 25) (k := 0) (x := G) rfl rfl rfl rfl ?_
      refine jv_getI (pc' := 28) (c := 8) (k := 2) (v := (iI ((cnt : Nat) : Int))) rfl rfl rfl (fun _ _ => rfl) (GL_A hG j _ M p) rfl hF.1 ?_
      refine jv_bipush (pc' := 30) (n := 8) rfl rfl rfl ?_
      refine jv_ic_lt (t := 35) (pc' := 33) (a := ((cnt : Nat) : Int)) (b := 8) rfl rfl rfl (by omega) (fun hz_3 => ?_) (fun hz_3 => ?_)
      · skip
        refine jv_aload_n (pc' := 36) (k := 0) (x := G) rfl rfl rfl rfl ?_
        refine jv_getI (pc' := 39) (c := 8) (k := 2) (v := (iI ((cnt : Nat) : Int))) rfl rfl rfl (fun _ _ => rfl) (GL_A hG j _ M p) rfl hF.1 ?_
        refine jv_istore_n (pc' := 40) (k := 3) (x := (iI ((cnt : Nat) : Int))) rfl rfl rfl rfl (Or.inr rfl) ?_
        refine jv_aload_n (pc' := 41) (k := 0) (x := G) rfl rfl rfl rfl ?_
        refine jx_step (pc' := 42) rfl ?_
        refine jv_getI (pc' := 45) (c := 8) (k := 2) (v := (iI ((cnt : Nat) : Int))) rfl rfl rfl (fun _ _ => rfl) (GL_A hG j _ M p) rfl hF.1 ?_
        refine jv_iconst (pc' := 46) (n := 1) rfl rfl ?_
        refine jv_iadd (pc' := 47) (a := ((cnt : Nat) : Int)) (b := 1) rfl rfl ?_
        rw [show ((cnt : Nat) : Int) + 1 = ((cnt + 1 : Nat) : Int) by omega]
        refine jv_putI (pc' := 50) (c := 8) (k := 2) rfl rfl rfl rfl (fun _ _ _  => rfl) (GL_A hG j _ M p) rfl ?_
        refine jv_aload_n (pc' := 51) (k := 0) (x := G) rfl rfl rfl rfl ?_
        refine jv_getR (pc' := 54) (c := 8) (k := 0) (v := (G + 1)) rfl rfl rfl (fun _ _ => rfl) (GL_A hG j _ M p) rfl (GL_R1 hG p) ?_
        refine jv_iload_n (pc' := 55) (k := 3) (x := (iI ((cnt : Nat) : Int))) rfl rfl rfl rfl ?_
        refine jv_iload_n (pc' := 56) (k := 1) (x := (iI x)) rfl rfl rfl rfl ?_
        refine jv_iastore (pc' := 57) (n := 8) (e := ((cnt : Nat) : Int)) (v := (iI x)) rfl rfl (GL_B1 hG j _ M p) (GL_n1 hG) rfl (by omega) ?_
        refine jv_aload_n (pc' := 58) (k := 0) (x := G) rfl rfl rfl rfl ?_
        refine jv_getR (pc' := 61) (c := 8) (k := 1) (v := (G + 2)) rfl rfl rfl (fun _ _ => rfl) (GL_A hG j _ M p) rfl (GL_R2 hG p) ?_
        refine jv_iload_n (pc' := 62) (k := 3) (x := (iI ((cnt : Nat) : Int))) rfl rfl rfl rfl ?_
        refine jv_iload_n (pc' := 63) (k := 2) (x := (iI y)) rfl rfl rfl rfl ?_
        refine jv_iastore (pc' := 64) (n := 8) (e := ((cnt : Nat) : Int)) (v := (iI y)) rfl rfl (GL_B2 hG j _ M p) (GL_n2 hG) rfl (by omega) ?_
        refine jv_iconst (pc' := 65) (n := 1) rfl rfl ?_
        refine jv_retZ rfl rfl (by first | exact Or.inl rfl | exact Or.inr rfl) ⟨_, _, rfl, ?_⟩
        first
        | (exfalso; omega)
        | exact ⟨_, rfl, rfl, FSP_3⟩
      · skip
        exfalso; omega
  · skip
    exfalso; omega
theorem cl_set_5 (hG : GL G) (hF : FOC I G cnt va nx) (hx : 0 ≤ x ∧ x < 2147483648) (hNF : ∀ k, k < cnt → va k ≠ x) (hc : ¬ cnt < 8) (hy : 0 ≤ y ∧ y < 4) : jc L xs (d + 1) 80 [.ref G, .int (iI x), .int (iI y)] (jx_G j I M p) (fun v g1 => v = some (.int (iI 0)) ∧ g1 = jx_G j I M p) := by
  unfold jc
  have h8 := hF.2.1
  refine jv_aload_n (pc' := 1) (k := 0) (x := G) rfl rfl rfl rfl ?_
  refine jv_iload_n (pc' := 2) (k := 1) (x := (iI x)) rfl rfl rfl rfl ?_
  refine jv_i2l (pc' := 3) (a := x) rfl rfl (by omega) ?_
  refine jv_callv (pc' := 6) rfl rfl rfl rfl (GL_A hG j _ M p) rfl rfl (cl_find hG hF (by omega)) (fun v1 g1 q1 => ?_)
  obtain ⟨r, rfl, rfl, q1⟩ := q1
  obtain rfl : r = -1 := by
    rcases q1 with ⟨k, rfl, hk, hv⟩ | ⟨h, _⟩
    · exact absurd hv (hNF k hk)
    · exact h
  show jx L xs _ 80 6 _ [.int (iI (-1))] _ _
  refine jv_istore_n (pc' := 7) (k := 3) (x := (iI (-1))) rfl rfl rfl rfl (Or.inr rfl) ?_
  refine jv_iload_n (pc' := 8) (k := 2) (x := (iI y)) rfl rfl rfl rfl ?_
  refine jv_iconst (pc' := 9) (n := -1) rfl rfl ?_
  refine jv_ic_ne (t := 19) (pc' := 12) (a := y) (b := (-1)) rfl rfl rfl (by omega) (fun hz_1 => ?_) (fun hz_1 => ?_)
  · skip
    refine jv_iload_n (pc' := 20) (k := 3) (x := (iI (-1))) rfl rfl rfl rfl ?_
    refine jv_iconst (pc' := 21) (n := -1) rfl rfl ?_
    refine jv_ic_ne (t := 50) (pc' := 24) (a := (-1)) (b := (-1)) rfl rfl rfl (by omega) (fun hz_2 => ?_) (fun hz_2 => ?_)
    · skip
      exact absurd hz_2 (by decide)
    · skip
      refine jv_aload_n (pc' := 25) (k := 0) (x := G) rfl rfl rfl rfl ?_
      refine jv_getI (pc' := 28) (c := 8) (k := 2) (v := (iI ((cnt : Nat) : Int))) rfl rfl rfl (fun _ _ => rfl) (GL_A hG j _ M p) rfl hF.1 ?_
      refine jv_bipush (pc' := 30) (n := 8) rfl rfl rfl ?_
      refine jv_ic_lt (t := 35) (pc' := 33) (a := ((cnt : Nat) : Int)) (b := 8) rfl rfl rfl (by omega) (fun hz_3 => ?_) (fun hz_3 => ?_)
      · skip
        exfalso; omega
      · skip
        refine jv_iconst (pc' := 34) (n := 0) rfl rfl ?_
        refine jv_retZ rfl rfl (by first | exact Or.inl rfl | exact Or.inr rfl) ⟨_, _, rfl, ?_⟩
        first
        | (exfalso; omega)
        | exact ⟨rfl, rfl⟩
  · skip
    exfalso; omega
theorem op_follow_t1 (hz : iR z) (hx : iR x) (hy : iR y) (hbad : ¬ ((0 ≤ z ∧ z < 4) ∧ 0 ≤ x ∧ (-1 ≤ y ∧ y < 4))) : jt L xs (d + 2) 6 [.ref 0, .int (iI z), .int (iI x), .int (iI y)] (jx_G j I M p) 50 (fun g1 => g1 = jx_G (j + 1) I M p) := by
  unfold jt
  refine jv_iload_n (pc' := 1) (k := 1) (x := (iI z)) rfl rfl rfl rfl ?_
  refine jv_call (pc' := 4) rfl (cl_isLayer (by omega)) (fun vq1 gq1 q1 => ?_)
  obtain ⟨rfl, rfl⟩ := q1
  show jx L xs _ 6 4 _ [.int (jb (0 ≤ z ∧ z < 4))] _ _
  refine jv_jb_eq (t := 18) (pc' := 7) (P := 0 ≤ z ∧ z < 4) rfl rfl rfl (fun hz_2 => ?_) (fun hz_2 => ?_)
  · skip
    refine jx_ret0 rfl ⟨_, rfl, ?_⟩
    first
    | (exfalso; omega)
    | rfl
  · skip
    refine jv_iload_n (pc' := 8) (k := 2) (x := (iI x)) rfl rfl rfl rfl ?_
    refine jv_if_lt (t := 18) (pc' := 11) (a := x) rfl rfl rfl (by omega) (fun hz_3 => ?_) (fun hz_3 => ?_)
    · skip
      refine jx_ret0 rfl ⟨_, rfl, ?_⟩
      first
      | (exfalso; omega)
      | rfl
    · skip
      refine jv_iload_n (pc' := 12) (k := 3) (x := (iI y)) rfl rfl rfl rfl ?_
      refine jv_call (pc' := 15) rfl (cl_isLayerOrNone (by omega)) (fun vq4 gq4 q4 => ?_)
      obtain ⟨rfl, rfl⟩ := q4
      show jx L xs _ 6 15 _ [.int (jb (-1 ≤ y ∧ y < 4))] _ _
      refine jv_jb_ne (t := 26) (pc' := 18) (P := -1 ≤ y ∧ y < 4) rfl rfl rfl (fun hz_5 => ?_) (fun hz_5 => ?_)
      · skip
        exfalso; omega
      · skip
        refine jx_ret0 rfl ⟨_, rfl, ?_⟩
        first
        | (exfalso; omega)
        | rfl
theorem op_follow_c1 (hR : CR I M p A) (hl : l < 4) (hx : 0 ≤ x ∧ x < 2147483648) (hNF : ∀ k : Nat, (k : Int) < A 110 l → A 111 (8 * l + k) ≠ x) : jc L xs (d + 3) 6 [.ref 0, .int (iI ((l : Nat) : Int)), .int (iI x), .int (iI (-1))] (jx_G j I M p) (fun v g1 => ∃ I', g1 = jx_G j I' M p ∧ fr cW I I' ∧ v = none ∧ CR I' M p (jm_u A 103 44 0)) := by
  unfold jc
  have hv4 := hR.1.2.2.2.1 l hl
  have hF := hR.2.2.2.1 l hl
  have ec : ((afc A l : Nat) : Int) = A 110 l := by unfold afc; omega
  refine jv_iload_n (pc' := 1) (k := 1) (x := (iI ((l : Nat) : Int))) rfl rfl rfl rfl ?_
  refine jv_call (pc' := 4) rfl (cl_isLayer (by omega)) (fun vq1 gq1 q1 => ?_)
  obtain ⟨rfl, rfl⟩ := q1
  show jx L xs _ 6 4 _ [.int (jb (0 ≤ ((l : Nat) : Int) ∧ ((l : Nat) : Int) < 4))] _ _
  refine jv_jb_eq (t := 18) (pc' := 7) (P := 0 ≤ ((l : Nat) : Int) ∧ ((l : Nat) : Int) < 4) rfl rfl rfl (fun hz_2 => ?_) (fun hz_2 => ?_)
  · skip
    exfalso; omega
  · skip
    refine jv_iload_n (pc' := 8) (k := 2) (x := (iI x)) rfl rfl rfl rfl ?_
    refine jv_if_lt (t := 18) (pc' := 11) (a := x) rfl rfl rfl (by omega) (fun hz_3 => ?_) (fun hz_3 => ?_)
    · skip
      exfalso; omega
    · skip
      refine jv_iload_n (pc' := 12) (k := 3) (x := (iI (-1))) rfl rfl rfl rfl ?_
      refine jv_call (pc' := 15) rfl (cl_isLayerOrNone (by omega)) (fun vq4 gq4 q4 => ?_)
      obtain ⟨rfl, rfl⟩ := q4
      show jx L xs _ 6 15 _ [.int (jb (-1 ≤ (-1) ∧ (-1) < 4))] _ _
      refine jv_jb_ne (t := 26) (pc' := 18) (P := -1 ≤ (-1) ∧ (-1) < 4) rfl rfl rfl (fun hz_5 => ?_) (fun hz_5 => ?_)
      · skip
        refine jv_aload_n (pc' := 27) (k := 0) (x := 0) rfl rfl rfl rfl ?_
        refine jv_getR (pc' := 30) (c := 0) (k := 4) (v := 38) rfl rfl rfl (fun _ _ => rfl) rfl rfl (jR_0_4 _) ?_
        refine jv_getR (pc' := 33) (c := 6) (k := 2) (v := 43) rfl rfl rfl (fun _ _ => rfl) rfl rfl (jR_38_2 _) ?_
        refine jv_iload_n (pc' := 34) (k := 1) (x := (iI ((l : Nat) : Int))) rfl rfl rfl rfl ?_
        refine jv_aaload (pc' := 35) (n := 4) (e := ((l : Nat) : Int)) (v := (53 + 10 * l)) rfl rfl rfl rfl rfl (by omega) (jR43 _ hl) ?_
        refine jv_iload_n (pc' := 36) (k := 2) (x := (iI x)) rfl rfl rfl rfl ?_
        refine jv_iload_n (pc' := 37) (k := 3) (x := (iI (-1))) rfl rfl rfl rfl ?_
        refine jv_callv (pc' := 40) rfl rfl rfl rfl (GL_A (GL_l hl) j _ _ _) rfl rfl (cl_set_1 (GL_l hl) hF hx (fun k hk => hNF k (by omega))) (fun v1 g1 q1 => ?_)
        obtain ⟨rfl, rfl⟩ := q1
        show jx L xs _ 6 40 _ [.int (iI 1)] _ _
        refine jv_if_ne (t := 51) (pc' := 43) (a := 1) rfl rfl rfl (by omega) (fun hz_6 => ?_) (fun hz_6 => ?_)
        · skip
          refine jv_aload_n (pc' := 52) (k := 0) (x := 0) rfl rfl rfl rfl ?_
          refine jv_call (pc' := 55) rfl (cl_forget (I := I)) (fun vq7 gq7 q7 => ?_)
          obtain ⟨Iq7, rfl, rfl, aq7, bq7, rq7, zq7⟩ := q7
          show jx L xs _ 6 55 _ [] _ _
          refine jv_retV rfl rfl ⟨_, _, rfl, ?_⟩
          first
          | (exfalso; omega)
          | (have hv := hR.1
             have h6 := hR.2.2.2.2.1
             exact ⟨_, rfl, fr_w rq7 (fun l k h => by unfold wG at h; unfold cW; omega), rfl, CR_fg hR (fr_w rq7 (fun l k h => Or.inl h)) ⟨(rq7 0 10 (by simp [wG])).trans h6.1, (rq7 0 11 (by simp [wG])).trans h6.2.1, fun i hi => (rq7 12 i (by simp [wG])).trans (h6.2.2 i hi)⟩ hv aq7 bq7 zq7 rfl (fun z => z) (fun _ _ z => z) (fun _ z => z) (fun z => z) (fun z => z) (fun z => z)⟩)
        · skip
          exact absurd hz_6 (by decide)
      · skip
        exfalso; omega
theorem op_follow_c2 (hR : CR I M p A) (hl : l < 4) (hx : 0 ≤ x ∧ x < 2147483648) (hm : A 110 l = ((m + 1 : Nat) : Int)) (hi : (i : Int) < A 110 l) (hix : A 111 (8 * l + i) = x) : jc L xs (d + 3) 6 [.ref 0, .int (iI ((l : Nat) : Int)), .int (iI x), .int (iI (-1))] (jx_G j I M p) (fun v g1 => ∃ I', g1 = jx_G j I' M p ∧ fr cW I I' ∧ v = none ∧ CR I' M p (aFo A l ((m : Nat) : Int) i (A 111 (8 * l + m)) (A 112 (8 * l + m)))) := by
  unfold jc
  have hv4 := hR.1.2.2.2.1 l hl
  have hF := hR.2.2.2.1 l hl
  have ec : afc A l = m + 1 := by unfold afc; omega
  rw [ec] at hF
  refine jv_iload_n (pc' := 1) (k := 1) (x := (iI ((l : Nat) : Int))) rfl rfl rfl rfl ?_
  refine jv_call (pc' := 4) rfl (cl_isLayer (by omega)) (fun vq1 gq1 q1 => ?_)
  obtain ⟨rfl, rfl⟩ := q1
  show jx L xs _ 6 4 _ [.int (jb (0 ≤ ((l : Nat) : Int) ∧ ((l : Nat) : Int) < 4))] _ _
  refine jv_jb_eq (t := 18) (pc' := 7) (P := 0 ≤ ((l : Nat) : Int) ∧ ((l : Nat) : Int) < 4) rfl rfl rfl (fun hz_2 => ?_) (fun hz_2 => ?_)
  · skip
    exfalso; omega
  · skip
    refine jv_iload_n (pc' := 8) (k := 2) (x := (iI x)) rfl rfl rfl rfl ?_
    refine jv_if_lt (t := 18) (pc' := 11) (a := x) rfl rfl rfl (by omega) (fun hz_3 => ?_) (fun hz_3 => ?_)
    · skip
      exfalso; omega
    · skip
      refine jv_iload_n (pc' := 12) (k := 3) (x := (iI (-1))) rfl rfl rfl rfl ?_
      refine jv_call (pc' := 15) rfl (cl_isLayerOrNone (by omega)) (fun vq4 gq4 q4 => ?_)
      obtain ⟨rfl, rfl⟩ := q4
      show jx L xs _ 6 15 _ [.int (jb (-1 ≤ (-1) ∧ (-1) < 4))] _ _
      refine jv_jb_ne (t := 26) (pc' := 18) (P := -1 ≤ (-1) ∧ (-1) < 4) rfl rfl rfl (fun hz_5 => ?_) (fun hz_5 => ?_)
      · skip
        refine jv_aload_n (pc' := 27) (k := 0) (x := 0) rfl rfl rfl rfl ?_
        refine jv_getR (pc' := 30) (c := 0) (k := 4) (v := 38) rfl rfl rfl (fun _ _ => rfl) rfl rfl (jR_0_4 _) ?_
        refine jv_getR (pc' := 33) (c := 6) (k := 2) (v := 43) rfl rfl rfl (fun _ _ => rfl) rfl rfl (jR_38_2 _) ?_
        refine jv_iload_n (pc' := 34) (k := 1) (x := (iI ((l : Nat) : Int))) rfl rfl rfl rfl ?_
        refine jv_aaload (pc' := 35) (n := 4) (e := ((l : Nat) : Int)) (v := (53 + 10 * l)) rfl rfl rfl rfl rfl (by omega) (jR43 _ hl) ?_
        refine jv_iload_n (pc' := 36) (k := 2) (x := (iI x)) rfl rfl rfl rfl ?_
        refine jv_iload_n (pc' := 37) (k := 3) (x := (iI (-1))) rfl rfl rfl rfl ?_
        refine jv_callv (pc' := 40) rfl rfl rfl rfl (GL_A (GL_l hl) j _ _ _) rfl rfl (cl_set_2 (GL_l hl) hF hx (by omega) hix (fun k k' hk hk' he => hv4.2.2 k k' (by omega) (by omega) he)) (fun v1 g1 q1 => ?_)
        obtain ⟨I1, rfl, rfl, S1⟩ := q1
        show jx L xs _ 6 40 _ [.int (iI 1)] _ _
        refine jv_if_ne (t := 51) (pc' := 43) (a := 1) rfl rfl rfl (by omega) (fun hz_6 => ?_) (fun hz_6 => ?_)
        · skip
          refine jv_aload_n (pc' := 52) (k := 0) (x := 0) rfl rfl rfl rfl ?_
          refine jv_call (pc' := 55) rfl (cl_forget (I := I1)) (fun vq7 gq7 q7 => ?_)
          obtain ⟨Iq7, rfl, rfl, aq7, bq7, rq7, zq7⟩ := q7
          show jx L xs _ 6 55 _ [] _ _
          refine jv_retV rfl rfl ⟨_, _, rfl, ?_⟩
          first
          | (exfalso; omega)
          | exact ⟨_, rfl, fr_t (fr_w S1.1 (fun q k h => by unfold cW; omega)) (fr_w rq7 (fun l k h => by unfold wG at h; unfold cW; omega)), rfl, CR_fo hR hl S1 rq7 aq7 bq7 zq7 (by omega) (by omega) (fun _ => hv4.2.1 m (by omega)) (fun k hk _ => by omega) (fun k hk hne hic he => absurd (hv4.2.2 k m (by omega) (by omega) he) (by omega))⟩
        · skip
          exact absurd hz_6 (by decide)
      · skip
        exfalso; omega
theorem op_follow_c3 (hR : CR I M p A) (hl : l < 4) (hx : 0 ≤ x ∧ x < 2147483648) (hm : A 110 l = ((m : Nat) : Int)) (hi : (i : Int) < A 110 l) (hix : A 111 (8 * l + i) = x) (hy : 0 ≤ y ∧ y < 4) : jc L xs (d + 3) 6 [.ref 0, .int (iI ((l : Nat) : Int)), .int (iI x), .int (iI y)] (jx_G j I M p) (fun v g1 => ∃ I', g1 = jx_G j I' M p ∧ fr cW I I' ∧ v = none ∧ CR I' M p (aFo A l ((m : Nat) : Int) i x y)) := by
  unfold jc
  have hv4 := hR.1.2.2.2.1 l hl
  have hF := hR.2.2.2.1 l hl
  have ec : afc A l = m := by unfold afc; omega
  rw [ec] at hF
  refine jv_iload_n (pc' := 1) (k := 1) (x := (iI ((l : Nat) : Int))) rfl rfl rfl rfl ?_
  refine jv_call (pc' := 4) rfl (cl_isLayer (by omega)) (fun vq1 gq1 q1 => ?_)
  obtain ⟨rfl, rfl⟩ := q1
  show jx L xs _ 6 4 _ [.int (jb (0 ≤ ((l : Nat) : Int) ∧ ((l : Nat) : Int) < 4))] _ _
  refine jv_jb_eq (t := 18) (pc' := 7) (P := 0 ≤ ((l : Nat) : Int) ∧ ((l : Nat) : Int) < 4) rfl rfl rfl (fun hz_2 => ?_) (fun hz_2 => ?_)
  · skip
    exfalso; omega
  · skip
    refine jv_iload_n (pc' := 8) (k := 2) (x := (iI x)) rfl rfl rfl rfl ?_
    refine jv_if_lt (t := 18) (pc' := 11) (a := x) rfl rfl rfl (by omega) (fun hz_3 => ?_) (fun hz_3 => ?_)
    · skip
      exfalso; omega
    · skip
      refine jv_iload_n (pc' := 12) (k := 3) (x := (iI y)) rfl rfl rfl rfl ?_
      refine jv_call (pc' := 15) rfl (cl_isLayerOrNone (by omega)) (fun vq4 gq4 q4 => ?_)
      obtain ⟨rfl, rfl⟩ := q4
      show jx L xs _ 6 15 _ [.int (jb (-1 ≤ y ∧ y < 4))] _ _
      refine jv_jb_ne (t := 26) (pc' := 18) (P := -1 ≤ y ∧ y < 4) rfl rfl rfl (fun hz_5 => ?_) (fun hz_5 => ?_)
      · skip
        refine jv_aload_n (pc' := 27) (k := 0) (x := 0) rfl rfl rfl rfl ?_
        refine jv_getR (pc' := 30) (c := 0) (k := 4) (v := 38) rfl rfl rfl (fun _ _ => rfl) rfl rfl (jR_0_4 _) ?_
        refine jv_getR (pc' := 33) (c := 6) (k := 2) (v := 43) rfl rfl rfl (fun _ _ => rfl) rfl rfl (jR_38_2 _) ?_
        refine jv_iload_n (pc' := 34) (k := 1) (x := (iI ((l : Nat) : Int))) rfl rfl rfl rfl ?_
        refine jv_aaload (pc' := 35) (n := 4) (e := ((l : Nat) : Int)) (v := (53 + 10 * l)) rfl rfl rfl rfl rfl (by omega) (jR43 _ hl) ?_
        refine jv_iload_n (pc' := 36) (k := 2) (x := (iI x)) rfl rfl rfl rfl ?_
        refine jv_iload_n (pc' := 37) (k := 3) (x := (iI y)) rfl rfl rfl rfl ?_
        refine jv_callv (pc' := 40) rfl rfl rfl rfl (GL_A (GL_l hl) j _ _ _) rfl rfl (cl_set_3 (GL_l hl) hF hx (by omega) hix (fun k k' hk hk' he => hv4.2.2 k k' (by omega) (by omega) he) hy) (fun v1 g1 q1 => ?_)
        obtain ⟨I1, rfl, rfl, S1⟩ := q1
        show jx L xs _ 6 40 _ [.int (iI 1)] _ _
        refine jv_if_ne (t := 51) (pc' := 43) (a := 1) rfl rfl rfl (by omega) (fun hz_6 => ?_) (fun hz_6 => ?_)
        · skip
          refine jv_aload_n (pc' := 52) (k := 0) (x := 0) rfl rfl rfl rfl ?_
          refine jv_call (pc' := 55) rfl (cl_forget (I := I1)) (fun vq7 gq7 q7 => ?_)
          obtain ⟨Iq7, rfl, rfl, aq7, bq7, rq7, zq7⟩ := q7
          show jx L xs _ 6 55 _ [] _ _
          refine jv_retV rfl rfl ⟨_, _, rfl, ?_⟩
          first
          | (exfalso; omega)
          | exact ⟨_, rfl, fr_t (fr_w S1.1 (fun q k h => by unfold cW; omega)) (fr_w rq7 (fun l k h => by unfold wG at h; unfold cW; omega)), rfl, CR_fo hR hl S1 rq7 aq7 bq7 zq7 (by omega) (by omega) (fun _ => ⟨hx, hy⟩) (fun k hk _ => by omega) (fun k hk hne hic he => absurd (hv4.2.2 k i (by omega) (by omega) (he.trans hix.symm)) hne)⟩
        · skip
          exact absurd hz_6 (by decide)
      · skip
        exfalso; omega
theorem op_follow_c4 (hR : CR I M p A) (hl : l < 4) (hx : 0 ≤ x ∧ x < 2147483648) (hm : A 110 l = ((m : Nat) : Int)) (hNF : ∀ k : Nat, (k : Int) < A 110 l → A 111 (8 * l + k) ≠ x) (hc : m < 8) (hy : 0 ≤ y ∧ y < 4) : jc L xs (d + 3) 6 [.ref 0, .int (iI ((l : Nat) : Int)), .int (iI x), .int (iI y)] (jx_G j I M p) (fun v g1 => ∃ I', g1 = jx_G j I' M p ∧ fr cW I I' ∧ v = none ∧ CR I' M p (aFo A l ((m + 1 : Nat) : Int) m x y)) := by
  unfold jc
  have hv4 := hR.1.2.2.2.1 l hl
  have hF := hR.2.2.2.1 l hl
  have ec : afc A l = m := by unfold afc; omega
  rw [ec] at hF
  refine jv_iload_n (pc' := 1) (k := 1) (x := (iI ((l : Nat) : Int))) rfl rfl rfl rfl ?_
  refine jv_call (pc' := 4) rfl (cl_isLayer (by omega)) (fun vq1 gq1 q1 => ?_)
  obtain ⟨rfl, rfl⟩ := q1
  show jx L xs _ 6 4 _ [.int (jb (0 ≤ ((l : Nat) : Int) ∧ ((l : Nat) : Int) < 4))] _ _
  refine jv_jb_eq (t := 18) (pc' := 7) (P := 0 ≤ ((l : Nat) : Int) ∧ ((l : Nat) : Int) < 4) rfl rfl rfl (fun hz_2 => ?_) (fun hz_2 => ?_)
  · skip
    exfalso; omega
  · skip
    refine jv_iload_n (pc' := 8) (k := 2) (x := (iI x)) rfl rfl rfl rfl ?_
    refine jv_if_lt (t := 18) (pc' := 11) (a := x) rfl rfl rfl (by omega) (fun hz_3 => ?_) (fun hz_3 => ?_)
    · skip
      exfalso; omega
    · skip
      refine jv_iload_n (pc' := 12) (k := 3) (x := (iI y)) rfl rfl rfl rfl ?_
      refine jv_call (pc' := 15) rfl (cl_isLayerOrNone (by omega)) (fun vq4 gq4 q4 => ?_)
      obtain ⟨rfl, rfl⟩ := q4
      show jx L xs _ 6 15 _ [.int (jb (-1 ≤ y ∧ y < 4))] _ _
      refine jv_jb_ne (t := 26) (pc' := 18) (P := -1 ≤ y ∧ y < 4) rfl rfl rfl (fun hz_5 => ?_) (fun hz_5 => ?_)
      · skip
        refine jv_aload_n (pc' := 27) (k := 0) (x := 0) rfl rfl rfl rfl ?_
        refine jv_getR (pc' := 30) (c := 0) (k := 4) (v := 38) rfl rfl rfl (fun _ _ => rfl) rfl rfl (jR_0_4 _) ?_
        refine jv_getR (pc' := 33) (c := 6) (k := 2) (v := 43) rfl rfl rfl (fun _ _ => rfl) rfl rfl (jR_38_2 _) ?_
        refine jv_iload_n (pc' := 34) (k := 1) (x := (iI ((l : Nat) : Int))) rfl rfl rfl rfl ?_
        refine jv_aaload (pc' := 35) (n := 4) (e := ((l : Nat) : Int)) (v := (53 + 10 * l)) rfl rfl rfl rfl rfl (by omega) (jR43 _ hl) ?_
        refine jv_iload_n (pc' := 36) (k := 2) (x := (iI x)) rfl rfl rfl rfl ?_
        refine jv_iload_n (pc' := 37) (k := 3) (x := (iI y)) rfl rfl rfl rfl ?_
        refine jv_callv (pc' := 40) rfl rfl rfl rfl (GL_A (GL_l hl) j _ _ _) rfl rfl (cl_set_4 (GL_l hl) hF hx (fun k hk => hNF k (by omega)) (by omega) hy) (fun v1 g1 q1 => ?_)
        obtain ⟨I1, rfl, rfl, S1⟩ := q1
        show jx L xs _ 6 40 _ [.int (iI 1)] _ _
        refine jv_if_ne (t := 51) (pc' := 43) (a := 1) rfl rfl rfl (by omega) (fun hz_6 => ?_) (fun hz_6 => ?_)
        · skip
          refine jv_aload_n (pc' := 52) (k := 0) (x := 0) rfl rfl rfl rfl ?_
          refine jv_call (pc' := 55) rfl (cl_forget (I := I1)) (fun vq7 gq7 q7 => ?_)
          obtain ⟨Iq7, rfl, rfl, aq7, bq7, rq7, zq7⟩ := q7
          show jx L xs _ 6 55 _ [] _ _
          refine jv_retV rfl rfl ⟨_, _, rfl, ?_⟩
          first
          | (exfalso; omega)
          | exact ⟨_, rfl, fr_t (fr_w S1.1 (fun q k h => by unfold cW; omega)) (fr_w rq7 (fun l k h => by unfold wG at h; unfold cW; omega)), rfl, CR_fo hR hl S1 rq7 aq7 bq7 zq7 (by omega) (by omega) (fun _ => ⟨hx, hy⟩) (fun k hk _ => by omega) (fun k hk hne hic => hNF k (by omega))⟩
        · skip
          exact absurd hz_6 (by decide)
      · skip
        exfalso; omega
theorem op_follow_t2 (hR : CR I M p A) (hl : l < 4) (hx : 0 ≤ x ∧ x < 2147483648) (hm : A 110 l = ((m : Nat) : Int)) (hNF : ∀ k : Nat, (k : Int) < A 110 l → A 111 (8 * l + k) ≠ x) (hc : ¬ m < 8) (hy : 0 ≤ y ∧ y < 4) : jt L xs (d + 3) 6 [.ref 0, .int (iI ((l : Nat) : Int)), .int (iI x), .int (iI y)] (jx_G j I M p) 51 (fun g1 => g1 = jx_G (j + 1) I M p) := by
  unfold jt
  have hv4 := hR.1.2.2.2.1 l hl
  have hF := hR.2.2.2.1 l hl
  have ec : afc A l = m := by unfold afc; omega
  rw [ec] at hF
  refine jv_iload_n (pc' := 1) (k := 1) (x := (iI ((l : Nat) : Int))) rfl rfl rfl rfl ?_
  refine jv_call (pc' := 4) rfl (cl_isLayer (by omega)) (fun vq1 gq1 q1 => ?_)
  obtain ⟨rfl, rfl⟩ := q1
  show jx L xs _ 6 4 _ [.int (jb (0 ≤ ((l : Nat) : Int) ∧ ((l : Nat) : Int) < 4))] _ _
  refine jv_jb_eq (t := 18) (pc' := 7) (P := 0 ≤ ((l : Nat) : Int) ∧ ((l : Nat) : Int) < 4) rfl rfl rfl (fun hz_2 => ?_) (fun hz_2 => ?_)
  · skip
    exfalso; omega
  · skip
    refine jv_iload_n (pc' := 8) (k := 2) (x := (iI x)) rfl rfl rfl rfl ?_
    refine jv_if_lt (t := 18) (pc' := 11) (a := x) rfl rfl rfl (by omega) (fun hz_3 => ?_) (fun hz_3 => ?_)
    · skip
      exfalso; omega
    · skip
      refine jv_iload_n (pc' := 12) (k := 3) (x := (iI y)) rfl rfl rfl rfl ?_
      refine jv_call (pc' := 15) rfl (cl_isLayerOrNone (by omega)) (fun vq4 gq4 q4 => ?_)
      obtain ⟨rfl, rfl⟩ := q4
      show jx L xs _ 6 15 _ [.int (jb (-1 ≤ y ∧ y < 4))] _ _
      refine jv_jb_ne (t := 26) (pc' := 18) (P := -1 ≤ y ∧ y < 4) rfl rfl rfl (fun hz_5 => ?_) (fun hz_5 => ?_)
      · skip
        refine jv_aload_n (pc' := 27) (k := 0) (x := 0) rfl rfl rfl rfl ?_
        refine jv_getR (pc' := 30) (c := 0) (k := 4) (v := 38) rfl rfl rfl (fun _ _ => rfl) rfl rfl (jR_0_4 _) ?_
        refine jv_getR (pc' := 33) (c := 6) (k := 2) (v := 43) rfl rfl rfl (fun _ _ => rfl) rfl rfl (jR_38_2 _) ?_
        refine jv_iload_n (pc' := 34) (k := 1) (x := (iI ((l : Nat) : Int))) rfl rfl rfl rfl ?_
        refine jv_aaload (pc' := 35) (n := 4) (e := ((l : Nat) : Int)) (v := (53 + 10 * l)) rfl rfl rfl rfl rfl (by omega) (jR43 _ hl) ?_
        refine jv_iload_n (pc' := 36) (k := 2) (x := (iI x)) rfl rfl rfl rfl ?_
        refine jv_iload_n (pc' := 37) (k := 3) (x := (iI y)) rfl rfl rfl rfl ?_
        refine jv_callv (pc' := 40) rfl rfl rfl rfl (GL_A (GL_l hl) j _ _ _) rfl rfl (cl_set_5 (GL_l hl) hF hx (fun k hk => hNF k (by omega)) (by omega) hy) (fun v1 g1 q1 => ?_)
        obtain ⟨rfl, rfl⟩ := q1
        show jx L xs _ 6 40 _ [.int (iI 0)] _ _
        refine jv_if_ne (t := 51) (pc' := 43) (a := 0) rfl rfl rfl (by omega) (fun hz_6 => ?_) (fun hz_6 => ?_)
        · skip
          exact absurd hz_6 (by decide)
        · skip
          refine jx_ret0 rfl ⟨_, rfl, ?_⟩
          first
          | (exfalso; omega)
          | rfl
      · skip
        exfalso; omega
theorem op_follow_b1 (hM : CM I M A) (hz : iR z) (hx : iR x) (hy : iR y) (hbad : ¬ ((0 ≤ z ∧ z < 4) ∧ 0 ≤ x ∧ (-1 ≤ y ∧ y < 4))) : jc L xs (d + 1) 130 [.ref 103, .int (iI z), .int (iI x), .int (iI y)] (jx_G j I M p) (fun v g1 => ∃ I', g1 = jx_G j I' M p ∧ fr mW I I' ∧ CM I' M A ∧ I' 103 0 = iI 1) := by
  unfold jc
  refine jv_aload_n (pc' := 1) (k := 0) (x := 103) rfl rfl rfl rfl ?_
  refine jv_iload_n (pc' := 2) (k := 1) (x := (iI z)) rfl rfl rfl rfl ?_
  refine jv_call (pc' := 5) rfl (ml_noLayer (by omega)) (fun vq1 gq1 q1 => ?_)
  obtain ⟨rfl, rfl⟩ := q1
  show jx L xs _ 130 5 _ [.int (jb (z < 0 ∨ 3 < z)), .ref 103] _ _
  refine jv_jb_ne (t := 22) (pc' := 8) (P := z < 0 ∨ 3 < z) rfl rfl rfl (fun hz_2 => ?_) (fun hz_2 => ?_)
  · skip
    refine jv_iconst (pc' := 23) (n := 1) rfl rfl ?_
    refine jx_step (pc' := 27) rfl ?_
    refine jv_putI (pc' := 30) (c := 12) (k := 0) rfl rfl rfl rfl (fun _ _ _  => rfl) rfl rfl ?_
    refine jv_aload_n (pc' := 31) (k := 0) (x := 103) rfl rfl rfl rfl ?_
    refine jv_getI (pc' := 34) (c := 12) (k := 0) (v := (iI 1)) rfl rfl rfl (fun _ _ => rfl) rfl rfl rfl ?_
    refine jv_if_le (t := 38) (pc' := 37) (a := 1) rfl rfl rfl (by omega) (fun hz_3 => ?_) (fun hz_3 => ?_)
    · skip
      exact absurd hz_3 (by decide)
    · skip
      refine jv_retV rfl rfl ⟨_, _, rfl, ?_⟩
      first
      | (exfalso; omega)
      | exact ⟨_, rfl, (fr_u (by simp [mW]) (fr_r _)), CM_n hM (by simp [pers]), rfl⟩
  · skip
    refine jv_iload_n (pc' := 9) (k := 2) (x := (iI x)) rfl rfl rfl rfl ?_
    refine jv_if_lt (t := 22) (pc' := 12) (a := x) rfl rfl rfl (by omega) (fun hz_4 => ?_) (fun hz_4 => ?_)
    · skip
      refine jv_iconst (pc' := 23) (n := 1) rfl rfl ?_
      refine jx_step (pc' := 27) rfl ?_
      refine jv_putI (pc' := 30) (c := 12) (k := 0) rfl rfl rfl rfl (fun _ _ _  => rfl) rfl rfl ?_
      refine jv_aload_n (pc' := 31) (k := 0) (x := 103) rfl rfl rfl rfl ?_
      refine jv_getI (pc' := 34) (c := 12) (k := 0) (v := (iI 1)) rfl rfl rfl (fun _ _ => rfl) rfl rfl rfl ?_
      refine jv_if_le (t := 38) (pc' := 37) (a := 1) rfl rfl rfl (by omega) (fun hz_5 => ?_) (fun hz_5 => ?_)
      · skip
        exact absurd hz_5 (by decide)
      · skip
        refine jv_retV rfl rfl ⟨_, _, rfl, ?_⟩
        first
        | (exfalso; omega)
        | exact ⟨_, rfl, (fr_u (by simp [mW]) (fr_r _)), CM_n hM (by simp [pers]), rfl⟩
    · skip
      refine jv_iload_n (pc' := 13) (k := 3) (x := (iI y)) rfl rfl rfl rfl ?_
      refine jv_iconst (pc' := 14) (n := -1) rfl rfl ?_
      refine jv_ic_lt (t := 22) (pc' := 17) (a := y) (b := (-1)) rfl rfl rfl (by omega) (fun hz_6 => ?_) (fun hz_6 => ?_)
      · skip
        refine jv_iconst (pc' := 23) (n := 1) rfl rfl ?_
        refine jx_step (pc' := 27) rfl ?_
        refine jv_putI (pc' := 30) (c := 12) (k := 0) rfl rfl rfl rfl (fun _ _ _  => rfl) rfl rfl ?_
        refine jv_aload_n (pc' := 31) (k := 0) (x := 103) rfl rfl rfl rfl ?_
        refine jv_getI (pc' := 34) (c := 12) (k := 0) (v := (iI 1)) rfl rfl rfl (fun _ _ => rfl) rfl rfl rfl ?_
        refine jv_if_le (t := 38) (pc' := 37) (a := 1) rfl rfl rfl (by omega) (fun hz_7 => ?_) (fun hz_7 => ?_)
        · skip
          exact absurd hz_7 (by decide)
        · skip
          refine jv_retV rfl rfl ⟨_, _, rfl, ?_⟩
          first
          | (exfalso; omega)
          | exact ⟨_, rfl, (fr_u (by simp [mW]) (fr_r _)), CM_n hM (by simp [pers]), rfl⟩
      · skip
        refine jv_iload_n (pc' := 18) (k := 3) (x := (iI y)) rfl rfl rfl rfl ?_
        refine jv_iconst (pc' := 19) (n := 3) rfl rfl ?_
        refine jv_ic_le (t := 26) (pc' := 22) (a := y) (b := 3) rfl rfl rfl (by omega) (fun hz_8 => ?_) (fun hz_8 => ?_)
        · skip
          exfalso; omega
        · skip
          refine jv_iconst (pc' := 23) (n := 1) rfl rfl ?_
          refine jx_step (pc' := 27) rfl ?_
          refine jv_putI (pc' := 30) (c := 12) (k := 0) rfl rfl rfl rfl (fun _ _ _  => rfl) rfl rfl ?_
          refine jv_aload_n (pc' := 31) (k := 0) (x := 103) rfl rfl rfl rfl ?_
          refine jv_getI (pc' := 34) (c := 12) (k := 0) (v := (iI 1)) rfl rfl rfl (fun _ _ => rfl) rfl rfl rfl ?_
          refine jv_if_le (t := 38) (pc' := 37) (a := 1) rfl rfl rfl (by omega) (fun hz_9 => ?_) (fun hz_9 => ?_)
          · skip
            exact absurd hz_9 (by decide)
          · skip
            refine jv_retV rfl rfl ⟨_, _, rfl, ?_⟩
            first
            | (exfalso; omega)
            | exact ⟨_, rfl, (fr_u (by simp [mW]) (fr_r _)), CM_n hM (by simp [pers]), rfl⟩
set_option maxRecDepth 100000 in
theorem op_follow_m1 (hM : CM I M A) (hA : AV4 A) (hl : l < 4) (hx : 0 ≤ x ∧ x < 2147483648) (hNF : ∀ k : Nat, (k : Int) < A 110 l → A 111 (8 * l + k) ≠ x) : jc L xs (d + 1) 130 [.ref 103, .int (iI ((l : Nat) : Int)), .int (iI x), .int (iI (-1))] (jx_G j I M p) (fun v g1 => ∃ I', g1 = jx_G j I' M p ∧ fr mW I I' ∧ CM I' M (jm_u A 103 44 0) ∧ I' 103 0 = iI 0) := by
  unfold jc
  have hv4 := hA l hl
  have ec : ((afc A l : Nat) : Int) = A 110 l := by unfold afc; omega
  refine jv_aload_n (pc' := 1) (k := 0) (x := 103) rfl rfl rfl rfl ?_
  refine jv_iload_n (pc' := 2) (k := 1) (x := (iI ((l : Nat) : Int))) rfl rfl rfl rfl ?_
  refine jv_call (pc' := 5) rfl (ml_noLayer (by omega)) (fun vq1 gq1 q1 => ?_)
  obtain ⟨rfl, rfl⟩ := q1
  show jx L xs _ 130 5 _ [.int (jb (((l : Nat) : Int) < 0 ∨ 3 < ((l : Nat) : Int))), .ref 103] _ _
  refine jv_jb_ne (t := 22) (pc' := 8) (P := ((l : Nat) : Int) < 0 ∨ 3 < ((l : Nat) : Int)) rfl rfl rfl (fun hz_2 => ?_) (fun hz_2 => ?_)
  · skip
    exfalso; omega
  · skip
    refine jv_iload_n (pc' := 9) (k := 2) (x := (iI x)) rfl rfl rfl rfl ?_
    refine jv_if_lt (t := 22) (pc' := 12) (a := x) rfl rfl rfl (by omega) (fun hz_3 => ?_) (fun hz_3 => ?_)
    · skip
      exfalso; omega
    · skip
      refine jv_iload_n (pc' := 13) (k := 3) (x := (iI (-1))) rfl rfl rfl rfl ?_
      refine jv_iconst (pc' := 14) (n := -1) rfl rfl ?_
      refine jv_ic_lt (t := 22) (pc' := 17) (a := (-1)) (b := (-1)) rfl rfl rfl (by omega) (fun hz_4 => ?_) (fun hz_4 => ?_)
      · skip
        exact absurd hz_4 (by decide)
      · skip
        refine jv_iload_n (pc' := 18) (k := 3) (x := (iI (-1))) rfl rfl rfl rfl ?_
        refine jv_iconst (pc' := 19) (n := 3) rfl rfl ?_
        refine jv_ic_le (t := 26) (pc' := 22) (a := (-1)) (b := 3) rfl rfl rfl (by omega) (fun hz_5 => ?_) (fun hz_5 => ?_)
        · skip
          refine jv_iconst (pc' := 27) (n := 0) rfl rfl ?_
          refine jv_putI (pc' := 30) (c := 12) (k := 0) rfl rfl rfl rfl (fun _ _ _  => rfl) rfl rfl ?_
          refine jv_aload_n (pc' := 31) (k := 0) (x := 103) rfl rfl rfl rfl ?_
          refine jv_getI (pc' := 34) (c := 12) (k := 0) (v := (iI 0)) rfl rfl rfl (fun _ _ => rfl) rfl rfl rfl ?_
          refine jv_if_le (t := 38) (pc' := 37) (a := 0) rfl rfl rfl (by omega) (fun hz_6 => ?_) (fun hz_6 => ?_)
          · skip
            refine jv_aload_n (pc' := 39) (k := 0) (x := 103) rfl rfl rfl rfl ?_
            refine jv_iload_n (pc' := 40) (k := 1) (x := (iI ((l : Nat) : Int))) rfl rfl rfl rfl ?_
            refine jv_iload_n (pc' := 41) (k := 2) (x := (iI x)) rfl rfl rfl rfl ?_
            refine jv_i2l (pc' := 42) (a := x) rfl rfl (by omega) ?_
            refine jv_call (pc' := 45) rfl (ml_followed (I := jm_u I 103 0 (iI 0)) (fc := afc A) (fva := afv A) (fnx := afn A) hl (MFW_of (CM_n hM (l := 103) (k := 0) (v := iI 0) (by simp [pers])) hA) (by omega)) (fun v1 g1 q1 => ?_)
            obtain ⟨r, rfl, rfl, q1⟩ := q1
            obtain rfl : r = -1 := by
              rcases q1 with ⟨k, rfl, hk, hv⟩ | ⟨h, _⟩
              · exact absurd hv (hNF k (by omega))
              · exact h
            show jx L xs _ 130 45 _ [.int (iI (-1))] _ _
            refine jv_istore (pc' := 47) (k := 4) (x := (iI (-1))) rfl rfl rfl (Or.inr rfl) ?_
            refine jv_iload (pc' := 49) (k := 4) (x := (iI (-1))) rfl rfl rfl ?_
            refine jv_if_ge (t := 91) (pc' := 52) (a := (-1)) rfl rfl rfl (by omega) (fun hz_7 => ?_) (fun hz_7 => ?_)
            · skip
              exact absurd hz_7 (by decide)
            · skip
              refine jv_iload_n (pc' := 53) (k := 3) (x := (iI (-1))) rfl rfl rfl rfl ?_
              refine jv_if_lt (t := 91) (pc' := 56) (a := (-1)) rfl rfl rfl (by omega) (fun hz_8 => ?_) (fun hz_8 => ?_)
              · skip
                refine jv_aload_n (pc' := 92) (k := 0) (x := 103) rfl rfl rfl rfl ?_
                refine jv_call (pc' := 95) rfl (ml_changed (I := jm_u I 103 0 (iI 0))) (fun vq9 gq9 q9 => ?_)
                obtain ⟨rfl, rfl⟩ := q9
                show jx L xs _ 130 95 _ [] _ _
                refine jv_iload_n (pc' := 96) (k := 3) (x := (iI (-1))) rfl rfl rfl rfl ?_
                refine jv_if_lt (t := 128) (pc' := 99) (a := (-1)) rfl rfl rfl (by omega) (fun hz_10 => ?_) (fun hz_10 => ?_)
                · skip
                  refine jv_iload (pc' := 130) (k := 4) (x := (iI (-1))) rfl rfl rfl ?_
                  refine jv_if_lt (t := 199) (pc' := 133) (a := (-1)) rfl rfl rfl (by omega) (fun hz_11 => ?_) (fun hz_11 => ?_)
                  · skip
                    refine jv_retV rfl rfl ⟨_, _, rfl, ?_⟩
                    first
                    | (exfalso; omega)
                    | exact ⟨_, rfl, (fr_u (by simp [mW]) (fr_u (by simp [mW]) (fr_r _))), (CM_u (CM_n hM (l := 103) (k := 0) (v := iI 0) (by simp [pers])) (l := 103) (k := 44) (z := 0) (by omega)), rfl⟩
                  · skip
                    exact absurd hz_11 (by decide)
                · skip
                  exact absurd hz_10 (by decide)
              · skip
                exact absurd hz_8 (by decide)
          · skip
            exact absurd hz_6 (by decide)
        · skip
          exact absurd hz_5 (by decide)
set_option maxRecDepth 100000 in
theorem op_follow_m2 (hM : CM I M A) (hA : AV4 A) (hl : l < 4) (hx : 0 ≤ x ∧ x < 2147483648) (hm : A 110 l = ((m + 1 : Nat) : Int)) (hi : (i : Int) < A 110 l) (hix : A 111 (8 * l + i) = x) : jc L xs (d + 1) 130 [.ref 103, .int (iI ((l : Nat) : Int)), .int (iI x), .int (iI (-1))] (jx_G j I M p) (fun v g1 => ∃ I', g1 = jx_G j I' M p ∧ fr mW I I' ∧ CM I' M (aFo A l ((m : Nat) : Int) i (A 111 (8 * l + m)) (A 112 (8 * l + m))) ∧ I' 103 0 = iI 0) := by
  unfold jc
  have hv4 := hA l hl
  have ec : ((afc A l : Nat) : Int) = A 110 l := by unfold afc; omega
  refine jv_aload_n (pc' := 1) (k := 0) (x := 103) rfl rfl rfl rfl ?_
  refine jv_iload_n (pc' := 2) (k := 1) (x := (iI ((l : Nat) : Int))) rfl rfl rfl rfl ?_
  refine jv_call (pc' := 5) rfl (ml_noLayer (by omega)) (fun vq1 gq1 q1 => ?_)
  obtain ⟨rfl, rfl⟩ := q1
  show jx L xs _ 130 5 _ [.int (jb (((l : Nat) : Int) < 0 ∨ 3 < ((l : Nat) : Int))), .ref 103] _ _
  refine jv_jb_ne (t := 22) (pc' := 8) (P := ((l : Nat) : Int) < 0 ∨ 3 < ((l : Nat) : Int)) rfl rfl rfl (fun hz_2 => ?_) (fun hz_2 => ?_)
  · skip
    exfalso; omega
  · skip
    refine jv_iload_n (pc' := 9) (k := 2) (x := (iI x)) rfl rfl rfl rfl ?_
    refine jv_if_lt (t := 22) (pc' := 12) (a := x) rfl rfl rfl (by omega) (fun hz_3 => ?_) (fun hz_3 => ?_)
    · skip
      exfalso; omega
    · skip
      refine jv_iload_n (pc' := 13) (k := 3) (x := (iI (-1))) rfl rfl rfl rfl ?_
      refine jv_iconst (pc' := 14) (n := -1) rfl rfl ?_
      refine jv_ic_lt (t := 22) (pc' := 17) (a := (-1)) (b := (-1)) rfl rfl rfl (by omega) (fun hz_4 => ?_) (fun hz_4 => ?_)
      · skip
        exact absurd hz_4 (by decide)
      · skip
        refine jv_iload_n (pc' := 18) (k := 3) (x := (iI (-1))) rfl rfl rfl rfl ?_
        refine jv_iconst (pc' := 19) (n := 3) rfl rfl ?_
        refine jv_ic_le (t := 26) (pc' := 22) (a := (-1)) (b := 3) rfl rfl rfl (by omega) (fun hz_5 => ?_) (fun hz_5 => ?_)
        · skip
          refine jv_iconst (pc' := 27) (n := 0) rfl rfl ?_
          refine jv_putI (pc' := 30) (c := 12) (k := 0) rfl rfl rfl rfl (fun _ _ _  => rfl) rfl rfl ?_
          refine jv_aload_n (pc' := 31) (k := 0) (x := 103) rfl rfl rfl rfl ?_
          refine jv_getI (pc' := 34) (c := 12) (k := 0) (v := (iI 0)) rfl rfl rfl (fun _ _ => rfl) rfl rfl rfl ?_
          refine jv_if_le (t := 38) (pc' := 37) (a := 0) rfl rfl rfl (by omega) (fun hz_6 => ?_) (fun hz_6 => ?_)
          · skip
            refine jv_aload_n (pc' := 39) (k := 0) (x := 103) rfl rfl rfl rfl ?_
            refine jv_iload_n (pc' := 40) (k := 1) (x := (iI ((l : Nat) : Int))) rfl rfl rfl rfl ?_
            refine jv_iload_n (pc' := 41) (k := 2) (x := (iI x)) rfl rfl rfl rfl ?_
            refine jv_i2l (pc' := 42) (a := x) rfl rfl (by omega) ?_
            refine jv_call (pc' := 45) rfl (ml_followed (I := jm_u I 103 0 (iI 0)) (fc := afc A) (fva := afv A) (fnx := afn A) hl (MFW_of (CM_n hM (l := 103) (k := 0) (v := iI 0) (by simp [pers])) hA) (by omega)) (fun v1 g1 q1 => ?_)
            obtain ⟨r, rfl, rfl, q1⟩ := q1
            obtain rfl : r = (i : Int) := by
              rcases q1 with ⟨k, rfl, hk, hv⟩ | ⟨_, hn⟩
              · exact congrArg _ (hv4.2.2 k i (by omega) hi (hv.trans hix.symm))
              · exact absurd hix (hn i (by omega))
            show jx L xs _ 130 45 _ [.int (iI ((i : Nat) : Int))] _ _
            refine jv_istore (pc' := 47) (k := 4) (x := (iI ((i : Nat) : Int))) rfl rfl rfl (Or.inr rfl) ?_
            refine jv_iload (pc' := 49) (k := 4) (x := (iI ((i : Nat) : Int))) rfl rfl rfl ?_
            refine jv_if_ge (t := 91) (pc' := 52) (a := ((i : Nat) : Int)) rfl rfl rfl (by omega) (fun hz_7 => ?_) (fun hz_7 => ?_)
            · skip
              refine jv_aload_n (pc' := 92) (k := 0) (x := 103) rfl rfl rfl rfl ?_
              refine jv_call (pc' := 95) rfl (ml_changed (I := jm_u I 103 0 (iI 0))) (fun vq8 gq8 q8 => ?_)
              obtain ⟨rfl, rfl⟩ := q8
              show jx L xs _ 130 95 _ [] _ _
              refine jv_iload_n (pc' := 96) (k := 3) (x := (iI (-1))) rfl rfl rfl rfl ?_
              refine jv_if_lt (t := 128) (pc' := 99) (a := (-1)) rfl rfl rfl (by omega) (fun hz_9 => ?_) (fun hz_9 => ?_)
              · skip
                refine jv_iload (pc' := 130) (k := 4) (x := (iI ((i : Nat) : Int))) rfl rfl rfl ?_
                refine jv_if_lt (t := 199) (pc' := 133) (a := ((i : Nat) : Int)) rfl rfl rfl (by omega) (fun hz_10 => ?_) (fun hz_10 => ?_)
                · skip
                  refine jv_retV rfl rfl ⟨_, _, rfl, ?_⟩
                  first
                  | (exfalso; omega)
                  | exact ⟨_, rfl, (fr_u (by simp [mW]) (fr_u (by simp [mW]) (fr_r _))), CM_ui (CM_u (CM_n hM (l := 103) (k := 0) (v := iI 0) (by simp [pers])) (l := 103) (k := 44) (z := 0) (by omega)) (l := 112) (k := 8 * l + i) (by omega) (by omega), rfl⟩
                · skip
                  refine jv_aload_n (pc' := 134) (k := 0) (x := 103) rfl rfl rfl rfl ?_
                  refine jv_getR (pc' := 137) (c := 12) (k := 8) (v := 110) rfl rfl rfl (fun _ _ => rfl) rfl rfl (jR_103_8 _) ?_
                  refine jv_iload_n (pc' := 138) (k := 1) (x := (iI ((l : Nat) : Int))) rfl rfl rfl rfl ?_
                  refine jx_step (pc' := 139) rfl ?_
                  refine jv_iaload (pc' := 140) (n := 4) (e := ((l : Nat) : Int)) (v := (iI (A 110 l))) rfl rfl (by decide) rfl rfl rfl (by omega) ((CM_r (CM_u (CM_n hM (l := 103) (k := 0) (v := iI 0) (by simp [pers])) (l := 103) (k := 44) (z := 0) (by omega)) (l := 110) (k := l) (by simp [pers]) (by omega)).trans rfl) ?_
                  refine jv_iconst (pc' := 141) (n := 1) rfl rfl ?_
                  refine jv_isub (pc' := 142) (a := (A 110 l)) (b := 1) rfl rfl ?_
                  rw [show (A 110 l) - 1 = ((m : Nat) : Int) by omega]
                  refine jv_iastore (pc' := 143) (n := 4) (e := ((l : Nat) : Int)) (v := (iI ((m : Nat) : Int))) rfl rfl rfl rfl rfl (by omega) ?_
                  refine jv_aload_n (pc' := 144) (k := 0) (x := 103) rfl rfl rfl rfl ?_
                  refine jv_getR (pc' := 147) (c := 12) (k := 9) (v := 111) rfl rfl rfl (fun _ _ => rfl) rfl rfl (jR_103_9 _) ?_
                  refine jv_bipush (pc' := 149) (n := 8) rfl rfl rfl ?_
                  refine jv_iload_n (pc' := 150) (k := 1) (x := (iI ((l : Nat) : Int))) rfl rfl rfl rfl ?_
                  refine jv_imul (pc' := 151) (a := 8) (b := ((l : Nat) : Int)) rfl rfl ?_
                  refine jv_iload (pc' := 153) (k := 4) (x := (iI ((i : Nat) : Int))) rfl rfl rfl ?_
                  refine jv_iadd (pc' := 154) (a := (8 * ((l : Nat) : Int))) (b := ((i : Nat) : Int)) rfl rfl ?_
                  refine jv_aload_n (pc' := 155) (k := 0) (x := 103) rfl rfl rfl rfl ?_
                  refine jv_getR (pc' := 158) (c := 12) (k := 9) (v := 111) rfl rfl rfl (fun _ _ => rfl) rfl rfl (jR_103_9 _) ?_
                  refine jv_bipush (pc' := 160) (n := 8) rfl rfl rfl ?_
                  refine jv_iload_n (pc' := 161) (k := 1) (x := (iI ((l : Nat) : Int))) rfl rfl rfl rfl ?_
                  refine jv_imul (pc' := 162) (a := 8) (b := ((l : Nat) : Int)) rfl rfl ?_
                  refine jv_aload_n (pc' := 163) (k := 0) (x := 103) rfl rfl rfl rfl ?_
                  refine jv_getR (pc' := 166) (c := 12) (k := 8) (v := 110) rfl rfl rfl (fun _ _ => rfl) rfl rfl (jR_103_8 _) ?_
                  refine jv_iload_n (pc' := 167) (k := 1) (x := (iI ((l : Nat) : Int))) rfl rfl rfl rfl ?_
                  refine jv_iaload (pc' := 168) (n := 4) (e := ((l : Nat) : Int)) (v := (iI ((m : Nat) : Int))) rfl rfl (by decide) rfl rfl rfl (by omega) ((CM_r (CM_ui (CM_u (CM_n hM (l := 103) (k := 0) (v := iI 0) (by simp [pers])) (l := 103) (k := 44) (z := 0) (by omega)) (l := 110) (k := l) (z := ((m : Nat) : Int)) (by omega) (by omega)) (l := 110) (k := l) (by simp [pers]) (by omega)).trans (congrArg iI (jm_u_eq ⟨rfl, rfl⟩))) ?_
                  refine jv_iadd (pc' := 169) (a := (8 * ((l : Nat) : Int))) (b := ((m : Nat) : Int)) rfl rfl ?_
                  refine jv_iaload (pc' := 170) (n := 32) (e := ((8 * ((l : Nat) : Int)) + ((m : Nat) : Int))) (v := (iI (A 111 (8 * l + m)))) rfl rfl (by decide) rfl rfl rfl (by omega) ((CM_r (CM_ui (CM_u (CM_n hM (l := 103) (k := 0) (v := iI 0) (by simp [pers])) (l := 103) (k := 44) (z := 0) (by omega)) (l := 110) (k := l) (z := ((m : Nat) : Int)) (by omega) (by omega)) (l := 111) (k := 8 * l + m) (by simp [pers]) (by omega)).trans rfl) ?_
                  refine jv_iastore (pc' := 171) (n := 32) (e := ((8 * ((l : Nat) : Int)) + ((i : Nat) : Int))) (v := (iI (A 111 (8 * l + m)))) rfl rfl rfl rfl rfl (by omega) ?_
                  refine jv_aload_n (pc' := 172) (k := 0) (x := 103) rfl rfl rfl rfl ?_
                  refine jv_getR (pc' := 175) (c := 12) (k := 10) (v := 112) rfl rfl rfl (fun _ _ => rfl) rfl rfl (jR_103_10 _) ?_
                  refine jv_bipush (pc' := 177) (n := 8) rfl rfl rfl ?_
                  refine jv_iload_n (pc' := 178) (k := 1) (x := (iI ((l : Nat) : Int))) rfl rfl rfl rfl ?_
                  refine jv_imul (pc' := 179) (a := 8) (b := ((l : Nat) : Int)) rfl rfl ?_
                  refine jv_iload (pc' := 181) (k := 4) (x := (iI ((i : Nat) : Int))) rfl rfl rfl ?_
                  refine jv_iadd (pc' := 182) (a := (8 * ((l : Nat) : Int))) (b := ((i : Nat) : Int)) rfl rfl ?_
                  refine jv_aload_n (pc' := 183) (k := 0) (x := 103) rfl rfl rfl rfl ?_
                  refine jv_getR (pc' := 186) (c := 12) (k := 10) (v := 112) rfl rfl rfl (fun _ _ => rfl) rfl rfl (jR_103_10 _) ?_
                  refine jv_bipush (pc' := 188) (n := 8) rfl rfl rfl ?_
                  refine jv_iload_n (pc' := 189) (k := 1) (x := (iI ((l : Nat) : Int))) rfl rfl rfl rfl ?_
                  refine jv_imul (pc' := 190) (a := 8) (b := ((l : Nat) : Int)) rfl rfl ?_
                  refine jv_aload_n (pc' := 191) (k := 0) (x := 103) rfl rfl rfl rfl ?_
                  refine jv_getR (pc' := 194) (c := 12) (k := 8) (v := 110) rfl rfl rfl (fun _ _ => rfl) rfl rfl (jR_103_8 _) ?_
                  refine jv_iload_n (pc' := 195) (k := 1) (x := (iI ((l : Nat) : Int))) rfl rfl rfl rfl ?_
                  refine jv_iaload (pc' := 196) (n := 4) (e := ((l : Nat) : Int)) (v := (iI ((m : Nat) : Int))) rfl rfl (by decide) rfl rfl rfl (by omega) ((CM_r (CM_ui (CM_ui (CM_u (CM_n hM (l := 103) (k := 0) (v := iI 0) (by simp [pers])) (l := 103) (k := 44) (z := 0) (by omega)) (l := 110) (k := l) (z := ((m : Nat) : Int)) (by omega) (by omega)) (l := 111) (k := 8 * l + i) (z := A 111 (8 * l + m)) (by omega) (by omega)) (l := 110) (k := l) (by simp [pers]) (by omega)).trans (congrArg iI ((jm_u_n2 (by omega)).trans (jm_u_eq ⟨rfl, rfl⟩)))) ?_
                  refine jv_iadd (pc' := 197) (a := (8 * ((l : Nat) : Int))) (b := ((m : Nat) : Int)) rfl rfl ?_
                  refine jv_iaload (pc' := 198) (n := 32) (e := ((8 * ((l : Nat) : Int)) + ((m : Nat) : Int))) (v := (iI (A 112 (8 * l + m)))) rfl rfl (by decide) rfl rfl rfl (by omega) ((CM_r (CM_ui (CM_ui (CM_u (CM_n hM (l := 103) (k := 0) (v := iI 0) (by simp [pers])) (l := 103) (k := 44) (z := 0) (by omega)) (l := 110) (k := l) (z := ((m : Nat) : Int)) (by omega) (by omega)) (l := 111) (k := 8 * l + i) (z := A 111 (8 * l + m)) (by omega) (by omega)) (l := 112) (k := 8 * l + m) (by simp [pers]) (by omega)).trans rfl) ?_
                  refine jv_iastore (pc' := 199) (n := 32) (e := ((8 * ((l : Nat) : Int)) + ((i : Nat) : Int))) (v := (iI (A 112 (8 * l + m)))) rfl rfl rfl rfl rfl (by omega) ?_
                  refine jv_retV rfl rfl ⟨_, _, rfl, ?_⟩
                  first
                  | (exfalso; omega)
                  | exact ⟨_, rfl, (fr_u (by simp [mW]) (fr_u (by simp [mW]) (fr_u (by simp [mW]) (fr_u (by simp [mW]) (fr_u (by simp [mW]) (fr_r _)))))), CM_ui (CM_ui (CM_ui (CM_u (CM_n hM (l := 103) (k := 0) (v := iI 0) (by simp [pers])) (l := 103) (k := 44) (z := 0) (by omega)) (l := 110) (k := l) (z := ((m : Nat) : Int)) (by omega) (by omega)) (l := 111) (k := 8 * l + i) (z := A 111 (8 * l + m)) (by omega) (by omega)) (l := 112) (k := 8 * l + i) (by omega) (by omega), rfl⟩
              · skip
                exact absurd hz_9 (by decide)
            · skip
              exfalso; omega
          · skip
            exact absurd hz_6 (by decide)
        · skip
          exact absurd hz_5 (by decide)
set_option maxRecDepth 100000 in
theorem op_follow_m3 (hM : CM I M A) (hA : AV4 A) (hl : l < 4) (hx : 0 ≤ x ∧ x < 2147483648) (hm : A 110 l = ((m : Nat) : Int)) (hi : (i : Int) < A 110 l) (hix : A 111 (8 * l + i) = x) (hy : 0 ≤ y ∧ y < 4) : jc L xs (d + 1) 130 [.ref 103, .int (iI ((l : Nat) : Int)), .int (iI x), .int (iI y)] (jx_G j I M p) (fun v g1 => ∃ I', g1 = jx_G j I' M p ∧ fr mW I I' ∧ CM I' M (aFo A l ((m : Nat) : Int) i x y) ∧ I' 103 0 = iI 0) := by
  unfold jc
  have hv4 := hA l hl
  have ec : ((afc A l : Nat) : Int) = A 110 l := by unfold afc; omega
  refine jv_aload_n (pc' := 1) (k := 0) (x := 103) rfl rfl rfl rfl ?_
  refine jv_iload_n (pc' := 2) (k := 1) (x := (iI ((l : Nat) : Int))) rfl rfl rfl rfl ?_
  refine jv_call (pc' := 5) rfl (ml_noLayer (by omega)) (fun vq1 gq1 q1 => ?_)
  obtain ⟨rfl, rfl⟩ := q1
  show jx L xs _ 130 5 _ [.int (jb (((l : Nat) : Int) < 0 ∨ 3 < ((l : Nat) : Int))), .ref 103] _ _
  refine jv_jb_ne (t := 22) (pc' := 8) (P := ((l : Nat) : Int) < 0 ∨ 3 < ((l : Nat) : Int)) rfl rfl rfl (fun hz_2 => ?_) (fun hz_2 => ?_)
  · skip
    exfalso; omega
  · skip
    refine jv_iload_n (pc' := 9) (k := 2) (x := (iI x)) rfl rfl rfl rfl ?_
    refine jv_if_lt (t := 22) (pc' := 12) (a := x) rfl rfl rfl (by omega) (fun hz_3 => ?_) (fun hz_3 => ?_)
    · skip
      exfalso; omega
    · skip
      refine jv_iload_n (pc' := 13) (k := 3) (x := (iI y)) rfl rfl rfl rfl ?_
      refine jv_iconst (pc' := 14) (n := -1) rfl rfl ?_
      refine jv_ic_lt (t := 22) (pc' := 17) (a := y) (b := (-1)) rfl rfl rfl (by omega) (fun hz_4 => ?_) (fun hz_4 => ?_)
      · skip
        exfalso; omega
      · skip
        refine jv_iload_n (pc' := 18) (k := 3) (x := (iI y)) rfl rfl rfl rfl ?_
        refine jv_iconst (pc' := 19) (n := 3) rfl rfl ?_
        refine jv_ic_le (t := 26) (pc' := 22) (a := y) (b := 3) rfl rfl rfl (by omega) (fun hz_5 => ?_) (fun hz_5 => ?_)
        · skip
          refine jv_iconst (pc' := 27) (n := 0) rfl rfl ?_
          refine jv_putI (pc' := 30) (c := 12) (k := 0) rfl rfl rfl rfl (fun _ _ _  => rfl) rfl rfl ?_
          refine jv_aload_n (pc' := 31) (k := 0) (x := 103) rfl rfl rfl rfl ?_
          refine jv_getI (pc' := 34) (c := 12) (k := 0) (v := (iI 0)) rfl rfl rfl (fun _ _ => rfl) rfl rfl rfl ?_
          refine jv_if_le (t := 38) (pc' := 37) (a := 0) rfl rfl rfl (by omega) (fun hz_6 => ?_) (fun hz_6 => ?_)
          · skip
            refine jv_aload_n (pc' := 39) (k := 0) (x := 103) rfl rfl rfl rfl ?_
            refine jv_iload_n (pc' := 40) (k := 1) (x := (iI ((l : Nat) : Int))) rfl rfl rfl rfl ?_
            refine jv_iload_n (pc' := 41) (k := 2) (x := (iI x)) rfl rfl rfl rfl ?_
            refine jv_i2l (pc' := 42) (a := x) rfl rfl (by omega) ?_
            refine jv_call (pc' := 45) rfl (ml_followed (I := jm_u I 103 0 (iI 0)) (fc := afc A) (fva := afv A) (fnx := afn A) hl (MFW_of (CM_n hM (l := 103) (k := 0) (v := iI 0) (by simp [pers])) hA) (by omega)) (fun v1 g1 q1 => ?_)
            obtain ⟨r, rfl, rfl, q1⟩ := q1
            obtain rfl : r = (i : Int) := by
              rcases q1 with ⟨k, rfl, hk, hv⟩ | ⟨_, hn⟩
              · exact congrArg _ (hv4.2.2 k i (by omega) hi (hv.trans hix.symm))
              · exact absurd hix (hn i (by omega))
            show jx L xs _ 130 45 _ [.int (iI ((i : Nat) : Int))] _ _
            refine jv_istore (pc' := 47) (k := 4) (x := (iI ((i : Nat) : Int))) rfl rfl rfl (Or.inr rfl) ?_
            refine jv_iload (pc' := 49) (k := 4) (x := (iI ((i : Nat) : Int))) rfl rfl rfl ?_
            refine jv_if_ge (t := 91) (pc' := 52) (a := ((i : Nat) : Int)) rfl rfl rfl (by omega) (fun hz_7 => ?_) (fun hz_7 => ?_)
            · skip
              refine jv_aload_n (pc' := 92) (k := 0) (x := 103) rfl rfl rfl rfl ?_
              refine jv_call (pc' := 95) rfl (ml_changed (I := jm_u I 103 0 (iI 0))) (fun vq8 gq8 q8 => ?_)
              obtain ⟨rfl, rfl⟩ := q8
              show jx L xs _ 130 95 _ [] _ _
              refine jv_iload_n (pc' := 96) (k := 3) (x := (iI y)) rfl rfl rfl rfl ?_
              refine jv_if_lt (t := 128) (pc' := 99) (a := y) rfl rfl rfl (by omega) (fun hz_9 => ?_) (fun hz_9 => ?_)
              · skip
                exfalso; omega
              · skip
                refine jv_aload_n (pc' := 100) (k := 0) (x := 103) rfl rfl rfl rfl ?_
                refine jv_getR (pc' := 103) (c := 12) (k := 9) (v := 111) rfl rfl rfl (fun _ _ => rfl) rfl rfl (jR_103_9 _) ?_
                refine jv_bipush (pc' := 105) (n := 8) rfl rfl rfl ?_
                refine jv_iload_n (pc' := 106) (k := 1) (x := (iI ((l : Nat) : Int))) rfl rfl rfl rfl ?_
                refine jv_imul (pc' := 107) (a := 8) (b := ((l : Nat) : Int)) rfl rfl ?_
                refine jv_iload (pc' := 109) (k := 4) (x := (iI ((i : Nat) : Int))) rfl rfl rfl ?_
                refine jv_iadd (pc' := 110) (a := (8 * ((l : Nat) : Int))) (b := ((i : Nat) : Int)) rfl rfl ?_
                refine jv_iload_n (pc' := 111) (k := 2) (x := (iI x)) rfl rfl rfl rfl ?_
                refine jv_iastore (pc' := 112) (n := 32) (e := ((8 * ((l : Nat) : Int)) + ((i : Nat) : Int))) (v := (iI x)) rfl rfl rfl rfl rfl (by omega) ?_
                refine jv_aload_n (pc' := 113) (k := 0) (x := 103) rfl rfl rfl rfl ?_
                refine jv_getR (pc' := 116) (c := 12) (k := 10) (v := 112) rfl rfl rfl (fun _ _ => rfl) rfl rfl (jR_103_10 _) ?_
                refine jv_bipush (pc' := 118) (n := 8) rfl rfl rfl ?_
                refine jv_iload_n (pc' := 119) (k := 1) (x := (iI ((l : Nat) : Int))) rfl rfl rfl rfl ?_
                refine jv_imul (pc' := 120) (a := 8) (b := ((l : Nat) : Int)) rfl rfl ?_
                refine jv_iload (pc' := 122) (k := 4) (x := (iI ((i : Nat) : Int))) rfl rfl rfl ?_
                refine jv_iadd (pc' := 123) (a := (8 * ((l : Nat) : Int))) (b := ((i : Nat) : Int)) rfl rfl ?_
                refine jv_iload_n (pc' := 124) (k := 3) (x := (iI y)) rfl rfl rfl rfl ?_
                refine jv_iastore (pc' := 125) (n := 32) (e := ((8 * ((l : Nat) : Int)) + ((i : Nat) : Int))) (v := (iI y)) rfl rfl rfl rfl rfl (by omega) ?_
                refine jx_step (pc' := 199) rfl ?_
                refine jv_retV rfl rfl ⟨_, _, rfl, ?_⟩
                first
                | (exfalso; omega)
                | exact ⟨_, rfl, (fr_u (by simp [mW]) (fr_u (by simp [mW]) (fr_u (by simp [mW]) (fr_u (by simp [mW]) (fr_r _))))), (by rw [← hm, aFo_k]; exact CM_ui (CM_ui (CM_u (CM_n hM (l := 103) (k := 0) (v := iI 0) (by simp [pers])) (l := 103) (k := 44) (z := 0) (by omega)) (l := 111) (k := 8 * l + i) (z := x) (by omega) (by omega)) (l := 112) (k := 8 * l + i) (by omega) (by omega)), rfl⟩
            · skip
              exfalso; omega
          · skip
            exact absurd hz_6 (by decide)
        · skip
          exfalso; omega
set_option maxRecDepth 100000 in
theorem op_follow_m4 (hM : CM I M A) (hA : AV4 A) (hl : l < 4) (hx : 0 ≤ x ∧ x < 2147483648) (hm : A 110 l = ((m : Nat) : Int)) (hNF : ∀ k : Nat, (k : Int) < A 110 l → A 111 (8 * l + k) ≠ x) (hc : m < 8) (hy : 0 ≤ y ∧ y < 4) : jc L xs (d + 1) 130 [.ref 103, .int (iI ((l : Nat) : Int)), .int (iI x), .int (iI y)] (jx_G j I M p) (fun v g1 => ∃ I', g1 = jx_G j I' M p ∧ fr mW I I' ∧ CM I' M (aFo A l ((m + 1 : Nat) : Int) m x y) ∧ I' 103 0 = iI 0) := by
  unfold jc
  have hv4 := hA l hl
  have ec : ((afc A l : Nat) : Int) = A 110 l := by unfold afc; omega
  refine jv_aload_n (pc' := 1) (k := 0) (x := 103) rfl rfl rfl rfl ?_
  refine jv_iload_n (pc' := 2) (k := 1) (x := (iI ((l : Nat) : Int))) rfl rfl rfl rfl ?_
  refine jv_call (pc' := 5) rfl (ml_noLayer (by omega)) (fun vq1 gq1 q1 => ?_)
  obtain ⟨rfl, rfl⟩ := q1
  show jx L xs _ 130 5 _ [.int (jb (((l : Nat) : Int) < 0 ∨ 3 < ((l : Nat) : Int))), .ref 103] _ _
  refine jv_jb_ne (t := 22) (pc' := 8) (P := ((l : Nat) : Int) < 0 ∨ 3 < ((l : Nat) : Int)) rfl rfl rfl (fun hz_2 => ?_) (fun hz_2 => ?_)
  · skip
    exfalso; omega
  · skip
    refine jv_iload_n (pc' := 9) (k := 2) (x := (iI x)) rfl rfl rfl rfl ?_
    refine jv_if_lt (t := 22) (pc' := 12) (a := x) rfl rfl rfl (by omega) (fun hz_3 => ?_) (fun hz_3 => ?_)
    · skip
      exfalso; omega
    · skip
      refine jv_iload_n (pc' := 13) (k := 3) (x := (iI y)) rfl rfl rfl rfl ?_
      refine jv_iconst (pc' := 14) (n := -1) rfl rfl ?_
      refine jv_ic_lt (t := 22) (pc' := 17) (a := y) (b := (-1)) rfl rfl rfl (by omega) (fun hz_4 => ?_) (fun hz_4 => ?_)
      · skip
        exfalso; omega
      · skip
        refine jv_iload_n (pc' := 18) (k := 3) (x := (iI y)) rfl rfl rfl rfl ?_
        refine jv_iconst (pc' := 19) (n := 3) rfl rfl ?_
        refine jv_ic_le (t := 26) (pc' := 22) (a := y) (b := 3) rfl rfl rfl (by omega) (fun hz_5 => ?_) (fun hz_5 => ?_)
        · skip
          refine jv_iconst (pc' := 27) (n := 0) rfl rfl ?_
          refine jv_putI (pc' := 30) (c := 12) (k := 0) rfl rfl rfl rfl (fun _ _ _  => rfl) rfl rfl ?_
          refine jv_aload_n (pc' := 31) (k := 0) (x := 103) rfl rfl rfl rfl ?_
          refine jv_getI (pc' := 34) (c := 12) (k := 0) (v := (iI 0)) rfl rfl rfl (fun _ _ => rfl) rfl rfl rfl ?_
          refine jv_if_le (t := 38) (pc' := 37) (a := 0) rfl rfl rfl (by omega) (fun hz_6 => ?_) (fun hz_6 => ?_)
          · skip
            refine jv_aload_n (pc' := 39) (k := 0) (x := 103) rfl rfl rfl rfl ?_
            refine jv_iload_n (pc' := 40) (k := 1) (x := (iI ((l : Nat) : Int))) rfl rfl rfl rfl ?_
            refine jv_iload_n (pc' := 41) (k := 2) (x := (iI x)) rfl rfl rfl rfl ?_
            refine jv_i2l (pc' := 42) (a := x) rfl rfl (by omega) ?_
            refine jv_call (pc' := 45) rfl (ml_followed (I := jm_u I 103 0 (iI 0)) (fc := afc A) (fva := afv A) (fnx := afn A) hl (MFW_of (CM_n hM (l := 103) (k := 0) (v := iI 0) (by simp [pers])) hA) (by omega)) (fun v1 g1 q1 => ?_)
            obtain ⟨r, rfl, rfl, q1⟩ := q1
            obtain rfl : r = -1 := by
              rcases q1 with ⟨k, rfl, hk, hv⟩ | ⟨h, _⟩
              · exact absurd hv (hNF k (by omega))
              · exact h
            show jx L xs _ 130 45 _ [.int (iI (-1))] _ _
            refine jv_istore (pc' := 47) (k := 4) (x := (iI (-1))) rfl rfl rfl (Or.inr rfl) ?_
            refine jv_iload (pc' := 49) (k := 4) (x := (iI (-1))) rfl rfl rfl ?_
            refine jv_if_ge (t := 91) (pc' := 52) (a := (-1)) rfl rfl rfl (by omega) (fun hz_7 => ?_) (fun hz_7 => ?_)
            · skip
              exact absurd hz_7 (by decide)
            · skip
              refine jv_iload_n (pc' := 53) (k := 3) (x := (iI y)) rfl rfl rfl rfl ?_
              refine jv_if_lt (t := 91) (pc' := 56) (a := y) rfl rfl rfl (by omega) (fun hz_8 => ?_) (fun hz_8 => ?_)
              · skip
                refine jv_aload_n (pc' := 92) (k := 0) (x := 103) rfl rfl rfl rfl ?_
                refine jv_call (pc' := 95) rfl (ml_changed (I := jm_u I 103 0 (iI 0))) (fun vq9 gq9 q9 => ?_)
                obtain ⟨rfl, rfl⟩ := q9
                show jx L xs _ 130 95 _ [] _ _
                refine jv_iload_n (pc' := 96) (k := 3) (x := (iI y)) rfl rfl rfl rfl ?_
                refine jv_if_lt (t := 128) (pc' := 99) (a := y) rfl rfl rfl (by omega) (fun hz_10 => ?_) (fun hz_10 => ?_)
                · skip
                  exfalso; omega
                · skip
                  refine jv_aload_n (pc' := 100) (k := 0) (x := 103) rfl rfl rfl rfl ?_
                  refine jv_getR (pc' := 103) (c := 12) (k := 9) (v := 111) rfl rfl rfl (fun _ _ => rfl) rfl rfl (jR_103_9 _) ?_
                  refine jv_bipush (pc' := 105) (n := 8) rfl rfl rfl ?_
                  refine jv_iload_n (pc' := 106) (k := 1) (x := (iI ((l : Nat) : Int))) rfl rfl rfl rfl ?_
                  refine jv_imul (pc' := 107) (a := 8) (b := ((l : Nat) : Int)) rfl rfl ?_
                  refine jv_iload (pc' := 109) (k := 4) (x := (iI (-1))) rfl rfl rfl ?_
                  refine jv_iadd (pc' := 110) (a := (8 * ((l : Nat) : Int))) (b := (-1)) rfl rfl ?_
                  refine jv_iload_n (pc' := 111) (k := 2) (x := (iI x)) rfl rfl rfl rfl ?_
                  refine jv_iastore (pc' := 112) (n := 32) (e := ((8 * ((l : Nat) : Int)) + (-1))) (v := (iI x)) rfl rfl rfl rfl rfl (by omega) ?_
                  refine jv_aload_n (pc' := 113) (k := 0) (x := 103) rfl rfl rfl rfl ?_
                  refine jv_getR (pc' := 116) (c := 12) (k := 10) (v := 112) rfl rfl rfl (fun _ _ => rfl) rfl rfl (jR_103_10 _) ?_
                  refine jv_bipush (pc' := 118) (n := 8) rfl rfl rfl ?_
                  refine jv_iload_n (pc' := 119) (k := 1) (x := (iI ((l : Nat) : Int))) rfl rfl rfl rfl ?_
                  refine jv_imul (pc' := 120) (a := 8) (b := ((l : Nat) : Int)) rfl rfl ?_
                  refine jv_iload (pc' := 122) (k := 4) (x := (iI (-1))) rfl rfl rfl ?_
                  refine jv_iadd (pc' := 123) (a := (8 * ((l : Nat) : Int))) (b := (-1)) rfl rfl ?_
                  refine jv_iload_n (pc' := 124) (k := 3) (x := (iI y)) rfl rfl rfl rfl ?_
                  refine jv_iastore (pc' := 125) (n := 32) (e := ((8 * ((l : Nat) : Int)) + (-1))) (v := (iI y)) rfl rfl rfl rfl rfl (by omega) ?_
                  refine jx_step (pc' := 199) rfl ?_
                  refine jv_retV rfl rfl ⟨_, _, rfl, ?_⟩
                  first
                  | (exfalso; omega)
                  | exact ⟨_, rfl, (fr_u (by simp [mW]) (fr_u (by simp [mW]) (fr_u (by simp [mW]) (fr_u (by simp [mW]) (fr_r _))))), (by rw [aFo_c]; exact CM_ui (CM_ui (CM_u (CM_ui (CM_n hM (l := 103) (k := 0) (v := iI 0) (by simp [pers])) (l := 110) (k := l) (z := ((m + 1 : Nat) : Int)) (by omega) (by omega)) (l := 103) (k := 44) (z := 0) (by omega)) (l := 111) (k := 8 * l + m) (z := x) (by omega) (by omega)) (l := 112) (k := 8 * l + m) (by omega) (by omega)), rfl⟩
              · skip
                refine jv_aload_n (pc' := 57) (k := 0) (x := 103) rfl rfl rfl rfl ?_
                refine jv_getR (pc' := 60) (c := 12) (k := 8) (v := 110) rfl rfl rfl (fun _ _ => rfl) rfl rfl (jR_103_8 _) ?_
                refine jv_iload_n (pc' := 61) (k := 1) (x := (iI ((l : Nat) : Int))) rfl rfl rfl rfl ?_
                refine jv_iaload (pc' := 62) (n := 4) (e := ((l : Nat) : Int)) (v := (iI (A 110 l))) rfl rfl (by decide) rfl rfl rfl (by omega) ((CM_r (CM_n hM (l := 103) (k := 0) (v := iI 0) (by simp [pers])) (l := 110) (k := l) (by simp [pers]) (by omega)).trans rfl) ?_
                refine jv_bipush (pc' := 64) (n := 8) rfl rfl rfl ?_
                refine jv_ic_ne (t := 73) (pc' := 67) (a := (A 110 l)) (b := 8) rfl rfl rfl (by omega) (fun hz_11 => ?_) (fun hz_11 => ?_)
                · skip
                  refine jv_aload_n (pc' := 74) (k := 0) (x := 103) rfl rfl rfl rfl ?_
                  refine jv_getR (pc' := 77) (c := 12) (k := 8) (v := 110) rfl rfl rfl (fun _ _ => rfl) rfl rfl (jR_103_8 _) ?_
                  refine jv_iload_n (pc' := 78) (k := 1) (x := (iI ((l : Nat) : Int))) rfl rfl rfl rfl ?_
                  refine jv_iaload (pc' := 79) (n := 4) (e := ((l : Nat) : Int)) (v := (iI (A 110 l))) rfl rfl (by decide) rfl rfl rfl (by omega) ((CM_r (CM_n hM (l := 103) (k := 0) (v := iI 0) (by simp [pers])) (l := 110) (k := l) (by simp [pers]) (by omega)).trans rfl) ?_
                  refine jv_istore (pc' := 81) (k := 4) (x := (iI (A 110 l))) rfl rfl rfl (Or.inr rfl) ?_
                  refine jv_aload_n (pc' := 82) (k := 0) (x := 103) rfl rfl rfl rfl ?_
                  refine jv_getR (pc' := 85) (c := 12) (k := 8) (v := 110) rfl rfl rfl (fun _ _ => rfl) rfl rfl (jR_103_8 _) ?_
                  refine jv_iload_n (pc' := 86) (k := 1) (x := (iI ((l : Nat) : Int))) rfl rfl rfl rfl ?_
                  refine jx_step (pc' := 87) rfl ?_
                  refine jv_iaload (pc' := 88) (n := 4) (e := ((l : Nat) : Int)) (v := (iI (A 110 l))) rfl rfl (by decide) rfl rfl rfl (by omega) ((CM_r (CM_n hM (l := 103) (k := 0) (v := iI 0) (by simp [pers])) (l := 110) (k := l) (by simp [pers]) (by omega)).trans rfl) ?_
                  refine jv_iconst (pc' := 89) (n := 1) rfl rfl ?_
                  refine jv_iadd (pc' := 90) (a := (A 110 l)) (b := 1) rfl rfl ?_
                  rw [show (A 110 l) + 1 = ((m + 1 : Nat) : Int) by omega]
                  refine jv_iastore (pc' := 91) (n := 4) (e := ((l : Nat) : Int)) (v := (iI ((m + 1 : Nat) : Int))) rfl rfl rfl rfl rfl (by omega) ?_
                  refine jv_aload_n (pc' := 92) (k := 0) (x := 103) rfl rfl rfl rfl ?_
                  refine jv_call (pc' := 95) rfl (ml_changed (I := jm_u (jm_u I 103 0 (iI 0)) 110 (((l : Nat) : Int) : Int).toNat (iI ((m + 1 : Nat) : Int)))) (fun vq12 gq12 q12 => ?_)
                  obtain ⟨rfl, rfl⟩ := q12
                  show jx L xs _ 130 95 _ [] _ _
                  refine jv_iload_n (pc' := 96) (k := 3) (x := (iI y)) rfl rfl rfl rfl ?_
                  refine jv_if_lt (t := 128) (pc' := 99) (a := y) rfl rfl rfl (by omega) (fun hz_13 => ?_) (fun hz_13 => ?_)
                  · skip
                    exfalso; omega
                  · skip
                    refine jv_aload_n (pc' := 100) (k := 0) (x := 103) rfl rfl rfl rfl ?_
                    refine jv_getR (pc' := 103) (c := 12) (k := 9) (v := 111) rfl rfl rfl (fun _ _ => rfl) rfl rfl (jR_103_9 _) ?_
                    refine jv_bipush (pc' := 105) (n := 8) rfl rfl rfl ?_
                    refine jv_iload_n (pc' := 106) (k := 1) (x := (iI ((l : Nat) : Int))) rfl rfl rfl rfl ?_
                    refine jv_imul (pc' := 107) (a := 8) (b := ((l : Nat) : Int)) rfl rfl ?_
                    refine jv_iload (pc' := 109) (k := 4) (x := (iI (A 110 l))) rfl rfl rfl ?_
                    refine jv_iadd (pc' := 110) (a := (8 * ((l : Nat) : Int))) (b := (A 110 l)) rfl rfl ?_
                    refine jv_iload_n (pc' := 111) (k := 2) (x := (iI x)) rfl rfl rfl rfl ?_
                    refine jv_iastore (pc' := 112) (n := 32) (e := ((8 * ((l : Nat) : Int)) + (A 110 l))) (v := (iI x)) rfl rfl rfl rfl rfl (by omega) ?_
                    refine jv_aload_n (pc' := 113) (k := 0) (x := 103) rfl rfl rfl rfl ?_
                    refine jv_getR (pc' := 116) (c := 12) (k := 10) (v := 112) rfl rfl rfl (fun _ _ => rfl) rfl rfl (jR_103_10 _) ?_
                    refine jv_bipush (pc' := 118) (n := 8) rfl rfl rfl ?_
                    refine jv_iload_n (pc' := 119) (k := 1) (x := (iI ((l : Nat) : Int))) rfl rfl rfl rfl ?_
                    refine jv_imul (pc' := 120) (a := 8) (b := ((l : Nat) : Int)) rfl rfl ?_
                    refine jv_iload (pc' := 122) (k := 4) (x := (iI (A 110 l))) rfl rfl rfl ?_
                    refine jv_iadd (pc' := 123) (a := (8 * ((l : Nat) : Int))) (b := (A 110 l)) rfl rfl ?_
                    refine jv_iload_n (pc' := 124) (k := 3) (x := (iI y)) rfl rfl rfl rfl ?_
                    refine jv_iastore (pc' := 125) (n := 32) (e := ((8 * ((l : Nat) : Int)) + (A 110 l))) (v := (iI y)) rfl rfl rfl rfl rfl (by omega) ?_
                    refine jx_step (pc' := 199) rfl ?_
                    refine jv_retV rfl rfl ⟨_, _, rfl, ?_⟩
                    first
                    | (exfalso; omega)
                    | exact ⟨_, rfl, (fr_u (by simp [mW]) (fr_u (by simp [mW]) (fr_u (by simp [mW]) (fr_u (by simp [mW]) (fr_u (by simp [mW]) (fr_r _)))))), (by rw [aFo_c]; exact CM_ui (CM_ui (CM_u (CM_ui (CM_n hM (l := 103) (k := 0) (v := iI 0) (by simp [pers])) (l := 110) (k := l) (z := ((m + 1 : Nat) : Int)) (by omega) (by omega)) (l := 103) (k := 44) (z := 0) (by omega)) (l := 111) (k := 8 * l + m) (z := x) (by omega) (by omega)) (l := 112) (k := 8 * l + m) (by omega) (by omega)), rfl⟩
                · skip
                  exfalso; omega
          · skip
            exact absurd hz_6 (by decide)
        · skip
          exfalso; omega
set_option maxRecDepth 100000 in
theorem op_follow_b2 (hM : CM I M A) (hA : AV4 A) (hl : l < 4) (hx : 0 ≤ x ∧ x < 2147483648) (hm : A 110 l = ((m : Nat) : Int)) (hNF : ∀ k : Nat, (k : Int) < A 110 l → A 111 (8 * l + k) ≠ x) (hc : ¬ m < 8) (hy : 0 ≤ y ∧ y < 4) : jc L xs (d + 1) 130 [.ref 103, .int (iI ((l : Nat) : Int)), .int (iI x), .int (iI y)] (jx_G j I M p) (fun v g1 => ∃ I', g1 = jx_G j I' M p ∧ fr mW I I' ∧ CM I' M A ∧ I' 103 0 = iI 2) := by
  unfold jc
  have hv4 := hA l hl
  have ec : ((afc A l : Nat) : Int) = A 110 l := by unfold afc; omega
  refine jv_aload_n (pc' := 1) (k := 0) (x := 103) rfl rfl rfl rfl ?_
  refine jv_iload_n (pc' := 2) (k := 1) (x := (iI ((l : Nat) : Int))) rfl rfl rfl rfl ?_
  refine jv_call (pc' := 5) rfl (ml_noLayer (by omega)) (fun vq1 gq1 q1 => ?_)
  obtain ⟨rfl, rfl⟩ := q1
  show jx L xs _ 130 5 _ [.int (jb (((l : Nat) : Int) < 0 ∨ 3 < ((l : Nat) : Int))), .ref 103] _ _
  refine jv_jb_ne (t := 22) (pc' := 8) (P := ((l : Nat) : Int) < 0 ∨ 3 < ((l : Nat) : Int)) rfl rfl rfl (fun hz_2 => ?_) (fun hz_2 => ?_)
  · skip
    exfalso; omega
  · skip
    refine jv_iload_n (pc' := 9) (k := 2) (x := (iI x)) rfl rfl rfl rfl ?_
    refine jv_if_lt (t := 22) (pc' := 12) (a := x) rfl rfl rfl (by omega) (fun hz_3 => ?_) (fun hz_3 => ?_)
    · skip
      exfalso; omega
    · skip
      refine jv_iload_n (pc' := 13) (k := 3) (x := (iI y)) rfl rfl rfl rfl ?_
      refine jv_iconst (pc' := 14) (n := -1) rfl rfl ?_
      refine jv_ic_lt (t := 22) (pc' := 17) (a := y) (b := (-1)) rfl rfl rfl (by omega) (fun hz_4 => ?_) (fun hz_4 => ?_)
      · skip
        exfalso; omega
      · skip
        refine jv_iload_n (pc' := 18) (k := 3) (x := (iI y)) rfl rfl rfl rfl ?_
        refine jv_iconst (pc' := 19) (n := 3) rfl rfl ?_
        refine jv_ic_le (t := 26) (pc' := 22) (a := y) (b := 3) rfl rfl rfl (by omega) (fun hz_5 => ?_) (fun hz_5 => ?_)
        · skip
          refine jv_iconst (pc' := 27) (n := 0) rfl rfl ?_
          refine jv_putI (pc' := 30) (c := 12) (k := 0) rfl rfl rfl rfl (fun _ _ _  => rfl) rfl rfl ?_
          refine jv_aload_n (pc' := 31) (k := 0) (x := 103) rfl rfl rfl rfl ?_
          refine jv_getI (pc' := 34) (c := 12) (k := 0) (v := (iI 0)) rfl rfl rfl (fun _ _ => rfl) rfl rfl rfl ?_
          refine jv_if_le (t := 38) (pc' := 37) (a := 0) rfl rfl rfl (by omega) (fun hz_6 => ?_) (fun hz_6 => ?_)
          · skip
            refine jv_aload_n (pc' := 39) (k := 0) (x := 103) rfl rfl rfl rfl ?_
            refine jv_iload_n (pc' := 40) (k := 1) (x := (iI ((l : Nat) : Int))) rfl rfl rfl rfl ?_
            refine jv_iload_n (pc' := 41) (k := 2) (x := (iI x)) rfl rfl rfl rfl ?_
            refine jv_i2l (pc' := 42) (a := x) rfl rfl (by omega) ?_
            refine jv_call (pc' := 45) rfl (ml_followed (I := jm_u I 103 0 (iI 0)) (fc := afc A) (fva := afv A) (fnx := afn A) hl (MFW_of (CM_n hM (l := 103) (k := 0) (v := iI 0) (by simp [pers])) hA) (by omega)) (fun v1 g1 q1 => ?_)
            obtain ⟨r, rfl, rfl, q1⟩ := q1
            obtain rfl : r = -1 := by
              rcases q1 with ⟨k, rfl, hk, hv⟩ | ⟨h, _⟩
              · exact absurd hv (hNF k (by omega))
              · exact h
            show jx L xs _ 130 45 _ [.int (iI (-1))] _ _
            refine jv_istore (pc' := 47) (k := 4) (x := (iI (-1))) rfl rfl rfl (Or.inr rfl) ?_
            refine jv_iload (pc' := 49) (k := 4) (x := (iI (-1))) rfl rfl rfl ?_
            refine jv_if_ge (t := 91) (pc' := 52) (a := (-1)) rfl rfl rfl (by omega) (fun hz_7 => ?_) (fun hz_7 => ?_)
            · skip
              exact absurd hz_7 (by decide)
            · skip
              refine jv_iload_n (pc' := 53) (k := 3) (x := (iI y)) rfl rfl rfl rfl ?_
              refine jv_if_lt (t := 91) (pc' := 56) (a := y) rfl rfl rfl (by omega) (fun hz_8 => ?_) (fun hz_8 => ?_)
              · skip
                exfalso; omega
              · skip
                refine jv_aload_n (pc' := 57) (k := 0) (x := 103) rfl rfl rfl rfl ?_
                refine jv_getR (pc' := 60) (c := 12) (k := 8) (v := 110) rfl rfl rfl (fun _ _ => rfl) rfl rfl (jR_103_8 _) ?_
                refine jv_iload_n (pc' := 61) (k := 1) (x := (iI ((l : Nat) : Int))) rfl rfl rfl rfl ?_
                refine jv_iaload (pc' := 62) (n := 4) (e := ((l : Nat) : Int)) (v := (iI (A 110 l))) rfl rfl (by decide) rfl rfl rfl (by omega) ((CM_r (CM_n hM (l := 103) (k := 0) (v := iI 0) (by simp [pers])) (l := 110) (k := l) (by simp [pers]) (by omega)).trans rfl) ?_
                refine jv_bipush (pc' := 64) (n := 8) rfl rfl rfl ?_
                refine jv_ic_ne (t := 73) (pc' := 67) (a := (A 110 l)) (b := 8) rfl rfl rfl (by omega) (fun hz_9 => ?_) (fun hz_9 => ?_)
                · skip
                  exfalso; omega
                · skip
                  refine jv_aload_n (pc' := 68) (k := 0) (x := 103) rfl rfl rfl rfl ?_
                  refine jv_iconst (pc' := 69) (n := 2) rfl rfl ?_
                  refine jv_putI (pc' := 72) (c := 12) (k := 0) rfl rfl rfl rfl (fun _ _ _  => rfl) rfl rfl ?_
                  refine jv_retV rfl rfl ⟨_, _, rfl, ?_⟩
                  first
                  | (exfalso; omega)
                  | exact ⟨_, rfl, (fr_u (by simp [mW]) (fr_u (by simp [mW]) (fr_r _))), CM_n (CM_n hM (l := 103) (k := 0) (v := iI 0) (by simp [pers])) (by simp [pers]), rfl⟩
          · skip
            exact absurd hz_6 (by decide)
        · skip
          exfalso; omega
end H10
