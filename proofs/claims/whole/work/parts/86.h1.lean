/-! printed by wip/whole/gen/h1.py: operations: wipe, limit, root -/
def cW (l _k : Nat) : Prop := l < 103
def cV (l _k : Nat) : Prop := l < 103 ∨ l = 138
def mW (l _k : Nat) : Prop := 103 ≤ l
def mV (l _k : Nat) : Prop := 103 ≤ l ∧ l ≠ 138
theorem CM_c {I I' : Nat → Nat → Int32} {M M' : Nat → Nat → Int64} {A : AB} (h : CM I M A) (f : fr cW I I') (g : fr cV M M') : CM I' M' A := CM_fr h f g (fun l k hp => by unfold pers at hp; unfold cW; omega) (fun l k hl => by unfold cV; omega)
theorem CR_m {I I' : Nat → Nat → Int32} {M M' : Nat → Nat → Int64} {p : Nat → Option Nat} {A : AB} (h : CR I M p A) (f : fr mW I I') (g : fr mV M M') : CR I' M' p A := by
  obtain ⟨hv, h1, ⟨Tl, S, σ, h2, h3, h4⟩, h5, h6, h7, h8, h9⟩ := h
  have hv5 := hv.2.2.2.2.2.2.1
  refine ⟨hv, CT_fr h1 f (by simp [mW]) (by intro k; simp [mW]), ⟨Tl, S, σ, RLy_w h2 f (fun _ _ => rfl) (by intro T i k h1 h2; unfold mW; omega), RFr_w h3 f (fun _ _ _ => rfl) (by intro T i k h1 h2; unfold mW; omega) (by omega), RDe_w h2 h4 f g ⟨by simp [mW], by simp [mW], by simp [mW], by simp [mW], by intro k; simp [mW], by simp [mW]⟩ (by intro T k h1; unfold mW; omega) (by intro k; simp [mV])⟩, RFo_w h5 f (by intro T i k h1 h2; unfold mW; omega), RSc_w h6 f (by simp [mW]), RFi_w h7 f (by intro l k h1 h2; unfold mW; omega), RTa_w h8 f g (by simp [mW]) (by intro k; simp [mV]), RJo_w h9 f (by intro k; simp [mW])⟩
theorem tcnt_A {A A' : AB} (h : ∀ l k, (l = 115 ∨ (133 ≤ l ∧ l ≤ 136)) → A' l k = A l k) (k w b : Int) : ∀ n, tcnt A' k w b n = tcnt A k w b n := by
  intro n
  induction n with
  | zero => rfl
  | succ n ih =>
    show tcnt A' k w b n + _ = tcnt A k w b n + _
    rw [ih, h 135 n (by omega), h 136 n (by omega), h 115 n (by omega)]
theorem RTa_A {I : Nat → Nat → Int32} {M : Nat → Nat → Int64} {A A' : AB} (hT : RTa I M A) (h1 : A' 103 44 = A 103 44) (h2 : A' 103 12 = A 103 12) (h : ∀ l k, (l = 115 ∨ (133 ≤ l ∧ l ≤ 136)) → A' l k = A l k) : RTa I M A' := by
  obtain ⟨a, b, c, d⟩ := hT
  refine ⟨by rw [h1]; exact a, by rw [h1]; exact b, fun k hk => ?_, fun f hf => ?_⟩
  · rw [h1] at hk
    rw [h2, tcnt_A h, tcnt_A h, tcnt_A h, tcnt_A h, h 133 k (by omega), h 134 k (by omega)]
    exact c k hk
  · rw [h1, h2, h 135 f (by omega), h 136 f (by omega)]
    exact d f hf
/-- the cells that a change makes the class forget -/
def wG (l k : Nat) : Prop := (l = 0 ∧ k = 12) ∨ (l = 98 ∧ k = 2) ∨ l = 100
theorem RTa_0 {I : Nat → Nat → Int32} {M : Nat → Nat → Int64} {A : AB} (h1 : I 98 2 = iI 0) (h2 : ∀ f, f < 12 → I 100 f = iI (-1)) (h3 : A 103 44 = 0) : RTa I M A := by
  refine ⟨by rw [h3]; exact h1, by omega, fun k hk => absurd hk (by omega), fun f hf => ⟨-1, h2 f hf, by omega, fun _ z => absurd z (by omega)⟩⟩
theorem RDe_f {W V : Nat → Nat → Prop} {I I' : Nat → Nat → Int32} {M M' : Nat → Nat → Int64} {A A' : AB} {Tl Tl' : Nat → Nat} (h : RDe I M A Tl) (f : fr W I I') (g : fr V M M') (hW : ¬ W 95 5 ∧ ¬ W 38 9 ∧ ¬ W 38 10 ∧ ¬ W 39 2 ∧ (∀ k, ¬ W 40 k)) (hV : ∀ k, ¬ V 41 k) (h12 : I' 0 12 = iI (-1)) : RDe I' M' A' Tl' := by
  obtain ⟨⟨z, hz⟩, s, W0, sz, df, h1, h2, h3, h4, h5⟩ := h
  exact ⟨⟨z, (f _ _ hW.1).trans hz⟩, s, W0, sz, -1, DCe_fr h1 f g ⟨hW.2.1, hW.2.2.1, hW.2.2.2.1, hW.2.2.2.2⟩ hV, h2, h3, h12, Or.inl rfl⟩
section H1
variable {L : Nat} {xs : Nat → Int32} {d j : Nat} {I : Nat → Nat → Int32} {M : Nat → Nat → Int64} {p : Nat → Option Nat}
variable {A : AB} {x y : Int}
theorem cl_tclear  : jc L xs (d + 1) 95 [.ref 98] (jx_G j I M p) (fun v g1 => ∃ I', g1 = jx_G j I' M p ∧ v = none ∧ I' 98 2 = iI 0 ∧ (∀ f, f < 12 → I' 100 f = iI (-1)) ∧ fr wG I I' ∧ I' 0 12 = I 0 12) := by
  unfold jc
  refine jv_aload_n (pc' := 1) (k := 0) (x := 98) rfl rfl rfl rfl ?_
  refine jv_iconst (pc' := 2) (n := 0) rfl rfl ?_
  refine jv_putI (pc' := 5) (c := 10) (k := 2) rfl rfl rfl rfl (fun _ _ _  => rfl) rfl rfl ?_
  refine jv_aload_n (pc' := 6) (k := 0) (x := 98) rfl rfl rfl rfl ?_
  refine jv_getR (pc' := 9) (c := 10) (k := 1) (v := 100) rfl rfl rfl (fun _ _ => rfl) rfl rfl (jR_98_1 _) ?_
  refine jv_iconst (pc' := 10) (n := -1) rfl rfl ?_
  refine jv_call (pc' := 13) rfl (cl_fill_100 (I := jm_u I 98 2 (iI 0)) (x := -1)) (fun vq1 gq1 q1 => ?_)
  obtain ⟨Iq1, rfl, rfl, wq1, rq1⟩ := q1
  show jx L xs _ 95 13 _ [] _ _
  refine jv_retV rfl rfl ⟨_, _, rfl, ?_⟩
  exact ⟨_, rfl, rfl, (rq1 98 2 (by omega)).trans rfl, wq1, (fr_t (fr_u (by simp [wG]) (fr_r _)) (fr_w rq1 (fun l k h => Or.inr (Or.inr h)))), (rq1 0 12 (by omega)).trans rfl⟩
theorem cl_forget  : jc L xs (d + 2) 28 [.ref 0] (jx_G j I M p) (fun v g1 => ∃ I', g1 = jx_G j I' M p ∧ v = none ∧ I' 98 2 = iI 0 ∧ (∀ f, f < 12 → I' 100 f = iI (-1)) ∧ fr wG I I' ∧ I' 0 12 = iI (-1)) := by
  unfold jc
  refine jv_aload_n (pc' := 1) (k := 0) (x := 0) rfl rfl rfl rfl ?_
  refine jv_iconst (pc' := 2) (n := -1) rfl rfl ?_
  refine jv_putI (pc' := 5) (c := 0) (k := 12) rfl rfl rfl rfl (fun _ _ _  => rfl) rfl rfl ?_
  refine jv_aload_n (pc' := 6) (k := 0) (x := 0) rfl rfl rfl rfl ?_
  refine jv_getR (pc' := 9) (c := 0) (k := 7) (v := 98) rfl rfl rfl (fun _ _ => rfl) rfl rfl (jR_0_7 _) ?_
  refine jv_call (pc' := 12) rfl (cl_tclear (I := jm_u I 0 12 (iI (-1)))) (fun vq1 gq1 q1 => ?_)
  obtain ⟨Iq1, rfl, rfl, aq1, bq1, rq1, zq1⟩ := q1
  show jx L xs _ 28 12 _ [] _ _
  refine jv_retV rfl rfl ⟨_, _, rfl, ?_⟩
  exact ⟨_, rfl, rfl, aq1, bq1, (fr_t (fr_u (by simp [wG]) (fr_r _)) rq1), zq1.trans rfl⟩
theorem op_wipe_c (hR : CR I M p A) : jc L xs d 3 [.ref 0] (jx_G j I M p) (fun v g1 => ∃ I', g1 = jx_G j I' M p ∧ fr cW I I' ∧ v = some (.int (iI (A 103 2))) ∧ CR I' M p (jm_u A 103 2 0)) := by
  unfold jc
  refine jv_aload_n (pc' := 1) (k := 0) (x := 0) rfl rfl rfl rfl ?_
  refine jv_getR (pc' := 4) (c := 0) (k := 0) (v := 1) rfl rfl rfl (fun _ _ => rfl) rfl rfl (jR_0_0 _) ?_
  refine jv_getI (pc' := 7) (c := 1) (k := 1) (v := (iI (A 103 2))) rfl rfl rfl (fun _ _ => rfl) rfl rfl (hR.2.1.1.trans (congrArg iI (show ((aN A : Nat) : Int) = A 103 2 by have := hR.1.1.1; unfold aN; omega))) ?_
  refine jv_istore_n (pc' := 8) (k := 1) (x := (iI (A 103 2))) rfl rfl rfl rfl (Or.inr rfl) ?_
  refine jv_aload_n (pc' := 9) (k := 0) (x := 0) rfl rfl rfl rfl ?_
  refine jv_getR (pc' := 12) (c := 0) (k := 0) (v := 1) rfl rfl rfl (fun _ _ => rfl) rfl rfl (jR_0_0 _) ?_
  refine jv_iconst (pc' := 13) (n := 0) rfl rfl ?_
  refine jv_putI (pc' := 16) (c := 1) (k := 1) rfl rfl rfl rfl (fun _ _ _  => rfl) rfl rfl ?_
  refine jv_iload_n (pc' := 17) (k := 1) (x := (iI (A 103 2))) rfl rfl rfl rfl ?_
  refine jv_retI rfl rfl ⟨_, _, rfl, ?_⟩
  refine ⟨_, rfl, fr_u (by simp [cW]) (fr_r _), rfl, ?_⟩
  obtain ⟨hv, h1, ⟨Tl, S, σ, h2, h3, h4⟩, h5, h6, h7, h8, h9⟩ := hR
  have f : fr (fun l k => l = 1 ∧ k = 1) I (jm_u I 1 1 (iI 0)) := fr_u ⟨rfl, rfl⟩ (fr_r _)
  have hv5 := hv.2.2.2.2.2.2.1
  refine ⟨⟨⟨by simp [jm_u], fun k hk => absurd (show (k : Int) < 0 from hk) (by omega)⟩, hv.2⟩, ⟨rfl, Nat.zero_le _, fun k hk => absurd hk (Nat.not_lt_zero _), fun k hk => absurd hk (Nat.not_lt_zero _), fun k _ => if_neg (show ¬ (k : Int) < 0 by omega)⟩, ⟨Tl, S, σ, RLy_w h2 f (fun _ _ => rfl) (by intro T i k h1 h2; omega), RFr_w h3 f (fun _ _ _ => rfl) (by intro T i k h1 h2; omega) (show A 103 12 ≤ 12 by omega), RDe_w h2 h4 f (fr_r (W := fun _ _ => False) M) ⟨by omega, by omega, by omega, by omega, by intro k; omega, by omega⟩ (by intro T k h1; omega) (fun _ h => h)⟩, RFo_w h5 f (by intro T i k h1 h2; omega), RSc_w h6 f ⟨by omega, by omega, by intro k; omega⟩, RFi_w h7 f (by intro l k h1 h2; omega), RTa_w (RTa_A h8 rfl rfl (fun l k hl => jm_u_n2 (by omega))) f (fr_r (W := fun _ _ => False) M) ⟨by omega, by intro k; omega⟩ (fun _ h => h), RJo_w h9 f (by intro k; omega)⟩
theorem op_wipe_m (hM : CM I M A) : jc L xs d 109 [.ref 103] (jx_G j I M p) (fun v g1 => ∃ I', g1 = jx_G j I' M p ∧ fr mW I I' ∧ v = some (.int (iI (A 103 2))) ∧ CM I' M (jm_u A 103 2 0) ∧ I' 103 0 = iI 0) := by
  unfold jc
  refine jv_aload_n (pc' := 1) (k := 0) (x := 103) rfl rfl rfl rfl ?_
  refine jv_iconst (pc' := 2) (n := 0) rfl rfl ?_
  refine jv_putI (pc' := 5) (c := 12) (k := 0) rfl rfl rfl rfl (fun _ _ _  => rfl) rfl rfl ?_
  refine jv_aload_n (pc' := 6) (k := 0) (x := 103) rfl rfl rfl rfl ?_
  refine jv_getI (pc' := 9) (c := 12) (k := 2) (v := (iI (A 103 2))) rfl rfl rfl (fun _ _ => rfl) rfl rfl (hM.1 103 2 (by simp [pers])) ?_
  refine jv_istore_n (pc' := 10) (k := 1) (x := (iI (A 103 2))) rfl rfl rfl rfl (Or.inr rfl) ?_
  refine jv_aload_n (pc' := 11) (k := 0) (x := 103) rfl rfl rfl rfl ?_
  refine jv_iconst (pc' := 12) (n := 0) rfl rfl ?_
  refine jv_putI (pc' := 15) (c := 12) (k := 2) rfl rfl rfl rfl (fun _ _ _  => rfl) rfl rfl ?_
  refine jv_iload_n (pc' := 16) (k := 1) (x := (iI (A 103 2))) rfl rfl rfl rfl ?_
  refine jv_retI rfl rfl ⟨_, _, rfl, ?_⟩
  exact ⟨_, rfl, fr_u (by simp [mW]) (fr_u (by simp [mW]) (fr_r _)), rfl, CM_u (CM_n hM (by simp [pers])) (by omega), rfl⟩
def wG2 (l k : Nat) : Prop := wG l k ∨ (l = 0 ∧ (k = 10 ∨ k = 11)) ∨ l = 12
theorem CR_fg {I I' : Nat → Nat → Int32} {p : Nat → Option Nat} {A A' : AB} (h : CR I M p A) (f : fr wG2 I I') (hs : RSc I' A') (hv : AV1 A' ∧ AV2 A' ∧ AV3 A' ∧ AV4 A' ∧ AV5 A') (h1 : I' 98 2 = iI 0) (h2 : ∀ f, f < 12 → I' 100 f = iI (-1)) (h3 : I' 0 12 = iI (-1)) (h44 : A' 103 44 = 0)
    (e1 : RDr I A → RDr I A') (e2 : ∀ Tl S, RLy I p A Tl S → RLy I p A' Tl S) (e3 : ∀ σ, RFr I p A σ → RFr I p A' σ) (e4 : RFo I A → RFo I A') (e5 : RFi I A → RFi I A') (e6 : RJo I A → RJo I A') : CR I' M p A' := by
  obtain ⟨_, d1, ⟨Tl, S, σ, d2, d3, d4⟩, d5, d8, d6, d9, d7⟩ := h
  have hv5 := hv.2.2.2.2.2.2.1
  exact ⟨hv, CT_fr (e1 d1) f (by simp [wG2, wG]) (by intro k; simp [wG2, wG]), ⟨Tl, S, σ, RLy_w (e2 Tl S d2) f (fun _ _ => rfl) (by intro T i k h1 h2; unfold wG2 wG; omega), RFr_w (e3 σ d3) f (fun _ _ _ => rfl) (by intro T i k h1 h2; unfold wG2 wG; omega) (by omega), RDe_f d4 f (fr_r (W := fun _ _ => False) M) ⟨by simp [wG2, wG], by simp [wG2, wG], by simp [wG2, wG], by simp [wG2, wG], by intro k; simp [wG2, wG]⟩ (fun _ h => h) h3⟩, RFo_w (e4 d5) f (by intro T i k h1 h2; unfold wG2 wG; omega), hs, RFi_w (e5 d6) f (by intro l k h1 h2; unfold wG2 wG; omega), RTa_0 h1 h2 h44, RJo_w (e6 d7) f (by intro k; simp [wG2, wG])⟩
end H1
