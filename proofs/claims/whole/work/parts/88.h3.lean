/-! printed by wip/whole/gen/h3.py: operation write -/
theorem a255 (z : Int32) : ∃ n : Nat, n < 256 ∧ z &&& iI 255 = iI (n : Int) := by
  have h1 : z.toBitVec.toNat &&& 255 ≤ 255 := Nat.and_le_right
  refine ⟨z.toBitVec.toNat &&& 255, by omega, ?_⟩
  apply Int32.toBitVec_inj.1
  rw [Int32.toBitVec_and]
  show z.toBitVec &&& BitVec.ofInt 32 255 = BitVec.ofInt 32 _
  rw [BitVec.ofInt_natCast]
  apply BitVec.eq_of_toNat_eq
  rw [BitVec.toNat_and, BitVec.toNat_ofNat, Nat.mod_eq_of_lt (by omega)]
  rfl
noncomputable def bz (b : Int64) (k : Nat) : Nat := Classical.choose (a255 (b >>> ((iI ((8 * k : Nat) : Int)).toInt64 &&& 63)).toInt32)
theorem bz_s (b : Int64) (k : Nat) : bz b k < 256 ∧ (b >>> ((iI ((8 * k : Nat) : Int)).toInt64 &&& 63)).toInt32 &&& iI 255 = iI ((bz b k : Nat) : Int) := Classical.choose_spec (a255 (b >>> ((iI ((8 * k : Nat) : Int)).toInt64 &&& 63)).toInt32)
theorem bz_m (b : Int64) (k : Nat) : ((b >>> ((iI ((8 * k : Nat) : Int)).toInt64 &&& 63)) &&& lI 255).toInt32 = iI ((bz b k : Nat) : Int) := by
  rw [Int64.toInt32_and, lI_i]
  exact (bz_s b k).2
/-- x bytes of b more in the draft -/
noncomputable def aWr (A : AB) (b : Int64) (x : Nat) : AB := fun l k => if l = 104 ∧ aN A ≤ k ∧ k < aN A + x then ((bz b (k - aN A) : Nat) : Int) else jm_u A 103 2 ((aN A + x : Nat) : Int) l k
theorem CR_dr {I I' : Nat → Nat → Int32} {M : Nat → Nat → Int64} {p : Nat → Option Nat} {A A' : AB} (h : CR I M p A) (f : fr (fun l _ => l = 1 ∨ l = 2) I I') (h1 : AV1 A') (h2 : RDr I' A') (e : ∀ l k, ¬ ((l = 103 ∧ k = 2) ∨ l = 104) → A' l k = A l k) : CR I' M p A' := by
  have eA : A' = fun l k => if (l = 103 ∧ k = 2) ∨ l = 104 then A' l k else A l k := by
    funext l k
    split
    · rfl
    next q => exact e l k q
  obtain ⟨hv, _, ⟨Tl, S, σ, d2, d3, d4⟩, d5, d8, d6, d9, d7⟩ := h
  have hv5 := hv.2.2.2.2.2.2.1
  have h8 : RTa I M A' := RTa_A d9 (e 103 44 (by omega)) (e 103 12 (by omega)) (fun l k hl => e l k (by omega))
  have g1 : AV1 A' ∧ RDr I' A' ∧ RTa I M A' := ⟨h1, h2, h8⟩
  rw [eA] at g1 ⊢
  exact ⟨⟨g1.1, hv.2⟩, g1.2.1, ⟨Tl, S, σ, RLy_w d2 f (fun _ _ => rfl) (by intro T i k h1 h2; omega), RFr_w d3 f (fun _ _ _ => rfl) (by intro T i k h1 h2; omega) (show A 103 12 ≤ 12 by omega), RDe_w d2 d4 f (fr_r (W := fun _ _ => False) M) ⟨by omega, by omega, by omega, by omega, by intro k; omega, by omega⟩ (by intro T k h1; omega) (fun _ h => h)⟩, RFo_w d5 f (by intro T i k h1 h2; omega), RSc_w d8 f ⟨by omega, by omega, by intro k; omega⟩, RFi_w d6 f (by intro l k h1 h2; omega), RTa_w g1.2.2 f (fr_r (W := fun _ _ => False) M) ⟨by omega, by intro k; omega⟩ (fun _ h => h), RJo_w d7 f (by intro k; omega)⟩
section H3
variable {L : Nat} {xs : Nat → Int32} {d j : Nat} {I : Nat → Nat → Int32} {M : Nat → Nat → Int64} {p : Nat → Option Nat}
variable {A : AB} {x : Int} {n : Nat} {b : Int64}
theorem op_write_t (hx : iR x) (hbad : ¬ (1 ≤ x ∧ x ≤ 8)) : jt L xs (d + 1) 2 [.ref 0, .int (iI x), .long b] (jx_G j I M p) 50 (fun g1 => g1 = jx_G (j + 1) I M p) := by
  unfold jt
  refine jv_iload_n (pc' := 1) (k := 1) (x := (iI x)) rfl rfl rfl rfl ?_
  refine jv_iconst (pc' := 2) (n := 1) rfl rfl ?_
  refine jv_ic_lt (t := 11) (pc' := 5) (a := x) (b := 1) rfl rfl rfl (by omega) (fun hz_1 => ?_) (fun hz_1 => ?_)
  · skip
    refine jx_ret0 rfl ⟨_, rfl, ?_⟩
    first
    | (exfalso; omega)
    | rfl
  · skip
    refine jv_iload_n (pc' := 6) (k := 1) (x := (iI x)) rfl rfl rfl rfl ?_
    refine jv_bipush (pc' := 8) (n := 8) rfl rfl rfl ?_
    refine jv_ic_le (t := 19) (pc' := 11) (a := x) (b := 8) rfl rfl rfl (by omega) (fun hz_2 => ?_) (fun hz_2 => ?_)
    · skip
      exfalso; omega
    · skip
      refine jx_ret0 rfl ⟨_, rfl, ?_⟩
      first
      | (exfalso; omega)
      | rfl
theorem AV1_wr {n : Nat} (h : AV1 A) (hn : aN A + n ≤ 80) : AV1 (aWr A b n) := by
  have h0 := h.1
  have e2 : aWr A b n 103 2 = ((aN A + n : Nat) : Int) := (if_neg (by omega)).trans (jm_u_eq ⟨rfl, rfl⟩)
  refine ⟨by rw [e2]; omega, fun k hk => ?_⟩
  rw [e2] at hk
  by_cases hq : aN A ≤ k
  · have e : aWr A b n 104 k = ((bz b (k - aN A) : Nat) : Int) := if_pos ⟨rfl, hq, by omega⟩
    have := (bz_s b (k - aN A)).1
    rw [e]; omega
  · have e : aWr A b n 104 k = A 104 k := (if_neg (by omega)).trans (jm_u_n2 (by omega))
    rw [e]; exact h.2 k (by unfold aN at hq; omega)
theorem RDr_wr {n : Nat} {I I' : Nat → Nat → Int32} (h : AV1 A) (hd : RDr I A) (hn : aN A + n ≤ 80) (h1 : I' 1 1 = iI ((aN A + n : Nat) : Int)) (h2 : ∀ i, i < aN A → I' 2 i = I 2 i) (h3 : ∀ i, i < n → I' 2 (aN A + i) = iI ((bz b i : Nat) : Int)) : RDr I' (aWr A b n) := by
  have hv := AV1_wr (b := b) h hn
  have h0 := h.1
  have e2 : aWr A b n 103 2 = ((aN A + n : Nat) : Int) := (if_neg (by omega)).trans (jm_u_eq ⟨rfl, rfl⟩)
  have eN : aN (aWr A b n) = aN A + n := by show (aWr A b n 103 2).toNat = _; rw [e2]; omega
  have eC : ∀ k, k < aN A + n → aC (aWr A b n) k = aWr A b n 104 k := fun k hk => if_pos (by rw [e2]; omega)
  unfold RDr
  rw [eN]
  refine ⟨h1, hn, fun k hk => ?_, fun k hk => ?_, fun k hk => if_neg (by rw [e2]; omega)⟩
  · rw [eC k hk]
    by_cases hq : aN A ≤ k
    · have e : aWr A b n 104 k = ((bz b (k - aN A) : Nat) : Int) := if_pos ⟨rfl, hq, by omega⟩
      have := h3 (k - aN A) (by omega)
      rw [show aN A + (k - aN A) = k by omega] at this
      rw [e]; exact this
    · have e : aWr A b n 104 k = A 104 k := (if_neg (by omega)).trans (jm_u_n2 (by omega))
      have e3 : aC A k = A 104 k := if_pos (by unfold aN at hq; omega)
      have := hd.2.2.1 k (by omega)
      rw [e3] at this
      rw [e]; exact (h2 k (by omega)).trans this
  · rw [eC k hk]; exact hv.2 k (by rw [e2]; omega)
theorem op_write_c (hR : CR I M p A) (hok : 1 ≤ n ∧ n ≤ 8) : jc L xs d 2 [.ref 0, .int (iI ((n : Nat) : Int)), .long b] (jx_G j I M p) (fun v g1 => ∃ I', g1 = jx_G j I' M p ∧ fr cW I I' ∧ ((aN A + n ≤ 80 ∧ v = some (.int (iI ((aN A + n : Nat) : Int))) ∧ CR I' M p (aWr A b n)) ∨ (¬ aN A + n ≤ 80 ∧ v = some (.int (iI (-1))) ∧ CR I' M p A))) := by
  unfold jc
  have hv1 := hR.1.1.1
  have hN : ((aN A : Nat) : Int) = A 103 2 := by unfold aN; omega
  refine jv_iload_n (pc' := 1) (k := 1) (x := (iI ((n : Nat) : Int))) rfl rfl rfl rfl ?_
  refine jv_iconst (pc' := 2) (n := 1) rfl rfl ?_
  refine jv_ic_lt (t := 11) (pc' := 5) (a := ((n : Nat) : Int)) (b := 1) rfl rfl rfl (by omega) (fun hz_1 => ?_) (fun hz_1 => ?_)
  · skip
    exfalso; omega
  · skip
    refine jv_iload_n (pc' := 6) (k := 1) (x := (iI ((n : Nat) : Int))) rfl rfl rfl rfl ?_
    refine jv_bipush (pc' := 8) (n := 8) rfl rfl rfl ?_
    refine jv_ic_le (t := 19) (pc' := 11) (a := ((n : Nat) : Int)) (b := 8) rfl rfl rfl (by omega) (fun hz_2 => ?_) (fun hz_2 => ?_)
    · skip
      refine jv_aload_n (pc' := 20) (k := 0) (x := 0) rfl rfl rfl rfl ?_
      refine jv_getR (pc' := 23) (c := 0) (k := 0) (v := 1) rfl rfl rfl (fun _ _ => rfl) rfl rfl (jR_0_0 _) ?_
      refine jv_getI (pc' := 26) (c := 1) (k := 1) (v := (iI ((aN A : Nat) : Int))) rfl rfl rfl (fun _ _ => rfl) rfl rfl hR.2.1.1 ?_
      refine jv_iload_n (pc' := 27) (k := 1) (x := (iI ((n : Nat) : Int))) rfl rfl rfl rfl ?_
      refine jv_iadd (pc' := 28) (a := ((aN A : Nat) : Int)) (b := ((n : Nat) : Int)) rfl rfl ?_
      refine jv_bipush (pc' := 30) (n := 80) rfl rfl rfl ?_
      refine jv_ic_le (t := 35) (pc' := 33) (a := (((aN A : Nat) : Int) + ((n : Nat) : Int))) (b := 80) rfl rfl rfl (by omega) (fun hz_3 => ?_) (fun hz_3 => ?_)
      · skip
        refine jv_iconst (pc' := 36) (n := 0) rfl rfl ?_
        refine jv_istore (pc' := 38) (k := 4) (x := (iI 0)) rfl rfl rfl (Or.inr rfl) ?_
        have H4 : ∀ (N : Nat) (k : Nat) (I1 : Nat → Nat → Int32), n - k < N → (k ≤ n) → (aN A + n ≤ 80) → (fr (fun l _ => l = 1 ∨ l = 2) I I1) → (I1 1 1 = iI ((aN A : Nat) : Int)) → (∀ i, i < aN A → I1 2 i = I 2 i) → (∀ i, i < k → I1 2 (aN A + i) = iI ((bz b i : Nat) : Int)) → ∀ f : jm_F, f 0 = some (.ref 0) → f 1 = some (.int (iI ((n : Nat) : Int))) → f 2 = some (.long b) → f 4 = some (.int (iI ((k : Nat) : Int))) → jm_lng (f 3) = false → jx L xs (d) 2 38 f [] (jx_G j I1 M p) (fun z => ∃ v g1, z = (.inl v, g1) ∧ (fun v g1 => ∃ I', g1 = jx_G j I' M p ∧ fr cW I I' ∧ ((aN A + n ≤ 80 ∧ v = some (.int (iI ((aN A + n : Nat) : Int))) ∧ CR I' M p (aWr A b n)) ∨ (¬ aN A + n ≤ 80 ∧ v = some (.int (iI (-1))) ∧ CR I' M p A))) v g1) := by
          intro N
          induction N with
          | zero => intro k I1 hN; exact absurd hN (Nat.not_lt_zero _)
          | succ N ih =>
            intro k I1 hN hk hn80 hf h11 hold hnew f hf0 hf1 hf2 hf4 hg3
            refine jv_iload (pc' := 40) (k := 4) (x := (iI ((k : Nat) : Int))) rfl rfl hf4 ?_
            refine jv_iload_n (pc' := 41) (k := 1) (x := (iI ((n : Nat) : Int))) rfl rfl rfl hf1 ?_
            refine jv_ic_ge (t := 80) (pc' := 44) (a := ((k : Nat) : Int)) (b := ((n : Nat) : Int)) rfl rfl rfl (by omega) (fun hz_5 => ?_) (fun hz_5 => ?_)
            · skip
              refine jv_aload_n (pc' := 81) (k := 0) (x := 0) rfl rfl rfl hf0 ?_
              refine jv_getR (pc' := 84) (c := 0) (k := 0) (v := 1) rfl rfl rfl (fun _ _ => rfl) rfl rfl (jR_0_0 _) ?_
              refine jx_step (pc' := 85) rfl ?_
              refine jv_getI (pc' := 88) (c := 1) (k := 1) (v := (iI ((aN A : Nat) : Int))) rfl rfl rfl (fun _ _ => rfl) rfl rfl h11 ?_
              refine jv_iload_n (pc' := 89) (k := 1) (x := (iI ((n : Nat) : Int))) rfl rfl rfl hf1 ?_
              refine jv_iadd (pc' := 90) (a := ((aN A : Nat) : Int)) (b := ((n : Nat) : Int)) rfl rfl ?_
              refine jv_putI (pc' := 93) (c := 1) (k := 1) rfl rfl rfl rfl (fun _ _ _  => rfl) rfl rfl ?_
              refine jv_aload_n (pc' := 94) (k := 0) (x := 0) rfl rfl rfl hf0 ?_
              refine jv_getR (pc' := 97) (c := 0) (k := 0) (v := 1) rfl rfl rfl (fun _ _ => rfl) rfl rfl (jR_0_0 _) ?_
              refine jv_getI (pc' := 100) (c := 1) (k := 1) (v := (iI (((aN A : Nat) : Int) + ((n : Nat) : Int)))) rfl rfl rfl (fun _ _ => rfl) rfl rfl rfl ?_
              refine jv_retI rfl rfl ⟨_, _, rfl, ?_⟩
              first
              | (exfalso; omega)
              | (have ek : k = n := by omega
                 subst ek
                 refine ⟨_, rfl, fr_w (fr_u (by simp) hf) (fun l k h => by unfold cW; omega), Or.inl ⟨by omega, rfl, CR_dr hR (fr_u (by simp) hf) ?_ ?_ (fun l k hl => (if_neg (by omega)).trans (jm_u_n2 (by omega)))⟩⟩
                 · exact AV1_wr hR.1.1 (by omega)
                 · exact RDr_wr hR.1.1 hR.2.1 (by omega) rfl (fun i hi => (jm_u_n2 (by omega)).trans (hold i hi)) (fun i hi => (jm_u_n2 (by omega)).trans (hnew i hi)))
            · skip
              refine jv_aload_n (pc' := 45) (k := 0) (x := 0) rfl rfl rfl hf0 ?_
              refine jv_getR (pc' := 48) (c := 0) (k := 0) (v := 1) rfl rfl rfl (fun _ _ => rfl) rfl rfl (jR_0_0 _) ?_
              refine jv_getR (pc' := 51) (c := 1) (k := 0) (v := 2) rfl rfl rfl (fun _ _ => rfl) rfl rfl (jR_1_0 _) ?_
              refine jv_aload_n (pc' := 52) (k := 0) (x := 0) rfl rfl rfl hf0 ?_
              refine jv_getR (pc' := 55) (c := 0) (k := 0) (v := 1) rfl rfl rfl (fun _ _ => rfl) rfl rfl (jR_0_0 _) ?_
              refine jv_getI (pc' := 58) (c := 1) (k := 1) (v := (iI ((aN A : Nat) : Int))) rfl rfl rfl (fun _ _ => rfl) rfl rfl h11 ?_
              refine jv_iload (pc' := 60) (k := 4) (x := (iI ((k : Nat) : Int))) rfl rfl hf4 ?_
              refine jv_iadd (pc' := 61) (a := ((aN A : Nat) : Int)) (b := ((k : Nat) : Int)) rfl rfl ?_
              refine jv_lload_n (pc' := 62) (k := 2) (x := b) rfl rfl rfl hf2 ?_
              refine jv_bipush (pc' := 64) (n := 8) rfl rfl rfl ?_
              refine jv_iload (pc' := 66) (k := 4) (x := (iI ((k : Nat) : Int))) rfl rfl hf4 ?_
              refine jv_imul (pc' := 67) (a := 8) (b := ((k : Nat) : Int)) rfl rfl ?_
              refine jv_long (pc' := 68) (y := (b >>> ((iI ((8 * k : Nat) : Int)).toInt64 &&& 63))) rfl rfl ?_
              refine jv_int (pc' := 69) (y := ((b >>> ((iI ((8 * k : Nat) : Int)).toInt64 &&& 63)).toInt32)) rfl rfl ?_
              refine jv_sipush (pc' := 72) (n := 255) rfl rfl rfl ?_
              refine jv_int (pc' := 73) (y := (iI ((bz b k : Nat) : Int))) rfl ((bz_s b k).2) ?_
              refine jv_iastore (pc' := 74) (n := 80) (e := (((aN A : Nat) : Int) + ((k : Nat) : Int))) (v := (iI ((bz b k : Nat) : Int))) rfl rfl rfl rfl rfl (by omega) ?_
              refine jv_iinc (pc' := 77) (k := 4) (a := ((k : Nat) : Int)) rfl rfl hf4 rfl (Or.inr hg3) ?_
              refine jx_step (pc' := 38) rfl ?_
              exact ih (k + 1) (jm_u I1 2 (((aN A : Nat) : Int) + ((k : Nat) : Int) : Int).toNat (iI ((bz b k : Nat) : Int))) (by omega) (by omega) hn80 (fr_t hf (fr_u (Or.inr rfl) (fr_r _))) h11 (fun i hi => (jm_u_n2 (by omega)).trans (hold i hi)) (fun i hi => by
                    by_cases e : i = k
                    · subst e; exact jm_u_eq ⟨rfl, by omega⟩
                    · exact (jm_u_n2 (by omega)).trans (hnew i (by omega))) _ hf0 hf1 hf2 rfl hg3
        exact H4 _ 0 I (Nat.lt_succ_self _) (by omega) (by omega) (fr_r _) hR.2.1.1 (fun _ _ => rfl) (fun i hi => absurd hi (by omega)) _ rfl rfl rfl rfl rfl
      · skip
        refine jv_iconst (pc' := 34) (n := -1) rfl rfl ?_
        refine jv_retI rfl rfl ⟨_, _, rfl, ?_⟩
        first
        | (exfalso; omega)
        | exact ⟨_, rfl, fr_r _, Or.inr ⟨by omega, rfl, hR⟩⟩
    · skip
      exfalso; omega
theorem op_write_b (hx : iR x) (hM : CM I M A) (hbad : ¬ (1 ≤ x ∧ x ≤ 8)) : jc L xs d 108 [.ref 103, .int (iI x), .long b] (jx_G j I M p) (fun v g1 => ∃ I', g1 = jx_G j I' M p ∧ fr mW I I' ∧ CM I' M A ∧ I' 103 0 = iI 1) := by
  unfold jc
  refine jv_aload_n (pc' := 1) (k := 0) (x := 103) rfl rfl rfl rfl ?_
  refine jv_iload_n (pc' := 2) (k := 1) (x := (iI x)) rfl rfl rfl rfl ?_
  refine jv_iconst (pc' := 3) (n := 1) rfl rfl ?_
  refine jv_ic_lt (t := 12) (pc' := 6) (a := x) (b := 1) rfl rfl rfl (by omega) (fun hz_1 => ?_) (fun hz_1 => ?_)
  · skip
    refine jv_iconst (pc' := 13) (n := 1) rfl rfl ?_
    refine jx_step (pc' := 17) rfl ?_
    refine jv_putI (pc' := 20) (c := 12) (k := 0) rfl rfl rfl rfl (fun _ _ _  => rfl) rfl rfl ?_
    refine jv_aload_n (pc' := 21) (k := 0) (x := 103) rfl rfl rfl rfl ?_
    refine jv_getI (pc' := 24) (c := 12) (k := 0) (v := (iI 1)) rfl rfl rfl (fun _ _ => rfl) rfl rfl rfl ?_
    refine jv_if_le (t := 29) (pc' := 27) (a := 1) rfl rfl rfl (by omega) (fun hz_2 => ?_) (fun hz_2 => ?_)
    · skip
      exact absurd hz_2 (by decide)
    · skip
      refine jv_iconst (pc' := 28) (n := 0) rfl rfl ?_
      refine jv_retI rfl rfl ⟨_, _, rfl, ?_⟩
      first
      | (exfalso; omega)
      | exact ⟨_, rfl, fr_u (by simp [mW]) (fr_r _), CM_n hM (by simp [pers]), rfl⟩
  · skip
    refine jv_iload_n (pc' := 7) (k := 1) (x := (iI x)) rfl rfl rfl rfl ?_
    refine jv_bipush (pc' := 9) (n := 8) rfl rfl rfl ?_
    refine jv_ic_le (t := 16) (pc' := 12) (a := x) (b := 8) rfl rfl rfl (by omega) (fun hz_3 => ?_) (fun hz_3 => ?_)
    · skip
      refine jv_iconst (pc' := 17) (n := 0) rfl rfl ?_
      refine jv_putI (pc' := 20) (c := 12) (k := 0) rfl rfl rfl rfl (fun _ _ _  => rfl) rfl rfl ?_
      refine jv_aload_n (pc' := 21) (k := 0) (x := 103) rfl rfl rfl rfl ?_
      refine jv_getI (pc' := 24) (c := 12) (k := 0) (v := (iI 0)) rfl rfl rfl (fun _ _ => rfl) rfl rfl rfl ?_
      refine jv_if_le (t := 29) (pc' := 27) (a := 0) rfl rfl rfl (by omega) (fun hz_4 => ?_) (fun hz_4 => ?_)
      · skip
        exfalso; omega
      · skip
        exact absurd hz_4 (by decide)
    · skip
      refine jv_iconst (pc' := 13) (n := 1) rfl rfl ?_
      refine jx_step (pc' := 17) rfl ?_
      refine jv_putI (pc' := 20) (c := 12) (k := 0) rfl rfl rfl rfl (fun _ _ _  => rfl) rfl rfl ?_
      refine jv_aload_n (pc' := 21) (k := 0) (x := 103) rfl rfl rfl rfl ?_
      refine jv_getI (pc' := 24) (c := 12) (k := 0) (v := (iI 1)) rfl rfl rfl (fun _ _ => rfl) rfl rfl rfl ?_
      refine jv_if_le (t := 29) (pc' := 27) (a := 1) rfl rfl rfl (by omega) (fun hz_5 => ?_) (fun hz_5 => ?_)
      · skip
        exact absurd hz_5 (by decide)
      · skip
        refine jv_iconst (pc' := 28) (n := 0) rfl rfl ?_
        refine jv_retI rfl rfl ⟨_, _, rfl, ?_⟩
        first
        | (exfalso; omega)
        | exact ⟨_, rfl, fr_u (by simp [mW]) (fr_r _), CM_n hM (by simp [pers]), rfl⟩
theorem CM_w0 {I : Nat → Nat → Int32} {M : Nat → Nat → Int64} (h : CM I M A) (hN : ((aN A : Nat) : Int) = A 103 2) : CM I M (aWr A b 0) := by
  refine ⟨fun l k hp => ?_, fun l k hl => ?_⟩
  · have e : aWr A b 0 l k = A l k := by
      unfold aWr
      rw [if_neg (by omega)]
      by_cases q : l = 103 ∧ k = 2
      · rw [jm_u_eq q, q.1, q.2, ← hN]; rfl
      · rw [jm_u_n2 q]
    rw [e]; exact h.1 l k hp
  · have e : aWr A b 0 l k = A l k := (if_neg (by omega)).trans (jm_u_n2 (by omega))
    rw [e]; exact h.2 l k hl
theorem CM_ws {I : Nat → Nat → Int32} {M : Nat → Nat → Int64} {k i : Nat} (h : CM I M (aWr A b k)) (hi : i = aN A + k) {z : Int} (hz : z = ((aN A + (k + 1) : Nat) : Int)) : CM (jm_u (jm_u I 104 i (iI ((bz b k : Nat) : Int))) 103 2 (iI z)) M (aWr A b (k + 1)) := by
  subst hi; subst hz
  refine ⟨fun l q hp => ?_, fun l q hl => ?_⟩
  · by_cases h1 : l = 103 ∧ q = 2
    · rw [jm_u_eq h1]
      have e : aWr A b (k + 1) l q = ((aN A + (k + 1) : Nat) : Int) := (if_neg (by omega)).trans (jm_u_eq h1)
      rw [e]
    · rw [jm_u_n2 h1]
      by_cases h2 : l = 104 ∧ q = aN A + k
      · rw [jm_u_eq h2]
        have e : aWr A b (k + 1) l q = ((bz b (q - aN A) : Nat) : Int) := if_pos ⟨h2.1, by omega, by omega⟩
        rw [e, show q - aN A = k by omega]
      · rw [jm_u_n2 h2]
        have e : aWr A b (k + 1) l q = aWr A b k l q := by
          unfold aWr
          by_cases h3 : l = 104 ∧ aN A ≤ q ∧ q < aN A + k
          · rw [if_pos h3, if_pos (by omega)]
          · rw [if_neg h3, if_neg (by omega), jm_u_n2 h1, jm_u_n2 h1]
        rw [e]; exact h.1 l q hp
  · have e : aWr A b (k + 1) l q = aWr A b k l q := by
      unfold aWr
      rw [if_neg (by omega), if_neg (by omega), jm_u_n2 (by omega), jm_u_n2 (by omega)]
    rw [e]; exact h.2 l q hl
theorem op_write_m (hM : CM I M A) (hA : AV1 A) (hok : 1 ≤ n ∧ n ≤ 8) : jc L xs d 108 [.ref 103, .int (iI ((n : Nat) : Int)), .long b] (jx_G j I M p) (fun v g1 => ∃ I', g1 = jx_G j I' M p ∧ fr mW I I' ∧ ((aN A + n ≤ 80 ∧ v = some (.int (iI ((aN A + n : Nat) : Int))) ∧ CM I' M (aWr A b n)) ∨ (¬ aN A + n ≤ 80 ∧ v = some (.int (iI (-1))) ∧ CM I' M A)) ∧ I' 103 0 = iI 0) := by
  unfold jc
  have hv1 := hA.1
  have hN : ((aN A : Nat) : Int) = A 103 2 := by unfold aN; omega
  refine jv_aload_n (pc' := 1) (k := 0) (x := 103) rfl rfl rfl rfl ?_
  refine jv_iload_n (pc' := 2) (k := 1) (x := (iI ((n : Nat) : Int))) rfl rfl rfl rfl ?_
  refine jv_iconst (pc' := 3) (n := 1) rfl rfl ?_
  refine jv_ic_lt (t := 12) (pc' := 6) (a := ((n : Nat) : Int)) (b := 1) rfl rfl rfl (by omega) (fun hz_1 => ?_) (fun hz_1 => ?_)
  · skip
    refine jv_iconst (pc' := 13) (n := 1) rfl rfl ?_
    refine jx_step (pc' := 17) rfl ?_
    refine jv_putI (pc' := 20) (c := 12) (k := 0) rfl rfl rfl rfl (fun _ _ _  => rfl) rfl rfl ?_
    refine jv_aload_n (pc' := 21) (k := 0) (x := 103) rfl rfl rfl rfl ?_
    refine jv_getI (pc' := 24) (c := 12) (k := 0) (v := (iI 1)) rfl rfl rfl (fun _ _ => rfl) rfl rfl rfl ?_
    refine jv_if_le (t := 29) (pc' := 27) (a := 1) rfl rfl rfl (by omega) (fun hz_2 => ?_) (fun hz_2 => ?_)
    · skip
      exact absurd hz_2 (by decide)
    · skip
      refine jv_iconst (pc' := 28) (n := 0) rfl rfl ?_
      refine jv_retI rfl rfl ⟨_, _, rfl, ?_⟩
      first
      | (exfalso; omega)
      | (have ek : k = n := by omega
         subst ek
         exact ⟨_, rfl, fr_w hf (fun l k h => by unfold mW; omega), Or.inl ⟨by omega, rfl, hCM⟩, h0⟩)
  · skip
    refine jv_iload_n (pc' := 7) (k := 1) (x := (iI ((n : Nat) : Int))) rfl rfl rfl rfl ?_
    refine jv_bipush (pc' := 9) (n := 8) rfl rfl rfl ?_
    refine jv_ic_le (t := 16) (pc' := 12) (a := ((n : Nat) : Int)) (b := 8) rfl rfl rfl (by omega) (fun hz_3 => ?_) (fun hz_3 => ?_)
    · skip
      refine jv_iconst (pc' := 17) (n := 0) rfl rfl ?_
      refine jv_putI (pc' := 20) (c := 12) (k := 0) rfl rfl rfl rfl (fun _ _ _  => rfl) rfl rfl ?_
      refine jv_aload_n (pc' := 21) (k := 0) (x := 103) rfl rfl rfl rfl ?_
      refine jv_getI (pc' := 24) (c := 12) (k := 0) (v := (iI 0)) rfl rfl rfl (fun _ _ => rfl) rfl rfl rfl ?_
      refine jv_if_le (t := 29) (pc' := 27) (a := 0) rfl rfl rfl (by omega) (fun hz_4 => ?_) (fun hz_4 => ?_)
      · skip
        refine jv_aload_n (pc' := 30) (k := 0) (x := 103) rfl rfl rfl rfl ?_
        refine jv_getI (pc' := 33) (c := 12) (k := 2) (v := (iI ((aN A : Nat) : Int))) rfl rfl rfl (fun _ _ => rfl) rfl rfl ((hM.1 103 2 (by simp [pers])).trans (congrArg iI hN.symm)) ?_
        refine jv_iload_n (pc' := 34) (k := 1) (x := (iI ((n : Nat) : Int))) rfl rfl rfl rfl ?_
        refine jv_iadd (pc' := 35) (a := ((aN A : Nat) : Int)) (b := ((n : Nat) : Int)) rfl rfl ?_
        refine jv_bipush (pc' := 37) (n := 80) rfl rfl rfl ?_
        refine jv_ic_le (t := 42) (pc' := 40) (a := (((aN A : Nat) : Int) + ((n : Nat) : Int))) (b := 80) rfl rfl rfl (by omega) (fun hz_5 => ?_) (fun hz_5 => ?_)
        · skip
          refine jv_iconst (pc' := 43) (n := 0) rfl rfl ?_
          refine jv_istore (pc' := 45) (k := 4) (x := (iI 0)) rfl rfl rfl (Or.inr rfl) ?_
          have H6 : ∀ (N : Nat) (k : Nat) (I1 : Nat → Nat → Int32), n - k < N → (k ≤ n) → (aN A + n ≤ 80) → (fr (fun l k => (l = 103 ∧ (k = 0 ∨ k = 2)) ∨ l = 104) I I1) → (I1 103 2 = iI ((aN A + k : Nat) : Int)) → (I1 103 0 = iI 0) → (CM I1 M (aWr A b k)) → ∀ f : jm_F, f 0 = some (.ref 103) → f 1 = some (.int (iI ((n : Nat) : Int))) → f 2 = some (.long b) → f 4 = some (.int (iI ((k : Nat) : Int))) → jm_lng (f 3) = false → jx L xs (d) 108 45 f [] (jx_G j I1 M p) (fun z => ∃ v g1, z = (.inl v, g1) ∧ (fun v g1 => ∃ I', g1 = jx_G j I' M p ∧ fr mW I I' ∧ ((aN A + n ≤ 80 ∧ v = some (.int (iI ((aN A + n : Nat) : Int))) ∧ CM I' M (aWr A b n)) ∨ (¬ aN A + n ≤ 80 ∧ v = some (.int (iI (-1))) ∧ CM I' M A)) ∧ I' 103 0 = iI 0) v g1) := by
            intro N
            induction N with
            | zero => intro k I1 hN; exact absurd hN (Nat.not_lt_zero _)
            | succ N ih =>
              intro k I1 hN hk hn80 hf h2 h0 hCM f hf0 hf1 hf2 hf4 hg3
              refine jv_iload (pc' := 47) (k := 4) (x := (iI ((k : Nat) : Int))) rfl rfl hf4 ?_
              refine jv_iload_n (pc' := 48) (k := 1) (x := (iI ((n : Nat) : Int))) rfl rfl rfl hf1 ?_
              refine jv_ic_ge (t := 88) (pc' := 51) (a := ((k : Nat) : Int)) (b := ((n : Nat) : Int)) rfl rfl rfl (by omega) (fun hz_7 => ?_) (fun hz_7 => ?_)
              · skip
                refine jv_aload_n (pc' := 89) (k := 0) (x := 103) rfl rfl rfl hf0 ?_
                refine jv_getI (pc' := 92) (c := 12) (k := 2) (v := (iI ((aN A + k : Nat) : Int))) rfl rfl rfl (fun _ _ => rfl) rfl rfl h2 ?_
                refine jv_retI rfl rfl ⟨_, _, rfl, ?_⟩
                first
                | (exfalso; omega)
                | (have ek : k = n := by omega
                   subst ek
                   exact ⟨_, rfl, fr_w hf (fun l k h => by unfold mW; omega), Or.inl ⟨by omega, rfl, hCM⟩, h0⟩)
              · skip
                refine jv_aload_n (pc' := 52) (k := 0) (x := 103) rfl rfl rfl hf0 ?_
                refine jv_getR (pc' := 55) (c := 12) (k := 1) (v := 104) rfl rfl rfl (fun _ _ => rfl) rfl rfl (jR_103_1 _) ?_
                refine jv_aload_n (pc' := 56) (k := 0) (x := 103) rfl rfl rfl hf0 ?_
                refine jv_getI (pc' := 59) (c := 12) (k := 2) (v := (iI ((aN A + k : Nat) : Int))) rfl rfl rfl (fun _ _ => rfl) rfl rfl h2 ?_
                refine jv_lload_n (pc' := 60) (k := 2) (x := b) rfl rfl rfl hf2 ?_
                refine jv_bipush (pc' := 62) (n := 8) rfl rfl rfl ?_
                refine jv_iload (pc' := 64) (k := 4) (x := (iI ((k : Nat) : Int))) rfl rfl hf4 ?_
                refine jv_imul (pc' := 65) (a := 8) (b := ((k : Nat) : Int)) rfl rfl ?_
                refine jv_long (pc' := 66) (y := (b >>> ((iI ((8 * k : Nat) : Int)).toInt64 &&& 63))) rfl rfl ?_
                refine jv_long (pc' := 69) (y := lI (255)) rfl (by decide) ?_
                refine jv_long (pc' := 70) (y := (b >>> ((iI ((8 * k : Nat) : Int)).toInt64 &&& 63)) &&& (lI 255)) rfl rfl ?_
                refine jv_int (pc' := 71) (y := (iI ((bz b k : Nat) : Int))) rfl (bz_m b k) ?_
                refine jv_iastore (pc' := 72) (n := 80) (e := ((aN A + k : Nat) : Int)) (v := (iI ((bz b k : Nat) : Int))) rfl rfl rfl rfl rfl (by omega) ?_
                refine jv_aload_n (pc' := 73) (k := 0) (x := 103) rfl rfl rfl hf0 ?_
                refine jx_step (pc' := 74) rfl ?_
                refine jv_getI (pc' := 77) (c := 12) (k := 2) (v := (iI ((aN A + k : Nat) : Int))) rfl rfl rfl (fun _ _ => rfl) rfl rfl h2 ?_
                refine jv_iconst (pc' := 78) (n := 1) rfl rfl ?_
                refine jv_iadd (pc' := 79) (a := ((aN A + k : Nat) : Int)) (b := 1) rfl rfl ?_
                refine jv_putI (pc' := 82) (c := 12) (k := 2) rfl rfl rfl rfl (fun _ _ _  => rfl) rfl rfl ?_
                refine jv_iinc (pc' := 85) (k := 4) (a := ((k : Nat) : Int)) rfl rfl hf4 rfl (Or.inr hg3) ?_
                refine jx_step (pc' := 45) rfl ?_
                exact ih (k + 1) (jm_u (jm_u I1 104 (((aN A + k : Nat) : Int) : Int).toNat (iI ((bz b k : Nat) : Int))) 103 2 (iI (((aN A + k : Nat) : Int) + 1))) (by omega) (by omega) hn80 (fr_t hf (fr_u (Or.inl ⟨rfl, Or.inr rfl⟩) (fr_u (Or.inr rfl) (fr_r _)))) rfl h0 (CM_ws hCM (by omega) (by omega)) _ hf0 hf1 hf2 rfl hg3
          exact H6 _ 0 (jm_u I 103 0 (iI 0)) (Nat.lt_succ_self _) (by omega) (by omega) (fr_u (Or.inl ⟨rfl, Or.inl rfl⟩) (fr_r _)) ((hM.1 103 2 (by simp [pers])).trans (congrArg iI hN.symm)) rfl (CM_w0 (CM_n hM (by simp [pers])) hN) _ rfl rfl rfl rfl rfl
        · skip
          refine jv_iconst (pc' := 41) (n := -1) rfl rfl ?_
          refine jv_retI rfl rfl ⟨_, _, rfl, ?_⟩
          first
          | (exfalso; omega)
          | exact ⟨_, rfl, fr_u (by simp [mW]) (fr_r _), Or.inr ⟨by omega, rfl, CM_n hM (by simp [pers])⟩, rfl⟩
      · skip
        exact absurd hz_4 (by decide)
    · skip
      refine jv_iconst (pc' := 13) (n := 1) rfl rfl ?_
      refine jx_step (pc' := 17) rfl ?_
      refine jv_putI (pc' := 20) (c := 12) (k := 0) rfl rfl rfl rfl (fun _ _ _  => rfl) rfl rfl ?_
      refine jv_aload_n (pc' := 21) (k := 0) (x := 103) rfl rfl rfl rfl ?_
      refine jv_getI (pc' := 24) (c := 12) (k := 0) (v := (iI 1)) rfl rfl rfl (fun _ _ => rfl) rfl rfl rfl ?_
      refine jv_if_le (t := 29) (pc' := 27) (a := 1) rfl rfl rfl (by omega) (fun hz_8 => ?_) (fun hz_8 => ?_)
      · skip
        exact absurd hz_8 (by decide)
      · skip
        refine jv_iconst (pc' := 28) (n := 0) rfl rfl ?_
        refine jv_retI rfl rfl ⟨_, _, rfl, ?_⟩
        first
        | (exfalso; omega)
        | (have ek : k = n := by omega
           subst ek
           exact ⟨_, rfl, fr_w hf (fun l k h => by unfold mW; omega), Or.inl ⟨by omega, rfl, hCM⟩, h0⟩)
end H3
