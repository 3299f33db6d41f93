/-! printed in part by wip/whole/gen/d11.py: the reference decodes a frame -/
def MLY (I : Nat → Nat → Int32) (cL : Nat → Nat → Int) (nL : Nat → Nat) : Prop := ∀ l, l < 4 → I 106 l = iI ((nL l : Nat) : Int) ∧ nL l ≤ 80 ∧ ∀ k, k < nL l → I 105 (80 * l + k) = iI (cL l k)
def MFW (I : Nat → Nat → Int32) (fc : Nat → Nat) (fva fnx : Nat → Nat → Int) : Prop := ∀ l, l < 4 → I 110 l = iI ((fc l : Nat) : Int) ∧ fc l ≤ 8 ∧ (∀ k, k < fc l → I 111 (8 * l + k) = iI (fva l k) ∧ I 112 (8 * l + k) = iI (fnx l k) ∧ (0 ≤ fva l k ∧ fva l k < 2147483648) ∧ (0 ≤ fnx l k ∧ fnx l k < 4)) ∧ (∀ k k', k < fc l → k' < fc l → fva l k = fva l k' → k = k')
theorem MLY_fr {W : Nat → Nat → Prop} {I I' : Nat → Nat → Int32} {cL : Nat → Nat → Int} {nL : Nat → Nat} (h : MLY I cL nL) (f : fr W I I') (h1 : ∀ k, ¬ W 105 k ∧ ¬ W 106 k) : MLY I' cL nL := fun l hl => ⟨(f _ _ (h1 _).2).trans (h l hl).1, (h l hl).2.1, fun k hk => (f _ _ (h1 _).1).trans ((h l hl).2.2 k hk)⟩
theorem MFW_fr {W : Nat → Nat → Prop} {I I' : Nat → Nat → Int32} {fc : Nat → Nat} {fva fnx : Nat → Nat → Int} (h : MFW I fc fva fnx) (f : fr W I I') (h1 : ∀ k, ¬ W 110 k ∧ ¬ W 111 k ∧ ¬ W 112 k) : MFW I' fc fva fnx := fun l hl => by
  obtain ⟨a, b, c, e⟩ := h l hl
  exact ⟨(f _ _ (h1 _).1).trans a, b, fun k hk => ⟨(f _ _ (h1 _).2.1).trans (c k hk).1, (f _ _ (h1 _).2.2).trans (c k hk).2.1, (c k hk).2.2⟩, e⟩
def DMe (I : Nat → Nat → Int32) (M : Nat → Nat → Int64) (s : DSt) : Prop := I 103 30 = iI (s 0 0) ∧ I 103 32 = iI (s 0 1) ∧ I 103 22 = iI (s 0 2) ∧ (∀ k : Nat, (k : Int) < s 0 2 → I 119 k = iI (s 3 k) ∧ I 120 k = iI (s 4 k) ∧ I 121 k = iI (s 5 k) ∧ I 122 k = iI (s 6 k) ∧ I 123 k = iI (s 7 k) ∧ M 124 k = lI (s 8 k))
theorem DMe_dn {I : Nat → Nat → Int32} {M : Nat → Nat → Int64} {s s' : DSt} (h : DM I M s') (q : s12 s s') : DMe I M s := by
  obtain ⟨h1, h2, h3, _, h5⟩ := h
  rw [q 0 0 (by omega) (by omega)] at h1
  rw [q 0 1 (by omega) (by omega)] at h2
  rw [q 0 2 (by omega) (by omega)] at h3 h5
  refine ⟨h1, h2, h3, fun k hk => ?_⟩
  have := h5 k hk
  rw [q 3 k (by omega) (by omega), q 4 k (by omega) (by omega), q 5 k (by omega) (by omega), q 6 k (by omega) (by omega), q 7 k (by omega) (by omega), q 8 k (by omega) (by omega)] at this
  exact this
theorem DM_Z {I : Nat → Nat → Int32} {M : Nat → Nat → Int64} {s : DSt} (h : DMe I M s) (h1 : ∀ k, k < 8 → M 125 k = lI 0 ∧ I 126 k = iI 0) : DM I M (dZ s) := by
  refine ⟨h.1, h.2.1, h.2.2.1, fun k hk => ?_, h.2.2.2⟩
  rw [dZ_1 s (Or.inl rfl) hk, dZ_1 s (Or.inr rfl) hk]
  exact h1 k hk
theorem DMe_fr {W V : Nat → Nat → Prop} {I I' : Nat → Nat → Int32} {M M' : Nat → Nat → Int64} {s : DSt} (h : DMe I M s) (f : fr W I I') (g : fr V M M') (h1 : ¬ W 103 30 ∧ ¬ W 103 32 ∧ ¬ W 103 22 ∧ ∀ l k, 119 ≤ l → l ≤ 123 → ¬ W l k) (h2 : ∀ k, ¬ V 124 k) : DMe I' M' s := by
  obtain ⟨a, b, c, e⟩ := h
  refine ⟨(f _ _ h1.1).trans a, (f _ _ h1.2.1).trans b, (f _ _ h1.2.2.1).trans c, fun k hk => ?_⟩
  obtain ⟨x1, x2, x3, x4, x5, x6⟩ := e k hk
  exact ⟨(f _ _ (h1.2.2.2 _ _ (by omega) (by omega))).trans x1, (f _ _ (h1.2.2.2 _ _ (by omega) (by omega))).trans x2, (f _ _ (h1.2.2.2 _ _ (by omega) (by omega))).trans x3, (f _ _ (h1.2.2.2 _ _ (by omega) (by omega))).trans x4, (f _ _ (h1.2.2.2 _ _ (by omega) (by omega))).trans x5, (g _ _ (h2 _)).trans x6⟩
theorem dSZ (s : DSt) : dS (dZ s) = dZ (dS s) := by
  funext r k
  unfold dS dZ jm_u
  by_cases h : r = 1 ∨ r = 2
  · have hr : r ≠ 0 := by omega
    simp [h, hr]
  · simp [h]
theorem dEZ (s : DSt) (l nm bits v mk : Int) : s12 (dE s l nm bits v mk) (dE (dZ s) l nm bits v mk) := s12_E (s12_Z s)
/-- all that decoding in the reference writes -/
def wA (l k : Nat) : Prop := (l = 103 ∧ (k = 18 ∨ k = 19 ∨ k = 20 ∨ k = 22 ∨ k = 29 ∨ k = 30 ∨ k = 31 ∨ k = 32 ∨ k = 33 ∨ k = 34 ∨ k = 37)) ∨ l = 117 ∨ (119 ≤ l ∧ l ≤ 123) ∨ l = 126 ∨ l = 127 ∨ l = 129
theorem wA_M (l k : Nat) (h : wM l k) : wA l k := by unfold wM at h; unfold wA; omega
theorem wA_1 (l k : Nat) (h : wM1 l k) : wA l k := wA_M l k (wM_1 l k h)
def FH (k : Nat) (va : Nat → Int) (vv r : Int) : Prop := (∃ i : Nat, r = (i : Int) ∧ i < k ∧ va i = vv) ∨ (r = -1 ∧ ∀ i, i < k → va i ≠ vv)

section D11
variable {L : Nat} {xs : Nat → Int32} {d j : Nat} {I : Nat → Nat → Int32} {M : Nat → Nat → Int64} {p : Nat → Option Nat}
variable {cL : Nat → Nat → Int} {nL fc : Nat → Nat} {fva fnx : Nat → Nat → Int} {B : Nat → Nat} {ln fi sz lim : Nat} {s s' s2 : DSt} {vv l : Int}
theorem ml_followed (hln : ln < 4) (hF0 : MFW I fc fva fnx) (hv : 0 ≤ vv ∧ vv < 4294967296) : jc L xs d 129 [.ref 103, .int (iI ((ln : Nat) : Int)), .long (lI vv)] (jx_G j I M p) (fun x g1 => ∃ r : Int, x = some (.int (iI r)) ∧ g1 = jx_G j I M p ∧ ((∃ i : Nat, r = (i : Int) ∧ i < fc ln ∧ fva ln i = vv) ∨ (r = -1 ∧ ∀ i, i < fc ln → fva ln i ≠ vv))) := by
  unfold jc
  have hF := hF0 ln hln
  have h8 := hF.2.1
  refine jv_iconst (pc' := 1) (n := -1) rfl rfl ?_
  refine jv_istore (pc' := 3) (k := 4) (x := (iI (-1))) rfl rfl rfl (Or.inr rfl) ?_
  refine jv_iconst (pc' := 4) (n := 0) rfl rfl ?_
  refine jv_istore (pc' := 6) (k := 5) (x := (iI 0)) rfl rfl rfl (Or.inr rfl) ?_
  have H1 : ∀ (N : Nat) (k : Nat) (r : Int), fc ln - k < N → (k ≤ fc ln) → (-1 ≤ r ∧ r < 8) → (FH k (fva ln) vv r) → ∀ f : jm_F, f 0 = some (.ref 103) → f 1 = some (.int (iI ((ln : Nat) : Int))) → f 2 = some (.long (lI vv)) → f 4 = some (.int (iI r)) → f 5 = some (.int (iI ((k : Nat) : Int))) → jm_lng (f 3) = false → jx L xs (d) 129 6 f [] (jx_G j I M p) (fun z => ∃ v g1, z = (.inl v, g1) ∧ (fun x g1 => ∃ r : Int, x = some (.int (iI r)) ∧ g1 = jx_G j I M p ∧ ((∃ i : Nat, r = (i : Int) ∧ i < fc ln ∧ fva ln i = vv) ∨ (r = -1 ∧ ∀ i, i < fc ln → fva ln i ≠ vv))) v g1) := by
    intro N
    induction N with
    | zero => intro k r hN; exact absurd hN (Nat.not_lt_zero _)
    | succ N ih =>
      intro k r hN hk hrb hr f hf0 hf1 hf2 hf4 hf5 hg3
      refine jv_iload (pc' := 8) (k := 5) (x := (iI ((k : Nat) : Int))) rfl rfl hf5 ?_
      refine jv_aload_n (pc' := 9) (k := 0) (x := 103) rfl rfl rfl hf0 ?_
      refine jv_getR (pc' := 12) (c := 12) (k := 8) (v := 110) rfl rfl rfl (fun _ _ => rfl) rfl rfl (jR_103_8 _) ?_
      refine jv_iload_n (pc' := 13) (k := 1) (x := (iI ((ln : Nat) : Int))) rfl rfl rfl hf1 ?_
      refine jv_iaload (pc' := 14) (n := 4) (e := ((ln : Nat) : Int)) (v := (iI ((fc ln : Nat) : Int))) rfl rfl (by decide) rfl rfl rfl (by omega) hF.1 ?_
      refine jv_ic_ge (t := 50) (pc' := 17) (a := ((k : Nat) : Int)) (b := ((fc ln : Nat) : Int)) rfl rfl rfl (by omega) (fun hz_2 => ?_) (fun hz_2 => ?_)
      · skip
        refine jv_iload (pc' := 52) (k := 4) (x := (iI r)) rfl rfl hf4 ?_
        refine jv_retI rfl rfl ⟨_, _, rfl, ?_⟩
        first
        | (exfalso; omega)
        | (have ek : k = fc ln := by omega
           subst ek
           exact ⟨_, rfl, rfl, hr⟩)
      · skip
        have hva := (hF.2.2.1 k (by omega)).2.2.1
        refine jv_aload_n (pc' := 18) (k := 0) (x := 103) rfl rfl rfl hf0 ?_
        refine jv_getR (pc' := 21) (c := 12) (k := 9) (v := 111) rfl rfl rfl (fun _ _ => rfl) rfl rfl (jR_103_9 _) ?_
        refine jv_bipush (pc' := 23) (n := 8) rfl rfl rfl ?_
        refine jv_iload_n (pc' := 24) (k := 1) (x := (iI ((ln : Nat) : Int))) rfl rfl rfl hf1 ?_
        refine jv_imul (pc' := 25) (a := 8) (b := ((ln : Nat) : Int)) rfl rfl ?_
        refine jv_iload (pc' := 27) (k := 5) (x := (iI ((k : Nat) : Int))) rfl rfl hf5 ?_
        refine jv_iadd (pc' := 28) (a := (8 * ((ln : Nat) : Int))) (b := ((k : Nat) : Int)) rfl rfl ?_
        refine jv_iaload (pc' := 29) (n := 32) (e := ((8 * ((ln : Nat) : Int)) + ((k : Nat) : Int))) (v := (iI (fva ln k))) rfl rfl (by decide) rfl rfl rfl (by omega) ((congrArg (I 111) (show ((8 * ((ln : Nat) : Int)) + ((k : Nat) : Int) : Int).toNat = 8 * ln + k by omega)).trans (hF.2.2.1 k (by omega)).1) ?_
        refine jv_i2l (pc' := 30) (a := (fva ln k)) rfl rfl (by omega) ?_
        refine jv_lload_n (pc' := 31) (k := 2) (x := (lI vv)) rfl rfl rfl hf2 ?_
        refine jv_lc_ne (t := 40) (pc' := 35) (a := (fva ln k)) (b := vv) rfl rfl rfl rfl rfl (by omega) (fun hz_3 => ?_) (fun hz_3 => ?_)
        · skip
          refine jv_iload (pc' := 42) (k := 4) (x := (iI r)) rfl rfl hf4 ?_
          refine jv_istore (pc' := 44) (k := 4) (x := (iI r)) rfl rfl rfl (Or.inr hg3) ?_
          refine jv_iinc (pc' := 47) (k := 5) (a := ((k : Nat) : Int)) rfl rfl hf5 rfl (Or.inr rfl) ?_
          refine jx_step (pc' := 6) rfl ?_
          exact ih (k + 1) r (by omega) (by omega) (by omega) (by
                rcases hr with ⟨i, e1, e2, e3⟩ | ⟨e1, e2⟩
                · exact Or.inl ⟨i, e1, by omega, e3⟩
                · refine Or.inr ⟨e1, fun i hi => ?_⟩
                  by_cases e : i = k
                  · subst e; omega
                  · exact e2 i (by omega)) _ hf0 hf1 hf2 rfl rfl hg3
        · skip
          refine jv_iload (pc' := 37) (k := 5) (x := (iI ((k : Nat) : Int))) rfl rfl hf5 ?_
          refine jx_step (pc' := 42) rfl ?_
          refine jv_istore (pc' := 44) (k := 4) (x := (iI ((k : Nat) : Int))) rfl rfl rfl (Or.inr hg3) ?_
          refine jv_iinc (pc' := 47) (k := 5) (a := ((k : Nat) : Int)) rfl rfl hf5 rfl (Or.inr rfl) ?_
          refine jx_step (pc' := 6) rfl ?_
          exact ih (k + 1) ((k : Nat) : Int) (by omega) (by omega) (by omega) (Or.inl ⟨k, rfl, by omega, by omega⟩) _ hf0 hf1 hf2 rfl rfl hg3
  exact H1 _ 0 (-1) (Nat.lt_succ_self _) (by omega) (by omega) (Or.inr ⟨rfl, fun i hi => absurd hi (by omega)⟩) _ rfl rfl rfl rfl rfl rfl
theorem ml_nextLayer {e : Nat} {r : Int} {c : Nat → Int} {n : Nat} (hT : MT I c n) (hln : ln < 4) (hlr : I 103 34 = iI ((ln : Nat) : Int)) (hF : MFW I fc fva fnx) (hat : I 103 19 = iI ((e : Nat) : Int)) (he : e ≤ 80) (hM : DM I M s) (hV : DV lim sz s) (h : (c e = -1 ∧ r = -1) ∨ (c e = 62 ∧ e + 2 = n ∧ (97 ≤ c (e + 1) ∧ c (e + 1) ≤ 104) ∧ ((s 2 (c (e + 1) - 97).toNat = 1 ∧ FO (fc ln) (fva ln) (fnx ln) (s 1 (c (e + 1) - 97).toNat) r) ∨ (s 2 (c (e + 1) - 97).toNat = 0 ∧ r = -1)))) : jc L xs (d + 1) 149 [.ref 103] (jx_G j I M p) (fun v g1 => v = some (.int (iI r)) ∧ g1 = jx_G j I M p) := by
  unfold jc
  have hFl := hF ln hln
  have hf8 := hFl.2.1
  have ho := MT_or hT e
  have hn80 := hT.2.1
  rcases h with ⟨hc, hr⟩ | ⟨hc, hn, hcn, ⟨hsn, hr⟩ | ⟨hsn, hr⟩⟩
  · skip
    refine jv_aload_n (pc' := 1) (k := 0) (x := 103) rfl rfl rfl rfl ?_
    refine jv_getI (pc' := 4) (c := 12) (k := 19) (v := (iI ((e : Nat) : Int))) rfl rfl rfl (fun _ _ => rfl) rfl rfl hat ?_
    refine jv_aload_n (pc' := 5) (k := 0) (x := 103) rfl rfl rfl rfl ?_
    refine jv_getI (pc' := 8) (c := 12) (k := 18) (v := (iI (n : Int))) rfl rfl rfl (fun _ _ => rfl) rfl rfl hT.1 ?_
    refine jv_ic_lt (t := 13) (pc' := 11) (a := ((e : Nat) : Int)) (b := (n : Int)) rfl rfl rfl (by omega) (fun hz_1 => ?_) (fun hz_1 => ?_)
    · skip
      exfalso; omega
    · skip
      refine jv_iconst (pc' := 12) (n := -1) rfl rfl ?_
      refine jv_retI rfl rfl ⟨_, _, rfl, ?_⟩
      first
      | (exfalso; omega)
      | (subst hr; exact ⟨rfl, rfl⟩)
  · skip
    obtain ⟨nm, hnm, hnm8⟩ : ∃ nm : Nat, c (e + 1) - 97 = ((nm : Nat) : Int) ∧ nm < 8 := ⟨(c (e + 1) - 97).toNat, by omega, by omega⟩
    rw [show (c (e + 1) - 97).toNat = nm by omega] at hsn hr
    have hv := (hV.2.2.2 nm hnm8).1
    refine jv_aload_n (pc' := 1) (k := 0) (x := 103) rfl rfl rfl rfl ?_
    refine jv_getI (pc' := 4) (c := 12) (k := 19) (v := (iI ((e : Nat) : Int))) rfl rfl rfl (fun _ _ => rfl) rfl rfl hat ?_
    refine jv_aload_n (pc' := 5) (k := 0) (x := 103) rfl rfl rfl rfl ?_
    refine jv_getI (pc' := 8) (c := 12) (k := 18) (v := (iI (n : Int))) rfl rfl rfl (fun _ _ => rfl) rfl rfl hT.1 ?_
    refine jv_ic_lt (t := 13) (pc' := 11) (a := ((e : Nat) : Int)) (b := (n : Int)) rfl rfl rfl (by omega) (fun hz_1 => ?_) (fun hz_1 => ?_)
    · skip
      refine jv_aload_n (pc' := 14) (k := 0) (x := 103) rfl rfl rfl rfl ?_
      refine jv_getR (pc' := 17) (c := 12) (k := 17) (v := 117) rfl rfl rfl (fun _ _ => rfl) rfl rfl (jR_103_17 _) ?_
      refine jv_aload_n (pc' := 18) (k := 0) (x := 103) rfl rfl rfl rfl ?_
      refine jv_getI (pc' := 21) (c := 12) (k := 19) (v := (iI ((e : Nat) : Int))) rfl rfl rfl (fun _ _ => rfl) rfl rfl hat ?_
      refine jv_iconst (pc' := 22) (n := 1) rfl rfl ?_
      refine jv_iadd (pc' := 23) (a := ((e : Nat) : Int)) (b := 1) rfl rfl ?_
      refine jv_iaload (pc' := 24) (n := 80) (e := (((e : Nat) : Int) + 1)) (v := (iI (c (e + 1)))) rfl rfl (by decide) rfl rfl rfl (by omega) (hT.2.2.1 (e + 1) (by omega)) ?_
      refine jv_bipush (pc' := 26) (n := 97) rfl rfl rfl ?_
      refine jv_isub (pc' := 27) (a := (c (e + 1))) (b := 97) rfl rfl ?_
      rw [show (c (e + 1)) - 97 = ((nm : Nat) : Int) by omega]
      refine jv_istore_n (pc' := 28) (k := 1) (x := (iI ((nm : Nat) : Int))) rfl rfl rfl rfl (Or.inr rfl) ?_
      refine jv_aload_n (pc' := 29) (k := 0) (x := 103) rfl rfl rfl rfl ?_
      refine jv_getR (pc' := 32) (c := 12) (k := 36) (v := 126) rfl rfl rfl (fun _ _ => rfl) rfl rfl (jR_103_36 _) ?_
      refine jv_iload_n (pc' := 33) (k := 1) (x := (iI ((nm : Nat) : Int))) rfl rfl rfl rfl ?_
      refine jv_baload (pc' := 34) (n := 8) (e := ((nm : Nat) : Int)) (v := (iI (s 2 nm))) rfl rfl rfl rfl rfl (by omega) ((hM.2.2.2.1 nm hnm8).2) ?_
      refine jv_if_eq (t := 54) (pc' := 37) (a := (s 2 nm)) rfl rfl rfl (by omega) (fun hz_2 => ?_) (fun hz_2 => ?_)
      · skip
        refine jv_iconst (pc' := 55) (n := -1) rfl rfl ?_
        refine jv_istore_n (pc' := 56) (k := 2) (x := (iI (-1))) rfl rfl rfl rfl (Or.inr rfl) ?_
        refine jv_iload_n (pc' := 57) (k := 2) (x := (iI (-1))) rfl rfl rfl rfl ?_
        refine jv_if_ge (t := 64) (pc' := 60) (a := (-1)) rfl rfl rfl (by omega) (fun hz_3 => ?_) (fun hz_3 => ?_)
        · skip
          exact absurd hz_3 (by decide)
        · skip
          refine jv_iconst (pc' := 61) (n := -1) rfl rfl ?_
          refine jx_step (pc' := 78) rfl ?_
          refine jv_retI rfl rfl ⟨_, _, rfl, ?_⟩
          exfalso; omega
      · skip
        refine jv_aload_n (pc' := 38) (k := 0) (x := 103) rfl rfl rfl rfl ?_
        refine jv_aload_n (pc' := 39) (k := 0) (x := 103) rfl rfl rfl rfl ?_
        refine jv_getI (pc' := 42) (c := 12) (k := 34) (v := (iI ((ln : Nat) : Int))) rfl rfl rfl (fun _ _ => rfl) rfl rfl hlr ?_
        refine jv_aload_n (pc' := 43) (k := 0) (x := 103) rfl rfl rfl rfl ?_
        refine jv_getR (pc' := 46) (c := 12) (k := 35) (v := 125) rfl rfl rfl (fun _ _ => rfl) rfl rfl (jR_103_35 _) ?_
        refine jv_iload_n (pc' := 47) (k := 1) (x := (iI ((nm : Nat) : Int))) rfl rfl rfl rfl ?_
        refine jv_laload (pc' := 48) (n := 8) (e := ((nm : Nat) : Int)) (v := (lI (s 1 nm))) rfl rfl rfl rfl rfl (by omega) ((hM.2.2.2.1 nm hnm8).1) ?_
        refine jv_call (pc' := 51) rfl (ml_followed (ln := ln) (vv := s 1 nm) hln hF hv) (fun vq4 gq4 q4 => ?_)
        obtain ⟨r1, rfl, rfl, q4⟩ := q4
        rcases q4 with ⟨i, rfl, hi, hva⟩ | ⟨rfl, hno⟩
        · skip
          show jx L xs _ 149 51 _ [.int (iI ((i : Nat) : Int))] _ _
          refine jx_step (pc' := 55) rfl ?_
          refine jv_istore_n (pc' := 56) (k := 2) (x := (iI ((i : Nat) : Int))) rfl rfl rfl rfl (Or.inr rfl) ?_
          refine jv_iload_n (pc' := 57) (k := 2) (x := (iI ((i : Nat) : Int))) rfl rfl rfl rfl ?_
          refine jv_if_ge (t := 64) (pc' := 60) (a := ((i : Nat) : Int)) rfl rfl rfl (by omega) (fun hz_5 => ?_) (fun hz_5 => ?_)
          · skip
            refine jv_aload_n (pc' := 65) (k := 0) (x := 103) rfl rfl rfl rfl ?_
            refine jv_getR (pc' := 68) (c := 12) (k := 10) (v := 112) rfl rfl rfl (fun _ _ => rfl) rfl rfl (jR_103_10 _) ?_
            refine jv_bipush (pc' := 70) (n := 8) rfl rfl rfl ?_
            refine jv_aload_n (pc' := 71) (k := 0) (x := 103) rfl rfl rfl rfl ?_
            refine jv_getI (pc' := 74) (c := 12) (k := 34) (v := (iI ((ln : Nat) : Int))) rfl rfl rfl (fun _ _ => rfl) rfl rfl hlr ?_
            refine jv_imul (pc' := 75) (a := 8) (b := ((ln : Nat) : Int)) rfl rfl ?_
            refine jv_iload_n (pc' := 76) (k := 2) (x := (iI ((i : Nat) : Int))) rfl rfl rfl rfl ?_
            refine jv_iadd (pc' := 77) (a := (8 * ((ln : Nat) : Int))) (b := ((i : Nat) : Int)) rfl rfl ?_
            refine jv_iaload (pc' := 78) (n := 32) (e := ((8 * ((ln : Nat) : Int)) + ((i : Nat) : Int))) (v := (iI (fnx ln i))) rfl rfl (by decide) rfl rfl rfl (by omega) ((congrArg (I 112) (show ((8 * ((ln : Nat) : Int)) + ((i : Nat) : Int) : Int).toNat = 8 * ln + i by omega)).trans (hFl.2.2.1 i hi).2.1) ?_
            refine jv_retI rfl rfl ⟨_, _, rfl, ?_⟩
            first
            | (exfalso; omega)
            | (rcases hr with ⟨k2, h1, h2, h3⟩ | ⟨h1, h2⟩
               · have e := hFl.2.2.2 i k2 hi h1 (hva.trans h2.symm)
                 subst e; subst h3; exact ⟨rfl, rfl⟩
               · exact absurd hva (h1 i hi))
          · skip
            refine jv_iconst (pc' := 61) (n := -1) rfl rfl ?_
            refine jx_step (pc' := 78) rfl ?_
            refine jv_retI rfl rfl ⟨_, _, rfl, ?_⟩
            first
            | (exfalso; omega)
            | (rcases hr with ⟨k2, h1, h2, h3⟩ | ⟨h1, h2⟩
               · have e := hFl.2.2.2 i k2 hi h1 (hva.trans h2.symm)
                 subst e; subst h3; exact ⟨rfl, rfl⟩
               · exact absurd hva (h1 i hi))
        · skip
          show jx L xs _ 149 51 _ [.int (iI (-1))] _ _
          refine jx_step (pc' := 55) rfl ?_
          refine jv_istore_n (pc' := 56) (k := 2) (x := (iI (-1))) rfl rfl rfl rfl (Or.inr rfl) ?_
          refine jv_iload_n (pc' := 57) (k := 2) (x := (iI (-1))) rfl rfl rfl rfl ?_
          refine jv_if_ge (t := 64) (pc' := 60) (a := (-1)) rfl rfl rfl (by omega) (fun hz_6 => ?_) (fun hz_6 => ?_)
          · skip
            exact absurd hz_6 (by decide)
          · skip
            refine jv_iconst (pc' := 61) (n := -1) rfl rfl ?_
            refine jx_step (pc' := 78) rfl ?_
            refine jv_retI rfl rfl ⟨_, _, rfl, ?_⟩
            first
            | (exfalso; omega)
            | (rcases hr with ⟨k2, h1, h2, h3⟩ | ⟨h1, h2⟩
               · exact absurd h2 (hno k2 h1)
               · subst h2; exact ⟨rfl, rfl⟩)
    · skip
      refine jv_iconst (pc' := 12) (n := -1) rfl rfl ?_
      refine jv_retI rfl rfl ⟨_, _, rfl, ?_⟩
      exfalso; omega
  · skip
    obtain ⟨nm, hnm, hnm8⟩ : ∃ nm : Nat, c (e + 1) - 97 = ((nm : Nat) : Int) ∧ nm < 8 := ⟨(c (e + 1) - 97).toNat, by omega, by omega⟩
    rw [show (c (e + 1) - 97).toNat = nm by omega] at hsn
    have hv := (hV.2.2.2 nm hnm8).1
    refine jv_aload_n (pc' := 1) (k := 0) (x := 103) rfl rfl rfl rfl ?_
    refine jv_getI (pc' := 4) (c := 12) (k := 19) (v := (iI ((e : Nat) : Int))) rfl rfl rfl (fun _ _ => rfl) rfl rfl hat ?_
    refine jv_aload_n (pc' := 5) (k := 0) (x := 103) rfl rfl rfl rfl ?_
    refine jv_getI (pc' := 8) (c := 12) (k := 18) (v := (iI (n : Int))) rfl rfl rfl (fun _ _ => rfl) rfl rfl hT.1 ?_
    refine jv_ic_lt (t := 13) (pc' := 11) (a := ((e : Nat) : Int)) (b := (n : Int)) rfl rfl rfl (by omega) (fun hz_1 => ?_) (fun hz_1 => ?_)
    · skip
      refine jv_aload_n (pc' := 14) (k := 0) (x := 103) rfl rfl rfl rfl ?_
      refine jv_getR (pc' := 17) (c := 12) (k := 17) (v := 117) rfl rfl rfl (fun _ _ => rfl) rfl rfl (jR_103_17 _) ?_
      refine jv_aload_n (pc' := 18) (k := 0) (x := 103) rfl rfl rfl rfl ?_
      refine jv_getI (pc' := 21) (c := 12) (k := 19) (v := (iI ((e : Nat) : Int))) rfl rfl rfl (fun _ _ => rfl) rfl rfl hat ?_
      refine jv_iconst (pc' := 22) (n := 1) rfl rfl ?_
      refine jv_iadd (pc' := 23) (a := ((e : Nat) : Int)) (b := 1) rfl rfl ?_
      refine jv_iaload (pc' := 24) (n := 80) (e := (((e : Nat) : Int) + 1)) (v := (iI (c (e + 1)))) rfl rfl (by decide) rfl rfl rfl (by omega) (hT.2.2.1 (e + 1) (by omega)) ?_
      refine jv_bipush (pc' := 26) (n := 97) rfl rfl rfl ?_
      refine jv_isub (pc' := 27) (a := (c (e + 1))) (b := 97) rfl rfl ?_
      rw [show (c (e + 1)) - 97 = ((nm : Nat) : Int) by omega]
      refine jv_istore_n (pc' := 28) (k := 1) (x := (iI ((nm : Nat) : Int))) rfl rfl rfl rfl (Or.inr rfl) ?_
      refine jv_aload_n (pc' := 29) (k := 0) (x := 103) rfl rfl rfl rfl ?_
      refine jv_getR (pc' := 32) (c := 12) (k := 36) (v := 126) rfl rfl rfl (fun _ _ => rfl) rfl rfl (jR_103_36 _) ?_
      refine jv_iload_n (pc' := 33) (k := 1) (x := (iI ((nm : Nat) : Int))) rfl rfl rfl rfl ?_
      refine jv_baload (pc' := 34) (n := 8) (e := ((nm : Nat) : Int)) (v := (iI (s 2 nm))) rfl rfl rfl rfl rfl (by omega) ((hM.2.2.2.1 nm hnm8).2) ?_
      refine jv_if_eq (t := 54) (pc' := 37) (a := (s 2 nm)) rfl rfl rfl (by omega) (fun hz_2 => ?_) (fun hz_2 => ?_)
      · skip
        refine jv_iconst (pc' := 55) (n := -1) rfl rfl ?_
        refine jv_istore_n (pc' := 56) (k := 2) (x := (iI (-1))) rfl rfl rfl rfl (Or.inr rfl) ?_
        refine jv_iload_n (pc' := 57) (k := 2) (x := (iI (-1))) rfl rfl rfl rfl ?_
        refine jv_if_ge (t := 64) (pc' := 60) (a := (-1)) rfl rfl rfl (by omega) (fun hz_3 => ?_) (fun hz_3 => ?_)
        · skip
          exact absurd hz_3 (by decide)
        · skip
          refine jv_iconst (pc' := 61) (n := -1) rfl rfl ?_
          refine jx_step (pc' := 78) rfl ?_
          refine jv_retI rfl rfl ⟨_, _, rfl, ?_⟩
          first
          | (exfalso; omega)
          | (subst hr; exact ⟨rfl, rfl⟩)
      · skip
        exfalso; omega
    · skip
      refine jv_iconst (pc' := 12) (n := -1) rfl rfl ?_
      refine jv_retI rfl rfl ⟨_, _, rfl, ?_⟩
      first
      | (exfalso; omega)
      | (subst hr; exact ⟨rfl, rfl⟩)
theorem ml_en0 (h34 : I 103 34 = iI l) (hM : DM I M s) {k : Nat} (hn : s 0 2 = (k : Int)) (h64 : k < 64) {nm bits v mk : Int} : jc L xs d 137 [.ref 103, .int (iI nm), .int (iI bits), .long (lI v), .int (iI mk)] (jx_G j I M p) (fun v' g1 => ∃ I' M', g1 = jx_G j I' M' p ∧ v' = none ∧ DM I' M' (dE s l nm bits v mk) ∧ fr (fun l k => (l = 103 ∧ k = 22) ∨ (119 ≤ l ∧ l ≤ 123)) I I' ∧ fr (fun l _ => l = 124) M M') := by
  unfold jc
  refine jv_aload_n (pc' := 1) (k := 0) (x := 103) rfl rfl rfl rfl ?_
  refine jv_getR (pc' := 4) (c := 12) (k := 23) (v := 119) rfl rfl rfl (fun _ _ => rfl) rfl rfl (jR_103_23 _) ?_
  refine jv_aload_n (pc' := 5) (k := 0) (x := 103) rfl rfl rfl rfl ?_
  refine jv_getI (pc' := 8) (c := 12) (k := 22) (v := (iI (k : Int))) rfl rfl rfl (fun _ _ => rfl) rfl rfl (hM.2.2.1.trans (congrArg iI hn)) ?_
  refine jv_aload_n (pc' := 9) (k := 0) (x := 103) rfl rfl rfl rfl ?_
  refine jv_getI (pc' := 12) (c := 12) (k := 34) (v := (iI l)) rfl rfl rfl (fun _ _ => rfl) rfl rfl h34 ?_
  refine jv_iastore (pc' := 13) (n := 65) (e := (k : Int)) (v := (iI l)) rfl rfl rfl rfl rfl (by omega) ?_
  refine jv_aload_n (pc' := 14) (k := 0) (x := 103) rfl rfl rfl rfl ?_
  refine jv_getR (pc' := 17) (c := 12) (k := 24) (v := 120) rfl rfl rfl (fun _ _ => rfl) rfl rfl (jR_103_24 _) ?_
  refine jv_aload_n (pc' := 18) (k := 0) (x := 103) rfl rfl rfl rfl ?_
  refine jv_getI (pc' := 21) (c := 12) (k := 22) (v := (iI (k : Int))) rfl rfl rfl (fun _ _ => rfl) rfl rfl (hM.2.2.1.trans (congrArg iI hn)) ?_
  refine jv_iload_n (pc' := 22) (k := 1) (x := (iI nm)) rfl rfl rfl rfl ?_
  refine jv_iastore (pc' := 23) (n := 65) (e := (k : Int)) (v := (iI nm)) rfl rfl rfl rfl rfl (by omega) ?_
  refine jv_aload_n (pc' := 24) (k := 0) (x := 103) rfl rfl rfl rfl ?_
  refine jv_getR (pc' := 27) (c := 12) (k := 25) (v := 121) rfl rfl rfl (fun _ _ => rfl) rfl rfl (jR_103_25 _) ?_
  refine jv_aload_n (pc' := 28) (k := 0) (x := 103) rfl rfl rfl rfl ?_
  refine jv_getI (pc' := 31) (c := 12) (k := 22) (v := (iI (k : Int))) rfl rfl rfl (fun _ _ => rfl) rfl rfl (hM.2.2.1.trans (congrArg iI hn)) ?_
  refine jv_aload_n (pc' := 32) (k := 0) (x := 103) rfl rfl rfl rfl ?_
  refine jv_getI (pc' := 35) (c := 12) (k := 30) (v := (iI (s 0 0))) rfl rfl rfl (fun _ _ => rfl) rfl rfl hM.1 ?_
  refine jv_iastore (pc' := 36) (n := 65) (e := (k : Int)) (v := (iI (s 0 0))) rfl rfl rfl rfl rfl (by omega) ?_
  refine jv_aload_n (pc' := 37) (k := 0) (x := 103) rfl rfl rfl rfl ?_
  refine jv_getR (pc' := 40) (c := 12) (k := 26) (v := 122) rfl rfl rfl (fun _ _ => rfl) rfl rfl (jR_103_26 _) ?_
  refine jv_aload_n (pc' := 41) (k := 0) (x := 103) rfl rfl rfl rfl ?_
  refine jv_getI (pc' := 44) (c := 12) (k := 22) (v := (iI (k : Int))) rfl rfl rfl (fun _ _ => rfl) rfl rfl (hM.2.2.1.trans (congrArg iI hn)) ?_
  refine jv_iload_n (pc' := 45) (k := 2) (x := (iI bits)) rfl rfl rfl rfl ?_
  refine jv_iastore (pc' := 46) (n := 65) (e := (k : Int)) (v := (iI bits)) rfl rfl rfl rfl rfl (by omega) ?_
  refine jv_aload_n (pc' := 47) (k := 0) (x := 103) rfl rfl rfl rfl ?_
  refine jv_getR (pc' := 50) (c := 12) (k := 28) (v := 124) rfl rfl rfl (fun _ _ => rfl) rfl rfl (jR_103_28 _) ?_
  refine jv_aload_n (pc' := 51) (k := 0) (x := 103) rfl rfl rfl rfl ?_
  refine jv_getI (pc' := 54) (c := 12) (k := 22) (v := (iI (k : Int))) rfl rfl rfl (fun _ _ => rfl) rfl rfl (hM.2.2.1.trans (congrArg iI hn)) ?_
  refine jv_lload_n (pc' := 55) (k := 3) (x := (lI v)) rfl rfl rfl rfl ?_
  refine jv_lastore (pc' := 56) (n := 65) (e := (k : Int)) (v := (lI v)) rfl rfl rfl rfl rfl (by omega) ?_
  refine jv_aload_n (pc' := 57) (k := 0) (x := 103) rfl rfl rfl rfl ?_
  refine jv_getR (pc' := 60) (c := 12) (k := 27) (v := 123) rfl rfl rfl (fun _ _ => rfl) rfl rfl (jR_103_27 _) ?_
  refine jv_aload_n (pc' := 61) (k := 0) (x := 103) rfl rfl rfl rfl ?_
  refine jv_getI (pc' := 64) (c := 12) (k := 22) (v := (iI (k : Int))) rfl rfl rfl (fun _ _ => rfl) rfl rfl (hM.2.2.1.trans (congrArg iI hn)) ?_
  refine jv_iload (pc' := 66) (k := 5) (x := (iI mk)) rfl rfl rfl ?_
  refine jv_iastore (pc' := 67) (n := 65) (e := (k : Int)) (v := (iI mk)) rfl rfl rfl rfl rfl (by omega) ?_
  refine jv_aload_n (pc' := 68) (k := 0) (x := 103) rfl rfl rfl rfl ?_
  refine jx_step (pc' := 69) rfl ?_
  refine jv_getI (pc' := 72) (c := 12) (k := 22) (v := (iI (k : Int))) rfl rfl rfl (fun _ _ => rfl) rfl rfl (hM.2.2.1.trans (congrArg iI hn)) ?_
  refine jv_iconst (pc' := 73) (n := 1) rfl rfl ?_
  refine jv_iadd (pc' := 74) (a := (k : Int)) (b := 1) rfl rfl ?_
  refine jv_putI (pc' := 77) (c := 12) (k := 22) rfl rfl rfl rfl (fun _ _ _  => rfl) rfl rfl ?_
  refine jv_retV rfl rfl ⟨_, _, rfl, ?_⟩
  exact ⟨_, _, rfl, rfl, DM_en hM hn (by omega) (by omega) rfl, (fr_u (by simp) (fr_u (by simp) (fr_u (by simp) (fr_u (by simp) (fr_u (by simp) (fr_u (by simp) (fr_r _))))))), (fr_u (rfl) (fr_r _))⟩
theorem ml_st_y (h34 : I 103 34 = iI l) (h11 : I 103 11 = iI (lim : Int)) (hlim : lim ≤ 64) (hM : DM I M s) (h0 : 0 ≤ s 0 1 ∧ s 0 1 < lim) {nm : Int} : jc L xs (d + 1) 138 [.ref 103, .int (iI nm)] (jx_G j I M p) (fun v g1 => ∃ I', g1 = jx_G j I' M p ∧ v = some (.int (iI 1)) ∧ DM I' M (dS s) ∧ fr (fun l k => l = 103 ∧ k = 32) I I') := by
  unfold jc
  refine jv_aload_n (pc' := 1) (k := 0) (x := 103) rfl rfl rfl rfl ?_
  refine jv_getI (pc' := 4) (c := 12) (k := 32) (v := (iI (s 0 1))) rfl rfl rfl (fun _ _ => rfl) rfl rfl hM.2.1 ?_
  refine jv_aload_n (pc' := 5) (k := 0) (x := 103) rfl rfl rfl rfl ?_
  refine jv_getI (pc' := 8) (c := 12) (k := 11) (v := (iI (lim : Int))) rfl rfl rfl (fun _ _ => rfl) rfl rfl h11 ?_
  refine jv_ic_ne (t := 26) (pc' := 11) (a := (s 0 1)) (b := (lim : Int)) rfl rfl rfl (by omega) (fun hz_1 => ?_) (fun hz_1 => ?_)
  · skip
    refine jv_aload_n (pc' := 27) (k := 0) (x := 103) rfl rfl rfl rfl ?_
    refine jx_step (pc' := 28) rfl ?_
    refine jv_getI (pc' := 31) (c := 12) (k := 32) (v := (iI (s 0 1))) rfl rfl rfl (fun _ _ => rfl) rfl rfl hM.2.1 ?_
    refine jv_iconst (pc' := 32) (n := 1) rfl rfl ?_
    refine jv_iadd (pc' := 33) (a := (s 0 1)) (b := 1) rfl rfl ?_
    refine jv_putI (pc' := 36) (c := 12) (k := 32) rfl rfl rfl rfl (fun _ _ _  => rfl) rfl rfl ?_
    refine jv_iconst (pc' := 37) (n := 1) rfl rfl ?_
    refine jv_retZ rfl rfl (by first | exact Or.inl rfl | exact Or.inr rfl) ⟨_, _, rfl, ?_⟩
    exact ⟨_, rfl, rfl, DM_S hM rfl, (fr_u (by simp) (fr_r _))⟩
  · skip
    exfalso; omega
theorem ml_st_n (h34 : I 103 34 = iI l) (h11 : I 103 11 = iI (lim : Int)) (hlim : lim ≤ 64) (hM : DM I M s) (h0 : 0 ≤ s 0 1 ∧ s 0 1 ≤ lim ∧ ¬ s 0 1 < lim) {k : Nat} (hn : s 0 2 = (k : Int)) (h64 : k < 64) {nm : Int} : jc L xs (d + 1) 138 [.ref 103, .int (iI nm)] (jx_G j I M p) (fun v g1 => ∃ I' M', g1 = jx_G j I' M' p ∧ v = some (.int (iI 0)) ∧ DM I' M' (dE s l nm 0 0 4) ∧ fr wM1 I I' ∧ fr wN1 M M' ∧ I' 103 33 = iI 1) := by
  unfold jc
  refine jv_aload_n (pc' := 1) (k := 0) (x := 103) rfl rfl rfl rfl ?_
  refine jv_getI (pc' := 4) (c := 12) (k := 32) (v := (iI (s 0 1))) rfl rfl rfl (fun _ _ => rfl) rfl rfl hM.2.1 ?_
  refine jv_aload_n (pc' := 5) (k := 0) (x := 103) rfl rfl rfl rfl ?_
  refine jv_getI (pc' := 8) (c := 12) (k := 11) (v := (iI (lim : Int))) rfl rfl rfl (fun _ _ => rfl) rfl rfl h11 ?_
  refine jv_ic_ne (t := 26) (pc' := 11) (a := (s 0 1)) (b := (lim : Int)) rfl rfl rfl (by omega) (fun hz_1 => ?_) (fun hz_1 => ?_)
  · skip
    exfalso; omega
  · skip
    refine jv_aload_n (pc' := 12) (k := 0) (x := 103) rfl rfl rfl rfl ?_
    refine jv_iload_n (pc' := 13) (k := 1) (x := (iI nm)) rfl rfl rfl rfl ?_
    refine jv_iconst (pc' := 14) (n := 0) rfl rfl ?_
    refine jv_long (pc' := 15) (y := lI 0) rfl (by decide) ?_
    refine jv_iconst (pc' := 16) (n := 4) rfl rfl ?_
    refine jv_call (pc' := 19) rfl (ml_en0 (I := I) (M := M) (s := s) h34 hM hn h64) (fun vq2 gq2 q2 => ?_)
    obtain ⟨Iq2, Mq2, rfl, rfl, Dq2, uq2, wq2⟩ := q2
    show jx L xs _ 138 19 _ [] _ _
    refine jv_aload_n (pc' := 20) (k := 0) (x := 103) rfl rfl rfl rfl ?_
    refine jv_iconst (pc' := 21) (n := 1) rfl rfl ?_
    refine jv_putZ (pc' := 24) (c := 12) (k := 33) rfl rfl rfl rfl (fun _ _ _ hz => if_pos hz) rfl rfl (by first | exact Or.inl rfl | exact Or.inr rfl) ?_
    refine jv_iconst (pc' := 25) (n := 0) rfl rfl ?_
    refine jv_retZ rfl rfl (by first | exact Or.inl rfl | exact Or.inr rfl) ⟨_, _, rfl, ?_⟩
    exact ⟨_, _, rfl, rfl, Dq2, (fr_u (by simp [wM1]) (fr_t (fr_r _) (fr_w uq2 wM1_E))), (fr_t (fr_r _) (fr_w wq2 wN1_E)), rfl⟩
end D11
