/-! printed in part by wip/whole/gen/d8.py: the layers of a frame, one behind the other, in the class -/
def FO (cnt : Nat) (va nx : Nat → Int) (v r : Int) : Prop := (∃ k, k < cnt ∧ va k = v ∧ nx k = r) ∨ ((∀ k, k < cnt → va k ≠ v) ∧ r = -1)
def FOC (I : Nat → Nat → Int32) (G cnt : Nat) (va nx : Nat → Int) : Prop := I G 2 = iI (cnt : Int) ∧ cnt ≤ 8 ∧ ∀ k, k < cnt → I (G + 1) k = iI (va k) ∧ I (G + 2) k = iI (nx k) ∧ (0 ≤ va k ∧ va k < 2147483648) ∧ (0 ≤ nx k ∧ nx k < 4)
abbrev GL (G : Nat) : Prop := G = 53 ∨ G = 63 ∨ G = 73 ∨ G = 83
theorem FOC_fr {W : Nat → Nat → Prop} {I I' : Nat → Nat → Int32} {G cnt : Nat} {va nx : Nat → Int} (h : FOC I G cnt va nx) (f : fr W I I') (h1 : ∀ k, ¬ W G k ∧ ¬ W (G + 1) k ∧ ¬ W (G + 2) k) : FOC I' G cnt va nx :=
  ⟨(f _ _ (h1 _).1).trans h.1, h.2.1, fun k hk => ⟨(f _ _ (h1 _).2.1).trans (h.2.2 k hk).1, (f _ _ (h1 _).2.2).trans (h.2.2 k hk).2.1, (h.2.2 k hk).2.2⟩⟩
def dZ (s : DSt) : DSt := fun r k => if (r = 1 ∨ r = 2) ∧ k < 8 then 0 else s r k
theorem dZ_0 (s : DSt) {r : Nat} (h : r ≠ 1 ∧ r ≠ 2) (k : Nat) : dZ s r k = s r k := if_neg (by omega)
theorem dZ_1 (s : DSt) {r k : Nat} (h : r = 1 ∨ r = 2) (hk : k < 8) : dZ s r k = 0 := if_pos ⟨h, hk⟩
/-- the cells of the class without what is kept for one layer -/
def DCe (I : Nat → Nat → Int32) (M : Nat → Nat → Int64) (s : DSt) : Prop := I 38 9 = iI (s 0 0) ∧ I 38 10 = iI (s 0 1) ∧ I 39 2 = iI (s 0 2) ∧ (∀ k : Nat, (k : Int) < s 0 2 → I 40 (5 * k) = iI (s 3 k) ∧ I 40 (5 * k + 1) = iI (s 4 k) ∧ I 40 (5 * k + 2) = iI (s 5 k) ∧ I 40 (5 * k + 3) = iI (s 6 k) ∧ I 40 (5 * k + 4) = iI (s 7 k) ∧ M 41 k = lI (s 8 k))
def s12 (s s' : DSt) : Prop := ∀ r k, r ≠ 1 → r ≠ 2 → s' r k = s r k
theorem DCe_dn {I : Nat → Nat → Int32} {M : Nat → Nat → Int64} {s s' : DSt} (h : DC I M s') (q : s12 s s') : DCe I M s := by
  obtain ⟨h1, h2, h3, _, h5⟩ := h
  rw [q 0 0 (by omega) (by omega)] at h1
  rw [q 0 1 (by omega) (by omega)] at h2
  rw [q 0 2 (by omega) (by omega)] at h3 h5
  refine ⟨h1, h2, h3, fun k hk => ?_⟩
  have := h5 k hk
  rw [q 3 k (by omega) (by omega), q 4 k (by omega) (by omega), q 5 k (by omega) (by omega), q 6 k (by omega) (by omega), q 7 k (by omega) (by omega), q 8 k (by omega) (by omega)] at this
  exact this
theorem DCe_up {I : Nat → Nat → Int32} {M : Nat → Nat → Int64} {s : DSt} (h : DCe I M s) : ∃ s', DC I M s' ∧ s12 s s' := by
  refine ⟨fun r k => if r = 1 then (M 44 k).toInt else if r = 2 then (I 45 k).toInt else s r k, ⟨h.1, h.2.1, h.2.2.1, fun k hk => ⟨?_, ?_⟩, h.2.2.2⟩, fun r k h1 h2 => by simp [h1, h2]⟩
  · simp [lI, Int64.ofInt_toInt]
  · simp [iI, Int32.ofInt_toInt]
theorem s12_S {s s' : DSt} (q : s12 s s') : s12 (dS s) (dS s') := fun r k h1 h2 => by
  unfold dS jm_u
  simp only [q 0 1 (by omega) (by omega)]
  split
  · split
    · rfl
    · exact q r k h1 h2
  · exact q r k h1 h2
theorem s12_E {s s' : DSt} {l nm bits v mk : Int} (q : s12 s s') : s12 (dE s l nm bits v mk) (dE s' l nm bits v mk) := fun r k h1 h2 => by
  unfold dE
  simp only [q 0 2 (by omega) (by omega), q 0 0 (by omega) (by omega), q r k h1 h2]
theorem DC_Z {I : Nat → Nat → Int32} {M : Nat → Nat → Int64} {s : DSt} (h : DCe I M s) (h1 : ∀ k, k < 8 → M 44 k = lI 0 ∧ I 45 k = iI 0) : DC I M (dZ s) := by
  refine ⟨h.1, h.2.1, h.2.2.1, fun k hk => ?_, h.2.2.2⟩
  rw [dZ_1 s (Or.inl rfl) hk, dZ_1 s (Or.inr rfl) hk]
  exact h1 k hk
theorem DCe_fr {W V : Nat → Nat → Prop} {I I' : Nat → Nat → Int32} {M M' : Nat → Nat → Int64} {s : DSt} (h : DCe I M s) (f : fr W I I') (g : fr V M M') (h1 : ¬ W 38 9 ∧ ¬ W 38 10 ∧ ¬ W 39 2 ∧ ∀ k, ¬ W 40 k) (h2 : ∀ k, ¬ V 41 k) : DCe I' M' s := by
  obtain ⟨a, b, c, e⟩ := h
  refine ⟨(f _ _ h1.1).trans a, (f _ _ h1.2.1).trans b, (f _ _ h1.2.2.1).trans c, fun k hk => ?_⟩
  obtain ⟨x1, x2, x3, x4, x5, x6⟩ := e k hk
  exact ⟨(f _ _ (h1.2.2.2 _)).trans x1, (f _ _ (h1.2.2.2 _)).trans x2, (f _ _ (h1.2.2.2 _)).trans x3, (f _ _ (h1.2.2.2 _)).trans x4, (f _ _ (h1.2.2.2 _)).trans x5, (g _ _ (h2 _)).trans x6⟩
/-- what a layer does: on to the next, or over -/
def LR (cL : Nat → Nat → Int) (nL : Nat → Nat) (fc : Nat → Nat) (fva fnx : Nat → Nat → Int) (B : Nat → Nat) (sz lim : Nat) (l : Nat) (s : DSt) (r : Int) (s2 : DSt) : Prop := s 0 1 < lim ∧ DV lim sz s2 ∧ ∃ k e, DR (cL l) B lim sz (s 0 0).toNat (l : Int) k 0 0 [] (dZ (dS s)) 0 e [] s2 ∧ e ≤ 80 ∧ ((cL l e = -1 ∧ r = -1) ∨ (cL l e = 62 ∧ e + 2 = nL l ∧ (97 ≤ cL l (e + 1) ∧ cL l (e + 1) ≤ 104) ∧ ((s2 2 (cL l (e + 1) - 97).toNat = 1 ∧ FO (fc l) (fva l) (fnx l) (s2 1 (cL l (e + 1) - 97).toNat) r) ∨ (s2 2 (cL l (e + 1) - 97).toNat = 0 ∧ r = -1))))
def LO (cL : Nat → Nat → Int) (B : Nat → Nat) (sz lim : Nat) (l : Nat) (s s' : DSt) : Prop := (¬ s 0 1 < lim ∧ s' = dE s l 10 0 0 4) ∨ (s 0 1 < lim ∧ ∃ k, DQ (cL l) B lim sz (s 0 0).toNat (l : Int) k 0 0 [] (dZ (dS s)) s')
/-- ranges where a layer begins -/
def DVb (lim sz : Nat) (s : DSt) : Prop := (0 ≤ s 0 0 ∧ s 0 0 ≤ 8 * (sz : Int)) ∧ (0 ≤ s 0 1 ∧ s 0 1 ≤ lim) ∧ (0 ≤ s 0 2 ∧ s 0 2 ≤ s 0 1 ∧ (s 0 1 = 0 ∨ s 0 2 + 1 ≤ s 0 1))
theorem DVb_DV {lim sz : Nat} {s : DSt} (h : DVb lim sz s) (hs : s 0 1 < lim) : DV lim sz (dZ (dS s)) := by
  obtain ⟨h1, h2, h3⟩ := h
  obtain ⟨e1, e2, e3⟩ := dS_0 s
  refine ⟨?_, ?_, ?_, fun k hk => ?_⟩
  · rw [dZ_0 _ (by omega), e1]; exact h1
  · rw [dZ_0 _ (by omega), e2]; omega
  · rw [dZ_0 _ (by omega), dZ_0 _ (by omega), e2, e3]; omega
  · rw [dZ_1 _ (Or.inl rfl) hk, dZ_1 _ (Or.inr rfl) hk]; omega
def DLn (cL : Nat → Nat → Int) (nL : Nat → Nat) (fc : Nat → Nat) (fva fnx : Nat → Nat → Int) (B : Nat → Nat) (sz lim : Nat) : Nat → Int → DSt → Int → DSt → Prop
  | 0, l, s, r, s' => l = r ∧ s = s'
  | k + 1, l, s, r, s' => ∃ (l1 : Nat) (r1 : Int) (s1 : DSt), l = (l1 : Int) ∧ l1 < 4 ∧ 0 < nL l1 ∧ DVb lim sz s ∧ LR cL nL fc fva fnx B sz lim l1 s r1 s1 ∧ DLn cL nL fc fva fnx B sz lim k r1 s1 r s'
theorem DLn_app {cL : Nat → Nat → Int} {nL fc : Nat → Nat} {fva fnx : Nat → Nat → Int} {B : Nat → Nat} {sz lim : Nat} : ∀ {n m : Nat} {l r r2 : Int} {s s1 s2 : DSt}, DLn cL nL fc fva fnx B sz lim n l s r s1 → DLn cL nL fc fva fnx B sz lim m r s1 r2 s2 → DLn cL nL fc fva fnx B sz lim (n + m) l s r2 s2 := by
  intro n
  induction n with
  | zero => intro m l r r2 s s1 s2 h q; obtain ⟨rfl, rfl⟩ := h; rw [Nat.zero_add]; exact q
  | succ n ih =>
    intro m l r r2 s s1 s2 h q
    obtain ⟨l1, r1, t1, h1, h2, h3, h4, h5, h6⟩ := h
    rw [Nat.succ_add]
    exact ⟨l1, r1, t1, h1, h2, h3, h4, h5, ih h6 q⟩
/-- a decoded frame: root layer l, the entries are s' -/
def DEC (cL : Nat → Nat → Int) (nL : Nat → Nat) (fc : Nat → Nat) (fva fnx : Nat → Nat → Int) (B : Nat → Nat) (sz lim : Nat) (l : Int) (s' : DSt) : Prop := ∃ k r s2, DLn cL nL fc fva fnx B sz lim k l (fun _ _ => 0) r s2 ∧ (((r = -1 ∨ ∃ l1 : Nat, r = (l1 : Int) ∧ l1 < 4 ∧ nL l1 = 0) ∧ s' = s2) ∨ (∃ l1 : Nat, r = (l1 : Int) ∧ l1 < 4 ∧ 0 < nL l1 ∧ DVb lim sz s2 ∧ LO cL B sz lim l1 s2 s'))
/-- the class's layers -/
def LYS (I : Nat → Nat → Int32) (p : Nat → Option Nat) (Tl : Nat → Nat) (cL : Nat → Nat → Int) (nL : Nat → Nat) : Prop := ∀ l, l < 4 → p (13 + l) = some (Tl l) ∧ YL (Tl l) ∧ nL l ≤ 80 ∧ ((nL l = 0 ∧ I (Tl l) 6 = iI 0) ∨ (0 < nL l ∧ LAY I (Tl l) (cL l) (nL l)))
def FWS (I : Nat → Nat → Int32) (fc : Nat → Nat) (fva fnx : Nat → Nat → Int) : Prop := ∀ l, l < 4 → FOC I (53 + 10 * l) (fc l) (fva l) (fnx l)
def TXS (cL : Nat → Nat → Int) (nL : Nat → Nat) : Prop := ∀ l, l < 4 → (∀ k, k < nL l → 0 ≤ cL l k ∧ cL l k < 256) ∧ (∀ k, nL l ≤ k → cL l k = -1)
def wR (l k : Nat) : Prop := (l = 38 ∧ (k = 7 ∨ k = 8 ∨ k = 9 ∨ k = 10 ∨ k = 11)) ∨ (l = 39 ∧ k = 2) ∨ l = 40 ∨ l = 45
theorem wR_D (l k : Nat) (h : wD l k) : wR l k := by unfold wD at h; unfold wR; omega
theorem LYS_fr {I I' : Nat → Nat → Int32} {p : Nat → Option Nat} {Tl : Nat → Nat} {cL : Nat → Nat → Int} {nL : Nat → Nat} (h : LYS I p Tl cL nL) (f : fr wR I I') : LYS I' p Tl cL nL := fun l hl => by
  obtain ⟨h1, h2, h3, h4⟩ := h l hl
  refine ⟨h1, h2, h3, ?_⟩
  rcases h4 with ⟨a, b⟩ | ⟨a, Y, m, q, e, ch, b1, b2, b3, b4, b5, b6⟩
  · exact Or.inl ⟨a, (f _ _ (by unfold wR; omega)).trans b⟩
  · exact Or.inr ⟨a, Y, m, q, e, ch, LB_fr b1 f (by intro l k q1 q2; unfold wR; omega), b2, b3, b4, (f _ _ (by unfold wR; omega)).trans b5, b6⟩
theorem LYS_p {I : Nat → Nat → Int32} {p p' : Nat → Option Nat} {Tl : Nat → Nat} {cL : Nat → Nat → Int} {nL : Nat → Nat} (h : LYS I p Tl cL nL) (q : ∀ i, 13 ≤ i → i < 17 → p' i = p i) : LYS I p' Tl cL nL := fun l hl => by
  obtain ⟨h1, h2⟩ := h l hl
  exact ⟨(q _ (by omega) (by omega)).trans h1, h2⟩
theorem FWS_fr {I I' : Nat → Nat → Int32} {fc : Nat → Nat} {fva fnx : Nat → Nat → Int} (h : FWS I fc fva fnx) (f : fr wR I I') : FWS I' fc fva fnx := fun l hl => FOC_fr (h l hl) f (by intro k; unfold wR; omega)
theorem jR42 (p : Nat → Option Nat) {l : Nat} (h : l < 4) : jx_R p 42 l = p (13 + l) := by
  have : l = 0 ∨ l = 1 ∨ l = 2 ∨ l = 3 := by omega
  rcases this with rfl | rfl | rfl | rfl <;> rfl
theorem jR43 (p : Nat → Option Nat) {l : Nat} (h : l < 4) : jx_R p 43 l = some (53 + 10 * l) := by
  have : l = 0 ∨ l = 1 ∨ l = 2 ∨ l = 3 := by omega
  rcases this with rfl | rfl | rfl | rfl
  · exact jR_43_0 p
  · exact jR_43_1 p
  · exact jR_43_2 p
  · exact jR_43_3 p
theorem GL_l {l : Nat} (h : l < 4) : GL (53 + 10 * l) := by unfold GL; omega
theorem GL_S {t : Nat} (h : GL t) (i : Nat) (hi : i < 10) : ¬ t + i = jm_S := by
  have : jm_S = 1000000 := rfl
  omega

theorem GL_A {t : Nat} (h : GL t) (j : Nat) (I : Nat → Nat → Int32) (M : Nat → Nat → Int64) (p : Nat → Option Nat) : jm_isA (jx_G j I M p) t 8 = true := by
  rcases h with rfl | rfl | rfl | rfl <;> rfl
theorem GL_B1 {t : Nat} (h : GL t) (j : Nat) (I : Nat → Nat → Int32) (M : Nat → Nat → Int64) (p : Nat → Option Nat) : jm_isA (jx_G j I M p) (t + 1) 20 = true := by
  rcases h with rfl | rfl | rfl | rfl <;> rfl
theorem GL_n1 {t : Nat} (h : GL t) : (jm_SH (t + 1)).2 = 8 := by
  rcases h with rfl | rfl | rfl | rfl <;> rfl
theorem GL_R1 {t : Nat} (h : GL t) (p : Nat → Option Nat) : jx_R p t 0 = some (t + 1) := by
  rcases h with rfl | rfl | rfl | rfl
  · exact jR_53_0 p
  · exact jR_63_0 p
  · exact jR_73_0 p
  · exact jR_83_0 p
theorem GL_B2 {t : Nat} (h : GL t) (j : Nat) (I : Nat → Nat → Int32) (M : Nat → Nat → Int64) (p : Nat → Option Nat) : jm_isA (jx_G j I M p) (t + 2) 20 = true := by
  rcases h with rfl | rfl | rfl | rfl <;> rfl
theorem GL_n2 {t : Nat} (h : GL t) : (jm_SH (t + 2)).2 = 8 := by
  rcases h with rfl | rfl | rfl | rfl <;> rfl
theorem GL_R2 {t : Nat} (h : GL t) (p : Nat → Option Nat) : jx_R p t 1 = some (t + 2) := by
  rcases h with rfl | rfl | rfl | rfl
  · exact jR_53_1 p
  · exact jR_63_1 p
  · exact jR_73_1 p
  · exact jR_83_1 p
section D8
variable {L : Nat} {xs : Nat → Int32} {d j : Nat} {I : Nat → Nat → Int32} {M : Nat → Nat → Int64} {p : Nat → Option Nat}
variable {G cnt : Nat} {va nx : Nat → Int} {vv : Int}
theorem cl_find (hG : GL G) (hF : FOC I G cnt va nx) (hv : 0 ≤ vv ∧ vv < 4294967296) : jc L xs d 82 [.ref G, .long (lI vv)] (jx_G j I M p) (fun x g1 => ∃ r : Int, x = some (.int (iI r)) ∧ g1 = jx_G j I M p ∧ ((∃ k : Nat, r = (k : Int) ∧ k < cnt ∧ va k = vv) ∨ (r = -1 ∧ ∀ k, k < cnt → va k ≠ vv))) := by
  unfold jc
  have h8 := hF.2.1
  refine jv_iconst (pc' := 1) (n := 0) rfl rfl ?_
  refine jv_istore_n (pc' := 2) (k := 3) (x := (iI 0)) rfl rfl rfl rfl (Or.inr rfl) ?_
  have H1 : ∀ (N : Nat) (k : Nat), cnt - k < N → (k ≤ cnt) → (∀ i, i < k → va i ≠ vv) → ∀ f : jm_F, f 0 = some (.ref G) → f 1 = some (.long (lI vv)) → f 3 = some (.int (iI ((k : Nat) : Int))) → jm_lng (f 2) = false → jx L xs (d) 82 2 f [] (jx_G j I M p) (fun z => ∃ v g1, z = (.inl v, g1) ∧ (fun x g1 => ∃ r : Int, x = some (.int (iI r)) ∧ g1 = jx_G j I M p ∧ ((∃ k : Nat, r = (k : Int) ∧ k < cnt ∧ va k = vv) ∨ (r = -1 ∧ ∀ k, k < cnt → va k ≠ vv))) v g1) := by
    intro N
    induction N with
    | zero => intro k hN; exact absurd hN (Nat.not_lt_zero _)
    | succ N ih =>
      intro k hN hk hno f hf0 hf1 hf3 hg2
      refine jv_iload_n (pc' := 3) (k := 3) (x := (iI ((k : Nat) : Int))) rfl rfl rfl hf3 ?_
      refine jv_aload_n (pc' := 4) (k := 0) (x := G) rfl rfl rfl hf0 ?_
      refine jv_getI (pc' := 7) (c := 8) (k := 2) (v := (iI (cnt : Int))) rfl rfl rfl (fun _ _ => rfl) (GL_A hG j _ M p) rfl hF.1 ?_
      refine jv_ic_ge (t := 30) (pc' := 10) (a := ((k : Nat) : Int)) (b := (cnt : Int)) rfl rfl rfl (by omega) (fun hz_2 => ?_) (fun hz_2 => ?_)
      · skip
        refine jv_iconst (pc' := 31) (n := -1) rfl rfl ?_
        refine jv_retI rfl rfl ⟨_, _, rfl, ?_⟩
        exact ⟨-1, rfl, rfl, Or.inr ⟨rfl, fun i hi => hno i (by omega)⟩⟩
      · skip
        have hk8 := hF.2.1
        have hva := (hF.2.2 k (by omega)).2.2.1
        refine jv_aload_n (pc' := 11) (k := 0) (x := G) rfl rfl rfl hf0 ?_
        refine jv_getR (pc' := 14) (c := 8) (k := 0) (v := (G + 1)) rfl rfl rfl (fun _ _ => rfl) (GL_A hG j _ M p) rfl (GL_R1 hG p) ?_
        refine jv_iload_n (pc' := 15) (k := 3) (x := (iI ((k : Nat) : Int))) rfl rfl rfl hf3 ?_
        refine jv_iaload (pc' := 16) (n := 8) (e := ((k : Nat) : Int)) (v := (iI (va k))) rfl rfl (GL_S hG 1 (by omega)) (GL_B1 hG j _ M p) (GL_n1 hG) rfl (by omega) ((hF.2.2 k (by omega)).1) ?_
        refine jv_i2l (pc' := 17) (a := (va k)) rfl rfl (by omega) ?_
        refine jv_lload_n (pc' := 18) (k := 1) (x := (lI vv)) rfl rfl rfl hf1 ?_
        refine jv_lc_ne (t := 24) (pc' := 22) (a := (va k)) (b := vv) rfl rfl rfl rfl rfl (by omega) (fun hz_3 => ?_) (fun hz_3 => ?_)
        · skip
          refine jv_iinc (pc' := 27) (k := 3) (a := ((k : Nat) : Int)) rfl rfl hf3 rfl (Or.inr hg2) ?_
          refine jx_step (pc' := 2) rfl ?_
          exact ih (k + 1) (by omega) (by omega) (fun i hi => by
                by_cases e : i = k
                · subst e; omega
                · exact hno i (by omega)) _ hf0 hf1 rfl hg2
        · skip
          refine jv_iload_n (pc' := 23) (k := 3) (x := (iI ((k : Nat) : Int))) rfl rfl rfl hf3 ?_
          refine jv_retI rfl rfl ⟨_, _, rfl, ?_⟩
          exact ⟨_, rfl, rfl, Or.inl ⟨k, rfl, by omega, by omega⟩⟩
  exact H1 _ 0 (Nat.lt_succ_self _) (by omega) (fun i hi => absurd hi (by omega)) _ rfl rfl rfl rfl
theorem cl_layerBehind (hG : GL G) (hF : FOC I G cnt va nx) (hv : 0 ≤ vv ∧ vv < 4294967296) : jc L xs (d + 1) 79 [.ref G, .long (lI vv)] (jx_G j I M p) (fun x g1 => ∃ r : Int, x = some (.int (iI r)) ∧ g1 = jx_G j I M p ∧ FO cnt va nx vv r ∧ -1 ≤ r ∧ r < 4) := by
  unfold jc
  have h8 := hF.2.1
  refine jv_aload_n (pc' := 1) (k := 0) (x := G) rfl rfl rfl rfl ?_
  refine jv_lload_n (pc' := 2) (k := 1) (x := (lI vv)) rfl rfl rfl rfl ?_
  refine jv_callv (pc' := 5) rfl rfl rfl rfl (GL_A hG j _ M p) rfl rfl (cl_find hG hF hv) (fun vq1 gq1 q1 => ?_)
  obtain ⟨r, rfl, rfl, q1⟩ := q1
  rcases q1 with ⟨k, rfl, hk, hva⟩ | ⟨rfl, hno⟩
  · skip
    show jx L xs _ 79 5 _ [.int (iI ((k : Nat) : Int))] _ _
    refine jv_istore_n (pc' := 6) (k := 3) (x := (iI ((k : Nat) : Int))) rfl rfl rfl rfl (Or.inr rfl) ?_
    refine jv_iload_n (pc' := 7) (k := 3) (x := (iI ((k : Nat) : Int))) rfl rfl rfl rfl ?_
    refine jv_iconst (pc' := 8) (n := -1) rfl rfl ?_
    refine jv_ic_ne (t := 15) (pc' := 11) (a := ((k : Nat) : Int)) (b := (-1)) rfl rfl rfl (by omega) (fun hz_2 => ?_) (fun hz_2 => ?_)
    · skip
      refine jv_aload_n (pc' := 16) (k := 0) (x := G) rfl rfl rfl rfl ?_
      refine jv_getR (pc' := 19) (c := 8) (k := 1) (v := (G + 2)) rfl rfl rfl (fun _ _ => rfl) (GL_A hG j _ M p) rfl (GL_R2 hG p) ?_
      refine jv_iload_n (pc' := 20) (k := 3) (x := (iI ((k : Nat) : Int))) rfl rfl rfl rfl ?_
      refine jv_iaload (pc' := 21) (n := 8) (e := ((k : Nat) : Int)) (v := (iI (nx k))) rfl rfl (GL_S hG 2 (by omega)) (GL_B2 hG j _ M p) (GL_n2 hG) rfl (by omega) ((hF.2.2 k hk).2.1) ?_
      refine jv_retI rfl rfl ⟨_, _, rfl, ?_⟩
      first
      | (exfalso; omega)
      | exact ⟨_, rfl, rfl, Or.inl ⟨k, hk, hva, rfl⟩, by have := (hF.2.2 k hk).2.2.2; omega⟩
    · skip
      refine jv_iconst (pc' := 12) (n := -1) rfl rfl ?_
      refine jx_step (pc' := 21) rfl ?_
      refine jv_retI rfl rfl ⟨_, _, rfl, ?_⟩
      first
      | (exfalso; omega)
      | exact ⟨_, rfl, rfl, Or.inl ⟨k, hk, hva, rfl⟩, by have := (hF.2.2 k hk).2.2.2; omega⟩
  · skip
    show jx L xs _ 79 5 _ [.int (iI (-1))] _ _
    refine jv_istore_n (pc' := 6) (k := 3) (x := (iI (-1))) rfl rfl rfl rfl (Or.inr rfl) ?_
    refine jv_iload_n (pc' := 7) (k := 3) (x := (iI (-1))) rfl rfl rfl rfl ?_
    refine jv_iconst (pc' := 8) (n := -1) rfl rfl ?_
    refine jv_ic_ne (t := 15) (pc' := 11) (a := (-1)) (b := (-1)) rfl rfl rfl (by omega) (fun hz_3 => ?_) (fun hz_3 => ?_)
    · skip
      exact absurd hz_3 (by decide)
    · skip
      refine jv_iconst (pc' := 12) (n := -1) rfl rfl ?_
      refine jx_step (pc' := 21) rfl ?_
      refine jv_retI rfl rfl ⟨_, _, rfl, ?_⟩
      first
      | (exfalso; omega)
      | exact ⟨_, rfl, rfl, Or.inr ⟨hno, rfl⟩, by omega⟩
variable {l : Int} {lim sz : Nat} {s : DSt}
theorem cl_ms_y (h7 : I 38 7 = iI l) (h11 : I 38 11 = iI (lim : Int)) (hlim : lim ≤ 64) (hD : DC I M s) (h0 : 0 ≤ s 0 1 ∧ s 0 1 < lim) {nm : Int} : jc L xs (d + 1) 63 [.ref 38, .int (iI nm)] (jx_G j I M p) (fun v g1 => ∃ I', g1 = jx_G j I' M p ∧ v = some (.int (iI 1)) ∧ fr wD I I' ∧ DC I' M (dS s)) := by
  unfold jc
  refine jv_aload_n (pc' := 1) (k := 0) (x := 38) rfl rfl rfl rfl ?_
  refine jv_getI (pc' := 4) (c := 6) (k := 10) (v := (iI (s 0 1))) rfl rfl rfl (fun _ _ => rfl) rfl rfl hD.2.1 ?_
  refine jv_aload_n (pc' := 5) (k := 0) (x := 38) rfl rfl rfl rfl ?_
  refine jv_getI (pc' := 8) (c := 6) (k := 11) (v := (iI (lim : Int))) rfl rfl rfl (fun _ _ => rfl) rfl rfl h11 ?_
  refine jv_ic_lt (t := 32) (pc' := 11) (a := (s 0 1)) (b := (lim : Int)) rfl rfl rfl (by omega) (fun hz_1 => ?_) (fun hz_1 => ?_)
  · skip
    refine jv_aload_n (pc' := 33) (k := 0) (x := 38) rfl rfl rfl rfl ?_
    refine jx_step (pc' := 34) rfl ?_
    refine jv_getI (pc' := 37) (c := 6) (k := 10) (v := (iI (s 0 1))) rfl rfl rfl (fun _ _ => rfl) rfl rfl hD.2.1 ?_
    refine jv_iconst (pc' := 38) (n := 1) rfl rfl ?_
    refine jv_iadd (pc' := 39) (a := (s 0 1)) (b := 1) rfl rfl ?_
    refine jv_putI (pc' := 42) (c := 6) (k := 10) rfl rfl rfl rfl (fun _ _ _  => rfl) rfl rfl ?_
    refine jv_iconst (pc' := 43) (n := 1) rfl rfl ?_
    refine jv_retZ rfl rfl (by first | exact Or.inl rfl | exact Or.inr rfl) ⟨_, _, rfl, ?_⟩
    exact ⟨_, rfl, rfl, (fr_u (by simp [wD]) (fr_r _)), DC_S hD rfl⟩
  · skip
    exfalso; omega
theorem cl_ms_n (h7 : I 38 7 = iI l) (h11 : I 38 11 = iI (lim : Int)) (hlim : lim ≤ 64) (hD : DC I M s) (h0 : 0 ≤ s 0 1 ∧ s 0 1 ≤ lim ∧ ¬ s 0 1 < lim) {n : Nat} (hn : s 0 2 = (n : Int)) (hn64 : n < 64) {nm : Int} : jc L xs (d + 1) 63 [.ref 38, .int (iI nm)] (jx_G j I M p) (fun v g1 => ∃ I' M', g1 = jx_G j I' M' p ∧ v = some (.int (iI 0)) ∧ fr wD I I' ∧ fr wE M M' ∧ DC I' M' (dE s l nm 0 0 4)) := by
  unfold jc
  refine jv_aload_n (pc' := 1) (k := 0) (x := 38) rfl rfl rfl rfl ?_
  refine jv_getI (pc' := 4) (c := 6) (k := 10) (v := (iI (s 0 1))) rfl rfl rfl (fun _ _ => rfl) rfl rfl hD.2.1 ?_
  refine jv_aload_n (pc' := 5) (k := 0) (x := 38) rfl rfl rfl rfl ?_
  refine jv_getI (pc' := 8) (c := 6) (k := 11) (v := (iI (lim : Int))) rfl rfl rfl (fun _ _ => rfl) rfl rfl h11 ?_
  refine jv_ic_lt (t := 32) (pc' := 11) (a := (s 0 1)) (b := (lim : Int)) rfl rfl rfl (by omega) (fun hz_1 => ?_) (fun hz_1 => ?_)
  · skip
    exfalso; omega
  · skip
    refine jv_aload_n (pc' := 12) (k := 0) (x := 38) rfl rfl rfl rfl ?_
    refine jv_getR (pc' := 15) (c := 6) (k := 0) (v := 39) rfl rfl rfl (fun _ _ => rfl) rfl rfl (jR_38_0 _) ?_
    refine jv_aload_n (pc' := 16) (k := 0) (x := 38) rfl rfl rfl rfl ?_
    refine jv_getI (pc' := 19) (c := 6) (k := 7) (v := (iI l)) rfl rfl rfl (fun _ _ => rfl) rfl rfl h7 ?_
    refine jv_iload_n (pc' := 20) (k := 1) (x := (iI nm)) rfl rfl rfl rfl ?_
    refine jv_aload_n (pc' := 21) (k := 0) (x := 38) rfl rfl rfl rfl ?_
    refine jv_getI (pc' := 24) (c := 6) (k := 9) (v := (iI (s 0 0))) rfl rfl rfl (fun _ _ => rfl) rfl rfl hD.1 ?_
    refine jv_iconst (pc' := 25) (n := 0) rfl rfl ?_
    refine jv_long (pc' := 26) (y := lI 0) rfl (by decide) ?_
    refine jv_iconst (pc' := 27) (n := 4) rfl rfl ?_
    refine jv_call (pc' := 30) rfl (cl_eadd2 (I := I) (M := M) (s := s) hD hn hn64 (b0 := s 0 0) rfl) (fun vq2 gq2 q2 => ?_)
    obtain ⟨Iq2, Mq2, rfl, rfl, Dq2, uq2, wq2⟩ := q2
    show jx L xs _ 63 30 _ [] _ _
    refine jv_iconst (pc' := 31) (n := 0) rfl rfl ?_
    refine jv_retZ rfl rfl (by first | exact Or.inl rfl | exact Or.inr rfl) ⟨_, _, rfl, ?_⟩
    exact ⟨_, _, rfl, rfl, (fr_t (fr_r _) (fr_w uq2 wD_1)), (fr_t (fr_r _) (fr_w wq2 wE_1)), Dq2⟩
variable {Tl : Nat → Nat} {cL : Nat → Nat → Int} {nL fc : Nat → Nat} {fva fnx : Nat → Nat → Int} {F : Nat} {B : Nat → Nat} {ln : Nat}
/-- what the class's decoder works with, whatever the layer -/
def RX (I : Nat → Nat → Int32) (p : Nat → Option Nat) (Tl : Nat → Nat) (cL : Nat → Nat → Int) (nL fc : Nat → Nat) (fva fnx : Nat → Nat → Int) (F : Nat) (B : Nat → Nat) (sz lim : Nat) : Prop := LYS I p Tl cL nL ∧ FWS I fc fva fnx ∧ TXS cL nL ∧ FL F ∧ FB I F B sz ∧ lim ≤ 64
theorem RX_fr {I I' : Nat → Nat → Int32} {p : Nat → Option Nat} {Tl : Nat → Nat} {cL : Nat → Nat → Int} {nL fc : Nat → Nat} {fva fnx : Nat → Nat → Int} {F : Nat} {B : Nat → Nat} {sz lim : Nat} (h : RX I p Tl cL nL fc fva fnx F B sz lim) (f : fr wR I I') : RX I' p Tl cL nL fc fva fnx F B sz lim :=
  ⟨LYS_fr h.1 f, FWS_fr h.2.1 f, h.2.2.1, h.2.2.2.1, FB_fr h.2.2.2.2.1 f (by have := h.2.2.2.1; unfold wR; omega) (by have := h.2.2.2.1; intro k; unfold wR; omega), h.2.2.2.2.2⟩
theorem RX_p {I : Nat → Nat → Int32} {p p' : Nat → Option Nat} {Tl : Nat → Nat} {cL : Nat → Nat → Int} {nL fc : Nat → Nat} {fva fnx : Nat → Nat → Int} {F : Nat} {B : Nat → Nat} {sz lim : Nat} (h : RX I p Tl cL nL fc fva fnx F B sz lim) (q : ∀ i, 13 ≤ i → i < 17 → p' i = p i) : RX I p' Tl cL nL fc fva fnx F B sz lim := ⟨LYS_p h.1 q, h.2⟩
noncomputable def Wd (I : Nat → Nat → Int32) (Tl : Nat → Nat) : Nat → Nat → Int := fun l i => (I (Tl l + 5) i).toInt
theorem DVb_of {lim sz : Nat} {s : DSt} (h : DV lim sz s) : DVb lim sz s := ⟨h.1, h.2.1, by have := h.2.2.1; omega⟩
theorem EP_Z {W : Nat → Nat → Int} {sz : Nat} {s : DSt} (h : EP W sz s) : EP W sz (dZ (dS s)) := EP_c (EP_S h) (dZ_0 _ (by omega) _) (fun r k hr => dZ_0 _ (by omega) k)
theorem s12_Z (s : DSt) : s12 s (dZ s) := fun r k h1 h2 => dZ_0 s ⟨h1, h2⟩ k
end D8
