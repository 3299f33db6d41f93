/-! printed in part by wip/whole/gen/d4.py: the class runs items -/
def NL (Y : Nat → Nat → Int) (f t : Nat) (s s' : DSt) : Prop := ∀ i : Nat, (∀ k, f ≤ k → k < t → Y 0 k ≤ 2 → Y 1 k ≠ (i : Int)) → s' 1 i = s 1 i
def KB (k : DK) : Prop := ∀ x, x ∈ k → x.1 ≤ 80 ∧ -1 ≤ x.2.2 ∧ x.2.2 < 4294967296
theorem KB_c {k : DK} {it : Nat} {gr : Bool} {lf : Int} (h : KB k) (h1 : it ≤ 80) (h2 : -1 ≤ lf ∧ lf < 4294967296) : KB ((it, gr, lf) :: k) := fun x hx => by
  rcases List.mem_cons.1 hx with e | e
  · subst e; exact ⟨h1, h2⟩
  · exact h x e
theorem NL_t {Y : Nat → Nat → Int} {f g t : Nat} {s s1 s2 : DSt} (h : NL Y f g s s1) (q : NL Y g t s1 s2) (h1 : f ≤ g) (h2 : g ≤ t) : NL Y f t s s2 := fun i hi => (q i (fun k a b => hi k (by omega) b)).trans (h i (fun k a b => hi k a (by omega)))
theorem NL_m {Y : Nat → Nat → Int} {f g t : Nat} {s s1 : DSt} (h : NL Y f g s s1) (h2 : g ≤ t) : NL Y f t s s1 := fun i hi => h i (fun k a b => hi k a (by omega))
theorem NL_l {Y : Nat → Nat → Int} {f g t : Nat} {s s1 : DSt} (h : NL Y f g s s1) (h2 : t ≤ f) : NL Y t g s s1 := fun i hi => h i (fun k a b => hi k (by omega) b)
theorem IT_end {c : Nat → Int} {Y : Nat → Nat → Int} {q z f t a b : Nat} (h : IT c Y q z f t a b) (hf : ¬ f < t) : f = t ∧ a = b := by
  cases q with
  | zero => exact h
  | succ q =>
    rcases h with h | h
    · exact h
    · exact absurd h.1 hf
theorem IT_un {c : Nat → Int} {Y : Nat → Nat → Int} {q z f t a b : Nat} (h : IT c Y q z f t a b) (hf : f < t) : ∃ q' e, (FI c Y f a e ∧ IT c Y q' z (f + 1) t e b) ∨ (BK c Y f a ∧ e = a + 2 ∧ IT c Y q' z (f + 1) t e b)
      ∨ ∃ b1 e1 g : Nat, HD c Y f a b1 ∧ (0 < z ∧ IT c Y q' (z - 1) (f + 1) g b1 e1) ∧ c e1 = 41 ∧ e = e1 + 1 ∧ Y 3 f = (g : Int) - ((f : Int) + 1) ∧ f + 1 ≤ g ∧ g ≤ t ∧ IT c Y q' z g t e b := by
  cases q with
  | zero => have := h.1; omega
  | succ q =>
    rcases h with h | ⟨_, e, h⟩
    · have := h.1; omega
    · exact ⟨q, e, h⟩
theorem FK {c : Nat → Int} {Y : Nat → Nat → Int} {f a e : Nat} (h : FI c Y f a e) : ∃ nm w : Nat, Y 1 f = ((nm : Nat) : Int) ∧ nm < 8 ∧ Y 4 nm = ((w : Nat) : Int) ∧ (1 ≤ w ∧ w ≤ 32) ∧ (Y 5 nm = 0 ∨ (Y 5 nm = 1 ∧ (w = 16 ∨ w = 24 ∨ w = 32))) ∧ (Y 0 f = 0 ∨ (Y 0 f = 1 ∧ 0 ≤ Y 2 f ∧ Y 2 f < 1000000) ∨ Y 0 f = 2) := by
  obtain ⟨h1, h2, h3, h4, h5, a2, h6, h7⟩ := h
  refine ⟨(c a - 97).toNat, (nv c (a + 1)).toNat, by omega, by omega, by rw [h5]; omega, by omega, ?_, ?_⟩
  · rcases h6 with h6 | h6
    · exact Or.inr ⟨h6.2.2.1, by omega⟩
    · exact Or.inl h6.2.2
  · rcases h7 with h7 | h7 | h7
    · have := nv_b c (a2 + 1)
      have e2 := h7.2.2.2.1
      exact Or.inr (Or.inl ⟨h7.2.2.1, by rw [e2]; omega, by rw [e2]; omega⟩)
    · exact Or.inr (Or.inr h7.2.1)
    · exact Or.inl h7.2.2.1
theorem FD_c {B : Nat → Nat} {lim sz bg : Nat} {l : Int} {Y : Nat → Nat → Int} {f nm w : Nat} {s s' : DSt} {ok : Bool} (h1 : Y 1 f = ((nm : Nat) : Int)) (h4 : Y 4 nm = ((w : Nat) : Int)) (h : FD B lim sz bg l nm w (Y 5 nm) (Y 0 f) (Y 2 f) s ok s') : FD B lim sz bg l (Y 1 f).toNat (Y 4 (Y 1 f).toNat).toNat (Y 5 (Y 1 f).toNat) (Y 0 f) (Y 2 f) s ok s' := by
  rw [h1, Int.toNat_natCast, h4, Int.toNat_natCast]; exact h
theorem BK_n {c : Nat → Int} {Y : Nat → Nat → Int} {f a : Nat} (h : CN c Y f a) : Y 1 f = -1 ∨ ∃ nm : Nat, Y 1 f = ((nm : Nat) : Int) ∧ nm < 8 := by
  rcases h with h | h
  · exact Or.inl h.2
  · exact Or.inr ⟨(c a - 97).toNat, by have := h.2.1; have := h.2.2; omega, by have := h.2.1; omega⟩
def PDI (c : Nat → Int) (B : Nat → Nat) (lim sz bg : Nat) (l : Int) (Y : Nat → Nat → Int) (j : Nat) (p : Nat → Option Nat) (I : Nat → Nat → Int32) (M : Nat → Nat → Int64) (f t a b : Nat) (k : DK) (s : DSt) (v : Option Value) (g1 : jm_H) : Prop :=
  ∃ I' M' s', g1 = jx_G j I' M' p ∧ fr wD I I' ∧ fr wE M M' ∧ DC I' M' s' ∧ DRes sz l Y s s' ∧ ((v = some (.int (iI 1)) ∧ DV lim sz s' ∧ (∃ n, DR c B lim sz bg l n 0 a k s 0 b k s') ∧ NL Y f t s s') ∨ (v = some (.int (iI 0)) ∧ ∃ n, DQ c B lim sz bg l n 0 a k s s'))
def CDI (h dd : Nat) : Prop := ∀ (L : Nat) (xs : Nat → Int32) (d j : Nat) (I : Nat → Nat → Int32) (M : Nat → Nat → Int64) (p : Nat → Option Nat) (F T : Nat) (B : Nat → Nat) (sz : Nat) (Y : Nat → Nat → Int) (m : Nat) (l : Int) (bg lim : Nat) (s : DSt) (c : Nat → Int) (q f t a b D : Nat) (k : DK),
  DX I p F T B sz Y m l bg lim → DC I M s → DV lim sz s → IT c Y q h f t a b → t ≤ m → b ≤ 80 → k.length = D → D + h = 3 → KB k →
  jc L xs (d + dd) 64 [.ref 38, .int (iI ((f : Nat) : Int)), .int (iI ((t : Nat) : Int)), .int (iI ((D : Nat) : Int))] (jx_G j I M p) (PDI c B lim sz bg l Y j p I M f t a b k s)
def CDG (h dd : Nat) : Prop := ∀ (L : Nat) (xs : Nat → Int32) (d j : Nat) (I : Nat → Nat → Int32) (M : Nat → Nat → Int64) (p : Nat → Option Nat) (F T : Nat) (B : Nat → Nat) (sz : Nat) (Y : Nat → Nat → Int) (m : Nat) (l : Int) (bg lim : Nat) (s : DSt) (c : Nat → Int) (q f g a b1 e1 D : Nat) (k : DK),
  DX I p F T B sz Y m l bg lim → DC I M s → DV lim sz s → HD c Y f a b1 → c a = 35 → IT c Y q h (f + 1) g b1 e1 → c e1 = 41 → Y 3 f = (g : Int) - ((f : Int) + 1) → f + 1 ≤ g → g ≤ m → e1 + 1 ≤ 80 → k.length = D → D + 1 + h = 3 → KB k →
  jc L xs (d + dd) 66 [.ref 38, .int (iI ((f : Nat) : Int)), .int (iI ((D : Nat) : Int))] (jx_G j I M p) (PDI c B lim sz bg l Y j p I M f g a (e1 + 1) k s)
theorem CDI_s {h dd : Nat} (q : CDI h dd) : CDI h (dd + 1) := fun L xs d => by
  have := q L xs (d + 1)
  rw [show d + (dd + 1) = d + 1 + dd by omega]
  exact this
section DTs
variable {c : Nat → Int} {B : Nat → Nat} {lim sz bg : Nat} {l : Int} {a a' b n : Nat} {k : DK} {s s' : DSt} {Y : Nat → Nat → Int} {f nm w e : Nat}
theorem DT_f (h : FI c Y f a e) (h1 : Y 1 f = ((nm : Nat) : Int)) (h4 : Y 4 nm = ((w : Nat) : Int)) (q : FD B lim sz bg l nm w (Y 5 nm) (Y 0 f) (Y 2 f) s true s') : DT c B lim sz bg l 0 a k s 0 e k s' := Or.inl ⟨rfl, rfl, rfl, Y, f, h, FD_c h1 h4 q⟩
theorem DT_b (h : BK c Y f a) (q : BL lim sz l (Y 1 f) s true s') : DT c B lim sz bg l 0 a k s 0 (a + 2) k s' := Or.inr (Or.inl ⟨rfl, rfl, rfl, rfl, Y, f, h, q⟩)
theorem DT_g {lf : Int} (h : HD c Y f a b) (hc : c a = 35) (hl : (if Y 1 f = -1 then (-1 : Int) else s 1 (Y 1 f).toNat) = lf) : DT c B lim sz bg l 0 a k s 1 b ((b, true, lf) :: k) s := by
  subst hl
  exact Or.inr (Or.inr (Or.inl ⟨rfl, rfl, rfl, Y, f, h, hc, rfl⟩))
theorem DT_o (h : HD c Y f a b) (hc : c a = 63) (q : CH Y f s) : DT c B lim sz bg l 0 a k s 0 b ((b, false, 0) :: k) s := Or.inr (Or.inr (Or.inr (Or.inl ⟨rfl, rfl, rfl, Y, f, b, h, hc, Or.inl ⟨q, rfl, rfl⟩⟩)))
theorem DT_n (h : HD c Y f a b) (hc : c a = 63) (q : ¬ CH Y f s) (hl : LQ c n 1 b e) : DT c B lim sz bg l 0 a k s 0 e k s := Or.inr (Or.inr (Or.inr (Or.inl ⟨rfl, rfl, rfl, Y, f, b, h, hc, Or.inr ⟨q, rfl, n, hl⟩⟩)))
theorem DT_c {x : Nat × Bool × Int} (hc : c a = 41) : DT c B lim sz bg l 0 a (x :: k) s 1 a' (x :: k) s := Or.inr (Or.inr (Or.inr (Or.inr (Or.inl ⟨rfl, rfl, rfl, rfl, by simp, hc⟩))))
theorem DT_a {it : Nat} {gr : Bool} {lf lf' : Int} (h : AG sz gr lf s) (q : SP lim l 9 s true s') (hl : (if lf < 0 then lf else lf - 1) = lf') : DT c B lim sz bg l 1 a ((it, gr, lf) :: k) s 0 it ((it, gr, lf') :: k) s' := by
  subst hl
  exact Or.inr (Or.inr (Or.inr (Or.inr (Or.inr ⟨rfl, rfl, it, gr, lf, k, rfl, Or.inl ⟨h, q, rfl, rfl⟩⟩))))
theorem DT_e {it : Nat} {gr : Bool} {lf : Int} (h : ¬ AG sz gr lf s) (hl : LQ c n 1 it e) : DT c B lim sz bg l 1 a ((it, gr, lf) :: k) s 0 e k s :=
  Or.inr (Or.inr (Or.inr (Or.inr (Or.inr ⟨rfl, rfl, it, gr, lf, k, rfl, Or.inr ⟨h, rfl, rfl, n, hl⟩⟩))))
theorem DQ_f (hb : DB lim sz a k s) (he : e ≤ 80) (h : FI c Y f a e) (h1 : Y 1 f = ((nm : Nat) : Int)) (h4 : Y 4 nm = ((w : Nat) : Int)) (q : FD B lim sz bg l nm w (Y 5 nm) (Y 0 f) (Y 2 f) s false s') : DQ c B lim sz bg l 0 0 a k s s' := ⟨hb, Or.inl ⟨rfl, Y, f, e, he, h, FD_c h1 h4 q⟩⟩
theorem DQ_b (hb : DB lim sz a k s) (he : a + 2 ≤ 80) (h : BK c Y f a) (q : BL lim sz l (Y 1 f) s false s') : DQ c B lim sz bg l 0 0 a k s s' := ⟨hb, Or.inr (Or.inl ⟨rfl, Y, f, he, h, q⟩)⟩
theorem DQ_a {it : Nat} {gr : Bool} {lf : Int} (hb : DB lim sz a ((it, gr, lf) :: k) s) (h : AG sz gr lf s) (q : SP lim l 9 s false s') : DQ c B lim sz bg l 0 1 a ((it, gr, lf) :: k) s s' := ⟨hb, Or.inr (Or.inr ⟨rfl, it, gr, lf, k, rfl, h, q⟩)⟩
theorem LQ_1 {e1 : Nat} (hc : c e1 = 41) (h : e1 < 80) : LQ c 1 1 e1 (e1 + 1) := by
  refine ⟨by omega, h, ?_⟩
  rw [if_neg (by omega), if_pos hc]; exact ⟨rfl, rfl⟩
end DTs

set_option maxHeartbeats 4000000 in
theorem cl_CDG {h e : Nat} (hI : CDI h (e + 2)) : CDG h (e + 3) := by
  intro L xs d j I M p F T B sz Y m l bg lim s c q fi g a b1 e1 D k hX hD hV hHD hca hIT hce hY3 hfg hgm he1 hkl hDh hKB
  show jc L xs (d + e + 3) _ _ _ _
  unfold jc
  have hs := hX.2.2.2.2.1.2.1
  have hlim := hX.2.2.2.2.2.2.2.2.2.1
  have hbg := hX.2.2.2.2.2.2.2.2.2.2.1
  have hl := hX.2.2.2.2.2.2.2.2.2.2.2.1
  have hU := hX.2.2.2.2.2.2.2.2.2.2.2.2
  have hv0 := hV.1
  have hv1 := hV.2.1
  have hv2 := hV.2.2.1
  have hm40 := hX.2.2.2.2.2.1.2.1
  obtain ⟨hk4, hcn, hc40, hb1⟩ : Y 0 fi = 4 ∧ CN c Y fi (a + 1) ∧ c (a + 2) = 40 ∧ b1 = a + 3 := by
    rcases hHD with z | z
    · exact ⟨z.2.1, z.2.2.1, z.2.2.2.1, z.2.2.2.2⟩
    · exact absurd z.1 (by omega)
  have hbe := IT_ab hIT
  obtain ⟨nq, hLQ⟩ := LQ_it hIT (dp := 1) (by omega) (by omega) (LQ_1 hce (by omega))
  rcases BK_n hcn with hst | ⟨nm, h1, hnm⟩
  · skip
    have hLF : (if Y 1 fi = -1 then (-1 : Int) else s 1 (Y 1 fi).toNat) = (-1) := by rw [if_pos hst]
    refine jv_aload_n (pc' := 1) (k := 0) (x := 38) rfl rfl rfl rfl ?_
    refine jv_getR (pc' := 4) (c := 6) (k := 6) (v := T) rfl rfl rfl (fun _ _ => rfl) rfl rfl hX.2.2.2.1 ?_
    refine jv_getR (pc' := 7) (c := 2) (k := 1) (v := (T + 2)) rfl rfl rfl (fun _ _ => rfl) (YL_A hX.2.1 j _ _ p) rfl (YL_R2 hX.2.1 p) ?_
    refine jv_iload_n (pc' := 8) (k := 1) (x := (iI ((fi : Nat) : Int))) rfl rfl rfl rfl ?_
    refine jv_iaload (pc' := 9) (n := 40) (e := ((fi : Nat) : Int)) (v := (iI (-1))) rfl rfl (YL_S hX.2.1 2 (by omega)) (YL_B2 hX.2.1 j _ _ p) (YL_n2 hX.2.1) rfl (by omega) (((hX.2.2.2.2.2.1.2.2.1 fi (by omega)).2.1).trans (congrArg iI hst)) ?_
    refine jv_istore_n (pc' := 10) (k := 3) (x := (iI (-1))) rfl rfl rfl rfl (Or.inr rfl) ?_
    refine jv_iconst (pc' := 11) (n := 0) rfl rfl ?_
    refine jv_istore (pc' := 13) (k := 4) (x := (iI 0)) rfl rfl rfl (Or.inr rfl) ?_
    have H1 : ∀ (N : Nat) (dn : Nat) (I1 : Nat → Nat → Int32) (M1 : Nat → Nat → Int64) (s1 : DSt) (n1 : Nat) (a1 : Nat), 64 - dn < N → (dn ≤ 64) → (fr wD I I1) → (fr wE M M1) → (DC I1 M1 s1) → (DV lim sz s1) → (DRes sz l Y s s1) → (((dn : Nat) : Int) + s 0 1 ≤ s1 0 1) → (a1 ≤ 80) → (DR c B lim sz bg l n1 0 a k s 1 a1 ((b1, true, (-1)) :: k) s1) → (NL Y fi g s s1) → ∀ f : jm_F, f 0 = some (.ref 38) → f 1 = some (.int (iI ((fi : Nat) : Int))) → f 2 = some (.int (iI ((D : Nat) : Int))) → f 3 = some (.int (iI (-1))) → f 4 = some (.int (iI ((dn : Nat) : Int))) → jx L xs ((d + e + 3)) 66 13 f [] (jx_G j I1 M1 p) (fun z => ∃ v g1, z = (.inl v, g1) ∧ PDI c B lim sz bg l Y j p I M fi g a (e1 + 1) k s v g1) := by
      intro N
      induction N with
      | zero => intro dn I1 M1 s1 n1 a1 hN; exact absurd hN (Nat.not_lt_zero _)
      | succ N ih =>
        intro dn I1 M1 s1 n1 a1 hN hdn hf hm hD1 hV1 hR1 hdn2 ha1 hP1 hN1 f hf0 hf1 hf2 hf3 hf4 
        refine jv_iload (pc' := 15) (k := 4) (x := (iI ((dn : Nat) : Int))) rfl rfl hf4 ?_
        have y1 := hV1.1
        have y2 := hV1.2.1
        have y3 := hV1.2.2.1
        have X1 := DX_fr hX hf
        have hlf2 : AG sz true (-1) s1 → (if (-1 : Int) < 0 then (-1) else (-1) - 1) = (-1) := fun z => by
          rw [if_pos (by omega)]
        refine jv_bipush (pc' := 17) (n := 64) rfl rfl rfl ?_
        refine jv_ic_gt (t := 110) (pc' := 20) (a := ((dn : Nat) : Int)) (b := 64) rfl rfl rfl (by omega) (fun hz_2 => ?_) (fun hz_2 => ?_)
        · skip
          refine jv_iconst (pc' := 111) (n := 0) rfl rfl ?_
          refine jv_retZ rfl rfl (by first | exact Or.inl rfl | exact Or.inr rfl) ⟨_, _, rfl, ?_⟩
          exfalso; omega
        · skip
          refine jv_iload_n (pc' := 21) (k := 3) (x := (iI (-1))) rfl rfl rfl hf3 ?_
          refine jv_iconst (pc' := 22) (n := -1) rfl rfl ?_
          refine jv_ic_ne (t := 40) (pc' := 25) (a := (-1)) (b := (-1)) rfl rfl rfl (by omega) (fun hz_3 => ?_) (fun hz_3 => ?_)
          · skip
            exact absurd hz_3 (by decide)
          · skip
            refine jv_aload_n (pc' := 26) (k := 0) (x := 38) rfl rfl rfl hf0 ?_
            refine jv_call (pc' := 29) rfl (cl_bitsLeft (I := I1) (M := M1) (s := s1) X1 hD1 hV1) (fun vq4 gq4 q4 => ?_)
            obtain ⟨rfl, rfl⟩ := q4
            show jx L xs _ 66 29 _ [.int (iI (8 * (sz : Int) - s1 0 0))] _ _
            refine jv_if_le (t := 36) (pc' := 32) (a := (8 * (sz : Int) - s1 0 0)) rfl rfl rfl (by omega) (fun hz_5 => ?_) (fun hz_5 => ?_)
            · skip
              refine jv_iconst (pc' := 37) (n := 0) rfl rfl ?_
              refine jx_step (pc' := 58) rfl ?_
              refine jv_istore (pc' := 60) (k := 5) (x := (iI 0)) rfl rfl rfl (Or.inr (congrArg jm_lng hf4)) ?_
              refine jv_iload (pc' := 62) (k := 5) (x := (iI 0)) rfl rfl rfl ?_
              refine jv_if_ne (t := 67) (pc' := 65) (a := 0) rfl rfl rfl (by omega) (fun hz_6 => ?_) (fun hz_6 => ?_)
              · skip
                exact absurd hz_6 (by decide)
              · skip
                refine jv_iconst (pc' := 66) (n := 1) rfl rfl ?_
                refine jv_retZ rfl rfl (by first | exact Or.inl rfl | exact Or.inr rfl) ⟨_, _, rfl, ?_⟩
                first
                | (exfalso; omega)
                | exact ⟨_, _, _, rfl, hf, hm, hD1, hR1, Or.inl ⟨rfl, hV1, ⟨_, DR_app hP1 (DR_1 ⟨ha1, by simp [hkl]; omega, hV1, KB_c hKB (by omega) (by omega)⟩ (DT_e (fun z => by rcases z.2 with z | z; have := z.2; omega; omega) hLQ))⟩, hN1⟩⟩
            · skip
              refine jv_iconst (pc' := 33) (n := 1) rfl rfl ?_
              refine jx_step (pc' := 58) rfl ?_
              refine jv_istore (pc' := 60) (k := 5) (x := (iI 1)) rfl rfl rfl (Or.inr (congrArg jm_lng hf4)) ?_
              refine jv_iload (pc' := 62) (k := 5) (x := (iI 1)) rfl rfl rfl ?_
              refine jv_if_ne (t := 67) (pc' := 65) (a := 1) rfl rfl rfl (by omega) (fun hz_7 => ?_) (fun hz_7 => ?_)
              · skip
                refine jv_aload_n (pc' := 68) (k := 0) (x := 38) rfl rfl rfl hf0 ?_
                refine jv_bipush (pc' := 70) (n := 9) rfl rfl rfl ?_
                refine jv_call (pc' := 73) rfl (cl_makeStep (I := I1) (M := M1) (s := s1) (nm := 9) X1 hD1 hV1) (fun vq8 gq8 q8 => ?_)
                obtain ⟨Iq8, Mq8, rfl, rq8, tq8, q8⟩ := q8
                rcases q8 with ⟨oq8, rfl, Dq8⟩ | ⟨oq8, rfl, Dq8⟩
                · skip
                  have Xq8 := DX_fr X1 rq8
                  have Vq8 := DV_S hV1 oq8
                  show jx L xs _ 66 73 _ [.int (iI 1)] _ _
                  refine jv_if_eq (t := 102) (pc' := 76) (a := 1) rfl rfl rfl (by omega) (fun hz_9 => ?_) (fun hz_9 => ?_)
                  · skip
                    exact absurd hz_9 (by decide)
                  · skip
                    refine jv_aload_n (pc' := 77) (k := 0) (x := 38) rfl rfl rfl hf0 ?_
                    refine jv_iload_n (pc' := 78) (k := 1) (x := (iI ((fi : Nat) : Int))) rfl rfl rfl hf1 ?_
                    refine jv_iconst (pc' := 79) (n := 1) rfl rfl ?_
                    refine jv_iadd (pc' := 80) (a := ((fi : Nat) : Int)) (b := 1) rfl rfl ?_
                    refine jv_iload_n (pc' := 81) (k := 1) (x := (iI ((fi : Nat) : Int))) rfl rfl rfl hf1 ?_
                    refine jv_iconst (pc' := 82) (n := 1) rfl rfl ?_
                    refine jv_iadd (pc' := 83) (a := ((fi : Nat) : Int)) (b := 1) rfl rfl ?_
                    refine jv_aload_n (pc' := 84) (k := 0) (x := 38) rfl rfl rfl hf0 ?_
                    refine jv_getR (pc' := 87) (c := 6) (k := 6) (v := T) rfl rfl rfl (fun _ _ => rfl) rfl rfl hX.2.2.2.1 ?_
                    refine jv_getR (pc' := 90) (c := 2) (k := 3) (v := (T + 4)) rfl rfl rfl (fun _ _ => rfl) (YL_A hX.2.1 j _ _ p) rfl (YL_R4 hX.2.1 p) ?_
                    refine jv_iload_n (pc' := 91) (k := 1) (x := (iI ((fi : Nat) : Int))) rfl rfl rfl hf1 ?_
                    refine jv_iaload (pc' := 92) (n := 40) (e := ((fi : Nat) : Int)) (v := (iI (Y 3 fi))) rfl rfl (YL_S hX.2.1 4 (by omega)) (YL_B4 hX.2.1 j _ _ p) (YL_n4 hX.2.1) rfl (by omega) ((Xq8.2.2.2.2.2.1.2.2.1 fi (by omega)).2.2.2) ?_
                    refine jv_iadd (pc' := 93) (a := (((fi : Nat) : Int) + 1)) (b := (Y 3 fi)) rfl rfl ?_
                    refine jv_iload_n (pc' := 94) (k := 2) (x := (iI ((D : Nat) : Int))) rfl rfl rfl hf2 ?_
                    refine jv_iconst (pc' := 95) (n := 1) rfl rfl ?_
                    refine jv_iadd (pc' := 96) (a := ((D : Nat) : Int)) (b := 1) rfl rfl ?_
                    rw [show (((fi : Nat) : Int) + 1) + (Y 3 fi) = ((g : Nat) : Int) by omega]
                    rw [show ((fi : Nat) : Int) + 1 = ((fi + 1 : Nat) : Int) by omega]
                    rw [show ((D : Nat) : Int) + 1 = ((D + 1 : Nat) : Int) by omega]
                    refine jv_call (pc' := 99) rfl (hI L xs d j Iq8 Mq8 p F T B sz Y m l bg lim (dS s1) c q (fi + 1) g b1 e1 (D + 1) ((b1, true, (-1)) :: k) Xq8 Dq8 Vq8.1 hIT (by omega) (by omega) (by simp [hkl]) (by omega) (KB_c hKB (by omega) (by omega))) (fun vq10 gq10 q10 => ?_)
                    obtain ⟨Iq10, Mq10, sq10, rfl, rq10, tq10, Dq10, Rq10, q10⟩ := q10
                    rcases q10 with ⟨rfl, Vq10, ⟨nq10, Pq10⟩, Nq10⟩ | ⟨rfl, nq10, Qq10⟩
                    · skip
                      have Xq10 := DX_fr Xq8 rq10
                      have z1q10 := Vq10.1
                      have z2q10 := Vq10.2.1
                      have z3q10 := Vq10.2.2.1
                      have z4q10 := Rq10.1
                      show jx L xs _ 66 99 _ [.int (iI 1)] _ _
                      refine jv_if_ne (t := 104) (pc' := 102) (a := 1) rfl rfl rfl (by omega) (fun hz_11 => ?_) (fun hz_11 => ?_)
                      · skip
                        refine jv_iinc (pc' := 107) (k := 4) (a := ((dn : Nat) : Int)) rfl rfl hf4 rfl (Or.inr (congrArg jm_lng hf3)) ?_
                        refine jx_step (pc' := 13) rfl ?_
                        exact ih (dn + 1) Iq10 Mq10 sq10 _ e1 (by omega) (by omega) (fr_t (fr_t hf rq8) rq10) (fr_t (fr_t hm tq8) tq10) Dq10 Vq10 (DRes_t hR1 (DRes_t (DRes_S hV1 hlim) Rq10)) (by have := (dS_0 s1).2.1; omega) (show e1 ≤ 80 by omega) (DR_app hP1 (DR_app (DR_1 ⟨ha1, by simp [hkl]; omega, hV1, KB_c hKB (by omega) (by omega)⟩ (DT_a ⟨rfl, Or.inl ⟨by omega, by omega⟩⟩ (Or.inl ⟨oq8, rfl, rfl⟩) (hlf2 ⟨rfl, Or.inl ⟨by omega, by omega⟩⟩))) (DR_app Pq10 (DR_1 ⟨by omega, by simp [hkl]; omega, Vq10, KB_c hKB (by omega) (by omega)⟩ (DT_c (a' := e1) hce))))) (fun i hi => (Nq10 i (fun k a b => hi k (by omega) b)).trans ((dS_r s1 (by omega) i).trans (hN1 i hi))) _ hf0 hf1 hf2 hf3 rfl 
                      · skip
                        exact absurd hz_11 (by decide)
                    · skip
                      have Xq10 := DX_fr Xq8 rq10
                      show jx L xs _ 66 99 _ [.int (iI 0)] _ _
                      refine jv_if_ne (t := 104) (pc' := 102) (a := 0) rfl rfl rfl (by omega) (fun hz_12 => ?_) (fun hz_12 => ?_)
                      · skip
                        exact absurd hz_12 (by decide)
                      · skip
                        refine jv_iconst (pc' := 103) (n := 0) rfl rfl ?_
                        refine jv_retZ rfl rfl (by first | exact Or.inl rfl | exact Or.inr rfl) ⟨_, _, rfl, ?_⟩
                        first
                        | (exfalso; omega)
                        | exact ⟨_, _, _, rfl, (fr_t (fr_t hf rq8) rq10), (fr_t (fr_t hm tq8) tq10), Dq10, DRes_t hR1 (DRes_t (DRes_S hV1 hlim) Rq10), Or.inr ⟨rfl, _, DR_DQ hP1 (DR_DQ (DR_1 ⟨ha1, by simp [hkl]; omega, hV1, KB_c hKB (by omega) (by omega)⟩ (DT_a ⟨rfl, Or.inl ⟨by omega, by omega⟩⟩ (Or.inl ⟨oq8, rfl, rfl⟩) (hlf2 ⟨rfl, Or.inl ⟨by omega, by omega⟩⟩))) Qq10)⟩⟩
                · skip
                  have Xq8 := DX_fr X1 rq8
                  show jx L xs _ 66 73 _ [.int (iI 0)] _ _
                  refine jv_if_eq (t := 102) (pc' := 76) (a := 0) rfl rfl rfl (by omega) (fun hz_13 => ?_) (fun hz_13 => ?_)
                  · skip
                    refine jv_iconst (pc' := 103) (n := 0) rfl rfl ?_
                    refine jv_retZ rfl rfl (by first | exact Or.inl rfl | exact Or.inr rfl) ⟨_, _, rfl, ?_⟩
                    first
                    | (exfalso; omega)
                    | exact ⟨_, _, _, rfl, (fr_t hf rq8), (fr_t hm tq8), Dq8, DRes_t hR1 (DRes_E hV1 hlim hl (by omega) (by omega)), Or.inr ⟨rfl, _, DR_DQ hP1 (DQ_a ⟨ha1, by simp [hkl]; omega, hV1, KB_c hKB (by omega) (by omega)⟩ ⟨rfl, Or.inl ⟨by omega, by omega⟩⟩ (Or.inr ⟨oq8, rfl, rfl⟩))⟩⟩
                  · skip
                    exact absurd hz_13 (by decide)
              · skip
                exact absurd hz_7 (by decide)
    exact H1 _ 0 I M s 1 b1 (Nat.lt_succ_self _) (by omega) (fr_r _) (fr_r _) hD hV (DRes_r hV hlim) (by omega) (show b1 ≤ 80 by omega) (DR_1 ⟨by omega, by omega, hV, hKB⟩ (DT_g hHD hca hLF)) (fun i _ => rfl) _ rfl rfl rfl rfl rfl 
  · skip
    have hun : ∀ k, fi ≤ k → k < g → Y 0 k ≤ 2 → Y 1 k ≠ ((nm : Nat) : Int) := fun k h5 h6 h7 h8 => by
      by_cases e0 : k = fi
      · subst e0; omega
      · exact hU.2.1 fi k (by omega) (by omega) h7 (h8.trans h1.symm)
    have hv3 := (hV.2.2.2 nm hnm).1
    have hLF : (if Y 1 fi = -1 then (-1 : Int) else s 1 (Y 1 fi).toNat) = (s 1 nm - (((0) : Nat) : Int)) := by rw [if_neg (by omega), h1, Int.toNat_natCast]; simp
    refine jv_aload_n (pc' := 1) (k := 0) (x := 38) rfl rfl rfl rfl ?_
    refine jv_getR (pc' := 4) (c := 6) (k := 6) (v := T) rfl rfl rfl (fun _ _ => rfl) rfl rfl hX.2.2.2.1 ?_
    refine jv_getR (pc' := 7) (c := 2) (k := 1) (v := (T + 2)) rfl rfl rfl (fun _ _ => rfl) (YL_A hX.2.1 j _ _ p) rfl (YL_R2 hX.2.1 p) ?_
    refine jv_iload_n (pc' := 8) (k := 1) (x := (iI ((fi : Nat) : Int))) rfl rfl rfl rfl ?_
    refine jv_iaload (pc' := 9) (n := 40) (e := ((fi : Nat) : Int)) (v := (iI ((nm : Nat) : Int))) rfl rfl (YL_S hX.2.1 2 (by omega)) (YL_B2 hX.2.1 j _ _ p) (YL_n2 hX.2.1) rfl (by omega) (((hX.2.2.2.2.2.1.2.2.1 fi (by omega)).2.1).trans (congrArg iI h1)) ?_
    refine jv_istore_n (pc' := 10) (k := 3) (x := (iI ((nm : Nat) : Int))) rfl rfl rfl rfl (Or.inr rfl) ?_
    refine jv_iconst (pc' := 11) (n := 0) rfl rfl ?_
    refine jv_istore (pc' := 13) (k := 4) (x := (iI 0)) rfl rfl rfl (Or.inr rfl) ?_
    have H1 : ∀ (N : Nat) (dn : Nat) (I1 : Nat → Nat → Int32) (M1 : Nat → Nat → Int64) (s1 : DSt) (n1 : Nat) (a1 : Nat), 64 - dn < N → (dn ≤ 64) → (fr wD I I1) → (fr wE M M1) → (DC I1 M1 s1) → (DV lim sz s1) → (DRes sz l Y s s1) → (((dn : Nat) : Int) + s 0 1 ≤ s1 0 1) → (a1 ≤ 80) → (DR c B lim sz bg l n1 0 a k s 1 a1 ((b1, true, (s 1 nm - (((dn) : Nat) : Int))) :: k) s1) → (NL Y fi g s s1) → (((dn : Nat) : Int) ≤ s 1 nm) → ∀ f : jm_F, f 0 = some (.ref 38) → f 1 = some (.int (iI ((fi : Nat) : Int))) → f 2 = some (.int (iI ((D : Nat) : Int))) → f 3 = some (.int (iI ((nm : Nat) : Int))) → f 4 = some (.int (iI ((dn : Nat) : Int))) → jx L xs ((d + e + 3)) 66 13 f [] (jx_G j I1 M1 p) (fun z => ∃ v g1, z = (.inl v, g1) ∧ PDI c B lim sz bg l Y j p I M fi g a (e1 + 1) k s v g1) := by
      intro N
      induction N with
      | zero => intro dn I1 M1 s1 n1 a1 hN; exact absurd hN (Nat.not_lt_zero _)
      | succ N ih =>
        intro dn I1 M1 s1 n1 a1 hN hdn hf hm hD1 hV1 hR1 hdn2 ha1 hP1 hN1 hdl f hf0 hf1 hf2 hf3 hf4 
        refine jv_iload (pc' := 15) (k := 4) (x := (iI ((dn : Nat) : Int))) rfl rfl hf4 ?_
        have y1 := hV1.1
        have y2 := hV1.2.1
        have y3 := hV1.2.2.1
        have X1 := DX_fr hX hf
        have hlf2 : AG sz true (s 1 nm - (((dn) : Nat) : Int)) s1 → (if ((s 1 nm - (((dn) : Nat) : Int)) : Int) < 0 then (s 1 nm - (((dn) : Nat) : Int)) else (s 1 nm - (((dn) : Nat) : Int)) - 1) = (s 1 nm - (((dn + 1) : Nat) : Int)) := fun z => by
          rw [if_neg (by omega)]; omega
        have y4 : s1 1 nm = s 1 nm := hN1 nm hun
        refine jv_bipush (pc' := 17) (n := 64) rfl rfl rfl ?_
        refine jv_ic_gt (t := 110) (pc' := 20) (a := ((dn : Nat) : Int)) (b := 64) rfl rfl rfl (by omega) (fun hz_2 => ?_) (fun hz_2 => ?_)
        · skip
          refine jv_iconst (pc' := 111) (n := 0) rfl rfl ?_
          refine jv_retZ rfl rfl (by first | exact Or.inl rfl | exact Or.inr rfl) ⟨_, _, rfl, ?_⟩
          exfalso; omega
        · skip
          refine jv_iload_n (pc' := 21) (k := 3) (x := (iI ((nm : Nat) : Int))) rfl rfl rfl hf3 ?_
          refine jv_iconst (pc' := 22) (n := -1) rfl rfl ?_
          refine jv_ic_ne (t := 40) (pc' := 25) (a := ((nm : Nat) : Int)) (b := (-1)) rfl rfl rfl (by omega) (fun hz_3 => ?_) (fun hz_3 => ?_)
          · skip
            refine jv_iload (pc' := 42) (k := 4) (x := (iI ((dn : Nat) : Int))) rfl rfl hf4 ?_
            refine jv_i2l (pc' := 43) (a := ((dn : Nat) : Int)) rfl rfl (by omega) ?_
            refine jv_aload_n (pc' := 44) (k := 0) (x := 38) rfl rfl rfl hf0 ?_
            refine jv_getR (pc' := 47) (c := 6) (k := 3) (v := 44) rfl rfl rfl (fun _ _ => rfl) rfl rfl (jR_38_3 _) ?_
            refine jv_iload_n (pc' := 48) (k := 3) (x := (iI ((nm : Nat) : Int))) rfl rfl rfl hf3 ?_
            refine jv_laload (pc' := 49) (n := 8) (e := ((nm : Nat) : Int)) (v := (lI (s1 1 nm))) rfl rfl rfl rfl rfl (by omega) ((hD1.2.2.2.1 nm (by omega)).1) ?_
            refine jv_lc_ge (t := 57) (pc' := 53) (a := ((dn : Nat) : Int)) (b := (s1 1 nm)) rfl rfl rfl rfl rfl (by omega) (fun hz_4 => ?_) (fun hz_4 => ?_)
            · skip
              refine jv_iconst (pc' := 58) (n := 0) rfl rfl ?_
              refine jv_istore (pc' := 60) (k := 5) (x := (iI 0)) rfl rfl rfl (Or.inr (congrArg jm_lng hf4)) ?_
              refine jv_iload (pc' := 62) (k := 5) (x := (iI 0)) rfl rfl rfl ?_
              refine jv_if_ne (t := 67) (pc' := 65) (a := 0) rfl rfl rfl (by omega) (fun hz_5 => ?_) (fun hz_5 => ?_)
              · skip
                exact absurd hz_5 (by decide)
              · skip
                refine jv_iconst (pc' := 66) (n := 1) rfl rfl ?_
                refine jv_retZ rfl rfl (by first | exact Or.inl rfl | exact Or.inr rfl) ⟨_, _, rfl, ?_⟩
                first
                | (exfalso; omega)
                | exact ⟨_, _, _, rfl, hf, hm, hD1, hR1, Or.inl ⟨rfl, hV1, ⟨_, DR_app hP1 (DR_1 ⟨ha1, by simp [hkl]; omega, hV1, KB_c hKB (by omega) (by omega)⟩ (DT_e (fun z => by rcases z.2 with z | z; have := z.1; omega; omega) hLQ))⟩, hN1⟩⟩
            · skip
              refine jv_iconst (pc' := 54) (n := 1) rfl rfl ?_
              refine jx_step (pc' := 58) rfl ?_
              refine jv_istore (pc' := 60) (k := 5) (x := (iI 1)) rfl rfl rfl (Or.inr (congrArg jm_lng hf4)) ?_
              refine jv_iload (pc' := 62) (k := 5) (x := (iI 1)) rfl rfl rfl ?_
              refine jv_if_ne (t := 67) (pc' := 65) (a := 1) rfl rfl rfl (by omega) (fun hz_6 => ?_) (fun hz_6 => ?_)
              · skip
                refine jv_aload_n (pc' := 68) (k := 0) (x := 38) rfl rfl rfl hf0 ?_
                refine jv_bipush (pc' := 70) (n := 9) rfl rfl rfl ?_
                refine jv_call (pc' := 73) rfl (cl_makeStep (I := I1) (M := M1) (s := s1) (nm := 9) X1 hD1 hV1) (fun vq7 gq7 q7 => ?_)
                obtain ⟨Iq7, Mq7, rfl, rq7, tq7, q7⟩ := q7
                rcases q7 with ⟨oq7, rfl, Dq7⟩ | ⟨oq7, rfl, Dq7⟩
                · skip
                  have Xq7 := DX_fr X1 rq7
                  have Vq7 := DV_S hV1 oq7
                  show jx L xs _ 66 73 _ [.int (iI 1)] _ _
                  refine jv_if_eq (t := 102) (pc' := 76) (a := 1) rfl rfl rfl (by omega) (fun hz_8 => ?_) (fun hz_8 => ?_)
                  · skip
                    exact absurd hz_8 (by decide)
                  · skip
                    refine jv_aload_n (pc' := 77) (k := 0) (x := 38) rfl rfl rfl hf0 ?_
                    refine jv_iload_n (pc' := 78) (k := 1) (x := (iI ((fi : Nat) : Int))) rfl rfl rfl hf1 ?_
                    refine jv_iconst (pc' := 79) (n := 1) rfl rfl ?_
                    refine jv_iadd (pc' := 80) (a := ((fi : Nat) : Int)) (b := 1) rfl rfl ?_
                    refine jv_iload_n (pc' := 81) (k := 1) (x := (iI ((fi : Nat) : Int))) rfl rfl rfl hf1 ?_
                    refine jv_iconst (pc' := 82) (n := 1) rfl rfl ?_
                    refine jv_iadd (pc' := 83) (a := ((fi : Nat) : Int)) (b := 1) rfl rfl ?_
                    refine jv_aload_n (pc' := 84) (k := 0) (x := 38) rfl rfl rfl hf0 ?_
                    refine jv_getR (pc' := 87) (c := 6) (k := 6) (v := T) rfl rfl rfl (fun _ _ => rfl) rfl rfl hX.2.2.2.1 ?_
                    refine jv_getR (pc' := 90) (c := 2) (k := 3) (v := (T + 4)) rfl rfl rfl (fun _ _ => rfl) (YL_A hX.2.1 j _ _ p) rfl (YL_R4 hX.2.1 p) ?_
                    refine jv_iload_n (pc' := 91) (k := 1) (x := (iI ((fi : Nat) : Int))) rfl rfl rfl hf1 ?_
                    refine jv_iaload (pc' := 92) (n := 40) (e := ((fi : Nat) : Int)) (v := (iI (Y 3 fi))) rfl rfl (YL_S hX.2.1 4 (by omega)) (YL_B4 hX.2.1 j _ _ p) (YL_n4 hX.2.1) rfl (by omega) ((Xq7.2.2.2.2.2.1.2.2.1 fi (by omega)).2.2.2) ?_
                    refine jv_iadd (pc' := 93) (a := (((fi : Nat) : Int) + 1)) (b := (Y 3 fi)) rfl rfl ?_
                    refine jv_iload_n (pc' := 94) (k := 2) (x := (iI ((D : Nat) : Int))) rfl rfl rfl hf2 ?_
                    refine jv_iconst (pc' := 95) (n := 1) rfl rfl ?_
                    refine jv_iadd (pc' := 96) (a := ((D : Nat) : Int)) (b := 1) rfl rfl ?_
                    rw [show (((fi : Nat) : Int) + 1) + (Y 3 fi) = ((g : Nat) : Int) by omega]
                    rw [show ((fi : Nat) : Int) + 1 = ((fi + 1 : Nat) : Int) by omega]
                    rw [show ((D : Nat) : Int) + 1 = ((D + 1 : Nat) : Int) by omega]
                    refine jv_call (pc' := 99) rfl (hI L xs d j Iq7 Mq7 p F T B sz Y m l bg lim (dS s1) c q (fi + 1) g b1 e1 (D + 1) ((b1, true, (s 1 nm - (((dn + 1) : Nat) : Int))) :: k) Xq7 Dq7 Vq7.1 hIT (by omega) (by omega) (by simp [hkl]) (by omega) (KB_c hKB (by omega) (by omega))) (fun vq9 gq9 q9 => ?_)
                    obtain ⟨Iq9, Mq9, sq9, rfl, rq9, tq9, Dq9, Rq9, q9⟩ := q9
                    rcases q9 with ⟨rfl, Vq9, ⟨nq9, Pq9⟩, Nq9⟩ | ⟨rfl, nq9, Qq9⟩
                    · skip
                      have Xq9 := DX_fr Xq7 rq9
                      have z1q9 := Vq9.1
                      have z2q9 := Vq9.2.1
                      have z3q9 := Vq9.2.2.1
                      have z4q9 := Rq9.1
                      show jx L xs _ 66 99 _ [.int (iI 1)] _ _
                      refine jv_if_ne (t := 104) (pc' := 102) (a := 1) rfl rfl rfl (by omega) (fun hz_10 => ?_) (fun hz_10 => ?_)
                      · skip
                        refine jv_iinc (pc' := 107) (k := 4) (a := ((dn : Nat) : Int)) rfl rfl hf4 rfl (Or.inr (congrArg jm_lng hf3)) ?_
                        refine jx_step (pc' := 13) rfl ?_
                        exact ih (dn + 1) Iq9 Mq9 sq9 _ e1 (by omega) (by omega) (fr_t (fr_t hf rq7) rq9) (fr_t (fr_t hm tq7) tq9) Dq9 Vq9 (DRes_t hR1 (DRes_t (DRes_S hV1 hlim) Rq9)) (by have := (dS_0 s1).2.1; omega) (show e1 ≤ 80 by omega) (DR_app hP1 (DR_app (DR_1 ⟨ha1, by simp [hkl]; omega, hV1, KB_c hKB (by omega) (by omega)⟩ (DT_a ⟨rfl, Or.inr (by omega)⟩ (Or.inl ⟨oq7, rfl, rfl⟩) (hlf2 ⟨rfl, Or.inr (by omega)⟩))) (DR_app Pq9 (DR_1 ⟨by omega, by simp [hkl]; omega, Vq9, KB_c hKB (by omega) (by omega)⟩ (DT_c (a' := e1) hce))))) (fun i hi => (Nq9 i (fun k a b => hi k (by omega) b)).trans ((dS_r s1 (by omega) i).trans (hN1 i hi))) (by omega) _ hf0 hf1 hf2 hf3 rfl 
                      · skip
                        exact absurd hz_10 (by decide)
                    · skip
                      have Xq9 := DX_fr Xq7 rq9
                      show jx L xs _ 66 99 _ [.int (iI 0)] _ _
                      refine jv_if_ne (t := 104) (pc' := 102) (a := 0) rfl rfl rfl (by omega) (fun hz_11 => ?_) (fun hz_11 => ?_)
                      · skip
                        exact absurd hz_11 (by decide)
                      · skip
                        refine jv_iconst (pc' := 103) (n := 0) rfl rfl ?_
                        refine jv_retZ rfl rfl (by first | exact Or.inl rfl | exact Or.inr rfl) ⟨_, _, rfl, ?_⟩
                        first
                        | (exfalso; omega)
                        | exact ⟨_, _, _, rfl, (fr_t (fr_t hf rq7) rq9), (fr_t (fr_t hm tq7) tq9), Dq9, DRes_t hR1 (DRes_t (DRes_S hV1 hlim) Rq9), Or.inr ⟨rfl, _, DR_DQ hP1 (DR_DQ (DR_1 ⟨ha1, by simp [hkl]; omega, hV1, KB_c hKB (by omega) (by omega)⟩ (DT_a ⟨rfl, Or.inr (by omega)⟩ (Or.inl ⟨oq7, rfl, rfl⟩) (hlf2 ⟨rfl, Or.inr (by omega)⟩))) Qq9)⟩⟩
                · skip
                  have Xq7 := DX_fr X1 rq7
                  show jx L xs _ 66 73 _ [.int (iI 0)] _ _
                  refine jv_if_eq (t := 102) (pc' := 76) (a := 0) rfl rfl rfl (by omega) (fun hz_12 => ?_) (fun hz_12 => ?_)
                  · skip
                    refine jv_iconst (pc' := 103) (n := 0) rfl rfl ?_
                    refine jv_retZ rfl rfl (by first | exact Or.inl rfl | exact Or.inr rfl) ⟨_, _, rfl, ?_⟩
                    first
                    | (exfalso; omega)
                    | exact ⟨_, _, _, rfl, (fr_t hf rq7), (fr_t hm tq7), Dq7, DRes_t hR1 (DRes_E hV1 hlim hl (by omega) (by omega)), Or.inr ⟨rfl, _, DR_DQ hP1 (DQ_a ⟨ha1, by simp [hkl]; omega, hV1, KB_c hKB (by omega) (by omega)⟩ ⟨rfl, Or.inr (by omega)⟩ (Or.inr ⟨oq7, rfl, rfl⟩))⟩⟩
                  · skip
                    exact absurd hz_12 (by decide)
              · skip
                exact absurd hz_6 (by decide)
          · skip
            refine jv_aload_n (pc' := 26) (k := 0) (x := 38) rfl rfl rfl hf0 ?_
            refine jv_call (pc' := 29) rfl (cl_bitsLeft (I := I1) (M := M1) (s := s1) X1 hD1 hV1) (fun vq13 gq13 q13 => ?_)
            obtain ⟨rfl, rfl⟩ := q13
            show jx L xs _ 66 29 _ [.int (iI (8 * (sz : Int) - s1 0 0))] _ _
            refine jv_if_le (t := 36) (pc' := 32) (a := (8 * (sz : Int) - s1 0 0)) rfl rfl rfl (by omega) (fun hz_14 => ?_) (fun hz_14 => ?_)
            · skip
              refine jv_iconst (pc' := 37) (n := 0) rfl rfl ?_
              refine jx_step (pc' := 58) rfl ?_
              refine jv_istore (pc' := 60) (k := 5) (x := (iI 0)) rfl rfl rfl (Or.inr (congrArg jm_lng hf4)) ?_
              refine jv_iload (pc' := 62) (k := 5) (x := (iI 0)) rfl rfl rfl ?_
              refine jv_if_ne (t := 67) (pc' := 65) (a := 0) rfl rfl rfl (by omega) (fun hz_15 => ?_) (fun hz_15 => ?_)
              · skip
                exact absurd hz_15 (by decide)
              · skip
                refine jv_iconst (pc' := 66) (n := 1) rfl rfl ?_
                refine jv_retZ rfl rfl (by first | exact Or.inl rfl | exact Or.inr rfl) ⟨_, _, rfl, ?_⟩
                first
                | (exfalso; omega)
                | exact ⟨_, _, _, rfl, hf, hm, hD1, hR1, Or.inl ⟨rfl, hV1, ⟨_, DR_app hP1 (DR_1 ⟨ha1, by simp [hkl]; omega, hV1, KB_c hKB (by omega) (by omega)⟩ (DT_e (fun z => by rcases z.2 with z | z; have := z.1; omega; omega) hLQ))⟩, hN1⟩⟩
            · skip
              refine jv_iconst (pc' := 33) (n := 1) rfl rfl ?_
              refine jx_step (pc' := 58) rfl ?_
              refine jv_istore (pc' := 60) (k := 5) (x := (iI 1)) rfl rfl rfl (Or.inr (congrArg jm_lng hf4)) ?_
              refine jv_iload (pc' := 62) (k := 5) (x := (iI 1)) rfl rfl rfl ?_
              refine jv_if_ne (t := 67) (pc' := 65) (a := 1) rfl rfl rfl (by omega) (fun hz_16 => ?_) (fun hz_16 => ?_)
              · skip
                refine jv_aload_n (pc' := 68) (k := 0) (x := 38) rfl rfl rfl hf0 ?_
                refine jv_bipush (pc' := 70) (n := 9) rfl rfl rfl ?_
                refine jv_call (pc' := 73) rfl (cl_makeStep (I := I1) (M := M1) (s := s1) (nm := 9) X1 hD1 hV1) (fun vq17 gq17 q17 => ?_)
                obtain ⟨Iq17, Mq17, rfl, rq17, tq17, q17⟩ := q17
                rcases q17 with ⟨oq17, rfl, Dq17⟩ | ⟨oq17, rfl, Dq17⟩
                · skip
                  have Xq17 := DX_fr X1 rq17
                  have Vq17 := DV_S hV1 oq17
                  show jx L xs _ 66 73 _ [.int (iI 1)] _ _
                  refine jv_if_eq (t := 102) (pc' := 76) (a := 1) rfl rfl rfl (by omega) (fun hz_18 => ?_) (fun hz_18 => ?_)
                  · skip
                    exact absurd hz_18 (by decide)
                  · skip
                    refine jv_aload_n (pc' := 77) (k := 0) (x := 38) rfl rfl rfl hf0 ?_
                    refine jv_iload_n (pc' := 78) (k := 1) (x := (iI ((fi : Nat) : Int))) rfl rfl rfl hf1 ?_
                    refine jv_iconst (pc' := 79) (n := 1) rfl rfl ?_
                    refine jv_iadd (pc' := 80) (a := ((fi : Nat) : Int)) (b := 1) rfl rfl ?_
                    refine jv_iload_n (pc' := 81) (k := 1) (x := (iI ((fi : Nat) : Int))) rfl rfl rfl hf1 ?_
                    refine jv_iconst (pc' := 82) (n := 1) rfl rfl ?_
                    refine jv_iadd (pc' := 83) (a := ((fi : Nat) : Int)) (b := 1) rfl rfl ?_
                    refine jv_aload_n (pc' := 84) (k := 0) (x := 38) rfl rfl rfl hf0 ?_
                    refine jv_getR (pc' := 87) (c := 6) (k := 6) (v := T) rfl rfl rfl (fun _ _ => rfl) rfl rfl hX.2.2.2.1 ?_
                    refine jv_getR (pc' := 90) (c := 2) (k := 3) (v := (T + 4)) rfl rfl rfl (fun _ _ => rfl) (YL_A hX.2.1 j _ _ p) rfl (YL_R4 hX.2.1 p) ?_
                    refine jv_iload_n (pc' := 91) (k := 1) (x := (iI ((fi : Nat) : Int))) rfl rfl rfl hf1 ?_
                    refine jv_iaload (pc' := 92) (n := 40) (e := ((fi : Nat) : Int)) (v := (iI (Y 3 fi))) rfl rfl (YL_S hX.2.1 4 (by omega)) (YL_B4 hX.2.1 j _ _ p) (YL_n4 hX.2.1) rfl (by omega) ((Xq17.2.2.2.2.2.1.2.2.1 fi (by omega)).2.2.2) ?_
                    refine jv_iadd (pc' := 93) (a := (((fi : Nat) : Int) + 1)) (b := (Y 3 fi)) rfl rfl ?_
                    refine jv_iload_n (pc' := 94) (k := 2) (x := (iI ((D : Nat) : Int))) rfl rfl rfl hf2 ?_
                    refine jv_iconst (pc' := 95) (n := 1) rfl rfl ?_
                    refine jv_iadd (pc' := 96) (a := ((D : Nat) : Int)) (b := 1) rfl rfl ?_
                    rw [show (((fi : Nat) : Int) + 1) + (Y 3 fi) = ((g : Nat) : Int) by omega]
                    rw [show ((fi : Nat) : Int) + 1 = ((fi + 1 : Nat) : Int) by omega]
                    rw [show ((D : Nat) : Int) + 1 = ((D + 1 : Nat) : Int) by omega]
                    refine jv_call (pc' := 99) rfl (hI L xs d j Iq17 Mq17 p F T B sz Y m l bg lim (dS s1) c q (fi + 1) g b1 e1 (D + 1) ((b1, true, (s 1 nm - (((dn + 1) : Nat) : Int))) :: k) Xq17 Dq17 Vq17.1 hIT (by omega) (by omega) (by simp [hkl]) (by omega) (KB_c hKB (by omega) (by omega))) (fun vq19 gq19 q19 => ?_)
                    obtain ⟨Iq19, Mq19, sq19, rfl, rq19, tq19, Dq19, Rq19, q19⟩ := q19
                    rcases q19 with ⟨rfl, Vq19, ⟨nq19, Pq19⟩, Nq19⟩ | ⟨rfl, nq19, Qq19⟩
                    · skip
                      have Xq19 := DX_fr Xq17 rq19
                      have z1q19 := Vq19.1
                      have z2q19 := Vq19.2.1
                      have z3q19 := Vq19.2.2.1
                      have z4q19 := Rq19.1
                      show jx L xs _ 66 99 _ [.int (iI 1)] _ _
                      refine jv_if_ne (t := 104) (pc' := 102) (a := 1) rfl rfl rfl (by omega) (fun hz_20 => ?_) (fun hz_20 => ?_)
                      · skip
                        refine jv_iinc (pc' := 107) (k := 4) (a := ((dn : Nat) : Int)) rfl rfl hf4 rfl (Or.inr (congrArg jm_lng hf3)) ?_
                        refine jx_step (pc' := 13) rfl ?_
                        exact ih (dn + 1) Iq19 Mq19 sq19 _ e1 (by omega) (by omega) (fr_t (fr_t hf rq17) rq19) (fr_t (fr_t hm tq17) tq19) Dq19 Vq19 (DRes_t hR1 (DRes_t (DRes_S hV1 hlim) Rq19)) (by have := (dS_0 s1).2.1; omega) (show e1 ≤ 80 by omega) (DR_app hP1 (DR_app (DR_1 ⟨ha1, by simp [hkl]; omega, hV1, KB_c hKB (by omega) (by omega)⟩ (DT_a ⟨rfl, Or.inr (by omega)⟩ (Or.inl ⟨oq17, rfl, rfl⟩) (hlf2 ⟨rfl, Or.inr (by omega)⟩))) (DR_app Pq19 (DR_1 ⟨by omega, by simp [hkl]; omega, Vq19, KB_c hKB (by omega) (by omega)⟩ (DT_c (a' := e1) hce))))) (fun i hi => (Nq19 i (fun k a b => hi k (by omega) b)).trans ((dS_r s1 (by omega) i).trans (hN1 i hi))) (by omega) _ hf0 hf1 hf2 hf3 rfl 
                      · skip
                        exact absurd hz_20 (by decide)
                    · skip
                      have Xq19 := DX_fr Xq17 rq19
                      show jx L xs _ 66 99 _ [.int (iI 0)] _ _
                      refine jv_if_ne (t := 104) (pc' := 102) (a := 0) rfl rfl rfl (by omega) (fun hz_21 => ?_) (fun hz_21 => ?_)
                      · skip
                        exact absurd hz_21 (by decide)
                      · skip
                        refine jv_iconst (pc' := 103) (n := 0) rfl rfl ?_
                        refine jv_retZ rfl rfl (by first | exact Or.inl rfl | exact Or.inr rfl) ⟨_, _, rfl, ?_⟩
                        first
                        | (exfalso; omega)
                        | exact ⟨_, _, _, rfl, (fr_t (fr_t hf rq17) rq19), (fr_t (fr_t hm tq17) tq19), Dq19, DRes_t hR1 (DRes_t (DRes_S hV1 hlim) Rq19), Or.inr ⟨rfl, _, DR_DQ hP1 (DR_DQ (DR_1 ⟨ha1, by simp [hkl]; omega, hV1, KB_c hKB (by omega) (by omega)⟩ (DT_a ⟨rfl, Or.inr (by omega)⟩ (Or.inl ⟨oq17, rfl, rfl⟩) (hlf2 ⟨rfl, Or.inr (by omega)⟩))) Qq19)⟩⟩
                · skip
                  have Xq17 := DX_fr X1 rq17
                  show jx L xs _ 66 73 _ [.int (iI 0)] _ _
                  refine jv_if_eq (t := 102) (pc' := 76) (a := 0) rfl rfl rfl (by omega) (fun hz_22 => ?_) (fun hz_22 => ?_)
                  · skip
                    refine jv_iconst (pc' := 103) (n := 0) rfl rfl ?_
                    refine jv_retZ rfl rfl (by first | exact Or.inl rfl | exact Or.inr rfl) ⟨_, _, rfl, ?_⟩
                    first
                    | (exfalso; omega)
                    | exact ⟨_, _, _, rfl, (fr_t hf rq17), (fr_t hm tq17), Dq17, DRes_t hR1 (DRes_E hV1 hlim hl (by omega) (by omega)), Or.inr ⟨rfl, _, DR_DQ hP1 (DQ_a ⟨ha1, by simp [hkl]; omega, hV1, KB_c hKB (by omega) (by omega)⟩ ⟨rfl, Or.inr (by omega)⟩ (Or.inr ⟨oq17, rfl, rfl⟩))⟩⟩
                  · skip
                    exact absurd hz_22 (by decide)
              · skip
                exact absurd hz_16 (by decide)
    exact H1 _ 0 I M s 1 b1 (Nat.lt_succ_self _) (by omega) (fr_r _) (fr_r _) hD hV (DRes_r hV hlim) (by omega) (show b1 ≤ 80 by omega) (DR_1 ⟨by omega, by omega, hV, hKB⟩ (DT_g hHD hca hLF)) (fun i _ => rfl) (by omega) _ rfl rfl rfl rfl rfl 
def RK (c : Nat → Int) (B : Nat → Nat) (lim sz bg : Nat) (l : Int) (Y : Nat → Nat → Int) (h fi t a b : Nat) (k : DK) (s : DSt) (kk : Nat) (gd : Int) (s1 : DSt) : Prop :=
  (gd = 1 ∧ DV lim sz s1 ∧ ∃ q1 a1 n1, IT c Y q1 h kk t a1 b ∧ DR c B lim sz bg l n1 0 a k s 0 a1 k s1 ∧ NL Y fi kk s s1) ∨ (gd = 0 ∧ ∃ n1, DQ c B lim sz bg l n1 0 a k s s1)
set_option maxHeartbeats 4000000 in
theorem cl_CDI {h e : Nat} (hG : 0 < h → CDG (h - 1) (e + 2)) (hI : 0 < h → CDI (h - 1) (e + 2)) : CDI h (e + 3) := by
  intro L xs d j I M p F T B sz Y m l bg lim s c q fi t a b D k hX hD hV hIT htm hb80 hkl hDh hKB
  show jc L xs (d + e + 3) _ _ _ _
  unfold jc
  have hs := hX.2.2.2.2.1.2.1
  have hlim := hX.2.2.2.2.2.2.2.2.2.1
  have hbg := hX.2.2.2.2.2.2.2.2.2.2.1
  have hl := hX.2.2.2.2.2.2.2.2.2.2.2.1
  have hU := hX.2.2.2.2.2.2.2.2.2.2.2.2
  have hv0 := hV.1
  have hv1 := hV.2.1
  have hv2 := hV.2.2.1
  have hm40 := hX.2.2.2.2.2.1.2.1
  have hbe := IT_ab hIT
  have hft := IT_le hIT
  refine jv_iload_n (pc' := 1) (k := 3) (x := (iI ((D : Nat) : Int))) rfl rfl rfl rfl ?_
  refine jv_iconst (pc' := 2) (n := 3) rfl rfl ?_
  refine jv_ic_le (t := 7) (pc' := 5) (a := ((D : Nat) : Int)) (b := 3) rfl rfl rfl (by omega) (fun hz_1 => ?_) (fun hz_1 => ?_)
  · skip
    refine jv_iconst (pc' := 8) (n := 1) rfl rfl ?_
    refine jv_istore (pc' := 10) (k := 4) (x := (iI 1)) rfl rfl rfl (Or.inr rfl) ?_
    refine jv_iload_n (pc' := 11) (k := 1) (x := (iI ((fi : Nat) : Int))) rfl rfl rfl rfl ?_
    refine jv_istore (pc' := 13) (k := 5) (x := (iI ((fi : Nat) : Int))) rfl rfl rfl (Or.inr rfl) ?_
    have H2 : ∀ (N : Nat) (kk : Nat) (gd : Int) (I1 : Nat → Nat → Int32) (M1 : Nat → Nat → Int64) (s1 : DSt), t - kk < N → (fi ≤ kk ∧ kk ≤ t) → (fr wD I I1) → (fr wE M M1) → (DC I1 M1 s1) → (DRes sz l Y s s1) → (RK c B lim sz bg l Y h fi t a b k s kk gd s1) → ∀ f : jm_F, f 0 = some (.ref 38) → f 1 = some (.int (iI ((fi : Nat) : Int))) → f 2 = some (.int (iI ((t : Nat) : Int))) → f 3 = some (.int (iI ((D : Nat) : Int))) → f 4 = some (.int (iI gd)) → f 5 = some (.int (iI ((kk : Nat) : Int))) → jx L xs ((d + e + 3)) 64 13 f [] (jx_G j I1 M1 p) (fun z => ∃ v g1, z = (.inl v, g1) ∧ PDI c B lim sz bg l Y j p I M fi t a b k s v g1) := by
      intro N
      induction N with
      | zero => intro kk gd I1 M1 s1 hN; exact absurd hN (Nat.not_lt_zero _)
      | succ N ih =>
        intro kk gd I1 M1 s1 hN hkk hf hm hD1 hR1 hJ f hf0 hf1 hf2 hf3 hf4 hf5 
        refine jv_iload (pc' := 15) (k := 5) (x := (iI ((kk : Nat) : Int))) rfl rfl hf5 ?_
        have X1 := DX_fr hX hf
        rcases hJ with ⟨rfl, hV1, q1, a1, n1, hIT1, hP1, hN1⟩ | ⟨rfl, n1, hQ1⟩
        · skip
          have y1 := hV1.1
          have y2 := hV1.2.1
          have y3 := hV1.2.2.1
          have y4 := IT_ab hIT1
          show jx L xs _ 64 15 _ [.int (iI ((kk : Nat) : Int))] _ _
          refine jv_iload_n (pc' := 16) (k := 2) (x := (iI ((t : Nat) : Int))) rfl rfl rfl hf2 ?_
          refine jv_ic_ge (t := 163) (pc' := 19) (a := ((kk : Nat) : Int)) (b := ((t : Nat) : Int)) rfl rfl rfl (by omega) (fun hz_3 => ?_) (fun hz_3 => ?_)
          · skip
            refine jv_iload (pc' := 165) (k := 4) (x := (iI 1)) rfl rfl hf4 ?_
            refine jv_retZ rfl rfl (by first | exact Or.inl rfl | exact Or.inr rfl) ⟨_, _, rfl, ?_⟩
            first
            | (exfalso; omega)
            | (obtain ⟨e0, e1⟩ := IT_end hIT1 (by omega)
               subst e0; subst e1
               exact ⟨_, _, _, rfl, hf, hm, hD1, hR1, Or.inl ⟨rfl, hV1, ⟨_, hP1⟩, hN1⟩⟩)
          · skip
            refine jv_iload (pc' := 21) (k := 4) (x := (iI 1)) rfl rfl hf4 ?_
            refine jv_if_eq (t := 163) (pc' := 24) (a := 1) rfl rfl rfl (by omega) (fun hz_4 => ?_) (fun hz_4 => ?_)
            · skip
              exact absurd hz_4 (by decide)
            · skip
              obtain ⟨q2, e2, hIt⟩ := IT_un hIT1 (by omega)
              rcases hIt with ⟨hFI, hIT2⟩ | ⟨hBK, he2, hIT2⟩ | ⟨b1, e1, g, hHD, ⟨h0h, hITi⟩, hce, he2, hY3, hfg, hgt, hIT2⟩
              · skip
                obtain ⟨nm, w, h1, hnm, h4, hw, h5, h0⟩ := FK hFI
                have hfe := (FI_np hFI).1
                have y5 := IT_ab hIT2
                have h00 := h0
                have hk2 : Y 0 kk ≤ 2 := by omega
                have hy3 := hU.2.2 kk (by omega) (by omega)
                rcases h00 with h00 | ⟨h00, _⟩ | h00
                · skip
                  refine jv_aload_n (pc' := 25) (k := 0) (x := 38) rfl rfl rfl hf0 ?_
                  refine jv_getR (pc' := 28) (c := 6) (k := 6) (v := T) rfl rfl rfl (fun _ _ => rfl) rfl rfl hX.2.2.2.1 ?_
                  refine jv_getR (pc' := 31) (c := 2) (k := 0) (v := (T + 1)) rfl rfl rfl (fun _ _ => rfl) (YL_A hX.2.1 j _ _ p) rfl (YL_R1 hX.2.1 p) ?_
                  refine jv_iload (pc' := 33) (k := 5) (x := (iI ((kk : Nat) : Int))) rfl rfl hf5 ?_
                  refine jv_iaload (pc' := 34) (n := 40) (e := ((kk : Nat) : Int)) (v := (iI (Y 0 kk))) rfl rfl (YL_S hX.2.1 1 (by omega)) (YL_B1 hX.2.1 j _ _ p) (YL_n1 hX.2.1) rfl (by omega) ((X1.2.2.2.2.2.1.2.2.1 kk (by omega)).1) ?_
                  rw [show Y 0 kk = 0 by omega]
                  refine jx_step (pc' := 135) rfl ?_
                  show jx L xs _ 64 135 _ [] _ _
                  refine jv_aload_n (pc' := 136) (k := 0) (x := 38) rfl rfl rfl hf0 ?_
                  refine jv_iload (pc' := 138) (k := 5) (x := (iI ((kk : Nat) : Int))) rfl rfl hf5 ?_
                  refine jv_call (pc' := 141) rfl (cl_runField (I := I1) (M := M1) (s := s1) (k := kk) (nm := nm) (w := w) X1 hD1 hV1 (by omega) h1 hnm h4 hw h5 h0) (fun vq5 gq5 q5 => ?_)
                  obtain ⟨Iq5, Mq5, sq5, rfl, rq5, tq5, Dq5, Rq5, q5⟩ := q5
                  rcases q5 with ⟨rfl, Vq5, Pq5, Nq5⟩ | ⟨rfl, Qq5⟩
                  · skip
                    have Xq5 := DX_fr X1 rq5
                    show jx L xs _ 64 141 _ [.int (iI 1)] _ _
                    refine jv_istore (pc' := 143) (k := 4) (x := (iI 1)) rfl rfl rfl (Or.inr (congrArg jm_lng hf3)) ?_
                    refine jv_iload (pc' := 145) (k := 5) (x := (iI ((kk : Nat) : Int))) rfl rfl hf5 ?_
                    refine jv_iconst (pc' := 146) (n := 1) rfl rfl ?_
                    refine jv_aload_n (pc' := 147) (k := 0) (x := 38) rfl rfl rfl hf0 ?_
                    refine jv_getR (pc' := 150) (c := 6) (k := 6) (v := T) rfl rfl rfl (fun _ _ => rfl) rfl rfl hX.2.2.2.1 ?_
                    refine jv_getR (pc' := 153) (c := 2) (k := 3) (v := (T + 4)) rfl rfl rfl (fun _ _ => rfl) (YL_A hX.2.1 j _ _ p) rfl (YL_R4 hX.2.1 p) ?_
                    refine jv_iload (pc' := 155) (k := 5) (x := (iI ((kk : Nat) : Int))) rfl rfl hf5 ?_
                    refine jv_iaload (pc' := 156) (n := 40) (e := ((kk : Nat) : Int)) (v := (iI (Y 3 kk))) rfl rfl (YL_S hX.2.1 4 (by omega)) (YL_B4 hX.2.1 j _ _ p) (YL_n4 hX.2.1) rfl (by omega) ((Xq5.2.2.2.2.2.1.2.2.1 kk (by omega)).2.2.2) ?_
                    refine jv_iadd (pc' := 157) (a := 1) (b := (Y 3 kk)) rfl rfl ?_
                    refine jv_iadd (pc' := 158) (a := ((kk : Nat) : Int)) (b := (1 + (Y 3 kk))) rfl rfl ?_
                    rw [show ((kk : Nat) : Int) + (1 + (Y 3 kk)) = ((kk + 1 : Nat) : Int) by omega]
                    refine jv_istore (pc' := 160) (k := 5) (x := (iI ((kk + 1 : Nat) : Int))) rfl rfl rfl (Or.inr rfl) ?_
                    refine jx_step (pc' := 13) rfl ?_
                    exact ih (kk + 1) 1 Iq5 Mq5 sq5 (by omega) (by omega) (fr_t hf rq5) (fr_t hm tq5) Dq5 (DRes_t hR1 Rq5) (Or.inl ⟨rfl, Vq5, q2, e2, _, hIT2, DR_app hP1 (DR_1 ⟨by omega, by omega, hV1, hKB⟩ (DT_f hFI h1 h4 Pq5)), NL_t hN1 (fun i hi => Nq5 i (fun ei => hi kk (by omega) (by omega) hk2 (by rw [h1, ei]))) (by omega) (by omega)⟩) _ hf0 hf1 hf2 hf3 rfl rfl 
                  · skip
                    have Xq5 := DX_fr X1 rq5
                    show jx L xs _ 64 141 _ [.int (iI 0)] _ _
                    refine jv_istore (pc' := 143) (k := 4) (x := (iI 0)) rfl rfl rfl (Or.inr (congrArg jm_lng hf3)) ?_
                    refine jv_iload (pc' := 145) (k := 5) (x := (iI ((kk : Nat) : Int))) rfl rfl hf5 ?_
                    refine jv_iconst (pc' := 146) (n := 1) rfl rfl ?_
                    refine jv_aload_n (pc' := 147) (k := 0) (x := 38) rfl rfl rfl hf0 ?_
                    refine jv_getR (pc' := 150) (c := 6) (k := 6) (v := T) rfl rfl rfl (fun _ _ => rfl) rfl rfl hX.2.2.2.1 ?_
                    refine jv_getR (pc' := 153) (c := 2) (k := 3) (v := (T + 4)) rfl rfl rfl (fun _ _ => rfl) (YL_A hX.2.1 j _ _ p) rfl (YL_R4 hX.2.1 p) ?_
                    refine jv_iload (pc' := 155) (k := 5) (x := (iI ((kk : Nat) : Int))) rfl rfl hf5 ?_
                    refine jv_iaload (pc' := 156) (n := 40) (e := ((kk : Nat) : Int)) (v := (iI (Y 3 kk))) rfl rfl (YL_S hX.2.1 4 (by omega)) (YL_B4 hX.2.1 j _ _ p) (YL_n4 hX.2.1) rfl (by omega) ((Xq5.2.2.2.2.2.1.2.2.1 kk (by omega)).2.2.2) ?_
                    refine jv_iadd (pc' := 157) (a := 1) (b := (Y 3 kk)) rfl rfl ?_
                    refine jv_iadd (pc' := 158) (a := ((kk : Nat) : Int)) (b := (1 + (Y 3 kk))) rfl rfl ?_
                    rw [show ((kk : Nat) : Int) + (1 + (Y 3 kk)) = ((kk + 1 : Nat) : Int) by omega]
                    refine jv_istore (pc' := 160) (k := 5) (x := (iI ((kk + 1 : Nat) : Int))) rfl rfl rfl (Or.inr rfl) ?_
                    refine jx_step (pc' := 13) rfl ?_
                    exact ih (kk + 1) 0 Iq5 Mq5 sq5 (by omega) (by omega) (fr_t hf rq5) (fr_t hm tq5) Dq5 (DRes_t hR1 Rq5) (Or.inr ⟨rfl, _, DR_DQ hP1 (DQ_f ⟨by omega, by omega, hV1, hKB⟩ (by omega) hFI h1 h4 Qq5)⟩) _ hf0 hf1 hf2 hf3 rfl rfl 
                · skip
                  refine jv_aload_n (pc' := 25) (k := 0) (x := 38) rfl rfl rfl hf0 ?_
                  refine jv_getR (pc' := 28) (c := 6) (k := 6) (v := T) rfl rfl rfl (fun _ _ => rfl) rfl rfl hX.2.2.2.1 ?_
                  refine jv_getR (pc' := 31) (c := 2) (k := 0) (v := (T + 1)) rfl rfl rfl (fun _ _ => rfl) (YL_A hX.2.1 j _ _ p) rfl (YL_R1 hX.2.1 p) ?_
                  refine jv_iload (pc' := 33) (k := 5) (x := (iI ((kk : Nat) : Int))) rfl rfl hf5 ?_
                  refine jv_iaload (pc' := 34) (n := 40) (e := ((kk : Nat) : Int)) (v := (iI (Y 0 kk))) rfl rfl (YL_S hX.2.1 1 (by omega)) (YL_B1 hX.2.1 j _ _ p) (YL_n1 hX.2.1) rfl (by omega) ((X1.2.2.2.2.2.1.2.2.1 kk (by omega)).1) ?_
                  rw [show Y 0 kk = 1 by omega]
                  refine jx_step (pc' := 135) rfl ?_
                  show jx L xs _ 64 135 _ [] _ _
                  refine jv_aload_n (pc' := 136) (k := 0) (x := 38) rfl rfl rfl hf0 ?_
                  refine jv_iload (pc' := 138) (k := 5) (x := (iI ((kk : Nat) : Int))) rfl rfl hf5 ?_
                  refine jv_call (pc' := 141) rfl (cl_runField (I := I1) (M := M1) (s := s1) (k := kk) (nm := nm) (w := w) X1 hD1 hV1 (by omega) h1 hnm h4 hw h5 h0) (fun vq6 gq6 q6 => ?_)
                  obtain ⟨Iq6, Mq6, sq6, rfl, rq6, tq6, Dq6, Rq6, q6⟩ := q6
                  rcases q6 with ⟨rfl, Vq6, Pq6, Nq6⟩ | ⟨rfl, Qq6⟩
                  · skip
                    have Xq6 := DX_fr X1 rq6
                    show jx L xs _ 64 141 _ [.int (iI 1)] _ _
                    refine jv_istore (pc' := 143) (k := 4) (x := (iI 1)) rfl rfl rfl (Or.inr (congrArg jm_lng hf3)) ?_
                    refine jv_iload (pc' := 145) (k := 5) (x := (iI ((kk : Nat) : Int))) rfl rfl hf5 ?_
                    refine jv_iconst (pc' := 146) (n := 1) rfl rfl ?_
                    refine jv_aload_n (pc' := 147) (k := 0) (x := 38) rfl rfl rfl hf0 ?_
                    refine jv_getR (pc' := 150) (c := 6) (k := 6) (v := T) rfl rfl rfl (fun _ _ => rfl) rfl rfl hX.2.2.2.1 ?_
                    refine jv_getR (pc' := 153) (c := 2) (k := 3) (v := (T + 4)) rfl rfl rfl (fun _ _ => rfl) (YL_A hX.2.1 j _ _ p) rfl (YL_R4 hX.2.1 p) ?_
                    refine jv_iload (pc' := 155) (k := 5) (x := (iI ((kk : Nat) : Int))) rfl rfl hf5 ?_
                    refine jv_iaload (pc' := 156) (n := 40) (e := ((kk : Nat) : Int)) (v := (iI (Y 3 kk))) rfl rfl (YL_S hX.2.1 4 (by omega)) (YL_B4 hX.2.1 j _ _ p) (YL_n4 hX.2.1) rfl (by omega) ((Xq6.2.2.2.2.2.1.2.2.1 kk (by omega)).2.2.2) ?_
                    refine jv_iadd (pc' := 157) (a := 1) (b := (Y 3 kk)) rfl rfl ?_
                    refine jv_iadd (pc' := 158) (a := ((kk : Nat) : Int)) (b := (1 + (Y 3 kk))) rfl rfl ?_
                    rw [show ((kk : Nat) : Int) + (1 + (Y 3 kk)) = ((kk + 1 : Nat) : Int) by omega]
                    refine jv_istore (pc' := 160) (k := 5) (x := (iI ((kk + 1 : Nat) : Int))) rfl rfl rfl (Or.inr rfl) ?_
                    refine jx_step (pc' := 13) rfl ?_
                    exact ih (kk + 1) 1 Iq6 Mq6 sq6 (by omega) (by omega) (fr_t hf rq6) (fr_t hm tq6) Dq6 (DRes_t hR1 Rq6) (Or.inl ⟨rfl, Vq6, q2, e2, _, hIT2, DR_app hP1 (DR_1 ⟨by omega, by omega, hV1, hKB⟩ (DT_f hFI h1 h4 Pq6)), NL_t hN1 (fun i hi => Nq6 i (fun ei => hi kk (by omega) (by omega) hk2 (by rw [h1, ei]))) (by omega) (by omega)⟩) _ hf0 hf1 hf2 hf3 rfl rfl 
                  · skip
                    have Xq6 := DX_fr X1 rq6
                    show jx L xs _ 64 141 _ [.int (iI 0)] _ _
                    refine jv_istore (pc' := 143) (k := 4) (x := (iI 0)) rfl rfl rfl (Or.inr (congrArg jm_lng hf3)) ?_
                    refine jv_iload (pc' := 145) (k := 5) (x := (iI ((kk : Nat) : Int))) rfl rfl hf5 ?_
                    refine jv_iconst (pc' := 146) (n := 1) rfl rfl ?_
                    refine jv_aload_n (pc' := 147) (k := 0) (x := 38) rfl rfl rfl hf0 ?_
                    refine jv_getR (pc' := 150) (c := 6) (k := 6) (v := T) rfl rfl rfl (fun _ _ => rfl) rfl rfl hX.2.2.2.1 ?_
                    refine jv_getR (pc' := 153) (c := 2) (k := 3) (v := (T + 4)) rfl rfl rfl (fun _ _ => rfl) (YL_A hX.2.1 j _ _ p) rfl (YL_R4 hX.2.1 p) ?_
                    refine jv_iload (pc' := 155) (k := 5) (x := (iI ((kk : Nat) : Int))) rfl rfl hf5 ?_
                    refine jv_iaload (pc' := 156) (n := 40) (e := ((kk : Nat) : Int)) (v := (iI (Y 3 kk))) rfl rfl (YL_S hX.2.1 4 (by omega)) (YL_B4 hX.2.1 j _ _ p) (YL_n4 hX.2.1) rfl (by omega) ((Xq6.2.2.2.2.2.1.2.2.1 kk (by omega)).2.2.2) ?_
                    refine jv_iadd (pc' := 157) (a := 1) (b := (Y 3 kk)) rfl rfl ?_
                    refine jv_iadd (pc' := 158) (a := ((kk : Nat) : Int)) (b := (1 + (Y 3 kk))) rfl rfl ?_
                    rw [show ((kk : Nat) : Int) + (1 + (Y 3 kk)) = ((kk + 1 : Nat) : Int) by omega]
                    refine jv_istore (pc' := 160) (k := 5) (x := (iI ((kk + 1 : Nat) : Int))) rfl rfl rfl (Or.inr rfl) ?_
                    refine jx_step (pc' := 13) rfl ?_
                    exact ih (kk + 1) 0 Iq6 Mq6 sq6 (by omega) (by omega) (fr_t hf rq6) (fr_t hm tq6) Dq6 (DRes_t hR1 Rq6) (Or.inr ⟨rfl, _, DR_DQ hP1 (DQ_f ⟨by omega, by omega, hV1, hKB⟩ (by omega) hFI h1 h4 Qq6)⟩) _ hf0 hf1 hf2 hf3 rfl rfl 
                · skip
                  refine jv_aload_n (pc' := 25) (k := 0) (x := 38) rfl rfl rfl hf0 ?_
                  refine jv_getR (pc' := 28) (c := 6) (k := 6) (v := T) rfl rfl rfl (fun _ _ => rfl) rfl rfl hX.2.2.2.1 ?_
                  refine jv_getR (pc' := 31) (c := 2) (k := 0) (v := (T + 1)) rfl rfl rfl (fun _ _ => rfl) (YL_A hX.2.1 j _ _ p) rfl (YL_R1 hX.2.1 p) ?_
                  refine jv_iload (pc' := 33) (k := 5) (x := (iI ((kk : Nat) : Int))) rfl rfl hf5 ?_
                  refine jv_iaload (pc' := 34) (n := 40) (e := ((kk : Nat) : Int)) (v := (iI (Y 0 kk))) rfl rfl (YL_S hX.2.1 1 (by omega)) (YL_B1 hX.2.1 j _ _ p) (YL_n1 hX.2.1) rfl (by omega) ((X1.2.2.2.2.2.1.2.2.1 kk (by omega)).1) ?_
                  rw [show Y 0 kk = 2 by omega]
                  refine jx_step (pc' := 135) rfl ?_
                  show jx L xs _ 64 135 _ [] _ _
                  refine jv_aload_n (pc' := 136) (k := 0) (x := 38) rfl rfl rfl hf0 ?_
                  refine jv_iload (pc' := 138) (k := 5) (x := (iI ((kk : Nat) : Int))) rfl rfl hf5 ?_
                  refine jv_call (pc' := 141) rfl (cl_runField (I := I1) (M := M1) (s := s1) (k := kk) (nm := nm) (w := w) X1 hD1 hV1 (by omega) h1 hnm h4 hw h5 h0) (fun vq7 gq7 q7 => ?_)
                  obtain ⟨Iq7, Mq7, sq7, rfl, rq7, tq7, Dq7, Rq7, q7⟩ := q7
                  rcases q7 with ⟨rfl, Vq7, Pq7, Nq7⟩ | ⟨rfl, Qq7⟩
                  · skip
                    have Xq7 := DX_fr X1 rq7
                    show jx L xs _ 64 141 _ [.int (iI 1)] _ _
                    refine jv_istore (pc' := 143) (k := 4) (x := (iI 1)) rfl rfl rfl (Or.inr (congrArg jm_lng hf3)) ?_
                    refine jv_iload (pc' := 145) (k := 5) (x := (iI ((kk : Nat) : Int))) rfl rfl hf5 ?_
                    refine jv_iconst (pc' := 146) (n := 1) rfl rfl ?_
                    refine jv_aload_n (pc' := 147) (k := 0) (x := 38) rfl rfl rfl hf0 ?_
                    refine jv_getR (pc' := 150) (c := 6) (k := 6) (v := T) rfl rfl rfl (fun _ _ => rfl) rfl rfl hX.2.2.2.1 ?_
                    refine jv_getR (pc' := 153) (c := 2) (k := 3) (v := (T + 4)) rfl rfl rfl (fun _ _ => rfl) (YL_A hX.2.1 j _ _ p) rfl (YL_R4 hX.2.1 p) ?_
                    refine jv_iload (pc' := 155) (k := 5) (x := (iI ((kk : Nat) : Int))) rfl rfl hf5 ?_
                    refine jv_iaload (pc' := 156) (n := 40) (e := ((kk : Nat) : Int)) (v := (iI (Y 3 kk))) rfl rfl (YL_S hX.2.1 4 (by omega)) (YL_B4 hX.2.1 j _ _ p) (YL_n4 hX.2.1) rfl (by omega) ((Xq7.2.2.2.2.2.1.2.2.1 kk (by omega)).2.2.2) ?_
                    refine jv_iadd (pc' := 157) (a := 1) (b := (Y 3 kk)) rfl rfl ?_
                    refine jv_iadd (pc' := 158) (a := ((kk : Nat) : Int)) (b := (1 + (Y 3 kk))) rfl rfl ?_
                    rw [show ((kk : Nat) : Int) + (1 + (Y 3 kk)) = ((kk + 1 : Nat) : Int) by omega]
                    refine jv_istore (pc' := 160) (k := 5) (x := (iI ((kk + 1 : Nat) : Int))) rfl rfl rfl (Or.inr rfl) ?_
                    refine jx_step (pc' := 13) rfl ?_
                    exact ih (kk + 1) 1 Iq7 Mq7 sq7 (by omega) (by omega) (fr_t hf rq7) (fr_t hm tq7) Dq7 (DRes_t hR1 Rq7) (Or.inl ⟨rfl, Vq7, q2, e2, _, hIT2, DR_app hP1 (DR_1 ⟨by omega, by omega, hV1, hKB⟩ (DT_f hFI h1 h4 Pq7)), NL_t hN1 (fun i hi => Nq7 i (fun ei => hi kk (by omega) (by omega) hk2 (by rw [h1, ei]))) (by omega) (by omega)⟩) _ hf0 hf1 hf2 hf3 rfl rfl 
                  · skip
                    have Xq7 := DX_fr X1 rq7
                    show jx L xs _ 64 141 _ [.int (iI 0)] _ _
                    refine jv_istore (pc' := 143) (k := 4) (x := (iI 0)) rfl rfl rfl (Or.inr (congrArg jm_lng hf3)) ?_
                    refine jv_iload (pc' := 145) (k := 5) (x := (iI ((kk : Nat) : Int))) rfl rfl hf5 ?_
                    refine jv_iconst (pc' := 146) (n := 1) rfl rfl ?_
                    refine jv_aload_n (pc' := 147) (k := 0) (x := 38) rfl rfl rfl hf0 ?_
                    refine jv_getR (pc' := 150) (c := 6) (k := 6) (v := T) rfl rfl rfl (fun _ _ => rfl) rfl rfl hX.2.2.2.1 ?_
                    refine jv_getR (pc' := 153) (c := 2) (k := 3) (v := (T + 4)) rfl rfl rfl (fun _ _ => rfl) (YL_A hX.2.1 j _ _ p) rfl (YL_R4 hX.2.1 p) ?_
                    refine jv_iload (pc' := 155) (k := 5) (x := (iI ((kk : Nat) : Int))) rfl rfl hf5 ?_
                    refine jv_iaload (pc' := 156) (n := 40) (e := ((kk : Nat) : Int)) (v := (iI (Y 3 kk))) rfl rfl (YL_S hX.2.1 4 (by omega)) (YL_B4 hX.2.1 j _ _ p) (YL_n4 hX.2.1) rfl (by omega) ((Xq7.2.2.2.2.2.1.2.2.1 kk (by omega)).2.2.2) ?_
                    refine jv_iadd (pc' := 157) (a := 1) (b := (Y 3 kk)) rfl rfl ?_
                    refine jv_iadd (pc' := 158) (a := ((kk : Nat) : Int)) (b := (1 + (Y 3 kk))) rfl rfl ?_
                    rw [show ((kk : Nat) : Int) + (1 + (Y 3 kk)) = ((kk + 1 : Nat) : Int) by omega]
                    refine jv_istore (pc' := 160) (k := 5) (x := (iI ((kk + 1 : Nat) : Int))) rfl rfl rfl (Or.inr rfl) ?_
                    refine jx_step (pc' := 13) rfl ?_
                    exact ih (kk + 1) 0 Iq7 Mq7 sq7 (by omega) (by omega) (fr_t hf rq7) (fr_t hm tq7) Dq7 (DRes_t hR1 Rq7) (Or.inr ⟨rfl, _, DR_DQ hP1 (DQ_f ⟨by omega, by omega, hV1, hKB⟩ (by omega) hFI h1 h4 Qq7)⟩) _ hf0 hf1 hf2 hf3 rfl rfl 
              · skip
                have h00 := hBK.2.1
                have y5 := IT_ab hIT2
                have hy3 := hU.2.2 kk (by omega) (by omega)
                rcases BK_n hBK.2.2 with hst | ⟨nm, h1, hnm⟩
                · skip
                  refine jv_aload_n (pc' := 25) (k := 0) (x := 38) rfl rfl rfl hf0 ?_
                  refine jv_getR (pc' := 28) (c := 6) (k := 6) (v := T) rfl rfl rfl (fun _ _ => rfl) rfl rfl hX.2.2.2.1 ?_
                  refine jv_getR (pc' := 31) (c := 2) (k := 0) (v := (T + 1)) rfl rfl rfl (fun _ _ => rfl) (YL_A hX.2.1 j _ _ p) rfl (YL_R1 hX.2.1 p) ?_
                  refine jv_iload (pc' := 33) (k := 5) (x := (iI ((kk : Nat) : Int))) rfl rfl hf5 ?_
                  refine jv_iaload (pc' := 34) (n := 40) (e := ((kk : Nat) : Int)) (v := (iI (Y 0 kk))) rfl rfl (YL_S hX.2.1 1 (by omega)) (YL_B1 hX.2.1 j _ _ p) (YL_n1 hX.2.1) rfl (by omega) ((X1.2.2.2.2.2.1.2.2.1 kk (by omega)).1) ?_
                  rw [show Y 0 kk = 3 by omega]
                  refine jx_step (pc' := 64) rfl ?_
                  show jx L xs _ 64 64 _ [] _ _
                  refine jv_aload_n (pc' := 65) (k := 0) (x := 38) rfl rfl rfl hf0 ?_
                  refine jv_iload (pc' := 67) (k := 5) (x := (iI ((kk : Nat) : Int))) rfl rfl hf5 ?_
                  refine jv_call (pc' := 70) rfl (cl_runBlock_s (I := I1) (M := M1) (s := s1) (k := kk) X1 hD1 hV1 (by omega) hst) (fun vq8 gq8 q8 => ?_)
                  obtain ⟨Iq8, Mq8, sq8, rfl, rq8, tq8, Dq8, Rq8, q8⟩ := q8
                  rcases q8 with ⟨rfl, Vq8, Pq8, Nq8⟩ | ⟨rfl, Qq8⟩
                  · skip
                    have Xq8 := DX_fr X1 rq8
                    show jx L xs _ 64 70 _ [.int (iI 1)] _ _
                    refine jv_istore (pc' := 72) (k := 4) (x := (iI 1)) rfl rfl rfl (Or.inr (congrArg jm_lng hf3)) ?_
                    refine jx_step (pc' := 143) rfl ?_
                    refine jv_iload (pc' := 145) (k := 5) (x := (iI ((kk : Nat) : Int))) rfl rfl hf5 ?_
                    refine jv_iconst (pc' := 146) (n := 1) rfl rfl ?_
                    refine jv_aload_n (pc' := 147) (k := 0) (x := 38) rfl rfl rfl hf0 ?_
                    refine jv_getR (pc' := 150) (c := 6) (k := 6) (v := T) rfl rfl rfl (fun _ _ => rfl) rfl rfl hX.2.2.2.1 ?_
                    refine jv_getR (pc' := 153) (c := 2) (k := 3) (v := (T + 4)) rfl rfl rfl (fun _ _ => rfl) (YL_A hX.2.1 j _ _ p) rfl (YL_R4 hX.2.1 p) ?_
                    refine jv_iload (pc' := 155) (k := 5) (x := (iI ((kk : Nat) : Int))) rfl rfl hf5 ?_
                    refine jv_iaload (pc' := 156) (n := 40) (e := ((kk : Nat) : Int)) (v := (iI (Y 3 kk))) rfl rfl (YL_S hX.2.1 4 (by omega)) (YL_B4 hX.2.1 j _ _ p) (YL_n4 hX.2.1) rfl (by omega) ((Xq8.2.2.2.2.2.1.2.2.1 kk (by omega)).2.2.2) ?_
                    refine jv_iadd (pc' := 157) (a := 1) (b := (Y 3 kk)) rfl rfl ?_
                    refine jv_iadd (pc' := 158) (a := ((kk : Nat) : Int)) (b := (1 + (Y 3 kk))) rfl rfl ?_
                    rw [show ((kk : Nat) : Int) + (1 + (Y 3 kk)) = ((kk + 1 : Nat) : Int) by omega]
                    refine jv_istore (pc' := 160) (k := 5) (x := (iI ((kk + 1 : Nat) : Int))) rfl rfl rfl (Or.inr rfl) ?_
                    refine jx_step (pc' := 13) rfl ?_
                    exact ih (kk + 1) 1 Iq8 Mq8 sq8 (by omega) (by omega) (fr_t hf rq8) (fr_t hm tq8) Dq8 (DRes_t hR1 Rq8) (Or.inl ⟨rfl, Vq8, q2, a1 + 2, _, he2 ▸ hIT2, DR_app hP1 (DR_1 ⟨by omega, by omega, hV1, hKB⟩ (DT_b hBK Pq8)), NL_t hN1 (fun i _ => Nq8 i) (by omega) (by omega)⟩) _ hf0 hf1 hf2 hf3 rfl rfl 
                  · skip
                    have Xq8 := DX_fr X1 rq8
                    show jx L xs _ 64 70 _ [.int (iI 0)] _ _
                    refine jv_istore (pc' := 72) (k := 4) (x := (iI 0)) rfl rfl rfl (Or.inr (congrArg jm_lng hf3)) ?_
                    refine jx_step (pc' := 143) rfl ?_
                    refine jv_iload (pc' := 145) (k := 5) (x := (iI ((kk : Nat) : Int))) rfl rfl hf5 ?_
                    refine jv_iconst (pc' := 146) (n := 1) rfl rfl ?_
                    refine jv_aload_n (pc' := 147) (k := 0) (x := 38) rfl rfl rfl hf0 ?_
                    refine jv_getR (pc' := 150) (c := 6) (k := 6) (v := T) rfl rfl rfl (fun _ _ => rfl) rfl rfl hX.2.2.2.1 ?_
                    refine jv_getR (pc' := 153) (c := 2) (k := 3) (v := (T + 4)) rfl rfl rfl (fun _ _ => rfl) (YL_A hX.2.1 j _ _ p) rfl (YL_R4 hX.2.1 p) ?_
                    refine jv_iload (pc' := 155) (k := 5) (x := (iI ((kk : Nat) : Int))) rfl rfl hf5 ?_
                    refine jv_iaload (pc' := 156) (n := 40) (e := ((kk : Nat) : Int)) (v := (iI (Y 3 kk))) rfl rfl (YL_S hX.2.1 4 (by omega)) (YL_B4 hX.2.1 j _ _ p) (YL_n4 hX.2.1) rfl (by omega) ((Xq8.2.2.2.2.2.1.2.2.1 kk (by omega)).2.2.2) ?_
                    refine jv_iadd (pc' := 157) (a := 1) (b := (Y 3 kk)) rfl rfl ?_
                    refine jv_iadd (pc' := 158) (a := ((kk : Nat) : Int)) (b := (1 + (Y 3 kk))) rfl rfl ?_
                    rw [show ((kk : Nat) : Int) + (1 + (Y 3 kk)) = ((kk + 1 : Nat) : Int) by omega]
                    refine jv_istore (pc' := 160) (k := 5) (x := (iI ((kk + 1 : Nat) : Int))) rfl rfl rfl (Or.inr rfl) ?_
                    refine jx_step (pc' := 13) rfl ?_
                    exact ih (kk + 1) 0 Iq8 Mq8 sq8 (by omega) (by omega) (fr_t hf rq8) (fr_t hm tq8) Dq8 (DRes_t hR1 Rq8) (Or.inr ⟨rfl, _, DR_DQ hP1 (DQ_b ⟨by omega, by omega, hV1, hKB⟩ (by omega) hBK Qq8)⟩) _ hf0 hf1 hf2 hf3 rfl rfl 
                · skip
                  refine jv_aload_n (pc' := 25) (k := 0) (x := 38) rfl rfl rfl hf0 ?_
                  refine jv_getR (pc' := 28) (c := 6) (k := 6) (v := T) rfl rfl rfl (fun _ _ => rfl) rfl rfl hX.2.2.2.1 ?_
                  refine jv_getR (pc' := 31) (c := 2) (k := 0) (v := (T + 1)) rfl rfl rfl (fun _ _ => rfl) (YL_A hX.2.1 j _ _ p) rfl (YL_R1 hX.2.1 p) ?_
                  refine jv_iload (pc' := 33) (k := 5) (x := (iI ((kk : Nat) : Int))) rfl rfl hf5 ?_
                  refine jv_iaload (pc' := 34) (n := 40) (e := ((kk : Nat) : Int)) (v := (iI (Y 0 kk))) rfl rfl (YL_S hX.2.1 1 (by omega)) (YL_B1 hX.2.1 j _ _ p) (YL_n1 hX.2.1) rfl (by omega) ((X1.2.2.2.2.2.1.2.2.1 kk (by omega)).1) ?_
                  rw [show Y 0 kk = 3 by omega]
                  refine jx_step (pc' := 64) rfl ?_
                  show jx L xs _ 64 64 _ [] _ _
                  refine jv_aload_n (pc' := 65) (k := 0) (x := 38) rfl rfl rfl hf0 ?_
                  refine jv_iload (pc' := 67) (k := 5) (x := (iI ((kk : Nat) : Int))) rfl rfl hf5 ?_
                  refine jv_call (pc' := 70) rfl (cl_runBlock_n (I := I1) (M := M1) (s := s1) (k := kk) (nm := nm) X1 hD1 hV1 (by omega) h1 hnm) (fun vq9 gq9 q9 => ?_)
                  obtain ⟨Iq9, Mq9, sq9, rfl, rq9, tq9, Dq9, Rq9, q9⟩ := q9
                  rcases q9 with ⟨rfl, Vq9, Pq9, Nq9⟩ | ⟨rfl, Qq9⟩
                  · skip
                    have Xq9 := DX_fr X1 rq9
                    show jx L xs _ 64 70 _ [.int (iI 1)] _ _
                    refine jv_istore (pc' := 72) (k := 4) (x := (iI 1)) rfl rfl rfl (Or.inr (congrArg jm_lng hf3)) ?_
                    refine jx_step (pc' := 143) rfl ?_
                    refine jv_iload (pc' := 145) (k := 5) (x := (iI ((kk : Nat) : Int))) rfl rfl hf5 ?_
                    refine jv_iconst (pc' := 146) (n := 1) rfl rfl ?_
                    refine jv_aload_n (pc' := 147) (k := 0) (x := 38) rfl rfl rfl hf0 ?_
                    refine jv_getR (pc' := 150) (c := 6) (k := 6) (v := T) rfl rfl rfl (fun _ _ => rfl) rfl rfl hX.2.2.2.1 ?_
                    refine jv_getR (pc' := 153) (c := 2) (k := 3) (v := (T + 4)) rfl rfl rfl (fun _ _ => rfl) (YL_A hX.2.1 j _ _ p) rfl (YL_R4 hX.2.1 p) ?_
                    refine jv_iload (pc' := 155) (k := 5) (x := (iI ((kk : Nat) : Int))) rfl rfl hf5 ?_
                    refine jv_iaload (pc' := 156) (n := 40) (e := ((kk : Nat) : Int)) (v := (iI (Y 3 kk))) rfl rfl (YL_S hX.2.1 4 (by omega)) (YL_B4 hX.2.1 j _ _ p) (YL_n4 hX.2.1) rfl (by omega) ((Xq9.2.2.2.2.2.1.2.2.1 kk (by omega)).2.2.2) ?_
                    refine jv_iadd (pc' := 157) (a := 1) (b := (Y 3 kk)) rfl rfl ?_
                    refine jv_iadd (pc' := 158) (a := ((kk : Nat) : Int)) (b := (1 + (Y 3 kk))) rfl rfl ?_
                    rw [show ((kk : Nat) : Int) + (1 + (Y 3 kk)) = ((kk + 1 : Nat) : Int) by omega]
                    refine jv_istore (pc' := 160) (k := 5) (x := (iI ((kk + 1 : Nat) : Int))) rfl rfl rfl (Or.inr rfl) ?_
                    refine jx_step (pc' := 13) rfl ?_
                    exact ih (kk + 1) 1 Iq9 Mq9 sq9 (by omega) (by omega) (fr_t hf rq9) (fr_t hm tq9) Dq9 (DRes_t hR1 Rq9) (Or.inl ⟨rfl, Vq9, q2, a1 + 2, _, he2 ▸ hIT2, DR_app hP1 (DR_1 ⟨by omega, by omega, hV1, hKB⟩ (DT_b hBK Pq9)), NL_t hN1 (fun i _ => Nq9 i) (by omega) (by omega)⟩) _ hf0 hf1 hf2 hf3 rfl rfl 
                  · skip
                    have Xq9 := DX_fr X1 rq9
                    show jx L xs _ 64 70 _ [.int (iI 0)] _ _
                    refine jv_istore (pc' := 72) (k := 4) (x := (iI 0)) rfl rfl rfl (Or.inr (congrArg jm_lng hf3)) ?_
                    refine jx_step (pc' := 143) rfl ?_
                    refine jv_iload (pc' := 145) (k := 5) (x := (iI ((kk : Nat) : Int))) rfl rfl hf5 ?_
                    refine jv_iconst (pc' := 146) (n := 1) rfl rfl ?_
                    refine jv_aload_n (pc' := 147) (k := 0) (x := 38) rfl rfl rfl hf0 ?_
                    refine jv_getR (pc' := 150) (c := 6) (k := 6) (v := T) rfl rfl rfl (fun _ _ => rfl) rfl rfl hX.2.2.2.1 ?_
                    refine jv_getR (pc' := 153) (c := 2) (k := 3) (v := (T + 4)) rfl rfl rfl (fun _ _ => rfl) (YL_A hX.2.1 j _ _ p) rfl (YL_R4 hX.2.1 p) ?_
                    refine jv_iload (pc' := 155) (k := 5) (x := (iI ((kk : Nat) : Int))) rfl rfl hf5 ?_
                    refine jv_iaload (pc' := 156) (n := 40) (e := ((kk : Nat) : Int)) (v := (iI (Y 3 kk))) rfl rfl (YL_S hX.2.1 4 (by omega)) (YL_B4 hX.2.1 j _ _ p) (YL_n4 hX.2.1) rfl (by omega) ((Xq9.2.2.2.2.2.1.2.2.1 kk (by omega)).2.2.2) ?_
                    refine jv_iadd (pc' := 157) (a := 1) (b := (Y 3 kk)) rfl rfl ?_
                    refine jv_iadd (pc' := 158) (a := ((kk : Nat) : Int)) (b := (1 + (Y 3 kk))) rfl rfl ?_
                    rw [show ((kk : Nat) : Int) + (1 + (Y 3 kk)) = ((kk + 1 : Nat) : Int) by omega]
                    refine jv_istore (pc' := 160) (k := 5) (x := (iI ((kk + 1 : Nat) : Int))) rfl rfl rfl (Or.inr rfl) ?_
                    refine jx_step (pc' := 13) rfl ?_
                    exact ih (kk + 1) 0 Iq9 Mq9 sq9 (by omega) (by omega) (fr_t hf rq9) (fr_t hm tq9) Dq9 (DRes_t hR1 Rq9) (Or.inr ⟨rfl, _, DR_DQ hP1 (DQ_b ⟨by omega, by omega, hV1, hKB⟩ (by omega) hBK Qq9)⟩) _ hf0 hf1 hf2 hf3 rfl rfl 
              · skip
                have hI := hI h0h
                have hG := hG h0h
                have y5 := IT_ab hIT2
                have y6 := IT_ab hITi
                have y7 := HD_lt hHD
                obtain ⟨nq, hLQ⟩ := LQ_it hITi (dp := 1) (by omega) (by omega) (LQ_1 hce (by omega))
                have hHD2 := hHD
                rcases hHD2 with ⟨h35, h00, _⟩ | ⟨h63, hnr, hn1, h56, hnd, hnum, _⟩
                · skip
                  refine jv_aload_n (pc' := 25) (k := 0) (x := 38) rfl rfl rfl hf0 ?_
                  refine jv_getR (pc' := 28) (c := 6) (k := 6) (v := T) rfl rfl rfl (fun _ _ => rfl) rfl rfl hX.2.2.2.1 ?_
                  refine jv_getR (pc' := 31) (c := 2) (k := 0) (v := (T + 1)) rfl rfl rfl (fun _ _ => rfl) (YL_A hX.2.1 j _ _ p) rfl (YL_R1 hX.2.1 p) ?_
                  refine jv_iload (pc' := 33) (k := 5) (x := (iI ((kk : Nat) : Int))) rfl rfl hf5 ?_
                  refine jv_iaload (pc' := 34) (n := 40) (e := ((kk : Nat) : Int)) (v := (iI (Y 0 kk))) rfl rfl (YL_S hX.2.1 1 (by omega)) (YL_B1 hX.2.1 j _ _ p) (YL_n1 hX.2.1) rfl (by omega) ((X1.2.2.2.2.2.1.2.2.1 kk (by omega)).1) ?_
                  rw [show Y 0 kk = 4 by omega]
                  refine jx_step (pc' := 75) rfl ?_
                  show jx L xs _ 64 75 _ [] _ _
                  refine jv_aload_n (pc' := 76) (k := 0) (x := 38) rfl rfl rfl hf0 ?_
                  refine jv_iload (pc' := 78) (k := 5) (x := (iI ((kk : Nat) : Int))) rfl rfl hf5 ?_
                  refine jv_iload_n (pc' := 79) (k := 3) (x := (iI ((D : Nat) : Int))) rfl rfl rfl hf3 ?_
                  refine jv_call (pc' := 82) rfl (hG L xs d j I1 M1 p F T B sz Y m l bg lim s1 c q2 kk g a1 b1 e1 D k X1 hD1 hV1 hHD h35 hITi hce hY3 hfg (by omega) (by omega) hkl (by omega) hKB) (fun vq10 gq10 q10 => ?_)
                  obtain ⟨Iq10, Mq10, sq10, rfl, rq10, tq10, Dq10, Rq10, q10⟩ := q10
                  rcases q10 with ⟨rfl, Vq10, ⟨nq10, Pq10⟩, Nq10⟩ | ⟨rfl, nq10, Qq10⟩
                  · skip
                    have Xq10 := DX_fr X1 rq10
                    show jx L xs _ 64 82 _ [.int (iI 1)] _ _
                    refine jv_istore (pc' := 84) (k := 4) (x := (iI 1)) rfl rfl rfl (Or.inr (congrArg jm_lng hf3)) ?_
                    refine jx_step (pc' := 143) rfl ?_
                    refine jv_iload (pc' := 145) (k := 5) (x := (iI ((kk : Nat) : Int))) rfl rfl hf5 ?_
                    refine jv_iconst (pc' := 146) (n := 1) rfl rfl ?_
                    refine jv_aload_n (pc' := 147) (k := 0) (x := 38) rfl rfl rfl hf0 ?_
                    refine jv_getR (pc' := 150) (c := 6) (k := 6) (v := T) rfl rfl rfl (fun _ _ => rfl) rfl rfl hX.2.2.2.1 ?_
                    refine jv_getR (pc' := 153) (c := 2) (k := 3) (v := (T + 4)) rfl rfl rfl (fun _ _ => rfl) (YL_A hX.2.1 j _ _ p) rfl (YL_R4 hX.2.1 p) ?_
                    refine jv_iload (pc' := 155) (k := 5) (x := (iI ((kk : Nat) : Int))) rfl rfl hf5 ?_
                    refine jv_iaload (pc' := 156) (n := 40) (e := ((kk : Nat) : Int)) (v := (iI (Y 3 kk))) rfl rfl (YL_S hX.2.1 4 (by omega)) (YL_B4 hX.2.1 j _ _ p) (YL_n4 hX.2.1) rfl (by omega) ((Xq10.2.2.2.2.2.1.2.2.1 kk (by omega)).2.2.2) ?_
                    refine jv_iadd (pc' := 157) (a := 1) (b := (Y 3 kk)) rfl rfl ?_
                    refine jv_iadd (pc' := 158) (a := ((kk : Nat) : Int)) (b := (1 + (Y 3 kk))) rfl rfl ?_
                    rw [show ((kk : Nat) : Int) + (1 + (Y 3 kk)) = ((g : Nat) : Int) by omega]
                    refine jv_istore (pc' := 160) (k := 5) (x := (iI ((g : Nat) : Int))) rfl rfl rfl (Or.inr rfl) ?_
                    refine jx_step (pc' := 13) rfl ?_
                    exact ih g 1 Iq10 Mq10 sq10 (by omega) (by omega) (fr_t hf rq10) (fr_t hm tq10) Dq10 (DRes_t hR1 Rq10) (Or.inl ⟨rfl, Vq10, q2, e1 + 1, _, he2 ▸ hIT2, DR_app hP1 Pq10, NL_t hN1 Nq10 (by omega) (by omega)⟩) _ hf0 hf1 hf2 hf3 rfl rfl 
                  · skip
                    have Xq10 := DX_fr X1 rq10
                    show jx L xs _ 64 82 _ [.int (iI 0)] _ _
                    refine jv_istore (pc' := 84) (k := 4) (x := (iI 0)) rfl rfl rfl (Or.inr (congrArg jm_lng hf3)) ?_
                    refine jx_step (pc' := 143) rfl ?_
                    refine jv_iload (pc' := 145) (k := 5) (x := (iI ((kk : Nat) : Int))) rfl rfl hf5 ?_
                    refine jv_iconst (pc' := 146) (n := 1) rfl rfl ?_
                    refine jv_aload_n (pc' := 147) (k := 0) (x := 38) rfl rfl rfl hf0 ?_
                    refine jv_getR (pc' := 150) (c := 6) (k := 6) (v := T) rfl rfl rfl (fun _ _ => rfl) rfl rfl hX.2.2.2.1 ?_
                    refine jv_getR (pc' := 153) (c := 2) (k := 3) (v := (T + 4)) rfl rfl rfl (fun _ _ => rfl) (YL_A hX.2.1 j _ _ p) rfl (YL_R4 hX.2.1 p) ?_
                    refine jv_iload (pc' := 155) (k := 5) (x := (iI ((kk : Nat) : Int))) rfl rfl hf5 ?_
                    refine jv_iaload (pc' := 156) (n := 40) (e := ((kk : Nat) : Int)) (v := (iI (Y 3 kk))) rfl rfl (YL_S hX.2.1 4 (by omega)) (YL_B4 hX.2.1 j _ _ p) (YL_n4 hX.2.1) rfl (by omega) ((Xq10.2.2.2.2.2.1.2.2.1 kk (by omega)).2.2.2) ?_
                    refine jv_iadd (pc' := 157) (a := 1) (b := (Y 3 kk)) rfl rfl ?_
                    refine jv_iadd (pc' := 158) (a := ((kk : Nat) : Int)) (b := (1 + (Y 3 kk))) rfl rfl ?_
                    rw [show ((kk : Nat) : Int) + (1 + (Y 3 kk)) = ((g : Nat) : Int) by omega]
                    refine jv_istore (pc' := 160) (k := 5) (x := (iI ((g : Nat) : Int))) rfl rfl rfl (Or.inr rfl) ?_
                    refine jx_step (pc' := 13) rfl ?_
                    exact ih g 0 Iq10 Mq10 sq10 (by omega) (by omega) (fr_t hf rq10) (fr_t hm tq10) Dq10 (DRes_t hR1 Rq10) (Or.inr ⟨rfl, _, DR_DQ hP1 Qq10⟩) _ hf0 hf1 hf2 hf3 rfl rfl 
                · skip
                  have hnv := nv_b c (a1 + 3)
                  obtain ⟨nm, h1, hnm⟩ : ∃ nm : Nat, Y 1 kk = ((nm : Nat) : Int) ∧ nm < 8 := ⟨(c (a1 + 1) - 97).toNat, by omega, by omega⟩
                  rcases h56 with ⟨_, h00⟩ | ⟨_, h00⟩
                  · skip
                    refine jv_aload_n (pc' := 25) (k := 0) (x := 38) rfl rfl rfl hf0 ?_
                    refine jv_getR (pc' := 28) (c := 6) (k := 6) (v := T) rfl rfl rfl (fun _ _ => rfl) rfl rfl hX.2.2.2.1 ?_
                    refine jv_getR (pc' := 31) (c := 2) (k := 0) (v := (T + 1)) rfl rfl rfl (fun _ _ => rfl) (YL_A hX.2.1 j _ _ p) rfl (YL_R1 hX.2.1 p) ?_
                    refine jv_iload (pc' := 33) (k := 5) (x := (iI ((kk : Nat) : Int))) rfl rfl hf5 ?_
                    refine jv_iaload (pc' := 34) (n := 40) (e := ((kk : Nat) : Int)) (v := (iI (Y 0 kk))) rfl rfl (YL_S hX.2.1 1 (by omega)) (YL_B1 hX.2.1 j _ _ p) (YL_n1 hX.2.1) rfl (by omega) ((X1.2.2.2.2.2.1.2.2.1 kk (by omega)).1) ?_
                    rw [show Y 0 kk = 5 by omega]
                    refine jx_step (pc' := 87) rfl ?_
                    show jx L xs _ 64 87 _ [] _ _
                    refine jv_aload_n (pc' := 88) (k := 0) (x := 38) rfl rfl rfl hf0 ?_
                    refine jv_iload (pc' := 90) (k := 5) (x := (iI ((kk : Nat) : Int))) rfl rfl hf5 ?_
                    refine jv_call (pc' := 93) rfl (cl_isChosen (I := I1) (M := M1) (s := s1) (k := kk) (nm := nm) X1 hD1 hV1 (by omega) h1 hnm (by omega) (by omega)) (fun vq11 gq11 q11 => ?_)
                    obtain ⟨rfl, rfl⟩ := q11
                    show jx L xs _ 64 93 _ [.int (jb (CH Y kk s1))] _ _
                    refine jv_jb_eq (t := 125) (pc' := 96) (P := CH Y kk s1) rfl rfl rfl (fun hz_12 => ?_) (fun hz_12 => ?_)
                    · skip
                      refine jv_iconst (pc' := 126) (n := 1) rfl rfl ?_
                      refine jx_step (pc' := 130) rfl ?_
                      refine jv_istore (pc' := 132) (k := 4) (x := (iI 1)) rfl rfl rfl (Or.inr (congrArg jm_lng hf3)) ?_
                      refine jx_step (pc' := 143) rfl ?_
                      refine jv_iload (pc' := 145) (k := 5) (x := (iI ((kk : Nat) : Int))) rfl rfl hf5 ?_
                      refine jv_iconst (pc' := 146) (n := 1) rfl rfl ?_
                      refine jv_aload_n (pc' := 147) (k := 0) (x := 38) rfl rfl rfl hf0 ?_
                      refine jv_getR (pc' := 150) (c := 6) (k := 6) (v := T) rfl rfl rfl (fun _ _ => rfl) rfl rfl hX.2.2.2.1 ?_
                      refine jv_getR (pc' := 153) (c := 2) (k := 3) (v := (T + 4)) rfl rfl rfl (fun _ _ => rfl) (YL_A hX.2.1 j _ _ p) rfl (YL_R4 hX.2.1 p) ?_
                      refine jv_iload (pc' := 155) (k := 5) (x := (iI ((kk : Nat) : Int))) rfl rfl hf5 ?_
                      refine jv_iaload (pc' := 156) (n := 40) (e := ((kk : Nat) : Int)) (v := (iI (Y 3 kk))) rfl rfl (YL_S hX.2.1 4 (by omega)) (YL_B4 hX.2.1 j _ _ p) (YL_n4 hX.2.1) rfl (by omega) ((X1.2.2.2.2.2.1.2.2.1 kk (by omega)).2.2.2) ?_
                      refine jv_iadd (pc' := 157) (a := 1) (b := (Y 3 kk)) rfl rfl ?_
                      refine jv_iadd (pc' := 158) (a := ((kk : Nat) : Int)) (b := (1 + (Y 3 kk))) rfl rfl ?_
                      rw [show ((kk : Nat) : Int) + (1 + (Y 3 kk)) = ((g : Nat) : Int) by omega]
                      refine jv_istore (pc' := 160) (k := 5) (x := (iI ((g : Nat) : Int))) rfl rfl rfl (Or.inr rfl) ?_
                      refine jx_step (pc' := 13) rfl ?_
                      exact ih g 1 I1 M1 s1 (by omega) (by omega) hf hm hD1 hR1 (Or.inl ⟨rfl, hV1, q2, e1 + 1, _, he2 ▸ hIT2, DR_app hP1 (DR_1 ⟨by omega, by omega, hV1, hKB⟩ (DT_n hHD h63 (by assumption) hLQ)), NL_t hN1 (fun i _ => rfl) (by omega) (by omega)⟩) _ hf0 hf1 hf2 hf3 rfl rfl 
                    · skip
                      refine jv_aload_n (pc' := 97) (k := 0) (x := 38) rfl rfl rfl hf0 ?_
                      refine jv_iload (pc' := 99) (k := 5) (x := (iI ((kk : Nat) : Int))) rfl rfl hf5 ?_
                      refine jv_iconst (pc' := 100) (n := 1) rfl rfl ?_
                      refine jv_iadd (pc' := 101) (a := ((kk : Nat) : Int)) (b := 1) rfl rfl ?_
                      refine jv_iload (pc' := 103) (k := 5) (x := (iI ((kk : Nat) : Int))) rfl rfl hf5 ?_
                      refine jv_iconst (pc' := 104) (n := 1) rfl rfl ?_
                      refine jv_iadd (pc' := 105) (a := ((kk : Nat) : Int)) (b := 1) rfl rfl ?_
                      refine jv_aload_n (pc' := 106) (k := 0) (x := 38) rfl rfl rfl hf0 ?_
                      refine jv_getR (pc' := 109) (c := 6) (k := 6) (v := T) rfl rfl rfl (fun _ _ => rfl) rfl rfl hX.2.2.2.1 ?_
                      refine jv_getR (pc' := 112) (c := 2) (k := 3) (v := (T + 4)) rfl rfl rfl (fun _ _ => rfl) (YL_A hX.2.1 j _ _ p) rfl (YL_R4 hX.2.1 p) ?_
                      refine jv_iload (pc' := 114) (k := 5) (x := (iI ((kk : Nat) : Int))) rfl rfl hf5 ?_
                      refine jv_iaload (pc' := 115) (n := 40) (e := ((kk : Nat) : Int)) (v := (iI (Y 3 kk))) rfl rfl (YL_S hX.2.1 4 (by omega)) (YL_B4 hX.2.1 j _ _ p) (YL_n4 hX.2.1) rfl (by omega) ((X1.2.2.2.2.2.1.2.2.1 kk (by omega)).2.2.2) ?_
                      refine jv_iadd (pc' := 116) (a := (((kk : Nat) : Int) + 1)) (b := (Y 3 kk)) rfl rfl ?_
                      refine jv_iload_n (pc' := 117) (k := 3) (x := (iI ((D : Nat) : Int))) rfl rfl rfl hf3 ?_
                      refine jv_iconst (pc' := 118) (n := 1) rfl rfl ?_
                      refine jv_iadd (pc' := 119) (a := ((D : Nat) : Int)) (b := 1) rfl rfl ?_
                      rw [show (((kk : Nat) : Int) + 1) + (Y 3 kk) = ((g : Nat) : Int) by omega]
                      rw [show ((kk : Nat) : Int) + 1 = ((kk + 1 : Nat) : Int) by omega]
                      rw [show ((D : Nat) : Int) + 1 = ((D + 1 : Nat) : Int) by omega]
                      refine jv_call (pc' := 122) rfl (hI L xs d j I1 M1 p F T B sz Y m l bg lim s1 c q2 (kk + 1) g b1 e1 (D + 1) ((b1, false, 0) :: k) X1 hD1 hV1 hITi (by omega) (by omega) (by simp [hkl]) (by omega) (KB_c hKB (by omega) (by omega))) (fun vq13 gq13 q13 => ?_)
                      obtain ⟨Iq13, Mq13, sq13, rfl, rq13, tq13, Dq13, Rq13, q13⟩ := q13
                      rcases q13 with ⟨rfl, Vq13, ⟨nq13, Pq13⟩, Nq13⟩ | ⟨rfl, nq13, Qq13⟩
                      · skip
                        have Xq13 := DX_fr X1 rq13
                        have z1q13 := Vq13.1
                        have z2q13 := Vq13.2.1
                        have z3q13 := Vq13.2.2.1
                        have z4q13 := Rq13.1
                        show jx L xs _ 64 122 _ [.int (iI 1)] _ _
                        refine jv_if_eq (t := 129) (pc' := 125) (a := 1) rfl rfl rfl (by omega) (fun hz_14 => ?_) (fun hz_14 => ?_)
                        · skip
                          exact absurd hz_14 (by decide)
                        · skip
                          refine jv_iconst (pc' := 126) (n := 1) rfl rfl ?_
                          refine jx_step (pc' := 130) rfl ?_
                          refine jv_istore (pc' := 132) (k := 4) (x := (iI 1)) rfl rfl rfl (Or.inr (congrArg jm_lng hf3)) ?_
                          refine jx_step (pc' := 143) rfl ?_
                          refine jv_iload (pc' := 145) (k := 5) (x := (iI ((kk : Nat) : Int))) rfl rfl hf5 ?_
                          refine jv_iconst (pc' := 146) (n := 1) rfl rfl ?_
                          refine jv_aload_n (pc' := 147) (k := 0) (x := 38) rfl rfl rfl hf0 ?_
                          refine jv_getR (pc' := 150) (c := 6) (k := 6) (v := T) rfl rfl rfl (fun _ _ => rfl) rfl rfl hX.2.2.2.1 ?_
                          refine jv_getR (pc' := 153) (c := 2) (k := 3) (v := (T + 4)) rfl rfl rfl (fun _ _ => rfl) (YL_A hX.2.1 j _ _ p) rfl (YL_R4 hX.2.1 p) ?_
                          refine jv_iload (pc' := 155) (k := 5) (x := (iI ((kk : Nat) : Int))) rfl rfl hf5 ?_
                          refine jv_iaload (pc' := 156) (n := 40) (e := ((kk : Nat) : Int)) (v := (iI (Y 3 kk))) rfl rfl (YL_S hX.2.1 4 (by omega)) (YL_B4 hX.2.1 j _ _ p) (YL_n4 hX.2.1) rfl (by omega) ((Xq13.2.2.2.2.2.1.2.2.1 kk (by omega)).2.2.2) ?_
                          refine jv_iadd (pc' := 157) (a := 1) (b := (Y 3 kk)) rfl rfl ?_
                          refine jv_iadd (pc' := 158) (a := ((kk : Nat) : Int)) (b := (1 + (Y 3 kk))) rfl rfl ?_
                          rw [show ((kk : Nat) : Int) + (1 + (Y 3 kk)) = ((g : Nat) : Int) by omega]
                          refine jv_istore (pc' := 160) (k := 5) (x := (iI ((g : Nat) : Int))) rfl rfl rfl (Or.inr rfl) ?_
                          refine jx_step (pc' := 13) rfl ?_
                          exact ih g 1 Iq13 Mq13 sq13 (by omega) (by omega) (fr_t hf rq13) (fr_t hm tq13) Dq13 (DRes_t hR1 Rq13) (Or.inl ⟨rfl, Vq13, q2, e1 + 1, _, he2 ▸ hIT2, DR_app hP1 (DR_app (DR_1 ⟨by omega, by omega, hV1, hKB⟩ (DT_o hHD h63 (by assumption))) (DR_app Pq13 (DR_app (DR_1 ⟨by omega, by simp [hkl]; omega, Vq13, KB_c hKB (by omega) (by omega)⟩ (DT_c (a' := e1) hce)) (DR_1 ⟨by omega, by simp [hkl]; omega, Vq13, KB_c hKB (by omega) (by omega)⟩ (DT_e (fun z => by cases z.1) hLQ))))), NL_t hN1 (NL_l Nq13 (by omega)) (by omega) (by omega)⟩) _ hf0 hf1 hf2 hf3 rfl rfl 
                      · skip
                        have Xq13 := DX_fr X1 rq13
                        show jx L xs _ 64 122 _ [.int (iI 0)] _ _
                        refine jv_if_eq (t := 129) (pc' := 125) (a := 0) rfl rfl rfl (by omega) (fun hz_15 => ?_) (fun hz_15 => ?_)
                        · skip
                          refine jv_iconst (pc' := 130) (n := 0) rfl rfl ?_
                          refine jv_istore (pc' := 132) (k := 4) (x := (iI 0)) rfl rfl rfl (Or.inr (congrArg jm_lng hf3)) ?_
                          refine jx_step (pc' := 143) rfl ?_
                          refine jv_iload (pc' := 145) (k := 5) (x := (iI ((kk : Nat) : Int))) rfl rfl hf5 ?_
                          refine jv_iconst (pc' := 146) (n := 1) rfl rfl ?_
                          refine jv_aload_n (pc' := 147) (k := 0) (x := 38) rfl rfl rfl hf0 ?_
                          refine jv_getR (pc' := 150) (c := 6) (k := 6) (v := T) rfl rfl rfl (fun _ _ => rfl) rfl rfl hX.2.2.2.1 ?_
                          refine jv_getR (pc' := 153) (c := 2) (k := 3) (v := (T + 4)) rfl rfl rfl (fun _ _ => rfl) (YL_A hX.2.1 j _ _ p) rfl (YL_R4 hX.2.1 p) ?_
                          refine jv_iload (pc' := 155) (k := 5) (x := (iI ((kk : Nat) : Int))) rfl rfl hf5 ?_
                          refine jv_iaload (pc' := 156) (n := 40) (e := ((kk : Nat) : Int)) (v := (iI (Y 3 kk))) rfl rfl (YL_S hX.2.1 4 (by omega)) (YL_B4 hX.2.1 j _ _ p) (YL_n4 hX.2.1) rfl (by omega) ((Xq13.2.2.2.2.2.1.2.2.1 kk (by omega)).2.2.2) ?_
                          refine jv_iadd (pc' := 157) (a := 1) (b := (Y 3 kk)) rfl rfl ?_
                          refine jv_iadd (pc' := 158) (a := ((kk : Nat) : Int)) (b := (1 + (Y 3 kk))) rfl rfl ?_
                          rw [show ((kk : Nat) : Int) + (1 + (Y 3 kk)) = ((g : Nat) : Int) by omega]
                          refine jv_istore (pc' := 160) (k := 5) (x := (iI ((g : Nat) : Int))) rfl rfl rfl (Or.inr rfl) ?_
                          refine jx_step (pc' := 13) rfl ?_
                          exact ih g 0 Iq13 Mq13 sq13 (by omega) (by omega) (fr_t hf rq13) (fr_t hm tq13) Dq13 (DRes_t hR1 Rq13) (Or.inr ⟨rfl, _, DR_DQ hP1 (DR_DQ (DR_1 ⟨by omega, by omega, hV1, hKB⟩ (DT_o hHD h63 (by assumption))) Qq13)⟩) _ hf0 hf1 hf2 hf3 rfl rfl 
                        · skip
                          exact absurd hz_15 (by decide)
                  · skip
                    refine jv_aload_n (pc' := 25) (k := 0) (x := 38) rfl rfl rfl hf0 ?_
                    refine jv_getR (pc' := 28) (c := 6) (k := 6) (v := T) rfl rfl rfl (fun _ _ => rfl) rfl rfl hX.2.2.2.1 ?_
                    refine jv_getR (pc' := 31) (c := 2) (k := 0) (v := (T + 1)) rfl rfl rfl (fun _ _ => rfl) (YL_A hX.2.1 j _ _ p) rfl (YL_R1 hX.2.1 p) ?_
                    refine jv_iload (pc' := 33) (k := 5) (x := (iI ((kk : Nat) : Int))) rfl rfl hf5 ?_
                    refine jv_iaload (pc' := 34) (n := 40) (e := ((kk : Nat) : Int)) (v := (iI (Y 0 kk))) rfl rfl (YL_S hX.2.1 1 (by omega)) (YL_B1 hX.2.1 j _ _ p) (YL_n1 hX.2.1) rfl (by omega) ((X1.2.2.2.2.2.1.2.2.1 kk (by omega)).1) ?_
                    rw [show Y 0 kk = 6 by omega]
                    refine jx_step (pc' := 87) rfl ?_
                    show jx L xs _ 64 87 _ [] _ _
                    refine jv_aload_n (pc' := 88) (k := 0) (x := 38) rfl rfl rfl hf0 ?_
                    refine jv_iload (pc' := 90) (k := 5) (x := (iI ((kk : Nat) : Int))) rfl rfl hf5 ?_
                    refine jv_call (pc' := 93) rfl (cl_isChosen (I := I1) (M := M1) (s := s1) (k := kk) (nm := nm) X1 hD1 hV1 (by omega) h1 hnm (by omega) (by omega)) (fun vq16 gq16 q16 => ?_)
                    obtain ⟨rfl, rfl⟩ := q16
                    show jx L xs _ 64 93 _ [.int (jb (CH Y kk s1))] _ _
                    refine jv_jb_eq (t := 125) (pc' := 96) (P := CH Y kk s1) rfl rfl rfl (fun hz_17 => ?_) (fun hz_17 => ?_)
                    · skip
                      refine jv_iconst (pc' := 126) (n := 1) rfl rfl ?_
                      refine jx_step (pc' := 130) rfl ?_
                      refine jv_istore (pc' := 132) (k := 4) (x := (iI 1)) rfl rfl rfl (Or.inr (congrArg jm_lng hf3)) ?_
                      refine jx_step (pc' := 143) rfl ?_
                      refine jv_iload (pc' := 145) (k := 5) (x := (iI ((kk : Nat) : Int))) rfl rfl hf5 ?_
                      refine jv_iconst (pc' := 146) (n := 1) rfl rfl ?_
                      refine jv_aload_n (pc' := 147) (k := 0) (x := 38) rfl rfl rfl hf0 ?_
                      refine jv_getR (pc' := 150) (c := 6) (k := 6) (v := T) rfl rfl rfl (fun _ _ => rfl) rfl rfl hX.2.2.2.1 ?_
                      refine jv_getR (pc' := 153) (c := 2) (k := 3) (v := (T + 4)) rfl rfl rfl (fun _ _ => rfl) (YL_A hX.2.1 j _ _ p) rfl (YL_R4 hX.2.1 p) ?_
                      refine jv_iload (pc' := 155) (k := 5) (x := (iI ((kk : Nat) : Int))) rfl rfl hf5 ?_
                      refine jv_iaload (pc' := 156) (n := 40) (e := ((kk : Nat) : Int)) (v := (iI (Y 3 kk))) rfl rfl (YL_S hX.2.1 4 (by omega)) (YL_B4 hX.2.1 j _ _ p) (YL_n4 hX.2.1) rfl (by omega) ((X1.2.2.2.2.2.1.2.2.1 kk (by omega)).2.2.2) ?_
                      refine jv_iadd (pc' := 157) (a := 1) (b := (Y 3 kk)) rfl rfl ?_
                      refine jv_iadd (pc' := 158) (a := ((kk : Nat) : Int)) (b := (1 + (Y 3 kk))) rfl rfl ?_
                      rw [show ((kk : Nat) : Int) + (1 + (Y 3 kk)) = ((g : Nat) : Int) by omega]
                      refine jv_istore (pc' := 160) (k := 5) (x := (iI ((g : Nat) : Int))) rfl rfl rfl (Or.inr rfl) ?_
                      refine jx_step (pc' := 13) rfl ?_
                      exact ih g 1 I1 M1 s1 (by omega) (by omega) hf hm hD1 hR1 (Or.inl ⟨rfl, hV1, q2, e1 + 1, _, he2 ▸ hIT2, DR_app hP1 (DR_1 ⟨by omega, by omega, hV1, hKB⟩ (DT_n hHD h63 (by assumption) hLQ)), NL_t hN1 (fun i _ => rfl) (by omega) (by omega)⟩) _ hf0 hf1 hf2 hf3 rfl rfl 
                    · skip
                      refine jv_aload_n (pc' := 97) (k := 0) (x := 38) rfl rfl rfl hf0 ?_
                      refine jv_iload (pc' := 99) (k := 5) (x := (iI ((kk : Nat) : Int))) rfl rfl hf5 ?_
                      refine jv_iconst (pc' := 100) (n := 1) rfl rfl ?_
                      refine jv_iadd (pc' := 101) (a := ((kk : Nat) : Int)) (b := 1) rfl rfl ?_
                      refine jv_iload (pc' := 103) (k := 5) (x := (iI ((kk : Nat) : Int))) rfl rfl hf5 ?_
                      refine jv_iconst (pc' := 104) (n := 1) rfl rfl ?_
                      refine jv_iadd (pc' := 105) (a := ((kk : Nat) : Int)) (b := 1) rfl rfl ?_
                      refine jv_aload_n (pc' := 106) (k := 0) (x := 38) rfl rfl rfl hf0 ?_
                      refine jv_getR (pc' := 109) (c := 6) (k := 6) (v := T) rfl rfl rfl (fun _ _ => rfl) rfl rfl hX.2.2.2.1 ?_
                      refine jv_getR (pc' := 112) (c := 2) (k := 3) (v := (T + 4)) rfl rfl rfl (fun _ _ => rfl) (YL_A hX.2.1 j _ _ p) rfl (YL_R4 hX.2.1 p) ?_
                      refine jv_iload (pc' := 114) (k := 5) (x := (iI ((kk : Nat) : Int))) rfl rfl hf5 ?_
                      refine jv_iaload (pc' := 115) (n := 40) (e := ((kk : Nat) : Int)) (v := (iI (Y 3 kk))) rfl rfl (YL_S hX.2.1 4 (by omega)) (YL_B4 hX.2.1 j _ _ p) (YL_n4 hX.2.1) rfl (by omega) ((X1.2.2.2.2.2.1.2.2.1 kk (by omega)).2.2.2) ?_
                      refine jv_iadd (pc' := 116) (a := (((kk : Nat) : Int) + 1)) (b := (Y 3 kk)) rfl rfl ?_
                      refine jv_iload_n (pc' := 117) (k := 3) (x := (iI ((D : Nat) : Int))) rfl rfl rfl hf3 ?_
                      refine jv_iconst (pc' := 118) (n := 1) rfl rfl ?_
                      refine jv_iadd (pc' := 119) (a := ((D : Nat) : Int)) (b := 1) rfl rfl ?_
                      rw [show (((kk : Nat) : Int) + 1) + (Y 3 kk) = ((g : Nat) : Int) by omega]
                      rw [show ((kk : Nat) : Int) + 1 = ((kk + 1 : Nat) : Int) by omega]
                      rw [show ((D : Nat) : Int) + 1 = ((D + 1 : Nat) : Int) by omega]
                      refine jv_call (pc' := 122) rfl (hI L xs d j I1 M1 p F T B sz Y m l bg lim s1 c q2 (kk + 1) g b1 e1 (D + 1) ((b1, false, 0) :: k) X1 hD1 hV1 hITi (by omega) (by omega) (by simp [hkl]) (by omega) (KB_c hKB (by omega) (by omega))) (fun vq18 gq18 q18 => ?_)
                      obtain ⟨Iq18, Mq18, sq18, rfl, rq18, tq18, Dq18, Rq18, q18⟩ := q18
                      rcases q18 with ⟨rfl, Vq18, ⟨nq18, Pq18⟩, Nq18⟩ | ⟨rfl, nq18, Qq18⟩
                      · skip
                        have Xq18 := DX_fr X1 rq18
                        have z1q18 := Vq18.1
                        have z2q18 := Vq18.2.1
                        have z3q18 := Vq18.2.2.1
                        have z4q18 := Rq18.1
                        show jx L xs _ 64 122 _ [.int (iI 1)] _ _
                        refine jv_if_eq (t := 129) (pc' := 125) (a := 1) rfl rfl rfl (by omega) (fun hz_19 => ?_) (fun hz_19 => ?_)
                        · skip
                          exact absurd hz_19 (by decide)
                        · skip
                          refine jv_iconst (pc' := 126) (n := 1) rfl rfl ?_
                          refine jx_step (pc' := 130) rfl ?_
                          refine jv_istore (pc' := 132) (k := 4) (x := (iI 1)) rfl rfl rfl (Or.inr (congrArg jm_lng hf3)) ?_
                          refine jx_step (pc' := 143) rfl ?_
                          refine jv_iload (pc' := 145) (k := 5) (x := (iI ((kk : Nat) : Int))) rfl rfl hf5 ?_
                          refine jv_iconst (pc' := 146) (n := 1) rfl rfl ?_
                          refine jv_aload_n (pc' := 147) (k := 0) (x := 38) rfl rfl rfl hf0 ?_
                          refine jv_getR (pc' := 150) (c := 6) (k := 6) (v := T) rfl rfl rfl (fun _ _ => rfl) rfl rfl hX.2.2.2.1 ?_
                          refine jv_getR (pc' := 153) (c := 2) (k := 3) (v := (T + 4)) rfl rfl rfl (fun _ _ => rfl) (YL_A hX.2.1 j _ _ p) rfl (YL_R4 hX.2.1 p) ?_
                          refine jv_iload (pc' := 155) (k := 5) (x := (iI ((kk : Nat) : Int))) rfl rfl hf5 ?_
                          refine jv_iaload (pc' := 156) (n := 40) (e := ((kk : Nat) : Int)) (v := (iI (Y 3 kk))) rfl rfl (YL_S hX.2.1 4 (by omega)) (YL_B4 hX.2.1 j _ _ p) (YL_n4 hX.2.1) rfl (by omega) ((Xq18.2.2.2.2.2.1.2.2.1 kk (by omega)).2.2.2) ?_
                          refine jv_iadd (pc' := 157) (a := 1) (b := (Y 3 kk)) rfl rfl ?_
                          refine jv_iadd (pc' := 158) (a := ((kk : Nat) : Int)) (b := (1 + (Y 3 kk))) rfl rfl ?_
                          rw [show ((kk : Nat) : Int) + (1 + (Y 3 kk)) = ((g : Nat) : Int) by omega]
                          refine jv_istore (pc' := 160) (k := 5) (x := (iI ((g : Nat) : Int))) rfl rfl rfl (Or.inr rfl) ?_
                          refine jx_step (pc' := 13) rfl ?_
                          exact ih g 1 Iq18 Mq18 sq18 (by omega) (by omega) (fr_t hf rq18) (fr_t hm tq18) Dq18 (DRes_t hR1 Rq18) (Or.inl ⟨rfl, Vq18, q2, e1 + 1, _, he2 ▸ hIT2, DR_app hP1 (DR_app (DR_1 ⟨by omega, by omega, hV1, hKB⟩ (DT_o hHD h63 (by assumption))) (DR_app Pq18 (DR_app (DR_1 ⟨by omega, by simp [hkl]; omega, Vq18, KB_c hKB (by omega) (by omega)⟩ (DT_c (a' := e1) hce)) (DR_1 ⟨by omega, by simp [hkl]; omega, Vq18, KB_c hKB (by omega) (by omega)⟩ (DT_e (fun z => by cases z.1) hLQ))))), NL_t hN1 (NL_l Nq18 (by omega)) (by omega) (by omega)⟩) _ hf0 hf1 hf2 hf3 rfl rfl 
                      · skip
                        have Xq18 := DX_fr X1 rq18
                        show jx L xs _ 64 122 _ [.int (iI 0)] _ _
                        refine jv_if_eq (t := 129) (pc' := 125) (a := 0) rfl rfl rfl (by omega) (fun hz_20 => ?_) (fun hz_20 => ?_)
                        · skip
                          refine jv_iconst (pc' := 130) (n := 0) rfl rfl ?_
                          refine jv_istore (pc' := 132) (k := 4) (x := (iI 0)) rfl rfl rfl (Or.inr (congrArg jm_lng hf3)) ?_
                          refine jx_step (pc' := 143) rfl ?_
                          refine jv_iload (pc' := 145) (k := 5) (x := (iI ((kk : Nat) : Int))) rfl rfl hf5 ?_
                          refine jv_iconst (pc' := 146) (n := 1) rfl rfl ?_
                          refine jv_aload_n (pc' := 147) (k := 0) (x := 38) rfl rfl rfl hf0 ?_
                          refine jv_getR (pc' := 150) (c := 6) (k := 6) (v := T) rfl rfl rfl (fun _ _ => rfl) rfl rfl hX.2.2.2.1 ?_
                          refine jv_getR (pc' := 153) (c := 2) (k := 3) (v := (T + 4)) rfl rfl rfl (fun _ _ => rfl) (YL_A hX.2.1 j _ _ p) rfl (YL_R4 hX.2.1 p) ?_
                          refine jv_iload (pc' := 155) (k := 5) (x := (iI ((kk : Nat) : Int))) rfl rfl hf5 ?_
                          refine jv_iaload (pc' := 156) (n := 40) (e := ((kk : Nat) : Int)) (v := (iI (Y 3 kk))) rfl rfl (YL_S hX.2.1 4 (by omega)) (YL_B4 hX.2.1 j _ _ p) (YL_n4 hX.2.1) rfl (by omega) ((Xq18.2.2.2.2.2.1.2.2.1 kk (by omega)).2.2.2) ?_
                          refine jv_iadd (pc' := 157) (a := 1) (b := (Y 3 kk)) rfl rfl ?_
                          refine jv_iadd (pc' := 158) (a := ((kk : Nat) : Int)) (b := (1 + (Y 3 kk))) rfl rfl ?_
                          rw [show ((kk : Nat) : Int) + (1 + (Y 3 kk)) = ((g : Nat) : Int) by omega]
                          refine jv_istore (pc' := 160) (k := 5) (x := (iI ((g : Nat) : Int))) rfl rfl rfl (Or.inr rfl) ?_
                          refine jx_step (pc' := 13) rfl ?_
                          exact ih g 0 Iq18 Mq18 sq18 (by omega) (by omega) (fr_t hf rq18) (fr_t hm tq18) Dq18 (DRes_t hR1 Rq18) (Or.inr ⟨rfl, _, DR_DQ hP1 (DR_DQ (DR_1 ⟨by omega, by omega, hV1, hKB⟩ (DT_o hHD h63 (by assumption))) Qq18)⟩) _ hf0 hf1 hf2 hf3 rfl rfl 
                        · skip
                          exact absurd hz_20 (by decide)
        · skip
          show jx L xs _ 64 15 _ [.int (iI ((kk : Nat) : Int))] _ _
          refine jv_iload_n (pc' := 16) (k := 2) (x := (iI ((t : Nat) : Int))) rfl rfl rfl hf2 ?_
          refine jv_ic_ge (t := 163) (pc' := 19) (a := ((kk : Nat) : Int)) (b := ((t : Nat) : Int)) rfl rfl rfl (by omega) (fun hz_21 => ?_) (fun hz_21 => ?_)
          · skip
            refine jv_iload (pc' := 165) (k := 4) (x := (iI 0)) rfl rfl hf4 ?_
            refine jv_retZ rfl rfl (by first | exact Or.inl rfl | exact Or.inr rfl) ⟨_, _, rfl, ?_⟩
            first
            | (exfalso; omega)
            | exact ⟨_, _, _, rfl, hf, hm, hD1, hR1, Or.inr ⟨rfl, _, hQ1⟩⟩
          · skip
            refine jv_iload (pc' := 21) (k := 4) (x := (iI 0)) rfl rfl hf4 ?_
            refine jv_if_eq (t := 163) (pc' := 24) (a := 0) rfl rfl rfl (by omega) (fun hz_22 => ?_) (fun hz_22 => ?_)
            · skip
              refine jv_iload (pc' := 165) (k := 4) (x := (iI 0)) rfl rfl hf4 ?_
              refine jv_retZ rfl rfl (by first | exact Or.inl rfl | exact Or.inr rfl) ⟨_, _, rfl, ?_⟩
              first
              | (exfalso; omega)
              | exact ⟨_, _, _, rfl, hf, hm, hD1, hR1, Or.inr ⟨rfl, _, hQ1⟩⟩
            · skip
              exact absurd hz_22 (by decide)
    exact H2 _ fi 1 I M s (Nat.lt_succ_self _) (by omega) (fr_r _) (fr_r _) hD (DRes_r hV hlim) (Or.inl ⟨rfl, hV, q, a, 0, hIT, ⟨rfl, rfl, rfl, rfl⟩, fun i _ => rfl⟩) _ rfl rfl rfl rfl rfl rfl 
  · skip
    refine jv_iconst (pc' := 6) (n := 0) rfl rfl ?_
    refine jv_retZ rfl rfl (by first | exact Or.inl rfl | exact Or.inr rfl) ⟨_, _, rfl, ?_⟩
    exfalso; omega
theorem cl_CDI0 : CDI 0 3 := cl_CDI (h := 0) (e := 0) (fun z => absurd z (by omega)) (fun z => absurd z (by omega))
theorem cl_CDI1 : CDI 1 5 := cl_CDI (h := 1) (e := 2) (fun _ => cl_CDG (h := 0) (e := 1) cl_CDI0) (fun _ => CDI_s cl_CDI0)
theorem cl_CDI2 : CDI 2 7 := cl_CDI (h := 2) (e := 4) (fun _ => cl_CDG (h := 1) (e := 3) cl_CDI1) (fun _ => CDI_s cl_CDI1)
theorem cl_CDI3 : CDI 3 9 := cl_CDI (h := 3) (e := 6) (fun _ => cl_CDG (h := 2) (e := 5) cl_CDI2) (fun _ => CDI_s cl_CDI2)
