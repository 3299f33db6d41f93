/-! printed in part by wip/whole/gen/d6.py: the reference runs the items of a layer -/
def MS (I : Nat → Nat → Int32) (M : Nat → Nat → Int64) (a : Nat) (k : DK) (s : DSt) : Prop := I 103 19 = iI ((a : Nat) : Int) ∧ I 103 33 = iI 0 ∧ I 103 37 = iI ((k.length : Nat) : Int) ∧ SK I M k ∧ DM I M s
theorem SK_fr {I I' : Nat → Nat → Int32} {M M' : Nat → Nat → Int64} {k : DK} (h : SK I M k) (f : fr wM1 I I') (g : fr wN1 M M') : SK I' M' k :=
  SK_c h (fun i _ => ⟨f 127 i (by simp [wM1]), f 129 i (by simp [wM1]), g 128 i (by simp [wN1])⟩)
theorem DT1 {c : Nat → Int} {B : Nat → Nat} {lim sz bg : Nat} {l : Int} {a : Nat} {k : DK} {s : DSt} {md' a' : Nat} {k' : DK} {s' : DSt} (h : DT c B lim sz bg l 1 a k s md' a' k' s') : md' = 0 ∧ ∃ it gr lf r, k = (it, gr, lf) :: r ∧ ((AG sz gr lf s ∧ SP lim l 9 s true s' ∧ a' = it ∧ k' = (it, gr, if lf < 0 then lf else lf - 1) :: r) ∨ (¬ AG sz gr lf s ∧ s' = s ∧ k' = r ∧ ∃ n, LQ c n 1 it a')) := by
  rcases h with h | h | h | h | h | h
  · exact absurd h.1 (by decide)
  · exact absurd h.1 (by decide)
  · exact absurd h.1 (by decide)
  · exact absurd h.1 (by decide)
  · exact absurd h.1 (by decide)
  · exact ⟨h.2.1, h.2.2⟩
theorem DO1 {c : Nat → Int} {B : Nat → Nat} {lim sz bg : Nat} {l : Int} {a : Nat} {k : DK} {s s' : DSt} (h : DO c B lim sz bg l 1 a k s s') : ∃ it gr lf r, k = (it, gr, lf) :: r ∧ AG sz gr lf s ∧ SP lim l 9 s false s' := by
  rcases h with h | h | h
  · exact absurd h.1 (by decide)
  · exact absurd h.1 (by decide)
  · exact h.2

section D6
variable {L : Nat} {xs : Nat → Int32} {d j : Nat} {I : Nat → Nat → Int32} {M : Nat → Nat → Int64} {p : Nat → Option Nat}
variable {fi : Nat} {B : Nat → Nat} {sz : Nat} {l : Int} {bg lim : Nat} {c : Nat → Int} {n : Nat} {s s' : DSt} {a : Nat}
theorem ml_leap (hT : MT I c n) (hat : I 103 19 = iI ((a : Nat) : Int)) {k e : Nat} (hL : LQ c k 1 a e) : jc L xs (d + 1) 144 [.ref 103] (jx_G j I M p) (fun v g1 => ∃ I', g1 = jx_G j I' M p ∧ v = none ∧ fr (fun l k => l = 103 ∧ k = 19) I I' ∧ I' 103 19 = iI ((e : Nat) : Int)) := by
  unfold jc
  refine jv_iconst (pc' := 1) (n := 1) rfl rfl ?_
  refine jv_istore_n (pc' := 2) (k := 1) (x := (iI 1)) rfl rfl rfl rfl (Or.inr rfl) ?_
  have H1 : ∀ (N : Nat) (k1 : Nat) (dp : Nat) (a1 : Nat) (I1 : Nat → Nat → Int32), k1 < N → (dp ≤ 200) → (LQ c k1 dp a1 e) → (fr (fun l k => l = 103 ∧ k = 19) I I1) → (I1 103 19 = iI ((a1 : Nat) : Int)) → (dp ≤ a1 + 1) → ∀ f : jm_F, f 0 = some (.ref 103) → f 1 = some (.int (iI ((dp : Nat) : Int))) → jx L xs ((d + 1)) 144 2 f [] (jx_G j I1 M p) (fun z => ∃ v g1, z = (.inl v, g1) ∧ (fun v g1 => ∃ I', g1 = jx_G j I' M p ∧ v = none ∧ fr (fun l k => l = 103 ∧ k = 19) I I' ∧ I' 103 19 = iI ((e : Nat) : Int)) v g1) := by
    intro N
    induction N with
    | zero => intro k1 dp a1 I1 hN; exact absurd hN (Nat.not_lt_zero _)
    | succ N ih =>
      intro k1 dp a1 I1 hN hdp hL hf ha1 hda f hf0 hf1 
      refine jv_iload_n (pc' := 3) (k := 1) (x := (iI ((dp : Nat) : Int))) rfl rfl rfl hf1 ?_
      have T1 : MT I1 c n := MT_fr hT hf (by simp) (by intro k; simp)
      rcases k1 with _ | k1
      · skip
        obtain ⟨hd0, he0⟩ := hL
        refine jv_if_le (t := 51) (pc' := 6) (a := ((dp : Nat) : Int)) rfl rfl rfl (by omega) (fun hz_2 => ?_) (fun hz_2 => ?_)
        · skip
          refine jv_retV rfl rfl ⟨_, _, rfl, ?_⟩
          first
          | (exfalso; omega)
          | exact ⟨_, rfl, rfl, hf, he0 ▸ ha1⟩
        · skip
          exfalso; omega
      · skip
        obtain ⟨hd0, h80, hL⟩ := hL
        refine jv_if_le (t := 51) (pc' := 6) (a := ((dp : Nat) : Int)) rfl rfl rfl (by omega) (fun hz_3 => ?_) (fun hz_3 => ?_)
        · skip
          exfalso; omega
        · skip
          refine jv_aload_n (pc' := 7) (k := 0) (x := 103) rfl rfl rfl hf0 ?_
          have hm4 := MT_c hT a1
          refine jv_call (pc' := 10) rfl (ml_here (I := I1) (a := a1) T1 ha1 (by omega)) (fun vq5 gq5 q5 => ?_)
          obtain ⟨rfl, rfl⟩ := q5
          show jx L xs _ 144 10 _ [.int (iI (c a1))] _ _
          refine jv_bipush (pc' := 12) (n := 40) rfl rfl rfl ?_
          refine jv_ic_ne (t := 21) (pc' := 15) (a := (c a1)) (b := 40) rfl rfl rfl (by omega) (fun hz_6 => ?_) (fun hz_6 => ?_)
          · skip
            refine jv_aload_n (pc' := 22) (k := 0) (x := 103) rfl rfl rfl hf0 ?_
            have hm7 := MT_c hT a1
            refine jv_call (pc' := 25) rfl (ml_here (I := I1) (a := a1) T1 ha1 (by omega)) (fun vq8 gq8 q8 => ?_)
            obtain ⟨rfl, rfl⟩ := q8
            show jx L xs _ 144 25 _ [.int (iI (c a1))] _ _
            refine jv_bipush (pc' := 27) (n := 41) rfl rfl rfl ?_
            refine jv_ic_ne (t := 36) (pc' := 30) (a := (c a1)) (b := 41) rfl rfl rfl (by omega) (fun hz_9 => ?_) (fun hz_9 => ?_)
            · skip
              refine jv_iload_n (pc' := 37) (k := 1) (x := (iI ((dp : Nat) : Int))) rfl rfl rfl hf1 ?_
              refine jv_istore_n (pc' := 38) (k := 1) (x := (iI ((dp : Nat) : Int))) rfl rfl rfl rfl (Or.inr (congrArg jm_lng hf0)) ?_
              refine jv_aload_n (pc' := 39) (k := 0) (x := 103) rfl rfl rfl hf0 ?_
              refine jx_step (pc' := 40) rfl ?_
              refine jv_getI (pc' := 43) (c := 12) (k := 19) (v := (iI ((a1 : Nat) : Int))) rfl rfl rfl (fun _ _ => rfl) rfl rfl ha1 ?_
              refine jv_iconst (pc' := 44) (n := 1) rfl rfl ?_
              refine jv_iadd (pc' := 45) (a := ((a1 : Nat) : Int)) (b := 1) rfl rfl ?_
              refine jv_putI (pc' := 48) (c := 12) (k := 19) rfl rfl rfl rfl (fun _ _ _  => rfl) rfl rfl ?_
              refine jx_step (pc' := 2) rfl ?_
              exact ih k1 dp (a1 + 1) (jm_u I1 103 19 (iI (((a1 : Nat) : Int) + 1))) (by omega) (by omega) (by rw [if_neg (by omega), if_neg (by omega)] at hL; exact hL) (fr_t hf (fr_u (by simp) (fr_r _))) rfl (by omega) _ hf0 rfl 
            · skip
              refine jv_iload_n (pc' := 31) (k := 1) (x := (iI ((dp : Nat) : Int))) rfl rfl rfl hf1 ?_
              refine jv_iconst (pc' := 32) (n := 1) rfl rfl ?_
              refine jv_isub (pc' := 33) (a := ((dp : Nat) : Int)) (b := 1) rfl rfl ?_
              refine jx_step (pc' := 37) rfl ?_
              rw [show ((dp : Nat) : Int) - 1 = ((dp - 1 : Nat) : Int) by omega]
              refine jv_istore_n (pc' := 38) (k := 1) (x := (iI ((dp - 1 : Nat) : Int))) rfl rfl rfl rfl (Or.inr (congrArg jm_lng hf0)) ?_
              refine jv_aload_n (pc' := 39) (k := 0) (x := 103) rfl rfl rfl hf0 ?_
              refine jx_step (pc' := 40) rfl ?_
              refine jv_getI (pc' := 43) (c := 12) (k := 19) (v := (iI ((a1 : Nat) : Int))) rfl rfl rfl (fun _ _ => rfl) rfl rfl ha1 ?_
              refine jv_iconst (pc' := 44) (n := 1) rfl rfl ?_
              refine jv_iadd (pc' := 45) (a := ((a1 : Nat) : Int)) (b := 1) rfl rfl ?_
              refine jv_putI (pc' := 48) (c := 12) (k := 19) rfl rfl rfl rfl (fun _ _ _  => rfl) rfl rfl ?_
              refine jx_step (pc' := 2) rfl ?_
              exact ih k1 (dp - 1) (a1 + 1) (jm_u I1 103 19 (iI (((a1 : Nat) : Int) + 1))) (by omega) (by omega) (by rw [if_neg (by omega), if_pos (by omega)] at hL; exact hL) (fr_t hf (fr_u (by simp) (fr_r _))) rfl (by omega) _ hf0 rfl 
          · skip
            refine jv_iload_n (pc' := 16) (k := 1) (x := (iI ((dp : Nat) : Int))) rfl rfl rfl hf1 ?_
            refine jv_iconst (pc' := 17) (n := 1) rfl rfl ?_
            refine jv_iadd (pc' := 18) (a := ((dp : Nat) : Int)) (b := 1) rfl rfl ?_
            refine jx_step (pc' := 37) rfl ?_
            rw [show ((dp : Nat) : Int) + 1 = ((dp + 1 : Nat) : Int) by omega]
            refine jv_istore_n (pc' := 38) (k := 1) (x := (iI ((dp + 1 : Nat) : Int))) rfl rfl rfl rfl (Or.inr (congrArg jm_lng hf0)) ?_
            refine jv_aload_n (pc' := 39) (k := 0) (x := 103) rfl rfl rfl hf0 ?_
            refine jx_step (pc' := 40) rfl ?_
            refine jv_getI (pc' := 43) (c := 12) (k := 19) (v := (iI ((a1 : Nat) : Int))) rfl rfl rfl (fun _ _ => rfl) rfl rfl ha1 ?_
            refine jv_iconst (pc' := 44) (n := 1) rfl rfl ?_
            refine jv_iadd (pc' := 45) (a := ((a1 : Nat) : Int)) (b := 1) rfl rfl ?_
            refine jv_putI (pc' := 48) (c := 12) (k := 19) rfl rfl rfl rfl (fun _ _ _  => rfl) rfl rfl ?_
            refine jx_step (pc' := 2) rfl ?_
            exact ih k1 (dp + 1) (a1 + 1) (jm_u I1 103 19 (iI (((a1 : Nat) : Int) + 1))) (by omega) (by omega) (by rw [if_pos (by omega)] at hL; exact hL) (fr_t hf (fr_u (by simp) (fr_r _))) rfl (by omega) _ hf0 rfl 
  exact H1 _ k 1 a I (Nat.lt_succ_self _) (by omega) hL (fr_r _) hat (by omega) _ rfl rfl 
variable {it : Nat} {gr : Bool} {lf : Int} {r k k' : DK} {a' : Nat}
theorem DM_at {I I' : Nat → Nat → Int32} {M : Nat → Nat → Int64} {s : DSt} (h : DM I M s) (f : fr (fun l k => l = 103 ∧ k = 19) I I') : DM I' M s := by
  obtain ⟨h1, h2, h3, h4, h5⟩ := h
  refine ⟨(f _ _ (by omega)).trans h1, (f _ _ (by omega)).trans h2, (f _ _ (by omega)).trans h3, fun k hk => ?_, fun k hk => ?_⟩
  · obtain ⟨a, b⟩ := h4 k hk
    exact ⟨a, (f _ _ (by omega)).trans b⟩
  · obtain ⟨a, b, c, d, e, g⟩ := h5 k hk
    exact ⟨(f _ _ (by omega)).trans a, (f _ _ (by omega)).trans b, (f _ _ (by omega)).trans c, (f _ _ (by omega)).trans d, (f _ _ (by omega)).trans e, g⟩
theorem SK_top {I I' : Nat → Nat → Int32} {M : Nat → Nat → Int64} {r : DK} {it i : Nat} {gr : Bool} {lf v : Int} (h : SK I M ((it, gr, lf) :: r)) (hi : i = r.length) (hI : I' = I) : SK I' (jm_u M 128 i (lI v)) ((it, gr, v) :: r) := by
  subst hi; subst hI
  exact ⟨⟨h.1.1, h.1.2.1, fun _ => jm_u_eq ⟨rfl, rfl⟩⟩, SK_c h.2 (fun i hi => ⟨rfl, rfl, jm_u_n2 (by omega)⟩)⟩
theorem ml_repeat_a (hX : MX I fi B sz l bg lim c n) (hS : MS I M a ((it, true, lf) :: r) s) (hB : DB lim sz a ((it, true, lf) :: r) s) (hA : (lf < 0 ∧ 0 < 8 * (sz : Int) - s 0 0) ∨ 0 < lf) (o1 : s 0 1 < lim) : jc L xs (d + 2) 145 [.ref 103] (jx_G j I M p) (fun v g1 => ∃ I' M', g1 = jx_G j I' M' p ∧ v = none ∧ fr wM I I' ∧ fr wN M M' ∧ MS I' M' it ((it, true, if lf < 0 then lf else lf - 1) :: r) (dS s)) := by
  unfold jc
  have hV := hB.2.2.1
  have hM := hS.2.2.2.2
  have hkl := hB.2.1
  have hs := hX.2.1.2.2.1
  have hfi := hX.2.1.1
  have hlim := hX.2.2.2.2.2.2.2.1
  have hbg := hX.2.2.2.2.2.2.2.2.1
  have hl := hX.2.2.2.2.2.2.2.2.2
  have hv0 := hV.1
  have hv1 := hV.2.1
  have hv2 := hV.2.2.1
  have hn80 := hX.1.2.1
  have hlf := hB.2.2.2 _ (List.mem_cons_self)
  have hkl2 : r.length + 1 ≤ 3 := hkl
  have hlf2 : -1 ≤ lf ∧ lf < 4294967296 := hlf.2
  have hit2 : it ≤ 80 := hlf.1
  refine jv_aload_n (pc' := 1) (k := 0) (x := 103) rfl rfl rfl rfl ?_
  refine jv_getI (pc' := 4) (c := 12) (k := 37) (v := (iI (((((it, true, lf) :: r) : DK).length : Nat) : Int))) rfl rfl rfl (fun _ _ => rfl) rfl rfl hS.2.2.1 ?_
  refine jv_iconst (pc' := 5) (n := 1) rfl rfl ?_
  refine jv_isub (pc' := 6) (a := (((((it, true, lf) :: r) : DK).length : Nat) : Int)) (b := 1) rfl rfl ?_
  rw [show (((((it, true, lf) :: r) : DK).length : Nat) : Int) - 1 = ((r.length : Nat) : Int) by simp only [List.length_cons]; omega]
  refine jv_istore_n (pc' := 7) (k := 1) (x := (iI ((r.length : Nat) : Int))) rfl rfl rfl rfl (Or.inr rfl) ?_
  refine jv_aload_n (pc' := 8) (k := 0) (x := 103) rfl rfl rfl rfl ?_
  refine jv_getR (pc' := 11) (c := 12) (k := 40) (v := 129) rfl rfl rfl (fun _ _ => rfl) rfl rfl (jR_103_40 _) ?_
  refine jv_iload_n (pc' := 12) (k := 1) (x := (iI ((r.length : Nat) : Int))) rfl rfl rfl rfl ?_
  refine jv_baload (pc' := 13) (n := 4) (e := ((r.length : Nat) : Int)) (v := (iI 1)) rfl rfl rfl rfl rfl (by omega) hS.2.2.2.1.1.2.1 ?_
  refine jv_if_eq (t := 52) (pc' := 16) (a := 1) rfl rfl rfl (by omega) (fun hz_1 => ?_) (fun hz_1 => ?_)
  · skip
    exact absurd hz_1 (by decide)
  · skip
    refine jv_aload_n (pc' := 17) (k := 0) (x := 103) rfl rfl rfl rfl ?_
    refine jv_getR (pc' := 20) (c := 12) (k := 39) (v := 128) rfl rfl rfl (fun _ _ => rfl) rfl rfl (jR_103_39 _) ?_
    refine jv_iload_n (pc' := 21) (k := 1) (x := (iI ((r.length : Nat) : Int))) rfl rfl rfl rfl ?_
    refine jv_laload (pc' := 22) (n := 4) (e := ((r.length : Nat) : Int)) (v := (lI lf)) rfl rfl rfl rfl rfl (by omega) (hS.2.2.2.1.1.2.2 rfl) ?_
    refine jv_long (pc' := 23) (y := lI 0) rfl (by decide) ?_
    refine jv_lc_ge (t := 37) (pc' := 27) (a := lf) (b := 0) rfl rfl rfl rfl rfl (by omega) (fun hz_2 => ?_) (fun hz_2 => ?_)
    · skip
      refine jv_aload_n (pc' := 38) (k := 0) (x := 103) rfl rfl rfl rfl ?_
      refine jv_getR (pc' := 41) (c := 12) (k := 39) (v := 128) rfl rfl rfl (fun _ _ => rfl) rfl rfl (jR_103_39 _) ?_
      refine jv_iload_n (pc' := 42) (k := 1) (x := (iI ((r.length : Nat) : Int))) rfl rfl rfl rfl ?_
      refine jv_laload (pc' := 43) (n := 4) (e := ((r.length : Nat) : Int)) (v := (lI lf)) rfl rfl rfl rfl rfl (by omega) (hS.2.2.2.1.1.2.2 rfl) ?_
      refine jv_long (pc' := 44) (y := lI 0) rfl (by decide) ?_
      refine jv_lc_le (t := 52) (pc' := 48) (a := lf) (b := 0) rfl rfl rfl rfl rfl (by omega) (fun hz_3 => ?_) (fun hz_3 => ?_)
      · skip
        refine jv_iconst (pc' := 53) (n := 0) rfl rfl ?_
        refine jv_istore_n (pc' := 54) (k := 2) (x := (iI 0)) rfl rfl rfl rfl (Or.inr rfl) ?_
        refine jv_iload_n (pc' := 55) (k := 2) (x := (iI 0)) rfl rfl rfl rfl ?_
        refine jv_if_eq (t := 112) (pc' := 58) (a := 0) rfl rfl rfl (by omega) (fun hz_4 => ?_) (fun hz_4 => ?_)
        · skip
          exfalso; omega
        · skip
          exact absurd hz_4 (by decide)
      · skip
        refine jv_iconst (pc' := 49) (n := 1) rfl rfl ?_
        refine jx_step (pc' := 53) rfl ?_
        refine jv_istore_n (pc' := 54) (k := 2) (x := (iI 1)) rfl rfl rfl rfl (Or.inr rfl) ?_
        refine jv_iload_n (pc' := 55) (k := 2) (x := (iI 1)) rfl rfl rfl rfl ?_
        refine jv_if_eq (t := 112) (pc' := 58) (a := 1) rfl rfl rfl (by omega) (fun hz_5 => ?_) (fun hz_5 => ?_)
        · skip
          exact absurd hz_5 (by decide)
        · skip
          refine jv_aload_n (pc' := 59) (k := 0) (x := 103) rfl rfl rfl rfl ?_
          refine jv_aload_n (pc' := 60) (k := 0) (x := 103) rfl rfl rfl rfl ?_
          refine jv_getR (pc' := 63) (c := 12) (k := 38) (v := 127) rfl rfl rfl (fun _ _ => rfl) rfl rfl (jR_103_38 _) ?_
          refine jv_iload_n (pc' := 64) (k := 1) (x := (iI ((r.length : Nat) : Int))) rfl rfl rfl rfl ?_
          refine jv_iaload (pc' := 65) (n := 4) (e := ((r.length : Nat) : Int)) (v := (iI ((it : Nat) : Int))) rfl rfl (by decide) rfl rfl rfl (by omega) hS.2.2.2.1.1.1 ?_
          refine jv_putI (pc' := 68) (c := 12) (k := 19) rfl rfl rfl rfl (fun _ _ _  => rfl) rfl rfl ?_
          refine jv_aload_n (pc' := 69) (k := 0) (x := 103) rfl rfl rfl rfl ?_
          refine jv_bipush (pc' := 71) (n := 9) rfl rfl rfl ?_
          refine jv_call (pc' := 74) rfl (ml_steps_y (I := jm_u I 103 19 (iI ((it : Nat) : Int))) (M := M) (s := s) (nm := 9) hX hM hV o1) (fun vq6 gq6 q6 => ?_)
          obtain ⟨Iq6, Mq6, rfl, rfl, rq6, tq6, Dq6, uq6⟩ := q6
          have Xq6 := MX_fr (I := jm_u I 103 19 (iI ((it : Nat) : Int))) hX (fr_w rq6 wM_1)
          have Kq6 : SK Iq6 Mq6 ((((it, true, lf) :: r) : DK)) := SK_fr (I := jm_u I 103 19 (iI ((it : Nat) : Int))) (M := M) (SK_c (I := I) (M := M) hS.2.2.2.1 (fun _ _ => ⟨rfl, rfl, rfl⟩)) rq6 tq6
          show jx L xs _ 145 74 _ [.int (iI 1)] _ _
          refine jv_if_eq (t := 111) (pc' := 77) (a := 1) rfl rfl rfl (by omega) (fun hz_7 => ?_) (fun hz_7 => ?_)
          · skip
            exact absurd hz_7 (by decide)
          · skip
            refine jv_aload_n (pc' := 78) (k := 0) (x := 103) rfl rfl rfl rfl ?_
            refine jv_getR (pc' := 81) (c := 12) (k := 39) (v := 128) rfl rfl rfl (fun _ _ => rfl) rfl rfl (jR_103_39 _) ?_
            refine jv_iload_n (pc' := 82) (k := 1) (x := (iI ((r.length : Nat) : Int))) rfl rfl rfl rfl ?_
            refine jv_aload_n (pc' := 83) (k := 0) (x := 103) rfl rfl rfl rfl ?_
            refine jv_getR (pc' := 86) (c := 12) (k := 39) (v := 128) rfl rfl rfl (fun _ _ => rfl) rfl rfl (jR_103_39 _) ?_
            refine jv_iload_n (pc' := 87) (k := 1) (x := (iI ((r.length : Nat) : Int))) rfl rfl rfl rfl ?_
            refine jv_laload (pc' := 88) (n := 4) (e := ((r.length : Nat) : Int)) (v := (lI lf)) rfl rfl rfl rfl rfl (by omega) (Kq6.1.2.2 rfl) ?_
            refine jv_long (pc' := 89) (y := lI 0) rfl (by decide) ?_
            refine jv_lc_ge (t := 102) (pc' := 93) (a := lf) (b := 0) rfl rfl rfl rfl rfl (by omega) (fun hz_8 => ?_) (fun hz_8 => ?_)
            · skip
              refine jv_aload_n (pc' := 103) (k := 0) (x := 103) rfl rfl rfl rfl ?_
              refine jv_getR (pc' := 106) (c := 12) (k := 39) (v := 128) rfl rfl rfl (fun _ _ => rfl) rfl rfl (jR_103_39 _) ?_
              refine jv_iload_n (pc' := 107) (k := 1) (x := (iI ((r.length : Nat) : Int))) rfl rfl rfl rfl ?_
              refine jv_laload (pc' := 108) (n := 4) (e := ((r.length : Nat) : Int)) (v := (lI lf)) rfl rfl rfl rfl rfl (by omega) (Kq6.1.2.2 rfl) ?_
              refine jv_long (pc' := 109) (y := lI 1) rfl (by decide) ?_
              refine jv_lsub (pc' := 110) (a := lf) (b := 1) rfl rfl ?_
              refine jv_lastore (pc' := 111) (n := 4) (e := ((r.length : Nat) : Int)) (v := (lI (lf - 1))) rfl rfl rfl rfl rfl (by omega) ?_
              refine jv_retV rfl rfl ⟨_, _, rfl, ?_⟩
              first
              | (exfalso; omega)
              | (have el : (if lf < 0 then lf else lf - 1) = lf - 1 := by split <;> omega
                 rw [el]
                 exact ⟨_, _, rfl, rfl, (fr_t (fr_u (by simp [wM]) (fr_r _)) (fr_w rq6 wM_1)), (fr_u (by simp [wN]) (fr_t (fr_r _) (fr_w tq6 wN_1))), ((uq6 103 19 (by simp)).trans rfl), ((uq6 103 33 (by simp)).trans hS.2.1), ((uq6 103 37 (by simp)).trans hS.2.2.1), SK_top Kq6 rfl rfl, Dq6⟩)
            · skip
              refine jv_aload_n (pc' := 94) (k := 0) (x := 103) rfl rfl rfl rfl ?_
              refine jv_getR (pc' := 97) (c := 12) (k := 39) (v := 128) rfl rfl rfl (fun _ _ => rfl) rfl rfl (jR_103_39 _) ?_
              refine jv_iload_n (pc' := 98) (k := 1) (x := (iI ((r.length : Nat) : Int))) rfl rfl rfl rfl ?_
              refine jv_laload (pc' := 99) (n := 4) (e := ((r.length : Nat) : Int)) (v := (lI lf)) rfl rfl rfl rfl rfl (by omega) (Kq6.1.2.2 rfl) ?_
              refine jx_step (pc' := 110) rfl ?_
              refine jv_lastore (pc' := 111) (n := 4) (e := ((r.length : Nat) : Int)) (v := (lI lf)) rfl rfl rfl rfl rfl (by omega) ?_
              refine jv_retV rfl rfl ⟨_, _, rfl, ?_⟩
              first
              | (exfalso; omega)
              | (have el : (if lf < 0 then lf else lf - 1) = lf := by split <;> omega
                 rw [el]
                 exact ⟨_, _, rfl, rfl, (fr_t (fr_u (by simp [wM]) (fr_r _)) (fr_w rq6 wM_1)), (fr_u (by simp [wN]) (fr_t (fr_r _) (fr_w tq6 wN_1))), ((uq6 103 19 (by simp)).trans rfl), ((uq6 103 33 (by simp)).trans hS.2.1), ((uq6 103 37 (by simp)).trans hS.2.2.1), SK_top Kq6 rfl rfl, Dq6⟩)
    · skip
      refine jv_aload_n (pc' := 28) (k := 0) (x := 103) rfl rfl rfl rfl ?_
      refine jv_call (pc' := 31) rfl (ml_leftBits (I := I) (M := M) (s := s) hX hM hV) (fun vq9 gq9 q9 => ?_)
      obtain ⟨rfl, rfl⟩ := q9
      show jx L xs _ 145 31 _ [.int (iI (8 * (sz : Int) - s 0 0))] _ _
      refine jv_if_le (t := 52) (pc' := 34) (a := (8 * (sz : Int) - s 0 0)) rfl rfl rfl (by omega) (fun hz_10 => ?_) (fun hz_10 => ?_)
      · skip
        refine jv_iconst (pc' := 53) (n := 0) rfl rfl ?_
        refine jv_istore_n (pc' := 54) (k := 2) (x := (iI 0)) rfl rfl rfl rfl (Or.inr rfl) ?_
        refine jv_iload_n (pc' := 55) (k := 2) (x := (iI 0)) rfl rfl rfl rfl ?_
        refine jv_if_eq (t := 112) (pc' := 58) (a := 0) rfl rfl rfl (by omega) (fun hz_11 => ?_) (fun hz_11 => ?_)
        · skip
          exfalso; omega
        · skip
          exact absurd hz_11 (by decide)
      · skip
        refine jx_step (pc' := 48) rfl ?_
        refine jv_iconst (pc' := 49) (n := 1) rfl rfl ?_
        refine jx_step (pc' := 53) rfl ?_
        refine jv_istore_n (pc' := 54) (k := 2) (x := (iI 1)) rfl rfl rfl rfl (Or.inr rfl) ?_
        refine jv_iload_n (pc' := 55) (k := 2) (x := (iI 1)) rfl rfl rfl rfl ?_
        refine jv_if_eq (t := 112) (pc' := 58) (a := 1) rfl rfl rfl (by omega) (fun hz_12 => ?_) (fun hz_12 => ?_)
        · skip
          exact absurd hz_12 (by decide)
        · skip
          refine jv_aload_n (pc' := 59) (k := 0) (x := 103) rfl rfl rfl rfl ?_
          refine jv_aload_n (pc' := 60) (k := 0) (x := 103) rfl rfl rfl rfl ?_
          refine jv_getR (pc' := 63) (c := 12) (k := 38) (v := 127) rfl rfl rfl (fun _ _ => rfl) rfl rfl (jR_103_38 _) ?_
          refine jv_iload_n (pc' := 64) (k := 1) (x := (iI ((r.length : Nat) : Int))) rfl rfl rfl rfl ?_
          refine jv_iaload (pc' := 65) (n := 4) (e := ((r.length : Nat) : Int)) (v := (iI ((it : Nat) : Int))) rfl rfl (by decide) rfl rfl rfl (by omega) hS.2.2.2.1.1.1 ?_
          refine jv_putI (pc' := 68) (c := 12) (k := 19) rfl rfl rfl rfl (fun _ _ _  => rfl) rfl rfl ?_
          refine jv_aload_n (pc' := 69) (k := 0) (x := 103) rfl rfl rfl rfl ?_
          refine jv_bipush (pc' := 71) (n := 9) rfl rfl rfl ?_
          refine jv_call (pc' := 74) rfl (ml_steps_y (I := jm_u I 103 19 (iI ((it : Nat) : Int))) (M := M) (s := s) (nm := 9) hX hM hV o1) (fun vq13 gq13 q13 => ?_)
          obtain ⟨Iq13, Mq13, rfl, rfl, rq13, tq13, Dq13, uq13⟩ := q13
          have Xq13 := MX_fr (I := jm_u I 103 19 (iI ((it : Nat) : Int))) hX (fr_w rq13 wM_1)
          have Kq13 : SK Iq13 Mq13 ((((it, true, lf) :: r) : DK)) := SK_fr (I := jm_u I 103 19 (iI ((it : Nat) : Int))) (M := M) (SK_c (I := I) (M := M) hS.2.2.2.1 (fun _ _ => ⟨rfl, rfl, rfl⟩)) rq13 tq13
          show jx L xs _ 145 74 _ [.int (iI 1)] _ _
          refine jv_if_eq (t := 111) (pc' := 77) (a := 1) rfl rfl rfl (by omega) (fun hz_14 => ?_) (fun hz_14 => ?_)
          · skip
            exact absurd hz_14 (by decide)
          · skip
            refine jv_aload_n (pc' := 78) (k := 0) (x := 103) rfl rfl rfl rfl ?_
            refine jv_getR (pc' := 81) (c := 12) (k := 39) (v := 128) rfl rfl rfl (fun _ _ => rfl) rfl rfl (jR_103_39 _) ?_
            refine jv_iload_n (pc' := 82) (k := 1) (x := (iI ((r.length : Nat) : Int))) rfl rfl rfl rfl ?_
            refine jv_aload_n (pc' := 83) (k := 0) (x := 103) rfl rfl rfl rfl ?_
            refine jv_getR (pc' := 86) (c := 12) (k := 39) (v := 128) rfl rfl rfl (fun _ _ => rfl) rfl rfl (jR_103_39 _) ?_
            refine jv_iload_n (pc' := 87) (k := 1) (x := (iI ((r.length : Nat) : Int))) rfl rfl rfl rfl ?_
            refine jv_laload (pc' := 88) (n := 4) (e := ((r.length : Nat) : Int)) (v := (lI lf)) rfl rfl rfl rfl rfl (by omega) (Kq13.1.2.2 rfl) ?_
            refine jv_long (pc' := 89) (y := lI 0) rfl (by decide) ?_
            refine jv_lc_ge (t := 102) (pc' := 93) (a := lf) (b := 0) rfl rfl rfl rfl rfl (by omega) (fun hz_15 => ?_) (fun hz_15 => ?_)
            · skip
              refine jv_aload_n (pc' := 103) (k := 0) (x := 103) rfl rfl rfl rfl ?_
              refine jv_getR (pc' := 106) (c := 12) (k := 39) (v := 128) rfl rfl rfl (fun _ _ => rfl) rfl rfl (jR_103_39 _) ?_
              refine jv_iload_n (pc' := 107) (k := 1) (x := (iI ((r.length : Nat) : Int))) rfl rfl rfl rfl ?_
              refine jv_laload (pc' := 108) (n := 4) (e := ((r.length : Nat) : Int)) (v := (lI lf)) rfl rfl rfl rfl rfl (by omega) (Kq13.1.2.2 rfl) ?_
              refine jv_long (pc' := 109) (y := lI 1) rfl (by decide) ?_
              refine jv_lsub (pc' := 110) (a := lf) (b := 1) rfl rfl ?_
              refine jv_lastore (pc' := 111) (n := 4) (e := ((r.length : Nat) : Int)) (v := (lI (lf - 1))) rfl rfl rfl rfl rfl (by omega) ?_
              refine jv_retV rfl rfl ⟨_, _, rfl, ?_⟩
              first
              | (exfalso; omega)
              | (have el : (if lf < 0 then lf else lf - 1) = lf - 1 := by split <;> omega
                 rw [el]
                 exact ⟨_, _, rfl, rfl, (fr_t (fr_u (by simp [wM]) (fr_r _)) (fr_w rq13 wM_1)), (fr_u (by simp [wN]) (fr_t (fr_r _) (fr_w tq13 wN_1))), ((uq13 103 19 (by simp)).trans rfl), ((uq13 103 33 (by simp)).trans hS.2.1), ((uq13 103 37 (by simp)).trans hS.2.2.1), SK_top Kq13 rfl rfl, Dq13⟩)
            · skip
              refine jv_aload_n (pc' := 94) (k := 0) (x := 103) rfl rfl rfl rfl ?_
              refine jv_getR (pc' := 97) (c := 12) (k := 39) (v := 128) rfl rfl rfl (fun _ _ => rfl) rfl rfl (jR_103_39 _) ?_
              refine jv_iload_n (pc' := 98) (k := 1) (x := (iI ((r.length : Nat) : Int))) rfl rfl rfl rfl ?_
              refine jv_laload (pc' := 99) (n := 4) (e := ((r.length : Nat) : Int)) (v := (lI lf)) rfl rfl rfl rfl rfl (by omega) (Kq13.1.2.2 rfl) ?_
              refine jx_step (pc' := 110) rfl ?_
              refine jv_lastore (pc' := 111) (n := 4) (e := ((r.length : Nat) : Int)) (v := (lI lf)) rfl rfl rfl rfl rfl (by omega) ?_
              refine jv_retV rfl rfl ⟨_, _, rfl, ?_⟩
              first
              | (exfalso; omega)
              | (have el : (if lf < 0 then lf else lf - 1) = lf := by split <;> omega
                 rw [el]
                 exact ⟨_, _, rfl, rfl, (fr_t (fr_u (by simp [wM]) (fr_r _)) (fr_w rq13 wM_1)), (fr_u (by simp [wN]) (fr_t (fr_r _) (fr_w tq13 wN_1))), ((uq13 103 19 (by simp)).trans rfl), ((uq13 103 33 (by simp)).trans hS.2.1), ((uq13 103 37 (by simp)).trans hS.2.2.1), SK_top Kq13 rfl rfl, Dq13⟩)
theorem ml_repeat_o (hX : MX I fi B sz l bg lim c n) (hS : MS I M a ((it, true, lf) :: r) s) (hB : DB lim sz a ((it, true, lf) :: r) s) (hA : (lf < 0 ∧ 0 < 8 * (sz : Int) - s 0 0) ∨ 0 < lf) (o1 : ¬ s 0 1 < lim) : jc L xs (d + 2) 145 [.ref 103] (jx_G j I M p) (fun v g1 => ∃ I' M', g1 = jx_G j I' M' p ∧ v = none ∧ fr wM I I' ∧ fr wN M M' ∧ DM I' M' (dE s l 9 0 0 4) ∧ I' 103 33 = iI 1) := by
  unfold jc
  have hV := hB.2.2.1
  have hM := hS.2.2.2.2
  have hkl := hB.2.1
  have hs := hX.2.1.2.2.1
  have hfi := hX.2.1.1
  have hlim := hX.2.2.2.2.2.2.2.1
  have hbg := hX.2.2.2.2.2.2.2.2.1
  have hl := hX.2.2.2.2.2.2.2.2.2
  have hv0 := hV.1
  have hv1 := hV.2.1
  have hv2 := hV.2.2.1
  have hn80 := hX.1.2.1
  have hlf := hB.2.2.2 _ (List.mem_cons_self)
  have hkl2 : r.length + 1 ≤ 3 := hkl
  have hlf2 : -1 ≤ lf ∧ lf < 4294967296 := hlf.2
  have hit2 : it ≤ 80 := hlf.1
  refine jv_aload_n (pc' := 1) (k := 0) (x := 103) rfl rfl rfl rfl ?_
  refine jv_getI (pc' := 4) (c := 12) (k := 37) (v := (iI (((((it, true, lf) :: r) : DK).length : Nat) : Int))) rfl rfl rfl (fun _ _ => rfl) rfl rfl hS.2.2.1 ?_
  refine jv_iconst (pc' := 5) (n := 1) rfl rfl ?_
  refine jv_isub (pc' := 6) (a := (((((it, true, lf) :: r) : DK).length : Nat) : Int)) (b := 1) rfl rfl ?_
  rw [show (((((it, true, lf) :: r) : DK).length : Nat) : Int) - 1 = ((r.length : Nat) : Int) by simp only [List.length_cons]; omega]
  refine jv_istore_n (pc' := 7) (k := 1) (x := (iI ((r.length : Nat) : Int))) rfl rfl rfl rfl (Or.inr rfl) ?_
  refine jv_aload_n (pc' := 8) (k := 0) (x := 103) rfl rfl rfl rfl ?_
  refine jv_getR (pc' := 11) (c := 12) (k := 40) (v := 129) rfl rfl rfl (fun _ _ => rfl) rfl rfl (jR_103_40 _) ?_
  refine jv_iload_n (pc' := 12) (k := 1) (x := (iI ((r.length : Nat) : Int))) rfl rfl rfl rfl ?_
  refine jv_baload (pc' := 13) (n := 4) (e := ((r.length : Nat) : Int)) (v := (iI 1)) rfl rfl rfl rfl rfl (by omega) hS.2.2.2.1.1.2.1 ?_
  refine jv_if_eq (t := 52) (pc' := 16) (a := 1) rfl rfl rfl (by omega) (fun hz_1 => ?_) (fun hz_1 => ?_)
  · skip
    exact absurd hz_1 (by decide)
  · skip
    refine jv_aload_n (pc' := 17) (k := 0) (x := 103) rfl rfl rfl rfl ?_
    refine jv_getR (pc' := 20) (c := 12) (k := 39) (v := 128) rfl rfl rfl (fun _ _ => rfl) rfl rfl (jR_103_39 _) ?_
    refine jv_iload_n (pc' := 21) (k := 1) (x := (iI ((r.length : Nat) : Int))) rfl rfl rfl rfl ?_
    refine jv_laload (pc' := 22) (n := 4) (e := ((r.length : Nat) : Int)) (v := (lI lf)) rfl rfl rfl rfl rfl (by omega) (hS.2.2.2.1.1.2.2 rfl) ?_
    refine jv_long (pc' := 23) (y := lI 0) rfl (by decide) ?_
    refine jv_lc_ge (t := 37) (pc' := 27) (a := lf) (b := 0) rfl rfl rfl rfl rfl (by omega) (fun hz_2 => ?_) (fun hz_2 => ?_)
    · skip
      refine jv_aload_n (pc' := 38) (k := 0) (x := 103) rfl rfl rfl rfl ?_
      refine jv_getR (pc' := 41) (c := 12) (k := 39) (v := 128) rfl rfl rfl (fun _ _ => rfl) rfl rfl (jR_103_39 _) ?_
      refine jv_iload_n (pc' := 42) (k := 1) (x := (iI ((r.length : Nat) : Int))) rfl rfl rfl rfl ?_
      refine jv_laload (pc' := 43) (n := 4) (e := ((r.length : Nat) : Int)) (v := (lI lf)) rfl rfl rfl rfl rfl (by omega) (hS.2.2.2.1.1.2.2 rfl) ?_
      refine jv_long (pc' := 44) (y := lI 0) rfl (by decide) ?_
      refine jv_lc_le (t := 52) (pc' := 48) (a := lf) (b := 0) rfl rfl rfl rfl rfl (by omega) (fun hz_3 => ?_) (fun hz_3 => ?_)
      · skip
        refine jv_iconst (pc' := 53) (n := 0) rfl rfl ?_
        refine jv_istore_n (pc' := 54) (k := 2) (x := (iI 0)) rfl rfl rfl rfl (Or.inr rfl) ?_
        refine jv_iload_n (pc' := 55) (k := 2) (x := (iI 0)) rfl rfl rfl rfl ?_
        refine jv_if_eq (t := 112) (pc' := 58) (a := 0) rfl rfl rfl (by omega) (fun hz_4 => ?_) (fun hz_4 => ?_)
        · skip
          exfalso; omega
        · skip
          exact absurd hz_4 (by decide)
      · skip
        refine jv_iconst (pc' := 49) (n := 1) rfl rfl ?_
        refine jx_step (pc' := 53) rfl ?_
        refine jv_istore_n (pc' := 54) (k := 2) (x := (iI 1)) rfl rfl rfl rfl (Or.inr rfl) ?_
        refine jv_iload_n (pc' := 55) (k := 2) (x := (iI 1)) rfl rfl rfl rfl ?_
        refine jv_if_eq (t := 112) (pc' := 58) (a := 1) rfl rfl rfl (by omega) (fun hz_5 => ?_) (fun hz_5 => ?_)
        · skip
          exact absurd hz_5 (by decide)
        · skip
          refine jv_aload_n (pc' := 59) (k := 0) (x := 103) rfl rfl rfl rfl ?_
          refine jv_aload_n (pc' := 60) (k := 0) (x := 103) rfl rfl rfl rfl ?_
          refine jv_getR (pc' := 63) (c := 12) (k := 38) (v := 127) rfl rfl rfl (fun _ _ => rfl) rfl rfl (jR_103_38 _) ?_
          refine jv_iload_n (pc' := 64) (k := 1) (x := (iI ((r.length : Nat) : Int))) rfl rfl rfl rfl ?_
          refine jv_iaload (pc' := 65) (n := 4) (e := ((r.length : Nat) : Int)) (v := (iI ((it : Nat) : Int))) rfl rfl (by decide) rfl rfl rfl (by omega) hS.2.2.2.1.1.1 ?_
          refine jv_putI (pc' := 68) (c := 12) (k := 19) rfl rfl rfl rfl (fun _ _ _  => rfl) rfl rfl ?_
          refine jv_aload_n (pc' := 69) (k := 0) (x := 103) rfl rfl rfl rfl ?_
          refine jv_bipush (pc' := 71) (n := 9) rfl rfl rfl ?_
          refine jv_call (pc' := 74) rfl (ml_steps_n (I := jm_u I 103 19 (iI ((it : Nat) : Int))) (M := M) (s := s) (nm := 9) hX hM hV o1) (fun vq6 gq6 q6 => ?_)
          obtain ⟨Iq6, Mq6, rfl, rfl, rq6, tq6, Dq6, oq6, uq6⟩ := q6
          have Xq6 := MX_fr (I := jm_u I 103 19 (iI ((it : Nat) : Int))) hX (fr_w rq6 wM_1)
          have Kq6 : SK Iq6 Mq6 ((((it, true, lf) :: r) : DK)) := SK_fr (I := jm_u I 103 19 (iI ((it : Nat) : Int))) (M := M) (SK_c (I := I) (M := M) hS.2.2.2.1 (fun _ _ => ⟨rfl, rfl, rfl⟩)) rq6 tq6
          show jx L xs _ 145 74 _ [.int (iI 0)] _ _
          refine jv_if_eq (t := 111) (pc' := 77) (a := 0) rfl rfl rfl (by omega) (fun hz_7 => ?_) (fun hz_7 => ?_)
          · skip
            refine jv_retV rfl rfl ⟨_, _, rfl, ?_⟩
            first
            | (exfalso; omega)
            | exact ⟨_, _, rfl, rfl, (fr_t (fr_u (by simp [wM]) (fr_r _)) (fr_w rq6 wM_1)), (fr_t (fr_r _) (fr_w tq6 wN_1)), Dq6, oq6⟩
          · skip
            exact absurd hz_7 (by decide)
    · skip
      refine jv_aload_n (pc' := 28) (k := 0) (x := 103) rfl rfl rfl rfl ?_
      refine jv_call (pc' := 31) rfl (ml_leftBits (I := I) (M := M) (s := s) hX hM hV) (fun vq8 gq8 q8 => ?_)
      obtain ⟨rfl, rfl⟩ := q8
      show jx L xs _ 145 31 _ [.int (iI (8 * (sz : Int) - s 0 0))] _ _
      refine jv_if_le (t := 52) (pc' := 34) (a := (8 * (sz : Int) - s 0 0)) rfl rfl rfl (by omega) (fun hz_9 => ?_) (fun hz_9 => ?_)
      · skip
        refine jv_iconst (pc' := 53) (n := 0) rfl rfl ?_
        refine jv_istore_n (pc' := 54) (k := 2) (x := (iI 0)) rfl rfl rfl rfl (Or.inr rfl) ?_
        refine jv_iload_n (pc' := 55) (k := 2) (x := (iI 0)) rfl rfl rfl rfl ?_
        refine jv_if_eq (t := 112) (pc' := 58) (a := 0) rfl rfl rfl (by omega) (fun hz_10 => ?_) (fun hz_10 => ?_)
        · skip
          exfalso; omega
        · skip
          exact absurd hz_10 (by decide)
      · skip
        refine jx_step (pc' := 48) rfl ?_
        refine jv_iconst (pc' := 49) (n := 1) rfl rfl ?_
        refine jx_step (pc' := 53) rfl ?_
        refine jv_istore_n (pc' := 54) (k := 2) (x := (iI 1)) rfl rfl rfl rfl (Or.inr rfl) ?_
        refine jv_iload_n (pc' := 55) (k := 2) (x := (iI 1)) rfl rfl rfl rfl ?_
        refine jv_if_eq (t := 112) (pc' := 58) (a := 1) rfl rfl rfl (by omega) (fun hz_11 => ?_) (fun hz_11 => ?_)
        · skip
          exact absurd hz_11 (by decide)
        · skip
          refine jv_aload_n (pc' := 59) (k := 0) (x := 103) rfl rfl rfl rfl ?_
          refine jv_aload_n (pc' := 60) (k := 0) (x := 103) rfl rfl rfl rfl ?_
          refine jv_getR (pc' := 63) (c := 12) (k := 38) (v := 127) rfl rfl rfl (fun _ _ => rfl) rfl rfl (jR_103_38 _) ?_
          refine jv_iload_n (pc' := 64) (k := 1) (x := (iI ((r.length : Nat) : Int))) rfl rfl rfl rfl ?_
          refine jv_iaload (pc' := 65) (n := 4) (e := ((r.length : Nat) : Int)) (v := (iI ((it : Nat) : Int))) rfl rfl (by decide) rfl rfl rfl (by omega) hS.2.2.2.1.1.1 ?_
          refine jv_putI (pc' := 68) (c := 12) (k := 19) rfl rfl rfl rfl (fun _ _ _  => rfl) rfl rfl ?_
          refine jv_aload_n (pc' := 69) (k := 0) (x := 103) rfl rfl rfl rfl ?_
          refine jv_bipush (pc' := 71) (n := 9) rfl rfl rfl ?_
          refine jv_call (pc' := 74) rfl (ml_steps_n (I := jm_u I 103 19 (iI ((it : Nat) : Int))) (M := M) (s := s) (nm := 9) hX hM hV o1) (fun vq12 gq12 q12 => ?_)
          obtain ⟨Iq12, Mq12, rfl, rfl, rq12, tq12, Dq12, oq12, uq12⟩ := q12
          have Xq12 := MX_fr (I := jm_u I 103 19 (iI ((it : Nat) : Int))) hX (fr_w rq12 wM_1)
          have Kq12 : SK Iq12 Mq12 ((((it, true, lf) :: r) : DK)) := SK_fr (I := jm_u I 103 19 (iI ((it : Nat) : Int))) (M := M) (SK_c (I := I) (M := M) hS.2.2.2.1 (fun _ _ => ⟨rfl, rfl, rfl⟩)) rq12 tq12
          show jx L xs _ 145 74 _ [.int (iI 0)] _ _
          refine jv_if_eq (t := 111) (pc' := 77) (a := 0) rfl rfl rfl (by omega) (fun hz_13 => ?_) (fun hz_13 => ?_)
          · skip
            refine jv_retV rfl rfl ⟨_, _, rfl, ?_⟩
            first
            | (exfalso; omega)
            | exact ⟨_, _, rfl, rfl, (fr_t (fr_u (by simp [wM]) (fr_r _)) (fr_w rq12 wM_1)), (fr_t (fr_r _) (fr_w tq12 wN_1)), Dq12, oq12⟩
          · skip
            exact absurd hz_13 (by decide)
theorem ml_repeat_e (hX : MX I fi B sz l bg lim c n) (hS : MS I M a ((it, true, lf) :: r) s) (hB : DB lim sz a ((it, true, lf) :: r) s) (hA : ¬ ((lf < 0 ∧ 0 < 8 * (sz : Int) - s 0 0) ∨ 0 < lf)) {e m : Nat} (hLQ : LQ c m 1 it e) : jc L xs (d + 2) 145 [.ref 103] (jx_G j I M p) (fun v g1 => ∃ I' M', g1 = jx_G j I' M' p ∧ v = none ∧ fr wM I I' ∧ fr wN M M' ∧ MS I' M' e r s) := by
  unfold jc
  have hV := hB.2.2.1
  have hM := hS.2.2.2.2
  have hkl := hB.2.1
  have hs := hX.2.1.2.2.1
  have hfi := hX.2.1.1
  have hlim := hX.2.2.2.2.2.2.2.1
  have hbg := hX.2.2.2.2.2.2.2.2.1
  have hl := hX.2.2.2.2.2.2.2.2.2
  have hv0 := hV.1
  have hv1 := hV.2.1
  have hv2 := hV.2.2.1
  have hn80 := hX.1.2.1
  have hlf := hB.2.2.2 _ (List.mem_cons_self)
  have hkl2 : r.length + 1 ≤ 3 := hkl
  have hlf2 : -1 ≤ lf ∧ lf < 4294967296 := hlf.2
  have hit2 : it ≤ 80 := hlf.1
  refine jv_aload_n (pc' := 1) (k := 0) (x := 103) rfl rfl rfl rfl ?_
  refine jv_getI (pc' := 4) (c := 12) (k := 37) (v := (iI (((((it, true, lf) :: r) : DK).length : Nat) : Int))) rfl rfl rfl (fun _ _ => rfl) rfl rfl hS.2.2.1 ?_
  refine jv_iconst (pc' := 5) (n := 1) rfl rfl ?_
  refine jv_isub (pc' := 6) (a := (((((it, true, lf) :: r) : DK).length : Nat) : Int)) (b := 1) rfl rfl ?_
  rw [show (((((it, true, lf) :: r) : DK).length : Nat) : Int) - 1 = ((r.length : Nat) : Int) by simp only [List.length_cons]; omega]
  refine jv_istore_n (pc' := 7) (k := 1) (x := (iI ((r.length : Nat) : Int))) rfl rfl rfl rfl (Or.inr rfl) ?_
  refine jv_aload_n (pc' := 8) (k := 0) (x := 103) rfl rfl rfl rfl ?_
  refine jv_getR (pc' := 11) (c := 12) (k := 40) (v := 129) rfl rfl rfl (fun _ _ => rfl) rfl rfl (jR_103_40 _) ?_
  refine jv_iload_n (pc' := 12) (k := 1) (x := (iI ((r.length : Nat) : Int))) rfl rfl rfl rfl ?_
  refine jv_baload (pc' := 13) (n := 4) (e := ((r.length : Nat) : Int)) (v := (iI 1)) rfl rfl rfl rfl rfl (by omega) hS.2.2.2.1.1.2.1 ?_
  refine jv_if_eq (t := 52) (pc' := 16) (a := 1) rfl rfl rfl (by omega) (fun hz_1 => ?_) (fun hz_1 => ?_)
  · skip
    exact absurd hz_1 (by decide)
  · skip
    refine jv_aload_n (pc' := 17) (k := 0) (x := 103) rfl rfl rfl rfl ?_
    refine jv_getR (pc' := 20) (c := 12) (k := 39) (v := 128) rfl rfl rfl (fun _ _ => rfl) rfl rfl (jR_103_39 _) ?_
    refine jv_iload_n (pc' := 21) (k := 1) (x := (iI ((r.length : Nat) : Int))) rfl rfl rfl rfl ?_
    refine jv_laload (pc' := 22) (n := 4) (e := ((r.length : Nat) : Int)) (v := (lI lf)) rfl rfl rfl rfl rfl (by omega) (hS.2.2.2.1.1.2.2 rfl) ?_
    refine jv_long (pc' := 23) (y := lI 0) rfl (by decide) ?_
    refine jv_lc_ge (t := 37) (pc' := 27) (a := lf) (b := 0) rfl rfl rfl rfl rfl (by omega) (fun hz_2 => ?_) (fun hz_2 => ?_)
    · skip
      refine jv_aload_n (pc' := 38) (k := 0) (x := 103) rfl rfl rfl rfl ?_
      refine jv_getR (pc' := 41) (c := 12) (k := 39) (v := 128) rfl rfl rfl (fun _ _ => rfl) rfl rfl (jR_103_39 _) ?_
      refine jv_iload_n (pc' := 42) (k := 1) (x := (iI ((r.length : Nat) : Int))) rfl rfl rfl rfl ?_
      refine jv_laload (pc' := 43) (n := 4) (e := ((r.length : Nat) : Int)) (v := (lI lf)) rfl rfl rfl rfl rfl (by omega) (hS.2.2.2.1.1.2.2 rfl) ?_
      refine jv_long (pc' := 44) (y := lI 0) rfl (by decide) ?_
      refine jv_lc_le (t := 52) (pc' := 48) (a := lf) (b := 0) rfl rfl rfl rfl rfl (by omega) (fun hz_3 => ?_) (fun hz_3 => ?_)
      · skip
        refine jv_iconst (pc' := 53) (n := 0) rfl rfl ?_
        refine jv_istore_n (pc' := 54) (k := 2) (x := (iI 0)) rfl rfl rfl rfl (Or.inr rfl) ?_
        refine jv_iload_n (pc' := 55) (k := 2) (x := (iI 0)) rfl rfl rfl rfl ?_
        refine jv_if_eq (t := 112) (pc' := 58) (a := 0) rfl rfl rfl (by omega) (fun hz_4 => ?_) (fun hz_4 => ?_)
        · skip
          refine jv_aload_n (pc' := 113) (k := 0) (x := 103) rfl rfl rfl rfl ?_
          refine jv_aload_n (pc' := 114) (k := 0) (x := 103) rfl rfl rfl rfl ?_
          refine jv_getR (pc' := 117) (c := 12) (k := 38) (v := 127) rfl rfl rfl (fun _ _ => rfl) rfl rfl (jR_103_38 _) ?_
          refine jv_iload_n (pc' := 118) (k := 1) (x := (iI ((r.length : Nat) : Int))) rfl rfl rfl rfl ?_
          refine jv_iaload (pc' := 119) (n := 4) (e := ((r.length : Nat) : Int)) (v := (iI ((it : Nat) : Int))) rfl rfl (by decide) rfl rfl rfl (by omega) hS.2.2.2.1.1.1 ?_
          refine jv_putI (pc' := 122) (c := 12) (k := 19) rfl rfl rfl rfl (fun _ _ _  => rfl) rfl rfl ?_
          refine jv_aload_n (pc' := 123) (k := 0) (x := 103) rfl rfl rfl rfl ?_
          refine jv_call (pc' := 126) rfl (ml_leap (I := jm_u I 103 19 (iI ((it : Nat) : Int))) (a := it) hX.1 rfl hLQ) (fun vq5 gq5 q5 => ?_)
          obtain ⟨Iq5, rfl, rfl, uq5, aq5⟩ := q5
          have rq5 : fr wM1 (jm_u I 103 19 (iI ((it : Nat) : Int))) Iq5 := fr_w uq5 (fun l k h => by unfold wM1; omega)
          have Xq5 := MX_fr (I := jm_u I 103 19 (iI ((it : Nat) : Int))) hX (fr_w rq5 wM_1)
          have Kq5 : SK Iq5 M ((((it, true, lf) :: r) : DK)) := SK_fr (I := jm_u I 103 19 (iI ((it : Nat) : Int))) (M := M) (SK_c (I := I) (M := M) hS.2.2.2.1 (fun _ _ => ⟨rfl, rfl, rfl⟩)) rq5 (fr_r _)
          have Dq5 : DM Iq5 M s := DM_at (I := jm_u I 103 19 (iI ((it : Nat) : Int))) (M := M) hM uq5
          show jx L xs _ 145 126 _ [] _ _
          refine jv_aload_n (pc' := 127) (k := 0) (x := 103) rfl rfl rfl rfl ?_
          refine jx_step (pc' := 128) rfl ?_
          refine jv_getI (pc' := 131) (c := 12) (k := 37) (v := (iI (((((it, true, lf) :: r) : DK).length : Nat) : Int))) rfl rfl rfl (fun _ _ => rfl) rfl rfl ((uq5 103 37 (by omega)).trans hS.2.2.1) ?_
          refine jv_iconst (pc' := 132) (n := 1) rfl rfl ?_
          refine jv_isub (pc' := 133) (a := (((((it, true, lf) :: r) : DK).length : Nat) : Int)) (b := 1) rfl rfl ?_
          rw [show (((((it, true, lf) :: r) : DK).length : Nat) : Int) - 1 = ((r.length : Nat) : Int) by simp only [List.length_cons]; omega]
          refine jv_putI (pc' := 136) (c := 12) (k := 37) rfl rfl rfl rfl (fun _ _ _  => rfl) rfl rfl ?_
          refine jv_retV rfl rfl ⟨_, _, rfl, ?_⟩
          first
          | (exfalso; omega)
          | exact ⟨_, _, rfl, rfl, (fr_u (by simp [wM]) (fr_t (fr_u (by simp [wM]) (fr_r _)) (fr_w rq5 wM_1))), (fr_r _), aq5, ((uq5 103 33 (by omega)).trans hS.2.1), rfl, (SK_c (I := Iq5) (M := M) Kq5.2 (fun _ _ => ⟨rfl, rfl, rfl⟩)), Dq5⟩
        · skip
          exact absurd hz_4 (by decide)
      · skip
        refine jv_iconst (pc' := 49) (n := 1) rfl rfl ?_
        refine jx_step (pc' := 53) rfl ?_
        refine jv_istore_n (pc' := 54) (k := 2) (x := (iI 1)) rfl rfl rfl rfl (Or.inr rfl) ?_
        refine jv_iload_n (pc' := 55) (k := 2) (x := (iI 1)) rfl rfl rfl rfl ?_
        refine jv_if_eq (t := 112) (pc' := 58) (a := 1) rfl rfl rfl (by omega) (fun hz_6 => ?_) (fun hz_6 => ?_)
        · skip
          exact absurd hz_6 (by decide)
        · skip
          exfalso; omega
    · skip
      refine jv_aload_n (pc' := 28) (k := 0) (x := 103) rfl rfl rfl rfl ?_
      refine jv_call (pc' := 31) rfl (ml_leftBits (I := I) (M := M) (s := s) hX hM hV) (fun vq7 gq7 q7 => ?_)
      obtain ⟨rfl, rfl⟩ := q7
      show jx L xs _ 145 31 _ [.int (iI (8 * (sz : Int) - s 0 0))] _ _
      refine jv_if_le (t := 52) (pc' := 34) (a := (8 * (sz : Int) - s 0 0)) rfl rfl rfl (by omega) (fun hz_8 => ?_) (fun hz_8 => ?_)
      · skip
        refine jv_iconst (pc' := 53) (n := 0) rfl rfl ?_
        refine jv_istore_n (pc' := 54) (k := 2) (x := (iI 0)) rfl rfl rfl rfl (Or.inr rfl) ?_
        refine jv_iload_n (pc' := 55) (k := 2) (x := (iI 0)) rfl rfl rfl rfl ?_
        refine jv_if_eq (t := 112) (pc' := 58) (a := 0) rfl rfl rfl (by omega) (fun hz_9 => ?_) (fun hz_9 => ?_)
        · skip
          refine jv_aload_n (pc' := 113) (k := 0) (x := 103) rfl rfl rfl rfl ?_
          refine jv_aload_n (pc' := 114) (k := 0) (x := 103) rfl rfl rfl rfl ?_
          refine jv_getR (pc' := 117) (c := 12) (k := 38) (v := 127) rfl rfl rfl (fun _ _ => rfl) rfl rfl (jR_103_38 _) ?_
          refine jv_iload_n (pc' := 118) (k := 1) (x := (iI ((r.length : Nat) : Int))) rfl rfl rfl rfl ?_
          refine jv_iaload (pc' := 119) (n := 4) (e := ((r.length : Nat) : Int)) (v := (iI ((it : Nat) : Int))) rfl rfl (by decide) rfl rfl rfl (by omega) hS.2.2.2.1.1.1 ?_
          refine jv_putI (pc' := 122) (c := 12) (k := 19) rfl rfl rfl rfl (fun _ _ _  => rfl) rfl rfl ?_
          refine jv_aload_n (pc' := 123) (k := 0) (x := 103) rfl rfl rfl rfl ?_
          refine jv_call (pc' := 126) rfl (ml_leap (I := jm_u I 103 19 (iI ((it : Nat) : Int))) (a := it) hX.1 rfl hLQ) (fun vq10 gq10 q10 => ?_)
          obtain ⟨Iq10, rfl, rfl, uq10, aq10⟩ := q10
          have rq10 : fr wM1 (jm_u I 103 19 (iI ((it : Nat) : Int))) Iq10 := fr_w uq10 (fun l k h => by unfold wM1; omega)
          have Xq10 := MX_fr (I := jm_u I 103 19 (iI ((it : Nat) : Int))) hX (fr_w rq10 wM_1)
          have Kq10 : SK Iq10 M ((((it, true, lf) :: r) : DK)) := SK_fr (I := jm_u I 103 19 (iI ((it : Nat) : Int))) (M := M) (SK_c (I := I) (M := M) hS.2.2.2.1 (fun _ _ => ⟨rfl, rfl, rfl⟩)) rq10 (fr_r _)
          have Dq10 : DM Iq10 M s := DM_at (I := jm_u I 103 19 (iI ((it : Nat) : Int))) (M := M) hM uq10
          show jx L xs _ 145 126 _ [] _ _
          refine jv_aload_n (pc' := 127) (k := 0) (x := 103) rfl rfl rfl rfl ?_
          refine jx_step (pc' := 128) rfl ?_
          refine jv_getI (pc' := 131) (c := 12) (k := 37) (v := (iI (((((it, true, lf) :: r) : DK).length : Nat) : Int))) rfl rfl rfl (fun _ _ => rfl) rfl rfl ((uq10 103 37 (by omega)).trans hS.2.2.1) ?_
          refine jv_iconst (pc' := 132) (n := 1) rfl rfl ?_
          refine jv_isub (pc' := 133) (a := (((((it, true, lf) :: r) : DK).length : Nat) : Int)) (b := 1) rfl rfl ?_
          rw [show (((((it, true, lf) :: r) : DK).length : Nat) : Int) - 1 = ((r.length : Nat) : Int) by simp only [List.length_cons]; omega]
          refine jv_putI (pc' := 136) (c := 12) (k := 37) rfl rfl rfl rfl (fun _ _ _  => rfl) rfl rfl ?_
          refine jv_retV rfl rfl ⟨_, _, rfl, ?_⟩
          first
          | (exfalso; omega)
          | exact ⟨_, _, rfl, rfl, (fr_u (by simp [wM]) (fr_t (fr_u (by simp [wM]) (fr_r _)) (fr_w rq10 wM_1))), (fr_r _), aq10, ((uq10 103 33 (by omega)).trans hS.2.1), rfl, (SK_c (I := Iq10) (M := M) Kq10.2 (fun _ _ => ⟨rfl, rfl, rfl⟩)), Dq10⟩
        · skip
          exact absurd hz_9 (by decide)
      · skip
        refine jx_step (pc' := 48) rfl ?_
        refine jv_iconst (pc' := 49) (n := 1) rfl rfl ?_
        refine jx_step (pc' := 53) rfl ?_
        refine jv_istore_n (pc' := 54) (k := 2) (x := (iI 1)) rfl rfl rfl rfl (Or.inr rfl) ?_
        refine jv_iload_n (pc' := 55) (k := 2) (x := (iI 1)) rfl rfl rfl rfl ?_
        refine jv_if_eq (t := 112) (pc' := 58) (a := 1) rfl rfl rfl (by omega) (fun hz_11 => ?_) (fun hz_11 => ?_)
        · skip
          exact absurd hz_11 (by decide)
        · skip
          exfalso; omega
theorem ml_repeat_f (hX : MX I fi B sz l bg lim c n) (hS : MS I M a ((it, false, lf) :: r) s) (hB : DB lim sz a ((it, false, lf) :: r) s) {e m : Nat} (hLQ : LQ c m 1 it e) : jc L xs (d + 2) 145 [.ref 103] (jx_G j I M p) (fun v g1 => ∃ I' M', g1 = jx_G j I' M' p ∧ v = none ∧ fr wM I I' ∧ fr wN M M' ∧ MS I' M' e r s) := by
  unfold jc
  have hV := hB.2.2.1
  have hM := hS.2.2.2.2
  have hkl := hB.2.1
  have hs := hX.2.1.2.2.1
  have hfi := hX.2.1.1
  have hlim := hX.2.2.2.2.2.2.2.1
  have hbg := hX.2.2.2.2.2.2.2.2.1
  have hl := hX.2.2.2.2.2.2.2.2.2
  have hv0 := hV.1
  have hv1 := hV.2.1
  have hv2 := hV.2.2.1
  have hn80 := hX.1.2.1
  have hlf := hB.2.2.2 _ (List.mem_cons_self)
  have hkl2 : r.length + 1 ≤ 3 := hkl
  have hlf2 : -1 ≤ lf ∧ lf < 4294967296 := hlf.2
  have hit2 : it ≤ 80 := hlf.1
  refine jv_aload_n (pc' := 1) (k := 0) (x := 103) rfl rfl rfl rfl ?_
  refine jv_getI (pc' := 4) (c := 12) (k := 37) (v := (iI (((((it, false, lf) :: r) : DK).length : Nat) : Int))) rfl rfl rfl (fun _ _ => rfl) rfl rfl hS.2.2.1 ?_
  refine jv_iconst (pc' := 5) (n := 1) rfl rfl ?_
  refine jv_isub (pc' := 6) (a := (((((it, false, lf) :: r) : DK).length : Nat) : Int)) (b := 1) rfl rfl ?_
  rw [show (((((it, false, lf) :: r) : DK).length : Nat) : Int) - 1 = ((r.length : Nat) : Int) by simp only [List.length_cons]; omega]
  refine jv_istore_n (pc' := 7) (k := 1) (x := (iI ((r.length : Nat) : Int))) rfl rfl rfl rfl (Or.inr rfl) ?_
  refine jv_aload_n (pc' := 8) (k := 0) (x := 103) rfl rfl rfl rfl ?_
  refine jv_getR (pc' := 11) (c := 12) (k := 40) (v := 129) rfl rfl rfl (fun _ _ => rfl) rfl rfl (jR_103_40 _) ?_
  refine jv_iload_n (pc' := 12) (k := 1) (x := (iI ((r.length : Nat) : Int))) rfl rfl rfl rfl ?_
  refine jv_baload (pc' := 13) (n := 4) (e := ((r.length : Nat) : Int)) (v := (iI 0)) rfl rfl rfl rfl rfl (by omega) hS.2.2.2.1.1.2.1 ?_
  refine jv_if_eq (t := 52) (pc' := 16) (a := 0) rfl rfl rfl (by omega) (fun hz_1 => ?_) (fun hz_1 => ?_)
  · skip
    refine jv_iconst (pc' := 53) (n := 0) rfl rfl ?_
    refine jv_istore_n (pc' := 54) (k := 2) (x := (iI 0)) rfl rfl rfl rfl (Or.inr rfl) ?_
    refine jv_iload_n (pc' := 55) (k := 2) (x := (iI 0)) rfl rfl rfl rfl ?_
    refine jv_if_eq (t := 112) (pc' := 58) (a := 0) rfl rfl rfl (by omega) (fun hz_2 => ?_) (fun hz_2 => ?_)
    · skip
      refine jv_aload_n (pc' := 113) (k := 0) (x := 103) rfl rfl rfl rfl ?_
      refine jv_aload_n (pc' := 114) (k := 0) (x := 103) rfl rfl rfl rfl ?_
      refine jv_getR (pc' := 117) (c := 12) (k := 38) (v := 127) rfl rfl rfl (fun _ _ => rfl) rfl rfl (jR_103_38 _) ?_
      refine jv_iload_n (pc' := 118) (k := 1) (x := (iI ((r.length : Nat) : Int))) rfl rfl rfl rfl ?_
      refine jv_iaload (pc' := 119) (n := 4) (e := ((r.length : Nat) : Int)) (v := (iI ((it : Nat) : Int))) rfl rfl (by decide) rfl rfl rfl (by omega) hS.2.2.2.1.1.1 ?_
      refine jv_putI (pc' := 122) (c := 12) (k := 19) rfl rfl rfl rfl (fun _ _ _  => rfl) rfl rfl ?_
      refine jv_aload_n (pc' := 123) (k := 0) (x := 103) rfl rfl rfl rfl ?_
      refine jv_call (pc' := 126) rfl (ml_leap (I := jm_u I 103 19 (iI ((it : Nat) : Int))) (a := it) hX.1 rfl hLQ) (fun vq3 gq3 q3 => ?_)
      obtain ⟨Iq3, rfl, rfl, uq3, aq3⟩ := q3
      have rq3 : fr wM1 (jm_u I 103 19 (iI ((it : Nat) : Int))) Iq3 := fr_w uq3 (fun l k h => by unfold wM1; omega)
      have Xq3 := MX_fr (I := jm_u I 103 19 (iI ((it : Nat) : Int))) hX (fr_w rq3 wM_1)
      have Kq3 : SK Iq3 M ((((it, false, lf) :: r) : DK)) := SK_fr (I := jm_u I 103 19 (iI ((it : Nat) : Int))) (M := M) (SK_c (I := I) (M := M) hS.2.2.2.1 (fun _ _ => ⟨rfl, rfl, rfl⟩)) rq3 (fr_r _)
      have Dq3 : DM Iq3 M s := DM_at (I := jm_u I 103 19 (iI ((it : Nat) : Int))) (M := M) hM uq3
      show jx L xs _ 145 126 _ [] _ _
      refine jv_aload_n (pc' := 127) (k := 0) (x := 103) rfl rfl rfl rfl ?_
      refine jx_step (pc' := 128) rfl ?_
      refine jv_getI (pc' := 131) (c := 12) (k := 37) (v := (iI (((((it, false, lf) :: r) : DK).length : Nat) : Int))) rfl rfl rfl (fun _ _ => rfl) rfl rfl ((uq3 103 37 (by omega)).trans hS.2.2.1) ?_
      refine jv_iconst (pc' := 132) (n := 1) rfl rfl ?_
      refine jv_isub (pc' := 133) (a := (((((it, false, lf) :: r) : DK).length : Nat) : Int)) (b := 1) rfl rfl ?_
      rw [show (((((it, false, lf) :: r) : DK).length : Nat) : Int) - 1 = ((r.length : Nat) : Int) by simp only [List.length_cons]; omega]
      refine jv_putI (pc' := 136) (c := 12) (k := 37) rfl rfl rfl rfl (fun _ _ _  => rfl) rfl rfl ?_
      refine jv_retV rfl rfl ⟨_, _, rfl, ?_⟩
      first
      | (exfalso; omega)
      | exact ⟨_, _, rfl, rfl, (fr_u (by simp [wM]) (fr_t (fr_u (by simp [wM]) (fr_r _)) (fr_w rq3 wM_1))), (fr_r _), aq3, ((uq3 103 33 (by omega)).trans hS.2.1), rfl, (SK_c (I := Iq3) (M := M) Kq3.2 (fun _ _ => ⟨rfl, rfl, rfl⟩)), Dq3⟩
    · skip
      exact absurd hz_2 (by decide)
  · skip
    exact absurd hz_1 (by decide)
theorem ml_repeat_t (hX : MX I fi B sz l bg lim c n) (hS : MS I M a k s) (hB : DB lim sz a k s) (h : DT c B lim sz bg l 1 a k s 0 a' k' s') : jc L xs (d + 2) 145 [.ref 103] (jx_G j I M p) (fun v g1 => ∃ I' M', g1 = jx_G j I' M' p ∧ v = none ∧ fr wM I I' ∧ fr wN M M' ∧ MS I' M' a' k' s') := by
  obtain ⟨_, it, gr, lf, r, rfl, h2⟩ := DT1 h
  rcases h2 with ⟨hA, hP, rfl, rfl⟩ | ⟨hA, rfl, rfl, m, hLQ⟩
  · obtain ⟨o1, rfl⟩ := SP_t hP
    obtain ⟨rfl, hA⟩ := hA
    exact ml_repeat_a hX hS hB hA o1
  · cases gr with
    | true => exact ml_repeat_e hX hS hB (fun z => hA ⟨rfl, z⟩) hLQ
    | false => exact ml_repeat_f hX hS hB hLQ
theorem ml_repeat_q (hX : MX I fi B sz l bg lim c n) (hS : MS I M a k s) (hB : DB lim sz a k s) (h : DO c B lim sz bg l 1 a k s s') : jc L xs (d + 2) 145 [.ref 103] (jx_G j I M p) (fun v g1 => ∃ I' M', g1 = jx_G j I' M' p ∧ v = none ∧ fr wM I I' ∧ fr wN M M' ∧ DM I' M' s' ∧ I' 103 33 = iI 1) := by
  obtain ⟨it, gr, lf, r, rfl, hA, hP⟩ := DO1 h
  obtain ⟨o1, rfl⟩ := SP_f hP
  obtain ⟨rfl, hA⟩ := hA
  exact ml_repeat_o hX hS hB hA o1
theorem SK_push {I I' : Nat → Nat → Int32} {M M' : Nat → Nat → Int64} {k : DK} {it : Nat} {gr : Bool} {lf : Int} (h : SK I M k) (h1 : I' 127 k.length = iI (it : Int)) (h2 : I' 129 k.length = iI (if gr then 1 else 0)) (h3 : gr = true → M' 128 k.length = lI lf) (h4 : ∀ i, i < k.length → I' 127 i = I 127 i ∧ I' 129 i = I 129 i ∧ M' 128 i = M 128 i) : SK I' M' ((it, gr, lf) :: k) := ⟨⟨h1, h2, h3⟩, SK_c h h4⟩
set_option maxHeartbeats 4000000 in
theorem ml_runGroup_t (hX : MX I fi B sz l bg lim c n) (hS : MS I M a k s) (hB : DB lim sz a k s) {Y : Nat → Nat → Int} {f b : Nat} (hHD : HD c Y f a b) (hca : c a = 35) (hb80 : b ≤ 80) (hB2 : DB lim sz b ((b, true, if Y 1 f = -1 then -1 else s 1 (Y 1 f).toNat) :: k) s) (h : DT c B lim sz bg l 1 b ((b, true, if Y 1 f = -1 then -1 else s 1 (Y 1 f).toNat) :: k) s 0 a' k' s') : jc L xs (d + 3) 146 [.ref 103] (jx_G j I M p) (fun v g1 => ∃ I' M', g1 = jx_G j I' M' p ∧ v = none ∧ fr wM I I' ∧ fr wN M M' ∧ MS I' M' a' k' s') := by
  unfold jc
  have hV := hB.2.2.1
  have hM := hS.2.2.2.2
  have hkl := hB.2.1
  have hs := hX.2.1.2.2.1
  have hfi := hX.2.1.1
  have hlim := hX.2.2.2.2.2.2.2.1
  have hbg := hX.2.2.2.2.2.2.2.2.1
  have hl := hX.2.2.2.2.2.2.2.2.2
  have hv0 := hV.1
  have hv1 := hV.2.1
  have hv2 := hV.2.2.1
  have hn80 := hX.1.2.1
  have hkl2 : k.length + 1 ≤ 3 := hB2.2.1
  obtain ⟨hcn, hc40, rfl⟩ : CN c Y f (a + 1) ∧ c (a + 2) = 40 ∧ b = a + 3 := by
    rcases hHD with z | z
    · exact ⟨z.2.2.1, z.2.2.2.1, z.2.2.2.2⟩
    · exact absurd z.1 (by omega)
  rcases hcn with ⟨hc42, hst⟩ | ⟨hc42, hcn2, h1⟩
  · skip
    have hlv : (if Y 1 f = -1 then (-1 : Int) else s 1 (Y 1 f).toNat) = -1 := if_pos hst
    refine jv_aload_n (pc' := 1) (k := 0) (x := 103) rfl rfl rfl rfl ?_
    refine jx_step (pc' := 2) rfl ?_
    refine jv_getI (pc' := 5) (c := 12) (k := 19) (v := (iI ((a : Nat) : Int))) rfl rfl rfl (fun _ _ => rfl) rfl rfl hS.1 ?_
    refine jv_iconst (pc' := 6) (n := 1) rfl rfl ?_
    refine jv_iadd (pc' := 7) (a := ((a : Nat) : Int)) (b := 1) rfl rfl ?_
    refine jv_putI (pc' := 10) (c := 12) (k := 19) rfl rfl rfl rfl (fun _ _ _  => rfl) rfl rfl ?_
    refine jv_aload_n (pc' := 11) (k := 0) (x := 103) rfl rfl rfl rfl ?_
    refine jv_call (pc' := 14) rfl (ml_count_s (d := d) (I := jm_u I 103 19 (iI (((a : Nat) : Int) + 1))) (a := a + 1) (F := 255) hX.1 rfl (by omega) hX.2.2.2.2.2.2.1 (by omega) hc42) (fun vq1 gq1 q1 => ?_)
    obtain ⟨rfl, rfl⟩ := q1
    show jx L xs _ 146 14 _ [.int (iI 8)] _ _
    refine jv_istore_n (pc' := 15) (k := 1) (x := (iI 8)) rfl rfl rfl rfl (Or.inr rfl) ?_
    refine jv_aload_n (pc' := 16) (k := 0) (x := 103) rfl rfl rfl rfl ?_
    refine jx_step (pc' := 17) rfl ?_
    refine jv_getI (pc' := 20) (c := 12) (k := 19) (v := (iI ((a + 2 : Nat) : Int))) rfl rfl rfl (fun _ _ => rfl) rfl rfl rfl ?_
    refine jv_iconst (pc' := 21) (n := 1) rfl rfl ?_
    refine jv_iadd (pc' := 22) (a := ((a + 2 : Nat) : Int)) (b := 1) rfl rfl ?_
    refine jv_putI (pc' := 25) (c := 12) (k := 19) rfl rfl rfl rfl (fun _ _ _  => rfl) rfl rfl ?_
    refine jv_aload_n (pc' := 26) (k := 0) (x := 103) rfl rfl rfl rfl ?_
    refine jv_getR (pc' := 29) (c := 12) (k := 38) (v := 127) rfl rfl rfl (fun _ _ => rfl) rfl rfl (jR_103_38 _) ?_
    refine jv_aload_n (pc' := 30) (k := 0) (x := 103) rfl rfl rfl rfl ?_
    refine jv_getI (pc' := 33) (c := 12) (k := 37) (v := (iI ((k.length : Nat) : Int))) rfl rfl rfl (fun _ _ => rfl) rfl rfl hS.2.2.1 ?_
    refine jv_aload_n (pc' := 34) (k := 0) (x := 103) rfl rfl rfl rfl ?_
    refine jv_getI (pc' := 37) (c := 12) (k := 19) (v := (iI ((a + 3 : Nat) : Int))) rfl rfl rfl (fun _ _ => rfl) rfl rfl rfl ?_
    refine jv_iastore (pc' := 38) (n := 4) (e := ((k.length : Nat) : Int)) (v := (iI ((a + 3 : Nat) : Int))) rfl rfl rfl rfl rfl (by omega) ?_
    refine jv_aload_n (pc' := 39) (k := 0) (x := 103) rfl rfl rfl rfl ?_
    refine jv_getR (pc' := 42) (c := 12) (k := 39) (v := 128) rfl rfl rfl (fun _ _ => rfl) rfl rfl (jR_103_39 _) ?_
    refine jv_aload_n (pc' := 43) (k := 0) (x := 103) rfl rfl rfl rfl ?_
    refine jv_getI (pc' := 46) (c := 12) (k := 37) (v := (iI ((k.length : Nat) : Int))) rfl rfl rfl (fun _ _ => rfl) rfl rfl hS.2.2.1 ?_
    refine jv_iload_n (pc' := 47) (k := 1) (x := (iI 8)) rfl rfl rfl rfl ?_
    refine jv_bipush (pc' := 49) (n := 8) rfl rfl rfl ?_
    refine jv_ic_ne (t := 58) (pc' := 52) (a := 8) (b := 8) rfl rfl rfl (by omega) (fun hz_2 => ?_) (fun hz_2 => ?_)
    · skip
      exact absurd hz_2 (by decide)
    · skip
      refine jv_long (pc' := 55) (y := lI (-1)) rfl (by decide) ?_
      refine jx_step (pc' := 64) rfl ?_
      refine jv_lastore (pc' := 65) (n := 4) (e := ((k.length : Nat) : Int)) (v := (lI (-1))) rfl rfl rfl rfl rfl (by omega) ?_
      refine jv_aload_n (pc' := 66) (k := 0) (x := 103) rfl rfl rfl rfl ?_
      refine jv_getR (pc' := 69) (c := 12) (k := 40) (v := 129) rfl rfl rfl (fun _ _ => rfl) rfl rfl (jR_103_40 _) ?_
      refine jv_aload_n (pc' := 70) (k := 0) (x := 103) rfl rfl rfl rfl ?_
      refine jv_getI (pc' := 73) (c := 12) (k := 37) (v := (iI ((k.length : Nat) : Int))) rfl rfl rfl (fun _ _ => rfl) rfl rfl hS.2.2.1 ?_
      refine jv_iconst (pc' := 74) (n := 1) rfl rfl ?_
      refine jv_bastore (pc' := 75) (n := 4) (e := ((k.length : Nat) : Int)) (v := (iI 1)) rfl rfl rfl rfl rfl (by omega) (by first | exact Or.inl rfl | exact Or.inr rfl) ?_
      refine jv_aload_n (pc' := 76) (k := 0) (x := 103) rfl rfl rfl rfl ?_
      refine jx_step (pc' := 77) rfl ?_
      refine jv_getI (pc' := 80) (c := 12) (k := 37) (v := (iI ((k.length : Nat) : Int))) rfl rfl rfl (fun _ _ => rfl) rfl rfl hS.2.2.1 ?_
      refine jv_iconst (pc' := 81) (n := 1) rfl rfl ?_
      refine jv_iadd (pc' := 82) (a := ((k.length : Nat) : Int)) (b := 1) rfl rfl ?_
      refine jv_putI (pc' := 85) (c := 12) (k := 37) rfl rfl rfl rfl (fun _ _ _  => rfl) rfl rfl ?_
      refine jv_aload_n (pc' := 86) (k := 0) (x := 103) rfl rfl rfl rfl ?_
      have Sq3 : MS (jm_u (jm_u (jm_u (jm_u (jm_u (jm_u I 103 19 (iI (((a : Nat) : Int) + 1))) 103 19 (iI ((a + 2 : Nat) : Int))) 103 19 (iI (((a + 2 : Nat) : Int) + 1))) 127 (((k.length : Nat) : Int) : Int).toNat (iI ((a + 3 : Nat) : Int))) 129 (((k.length : Nat) : Int) : Int).toNat (iI 1)) 103 37 (iI (((k.length : Nat) : Int) + 1))) (jm_u M 128 (((k.length : Nat) : Int) : Int).toNat (lI (-1))) (a + 3) ((a + 3, true, (-1)) :: k) s := ⟨rfl, hS.2.1, rfl, SK_push (I := I) (M := M) hS.2.2.2.1 ((jm_u_n2 (by omega)).trans ((jm_u_n2 (by omega)).trans (jm_u_eq ⟨rfl, by omega⟩))) ((jm_u_n2 (by omega)).trans (jm_u_eq ⟨rfl, by omega⟩)) (fun _ => jm_u_eq ⟨rfl, by omega⟩) (fun i hi => ⟨(jm_u_n2 (by omega)).trans ((jm_u_n2 (by omega)).trans ((jm_u_n2 (by omega)).trans rfl)), (jm_u_n2 (by omega)).trans ((jm_u_n2 (by omega)).trans ((jm_u_n2 (by omega)).trans rfl)), jm_u_n2 (by omega)⟩), hM⟩
      refine jv_call (pc' := 89) rfl (ml_repeat_t (I := jm_u (jm_u (jm_u (jm_u (jm_u (jm_u I 103 19 (iI (((a : Nat) : Int) + 1))) 103 19 (iI ((a + 2 : Nat) : Int))) 103 19 (iI (((a + 2 : Nat) : Int) + 1))) 127 (((k.length : Nat) : Int) : Int).toNat (iI ((a + 3 : Nat) : Int))) 129 (((k.length : Nat) : Int) : Int).toNat (iI 1)) 103 37 (iI (((k.length : Nat) : Int) + 1))) (M := jm_u M 128 (((k.length : Nat) : Int) : Int).toNat (lI (-1))) (a := a + 3) (k := (a + 3, true, (-1)) :: k) hX Sq3 (hlv ▸ hB2) (hlv ▸ h)) (fun vq3 gq3 q3 => ?_)
      obtain ⟨Iq3, Mq3, rfl, rfl, rq3, tq3, q3⟩ := q3
      show jx L xs _ 146 89 _ [] _ _
      refine jv_retV rfl rfl ⟨_, _, rfl, ?_⟩
      exact ⟨_, _, rfl, rfl, (fr_t (fr_u (by simp [wM]) (fr_u (by simp [wM]) (fr_u (by simp [wM]) (fr_u (by simp [wM]) (fr_u (by simp [wM]) (fr_u (by simp [wM]) (fr_r _))))))) rq3), (fr_t (fr_u (by simp [wN]) (fr_r _)) tq3), q3⟩
  · skip
    obtain ⟨nm, hnm, hnm8⟩ : ∃ nm : Nat, c (a + 1) - 97 = ((nm : Nat) : Int) ∧ nm < 8 := ⟨(c (a + 1) - 97).toNat, by omega, by omega⟩
    have hlv : (if Y 1 f = -1 then (-1 : Int) else s 1 (Y 1 f).toNat) = s 1 nm := by rw [if_neg (by omega), show (Y 1 f).toNat = nm by omega]
    have hv3 := (hV.2.2.2 nm hnm8).1
    refine jv_aload_n (pc' := 1) (k := 0) (x := 103) rfl rfl rfl rfl ?_
    refine jx_step (pc' := 2) rfl ?_
    refine jv_getI (pc' := 5) (c := 12) (k := 19) (v := (iI ((a : Nat) : Int))) rfl rfl rfl (fun _ _ => rfl) rfl rfl hS.1 ?_
    refine jv_iconst (pc' := 6) (n := 1) rfl rfl ?_
    refine jv_iadd (pc' := 7) (a := ((a : Nat) : Int)) (b := 1) rfl rfl ?_
    refine jv_putI (pc' := 10) (c := 12) (k := 19) rfl rfl rfl rfl (fun _ _ _  => rfl) rfl rfl ?_
    refine jv_aload_n (pc' := 11) (k := 0) (x := 103) rfl rfl rfl rfl ?_
    refine jv_call (pc' := 14) rfl (ml_count_y (d := d) (I := jm_u I 103 19 (iI (((a : Nat) : Int) + 1))) (a := a + 1) (F := 255) hX.1 rfl (by omega) hX.2.2.2.2.2.2.1 (by omega) hc42 (knw_255 hcn2)) (fun vq1 gq1 q1 => ?_)
    obtain ⟨rfl, rfl⟩ := q1
    show jx L xs _ 146 14 _ [.int (iI (c (a + 1) - 97))] _ _
    rw [show c (a + 1) - 97 = ((nm : Nat) : Int) by omega]
    refine jv_istore_n (pc' := 15) (k := 1) (x := (iI ((nm : Nat) : Int))) rfl rfl rfl rfl (Or.inr rfl) ?_
    refine jv_aload_n (pc' := 16) (k := 0) (x := 103) rfl rfl rfl rfl ?_
    refine jx_step (pc' := 17) rfl ?_
    refine jv_getI (pc' := 20) (c := 12) (k := 19) (v := (iI ((a + 2 : Nat) : Int))) rfl rfl rfl (fun _ _ => rfl) rfl rfl rfl ?_
    refine jv_iconst (pc' := 21) (n := 1) rfl rfl ?_
    refine jv_iadd (pc' := 22) (a := ((a + 2 : Nat) : Int)) (b := 1) rfl rfl ?_
    refine jv_putI (pc' := 25) (c := 12) (k := 19) rfl rfl rfl rfl (fun _ _ _  => rfl) rfl rfl ?_
    refine jv_aload_n (pc' := 26) (k := 0) (x := 103) rfl rfl rfl rfl ?_
    refine jv_getR (pc' := 29) (c := 12) (k := 38) (v := 127) rfl rfl rfl (fun _ _ => rfl) rfl rfl (jR_103_38 _) ?_
    refine jv_aload_n (pc' := 30) (k := 0) (x := 103) rfl rfl rfl rfl ?_
    refine jv_getI (pc' := 33) (c := 12) (k := 37) (v := (iI ((k.length : Nat) : Int))) rfl rfl rfl (fun _ _ => rfl) rfl rfl hS.2.2.1 ?_
    refine jv_aload_n (pc' := 34) (k := 0) (x := 103) rfl rfl rfl rfl ?_
    refine jv_getI (pc' := 37) (c := 12) (k := 19) (v := (iI ((a + 3 : Nat) : Int))) rfl rfl rfl (fun _ _ => rfl) rfl rfl rfl ?_
    refine jv_iastore (pc' := 38) (n := 4) (e := ((k.length : Nat) : Int)) (v := (iI ((a + 3 : Nat) : Int))) rfl rfl rfl rfl rfl (by omega) ?_
    refine jv_aload_n (pc' := 39) (k := 0) (x := 103) rfl rfl rfl rfl ?_
    refine jv_getR (pc' := 42) (c := 12) (k := 39) (v := 128) rfl rfl rfl (fun _ _ => rfl) rfl rfl (jR_103_39 _) ?_
    refine jv_aload_n (pc' := 43) (k := 0) (x := 103) rfl rfl rfl rfl ?_
    refine jv_getI (pc' := 46) (c := 12) (k := 37) (v := (iI ((k.length : Nat) : Int))) rfl rfl rfl (fun _ _ => rfl) rfl rfl hS.2.2.1 ?_
    refine jv_iload_n (pc' := 47) (k := 1) (x := (iI ((nm : Nat) : Int))) rfl rfl rfl rfl ?_
    refine jv_bipush (pc' := 49) (n := 8) rfl rfl rfl ?_
    refine jv_ic_ne (t := 58) (pc' := 52) (a := ((nm : Nat) : Int)) (b := 8) rfl rfl rfl (by omega) (fun hz_2 => ?_) (fun hz_2 => ?_)
    · skip
      refine jv_aload_n (pc' := 59) (k := 0) (x := 103) rfl rfl rfl rfl ?_
      refine jv_getR (pc' := 62) (c := 12) (k := 35) (v := 125) rfl rfl rfl (fun _ _ => rfl) rfl rfl (jR_103_35 _) ?_
      refine jv_iload_n (pc' := 63) (k := 1) (x := (iI ((nm : Nat) : Int))) rfl rfl rfl rfl ?_
      refine jv_laload (pc' := 64) (n := 8) (e := ((nm : Nat) : Int)) (v := (lI (s 1 nm))) rfl rfl rfl rfl rfl (by omega) ((hM.2.2.2.1 nm (by omega)).1) ?_
      refine jv_lastore (pc' := 65) (n := 4) (e := ((k.length : Nat) : Int)) (v := (lI (s 1 nm))) rfl rfl rfl rfl rfl (by omega) ?_
      refine jv_aload_n (pc' := 66) (k := 0) (x := 103) rfl rfl rfl rfl ?_
      refine jv_getR (pc' := 69) (c := 12) (k := 40) (v := 129) rfl rfl rfl (fun _ _ => rfl) rfl rfl (jR_103_40 _) ?_
      refine jv_aload_n (pc' := 70) (k := 0) (x := 103) rfl rfl rfl rfl ?_
      refine jv_getI (pc' := 73) (c := 12) (k := 37) (v := (iI ((k.length : Nat) : Int))) rfl rfl rfl (fun _ _ => rfl) rfl rfl hS.2.2.1 ?_
      refine jv_iconst (pc' := 74) (n := 1) rfl rfl ?_
      refine jv_bastore (pc' := 75) (n := 4) (e := ((k.length : Nat) : Int)) (v := (iI 1)) rfl rfl rfl rfl rfl (by omega) (by first | exact Or.inl rfl | exact Or.inr rfl) ?_
      refine jv_aload_n (pc' := 76) (k := 0) (x := 103) rfl rfl rfl rfl ?_
      refine jx_step (pc' := 77) rfl ?_
      refine jv_getI (pc' := 80) (c := 12) (k := 37) (v := (iI ((k.length : Nat) : Int))) rfl rfl rfl (fun _ _ => rfl) rfl rfl hS.2.2.1 ?_
      refine jv_iconst (pc' := 81) (n := 1) rfl rfl ?_
      refine jv_iadd (pc' := 82) (a := ((k.length : Nat) : Int)) (b := 1) rfl rfl ?_
      refine jv_putI (pc' := 85) (c := 12) (k := 37) rfl rfl rfl rfl (fun _ _ _  => rfl) rfl rfl ?_
      refine jv_aload_n (pc' := 86) (k := 0) (x := 103) rfl rfl rfl rfl ?_
      have Sq3 : MS (jm_u (jm_u (jm_u (jm_u (jm_u (jm_u I 103 19 (iI (((a : Nat) : Int) + 1))) 103 19 (iI ((a + 2 : Nat) : Int))) 103 19 (iI (((a + 2 : Nat) : Int) + 1))) 127 (((k.length : Nat) : Int) : Int).toNat (iI ((a + 3 : Nat) : Int))) 129 (((k.length : Nat) : Int) : Int).toNat (iI 1)) 103 37 (iI (((k.length : Nat) : Int) + 1))) (jm_u M 128 (((k.length : Nat) : Int) : Int).toNat (lI (s 1 nm))) (a + 3) ((a + 3, true, (s 1 nm)) :: k) s := ⟨rfl, hS.2.1, rfl, SK_push (I := I) (M := M) hS.2.2.2.1 ((jm_u_n2 (by omega)).trans ((jm_u_n2 (by omega)).trans (jm_u_eq ⟨rfl, by omega⟩))) ((jm_u_n2 (by omega)).trans (jm_u_eq ⟨rfl, by omega⟩)) (fun _ => jm_u_eq ⟨rfl, by omega⟩) (fun i hi => ⟨(jm_u_n2 (by omega)).trans ((jm_u_n2 (by omega)).trans ((jm_u_n2 (by omega)).trans rfl)), (jm_u_n2 (by omega)).trans ((jm_u_n2 (by omega)).trans ((jm_u_n2 (by omega)).trans rfl)), jm_u_n2 (by omega)⟩), hM⟩
      refine jv_call (pc' := 89) rfl (ml_repeat_t (I := jm_u (jm_u (jm_u (jm_u (jm_u (jm_u I 103 19 (iI (((a : Nat) : Int) + 1))) 103 19 (iI ((a + 2 : Nat) : Int))) 103 19 (iI (((a + 2 : Nat) : Int) + 1))) 127 (((k.length : Nat) : Int) : Int).toNat (iI ((a + 3 : Nat) : Int))) 129 (((k.length : Nat) : Int) : Int).toNat (iI 1)) 103 37 (iI (((k.length : Nat) : Int) + 1))) (M := jm_u M 128 (((k.length : Nat) : Int) : Int).toNat (lI (s 1 nm))) (a := a + 3) (k := (a + 3, true, (s 1 nm)) :: k) hX Sq3 (hlv ▸ hB2) (hlv ▸ h)) (fun vq3 gq3 q3 => ?_)
      obtain ⟨Iq3, Mq3, rfl, rfl, rq3, tq3, q3⟩ := q3
      show jx L xs _ 146 89 _ [] _ _
      refine jv_retV rfl rfl ⟨_, _, rfl, ?_⟩
      exact ⟨_, _, rfl, rfl, (fr_t (fr_u (by simp [wM]) (fr_u (by simp [wM]) (fr_u (by simp [wM]) (fr_u (by simp [wM]) (fr_u (by simp [wM]) (fr_u (by simp [wM]) (fr_r _))))))) rq3), (fr_t (fr_u (by simp [wN]) (fr_r _)) tq3), q3⟩
    · skip
      exfalso; omega
set_option maxHeartbeats 4000000 in
theorem ml_runGroup_q (hX : MX I fi B sz l bg lim c n) (hS : MS I M a k s) (hB : DB lim sz a k s) {Y : Nat → Nat → Int} {f b : Nat} (hHD : HD c Y f a b) (hca : c a = 35) (hb80 : b ≤ 80) (hB2 : DB lim sz b ((b, true, if Y 1 f = -1 then -1 else s 1 (Y 1 f).toNat) :: k) s) (h : DO c B lim sz bg l 1 b ((b, true, if Y 1 f = -1 then -1 else s 1 (Y 1 f).toNat) :: k) s s') : jc L xs (d + 3) 146 [.ref 103] (jx_G j I M p) (fun v g1 => ∃ I' M', g1 = jx_G j I' M' p ∧ v = none ∧ fr wM I I' ∧ fr wN M M' ∧ DM I' M' s' ∧ I' 103 33 = iI 1) := by
  unfold jc
  have hV := hB.2.2.1
  have hM := hS.2.2.2.2
  have hkl := hB.2.1
  have hs := hX.2.1.2.2.1
  have hfi := hX.2.1.1
  have hlim := hX.2.2.2.2.2.2.2.1
  have hbg := hX.2.2.2.2.2.2.2.2.1
  have hl := hX.2.2.2.2.2.2.2.2.2
  have hv0 := hV.1
  have hv1 := hV.2.1
  have hv2 := hV.2.2.1
  have hn80 := hX.1.2.1
  have hkl2 : k.length + 1 ≤ 3 := hB2.2.1
  obtain ⟨hcn, hc40, rfl⟩ : CN c Y f (a + 1) ∧ c (a + 2) = 40 ∧ b = a + 3 := by
    rcases hHD with z | z
    · exact ⟨z.2.2.1, z.2.2.2.1, z.2.2.2.2⟩
    · exact absurd z.1 (by omega)
  rcases hcn with ⟨hc42, hst⟩ | ⟨hc42, hcn2, h1⟩
  · skip
    have hlv : (if Y 1 f = -1 then (-1 : Int) else s 1 (Y 1 f).toNat) = -1 := if_pos hst
    refine jv_aload_n (pc' := 1) (k := 0) (x := 103) rfl rfl rfl rfl ?_
    refine jx_step (pc' := 2) rfl ?_
    refine jv_getI (pc' := 5) (c := 12) (k := 19) (v := (iI ((a : Nat) : Int))) rfl rfl rfl (fun _ _ => rfl) rfl rfl hS.1 ?_
    refine jv_iconst (pc' := 6) (n := 1) rfl rfl ?_
    refine jv_iadd (pc' := 7) (a := ((a : Nat) : Int)) (b := 1) rfl rfl ?_
    refine jv_putI (pc' := 10) (c := 12) (k := 19) rfl rfl rfl rfl (fun _ _ _  => rfl) rfl rfl ?_
    refine jv_aload_n (pc' := 11) (k := 0) (x := 103) rfl rfl rfl rfl ?_
    refine jv_call (pc' := 14) rfl (ml_count_s (d := d) (I := jm_u I 103 19 (iI (((a : Nat) : Int) + 1))) (a := a + 1) (F := 255) hX.1 rfl (by omega) hX.2.2.2.2.2.2.1 (by omega) hc42) (fun vq1 gq1 q1 => ?_)
    obtain ⟨rfl, rfl⟩ := q1
    show jx L xs _ 146 14 _ [.int (iI 8)] _ _
    refine jv_istore_n (pc' := 15) (k := 1) (x := (iI 8)) rfl rfl rfl rfl (Or.inr rfl) ?_
    refine jv_aload_n (pc' := 16) (k := 0) (x := 103) rfl rfl rfl rfl ?_
    refine jx_step (pc' := 17) rfl ?_
    refine jv_getI (pc' := 20) (c := 12) (k := 19) (v := (iI ((a + 2 : Nat) : Int))) rfl rfl rfl (fun _ _ => rfl) rfl rfl rfl ?_
    refine jv_iconst (pc' := 21) (n := 1) rfl rfl ?_
    refine jv_iadd (pc' := 22) (a := ((a + 2 : Nat) : Int)) (b := 1) rfl rfl ?_
    refine jv_putI (pc' := 25) (c := 12) (k := 19) rfl rfl rfl rfl (fun _ _ _  => rfl) rfl rfl ?_
    refine jv_aload_n (pc' := 26) (k := 0) (x := 103) rfl rfl rfl rfl ?_
    refine jv_getR (pc' := 29) (c := 12) (k := 38) (v := 127) rfl rfl rfl (fun _ _ => rfl) rfl rfl (jR_103_38 _) ?_
    refine jv_aload_n (pc' := 30) (k := 0) (x := 103) rfl rfl rfl rfl ?_
    refine jv_getI (pc' := 33) (c := 12) (k := 37) (v := (iI ((k.length : Nat) : Int))) rfl rfl rfl (fun _ _ => rfl) rfl rfl hS.2.2.1 ?_
    refine jv_aload_n (pc' := 34) (k := 0) (x := 103) rfl rfl rfl rfl ?_
    refine jv_getI (pc' := 37) (c := 12) (k := 19) (v := (iI ((a + 3 : Nat) : Int))) rfl rfl rfl (fun _ _ => rfl) rfl rfl rfl ?_
    refine jv_iastore (pc' := 38) (n := 4) (e := ((k.length : Nat) : Int)) (v := (iI ((a + 3 : Nat) : Int))) rfl rfl rfl rfl rfl (by omega) ?_
    refine jv_aload_n (pc' := 39) (k := 0) (x := 103) rfl rfl rfl rfl ?_
    refine jv_getR (pc' := 42) (c := 12) (k := 39) (v := 128) rfl rfl rfl (fun _ _ => rfl) rfl rfl (jR_103_39 _) ?_
    refine jv_aload_n (pc' := 43) (k := 0) (x := 103) rfl rfl rfl rfl ?_
    refine jv_getI (pc' := 46) (c := 12) (k := 37) (v := (iI ((k.length : Nat) : Int))) rfl rfl rfl (fun _ _ => rfl) rfl rfl hS.2.2.1 ?_
    refine jv_iload_n (pc' := 47) (k := 1) (x := (iI 8)) rfl rfl rfl rfl ?_
    refine jv_bipush (pc' := 49) (n := 8) rfl rfl rfl ?_
    refine jv_ic_ne (t := 58) (pc' := 52) (a := 8) (b := 8) rfl rfl rfl (by omega) (fun hz_2 => ?_) (fun hz_2 => ?_)
    · skip
      exact absurd hz_2 (by decide)
    · skip
      refine jv_long (pc' := 55) (y := lI (-1)) rfl (by decide) ?_
      refine jx_step (pc' := 64) rfl ?_
      refine jv_lastore (pc' := 65) (n := 4) (e := ((k.length : Nat) : Int)) (v := (lI (-1))) rfl rfl rfl rfl rfl (by omega) ?_
      refine jv_aload_n (pc' := 66) (k := 0) (x := 103) rfl rfl rfl rfl ?_
      refine jv_getR (pc' := 69) (c := 12) (k := 40) (v := 129) rfl rfl rfl (fun _ _ => rfl) rfl rfl (jR_103_40 _) ?_
      refine jv_aload_n (pc' := 70) (k := 0) (x := 103) rfl rfl rfl rfl ?_
      refine jv_getI (pc' := 73) (c := 12) (k := 37) (v := (iI ((k.length : Nat) : Int))) rfl rfl rfl (fun _ _ => rfl) rfl rfl hS.2.2.1 ?_
      refine jv_iconst (pc' := 74) (n := 1) rfl rfl ?_
      refine jv_bastore (pc' := 75) (n := 4) (e := ((k.length : Nat) : Int)) (v := (iI 1)) rfl rfl rfl rfl rfl (by omega) (by first | exact Or.inl rfl | exact Or.inr rfl) ?_
      refine jv_aload_n (pc' := 76) (k := 0) (x := 103) rfl rfl rfl rfl ?_
      refine jx_step (pc' := 77) rfl ?_
      refine jv_getI (pc' := 80) (c := 12) (k := 37) (v := (iI ((k.length : Nat) : Int))) rfl rfl rfl (fun _ _ => rfl) rfl rfl hS.2.2.1 ?_
      refine jv_iconst (pc' := 81) (n := 1) rfl rfl ?_
      refine jv_iadd (pc' := 82) (a := ((k.length : Nat) : Int)) (b := 1) rfl rfl ?_
      refine jv_putI (pc' := 85) (c := 12) (k := 37) rfl rfl rfl rfl (fun _ _ _  => rfl) rfl rfl ?_
      refine jv_aload_n (pc' := 86) (k := 0) (x := 103) rfl rfl rfl rfl ?_
      have Sq3 : MS (jm_u (jm_u (jm_u (jm_u (jm_u (jm_u I 103 19 (iI (((a : Nat) : Int) + 1))) 103 19 (iI ((a + 2 : Nat) : Int))) 103 19 (iI (((a + 2 : Nat) : Int) + 1))) 127 (((k.length : Nat) : Int) : Int).toNat (iI ((a + 3 : Nat) : Int))) 129 (((k.length : Nat) : Int) : Int).toNat (iI 1)) 103 37 (iI (((k.length : Nat) : Int) + 1))) (jm_u M 128 (((k.length : Nat) : Int) : Int).toNat (lI (-1))) (a + 3) ((a + 3, true, (-1)) :: k) s := ⟨rfl, hS.2.1, rfl, SK_push (I := I) (M := M) hS.2.2.2.1 ((jm_u_n2 (by omega)).trans ((jm_u_n2 (by omega)).trans (jm_u_eq ⟨rfl, by omega⟩))) ((jm_u_n2 (by omega)).trans (jm_u_eq ⟨rfl, by omega⟩)) (fun _ => jm_u_eq ⟨rfl, by omega⟩) (fun i hi => ⟨(jm_u_n2 (by omega)).trans ((jm_u_n2 (by omega)).trans ((jm_u_n2 (by omega)).trans rfl)), (jm_u_n2 (by omega)).trans ((jm_u_n2 (by omega)).trans ((jm_u_n2 (by omega)).trans rfl)), jm_u_n2 (by omega)⟩), hM⟩
      refine jv_call (pc' := 89) rfl (ml_repeat_q (I := jm_u (jm_u (jm_u (jm_u (jm_u (jm_u I 103 19 (iI (((a : Nat) : Int) + 1))) 103 19 (iI ((a + 2 : Nat) : Int))) 103 19 (iI (((a + 2 : Nat) : Int) + 1))) 127 (((k.length : Nat) : Int) : Int).toNat (iI ((a + 3 : Nat) : Int))) 129 (((k.length : Nat) : Int) : Int).toNat (iI 1)) 103 37 (iI (((k.length : Nat) : Int) + 1))) (M := jm_u M 128 (((k.length : Nat) : Int) : Int).toNat (lI (-1))) (a := a + 3) (k := (a + 3, true, (-1)) :: k) hX Sq3 (hlv ▸ hB2) (hlv ▸ h)) (fun vq3 gq3 q3 => ?_)
      obtain ⟨Iq3, Mq3, rfl, rfl, rq3, tq3, q3⟩ := q3
      show jx L xs _ 146 89 _ [] _ _
      refine jv_retV rfl rfl ⟨_, _, rfl, ?_⟩
      exact ⟨_, _, rfl, rfl, (fr_t (fr_u (by simp [wM]) (fr_u (by simp [wM]) (fr_u (by simp [wM]) (fr_u (by simp [wM]) (fr_u (by simp [wM]) (fr_u (by simp [wM]) (fr_r _))))))) rq3), (fr_t (fr_u (by simp [wN]) (fr_r _)) tq3), q3⟩
  · skip
    obtain ⟨nm, hnm, hnm8⟩ : ∃ nm : Nat, c (a + 1) - 97 = ((nm : Nat) : Int) ∧ nm < 8 := ⟨(c (a + 1) - 97).toNat, by omega, by omega⟩
    have hlv : (if Y 1 f = -1 then (-1 : Int) else s 1 (Y 1 f).toNat) = s 1 nm := by rw [if_neg (by omega), show (Y 1 f).toNat = nm by omega]
    have hv3 := (hV.2.2.2 nm hnm8).1
    refine jv_aload_n (pc' := 1) (k := 0) (x := 103) rfl rfl rfl rfl ?_
    refine jx_step (pc' := 2) rfl ?_
    refine jv_getI (pc' := 5) (c := 12) (k := 19) (v := (iI ((a : Nat) : Int))) rfl rfl rfl (fun _ _ => rfl) rfl rfl hS.1 ?_
    refine jv_iconst (pc' := 6) (n := 1) rfl rfl ?_
    refine jv_iadd (pc' := 7) (a := ((a : Nat) : Int)) (b := 1) rfl rfl ?_
    refine jv_putI (pc' := 10) (c := 12) (k := 19) rfl rfl rfl rfl (fun _ _ _  => rfl) rfl rfl ?_
    refine jv_aload_n (pc' := 11) (k := 0) (x := 103) rfl rfl rfl rfl ?_
    refine jv_call (pc' := 14) rfl (ml_count_y (d := d) (I := jm_u I 103 19 (iI (((a : Nat) : Int) + 1))) (a := a + 1) (F := 255) hX.1 rfl (by omega) hX.2.2.2.2.2.2.1 (by omega) hc42 (knw_255 hcn2)) (fun vq1 gq1 q1 => ?_)
    obtain ⟨rfl, rfl⟩ := q1
    show jx L xs _ 146 14 _ [.int (iI (c (a + 1) - 97))] _ _
    rw [show c (a + 1) - 97 = ((nm : Nat) : Int) by omega]
    refine jv_istore_n (pc' := 15) (k := 1) (x := (iI ((nm : Nat) : Int))) rfl rfl rfl rfl (Or.inr rfl) ?_
    refine jv_aload_n (pc' := 16) (k := 0) (x := 103) rfl rfl rfl rfl ?_
    refine jx_step (pc' := 17) rfl ?_
    refine jv_getI (pc' := 20) (c := 12) (k := 19) (v := (iI ((a + 2 : Nat) : Int))) rfl rfl rfl (fun _ _ => rfl) rfl rfl rfl ?_
    refine jv_iconst (pc' := 21) (n := 1) rfl rfl ?_
    refine jv_iadd (pc' := 22) (a := ((a + 2 : Nat) : Int)) (b := 1) rfl rfl ?_
    refine jv_putI (pc' := 25) (c := 12) (k := 19) rfl rfl rfl rfl (fun _ _ _  => rfl) rfl rfl ?_
    refine jv_aload_n (pc' := 26) (k := 0) (x := 103) rfl rfl rfl rfl ?_
    refine jv_getR (pc' := 29) (c := 12) (k := 38) (v := 127) rfl rfl rfl (fun _ _ => rfl) rfl rfl (jR_103_38 _) ?_
    refine jv_aload_n (pc' := 30) (k := 0) (x := 103) rfl rfl rfl rfl ?_
    refine jv_getI (pc' := 33) (c := 12) (k := 37) (v := (iI ((k.length : Nat) : Int))) rfl rfl rfl (fun _ _ => rfl) rfl rfl hS.2.2.1 ?_
    refine jv_aload_n (pc' := 34) (k := 0) (x := 103) rfl rfl rfl rfl ?_
    refine jv_getI (pc' := 37) (c := 12) (k := 19) (v := (iI ((a + 3 : Nat) : Int))) rfl rfl rfl (fun _ _ => rfl) rfl rfl rfl ?_
    refine jv_iastore (pc' := 38) (n := 4) (e := ((k.length : Nat) : Int)) (v := (iI ((a + 3 : Nat) : Int))) rfl rfl rfl rfl rfl (by omega) ?_
    refine jv_aload_n (pc' := 39) (k := 0) (x := 103) rfl rfl rfl rfl ?_
    refine jv_getR (pc' := 42) (c := 12) (k := 39) (v := 128) rfl rfl rfl (fun _ _ => rfl) rfl rfl (jR_103_39 _) ?_
    refine jv_aload_n (pc' := 43) (k := 0) (x := 103) rfl rfl rfl rfl ?_
    refine jv_getI (pc' := 46) (c := 12) (k := 37) (v := (iI ((k.length : Nat) : Int))) rfl rfl rfl (fun _ _ => rfl) rfl rfl hS.2.2.1 ?_
    refine jv_iload_n (pc' := 47) (k := 1) (x := (iI ((nm : Nat) : Int))) rfl rfl rfl rfl ?_
    refine jv_bipush (pc' := 49) (n := 8) rfl rfl rfl ?_
    refine jv_ic_ne (t := 58) (pc' := 52) (a := ((nm : Nat) : Int)) (b := 8) rfl rfl rfl (by omega) (fun hz_2 => ?_) (fun hz_2 => ?_)
    · skip
      refine jv_aload_n (pc' := 59) (k := 0) (x := 103) rfl rfl rfl rfl ?_
      refine jv_getR (pc' := 62) (c := 12) (k := 35) (v := 125) rfl rfl rfl (fun _ _ => rfl) rfl rfl (jR_103_35 _) ?_
      refine jv_iload_n (pc' := 63) (k := 1) (x := (iI ((nm : Nat) : Int))) rfl rfl rfl rfl ?_
      refine jv_laload (pc' := 64) (n := 8) (e := ((nm : Nat) : Int)) (v := (lI (s 1 nm))) rfl rfl rfl rfl rfl (by omega) ((hM.2.2.2.1 nm (by omega)).1) ?_
      refine jv_lastore (pc' := 65) (n := 4) (e := ((k.length : Nat) : Int)) (v := (lI (s 1 nm))) rfl rfl rfl rfl rfl (by omega) ?_
      refine jv_aload_n (pc' := 66) (k := 0) (x := 103) rfl rfl rfl rfl ?_
      refine jv_getR (pc' := 69) (c := 12) (k := 40) (v := 129) rfl rfl rfl (fun _ _ => rfl) rfl rfl (jR_103_40 _) ?_
      refine jv_aload_n (pc' := 70) (k := 0) (x := 103) rfl rfl rfl rfl ?_
      refine jv_getI (pc' := 73) (c := 12) (k := 37) (v := (iI ((k.length : Nat) : Int))) rfl rfl rfl (fun _ _ => rfl) rfl rfl hS.2.2.1 ?_
      refine jv_iconst (pc' := 74) (n := 1) rfl rfl ?_
      refine jv_bastore (pc' := 75) (n := 4) (e := ((k.length : Nat) : Int)) (v := (iI 1)) rfl rfl rfl rfl rfl (by omega) (by first | exact Or.inl rfl | exact Or.inr rfl) ?_
      refine jv_aload_n (pc' := 76) (k := 0) (x := 103) rfl rfl rfl rfl ?_
      refine jx_step (pc' := 77) rfl ?_
      refine jv_getI (pc' := 80) (c := 12) (k := 37) (v := (iI ((k.length : Nat) : Int))) rfl rfl rfl (fun _ _ => rfl) rfl rfl hS.2.2.1 ?_
      refine jv_iconst (pc' := 81) (n := 1) rfl rfl ?_
      refine jv_iadd (pc' := 82) (a := ((k.length : Nat) : Int)) (b := 1) rfl rfl ?_
      refine jv_putI (pc' := 85) (c := 12) (k := 37) rfl rfl rfl rfl (fun _ _ _  => rfl) rfl rfl ?_
      refine jv_aload_n (pc' := 86) (k := 0) (x := 103) rfl rfl rfl rfl ?_
      have Sq3 : MS (jm_u (jm_u (jm_u (jm_u (jm_u (jm_u I 103 19 (iI (((a : Nat) : Int) + 1))) 103 19 (iI ((a + 2 : Nat) : Int))) 103 19 (iI (((a + 2 : Nat) : Int) + 1))) 127 (((k.length : Nat) : Int) : Int).toNat (iI ((a + 3 : Nat) : Int))) 129 (((k.length : Nat) : Int) : Int).toNat (iI 1)) 103 37 (iI (((k.length : Nat) : Int) + 1))) (jm_u M 128 (((k.length : Nat) : Int) : Int).toNat (lI (s 1 nm))) (a + 3) ((a + 3, true, (s 1 nm)) :: k) s := ⟨rfl, hS.2.1, rfl, SK_push (I := I) (M := M) hS.2.2.2.1 ((jm_u_n2 (by omega)).trans ((jm_u_n2 (by omega)).trans (jm_u_eq ⟨rfl, by omega⟩))) ((jm_u_n2 (by omega)).trans (jm_u_eq ⟨rfl, by omega⟩)) (fun _ => jm_u_eq ⟨rfl, by omega⟩) (fun i hi => ⟨(jm_u_n2 (by omega)).trans ((jm_u_n2 (by omega)).trans ((jm_u_n2 (by omega)).trans rfl)), (jm_u_n2 (by omega)).trans ((jm_u_n2 (by omega)).trans ((jm_u_n2 (by omega)).trans rfl)), jm_u_n2 (by omega)⟩), hM⟩
      refine jv_call (pc' := 89) rfl (ml_repeat_q (I := jm_u (jm_u (jm_u (jm_u (jm_u (jm_u I 103 19 (iI (((a : Nat) : Int) + 1))) 103 19 (iI ((a + 2 : Nat) : Int))) 103 19 (iI (((a + 2 : Nat) : Int) + 1))) 127 (((k.length : Nat) : Int) : Int).toNat (iI ((a + 3 : Nat) : Int))) 129 (((k.length : Nat) : Int) : Int).toNat (iI 1)) 103 37 (iI (((k.length : Nat) : Int) + 1))) (M := jm_u M 128 (((k.length : Nat) : Int) : Int).toNat (lI (s 1 nm))) (a := a + 3) (k := (a + 3, true, (s 1 nm)) :: k) hX Sq3 (hlv ▸ hB2) (hlv ▸ h)) (fun vq3 gq3 q3 => ?_)
      obtain ⟨Iq3, Mq3, rfl, rfl, rq3, tq3, q3⟩ := q3
      show jx L xs _ 146 89 _ [] _ _
      refine jv_retV rfl rfl ⟨_, _, rfl, ?_⟩
      exact ⟨_, _, rfl, rfl, (fr_t (fr_u (by simp [wM]) (fr_u (by simp [wM]) (fr_u (by simp [wM]) (fr_u (by simp [wM]) (fr_u (by simp [wM]) (fr_u (by simp [wM]) (fr_r _))))))) rq3), (fr_t (fr_u (by simp [wN]) (fr_r _)) tq3), q3⟩
    · skip
      exfalso; omega
set_option maxHeartbeats 4000000 in
theorem ml_runOption_y (hX : MX I fi B sz l bg lim c n) (hS : MS I M a k s) (hB : DB lim sz a k s) {Y : Nat → Nat → Int} {f b : Nat} (hHD : HD c Y f a b) (hca : c a = 63) (hb80 : b ≤ 80) (hch : CH Y f s) (hk3 : k.length + 1 ≤ 3) : jc L xs (d + 2) 147 [.ref 103] (jx_G j I M p) (fun v g1 => ∃ I' M', g1 = jx_G j I' M' p ∧ v = none ∧ fr wM I I' ∧ fr wN M M' ∧ MS I' M' b ((b, false, 0) :: k) s) := by
  unfold jc
  have hV := hB.2.2.1
  have hM := hS.2.2.2.2
  have hkl := hB.2.1
  have hs := hX.2.1.2.2.1
  have hfi := hX.2.1.1
  have hlim := hX.2.2.2.2.2.2.2.1
  have hbg := hX.2.2.2.2.2.2.2.2.1
  have hl := hX.2.2.2.2.2.2.2.2.2
  have hv0 := hV.1
  have hv1 := hV.2.1
  have hv2 := hV.2.2.1
  have hn80 := hX.1.2.1
  obtain ⟨hnr, hn1, h56, hnd, hnum, hc40, rfl⟩ : (97 ≤ c (a + 1) ∧ c (a + 1) ≤ 104) ∧ Y 1 f = c (a + 1) - 97 ∧ ((c (a + 2) = 61 ∧ Y 0 f = 5) ∨ (c (a + 2) = 60 ∧ Y 0 f = 6)) ∧ 0 < nd c (a + 3) ∧ Y 2 f = nv c (a + 3) ∧ c (a + 3 + nd c (a + 3)) = 40 ∧ b = a + 3 + nd c (a + 3) + 1 := by
    rcases hHD with z | z
    · exact absurd z.1 (by omega)
    · exact z.2
  obtain ⟨nm, hnm, hnm8⟩ : ∃ nm : Nat, c (a + 1) - 97 = ((nm : Nat) : Int) ∧ nm < 8 := ⟨(c (a + 1) - 97).toNat, by omega, by omega⟩
  have hv3 := (hV.2.2.2 nm hnm8).1
  unfold CH at hch
  rw [show (Y 1 f).toNat = nm by omega] at hch
  have hnv := nv_b c (a + 3)
  refine jv_aload_n (pc' := 1) (k := 0) (x := 103) rfl rfl rfl rfl ?_
  refine jx_step (pc' := 2) rfl ?_
  refine jv_getI (pc' := 5) (c := 12) (k := 19) (v := (iI ((a : Nat) : Int))) rfl rfl rfl (fun _ _ => rfl) rfl rfl hS.1 ?_
  refine jv_iconst (pc' := 6) (n := 1) rfl rfl ?_
  refine jv_iadd (pc' := 7) (a := ((a : Nat) : Int)) (b := 1) rfl rfl ?_
  refine jv_putI (pc' := 10) (c := 12) (k := 19) rfl rfl rfl rfl (fun _ _ _  => rfl) rfl rfl ?_
  refine jv_aload_n (pc' := 11) (k := 0) (x := 103) rfl rfl rfl rfl ?_
  refine jv_call (pc' := 14) rfl (ml_known_y (I := jm_u I 103 19 (iI (((a : Nat) : Int) + 1))) (a := a + 1) (F := 255) hX.1 rfl (by omega) hX.2.2.2.2.2.2.1 (by omega) (knw_255 hnr)) (fun vq1 gq1 q1 => ?_)
  obtain ⟨rfl, rfl⟩ := q1
  show jx L xs _ 147 14 _ [.int (iI (c (a + 1) - 97))] _ _
  rw [show c (a + 1) - 97 = ((nm : Nat) : Int) by omega]
  refine jv_istore_n (pc' := 15) (k := 1) (x := (iI ((nm : Nat) : Int))) rfl rfl rfl rfl (Or.inr rfl) ?_
  refine jv_aload_n (pc' := 16) (k := 0) (x := 103) rfl rfl rfl rfl ?_
  have hm2 := MT_c hX.1 (a + 2)
  refine jv_call (pc' := 19) rfl (ml_here (I := jm_u (jm_u I 103 19 (iI (((a : Nat) : Int) + 1))) 103 19 (iI ((a + 2 : Nat) : Int))) (a := a + 2) hX.1 rfl (by omega)) (fun vq3 gq3 q3 => ?_)
  obtain ⟨rfl, rfl⟩ := q3
  show jx L xs _ 147 19 _ [.int (iI (c (a + 2)))] _ _
  refine jv_bipush (pc' := 21) (n := 60) rfl rfl rfl ?_
  refine jv_ic_ne (t := 28) (pc' := 24) (a := (c (a + 2))) (b := 60) rfl rfl rfl (by omega) (fun hz_4 => ?_) (fun hz_4 => ?_)
  · skip
    refine jv_iconst (pc' := 29) (n := 0) rfl rfl ?_
    refine jv_istore_n (pc' := 30) (k := 2) (x := (iI 0)) rfl rfl rfl rfl (Or.inr rfl) ?_
    refine jv_aload_n (pc' := 31) (k := 0) (x := 103) rfl rfl rfl rfl ?_
    refine jx_step (pc' := 32) rfl ?_
    refine jv_getI (pc' := 35) (c := 12) (k := 19) (v := (iI ((a + 2 : Nat) : Int))) rfl rfl rfl (fun _ _ => rfl) rfl rfl rfl ?_
    refine jv_iconst (pc' := 36) (n := 1) rfl rfl ?_
    refine jv_iadd (pc' := 37) (a := ((a + 2 : Nat) : Int)) (b := 1) rfl rfl ?_
    refine jv_putI (pc' := 40) (c := 12) (k := 19) rfl rfl rfl rfl (fun _ _ _  => rfl) rfl rfl ?_
    refine jv_aload_n (pc' := 41) (k := 0) (x := 103) rfl rfl rfl rfl ?_
    have hm5 := nv_b c (a + 3)
    have hm6 := nd_le c (a + 3)
    refine jv_call (pc' := 44) rfl (ml_number_y (I := jm_u (jm_u (jm_u I 103 19 (iI (((a : Nat) : Int) + 1))) 103 19 (iI ((a + 2 : Nat) : Int))) 103 19 (iI (((a + 2 : Nat) : Int) + 1))) (a := a + 3) hX.1 rfl (by omega) (by omega)) (fun vq7 gq7 q7 => ?_)
    obtain ⟨rfl, rfl⟩ := q7
    show jx L xs _ 147 44 _ [.int (iI (nv c (a + 3)))] _ _
    refine jv_istore_n (pc' := 45) (k := 3) (x := (iI (nv c (a + 3)))) rfl rfl rfl rfl (Or.inr rfl) ?_
    refine jv_aload_n (pc' := 46) (k := 0) (x := 103) rfl rfl rfl rfl ?_
    refine jx_step (pc' := 47) rfl ?_
    refine jv_getI (pc' := 50) (c := 12) (k := 19) (v := (iI ((a + 3 + nd c (a + 3) : Nat) : Int))) rfl rfl rfl (fun _ _ => rfl) rfl rfl rfl ?_
    refine jv_iconst (pc' := 51) (n := 1) rfl rfl ?_
    refine jv_iadd (pc' := 52) (a := ((a + 3 + nd c (a + 3) : Nat) : Int)) (b := 1) rfl rfl ?_
    refine jv_putI (pc' := 55) (c := 12) (k := 19) rfl rfl rfl rfl (fun _ _ _  => rfl) rfl rfl ?_
    refine jv_iload_n (pc' := 56) (k := 2) (x := (iI 0)) rfl rfl rfl rfl ?_
    refine jv_if_eq (t := 74) (pc' := 59) (a := 0) rfl rfl rfl (by omega) (fun hz_8 => ?_) (fun hz_8 => ?_)
    · skip
      refine jv_aload_n (pc' := 75) (k := 0) (x := 103) rfl rfl rfl rfl ?_
      refine jv_getR (pc' := 78) (c := 12) (k := 35) (v := 125) rfl rfl rfl (fun _ _ => rfl) rfl rfl (jR_103_35 _) ?_
      refine jv_iload_n (pc' := 79) (k := 1) (x := (iI ((nm : Nat) : Int))) rfl rfl rfl rfl ?_
      refine jv_laload (pc' := 80) (n := 8) (e := ((nm : Nat) : Int)) (v := (lI (s 1 nm))) rfl rfl rfl rfl rfl (by omega) ((hM.2.2.2.1 nm (by omega)).1) ?_
      refine jv_iload_n (pc' := 81) (k := 3) (x := (iI (nv c (a + 3)))) rfl rfl rfl rfl ?_
      refine jv_i2l (pc' := 82) (a := (nv c (a + 3))) rfl rfl (by omega) ?_
      refine jv_lc_ne (t := 122) (pc' := 86) (a := (s 1 nm)) (b := (nv c (a + 3))) rfl rfl rfl rfl rfl (by omega) (fun hz_9 => ?_) (fun hz_9 => ?_)
      · skip
        exfalso; omega
      · skip
        refine jv_aload_n (pc' := 87) (k := 0) (x := 103) rfl rfl rfl rfl ?_
        refine jv_getR (pc' := 90) (c := 12) (k := 38) (v := 127) rfl rfl rfl (fun _ _ => rfl) rfl rfl (jR_103_38 _) ?_
        refine jv_aload_n (pc' := 91) (k := 0) (x := 103) rfl rfl rfl rfl ?_
        refine jv_getI (pc' := 94) (c := 12) (k := 37) (v := (iI ((k.length : Nat) : Int))) rfl rfl rfl (fun _ _ => rfl) rfl rfl hS.2.2.1 ?_
        refine jv_aload_n (pc' := 95) (k := 0) (x := 103) rfl rfl rfl rfl ?_
        refine jv_getI (pc' := 98) (c := 12) (k := 19) (v := (iI ((a + 3 + nd c (a + 3) + 1 : Nat) : Int))) rfl rfl rfl (fun _ _ => rfl) rfl rfl rfl ?_
        refine jv_iastore (pc' := 99) (n := 4) (e := ((k.length : Nat) : Int)) (v := (iI ((a + 3 + nd c (a + 3) + 1 : Nat) : Int))) rfl rfl rfl rfl rfl (by omega) ?_
        refine jv_aload_n (pc' := 100) (k := 0) (x := 103) rfl rfl rfl rfl ?_
        refine jv_getR (pc' := 103) (c := 12) (k := 40) (v := 129) rfl rfl rfl (fun _ _ => rfl) rfl rfl (jR_103_40 _) ?_
        refine jv_aload_n (pc' := 104) (k := 0) (x := 103) rfl rfl rfl rfl ?_
        refine jv_getI (pc' := 107) (c := 12) (k := 37) (v := (iI ((k.length : Nat) : Int))) rfl rfl rfl (fun _ _ => rfl) rfl rfl hS.2.2.1 ?_
        refine jv_iconst (pc' := 108) (n := 0) rfl rfl ?_
        refine jv_bastore (pc' := 109) (n := 4) (e := ((k.length : Nat) : Int)) (v := (iI 0)) rfl rfl rfl rfl rfl (by omega) (by first | exact Or.inl rfl | exact Or.inr rfl) ?_
        refine jv_aload_n (pc' := 110) (k := 0) (x := 103) rfl rfl rfl rfl ?_
        refine jx_step (pc' := 111) rfl ?_
        refine jv_getI (pc' := 114) (c := 12) (k := 37) (v := (iI ((k.length : Nat) : Int))) rfl rfl rfl (fun _ _ => rfl) rfl rfl hS.2.2.1 ?_
        refine jv_iconst (pc' := 115) (n := 1) rfl rfl ?_
        refine jv_iadd (pc' := 116) (a := ((k.length : Nat) : Int)) (b := 1) rfl rfl ?_
        refine jv_putI (pc' := 119) (c := 12) (k := 37) rfl rfl rfl rfl (fun _ _ _  => rfl) rfl rfl ?_
        refine jx_step (pc' := 126) rfl ?_
        refine jv_retV rfl rfl ⟨_, _, rfl, ?_⟩
        first
        | (exfalso; omega)
        | exact ⟨_, _, rfl, rfl, (fr_u (by simp [wM]) (fr_u (by simp [wM]) (fr_u (by simp [wM]) (fr_u (by simp [wM]) (fr_u (by simp [wM]) (fr_u (by simp [wM]) (fr_u (by simp [wM]) (fr_u (by simp [wM]) (fr_r _))))))))), (fr_r _), rfl, hS.2.1, rfl, SK_push (I := I) (M := M) hS.2.2.2.1 ((jm_u_n2 (by omega)).trans ((jm_u_n2 (by omega)).trans (jm_u_eq ⟨rfl, by omega⟩))) ((jm_u_n2 (by omega)).trans (jm_u_eq ⟨rfl, by omega⟩)) (fun z => by cases z) (fun i hi => ⟨(jm_u_n2 (by omega)).trans ((jm_u_n2 (by omega)).trans ((jm_u_n2 (by omega)).trans rfl)), (jm_u_n2 (by omega)).trans ((jm_u_n2 (by omega)).trans ((jm_u_n2 (by omega)).trans rfl)), rfl⟩), hM⟩
    · skip
      exact absurd hz_8 (by decide)
  · skip
    refine jv_iconst (pc' := 25) (n := 1) rfl rfl ?_
    refine jx_step (pc' := 29) rfl ?_
    refine jv_istore_n (pc' := 30) (k := 2) (x := (iI 1)) rfl rfl rfl rfl (Or.inr rfl) ?_
    refine jv_aload_n (pc' := 31) (k := 0) (x := 103) rfl rfl rfl rfl ?_
    refine jx_step (pc' := 32) rfl ?_
    refine jv_getI (pc' := 35) (c := 12) (k := 19) (v := (iI ((a + 2 : Nat) : Int))) rfl rfl rfl (fun _ _ => rfl) rfl rfl rfl ?_
    refine jv_iconst (pc' := 36) (n := 1) rfl rfl ?_
    refine jv_iadd (pc' := 37) (a := ((a + 2 : Nat) : Int)) (b := 1) rfl rfl ?_
    refine jv_putI (pc' := 40) (c := 12) (k := 19) rfl rfl rfl rfl (fun _ _ _  => rfl) rfl rfl ?_
    refine jv_aload_n (pc' := 41) (k := 0) (x := 103) rfl rfl rfl rfl ?_
    have hm10 := nv_b c (a + 3)
    have hm11 := nd_le c (a + 3)
    refine jv_call (pc' := 44) rfl (ml_number_y (I := jm_u (jm_u (jm_u I 103 19 (iI (((a : Nat) : Int) + 1))) 103 19 (iI ((a + 2 : Nat) : Int))) 103 19 (iI (((a + 2 : Nat) : Int) + 1))) (a := a + 3) hX.1 rfl (by omega) (by omega)) (fun vq12 gq12 q12 => ?_)
    obtain ⟨rfl, rfl⟩ := q12
    show jx L xs _ 147 44 _ [.int (iI (nv c (a + 3)))] _ _
    refine jv_istore_n (pc' := 45) (k := 3) (x := (iI (nv c (a + 3)))) rfl rfl rfl rfl (Or.inr rfl) ?_
    refine jv_aload_n (pc' := 46) (k := 0) (x := 103) rfl rfl rfl rfl ?_
    refine jx_step (pc' := 47) rfl ?_
    refine jv_getI (pc' := 50) (c := 12) (k := 19) (v := (iI ((a + 3 + nd c (a + 3) : Nat) : Int))) rfl rfl rfl (fun _ _ => rfl) rfl rfl rfl ?_
    refine jv_iconst (pc' := 51) (n := 1) rfl rfl ?_
    refine jv_iadd (pc' := 52) (a := ((a + 3 + nd c (a + 3) : Nat) : Int)) (b := 1) rfl rfl ?_
    refine jv_putI (pc' := 55) (c := 12) (k := 19) rfl rfl rfl rfl (fun _ _ _  => rfl) rfl rfl ?_
    refine jv_iload_n (pc' := 56) (k := 2) (x := (iI 1)) rfl rfl rfl rfl ?_
    refine jv_if_eq (t := 74) (pc' := 59) (a := 1) rfl rfl rfl (by omega) (fun hz_13 => ?_) (fun hz_13 => ?_)
    · skip
      exact absurd hz_13 (by decide)
    · skip
      refine jv_aload_n (pc' := 60) (k := 0) (x := 103) rfl rfl rfl rfl ?_
      refine jv_getR (pc' := 63) (c := 12) (k := 35) (v := 125) rfl rfl rfl (fun _ _ => rfl) rfl rfl (jR_103_35 _) ?_
      refine jv_iload_n (pc' := 64) (k := 1) (x := (iI ((nm : Nat) : Int))) rfl rfl rfl rfl ?_
      refine jv_laload (pc' := 65) (n := 8) (e := ((nm : Nat) : Int)) (v := (lI (s 1 nm))) rfl rfl rfl rfl rfl (by omega) ((hM.2.2.2.1 nm (by omega)).1) ?_
      refine jv_iload_n (pc' := 66) (k := 3) (x := (iI (nv c (a + 3)))) rfl rfl rfl rfl ?_
      refine jv_i2l (pc' := 67) (a := (nv c (a + 3))) rfl rfl (by omega) ?_
      refine jv_lc_ge (t := 122) (pc' := 71) (a := (s 1 nm)) (b := (nv c (a + 3))) rfl rfl rfl rfl rfl (by omega) (fun hz_14 => ?_) (fun hz_14 => ?_)
      · skip
        exfalso; omega
      · skip
        refine jx_step (pc' := 86) rfl ?_
        refine jv_aload_n (pc' := 87) (k := 0) (x := 103) rfl rfl rfl rfl ?_
        refine jv_getR (pc' := 90) (c := 12) (k := 38) (v := 127) rfl rfl rfl (fun _ _ => rfl) rfl rfl (jR_103_38 _) ?_
        refine jv_aload_n (pc' := 91) (k := 0) (x := 103) rfl rfl rfl rfl ?_
        refine jv_getI (pc' := 94) (c := 12) (k := 37) (v := (iI ((k.length : Nat) : Int))) rfl rfl rfl (fun _ _ => rfl) rfl rfl hS.2.2.1 ?_
        refine jv_aload_n (pc' := 95) (k := 0) (x := 103) rfl rfl rfl rfl ?_
        refine jv_getI (pc' := 98) (c := 12) (k := 19) (v := (iI ((a + 3 + nd c (a + 3) + 1 : Nat) : Int))) rfl rfl rfl (fun _ _ => rfl) rfl rfl rfl ?_
        refine jv_iastore (pc' := 99) (n := 4) (e := ((k.length : Nat) : Int)) (v := (iI ((a + 3 + nd c (a + 3) + 1 : Nat) : Int))) rfl rfl rfl rfl rfl (by omega) ?_
        refine jv_aload_n (pc' := 100) (k := 0) (x := 103) rfl rfl rfl rfl ?_
        refine jv_getR (pc' := 103) (c := 12) (k := 40) (v := 129) rfl rfl rfl (fun _ _ => rfl) rfl rfl (jR_103_40 _) ?_
        refine jv_aload_n (pc' := 104) (k := 0) (x := 103) rfl rfl rfl rfl ?_
        refine jv_getI (pc' := 107) (c := 12) (k := 37) (v := (iI ((k.length : Nat) : Int))) rfl rfl rfl (fun _ _ => rfl) rfl rfl hS.2.2.1 ?_
        refine jv_iconst (pc' := 108) (n := 0) rfl rfl ?_
        refine jv_bastore (pc' := 109) (n := 4) (e := ((k.length : Nat) : Int)) (v := (iI 0)) rfl rfl rfl rfl rfl (by omega) (by first | exact Or.inl rfl | exact Or.inr rfl) ?_
        refine jv_aload_n (pc' := 110) (k := 0) (x := 103) rfl rfl rfl rfl ?_
        refine jx_step (pc' := 111) rfl ?_
        refine jv_getI (pc' := 114) (c := 12) (k := 37) (v := (iI ((k.length : Nat) : Int))) rfl rfl rfl (fun _ _ => rfl) rfl rfl hS.2.2.1 ?_
        refine jv_iconst (pc' := 115) (n := 1) rfl rfl ?_
        refine jv_iadd (pc' := 116) (a := ((k.length : Nat) : Int)) (b := 1) rfl rfl ?_
        refine jv_putI (pc' := 119) (c := 12) (k := 37) rfl rfl rfl rfl (fun _ _ _  => rfl) rfl rfl ?_
        refine jx_step (pc' := 126) rfl ?_
        refine jv_retV rfl rfl ⟨_, _, rfl, ?_⟩
        first
        | (exfalso; omega)
        | exact ⟨_, _, rfl, rfl, (fr_u (by simp [wM]) (fr_u (by simp [wM]) (fr_u (by simp [wM]) (fr_u (by simp [wM]) (fr_u (by simp [wM]) (fr_u (by simp [wM]) (fr_u (by simp [wM]) (fr_u (by simp [wM]) (fr_r _))))))))), (fr_r _), rfl, hS.2.1, rfl, SK_push (I := I) (M := M) hS.2.2.2.1 ((jm_u_n2 (by omega)).trans ((jm_u_n2 (by omega)).trans (jm_u_eq ⟨rfl, by omega⟩))) ((jm_u_n2 (by omega)).trans (jm_u_eq ⟨rfl, by omega⟩)) (fun z => by cases z) (fun i hi => ⟨(jm_u_n2 (by omega)).trans ((jm_u_n2 (by omega)).trans ((jm_u_n2 (by omega)).trans rfl)), (jm_u_n2 (by omega)).trans ((jm_u_n2 (by omega)).trans ((jm_u_n2 (by omega)).trans rfl)), rfl⟩), hM⟩
set_option maxHeartbeats 4000000 in
theorem ml_runOption_n (hX : MX I fi B sz l bg lim c n) (hS : MS I M a k s) (hB : DB lim sz a k s) {Y : Nat → Nat → Int} {f b : Nat} (hHD : HD c Y f a b) (hca : c a = 63) (hb80 : b ≤ 80) (hch : ¬ CH Y f s) {m e : Nat} (hLQ : LQ c m 1 b e) : jc L xs (d + 2) 147 [.ref 103] (jx_G j I M p) (fun v g1 => ∃ I' M', g1 = jx_G j I' M' p ∧ v = none ∧ fr wM I I' ∧ fr wN M M' ∧ MS I' M' e k s) := by
  unfold jc
  have hV := hB.2.2.1
  have hM := hS.2.2.2.2
  have hkl := hB.2.1
  have hs := hX.2.1.2.2.1
  have hfi := hX.2.1.1
  have hlim := hX.2.2.2.2.2.2.2.1
  have hbg := hX.2.2.2.2.2.2.2.2.1
  have hl := hX.2.2.2.2.2.2.2.2.2
  have hv0 := hV.1
  have hv1 := hV.2.1
  have hv2 := hV.2.2.1
  have hn80 := hX.1.2.1
  obtain ⟨hnr, hn1, h56, hnd, hnum, hc40, rfl⟩ : (97 ≤ c (a + 1) ∧ c (a + 1) ≤ 104) ∧ Y 1 f = c (a + 1) - 97 ∧ ((c (a + 2) = 61 ∧ Y 0 f = 5) ∨ (c (a + 2) = 60 ∧ Y 0 f = 6)) ∧ 0 < nd c (a + 3) ∧ Y 2 f = nv c (a + 3) ∧ c (a + 3 + nd c (a + 3)) = 40 ∧ b = a + 3 + nd c (a + 3) + 1 := by
    rcases hHD with z | z
    · exact absurd z.1 (by omega)
    · exact z.2
  obtain ⟨nm, hnm, hnm8⟩ : ∃ nm : Nat, c (a + 1) - 97 = ((nm : Nat) : Int) ∧ nm < 8 := ⟨(c (a + 1) - 97).toNat, by omega, by omega⟩
  have hv3 := (hV.2.2.2 nm hnm8).1
  unfold CH at hch
  rw [show (Y 1 f).toNat = nm by omega] at hch
  have hnv := nv_b c (a + 3)
  refine jv_aload_n (pc' := 1) (k := 0) (x := 103) rfl rfl rfl rfl ?_
  refine jx_step (pc' := 2) rfl ?_
  refine jv_getI (pc' := 5) (c := 12) (k := 19) (v := (iI ((a : Nat) : Int))) rfl rfl rfl (fun _ _ => rfl) rfl rfl hS.1 ?_
  refine jv_iconst (pc' := 6) (n := 1) rfl rfl ?_
  refine jv_iadd (pc' := 7) (a := ((a : Nat) : Int)) (b := 1) rfl rfl ?_
  refine jv_putI (pc' := 10) (c := 12) (k := 19) rfl rfl rfl rfl (fun _ _ _  => rfl) rfl rfl ?_
  refine jv_aload_n (pc' := 11) (k := 0) (x := 103) rfl rfl rfl rfl ?_
  refine jv_call (pc' := 14) rfl (ml_known_y (I := jm_u I 103 19 (iI (((a : Nat) : Int) + 1))) (a := a + 1) (F := 255) hX.1 rfl (by omega) hX.2.2.2.2.2.2.1 (by omega) (knw_255 hnr)) (fun vq1 gq1 q1 => ?_)
  obtain ⟨rfl, rfl⟩ := q1
  show jx L xs _ 147 14 _ [.int (iI (c (a + 1) - 97))] _ _
  rw [show c (a + 1) - 97 = ((nm : Nat) : Int) by omega]
  refine jv_istore_n (pc' := 15) (k := 1) (x := (iI ((nm : Nat) : Int))) rfl rfl rfl rfl (Or.inr rfl) ?_
  refine jv_aload_n (pc' := 16) (k := 0) (x := 103) rfl rfl rfl rfl ?_
  have hm2 := MT_c hX.1 (a + 2)
  refine jv_call (pc' := 19) rfl (ml_here (I := jm_u (jm_u I 103 19 (iI (((a : Nat) : Int) + 1))) 103 19 (iI ((a + 2 : Nat) : Int))) (a := a + 2) hX.1 rfl (by omega)) (fun vq3 gq3 q3 => ?_)
  obtain ⟨rfl, rfl⟩ := q3
  show jx L xs _ 147 19 _ [.int (iI (c (a + 2)))] _ _
  refine jv_bipush (pc' := 21) (n := 60) rfl rfl rfl ?_
  refine jv_ic_ne (t := 28) (pc' := 24) (a := (c (a + 2))) (b := 60) rfl rfl rfl (by omega) (fun hz_4 => ?_) (fun hz_4 => ?_)
  · skip
    refine jv_iconst (pc' := 29) (n := 0) rfl rfl ?_
    refine jv_istore_n (pc' := 30) (k := 2) (x := (iI 0)) rfl rfl rfl rfl (Or.inr rfl) ?_
    refine jv_aload_n (pc' := 31) (k := 0) (x := 103) rfl rfl rfl rfl ?_
    refine jx_step (pc' := 32) rfl ?_
    refine jv_getI (pc' := 35) (c := 12) (k := 19) (v := (iI ((a + 2 : Nat) : Int))) rfl rfl rfl (fun _ _ => rfl) rfl rfl rfl ?_
    refine jv_iconst (pc' := 36) (n := 1) rfl rfl ?_
    refine jv_iadd (pc' := 37) (a := ((a + 2 : Nat) : Int)) (b := 1) rfl rfl ?_
    refine jv_putI (pc' := 40) (c := 12) (k := 19) rfl rfl rfl rfl (fun _ _ _  => rfl) rfl rfl ?_
    refine jv_aload_n (pc' := 41) (k := 0) (x := 103) rfl rfl rfl rfl ?_
    have hm5 := nv_b c (a + 3)
    have hm6 := nd_le c (a + 3)
    refine jv_call (pc' := 44) rfl (ml_number_y (I := jm_u (jm_u (jm_u I 103 19 (iI (((a : Nat) : Int) + 1))) 103 19 (iI ((a + 2 : Nat) : Int))) 103 19 (iI (((a + 2 : Nat) : Int) + 1))) (a := a + 3) hX.1 rfl (by omega) (by omega)) (fun vq7 gq7 q7 => ?_)
    obtain ⟨rfl, rfl⟩ := q7
    show jx L xs _ 147 44 _ [.int (iI (nv c (a + 3)))] _ _
    refine jv_istore_n (pc' := 45) (k := 3) (x := (iI (nv c (a + 3)))) rfl rfl rfl rfl (Or.inr rfl) ?_
    refine jv_aload_n (pc' := 46) (k := 0) (x := 103) rfl rfl rfl rfl ?_
    refine jx_step (pc' := 47) rfl ?_
    refine jv_getI (pc' := 50) (c := 12) (k := 19) (v := (iI ((a + 3 + nd c (a + 3) : Nat) : Int))) rfl rfl rfl (fun _ _ => rfl) rfl rfl rfl ?_
    refine jv_iconst (pc' := 51) (n := 1) rfl rfl ?_
    refine jv_iadd (pc' := 52) (a := ((a + 3 + nd c (a + 3) : Nat) : Int)) (b := 1) rfl rfl ?_
    refine jv_putI (pc' := 55) (c := 12) (k := 19) rfl rfl rfl rfl (fun _ _ _  => rfl) rfl rfl ?_
    refine jv_iload_n (pc' := 56) (k := 2) (x := (iI 0)) rfl rfl rfl rfl ?_
    refine jv_if_eq (t := 74) (pc' := 59) (a := 0) rfl rfl rfl (by omega) (fun hz_8 => ?_) (fun hz_8 => ?_)
    · skip
      refine jv_aload_n (pc' := 75) (k := 0) (x := 103) rfl rfl rfl rfl ?_
      refine jv_getR (pc' := 78) (c := 12) (k := 35) (v := 125) rfl rfl rfl (fun _ _ => rfl) rfl rfl (jR_103_35 _) ?_
      refine jv_iload_n (pc' := 79) (k := 1) (x := (iI ((nm : Nat) : Int))) rfl rfl rfl rfl ?_
      refine jv_laload (pc' := 80) (n := 8) (e := ((nm : Nat) : Int)) (v := (lI (s 1 nm))) rfl rfl rfl rfl rfl (by omega) ((hM.2.2.2.1 nm (by omega)).1) ?_
      refine jv_iload_n (pc' := 81) (k := 3) (x := (iI (nv c (a + 3)))) rfl rfl rfl rfl ?_
      refine jv_i2l (pc' := 82) (a := (nv c (a + 3))) rfl rfl (by omega) ?_
      refine jv_lc_ne (t := 122) (pc' := 86) (a := (s 1 nm)) (b := (nv c (a + 3))) rfl rfl rfl rfl rfl (by omega) (fun hz_9 => ?_) (fun hz_9 => ?_)
      · skip
        refine jv_aload_n (pc' := 123) (k := 0) (x := 103) rfl rfl rfl rfl ?_
        refine jv_call (pc' := 126) rfl (ml_leap (I := jm_u (jm_u (jm_u (jm_u (jm_u I 103 19 (iI (((a : Nat) : Int) + 1))) 103 19 (iI ((a + 2 : Nat) : Int))) 103 19 (iI (((a + 2 : Nat) : Int) + 1))) 103 19 (iI ((a + 3 + nd c (a + 3) : Nat) : Int))) 103 19 (iI (((a + 3 + nd c (a + 3) : Nat) : Int) + 1))) (a := a + 3 + nd c (a + 3) + 1) hX.1 rfl hLQ) (fun vq10 gq10 q10 => ?_)
        obtain ⟨Iq10, rfl, rfl, uq10, aq10⟩ := q10
        have rq10 : fr wM1 (jm_u (jm_u (jm_u (jm_u (jm_u I 103 19 (iI (((a : Nat) : Int) + 1))) 103 19 (iI ((a + 2 : Nat) : Int))) 103 19 (iI (((a + 2 : Nat) : Int) + 1))) 103 19 (iI ((a + 3 + nd c (a + 3) : Nat) : Int))) 103 19 (iI (((a + 3 + nd c (a + 3) : Nat) : Int) + 1))) Iq10 := fr_w uq10 (fun l k h => by unfold wM1; omega)
        have Xq10 := MX_fr (I := jm_u (jm_u (jm_u (jm_u (jm_u I 103 19 (iI (((a : Nat) : Int) + 1))) 103 19 (iI ((a + 2 : Nat) : Int))) 103 19 (iI (((a + 2 : Nat) : Int) + 1))) 103 19 (iI ((a + 3 + nd c (a + 3) : Nat) : Int))) 103 19 (iI (((a + 3 + nd c (a + 3) : Nat) : Int) + 1))) hX (fr_w rq10 wM_1)
        have Kq10 : SK Iq10 M k := SK_fr (I := jm_u (jm_u (jm_u (jm_u (jm_u I 103 19 (iI (((a : Nat) : Int) + 1))) 103 19 (iI ((a + 2 : Nat) : Int))) 103 19 (iI (((a + 2 : Nat) : Int) + 1))) 103 19 (iI ((a + 3 + nd c (a + 3) : Nat) : Int))) 103 19 (iI (((a + 3 + nd c (a + 3) : Nat) : Int) + 1))) (M := M) (SK_c (I := I) (M := M) hS.2.2.2.1 (fun _ _ => ⟨rfl, rfl, rfl⟩)) rq10 (fr_r _)
        have Dq10 : DM Iq10 M s := DM_at (I := jm_u (jm_u (jm_u (jm_u (jm_u I 103 19 (iI (((a : Nat) : Int) + 1))) 103 19 (iI ((a + 2 : Nat) : Int))) 103 19 (iI (((a + 2 : Nat) : Int) + 1))) 103 19 (iI ((a + 3 + nd c (a + 3) : Nat) : Int))) 103 19 (iI (((a + 3 + nd c (a + 3) : Nat) : Int) + 1))) (M := M) hM uq10
        show jx L xs _ 147 126 _ [] _ _
        refine jv_retV rfl rfl ⟨_, _, rfl, ?_⟩
        first
        | (exfalso; omega)
        | exact ⟨_, _, rfl, rfl, (fr_t (fr_u (by simp [wM]) (fr_u (by simp [wM]) (fr_u (by simp [wM]) (fr_u (by simp [wM]) (fr_u (by simp [wM]) (fr_r _)))))) (fr_w rq10 wM_1)), (fr_r _), aq10, ((uq10 103 33 (by omega)).trans hS.2.1), ((uq10 103 37 (by omega)).trans hS.2.2.1), (SK_c (I := Iq10) (M := M) Kq10 (fun _ _ => ⟨rfl, rfl, rfl⟩)), Dq10⟩
      · skip
        exfalso; omega
    · skip
      exact absurd hz_8 (by decide)
  · skip
    refine jv_iconst (pc' := 25) (n := 1) rfl rfl ?_
    refine jx_step (pc' := 29) rfl ?_
    refine jv_istore_n (pc' := 30) (k := 2) (x := (iI 1)) rfl rfl rfl rfl (Or.inr rfl) ?_
    refine jv_aload_n (pc' := 31) (k := 0) (x := 103) rfl rfl rfl rfl ?_
    refine jx_step (pc' := 32) rfl ?_
    refine jv_getI (pc' := 35) (c := 12) (k := 19) (v := (iI ((a + 2 : Nat) : Int))) rfl rfl rfl (fun _ _ => rfl) rfl rfl rfl ?_
    refine jv_iconst (pc' := 36) (n := 1) rfl rfl ?_
    refine jv_iadd (pc' := 37) (a := ((a + 2 : Nat) : Int)) (b := 1) rfl rfl ?_
    refine jv_putI (pc' := 40) (c := 12) (k := 19) rfl rfl rfl rfl (fun _ _ _  => rfl) rfl rfl ?_
    refine jv_aload_n (pc' := 41) (k := 0) (x := 103) rfl rfl rfl rfl ?_
    have hm11 := nv_b c (a + 3)
    have hm12 := nd_le c (a + 3)
    refine jv_call (pc' := 44) rfl (ml_number_y (I := jm_u (jm_u (jm_u I 103 19 (iI (((a : Nat) : Int) + 1))) 103 19 (iI ((a + 2 : Nat) : Int))) 103 19 (iI (((a + 2 : Nat) : Int) + 1))) (a := a + 3) hX.1 rfl (by omega) (by omega)) (fun vq13 gq13 q13 => ?_)
    obtain ⟨rfl, rfl⟩ := q13
    show jx L xs _ 147 44 _ [.int (iI (nv c (a + 3)))] _ _
    refine jv_istore_n (pc' := 45) (k := 3) (x := (iI (nv c (a + 3)))) rfl rfl rfl rfl (Or.inr rfl) ?_
    refine jv_aload_n (pc' := 46) (k := 0) (x := 103) rfl rfl rfl rfl ?_
    refine jx_step (pc' := 47) rfl ?_
    refine jv_getI (pc' := 50) (c := 12) (k := 19) (v := (iI ((a + 3 + nd c (a + 3) : Nat) : Int))) rfl rfl rfl (fun _ _ => rfl) rfl rfl rfl ?_
    refine jv_iconst (pc' := 51) (n := 1) rfl rfl ?_
    refine jv_iadd (pc' := 52) (a := ((a + 3 + nd c (a + 3) : Nat) : Int)) (b := 1) rfl rfl ?_
    refine jv_putI (pc' := 55) (c := 12) (k := 19) rfl rfl rfl rfl (fun _ _ _  => rfl) rfl rfl ?_
    refine jv_iload_n (pc' := 56) (k := 2) (x := (iI 1)) rfl rfl rfl rfl ?_
    refine jv_if_eq (t := 74) (pc' := 59) (a := 1) rfl rfl rfl (by omega) (fun hz_14 => ?_) (fun hz_14 => ?_)
    · skip
      exact absurd hz_14 (by decide)
    · skip
      refine jv_aload_n (pc' := 60) (k := 0) (x := 103) rfl rfl rfl rfl ?_
      refine jv_getR (pc' := 63) (c := 12) (k := 35) (v := 125) rfl rfl rfl (fun _ _ => rfl) rfl rfl (jR_103_35 _) ?_
      refine jv_iload_n (pc' := 64) (k := 1) (x := (iI ((nm : Nat) : Int))) rfl rfl rfl rfl ?_
      refine jv_laload (pc' := 65) (n := 8) (e := ((nm : Nat) : Int)) (v := (lI (s 1 nm))) rfl rfl rfl rfl rfl (by omega) ((hM.2.2.2.1 nm (by omega)).1) ?_
      refine jv_iload_n (pc' := 66) (k := 3) (x := (iI (nv c (a + 3)))) rfl rfl rfl rfl ?_
      refine jv_i2l (pc' := 67) (a := (nv c (a + 3))) rfl rfl (by omega) ?_
      refine jv_lc_ge (t := 122) (pc' := 71) (a := (s 1 nm)) (b := (nv c (a + 3))) rfl rfl rfl rfl rfl (by omega) (fun hz_15 => ?_) (fun hz_15 => ?_)
      · skip
        refine jv_aload_n (pc' := 123) (k := 0) (x := 103) rfl rfl rfl rfl ?_
        refine jv_call (pc' := 126) rfl (ml_leap (I := jm_u (jm_u (jm_u (jm_u (jm_u I 103 19 (iI (((a : Nat) : Int) + 1))) 103 19 (iI ((a + 2 : Nat) : Int))) 103 19 (iI (((a + 2 : Nat) : Int) + 1))) 103 19 (iI ((a + 3 + nd c (a + 3) : Nat) : Int))) 103 19 (iI (((a + 3 + nd c (a + 3) : Nat) : Int) + 1))) (a := a + 3 + nd c (a + 3) + 1) hX.1 rfl hLQ) (fun vq16 gq16 q16 => ?_)
        obtain ⟨Iq16, rfl, rfl, uq16, aq16⟩ := q16
        have rq16 : fr wM1 (jm_u (jm_u (jm_u (jm_u (jm_u I 103 19 (iI (((a : Nat) : Int) + 1))) 103 19 (iI ((a + 2 : Nat) : Int))) 103 19 (iI (((a + 2 : Nat) : Int) + 1))) 103 19 (iI ((a + 3 + nd c (a + 3) : Nat) : Int))) 103 19 (iI (((a + 3 + nd c (a + 3) : Nat) : Int) + 1))) Iq16 := fr_w uq16 (fun l k h => by unfold wM1; omega)
        have Xq16 := MX_fr (I := jm_u (jm_u (jm_u (jm_u (jm_u I 103 19 (iI (((a : Nat) : Int) + 1))) 103 19 (iI ((a + 2 : Nat) : Int))) 103 19 (iI (((a + 2 : Nat) : Int) + 1))) 103 19 (iI ((a + 3 + nd c (a + 3) : Nat) : Int))) 103 19 (iI (((a + 3 + nd c (a + 3) : Nat) : Int) + 1))) hX (fr_w rq16 wM_1)
        have Kq16 : SK Iq16 M k := SK_fr (I := jm_u (jm_u (jm_u (jm_u (jm_u I 103 19 (iI (((a : Nat) : Int) + 1))) 103 19 (iI ((a + 2 : Nat) : Int))) 103 19 (iI (((a + 2 : Nat) : Int) + 1))) 103 19 (iI ((a + 3 + nd c (a + 3) : Nat) : Int))) 103 19 (iI (((a + 3 + nd c (a + 3) : Nat) : Int) + 1))) (M := M) (SK_c (I := I) (M := M) hS.2.2.2.1 (fun _ _ => ⟨rfl, rfl, rfl⟩)) rq16 (fr_r _)
        have Dq16 : DM Iq16 M s := DM_at (I := jm_u (jm_u (jm_u (jm_u (jm_u I 103 19 (iI (((a : Nat) : Int) + 1))) 103 19 (iI ((a + 2 : Nat) : Int))) 103 19 (iI (((a + 2 : Nat) : Int) + 1))) 103 19 (iI ((a + 3 + nd c (a + 3) : Nat) : Int))) 103 19 (iI (((a + 3 + nd c (a + 3) : Nat) : Int) + 1))) (M := M) hM uq16
        show jx L xs _ 147 126 _ [] _ _
        refine jv_retV rfl rfl ⟨_, _, rfl, ?_⟩
        first
        | (exfalso; omega)
        | exact ⟨_, _, rfl, rfl, (fr_t (fr_u (by simp [wM]) (fr_u (by simp [wM]) (fr_u (by simp [wM]) (fr_u (by simp [wM]) (fr_u (by simp [wM]) (fr_r _)))))) (fr_w rq16 wM_1)), (fr_r _), aq16, ((uq16 103 33 (by omega)).trans hS.2.1), ((uq16 103 37 (by omega)).trans hS.2.2.1), (SK_c (I := Iq16) (M := M) Kq16 (fun _ _ => ⟨rfl, rfl, rfl⟩)), Dq16⟩
      · skip
        refine jx_step (pc' := 86) rfl ?_
        exfalso; omega
end D6
