/-! printed by wip/whole/gen/d3.py: the class runs a field, a block -/
abbrev YL (T : Nat) : Prop := T = 3 ∨ T = 46 ∨ T = 56 ∨ T = 66 ∨ T = 76
theorem YL_A {t : Nat} (h : YL t) (j : Nat) (I : Nat → Nat → Int32) (M : Nat → Nat → Int64) (p : Nat → Option Nat) : jm_isA (jx_G j I M p) t 2 = true := by
  rcases h with rfl | rfl | rfl | rfl | rfl <;> rfl
theorem YL_S {t : Nat} (h : YL t) (i : Nat) (hi : i < 10) : ¬ t + i = jm_S := by
  have : jm_S = 1000000 := rfl
  omega
theorem YL_B1 {t : Nat} (h : YL t) (j : Nat) (I : Nat → Nat → Int32) (M : Nat → Nat → Int64) (p : Nat → Option Nat) : jm_isA (jx_G j I M p) (t + 1) 20 = true := by
  rcases h with rfl | rfl | rfl | rfl | rfl <;> rfl
theorem YL_n1 {t : Nat} (h : YL t) : (jm_SH (t + 1)).2 = 40 := by
  rcases h with rfl | rfl | rfl | rfl | rfl <;> rfl
theorem YL_R1 {t : Nat} (h : YL t) (p : Nat → Option Nat) : jx_R p t 0 = some (t + 1) := by
  rcases h with rfl | rfl | rfl | rfl | rfl
  · exact jR_3_0 p
  · exact jR_46_0 p
  · exact jR_56_0 p
  · exact jR_66_0 p
  · exact jR_76_0 p
theorem YL_B2 {t : Nat} (h : YL t) (j : Nat) (I : Nat → Nat → Int32) (M : Nat → Nat → Int64) (p : Nat → Option Nat) : jm_isA (jx_G j I M p) (t + 2) 20 = true := by
  rcases h with rfl | rfl | rfl | rfl | rfl <;> rfl
theorem YL_n2 {t : Nat} (h : YL t) : (jm_SH (t + 2)).2 = 40 := by
  rcases h with rfl | rfl | rfl | rfl | rfl <;> rfl
theorem YL_R2 {t : Nat} (h : YL t) (p : Nat → Option Nat) : jx_R p t 1 = some (t + 2) := by
  rcases h with rfl | rfl | rfl | rfl | rfl
  · exact jR_3_1 p
  · exact jR_46_1 p
  · exact jR_56_1 p
  · exact jR_66_1 p
  · exact jR_76_1 p
theorem YL_B3 {t : Nat} (h : YL t) (j : Nat) (I : Nat → Nat → Int32) (M : Nat → Nat → Int64) (p : Nat → Option Nat) : jm_isA (jx_G j I M p) (t + 3) 20 = true := by
  rcases h with rfl | rfl | rfl | rfl | rfl <;> rfl
theorem YL_n3 {t : Nat} (h : YL t) : (jm_SH (t + 3)).2 = 40 := by
  rcases h with rfl | rfl | rfl | rfl | rfl <;> rfl
theorem YL_R3 {t : Nat} (h : YL t) (p : Nat → Option Nat) : jx_R p t 2 = some (t + 3) := by
  rcases h with rfl | rfl | rfl | rfl | rfl
  · exact jR_3_2 p
  · exact jR_46_2 p
  · exact jR_56_2 p
  · exact jR_66_2 p
  · exact jR_76_2 p
theorem YL_B4 {t : Nat} (h : YL t) (j : Nat) (I : Nat → Nat → Int32) (M : Nat → Nat → Int64) (p : Nat → Option Nat) : jm_isA (jx_G j I M p) (t + 4) 20 = true := by
  rcases h with rfl | rfl | rfl | rfl | rfl <;> rfl
theorem YL_n4 {t : Nat} (h : YL t) : (jm_SH (t + 4)).2 = 40 := by
  rcases h with rfl | rfl | rfl | rfl | rfl <;> rfl
theorem YL_R4 {t : Nat} (h : YL t) (p : Nat → Option Nat) : jx_R p t 3 = some (t + 4) := by
  rcases h with rfl | rfl | rfl | rfl | rfl
  · exact jR_3_3 p
  · exact jR_46_3 p
  · exact jR_56_3 p
  · exact jR_66_3 p
  · exact jR_76_3 p
theorem YL_B5 {t : Nat} (h : YL t) (j : Nat) (I : Nat → Nat → Int32) (M : Nat → Nat → Int64) (p : Nat → Option Nat) : jm_isA (jx_G j I M p) (t + 5) 20 = true := by
  rcases h with rfl | rfl | rfl | rfl | rfl <;> rfl
theorem YL_n5 {t : Nat} (h : YL t) : (jm_SH (t + 5)).2 = 8 := by
  rcases h with rfl | rfl | rfl | rfl | rfl <;> rfl
theorem YL_R5 {t : Nat} (h : YL t) (p : Nat → Option Nat) : jx_R p t 4 = some (t + 5) := by
  rcases h with rfl | rfl | rfl | rfl | rfl
  · exact jR_3_4 p
  · exact jR_46_4 p
  · exact jR_56_4 p
  · exact jR_66_4 p
  · exact jR_76_4 p
theorem YL_B6 {t : Nat} (h : YL t) (j : Nat) (I : Nat → Nat → Int32) (M : Nat → Nat → Int64) (p : Nat → Option Nat) : jm_isA (jx_G j I M p) (t + 6) 22 = true := by
  rcases h with rfl | rfl | rfl | rfl | rfl <;> rfl
theorem YL_n6 {t : Nat} (h : YL t) : (jm_SH (t + 6)).2 = 8 := by
  rcases h with rfl | rfl | rfl | rfl | rfl <;> rfl
theorem YL_R6 {t : Nat} (h : YL t) (p : Nat → Option Nat) : jx_R p t 5 = some (t + 6) := by
  rcases h with rfl | rfl | rfl | rfl | rfl
  · exact jR_3_5 p
  · exact jR_46_5 p
  · exact jR_56_5 p
  · exact jR_66_5 p
  · exact jR_76_5 p
/-- what the decoder works with: frame F, layer T, and their numbers -/
def DX (I : Nat → Nat → Int32) (p : Nat → Option Nat) (F T : Nat) (B : Nat → Nat) (sz : Nat) (Y : Nat → Nat → Int) (m : Nat) (l : Int) (bg lim : Nat) : Prop := FL F ∧ YL T ∧ p 17 = some F ∧ p 18 = some T ∧ FB I F B sz ∧ LB I T Y m ∧ I 38 7 = iI l ∧ I 38 8 = iI (bg : Int) ∧ I 38 11 = iI (lim : Int) ∧ lim ≤ 64 ∧ bg ≤ 320 ∧ (0 ≤ l ∧ l < 4) ∧ UQ Y m
def wD (l k : Nat) : Prop := (l = 38 ∧ (k = 9 ∨ k = 10)) ∨ (l = 39 ∧ k = 2) ∨ l = 40 ∨ l = 45
def wE (l _k : Nat) : Prop := l = 41 ∨ l = 44
theorem DX_fr {I I' : Nat → Nat → Int32} {p : Nat → Option Nat} {F T : Nat} {B : Nat → Nat} {sz : Nat} {Y : Nat → Nat → Int} {m : Nat} {l : Int} {bg lim : Nat} (h : DX I p F T B sz Y m l bg lim) (f : fr wD I I') : DX I' p F T B sz Y m l bg lim := by
  obtain ⟨h1, h2, h3, h4, h5, h6, h7, h8, h9, hr⟩ := h
  refine ⟨h1, h2, h3, h4, FB_fr h5 f (by unfold wD; omega) (by intro k; unfold wD; omega), LB_fr h6 f (by intro l k q1 q2; unfold wD; omega), (f _ _ (by simp [wD])).trans h7, (f _ _ (by simp [wD])).trans h8, (f _ _ (by simp [wD])).trans h9, hr⟩
section D3
variable {L : Nat} {xs : Nat → Int32} {d j : Nat} {I : Nat → Nat → Int32} {M : Nat → Nat → Int64} {p : Nat → Option Nat}
variable {F T : Nat} {B : Nat → Nat} {sz : Nat} {Y : Nat → Nat → Int} {m : Nat} {l : Int} {bg lim : Nat} {s : DSt}
theorem cl_eadd (hD : DC I M s) {n : Nat} (hn : s 0 2 = (n : Int)) (h64 : n < 64) {l nm bits v mk : Int} : jc L xs d 75 [.ref 39, .int (iI l), .int (iI nm), .int (iI (s 0 0)), .int (iI bits), .long (lI v), .int (iI mk)] (jx_G j I M p) (fun v' g1 => ∃ I' M', g1 = jx_G j I' M' p ∧ v' = none ∧ DC I' M' (dE s l nm bits v mk) ∧ fr (fun l k => (l = 39 ∧ k = 2) ∨ l = 40) I I' ∧ fr (fun l _ => l = 41) M M') := by
  unfold jc
  refine jv_aload_n (pc' := 1) (k := 0) (x := 39) rfl rfl rfl rfl ?_
  refine jv_getI (pc' := 4) (c := 7) (k := 2) (v := (iI (n : Int))) rfl rfl rfl (fun _ _ => rfl) rfl rfl (hn ▸ hD.2.2.1) ?_
  refine jv_bipush (pc' := 6) (n := 64) rfl rfl rfl ?_
  refine jv_ic_lt (t := 10) (pc' := 9) (a := (n : Int)) (b := 64) rfl rfl rfl (by omega) (fun h1 => ?_) (fun h1 => ?_)
  · skip
    refine jv_aload_n (pc' := 11) (k := 0) (x := 39) rfl rfl rfl rfl ?_
    refine jv_getI (pc' := 14) (c := 7) (k := 2) (v := (iI (n : Int))) rfl rfl rfl (fun _ _ => rfl) rfl rfl (hn ▸ hD.2.2.1) ?_
    refine jv_iconst (pc' := 15) (n := 5) rfl rfl ?_
    refine jv_imul (pc' := 16) (a := (n : Int)) (b := 5) rfl rfl ?_
    refine jv_istore (pc' := 18) (k := 8) (x := (iI ((n : Int) * 5))) rfl rfl rfl (Or.inr rfl) ?_
    refine jv_aload_n (pc' := 19) (k := 0) (x := 39) rfl rfl rfl rfl ?_
    refine jv_getR (pc' := 22) (c := 7) (k := 0) (v := 40) rfl rfl rfl (fun _ _ => rfl) rfl rfl (jR_39_0 _) ?_
    refine jv_iload (pc' := 24) (k := 8) (x := (iI ((n : Int) * 5))) rfl rfl rfl ?_
    refine jv_iconst (pc' := 25) (n := 0) rfl rfl ?_
    refine jv_iadd (pc' := 26) (a := ((n : Int) * 5)) (b := 0) rfl rfl ?_
    refine jv_iload_n (pc' := 27) (k := 1) (x := (iI l)) rfl rfl rfl rfl ?_
    refine jv_iastore (pc' := 28) (n := 320) (e := (((n : Int) * 5) + 0)) (v := (iI l)) rfl rfl rfl rfl rfl (by omega) ?_
    refine jv_aload_n (pc' := 29) (k := 0) (x := 39) rfl rfl rfl rfl ?_
    refine jv_getR (pc' := 32) (c := 7) (k := 0) (v := 40) rfl rfl rfl (fun _ _ => rfl) rfl rfl (jR_39_0 _) ?_
    refine jv_iload (pc' := 34) (k := 8) (x := (iI ((n : Int) * 5))) rfl rfl rfl ?_
    refine jv_iconst (pc' := 35) (n := 1) rfl rfl ?_
    refine jv_iadd (pc' := 36) (a := ((n : Int) * 5)) (b := 1) rfl rfl ?_
    refine jv_iload_n (pc' := 37) (k := 2) (x := (iI nm)) rfl rfl rfl rfl ?_
    refine jv_iastore (pc' := 38) (n := 320) (e := (((n : Int) * 5) + 1)) (v := (iI nm)) rfl rfl rfl rfl rfl (by omega) ?_
    refine jv_aload_n (pc' := 39) (k := 0) (x := 39) rfl rfl rfl rfl ?_
    refine jv_getR (pc' := 42) (c := 7) (k := 0) (v := 40) rfl rfl rfl (fun _ _ => rfl) rfl rfl (jR_39_0 _) ?_
    refine jv_iload (pc' := 44) (k := 8) (x := (iI ((n : Int) * 5))) rfl rfl rfl ?_
    refine jv_iconst (pc' := 45) (n := 2) rfl rfl ?_
    refine jv_iadd (pc' := 46) (a := ((n : Int) * 5)) (b := 2) rfl rfl ?_
    refine jv_iload_n (pc' := 47) (k := 3) (x := (iI (s 0 0))) rfl rfl rfl rfl ?_
    refine jv_iastore (pc' := 48) (n := 320) (e := (((n : Int) * 5) + 2)) (v := (iI (s 0 0))) rfl rfl rfl rfl rfl (by omega) ?_
    refine jv_aload_n (pc' := 49) (k := 0) (x := 39) rfl rfl rfl rfl ?_
    refine jv_getR (pc' := 52) (c := 7) (k := 0) (v := 40) rfl rfl rfl (fun _ _ => rfl) rfl rfl (jR_39_0 _) ?_
    refine jv_iload (pc' := 54) (k := 8) (x := (iI ((n : Int) * 5))) rfl rfl rfl ?_
    refine jv_iconst (pc' := 55) (n := 3) rfl rfl ?_
    refine jv_iadd (pc' := 56) (a := ((n : Int) * 5)) (b := 3) rfl rfl ?_
    refine jv_iload (pc' := 58) (k := 4) (x := (iI bits)) rfl rfl rfl ?_
    refine jv_iastore (pc' := 59) (n := 320) (e := (((n : Int) * 5) + 3)) (v := (iI bits)) rfl rfl rfl rfl rfl (by omega) ?_
    refine jv_aload_n (pc' := 60) (k := 0) (x := 39) rfl rfl rfl rfl ?_
    refine jv_getR (pc' := 63) (c := 7) (k := 0) (v := 40) rfl rfl rfl (fun _ _ => rfl) rfl rfl (jR_39_0 _) ?_
    refine jv_iload (pc' := 65) (k := 8) (x := (iI ((n : Int) * 5))) rfl rfl rfl ?_
    refine jv_iconst (pc' := 66) (n := 4) rfl rfl ?_
    refine jv_iadd (pc' := 67) (a := ((n : Int) * 5)) (b := 4) rfl rfl ?_
    refine jv_iload (pc' := 69) (k := 7) (x := (iI mk)) rfl rfl rfl ?_
    refine jv_iastore (pc' := 70) (n := 320) (e := (((n : Int) * 5) + 4)) (v := (iI mk)) rfl rfl rfl rfl rfl (by omega) ?_
    refine jv_aload_n (pc' := 71) (k := 0) (x := 39) rfl rfl rfl rfl ?_
    refine jv_getR (pc' := 74) (c := 7) (k := 1) (v := 41) rfl rfl rfl (fun _ _ => rfl) rfl rfl (jR_39_1 _) ?_
    refine jv_aload_n (pc' := 75) (k := 0) (x := 39) rfl rfl rfl rfl ?_
    refine jv_getI (pc' := 78) (c := 7) (k := 2) (v := (iI (n : Int))) rfl rfl rfl (fun _ _ => rfl) rfl rfl (hn ▸ hD.2.2.1) ?_
    refine jv_lload (pc' := 80) (k := 5) (x := (lI v)) rfl rfl rfl ?_
    refine jv_lastore (pc' := 81) (n := 64) (e := (n : Int)) (v := (lI v)) rfl rfl rfl rfl rfl (by omega) ?_
    refine jv_aload_n (pc' := 82) (k := 0) (x := 39) rfl rfl rfl rfl ?_
    refine jx_step (pc' := 83) rfl ?_
    refine jv_getI (pc' := 86) (c := 7) (k := 2) (v := (iI (n : Int))) rfl rfl rfl (fun _ _ => rfl) rfl rfl (hn ▸ hD.2.2.1) ?_
    refine jv_iconst (pc' := 87) (n := 1) rfl rfl ?_
    refine jv_iadd (pc' := 88) (a := (n : Int)) (b := 1) rfl rfl ?_
    refine jv_putI (pc' := 91) (c := 7) (k := 2) rfl rfl rfl rfl (fun _ _ _  => rfl) rfl rfl ?_
    refine jv_retV rfl rfl ⟨_, _, rfl, ?_⟩
    first
    | (exfalso; omega)
    | (refine ⟨_, _, rfl, rfl, DC_en hD hn (by omega) (by omega) (by omega) (by omega) (by omega) (by omega) (by omega), (fr_u (by simp) (fr_u (by simp) (fr_u (by simp) (fr_u (by simp) (fr_u (by simp) (fr_u (by simp) (fr_r _))))))), (fr_u (rfl) (fr_r _))⟩)
  · skip
    refine jv_retV rfl rfl ⟨_, _, rfl, ?_⟩
    first
    | (exfalso; omega)
    | (refine ⟨_, _, rfl, rfl, DC_en hD hn (by omega) (by omega) (by omega) (by omega) (by omega) (by omega) (by omega), (fr_r _), (fr_r _)⟩)
theorem cl_eadd2 (hD : DC I M s) {n : Nat} (hn : s 0 2 = (n : Int)) (h64 : n < 64) {l nm bits v mk b0 : Int} (hb0 : b0 = s 0 0) : jc L xs d 75 [.ref 39, .int (iI l), .int (iI nm), .int (iI b0), .int (iI bits), .long (lI v), .int (iI mk)] (jx_G j I M p) (fun v' g1 => ∃ I' M', g1 = jx_G j I' M' p ∧ v' = none ∧ DC I' M' (dE s l nm bits v mk) ∧ fr (fun l k => (l = 39 ∧ k = 2) ∨ l = 40) I I' ∧ fr (fun l _ => l = 41) M M') := by
  subst hb0
  exact cl_eadd hD hn h64
theorem wD_1 (l k : Nat) (h : (l = 39 ∧ k = 2) ∨ l = 40) : wD l k := by unfold wD; omega
theorem wE_1 (l k : Nat) (h : l = 41) : wE l k := Or.inl h
theorem DV_n {lim sz : Nat} {s : DSt} (h : DV lim sz s) (hl : lim ≤ 64) : ∃ n : Nat, s 0 2 = (n : Int) ∧ n < 64 := ⟨(s 0 2).toNat, by have := h.2.2.1; have := h.2.1; omega, by have := h.2.2.1; have := h.2.1; omega⟩
theorem cl_makeStep (hX : DX I p F T B sz Y m l bg lim) (hD : DC I M s) (hV : DV lim sz s) {nm : Int} : jc L xs (d + 1) 63 [.ref 38, .int (iI nm)] (jx_G j I M p) (fun v g1 => ∃ I' M', g1 = jx_G j I' M' p ∧ fr wD I I' ∧ fr wE M M' ∧ ((s 0 1 < lim ∧ v = some (.int (iI 1)) ∧ DC I' M' (dS s)) ∨ (¬ s 0 1 < lim ∧ v = some (.int (iI 0)) ∧ DC I' M' (dE s l nm 0 0 4)))) := by
  unfold jc
  have hs := hX.2.2.2.2.1.2.1
  have hlim := hX.2.2.2.2.2.2.2.2.2.1
  have hbg := hX.2.2.2.2.2.2.2.2.2.2.1
  have hl := hX.2.2.2.2.2.2.2.2.2.2.2.1
  have hv0 := hV.1
  have hv1 := hV.2.1
  have hv2 := hV.2.2.1
  refine jv_aload_n (pc' := 1) (k := 0) (x := 38) rfl rfl rfl rfl ?_
  refine jv_getI (pc' := 4) (c := 6) (k := 10) (v := (iI (s 0 1))) rfl rfl rfl (fun _ _ => rfl) rfl rfl hD.2.1 ?_
  refine jv_aload_n (pc' := 5) (k := 0) (x := 38) rfl rfl rfl rfl ?_
  refine jv_getI (pc' := 8) (c := 6) (k := 11) (v := (iI (lim : Int))) rfl rfl rfl (fun _ _ => rfl) rfl rfl hX.2.2.2.2.2.2.2.2.1 ?_
  refine jv_ic_lt (t := 32) (pc' := 11) (a := (s 0 1)) (b := (lim : Int)) rfl rfl rfl (by omega) (fun hz_1 => ?_) (fun hz_1 => ?_)
  · skip
    refine jv_aload_n (pc' := 33) (k := 0) (x := 38) rfl rfl rfl rfl ?_
    refine jx_step (pc' := 34) rfl ?_
    refine jv_getI (pc' := 37) (c := 6) (k := 10) (v := (iI (s 0 1))) rfl rfl rfl (fun _ _ => rfl) rfl rfl hD.2.1 ?_
    refine jv_iconst (pc' := 38) (n := 1) rfl rfl ?_
    refine jv_iadd (pc' := 39) (a := (s 0 1)) (b := 1) rfl rfl ?_
    refine jv_putI (pc' := 42) (c := 6) (k := 10) rfl rfl rfl rfl (fun _ _ _  => rfl) rfl rfl ?_
    refine jv_iconst (pc' := 43) (n := 1) rfl rfl ?_
    refine jv_retZ rfl rfl (by first | exact Or.inl rfl | exact Or.inr rfl) ⟨_, _, rfl, ?_⟩
    first
    | (exfalso; omega)
    | exact ⟨_, _, rfl, (fr_u (by simp [wD]) (fr_r _)), (fr_r _), Or.inl ⟨by omega, rfl, DC_S hD rfl⟩⟩
  · skip
    refine jv_aload_n (pc' := 12) (k := 0) (x := 38) rfl rfl rfl rfl ?_
    refine jv_getR (pc' := 15) (c := 6) (k := 0) (v := 39) rfl rfl rfl (fun _ _ => rfl) rfl rfl (jR_38_0 _) ?_
    refine jv_aload_n (pc' := 16) (k := 0) (x := 38) rfl rfl rfl rfl ?_
    refine jv_getI (pc' := 19) (c := 6) (k := 7) (v := (iI l)) rfl rfl rfl (fun _ _ => rfl) rfl rfl hX.2.2.2.2.2.2.1 ?_
    refine jv_iload_n (pc' := 20) (k := 1) (x := (iI nm)) rfl rfl rfl rfl ?_
    refine jv_aload_n (pc' := 21) (k := 0) (x := 38) rfl rfl rfl rfl ?_
    refine jv_getI (pc' := 24) (c := 6) (k := 9) (v := (iI (s 0 0))) rfl rfl rfl (fun _ _ => rfl) rfl rfl hD.1 ?_
    refine jv_iconst (pc' := 25) (n := 0) rfl rfl ?_
    refine jv_long (pc' := 26) (y := lI 0) rfl (by decide) ?_
    refine jv_iconst (pc' := 27) (n := 4) rfl rfl ?_
    obtain ⟨nq2, hnq2, hmq2⟩ := DV_n hV hlim
    refine jv_call (pc' := 30) rfl (cl_eadd2 (I := I) (M := M) (s := s) hD hnq2 hmq2 (b0 := s 0 0) (by first | rfl | omega)) (fun vq2 gq2 q2 => ?_)
    obtain ⟨Iq2, Mq2, rfl, rfl, Dq2, uq2, wq2⟩ := q2
    have rq2 := fr_w uq2 wD_1
    have tq2 := fr_w wq2 wE_1
    have Xq2 := DX_fr hX rq2
    show jx L xs _ 63 30 _ [] _ _
    refine jv_iconst (pc' := 31) (n := 0) rfl rfl ?_
    refine jv_retZ rfl rfl (by first | exact Or.inl rfl | exact Or.inr rfl) ⟨_, _, rfl, ?_⟩
    first
    | (exfalso; omega)
    | exact ⟨_, _, rfl, (fr_t (fr_r _) rq2), (fr_t (fr_r _) tq2), Or.inr ⟨by omega, rfl, Dq2⟩⟩
theorem cl_bitsLeft (hX : DX I p F T B sz Y m l bg lim) (hD : DC I M s) (hV : DV lim sz s) : jc L xs d 67 [.ref 38] (jx_G j I M p) (fun v g1 => v = some (.int (iI (8 * (sz : Int) - s 0 0))) ∧ g1 = jx_G j I M p) := by
  unfold jc
  have hs := hX.2.2.2.2.1.2.1
  have hlim := hX.2.2.2.2.2.2.2.2.2.1
  have hbg := hX.2.2.2.2.2.2.2.2.2.2.1
  have hl := hX.2.2.2.2.2.2.2.2.2.2.2.1
  have hv0 := hV.1
  have hv1 := hV.2.1
  have hv2 := hV.2.2.1
  refine jv_bipush (pc' := 2) (n := 8) rfl rfl rfl ?_
  refine jv_aload_n (pc' := 3) (k := 0) (x := 38) rfl rfl rfl rfl ?_
  refine jv_getR (pc' := 6) (c := 6) (k := 5) (v := F) rfl rfl rfl (fun _ _ => rfl) rfl rfl hX.2.2.1 ?_
  refine jv_getI (pc' := 9) (c := 5) (k := 1) (v := (iI (sz : Int))) rfl rfl rfl (fun _ _ => rfl) (FL_A hX.1 j _ _ p) rfl hX.2.2.2.2.1.1 ?_
  refine jv_imul (pc' := 10) (a := 8) (b := (sz : Int)) rfl rfl ?_
  refine jv_aload_n (pc' := 11) (k := 0) (x := 38) rfl rfl rfl rfl ?_
  refine jv_getI (pc' := 14) (c := 6) (k := 9) (v := (iI (s 0 0))) rfl rfl rfl (fun _ _ => rfl) rfl rfl hD.1 ?_
  refine jv_isub (pc' := 15) (a := (8 * (sz : Int))) (b := (s 0 0)) rfl rfl ?_
  refine jv_retI rfl rfl ⟨_, _, rfl, ?_⟩
  exact ⟨jq_i (by omega), rfl⟩
variable {k nm w : Nat} {kd num sw : Int}
theorem fm_r (B : Nat → Nat) (bg sz a w : Nat) (kd num : Int) (v : Nat) : 0 ≤ fm B bg sz a w kd num v ∧ fm B bg sz a w kd num v ≤ 3 := by
  unfold fm
  repeat' split
  all_goals omega
theorem fm_0 {B : Nat → Nat} {bg sz a w : Nat} {kd num : Int} {v : Nat} (h : kd = 0) : fm B bg sz a w kd num v = 0 := by
  subst h; rfl
theorem fm_1 {B : Nat → Nat} {bg sz a w : Nat} {kd num : Int} {v : Nat} (h : kd = 1) : fm B bg sz a w kd num v = if (v : Int) = num then 0 else 2 := by
  subst h; rfl
theorem fm_2 {B : Nat → Nat} {bg sz a w : Nat} {kd num : Int} {v : Nat} (h : kd = 2) : fm B bg sz a w kd num v = if v = sm B bg a sz % 2 ^ w then 0 else 3 := by
  subst h; rfl
theorem fv_1 {B : Nat → Nat} {a w : Nat} {sw : Int} (h : sw = 1) : fv B a w sw = tv B a w (w / 8) := if_pos h
theorem fv_0 {B : Nat → Nat} {a w : Nat} {sw : Int} (h : ¬ sw = 1) : fv B a w sw = bv B a w := if_neg h
theorem fv_b (B : Nat → Nat) (a : Nat) {w : Nat} {sw : Int} (hw : w ≤ 32) (hs : sw = 0 ∨ (sw = 1 ∧ (w = 16 ∨ w = 24 ∨ w = 32))) : fv B a w sw < 4294967296 ∧ fv B a w sw < 2 ^ w := by
  unfold fv
  split
  · have h1 := tv_lt B a w (w / 8)
    have h2 : (256 : Nat) ^ (w / 8) = 2 ^ w := by
      rcases hs with hs | ⟨_, hs | hs | hs⟩
      · omega
      · subst hs; rfl
      · subst hs; rfl
      · subst hs; rfl
    rw [h2] at h1
    exact ⟨Nat.lt_of_lt_of_le h1 (Nat.pow_le_pow_right (n := 2) (by decide) hw), h1⟩
  · exact ⟨bv_32 B a hw, bv_lt B a w⟩
theorem lI_p1 {w : Nat} (hw : w ≤ 32) : lI 1 <<< ((iI ((w : Nat) : Int)).toInt64 &&& 63) - lI 1 = lI ((2 ^ w - 1 : Nat) : Int) := by
  have h1 : 2 ^ w ≤ 2 ^ 32 := Nat.pow_le_pow_right (by decide) hw
  have h2 : 0 < 2 ^ w := Nat.two_pow_pos w
  have e := lI_shl (a := 1) (k := w) (by omega) (by omega)
  rw [show ((1 : Nat) : Int) = 1 from rfl] at e
  rw [e, show lI 1 = lI ((1 : Nat) : Int) from rfl, lI_sub]
  congr 1
  omega
theorem cl_isChosen (hX : DX I p F T B sz Y m l bg lim) (hD : DC I M s) (hV : DV lim sz s) (hk : k < m) (h1 : Y 1 k = ((nm : Nat) : Int)) (hnm : nm < 8) (h0 : Y 0 k = 5 ∨ Y 0 k = 6) (h2 : 0 ≤ Y 2 k ∧ Y 2 k < 1000000) : jc L xs d 65 [.ref 38, .int (iI ((k : Nat) : Int))] (jx_G j I M p) (fun v g1 => v = some (.int (jb (CH Y k s))) ∧ g1 = jx_G j I M p) := by
  unfold jc
  have hs := hX.2.2.2.2.1.2.1
  have hlim := hX.2.2.2.2.2.2.2.2.2.1
  have hbg := hX.2.2.2.2.2.2.2.2.2.2.1
  have hl := hX.2.2.2.2.2.2.2.2.2.2.2.1
  have hv0 := hV.1
  have hv1 := hV.2.1
  have hv2 := hV.2.2.1
  have hv3 := (hV.2.2.2 nm hnm).1
  have hm40 := hX.2.2.2.2.2.1.2.1
  refine jv_aload_n (pc' := 1) (k := 0) (x := 38) rfl rfl rfl rfl ?_
  refine jv_getR (pc' := 4) (c := 6) (k := 3) (v := 44) rfl rfl rfl (fun _ _ => rfl) rfl rfl (jR_38_3 _) ?_
  refine jv_aload_n (pc' := 5) (k := 0) (x := 38) rfl rfl rfl rfl ?_
  refine jv_getR (pc' := 8) (c := 6) (k := 6) (v := T) rfl rfl rfl (fun _ _ => rfl) rfl rfl hX.2.2.2.1 ?_
  refine jv_getR (pc' := 11) (c := 2) (k := 1) (v := (T + 2)) rfl rfl rfl (fun _ _ => rfl) (YL_A hX.2.1 j _ _ p) rfl (YL_R2 hX.2.1 p) ?_
  refine jv_iload_n (pc' := 12) (k := 1) (x := (iI ((k : Nat) : Int))) rfl rfl rfl rfl ?_
  refine jv_iaload (pc' := 13) (n := 40) (e := ((k : Nat) : Int)) (v := (iI ((nm : Nat) : Int))) rfl rfl (YL_S hX.2.1 2 (by omega)) (YL_B2 hX.2.1 j _ _ p) (YL_n2 hX.2.1) rfl (by omega) (((hX.2.2.2.2.2.1.2.2.1 k (by omega)).2.1).trans (congrArg iI h1)) ?_
  refine jv_laload (pc' := 14) (n := 8) (e := ((nm : Nat) : Int)) (v := (lI (s 1 nm))) rfl rfl rfl rfl rfl (by omega) ((hD.2.2.2.1 nm (by omega)).1) ?_
  refine jv_lstore_n (pc' := 15) (k := 2) (x := (lI (s 1 nm))) rfl rfl rfl rfl (Or.inr rfl) ?_
  refine jv_aload_n (pc' := 16) (k := 0) (x := 38) rfl rfl rfl rfl ?_
  refine jv_getR (pc' := 19) (c := 6) (k := 6) (v := T) rfl rfl rfl (fun _ _ => rfl) rfl rfl hX.2.2.2.1 ?_
  refine jv_getR (pc' := 22) (c := 2) (k := 2) (v := (T + 3)) rfl rfl rfl (fun _ _ => rfl) (YL_A hX.2.1 j _ _ p) rfl (YL_R3 hX.2.1 p) ?_
  refine jv_iload_n (pc' := 23) (k := 1) (x := (iI ((k : Nat) : Int))) rfl rfl rfl rfl ?_
  refine jv_iaload (pc' := 24) (n := 40) (e := ((k : Nat) : Int)) (v := (iI (Y 2 k))) rfl rfl (YL_S hX.2.1 3 (by omega)) (YL_B3 hX.2.1 j _ _ p) (YL_n3 hX.2.1) rfl (by omega) ((hX.2.2.2.2.2.1.2.2.1 k (by omega)).2.2.1) ?_
  refine jv_istore (pc' := 26) (k := 4) (x := (iI (Y 2 k))) rfl rfl rfl (Or.inr rfl) ?_
  refine jv_aload_n (pc' := 27) (k := 0) (x := 38) rfl rfl rfl rfl ?_
  refine jv_getR (pc' := 30) (c := 6) (k := 6) (v := T) rfl rfl rfl (fun _ _ => rfl) rfl rfl hX.2.2.2.1 ?_
  refine jv_getR (pc' := 33) (c := 2) (k := 0) (v := (T + 1)) rfl rfl rfl (fun _ _ => rfl) (YL_A hX.2.1 j _ _ p) rfl (YL_R1 hX.2.1 p) ?_
  refine jv_iload_n (pc' := 34) (k := 1) (x := (iI ((k : Nat) : Int))) rfl rfl rfl rfl ?_
  refine jv_iaload (pc' := 35) (n := 40) (e := ((k : Nat) : Int)) (v := (iI (Y 0 k))) rfl rfl (YL_S hX.2.1 1 (by omega)) (YL_B1 hX.2.1 j _ _ p) (YL_n1 hX.2.1) rfl (by omega) ((hX.2.2.2.2.2.1.2.2.1 k (by omega)).1) ?_
  refine jv_iconst (pc' := 36) (n := 5) rfl rfl ?_
  refine jv_ic_ne (t := 55) (pc' := 39) (a := (Y 0 k)) (b := 5) rfl rfl rfl (by omega) (fun hz_1 => ?_) (fun hz_1 => ?_)
  · skip
    refine jv_lload_n (pc' := 56) (k := 2) (x := (lI (s 1 nm))) rfl rfl rfl rfl ?_
    refine jv_iload (pc' := 58) (k := 4) (x := (iI (Y 2 k))) rfl rfl rfl ?_
    refine jv_i2l (pc' := 59) (a := (Y 2 k)) rfl rfl (by omega) ?_
    refine jv_lc_ge (t := 67) (pc' := 63) (a := (s 1 nm)) (b := (Y 2 k)) rfl rfl rfl rfl rfl (by omega) (fun hz_2 => ?_) (fun hz_2 => ?_)
    · skip
      refine jv_iconst (pc' := 68) (n := 0) rfl rfl ?_
      refine jv_retZ rfl rfl (by first | exact Or.inl rfl | exact Or.inr rfl) ⟨_, _, rfl, ?_⟩
      first
      | (exfalso; omega)
      | (refine ⟨jq_f (by unfold CH; rw [h1]; simp only [Int.toNat_natCast]; omega), rfl⟩)
    · skip
      refine jv_iconst (pc' := 64) (n := 1) rfl rfl ?_
      refine jx_step (pc' := 68) rfl ?_
      refine jv_retZ rfl rfl (by first | exact Or.inl rfl | exact Or.inr rfl) ⟨_, _, rfl, ?_⟩
      first
      | (exfalso; omega)
      | (refine ⟨jq_t (by unfold CH; rw [h1]; simp only [Int.toNat_natCast]; omega), rfl⟩)
  · skip
    refine jv_lload_n (pc' := 40) (k := 2) (x := (lI (s 1 nm))) rfl rfl rfl rfl ?_
    refine jv_iload (pc' := 42) (k := 4) (x := (iI (Y 2 k))) rfl rfl rfl ?_
    refine jv_i2l (pc' := 43) (a := (Y 2 k)) rfl rfl (by omega) ?_
    refine jv_lc_ne (t := 51) (pc' := 47) (a := (s 1 nm)) (b := (Y 2 k)) rfl rfl rfl rfl rfl (by omega) (fun hz_3 => ?_) (fun hz_3 => ?_)
    · skip
      refine jv_iconst (pc' := 52) (n := 0) rfl rfl ?_
      refine jx_step (pc' := 68) rfl ?_
      refine jv_retZ rfl rfl (by first | exact Or.inl rfl | exact Or.inr rfl) ⟨_, _, rfl, ?_⟩
      first
      | (exfalso; omega)
      | (refine ⟨jq_f (by unfold CH; rw [h1]; simp only [Int.toNat_natCast]; omega), rfl⟩)
    · skip
      refine jv_iconst (pc' := 48) (n := 1) rfl rfl ?_
      refine jx_step (pc' := 68) rfl ?_
      refine jv_retZ rfl rfl (by first | exact Or.inl rfl | exact Or.inr rfl) ⟨_, _, rfl, ?_⟩
      first
      | (exfalso; omega)
      | (refine ⟨jq_t (by unfold CH; rw [h1]; simp only [Int.toNat_natCast]; omega), rfl⟩)
theorem cl_markOf (hX : DX I p F T B sz Y m l bg lim) (hD : DC I M s) {vv pl : Nat} (hpl : s 0 0 = ((pl : Nat) : Int)) (hpb : pl ≤ 320) (hvv : vv < 4294967296) (hk : k < m) (hw : w ≤ 32) (h0 : Y 0 k = 0 ∨ (Y 0 k = 1 ∧ 0 ≤ Y 2 k ∧ Y 2 k < 1000000) ∨ Y 0 k = 2) : jc L xs (d + 1) 70 [.ref 38, .int (iI ((k : Nat) : Int)), .long (lI ((vv : Nat) : Int)), .int (iI ((w : Nat) : Int))] (jx_G j I M p) (fun v g1 => v = some (.int (iI (fm B bg sz pl w (Y 0 k) (Y 2 k) vv))) ∧ g1 = jx_G j I M p) := by
  unfold jc
  have hs := hX.2.2.2.2.1.2.1
  have hlim := hX.2.2.2.2.2.2.2.2.2.1
  have hbg := hX.2.2.2.2.2.2.2.2.2.2.1
  have hl := hX.2.2.2.2.2.2.2.2.2.2.2.1
  have hm40 := hX.2.2.2.2.2.1.2.1
  refine jv_aload_n (pc' := 1) (k := 0) (x := 38) rfl rfl rfl rfl ?_
  refine jv_getR (pc' := 4) (c := 6) (k := 6) (v := T) rfl rfl rfl (fun _ _ => rfl) rfl rfl hX.2.2.2.1 ?_
  refine jv_getR (pc' := 7) (c := 2) (k := 0) (v := (T + 1)) rfl rfl rfl (fun _ _ => rfl) (YL_A hX.2.1 j _ _ p) rfl (YL_R1 hX.2.1 p) ?_
  refine jv_iload_n (pc' := 8) (k := 1) (x := (iI ((k : Nat) : Int))) rfl rfl rfl rfl ?_
  refine jv_iaload (pc' := 9) (n := 40) (e := ((k : Nat) : Int)) (v := (iI (Y 0 k))) rfl rfl (YL_S hX.2.1 1 (by omega)) (YL_B1 hX.2.1 j _ _ p) (YL_n1 hX.2.1) rfl (by omega) ((hX.2.2.2.2.2.1.2.2.1 k (by omega)).1) ?_
  rcases h0 with h0 | ⟨h0, hnum⟩ | h0
  · skip
    rw [h0]
    show jx L xs _ 70 9 _ [.int (iI 0)] _ _
    refine jx_step (pc' := 90) rfl ?_
    show jx L xs _ 70 90 _ [] _ _
    refine jv_iconst (pc' := 91) (n := 0) rfl rfl ?_
    refine jv_retI rfl rfl ⟨_, _, rfl, ?_⟩
    exact ⟨jq_i (fm_0 rfl).symm, rfl⟩
  · skip
    rw [h0]
    show jx L xs _ 70 9 _ [.int (iI 1)] _ _
    refine jx_step (pc' := 36) rfl ?_
    show jx L xs _ 70 36 _ [] _ _
    refine jv_lload_n (pc' := 37) (k := 2) (x := (lI ((vv : Nat) : Int))) rfl rfl rfl rfl ?_
    refine jv_aload_n (pc' := 38) (k := 0) (x := 38) rfl rfl rfl rfl ?_
    refine jv_getR (pc' := 41) (c := 6) (k := 6) (v := T) rfl rfl rfl (fun _ _ => rfl) rfl rfl hX.2.2.2.1 ?_
    refine jv_getR (pc' := 44) (c := 2) (k := 2) (v := (T + 3)) rfl rfl rfl (fun _ _ => rfl) (YL_A hX.2.1 j _ _ p) rfl (YL_R3 hX.2.1 p) ?_
    refine jv_iload_n (pc' := 45) (k := 1) (x := (iI ((k : Nat) : Int))) rfl rfl rfl rfl ?_
    refine jv_iaload (pc' := 46) (n := 40) (e := ((k : Nat) : Int)) (v := (iI (Y 2 k))) rfl rfl (YL_S hX.2.1 3 (by omega)) (YL_B3 hX.2.1 j _ _ p) (YL_n3 hX.2.1) rfl (by omega) ((hX.2.2.2.2.2.1.2.2.1 k (by omega)).2.2.1) ?_
    refine jv_i2l (pc' := 47) (a := (Y 2 k)) rfl rfl (by omega) ?_
    refine jv_lc_ne (t := 55) (pc' := 51) (a := ((vv : Nat) : Int)) (b := (Y 2 k)) rfl rfl rfl rfl rfl (by omega) (fun hz_1 => ?_) (fun hz_1 => ?_)
    · skip
      refine jv_iconst (pc' := 56) (n := 2) rfl rfl ?_
      refine jv_retI rfl rfl ⟨_, _, rfl, ?_⟩
      exact ⟨jq_i ((fm_1 rfl).trans (if_neg (by omega))).symm, rfl⟩
    · skip
      refine jv_iconst (pc' := 52) (n := 0) rfl rfl ?_
      refine jx_step (pc' := 56) rfl ?_
      refine jv_retI rfl rfl ⟨_, _, rfl, ?_⟩
      exact ⟨jq_i ((fm_1 rfl).trans (if_pos (by omega))).symm, rfl⟩
  · skip
    rw [h0]
    show jx L xs _ 70 9 _ [.int (iI 2)] _ _
    refine jx_step (pc' := 57) rfl ?_
    show jx L xs _ 70 57 _ [] _ _
    have hsm := sm_lt hX.2.2.2.2.1.2.2.2 bg pl sz
    have hsm2 := Nat.mod_le (sm B bg pl sz) (2 ^ w)
    refine jv_lload_n (pc' := 58) (k := 2) (x := (lI ((vv : Nat) : Int))) rfl rfl rfl rfl ?_
    refine jv_aload_n (pc' := 59) (k := 0) (x := 38) rfl rfl rfl rfl ?_
    refine jv_getR (pc' := 62) (c := 6) (k := 5) (v := F) rfl rfl rfl (fun _ _ => rfl) rfl rfl hX.2.2.1 ?_
    refine jv_aload_n (pc' := 63) (k := 0) (x := 38) rfl rfl rfl rfl ?_
    refine jv_getI (pc' := 66) (c := 6) (k := 8) (v := (iI (bg : Int))) rfl rfl rfl (fun _ _ => rfl) rfl rfl hX.2.2.2.2.2.2.2.1 ?_
    refine jv_aload_n (pc' := 67) (k := 0) (x := 38) rfl rfl rfl rfl ?_
    refine jv_getI (pc' := 70) (c := 6) (k := 9) (v := (iI ((pl : Nat) : Int))) rfl rfl rfl (fun _ _ => rfl) rfl rfl (hD.1.trans (congrArg iI hpl)) ?_
    refine jv_callv (pc' := 73) rfl rfl rfl rfl (FL_A hX.1 j _ _ p) rfl rfl (cl_sumBetween (a := bg) (n := pl) hX.1 hX.2.2.2.2.1 (by omega) (by omega)) (fun vq2 gq2 q2 => ?_)
    obtain ⟨rfl, rfl⟩ := q2
    show jx L xs _ 70 73 _ [.long (lI ((sm B bg pl sz : Nat) : Int)), .long (lI ((vv : Nat) : Int))] _ _
    refine jv_long (pc' := 74) (y := lI 1) rfl (by decide) ?_
    refine jv_iload (pc' := 76) (k := 4) (x := (iI ((w : Nat) : Int))) rfl rfl rfl ?_
    refine jv_long (pc' := 77) (y := (lI 1) <<< ((iI ((w : Nat) : Int)).toInt64 &&& 63)) rfl rfl ?_
    refine jv_long (pc' := 78) (y := lI 1) rfl (by decide) ?_
    refine jv_long (pc' := 79) (y := (lI 1 <<< ((iI ((w : Nat) : Int)).toInt64 &&& 63) - lI 1)) rfl rfl ?_
    refine jv_long (pc' := 80) (y := (lI ((sm B bg pl sz % 2 ^ w : Nat) : Int))) rfl ((congrArg (fun z => lI ((sm B bg pl sz : Nat) : Int) &&& z) (lI_p1 hw)).trans (lI_mask (by omega) (by omega))) ?_
    refine jv_lc_ne (t := 88) (pc' := 84) (a := ((vv : Nat) : Int)) (b := ((sm B bg pl sz % 2 ^ w : Nat) : Int)) rfl rfl rfl rfl rfl (by omega) (fun hz_3 => ?_) (fun hz_3 => ?_)
    · skip
      refine jv_iconst (pc' := 89) (n := 3) rfl rfl ?_
      refine jv_retI rfl rfl ⟨_, _, rfl, ?_⟩
      exact ⟨jq_i ((fm_2 rfl).trans (if_neg (by omega))).symm, rfl⟩
    · skip
      refine jv_iconst (pc' := 85) (n := 0) rfl rfl ?_
      refine jx_step (pc' := 89) rfl ?_
      refine jv_retI rfl rfl ⟨_, _, rfl, ?_⟩
      exact ⟨jq_i ((fm_2 rfl).trans (if_pos (by omega))).symm, rfl⟩
/-- what a run of items changes for sure -/
def DRes (sz : Nat) (l : Int) (Y : Nat → Nat → Int) (s s' : DSt) : Prop := s 0 1 ≤ s' 0 1 ∧ (0 ≤ s' 0 2 ∧ s' 0 2 ≤ 64) ∧ (∀ W : Nat → Nat → Int, (∀ i, i < 8 → W l.toNat i = Y 4 i) → EP W sz s → EP W sz s')
theorem DRes_t {sz : Nat} {l : Int} {Y : Nat → Nat → Int} {s s1 s2 : DSt} (h : DRes sz l Y s s1) (q : DRes sz l Y s1 s2) : DRes sz l Y s s2 := ⟨Int.le_trans h.1 q.1, q.2.1, fun W hW e => q.2.2 W hW (h.2.2 W hW e)⟩
theorem DRes_r {sz lim : Nat} {l : Int} {Y : Nat → Nat → Int} {s : DSt} (h : DV lim sz s) (hl : lim ≤ 64) : DRes sz l Y s s := ⟨Int.le_refl _, by have := h.2.2.1; have := h.2.1; omega, fun _ _ e => e⟩
theorem DRes_S {sz lim : Nat} {l : Int} {Y : Nat → Nat → Int} {s : DSt} (h : DV lim sz s) (hl : lim ≤ 64) : DRes sz l Y s (dS s) := ⟨by rw [(dS_0 s).2.1]; omega, by rw [(dS_0 s).2.2]; have := h.2.2.1; have := h.2.1; omega, fun _ _ e => EP_S e⟩
theorem DRes_E {sz lim : Nat} {l nm mk : Int} {Y : Nat → Nat → Int} {s : DSt} (h : DV lim sz s) (hl : lim ≤ 64) (hl2 : 0 ≤ l ∧ l < 4) (hn : 0 ≤ nm ∧ nm ≤ 10) (hm : mk = 1 ∨ mk = 4) : DRes sz l Y s (dE s l nm 0 0 mk) := by
  have a := h.1; have b := h.2.1; have c := h.2.2.1
  obtain ⟨e1, e2, e3⟩ := dE_0 s l nm 0 0 mk
  exact ⟨by rw [e2]; omega, by rw [e3]; omega, fun W _ e => EP_E e (by omega) (by omega) (by omega)⟩
theorem DRes_F {sz lim nm w : Nat} {l mk v : Int} {Y : Nat → Nat → Int} {s : DSt} (h : DV lim sz s) (hl : lim ≤ 64) (hl2 : 0 ≤ l ∧ l < 4) (hn : nm < 8) (hm : 0 ≤ mk ∧ mk ≤ 3) (hw : (w : Int) ≤ 8 * (sz : Int) - s 0 0) (hv : 0 ≤ v ∧ v < 4294967296) (hv2 : v < 2 ^ w) (hy : Y 4 nm = (w : Int)) : DRes sz l Y s (dF (dE s l nm w v mk) nm w v) := by
  have a := h.1; have b := h.2.1; have c := h.2.2.1
  obtain ⟨e1, e2, e3⟩ := dE_0 s l nm w v mk
  obtain ⟨d1, d2, d3⟩ := dF_0 (dE s l nm w v mk) nm w v
  refine ⟨by rw [d2, e2]; omega, by rw [d3, e3]; omega, fun W hW e => EP_F (EP_E e (by omega) (by omega) (Or.inr (Or.inr (Or.inr ⟨by omega, ?_, ?_⟩))))⟩
  · rw [Int.toNat_natCast, hW nm hn, hy]
  · rw [Int.toNat_natCast]; exact hv2
theorem DRes_B {sz lim : Nat} {l ct : Int} {Y : Nat → Nat → Int} {s : DSt} (h : DV lim sz s) (hl : lim ≤ 64) (hl2 : 0 ≤ l ∧ l < 4) (hw : 0 ≤ ct ∧ 8 * ct ≤ 8 * (sz : Int) - s 0 0) (hs : sz ≤ 40) : DRes sz l Y s (dP (dE s l 8 (8 * ct) ct 0) (8 * ct)) := by
  have a := h.1; have b := h.2.1; have c := h.2.2.1
  obtain ⟨e1, e2, e3⟩ := dE_0 s l 8 (8 * ct) ct 0
  obtain ⟨d1, d2, d3⟩ := dP_0 (dE s l 8 (8 * ct) ct 0) (8 * ct)
  exact ⟨by rw [d2, e2]; omega, by rw [d3, e3]; omega, fun W hW e => EP_P (EP_E e (by omega) (by omega) (by omega))⟩
theorem cl_runField (hX : DX I p F T B sz Y m l bg lim) (hD : DC I M s) (hV : DV lim sz s) (hk : k < m) (h1 : Y 1 k = ((nm : Nat) : Int)) (hnm : nm < 8) (h4 : Y 4 nm = ((w : Nat) : Int)) (hw : 1 ≤ w ∧ w ≤ 32) (h5 : Y 5 nm = 0 ∨ (Y 5 nm = 1 ∧ (w = 16 ∨ w = 24 ∨ w = 32))) (h0 : Y 0 k = 0 ∨ (Y 0 k = 1 ∧ 0 ≤ Y 2 k ∧ Y 2 k < 1000000) ∨ Y 0 k = 2) : jc L xs (d + 2) 69 [.ref 38, .int (iI ((k : Nat) : Int))] (jx_G j I M p) (fun v g1 => ∃ I' M' s', g1 = jx_G j I' M' p ∧ fr wD I I' ∧ fr wE M M' ∧ DC I' M' s' ∧ DRes sz l Y s s' ∧ ((v = some (.int (iI 1)) ∧ DV lim sz s' ∧ FD B lim sz bg l nm w (Y 5 nm) (Y 0 k) (Y 2 k) s true s' ∧ ∀ i, i ≠ nm → s' 1 i = s 1 i) ∨ (v = some (.int (iI 0)) ∧ FD B lim sz bg l nm w (Y 5 nm) (Y 0 k) (Y 2 k) s false s'))) := by
  unfold jc
  have hs := hX.2.2.2.2.1.2.1
  have hlim := hX.2.2.2.2.2.2.2.2.2.1
  have hbg := hX.2.2.2.2.2.2.2.2.2.2.1
  have hl := hX.2.2.2.2.2.2.2.2.2.2.2.1
  have hv0 := hV.1
  have hv1 := hV.2.1
  have hv2 := hV.2.2.1
  have hm40 := hX.2.2.2.2.2.1.2.1
  obtain ⟨pl, hpl⟩ : ∃ pl : Nat, s 0 0 = ((pl : Nat) : Int) := ⟨(s 0 0).toNat, by omega⟩
  refine jv_aload_n (pc' := 1) (k := 0) (x := 38) rfl rfl rfl rfl ?_
  refine jv_getR (pc' := 4) (c := 6) (k := 6) (v := T) rfl rfl rfl (fun _ _ => rfl) rfl rfl hX.2.2.2.1 ?_
  refine jv_getR (pc' := 7) (c := 2) (k := 1) (v := (T + 2)) rfl rfl rfl (fun _ _ => rfl) (YL_A hX.2.1 j _ _ p) rfl (YL_R2 hX.2.1 p) ?_
  refine jv_iload_n (pc' := 8) (k := 1) (x := (iI ((k : Nat) : Int))) rfl rfl rfl rfl ?_
  refine jv_iaload (pc' := 9) (n := 40) (e := ((k : Nat) : Int)) (v := (iI ((nm : Nat) : Int))) rfl rfl (YL_S hX.2.1 2 (by omega)) (YL_B2 hX.2.1 j _ _ p) (YL_n2 hX.2.1) rfl (by omega) (((hX.2.2.2.2.2.1.2.2.1 k (by omega)).2.1).trans (congrArg iI h1)) ?_
  refine jv_istore_n (pc' := 10) (k := 2) (x := (iI ((nm : Nat) : Int))) rfl rfl rfl rfl (Or.inr rfl) ?_
  refine jv_aload_n (pc' := 11) (k := 0) (x := 38) rfl rfl rfl rfl ?_
  refine jv_getR (pc' := 14) (c := 6) (k := 6) (v := T) rfl rfl rfl (fun _ _ => rfl) rfl rfl hX.2.2.2.1 ?_
  refine jv_getR (pc' := 17) (c := 2) (k := 4) (v := (T + 5)) rfl rfl rfl (fun _ _ => rfl) (YL_A hX.2.1 j _ _ p) rfl (YL_R5 hX.2.1 p) ?_
  refine jv_iload_n (pc' := 18) (k := 2) (x := (iI ((nm : Nat) : Int))) rfl rfl rfl rfl ?_
  refine jv_iaload (pc' := 19) (n := 8) (e := ((nm : Nat) : Int)) (v := (iI ((w : Nat) : Int))) rfl rfl (YL_S hX.2.1 5 (by omega)) (YL_B5 hX.2.1 j _ _ p) (YL_n5 hX.2.1) rfl (by omega) (((hX.2.2.2.2.2.1.2.2.2 nm (by omega)).1).trans (congrArg iI h4)) ?_
  refine jv_istore_n (pc' := 20) (k := 3) (x := (iI ((w : Nat) : Int))) rfl rfl rfl rfl (Or.inr rfl) ?_
  refine jv_aload_n (pc' := 21) (k := 0) (x := 38) rfl rfl rfl rfl ?_
  refine jv_iload_n (pc' := 22) (k := 2) (x := (iI ((nm : Nat) : Int))) rfl rfl rfl rfl ?_
  refine jv_call (pc' := 25) rfl (cl_makeStep (I := I) (M := M) (s := s) (nm := ((nm : Nat) : Int)) hX hD hV) (fun vq1 gq1 q1 => ?_)
  obtain ⟨Iq1, Mq1, rfl, rq1, tq1, q1⟩ := q1
  rcases q1 with ⟨oq1, rfl, Dq1⟩ | ⟨oq1, rfl, Dq1⟩
  · skip
    have Xq1 := DX_fr hX rq1
    have Vq1 := DV_S hV oq1
    have epq1 : dS s 0 0 = ((pl : Nat) : Int) := hpl
    show jx L xs _ 69 25 _ [.int (iI 1)] _ _
    refine jv_if_ne (t := 30) (pc' := 28) (a := 1) rfl rfl rfl (by omega) (fun hz_2 => ?_) (fun hz_2 => ?_)
    · skip
      refine jv_iload_n (pc' := 31) (k := 3) (x := (iI ((w : Nat) : Int))) rfl rfl rfl rfl ?_
      refine jv_aload_n (pc' := 32) (k := 0) (x := 38) rfl rfl rfl rfl ?_
      refine jv_call (pc' := 35) rfl (cl_bitsLeft (I := Iq1) (M := Mq1) (s := (dS s)) Xq1 Dq1 Vq1.1) (fun vq3 gq3 q3 => ?_)
      obtain ⟨rfl, rfl⟩ := q3
      show jx L xs _ 69 35 _ [.int (iI (8 * (sz : Int) - (dS s) 0 0)), .int (iI ((w : Nat) : Int))] _ _
      refine jv_ic_le (t := 59) (pc' := 38) (a := ((w : Nat) : Int)) (b := (8 * (sz : Int) - (dS s) 0 0)) rfl rfl rfl (by omega) (fun hz_4 => ?_) (fun hz_4 => ?_)
      · skip
        refine jv_aload_n (pc' := 60) (k := 0) (x := 38) rfl rfl rfl rfl ?_
        refine jv_getR (pc' := 63) (c := 6) (k := 5) (v := F) rfl rfl rfl (fun _ _ => rfl) rfl rfl hX.2.2.1 ?_
        refine jv_aload_n (pc' := 64) (k := 0) (x := 38) rfl rfl rfl rfl ?_
        refine jv_getI (pc' := 67) (c := 6) (k := 9) (v := (iI ((pl : Nat) : Int))) rfl rfl rfl (fun _ _ => rfl) rfl rfl (Dq1.1.trans (congrArg iI hpl)) ?_
        refine jv_iload_n (pc' := 68) (k := 3) (x := (iI ((w : Nat) : Int))) rfl rfl rfl rfl ?_
        refine jv_callv (pc' := 71) rfl rfl rfl rfl (FL_A hX.1 j _ _ p) rfl rfl (cl_bitsAt (I := Iq1) (M := Mq1) (a := pl) (n := w) Xq1.1 Xq1.2.2.2.2.1 (by omega) (by omega)) (fun vq5 gq5 q5 => ?_)
        obtain ⟨rfl, rfl⟩ := q5
        show jx L xs _ 69 71 _ [.long (lI ((bv B pl w : Nat) : Int))] _ _
        refine jv_lstore (pc' := 73) (k := 4) (x := (lI ((bv B pl w : Nat) : Int))) rfl rfl rfl (Or.inr rfl) ?_
        refine jv_aload_n (pc' := 74) (k := 0) (x := 38) rfl rfl rfl rfl ?_
        refine jv_getR (pc' := 77) (c := 6) (k := 6) (v := T) rfl rfl rfl (fun _ _ => rfl) rfl rfl hX.2.2.2.1 ?_
        refine jv_getR (pc' := 80) (c := 2) (k := 5) (v := (T + 6)) rfl rfl rfl (fun _ _ => rfl) (YL_A hX.2.1 j _ _ p) rfl (YL_R6 hX.2.1 p) ?_
        refine jv_iload_n (pc' := 81) (k := 2) (x := (iI ((nm : Nat) : Int))) rfl rfl rfl rfl ?_
        refine jv_baload (pc' := 82) (n := 8) (e := ((nm : Nat) : Int)) (v := (iI (Y 5 nm))) rfl rfl (YL_B6 hX.2.1 j _ _ p) (YL_n6 hX.2.1) rfl (by omega) ((Xq1.2.2.2.2.2.1.2.2.2 nm (by omega)).2.1) ?_
        refine jv_if_eq (t := 93) (pc' := 85) (a := (Y 5 nm)) rfl rfl rfl (by omega) (fun hz_6 => ?_) (fun hz_6 => ?_)
        · skip
          refine jv_aload_n (pc' := 94) (k := 0) (x := 38) rfl rfl rfl rfl ?_
          refine jv_iload_n (pc' := 95) (k := 1) (x := (iI ((k : Nat) : Int))) rfl rfl rfl rfl ?_
          refine jv_lload (pc' := 97) (k := 4) (x := (lI ((bv B pl w : Nat) : Int))) rfl rfl rfl ?_
          refine jv_iload_n (pc' := 98) (k := 3) (x := (iI ((w : Nat) : Int))) rfl rfl rfl rfl ?_
          have hbb := bv_32 B pl (n := w) (by omega)
          have htt := tv_32 B pl w (i := w / 8) (by omega)
          refine jv_call (pc' := 101) rfl (cl_markOf (d := d) (I := Iq1) (M := Mq1) (k := k) (w := w) (vv := bv B pl w) (pl := pl) (s := (dS s)) Xq1 Dq1 hpl (by omega) (by omega) hk (by omega) h0) (fun vq8 gq8 q8 => ?_)
          obtain ⟨rfl, rfl⟩ := q8
          have hmr := fm_r B bg sz pl w (Y 0 k) (Y 2 k) (bv B pl w)
          show jx L xs _ 69 101 _ [.int (iI (fm B bg sz pl w (Y 0 k) (Y 2 k) (bv B pl w)))] _ _
          refine jv_istore (pc' := 103) (k := 6) (x := (iI (fm B bg sz pl w (Y 0 k) (Y 2 k) (bv B pl w)))) rfl rfl rfl (Or.inr rfl) ?_
          refine jv_aload_n (pc' := 104) (k := 0) (x := 38) rfl rfl rfl rfl ?_
          refine jv_getR (pc' := 107) (c := 6) (k := 0) (v := 39) rfl rfl rfl (fun _ _ => rfl) rfl rfl (jR_38_0 _) ?_
          refine jv_aload_n (pc' := 108) (k := 0) (x := 38) rfl rfl rfl rfl ?_
          refine jv_getI (pc' := 111) (c := 6) (k := 7) (v := (iI l)) rfl rfl rfl (fun _ _ => rfl) rfl rfl Xq1.2.2.2.2.2.2.1 ?_
          refine jv_iload_n (pc' := 112) (k := 2) (x := (iI ((nm : Nat) : Int))) rfl rfl rfl rfl ?_
          refine jv_aload_n (pc' := 113) (k := 0) (x := 38) rfl rfl rfl rfl ?_
          refine jv_getI (pc' := 116) (c := 6) (k := 9) (v := (iI ((pl : Nat) : Int))) rfl rfl rfl (fun _ _ => rfl) rfl rfl (Dq1.1.trans (congrArg iI hpl)) ?_
          refine jv_iload_n (pc' := 117) (k := 3) (x := (iI ((w : Nat) : Int))) rfl rfl rfl rfl ?_
          refine jv_lload (pc' := 119) (k := 4) (x := (lI ((bv B pl w : Nat) : Int))) rfl rfl rfl ?_
          refine jv_iload (pc' := 121) (k := 6) (x := (iI (fm B bg sz pl w (Y 0 k) (Y 2 k) (bv B pl w)))) rfl rfl rfl ?_
          obtain ⟨nq9, hnq9, hmq9⟩ := DV_n Vq1.1 hlim
          refine jv_call (pc' := 124) rfl (cl_eadd2 (I := Iq1) (M := Mq1) (s := (dS s)) Dq1 hnq9 hmq9 (b0 := ((pl : Nat) : Int)) (by first | rfl | omega)) (fun vq9 gq9 q9 => ?_)
          obtain ⟨Iq9, Mq9, rfl, rfl, Dq9, uq9, wq9⟩ := q9
          have rq9 := fr_w uq9 wD_1
          have tq9 := fr_w wq9 wE_1
          have Xq9 := DX_fr Xq1 rq9
          show jx L xs _ 69 124 _ [] _ _
          refine jv_aload_n (pc' := 125) (k := 0) (x := 38) rfl rfl rfl rfl ?_
          refine jv_getR (pc' := 128) (c := 6) (k := 3) (v := 44) rfl rfl rfl (fun _ _ => rfl) rfl rfl (jR_38_3 _) ?_
          refine jv_iload_n (pc' := 129) (k := 2) (x := (iI ((nm : Nat) : Int))) rfl rfl rfl rfl ?_
          refine jv_lload (pc' := 131) (k := 4) (x := (lI ((bv B pl w : Nat) : Int))) rfl rfl rfl ?_
          refine jv_lastore (pc' := 132) (n := 8) (e := ((nm : Nat) : Int)) (v := (lI ((bv B pl w : Nat) : Int))) rfl rfl rfl rfl rfl (by omega) ?_
          refine jv_aload_n (pc' := 133) (k := 0) (x := 38) rfl rfl rfl rfl ?_
          refine jv_getR (pc' := 136) (c := 6) (k := 4) (v := 45) rfl rfl rfl (fun _ _ => rfl) rfl rfl (jR_38_4 _) ?_
          refine jv_iload_n (pc' := 137) (k := 2) (x := (iI ((nm : Nat) : Int))) rfl rfl rfl rfl ?_
          refine jv_iconst (pc' := 138) (n := 1) rfl rfl ?_
          refine jv_bastore (pc' := 139) (n := 8) (e := ((nm : Nat) : Int)) (v := (iI 1)) rfl rfl rfl rfl rfl (by omega) (by first | exact Or.inl rfl | exact Or.inr rfl) ?_
          refine jv_aload_n (pc' := 140) (k := 0) (x := 38) rfl rfl rfl rfl ?_
          refine jx_step (pc' := 141) rfl ?_
          refine jv_getI (pc' := 144) (c := 6) (k := 9) (v := (iI ((dE (dS s) l ((nm : Nat) : Int) ((w : Nat) : Int) ((bv B pl w : Nat) : Int) (fm B bg sz pl w (Y 0 k) (Y 2 k) (bv B pl w))) 0 0))) rfl rfl rfl (fun _ _ => rfl) rfl rfl Dq9.1 ?_
          refine jv_iload_n (pc' := 145) (k := 3) (x := (iI ((w : Nat) : Int))) rfl rfl rfl rfl ?_
          refine jv_iadd (pc' := 146) (a := ((dE (dS s) l ((nm : Nat) : Int) ((w : Nat) : Int) ((bv B pl w : Nat) : Int) (fm B bg sz pl w (Y 0 k) (Y 2 k) (bv B pl w))) 0 0)) (b := ((w : Nat) : Int)) rfl rfl ?_
          refine jv_putI (pc' := 149) (c := 6) (k := 9) rfl rfl rfl rfl (fun _ _ _  => rfl) rfl rfl ?_
          refine jv_iload (pc' := 151) (k := 6) (x := (iI (fm B bg sz pl w (Y 0 k) (Y 2 k) (bv B pl w)))) rfl rfl rfl ?_
          refine jv_iconst (pc' := 152) (n := 2) rfl rfl ?_
          refine jv_ic_eq (t := 159) (pc' := 155) (a := (fm B bg sz pl w (Y 0 k) (Y 2 k) (bv B pl w))) (b := 2) rfl rfl rfl (by omega) (fun hz_10 => ?_) (fun hz_10 => ?_)
          · skip
            refine jv_iconst (pc' := 160) (n := 0) rfl rfl ?_
            refine jv_retZ rfl rfl (by first | exact Or.inl rfl | exact Or.inr rfl) ⟨_, _, rfl, ?_⟩
            first
            | (exfalso; omega)
            | (have ev : bv B pl w = fv B (dS s 0 0).toNat w (Y 5 nm) := by rw [show (dS s 0 0).toNat = pl from (congrArg Int.toNat hpl)]; exact (fv_0 (by omega)).symm
               have em : fm B bg sz pl w (Y 0 k) (Y 2 k) (bv B pl w) = fm B bg sz (dS s 0 0).toNat w (Y 0 k) (Y 2 k) (bv B pl w) := by rw [show (dS s 0 0).toNat = pl from (congrArg Int.toNat hpl)]
               have eb := fv_b B (dS s 0 0).toNat (w := w) (sw := Y 5 nm) (by omega) h5
               rw [← ev] at eb
               have ep : dS s 0 0 = ((pl : Nat) : Int) := hpl
               have eb2 : ((bv B pl w : Nat) : Int) < 2 ^ w := by exact_mod_cast eb.2
               exact ⟨_, _, _, rfl, (fr_u (by simp [wD]) (fr_u (by simp [wD]) (fr_t (fr_t (fr_r _) rq1) rq9))), (fr_u (by simp [wE]) (fr_t (fr_t (fr_r _) tq1) tq9)), DC_F Dq9 rfl rfl (by rfl), DRes_t (DRes_S hV hlim) (DRes_F Vq1.1 hlim hl hnm hmr (by omega) (by omega) eb2 h4), Or.inr ⟨rfl, _, Or.inr (Or.inr ⟨Or.inl ⟨oq1, rfl, rfl⟩, by omega, _, _, ev, em, (decide_eq_false (by omega)).symm, rfl⟩)⟩⟩)
          · skip
            refine jv_iconst (pc' := 156) (n := 1) rfl rfl ?_
            refine jx_step (pc' := 160) rfl ?_
            refine jv_retZ rfl rfl (by first | exact Or.inl rfl | exact Or.inr rfl) ⟨_, _, rfl, ?_⟩
            first
            | (exfalso; omega)
            | (have ev : bv B pl w = fv B (dS s 0 0).toNat w (Y 5 nm) := by rw [show (dS s 0 0).toNat = pl from (congrArg Int.toNat hpl)]; exact (fv_0 (by omega)).symm
               have em : fm B bg sz pl w (Y 0 k) (Y 2 k) (bv B pl w) = fm B bg sz (dS s 0 0).toNat w (Y 0 k) (Y 2 k) (bv B pl w) := by rw [show (dS s 0 0).toNat = pl from (congrArg Int.toNat hpl)]
               have eb := fv_b B (dS s 0 0).toNat (w := w) (sw := Y 5 nm) (by omega) h5
               rw [← ev] at eb
               have ep : dS s 0 0 = ((pl : Nat) : Int) := hpl
               have eb2 : ((bv B pl w : Nat) : Int) < 2 ^ w := by exact_mod_cast eb.2
               exact ⟨_, _, _, rfl, (fr_u (by simp [wD]) (fr_u (by simp [wD]) (fr_t (fr_t (fr_r _) rq1) rq9))), (fr_u (by simp [wE]) (fr_t (fr_t (fr_r _) tq1) tq9)), DC_F Dq9 rfl rfl (by rfl), DRes_t (DRes_S hV hlim) (DRes_F Vq1.1 hlim hl hnm hmr (by omega) (by omega) eb2 h4), Or.inl ⟨rfl, DV_F Vq1.1 Vq1.2 (by omega) (by omega), ⟨_, Or.inr (Or.inr ⟨Or.inl ⟨oq1, rfl, rfl⟩, by omega, _, _, ev, em, (decide_eq_true (by omega)).symm, rfl⟩)⟩, fun i hi => ((dF_1 _ nm _ _ i).1.trans (if_neg (by omega))).trans ((dE_1 _ _ _ _ _ _ i).1.trans (dS_r s (by omega) i))⟩⟩)
        · skip
          refine jv_lload (pc' := 87) (k := 4) (x := (lI ((bv B pl w : Nat) : Int))) rfl rfl rfl ?_
          refine jv_iload_n (pc' := 88) (k := 3) (x := (iI ((w : Nat) : Int))) rfl rfl rfl rfl ?_
          have hw8 : 8 * (w / 8) = w := by omega
          refine jv_call (pc' := 91) rfl (show jc L xs _ 71 [.long (lI ((bv B pl w : Nat) : Int)), .int (iI ((w : Nat) : Int))] (jx_G j Iq1 Mq1 p) (fun v g1 => v = some (.long (lI ((tv B pl w (w / 8) : Nat) : Int))) ∧ g1 = (jx_G j Iq1 Mq1 p)) from hw8 ▸ (by have := cl_swapBytes (L := L) (xs := xs) (d := d + 1) (j := j) (I := Iq1) (M := Mq1) (p := p) (B := B) (a := pl) (m := w / 8) (by omega); rw [Nat.mul_div_cancel_left _ (by decide : 0 < 8)]; exact this)) (fun vq11 gq11 q11 => ?_)
          obtain ⟨rfl, rfl⟩ := q11
          show jx L xs _ 69 91 _ [.long (lI ((tv B pl w (w / 8) : Nat) : Int))] _ _
          refine jv_lstore (pc' := 93) (k := 4) (x := (lI ((tv B pl w (w / 8) : Nat) : Int))) rfl rfl rfl (Or.inr rfl) ?_
          refine jv_aload_n (pc' := 94) (k := 0) (x := 38) rfl rfl rfl rfl ?_
          refine jv_iload_n (pc' := 95) (k := 1) (x := (iI ((k : Nat) : Int))) rfl rfl rfl rfl ?_
          refine jv_lload (pc' := 97) (k := 4) (x := (lI ((tv B pl w (w / 8) : Nat) : Int))) rfl rfl rfl ?_
          refine jv_iload_n (pc' := 98) (k := 3) (x := (iI ((w : Nat) : Int))) rfl rfl rfl rfl ?_
          have hbb := bv_32 B pl (n := w) (by omega)
          have htt := tv_32 B pl w (i := w / 8) (by omega)
          refine jv_call (pc' := 101) rfl (cl_markOf (d := d) (I := Iq1) (M := Mq1) (k := k) (w := w) (vv := tv B pl w (w / 8)) (pl := pl) (s := (dS s)) Xq1 Dq1 hpl (by omega) (by omega) hk (by omega) h0) (fun vq13 gq13 q13 => ?_)
          obtain ⟨rfl, rfl⟩ := q13
          have hmr := fm_r B bg sz pl w (Y 0 k) (Y 2 k) (tv B pl w (w / 8))
          show jx L xs _ 69 101 _ [.int (iI (fm B bg sz pl w (Y 0 k) (Y 2 k) (tv B pl w (w / 8))))] _ _
          refine jv_istore (pc' := 103) (k := 6) (x := (iI (fm B bg sz pl w (Y 0 k) (Y 2 k) (tv B pl w (w / 8))))) rfl rfl rfl (Or.inr rfl) ?_
          refine jv_aload_n (pc' := 104) (k := 0) (x := 38) rfl rfl rfl rfl ?_
          refine jv_getR (pc' := 107) (c := 6) (k := 0) (v := 39) rfl rfl rfl (fun _ _ => rfl) rfl rfl (jR_38_0 _) ?_
          refine jv_aload_n (pc' := 108) (k := 0) (x := 38) rfl rfl rfl rfl ?_
          refine jv_getI (pc' := 111) (c := 6) (k := 7) (v := (iI l)) rfl rfl rfl (fun _ _ => rfl) rfl rfl Xq1.2.2.2.2.2.2.1 ?_
          refine jv_iload_n (pc' := 112) (k := 2) (x := (iI ((nm : Nat) : Int))) rfl rfl rfl rfl ?_
          refine jv_aload_n (pc' := 113) (k := 0) (x := 38) rfl rfl rfl rfl ?_
          refine jv_getI (pc' := 116) (c := 6) (k := 9) (v := (iI ((pl : Nat) : Int))) rfl rfl rfl (fun _ _ => rfl) rfl rfl (Dq1.1.trans (congrArg iI hpl)) ?_
          refine jv_iload_n (pc' := 117) (k := 3) (x := (iI ((w : Nat) : Int))) rfl rfl rfl rfl ?_
          refine jv_lload (pc' := 119) (k := 4) (x := (lI ((tv B pl w (w / 8) : Nat) : Int))) rfl rfl rfl ?_
          refine jv_iload (pc' := 121) (k := 6) (x := (iI (fm B bg sz pl w (Y 0 k) (Y 2 k) (tv B pl w (w / 8))))) rfl rfl rfl ?_
          obtain ⟨nq14, hnq14, hmq14⟩ := DV_n Vq1.1 hlim
          refine jv_call (pc' := 124) rfl (cl_eadd2 (I := Iq1) (M := Mq1) (s := (dS s)) Dq1 hnq14 hmq14 (b0 := ((pl : Nat) : Int)) (by first | rfl | omega)) (fun vq14 gq14 q14 => ?_)
          obtain ⟨Iq14, Mq14, rfl, rfl, Dq14, uq14, wq14⟩ := q14
          have rq14 := fr_w uq14 wD_1
          have tq14 := fr_w wq14 wE_1
          have Xq14 := DX_fr Xq1 rq14
          show jx L xs _ 69 124 _ [] _ _
          refine jv_aload_n (pc' := 125) (k := 0) (x := 38) rfl rfl rfl rfl ?_
          refine jv_getR (pc' := 128) (c := 6) (k := 3) (v := 44) rfl rfl rfl (fun _ _ => rfl) rfl rfl (jR_38_3 _) ?_
          refine jv_iload_n (pc' := 129) (k := 2) (x := (iI ((nm : Nat) : Int))) rfl rfl rfl rfl ?_
          refine jv_lload (pc' := 131) (k := 4) (x := (lI ((tv B pl w (w / 8) : Nat) : Int))) rfl rfl rfl ?_
          refine jv_lastore (pc' := 132) (n := 8) (e := ((nm : Nat) : Int)) (v := (lI ((tv B pl w (w / 8) : Nat) : Int))) rfl rfl rfl rfl rfl (by omega) ?_
          refine jv_aload_n (pc' := 133) (k := 0) (x := 38) rfl rfl rfl rfl ?_
          refine jv_getR (pc' := 136) (c := 6) (k := 4) (v := 45) rfl rfl rfl (fun _ _ => rfl) rfl rfl (jR_38_4 _) ?_
          refine jv_iload_n (pc' := 137) (k := 2) (x := (iI ((nm : Nat) : Int))) rfl rfl rfl rfl ?_
          refine jv_iconst (pc' := 138) (n := 1) rfl rfl ?_
          refine jv_bastore (pc' := 139) (n := 8) (e := ((nm : Nat) : Int)) (v := (iI 1)) rfl rfl rfl rfl rfl (by omega) (by first | exact Or.inl rfl | exact Or.inr rfl) ?_
          refine jv_aload_n (pc' := 140) (k := 0) (x := 38) rfl rfl rfl rfl ?_
          refine jx_step (pc' := 141) rfl ?_
          refine jv_getI (pc' := 144) (c := 6) (k := 9) (v := (iI ((dE (dS s) l ((nm : Nat) : Int) ((w : Nat) : Int) ((tv B pl w (w / 8) : Nat) : Int) (fm B bg sz pl w (Y 0 k) (Y 2 k) (tv B pl w (w / 8)))) 0 0))) rfl rfl rfl (fun _ _ => rfl) rfl rfl Dq14.1 ?_
          refine jv_iload_n (pc' := 145) (k := 3) (x := (iI ((w : Nat) : Int))) rfl rfl rfl rfl ?_
          refine jv_iadd (pc' := 146) (a := ((dE (dS s) l ((nm : Nat) : Int) ((w : Nat) : Int) ((tv B pl w (w / 8) : Nat) : Int) (fm B bg sz pl w (Y 0 k) (Y 2 k) (tv B pl w (w / 8)))) 0 0)) (b := ((w : Nat) : Int)) rfl rfl ?_
          refine jv_putI (pc' := 149) (c := 6) (k := 9) rfl rfl rfl rfl (fun _ _ _  => rfl) rfl rfl ?_
          refine jv_iload (pc' := 151) (k := 6) (x := (iI (fm B bg sz pl w (Y 0 k) (Y 2 k) (tv B pl w (w / 8))))) rfl rfl rfl ?_
          refine jv_iconst (pc' := 152) (n := 2) rfl rfl ?_
          refine jv_ic_eq (t := 159) (pc' := 155) (a := (fm B bg sz pl w (Y 0 k) (Y 2 k) (tv B pl w (w / 8)))) (b := 2) rfl rfl rfl (by omega) (fun hz_15 => ?_) (fun hz_15 => ?_)
          · skip
            refine jv_iconst (pc' := 160) (n := 0) rfl rfl ?_
            refine jv_retZ rfl rfl (by first | exact Or.inl rfl | exact Or.inr rfl) ⟨_, _, rfl, ?_⟩
            first
            | (exfalso; omega)
            | (have ev : tv B pl w (w / 8) = fv B (dS s 0 0).toNat w (Y 5 nm) := by rw [show (dS s 0 0).toNat = pl from (congrArg Int.toNat hpl)]; exact (fv_1 (by omega)).symm
               have em : fm B bg sz pl w (Y 0 k) (Y 2 k) (tv B pl w (w / 8)) = fm B bg sz (dS s 0 0).toNat w (Y 0 k) (Y 2 k) (tv B pl w (w / 8)) := by rw [show (dS s 0 0).toNat = pl from (congrArg Int.toNat hpl)]
               have eb := fv_b B (dS s 0 0).toNat (w := w) (sw := Y 5 nm) (by omega) h5
               rw [← ev] at eb
               have ep : dS s 0 0 = ((pl : Nat) : Int) := hpl
               have eb2 : ((tv B pl w (w / 8) : Nat) : Int) < 2 ^ w := by exact_mod_cast eb.2
               exact ⟨_, _, _, rfl, (fr_u (by simp [wD]) (fr_u (by simp [wD]) (fr_t (fr_t (fr_r _) rq1) rq14))), (fr_u (by simp [wE]) (fr_t (fr_t (fr_r _) tq1) tq14)), DC_F Dq14 rfl rfl (by rfl), DRes_t (DRes_S hV hlim) (DRes_F Vq1.1 hlim hl hnm hmr (by omega) (by omega) eb2 h4), Or.inr ⟨rfl, _, Or.inr (Or.inr ⟨Or.inl ⟨oq1, rfl, rfl⟩, by omega, _, _, ev, em, (decide_eq_false (by omega)).symm, rfl⟩)⟩⟩)
          · skip
            refine jv_iconst (pc' := 156) (n := 1) rfl rfl ?_
            refine jx_step (pc' := 160) rfl ?_
            refine jv_retZ rfl rfl (by first | exact Or.inl rfl | exact Or.inr rfl) ⟨_, _, rfl, ?_⟩
            first
            | (exfalso; omega)
            | (have ev : tv B pl w (w / 8) = fv B (dS s 0 0).toNat w (Y 5 nm) := by rw [show (dS s 0 0).toNat = pl from (congrArg Int.toNat hpl)]; exact (fv_1 (by omega)).symm
               have em : fm B bg sz pl w (Y 0 k) (Y 2 k) (tv B pl w (w / 8)) = fm B bg sz (dS s 0 0).toNat w (Y 0 k) (Y 2 k) (tv B pl w (w / 8)) := by rw [show (dS s 0 0).toNat = pl from (congrArg Int.toNat hpl)]
               have eb := fv_b B (dS s 0 0).toNat (w := w) (sw := Y 5 nm) (by omega) h5
               rw [← ev] at eb
               have ep : dS s 0 0 = ((pl : Nat) : Int) := hpl
               have eb2 : ((tv B pl w (w / 8) : Nat) : Int) < 2 ^ w := by exact_mod_cast eb.2
               exact ⟨_, _, _, rfl, (fr_u (by simp [wD]) (fr_u (by simp [wD]) (fr_t (fr_t (fr_r _) rq1) rq14))), (fr_u (by simp [wE]) (fr_t (fr_t (fr_r _) tq1) tq14)), DC_F Dq14 rfl rfl (by rfl), DRes_t (DRes_S hV hlim) (DRes_F Vq1.1 hlim hl hnm hmr (by omega) (by omega) eb2 h4), Or.inl ⟨rfl, DV_F Vq1.1 Vq1.2 (by omega) (by omega), ⟨_, Or.inr (Or.inr ⟨Or.inl ⟨oq1, rfl, rfl⟩, by omega, _, _, ev, em, (decide_eq_true (by omega)).symm, rfl⟩)⟩, fun i hi => ((dF_1 _ nm _ _ i).1.trans (if_neg (by omega))).trans ((dE_1 _ _ _ _ _ _ i).1.trans (dS_r s (by omega) i))⟩⟩)
      · skip
        refine jv_aload_n (pc' := 39) (k := 0) (x := 38) rfl rfl rfl rfl ?_
        refine jv_getR (pc' := 42) (c := 6) (k := 0) (v := 39) rfl rfl rfl (fun _ _ => rfl) rfl rfl (jR_38_0 _) ?_
        refine jv_aload_n (pc' := 43) (k := 0) (x := 38) rfl rfl rfl rfl ?_
        refine jv_getI (pc' := 46) (c := 6) (k := 7) (v := (iI l)) rfl rfl rfl (fun _ _ => rfl) rfl rfl Xq1.2.2.2.2.2.2.1 ?_
        refine jv_iload_n (pc' := 47) (k := 2) (x := (iI ((nm : Nat) : Int))) rfl rfl rfl rfl ?_
        refine jv_aload_n (pc' := 48) (k := 0) (x := 38) rfl rfl rfl rfl ?_
        refine jv_getI (pc' := 51) (c := 6) (k := 9) (v := (iI ((pl : Nat) : Int))) rfl rfl rfl (fun _ _ => rfl) rfl rfl (Dq1.1.trans (congrArg iI hpl)) ?_
        refine jv_iconst (pc' := 52) (n := 0) rfl rfl ?_
        refine jv_long (pc' := 53) (y := lI 0) rfl (by decide) ?_
        refine jv_iconst (pc' := 54) (n := 1) rfl rfl ?_
        obtain ⟨nq16, hnq16, hmq16⟩ := DV_n Vq1.1 hlim
        refine jv_call (pc' := 57) rfl (cl_eadd2 (I := Iq1) (M := Mq1) (s := (dS s)) Dq1 hnq16 hmq16 (b0 := ((pl : Nat) : Int)) (by first | rfl | omega)) (fun vq16 gq16 q16 => ?_)
        obtain ⟨Iq16, Mq16, rfl, rfl, Dq16, uq16, wq16⟩ := q16
        have rq16 := fr_w uq16 wD_1
        have tq16 := fr_w wq16 wE_1
        have Xq16 := DX_fr Xq1 rq16
        show jx L xs _ 69 57 _ [] _ _
        refine jv_iconst (pc' := 58) (n := 0) rfl rfl ?_
        refine jv_retZ rfl rfl (by first | exact Or.inl rfl | exact Or.inr rfl) ⟨_, _, rfl, ?_⟩
        first
        | (exfalso; omega)
        | exact ⟨_, _, _, rfl, (fr_t (fr_t (fr_r _) rq1) rq16), (fr_t (fr_t (fr_r _) tq1) tq16), Dq16, DRes_t (DRes_S hV hlim) (DRes_E Vq1.1 hlim hl (by omega) (by omega)), Or.inr ⟨rfl, _, Or.inr (Or.inl ⟨Or.inl ⟨oq1, rfl, rfl⟩, by omega, rfl, rfl⟩)⟩⟩
    · skip
      exact absurd hz_2 (by decide)
  · skip
    have Xq1 := DX_fr hX rq1
    show jx L xs _ 69 25 _ [.int (iI 0)] _ _
    refine jv_if_ne (t := 30) (pc' := 28) (a := 0) rfl rfl rfl (by omega) (fun hz_17 => ?_) (fun hz_17 => ?_)
    · skip
      exact absurd hz_17 (by decide)
    · skip
      refine jv_iconst (pc' := 29) (n := 0) rfl rfl ?_
      refine jv_retZ rfl rfl (by first | exact Or.inl rfl | exact Or.inr rfl) ⟨_, _, rfl, ?_⟩
      first
      | (exfalso; omega)
      | exact ⟨_, _, _, rfl, (fr_t (fr_r _) rq1), (fr_t (fr_r _) tq1), Dq1, DRes_E hV hlim hl (by omega) (by omega), Or.inr ⟨rfl, _, Or.inl ⟨Or.inr ⟨oq1, rfl, rfl⟩, rfl, rfl⟩⟩⟩
theorem cl_runBlock_s (hX : DX I p F T B sz Y m l bg lim) (hD : DC I M s) (hV : DV lim sz s) (hk : k < m) (hst : Y 1 k = -1) : jc L xs (d + 2) 68 [.ref 38, .int (iI ((k : Nat) : Int))] (jx_G j I M p) (fun v g1 => ∃ I' M' s', g1 = jx_G j I' M' p ∧ fr wD I I' ∧ fr wE M M' ∧ DC I' M' s' ∧ DRes sz l Y s s' ∧ ((v = some (.int (iI 1)) ∧ DV lim sz s' ∧ BL lim sz l (Y 1 k) s true s' ∧ ∀ i, s' 1 i = s 1 i) ∨ (v = some (.int (iI 0)) ∧ BL lim sz l (Y 1 k) s false s'))) := by
  unfold jc
  have hs := hX.2.2.2.2.1.2.1
  have hlim := hX.2.2.2.2.2.2.2.2.2.1
  have hbg := hX.2.2.2.2.2.2.2.2.2.2.1
  have hl := hX.2.2.2.2.2.2.2.2.2.2.2.1
  have hv0 := hV.1
  have hv1 := hV.2.1
  have hv2 := hV.2.2.1
  have hm40 := hX.2.2.2.2.2.1.2.1
  obtain ⟨pl, hpl⟩ : ∃ pl : Nat, s 0 0 = ((pl : Nat) : Int) := ⟨(s 0 0).toNat, by omega⟩
  refine jv_aload_n (pc' := 1) (k := 0) (x := 38) rfl rfl rfl rfl ?_
  refine jv_bipush (pc' := 3) (n := 8) rfl rfl rfl ?_
  refine jv_call (pc' := 6) rfl (cl_makeStep (I := I) (M := M) (s := s) (nm := 8) hX hD hV) (fun vq1 gq1 q1 => ?_)
  obtain ⟨Iq1, Mq1, rfl, rq1, tq1, q1⟩ := q1
  rcases q1 with ⟨oq1, rfl, Dq1⟩ | ⟨oq1, rfl, Dq1⟩
  · skip
    have Xq1 := DX_fr hX rq1
    have Vq1 := DV_S hV oq1
    have epq1 : dS s 0 0 = ((pl : Nat) : Int) := hpl
    show jx L xs _ 68 6 _ [.int (iI 1)] _ _
    refine jv_if_ne (t := 11) (pc' := 9) (a := 1) rfl rfl rfl (by omega) (fun hz_2 => ?_) (fun hz_2 => ?_)
    · skip
      refine jv_aload_n (pc' := 12) (k := 0) (x := 38) rfl rfl rfl rfl ?_
      refine jv_getR (pc' := 15) (c := 6) (k := 6) (v := T) rfl rfl rfl (fun _ _ => rfl) rfl rfl hX.2.2.2.1 ?_
      refine jv_getR (pc' := 18) (c := 2) (k := 1) (v := (T + 2)) rfl rfl rfl (fun _ _ => rfl) (YL_A hX.2.1 j _ _ p) rfl (YL_R2 hX.2.1 p) ?_
      refine jv_iload_n (pc' := 19) (k := 1) (x := (iI ((k : Nat) : Int))) rfl rfl rfl rfl ?_
      refine jv_iaload (pc' := 20) (n := 40) (e := ((k : Nat) : Int)) (v := (iI (-1))) rfl rfl (YL_S hX.2.1 2 (by omega)) (YL_B2 hX.2.1 j _ _ p) (YL_n2 hX.2.1) rfl (by omega) (((Xq1.2.2.2.2.2.1.2.2.1 k (by omega)).2.1).trans (congrArg iI hst)) ?_
      refine jv_istore_n (pc' := 21) (k := 2) (x := (iI (-1))) rfl rfl rfl rfl (Or.inr rfl) ?_
      refine jv_aload_n (pc' := 22) (k := 0) (x := 38) rfl rfl rfl rfl ?_
      refine jv_call (pc' := 25) rfl (cl_bitsLeft (I := Iq1) (M := Mq1) (s := (dS s)) Xq1 Dq1 Vq1.1) (fun vq3 gq3 q3 => ?_)
      obtain ⟨rfl, rfl⟩ := q3
      show jx L xs _ 68 25 _ [.int (iI (8 * (sz : Int) - (dS s) 0 0))] _ _
      refine jv_bipush (pc' := 27) (n := 8) rfl rfl rfl ?_
      refine jv_int (pc' := 28) (y := (iI (((8 * sz - pl) / 8 : Nat) : Int))) rfl ((congrArg (fun z => iI z / iI 8) (show _ = ((8 * sz - pl : Nat) : Int) by omega)).trans (iI_D8 (by omega))) ?_
      refine jv_istore_n (pc' := 29) (k := 3) (x := (iI (((8 * sz - pl) / 8 : Nat) : Int))) rfl rfl rfl rfl (Or.inr rfl) ?_
      refine jv_iload_n (pc' := 30) (k := 2) (x := (iI (-1))) rfl rfl rfl rfl ?_
      refine jv_iconst (pc' := 31) (n := -1) rfl rfl ?_
      refine jv_ic_ne (t := 39) (pc' := 34) (a := (-1)) (b := (-1)) rfl rfl rfl (by omega) (fun hz_4 => ?_) (fun hz_4 => ?_)
      · skip
        exact absurd hz_4 (by decide)
      · skip
        refine jv_iload_n (pc' := 35) (k := 3) (x := (iI (((8 * sz - pl) / 8 : Nat) : Int))) rfl rfl rfl rfl ?_
        refine jv_i2l (pc' := 36) (a := (((8 * sz - pl) / 8 : Nat) : Int)) rfl rfl (by omega) ?_
        refine jx_step (pc' := 45) rfl ?_
        refine jv_lstore (pc' := 47) (k := 4) (x := (lI (((8 * sz - pl) / 8 : Nat) : Int))) rfl rfl rfl (Or.inr rfl) ?_
        refine jv_lload (pc' := 49) (k := 4) (x := (lI (((8 * sz - pl) / 8 : Nat) : Int))) rfl rfl rfl ?_
        refine jv_iload_n (pc' := 50) (k := 3) (x := (iI (((8 * sz - pl) / 8 : Nat) : Int))) rfl rfl rfl rfl ?_
        refine jv_i2l (pc' := 51) (a := (((8 * sz - pl) / 8 : Nat) : Int)) rfl rfl (by omega) ?_
        refine jv_lc_le (t := 77) (pc' := 55) (a := (((8 * sz - pl) / 8 : Nat) : Int)) (b := (((8 * sz - pl) / 8 : Nat) : Int)) rfl rfl rfl rfl rfl (by omega) (fun hz_5 => ?_) (fun hz_5 => ?_)
        · skip
          refine jv_bipush (pc' := 79) (n := 8) rfl rfl rfl ?_
          refine jv_lload (pc' := 81) (k := 4) (x := (lI (((8 * sz - pl) / 8 : Nat) : Int))) rfl rfl rfl ?_
          refine jv_l2i (pc' := 82) (a := (((8 * sz - pl) / 8 : Nat) : Int)) rfl rfl ?_
          refine jv_imul (pc' := 83) (a := 8) (b := (((8 * sz - pl) / 8 : Nat) : Int)) rfl rfl ?_
          refine jv_istore (pc' := 85) (k := 6) (x := (iI (8 * (((8 * sz - pl) / 8 : Nat) : Int)))) rfl rfl rfl (Or.inr rfl) ?_
          refine jv_aload_n (pc' := 86) (k := 0) (x := 38) rfl rfl rfl rfl ?_
          refine jv_getR (pc' := 89) (c := 6) (k := 0) (v := 39) rfl rfl rfl (fun _ _ => rfl) rfl rfl (jR_38_0 _) ?_
          refine jv_aload_n (pc' := 90) (k := 0) (x := 38) rfl rfl rfl rfl ?_
          refine jv_getI (pc' := 93) (c := 6) (k := 7) (v := (iI l)) rfl rfl rfl (fun _ _ => rfl) rfl rfl Xq1.2.2.2.2.2.2.1 ?_
          refine jv_bipush (pc' := 95) (n := 8) rfl rfl rfl ?_
          refine jv_aload_n (pc' := 96) (k := 0) (x := 38) rfl rfl rfl rfl ?_
          refine jv_getI (pc' := 99) (c := 6) (k := 9) (v := (iI ((pl : Nat) : Int))) rfl rfl rfl (fun _ _ => rfl) rfl rfl (Dq1.1.trans (congrArg iI hpl)) ?_
          refine jv_iload (pc' := 101) (k := 6) (x := (iI (8 * (((8 * sz - pl) / 8 : Nat) : Int)))) rfl rfl rfl ?_
          refine jv_lload (pc' := 103) (k := 4) (x := (lI (((8 * sz - pl) / 8 : Nat) : Int))) rfl rfl rfl ?_
          refine jv_iconst (pc' := 104) (n := 0) rfl rfl ?_
          obtain ⟨nq6, hnq6, hmq6⟩ := DV_n Vq1.1 hlim
          refine jv_call (pc' := 107) rfl (cl_eadd2 (I := Iq1) (M := Mq1) (s := (dS s)) Dq1 hnq6 hmq6 (b0 := ((pl : Nat) : Int)) (by first | rfl | omega)) (fun vq6 gq6 q6 => ?_)
          obtain ⟨Iq6, Mq6, rfl, rfl, Dq6, uq6, wq6⟩ := q6
          have rq6 := fr_w uq6 wD_1
          have tq6 := fr_w wq6 wE_1
          have Xq6 := DX_fr Xq1 rq6
          show jx L xs _ 68 107 _ [] _ _
          refine jv_aload_n (pc' := 108) (k := 0) (x := 38) rfl rfl rfl rfl ?_
          refine jx_step (pc' := 109) rfl ?_
          refine jv_getI (pc' := 112) (c := 6) (k := 9) (v := (iI ((dE (dS s) l 8 (8 * (((8 * sz - pl) / 8 : Nat) : Int)) (((8 * sz - pl) / 8 : Nat) : Int) 0) 0 0))) rfl rfl rfl (fun _ _ => rfl) rfl rfl Dq6.1 ?_
          refine jv_iload (pc' := 114) (k := 6) (x := (iI (8 * (((8 * sz - pl) / 8 : Nat) : Int)))) rfl rfl rfl ?_
          refine jv_iadd (pc' := 115) (a := ((dE (dS s) l 8 (8 * (((8 * sz - pl) / 8 : Nat) : Int)) (((8 * sz - pl) / 8 : Nat) : Int) 0) 0 0)) (b := (8 * (((8 * sz - pl) / 8 : Nat) : Int))) rfl rfl ?_
          refine jv_putI (pc' := 118) (c := 6) (k := 9) rfl rfl rfl rfl (fun _ _ _  => rfl) rfl rfl ?_
          refine jv_iconst (pc' := 119) (n := 1) rfl rfl ?_
          refine jv_retZ rfl rfl (by first | exact Or.inl rfl | exact Or.inr rfl) ⟨_, _, rfl, ?_⟩
          first
          | (exfalso; omega)
          | (have ec : (((8 * sz - pl) / 8 : Nat) : Int) = (if Y 1 k = -1 then (8 * (sz : Int) - dS s 0 0) / 8 else dS s 1 (Y 1 k).toNat) := by
               rw [if_pos hst]; omega
             exact ⟨_, _, _, rfl, (fr_u (by simp [wD]) (fr_t (fr_t (fr_r _) rq1) rq6)), (fr_t (fr_t (fr_r _) tq1) tq6), DC_P Dq6 (by first | rfl | omega), DRes_t (DRes_S hV hlim) (DRes_B Vq1.1 hlim hl (by omega) hs), Or.inl ⟨rfl, DV_P Vq1.1 Vq1.2 (by omega), ⟨_, Or.inr ⟨Or.inl ⟨oq1, rfl, rfl⟩, _, ec, Or.inr ⟨by omega, rfl, rfl⟩⟩⟩, fun i => (dP_r _ _ (by omega) i).trans ((dE_1 _ _ _ _ _ _ i).1.trans (dS_r s (by omega) i))⟩⟩)
        · skip
          refine jv_aload_n (pc' := 56) (k := 0) (x := 38) rfl rfl rfl rfl ?_
          refine jv_getR (pc' := 59) (c := 6) (k := 0) (v := 39) rfl rfl rfl (fun _ _ => rfl) rfl rfl (jR_38_0 _) ?_
          refine jv_aload_n (pc' := 60) (k := 0) (x := 38) rfl rfl rfl rfl ?_
          refine jv_getI (pc' := 63) (c := 6) (k := 7) (v := (iI l)) rfl rfl rfl (fun _ _ => rfl) rfl rfl Xq1.2.2.2.2.2.2.1 ?_
          refine jv_bipush (pc' := 65) (n := 8) rfl rfl rfl ?_
          refine jv_aload_n (pc' := 66) (k := 0) (x := 38) rfl rfl rfl rfl ?_
          refine jv_getI (pc' := 69) (c := 6) (k := 9) (v := (iI ((pl : Nat) : Int))) rfl rfl rfl (fun _ _ => rfl) rfl rfl (Dq1.1.trans (congrArg iI hpl)) ?_
          refine jv_iconst (pc' := 70) (n := 0) rfl rfl ?_
          refine jv_long (pc' := 71) (y := lI 0) rfl (by decide) ?_
          refine jv_iconst (pc' := 72) (n := 1) rfl rfl ?_
          obtain ⟨nq7, hnq7, hmq7⟩ := DV_n Vq1.1 hlim
          refine jv_call (pc' := 75) rfl (cl_eadd2 (I := Iq1) (M := Mq1) (s := (dS s)) Dq1 hnq7 hmq7 (b0 := ((pl : Nat) : Int)) (by first | rfl | omega)) (fun vq7 gq7 q7 => ?_)
          obtain ⟨Iq7, Mq7, rfl, rfl, Dq7, uq7, wq7⟩ := q7
          have rq7 := fr_w uq7 wD_1
          have tq7 := fr_w wq7 wE_1
          have Xq7 := DX_fr Xq1 rq7
          show jx L xs _ 68 75 _ [] _ _
          refine jv_iconst (pc' := 76) (n := 0) rfl rfl ?_
          refine jv_retZ rfl rfl (by first | exact Or.inl rfl | exact Or.inr rfl) ⟨_, _, rfl, ?_⟩
          first
          | (exfalso; omega)
          | (have ec : (((8 * sz - pl) / 8 : Nat) : Int) = (if Y 1 k = -1 then (8 * (sz : Int) - dS s 0 0) / 8 else dS s 1 (Y 1 k).toNat) := by
               rw [if_pos hst]; omega
             exact ⟨_, _, _, rfl, (fr_t (fr_t (fr_r _) rq1) rq7), (fr_t (fr_t (fr_r _) tq1) tq7), Dq7, DRes_t (DRes_S hV hlim) (DRes_E Vq1.1 hlim hl (by omega) (by omega)), Or.inr ⟨rfl, _, Or.inr ⟨Or.inl ⟨oq1, rfl, rfl⟩, _, ec, Or.inl ⟨by omega, rfl, rfl⟩⟩⟩⟩)
    · skip
      exact absurd hz_2 (by decide)
  · skip
    have Xq1 := DX_fr hX rq1
    show jx L xs _ 68 6 _ [.int (iI 0)] _ _
    refine jv_if_ne (t := 11) (pc' := 9) (a := 0) rfl rfl rfl (by omega) (fun hz_8 => ?_) (fun hz_8 => ?_)
    · skip
      exact absurd hz_8 (by decide)
    · skip
      refine jv_iconst (pc' := 10) (n := 0) rfl rfl ?_
      refine jv_retZ rfl rfl (by first | exact Or.inl rfl | exact Or.inr rfl) ⟨_, _, rfl, ?_⟩
      first
      | (exfalso; omega)
      | exact ⟨_, _, _, rfl, (fr_t (fr_r _) rq1), (fr_t (fr_r _) tq1), Dq1, DRes_E hV hlim hl (by omega) (by omega), Or.inr ⟨rfl, _, Or.inl ⟨Or.inr ⟨oq1, rfl, rfl⟩, rfl, rfl⟩⟩⟩
theorem cl_runBlock_n (hX : DX I p F T B sz Y m l bg lim) (hD : DC I M s) (hV : DV lim sz s) (hk : k < m) (h1 : Y 1 k = ((nm : Nat) : Int)) (hnm : nm < 8) : jc L xs (d + 2) 68 [.ref 38, .int (iI ((k : Nat) : Int))] (jx_G j I M p) (fun v g1 => ∃ I' M' s', g1 = jx_G j I' M' p ∧ fr wD I I' ∧ fr wE M M' ∧ DC I' M' s' ∧ DRes sz l Y s s' ∧ ((v = some (.int (iI 1)) ∧ DV lim sz s' ∧ BL lim sz l (Y 1 k) s true s' ∧ ∀ i, s' 1 i = s 1 i) ∨ (v = some (.int (iI 0)) ∧ BL lim sz l (Y 1 k) s false s'))) := by
  unfold jc
  have hs := hX.2.2.2.2.1.2.1
  have hlim := hX.2.2.2.2.2.2.2.2.2.1
  have hbg := hX.2.2.2.2.2.2.2.2.2.2.1
  have hl := hX.2.2.2.2.2.2.2.2.2.2.2.1
  have hv0 := hV.1
  have hv1 := hV.2.1
  have hv2 := hV.2.2.1
  have hm40 := hX.2.2.2.2.2.1.2.1
  obtain ⟨pl, hpl⟩ : ∃ pl : Nat, s 0 0 = ((pl : Nat) : Int) := ⟨(s 0 0).toNat, by omega⟩
  refine jv_aload_n (pc' := 1) (k := 0) (x := 38) rfl rfl rfl rfl ?_
  refine jv_bipush (pc' := 3) (n := 8) rfl rfl rfl ?_
  refine jv_call (pc' := 6) rfl (cl_makeStep (I := I) (M := M) (s := s) (nm := 8) hX hD hV) (fun vq1 gq1 q1 => ?_)
  obtain ⟨Iq1, Mq1, rfl, rq1, tq1, q1⟩ := q1
  rcases q1 with ⟨oq1, rfl, Dq1⟩ | ⟨oq1, rfl, Dq1⟩
  · skip
    have Xq1 := DX_fr hX rq1
    have Vq1 := DV_S hV oq1
    have epq1 : dS s 0 0 = ((pl : Nat) : Int) := hpl
    show jx L xs _ 68 6 _ [.int (iI 1)] _ _
    refine jv_if_ne (t := 11) (pc' := 9) (a := 1) rfl rfl rfl (by omega) (fun hz_2 => ?_) (fun hz_2 => ?_)
    · skip
      refine jv_aload_n (pc' := 12) (k := 0) (x := 38) rfl rfl rfl rfl ?_
      have hv3 := (hV.2.2.2 nm hnm).1
      have hv4 : dS s 1 nm = s 1 nm := dS_r s (by omega) nm
      refine jv_getR (pc' := 15) (c := 6) (k := 6) (v := T) rfl rfl rfl (fun _ _ => rfl) rfl rfl hX.2.2.2.1 ?_
      refine jv_getR (pc' := 18) (c := 2) (k := 1) (v := (T + 2)) rfl rfl rfl (fun _ _ => rfl) (YL_A hX.2.1 j _ _ p) rfl (YL_R2 hX.2.1 p) ?_
      refine jv_iload_n (pc' := 19) (k := 1) (x := (iI ((k : Nat) : Int))) rfl rfl rfl rfl ?_
      refine jv_iaload (pc' := 20) (n := 40) (e := ((k : Nat) : Int)) (v := (iI ((nm : Nat) : Int))) rfl rfl (YL_S hX.2.1 2 (by omega)) (YL_B2 hX.2.1 j _ _ p) (YL_n2 hX.2.1) rfl (by omega) (((Xq1.2.2.2.2.2.1.2.2.1 k (by omega)).2.1).trans (congrArg iI h1)) ?_
      refine jv_istore_n (pc' := 21) (k := 2) (x := (iI ((nm : Nat) : Int))) rfl rfl rfl rfl (Or.inr rfl) ?_
      refine jv_aload_n (pc' := 22) (k := 0) (x := 38) rfl rfl rfl rfl ?_
      refine jv_call (pc' := 25) rfl (cl_bitsLeft (I := Iq1) (M := Mq1) (s := (dS s)) Xq1 Dq1 Vq1.1) (fun vq3 gq3 q3 => ?_)
      obtain ⟨rfl, rfl⟩ := q3
      show jx L xs _ 68 25 _ [.int (iI (8 * (sz : Int) - (dS s) 0 0))] _ _
      refine jv_bipush (pc' := 27) (n := 8) rfl rfl rfl ?_
      refine jv_int (pc' := 28) (y := (iI (((8 * sz - pl) / 8 : Nat) : Int))) rfl ((congrArg (fun z => iI z / iI 8) (show _ = ((8 * sz - pl : Nat) : Int) by omega)).trans (iI_D8 (by omega))) ?_
      refine jv_istore_n (pc' := 29) (k := 3) (x := (iI (((8 * sz - pl) / 8 : Nat) : Int))) rfl rfl rfl rfl (Or.inr rfl) ?_
      refine jv_iload_n (pc' := 30) (k := 2) (x := (iI ((nm : Nat) : Int))) rfl rfl rfl rfl ?_
      refine jv_iconst (pc' := 31) (n := -1) rfl rfl ?_
      refine jv_ic_ne (t := 39) (pc' := 34) (a := ((nm : Nat) : Int)) (b := (-1)) rfl rfl rfl (by omega) (fun hz_4 => ?_) (fun hz_4 => ?_)
      · skip
        refine jv_aload_n (pc' := 40) (k := 0) (x := 38) rfl rfl rfl rfl ?_
        refine jv_getR (pc' := 43) (c := 6) (k := 3) (v := 44) rfl rfl rfl (fun _ _ => rfl) rfl rfl (jR_38_3 _) ?_
        refine jv_iload_n (pc' := 44) (k := 2) (x := (iI ((nm : Nat) : Int))) rfl rfl rfl rfl ?_
        refine jv_laload (pc' := 45) (n := 8) (e := ((nm : Nat) : Int)) (v := (lI ((dS s) 1 nm))) rfl rfl rfl rfl rfl (by omega) ((Dq1.2.2.2.1 nm (by omega)).1) ?_
        refine jv_lstore (pc' := 47) (k := 4) (x := (lI ((dS s) 1 nm))) rfl rfl rfl (Or.inr rfl) ?_
        refine jv_lload (pc' := 49) (k := 4) (x := (lI ((dS s) 1 nm))) rfl rfl rfl ?_
        refine jv_iload_n (pc' := 50) (k := 3) (x := (iI (((8 * sz - pl) / 8 : Nat) : Int))) rfl rfl rfl rfl ?_
        refine jv_i2l (pc' := 51) (a := (((8 * sz - pl) / 8 : Nat) : Int)) rfl rfl (by omega) ?_
        refine jv_lc_le (t := 77) (pc' := 55) (a := ((dS s) 1 nm)) (b := (((8 * sz - pl) / 8 : Nat) : Int)) rfl rfl rfl rfl rfl (by omega) (fun hz_5 => ?_) (fun hz_5 => ?_)
        · skip
          refine jv_bipush (pc' := 79) (n := 8) rfl rfl rfl ?_
          refine jv_lload (pc' := 81) (k := 4) (x := (lI ((dS s) 1 nm))) rfl rfl rfl ?_
          refine jv_l2i (pc' := 82) (a := ((dS s) 1 nm)) rfl rfl ?_
          refine jv_imul (pc' := 83) (a := 8) (b := ((dS s) 1 nm)) rfl rfl ?_
          refine jv_istore (pc' := 85) (k := 6) (x := (iI (8 * ((dS s) 1 nm)))) rfl rfl rfl (Or.inr rfl) ?_
          refine jv_aload_n (pc' := 86) (k := 0) (x := 38) rfl rfl rfl rfl ?_
          refine jv_getR (pc' := 89) (c := 6) (k := 0) (v := 39) rfl rfl rfl (fun _ _ => rfl) rfl rfl (jR_38_0 _) ?_
          refine jv_aload_n (pc' := 90) (k := 0) (x := 38) rfl rfl rfl rfl ?_
          refine jv_getI (pc' := 93) (c := 6) (k := 7) (v := (iI l)) rfl rfl rfl (fun _ _ => rfl) rfl rfl Xq1.2.2.2.2.2.2.1 ?_
          refine jv_bipush (pc' := 95) (n := 8) rfl rfl rfl ?_
          refine jv_aload_n (pc' := 96) (k := 0) (x := 38) rfl rfl rfl rfl ?_
          refine jv_getI (pc' := 99) (c := 6) (k := 9) (v := (iI ((pl : Nat) : Int))) rfl rfl rfl (fun _ _ => rfl) rfl rfl (Dq1.1.trans (congrArg iI hpl)) ?_
          refine jv_iload (pc' := 101) (k := 6) (x := (iI (8 * ((dS s) 1 nm)))) rfl rfl rfl ?_
          refine jv_lload (pc' := 103) (k := 4) (x := (lI ((dS s) 1 nm))) rfl rfl rfl ?_
          refine jv_iconst (pc' := 104) (n := 0) rfl rfl ?_
          obtain ⟨nq6, hnq6, hmq6⟩ := DV_n Vq1.1 hlim
          refine jv_call (pc' := 107) rfl (cl_eadd2 (I := Iq1) (M := Mq1) (s := (dS s)) Dq1 hnq6 hmq6 (b0 := ((pl : Nat) : Int)) (by first | rfl | omega)) (fun vq6 gq6 q6 => ?_)
          obtain ⟨Iq6, Mq6, rfl, rfl, Dq6, uq6, wq6⟩ := q6
          have rq6 := fr_w uq6 wD_1
          have tq6 := fr_w wq6 wE_1
          have Xq6 := DX_fr Xq1 rq6
          show jx L xs _ 68 107 _ [] _ _
          refine jv_aload_n (pc' := 108) (k := 0) (x := 38) rfl rfl rfl rfl ?_
          refine jx_step (pc' := 109) rfl ?_
          refine jv_getI (pc' := 112) (c := 6) (k := 9) (v := (iI ((dE (dS s) l 8 (8 * ((dS s) 1 nm)) ((dS s) 1 nm) 0) 0 0))) rfl rfl rfl (fun _ _ => rfl) rfl rfl Dq6.1 ?_
          refine jv_iload (pc' := 114) (k := 6) (x := (iI (8 * ((dS s) 1 nm)))) rfl rfl rfl ?_
          refine jv_iadd (pc' := 115) (a := ((dE (dS s) l 8 (8 * ((dS s) 1 nm)) ((dS s) 1 nm) 0) 0 0)) (b := (8 * ((dS s) 1 nm))) rfl rfl ?_
          refine jv_putI (pc' := 118) (c := 6) (k := 9) rfl rfl rfl rfl (fun _ _ _  => rfl) rfl rfl ?_
          refine jv_iconst (pc' := 119) (n := 1) rfl rfl ?_
          refine jv_retZ rfl rfl (by first | exact Or.inl rfl | exact Or.inr rfl) ⟨_, _, rfl, ?_⟩
          first
          | (exfalso; omega)
          | (have ec : dS s 1 nm = (if Y 1 k = -1 then (8 * (sz : Int) - dS s 0 0) / 8 else dS s 1 (Y 1 k).toNat) := by
               rw [if_neg (by omega), show (Y 1 k).toNat = nm by omega]
             exact ⟨_, _, _, rfl, (fr_u (by simp [wD]) (fr_t (fr_t (fr_r _) rq1) rq6)), (fr_t (fr_t (fr_r _) tq1) tq6), DC_P Dq6 (by first | rfl | omega), DRes_t (DRes_S hV hlim) (DRes_B Vq1.1 hlim hl (by omega) hs), Or.inl ⟨rfl, DV_P Vq1.1 Vq1.2 (by omega), ⟨_, Or.inr ⟨Or.inl ⟨oq1, rfl, rfl⟩, _, ec, Or.inr ⟨by omega, rfl, rfl⟩⟩⟩, fun i => (dP_r _ _ (by omega) i).trans ((dE_1 _ _ _ _ _ _ i).1.trans (dS_r s (by omega) i))⟩⟩)
        · skip
          refine jv_aload_n (pc' := 56) (k := 0) (x := 38) rfl rfl rfl rfl ?_
          refine jv_getR (pc' := 59) (c := 6) (k := 0) (v := 39) rfl rfl rfl (fun _ _ => rfl) rfl rfl (jR_38_0 _) ?_
          refine jv_aload_n (pc' := 60) (k := 0) (x := 38) rfl rfl rfl rfl ?_
          refine jv_getI (pc' := 63) (c := 6) (k := 7) (v := (iI l)) rfl rfl rfl (fun _ _ => rfl) rfl rfl Xq1.2.2.2.2.2.2.1 ?_
          refine jv_bipush (pc' := 65) (n := 8) rfl rfl rfl ?_
          refine jv_aload_n (pc' := 66) (k := 0) (x := 38) rfl rfl rfl rfl ?_
          refine jv_getI (pc' := 69) (c := 6) (k := 9) (v := (iI ((pl : Nat) : Int))) rfl rfl rfl (fun _ _ => rfl) rfl rfl (Dq1.1.trans (congrArg iI hpl)) ?_
          refine jv_iconst (pc' := 70) (n := 0) rfl rfl ?_
          refine jv_long (pc' := 71) (y := lI 0) rfl (by decide) ?_
          refine jv_iconst (pc' := 72) (n := 1) rfl rfl ?_
          obtain ⟨nq7, hnq7, hmq7⟩ := DV_n Vq1.1 hlim
          refine jv_call (pc' := 75) rfl (cl_eadd2 (I := Iq1) (M := Mq1) (s := (dS s)) Dq1 hnq7 hmq7 (b0 := ((pl : Nat) : Int)) (by first | rfl | omega)) (fun vq7 gq7 q7 => ?_)
          obtain ⟨Iq7, Mq7, rfl, rfl, Dq7, uq7, wq7⟩ := q7
          have rq7 := fr_w uq7 wD_1
          have tq7 := fr_w wq7 wE_1
          have Xq7 := DX_fr Xq1 rq7
          show jx L xs _ 68 75 _ [] _ _
          refine jv_iconst (pc' := 76) (n := 0) rfl rfl ?_
          refine jv_retZ rfl rfl (by first | exact Or.inl rfl | exact Or.inr rfl) ⟨_, _, rfl, ?_⟩
          first
          | (exfalso; omega)
          | (have ec : dS s 1 nm = (if Y 1 k = -1 then (8 * (sz : Int) - dS s 0 0) / 8 else dS s 1 (Y 1 k).toNat) := by
               rw [if_neg (by omega), show (Y 1 k).toNat = nm by omega]
             exact ⟨_, _, _, rfl, (fr_t (fr_t (fr_r _) rq1) rq7), (fr_t (fr_t (fr_r _) tq1) tq7), Dq7, DRes_t (DRes_S hV hlim) (DRes_E Vq1.1 hlim hl (by omega) (by omega)), Or.inr ⟨rfl, _, Or.inr ⟨Or.inl ⟨oq1, rfl, rfl⟩, _, ec, Or.inl ⟨by omega, rfl, rfl⟩⟩⟩⟩)
      · skip
        refine jv_iload_n (pc' := 35) (k := 3) (x := (iI (((8 * sz - pl) / 8 : Nat) : Int))) rfl rfl rfl rfl ?_
        refine jv_i2l (pc' := 36) (a := (((8 * sz - pl) / 8 : Nat) : Int)) rfl rfl (by omega) ?_
        refine jx_step (pc' := 45) rfl ?_
        refine jv_lstore (pc' := 47) (k := 4) (x := (lI (((8 * sz - pl) / 8 : Nat) : Int))) rfl rfl rfl (Or.inr rfl) ?_
        refine jv_lload (pc' := 49) (k := 4) (x := (lI (((8 * sz - pl) / 8 : Nat) : Int))) rfl rfl rfl ?_
        refine jv_iload_n (pc' := 50) (k := 3) (x := (iI (((8 * sz - pl) / 8 : Nat) : Int))) rfl rfl rfl rfl ?_
        refine jv_i2l (pc' := 51) (a := (((8 * sz - pl) / 8 : Nat) : Int)) rfl rfl (by omega) ?_
        refine jv_lc_le (t := 77) (pc' := 55) (a := (((8 * sz - pl) / 8 : Nat) : Int)) (b := (((8 * sz - pl) / 8 : Nat) : Int)) rfl rfl rfl rfl rfl (by omega) (fun hz_8 => ?_) (fun hz_8 => ?_)
        · skip
          refine jv_bipush (pc' := 79) (n := 8) rfl rfl rfl ?_
          refine jv_lload (pc' := 81) (k := 4) (x := (lI (((8 * sz - pl) / 8 : Nat) : Int))) rfl rfl rfl ?_
          refine jv_l2i (pc' := 82) (a := (((8 * sz - pl) / 8 : Nat) : Int)) rfl rfl ?_
          refine jv_imul (pc' := 83) (a := 8) (b := (((8 * sz - pl) / 8 : Nat) : Int)) rfl rfl ?_
          refine jv_istore (pc' := 85) (k := 6) (x := (iI (8 * (((8 * sz - pl) / 8 : Nat) : Int)))) rfl rfl rfl (Or.inr rfl) ?_
          refine jv_aload_n (pc' := 86) (k := 0) (x := 38) rfl rfl rfl rfl ?_
          refine jv_getR (pc' := 89) (c := 6) (k := 0) (v := 39) rfl rfl rfl (fun _ _ => rfl) rfl rfl (jR_38_0 _) ?_
          refine jv_aload_n (pc' := 90) (k := 0) (x := 38) rfl rfl rfl rfl ?_
          refine jv_getI (pc' := 93) (c := 6) (k := 7) (v := (iI l)) rfl rfl rfl (fun _ _ => rfl) rfl rfl Xq1.2.2.2.2.2.2.1 ?_
          refine jv_bipush (pc' := 95) (n := 8) rfl rfl rfl ?_
          refine jv_aload_n (pc' := 96) (k := 0) (x := 38) rfl rfl rfl rfl ?_
          refine jv_getI (pc' := 99) (c := 6) (k := 9) (v := (iI ((pl : Nat) : Int))) rfl rfl rfl (fun _ _ => rfl) rfl rfl (Dq1.1.trans (congrArg iI hpl)) ?_
          refine jv_iload (pc' := 101) (k := 6) (x := (iI (8 * (((8 * sz - pl) / 8 : Nat) : Int)))) rfl rfl rfl ?_
          refine jv_lload (pc' := 103) (k := 4) (x := (lI (((8 * sz - pl) / 8 : Nat) : Int))) rfl rfl rfl ?_
          refine jv_iconst (pc' := 104) (n := 0) rfl rfl ?_
          obtain ⟨nq9, hnq9, hmq9⟩ := DV_n Vq1.1 hlim
          refine jv_call (pc' := 107) rfl (cl_eadd2 (I := Iq1) (M := Mq1) (s := (dS s)) Dq1 hnq9 hmq9 (b0 := ((pl : Nat) : Int)) (by first | rfl | omega)) (fun vq9 gq9 q9 => ?_)
          obtain ⟨Iq9, Mq9, rfl, rfl, Dq9, uq9, wq9⟩ := q9
          have rq9 := fr_w uq9 wD_1
          have tq9 := fr_w wq9 wE_1
          have Xq9 := DX_fr Xq1 rq9
          show jx L xs _ 68 107 _ [] _ _
          refine jv_aload_n (pc' := 108) (k := 0) (x := 38) rfl rfl rfl rfl ?_
          refine jx_step (pc' := 109) rfl ?_
          refine jv_getI (pc' := 112) (c := 6) (k := 9) (v := (iI ((dE (dS s) l 8 (8 * (((8 * sz - pl) / 8 : Nat) : Int)) (((8 * sz - pl) / 8 : Nat) : Int) 0) 0 0))) rfl rfl rfl (fun _ _ => rfl) rfl rfl Dq9.1 ?_
          refine jv_iload (pc' := 114) (k := 6) (x := (iI (8 * (((8 * sz - pl) / 8 : Nat) : Int)))) rfl rfl rfl ?_
          refine jv_iadd (pc' := 115) (a := ((dE (dS s) l 8 (8 * (((8 * sz - pl) / 8 : Nat) : Int)) (((8 * sz - pl) / 8 : Nat) : Int) 0) 0 0)) (b := (8 * (((8 * sz - pl) / 8 : Nat) : Int))) rfl rfl ?_
          refine jv_putI (pc' := 118) (c := 6) (k := 9) rfl rfl rfl rfl (fun _ _ _  => rfl) rfl rfl ?_
          refine jv_iconst (pc' := 119) (n := 1) rfl rfl ?_
          refine jv_retZ rfl rfl (by first | exact Or.inl rfl | exact Or.inr rfl) ⟨_, _, rfl, ?_⟩
          first
          | (exfalso; omega)
          | (have ec : dS s 1 nm = (if Y 1 k = -1 then (8 * (sz : Int) - dS s 0 0) / 8 else dS s 1 (Y 1 k).toNat) := by
               rw [if_neg (by omega), show (Y 1 k).toNat = nm by omega]
             exact ⟨_, _, _, rfl, (fr_u (by simp [wD]) (fr_t (fr_t (fr_r _) rq1) rq9)), (fr_t (fr_t (fr_r _) tq1) tq9), DC_P Dq9 (by first | rfl | omega), DRes_t (DRes_S hV hlim) (DRes_B Vq1.1 hlim hl (by omega) hs), Or.inl ⟨rfl, DV_P Vq1.1 Vq1.2 (by omega), ⟨_, Or.inr ⟨Or.inl ⟨oq1, rfl, rfl⟩, _, ec, Or.inr ⟨by omega, rfl, rfl⟩⟩⟩, fun i => (dP_r _ _ (by omega) i).trans ((dE_1 _ _ _ _ _ _ i).1.trans (dS_r s (by omega) i))⟩⟩)
        · skip
          refine jv_aload_n (pc' := 56) (k := 0) (x := 38) rfl rfl rfl rfl ?_
          refine jv_getR (pc' := 59) (c := 6) (k := 0) (v := 39) rfl rfl rfl (fun _ _ => rfl) rfl rfl (jR_38_0 _) ?_
          refine jv_aload_n (pc' := 60) (k := 0) (x := 38) rfl rfl rfl rfl ?_
          refine jv_getI (pc' := 63) (c := 6) (k := 7) (v := (iI l)) rfl rfl rfl (fun _ _ => rfl) rfl rfl Xq1.2.2.2.2.2.2.1 ?_
          refine jv_bipush (pc' := 65) (n := 8) rfl rfl rfl ?_
          refine jv_aload_n (pc' := 66) (k := 0) (x := 38) rfl rfl rfl rfl ?_
          refine jv_getI (pc' := 69) (c := 6) (k := 9) (v := (iI ((pl : Nat) : Int))) rfl rfl rfl (fun _ _ => rfl) rfl rfl (Dq1.1.trans (congrArg iI hpl)) ?_
          refine jv_iconst (pc' := 70) (n := 0) rfl rfl ?_
          refine jv_long (pc' := 71) (y := lI 0) rfl (by decide) ?_
          refine jv_iconst (pc' := 72) (n := 1) rfl rfl ?_
          obtain ⟨nq10, hnq10, hmq10⟩ := DV_n Vq1.1 hlim
          refine jv_call (pc' := 75) rfl (cl_eadd2 (I := Iq1) (M := Mq1) (s := (dS s)) Dq1 hnq10 hmq10 (b0 := ((pl : Nat) : Int)) (by first | rfl | omega)) (fun vq10 gq10 q10 => ?_)
          obtain ⟨Iq10, Mq10, rfl, rfl, Dq10, uq10, wq10⟩ := q10
          have rq10 := fr_w uq10 wD_1
          have tq10 := fr_w wq10 wE_1
          have Xq10 := DX_fr Xq1 rq10
          show jx L xs _ 68 75 _ [] _ _
          refine jv_iconst (pc' := 76) (n := 0) rfl rfl ?_
          refine jv_retZ rfl rfl (by first | exact Or.inl rfl | exact Or.inr rfl) ⟨_, _, rfl, ?_⟩
          first
          | (exfalso; omega)
          | (have ec : dS s 1 nm = (if Y 1 k = -1 then (8 * (sz : Int) - dS s 0 0) / 8 else dS s 1 (Y 1 k).toNat) := by
               rw [if_neg (by omega), show (Y 1 k).toNat = nm by omega]
             exact ⟨_, _, _, rfl, (fr_t (fr_t (fr_r _) rq1) rq10), (fr_t (fr_t (fr_r _) tq1) tq10), Dq10, DRes_t (DRes_S hV hlim) (DRes_E Vq1.1 hlim hl (by omega) (by omega)), Or.inr ⟨rfl, _, Or.inr ⟨Or.inl ⟨oq1, rfl, rfl⟩, _, ec, Or.inl ⟨by omega, rfl, rfl⟩⟩⟩⟩)
    · skip
      exact absurd hz_2 (by decide)
  · skip
    have Xq1 := DX_fr hX rq1
    show jx L xs _ 68 6 _ [.int (iI 0)] _ _
    refine jv_if_ne (t := 11) (pc' := 9) (a := 0) rfl rfl rfl (by omega) (fun hz_11 => ?_) (fun hz_11 => ?_)
    · skip
      exact absurd hz_11 (by decide)
    · skip
      refine jv_iconst (pc' := 10) (n := 0) rfl rfl ?_
      refine jv_retZ rfl rfl (by first | exact Or.inl rfl | exact Or.inr rfl) ⟨_, _, rfl, ?_⟩
      first
      | (exfalso; omega)
      | exact ⟨_, _, _, rfl, (fr_t (fr_r _) rq1), (fr_t (fr_r _) tq1), Dq1, DRes_E hV hlim hl (by omega) (by omega), Or.inr ⟨rfl, _, Or.inl ⟨Or.inr ⟨oq1, rfl, rfl⟩, rfl, rfl⟩⟩⟩
end D3
