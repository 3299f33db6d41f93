/-! printed in part by wip/whole/gen/d5.py: the reference decodes -/
def MX (I : Nat → Nat → Int32) (fi : Nat) (B : Nat → Nat) (sz : Nat) (l : Int) (bg lim : Nat) (c : Nat → Int) (n : Nat) : Prop := MT I c n ∧ FM I fi B sz ∧ I 103 29 = iI (fi : Int) ∧ I 103 34 = iI l ∧ I 103 31 = iI (bg : Int) ∧ I 103 11 = iI (lim : Int) ∧ I 103 20 = iI ((255 : Nat) : Int) ∧ lim ≤ 64 ∧ bg ≤ 320 ∧ (0 ≤ l ∧ l < 4)
def wM1 (l k : Nat) : Prop := (l = 103 ∧ (k = 19 ∨ k = 22 ∨ k = 30 ∨ k = 32 ∨ k = 33)) ∨ (119 ≤ l ∧ l ≤ 123) ∨ l = 126
def wN1 (l _k : Nat) : Prop := l = 124 ∨ l = 125
def wM (l k : Nat) : Prop := (l = 103 ∧ (k = 19 ∨ k = 22 ∨ k = 30 ∨ k = 32 ∨ k = 33 ∨ k = 37)) ∨ (119 ≤ l ∧ l ≤ 123) ∨ l = 126 ∨ l = 127 ∨ l = 129
def wN (l _k : Nat) : Prop := l = 124 ∨ l = 125 ∨ l = 128
theorem wM_1 (l k : Nat) (h : wM1 l k) : wM l k := by unfold wM1 at h; unfold wM; omega
theorem wN_1 (l k : Nat) (h : wN1 l k) : wN l k := by unfold wN1 at h; unfold wN; omega
theorem MX_fr {I I' : Nat → Nat → Int32} {fi : Nat} {B : Nat → Nat} {sz : Nat} {l : Int} {bg lim : Nat} {c : Nat → Int} {n : Nat} (h : MX I fi B sz l bg lim c n) (f : fr wM I I') : MX I' fi B sz l bg lim c n := by
  obtain ⟨h1, h2, h3, h4, h5, h6, h7, hr⟩ := h
  exact ⟨MT_fr h1 f (by simp [wM]) (by intro k; simp [wM]), FM_fr h2 f (by simp [wM]) (by intro k; simp [wM]), (f _ _ (by simp [wM])).trans h3, (f _ _ (by simp [wM])).trans h4, (f _ _ (by simp [wM])).trans h5, (f _ _ (by simp [wM])).trans h6, (f _ _ (by simp [wM])).trans h7, hr⟩
theorem DM_en {I : Nat → Nat → Int32} {M : Nat → Nat → Int64} {s : DSt} {n : Nat} {l nm bits v mk : Int} (h : DM I M s) (hn : s 0 2 = (n : Int)) {i0 : Nat} (h0 : i0 = n) {z b0 : Int} (hz : z = s 0 2 + 1) (hb : b0 = s 0 0) :
    DM (jm_u (jm_u (jm_u (jm_u (jm_u (jm_u I 119 i0 (iI l)) 120 i0 (iI nm)) 121 i0 (iI b0)) 122 i0 (iI bits)) 123 i0 (iI mk)) 103 22 (iI z)) (jm_u M 124 i0 (lI v)) (dE s l nm bits v mk) := by
  subst h0
  obtain ⟨d0, d1, d2⟩ := dE_0 s l nm bits v mk
  refine ⟨?_, ?_, ?_, fun k hk => ?_, fun k hk => ?_⟩
  · rw [d0]; exact h.1
  · rw [d1]; exact h.2.1
  · rw [d2, hz]; rfl
  · obtain ⟨e1, e2⟩ := dE_1 s l nm bits v mk k
    rw [e1, e2]
    exact h.2.2.2.1 k hk
  · rw [d2] at hk
    by_cases e : (k : Int) = s 0 2
    · obtain ⟨e1, e2, e3, e4, e5, e6⟩ := dE_e s l nm bits v mk e
      rw [e1, e2, e3, e4, e5, e6]
      have ek : k = i0 := by omega
      subst ek
      subst hb
      refine ⟨?_, ?_, ?_, ?_, ?_, ?_⟩
      · rw [jm_u_n2 (by omega), jm_u_n2 (by omega), jm_u_n2 (by omega), jm_u_n2 (by omega), jm_u_n2 (by omega), jm_u_eq (by omega)]
      · rw [jm_u_n2 (by omega), jm_u_n2 (by omega), jm_u_n2 (by omega), jm_u_n2 (by omega), jm_u_eq (by omega)]
      · rw [jm_u_n2 (by omega), jm_u_n2 (by omega), jm_u_n2 (by omega), jm_u_eq (by omega)]
      · rw [jm_u_n2 (by omega), jm_u_n2 (by omega), jm_u_eq (by omega)]
      · rw [jm_u_n2 (by omega), jm_u_eq (by omega)]
      · rw [jm_u_eq (by omega)]
    · rw [dE_n s l nm bits v mk e (by omega), dE_n s l nm bits v mk e (by omega), dE_n s l nm bits v mk e (by omega), dE_n s l nm bits v mk e (by omega), dE_n s l nm bits v mk e (by omega), dE_n s l nm bits v mk e (by omega)]
      obtain ⟨a, b, c, d, f, g⟩ := h.2.2.2.2 k (by omega)
      refine ⟨?_, ?_, ?_, ?_, ?_, ?_⟩
      · rw [jm_u_n2 (by omega), jm_u_n2 (by omega), jm_u_n2 (by omega), jm_u_n2 (by omega), jm_u_n2 (by omega), jm_u_n2 (by omega)]; exact a
      · rw [jm_u_n2 (by omega), jm_u_n2 (by omega), jm_u_n2 (by omega), jm_u_n2 (by omega), jm_u_n2 (by omega), jm_u_n2 (by omega)]; exact b
      · rw [jm_u_n2 (by omega), jm_u_n2 (by omega), jm_u_n2 (by omega), jm_u_n2 (by omega), jm_u_n2 (by omega), jm_u_n2 (by omega)]; exact c
      · rw [jm_u_n2 (by omega), jm_u_n2 (by omega), jm_u_n2 (by omega), jm_u_n2 (by omega), jm_u_n2 (by omega), jm_u_n2 (by omega)]; exact d
      · rw [jm_u_n2 (by omega), jm_u_n2 (by omega), jm_u_n2 (by omega), jm_u_n2 (by omega), jm_u_n2 (by omega), jm_u_n2 (by omega)]; exact f
      · rw [jm_u_n2 (by omega)]; exact g
theorem DM_S {I : Nat → Nat → Int32} {M : Nat → Nat → Int64} {s : DSt} {z : Int} (h : DM I M s) (hz : z = s 0 1 + 1) : DM (jm_u I 103 32 (iI z)) M (dS s) := by
  subst hz
  refine ⟨h.1, rfl, h.2.2.1, fun k hk => ?_, fun k hk => ?_⟩
  · rw [dS_r s (by omega), dS_r s (by omega)]; exact h.2.2.2.1 k hk
  · rw [dS_r s (by omega), dS_r s (by omega), dS_r s (by omega), dS_r s (by omega), dS_r s (by omega), dS_r s (by omega)]; exact h.2.2.2.2 k hk
theorem DM_P {I : Nat → Nat → Int32} {M : Nat → Nat → Int64} {s : DSt} {z w : Int} (h : DM I M s) (hz : z = s 0 0 + w) : DM (jm_u I 103 30 (iI z)) M (dP s w) := by
  subst hz
  refine ⟨rfl, h.2.1, h.2.2.1, fun k hk => ?_, fun k hk => ?_⟩
  · rw [dP_r s w (by omega), dP_r s w (by omega)]; exact h.2.2.2.1 k hk
  · rw [dP_r s w (by omega), dP_r s w (by omega), dP_r s w (by omega), dP_r s w (by omega), dP_r s w (by omega), dP_r s w (by omega)]; exact h.2.2.2.2 k hk
theorem DM_F {I : Nat → Nat → Int32} {M : Nat → Nat → Int64} {s : DSt} {z w v : Int} {nm i1 i2 : Nat} (h : DM I M s) (h1 : i1 = nm) (h2 : i2 = nm) (hz : z = s 0 0 + w) : DM (jm_u (jm_u I 103 30 (iI z)) 126 i2 (iI 1)) (jm_u M 125 i1 (lI v)) (dF s nm w v) := by
  subst h1; subst h2; subst hz
  refine ⟨rfl, h.2.1, h.2.2.1, fun k hk => ?_, fun k hk => ?_⟩
  · obtain ⟨e1, e2⟩ := dF_1 s i2 w v k
    rw [e1, e2]
    obtain ⟨a, b⟩ := h.2.2.2.1 k hk
    by_cases e : k = i2
    · rw [if_pos e, if_pos e]
      exact ⟨jm_u_eq ⟨rfl, e⟩, jm_u_eq ⟨rfl, e⟩⟩
    · rw [if_neg e, if_neg e]
      exact ⟨(jm_u_n2 (by omega)).trans a, (jm_u_n2 (by omega)).trans ((jm_u_n2 (by omega)).trans b)⟩
  · rw [dF_r s i2 w v (by omega), dF_r s i2 w v (by omega), dF_r s i2 w v (by omega), dF_r s i2 w v (by omega), dF_r s i2 w v (by omega), dF_r s i2 w v (by omega)]
    obtain ⟨a, b, c, d, f, g⟩ := h.2.2.2.2 k hk
    exact ⟨a, b, c, d, f, (jm_u_n2 (by omega)).trans g⟩
theorem knw_255 {c : Nat → Int} {a : Nat} (h : 97 ≤ c a ∧ c a ≤ 104) : knw c 255 a := ⟨h, by
  have : ∀ i : Fin 8, (255 : Nat).testBit i.val = true := by decide
  exact this ⟨(c a - 97).toNat, by omega⟩⟩
theorem lI_1w {w : Nat} (hw : w ≤ 32) : lI 1 <<< ((iI ((w : Nat) : Int)).toInt64 &&& 63) = lI ((2 ^ w : Nat) : Int) := by
  have h1 : 2 ^ w ≤ 2 ^ 32 := Nat.pow_le_pow_right (by decide) hw
  have e := lI_shl (a := 1) (k := w) (by omega) (by omega)
  rw [show ((1 : Nat) : Int) = 1 from rfl, Nat.one_mul] at e
  exact e
/-- the reference's stack -/
def SK (I : Nat → Nat → Int32) (M : Nat → Nat → Int64) : DK → Prop
  | [] => True
  | x :: r => (I 127 r.length = iI (x.1 : Int) ∧ I 129 r.length = iI (if x.2.1 then 1 else 0) ∧ (x.2.1 = true → M 128 r.length = lI x.2.2)) ∧ SK I M r
theorem SK_c {I I' : Nat → Nat → Int32} {M M' : Nat → Nat → Int64} : ∀ {k : DK}, SK I M k → (∀ i, i < k.length → I' 127 i = I 127 i ∧ I' 129 i = I 129 i ∧ M' 128 i = M 128 i) → SK I' M' k := by
  intro k
  induction k with
  | nil => intro _ _; trivial
  | cons x r ih =>
    intro h q
    obtain ⟨q1, q2, q3⟩ := q r.length (by simp)
    exact ⟨⟨q1.trans h.1.1, q2.trans h.1.2.1, fun z => q3.trans (h.1.2.2 z)⟩, ih h.2 (fun i hi => q i (by simp; omega))⟩
theorem jv_lrem {L : Nat} {xs : Nat → Int32} {d mi pc : Nat} {f : jm_F} {r : List Value} {g : jm_H} {Q : jm_O → Prop} {pc' : Nat} {a b : Nat} (ht : jm_tab mi pc = some (.lrem, 1)) (hp : pc + 1 = pc') (hb : 0 < b) (ha : a < 2 ^ 63) (hb2 : b < 2 ^ 63) (kk : jx L xs d mi pc' f (.long (lI ((a % b : Nat) : Int)) :: r) g Q) : jx L xs d mi pc f (.long (lI ((b : Nat) : Int)) :: .long (lI ((a : Nat) : Int)) :: r) g Q := by
  subst hp
  have hne : ¬ lI ((b : Nat) : Int) = 0 := fun q => by
    have h0 : lI ((b : Nat) : Int) = lI 0 := q
    rw [lI_eq ⟨⟨by omega, by omega⟩, ⟨by omega, by omega⟩⟩] at h0
    omega
  exact jx_step (jx_ins ht rfl (by simp [jm_ins, jm_p1, jm_p2, hne, lI_rem hb ha hb2])) kk
theorem SP_t {lim : Nat} {l nm : Int} {s s1 : DSt} (h : SP lim l nm s true s1) : s 0 1 < lim ∧ s1 = dS s := by
  rcases h with h | h
  · exact ⟨h.1, h.2.2⟩
  · exact absurd h.2.1 (by simp)
theorem SP_f {lim : Nat} {l nm : Int} {s s1 : DSt} (h : SP lim l nm s false s1) : ¬ s 0 1 < lim ∧ s1 = dE s l nm 0 0 4 := by
  rcases h with h | h
  · exact absurd h.2.1 (by simp)
  · exact ⟨h.1, h.2.2⟩

section D5
variable {L : Nat} {xs : Nat → Int32} {d j : Nat} {I : Nat → Nat → Int32} {M : Nat → Nat → Int64} {p : Nat → Option Nat}
variable {fi : Nat} {B : Nat → Nat} {sz : Nat} {l : Int} {bg lim : Nat} {c : Nat → Int} {n : Nat} {s s' : DSt} {a : Nat}
theorem ml_leftBits (hX : MX I fi B sz l bg lim c n) (hM : DM I M s) (hV : DV lim sz s) : jc L xs d 136 [.ref 103] (jx_G j I M p) (fun v g1 => v = some (.int (iI (8 * (sz : Int) - s 0 0))) ∧ g1 = jx_G j I M p) := by
  unfold jc
  have hs := hX.2.1.2.2.1
  have hfi := hX.2.1.1
  have hlim := hX.2.2.2.2.2.2.2.1
  have hbg := hX.2.2.2.2.2.2.2.2.1
  have hl := hX.2.2.2.2.2.2.2.2.2
  have hv0 := hV.1
  have hv1 := hV.2.1
  have hv2 := hV.2.2.1
  have hn80 := hX.1.2.1
  refine jv_bipush (pc' := 2) (n := 8) rfl rfl rfl ?_
  refine jv_aload_n (pc' := 3) (k := 0) (x := 103) rfl rfl rfl rfl ?_
  refine jv_getR (pc' := 6) (c := 12) (k := 15) (v := 115) rfl rfl rfl (fun _ _ => rfl) rfl rfl (jR_103_15 _) ?_
  refine jv_aload_n (pc' := 7) (k := 0) (x := 103) rfl rfl rfl rfl ?_
  refine jv_getI (pc' := 10) (c := 12) (k := 29) (v := (iI (fi : Int))) rfl rfl rfl (fun _ _ => rfl) rfl rfl hX.2.2.1 ?_
  refine jv_iaload (pc' := 11) (n := 12) (e := (fi : Int)) (v := (iI (sz : Int))) rfl rfl (by decide) rfl rfl rfl (by omega) hX.2.1.2.1 ?_
  refine jv_imul (pc' := 12) (a := 8) (b := (sz : Int)) rfl rfl ?_
  refine jv_aload_n (pc' := 13) (k := 0) (x := 103) rfl rfl rfl rfl ?_
  refine jv_getI (pc' := 16) (c := 12) (k := 30) (v := (iI (s 0 0))) rfl rfl rfl (fun _ _ => rfl) rfl rfl hM.1 ?_
  refine jv_isub (pc' := 17) (a := (8 * (sz : Int))) (b := (s 0 0)) rfl rfl ?_
  refine jv_retI rfl rfl ⟨_, _, rfl, ?_⟩
  exact ⟨jq_i (by omega), rfl⟩
theorem ml_enter (hX : MX I fi B sz l bg lim c n) (hM : DM I M s) (hV : DV lim sz s) {k : Nat} (hn : s 0 2 = (k : Int)) (h64 : k < 64) {nm bits v mk : Int} : jc L xs d 137 [.ref 103, .int (iI nm), .int (iI bits), .long (lI v), .int (iI mk)] (jx_G j I M p) (fun v' g1 => ∃ I' M', g1 = jx_G j I' M' p ∧ v' = none ∧ DM I' M' (dE s l nm bits v mk) ∧ fr (fun l k => (l = 103 ∧ k = 22) ∨ (119 ≤ l ∧ l ≤ 123)) I I' ∧ fr (fun l _ => l = 124) M M') := by
  unfold jc
  have hs := hX.2.1.2.2.1
  have hfi := hX.2.1.1
  have hlim := hX.2.2.2.2.2.2.2.1
  have hbg := hX.2.2.2.2.2.2.2.2.1
  have hl := hX.2.2.2.2.2.2.2.2.2
  have hv0 := hV.1
  have hv1 := hV.2.1
  have hv2 := hV.2.2.1
  have hn80 := hX.1.2.1
  refine jv_aload_n (pc' := 1) (k := 0) (x := 103) rfl rfl rfl rfl ?_
  refine jv_getR (pc' := 4) (c := 12) (k := 23) (v := 119) rfl rfl rfl (fun _ _ => rfl) rfl rfl (jR_103_23 _) ?_
  refine jv_aload_n (pc' := 5) (k := 0) (x := 103) rfl rfl rfl rfl ?_
  refine jv_getI (pc' := 8) (c := 12) (k := 22) (v := (iI (k : Int))) rfl rfl rfl (fun _ _ => rfl) rfl rfl (hM.2.2.1.trans (congrArg iI hn)) ?_
  refine jv_aload_n (pc' := 9) (k := 0) (x := 103) rfl rfl rfl rfl ?_
  refine jv_getI (pc' := 12) (c := 12) (k := 34) (v := (iI l)) rfl rfl rfl (fun _ _ => rfl) rfl rfl hX.2.2.2.1 ?_
  refine jv_iastore (pc' := 13) (n := 65) (e := (k : Int)) (v := (iI l)) rfl rfl rfl rfl rfl (by omega) ?_
  refine jv_aload_n (pc' := 14) (k := 0) (x := 103) rfl rfl rfl rfl ?_
  refine jv_getR (pc' := 17) (c := 12) (k := 24) (v := 120) rfl rfl rfl (fun _ _ => rfl) rfl rfl (jR_103_24 _) ?_
  refine jv_aload_n (pc' := 18) (k := 0) (x := 103) rfl rfl rfl rfl ?_
  refine jv_getI (pc' := 21) (c := 12) (k := 22) (v := (iI (k : Int))) rfl rfl rfl (fun _ _ => rfl) rfl rfl (hM.2.2.1.trans (congrArg iI hn)) ?_
  refine jv_iload_n (pc' := 22) (k := 1) (x := (iI nm)) rfl rfl rfl rfl ?_
  refine jv_iastore (pc' := 23) (n := 65) (e := (k : Int)) (v := (iI nm)) rfl rfl rfl rfl rfl (by omega) ?_
  refine jv_aload_n (pc' := 24) (k := 0) (x := 103) rfl rfl rfl rfl ?_
  refine jv_getR (pc' := 27) (c := 12) (k := 25) (v := 121) rfl rfl rfl (fun _ _ => rfl) rfl rfl (jR_103_25 _) ?_
  refine jv_aload_n (pc' := 28) (k := 0) (x := 103) rfl rfl rfl rfl ?_
  refine jv_getI (pc' := 31) (c := 12) (k := 22) (v := (iI (k : Int))) rfl rfl rfl (fun _ _ => rfl) rfl rfl (hM.2.2.1.trans (congrArg iI hn)) ?_
  refine jv_aload_n (pc' := 32) (k := 0) (x := 103) rfl rfl rfl rfl ?_
  refine jv_getI (pc' := 35) (c := 12) (k := 30) (v := (iI (s 0 0))) rfl rfl rfl (fun _ _ => rfl) rfl rfl hM.1 ?_
  refine jv_iastore (pc' := 36) (n := 65) (e := (k : Int)) (v := (iI (s 0 0))) rfl rfl rfl rfl rfl (by omega) ?_
  refine jv_aload_n (pc' := 37) (k := 0) (x := 103) rfl rfl rfl rfl ?_
  refine jv_getR (pc' := 40) (c := 12) (k := 26) (v := 122) rfl rfl rfl (fun _ _ => rfl) rfl rfl (jR_103_26 _) ?_
  refine jv_aload_n (pc' := 41) (k := 0) (x := 103) rfl rfl rfl rfl ?_
  refine jv_getI (pc' := 44) (c := 12) (k := 22) (v := (iI (k : Int))) rfl rfl rfl (fun _ _ => rfl) rfl rfl (hM.2.2.1.trans (congrArg iI hn)) ?_
  refine jv_iload_n (pc' := 45) (k := 2) (x := (iI bits)) rfl rfl rfl rfl ?_
  refine jv_iastore (pc' := 46) (n := 65) (e := (k : Int)) (v := (iI bits)) rfl rfl rfl rfl rfl (by omega) ?_
  refine jv_aload_n (pc' := 47) (k := 0) (x := 103) rfl rfl rfl rfl ?_
  refine jv_getR (pc' := 50) (c := 12) (k := 28) (v := 124) rfl rfl rfl (fun _ _ => rfl) rfl rfl (jR_103_28 _) ?_
  refine jv_aload_n (pc' := 51) (k := 0) (x := 103) rfl rfl rfl rfl ?_
  refine jv_getI (pc' := 54) (c := 12) (k := 22) (v := (iI (k : Int))) rfl rfl rfl (fun _ _ => rfl) rfl rfl (hM.2.2.1.trans (congrArg iI hn)) ?_
  refine jv_lload_n (pc' := 55) (k := 3) (x := (lI v)) rfl rfl rfl rfl ?_
  refine jv_lastore (pc' := 56) (n := 65) (e := (k : Int)) (v := (lI v)) rfl rfl rfl rfl rfl (by omega) ?_
  refine jv_aload_n (pc' := 57) (k := 0) (x := 103) rfl rfl rfl rfl ?_
  refine jv_getR (pc' := 60) (c := 12) (k := 27) (v := 123) rfl rfl rfl (fun _ _ => rfl) rfl rfl (jR_103_27 _) ?_
  refine jv_aload_n (pc' := 61) (k := 0) (x := 103) rfl rfl rfl rfl ?_
  refine jv_getI (pc' := 64) (c := 12) (k := 22) (v := (iI (k : Int))) rfl rfl rfl (fun _ _ => rfl) rfl rfl (hM.2.2.1.trans (congrArg iI hn)) ?_
  refine jv_iload (pc' := 66) (k := 5) (x := (iI mk)) rfl rfl rfl ?_
  refine jv_iastore (pc' := 67) (n := 65) (e := (k : Int)) (v := (iI mk)) rfl rfl rfl rfl rfl (by omega) ?_
  refine jv_aload_n (pc' := 68) (k := 0) (x := 103) rfl rfl rfl rfl ?_
  refine jx_step (pc' := 69) rfl ?_
  refine jv_getI (pc' := 72) (c := 12) (k := 22) (v := (iI (k : Int))) rfl rfl rfl (fun _ _ => rfl) rfl rfl (hM.2.2.1.trans (congrArg iI hn)) ?_
  refine jv_iconst (pc' := 73) (n := 1) rfl rfl ?_
  refine jv_iadd (pc' := 74) (a := (k : Int)) (b := 1) rfl rfl ?_
  refine jv_putI (pc' := 77) (c := 12) (k := 22) rfl rfl rfl rfl (fun _ _ _  => rfl) rfl rfl ?_
  refine jv_retV rfl rfl ⟨_, _, rfl, ?_⟩
  exact ⟨_, _, rfl, rfl, DM_en hM hn (by omega) (by omega) rfl, (fr_u (by simp) (fr_u (by simp) (fr_u (by simp) (fr_u (by simp) (fr_u (by simp) (fr_u (by simp) (fr_r _))))))), (fr_u (rfl) (fr_r _))⟩
theorem wM1_E (l k : Nat) (h : (l = 103 ∧ k = 22) ∨ (119 ≤ l ∧ l ≤ 123)) : wM1 l k := by unfold wM1; omega
theorem wN1_E (l k : Nat) (h : l = 124) : wN1 l k := Or.inl h
theorem ml_steps_y (hX : MX I fi B sz l bg lim c n) (hM : DM I M s) (hV : DV lim sz s) (h : s 0 1 < lim) {nm : Int} : jc L xs (d + 1) 138 [.ref 103, .int (iI nm)] (jx_G j I M p) (fun v g1 => ∃ I' M', g1 = jx_G j I' M' p ∧ v = some (.int (iI 1)) ∧ fr wM1 I I' ∧ fr wN1 M M' ∧ DM I' M' (dS s) ∧ fr (fun l k => l = 103 ∧ k = 32) I I') := by
  unfold jc
  have hs := hX.2.1.2.2.1
  have hfi := hX.2.1.1
  have hlim := hX.2.2.2.2.2.2.2.1
  have hbg := hX.2.2.2.2.2.2.2.2.1
  have hl := hX.2.2.2.2.2.2.2.2.2
  have hv0 := hV.1
  have hv1 := hV.2.1
  have hv2 := hV.2.2.1
  have hn80 := hX.1.2.1
  refine jv_aload_n (pc' := 1) (k := 0) (x := 103) rfl rfl rfl rfl ?_
  refine jv_getI (pc' := 4) (c := 12) (k := 32) (v := (iI (s 0 1))) rfl rfl rfl (fun _ _ => rfl) rfl rfl hM.2.1 ?_
  refine jv_aload_n (pc' := 5) (k := 0) (x := 103) rfl rfl rfl rfl ?_
  refine jv_getI (pc' := 8) (c := 12) (k := 11) (v := (iI (lim : Int))) rfl rfl rfl (fun _ _ => rfl) rfl rfl hX.2.2.2.2.2.1 ?_
  refine jv_ic_ne (t := 26) (pc' := 11) (a := (s 0 1)) (b := (lim : Int)) rfl rfl rfl (by omega) (fun hz_1 => ?_) (fun hz_1 => ?_)
  · skip
    refine jv_aload_n (pc' := 27) (k := 0) (x := 103) rfl rfl rfl rfl ?_
    refine jx_step (pc' := 28) rfl ?_
    refine jv_getI (pc' := 31) (c := 12) (k := 32) (v := (iI (s 0 1))) rfl rfl rfl (fun _ _ => rfl) rfl rfl hM.2.1 ?_
    refine jv_iconst (pc' := 32) (n := 1) rfl rfl ?_
    refine jv_iadd (pc' := 33) (a := (s 0 1)) (b := 1) rfl rfl ?_
    refine jv_putI (pc' := 36) (c := 12) (k := 32) rfl rfl rfl rfl (fun _ _ _  => rfl) rfl rfl ?_
    refine jv_iconst (pc' := 37) (n := 1) rfl rfl ?_
    refine jv_retZ rfl rfl (by first | exact Or.inl rfl | exact Or.inr rfl) ⟨_, _, rfl, ?_⟩
    first
    | (exfalso; omega)
    | exact ⟨_, _, rfl, rfl, (fr_u (by simp [wM1]) (fr_r _)), (fr_r _), DM_S hM rfl, (fr_u (by simp) (fr_r _))⟩
  · skip
    refine jv_aload_n (pc' := 12) (k := 0) (x := 103) rfl rfl rfl rfl ?_
    refine jv_iload_n (pc' := 13) (k := 1) (x := (iI nm)) rfl rfl rfl rfl ?_
    refine jv_iconst (pc' := 14) (n := 0) rfl rfl ?_
    refine jv_long (pc' := 15) (y := lI 0) rfl (by decide) ?_
    refine jv_iconst (pc' := 16) (n := 4) rfl rfl ?_
    obtain ⟨nq2, hnq2, hmq2⟩ := DV_n hV hlim
    refine jv_call (pc' := 19) rfl (ml_enter (I := I) (M := M) (s := s) hX hM hV hnq2 hmq2) (fun vq2 gq2 q2 => ?_)
    obtain ⟨Iq2, Mq2, rfl, rfl, Dq2, uq2, wq2⟩ := q2
    have rq2 := fr_w uq2 wM1_E
    have tq2 := fr_w wq2 wN1_E
    have Xq2 := MX_fr (I := I) hX (fr_w rq2 wM_1)
    show jx L xs _ 138 19 _ [] _ _
    refine jv_aload_n (pc' := 20) (k := 0) (x := 103) rfl rfl rfl rfl ?_
    refine jv_iconst (pc' := 21) (n := 1) rfl rfl ?_
    refine jv_putZ (pc' := 24) (c := 12) (k := 33) rfl rfl rfl rfl (fun _ _ _ hz => if_pos hz) rfl rfl (by first | exact Or.inl rfl | exact Or.inr rfl) ?_
    refine jv_iconst (pc' := 25) (n := 0) rfl rfl ?_
    refine jv_retZ rfl rfl (by first | exact Or.inl rfl | exact Or.inr rfl) ⟨_, _, rfl, ?_⟩
    first
    | (exfalso; omega)
    | exact ⟨_, _, rfl, rfl, (fr_u (by simp [wM1]) (fr_t (fr_r _) rq2)), (fr_t (fr_r _) tq2), Dq2, rfl, fun k h => (jm_u_n2 (by omega)).trans (uq2 103 k (by omega))⟩
theorem ml_steps_n (hX : MX I fi B sz l bg lim c n) (hM : DM I M s) (hV : DV lim sz s) (h : ¬ s 0 1 < lim) {nm : Int} : jc L xs (d + 1) 138 [.ref 103, .int (iI nm)] (jx_G j I M p) (fun v g1 => ∃ I' M', g1 = jx_G j I' M' p ∧ v = some (.int (iI 0)) ∧ fr wM1 I I' ∧ fr wN1 M M' ∧ DM I' M' (dE s l nm 0 0 4) ∧ I' 103 33 = iI 1 ∧ (∀ k, (k ≠ 22 ∧ k ≠ 33) → I' 103 k = I 103 k)) := by
  unfold jc
  have hs := hX.2.1.2.2.1
  have hfi := hX.2.1.1
  have hlim := hX.2.2.2.2.2.2.2.1
  have hbg := hX.2.2.2.2.2.2.2.2.1
  have hl := hX.2.2.2.2.2.2.2.2.2
  have hv0 := hV.1
  have hv1 := hV.2.1
  have hv2 := hV.2.2.1
  have hn80 := hX.1.2.1
  refine jv_aload_n (pc' := 1) (k := 0) (x := 103) rfl rfl rfl rfl ?_
  refine jv_getI (pc' := 4) (c := 12) (k := 32) (v := (iI (s 0 1))) rfl rfl rfl (fun _ _ => rfl) rfl rfl hM.2.1 ?_
  refine jv_aload_n (pc' := 5) (k := 0) (x := 103) rfl rfl rfl rfl ?_
  refine jv_getI (pc' := 8) (c := 12) (k := 11) (v := (iI (lim : Int))) rfl rfl rfl (fun _ _ => rfl) rfl rfl hX.2.2.2.2.2.1 ?_
  refine jv_ic_ne (t := 26) (pc' := 11) (a := (s 0 1)) (b := (lim : Int)) rfl rfl rfl (by omega) (fun hz_1 => ?_) (fun hz_1 => ?_)
  · skip
    refine jv_aload_n (pc' := 27) (k := 0) (x := 103) rfl rfl rfl rfl ?_
    refine jx_step (pc' := 28) rfl ?_
    refine jv_getI (pc' := 31) (c := 12) (k := 32) (v := (iI (s 0 1))) rfl rfl rfl (fun _ _ => rfl) rfl rfl hM.2.1 ?_
    refine jv_iconst (pc' := 32) (n := 1) rfl rfl ?_
    refine jv_iadd (pc' := 33) (a := (s 0 1)) (b := 1) rfl rfl ?_
    refine jv_putI (pc' := 36) (c := 12) (k := 32) rfl rfl rfl rfl (fun _ _ _  => rfl) rfl rfl ?_
    refine jv_iconst (pc' := 37) (n := 1) rfl rfl ?_
    refine jv_retZ rfl rfl (by first | exact Or.inl rfl | exact Or.inr rfl) ⟨_, _, rfl, ?_⟩
    first
    | (exfalso; omega)
    | exact ⟨_, _, rfl, rfl, (fr_u (by simp [wM1]) (fr_r _)), (fr_r _), DM_S hM rfl, (fr_u (by simp) (fr_r _))⟩
  · skip
    refine jv_aload_n (pc' := 12) (k := 0) (x := 103) rfl rfl rfl rfl ?_
    refine jv_iload_n (pc' := 13) (k := 1) (x := (iI nm)) rfl rfl rfl rfl ?_
    refine jv_iconst (pc' := 14) (n := 0) rfl rfl ?_
    refine jv_long (pc' := 15) (y := lI 0) rfl (by decide) ?_
    refine jv_iconst (pc' := 16) (n := 4) rfl rfl ?_
    obtain ⟨nq2, hnq2, hmq2⟩ := DV_n hV hlim
    refine jv_call (pc' := 19) rfl (ml_enter (I := I) (M := M) (s := s) hX hM hV hnq2 hmq2) (fun vq2 gq2 q2 => ?_)
    obtain ⟨Iq2, Mq2, rfl, rfl, Dq2, uq2, wq2⟩ := q2
    have rq2 := fr_w uq2 wM1_E
    have tq2 := fr_w wq2 wN1_E
    have Xq2 := MX_fr (I := I) hX (fr_w rq2 wM_1)
    show jx L xs _ 138 19 _ [] _ _
    refine jv_aload_n (pc' := 20) (k := 0) (x := 103) rfl rfl rfl rfl ?_
    refine jv_iconst (pc' := 21) (n := 1) rfl rfl ?_
    refine jv_putZ (pc' := 24) (c := 12) (k := 33) rfl rfl rfl rfl (fun _ _ _ hz => if_pos hz) rfl rfl (by first | exact Or.inl rfl | exact Or.inr rfl) ?_
    refine jv_iconst (pc' := 25) (n := 0) rfl rfl ?_
    refine jv_retZ rfl rfl (by first | exact Or.inl rfl | exact Or.inr rfl) ⟨_, _, rfl, ?_⟩
    first
    | (exfalso; omega)
    | exact ⟨_, _, rfl, rfl, (fr_u (by simp [wM1]) (fr_t (fr_r _) rq2)), (fr_t (fr_r _) tq2), Dq2, rfl, fun k h => (jm_u_n2 (by omega)).trans (uq2 103 k (by omega))⟩
set_option maxHeartbeats 4000000 in
theorem ml_runField (hX : MX I fi B sz l bg lim c n) (hM : DM I M s) (hV : DV lim sz s) (hat : I 103 19 = iI ((a : Nat) : Int)) (hov : I 103 33 = iI 0) {Y : Nat → Nat → Int} {f e : Nat} (hFI : FI c Y f a e) (he : e ≤ 80) {ok : Bool} (hFD : FD B lim sz bg l (Y 1 f).toNat (Y 4 (Y 1 f).toNat).toNat (Y 5 (Y 1 f).toNat) (Y 0 f) (Y 2 f) s ok s') : jc L xs (d + 2) 142 [.ref 103] (jx_G j I M p) (fun v g1 => ∃ I' M', g1 = jx_G j I' M' p ∧ v = none ∧ fr wM1 I I' ∧ fr wN1 M M' ∧ DM I' M' s' ∧ I' 103 19 = iI ((e : Nat) : Int) ∧ I' 103 33 = iI (if ok = true then 0 else 1)) := by
  unfold jc
  have hs := hX.2.1.2.2.1
  have hfi := hX.2.1.1
  have hlim := hX.2.2.2.2.2.2.2.1
  have hbg := hX.2.2.2.2.2.2.2.2.1
  have hl := hX.2.2.2.2.2.2.2.2.2
  have hv0 := hV.1
  have hv1 := hV.2.1
  have hv2 := hV.2.2.1
  have hn80 := hX.1.2.1
  obtain ⟨nm, w, k1, hnm, k4, hw, k5, k0⟩ := FK hFI
  rw [k1, Int.toNat_natCast, k4, Int.toNat_natCast] at hFD
  have hfe := (FI_np hFI).1
  obtain ⟨x1, x2, x3, x4, x5, a2, x6, x7⟩ := hFI
  have xn : (c a - 97).toNat = nm := by omega
  rw [xn] at x5 x6
  have xw : nv c (a + 1) = ((w : Nat) : Int) := by omega
  unfold fd1 at x6
  obtain ⟨pl, hpl⟩ : ∃ pl : Nat, s 0 0 = ((pl : Nat) : Int) := ⟨(s 0 0).toNat, by omega⟩
  have hnd1 := nd_le c (a + 1)
  rcases hFD with ⟨s1, ⟨hSP, rfl, rfl⟩ | ⟨hSP, hlt, rfl, rfl⟩ | ⟨hSP, hge, v, mk, hv, hmk, hok, rfl⟩⟩
  · obtain ⟨o1, rfl⟩ := SP_f hSP
    rcases x6 with ⟨y1, rfl, y2, y3⟩ | ⟨y1, rfl, y2⟩
    · rcases x7 with ⟨u1, u2, u3, u4, rfl⟩ | ⟨u1, u3, rfl⟩ | ⟨u1, u2, u3, rfl⟩
      · skip
        have u5 : Y 2 f = nv c (a + 1 + nd c (a + 1) + 2) := u4
        refine jv_aload_n (pc' := 1) (k := 0) (x := 103) rfl rfl rfl rfl ?_
        have hm1 := MT_c hX.1 (a)
        refine jv_call (pc' := 4) rfl (ml_here (I := I) (a := a) hX.1 hat (by omega)) (fun vq2 gq2 q2 => ?_)
        obtain ⟨rfl, rfl⟩ := q2
        show jx L xs _ 142 4 _ [.int (iI (c (a)))] _ _
        refine jv_bipush (pc' := 6) (n := 97) rfl rfl rfl ?_
        refine jv_isub (pc' := 7) (a := (c (a))) (b := 97) rfl rfl ?_
        rw [show (c (a)) - 97 = ((nm : Nat) : Int) by omega]
        refine jv_istore_n (pc' := 8) (k := 1) (x := (iI ((nm : Nat) : Int))) rfl rfl rfl rfl (Or.inr rfl) ?_
        refine jv_aload_n (pc' := 9) (k := 0) (x := 103) rfl rfl rfl rfl ?_
        refine jx_step (pc' := 10) rfl ?_
        refine jv_getI (pc' := 13) (c := 12) (k := 19) (v := (iI ((a : Nat) : Int))) rfl rfl rfl (fun _ _ => rfl) rfl rfl hat ?_
        refine jv_iconst (pc' := 14) (n := 1) rfl rfl ?_
        refine jv_iadd (pc' := 15) (a := ((a : Nat) : Int)) (b := 1) rfl rfl ?_
        refine jv_putI (pc' := 18) (c := 12) (k := 19) rfl rfl rfl rfl (fun _ _ _  => rfl) rfl rfl ?_
        refine jv_aload_n (pc' := 19) (k := 0) (x := 103) rfl rfl rfl rfl ?_
        have hm3 := nv_b c (a + 1)
        have hm4 := nd_le c (a + 1)
        refine jv_call (pc' := 22) rfl (ml_number_y (I := jm_u I 103 19 (iI (((a : Nat) : Int) + 1))) (a := a + 1) hX.1 rfl (by omega) (by omega)) (fun vq5 gq5 q5 => ?_)
        obtain ⟨rfl, rfl⟩ := q5
        show jx L xs _ 142 22 _ [.int (iI (nv c (a + 1)))] _ _
        rw [show nv c (a + 1) = ((w : Nat) : Int) by omega]
        refine jv_istore_n (pc' := 23) (k := 2) (x := (iI ((w : Nat) : Int))) rfl rfl rfl rfl (Or.inr rfl) ?_
        refine jv_aload_n (pc' := 24) (k := 0) (x := 103) rfl rfl rfl rfl ?_
        refine jv_bipush (pc' := 26) (n := 60) rfl rfl rfl ?_
        refine jv_call (pc' := 29) rfl (ml_takes_y (I := jm_u (jm_u I 103 19 (iI (((a : Nat) : Int) + 1))) 103 19 (iI ((a + 1 + nd c (a + 1) : Nat) : Int))) (x := 60) (a := a + 1 + nd c (a + 1)) (by omega) hX.1 rfl (by omega) (by omega)) (fun vq6 gq6 q6 => ?_)
        obtain ⟨rfl, rfl⟩ := q6
        show jx L xs _ 142 29 _ [.int (iI 1)] _ _
        refine jv_istore_n (pc' := 30) (k := 3) (x := (iI 1)) rfl rfl rfl rfl (Or.inr rfl) ?_
        refine jv_aload_n (pc' := 31) (k := 0) (x := 103) rfl rfl rfl rfl ?_
        refine jv_bipush (pc' := 33) (n := 61) rfl rfl rfl ?_
        refine jv_call (pc' := 36) rfl (ml_takes_y (I := jm_u (jm_u (jm_u I 103 19 (iI (((a : Nat) : Int) + 1))) 103 19 (iI ((a + 1 + nd c (a + 1) : Nat) : Int))) 103 19 (iI ((a + 1 + nd c (a + 1) + 1 : Nat) : Int))) (x := 61) (a := a + 1 + nd c (a + 1) + 1) (by omega) hX.1 rfl (by omega) (by omega)) (fun vq7 gq7 q7 => ?_)
        obtain ⟨rfl, rfl⟩ := q7
        show jx L xs _ 142 36 _ [.int (iI 1)] _ _
        refine jv_if_eq (t := 46) (pc' := 39) (a := 1) rfl rfl rfl (by omega) (fun hz_8 => ?_) (fun hz_8 => ?_)
        · skip
          exact absurd hz_8 (by decide)
        · skip
          refine jv_aload_n (pc' := 40) (k := 0) (x := 103) rfl rfl rfl rfl ?_
          have hm9 := nv_b c (a + 1 + nd c (a + 1) + 2)
          have hm10 := nd_le c (a + 1 + nd c (a + 1) + 2)
          refine jv_call (pc' := 43) rfl (ml_number_y (I := jm_u (jm_u (jm_u (jm_u I 103 19 (iI (((a : Nat) : Int) + 1))) 103 19 (iI ((a + 1 + nd c (a + 1) : Nat) : Int))) 103 19 (iI ((a + 1 + nd c (a + 1) + 1 : Nat) : Int))) 103 19 (iI ((a + 1 + nd c (a + 1) + 2 : Nat) : Int))) (a := a + 1 + nd c (a + 1) + 2) hX.1 rfl (by omega) (by omega)) (fun vq11 gq11 q11 => ?_)
          obtain ⟨rfl, rfl⟩ := q11
          show jx L xs _ 142 43 _ [.int (iI (nv c (a + 1 + nd c (a + 1) + 2)))] _ _
          refine jx_step (pc' := 47) rfl ?_
          refine jv_istore (pc' := 49) (k := 4) (x := (iI (nv c (a + 1 + nd c (a + 1) + 2)))) rfl rfl rfl (Or.inr rfl) ?_
          refine jv_iload (pc' := 51) (k := 4) (x := (iI (nv c (a + 1 + nd c (a + 1) + 2)))) rfl rfl rfl ?_
          refine jv_if_ge (t := 67) (pc' := 54) (a := (nv c (a + 1 + nd c (a + 1) + 2))) rfl rfl rfl (by omega) (fun hz_12 => ?_) (fun hz_12 => ?_)
          · skip
            refine jv_iconst (pc' := 68) (n := 0) rfl rfl ?_
            refine jv_istore (pc' := 70) (k := 5) (x := (iI 0)) rfl rfl rfl (Or.inr rfl) ?_
            refine jv_aload_n (pc' := 71) (k := 0) (x := 103) rfl rfl rfl rfl ?_
            refine jv_iload_n (pc' := 72) (k := 1) (x := (iI ((nm : Nat) : Int))) rfl rfl rfl rfl ?_
            refine jv_call (pc' := 75) rfl (ml_steps_n (I := jm_u (jm_u (jm_u (jm_u (jm_u I 103 19 (iI (((a : Nat) : Int) + 1))) 103 19 (iI ((a + 1 + nd c (a + 1) : Nat) : Int))) 103 19 (iI ((a + 1 + nd c (a + 1) + 1 : Nat) : Int))) 103 19 (iI ((a + 1 + nd c (a + 1) + 2 : Nat) : Int))) 103 19 (iI ((a + 1 + nd c (a + 1) + 2 + nd c (a + 1 + nd c (a + 1) + 2) : Nat) : Int))) (M := M) (s := s) (nm := ((nm : Nat) : Int)) hX hM hV o1) (fun vq13 gq13 q13 => ?_)
            obtain ⟨Iq13, Mq13, rfl, rfl, rq13, tq13, Dq13, oq13, uq13⟩ := q13
            have Xq13 := MX_fr (I := jm_u (jm_u (jm_u (jm_u (jm_u I 103 19 (iI (((a : Nat) : Int) + 1))) 103 19 (iI ((a + 1 + nd c (a + 1) : Nat) : Int))) 103 19 (iI ((a + 1 + nd c (a + 1) + 1 : Nat) : Int))) 103 19 (iI ((a + 1 + nd c (a + 1) + 2 : Nat) : Int))) 103 19 (iI ((a + 1 + nd c (a + 1) + 2 + nd c (a + 1 + nd c (a + 1) + 2) : Nat) : Int))) hX (fr_w rq13 wM_1)
            show jx L xs _ 142 75 _ [.int (iI 0)] _ _
            refine jv_if_ne (t := 79) (pc' := 78) (a := 0) rfl rfl rfl (by omega) (fun hz_14 => ?_) (fun hz_14 => ?_)
            · skip
              exact absurd hz_14 (by decide)
            · skip
              refine jv_retV rfl rfl ⟨_, _, rfl, ?_⟩
              first
              | (exfalso; omega)
              | exact ⟨_, _, rfl, rfl, (fr_t (fr_u (by simp [wM1]) (fr_u (by simp [wM1]) (fr_u (by simp [wM1]) (fr_u (by simp [wM1]) (fr_u (by simp [wM1]) (fr_r _)))))) rq13), (fr_t (fr_r _) tq13), Dq13, ((uq13 19 (by omega)).trans rfl), oq13⟩
          · skip
            refine jv_aload_n (pc' := 55) (k := 0) (x := 103) rfl rfl rfl rfl ?_
            refine jv_bipush (pc' := 57) (n := 33) rfl rfl rfl ?_
            refine jv_call (pc' := 60) rfl (ml_takes_n (I := jm_u (jm_u (jm_u (jm_u (jm_u I 103 19 (iI (((a : Nat) : Int) + 1))) 103 19 (iI ((a + 1 + nd c (a + 1) : Nat) : Int))) 103 19 (iI ((a + 1 + nd c (a + 1) + 1 : Nat) : Int))) 103 19 (iI ((a + 1 + nd c (a + 1) + 2 : Nat) : Int))) 103 19 (iI ((a + 1 + nd c (a + 1) + 2 + nd c (a + 1 + nd c (a + 1) + 2) : Nat) : Int))) (x := 33) (a := a + 1 + nd c (a + 1) + 2 + nd c (a + 1 + nd c (a + 1) + 2)) (by omega) hX.1 rfl (by omega) (by omega)) (fun vq15 gq15 q15 => ?_)
            obtain ⟨rfl, rfl⟩ := q15
            show jx L xs _ 142 60 _ [.int (iI 0)] _ _
            refine jv_if_eq (t := 67) (pc' := 63) (a := 0) rfl rfl rfl (by omega) (fun hz_16 => ?_) (fun hz_16 => ?_)
            · skip
              refine jv_iconst (pc' := 68) (n := 0) rfl rfl ?_
              refine jv_istore (pc' := 70) (k := 5) (x := (iI 0)) rfl rfl rfl (Or.inr rfl) ?_
              refine jv_aload_n (pc' := 71) (k := 0) (x := 103) rfl rfl rfl rfl ?_
              refine jv_iload_n (pc' := 72) (k := 1) (x := (iI ((nm : Nat) : Int))) rfl rfl rfl rfl ?_
              refine jv_call (pc' := 75) rfl (ml_steps_n (I := jm_u (jm_u (jm_u (jm_u (jm_u I 103 19 (iI (((a : Nat) : Int) + 1))) 103 19 (iI ((a + 1 + nd c (a + 1) : Nat) : Int))) 103 19 (iI ((a + 1 + nd c (a + 1) + 1 : Nat) : Int))) 103 19 (iI ((a + 1 + nd c (a + 1) + 2 : Nat) : Int))) 103 19 (iI ((a + 1 + nd c (a + 1) + 2 + nd c (a + 1 + nd c (a + 1) + 2) : Nat) : Int))) (M := M) (s := s) (nm := ((nm : Nat) : Int)) hX hM hV o1) (fun vq17 gq17 q17 => ?_)
              obtain ⟨Iq17, Mq17, rfl, rfl, rq17, tq17, Dq17, oq17, uq17⟩ := q17
              have Xq17 := MX_fr (I := jm_u (jm_u (jm_u (jm_u (jm_u I 103 19 (iI (((a : Nat) : Int) + 1))) 103 19 (iI ((a + 1 + nd c (a + 1) : Nat) : Int))) 103 19 (iI ((a + 1 + nd c (a + 1) + 1 : Nat) : Int))) 103 19 (iI ((a + 1 + nd c (a + 1) + 2 : Nat) : Int))) 103 19 (iI ((a + 1 + nd c (a + 1) + 2 + nd c (a + 1 + nd c (a + 1) + 2) : Nat) : Int))) hX (fr_w rq17 wM_1)
              show jx L xs _ 142 75 _ [.int (iI 0)] _ _
              refine jv_if_ne (t := 79) (pc' := 78) (a := 0) rfl rfl rfl (by omega) (fun hz_18 => ?_) (fun hz_18 => ?_)
              · skip
                exact absurd hz_18 (by decide)
              · skip
                refine jv_retV rfl rfl ⟨_, _, rfl, ?_⟩
                first
                | (exfalso; omega)
                | exact ⟨_, _, rfl, rfl, (fr_t (fr_u (by simp [wM1]) (fr_u (by simp [wM1]) (fr_u (by simp [wM1]) (fr_u (by simp [wM1]) (fr_u (by simp [wM1]) (fr_r _)))))) rq17), (fr_t (fr_r _) tq17), Dq17, ((uq17 19 (by omega)).trans rfl), oq17⟩
            · skip
              exact absurd hz_16 (by decide)
      · skip
        refine jv_aload_n (pc' := 1) (k := 0) (x := 103) rfl rfl rfl rfl ?_
        have hm1 := MT_c hX.1 (a)
        refine jv_call (pc' := 4) rfl (ml_here (I := I) (a := a) hX.1 hat (by omega)) (fun vq2 gq2 q2 => ?_)
        obtain ⟨rfl, rfl⟩ := q2
        show jx L xs _ 142 4 _ [.int (iI (c (a)))] _ _
        refine jv_bipush (pc' := 6) (n := 97) rfl rfl rfl ?_
        refine jv_isub (pc' := 7) (a := (c (a))) (b := 97) rfl rfl ?_
        rw [show (c (a)) - 97 = ((nm : Nat) : Int) by omega]
        refine jv_istore_n (pc' := 8) (k := 1) (x := (iI ((nm : Nat) : Int))) rfl rfl rfl rfl (Or.inr rfl) ?_
        refine jv_aload_n (pc' := 9) (k := 0) (x := 103) rfl rfl rfl rfl ?_
        refine jx_step (pc' := 10) rfl ?_
        refine jv_getI (pc' := 13) (c := 12) (k := 19) (v := (iI ((a : Nat) : Int))) rfl rfl rfl (fun _ _ => rfl) rfl rfl hat ?_
        refine jv_iconst (pc' := 14) (n := 1) rfl rfl ?_
        refine jv_iadd (pc' := 15) (a := ((a : Nat) : Int)) (b := 1) rfl rfl ?_
        refine jv_putI (pc' := 18) (c := 12) (k := 19) rfl rfl rfl rfl (fun _ _ _  => rfl) rfl rfl ?_
        refine jv_aload_n (pc' := 19) (k := 0) (x := 103) rfl rfl rfl rfl ?_
        have hm3 := nv_b c (a + 1)
        have hm4 := nd_le c (a + 1)
        refine jv_call (pc' := 22) rfl (ml_number_y (I := jm_u I 103 19 (iI (((a : Nat) : Int) + 1))) (a := a + 1) hX.1 rfl (by omega) (by omega)) (fun vq5 gq5 q5 => ?_)
        obtain ⟨rfl, rfl⟩ := q5
        show jx L xs _ 142 22 _ [.int (iI (nv c (a + 1)))] _ _
        rw [show nv c (a + 1) = ((w : Nat) : Int) by omega]
        refine jv_istore_n (pc' := 23) (k := 2) (x := (iI ((w : Nat) : Int))) rfl rfl rfl rfl (Or.inr rfl) ?_
        refine jv_aload_n (pc' := 24) (k := 0) (x := 103) rfl rfl rfl rfl ?_
        refine jv_bipush (pc' := 26) (n := 60) rfl rfl rfl ?_
        refine jv_call (pc' := 29) rfl (ml_takes_y (I := jm_u (jm_u I 103 19 (iI (((a : Nat) : Int) + 1))) 103 19 (iI ((a + 1 + nd c (a + 1) : Nat) : Int))) (x := 60) (a := a + 1 + nd c (a + 1)) (by omega) hX.1 rfl (by omega) (by omega)) (fun vq6 gq6 q6 => ?_)
        obtain ⟨rfl, rfl⟩ := q6
        show jx L xs _ 142 29 _ [.int (iI 1)] _ _
        refine jv_istore_n (pc' := 30) (k := 3) (x := (iI 1)) rfl rfl rfl rfl (Or.inr rfl) ?_
        refine jv_aload_n (pc' := 31) (k := 0) (x := 103) rfl rfl rfl rfl ?_
        refine jv_bipush (pc' := 33) (n := 61) rfl rfl rfl ?_
        refine jv_call (pc' := 36) rfl (ml_takes_n (I := jm_u (jm_u (jm_u I 103 19 (iI (((a : Nat) : Int) + 1))) 103 19 (iI ((a + 1 + nd c (a + 1) : Nat) : Int))) 103 19 (iI ((a + 1 + nd c (a + 1) + 1 : Nat) : Int))) (x := 61) (a := a + 1 + nd c (a + 1) + 1) (by omega) hX.1 rfl (by omega) (by omega)) (fun vq7 gq7 q7 => ?_)
        obtain ⟨rfl, rfl⟩ := q7
        show jx L xs _ 142 36 _ [.int (iI 0)] _ _
        refine jv_if_eq (t := 46) (pc' := 39) (a := 0) rfl rfl rfl (by omega) (fun hz_8 => ?_) (fun hz_8 => ?_)
        · skip
          refine jv_iconst (pc' := 47) (n := -1) rfl rfl ?_
          refine jv_istore (pc' := 49) (k := 4) (x := (iI (-1))) rfl rfl rfl (Or.inr rfl) ?_
          refine jv_iload (pc' := 51) (k := 4) (x := (iI (-1))) rfl rfl rfl ?_
          refine jv_if_ge (t := 67) (pc' := 54) (a := (-1)) rfl rfl rfl (by omega) (fun hz_9 => ?_) (fun hz_9 => ?_)
          · skip
            exact absurd hz_9 (by decide)
          · skip
            refine jv_aload_n (pc' := 55) (k := 0) (x := 103) rfl rfl rfl rfl ?_
            refine jv_bipush (pc' := 57) (n := 33) rfl rfl rfl ?_
            refine jv_call (pc' := 60) rfl (ml_takes_y (I := jm_u (jm_u (jm_u I 103 19 (iI (((a : Nat) : Int) + 1))) 103 19 (iI ((a + 1 + nd c (a + 1) : Nat) : Int))) 103 19 (iI ((a + 1 + nd c (a + 1) + 1 : Nat) : Int))) (x := 33) (a := a + 1 + nd c (a + 1) + 1) (by omega) hX.1 rfl (by omega) (by omega)) (fun vq10 gq10 q10 => ?_)
            obtain ⟨rfl, rfl⟩ := q10
            show jx L xs _ 142 60 _ [.int (iI 1)] _ _
            refine jv_if_eq (t := 67) (pc' := 63) (a := 1) rfl rfl rfl (by omega) (fun hz_11 => ?_) (fun hz_11 => ?_)
            · skip
              exact absurd hz_11 (by decide)
            · skip
              refine jv_iconst (pc' := 64) (n := 1) rfl rfl ?_
              refine jx_step (pc' := 68) rfl ?_
              refine jv_istore (pc' := 70) (k := 5) (x := (iI 1)) rfl rfl rfl (Or.inr rfl) ?_
              refine jv_aload_n (pc' := 71) (k := 0) (x := 103) rfl rfl rfl rfl ?_
              refine jv_iload_n (pc' := 72) (k := 1) (x := (iI ((nm : Nat) : Int))) rfl rfl rfl rfl ?_
              refine jv_call (pc' := 75) rfl (ml_steps_n (I := jm_u (jm_u (jm_u (jm_u I 103 19 (iI (((a : Nat) : Int) + 1))) 103 19 (iI ((a + 1 + nd c (a + 1) : Nat) : Int))) 103 19 (iI ((a + 1 + nd c (a + 1) + 1 : Nat) : Int))) 103 19 (iI ((a + 1 + nd c (a + 1) + 2 : Nat) : Int))) (M := M) (s := s) (nm := ((nm : Nat) : Int)) hX hM hV o1) (fun vq12 gq12 q12 => ?_)
              obtain ⟨Iq12, Mq12, rfl, rfl, rq12, tq12, Dq12, oq12, uq12⟩ := q12
              have Xq12 := MX_fr (I := jm_u (jm_u (jm_u (jm_u I 103 19 (iI (((a : Nat) : Int) + 1))) 103 19 (iI ((a + 1 + nd c (a + 1) : Nat) : Int))) 103 19 (iI ((a + 1 + nd c (a + 1) + 1 : Nat) : Int))) 103 19 (iI ((a + 1 + nd c (a + 1) + 2 : Nat) : Int))) hX (fr_w rq12 wM_1)
              show jx L xs _ 142 75 _ [.int (iI 0)] _ _
              refine jv_if_ne (t := 79) (pc' := 78) (a := 0) rfl rfl rfl (by omega) (fun hz_13 => ?_) (fun hz_13 => ?_)
              · skip
                exact absurd hz_13 (by decide)
              · skip
                refine jv_retV rfl rfl ⟨_, _, rfl, ?_⟩
                first
                | (exfalso; omega)
                | exact ⟨_, _, rfl, rfl, (fr_t (fr_u (by simp [wM1]) (fr_u (by simp [wM1]) (fr_u (by simp [wM1]) (fr_u (by simp [wM1]) (fr_r _))))) rq12), (fr_t (fr_r _) tq12), Dq12, ((uq12 19 (by omega)).trans rfl), oq12⟩
        · skip
          exact absurd hz_8 (by decide)
      · skip
        refine jv_aload_n (pc' := 1) (k := 0) (x := 103) rfl rfl rfl rfl ?_
        have hm1 := MT_c hX.1 (a)
        refine jv_call (pc' := 4) rfl (ml_here (I := I) (a := a) hX.1 hat (by omega)) (fun vq2 gq2 q2 => ?_)
        obtain ⟨rfl, rfl⟩ := q2
        show jx L xs _ 142 4 _ [.int (iI (c (a)))] _ _
        refine jv_bipush (pc' := 6) (n := 97) rfl rfl rfl ?_
        refine jv_isub (pc' := 7) (a := (c (a))) (b := 97) rfl rfl ?_
        rw [show (c (a)) - 97 = ((nm : Nat) : Int) by omega]
        refine jv_istore_n (pc' := 8) (k := 1) (x := (iI ((nm : Nat) : Int))) rfl rfl rfl rfl (Or.inr rfl) ?_
        refine jv_aload_n (pc' := 9) (k := 0) (x := 103) rfl rfl rfl rfl ?_
        refine jx_step (pc' := 10) rfl ?_
        refine jv_getI (pc' := 13) (c := 12) (k := 19) (v := (iI ((a : Nat) : Int))) rfl rfl rfl (fun _ _ => rfl) rfl rfl hat ?_
        refine jv_iconst (pc' := 14) (n := 1) rfl rfl ?_
        refine jv_iadd (pc' := 15) (a := ((a : Nat) : Int)) (b := 1) rfl rfl ?_
        refine jv_putI (pc' := 18) (c := 12) (k := 19) rfl rfl rfl rfl (fun _ _ _  => rfl) rfl rfl ?_
        refine jv_aload_n (pc' := 19) (k := 0) (x := 103) rfl rfl rfl rfl ?_
        have hm3 := nv_b c (a + 1)
        have hm4 := nd_le c (a + 1)
        refine jv_call (pc' := 22) rfl (ml_number_y (I := jm_u I 103 19 (iI (((a : Nat) : Int) + 1))) (a := a + 1) hX.1 rfl (by omega) (by omega)) (fun vq5 gq5 q5 => ?_)
        obtain ⟨rfl, rfl⟩ := q5
        show jx L xs _ 142 22 _ [.int (iI (nv c (a + 1)))] _ _
        rw [show nv c (a + 1) = ((w : Nat) : Int) by omega]
        refine jv_istore_n (pc' := 23) (k := 2) (x := (iI ((w : Nat) : Int))) rfl rfl rfl rfl (Or.inr rfl) ?_
        refine jv_aload_n (pc' := 24) (k := 0) (x := 103) rfl rfl rfl rfl ?_
        refine jv_bipush (pc' := 26) (n := 60) rfl rfl rfl ?_
        refine jv_call (pc' := 29) rfl (ml_takes_y (I := jm_u (jm_u I 103 19 (iI (((a : Nat) : Int) + 1))) 103 19 (iI ((a + 1 + nd c (a + 1) : Nat) : Int))) (x := 60) (a := a + 1 + nd c (a + 1)) (by omega) hX.1 rfl (by omega) (by omega)) (fun vq6 gq6 q6 => ?_)
        obtain ⟨rfl, rfl⟩ := q6
        show jx L xs _ 142 29 _ [.int (iI 1)] _ _
        refine jv_istore_n (pc' := 30) (k := 3) (x := (iI 1)) rfl rfl rfl rfl (Or.inr rfl) ?_
        refine jv_aload_n (pc' := 31) (k := 0) (x := 103) rfl rfl rfl rfl ?_
        refine jv_bipush (pc' := 33) (n := 61) rfl rfl rfl ?_
        refine jv_call (pc' := 36) rfl (ml_takes_n (I := jm_u (jm_u (jm_u I 103 19 (iI (((a : Nat) : Int) + 1))) 103 19 (iI ((a + 1 + nd c (a + 1) : Nat) : Int))) 103 19 (iI ((a + 1 + nd c (a + 1) + 1 : Nat) : Int))) (x := 61) (a := a + 1 + nd c (a + 1) + 1) (by omega) hX.1 rfl (by omega) (by omega)) (fun vq7 gq7 q7 => ?_)
        obtain ⟨rfl, rfl⟩ := q7
        show jx L xs _ 142 36 _ [.int (iI 0)] _ _
        refine jv_if_eq (t := 46) (pc' := 39) (a := 0) rfl rfl rfl (by omega) (fun hz_8 => ?_) (fun hz_8 => ?_)
        · skip
          refine jv_iconst (pc' := 47) (n := -1) rfl rfl ?_
          refine jv_istore (pc' := 49) (k := 4) (x := (iI (-1))) rfl rfl rfl (Or.inr rfl) ?_
          refine jv_iload (pc' := 51) (k := 4) (x := (iI (-1))) rfl rfl rfl ?_
          refine jv_if_ge (t := 67) (pc' := 54) (a := (-1)) rfl rfl rfl (by omega) (fun hz_9 => ?_) (fun hz_9 => ?_)
          · skip
            exact absurd hz_9 (by decide)
          · skip
            refine jv_aload_n (pc' := 55) (k := 0) (x := 103) rfl rfl rfl rfl ?_
            refine jv_bipush (pc' := 57) (n := 33) rfl rfl rfl ?_
            refine jv_call (pc' := 60) rfl (ml_takes_n (I := jm_u (jm_u (jm_u I 103 19 (iI (((a : Nat) : Int) + 1))) 103 19 (iI ((a + 1 + nd c (a + 1) : Nat) : Int))) 103 19 (iI ((a + 1 + nd c (a + 1) + 1 : Nat) : Int))) (x := 33) (a := a + 1 + nd c (a + 1) + 1) (by omega) hX.1 rfl (by omega) (by omega)) (fun vq10 gq10 q10 => ?_)
            obtain ⟨rfl, rfl⟩ := q10
            show jx L xs _ 142 60 _ [.int (iI 0)] _ _
            refine jv_if_eq (t := 67) (pc' := 63) (a := 0) rfl rfl rfl (by omega) (fun hz_11 => ?_) (fun hz_11 => ?_)
            · skip
              refine jv_iconst (pc' := 68) (n := 0) rfl rfl ?_
              refine jv_istore (pc' := 70) (k := 5) (x := (iI 0)) rfl rfl rfl (Or.inr rfl) ?_
              refine jv_aload_n (pc' := 71) (k := 0) (x := 103) rfl rfl rfl rfl ?_
              refine jv_iload_n (pc' := 72) (k := 1) (x := (iI ((nm : Nat) : Int))) rfl rfl rfl rfl ?_
              refine jv_call (pc' := 75) rfl (ml_steps_n (I := jm_u (jm_u (jm_u I 103 19 (iI (((a : Nat) : Int) + 1))) 103 19 (iI ((a + 1 + nd c (a + 1) : Nat) : Int))) 103 19 (iI ((a + 1 + nd c (a + 1) + 1 : Nat) : Int))) (M := M) (s := s) (nm := ((nm : Nat) : Int)) hX hM hV o1) (fun vq12 gq12 q12 => ?_)
              obtain ⟨Iq12, Mq12, rfl, rfl, rq12, tq12, Dq12, oq12, uq12⟩ := q12
              have Xq12 := MX_fr (I := jm_u (jm_u (jm_u I 103 19 (iI (((a : Nat) : Int) + 1))) 103 19 (iI ((a + 1 + nd c (a + 1) : Nat) : Int))) 103 19 (iI ((a + 1 + nd c (a + 1) + 1 : Nat) : Int))) hX (fr_w rq12 wM_1)
              show jx L xs _ 142 75 _ [.int (iI 0)] _ _
              refine jv_if_ne (t := 79) (pc' := 78) (a := 0) rfl rfl rfl (by omega) (fun hz_13 => ?_) (fun hz_13 => ?_)
              · skip
                exact absurd hz_13 (by decide)
              · skip
                refine jv_retV rfl rfl ⟨_, _, rfl, ?_⟩
                first
                | (exfalso; omega)
                | exact ⟨_, _, rfl, rfl, (fr_t (fr_u (by simp [wM1]) (fr_u (by simp [wM1]) (fr_u (by simp [wM1]) (fr_r _)))) rq12), (fr_t (fr_r _) tq12), Dq12, ((uq12 19 (by omega)).trans rfl), oq12⟩
            · skip
              exact absurd hz_11 (by decide)
        · skip
          exact absurd hz_8 (by decide)
    · rcases x7 with ⟨u1, u2, u3, u4, rfl⟩ | ⟨u1, u3, rfl⟩ | ⟨u1, u2, u3, rfl⟩
      · skip
        refine jv_aload_n (pc' := 1) (k := 0) (x := 103) rfl rfl rfl rfl ?_
        have hm1 := MT_c hX.1 (a)
        refine jv_call (pc' := 4) rfl (ml_here (I := I) (a := a) hX.1 hat (by omega)) (fun vq2 gq2 q2 => ?_)
        obtain ⟨rfl, rfl⟩ := q2
        show jx L xs _ 142 4 _ [.int (iI (c (a)))] _ _
        refine jv_bipush (pc' := 6) (n := 97) rfl rfl rfl ?_
        refine jv_isub (pc' := 7) (a := (c (a))) (b := 97) rfl rfl ?_
        rw [show (c (a)) - 97 = ((nm : Nat) : Int) by omega]
        refine jv_istore_n (pc' := 8) (k := 1) (x := (iI ((nm : Nat) : Int))) rfl rfl rfl rfl (Or.inr rfl) ?_
        refine jv_aload_n (pc' := 9) (k := 0) (x := 103) rfl rfl rfl rfl ?_
        refine jx_step (pc' := 10) rfl ?_
        refine jv_getI (pc' := 13) (c := 12) (k := 19) (v := (iI ((a : Nat) : Int))) rfl rfl rfl (fun _ _ => rfl) rfl rfl hat ?_
        refine jv_iconst (pc' := 14) (n := 1) rfl rfl ?_
        refine jv_iadd (pc' := 15) (a := ((a : Nat) : Int)) (b := 1) rfl rfl ?_
        refine jv_putI (pc' := 18) (c := 12) (k := 19) rfl rfl rfl rfl (fun _ _ _  => rfl) rfl rfl ?_
        refine jv_aload_n (pc' := 19) (k := 0) (x := 103) rfl rfl rfl rfl ?_
        have hm3 := nv_b c (a + 1)
        have hm4 := nd_le c (a + 1)
        refine jv_call (pc' := 22) rfl (ml_number_y (I := jm_u I 103 19 (iI (((a : Nat) : Int) + 1))) (a := a + 1) hX.1 rfl (by omega) (by omega)) (fun vq5 gq5 q5 => ?_)
        obtain ⟨rfl, rfl⟩ := q5
        show jx L xs _ 142 22 _ [.int (iI (nv c (a + 1)))] _ _
        rw [show nv c (a + 1) = ((w : Nat) : Int) by omega]
        refine jv_istore_n (pc' := 23) (k := 2) (x := (iI ((w : Nat) : Int))) rfl rfl rfl rfl (Or.inr rfl) ?_
        refine jv_aload_n (pc' := 24) (k := 0) (x := 103) rfl rfl rfl rfl ?_
        refine jv_bipush (pc' := 26) (n := 60) rfl rfl rfl ?_
        refine jv_call (pc' := 29) rfl (ml_takes_n (I := jm_u (jm_u I 103 19 (iI (((a : Nat) : Int) + 1))) 103 19 (iI ((a + 1 + nd c (a + 1) : Nat) : Int))) (x := 60) (a := a + 1 + nd c (a + 1)) (by omega) hX.1 rfl (by omega) (by omega)) (fun vq6 gq6 q6 => ?_)
        obtain ⟨rfl, rfl⟩ := q6
        show jx L xs _ 142 29 _ [.int (iI 0)] _ _
        refine jv_istore_n (pc' := 30) (k := 3) (x := (iI 0)) rfl rfl rfl rfl (Or.inr rfl) ?_
        refine jv_aload_n (pc' := 31) (k := 0) (x := 103) rfl rfl rfl rfl ?_
        refine jv_bipush (pc' := 33) (n := 61) rfl rfl rfl ?_
        refine jv_call (pc' := 36) rfl (ml_takes_y (I := jm_u (jm_u I 103 19 (iI (((a : Nat) : Int) + 1))) 103 19 (iI ((a + 1 + nd c (a + 1) : Nat) : Int))) (x := 61) (a := a + 1 + nd c (a + 1)) (by omega) hX.1 rfl (by omega) (by omega)) (fun vq7 gq7 q7 => ?_)
        obtain ⟨rfl, rfl⟩ := q7
        show jx L xs _ 142 36 _ [.int (iI 1)] _ _
        refine jv_if_eq (t := 46) (pc' := 39) (a := 1) rfl rfl rfl (by omega) (fun hz_8 => ?_) (fun hz_8 => ?_)
        · skip
          exact absurd hz_8 (by decide)
        · skip
          refine jv_aload_n (pc' := 40) (k := 0) (x := 103) rfl rfl rfl rfl ?_
          have hm9 := nv_b c (a + 1 + nd c (a + 1) + 1)
          have hm10 := nd_le c (a + 1 + nd c (a + 1) + 1)
          refine jv_call (pc' := 43) rfl (ml_number_y (I := jm_u (jm_u (jm_u I 103 19 (iI (((a : Nat) : Int) + 1))) 103 19 (iI ((a + 1 + nd c (a + 1) : Nat) : Int))) 103 19 (iI ((a + 1 + nd c (a + 1) + 1 : Nat) : Int))) (a := a + 1 + nd c (a + 1) + 1) hX.1 rfl (by omega) (by omega)) (fun vq11 gq11 q11 => ?_)
          obtain ⟨rfl, rfl⟩ := q11
          show jx L xs _ 142 43 _ [.int (iI (nv c (a + 1 + nd c (a + 1) + 1)))] _ _
          refine jx_step (pc' := 47) rfl ?_
          refine jv_istore (pc' := 49) (k := 4) (x := (iI (nv c (a + 1 + nd c (a + 1) + 1)))) rfl rfl rfl (Or.inr rfl) ?_
          refine jv_iload (pc' := 51) (k := 4) (x := (iI (nv c (a + 1 + nd c (a + 1) + 1)))) rfl rfl rfl ?_
          refine jv_if_ge (t := 67) (pc' := 54) (a := (nv c (a + 1 + nd c (a + 1) + 1))) rfl rfl rfl (by omega) (fun hz_12 => ?_) (fun hz_12 => ?_)
          · skip
            refine jv_iconst (pc' := 68) (n := 0) rfl rfl ?_
            refine jv_istore (pc' := 70) (k := 5) (x := (iI 0)) rfl rfl rfl (Or.inr rfl) ?_
            refine jv_aload_n (pc' := 71) (k := 0) (x := 103) rfl rfl rfl rfl ?_
            refine jv_iload_n (pc' := 72) (k := 1) (x := (iI ((nm : Nat) : Int))) rfl rfl rfl rfl ?_
            refine jv_call (pc' := 75) rfl (ml_steps_n (I := jm_u (jm_u (jm_u (jm_u I 103 19 (iI (((a : Nat) : Int) + 1))) 103 19 (iI ((a + 1 + nd c (a + 1) : Nat) : Int))) 103 19 (iI ((a + 1 + nd c (a + 1) + 1 : Nat) : Int))) 103 19 (iI ((a + 1 + nd c (a + 1) + 1 + nd c (a + 1 + nd c (a + 1) + 1) : Nat) : Int))) (M := M) (s := s) (nm := ((nm : Nat) : Int)) hX hM hV o1) (fun vq13 gq13 q13 => ?_)
            obtain ⟨Iq13, Mq13, rfl, rfl, rq13, tq13, Dq13, oq13, uq13⟩ := q13
            have Xq13 := MX_fr (I := jm_u (jm_u (jm_u (jm_u I 103 19 (iI (((a : Nat) : Int) + 1))) 103 19 (iI ((a + 1 + nd c (a + 1) : Nat) : Int))) 103 19 (iI ((a + 1 + nd c (a + 1) + 1 : Nat) : Int))) 103 19 (iI ((a + 1 + nd c (a + 1) + 1 + nd c (a + 1 + nd c (a + 1) + 1) : Nat) : Int))) hX (fr_w rq13 wM_1)
            show jx L xs _ 142 75 _ [.int (iI 0)] _ _
            refine jv_if_ne (t := 79) (pc' := 78) (a := 0) rfl rfl rfl (by omega) (fun hz_14 => ?_) (fun hz_14 => ?_)
            · skip
              exact absurd hz_14 (by decide)
            · skip
              refine jv_retV rfl rfl ⟨_, _, rfl, ?_⟩
              first
              | (exfalso; omega)
              | exact ⟨_, _, rfl, rfl, (fr_t (fr_u (by simp [wM1]) (fr_u (by simp [wM1]) (fr_u (by simp [wM1]) (fr_u (by simp [wM1]) (fr_r _))))) rq13), (fr_t (fr_r _) tq13), Dq13, ((uq13 19 (by omega)).trans rfl), oq13⟩
          · skip
            refine jv_aload_n (pc' := 55) (k := 0) (x := 103) rfl rfl rfl rfl ?_
            refine jv_bipush (pc' := 57) (n := 33) rfl rfl rfl ?_
            refine jv_call (pc' := 60) rfl (ml_takes_n (I := jm_u (jm_u (jm_u (jm_u I 103 19 (iI (((a : Nat) : Int) + 1))) 103 19 (iI ((a + 1 + nd c (a + 1) : Nat) : Int))) 103 19 (iI ((a + 1 + nd c (a + 1) + 1 : Nat) : Int))) 103 19 (iI ((a + 1 + nd c (a + 1) + 1 + nd c (a + 1 + nd c (a + 1) + 1) : Nat) : Int))) (x := 33) (a := a + 1 + nd c (a + 1) + 1 + nd c (a + 1 + nd c (a + 1) + 1)) (by omega) hX.1 rfl (by omega) (by omega)) (fun vq15 gq15 q15 => ?_)
            obtain ⟨rfl, rfl⟩ := q15
            show jx L xs _ 142 60 _ [.int (iI 0)] _ _
            refine jv_if_eq (t := 67) (pc' := 63) (a := 0) rfl rfl rfl (by omega) (fun hz_16 => ?_) (fun hz_16 => ?_)
            · skip
              refine jv_iconst (pc' := 68) (n := 0) rfl rfl ?_
              refine jv_istore (pc' := 70) (k := 5) (x := (iI 0)) rfl rfl rfl (Or.inr rfl) ?_
              refine jv_aload_n (pc' := 71) (k := 0) (x := 103) rfl rfl rfl rfl ?_
              refine jv_iload_n (pc' := 72) (k := 1) (x := (iI ((nm : Nat) : Int))) rfl rfl rfl rfl ?_
              refine jv_call (pc' := 75) rfl (ml_steps_n (I := jm_u (jm_u (jm_u (jm_u I 103 19 (iI (((a : Nat) : Int) + 1))) 103 19 (iI ((a + 1 + nd c (a + 1) : Nat) : Int))) 103 19 (iI ((a + 1 + nd c (a + 1) + 1 : Nat) : Int))) 103 19 (iI ((a + 1 + nd c (a + 1) + 1 + nd c (a + 1 + nd c (a + 1) + 1) : Nat) : Int))) (M := M) (s := s) (nm := ((nm : Nat) : Int)) hX hM hV o1) (fun vq17 gq17 q17 => ?_)
              obtain ⟨Iq17, Mq17, rfl, rfl, rq17, tq17, Dq17, oq17, uq17⟩ := q17
              have Xq17 := MX_fr (I := jm_u (jm_u (jm_u (jm_u I 103 19 (iI (((a : Nat) : Int) + 1))) 103 19 (iI ((a + 1 + nd c (a + 1) : Nat) : Int))) 103 19 (iI ((a + 1 + nd c (a + 1) + 1 : Nat) : Int))) 103 19 (iI ((a + 1 + nd c (a + 1) + 1 + nd c (a + 1 + nd c (a + 1) + 1) : Nat) : Int))) hX (fr_w rq17 wM_1)
              show jx L xs _ 142 75 _ [.int (iI 0)] _ _
              refine jv_if_ne (t := 79) (pc' := 78) (a := 0) rfl rfl rfl (by omega) (fun hz_18 => ?_) (fun hz_18 => ?_)
              · skip
                exact absurd hz_18 (by decide)
              · skip
                refine jv_retV rfl rfl ⟨_, _, rfl, ?_⟩
                first
                | (exfalso; omega)
                | exact ⟨_, _, rfl, rfl, (fr_t (fr_u (by simp [wM1]) (fr_u (by simp [wM1]) (fr_u (by simp [wM1]) (fr_u (by simp [wM1]) (fr_r _))))) rq17), (fr_t (fr_r _) tq17), Dq17, ((uq17 19 (by omega)).trans rfl), oq17⟩
            · skip
              exact absurd hz_16 (by decide)
      · skip
        refine jv_aload_n (pc' := 1) (k := 0) (x := 103) rfl rfl rfl rfl ?_
        have hm1 := MT_c hX.1 (a)
        refine jv_call (pc' := 4) rfl (ml_here (I := I) (a := a) hX.1 hat (by omega)) (fun vq2 gq2 q2 => ?_)
        obtain ⟨rfl, rfl⟩ := q2
        show jx L xs _ 142 4 _ [.int (iI (c (a)))] _ _
        refine jv_bipush (pc' := 6) (n := 97) rfl rfl rfl ?_
        refine jv_isub (pc' := 7) (a := (c (a))) (b := 97) rfl rfl ?_
        rw [show (c (a)) - 97 = ((nm : Nat) : Int) by omega]
        refine jv_istore_n (pc' := 8) (k := 1) (x := (iI ((nm : Nat) : Int))) rfl rfl rfl rfl (Or.inr rfl) ?_
        refine jv_aload_n (pc' := 9) (k := 0) (x := 103) rfl rfl rfl rfl ?_
        refine jx_step (pc' := 10) rfl ?_
        refine jv_getI (pc' := 13) (c := 12) (k := 19) (v := (iI ((a : Nat) : Int))) rfl rfl rfl (fun _ _ => rfl) rfl rfl hat ?_
        refine jv_iconst (pc' := 14) (n := 1) rfl rfl ?_
        refine jv_iadd (pc' := 15) (a := ((a : Nat) : Int)) (b := 1) rfl rfl ?_
        refine jv_putI (pc' := 18) (c := 12) (k := 19) rfl rfl rfl rfl (fun _ _ _  => rfl) rfl rfl ?_
        refine jv_aload_n (pc' := 19) (k := 0) (x := 103) rfl rfl rfl rfl ?_
        have hm3 := nv_b c (a + 1)
        have hm4 := nd_le c (a + 1)
        refine jv_call (pc' := 22) rfl (ml_number_y (I := jm_u I 103 19 (iI (((a : Nat) : Int) + 1))) (a := a + 1) hX.1 rfl (by omega) (by omega)) (fun vq5 gq5 q5 => ?_)
        obtain ⟨rfl, rfl⟩ := q5
        show jx L xs _ 142 22 _ [.int (iI (nv c (a + 1)))] _ _
        rw [show nv c (a + 1) = ((w : Nat) : Int) by omega]
        refine jv_istore_n (pc' := 23) (k := 2) (x := (iI ((w : Nat) : Int))) rfl rfl rfl rfl (Or.inr rfl) ?_
        refine jv_aload_n (pc' := 24) (k := 0) (x := 103) rfl rfl rfl rfl ?_
        refine jv_bipush (pc' := 26) (n := 60) rfl rfl rfl ?_
        refine jv_call (pc' := 29) rfl (ml_takes_n (I := jm_u (jm_u I 103 19 (iI (((a : Nat) : Int) + 1))) 103 19 (iI ((a + 1 + nd c (a + 1) : Nat) : Int))) (x := 60) (a := a + 1 + nd c (a + 1)) (by omega) hX.1 rfl (by omega) (by omega)) (fun vq6 gq6 q6 => ?_)
        obtain ⟨rfl, rfl⟩ := q6
        show jx L xs _ 142 29 _ [.int (iI 0)] _ _
        refine jv_istore_n (pc' := 30) (k := 3) (x := (iI 0)) rfl rfl rfl rfl (Or.inr rfl) ?_
        refine jv_aload_n (pc' := 31) (k := 0) (x := 103) rfl rfl rfl rfl ?_
        refine jv_bipush (pc' := 33) (n := 61) rfl rfl rfl ?_
        refine jv_call (pc' := 36) rfl (ml_takes_n (I := jm_u (jm_u I 103 19 (iI (((a : Nat) : Int) + 1))) 103 19 (iI ((a + 1 + nd c (a + 1) : Nat) : Int))) (x := 61) (a := a + 1 + nd c (a + 1)) (by omega) hX.1 rfl (by omega) (by omega)) (fun vq7 gq7 q7 => ?_)
        obtain ⟨rfl, rfl⟩ := q7
        show jx L xs _ 142 36 _ [.int (iI 0)] _ _
        refine jv_if_eq (t := 46) (pc' := 39) (a := 0) rfl rfl rfl (by omega) (fun hz_8 => ?_) (fun hz_8 => ?_)
        · skip
          refine jv_iconst (pc' := 47) (n := -1) rfl rfl ?_
          refine jv_istore (pc' := 49) (k := 4) (x := (iI (-1))) rfl rfl rfl (Or.inr rfl) ?_
          refine jv_iload (pc' := 51) (k := 4) (x := (iI (-1))) rfl rfl rfl ?_
          refine jv_if_ge (t := 67) (pc' := 54) (a := (-1)) rfl rfl rfl (by omega) (fun hz_9 => ?_) (fun hz_9 => ?_)
          · skip
            exact absurd hz_9 (by decide)
          · skip
            refine jv_aload_n (pc' := 55) (k := 0) (x := 103) rfl rfl rfl rfl ?_
            refine jv_bipush (pc' := 57) (n := 33) rfl rfl rfl ?_
            refine jv_call (pc' := 60) rfl (ml_takes_y (I := jm_u (jm_u I 103 19 (iI (((a : Nat) : Int) + 1))) 103 19 (iI ((a + 1 + nd c (a + 1) : Nat) : Int))) (x := 33) (a := a + 1 + nd c (a + 1)) (by omega) hX.1 rfl (by omega) (by omega)) (fun vq10 gq10 q10 => ?_)
            obtain ⟨rfl, rfl⟩ := q10
            show jx L xs _ 142 60 _ [.int (iI 1)] _ _
            refine jv_if_eq (t := 67) (pc' := 63) (a := 1) rfl rfl rfl (by omega) (fun hz_11 => ?_) (fun hz_11 => ?_)
            · skip
              exact absurd hz_11 (by decide)
            · skip
              refine jv_iconst (pc' := 64) (n := 1) rfl rfl ?_
              refine jx_step (pc' := 68) rfl ?_
              refine jv_istore (pc' := 70) (k := 5) (x := (iI 1)) rfl rfl rfl (Or.inr rfl) ?_
              refine jv_aload_n (pc' := 71) (k := 0) (x := 103) rfl rfl rfl rfl ?_
              refine jv_iload_n (pc' := 72) (k := 1) (x := (iI ((nm : Nat) : Int))) rfl rfl rfl rfl ?_
              refine jv_call (pc' := 75) rfl (ml_steps_n (I := jm_u (jm_u (jm_u I 103 19 (iI (((a : Nat) : Int) + 1))) 103 19 (iI ((a + 1 + nd c (a + 1) : Nat) : Int))) 103 19 (iI ((a + 1 + nd c (a + 1) + 1 : Nat) : Int))) (M := M) (s := s) (nm := ((nm : Nat) : Int)) hX hM hV o1) (fun vq12 gq12 q12 => ?_)
              obtain ⟨Iq12, Mq12, rfl, rfl, rq12, tq12, Dq12, oq12, uq12⟩ := q12
              have Xq12 := MX_fr (I := jm_u (jm_u (jm_u I 103 19 (iI (((a : Nat) : Int) + 1))) 103 19 (iI ((a + 1 + nd c (a + 1) : Nat) : Int))) 103 19 (iI ((a + 1 + nd c (a + 1) + 1 : Nat) : Int))) hX (fr_w rq12 wM_1)
              show jx L xs _ 142 75 _ [.int (iI 0)] _ _
              refine jv_if_ne (t := 79) (pc' := 78) (a := 0) rfl rfl rfl (by omega) (fun hz_13 => ?_) (fun hz_13 => ?_)
              · skip
                exact absurd hz_13 (by decide)
              · skip
                refine jv_retV rfl rfl ⟨_, _, rfl, ?_⟩
                first
                | (exfalso; omega)
                | exact ⟨_, _, rfl, rfl, (fr_t (fr_u (by simp [wM1]) (fr_u (by simp [wM1]) (fr_u (by simp [wM1]) (fr_r _)))) rq12), (fr_t (fr_r _) tq12), Dq12, ((uq12 19 (by omega)).trans rfl), oq12⟩
        · skip
          exact absurd hz_8 (by decide)
      · skip
        refine jv_aload_n (pc' := 1) (k := 0) (x := 103) rfl rfl rfl rfl ?_
        have hm1 := MT_c hX.1 (a)
        refine jv_call (pc' := 4) rfl (ml_here (I := I) (a := a) hX.1 hat (by omega)) (fun vq2 gq2 q2 => ?_)
        obtain ⟨rfl, rfl⟩ := q2
        show jx L xs _ 142 4 _ [.int (iI (c (a)))] _ _
        refine jv_bipush (pc' := 6) (n := 97) rfl rfl rfl ?_
        refine jv_isub (pc' := 7) (a := (c (a))) (b := 97) rfl rfl ?_
        rw [show (c (a)) - 97 = ((nm : Nat) : Int) by omega]
        refine jv_istore_n (pc' := 8) (k := 1) (x := (iI ((nm : Nat) : Int))) rfl rfl rfl rfl (Or.inr rfl) ?_
        refine jv_aload_n (pc' := 9) (k := 0) (x := 103) rfl rfl rfl rfl ?_
        refine jx_step (pc' := 10) rfl ?_
        refine jv_getI (pc' := 13) (c := 12) (k := 19) (v := (iI ((a : Nat) : Int))) rfl rfl rfl (fun _ _ => rfl) rfl rfl hat ?_
        refine jv_iconst (pc' := 14) (n := 1) rfl rfl ?_
        refine jv_iadd (pc' := 15) (a := ((a : Nat) : Int)) (b := 1) rfl rfl ?_
        refine jv_putI (pc' := 18) (c := 12) (k := 19) rfl rfl rfl rfl (fun _ _ _  => rfl) rfl rfl ?_
        refine jv_aload_n (pc' := 19) (k := 0) (x := 103) rfl rfl rfl rfl ?_
        have hm3 := nv_b c (a + 1)
        have hm4 := nd_le c (a + 1)
        refine jv_call (pc' := 22) rfl (ml_number_y (I := jm_u I 103 19 (iI (((a : Nat) : Int) + 1))) (a := a + 1) hX.1 rfl (by omega) (by omega)) (fun vq5 gq5 q5 => ?_)
        obtain ⟨rfl, rfl⟩ := q5
        show jx L xs _ 142 22 _ [.int (iI (nv c (a + 1)))] _ _
        rw [show nv c (a + 1) = ((w : Nat) : Int) by omega]
        refine jv_istore_n (pc' := 23) (k := 2) (x := (iI ((w : Nat) : Int))) rfl rfl rfl rfl (Or.inr rfl) ?_
        refine jv_aload_n (pc' := 24) (k := 0) (x := 103) rfl rfl rfl rfl ?_
        refine jv_bipush (pc' := 26) (n := 60) rfl rfl rfl ?_
        refine jv_call (pc' := 29) rfl (ml_takes_n (I := jm_u (jm_u I 103 19 (iI (((a : Nat) : Int) + 1))) 103 19 (iI ((a + 1 + nd c (a + 1) : Nat) : Int))) (x := 60) (a := a + 1 + nd c (a + 1)) (by omega) hX.1 rfl (by omega) (by omega)) (fun vq6 gq6 q6 => ?_)
        obtain ⟨rfl, rfl⟩ := q6
        show jx L xs _ 142 29 _ [.int (iI 0)] _ _
        refine jv_istore_n (pc' := 30) (k := 3) (x := (iI 0)) rfl rfl rfl rfl (Or.inr rfl) ?_
        refine jv_aload_n (pc' := 31) (k := 0) (x := 103) rfl rfl rfl rfl ?_
        refine jv_bipush (pc' := 33) (n := 61) rfl rfl rfl ?_
        refine jv_call (pc' := 36) rfl (ml_takes_n (I := jm_u (jm_u I 103 19 (iI (((a : Nat) : Int) + 1))) 103 19 (iI ((a + 1 + nd c (a + 1) : Nat) : Int))) (x := 61) (a := a + 1 + nd c (a + 1)) (by omega) hX.1 rfl (by omega) (by omega)) (fun vq7 gq7 q7 => ?_)
        obtain ⟨rfl, rfl⟩ := q7
        show jx L xs _ 142 36 _ [.int (iI 0)] _ _
        refine jv_if_eq (t := 46) (pc' := 39) (a := 0) rfl rfl rfl (by omega) (fun hz_8 => ?_) (fun hz_8 => ?_)
        · skip
          refine jv_iconst (pc' := 47) (n := -1) rfl rfl ?_
          refine jv_istore (pc' := 49) (k := 4) (x := (iI (-1))) rfl rfl rfl (Or.inr rfl) ?_
          refine jv_iload (pc' := 51) (k := 4) (x := (iI (-1))) rfl rfl rfl ?_
          refine jv_if_ge (t := 67) (pc' := 54) (a := (-1)) rfl rfl rfl (by omega) (fun hz_9 => ?_) (fun hz_9 => ?_)
          · skip
            exact absurd hz_9 (by decide)
          · skip
            refine jv_aload_n (pc' := 55) (k := 0) (x := 103) rfl rfl rfl rfl ?_
            refine jv_bipush (pc' := 57) (n := 33) rfl rfl rfl ?_
            refine jv_call (pc' := 60) rfl (ml_takes_n (I := jm_u (jm_u I 103 19 (iI (((a : Nat) : Int) + 1))) 103 19 (iI ((a + 1 + nd c (a + 1) : Nat) : Int))) (x := 33) (a := a + 1 + nd c (a + 1)) (by omega) hX.1 rfl (by omega) (by omega)) (fun vq10 gq10 q10 => ?_)
            obtain ⟨rfl, rfl⟩ := q10
            show jx L xs _ 142 60 _ [.int (iI 0)] _ _
            refine jv_if_eq (t := 67) (pc' := 63) (a := 0) rfl rfl rfl (by omega) (fun hz_11 => ?_) (fun hz_11 => ?_)
            · skip
              refine jv_iconst (pc' := 68) (n := 0) rfl rfl ?_
              refine jv_istore (pc' := 70) (k := 5) (x := (iI 0)) rfl rfl rfl (Or.inr rfl) ?_
              refine jv_aload_n (pc' := 71) (k := 0) (x := 103) rfl rfl rfl rfl ?_
              refine jv_iload_n (pc' := 72) (k := 1) (x := (iI ((nm : Nat) : Int))) rfl rfl rfl rfl ?_
              refine jv_call (pc' := 75) rfl (ml_steps_n (I := jm_u (jm_u I 103 19 (iI (((a : Nat) : Int) + 1))) 103 19 (iI ((a + 1 + nd c (a + 1) : Nat) : Int))) (M := M) (s := s) (nm := ((nm : Nat) : Int)) hX hM hV o1) (fun vq12 gq12 q12 => ?_)
              obtain ⟨Iq12, Mq12, rfl, rfl, rq12, tq12, Dq12, oq12, uq12⟩ := q12
              have Xq12 := MX_fr (I := jm_u (jm_u I 103 19 (iI (((a : Nat) : Int) + 1))) 103 19 (iI ((a + 1 + nd c (a + 1) : Nat) : Int))) hX (fr_w rq12 wM_1)
              show jx L xs _ 142 75 _ [.int (iI 0)] _ _
              refine jv_if_ne (t := 79) (pc' := 78) (a := 0) rfl rfl rfl (by omega) (fun hz_13 => ?_) (fun hz_13 => ?_)
              · skip
                exact absurd hz_13 (by decide)
              · skip
                refine jv_retV rfl rfl ⟨_, _, rfl, ?_⟩
                first
                | (exfalso; omega)
                | exact ⟨_, _, rfl, rfl, (fr_t (fr_u (by simp [wM1]) (fr_u (by simp [wM1]) (fr_r _))) rq12), (fr_t (fr_r _) tq12), Dq12, ((uq12 19 (by omega)).trans rfl), oq12⟩
            · skip
              exact absurd hz_11 (by decide)
        · skip
          exact absurd hz_8 (by decide)
  · obtain ⟨o1, rfl⟩ := SP_t hSP
    rcases x6 with ⟨y1, rfl, y2, y3⟩ | ⟨y1, rfl, y2⟩
    · rcases x7 with ⟨u1, u2, u3, u4, rfl⟩ | ⟨u1, u3, rfl⟩ | ⟨u1, u2, u3, rfl⟩
      · skip
        have u5 : Y 2 f = nv c (a + 1 + nd c (a + 1) + 2) := u4
        refine jv_aload_n (pc' := 1) (k := 0) (x := 103) rfl rfl rfl rfl ?_
        have hm1 := MT_c hX.1 (a)
        refine jv_call (pc' := 4) rfl (ml_here (I := I) (a := a) hX.1 hat (by omega)) (fun vq2 gq2 q2 => ?_)
        obtain ⟨rfl, rfl⟩ := q2
        show jx L xs _ 142 4 _ [.int (iI (c (a)))] _ _
        refine jv_bipush (pc' := 6) (n := 97) rfl rfl rfl ?_
        refine jv_isub (pc' := 7) (a := (c (a))) (b := 97) rfl rfl ?_
        rw [show (c (a)) - 97 = ((nm : Nat) : Int) by omega]
        refine jv_istore_n (pc' := 8) (k := 1) (x := (iI ((nm : Nat) : Int))) rfl rfl rfl rfl (Or.inr rfl) ?_
        refine jv_aload_n (pc' := 9) (k := 0) (x := 103) rfl rfl rfl rfl ?_
        refine jx_step (pc' := 10) rfl ?_
        refine jv_getI (pc' := 13) (c := 12) (k := 19) (v := (iI ((a : Nat) : Int))) rfl rfl rfl (fun _ _ => rfl) rfl rfl hat ?_
        refine jv_iconst (pc' := 14) (n := 1) rfl rfl ?_
        refine jv_iadd (pc' := 15) (a := ((a : Nat) : Int)) (b := 1) rfl rfl ?_
        refine jv_putI (pc' := 18) (c := 12) (k := 19) rfl rfl rfl rfl (fun _ _ _  => rfl) rfl rfl ?_
        refine jv_aload_n (pc' := 19) (k := 0) (x := 103) rfl rfl rfl rfl ?_
        have hm3 := nv_b c (a + 1)
        have hm4 := nd_le c (a + 1)
        refine jv_call (pc' := 22) rfl (ml_number_y (I := jm_u I 103 19 (iI (((a : Nat) : Int) + 1))) (a := a + 1) hX.1 rfl (by omega) (by omega)) (fun vq5 gq5 q5 => ?_)
        obtain ⟨rfl, rfl⟩ := q5
        show jx L xs _ 142 22 _ [.int (iI (nv c (a + 1)))] _ _
        rw [show nv c (a + 1) = ((w : Nat) : Int) by omega]
        refine jv_istore_n (pc' := 23) (k := 2) (x := (iI ((w : Nat) : Int))) rfl rfl rfl rfl (Or.inr rfl) ?_
        refine jv_aload_n (pc' := 24) (k := 0) (x := 103) rfl rfl rfl rfl ?_
        refine jv_bipush (pc' := 26) (n := 60) rfl rfl rfl ?_
        refine jv_call (pc' := 29) rfl (ml_takes_y (I := jm_u (jm_u I 103 19 (iI (((a : Nat) : Int) + 1))) 103 19 (iI ((a + 1 + nd c (a + 1) : Nat) : Int))) (x := 60) (a := a + 1 + nd c (a + 1)) (by omega) hX.1 rfl (by omega) (by omega)) (fun vq6 gq6 q6 => ?_)
        obtain ⟨rfl, rfl⟩ := q6
        show jx L xs _ 142 29 _ [.int (iI 1)] _ _
        refine jv_istore_n (pc' := 30) (k := 3) (x := (iI 1)) rfl rfl rfl rfl (Or.inr rfl) ?_
        refine jv_aload_n (pc' := 31) (k := 0) (x := 103) rfl rfl rfl rfl ?_
        refine jv_bipush (pc' := 33) (n := 61) rfl rfl rfl ?_
        refine jv_call (pc' := 36) rfl (ml_takes_y (I := jm_u (jm_u (jm_u I 103 19 (iI (((a : Nat) : Int) + 1))) 103 19 (iI ((a + 1 + nd c (a + 1) : Nat) : Int))) 103 19 (iI ((a + 1 + nd c (a + 1) + 1 : Nat) : Int))) (x := 61) (a := a + 1 + nd c (a + 1) + 1) (by omega) hX.1 rfl (by omega) (by omega)) (fun vq7 gq7 q7 => ?_)
        obtain ⟨rfl, rfl⟩ := q7
        show jx L xs _ 142 36 _ [.int (iI 1)] _ _
        refine jv_if_eq (t := 46) (pc' := 39) (a := 1) rfl rfl rfl (by omega) (fun hz_8 => ?_) (fun hz_8 => ?_)
        · skip
          exact absurd hz_8 (by decide)
        · skip
          refine jv_aload_n (pc' := 40) (k := 0) (x := 103) rfl rfl rfl rfl ?_
          have hm9 := nv_b c (a + 1 + nd c (a + 1) + 2)
          have hm10 := nd_le c (a + 1 + nd c (a + 1) + 2)
          refine jv_call (pc' := 43) rfl (ml_number_y (I := jm_u (jm_u (jm_u (jm_u I 103 19 (iI (((a : Nat) : Int) + 1))) 103 19 (iI ((a + 1 + nd c (a + 1) : Nat) : Int))) 103 19 (iI ((a + 1 + nd c (a + 1) + 1 : Nat) : Int))) 103 19 (iI ((a + 1 + nd c (a + 1) + 2 : Nat) : Int))) (a := a + 1 + nd c (a + 1) + 2) hX.1 rfl (by omega) (by omega)) (fun vq11 gq11 q11 => ?_)
          obtain ⟨rfl, rfl⟩ := q11
          show jx L xs _ 142 43 _ [.int (iI (nv c (a + 1 + nd c (a + 1) + 2)))] _ _
          refine jx_step (pc' := 47) rfl ?_
          refine jv_istore (pc' := 49) (k := 4) (x := (iI (nv c (a + 1 + nd c (a + 1) + 2)))) rfl rfl rfl (Or.inr rfl) ?_
          refine jv_iload (pc' := 51) (k := 4) (x := (iI (nv c (a + 1 + nd c (a + 1) + 2)))) rfl rfl rfl ?_
          refine jv_if_ge (t := 67) (pc' := 54) (a := (nv c (a + 1 + nd c (a + 1) + 2))) rfl rfl rfl (by omega) (fun hz_12 => ?_) (fun hz_12 => ?_)
          · skip
            refine jv_iconst (pc' := 68) (n := 0) rfl rfl ?_
            refine jv_istore (pc' := 70) (k := 5) (x := (iI 0)) rfl rfl rfl (Or.inr rfl) ?_
            refine jv_aload_n (pc' := 71) (k := 0) (x := 103) rfl rfl rfl rfl ?_
            refine jv_iload_n (pc' := 72) (k := 1) (x := (iI ((nm : Nat) : Int))) rfl rfl rfl rfl ?_
            refine jv_call (pc' := 75) rfl (ml_steps_y (I := jm_u (jm_u (jm_u (jm_u (jm_u I 103 19 (iI (((a : Nat) : Int) + 1))) 103 19 (iI ((a + 1 + nd c (a + 1) : Nat) : Int))) 103 19 (iI ((a + 1 + nd c (a + 1) + 1 : Nat) : Int))) 103 19 (iI ((a + 1 + nd c (a + 1) + 2 : Nat) : Int))) 103 19 (iI ((a + 1 + nd c (a + 1) + 2 + nd c (a + 1 + nd c (a + 1) + 2) : Nat) : Int))) (M := M) (s := s) (nm := ((nm : Nat) : Int)) hX hM hV o1) (fun vq13 gq13 q13 => ?_)
            obtain ⟨Iq13, Mq13, rfl, rfl, rq13, tq13, Dq13, uq13⟩ := q13
            have Xq13 := MX_fr (I := jm_u (jm_u (jm_u (jm_u (jm_u I 103 19 (iI (((a : Nat) : Int) + 1))) 103 19 (iI ((a + 1 + nd c (a + 1) : Nat) : Int))) 103 19 (iI ((a + 1 + nd c (a + 1) + 1 : Nat) : Int))) 103 19 (iI ((a + 1 + nd c (a + 1) + 2 : Nat) : Int))) 103 19 (iI ((a + 1 + nd c (a + 1) + 2 + nd c (a + 1 + nd c (a + 1) + 2) : Nat) : Int))) hX (fr_w rq13 wM_1)
            have Vq13 := DV_S hV o1
            have epq13 : dS s 0 0 = ((pl : Nat) : Int) := hpl
            show jx L xs _ 142 75 _ [.int (iI 1)] _ _
            refine jv_if_ne (t := 79) (pc' := 78) (a := 1) rfl rfl rfl (by omega) (fun hz_14 => ?_) (fun hz_14 => ?_)
            · skip
              refine jv_aload_n (pc' := 80) (k := 0) (x := 103) rfl rfl rfl rfl ?_
              refine jv_call (pc' := 83) rfl (ml_leftBits (I := Iq13) (M := Mq13) (s := (dS s)) Xq13 Dq13 Vq13.1) (fun vq15 gq15 q15 => ?_)
              obtain ⟨rfl, rfl⟩ := q15
              show jx L xs _ 142 83 _ [.int (iI (8 * (sz : Int) - (dS s) 0 0))] _ _
              refine jv_iload_n (pc' := 84) (k := 2) (x := (iI ((w : Nat) : Int))) rfl rfl rfl rfl ?_
              refine jv_ic_ge (t := 101) (pc' := 87) (a := (8 * (sz : Int) - (dS s) 0 0)) (b := ((w : Nat) : Int)) rfl rfl rfl (by omega) (fun hz_16 => ?_) (fun hz_16 => ?_)
              · skip
                exfalso; omega
              · skip
                refine jv_aload_n (pc' := 88) (k := 0) (x := 103) rfl rfl rfl rfl ?_
                refine jv_iload_n (pc' := 89) (k := 1) (x := (iI ((nm : Nat) : Int))) rfl rfl rfl rfl ?_
                refine jv_iconst (pc' := 90) (n := 0) rfl rfl ?_
                refine jv_long (pc' := 91) (y := lI 0) rfl (by decide) ?_
                refine jv_iconst (pc' := 92) (n := 1) rfl rfl ?_
                obtain ⟨nq17, hnq17, hmq17⟩ := DV_n Vq13.1 hlim
                refine jv_call (pc' := 95) rfl (ml_enter (I := Iq13) (M := Mq13) (s := (dS s)) Xq13 Dq13 Vq13.1 hnq17 hmq17) (fun vq17 gq17 q17 => ?_)
                obtain ⟨Iq17, Mq17, rfl, rfl, Dq17, uq17, wq17⟩ := q17
                have rq17 := fr_w uq17 wM1_E
                have tq17 := fr_w wq17 wN1_E
                have Xq17 := MX_fr (I := Iq13) Xq13 (fr_w rq17 wM_1)
                show jx L xs _ 142 95 _ [] _ _
                refine jv_aload_n (pc' := 96) (k := 0) (x := 103) rfl rfl rfl rfl ?_
                refine jv_iconst (pc' := 97) (n := 1) rfl rfl ?_
                refine jv_putZ (pc' := 100) (c := 12) (k := 33) rfl rfl rfl rfl (fun _ _ _ hz => if_pos hz) rfl rfl (by first | exact Or.inl rfl | exact Or.inr rfl) ?_
                refine jv_retV rfl rfl ⟨_, _, rfl, ?_⟩
                first
                | (exfalso; omega)
                | exact ⟨_, _, rfl, rfl, (fr_u (by simp [wM1]) (fr_t (fr_t (fr_u (by simp [wM1]) (fr_u (by simp [wM1]) (fr_u (by simp [wM1]) (fr_u (by simp [wM1]) (fr_u (by simp [wM1]) (fr_r _)))))) rq13) rq17)), (fr_t (fr_t (fr_r _) tq13) tq17), Dq17, ((uq17 103 19 (by simp)).trans ((uq13 103 19 (by simp)).trans rfl)), rfl⟩
            · skip
              exact absurd hz_14 (by decide)
          · skip
            refine jv_aload_n (pc' := 55) (k := 0) (x := 103) rfl rfl rfl rfl ?_
            refine jv_bipush (pc' := 57) (n := 33) rfl rfl rfl ?_
            refine jv_call (pc' := 60) rfl (ml_takes_n (I := jm_u (jm_u (jm_u (jm_u (jm_u I 103 19 (iI (((a : Nat) : Int) + 1))) 103 19 (iI ((a + 1 + nd c (a + 1) : Nat) : Int))) 103 19 (iI ((a + 1 + nd c (a + 1) + 1 : Nat) : Int))) 103 19 (iI ((a + 1 + nd c (a + 1) + 2 : Nat) : Int))) 103 19 (iI ((a + 1 + nd c (a + 1) + 2 + nd c (a + 1 + nd c (a + 1) + 2) : Nat) : Int))) (x := 33) (a := a + 1 + nd c (a + 1) + 2 + nd c (a + 1 + nd c (a + 1) + 2)) (by omega) hX.1 rfl (by omega) (by omega)) (fun vq18 gq18 q18 => ?_)
            obtain ⟨rfl, rfl⟩ := q18
            show jx L xs _ 142 60 _ [.int (iI 0)] _ _
            refine jv_if_eq (t := 67) (pc' := 63) (a := 0) rfl rfl rfl (by omega) (fun hz_19 => ?_) (fun hz_19 => ?_)
            · skip
              refine jv_iconst (pc' := 68) (n := 0) rfl rfl ?_
              refine jv_istore (pc' := 70) (k := 5) (x := (iI 0)) rfl rfl rfl (Or.inr rfl) ?_
              refine jv_aload_n (pc' := 71) (k := 0) (x := 103) rfl rfl rfl rfl ?_
              refine jv_iload_n (pc' := 72) (k := 1) (x := (iI ((nm : Nat) : Int))) rfl rfl rfl rfl ?_
              refine jv_call (pc' := 75) rfl (ml_steps_y (I := jm_u (jm_u (jm_u (jm_u (jm_u I 103 19 (iI (((a : Nat) : Int) + 1))) 103 19 (iI ((a + 1 + nd c (a + 1) : Nat) : Int))) 103 19 (iI ((a + 1 + nd c (a + 1) + 1 : Nat) : Int))) 103 19 (iI ((a + 1 + nd c (a + 1) + 2 : Nat) : Int))) 103 19 (iI ((a + 1 + nd c (a + 1) + 2 + nd c (a + 1 + nd c (a + 1) + 2) : Nat) : Int))) (M := M) (s := s) (nm := ((nm : Nat) : Int)) hX hM hV o1) (fun vq20 gq20 q20 => ?_)
              obtain ⟨Iq20, Mq20, rfl, rfl, rq20, tq20, Dq20, uq20⟩ := q20
              have Xq20 := MX_fr (I := jm_u (jm_u (jm_u (jm_u (jm_u I 103 19 (iI (((a : Nat) : Int) + 1))) 103 19 (iI ((a + 1 + nd c (a + 1) : Nat) : Int))) 103 19 (iI ((a + 1 + nd c (a + 1) + 1 : Nat) : Int))) 103 19 (iI ((a + 1 + nd c (a + 1) + 2 : Nat) : Int))) 103 19 (iI ((a + 1 + nd c (a + 1) + 2 + nd c (a + 1 + nd c (a + 1) + 2) : Nat) : Int))) hX (fr_w rq20 wM_1)
              have Vq20 := DV_S hV o1
              have epq20 : dS s 0 0 = ((pl : Nat) : Int) := hpl
              show jx L xs _ 142 75 _ [.int (iI 1)] _ _
              refine jv_if_ne (t := 79) (pc' := 78) (a := 1) rfl rfl rfl (by omega) (fun hz_21 => ?_) (fun hz_21 => ?_)
              · skip
                refine jv_aload_n (pc' := 80) (k := 0) (x := 103) rfl rfl rfl rfl ?_
                refine jv_call (pc' := 83) rfl (ml_leftBits (I := Iq20) (M := Mq20) (s := (dS s)) Xq20 Dq20 Vq20.1) (fun vq22 gq22 q22 => ?_)
                obtain ⟨rfl, rfl⟩ := q22
                show jx L xs _ 142 83 _ [.int (iI (8 * (sz : Int) - (dS s) 0 0))] _ _
                refine jv_iload_n (pc' := 84) (k := 2) (x := (iI ((w : Nat) : Int))) rfl rfl rfl rfl ?_
                refine jv_ic_ge (t := 101) (pc' := 87) (a := (8 * (sz : Int) - (dS s) 0 0)) (b := ((w : Nat) : Int)) rfl rfl rfl (by omega) (fun hz_23 => ?_) (fun hz_23 => ?_)
                · skip
                  exfalso; omega
                · skip
                  refine jv_aload_n (pc' := 88) (k := 0) (x := 103) rfl rfl rfl rfl ?_
                  refine jv_iload_n (pc' := 89) (k := 1) (x := (iI ((nm : Nat) : Int))) rfl rfl rfl rfl ?_
                  refine jv_iconst (pc' := 90) (n := 0) rfl rfl ?_
                  refine jv_long (pc' := 91) (y := lI 0) rfl (by decide) ?_
                  refine jv_iconst (pc' := 92) (n := 1) rfl rfl ?_
                  obtain ⟨nq24, hnq24, hmq24⟩ := DV_n Vq20.1 hlim
                  refine jv_call (pc' := 95) rfl (ml_enter (I := Iq20) (M := Mq20) (s := (dS s)) Xq20 Dq20 Vq20.1 hnq24 hmq24) (fun vq24 gq24 q24 => ?_)
                  obtain ⟨Iq24, Mq24, rfl, rfl, Dq24, uq24, wq24⟩ := q24
                  have rq24 := fr_w uq24 wM1_E
                  have tq24 := fr_w wq24 wN1_E
                  have Xq24 := MX_fr (I := Iq20) Xq20 (fr_w rq24 wM_1)
                  show jx L xs _ 142 95 _ [] _ _
                  refine jv_aload_n (pc' := 96) (k := 0) (x := 103) rfl rfl rfl rfl ?_
                  refine jv_iconst (pc' := 97) (n := 1) rfl rfl ?_
                  refine jv_putZ (pc' := 100) (c := 12) (k := 33) rfl rfl rfl rfl (fun _ _ _ hz => if_pos hz) rfl rfl (by first | exact Or.inl rfl | exact Or.inr rfl) ?_
                  refine jv_retV rfl rfl ⟨_, _, rfl, ?_⟩
                  first
                  | (exfalso; omega)
                  | exact ⟨_, _, rfl, rfl, (fr_u (by simp [wM1]) (fr_t (fr_t (fr_u (by simp [wM1]) (fr_u (by simp [wM1]) (fr_u (by simp [wM1]) (fr_u (by simp [wM1]) (fr_u (by simp [wM1]) (fr_r _)))))) rq20) rq24)), (fr_t (fr_t (fr_r _) tq20) tq24), Dq24, ((uq24 103 19 (by simp)).trans ((uq20 103 19 (by simp)).trans rfl)), rfl⟩
              · skip
                exact absurd hz_21 (by decide)
            · skip
              exact absurd hz_19 (by decide)
      · skip
        refine jv_aload_n (pc' := 1) (k := 0) (x := 103) rfl rfl rfl rfl ?_
        have hm1 := MT_c hX.1 (a)
        refine jv_call (pc' := 4) rfl (ml_here (I := I) (a := a) hX.1 hat (by omega)) (fun vq2 gq2 q2 => ?_)
        obtain ⟨rfl, rfl⟩ := q2
        show jx L xs _ 142 4 _ [.int (iI (c (a)))] _ _
        refine jv_bipush (pc' := 6) (n := 97) rfl rfl rfl ?_
        refine jv_isub (pc' := 7) (a := (c (a))) (b := 97) rfl rfl ?_
        rw [show (c (a)) - 97 = ((nm : Nat) : Int) by omega]
        refine jv_istore_n (pc' := 8) (k := 1) (x := (iI ((nm : Nat) : Int))) rfl rfl rfl rfl (Or.inr rfl) ?_
        refine jv_aload_n (pc' := 9) (k := 0) (x := 103) rfl rfl rfl rfl ?_
        refine jx_step (pc' := 10) rfl ?_
        refine jv_getI (pc' := 13) (c := 12) (k := 19) (v := (iI ((a : Nat) : Int))) rfl rfl rfl (fun _ _ => rfl) rfl rfl hat ?_
        refine jv_iconst (pc' := 14) (n := 1) rfl rfl ?_
        refine jv_iadd (pc' := 15) (a := ((a : Nat) : Int)) (b := 1) rfl rfl ?_
        refine jv_putI (pc' := 18) (c := 12) (k := 19) rfl rfl rfl rfl (fun _ _ _  => rfl) rfl rfl ?_
        refine jv_aload_n (pc' := 19) (k := 0) (x := 103) rfl rfl rfl rfl ?_
        have hm3 := nv_b c (a + 1)
        have hm4 := nd_le c (a + 1)
        refine jv_call (pc' := 22) rfl (ml_number_y (I := jm_u I 103 19 (iI (((a : Nat) : Int) + 1))) (a := a + 1) hX.1 rfl (by omega) (by omega)) (fun vq5 gq5 q5 => ?_)
        obtain ⟨rfl, rfl⟩ := q5
        show jx L xs _ 142 22 _ [.int (iI (nv c (a + 1)))] _ _
        rw [show nv c (a + 1) = ((w : Nat) : Int) by omega]
        refine jv_istore_n (pc' := 23) (k := 2) (x := (iI ((w : Nat) : Int))) rfl rfl rfl rfl (Or.inr rfl) ?_
        refine jv_aload_n (pc' := 24) (k := 0) (x := 103) rfl rfl rfl rfl ?_
        refine jv_bipush (pc' := 26) (n := 60) rfl rfl rfl ?_
        refine jv_call (pc' := 29) rfl (ml_takes_y (I := jm_u (jm_u I 103 19 (iI (((a : Nat) : Int) + 1))) 103 19 (iI ((a + 1 + nd c (a + 1) : Nat) : Int))) (x := 60) (a := a + 1 + nd c (a + 1)) (by omega) hX.1 rfl (by omega) (by omega)) (fun vq6 gq6 q6 => ?_)
        obtain ⟨rfl, rfl⟩ := q6
        show jx L xs _ 142 29 _ [.int (iI 1)] _ _
        refine jv_istore_n (pc' := 30) (k := 3) (x := (iI 1)) rfl rfl rfl rfl (Or.inr rfl) ?_
        refine jv_aload_n (pc' := 31) (k := 0) (x := 103) rfl rfl rfl rfl ?_
        refine jv_bipush (pc' := 33) (n := 61) rfl rfl rfl ?_
        refine jv_call (pc' := 36) rfl (ml_takes_n (I := jm_u (jm_u (jm_u I 103 19 (iI (((a : Nat) : Int) + 1))) 103 19 (iI ((a + 1 + nd c (a + 1) : Nat) : Int))) 103 19 (iI ((a + 1 + nd c (a + 1) + 1 : Nat) : Int))) (x := 61) (a := a + 1 + nd c (a + 1) + 1) (by omega) hX.1 rfl (by omega) (by omega)) (fun vq7 gq7 q7 => ?_)
        obtain ⟨rfl, rfl⟩ := q7
        show jx L xs _ 142 36 _ [.int (iI 0)] _ _
        refine jv_if_eq (t := 46) (pc' := 39) (a := 0) rfl rfl rfl (by omega) (fun hz_8 => ?_) (fun hz_8 => ?_)
        · skip
          refine jv_iconst (pc' := 47) (n := -1) rfl rfl ?_
          refine jv_istore (pc' := 49) (k := 4) (x := (iI (-1))) rfl rfl rfl (Or.inr rfl) ?_
          refine jv_iload (pc' := 51) (k := 4) (x := (iI (-1))) rfl rfl rfl ?_
          refine jv_if_ge (t := 67) (pc' := 54) (a := (-1)) rfl rfl rfl (by omega) (fun hz_9 => ?_) (fun hz_9 => ?_)
          · skip
            exact absurd hz_9 (by decide)
          · skip
            refine jv_aload_n (pc' := 55) (k := 0) (x := 103) rfl rfl rfl rfl ?_
            refine jv_bipush (pc' := 57) (n := 33) rfl rfl rfl ?_
            refine jv_call (pc' := 60) rfl (ml_takes_y (I := jm_u (jm_u (jm_u I 103 19 (iI (((a : Nat) : Int) + 1))) 103 19 (iI ((a + 1 + nd c (a + 1) : Nat) : Int))) 103 19 (iI ((a + 1 + nd c (a + 1) + 1 : Nat) : Int))) (x := 33) (a := a + 1 + nd c (a + 1) + 1) (by omega) hX.1 rfl (by omega) (by omega)) (fun vq10 gq10 q10 => ?_)
            obtain ⟨rfl, rfl⟩ := q10
            show jx L xs _ 142 60 _ [.int (iI 1)] _ _
            refine jv_if_eq (t := 67) (pc' := 63) (a := 1) rfl rfl rfl (by omega) (fun hz_11 => ?_) (fun hz_11 => ?_)
            · skip
              exact absurd hz_11 (by decide)
            · skip
              refine jv_iconst (pc' := 64) (n := 1) rfl rfl ?_
              refine jx_step (pc' := 68) rfl ?_
              refine jv_istore (pc' := 70) (k := 5) (x := (iI 1)) rfl rfl rfl (Or.inr rfl) ?_
              refine jv_aload_n (pc' := 71) (k := 0) (x := 103) rfl rfl rfl rfl ?_
              refine jv_iload_n (pc' := 72) (k := 1) (x := (iI ((nm : Nat) : Int))) rfl rfl rfl rfl ?_
              refine jv_call (pc' := 75) rfl (ml_steps_y (I := jm_u (jm_u (jm_u (jm_u I 103 19 (iI (((a : Nat) : Int) + 1))) 103 19 (iI ((a + 1 + nd c (a + 1) : Nat) : Int))) 103 19 (iI ((a + 1 + nd c (a + 1) + 1 : Nat) : Int))) 103 19 (iI ((a + 1 + nd c (a + 1) + 2 : Nat) : Int))) (M := M) (s := s) (nm := ((nm : Nat) : Int)) hX hM hV o1) (fun vq12 gq12 q12 => ?_)
              obtain ⟨Iq12, Mq12, rfl, rfl, rq12, tq12, Dq12, uq12⟩ := q12
              have Xq12 := MX_fr (I := jm_u (jm_u (jm_u (jm_u I 103 19 (iI (((a : Nat) : Int) + 1))) 103 19 (iI ((a + 1 + nd c (a + 1) : Nat) : Int))) 103 19 (iI ((a + 1 + nd c (a + 1) + 1 : Nat) : Int))) 103 19 (iI ((a + 1 + nd c (a + 1) + 2 : Nat) : Int))) hX (fr_w rq12 wM_1)
              have Vq12 := DV_S hV o1
              have epq12 : dS s 0 0 = ((pl : Nat) : Int) := hpl
              show jx L xs _ 142 75 _ [.int (iI 1)] _ _
              refine jv_if_ne (t := 79) (pc' := 78) (a := 1) rfl rfl rfl (by omega) (fun hz_13 => ?_) (fun hz_13 => ?_)
              · skip
                refine jv_aload_n (pc' := 80) (k := 0) (x := 103) rfl rfl rfl rfl ?_
                refine jv_call (pc' := 83) rfl (ml_leftBits (I := Iq12) (M := Mq12) (s := (dS s)) Xq12 Dq12 Vq12.1) (fun vq14 gq14 q14 => ?_)
                obtain ⟨rfl, rfl⟩ := q14
                show jx L xs _ 142 83 _ [.int (iI (8 * (sz : Int) - (dS s) 0 0))] _ _
                refine jv_iload_n (pc' := 84) (k := 2) (x := (iI ((w : Nat) : Int))) rfl rfl rfl rfl ?_
                refine jv_ic_ge (t := 101) (pc' := 87) (a := (8 * (sz : Int) - (dS s) 0 0)) (b := ((w : Nat) : Int)) rfl rfl rfl (by omega) (fun hz_15 => ?_) (fun hz_15 => ?_)
                · skip
                  exfalso; omega
                · skip
                  refine jv_aload_n (pc' := 88) (k := 0) (x := 103) rfl rfl rfl rfl ?_
                  refine jv_iload_n (pc' := 89) (k := 1) (x := (iI ((nm : Nat) : Int))) rfl rfl rfl rfl ?_
                  refine jv_iconst (pc' := 90) (n := 0) rfl rfl ?_
                  refine jv_long (pc' := 91) (y := lI 0) rfl (by decide) ?_
                  refine jv_iconst (pc' := 92) (n := 1) rfl rfl ?_
                  obtain ⟨nq16, hnq16, hmq16⟩ := DV_n Vq12.1 hlim
                  refine jv_call (pc' := 95) rfl (ml_enter (I := Iq12) (M := Mq12) (s := (dS s)) Xq12 Dq12 Vq12.1 hnq16 hmq16) (fun vq16 gq16 q16 => ?_)
                  obtain ⟨Iq16, Mq16, rfl, rfl, Dq16, uq16, wq16⟩ := q16
                  have rq16 := fr_w uq16 wM1_E
                  have tq16 := fr_w wq16 wN1_E
                  have Xq16 := MX_fr (I := Iq12) Xq12 (fr_w rq16 wM_1)
                  show jx L xs _ 142 95 _ [] _ _
                  refine jv_aload_n (pc' := 96) (k := 0) (x := 103) rfl rfl rfl rfl ?_
                  refine jv_iconst (pc' := 97) (n := 1) rfl rfl ?_
                  refine jv_putZ (pc' := 100) (c := 12) (k := 33) rfl rfl rfl rfl (fun _ _ _ hz => if_pos hz) rfl rfl (by first | exact Or.inl rfl | exact Or.inr rfl) ?_
                  refine jv_retV rfl rfl ⟨_, _, rfl, ?_⟩
                  first
                  | (exfalso; omega)
                  | exact ⟨_, _, rfl, rfl, (fr_u (by simp [wM1]) (fr_t (fr_t (fr_u (by simp [wM1]) (fr_u (by simp [wM1]) (fr_u (by simp [wM1]) (fr_u (by simp [wM1]) (fr_r _))))) rq12) rq16)), (fr_t (fr_t (fr_r _) tq12) tq16), Dq16, ((uq16 103 19 (by simp)).trans ((uq12 103 19 (by simp)).trans rfl)), rfl⟩
              · skip
                exact absurd hz_13 (by decide)
        · skip
          exact absurd hz_8 (by decide)
      · skip
        refine jv_aload_n (pc' := 1) (k := 0) (x := 103) rfl rfl rfl rfl ?_
        have hm1 := MT_c hX.1 (a)
        refine jv_call (pc' := 4) rfl (ml_here (I := I) (a := a) hX.1 hat (by omega)) (fun vq2 gq2 q2 => ?_)
        obtain ⟨rfl, rfl⟩ := q2
        show jx L xs _ 142 4 _ [.int (iI (c (a)))] _ _
        refine jv_bipush (pc' := 6) (n := 97) rfl rfl rfl ?_
        refine jv_isub (pc' := 7) (a := (c (a))) (b := 97) rfl rfl ?_
        rw [show (c (a)) - 97 = ((nm : Nat) : Int) by omega]
        refine jv_istore_n (pc' := 8) (k := 1) (x := (iI ((nm : Nat) : Int))) rfl rfl rfl rfl (Or.inr rfl) ?_
        refine jv_aload_n (pc' := 9) (k := 0) (x := 103) rfl rfl rfl rfl ?_
        refine jx_step (pc' := 10) rfl ?_
        refine jv_getI (pc' := 13) (c := 12) (k := 19) (v := (iI ((a : Nat) : Int))) rfl rfl rfl (fun _ _ => rfl) rfl rfl hat ?_
        refine jv_iconst (pc' := 14) (n := 1) rfl rfl ?_
        refine jv_iadd (pc' := 15) (a := ((a : Nat) : Int)) (b := 1) rfl rfl ?_
        refine jv_putI (pc' := 18) (c := 12) (k := 19) rfl rfl rfl rfl (fun _ _ _  => rfl) rfl rfl ?_
        refine jv_aload_n (pc' := 19) (k := 0) (x := 103) rfl rfl rfl rfl ?_
        have hm3 := nv_b c (a + 1)
        have hm4 := nd_le c (a + 1)
        refine jv_call (pc' := 22) rfl (ml_number_y (I := jm_u I 103 19 (iI (((a : Nat) : Int) + 1))) (a := a + 1) hX.1 rfl (by omega) (by omega)) (fun vq5 gq5 q5 => ?_)
        obtain ⟨rfl, rfl⟩ := q5
        show jx L xs _ 142 22 _ [.int (iI (nv c (a + 1)))] _ _
        rw [show nv c (a + 1) = ((w : Nat) : Int) by omega]
        refine jv_istore_n (pc' := 23) (k := 2) (x := (iI ((w : Nat) : Int))) rfl rfl rfl rfl (Or.inr rfl) ?_
        refine jv_aload_n (pc' := 24) (k := 0) (x := 103) rfl rfl rfl rfl ?_
        refine jv_bipush (pc' := 26) (n := 60) rfl rfl rfl ?_
        refine jv_call (pc' := 29) rfl (ml_takes_y (I := jm_u (jm_u I 103 19 (iI (((a : Nat) : Int) + 1))) 103 19 (iI ((a + 1 + nd c (a + 1) : Nat) : Int))) (x := 60) (a := a + 1 + nd c (a + 1)) (by omega) hX.1 rfl (by omega) (by omega)) (fun vq6 gq6 q6 => ?_)
        obtain ⟨rfl, rfl⟩ := q6
        show jx L xs _ 142 29 _ [.int (iI 1)] _ _
        refine jv_istore_n (pc' := 30) (k := 3) (x := (iI 1)) rfl rfl rfl rfl (Or.inr rfl) ?_
        refine jv_aload_n (pc' := 31) (k := 0) (x := 103) rfl rfl rfl rfl ?_
        refine jv_bipush (pc' := 33) (n := 61) rfl rfl rfl ?_
        refine jv_call (pc' := 36) rfl (ml_takes_n (I := jm_u (jm_u (jm_u I 103 19 (iI (((a : Nat) : Int) + 1))) 103 19 (iI ((a + 1 + nd c (a + 1) : Nat) : Int))) 103 19 (iI ((a + 1 + nd c (a + 1) + 1 : Nat) : Int))) (x := 61) (a := a + 1 + nd c (a + 1) + 1) (by omega) hX.1 rfl (by omega) (by omega)) (fun vq7 gq7 q7 => ?_)
        obtain ⟨rfl, rfl⟩ := q7
        show jx L xs _ 142 36 _ [.int (iI 0)] _ _
        refine jv_if_eq (t := 46) (pc' := 39) (a := 0) rfl rfl rfl (by omega) (fun hz_8 => ?_) (fun hz_8 => ?_)
        · skip
          refine jv_iconst (pc' := 47) (n := -1) rfl rfl ?_
          refine jv_istore (pc' := 49) (k := 4) (x := (iI (-1))) rfl rfl rfl (Or.inr rfl) ?_
          refine jv_iload (pc' := 51) (k := 4) (x := (iI (-1))) rfl rfl rfl ?_
          refine jv_if_ge (t := 67) (pc' := 54) (a := (-1)) rfl rfl rfl (by omega) (fun hz_9 => ?_) (fun hz_9 => ?_)
          · skip
            exact absurd hz_9 (by decide)
          · skip
            refine jv_aload_n (pc' := 55) (k := 0) (x := 103) rfl rfl rfl rfl ?_
            refine jv_bipush (pc' := 57) (n := 33) rfl rfl rfl ?_
            refine jv_call (pc' := 60) rfl (ml_takes_n (I := jm_u (jm_u (jm_u I 103 19 (iI (((a : Nat) : Int) + 1))) 103 19 (iI ((a + 1 + nd c (a + 1) : Nat) : Int))) 103 19 (iI ((a + 1 + nd c (a + 1) + 1 : Nat) : Int))) (x := 33) (a := a + 1 + nd c (a + 1) + 1) (by omega) hX.1 rfl (by omega) (by omega)) (fun vq10 gq10 q10 => ?_)
            obtain ⟨rfl, rfl⟩ := q10
            show jx L xs _ 142 60 _ [.int (iI 0)] _ _
            refine jv_if_eq (t := 67) (pc' := 63) (a := 0) rfl rfl rfl (by omega) (fun hz_11 => ?_) (fun hz_11 => ?_)
            · skip
              refine jv_iconst (pc' := 68) (n := 0) rfl rfl ?_
              refine jv_istore (pc' := 70) (k := 5) (x := (iI 0)) rfl rfl rfl (Or.inr rfl) ?_
              refine jv_aload_n (pc' := 71) (k := 0) (x := 103) rfl rfl rfl rfl ?_
              refine jv_iload_n (pc' := 72) (k := 1) (x := (iI ((nm : Nat) : Int))) rfl rfl rfl rfl ?_
              refine jv_call (pc' := 75) rfl (ml_steps_y (I := jm_u (jm_u (jm_u I 103 19 (iI (((a : Nat) : Int) + 1))) 103 19 (iI ((a + 1 + nd c (a + 1) : Nat) : Int))) 103 19 (iI ((a + 1 + nd c (a + 1) + 1 : Nat) : Int))) (M := M) (s := s) (nm := ((nm : Nat) : Int)) hX hM hV o1) (fun vq12 gq12 q12 => ?_)
              obtain ⟨Iq12, Mq12, rfl, rfl, rq12, tq12, Dq12, uq12⟩ := q12
              have Xq12 := MX_fr (I := jm_u (jm_u (jm_u I 103 19 (iI (((a : Nat) : Int) + 1))) 103 19 (iI ((a + 1 + nd c (a + 1) : Nat) : Int))) 103 19 (iI ((a + 1 + nd c (a + 1) + 1 : Nat) : Int))) hX (fr_w rq12 wM_1)
              have Vq12 := DV_S hV o1
              have epq12 : dS s 0 0 = ((pl : Nat) : Int) := hpl
              show jx L xs _ 142 75 _ [.int (iI 1)] _ _
              refine jv_if_ne (t := 79) (pc' := 78) (a := 1) rfl rfl rfl (by omega) (fun hz_13 => ?_) (fun hz_13 => ?_)
              · skip
                refine jv_aload_n (pc' := 80) (k := 0) (x := 103) rfl rfl rfl rfl ?_
                refine jv_call (pc' := 83) rfl (ml_leftBits (I := Iq12) (M := Mq12) (s := (dS s)) Xq12 Dq12 Vq12.1) (fun vq14 gq14 q14 => ?_)
                obtain ⟨rfl, rfl⟩ := q14
                show jx L xs _ 142 83 _ [.int (iI (8 * (sz : Int) - (dS s) 0 0))] _ _
                refine jv_iload_n (pc' := 84) (k := 2) (x := (iI ((w : Nat) : Int))) rfl rfl rfl rfl ?_
                refine jv_ic_ge (t := 101) (pc' := 87) (a := (8 * (sz : Int) - (dS s) 0 0)) (b := ((w : Nat) : Int)) rfl rfl rfl (by omega) (fun hz_15 => ?_) (fun hz_15 => ?_)
                · skip
                  exfalso; omega
                · skip
                  refine jv_aload_n (pc' := 88) (k := 0) (x := 103) rfl rfl rfl rfl ?_
                  refine jv_iload_n (pc' := 89) (k := 1) (x := (iI ((nm : Nat) : Int))) rfl rfl rfl rfl ?_
                  refine jv_iconst (pc' := 90) (n := 0) rfl rfl ?_
                  refine jv_long (pc' := 91) (y := lI 0) rfl (by decide) ?_
                  refine jv_iconst (pc' := 92) (n := 1) rfl rfl ?_
                  obtain ⟨nq16, hnq16, hmq16⟩ := DV_n Vq12.1 hlim
                  refine jv_call (pc' := 95) rfl (ml_enter (I := Iq12) (M := Mq12) (s := (dS s)) Xq12 Dq12 Vq12.1 hnq16 hmq16) (fun vq16 gq16 q16 => ?_)
                  obtain ⟨Iq16, Mq16, rfl, rfl, Dq16, uq16, wq16⟩ := q16
                  have rq16 := fr_w uq16 wM1_E
                  have tq16 := fr_w wq16 wN1_E
                  have Xq16 := MX_fr (I := Iq12) Xq12 (fr_w rq16 wM_1)
                  show jx L xs _ 142 95 _ [] _ _
                  refine jv_aload_n (pc' := 96) (k := 0) (x := 103) rfl rfl rfl rfl ?_
                  refine jv_iconst (pc' := 97) (n := 1) rfl rfl ?_
                  refine jv_putZ (pc' := 100) (c := 12) (k := 33) rfl rfl rfl rfl (fun _ _ _ hz => if_pos hz) rfl rfl (by first | exact Or.inl rfl | exact Or.inr rfl) ?_
                  refine jv_retV rfl rfl ⟨_, _, rfl, ?_⟩
                  first
                  | (exfalso; omega)
                  | exact ⟨_, _, rfl, rfl, (fr_u (by simp [wM1]) (fr_t (fr_t (fr_u (by simp [wM1]) (fr_u (by simp [wM1]) (fr_u (by simp [wM1]) (fr_r _)))) rq12) rq16)), (fr_t (fr_t (fr_r _) tq12) tq16), Dq16, ((uq16 103 19 (by simp)).trans ((uq12 103 19 (by simp)).trans rfl)), rfl⟩
              · skip
                exact absurd hz_13 (by decide)
            · skip
              exact absurd hz_11 (by decide)
        · skip
          exact absurd hz_8 (by decide)
    · rcases x7 with ⟨u1, u2, u3, u4, rfl⟩ | ⟨u1, u3, rfl⟩ | ⟨u1, u2, u3, rfl⟩
      · skip
        refine jv_aload_n (pc' := 1) (k := 0) (x := 103) rfl rfl rfl rfl ?_
        have hm1 := MT_c hX.1 (a)
        refine jv_call (pc' := 4) rfl (ml_here (I := I) (a := a) hX.1 hat (by omega)) (fun vq2 gq2 q2 => ?_)
        obtain ⟨rfl, rfl⟩ := q2
        show jx L xs _ 142 4 _ [.int (iI (c (a)))] _ _
        refine jv_bipush (pc' := 6) (n := 97) rfl rfl rfl ?_
        refine jv_isub (pc' := 7) (a := (c (a))) (b := 97) rfl rfl ?_
        rw [show (c (a)) - 97 = ((nm : Nat) : Int) by omega]
        refine jv_istore_n (pc' := 8) (k := 1) (x := (iI ((nm : Nat) : Int))) rfl rfl rfl rfl (Or.inr rfl) ?_
        refine jv_aload_n (pc' := 9) (k := 0) (x := 103) rfl rfl rfl rfl ?_
        refine jx_step (pc' := 10) rfl ?_
        refine jv_getI (pc' := 13) (c := 12) (k := 19) (v := (iI ((a : Nat) : Int))) rfl rfl rfl (fun _ _ => rfl) rfl rfl hat ?_
        refine jv_iconst (pc' := 14) (n := 1) rfl rfl ?_
        refine jv_iadd (pc' := 15) (a := ((a : Nat) : Int)) (b := 1) rfl rfl ?_
        refine jv_putI (pc' := 18) (c := 12) (k := 19) rfl rfl rfl rfl (fun _ _ _  => rfl) rfl rfl ?_
        refine jv_aload_n (pc' := 19) (k := 0) (x := 103) rfl rfl rfl rfl ?_
        have hm3 := nv_b c (a + 1)
        have hm4 := nd_le c (a + 1)
        refine jv_call (pc' := 22) rfl (ml_number_y (I := jm_u I 103 19 (iI (((a : Nat) : Int) + 1))) (a := a + 1) hX.1 rfl (by omega) (by omega)) (fun vq5 gq5 q5 => ?_)
        obtain ⟨rfl, rfl⟩ := q5
        show jx L xs _ 142 22 _ [.int (iI (nv c (a + 1)))] _ _
        rw [show nv c (a + 1) = ((w : Nat) : Int) by omega]
        refine jv_istore_n (pc' := 23) (k := 2) (x := (iI ((w : Nat) : Int))) rfl rfl rfl rfl (Or.inr rfl) ?_
        refine jv_aload_n (pc' := 24) (k := 0) (x := 103) rfl rfl rfl rfl ?_
        refine jv_bipush (pc' := 26) (n := 60) rfl rfl rfl ?_
        refine jv_call (pc' := 29) rfl (ml_takes_n (I := jm_u (jm_u I 103 19 (iI (((a : Nat) : Int) + 1))) 103 19 (iI ((a + 1 + nd c (a + 1) : Nat) : Int))) (x := 60) (a := a + 1 + nd c (a + 1)) (by omega) hX.1 rfl (by omega) (by omega)) (fun vq6 gq6 q6 => ?_)
        obtain ⟨rfl, rfl⟩ := q6
        show jx L xs _ 142 29 _ [.int (iI 0)] _ _
        refine jv_istore_n (pc' := 30) (k := 3) (x := (iI 0)) rfl rfl rfl rfl (Or.inr rfl) ?_
        refine jv_aload_n (pc' := 31) (k := 0) (x := 103) rfl rfl rfl rfl ?_
        refine jv_bipush (pc' := 33) (n := 61) rfl rfl rfl ?_
        refine jv_call (pc' := 36) rfl (ml_takes_y (I := jm_u (jm_u I 103 19 (iI (((a : Nat) : Int) + 1))) 103 19 (iI ((a + 1 + nd c (a + 1) : Nat) : Int))) (x := 61) (a := a + 1 + nd c (a + 1)) (by omega) hX.1 rfl (by omega) (by omega)) (fun vq7 gq7 q7 => ?_)
        obtain ⟨rfl, rfl⟩ := q7
        show jx L xs _ 142 36 _ [.int (iI 1)] _ _
        refine jv_if_eq (t := 46) (pc' := 39) (a := 1) rfl rfl rfl (by omega) (fun hz_8 => ?_) (fun hz_8 => ?_)
        · skip
          exact absurd hz_8 (by decide)
        · skip
          refine jv_aload_n (pc' := 40) (k := 0) (x := 103) rfl rfl rfl rfl ?_
          have hm9 := nv_b c (a + 1 + nd c (a + 1) + 1)
          have hm10 := nd_le c (a + 1 + nd c (a + 1) + 1)
          refine jv_call (pc' := 43) rfl (ml_number_y (I := jm_u (jm_u (jm_u I 103 19 (iI (((a : Nat) : Int) + 1))) 103 19 (iI ((a + 1 + nd c (a + 1) : Nat) : Int))) 103 19 (iI ((a + 1 + nd c (a + 1) + 1 : Nat) : Int))) (a := a + 1 + nd c (a + 1) + 1) hX.1 rfl (by omega) (by omega)) (fun vq11 gq11 q11 => ?_)
          obtain ⟨rfl, rfl⟩ := q11
          show jx L xs _ 142 43 _ [.int (iI (nv c (a + 1 + nd c (a + 1) + 1)))] _ _
          refine jx_step (pc' := 47) rfl ?_
          refine jv_istore (pc' := 49) (k := 4) (x := (iI (nv c (a + 1 + nd c (a + 1) + 1)))) rfl rfl rfl (Or.inr rfl) ?_
          refine jv_iload (pc' := 51) (k := 4) (x := (iI (nv c (a + 1 + nd c (a + 1) + 1)))) rfl rfl rfl ?_
          refine jv_if_ge (t := 67) (pc' := 54) (a := (nv c (a + 1 + nd c (a + 1) + 1))) rfl rfl rfl (by omega) (fun hz_12 => ?_) (fun hz_12 => ?_)
          · skip
            refine jv_iconst (pc' := 68) (n := 0) rfl rfl ?_
            refine jv_istore (pc' := 70) (k := 5) (x := (iI 0)) rfl rfl rfl (Or.inr rfl) ?_
            refine jv_aload_n (pc' := 71) (k := 0) (x := 103) rfl rfl rfl rfl ?_
            refine jv_iload_n (pc' := 72) (k := 1) (x := (iI ((nm : Nat) : Int))) rfl rfl rfl rfl ?_
            refine jv_call (pc' := 75) rfl (ml_steps_y (I := jm_u (jm_u (jm_u (jm_u I 103 19 (iI (((a : Nat) : Int) + 1))) 103 19 (iI ((a + 1 + nd c (a + 1) : Nat) : Int))) 103 19 (iI ((a + 1 + nd c (a + 1) + 1 : Nat) : Int))) 103 19 (iI ((a + 1 + nd c (a + 1) + 1 + nd c (a + 1 + nd c (a + 1) + 1) : Nat) : Int))) (M := M) (s := s) (nm := ((nm : Nat) : Int)) hX hM hV o1) (fun vq13 gq13 q13 => ?_)
            obtain ⟨Iq13, Mq13, rfl, rfl, rq13, tq13, Dq13, uq13⟩ := q13
            have Xq13 := MX_fr (I := jm_u (jm_u (jm_u (jm_u I 103 19 (iI (((a : Nat) : Int) + 1))) 103 19 (iI ((a + 1 + nd c (a + 1) : Nat) : Int))) 103 19 (iI ((a + 1 + nd c (a + 1) + 1 : Nat) : Int))) 103 19 (iI ((a + 1 + nd c (a + 1) + 1 + nd c (a + 1 + nd c (a + 1) + 1) : Nat) : Int))) hX (fr_w rq13 wM_1)
            have Vq13 := DV_S hV o1
            have epq13 : dS s 0 0 = ((pl : Nat) : Int) := hpl
            show jx L xs _ 142 75 _ [.int (iI 1)] _ _
            refine jv_if_ne (t := 79) (pc' := 78) (a := 1) rfl rfl rfl (by omega) (fun hz_14 => ?_) (fun hz_14 => ?_)
            · skip
              refine jv_aload_n (pc' := 80) (k := 0) (x := 103) rfl rfl rfl rfl ?_
              refine jv_call (pc' := 83) rfl (ml_leftBits (I := Iq13) (M := Mq13) (s := (dS s)) Xq13 Dq13 Vq13.1) (fun vq15 gq15 q15 => ?_)
              obtain ⟨rfl, rfl⟩ := q15
              show jx L xs _ 142 83 _ [.int (iI (8 * (sz : Int) - (dS s) 0 0))] _ _
              refine jv_iload_n (pc' := 84) (k := 2) (x := (iI ((w : Nat) : Int))) rfl rfl rfl rfl ?_
              refine jv_ic_ge (t := 101) (pc' := 87) (a := (8 * (sz : Int) - (dS s) 0 0)) (b := ((w : Nat) : Int)) rfl rfl rfl (by omega) (fun hz_16 => ?_) (fun hz_16 => ?_)
              · skip
                exfalso; omega
              · skip
                refine jv_aload_n (pc' := 88) (k := 0) (x := 103) rfl rfl rfl rfl ?_
                refine jv_iload_n (pc' := 89) (k := 1) (x := (iI ((nm : Nat) : Int))) rfl rfl rfl rfl ?_
                refine jv_iconst (pc' := 90) (n := 0) rfl rfl ?_
                refine jv_long (pc' := 91) (y := lI 0) rfl (by decide) ?_
                refine jv_iconst (pc' := 92) (n := 1) rfl rfl ?_
                obtain ⟨nq17, hnq17, hmq17⟩ := DV_n Vq13.1 hlim
                refine jv_call (pc' := 95) rfl (ml_enter (I := Iq13) (M := Mq13) (s := (dS s)) Xq13 Dq13 Vq13.1 hnq17 hmq17) (fun vq17 gq17 q17 => ?_)
                obtain ⟨Iq17, Mq17, rfl, rfl, Dq17, uq17, wq17⟩ := q17
                have rq17 := fr_w uq17 wM1_E
                have tq17 := fr_w wq17 wN1_E
                have Xq17 := MX_fr (I := Iq13) Xq13 (fr_w rq17 wM_1)
                show jx L xs _ 142 95 _ [] _ _
                refine jv_aload_n (pc' := 96) (k := 0) (x := 103) rfl rfl rfl rfl ?_
                refine jv_iconst (pc' := 97) (n := 1) rfl rfl ?_
                refine jv_putZ (pc' := 100) (c := 12) (k := 33) rfl rfl rfl rfl (fun _ _ _ hz => if_pos hz) rfl rfl (by first | exact Or.inl rfl | exact Or.inr rfl) ?_
                refine jv_retV rfl rfl ⟨_, _, rfl, ?_⟩
                first
                | (exfalso; omega)
                | exact ⟨_, _, rfl, rfl, (fr_u (by simp [wM1]) (fr_t (fr_t (fr_u (by simp [wM1]) (fr_u (by simp [wM1]) (fr_u (by simp [wM1]) (fr_u (by simp [wM1]) (fr_r _))))) rq13) rq17)), (fr_t (fr_t (fr_r _) tq13) tq17), Dq17, ((uq17 103 19 (by simp)).trans ((uq13 103 19 (by simp)).trans rfl)), rfl⟩
            · skip
              exact absurd hz_14 (by decide)
          · skip
            refine jv_aload_n (pc' := 55) (k := 0) (x := 103) rfl rfl rfl rfl ?_
            refine jv_bipush (pc' := 57) (n := 33) rfl rfl rfl ?_
            refine jv_call (pc' := 60) rfl (ml_takes_n (I := jm_u (jm_u (jm_u (jm_u I 103 19 (iI (((a : Nat) : Int) + 1))) 103 19 (iI ((a + 1 + nd c (a + 1) : Nat) : Int))) 103 19 (iI ((a + 1 + nd c (a + 1) + 1 : Nat) : Int))) 103 19 (iI ((a + 1 + nd c (a + 1) + 1 + nd c (a + 1 + nd c (a + 1) + 1) : Nat) : Int))) (x := 33) (a := a + 1 + nd c (a + 1) + 1 + nd c (a + 1 + nd c (a + 1) + 1)) (by omega) hX.1 rfl (by omega) (by omega)) (fun vq18 gq18 q18 => ?_)
            obtain ⟨rfl, rfl⟩ := q18
            show jx L xs _ 142 60 _ [.int (iI 0)] _ _
            refine jv_if_eq (t := 67) (pc' := 63) (a := 0) rfl rfl rfl (by omega) (fun hz_19 => ?_) (fun hz_19 => ?_)
            · skip
              refine jv_iconst (pc' := 68) (n := 0) rfl rfl ?_
              refine jv_istore (pc' := 70) (k := 5) (x := (iI 0)) rfl rfl rfl (Or.inr rfl) ?_
              refine jv_aload_n (pc' := 71) (k := 0) (x := 103) rfl rfl rfl rfl ?_
              refine jv_iload_n (pc' := 72) (k := 1) (x := (iI ((nm : Nat) : Int))) rfl rfl rfl rfl ?_
              refine jv_call (pc' := 75) rfl (ml_steps_y (I := jm_u (jm_u (jm_u (jm_u I 103 19 (iI (((a : Nat) : Int) + 1))) 103 19 (iI ((a + 1 + nd c (a + 1) : Nat) : Int))) 103 19 (iI ((a + 1 + nd c (a + 1) + 1 : Nat) : Int))) 103 19 (iI ((a + 1 + nd c (a + 1) + 1 + nd c (a + 1 + nd c (a + 1) + 1) : Nat) : Int))) (M := M) (s := s) (nm := ((nm : Nat) : Int)) hX hM hV o1) (fun vq20 gq20 q20 => ?_)
              obtain ⟨Iq20, Mq20, rfl, rfl, rq20, tq20, Dq20, uq20⟩ := q20
              have Xq20 := MX_fr (I := jm_u (jm_u (jm_u (jm_u I 103 19 (iI (((a : Nat) : Int) + 1))) 103 19 (iI ((a + 1 + nd c (a + 1) : Nat) : Int))) 103 19 (iI ((a + 1 + nd c (a + 1) + 1 : Nat) : Int))) 103 19 (iI ((a + 1 + nd c (a + 1) + 1 + nd c (a + 1 + nd c (a + 1) + 1) : Nat) : Int))) hX (fr_w rq20 wM_1)
              have Vq20 := DV_S hV o1
              have epq20 : dS s 0 0 = ((pl : Nat) : Int) := hpl
              show jx L xs _ 142 75 _ [.int (iI 1)] _ _
              refine jv_if_ne (t := 79) (pc' := 78) (a := 1) rfl rfl rfl (by omega) (fun hz_21 => ?_) (fun hz_21 => ?_)
              · skip
                refine jv_aload_n (pc' := 80) (k := 0) (x := 103) rfl rfl rfl rfl ?_
                refine jv_call (pc' := 83) rfl (ml_leftBits (I := Iq20) (M := Mq20) (s := (dS s)) Xq20 Dq20 Vq20.1) (fun vq22 gq22 q22 => ?_)
                obtain ⟨rfl, rfl⟩ := q22
                show jx L xs _ 142 83 _ [.int (iI (8 * (sz : Int) - (dS s) 0 0))] _ _
                refine jv_iload_n (pc' := 84) (k := 2) (x := (iI ((w : Nat) : Int))) rfl rfl rfl rfl ?_
                refine jv_ic_ge (t := 101) (pc' := 87) (a := (8 * (sz : Int) - (dS s) 0 0)) (b := ((w : Nat) : Int)) rfl rfl rfl (by omega) (fun hz_23 => ?_) (fun hz_23 => ?_)
                · skip
                  exfalso; omega
                · skip
                  refine jv_aload_n (pc' := 88) (k := 0) (x := 103) rfl rfl rfl rfl ?_
                  refine jv_iload_n (pc' := 89) (k := 1) (x := (iI ((nm : Nat) : Int))) rfl rfl rfl rfl ?_
                  refine jv_iconst (pc' := 90) (n := 0) rfl rfl ?_
                  refine jv_long (pc' := 91) (y := lI 0) rfl (by decide) ?_
                  refine jv_iconst (pc' := 92) (n := 1) rfl rfl ?_
                  obtain ⟨nq24, hnq24, hmq24⟩ := DV_n Vq20.1 hlim
                  refine jv_call (pc' := 95) rfl (ml_enter (I := Iq20) (M := Mq20) (s := (dS s)) Xq20 Dq20 Vq20.1 hnq24 hmq24) (fun vq24 gq24 q24 => ?_)
                  obtain ⟨Iq24, Mq24, rfl, rfl, Dq24, uq24, wq24⟩ := q24
                  have rq24 := fr_w uq24 wM1_E
                  have tq24 := fr_w wq24 wN1_E
                  have Xq24 := MX_fr (I := Iq20) Xq20 (fr_w rq24 wM_1)
                  show jx L xs _ 142 95 _ [] _ _
                  refine jv_aload_n (pc' := 96) (k := 0) (x := 103) rfl rfl rfl rfl ?_
                  refine jv_iconst (pc' := 97) (n := 1) rfl rfl ?_
                  refine jv_putZ (pc' := 100) (c := 12) (k := 33) rfl rfl rfl rfl (fun _ _ _ hz => if_pos hz) rfl rfl (by first | exact Or.inl rfl | exact Or.inr rfl) ?_
                  refine jv_retV rfl rfl ⟨_, _, rfl, ?_⟩
                  first
                  | (exfalso; omega)
                  | exact ⟨_, _, rfl, rfl, (fr_u (by simp [wM1]) (fr_t (fr_t (fr_u (by simp [wM1]) (fr_u (by simp [wM1]) (fr_u (by simp [wM1]) (fr_u (by simp [wM1]) (fr_r _))))) rq20) rq24)), (fr_t (fr_t (fr_r _) tq20) tq24), Dq24, ((uq24 103 19 (by simp)).trans ((uq20 103 19 (by simp)).trans rfl)), rfl⟩
              · skip
                exact absurd hz_21 (by decide)
            · skip
              exact absurd hz_19 (by decide)
      · skip
        refine jv_aload_n (pc' := 1) (k := 0) (x := 103) rfl rfl rfl rfl ?_
        have hm1 := MT_c hX.1 (a)
        refine jv_call (pc' := 4) rfl (ml_here (I := I) (a := a) hX.1 hat (by omega)) (fun vq2 gq2 q2 => ?_)
        obtain ⟨rfl, rfl⟩ := q2
        show jx L xs _ 142 4 _ [.int (iI (c (a)))] _ _
        refine jv_bipush (pc' := 6) (n := 97) rfl rfl rfl ?_
        refine jv_isub (pc' := 7) (a := (c (a))) (b := 97) rfl rfl ?_
        rw [show (c (a)) - 97 = ((nm : Nat) : Int) by omega]
        refine jv_istore_n (pc' := 8) (k := 1) (x := (iI ((nm : Nat) : Int))) rfl rfl rfl rfl (Or.inr rfl) ?_
        refine jv_aload_n (pc' := 9) (k := 0) (x := 103) rfl rfl rfl rfl ?_
        refine jx_step (pc' := 10) rfl ?_
        refine jv_getI (pc' := 13) (c := 12) (k := 19) (v := (iI ((a : Nat) : Int))) rfl rfl rfl (fun _ _ => rfl) rfl rfl hat ?_
        refine jv_iconst (pc' := 14) (n := 1) rfl rfl ?_
        refine jv_iadd (pc' := 15) (a := ((a : Nat) : Int)) (b := 1) rfl rfl ?_
        refine jv_putI (pc' := 18) (c := 12) (k := 19) rfl rfl rfl rfl (fun _ _ _  => rfl) rfl rfl ?_
        refine jv_aload_n (pc' := 19) (k := 0) (x := 103) rfl rfl rfl rfl ?_
        have hm3 := nv_b c (a + 1)
        have hm4 := nd_le c (a + 1)
        refine jv_call (pc' := 22) rfl (ml_number_y (I := jm_u I 103 19 (iI (((a : Nat) : Int) + 1))) (a := a + 1) hX.1 rfl (by omega) (by omega)) (fun vq5 gq5 q5 => ?_)
        obtain ⟨rfl, rfl⟩ := q5
        show jx L xs _ 142 22 _ [.int (iI (nv c (a + 1)))] _ _
        rw [show nv c (a + 1) = ((w : Nat) : Int) by omega]
        refine jv_istore_n (pc' := 23) (k := 2) (x := (iI ((w : Nat) : Int))) rfl rfl rfl rfl (Or.inr rfl) ?_
        refine jv_aload_n (pc' := 24) (k := 0) (x := 103) rfl rfl rfl rfl ?_
        refine jv_bipush (pc' := 26) (n := 60) rfl rfl rfl ?_
        refine jv_call (pc' := 29) rfl (ml_takes_n (I := jm_u (jm_u I 103 19 (iI (((a : Nat) : Int) + 1))) 103 19 (iI ((a + 1 + nd c (a + 1) : Nat) : Int))) (x := 60) (a := a + 1 + nd c (a + 1)) (by omega) hX.1 rfl (by omega) (by omega)) (fun vq6 gq6 q6 => ?_)
        obtain ⟨rfl, rfl⟩ := q6
        show jx L xs _ 142 29 _ [.int (iI 0)] _ _
        refine jv_istore_n (pc' := 30) (k := 3) (x := (iI 0)) rfl rfl rfl rfl (Or.inr rfl) ?_
        refine jv_aload_n (pc' := 31) (k := 0) (x := 103) rfl rfl rfl rfl ?_
        refine jv_bipush (pc' := 33) (n := 61) rfl rfl rfl ?_
        refine jv_call (pc' := 36) rfl (ml_takes_n (I := jm_u (jm_u I 103 19 (iI (((a : Nat) : Int) + 1))) 103 19 (iI ((a + 1 + nd c (a + 1) : Nat) : Int))) (x := 61) (a := a + 1 + nd c (a + 1)) (by omega) hX.1 rfl (by omega) (by omega)) (fun vq7 gq7 q7 => ?_)
        obtain ⟨rfl, rfl⟩ := q7
        show jx L xs _ 142 36 _ [.int (iI 0)] _ _
        refine jv_if_eq (t := 46) (pc' := 39) (a := 0) rfl rfl rfl (by omega) (fun hz_8 => ?_) (fun hz_8 => ?_)
        · skip
          refine jv_iconst (pc' := 47) (n := -1) rfl rfl ?_
          refine jv_istore (pc' := 49) (k := 4) (x := (iI (-1))) rfl rfl rfl (Or.inr rfl) ?_
          refine jv_iload (pc' := 51) (k := 4) (x := (iI (-1))) rfl rfl rfl ?_
          refine jv_if_ge (t := 67) (pc' := 54) (a := (-1)) rfl rfl rfl (by omega) (fun hz_9 => ?_) (fun hz_9 => ?_)
          · skip
            exact absurd hz_9 (by decide)
          · skip
            refine jv_aload_n (pc' := 55) (k := 0) (x := 103) rfl rfl rfl rfl ?_
            refine jv_bipush (pc' := 57) (n := 33) rfl rfl rfl ?_
            refine jv_call (pc' := 60) rfl (ml_takes_y (I := jm_u (jm_u I 103 19 (iI (((a : Nat) : Int) + 1))) 103 19 (iI ((a + 1 + nd c (a + 1) : Nat) : Int))) (x := 33) (a := a + 1 + nd c (a + 1)) (by omega) hX.1 rfl (by omega) (by omega)) (fun vq10 gq10 q10 => ?_)
            obtain ⟨rfl, rfl⟩ := q10
            show jx L xs _ 142 60 _ [.int (iI 1)] _ _
            refine jv_if_eq (t := 67) (pc' := 63) (a := 1) rfl rfl rfl (by omega) (fun hz_11 => ?_) (fun hz_11 => ?_)
            · skip
              exact absurd hz_11 (by decide)
            · skip
              refine jv_iconst (pc' := 64) (n := 1) rfl rfl ?_
              refine jx_step (pc' := 68) rfl ?_
              refine jv_istore (pc' := 70) (k := 5) (x := (iI 1)) rfl rfl rfl (Or.inr rfl) ?_
              refine jv_aload_n (pc' := 71) (k := 0) (x := 103) rfl rfl rfl rfl ?_
              refine jv_iload_n (pc' := 72) (k := 1) (x := (iI ((nm : Nat) : Int))) rfl rfl rfl rfl ?_
              refine jv_call (pc' := 75) rfl (ml_steps_y (I := jm_u (jm_u (jm_u I 103 19 (iI (((a : Nat) : Int) + 1))) 103 19 (iI ((a + 1 + nd c (a + 1) : Nat) : Int))) 103 19 (iI ((a + 1 + nd c (a + 1) + 1 : Nat) : Int))) (M := M) (s := s) (nm := ((nm : Nat) : Int)) hX hM hV o1) (fun vq12 gq12 q12 => ?_)
              obtain ⟨Iq12, Mq12, rfl, rfl, rq12, tq12, Dq12, uq12⟩ := q12
              have Xq12 := MX_fr (I := jm_u (jm_u (jm_u I 103 19 (iI (((a : Nat) : Int) + 1))) 103 19 (iI ((a + 1 + nd c (a + 1) : Nat) : Int))) 103 19 (iI ((a + 1 + nd c (a + 1) + 1 : Nat) : Int))) hX (fr_w rq12 wM_1)
              have Vq12 := DV_S hV o1
              have epq12 : dS s 0 0 = ((pl : Nat) : Int) := hpl
              show jx L xs _ 142 75 _ [.int (iI 1)] _ _
              refine jv_if_ne (t := 79) (pc' := 78) (a := 1) rfl rfl rfl (by omega) (fun hz_13 => ?_) (fun hz_13 => ?_)
              · skip
                refine jv_aload_n (pc' := 80) (k := 0) (x := 103) rfl rfl rfl rfl ?_
                refine jv_call (pc' := 83) rfl (ml_leftBits (I := Iq12) (M := Mq12) (s := (dS s)) Xq12 Dq12 Vq12.1) (fun vq14 gq14 q14 => ?_)
                obtain ⟨rfl, rfl⟩ := q14
                show jx L xs _ 142 83 _ [.int (iI (8 * (sz : Int) - (dS s) 0 0))] _ _
                refine jv_iload_n (pc' := 84) (k := 2) (x := (iI ((w : Nat) : Int))) rfl rfl rfl rfl ?_
                refine jv_ic_ge (t := 101) (pc' := 87) (a := (8 * (sz : Int) - (dS s) 0 0)) (b := ((w : Nat) : Int)) rfl rfl rfl (by omega) (fun hz_15 => ?_) (fun hz_15 => ?_)
                · skip
                  exfalso; omega
                · skip
                  refine jv_aload_n (pc' := 88) (k := 0) (x := 103) rfl rfl rfl rfl ?_
                  refine jv_iload_n (pc' := 89) (k := 1) (x := (iI ((nm : Nat) : Int))) rfl rfl rfl rfl ?_
                  refine jv_iconst (pc' := 90) (n := 0) rfl rfl ?_
                  refine jv_long (pc' := 91) (y := lI 0) rfl (by decide) ?_
                  refine jv_iconst (pc' := 92) (n := 1) rfl rfl ?_
                  obtain ⟨nq16, hnq16, hmq16⟩ := DV_n Vq12.1 hlim
                  refine jv_call (pc' := 95) rfl (ml_enter (I := Iq12) (M := Mq12) (s := (dS s)) Xq12 Dq12 Vq12.1 hnq16 hmq16) (fun vq16 gq16 q16 => ?_)
                  obtain ⟨Iq16, Mq16, rfl, rfl, Dq16, uq16, wq16⟩ := q16
                  have rq16 := fr_w uq16 wM1_E
                  have tq16 := fr_w wq16 wN1_E
                  have Xq16 := MX_fr (I := Iq12) Xq12 (fr_w rq16 wM_1)
                  show jx L xs _ 142 95 _ [] _ _
                  refine jv_aload_n (pc' := 96) (k := 0) (x := 103) rfl rfl rfl rfl ?_
                  refine jv_iconst (pc' := 97) (n := 1) rfl rfl ?_
                  refine jv_putZ (pc' := 100) (c := 12) (k := 33) rfl rfl rfl rfl (fun _ _ _ hz => if_pos hz) rfl rfl (by first | exact Or.inl rfl | exact Or.inr rfl) ?_
                  refine jv_retV rfl rfl ⟨_, _, rfl, ?_⟩
                  first
                  | (exfalso; omega)
                  | exact ⟨_, _, rfl, rfl, (fr_u (by simp [wM1]) (fr_t (fr_t (fr_u (by simp [wM1]) (fr_u (by simp [wM1]) (fr_u (by simp [wM1]) (fr_r _)))) rq12) rq16)), (fr_t (fr_t (fr_r _) tq12) tq16), Dq16, ((uq16 103 19 (by simp)).trans ((uq12 103 19 (by simp)).trans rfl)), rfl⟩
              · skip
                exact absurd hz_13 (by decide)
        · skip
          exact absurd hz_8 (by decide)
      · skip
        refine jv_aload_n (pc' := 1) (k := 0) (x := 103) rfl rfl rfl rfl ?_
        have hm1 := MT_c hX.1 (a)
        refine jv_call (pc' := 4) rfl (ml_here (I := I) (a := a) hX.1 hat (by omega)) (fun vq2 gq2 q2 => ?_)
        obtain ⟨rfl, rfl⟩ := q2
        show jx L xs _ 142 4 _ [.int (iI (c (a)))] _ _
        refine jv_bipush (pc' := 6) (n := 97) rfl rfl rfl ?_
        refine jv_isub (pc' := 7) (a := (c (a))) (b := 97) rfl rfl ?_
        rw [show (c (a)) - 97 = ((nm : Nat) : Int) by omega]
        refine jv_istore_n (pc' := 8) (k := 1) (x := (iI ((nm : Nat) : Int))) rfl rfl rfl rfl (Or.inr rfl) ?_
        refine jv_aload_n (pc' := 9) (k := 0) (x := 103) rfl rfl rfl rfl ?_
        refine jx_step (pc' := 10) rfl ?_
        refine jv_getI (pc' := 13) (c := 12) (k := 19) (v := (iI ((a : Nat) : Int))) rfl rfl rfl (fun _ _ => rfl) rfl rfl hat ?_
        refine jv_iconst (pc' := 14) (n := 1) rfl rfl ?_
        refine jv_iadd (pc' := 15) (a := ((a : Nat) : Int)) (b := 1) rfl rfl ?_
        refine jv_putI (pc' := 18) (c := 12) (k := 19) rfl rfl rfl rfl (fun _ _ _  => rfl) rfl rfl ?_
        refine jv_aload_n (pc' := 19) (k := 0) (x := 103) rfl rfl rfl rfl ?_
        have hm3 := nv_b c (a + 1)
        have hm4 := nd_le c (a + 1)
        refine jv_call (pc' := 22) rfl (ml_number_y (I := jm_u I 103 19 (iI (((a : Nat) : Int) + 1))) (a := a + 1) hX.1 rfl (by omega) (by omega)) (fun vq5 gq5 q5 => ?_)
        obtain ⟨rfl, rfl⟩ := q5
        show jx L xs _ 142 22 _ [.int (iI (nv c (a + 1)))] _ _
        rw [show nv c (a + 1) = ((w : Nat) : Int) by omega]
        refine jv_istore_n (pc' := 23) (k := 2) (x := (iI ((w : Nat) : Int))) rfl rfl rfl rfl (Or.inr rfl) ?_
        refine jv_aload_n (pc' := 24) (k := 0) (x := 103) rfl rfl rfl rfl ?_
        refine jv_bipush (pc' := 26) (n := 60) rfl rfl rfl ?_
        refine jv_call (pc' := 29) rfl (ml_takes_n (I := jm_u (jm_u I 103 19 (iI (((a : Nat) : Int) + 1))) 103 19 (iI ((a + 1 + nd c (a + 1) : Nat) : Int))) (x := 60) (a := a + 1 + nd c (a + 1)) (by omega) hX.1 rfl (by omega) (by omega)) (fun vq6 gq6 q6 => ?_)
        obtain ⟨rfl, rfl⟩ := q6
        show jx L xs _ 142 29 _ [.int (iI 0)] _ _
        refine jv_istore_n (pc' := 30) (k := 3) (x := (iI 0)) rfl rfl rfl rfl (Or.inr rfl) ?_
        refine jv_aload_n (pc' := 31) (k := 0) (x := 103) rfl rfl rfl rfl ?_
        refine jv_bipush (pc' := 33) (n := 61) rfl rfl rfl ?_
        refine jv_call (pc' := 36) rfl (ml_takes_n (I := jm_u (jm_u I 103 19 (iI (((a : Nat) : Int) + 1))) 103 19 (iI ((a + 1 + nd c (a + 1) : Nat) : Int))) (x := 61) (a := a + 1 + nd c (a + 1)) (by omega) hX.1 rfl (by omega) (by omega)) (fun vq7 gq7 q7 => ?_)
        obtain ⟨rfl, rfl⟩ := q7
        show jx L xs _ 142 36 _ [.int (iI 0)] _ _
        refine jv_if_eq (t := 46) (pc' := 39) (a := 0) rfl rfl rfl (by omega) (fun hz_8 => ?_) (fun hz_8 => ?_)
        · skip
          refine jv_iconst (pc' := 47) (n := -1) rfl rfl ?_
          refine jv_istore (pc' := 49) (k := 4) (x := (iI (-1))) rfl rfl rfl (Or.inr rfl) ?_
          refine jv_iload (pc' := 51) (k := 4) (x := (iI (-1))) rfl rfl rfl ?_
          refine jv_if_ge (t := 67) (pc' := 54) (a := (-1)) rfl rfl rfl (by omega) (fun hz_9 => ?_) (fun hz_9 => ?_)
          · skip
            exact absurd hz_9 (by decide)
          · skip
            refine jv_aload_n (pc' := 55) (k := 0) (x := 103) rfl rfl rfl rfl ?_
            refine jv_bipush (pc' := 57) (n := 33) rfl rfl rfl ?_
            refine jv_call (pc' := 60) rfl (ml_takes_n (I := jm_u (jm_u I 103 19 (iI (((a : Nat) : Int) + 1))) 103 19 (iI ((a + 1 + nd c (a + 1) : Nat) : Int))) (x := 33) (a := a + 1 + nd c (a + 1)) (by omega) hX.1 rfl (by omega) (by omega)) (fun vq10 gq10 q10 => ?_)
            obtain ⟨rfl, rfl⟩ := q10
            show jx L xs _ 142 60 _ [.int (iI 0)] _ _
            refine jv_if_eq (t := 67) (pc' := 63) (a := 0) rfl rfl rfl (by omega) (fun hz_11 => ?_) (fun hz_11 => ?_)
            · skip
              refine jv_iconst (pc' := 68) (n := 0) rfl rfl ?_
              refine jv_istore (pc' := 70) (k := 5) (x := (iI 0)) rfl rfl rfl (Or.inr rfl) ?_
              refine jv_aload_n (pc' := 71) (k := 0) (x := 103) rfl rfl rfl rfl ?_
              refine jv_iload_n (pc' := 72) (k := 1) (x := (iI ((nm : Nat) : Int))) rfl rfl rfl rfl ?_
              refine jv_call (pc' := 75) rfl (ml_steps_y (I := jm_u (jm_u I 103 19 (iI (((a : Nat) : Int) + 1))) 103 19 (iI ((a + 1 + nd c (a + 1) : Nat) : Int))) (M := M) (s := s) (nm := ((nm : Nat) : Int)) hX hM hV o1) (fun vq12 gq12 q12 => ?_)
              obtain ⟨Iq12, Mq12, rfl, rfl, rq12, tq12, Dq12, uq12⟩ := q12
              have Xq12 := MX_fr (I := jm_u (jm_u I 103 19 (iI (((a : Nat) : Int) + 1))) 103 19 (iI ((a + 1 + nd c (a + 1) : Nat) : Int))) hX (fr_w rq12 wM_1)
              have Vq12 := DV_S hV o1
              have epq12 : dS s 0 0 = ((pl : Nat) : Int) := hpl
              show jx L xs _ 142 75 _ [.int (iI 1)] _ _
              refine jv_if_ne (t := 79) (pc' := 78) (a := 1) rfl rfl rfl (by omega) (fun hz_13 => ?_) (fun hz_13 => ?_)
              · skip
                refine jv_aload_n (pc' := 80) (k := 0) (x := 103) rfl rfl rfl rfl ?_
                refine jv_call (pc' := 83) rfl (ml_leftBits (I := Iq12) (M := Mq12) (s := (dS s)) Xq12 Dq12 Vq12.1) (fun vq14 gq14 q14 => ?_)
                obtain ⟨rfl, rfl⟩ := q14
                show jx L xs _ 142 83 _ [.int (iI (8 * (sz : Int) - (dS s) 0 0))] _ _
                refine jv_iload_n (pc' := 84) (k := 2) (x := (iI ((w : Nat) : Int))) rfl rfl rfl rfl ?_
                refine jv_ic_ge (t := 101) (pc' := 87) (a := (8 * (sz : Int) - (dS s) 0 0)) (b := ((w : Nat) : Int)) rfl rfl rfl (by omega) (fun hz_15 => ?_) (fun hz_15 => ?_)
                · skip
                  exfalso; omega
                · skip
                  refine jv_aload_n (pc' := 88) (k := 0) (x := 103) rfl rfl rfl rfl ?_
                  refine jv_iload_n (pc' := 89) (k := 1) (x := (iI ((nm : Nat) : Int))) rfl rfl rfl rfl ?_
                  refine jv_iconst (pc' := 90) (n := 0) rfl rfl ?_
                  refine jv_long (pc' := 91) (y := lI 0) rfl (by decide) ?_
                  refine jv_iconst (pc' := 92) (n := 1) rfl rfl ?_
                  obtain ⟨nq16, hnq16, hmq16⟩ := DV_n Vq12.1 hlim
                  refine jv_call (pc' := 95) rfl (ml_enter (I := Iq12) (M := Mq12) (s := (dS s)) Xq12 Dq12 Vq12.1 hnq16 hmq16) (fun vq16 gq16 q16 => ?_)
                  obtain ⟨Iq16, Mq16, rfl, rfl, Dq16, uq16, wq16⟩ := q16
                  have rq16 := fr_w uq16 wM1_E
                  have tq16 := fr_w wq16 wN1_E
                  have Xq16 := MX_fr (I := Iq12) Xq12 (fr_w rq16 wM_1)
                  show jx L xs _ 142 95 _ [] _ _
                  refine jv_aload_n (pc' := 96) (k := 0) (x := 103) rfl rfl rfl rfl ?_
                  refine jv_iconst (pc' := 97) (n := 1) rfl rfl ?_
                  refine jv_putZ (pc' := 100) (c := 12) (k := 33) rfl rfl rfl rfl (fun _ _ _ hz => if_pos hz) rfl rfl (by first | exact Or.inl rfl | exact Or.inr rfl) ?_
                  refine jv_retV rfl rfl ⟨_, _, rfl, ?_⟩
                  first
                  | (exfalso; omega)
                  | exact ⟨_, _, rfl, rfl, (fr_u (by simp [wM1]) (fr_t (fr_t (fr_u (by simp [wM1]) (fr_u (by simp [wM1]) (fr_r _))) rq12) rq16)), (fr_t (fr_t (fr_r _) tq12) tq16), Dq16, ((uq16 103 19 (by simp)).trans ((uq12 103 19 (by simp)).trans rfl)), rfl⟩
              · skip
                exact absurd hz_13 (by decide)
            · skip
              exact absurd hz_11 (by decide)
        · skip
          exact absurd hz_8 (by decide)
  · obtain ⟨o1, rfl⟩ := SP_t hSP
    rw [show (dS s 0 0).toNat = pl from congrArg Int.toNat hpl] at hv hmk
    have hvb := fv_b B pl (w := w) (sw := Y 5 nm) hw.2 k5
    rw [← hv] at hvb
    rcases x6 with ⟨y1, rfl, y2, y3⟩ | ⟨y1, rfl, y2⟩
    · rcases x7 with ⟨u1, u2, u3, u4, rfl⟩ | ⟨u1, u3, rfl⟩ | ⟨u1, u2, u3, rfl⟩
      · skip
        have u5 : Y 2 f = nv c (a + 1 + nd c (a + 1) + 2) := u4
        refine jv_aload_n (pc' := 1) (k := 0) (x := 103) rfl rfl rfl rfl ?_
        have hm1 := MT_c hX.1 (a)
        refine jv_call (pc' := 4) rfl (ml_here (I := I) (a := a) hX.1 hat (by omega)) (fun vq2 gq2 q2 => ?_)
        obtain ⟨rfl, rfl⟩ := q2
        show jx L xs _ 142 4 _ [.int (iI (c (a)))] _ _
        refine jv_bipush (pc' := 6) (n := 97) rfl rfl rfl ?_
        refine jv_isub (pc' := 7) (a := (c (a))) (b := 97) rfl rfl ?_
        rw [show (c (a)) - 97 = ((nm : Nat) : Int) by omega]
        refine jv_istore_n (pc' := 8) (k := 1) (x := (iI ((nm : Nat) : Int))) rfl rfl rfl rfl (Or.inr rfl) ?_
        refine jv_aload_n (pc' := 9) (k := 0) (x := 103) rfl rfl rfl rfl ?_
        refine jx_step (pc' := 10) rfl ?_
        refine jv_getI (pc' := 13) (c := 12) (k := 19) (v := (iI ((a : Nat) : Int))) rfl rfl rfl (fun _ _ => rfl) rfl rfl hat ?_
        refine jv_iconst (pc' := 14) (n := 1) rfl rfl ?_
        refine jv_iadd (pc' := 15) (a := ((a : Nat) : Int)) (b := 1) rfl rfl ?_
        refine jv_putI (pc' := 18) (c := 12) (k := 19) rfl rfl rfl rfl (fun _ _ _  => rfl) rfl rfl ?_
        refine jv_aload_n (pc' := 19) (k := 0) (x := 103) rfl rfl rfl rfl ?_
        have hm3 := nv_b c (a + 1)
        have hm4 := nd_le c (a + 1)
        refine jv_call (pc' := 22) rfl (ml_number_y (I := jm_u I 103 19 (iI (((a : Nat) : Int) + 1))) (a := a + 1) hX.1 rfl (by omega) (by omega)) (fun vq5 gq5 q5 => ?_)
        obtain ⟨rfl, rfl⟩ := q5
        show jx L xs _ 142 22 _ [.int (iI (nv c (a + 1)))] _ _
        rw [show nv c (a + 1) = ((w : Nat) : Int) by omega]
        refine jv_istore_n (pc' := 23) (k := 2) (x := (iI ((w : Nat) : Int))) rfl rfl rfl rfl (Or.inr rfl) ?_
        refine jv_aload_n (pc' := 24) (k := 0) (x := 103) rfl rfl rfl rfl ?_
        refine jv_bipush (pc' := 26) (n := 60) rfl rfl rfl ?_
        refine jv_call (pc' := 29) rfl (ml_takes_y (I := jm_u (jm_u I 103 19 (iI (((a : Nat) : Int) + 1))) 103 19 (iI ((a + 1 + nd c (a + 1) : Nat) : Int))) (x := 60) (a := a + 1 + nd c (a + 1)) (by omega) hX.1 rfl (by omega) (by omega)) (fun vq6 gq6 q6 => ?_)
        obtain ⟨rfl, rfl⟩ := q6
        show jx L xs _ 142 29 _ [.int (iI 1)] _ _
        refine jv_istore_n (pc' := 30) (k := 3) (x := (iI 1)) rfl rfl rfl rfl (Or.inr rfl) ?_
        refine jv_aload_n (pc' := 31) (k := 0) (x := 103) rfl rfl rfl rfl ?_
        refine jv_bipush (pc' := 33) (n := 61) rfl rfl rfl ?_
        refine jv_call (pc' := 36) rfl (ml_takes_y (I := jm_u (jm_u (jm_u I 103 19 (iI (((a : Nat) : Int) + 1))) 103 19 (iI ((a + 1 + nd c (a + 1) : Nat) : Int))) 103 19 (iI ((a + 1 + nd c (a + 1) + 1 : Nat) : Int))) (x := 61) (a := a + 1 + nd c (a + 1) + 1) (by omega) hX.1 rfl (by omega) (by omega)) (fun vq7 gq7 q7 => ?_)
        obtain ⟨rfl, rfl⟩ := q7
        show jx L xs _ 142 36 _ [.int (iI 1)] _ _
        refine jv_if_eq (t := 46) (pc' := 39) (a := 1) rfl rfl rfl (by omega) (fun hz_8 => ?_) (fun hz_8 => ?_)
        · skip
          exact absurd hz_8 (by decide)
        · skip
          refine jv_aload_n (pc' := 40) (k := 0) (x := 103) rfl rfl rfl rfl ?_
          have hm9 := nv_b c (a + 1 + nd c (a + 1) + 2)
          have hm10 := nd_le c (a + 1 + nd c (a + 1) + 2)
          refine jv_call (pc' := 43) rfl (ml_number_y (I := jm_u (jm_u (jm_u (jm_u I 103 19 (iI (((a : Nat) : Int) + 1))) 103 19 (iI ((a + 1 + nd c (a + 1) : Nat) : Int))) 103 19 (iI ((a + 1 + nd c (a + 1) + 1 : Nat) : Int))) 103 19 (iI ((a + 1 + nd c (a + 1) + 2 : Nat) : Int))) (a := a + 1 + nd c (a + 1) + 2) hX.1 rfl (by omega) (by omega)) (fun vq11 gq11 q11 => ?_)
          obtain ⟨rfl, rfl⟩ := q11
          show jx L xs _ 142 43 _ [.int (iI (nv c (a + 1 + nd c (a + 1) + 2)))] _ _
          refine jx_step (pc' := 47) rfl ?_
          refine jv_istore (pc' := 49) (k := 4) (x := (iI (nv c (a + 1 + nd c (a + 1) + 2)))) rfl rfl rfl (Or.inr rfl) ?_
          refine jv_iload (pc' := 51) (k := 4) (x := (iI (nv c (a + 1 + nd c (a + 1) + 2)))) rfl rfl rfl ?_
          refine jv_if_ge (t := 67) (pc' := 54) (a := (nv c (a + 1 + nd c (a + 1) + 2))) rfl rfl rfl (by omega) (fun hz_12 => ?_) (fun hz_12 => ?_)
          · skip
            refine jv_iconst (pc' := 68) (n := 0) rfl rfl ?_
            refine jv_istore (pc' := 70) (k := 5) (x := (iI 0)) rfl rfl rfl (Or.inr rfl) ?_
            refine jv_aload_n (pc' := 71) (k := 0) (x := 103) rfl rfl rfl rfl ?_
            refine jv_iload_n (pc' := 72) (k := 1) (x := (iI ((nm : Nat) : Int))) rfl rfl rfl rfl ?_
            refine jv_call (pc' := 75) rfl (ml_steps_y (I := jm_u (jm_u (jm_u (jm_u (jm_u I 103 19 (iI (((a : Nat) : Int) + 1))) 103 19 (iI ((a + 1 + nd c (a + 1) : Nat) : Int))) 103 19 (iI ((a + 1 + nd c (a + 1) + 1 : Nat) : Int))) 103 19 (iI ((a + 1 + nd c (a + 1) + 2 : Nat) : Int))) 103 19 (iI ((a + 1 + nd c (a + 1) + 2 + nd c (a + 1 + nd c (a + 1) + 2) : Nat) : Int))) (M := M) (s := s) (nm := ((nm : Nat) : Int)) hX hM hV o1) (fun vq13 gq13 q13 => ?_)
            obtain ⟨Iq13, Mq13, rfl, rfl, rq13, tq13, Dq13, uq13⟩ := q13
            have Xq13 := MX_fr (I := jm_u (jm_u (jm_u (jm_u (jm_u I 103 19 (iI (((a : Nat) : Int) + 1))) 103 19 (iI ((a + 1 + nd c (a + 1) : Nat) : Int))) 103 19 (iI ((a + 1 + nd c (a + 1) + 1 : Nat) : Int))) 103 19 (iI ((a + 1 + nd c (a + 1) + 2 : Nat) : Int))) 103 19 (iI ((a + 1 + nd c (a + 1) + 2 + nd c (a + 1 + nd c (a + 1) + 2) : Nat) : Int))) hX (fr_w rq13 wM_1)
            have Vq13 := DV_S hV o1
            have epq13 : dS s 0 0 = ((pl : Nat) : Int) := hpl
            show jx L xs _ 142 75 _ [.int (iI 1)] _ _
            refine jv_if_ne (t := 79) (pc' := 78) (a := 1) rfl rfl rfl (by omega) (fun hz_14 => ?_) (fun hz_14 => ?_)
            · skip
              refine jv_aload_n (pc' := 80) (k := 0) (x := 103) rfl rfl rfl rfl ?_
              refine jv_call (pc' := 83) rfl (ml_leftBits (I := Iq13) (M := Mq13) (s := (dS s)) Xq13 Dq13 Vq13.1) (fun vq15 gq15 q15 => ?_)
              obtain ⟨rfl, rfl⟩ := q15
              show jx L xs _ 142 83 _ [.int (iI (8 * (sz : Int) - (dS s) 0 0))] _ _
              refine jv_iload_n (pc' := 84) (k := 2) (x := (iI ((w : Nat) : Int))) rfl rfl rfl rfl ?_
              refine jv_ic_ge (t := 101) (pc' := 87) (a := (8 * (sz : Int) - (dS s) 0 0)) (b := ((w : Nat) : Int)) rfl rfl rfl (by omega) (fun hz_16 => ?_) (fun hz_16 => ?_)
              · skip
                refine jv_iload_n (pc' := 102) (k := 3) (x := (iI 1)) rfl rfl rfl rfl ?_
                refine jv_if_eq (t := 117) (pc' := 105) (a := 1) rfl rfl rfl (by omega) (fun hz_17 => ?_) (fun hz_17 => ?_)
                · skip
                  exact absurd hz_17 (by decide)
                · skip
                  refine jv_aload_n (pc' := 106) (k := 0) (x := 103) rfl rfl rfl rfl ?_
                  refine jv_aload_n (pc' := 107) (k := 0) (x := 103) rfl rfl rfl rfl ?_
                  refine jv_getI (pc' := 110) (c := 12) (k := 30) (v := (iI ((pl : Nat) : Int))) rfl rfl rfl (fun _ _ => rfl) rfl rfl (Dq13.1.trans (congrArg iI hpl)) ?_
                  refine jv_iload_n (pc' := 111) (k := 2) (x := (iI ((w : Nat) : Int))) rfl rfl rfl rfl ?_
                  have hw8 : 8 * (w / 8) = w := by omega
                  refine jv_call (pc' := 114) rfl (show jc L xs _ 140 [.ref 103, .int (iI ((pl : Nat) : Int)), .int (iI ((w : Nat) : Int))] (jx_G j Iq13 Mq13 p) (fun v g1 => v = some (.long (lI ((tv B pl w (w / 8) : Nat) : Int))) ∧ g1 = (jx_G j Iq13 Mq13 p)) from hw8 ▸ (by have := ml_turnedAt (L := L) (xs := xs) (d := d) (j := j) (I := Iq13) (M := Mq13) (p := p) (B := B) (a := pl) (m := w / 8) Xq13.2.1 Xq13.2.2.1 (by omega) (by omega); rw [Nat.mul_div_cancel_left _ (by decide : 0 < 8)]; exact this)) (fun vq18 gq18 q18 => ?_)
                  obtain ⟨rfl, rfl⟩ := q18
                  show jx L xs _ 142 114 _ [.long (lI ((tv B pl w (w / 8) : Nat) : Int))] _ _
                  refine jx_step (pc' := 126) rfl ?_
                  refine jv_lstore (pc' := 128) (k := 6) (x := (lI ((tv B pl w (w / 8) : Nat) : Int))) rfl rfl rfl (Or.inr rfl) ?_
                  have hvv : v = tv B pl w (w / 8) := hv.trans (fv_1 y2)
                  refine jv_iload (pc' := 130) (k := 5) (x := (iI 0)) rfl rfl rfl ?_
                  refine jv_if_eq (t := 151) (pc' := 133) (a := 0) rfl rfl rfl (by omega) (fun hz_19 => ?_) (fun hz_19 => ?_)
                  · skip
                    refine jv_iconst (pc' := 152) (n := 0) rfl rfl ?_
                    refine jv_istore (pc' := 154) (k := 8) (x := (iI 0)) rfl rfl rfl (Or.inr rfl) ?_
                    refine jv_iload (pc' := 156) (k := 4) (x := (iI (nv c (a + 1 + nd c (a + 1) + 2)))) rfl rfl rfl ?_
                    refine jv_if_lt (t := 172) (pc' := 159) (a := (nv c (a + 1 + nd c (a + 1) + 2))) rfl rfl rfl (by omega) (fun hz_20 => ?_) (fun hz_20 => ?_)
                    · skip
                      refine jv_iconst (pc' := 173) (n := 0) rfl rfl ?_
                      refine jv_istore (pc' := 175) (k := 9) (x := (iI 0)) rfl rfl rfl (Or.inr rfl) ?_
                      refine jv_aload_n (pc' := 176) (k := 0) (x := 103) rfl rfl rfl rfl ?_
                      refine jv_iload_n (pc' := 177) (k := 1) (x := (iI ((nm : Nat) : Int))) rfl rfl rfl rfl ?_
                      refine jv_iload_n (pc' := 178) (k := 2) (x := (iI ((w : Nat) : Int))) rfl rfl rfl rfl ?_
                      refine jv_lload (pc' := 180) (k := 6) (x := (lI ((tv B pl w (w / 8) : Nat) : Int))) rfl rfl rfl ?_
                      refine jv_iload (pc' := 182) (k := 9) (x := (iI 0)) rfl rfl rfl ?_
                      refine jv_if_eq (t := 189) (pc' := 185) (a := 0) rfl rfl rfl (by omega) (fun hz_21 => ?_) (fun hz_21 => ?_)
                      · skip
                        refine jv_iload (pc' := 191) (k := 8) (x := (iI 0)) rfl rfl rfl ?_
                        refine jv_if_eq (t := 198) (pc' := 194) (a := 0) rfl rfl rfl (by omega) (fun hz_22 => ?_) (fun hz_22 => ?_)
                        · skip
                          refine jv_iconst (pc' := 199) (n := 0) rfl rfl ?_
                          obtain ⟨nq23, hnq23, hmq23⟩ := DV_n Vq13.1 hlim
                          refine jv_call (pc' := 202) rfl (ml_enter (I := Iq13) (M := Mq13) (s := (dS s)) Xq13 Dq13 Vq13.1 hnq23 hmq23) (fun vq23 gq23 q23 => ?_)
                          obtain ⟨Iq23, Mq23, rfl, rfl, Dq23, uq23, wq23⟩ := q23
                          have rq23 := fr_w uq23 wM1_E
                          have tq23 := fr_w wq23 wN1_E
                          have Xq23 := MX_fr (I := Iq13) Xq13 (fr_w rq23 wM_1)
                          show jx L xs _ 142 202 _ [] _ _
                          refine jv_aload_n (pc' := 203) (k := 0) (x := 103) rfl rfl rfl rfl ?_
                          refine jv_iload (pc' := 205) (k := 9) (x := (iI 0)) rfl rfl rfl ?_
                          refine jv_putZ (pc' := 208) (c := 12) (k := 33) rfl rfl rfl rfl (fun _ _ _ hz => if_pos hz) rfl rfl (by first | exact Or.inl rfl | exact Or.inr rfl) ?_
                          refine jv_aload_n (pc' := 209) (k := 0) (x := 103) rfl rfl rfl rfl ?_
                          refine jv_aload_n (pc' := 210) (k := 0) (x := 103) rfl rfl rfl rfl ?_
                          refine jv_getI (pc' := 213) (c := 12) (k := 30) (v := (iI ((dE (dS s) l ((nm : Nat) : Int) ((w : Nat) : Int) ((tv B pl w (w / 8) : Nat) : Int) 0) 0 0))) rfl rfl rfl (fun _ _ => rfl) rfl rfl Dq23.1 ?_
                          refine jv_iload_n (pc' := 214) (k := 2) (x := (iI ((w : Nat) : Int))) rfl rfl rfl rfl ?_
                          refine jv_iadd (pc' := 215) (a := ((dE (dS s) l ((nm : Nat) : Int) ((w : Nat) : Int) ((tv B pl w (w / 8) : Nat) : Int) 0) 0 0)) (b := ((w : Nat) : Int)) rfl rfl ?_
                          refine jv_putI (pc' := 218) (c := 12) (k := 30) rfl rfl rfl rfl (fun _ _ _  => rfl) rfl rfl ?_
                          refine jv_aload_n (pc' := 219) (k := 0) (x := 103) rfl rfl rfl rfl ?_
                          refine jv_getR (pc' := 222) (c := 12) (k := 35) (v := 125) rfl rfl rfl (fun _ _ => rfl) rfl rfl (jR_103_35 _) ?_
                          refine jv_iload_n (pc' := 223) (k := 1) (x := (iI ((nm : Nat) : Int))) rfl rfl rfl rfl ?_
                          refine jv_lload (pc' := 225) (k := 6) (x := (lI ((tv B pl w (w / 8) : Nat) : Int))) rfl rfl rfl ?_
                          refine jv_lastore (pc' := 226) (n := 8) (e := ((nm : Nat) : Int)) (v := (lI ((tv B pl w (w / 8) : Nat) : Int))) rfl rfl rfl rfl rfl (by omega) ?_
                          refine jv_aload_n (pc' := 227) (k := 0) (x := 103) rfl rfl rfl rfl ?_
                          refine jv_getR (pc' := 230) (c := 12) (k := 36) (v := 126) rfl rfl rfl (fun _ _ => rfl) rfl rfl (jR_103_36 _) ?_
                          refine jv_iload_n (pc' := 231) (k := 1) (x := (iI ((nm : Nat) : Int))) rfl rfl rfl rfl ?_
                          refine jv_iconst (pc' := 232) (n := 1) rfl rfl ?_
                          refine jv_bastore (pc' := 233) (n := 8) (e := ((nm : Nat) : Int)) (v := (iI 1)) rfl rfl rfl rfl rfl (by omega) (by first | exact Or.inl rfl | exact Or.inr rfl) ?_
                          refine jv_retV rfl rfl ⟨_, _, rfl, ?_⟩
                          first
                          | (exfalso; omega)
                          | (have hv2 : v = tv B pl w (w / 8) := hv.trans (fv_1 y2)
                             rw [u3] at hmk
                             have em : mk = 0 := hmk.trans ((fm_1 rfl).trans (if_pos (by omega)))
                             subst em
                             subst hok
                             subst hv2
                             exact ⟨_, _, rfl, rfl, (fr_u (by simp [wM1]) (fr_u (by simp [wM1]) (fr_u (by simp [wM1]) (fr_t (fr_t (fr_u (by simp [wM1]) (fr_u (by simp [wM1]) (fr_u (by simp [wM1]) (fr_u (by simp [wM1]) (fr_u (by simp [wM1]) (fr_r _)))))) rq13) rq23)))), (fr_u (by simp [wN1]) (fr_t (fr_t (fr_r _) tq13) tq23)), DM_F Dq23 rfl rfl (by first | rfl | omega), ((uq23 103 19 (by simp)).trans ((uq13 103 19 (by simp)).trans rfl)), rfl⟩)
                        · skip
                          exact absurd hz_22 (by decide)
                      · skip
                        exact absurd hz_21 (by decide)
                    · skip
                      refine jv_lload (pc' := 161) (k := 6) (x := (lI ((tv B pl w (w / 8) : Nat) : Int))) rfl rfl rfl ?_
                      refine jv_iload (pc' := 163) (k := 4) (x := (iI (nv c (a + 1 + nd c (a + 1) + 2)))) rfl rfl rfl ?_
                      refine jv_i2l (pc' := 164) (a := (nv c (a + 1 + nd c (a + 1) + 2))) rfl rfl (by omega) ?_
                      refine jv_lc_eq (t := 172) (pc' := 168) (a := ((tv B pl w (w / 8) : Nat) : Int)) (b := (nv c (a + 1 + nd c (a + 1) + 2))) rfl rfl rfl rfl rfl (by omega) (fun hz_24 => ?_) (fun hz_24 => ?_)
                      · skip
                        refine jv_iconst (pc' := 173) (n := 0) rfl rfl ?_
                        refine jv_istore (pc' := 175) (k := 9) (x := (iI 0)) rfl rfl rfl (Or.inr rfl) ?_
                        refine jv_aload_n (pc' := 176) (k := 0) (x := 103) rfl rfl rfl rfl ?_
                        refine jv_iload_n (pc' := 177) (k := 1) (x := (iI ((nm : Nat) : Int))) rfl rfl rfl rfl ?_
                        refine jv_iload_n (pc' := 178) (k := 2) (x := (iI ((w : Nat) : Int))) rfl rfl rfl rfl ?_
                        refine jv_lload (pc' := 180) (k := 6) (x := (lI ((tv B pl w (w / 8) : Nat) : Int))) rfl rfl rfl ?_
                        refine jv_iload (pc' := 182) (k := 9) (x := (iI 0)) rfl rfl rfl ?_
                        refine jv_if_eq (t := 189) (pc' := 185) (a := 0) rfl rfl rfl (by omega) (fun hz_25 => ?_) (fun hz_25 => ?_)
                        · skip
                          refine jv_iload (pc' := 191) (k := 8) (x := (iI 0)) rfl rfl rfl ?_
                          refine jv_if_eq (t := 198) (pc' := 194) (a := 0) rfl rfl rfl (by omega) (fun hz_26 => ?_) (fun hz_26 => ?_)
                          · skip
                            refine jv_iconst (pc' := 199) (n := 0) rfl rfl ?_
                            obtain ⟨nq27, hnq27, hmq27⟩ := DV_n Vq13.1 hlim
                            refine jv_call (pc' := 202) rfl (ml_enter (I := Iq13) (M := Mq13) (s := (dS s)) Xq13 Dq13 Vq13.1 hnq27 hmq27) (fun vq27 gq27 q27 => ?_)
                            obtain ⟨Iq27, Mq27, rfl, rfl, Dq27, uq27, wq27⟩ := q27
                            have rq27 := fr_w uq27 wM1_E
                            have tq27 := fr_w wq27 wN1_E
                            have Xq27 := MX_fr (I := Iq13) Xq13 (fr_w rq27 wM_1)
                            show jx L xs _ 142 202 _ [] _ _
                            refine jv_aload_n (pc' := 203) (k := 0) (x := 103) rfl rfl rfl rfl ?_
                            refine jv_iload (pc' := 205) (k := 9) (x := (iI 0)) rfl rfl rfl ?_
                            refine jv_putZ (pc' := 208) (c := 12) (k := 33) rfl rfl rfl rfl (fun _ _ _ hz => if_pos hz) rfl rfl (by first | exact Or.inl rfl | exact Or.inr rfl) ?_
                            refine jv_aload_n (pc' := 209) (k := 0) (x := 103) rfl rfl rfl rfl ?_
                            refine jv_aload_n (pc' := 210) (k := 0) (x := 103) rfl rfl rfl rfl ?_
                            refine jv_getI (pc' := 213) (c := 12) (k := 30) (v := (iI ((dE (dS s) l ((nm : Nat) : Int) ((w : Nat) : Int) ((tv B pl w (w / 8) : Nat) : Int) 0) 0 0))) rfl rfl rfl (fun _ _ => rfl) rfl rfl Dq27.1 ?_
                            refine jv_iload_n (pc' := 214) (k := 2) (x := (iI ((w : Nat) : Int))) rfl rfl rfl rfl ?_
                            refine jv_iadd (pc' := 215) (a := ((dE (dS s) l ((nm : Nat) : Int) ((w : Nat) : Int) ((tv B pl w (w / 8) : Nat) : Int) 0) 0 0)) (b := ((w : Nat) : Int)) rfl rfl ?_
                            refine jv_putI (pc' := 218) (c := 12) (k := 30) rfl rfl rfl rfl (fun _ _ _  => rfl) rfl rfl ?_
                            refine jv_aload_n (pc' := 219) (k := 0) (x := 103) rfl rfl rfl rfl ?_
                            refine jv_getR (pc' := 222) (c := 12) (k := 35) (v := 125) rfl rfl rfl (fun _ _ => rfl) rfl rfl (jR_103_35 _) ?_
                            refine jv_iload_n (pc' := 223) (k := 1) (x := (iI ((nm : Nat) : Int))) rfl rfl rfl rfl ?_
                            refine jv_lload (pc' := 225) (k := 6) (x := (lI ((tv B pl w (w / 8) : Nat) : Int))) rfl rfl rfl ?_
                            refine jv_lastore (pc' := 226) (n := 8) (e := ((nm : Nat) : Int)) (v := (lI ((tv B pl w (w / 8) : Nat) : Int))) rfl rfl rfl rfl rfl (by omega) ?_
                            refine jv_aload_n (pc' := 227) (k := 0) (x := 103) rfl rfl rfl rfl ?_
                            refine jv_getR (pc' := 230) (c := 12) (k := 36) (v := 126) rfl rfl rfl (fun _ _ => rfl) rfl rfl (jR_103_36 _) ?_
                            refine jv_iload_n (pc' := 231) (k := 1) (x := (iI ((nm : Nat) : Int))) rfl rfl rfl rfl ?_
                            refine jv_iconst (pc' := 232) (n := 1) rfl rfl ?_
                            refine jv_bastore (pc' := 233) (n := 8) (e := ((nm : Nat) : Int)) (v := (iI 1)) rfl rfl rfl rfl rfl (by omega) (by first | exact Or.inl rfl | exact Or.inr rfl) ?_
                            refine jv_retV rfl rfl ⟨_, _, rfl, ?_⟩
                            first
                            | (exfalso; omega)
                            | (have hv2 : v = tv B pl w (w / 8) := hv.trans (fv_1 y2)
                               rw [u3] at hmk
                               have em : mk = 0 := hmk.trans ((fm_1 rfl).trans (if_pos (by omega)))
                               subst em
                               subst hok
                               subst hv2
                               exact ⟨_, _, rfl, rfl, (fr_u (by simp [wM1]) (fr_u (by simp [wM1]) (fr_u (by simp [wM1]) (fr_t (fr_t (fr_u (by simp [wM1]) (fr_u (by simp [wM1]) (fr_u (by simp [wM1]) (fr_u (by simp [wM1]) (fr_u (by simp [wM1]) (fr_r _)))))) rq13) rq27)))), (fr_u (by simp [wN1]) (fr_t (fr_t (fr_r _) tq13) tq27)), DM_F Dq27 rfl rfl (by first | rfl | omega), ((uq27 103 19 (by simp)).trans ((uq13 103 19 (by simp)).trans rfl)), rfl⟩)
                          · skip
                            exact absurd hz_26 (by decide)
                        · skip
                          exact absurd hz_25 (by decide)
                      · skip
                        refine jv_iconst (pc' := 169) (n := 1) rfl rfl ?_
                        refine jx_step (pc' := 173) rfl ?_
                        refine jv_istore (pc' := 175) (k := 9) (x := (iI 1)) rfl rfl rfl (Or.inr rfl) ?_
                        refine jv_aload_n (pc' := 176) (k := 0) (x := 103) rfl rfl rfl rfl ?_
                        refine jv_iload_n (pc' := 177) (k := 1) (x := (iI ((nm : Nat) : Int))) rfl rfl rfl rfl ?_
                        refine jv_iload_n (pc' := 178) (k := 2) (x := (iI ((w : Nat) : Int))) rfl rfl rfl rfl ?_
                        refine jv_lload (pc' := 180) (k := 6) (x := (lI ((tv B pl w (w / 8) : Nat) : Int))) rfl rfl rfl ?_
                        refine jv_iload (pc' := 182) (k := 9) (x := (iI 1)) rfl rfl rfl ?_
                        refine jv_if_eq (t := 189) (pc' := 185) (a := 1) rfl rfl rfl (by omega) (fun hz_28 => ?_) (fun hz_28 => ?_)
                        · skip
                          exact absurd hz_28 (by decide)
                        · skip
                          refine jv_iconst (pc' := 186) (n := 2) rfl rfl ?_
                          refine jx_step (pc' := 199) rfl ?_
                          obtain ⟨nq29, hnq29, hmq29⟩ := DV_n Vq13.1 hlim
                          refine jv_call (pc' := 202) rfl (ml_enter (I := Iq13) (M := Mq13) (s := (dS s)) Xq13 Dq13 Vq13.1 hnq29 hmq29) (fun vq29 gq29 q29 => ?_)
                          obtain ⟨Iq29, Mq29, rfl, rfl, Dq29, uq29, wq29⟩ := q29
                          have rq29 := fr_w uq29 wM1_E
                          have tq29 := fr_w wq29 wN1_E
                          have Xq29 := MX_fr (I := Iq13) Xq13 (fr_w rq29 wM_1)
                          show jx L xs _ 142 202 _ [] _ _
                          refine jv_aload_n (pc' := 203) (k := 0) (x := 103) rfl rfl rfl rfl ?_
                          refine jv_iload (pc' := 205) (k := 9) (x := (iI 1)) rfl rfl rfl ?_
                          refine jv_putZ (pc' := 208) (c := 12) (k := 33) rfl rfl rfl rfl (fun _ _ _ hz => if_pos hz) rfl rfl (by first | exact Or.inl rfl | exact Or.inr rfl) ?_
                          refine jv_aload_n (pc' := 209) (k := 0) (x := 103) rfl rfl rfl rfl ?_
                          refine jv_aload_n (pc' := 210) (k := 0) (x := 103) rfl rfl rfl rfl ?_
                          refine jv_getI (pc' := 213) (c := 12) (k := 30) (v := (iI ((dE (dS s) l ((nm : Nat) : Int) ((w : Nat) : Int) ((tv B pl w (w / 8) : Nat) : Int) 2) 0 0))) rfl rfl rfl (fun _ _ => rfl) rfl rfl Dq29.1 ?_
                          refine jv_iload_n (pc' := 214) (k := 2) (x := (iI ((w : Nat) : Int))) rfl rfl rfl rfl ?_
                          refine jv_iadd (pc' := 215) (a := ((dE (dS s) l ((nm : Nat) : Int) ((w : Nat) : Int) ((tv B pl w (w / 8) : Nat) : Int) 2) 0 0)) (b := ((w : Nat) : Int)) rfl rfl ?_
                          refine jv_putI (pc' := 218) (c := 12) (k := 30) rfl rfl rfl rfl (fun _ _ _  => rfl) rfl rfl ?_
                          refine jv_aload_n (pc' := 219) (k := 0) (x := 103) rfl rfl rfl rfl ?_
                          refine jv_getR (pc' := 222) (c := 12) (k := 35) (v := 125) rfl rfl rfl (fun _ _ => rfl) rfl rfl (jR_103_35 _) ?_
                          refine jv_iload_n (pc' := 223) (k := 1) (x := (iI ((nm : Nat) : Int))) rfl rfl rfl rfl ?_
                          refine jv_lload (pc' := 225) (k := 6) (x := (lI ((tv B pl w (w / 8) : Nat) : Int))) rfl rfl rfl ?_
                          refine jv_lastore (pc' := 226) (n := 8) (e := ((nm : Nat) : Int)) (v := (lI ((tv B pl w (w / 8) : Nat) : Int))) rfl rfl rfl rfl rfl (by omega) ?_
                          refine jv_aload_n (pc' := 227) (k := 0) (x := 103) rfl rfl rfl rfl ?_
                          refine jv_getR (pc' := 230) (c := 12) (k := 36) (v := 126) rfl rfl rfl (fun _ _ => rfl) rfl rfl (jR_103_36 _) ?_
                          refine jv_iload_n (pc' := 231) (k := 1) (x := (iI ((nm : Nat) : Int))) rfl rfl rfl rfl ?_
                          refine jv_iconst (pc' := 232) (n := 1) rfl rfl ?_
                          refine jv_bastore (pc' := 233) (n := 8) (e := ((nm : Nat) : Int)) (v := (iI 1)) rfl rfl rfl rfl rfl (by omega) (by first | exact Or.inl rfl | exact Or.inr rfl) ?_
                          refine jv_retV rfl rfl ⟨_, _, rfl, ?_⟩
                          first
                          | (exfalso; omega)
                          | (have hv2 : v = tv B pl w (w / 8) := hv.trans (fv_1 y2)
                             rw [u3] at hmk
                             have em : mk = 2 := hmk.trans ((fm_1 rfl).trans (if_neg (by omega)))
                             subst em
                             subst hok
                             subst hv2
                             exact ⟨_, _, rfl, rfl, (fr_u (by simp [wM1]) (fr_u (by simp [wM1]) (fr_u (by simp [wM1]) (fr_t (fr_t (fr_u (by simp [wM1]) (fr_u (by simp [wM1]) (fr_u (by simp [wM1]) (fr_u (by simp [wM1]) (fr_u (by simp [wM1]) (fr_r _)))))) rq13) rq29)))), (fr_u (by simp [wN1]) (fr_t (fr_t (fr_r _) tq13) tq29)), DM_F Dq29 rfl rfl (by first | rfl | omega), ((uq29 103 19 (by simp)).trans ((uq13 103 19 (by simp)).trans rfl)), rfl⟩)
                  · skip
                    exact absurd hz_19 (by decide)
              · skip
                exfalso; omega
            · skip
              exact absurd hz_14 (by decide)
          · skip
            refine jv_aload_n (pc' := 55) (k := 0) (x := 103) rfl rfl rfl rfl ?_
            refine jv_bipush (pc' := 57) (n := 33) rfl rfl rfl ?_
            refine jv_call (pc' := 60) rfl (ml_takes_n (I := jm_u (jm_u (jm_u (jm_u (jm_u I 103 19 (iI (((a : Nat) : Int) + 1))) 103 19 (iI ((a + 1 + nd c (a + 1) : Nat) : Int))) 103 19 (iI ((a + 1 + nd c (a + 1) + 1 : Nat) : Int))) 103 19 (iI ((a + 1 + nd c (a + 1) + 2 : Nat) : Int))) 103 19 (iI ((a + 1 + nd c (a + 1) + 2 + nd c (a + 1 + nd c (a + 1) + 2) : Nat) : Int))) (x := 33) (a := a + 1 + nd c (a + 1) + 2 + nd c (a + 1 + nd c (a + 1) + 2)) (by omega) hX.1 rfl (by omega) (by omega)) (fun vq30 gq30 q30 => ?_)
            obtain ⟨rfl, rfl⟩ := q30
            show jx L xs _ 142 60 _ [.int (iI 0)] _ _
            refine jv_if_eq (t := 67) (pc' := 63) (a := 0) rfl rfl rfl (by omega) (fun hz_31 => ?_) (fun hz_31 => ?_)
            · skip
              refine jv_iconst (pc' := 68) (n := 0) rfl rfl ?_
              refine jv_istore (pc' := 70) (k := 5) (x := (iI 0)) rfl rfl rfl (Or.inr rfl) ?_
              refine jv_aload_n (pc' := 71) (k := 0) (x := 103) rfl rfl rfl rfl ?_
              refine jv_iload_n (pc' := 72) (k := 1) (x := (iI ((nm : Nat) : Int))) rfl rfl rfl rfl ?_
              refine jv_call (pc' := 75) rfl (ml_steps_y (I := jm_u (jm_u (jm_u (jm_u (jm_u I 103 19 (iI (((a : Nat) : Int) + 1))) 103 19 (iI ((a + 1 + nd c (a + 1) : Nat) : Int))) 103 19 (iI ((a + 1 + nd c (a + 1) + 1 : Nat) : Int))) 103 19 (iI ((a + 1 + nd c (a + 1) + 2 : Nat) : Int))) 103 19 (iI ((a + 1 + nd c (a + 1) + 2 + nd c (a + 1 + nd c (a + 1) + 2) : Nat) : Int))) (M := M) (s := s) (nm := ((nm : Nat) : Int)) hX hM hV o1) (fun vq32 gq32 q32 => ?_)
              obtain ⟨Iq32, Mq32, rfl, rfl, rq32, tq32, Dq32, uq32⟩ := q32
              have Xq32 := MX_fr (I := jm_u (jm_u (jm_u (jm_u (jm_u I 103 19 (iI (((a : Nat) : Int) + 1))) 103 19 (iI ((a + 1 + nd c (a + 1) : Nat) : Int))) 103 19 (iI ((a + 1 + nd c (a + 1) + 1 : Nat) : Int))) 103 19 (iI ((a + 1 + nd c (a + 1) + 2 : Nat) : Int))) 103 19 (iI ((a + 1 + nd c (a + 1) + 2 + nd c (a + 1 + nd c (a + 1) + 2) : Nat) : Int))) hX (fr_w rq32 wM_1)
              have Vq32 := DV_S hV o1
              have epq32 : dS s 0 0 = ((pl : Nat) : Int) := hpl
              show jx L xs _ 142 75 _ [.int (iI 1)] _ _
              refine jv_if_ne (t := 79) (pc' := 78) (a := 1) rfl rfl rfl (by omega) (fun hz_33 => ?_) (fun hz_33 => ?_)
              · skip
                refine jv_aload_n (pc' := 80) (k := 0) (x := 103) rfl rfl rfl rfl ?_
                refine jv_call (pc' := 83) rfl (ml_leftBits (I := Iq32) (M := Mq32) (s := (dS s)) Xq32 Dq32 Vq32.1) (fun vq34 gq34 q34 => ?_)
                obtain ⟨rfl, rfl⟩ := q34
                show jx L xs _ 142 83 _ [.int (iI (8 * (sz : Int) - (dS s) 0 0))] _ _
                refine jv_iload_n (pc' := 84) (k := 2) (x := (iI ((w : Nat) : Int))) rfl rfl rfl rfl ?_
                refine jv_ic_ge (t := 101) (pc' := 87) (a := (8 * (sz : Int) - (dS s) 0 0)) (b := ((w : Nat) : Int)) rfl rfl rfl (by omega) (fun hz_35 => ?_) (fun hz_35 => ?_)
                · skip
                  refine jv_iload_n (pc' := 102) (k := 3) (x := (iI 1)) rfl rfl rfl rfl ?_
                  refine jv_if_eq (t := 117) (pc' := 105) (a := 1) rfl rfl rfl (by omega) (fun hz_36 => ?_) (fun hz_36 => ?_)
                  · skip
                    exact absurd hz_36 (by decide)
                  · skip
                    refine jv_aload_n (pc' := 106) (k := 0) (x := 103) rfl rfl rfl rfl ?_
                    refine jv_aload_n (pc' := 107) (k := 0) (x := 103) rfl rfl rfl rfl ?_
                    refine jv_getI (pc' := 110) (c := 12) (k := 30) (v := (iI ((pl : Nat) : Int))) rfl rfl rfl (fun _ _ => rfl) rfl rfl (Dq32.1.trans (congrArg iI hpl)) ?_
                    refine jv_iload_n (pc' := 111) (k := 2) (x := (iI ((w : Nat) : Int))) rfl rfl rfl rfl ?_
                    have hw8 : 8 * (w / 8) = w := by omega
                    refine jv_call (pc' := 114) rfl (show jc L xs _ 140 [.ref 103, .int (iI ((pl : Nat) : Int)), .int (iI ((w : Nat) : Int))] (jx_G j Iq32 Mq32 p) (fun v g1 => v = some (.long (lI ((tv B pl w (w / 8) : Nat) : Int))) ∧ g1 = (jx_G j Iq32 Mq32 p)) from hw8 ▸ (by have := ml_turnedAt (L := L) (xs := xs) (d := d) (j := j) (I := Iq32) (M := Mq32) (p := p) (B := B) (a := pl) (m := w / 8) Xq32.2.1 Xq32.2.2.1 (by omega) (by omega); rw [Nat.mul_div_cancel_left _ (by decide : 0 < 8)]; exact this)) (fun vq37 gq37 q37 => ?_)
                    obtain ⟨rfl, rfl⟩ := q37
                    show jx L xs _ 142 114 _ [.long (lI ((tv B pl w (w / 8) : Nat) : Int))] _ _
                    refine jx_step (pc' := 126) rfl ?_
                    refine jv_lstore (pc' := 128) (k := 6) (x := (lI ((tv B pl w (w / 8) : Nat) : Int))) rfl rfl rfl (Or.inr rfl) ?_
                    have hvv : v = tv B pl w (w / 8) := hv.trans (fv_1 y2)
                    refine jv_iload (pc' := 130) (k := 5) (x := (iI 0)) rfl rfl rfl ?_
                    refine jv_if_eq (t := 151) (pc' := 133) (a := 0) rfl rfl rfl (by omega) (fun hz_38 => ?_) (fun hz_38 => ?_)
                    · skip
                      refine jv_iconst (pc' := 152) (n := 0) rfl rfl ?_
                      refine jv_istore (pc' := 154) (k := 8) (x := (iI 0)) rfl rfl rfl (Or.inr rfl) ?_
                      refine jv_iload (pc' := 156) (k := 4) (x := (iI (nv c (a + 1 + nd c (a + 1) + 2)))) rfl rfl rfl ?_
                      refine jv_if_lt (t := 172) (pc' := 159) (a := (nv c (a + 1 + nd c (a + 1) + 2))) rfl rfl rfl (by omega) (fun hz_39 => ?_) (fun hz_39 => ?_)
                      · skip
                        refine jv_iconst (pc' := 173) (n := 0) rfl rfl ?_
                        refine jv_istore (pc' := 175) (k := 9) (x := (iI 0)) rfl rfl rfl (Or.inr rfl) ?_
                        refine jv_aload_n (pc' := 176) (k := 0) (x := 103) rfl rfl rfl rfl ?_
                        refine jv_iload_n (pc' := 177) (k := 1) (x := (iI ((nm : Nat) : Int))) rfl rfl rfl rfl ?_
                        refine jv_iload_n (pc' := 178) (k := 2) (x := (iI ((w : Nat) : Int))) rfl rfl rfl rfl ?_
                        refine jv_lload (pc' := 180) (k := 6) (x := (lI ((tv B pl w (w / 8) : Nat) : Int))) rfl rfl rfl ?_
                        refine jv_iload (pc' := 182) (k := 9) (x := (iI 0)) rfl rfl rfl ?_
                        refine jv_if_eq (t := 189) (pc' := 185) (a := 0) rfl rfl rfl (by omega) (fun hz_40 => ?_) (fun hz_40 => ?_)
                        · skip
                          refine jv_iload (pc' := 191) (k := 8) (x := (iI 0)) rfl rfl rfl ?_
                          refine jv_if_eq (t := 198) (pc' := 194) (a := 0) rfl rfl rfl (by omega) (fun hz_41 => ?_) (fun hz_41 => ?_)
                          · skip
                            refine jv_iconst (pc' := 199) (n := 0) rfl rfl ?_
                            obtain ⟨nq42, hnq42, hmq42⟩ := DV_n Vq32.1 hlim
                            refine jv_call (pc' := 202) rfl (ml_enter (I := Iq32) (M := Mq32) (s := (dS s)) Xq32 Dq32 Vq32.1 hnq42 hmq42) (fun vq42 gq42 q42 => ?_)
                            obtain ⟨Iq42, Mq42, rfl, rfl, Dq42, uq42, wq42⟩ := q42
                            have rq42 := fr_w uq42 wM1_E
                            have tq42 := fr_w wq42 wN1_E
                            have Xq42 := MX_fr (I := Iq32) Xq32 (fr_w rq42 wM_1)
                            show jx L xs _ 142 202 _ [] _ _
                            refine jv_aload_n (pc' := 203) (k := 0) (x := 103) rfl rfl rfl rfl ?_
                            refine jv_iload (pc' := 205) (k := 9) (x := (iI 0)) rfl rfl rfl ?_
                            refine jv_putZ (pc' := 208) (c := 12) (k := 33) rfl rfl rfl rfl (fun _ _ _ hz => if_pos hz) rfl rfl (by first | exact Or.inl rfl | exact Or.inr rfl) ?_
                            refine jv_aload_n (pc' := 209) (k := 0) (x := 103) rfl rfl rfl rfl ?_
                            refine jv_aload_n (pc' := 210) (k := 0) (x := 103) rfl rfl rfl rfl ?_
                            refine jv_getI (pc' := 213) (c := 12) (k := 30) (v := (iI ((dE (dS s) l ((nm : Nat) : Int) ((w : Nat) : Int) ((tv B pl w (w / 8) : Nat) : Int) 0) 0 0))) rfl rfl rfl (fun _ _ => rfl) rfl rfl Dq42.1 ?_
                            refine jv_iload_n (pc' := 214) (k := 2) (x := (iI ((w : Nat) : Int))) rfl rfl rfl rfl ?_
                            refine jv_iadd (pc' := 215) (a := ((dE (dS s) l ((nm : Nat) : Int) ((w : Nat) : Int) ((tv B pl w (w / 8) : Nat) : Int) 0) 0 0)) (b := ((w : Nat) : Int)) rfl rfl ?_
                            refine jv_putI (pc' := 218) (c := 12) (k := 30) rfl rfl rfl rfl (fun _ _ _  => rfl) rfl rfl ?_
                            refine jv_aload_n (pc' := 219) (k := 0) (x := 103) rfl rfl rfl rfl ?_
                            refine jv_getR (pc' := 222) (c := 12) (k := 35) (v := 125) rfl rfl rfl (fun _ _ => rfl) rfl rfl (jR_103_35 _) ?_
                            refine jv_iload_n (pc' := 223) (k := 1) (x := (iI ((nm : Nat) : Int))) rfl rfl rfl rfl ?_
                            refine jv_lload (pc' := 225) (k := 6) (x := (lI ((tv B pl w (w / 8) : Nat) : Int))) rfl rfl rfl ?_
                            refine jv_lastore (pc' := 226) (n := 8) (e := ((nm : Nat) : Int)) (v := (lI ((tv B pl w (w / 8) : Nat) : Int))) rfl rfl rfl rfl rfl (by omega) ?_
                            refine jv_aload_n (pc' := 227) (k := 0) (x := 103) rfl rfl rfl rfl ?_
                            refine jv_getR (pc' := 230) (c := 12) (k := 36) (v := 126) rfl rfl rfl (fun _ _ => rfl) rfl rfl (jR_103_36 _) ?_
                            refine jv_iload_n (pc' := 231) (k := 1) (x := (iI ((nm : Nat) : Int))) rfl rfl rfl rfl ?_
                            refine jv_iconst (pc' := 232) (n := 1) rfl rfl ?_
                            refine jv_bastore (pc' := 233) (n := 8) (e := ((nm : Nat) : Int)) (v := (iI 1)) rfl rfl rfl rfl rfl (by omega) (by first | exact Or.inl rfl | exact Or.inr rfl) ?_
                            refine jv_retV rfl rfl ⟨_, _, rfl, ?_⟩
                            first
                            | (exfalso; omega)
                            | (have hv2 : v = tv B pl w (w / 8) := hv.trans (fv_1 y2)
                               rw [u3] at hmk
                               have em : mk = 0 := hmk.trans ((fm_1 rfl).trans (if_pos (by omega)))
                               subst em
                               subst hok
                               subst hv2
                               exact ⟨_, _, rfl, rfl, (fr_u (by simp [wM1]) (fr_u (by simp [wM1]) (fr_u (by simp [wM1]) (fr_t (fr_t (fr_u (by simp [wM1]) (fr_u (by simp [wM1]) (fr_u (by simp [wM1]) (fr_u (by simp [wM1]) (fr_u (by simp [wM1]) (fr_r _)))))) rq32) rq42)))), (fr_u (by simp [wN1]) (fr_t (fr_t (fr_r _) tq32) tq42)), DM_F Dq42 rfl rfl (by first | rfl | omega), ((uq42 103 19 (by simp)).trans ((uq32 103 19 (by simp)).trans rfl)), rfl⟩)
                          · skip
                            exact absurd hz_41 (by decide)
                        · skip
                          exact absurd hz_40 (by decide)
                      · skip
                        refine jv_lload (pc' := 161) (k := 6) (x := (lI ((tv B pl w (w / 8) : Nat) : Int))) rfl rfl rfl ?_
                        refine jv_iload (pc' := 163) (k := 4) (x := (iI (nv c (a + 1 + nd c (a + 1) + 2)))) rfl rfl rfl ?_
                        refine jv_i2l (pc' := 164) (a := (nv c (a + 1 + nd c (a + 1) + 2))) rfl rfl (by omega) ?_
                        refine jv_lc_eq (t := 172) (pc' := 168) (a := ((tv B pl w (w / 8) : Nat) : Int)) (b := (nv c (a + 1 + nd c (a + 1) + 2))) rfl rfl rfl rfl rfl (by omega) (fun hz_43 => ?_) (fun hz_43 => ?_)
                        · skip
                          refine jv_iconst (pc' := 173) (n := 0) rfl rfl ?_
                          refine jv_istore (pc' := 175) (k := 9) (x := (iI 0)) rfl rfl rfl (Or.inr rfl) ?_
                          refine jv_aload_n (pc' := 176) (k := 0) (x := 103) rfl rfl rfl rfl ?_
                          refine jv_iload_n (pc' := 177) (k := 1) (x := (iI ((nm : Nat) : Int))) rfl rfl rfl rfl ?_
                          refine jv_iload_n (pc' := 178) (k := 2) (x := (iI ((w : Nat) : Int))) rfl rfl rfl rfl ?_
                          refine jv_lload (pc' := 180) (k := 6) (x := (lI ((tv B pl w (w / 8) : Nat) : Int))) rfl rfl rfl ?_
                          refine jv_iload (pc' := 182) (k := 9) (x := (iI 0)) rfl rfl rfl ?_
                          refine jv_if_eq (t := 189) (pc' := 185) (a := 0) rfl rfl rfl (by omega) (fun hz_44 => ?_) (fun hz_44 => ?_)
                          · skip
                            refine jv_iload (pc' := 191) (k := 8) (x := (iI 0)) rfl rfl rfl ?_
                            refine jv_if_eq (t := 198) (pc' := 194) (a := 0) rfl rfl rfl (by omega) (fun hz_45 => ?_) (fun hz_45 => ?_)
                            · skip
                              refine jv_iconst (pc' := 199) (n := 0) rfl rfl ?_
                              obtain ⟨nq46, hnq46, hmq46⟩ := DV_n Vq32.1 hlim
                              refine jv_call (pc' := 202) rfl (ml_enter (I := Iq32) (M := Mq32) (s := (dS s)) Xq32 Dq32 Vq32.1 hnq46 hmq46) (fun vq46 gq46 q46 => ?_)
                              obtain ⟨Iq46, Mq46, rfl, rfl, Dq46, uq46, wq46⟩ := q46
                              have rq46 := fr_w uq46 wM1_E
                              have tq46 := fr_w wq46 wN1_E
                              have Xq46 := MX_fr (I := Iq32) Xq32 (fr_w rq46 wM_1)
                              show jx L xs _ 142 202 _ [] _ _
                              refine jv_aload_n (pc' := 203) (k := 0) (x := 103) rfl rfl rfl rfl ?_
                              refine jv_iload (pc' := 205) (k := 9) (x := (iI 0)) rfl rfl rfl ?_
                              refine jv_putZ (pc' := 208) (c := 12) (k := 33) rfl rfl rfl rfl (fun _ _ _ hz => if_pos hz) rfl rfl (by first | exact Or.inl rfl | exact Or.inr rfl) ?_
                              refine jv_aload_n (pc' := 209) (k := 0) (x := 103) rfl rfl rfl rfl ?_
                              refine jv_aload_n (pc' := 210) (k := 0) (x := 103) rfl rfl rfl rfl ?_
                              refine jv_getI (pc' := 213) (c := 12) (k := 30) (v := (iI ((dE (dS s) l ((nm : Nat) : Int) ((w : Nat) : Int) ((tv B pl w (w / 8) : Nat) : Int) 0) 0 0))) rfl rfl rfl (fun _ _ => rfl) rfl rfl Dq46.1 ?_
                              refine jv_iload_n (pc' := 214) (k := 2) (x := (iI ((w : Nat) : Int))) rfl rfl rfl rfl ?_
                              refine jv_iadd (pc' := 215) (a := ((dE (dS s) l ((nm : Nat) : Int) ((w : Nat) : Int) ((tv B pl w (w / 8) : Nat) : Int) 0) 0 0)) (b := ((w : Nat) : Int)) rfl rfl ?_
                              refine jv_putI (pc' := 218) (c := 12) (k := 30) rfl rfl rfl rfl (fun _ _ _  => rfl) rfl rfl ?_
                              refine jv_aload_n (pc' := 219) (k := 0) (x := 103) rfl rfl rfl rfl ?_
                              refine jv_getR (pc' := 222) (c := 12) (k := 35) (v := 125) rfl rfl rfl (fun _ _ => rfl) rfl rfl (jR_103_35 _) ?_
                              refine jv_iload_n (pc' := 223) (k := 1) (x := (iI ((nm : Nat) : Int))) rfl rfl rfl rfl ?_
                              refine jv_lload (pc' := 225) (k := 6) (x := (lI ((tv B pl w (w / 8) : Nat) : Int))) rfl rfl rfl ?_
                              refine jv_lastore (pc' := 226) (n := 8) (e := ((nm : Nat) : Int)) (v := (lI ((tv B pl w (w / 8) : Nat) : Int))) rfl rfl rfl rfl rfl (by omega) ?_
                              refine jv_aload_n (pc' := 227) (k := 0) (x := 103) rfl rfl rfl rfl ?_
                              refine jv_getR (pc' := 230) (c := 12) (k := 36) (v := 126) rfl rfl rfl (fun _ _ => rfl) rfl rfl (jR_103_36 _) ?_
                              refine jv_iload_n (pc' := 231) (k := 1) (x := (iI ((nm : Nat) : Int))) rfl rfl rfl rfl ?_
                              refine jv_iconst (pc' := 232) (n := 1) rfl rfl ?_
                              refine jv_bastore (pc' := 233) (n := 8) (e := ((nm : Nat) : Int)) (v := (iI 1)) rfl rfl rfl rfl rfl (by omega) (by first | exact Or.inl rfl | exact Or.inr rfl) ?_
                              refine jv_retV rfl rfl ⟨_, _, rfl, ?_⟩
                              first
                              | (exfalso; omega)
                              | (have hv2 : v = tv B pl w (w / 8) := hv.trans (fv_1 y2)
                                 rw [u3] at hmk
                                 have em : mk = 0 := hmk.trans ((fm_1 rfl).trans (if_pos (by omega)))
                                 subst em
                                 subst hok
                                 subst hv2
                                 exact ⟨_, _, rfl, rfl, (fr_u (by simp [wM1]) (fr_u (by simp [wM1]) (fr_u (by simp [wM1]) (fr_t (fr_t (fr_u (by simp [wM1]) (fr_u (by simp [wM1]) (fr_u (by simp [wM1]) (fr_u (by simp [wM1]) (fr_u (by simp [wM1]) (fr_r _)))))) rq32) rq46)))), (fr_u (by simp [wN1]) (fr_t (fr_t (fr_r _) tq32) tq46)), DM_F Dq46 rfl rfl (by first | rfl | omega), ((uq46 103 19 (by simp)).trans ((uq32 103 19 (by simp)).trans rfl)), rfl⟩)
                            · skip
                              exact absurd hz_45 (by decide)
                          · skip
                            exact absurd hz_44 (by decide)
                        · skip
                          refine jv_iconst (pc' := 169) (n := 1) rfl rfl ?_
                          refine jx_step (pc' := 173) rfl ?_
                          refine jv_istore (pc' := 175) (k := 9) (x := (iI 1)) rfl rfl rfl (Or.inr rfl) ?_
                          refine jv_aload_n (pc' := 176) (k := 0) (x := 103) rfl rfl rfl rfl ?_
                          refine jv_iload_n (pc' := 177) (k := 1) (x := (iI ((nm : Nat) : Int))) rfl rfl rfl rfl ?_
                          refine jv_iload_n (pc' := 178) (k := 2) (x := (iI ((w : Nat) : Int))) rfl rfl rfl rfl ?_
                          refine jv_lload (pc' := 180) (k := 6) (x := (lI ((tv B pl w (w / 8) : Nat) : Int))) rfl rfl rfl ?_
                          refine jv_iload (pc' := 182) (k := 9) (x := (iI 1)) rfl rfl rfl ?_
                          refine jv_if_eq (t := 189) (pc' := 185) (a := 1) rfl rfl rfl (by omega) (fun hz_47 => ?_) (fun hz_47 => ?_)
                          · skip
                            exact absurd hz_47 (by decide)
                          · skip
                            refine jv_iconst (pc' := 186) (n := 2) rfl rfl ?_
                            refine jx_step (pc' := 199) rfl ?_
                            obtain ⟨nq48, hnq48, hmq48⟩ := DV_n Vq32.1 hlim
                            refine jv_call (pc' := 202) rfl (ml_enter (I := Iq32) (M := Mq32) (s := (dS s)) Xq32 Dq32 Vq32.1 hnq48 hmq48) (fun vq48 gq48 q48 => ?_)
                            obtain ⟨Iq48, Mq48, rfl, rfl, Dq48, uq48, wq48⟩ := q48
                            have rq48 := fr_w uq48 wM1_E
                            have tq48 := fr_w wq48 wN1_E
                            have Xq48 := MX_fr (I := Iq32) Xq32 (fr_w rq48 wM_1)
                            show jx L xs _ 142 202 _ [] _ _
                            refine jv_aload_n (pc' := 203) (k := 0) (x := 103) rfl rfl rfl rfl ?_
                            refine jv_iload (pc' := 205) (k := 9) (x := (iI 1)) rfl rfl rfl ?_
                            refine jv_putZ (pc' := 208) (c := 12) (k := 33) rfl rfl rfl rfl (fun _ _ _ hz => if_pos hz) rfl rfl (by first | exact Or.inl rfl | exact Or.inr rfl) ?_
                            refine jv_aload_n (pc' := 209) (k := 0) (x := 103) rfl rfl rfl rfl ?_
                            refine jv_aload_n (pc' := 210) (k := 0) (x := 103) rfl rfl rfl rfl ?_
                            refine jv_getI (pc' := 213) (c := 12) (k := 30) (v := (iI ((dE (dS s) l ((nm : Nat) : Int) ((w : Nat) : Int) ((tv B pl w (w / 8) : Nat) : Int) 2) 0 0))) rfl rfl rfl (fun _ _ => rfl) rfl rfl Dq48.1 ?_
                            refine jv_iload_n (pc' := 214) (k := 2) (x := (iI ((w : Nat) : Int))) rfl rfl rfl rfl ?_
                            refine jv_iadd (pc' := 215) (a := ((dE (dS s) l ((nm : Nat) : Int) ((w : Nat) : Int) ((tv B pl w (w / 8) : Nat) : Int) 2) 0 0)) (b := ((w : Nat) : Int)) rfl rfl ?_
                            refine jv_putI (pc' := 218) (c := 12) (k := 30) rfl rfl rfl rfl (fun _ _ _  => rfl) rfl rfl ?_
                            refine jv_aload_n (pc' := 219) (k := 0) (x := 103) rfl rfl rfl rfl ?_
                            refine jv_getR (pc' := 222) (c := 12) (k := 35) (v := 125) rfl rfl rfl (fun _ _ => rfl) rfl rfl (jR_103_35 _) ?_
                            refine jv_iload_n (pc' := 223) (k := 1) (x := (iI ((nm : Nat) : Int))) rfl rfl rfl rfl ?_
                            refine jv_lload (pc' := 225) (k := 6) (x := (lI ((tv B pl w (w / 8) : Nat) : Int))) rfl rfl rfl ?_
                            refine jv_lastore (pc' := 226) (n := 8) (e := ((nm : Nat) : Int)) (v := (lI ((tv B pl w (w / 8) : Nat) : Int))) rfl rfl rfl rfl rfl (by omega) ?_
                            refine jv_aload_n (pc' := 227) (k := 0) (x := 103) rfl rfl rfl rfl ?_
                            refine jv_getR (pc' := 230) (c := 12) (k := 36) (v := 126) rfl rfl rfl (fun _ _ => rfl) rfl rfl (jR_103_36 _) ?_
                            refine jv_iload_n (pc' := 231) (k := 1) (x := (iI ((nm : Nat) : Int))) rfl rfl rfl rfl ?_
                            refine jv_iconst (pc' := 232) (n := 1) rfl rfl ?_
                            refine jv_bastore (pc' := 233) (n := 8) (e := ((nm : Nat) : Int)) (v := (iI 1)) rfl rfl rfl rfl rfl (by omega) (by first | exact Or.inl rfl | exact Or.inr rfl) ?_
                            refine jv_retV rfl rfl ⟨_, _, rfl, ?_⟩
                            first
                            | (exfalso; omega)
                            | (have hv2 : v = tv B pl w (w / 8) := hv.trans (fv_1 y2)
                               rw [u3] at hmk
                               have em : mk = 2 := hmk.trans ((fm_1 rfl).trans (if_neg (by omega)))
                               subst em
                               subst hok
                               subst hv2
                               exact ⟨_, _, rfl, rfl, (fr_u (by simp [wM1]) (fr_u (by simp [wM1]) (fr_u (by simp [wM1]) (fr_t (fr_t (fr_u (by simp [wM1]) (fr_u (by simp [wM1]) (fr_u (by simp [wM1]) (fr_u (by simp [wM1]) (fr_u (by simp [wM1]) (fr_r _)))))) rq32) rq48)))), (fr_u (by simp [wN1]) (fr_t (fr_t (fr_r _) tq32) tq48)), DM_F Dq48 rfl rfl (by first | rfl | omega), ((uq48 103 19 (by simp)).trans ((uq32 103 19 (by simp)).trans rfl)), rfl⟩)
                    · skip
                      exact absurd hz_38 (by decide)
                · skip
                  exfalso; omega
              · skip
                exact absurd hz_33 (by decide)
            · skip
              exact absurd hz_31 (by decide)
      · skip
        refine jv_aload_n (pc' := 1) (k := 0) (x := 103) rfl rfl rfl rfl ?_
        have hm1 := MT_c hX.1 (a)
        refine jv_call (pc' := 4) rfl (ml_here (I := I) (a := a) hX.1 hat (by omega)) (fun vq2 gq2 q2 => ?_)
        obtain ⟨rfl, rfl⟩ := q2
        show jx L xs _ 142 4 _ [.int (iI (c (a)))] _ _
        refine jv_bipush (pc' := 6) (n := 97) rfl rfl rfl ?_
        refine jv_isub (pc' := 7) (a := (c (a))) (b := 97) rfl rfl ?_
        rw [show (c (a)) - 97 = ((nm : Nat) : Int) by omega]
        refine jv_istore_n (pc' := 8) (k := 1) (x := (iI ((nm : Nat) : Int))) rfl rfl rfl rfl (Or.inr rfl) ?_
        refine jv_aload_n (pc' := 9) (k := 0) (x := 103) rfl rfl rfl rfl ?_
        refine jx_step (pc' := 10) rfl ?_
        refine jv_getI (pc' := 13) (c := 12) (k := 19) (v := (iI ((a : Nat) : Int))) rfl rfl rfl (fun _ _ => rfl) rfl rfl hat ?_
        refine jv_iconst (pc' := 14) (n := 1) rfl rfl ?_
        refine jv_iadd (pc' := 15) (a := ((a : Nat) : Int)) (b := 1) rfl rfl ?_
        refine jv_putI (pc' := 18) (c := 12) (k := 19) rfl rfl rfl rfl (fun _ _ _  => rfl) rfl rfl ?_
        refine jv_aload_n (pc' := 19) (k := 0) (x := 103) rfl rfl rfl rfl ?_
        have hm3 := nv_b c (a + 1)
        have hm4 := nd_le c (a + 1)
        refine jv_call (pc' := 22) rfl (ml_number_y (I := jm_u I 103 19 (iI (((a : Nat) : Int) + 1))) (a := a + 1) hX.1 rfl (by omega) (by omega)) (fun vq5 gq5 q5 => ?_)
        obtain ⟨rfl, rfl⟩ := q5
        show jx L xs _ 142 22 _ [.int (iI (nv c (a + 1)))] _ _
        rw [show nv c (a + 1) = ((w : Nat) : Int) by omega]
        refine jv_istore_n (pc' := 23) (k := 2) (x := (iI ((w : Nat) : Int))) rfl rfl rfl rfl (Or.inr rfl) ?_
        refine jv_aload_n (pc' := 24) (k := 0) (x := 103) rfl rfl rfl rfl ?_
        refine jv_bipush (pc' := 26) (n := 60) rfl rfl rfl ?_
        refine jv_call (pc' := 29) rfl (ml_takes_y (I := jm_u (jm_u I 103 19 (iI (((a : Nat) : Int) + 1))) 103 19 (iI ((a + 1 + nd c (a + 1) : Nat) : Int))) (x := 60) (a := a + 1 + nd c (a + 1)) (by omega) hX.1 rfl (by omega) (by omega)) (fun vq6 gq6 q6 => ?_)
        obtain ⟨rfl, rfl⟩ := q6
        show jx L xs _ 142 29 _ [.int (iI 1)] _ _
        refine jv_istore_n (pc' := 30) (k := 3) (x := (iI 1)) rfl rfl rfl rfl (Or.inr rfl) ?_
        refine jv_aload_n (pc' := 31) (k := 0) (x := 103) rfl rfl rfl rfl ?_
        refine jv_bipush (pc' := 33) (n := 61) rfl rfl rfl ?_
        refine jv_call (pc' := 36) rfl (ml_takes_n (I := jm_u (jm_u (jm_u I 103 19 (iI (((a : Nat) : Int) + 1))) 103 19 (iI ((a + 1 + nd c (a + 1) : Nat) : Int))) 103 19 (iI ((a + 1 + nd c (a + 1) + 1 : Nat) : Int))) (x := 61) (a := a + 1 + nd c (a + 1) + 1) (by omega) hX.1 rfl (by omega) (by omega)) (fun vq7 gq7 q7 => ?_)
        obtain ⟨rfl, rfl⟩ := q7
        show jx L xs _ 142 36 _ [.int (iI 0)] _ _
        refine jv_if_eq (t := 46) (pc' := 39) (a := 0) rfl rfl rfl (by omega) (fun hz_8 => ?_) (fun hz_8 => ?_)
        · skip
          refine jv_iconst (pc' := 47) (n := -1) rfl rfl ?_
          refine jv_istore (pc' := 49) (k := 4) (x := (iI (-1))) rfl rfl rfl (Or.inr rfl) ?_
          refine jv_iload (pc' := 51) (k := 4) (x := (iI (-1))) rfl rfl rfl ?_
          refine jv_if_ge (t := 67) (pc' := 54) (a := (-1)) rfl rfl rfl (by omega) (fun hz_9 => ?_) (fun hz_9 => ?_)
          · skip
            exact absurd hz_9 (by decide)
          · skip
            refine jv_aload_n (pc' := 55) (k := 0) (x := 103) rfl rfl rfl rfl ?_
            refine jv_bipush (pc' := 57) (n := 33) rfl rfl rfl ?_
            refine jv_call (pc' := 60) rfl (ml_takes_y (I := jm_u (jm_u (jm_u I 103 19 (iI (((a : Nat) : Int) + 1))) 103 19 (iI ((a + 1 + nd c (a + 1) : Nat) : Int))) 103 19 (iI ((a + 1 + nd c (a + 1) + 1 : Nat) : Int))) (x := 33) (a := a + 1 + nd c (a + 1) + 1) (by omega) hX.1 rfl (by omega) (by omega)) (fun vq10 gq10 q10 => ?_)
            obtain ⟨rfl, rfl⟩ := q10
            show jx L xs _ 142 60 _ [.int (iI 1)] _ _
            refine jv_if_eq (t := 67) (pc' := 63) (a := 1) rfl rfl rfl (by omega) (fun hz_11 => ?_) (fun hz_11 => ?_)
            · skip
              exact absurd hz_11 (by decide)
            · skip
              refine jv_iconst (pc' := 64) (n := 1) rfl rfl ?_
              refine jx_step (pc' := 68) rfl ?_
              refine jv_istore (pc' := 70) (k := 5) (x := (iI 1)) rfl rfl rfl (Or.inr rfl) ?_
              refine jv_aload_n (pc' := 71) (k := 0) (x := 103) rfl rfl rfl rfl ?_
              refine jv_iload_n (pc' := 72) (k := 1) (x := (iI ((nm : Nat) : Int))) rfl rfl rfl rfl ?_
              refine jv_call (pc' := 75) rfl (ml_steps_y (I := jm_u (jm_u (jm_u (jm_u I 103 19 (iI (((a : Nat) : Int) + 1))) 103 19 (iI ((a + 1 + nd c (a + 1) : Nat) : Int))) 103 19 (iI ((a + 1 + nd c (a + 1) + 1 : Nat) : Int))) 103 19 (iI ((a + 1 + nd c (a + 1) + 2 : Nat) : Int))) (M := M) (s := s) (nm := ((nm : Nat) : Int)) hX hM hV o1) (fun vq12 gq12 q12 => ?_)
              obtain ⟨Iq12, Mq12, rfl, rfl, rq12, tq12, Dq12, uq12⟩ := q12
              have Xq12 := MX_fr (I := jm_u (jm_u (jm_u (jm_u I 103 19 (iI (((a : Nat) : Int) + 1))) 103 19 (iI ((a + 1 + nd c (a + 1) : Nat) : Int))) 103 19 (iI ((a + 1 + nd c (a + 1) + 1 : Nat) : Int))) 103 19 (iI ((a + 1 + nd c (a + 1) + 2 : Nat) : Int))) hX (fr_w rq12 wM_1)
              have Vq12 := DV_S hV o1
              have epq12 : dS s 0 0 = ((pl : Nat) : Int) := hpl
              show jx L xs _ 142 75 _ [.int (iI 1)] _ _
              refine jv_if_ne (t := 79) (pc' := 78) (a := 1) rfl rfl rfl (by omega) (fun hz_13 => ?_) (fun hz_13 => ?_)
              · skip
                refine jv_aload_n (pc' := 80) (k := 0) (x := 103) rfl rfl rfl rfl ?_
                refine jv_call (pc' := 83) rfl (ml_leftBits (I := Iq12) (M := Mq12) (s := (dS s)) Xq12 Dq12 Vq12.1) (fun vq14 gq14 q14 => ?_)
                obtain ⟨rfl, rfl⟩ := q14
                show jx L xs _ 142 83 _ [.int (iI (8 * (sz : Int) - (dS s) 0 0))] _ _
                refine jv_iload_n (pc' := 84) (k := 2) (x := (iI ((w : Nat) : Int))) rfl rfl rfl rfl ?_
                refine jv_ic_ge (t := 101) (pc' := 87) (a := (8 * (sz : Int) - (dS s) 0 0)) (b := ((w : Nat) : Int)) rfl rfl rfl (by omega) (fun hz_15 => ?_) (fun hz_15 => ?_)
                · skip
                  refine jv_iload_n (pc' := 102) (k := 3) (x := (iI 1)) rfl rfl rfl rfl ?_
                  refine jv_if_eq (t := 117) (pc' := 105) (a := 1) rfl rfl rfl (by omega) (fun hz_16 => ?_) (fun hz_16 => ?_)
                  · skip
                    exact absurd hz_16 (by decide)
                  · skip
                    refine jv_aload_n (pc' := 106) (k := 0) (x := 103) rfl rfl rfl rfl ?_
                    refine jv_aload_n (pc' := 107) (k := 0) (x := 103) rfl rfl rfl rfl ?_
                    refine jv_getI (pc' := 110) (c := 12) (k := 30) (v := (iI ((pl : Nat) : Int))) rfl rfl rfl (fun _ _ => rfl) rfl rfl (Dq12.1.trans (congrArg iI hpl)) ?_
                    refine jv_iload_n (pc' := 111) (k := 2) (x := (iI ((w : Nat) : Int))) rfl rfl rfl rfl ?_
                    have hw8 : 8 * (w / 8) = w := by omega
                    refine jv_call (pc' := 114) rfl (show jc L xs _ 140 [.ref 103, .int (iI ((pl : Nat) : Int)), .int (iI ((w : Nat) : Int))] (jx_G j Iq12 Mq12 p) (fun v g1 => v = some (.long (lI ((tv B pl w (w / 8) : Nat) : Int))) ∧ g1 = (jx_G j Iq12 Mq12 p)) from hw8 ▸ (by have := ml_turnedAt (L := L) (xs := xs) (d := d) (j := j) (I := Iq12) (M := Mq12) (p := p) (B := B) (a := pl) (m := w / 8) Xq12.2.1 Xq12.2.2.1 (by omega) (by omega); rw [Nat.mul_div_cancel_left _ (by decide : 0 < 8)]; exact this)) (fun vq17 gq17 q17 => ?_)
                    obtain ⟨rfl, rfl⟩ := q17
                    show jx L xs _ 142 114 _ [.long (lI ((tv B pl w (w / 8) : Nat) : Int))] _ _
                    refine jx_step (pc' := 126) rfl ?_
                    refine jv_lstore (pc' := 128) (k := 6) (x := (lI ((tv B pl w (w / 8) : Nat) : Int))) rfl rfl rfl (Or.inr rfl) ?_
                    have hvv : v = tv B pl w (w / 8) := hv.trans (fv_1 y2)
                    refine jv_iload (pc' := 130) (k := 5) (x := (iI 1)) rfl rfl rfl ?_
                    refine jv_if_eq (t := 151) (pc' := 133) (a := 1) rfl rfl rfl (by omega) (fun hz_18 => ?_) (fun hz_18 => ?_)
                    · skip
                      exact absurd hz_18 (by decide)
                    · skip
                      refine jv_lload (pc' := 135) (k := 6) (x := (lI ((tv B pl w (w / 8) : Nat) : Int))) rfl rfl rfl ?_
                      refine jv_aload_n (pc' := 136) (k := 0) (x := 103) rfl rfl rfl rfl ?_
                      have hsm := sm_lt Xq12.2.1.2.2.2.2 bg pl sz
                      have hsm2 := Nat.mod_le (sm B bg pl sz) (2 ^ w)
                      have hp32 : 2 ^ w ≤ 2 ^ 32 := Nat.pow_le_pow_right (by decide) hw.2
                      have hp0 : 0 < 2 ^ w := Nat.two_pow_pos w
                      refine jv_call (pc' := 139) rfl (ml_sumBefore (I := Iq12) (M := Mq12) (a := bg) (n := pl) Xq12.2.1 Xq12.2.2.1 Xq12.2.2.2.2.1 (Dq12.1.trans (congrArg iI hpl)) (by omega) (by omega)) (fun vq19 gq19 q19 => ?_)
                      obtain ⟨rfl, rfl⟩ := q19
                      show jx L xs _ 142 139 _ [.long (lI ((sm B bg pl sz : Nat) : Int)), .long (lI ((tv B pl w (w / 8) : Nat) : Int))] _ _
                      refine jv_long (pc' := 140) (y := lI 1) rfl (by decide) ?_
                      refine jv_iload_n (pc' := 141) (k := 2) (x := (iI ((w : Nat) : Int))) rfl rfl rfl rfl ?_
                      refine jv_long (pc' := 142) (y := (lI ((2 ^ w : Nat) : Int))) rfl (lI_1w hw.2) ?_
                      refine jv_lrem (pc' := 143) (a := sm B bg pl sz) (b := 2 ^ w) rfl rfl hp0 (by omega) (by omega) ?_
                      refine jv_lc_eq (t := 151) (pc' := 147) (a := ((tv B pl w (w / 8) : Nat) : Int)) (b := ((sm B bg pl sz % 2 ^ w : Nat) : Int)) rfl rfl rfl rfl rfl (by omega) (fun hz_20 => ?_) (fun hz_20 => ?_)
                      · skip
                        refine jv_iconst (pc' := 152) (n := 0) rfl rfl ?_
                        refine jv_istore (pc' := 154) (k := 8) (x := (iI 0)) rfl rfl rfl (Or.inr rfl) ?_
                        refine jv_iload (pc' := 156) (k := 4) (x := (iI (-1))) rfl rfl rfl ?_
                        refine jv_if_lt (t := 172) (pc' := 159) (a := (-1)) rfl rfl rfl (by omega) (fun hz_21 => ?_) (fun hz_21 => ?_)
                        · skip
                          refine jv_iconst (pc' := 173) (n := 0) rfl rfl ?_
                          refine jv_istore (pc' := 175) (k := 9) (x := (iI 0)) rfl rfl rfl (Or.inr rfl) ?_
                          refine jv_aload_n (pc' := 176) (k := 0) (x := 103) rfl rfl rfl rfl ?_
                          refine jv_iload_n (pc' := 177) (k := 1) (x := (iI ((nm : Nat) : Int))) rfl rfl rfl rfl ?_
                          refine jv_iload_n (pc' := 178) (k := 2) (x := (iI ((w : Nat) : Int))) rfl rfl rfl rfl ?_
                          refine jv_lload (pc' := 180) (k := 6) (x := (lI ((tv B pl w (w / 8) : Nat) : Int))) rfl rfl rfl ?_
                          refine jv_iload (pc' := 182) (k := 9) (x := (iI 0)) rfl rfl rfl ?_
                          refine jv_if_eq (t := 189) (pc' := 185) (a := 0) rfl rfl rfl (by omega) (fun hz_22 => ?_) (fun hz_22 => ?_)
                          · skip
                            refine jv_iload (pc' := 191) (k := 8) (x := (iI 0)) rfl rfl rfl ?_
                            refine jv_if_eq (t := 198) (pc' := 194) (a := 0) rfl rfl rfl (by omega) (fun hz_23 => ?_) (fun hz_23 => ?_)
                            · skip
                              refine jv_iconst (pc' := 199) (n := 0) rfl rfl ?_
                              obtain ⟨nq24, hnq24, hmq24⟩ := DV_n Vq12.1 hlim
                              refine jv_call (pc' := 202) rfl (ml_enter (I := Iq12) (M := Mq12) (s := (dS s)) Xq12 Dq12 Vq12.1 hnq24 hmq24) (fun vq24 gq24 q24 => ?_)
                              obtain ⟨Iq24, Mq24, rfl, rfl, Dq24, uq24, wq24⟩ := q24
                              have rq24 := fr_w uq24 wM1_E
                              have tq24 := fr_w wq24 wN1_E
                              have Xq24 := MX_fr (I := Iq12) Xq12 (fr_w rq24 wM_1)
                              show jx L xs _ 142 202 _ [] _ _
                              refine jv_aload_n (pc' := 203) (k := 0) (x := 103) rfl rfl rfl rfl ?_
                              refine jv_iload (pc' := 205) (k := 9) (x := (iI 0)) rfl rfl rfl ?_
                              refine jv_putZ (pc' := 208) (c := 12) (k := 33) rfl rfl rfl rfl (fun _ _ _ hz => if_pos hz) rfl rfl (by first | exact Or.inl rfl | exact Or.inr rfl) ?_
                              refine jv_aload_n (pc' := 209) (k := 0) (x := 103) rfl rfl rfl rfl ?_
                              refine jv_aload_n (pc' := 210) (k := 0) (x := 103) rfl rfl rfl rfl ?_
                              refine jv_getI (pc' := 213) (c := 12) (k := 30) (v := (iI ((dE (dS s) l ((nm : Nat) : Int) ((w : Nat) : Int) ((tv B pl w (w / 8) : Nat) : Int) 0) 0 0))) rfl rfl rfl (fun _ _ => rfl) rfl rfl Dq24.1 ?_
                              refine jv_iload_n (pc' := 214) (k := 2) (x := (iI ((w : Nat) : Int))) rfl rfl rfl rfl ?_
                              refine jv_iadd (pc' := 215) (a := ((dE (dS s) l ((nm : Nat) : Int) ((w : Nat) : Int) ((tv B pl w (w / 8) : Nat) : Int) 0) 0 0)) (b := ((w : Nat) : Int)) rfl rfl ?_
                              refine jv_putI (pc' := 218) (c := 12) (k := 30) rfl rfl rfl rfl (fun _ _ _  => rfl) rfl rfl ?_
                              refine jv_aload_n (pc' := 219) (k := 0) (x := 103) rfl rfl rfl rfl ?_
                              refine jv_getR (pc' := 222) (c := 12) (k := 35) (v := 125) rfl rfl rfl (fun _ _ => rfl) rfl rfl (jR_103_35 _) ?_
                              refine jv_iload_n (pc' := 223) (k := 1) (x := (iI ((nm : Nat) : Int))) rfl rfl rfl rfl ?_
                              refine jv_lload (pc' := 225) (k := 6) (x := (lI ((tv B pl w (w / 8) : Nat) : Int))) rfl rfl rfl ?_
                              refine jv_lastore (pc' := 226) (n := 8) (e := ((nm : Nat) : Int)) (v := (lI ((tv B pl w (w / 8) : Nat) : Int))) rfl rfl rfl rfl rfl (by omega) ?_
                              refine jv_aload_n (pc' := 227) (k := 0) (x := 103) rfl rfl rfl rfl ?_
                              refine jv_getR (pc' := 230) (c := 12) (k := 36) (v := 126) rfl rfl rfl (fun _ _ => rfl) rfl rfl (jR_103_36 _) ?_
                              refine jv_iload_n (pc' := 231) (k := 1) (x := (iI ((nm : Nat) : Int))) rfl rfl rfl rfl ?_
                              refine jv_iconst (pc' := 232) (n := 1) rfl rfl ?_
                              refine jv_bastore (pc' := 233) (n := 8) (e := ((nm : Nat) : Int)) (v := (iI 1)) rfl rfl rfl rfl rfl (by omega) (by first | exact Or.inl rfl | exact Or.inr rfl) ?_
                              refine jv_retV rfl rfl ⟨_, _, rfl, ?_⟩
                              first
                              | (exfalso; omega)
                              | (have hv2 : v = tv B pl w (w / 8) := hv.trans (fv_1 y2)
                                 rw [u3] at hmk
                                 have em : mk = 0 := hmk.trans ((fm_2 rfl).trans (if_pos (by omega)))
                                 subst em
                                 subst hok
                                 subst hv2
                                 exact ⟨_, _, rfl, rfl, (fr_u (by simp [wM1]) (fr_u (by simp [wM1]) (fr_u (by simp [wM1]) (fr_t (fr_t (fr_u (by simp [wM1]) (fr_u (by simp [wM1]) (fr_u (by simp [wM1]) (fr_u (by simp [wM1]) (fr_r _))))) rq12) rq24)))), (fr_u (by simp [wN1]) (fr_t (fr_t (fr_r _) tq12) tq24)), DM_F Dq24 rfl rfl (by first | rfl | omega), ((uq24 103 19 (by simp)).trans ((uq12 103 19 (by simp)).trans rfl)), rfl⟩)
                            · skip
                              exact absurd hz_23 (by decide)
                          · skip
                            exact absurd hz_22 (by decide)
                        · skip
                          exact absurd hz_21 (by decide)
                      · skip
                        refine jv_iconst (pc' := 148) (n := 1) rfl rfl ?_
                        refine jx_step (pc' := 152) rfl ?_
                        refine jv_istore (pc' := 154) (k := 8) (x := (iI 1)) rfl rfl rfl (Or.inr rfl) ?_
                        refine jv_iload (pc' := 156) (k := 4) (x := (iI (-1))) rfl rfl rfl ?_
                        refine jv_if_lt (t := 172) (pc' := 159) (a := (-1)) rfl rfl rfl (by omega) (fun hz_25 => ?_) (fun hz_25 => ?_)
                        · skip
                          refine jv_iconst (pc' := 173) (n := 0) rfl rfl ?_
                          refine jv_istore (pc' := 175) (k := 9) (x := (iI 0)) rfl rfl rfl (Or.inr rfl) ?_
                          refine jv_aload_n (pc' := 176) (k := 0) (x := 103) rfl rfl rfl rfl ?_
                          refine jv_iload_n (pc' := 177) (k := 1) (x := (iI ((nm : Nat) : Int))) rfl rfl rfl rfl ?_
                          refine jv_iload_n (pc' := 178) (k := 2) (x := (iI ((w : Nat) : Int))) rfl rfl rfl rfl ?_
                          refine jv_lload (pc' := 180) (k := 6) (x := (lI ((tv B pl w (w / 8) : Nat) : Int))) rfl rfl rfl ?_
                          refine jv_iload (pc' := 182) (k := 9) (x := (iI 0)) rfl rfl rfl ?_
                          refine jv_if_eq (t := 189) (pc' := 185) (a := 0) rfl rfl rfl (by omega) (fun hz_26 => ?_) (fun hz_26 => ?_)
                          · skip
                            refine jv_iload (pc' := 191) (k := 8) (x := (iI 1)) rfl rfl rfl ?_
                            refine jv_if_eq (t := 198) (pc' := 194) (a := 1) rfl rfl rfl (by omega) (fun hz_27 => ?_) (fun hz_27 => ?_)
                            · skip
                              exact absurd hz_27 (by decide)
                            · skip
                              refine jv_iconst (pc' := 195) (n := 3) rfl rfl ?_
                              refine jx_step (pc' := 199) rfl ?_
                              obtain ⟨nq28, hnq28, hmq28⟩ := DV_n Vq12.1 hlim
                              refine jv_call (pc' := 202) rfl (ml_enter (I := Iq12) (M := Mq12) (s := (dS s)) Xq12 Dq12 Vq12.1 hnq28 hmq28) (fun vq28 gq28 q28 => ?_)
                              obtain ⟨Iq28, Mq28, rfl, rfl, Dq28, uq28, wq28⟩ := q28
                              have rq28 := fr_w uq28 wM1_E
                              have tq28 := fr_w wq28 wN1_E
                              have Xq28 := MX_fr (I := Iq12) Xq12 (fr_w rq28 wM_1)
                              show jx L xs _ 142 202 _ [] _ _
                              refine jv_aload_n (pc' := 203) (k := 0) (x := 103) rfl rfl rfl rfl ?_
                              refine jv_iload (pc' := 205) (k := 9) (x := (iI 0)) rfl rfl rfl ?_
                              refine jv_putZ (pc' := 208) (c := 12) (k := 33) rfl rfl rfl rfl (fun _ _ _ hz => if_pos hz) rfl rfl (by first | exact Or.inl rfl | exact Or.inr rfl) ?_
                              refine jv_aload_n (pc' := 209) (k := 0) (x := 103) rfl rfl rfl rfl ?_
                              refine jv_aload_n (pc' := 210) (k := 0) (x := 103) rfl rfl rfl rfl ?_
                              refine jv_getI (pc' := 213) (c := 12) (k := 30) (v := (iI ((dE (dS s) l ((nm : Nat) : Int) ((w : Nat) : Int) ((tv B pl w (w / 8) : Nat) : Int) 3) 0 0))) rfl rfl rfl (fun _ _ => rfl) rfl rfl Dq28.1 ?_
                              refine jv_iload_n (pc' := 214) (k := 2) (x := (iI ((w : Nat) : Int))) rfl rfl rfl rfl ?_
                              refine jv_iadd (pc' := 215) (a := ((dE (dS s) l ((nm : Nat) : Int) ((w : Nat) : Int) ((tv B pl w (w / 8) : Nat) : Int) 3) 0 0)) (b := ((w : Nat) : Int)) rfl rfl ?_
                              refine jv_putI (pc' := 218) (c := 12) (k := 30) rfl rfl rfl rfl (fun _ _ _  => rfl) rfl rfl ?_
                              refine jv_aload_n (pc' := 219) (k := 0) (x := 103) rfl rfl rfl rfl ?_
                              refine jv_getR (pc' := 222) (c := 12) (k := 35) (v := 125) rfl rfl rfl (fun _ _ => rfl) rfl rfl (jR_103_35 _) ?_
                              refine jv_iload_n (pc' := 223) (k := 1) (x := (iI ((nm : Nat) : Int))) rfl rfl rfl rfl ?_
                              refine jv_lload (pc' := 225) (k := 6) (x := (lI ((tv B pl w (w / 8) : Nat) : Int))) rfl rfl rfl ?_
                              refine jv_lastore (pc' := 226) (n := 8) (e := ((nm : Nat) : Int)) (v := (lI ((tv B pl w (w / 8) : Nat) : Int))) rfl rfl rfl rfl rfl (by omega) ?_
                              refine jv_aload_n (pc' := 227) (k := 0) (x := 103) rfl rfl rfl rfl ?_
                              refine jv_getR (pc' := 230) (c := 12) (k := 36) (v := 126) rfl rfl rfl (fun _ _ => rfl) rfl rfl (jR_103_36 _) ?_
                              refine jv_iload_n (pc' := 231) (k := 1) (x := (iI ((nm : Nat) : Int))) rfl rfl rfl rfl ?_
                              refine jv_iconst (pc' := 232) (n := 1) rfl rfl ?_
                              refine jv_bastore (pc' := 233) (n := 8) (e := ((nm : Nat) : Int)) (v := (iI 1)) rfl rfl rfl rfl rfl (by omega) (by first | exact Or.inl rfl | exact Or.inr rfl) ?_
                              refine jv_retV rfl rfl ⟨_, _, rfl, ?_⟩
                              first
                              | (exfalso; omega)
                              | (have hv2 : v = tv B pl w (w / 8) := hv.trans (fv_1 y2)
                                 rw [u3] at hmk
                                 have em : mk = 3 := hmk.trans ((fm_2 rfl).trans (if_neg (by omega)))
                                 subst em
                                 subst hok
                                 subst hv2
                                 exact ⟨_, _, rfl, rfl, (fr_u (by simp [wM1]) (fr_u (by simp [wM1]) (fr_u (by simp [wM1]) (fr_t (fr_t (fr_u (by simp [wM1]) (fr_u (by simp [wM1]) (fr_u (by simp [wM1]) (fr_u (by simp [wM1]) (fr_r _))))) rq12) rq28)))), (fr_u (by simp [wN1]) (fr_t (fr_t (fr_r _) tq12) tq28)), DM_F Dq28 rfl rfl (by first | rfl | omega), ((uq28 103 19 (by simp)).trans ((uq12 103 19 (by simp)).trans rfl)), rfl⟩)
                          · skip
                            exact absurd hz_26 (by decide)
                        · skip
                          exact absurd hz_25 (by decide)
                · skip
                  exfalso; omega
              · skip
                exact absurd hz_13 (by decide)
        · skip
          exact absurd hz_8 (by decide)
      · skip
        refine jv_aload_n (pc' := 1) (k := 0) (x := 103) rfl rfl rfl rfl ?_
        have hm1 := MT_c hX.1 (a)
        refine jv_call (pc' := 4) rfl (ml_here (I := I) (a := a) hX.1 hat (by omega)) (fun vq2 gq2 q2 => ?_)
        obtain ⟨rfl, rfl⟩ := q2
        show jx L xs _ 142 4 _ [.int (iI (c (a)))] _ _
        refine jv_bipush (pc' := 6) (n := 97) rfl rfl rfl ?_
        refine jv_isub (pc' := 7) (a := (c (a))) (b := 97) rfl rfl ?_
        rw [show (c (a)) - 97 = ((nm : Nat) : Int) by omega]
        refine jv_istore_n (pc' := 8) (k := 1) (x := (iI ((nm : Nat) : Int))) rfl rfl rfl rfl (Or.inr rfl) ?_
        refine jv_aload_n (pc' := 9) (k := 0) (x := 103) rfl rfl rfl rfl ?_
        refine jx_step (pc' := 10) rfl ?_
        refine jv_getI (pc' := 13) (c := 12) (k := 19) (v := (iI ((a : Nat) : Int))) rfl rfl rfl (fun _ _ => rfl) rfl rfl hat ?_
        refine jv_iconst (pc' := 14) (n := 1) rfl rfl ?_
        refine jv_iadd (pc' := 15) (a := ((a : Nat) : Int)) (b := 1) rfl rfl ?_
        refine jv_putI (pc' := 18) (c := 12) (k := 19) rfl rfl rfl rfl (fun _ _ _  => rfl) rfl rfl ?_
        refine jv_aload_n (pc' := 19) (k := 0) (x := 103) rfl rfl rfl rfl ?_
        have hm3 := nv_b c (a + 1)
        have hm4 := nd_le c (a + 1)
        refine jv_call (pc' := 22) rfl (ml_number_y (I := jm_u I 103 19 (iI (((a : Nat) : Int) + 1))) (a := a + 1) hX.1 rfl (by omega) (by omega)) (fun vq5 gq5 q5 => ?_)
        obtain ⟨rfl, rfl⟩ := q5
        show jx L xs _ 142 22 _ [.int (iI (nv c (a + 1)))] _ _
        rw [show nv c (a + 1) = ((w : Nat) : Int) by omega]
        refine jv_istore_n (pc' := 23) (k := 2) (x := (iI ((w : Nat) : Int))) rfl rfl rfl rfl (Or.inr rfl) ?_
        refine jv_aload_n (pc' := 24) (k := 0) (x := 103) rfl rfl rfl rfl ?_
        refine jv_bipush (pc' := 26) (n := 60) rfl rfl rfl ?_
        refine jv_call (pc' := 29) rfl (ml_takes_y (I := jm_u (jm_u I 103 19 (iI (((a : Nat) : Int) + 1))) 103 19 (iI ((a + 1 + nd c (a + 1) : Nat) : Int))) (x := 60) (a := a + 1 + nd c (a + 1)) (by omega) hX.1 rfl (by omega) (by omega)) (fun vq6 gq6 q6 => ?_)
        obtain ⟨rfl, rfl⟩ := q6
        show jx L xs _ 142 29 _ [.int (iI 1)] _ _
        refine jv_istore_n (pc' := 30) (k := 3) (x := (iI 1)) rfl rfl rfl rfl (Or.inr rfl) ?_
        refine jv_aload_n (pc' := 31) (k := 0) (x := 103) rfl rfl rfl rfl ?_
        refine jv_bipush (pc' := 33) (n := 61) rfl rfl rfl ?_
        refine jv_call (pc' := 36) rfl (ml_takes_n (I := jm_u (jm_u (jm_u I 103 19 (iI (((a : Nat) : Int) + 1))) 103 19 (iI ((a + 1 + nd c (a + 1) : Nat) : Int))) 103 19 (iI ((a + 1 + nd c (a + 1) + 1 : Nat) : Int))) (x := 61) (a := a + 1 + nd c (a + 1) + 1) (by omega) hX.1 rfl (by omega) (by omega)) (fun vq7 gq7 q7 => ?_)
        obtain ⟨rfl, rfl⟩ := q7
        show jx L xs _ 142 36 _ [.int (iI 0)] _ _
        refine jv_if_eq (t := 46) (pc' := 39) (a := 0) rfl rfl rfl (by omega) (fun hz_8 => ?_) (fun hz_8 => ?_)
        · skip
          refine jv_iconst (pc' := 47) (n := -1) rfl rfl ?_
          refine jv_istore (pc' := 49) (k := 4) (x := (iI (-1))) rfl rfl rfl (Or.inr rfl) ?_
          refine jv_iload (pc' := 51) (k := 4) (x := (iI (-1))) rfl rfl rfl ?_
          refine jv_if_ge (t := 67) (pc' := 54) (a := (-1)) rfl rfl rfl (by omega) (fun hz_9 => ?_) (fun hz_9 => ?_)
          · skip
            exact absurd hz_9 (by decide)
          · skip
            refine jv_aload_n (pc' := 55) (k := 0) (x := 103) rfl rfl rfl rfl ?_
            refine jv_bipush (pc' := 57) (n := 33) rfl rfl rfl ?_
            refine jv_call (pc' := 60) rfl (ml_takes_n (I := jm_u (jm_u (jm_u I 103 19 (iI (((a : Nat) : Int) + 1))) 103 19 (iI ((a + 1 + nd c (a + 1) : Nat) : Int))) 103 19 (iI ((a + 1 + nd c (a + 1) + 1 : Nat) : Int))) (x := 33) (a := a + 1 + nd c (a + 1) + 1) (by omega) hX.1 rfl (by omega) (by omega)) (fun vq10 gq10 q10 => ?_)
            obtain ⟨rfl, rfl⟩ := q10
            show jx L xs _ 142 60 _ [.int (iI 0)] _ _
            refine jv_if_eq (t := 67) (pc' := 63) (a := 0) rfl rfl rfl (by omega) (fun hz_11 => ?_) (fun hz_11 => ?_)
            · skip
              refine jv_iconst (pc' := 68) (n := 0) rfl rfl ?_
              refine jv_istore (pc' := 70) (k := 5) (x := (iI 0)) rfl rfl rfl (Or.inr rfl) ?_
              refine jv_aload_n (pc' := 71) (k := 0) (x := 103) rfl rfl rfl rfl ?_
              refine jv_iload_n (pc' := 72) (k := 1) (x := (iI ((nm : Nat) : Int))) rfl rfl rfl rfl ?_
              refine jv_call (pc' := 75) rfl (ml_steps_y (I := jm_u (jm_u (jm_u I 103 19 (iI (((a : Nat) : Int) + 1))) 103 19 (iI ((a + 1 + nd c (a + 1) : Nat) : Int))) 103 19 (iI ((a + 1 + nd c (a + 1) + 1 : Nat) : Int))) (M := M) (s := s) (nm := ((nm : Nat) : Int)) hX hM hV o1) (fun vq12 gq12 q12 => ?_)
              obtain ⟨Iq12, Mq12, rfl, rfl, rq12, tq12, Dq12, uq12⟩ := q12
              have Xq12 := MX_fr (I := jm_u (jm_u (jm_u I 103 19 (iI (((a : Nat) : Int) + 1))) 103 19 (iI ((a + 1 + nd c (a + 1) : Nat) : Int))) 103 19 (iI ((a + 1 + nd c (a + 1) + 1 : Nat) : Int))) hX (fr_w rq12 wM_1)
              have Vq12 := DV_S hV o1
              have epq12 : dS s 0 0 = ((pl : Nat) : Int) := hpl
              show jx L xs _ 142 75 _ [.int (iI 1)] _ _
              refine jv_if_ne (t := 79) (pc' := 78) (a := 1) rfl rfl rfl (by omega) (fun hz_13 => ?_) (fun hz_13 => ?_)
              · skip
                refine jv_aload_n (pc' := 80) (k := 0) (x := 103) rfl rfl rfl rfl ?_
                refine jv_call (pc' := 83) rfl (ml_leftBits (I := Iq12) (M := Mq12) (s := (dS s)) Xq12 Dq12 Vq12.1) (fun vq14 gq14 q14 => ?_)
                obtain ⟨rfl, rfl⟩ := q14
                show jx L xs _ 142 83 _ [.int (iI (8 * (sz : Int) - (dS s) 0 0))] _ _
                refine jv_iload_n (pc' := 84) (k := 2) (x := (iI ((w : Nat) : Int))) rfl rfl rfl rfl ?_
                refine jv_ic_ge (t := 101) (pc' := 87) (a := (8 * (sz : Int) - (dS s) 0 0)) (b := ((w : Nat) : Int)) rfl rfl rfl (by omega) (fun hz_15 => ?_) (fun hz_15 => ?_)
                · skip
                  refine jv_iload_n (pc' := 102) (k := 3) (x := (iI 1)) rfl rfl rfl rfl ?_
                  refine jv_if_eq (t := 117) (pc' := 105) (a := 1) rfl rfl rfl (by omega) (fun hz_16 => ?_) (fun hz_16 => ?_)
                  · skip
                    exact absurd hz_16 (by decide)
                  · skip
                    refine jv_aload_n (pc' := 106) (k := 0) (x := 103) rfl rfl rfl rfl ?_
                    refine jv_aload_n (pc' := 107) (k := 0) (x := 103) rfl rfl rfl rfl ?_
                    refine jv_getI (pc' := 110) (c := 12) (k := 30) (v := (iI ((pl : Nat) : Int))) rfl rfl rfl (fun _ _ => rfl) rfl rfl (Dq12.1.trans (congrArg iI hpl)) ?_
                    refine jv_iload_n (pc' := 111) (k := 2) (x := (iI ((w : Nat) : Int))) rfl rfl rfl rfl ?_
                    have hw8 : 8 * (w / 8) = w := by omega
                    refine jv_call (pc' := 114) rfl (show jc L xs _ 140 [.ref 103, .int (iI ((pl : Nat) : Int)), .int (iI ((w : Nat) : Int))] (jx_G j Iq12 Mq12 p) (fun v g1 => v = some (.long (lI ((tv B pl w (w / 8) : Nat) : Int))) ∧ g1 = (jx_G j Iq12 Mq12 p)) from hw8 ▸ (by have := ml_turnedAt (L := L) (xs := xs) (d := d) (j := j) (I := Iq12) (M := Mq12) (p := p) (B := B) (a := pl) (m := w / 8) Xq12.2.1 Xq12.2.2.1 (by omega) (by omega); rw [Nat.mul_div_cancel_left _ (by decide : 0 < 8)]; exact this)) (fun vq17 gq17 q17 => ?_)
                    obtain ⟨rfl, rfl⟩ := q17
                    show jx L xs _ 142 114 _ [.long (lI ((tv B pl w (w / 8) : Nat) : Int))] _ _
                    refine jx_step (pc' := 126) rfl ?_
                    refine jv_lstore (pc' := 128) (k := 6) (x := (lI ((tv B pl w (w / 8) : Nat) : Int))) rfl rfl rfl (Or.inr rfl) ?_
                    have hvv : v = tv B pl w (w / 8) := hv.trans (fv_1 y2)
                    refine jv_iload (pc' := 130) (k := 5) (x := (iI 0)) rfl rfl rfl ?_
                    refine jv_if_eq (t := 151) (pc' := 133) (a := 0) rfl rfl rfl (by omega) (fun hz_18 => ?_) (fun hz_18 => ?_)
                    · skip
                      refine jv_iconst (pc' := 152) (n := 0) rfl rfl ?_
                      refine jv_istore (pc' := 154) (k := 8) (x := (iI 0)) rfl rfl rfl (Or.inr rfl) ?_
                      refine jv_iload (pc' := 156) (k := 4) (x := (iI (-1))) rfl rfl rfl ?_
                      refine jv_if_lt (t := 172) (pc' := 159) (a := (-1)) rfl rfl rfl (by omega) (fun hz_19 => ?_) (fun hz_19 => ?_)
                      · skip
                        refine jv_iconst (pc' := 173) (n := 0) rfl rfl ?_
                        refine jv_istore (pc' := 175) (k := 9) (x := (iI 0)) rfl rfl rfl (Or.inr rfl) ?_
                        refine jv_aload_n (pc' := 176) (k := 0) (x := 103) rfl rfl rfl rfl ?_
                        refine jv_iload_n (pc' := 177) (k := 1) (x := (iI ((nm : Nat) : Int))) rfl rfl rfl rfl ?_
                        refine jv_iload_n (pc' := 178) (k := 2) (x := (iI ((w : Nat) : Int))) rfl rfl rfl rfl ?_
                        refine jv_lload (pc' := 180) (k := 6) (x := (lI ((tv B pl w (w / 8) : Nat) : Int))) rfl rfl rfl ?_
                        refine jv_iload (pc' := 182) (k := 9) (x := (iI 0)) rfl rfl rfl ?_
                        refine jv_if_eq (t := 189) (pc' := 185) (a := 0) rfl rfl rfl (by omega) (fun hz_20 => ?_) (fun hz_20 => ?_)
                        · skip
                          refine jv_iload (pc' := 191) (k := 8) (x := (iI 0)) rfl rfl rfl ?_
                          refine jv_if_eq (t := 198) (pc' := 194) (a := 0) rfl rfl rfl (by omega) (fun hz_21 => ?_) (fun hz_21 => ?_)
                          · skip
                            refine jv_iconst (pc' := 199) (n := 0) rfl rfl ?_
                            obtain ⟨nq22, hnq22, hmq22⟩ := DV_n Vq12.1 hlim
                            refine jv_call (pc' := 202) rfl (ml_enter (I := Iq12) (M := Mq12) (s := (dS s)) Xq12 Dq12 Vq12.1 hnq22 hmq22) (fun vq22 gq22 q22 => ?_)
                            obtain ⟨Iq22, Mq22, rfl, rfl, Dq22, uq22, wq22⟩ := q22
                            have rq22 := fr_w uq22 wM1_E
                            have tq22 := fr_w wq22 wN1_E
                            have Xq22 := MX_fr (I := Iq12) Xq12 (fr_w rq22 wM_1)
                            show jx L xs _ 142 202 _ [] _ _
                            refine jv_aload_n (pc' := 203) (k := 0) (x := 103) rfl rfl rfl rfl ?_
                            refine jv_iload (pc' := 205) (k := 9) (x := (iI 0)) rfl rfl rfl ?_
                            refine jv_putZ (pc' := 208) (c := 12) (k := 33) rfl rfl rfl rfl (fun _ _ _ hz => if_pos hz) rfl rfl (by first | exact Or.inl rfl | exact Or.inr rfl) ?_
                            refine jv_aload_n (pc' := 209) (k := 0) (x := 103) rfl rfl rfl rfl ?_
                            refine jv_aload_n (pc' := 210) (k := 0) (x := 103) rfl rfl rfl rfl ?_
                            refine jv_getI (pc' := 213) (c := 12) (k := 30) (v := (iI ((dE (dS s) l ((nm : Nat) : Int) ((w : Nat) : Int) ((tv B pl w (w / 8) : Nat) : Int) 0) 0 0))) rfl rfl rfl (fun _ _ => rfl) rfl rfl Dq22.1 ?_
                            refine jv_iload_n (pc' := 214) (k := 2) (x := (iI ((w : Nat) : Int))) rfl rfl rfl rfl ?_
                            refine jv_iadd (pc' := 215) (a := ((dE (dS s) l ((nm : Nat) : Int) ((w : Nat) : Int) ((tv B pl w (w / 8) : Nat) : Int) 0) 0 0)) (b := ((w : Nat) : Int)) rfl rfl ?_
                            refine jv_putI (pc' := 218) (c := 12) (k := 30) rfl rfl rfl rfl (fun _ _ _  => rfl) rfl rfl ?_
                            refine jv_aload_n (pc' := 219) (k := 0) (x := 103) rfl rfl rfl rfl ?_
                            refine jv_getR (pc' := 222) (c := 12) (k := 35) (v := 125) rfl rfl rfl (fun _ _ => rfl) rfl rfl (jR_103_35 _) ?_
                            refine jv_iload_n (pc' := 223) (k := 1) (x := (iI ((nm : Nat) : Int))) rfl rfl rfl rfl ?_
                            refine jv_lload (pc' := 225) (k := 6) (x := (lI ((tv B pl w (w / 8) : Nat) : Int))) rfl rfl rfl ?_
                            refine jv_lastore (pc' := 226) (n := 8) (e := ((nm : Nat) : Int)) (v := (lI ((tv B pl w (w / 8) : Nat) : Int))) rfl rfl rfl rfl rfl (by omega) ?_
                            refine jv_aload_n (pc' := 227) (k := 0) (x := 103) rfl rfl rfl rfl ?_
                            refine jv_getR (pc' := 230) (c := 12) (k := 36) (v := 126) rfl rfl rfl (fun _ _ => rfl) rfl rfl (jR_103_36 _) ?_
                            refine jv_iload_n (pc' := 231) (k := 1) (x := (iI ((nm : Nat) : Int))) rfl rfl rfl rfl ?_
                            refine jv_iconst (pc' := 232) (n := 1) rfl rfl ?_
                            refine jv_bastore (pc' := 233) (n := 8) (e := ((nm : Nat) : Int)) (v := (iI 1)) rfl rfl rfl rfl rfl (by omega) (by first | exact Or.inl rfl | exact Or.inr rfl) ?_
                            refine jv_retV rfl rfl ⟨_, _, rfl, ?_⟩
                            first
                            | (exfalso; omega)
                            | (have hv2 : v = tv B pl w (w / 8) := hv.trans (fv_1 y2)
                               rw [u3] at hmk
                               have em : mk = 0 := hmk.trans (fm_0 rfl)
                               subst em
                               subst hok
                               subst hv2
                               exact ⟨_, _, rfl, rfl, (fr_u (by simp [wM1]) (fr_u (by simp [wM1]) (fr_u (by simp [wM1]) (fr_t (fr_t (fr_u (by simp [wM1]) (fr_u (by simp [wM1]) (fr_u (by simp [wM1]) (fr_r _)))) rq12) rq22)))), (fr_u (by simp [wN1]) (fr_t (fr_t (fr_r _) tq12) tq22)), DM_F Dq22 rfl rfl (by first | rfl | omega), ((uq22 103 19 (by simp)).trans ((uq12 103 19 (by simp)).trans rfl)), rfl⟩)
                          · skip
                            exact absurd hz_21 (by decide)
                        · skip
                          exact absurd hz_20 (by decide)
                      · skip
                        exact absurd hz_19 (by decide)
                    · skip
                      exact absurd hz_18 (by decide)
                · skip
                  exfalso; omega
              · skip
                exact absurd hz_13 (by decide)
            · skip
              exact absurd hz_11 (by decide)
        · skip
          exact absurd hz_8 (by decide)
    · rcases x7 with ⟨u1, u2, u3, u4, rfl⟩ | ⟨u1, u3, rfl⟩ | ⟨u1, u2, u3, rfl⟩
      · skip
        refine jv_aload_n (pc' := 1) (k := 0) (x := 103) rfl rfl rfl rfl ?_
        have hm1 := MT_c hX.1 (a)
        refine jv_call (pc' := 4) rfl (ml_here (I := I) (a := a) hX.1 hat (by omega)) (fun vq2 gq2 q2 => ?_)
        obtain ⟨rfl, rfl⟩ := q2
        show jx L xs _ 142 4 _ [.int (iI (c (a)))] _ _
        refine jv_bipush (pc' := 6) (n := 97) rfl rfl rfl ?_
        refine jv_isub (pc' := 7) (a := (c (a))) (b := 97) rfl rfl ?_
        rw [show (c (a)) - 97 = ((nm : Nat) : Int) by omega]
        refine jv_istore_n (pc' := 8) (k := 1) (x := (iI ((nm : Nat) : Int))) rfl rfl rfl rfl (Or.inr rfl) ?_
        refine jv_aload_n (pc' := 9) (k := 0) (x := 103) rfl rfl rfl rfl ?_
        refine jx_step (pc' := 10) rfl ?_
        refine jv_getI (pc' := 13) (c := 12) (k := 19) (v := (iI ((a : Nat) : Int))) rfl rfl rfl (fun _ _ => rfl) rfl rfl hat ?_
        refine jv_iconst (pc' := 14) (n := 1) rfl rfl ?_
        refine jv_iadd (pc' := 15) (a := ((a : Nat) : Int)) (b := 1) rfl rfl ?_
        refine jv_putI (pc' := 18) (c := 12) (k := 19) rfl rfl rfl rfl (fun _ _ _  => rfl) rfl rfl ?_
        refine jv_aload_n (pc' := 19) (k := 0) (x := 103) rfl rfl rfl rfl ?_
        have hm3 := nv_b c (a + 1)
        have hm4 := nd_le c (a + 1)
        refine jv_call (pc' := 22) rfl (ml_number_y (I := jm_u I 103 19 (iI (((a : Nat) : Int) + 1))) (a := a + 1) hX.1 rfl (by omega) (by omega)) (fun vq5 gq5 q5 => ?_)
        obtain ⟨rfl, rfl⟩ := q5
        show jx L xs _ 142 22 _ [.int (iI (nv c (a + 1)))] _ _
        rw [show nv c (a + 1) = ((w : Nat) : Int) by omega]
        refine jv_istore_n (pc' := 23) (k := 2) (x := (iI ((w : Nat) : Int))) rfl rfl rfl rfl (Or.inr rfl) ?_
        refine jv_aload_n (pc' := 24) (k := 0) (x := 103) rfl rfl rfl rfl ?_
        refine jv_bipush (pc' := 26) (n := 60) rfl rfl rfl ?_
        refine jv_call (pc' := 29) rfl (ml_takes_n (I := jm_u (jm_u I 103 19 (iI (((a : Nat) : Int) + 1))) 103 19 (iI ((a + 1 + nd c (a + 1) : Nat) : Int))) (x := 60) (a := a + 1 + nd c (a + 1)) (by omega) hX.1 rfl (by omega) (by omega)) (fun vq6 gq6 q6 => ?_)
        obtain ⟨rfl, rfl⟩ := q6
        show jx L xs _ 142 29 _ [.int (iI 0)] _ _
        refine jv_istore_n (pc' := 30) (k := 3) (x := (iI 0)) rfl rfl rfl rfl (Or.inr rfl) ?_
        refine jv_aload_n (pc' := 31) (k := 0) (x := 103) rfl rfl rfl rfl ?_
        refine jv_bipush (pc' := 33) (n := 61) rfl rfl rfl ?_
        refine jv_call (pc' := 36) rfl (ml_takes_y (I := jm_u (jm_u I 103 19 (iI (((a : Nat) : Int) + 1))) 103 19 (iI ((a + 1 + nd c (a + 1) : Nat) : Int))) (x := 61) (a := a + 1 + nd c (a + 1)) (by omega) hX.1 rfl (by omega) (by omega)) (fun vq7 gq7 q7 => ?_)
        obtain ⟨rfl, rfl⟩ := q7
        show jx L xs _ 142 36 _ [.int (iI 1)] _ _
        refine jv_if_eq (t := 46) (pc' := 39) (a := 1) rfl rfl rfl (by omega) (fun hz_8 => ?_) (fun hz_8 => ?_)
        · skip
          exact absurd hz_8 (by decide)
        · skip
          refine jv_aload_n (pc' := 40) (k := 0) (x := 103) rfl rfl rfl rfl ?_
          have hm9 := nv_b c (a + 1 + nd c (a + 1) + 1)
          have hm10 := nd_le c (a + 1 + nd c (a + 1) + 1)
          refine jv_call (pc' := 43) rfl (ml_number_y (I := jm_u (jm_u (jm_u I 103 19 (iI (((a : Nat) : Int) + 1))) 103 19 (iI ((a + 1 + nd c (a + 1) : Nat) : Int))) 103 19 (iI ((a + 1 + nd c (a + 1) + 1 : Nat) : Int))) (a := a + 1 + nd c (a + 1) + 1) hX.1 rfl (by omega) (by omega)) (fun vq11 gq11 q11 => ?_)
          obtain ⟨rfl, rfl⟩ := q11
          show jx L xs _ 142 43 _ [.int (iI (nv c (a + 1 + nd c (a + 1) + 1)))] _ _
          refine jx_step (pc' := 47) rfl ?_
          refine jv_istore (pc' := 49) (k := 4) (x := (iI (nv c (a + 1 + nd c (a + 1) + 1)))) rfl rfl rfl (Or.inr rfl) ?_
          refine jv_iload (pc' := 51) (k := 4) (x := (iI (nv c (a + 1 + nd c (a + 1) + 1)))) rfl rfl rfl ?_
          refine jv_if_ge (t := 67) (pc' := 54) (a := (nv c (a + 1 + nd c (a + 1) + 1))) rfl rfl rfl (by omega) (fun hz_12 => ?_) (fun hz_12 => ?_)
          · skip
            refine jv_iconst (pc' := 68) (n := 0) rfl rfl ?_
            refine jv_istore (pc' := 70) (k := 5) (x := (iI 0)) rfl rfl rfl (Or.inr rfl) ?_
            refine jv_aload_n (pc' := 71) (k := 0) (x := 103) rfl rfl rfl rfl ?_
            refine jv_iload_n (pc' := 72) (k := 1) (x := (iI ((nm : Nat) : Int))) rfl rfl rfl rfl ?_
            refine jv_call (pc' := 75) rfl (ml_steps_y (I := jm_u (jm_u (jm_u (jm_u I 103 19 (iI (((a : Nat) : Int) + 1))) 103 19 (iI ((a + 1 + nd c (a + 1) : Nat) : Int))) 103 19 (iI ((a + 1 + nd c (a + 1) + 1 : Nat) : Int))) 103 19 (iI ((a + 1 + nd c (a + 1) + 1 + nd c (a + 1 + nd c (a + 1) + 1) : Nat) : Int))) (M := M) (s := s) (nm := ((nm : Nat) : Int)) hX hM hV o1) (fun vq13 gq13 q13 => ?_)
            obtain ⟨Iq13, Mq13, rfl, rfl, rq13, tq13, Dq13, uq13⟩ := q13
            have Xq13 := MX_fr (I := jm_u (jm_u (jm_u (jm_u I 103 19 (iI (((a : Nat) : Int) + 1))) 103 19 (iI ((a + 1 + nd c (a + 1) : Nat) : Int))) 103 19 (iI ((a + 1 + nd c (a + 1) + 1 : Nat) : Int))) 103 19 (iI ((a + 1 + nd c (a + 1) + 1 + nd c (a + 1 + nd c (a + 1) + 1) : Nat) : Int))) hX (fr_w rq13 wM_1)
            have Vq13 := DV_S hV o1
            have epq13 : dS s 0 0 = ((pl : Nat) : Int) := hpl
            show jx L xs _ 142 75 _ [.int (iI 1)] _ _
            refine jv_if_ne (t := 79) (pc' := 78) (a := 1) rfl rfl rfl (by omega) (fun hz_14 => ?_) (fun hz_14 => ?_)
            · skip
              refine jv_aload_n (pc' := 80) (k := 0) (x := 103) rfl rfl rfl rfl ?_
              refine jv_call (pc' := 83) rfl (ml_leftBits (I := Iq13) (M := Mq13) (s := (dS s)) Xq13 Dq13 Vq13.1) (fun vq15 gq15 q15 => ?_)
              obtain ⟨rfl, rfl⟩ := q15
              show jx L xs _ 142 83 _ [.int (iI (8 * (sz : Int) - (dS s) 0 0))] _ _
              refine jv_iload_n (pc' := 84) (k := 2) (x := (iI ((w : Nat) : Int))) rfl rfl rfl rfl ?_
              refine jv_ic_ge (t := 101) (pc' := 87) (a := (8 * (sz : Int) - (dS s) 0 0)) (b := ((w : Nat) : Int)) rfl rfl rfl (by omega) (fun hz_16 => ?_) (fun hz_16 => ?_)
              · skip
                refine jv_iload_n (pc' := 102) (k := 3) (x := (iI 0)) rfl rfl rfl rfl ?_
                refine jv_if_eq (t := 117) (pc' := 105) (a := 0) rfl rfl rfl (by omega) (fun hz_17 => ?_) (fun hz_17 => ?_)
                · skip
                  refine jv_aload_n (pc' := 118) (k := 0) (x := 103) rfl rfl rfl rfl ?_
                  refine jv_aload_n (pc' := 119) (k := 0) (x := 103) rfl rfl rfl rfl ?_
                  refine jv_getI (pc' := 122) (c := 12) (k := 30) (v := (iI ((pl : Nat) : Int))) rfl rfl rfl (fun _ _ => rfl) rfl rfl (Dq13.1.trans (congrArg iI hpl)) ?_
                  refine jv_iload_n (pc' := 123) (k := 2) (x := (iI ((w : Nat) : Int))) rfl rfl rfl rfl ?_
                  refine jv_call (pc' := 126) rfl (ml_bitsAt (I := Iq13) (M := Mq13) (a := pl) (n := w) Xq13.2.1 Xq13.2.2.1 (by omega) (by omega)) (fun vq18 gq18 q18 => ?_)
                  obtain ⟨rfl, rfl⟩ := q18
                  show jx L xs _ 142 126 _ [.long (lI ((bv B pl w : Nat) : Int))] _ _
                  refine jv_lstore (pc' := 128) (k := 6) (x := (lI ((bv B pl w : Nat) : Int))) rfl rfl rfl (Or.inr rfl) ?_
                  have hvv : v = bv B pl w := hv.trans (fv_0 (by omega))
                  refine jv_iload (pc' := 130) (k := 5) (x := (iI 0)) rfl rfl rfl ?_
                  refine jv_if_eq (t := 151) (pc' := 133) (a := 0) rfl rfl rfl (by omega) (fun hz_19 => ?_) (fun hz_19 => ?_)
                  · skip
                    refine jv_iconst (pc' := 152) (n := 0) rfl rfl ?_
                    refine jv_istore (pc' := 154) (k := 8) (x := (iI 0)) rfl rfl rfl (Or.inr rfl) ?_
                    refine jv_iload (pc' := 156) (k := 4) (x := (iI (nv c (a + 1 + nd c (a + 1) + 1)))) rfl rfl rfl ?_
                    refine jv_if_lt (t := 172) (pc' := 159) (a := (nv c (a + 1 + nd c (a + 1) + 1))) rfl rfl rfl (by omega) (fun hz_20 => ?_) (fun hz_20 => ?_)
                    · skip
                      refine jv_iconst (pc' := 173) (n := 0) rfl rfl ?_
                      refine jv_istore (pc' := 175) (k := 9) (x := (iI 0)) rfl rfl rfl (Or.inr rfl) ?_
                      refine jv_aload_n (pc' := 176) (k := 0) (x := 103) rfl rfl rfl rfl ?_
                      refine jv_iload_n (pc' := 177) (k := 1) (x := (iI ((nm : Nat) : Int))) rfl rfl rfl rfl ?_
                      refine jv_iload_n (pc' := 178) (k := 2) (x := (iI ((w : Nat) : Int))) rfl rfl rfl rfl ?_
                      refine jv_lload (pc' := 180) (k := 6) (x := (lI ((bv B pl w : Nat) : Int))) rfl rfl rfl ?_
                      refine jv_iload (pc' := 182) (k := 9) (x := (iI 0)) rfl rfl rfl ?_
                      refine jv_if_eq (t := 189) (pc' := 185) (a := 0) rfl rfl rfl (by omega) (fun hz_21 => ?_) (fun hz_21 => ?_)
                      · skip
                        refine jv_iload (pc' := 191) (k := 8) (x := (iI 0)) rfl rfl rfl ?_
                        refine jv_if_eq (t := 198) (pc' := 194) (a := 0) rfl rfl rfl (by omega) (fun hz_22 => ?_) (fun hz_22 => ?_)
                        · skip
                          refine jv_iconst (pc' := 199) (n := 0) rfl rfl ?_
                          obtain ⟨nq23, hnq23, hmq23⟩ := DV_n Vq13.1 hlim
                          refine jv_call (pc' := 202) rfl (ml_enter (I := Iq13) (M := Mq13) (s := (dS s)) Xq13 Dq13 Vq13.1 hnq23 hmq23) (fun vq23 gq23 q23 => ?_)
                          obtain ⟨Iq23, Mq23, rfl, rfl, Dq23, uq23, wq23⟩ := q23
                          have rq23 := fr_w uq23 wM1_E
                          have tq23 := fr_w wq23 wN1_E
                          have Xq23 := MX_fr (I := Iq13) Xq13 (fr_w rq23 wM_1)
                          show jx L xs _ 142 202 _ [] _ _
                          refine jv_aload_n (pc' := 203) (k := 0) (x := 103) rfl rfl rfl rfl ?_
                          refine jv_iload (pc' := 205) (k := 9) (x := (iI 0)) rfl rfl rfl ?_
                          refine jv_putZ (pc' := 208) (c := 12) (k := 33) rfl rfl rfl rfl (fun _ _ _ hz => if_pos hz) rfl rfl (by first | exact Or.inl rfl | exact Or.inr rfl) ?_
                          refine jv_aload_n (pc' := 209) (k := 0) (x := 103) rfl rfl rfl rfl ?_
                          refine jv_aload_n (pc' := 210) (k := 0) (x := 103) rfl rfl rfl rfl ?_
                          refine jv_getI (pc' := 213) (c := 12) (k := 30) (v := (iI ((dE (dS s) l ((nm : Nat) : Int) ((w : Nat) : Int) ((bv B pl w : Nat) : Int) 0) 0 0))) rfl rfl rfl (fun _ _ => rfl) rfl rfl Dq23.1 ?_
                          refine jv_iload_n (pc' := 214) (k := 2) (x := (iI ((w : Nat) : Int))) rfl rfl rfl rfl ?_
                          refine jv_iadd (pc' := 215) (a := ((dE (dS s) l ((nm : Nat) : Int) ((w : Nat) : Int) ((bv B pl w : Nat) : Int) 0) 0 0)) (b := ((w : Nat) : Int)) rfl rfl ?_
                          refine jv_putI (pc' := 218) (c := 12) (k := 30) rfl rfl rfl rfl (fun _ _ _  => rfl) rfl rfl ?_
                          refine jv_aload_n (pc' := 219) (k := 0) (x := 103) rfl rfl rfl rfl ?_
                          refine jv_getR (pc' := 222) (c := 12) (k := 35) (v := 125) rfl rfl rfl (fun _ _ => rfl) rfl rfl (jR_103_35 _) ?_
                          refine jv_iload_n (pc' := 223) (k := 1) (x := (iI ((nm : Nat) : Int))) rfl rfl rfl rfl ?_
                          refine jv_lload (pc' := 225) (k := 6) (x := (lI ((bv B pl w : Nat) : Int))) rfl rfl rfl ?_
                          refine jv_lastore (pc' := 226) (n := 8) (e := ((nm : Nat) : Int)) (v := (lI ((bv B pl w : Nat) : Int))) rfl rfl rfl rfl rfl (by omega) ?_
                          refine jv_aload_n (pc' := 227) (k := 0) (x := 103) rfl rfl rfl rfl ?_
                          refine jv_getR (pc' := 230) (c := 12) (k := 36) (v := 126) rfl rfl rfl (fun _ _ => rfl) rfl rfl (jR_103_36 _) ?_
                          refine jv_iload_n (pc' := 231) (k := 1) (x := (iI ((nm : Nat) : Int))) rfl rfl rfl rfl ?_
                          refine jv_iconst (pc' := 232) (n := 1) rfl rfl ?_
                          refine jv_bastore (pc' := 233) (n := 8) (e := ((nm : Nat) : Int)) (v := (iI 1)) rfl rfl rfl rfl rfl (by omega) (by first | exact Or.inl rfl | exact Or.inr rfl) ?_
                          refine jv_retV rfl rfl ⟨_, _, rfl, ?_⟩
                          first
                          | (exfalso; omega)
                          | (have hv2 : v = bv B pl w := hv.trans (fv_0 (by omega))
                             rw [u3] at hmk
                             have em : mk = 0 := hmk.trans ((fm_1 rfl).trans (if_pos (by omega)))
                             subst em
                             subst hok
                             subst hv2
                             exact ⟨_, _, rfl, rfl, (fr_u (by simp [wM1]) (fr_u (by simp [wM1]) (fr_u (by simp [wM1]) (fr_t (fr_t (fr_u (by simp [wM1]) (fr_u (by simp [wM1]) (fr_u (by simp [wM1]) (fr_u (by simp [wM1]) (fr_r _))))) rq13) rq23)))), (fr_u (by simp [wN1]) (fr_t (fr_t (fr_r _) tq13) tq23)), DM_F Dq23 rfl rfl (by first | rfl | omega), ((uq23 103 19 (by simp)).trans ((uq13 103 19 (by simp)).trans rfl)), rfl⟩)
                        · skip
                          exact absurd hz_22 (by decide)
                      · skip
                        exact absurd hz_21 (by decide)
                    · skip
                      refine jv_lload (pc' := 161) (k := 6) (x := (lI ((bv B pl w : Nat) : Int))) rfl rfl rfl ?_
                      refine jv_iload (pc' := 163) (k := 4) (x := (iI (nv c (a + 1 + nd c (a + 1) + 1)))) rfl rfl rfl ?_
                      refine jv_i2l (pc' := 164) (a := (nv c (a + 1 + nd c (a + 1) + 1))) rfl rfl (by omega) ?_
                      refine jv_lc_eq (t := 172) (pc' := 168) (a := ((bv B pl w : Nat) : Int)) (b := (nv c (a + 1 + nd c (a + 1) + 1))) rfl rfl rfl rfl rfl (by omega) (fun hz_24 => ?_) (fun hz_24 => ?_)
                      · skip
                        refine jv_iconst (pc' := 173) (n := 0) rfl rfl ?_
                        refine jv_istore (pc' := 175) (k := 9) (x := (iI 0)) rfl rfl rfl (Or.inr rfl) ?_
                        refine jv_aload_n (pc' := 176) (k := 0) (x := 103) rfl rfl rfl rfl ?_
                        refine jv_iload_n (pc' := 177) (k := 1) (x := (iI ((nm : Nat) : Int))) rfl rfl rfl rfl ?_
                        refine jv_iload_n (pc' := 178) (k := 2) (x := (iI ((w : Nat) : Int))) rfl rfl rfl rfl ?_
                        refine jv_lload (pc' := 180) (k := 6) (x := (lI ((bv B pl w : Nat) : Int))) rfl rfl rfl ?_
                        refine jv_iload (pc' := 182) (k := 9) (x := (iI 0)) rfl rfl rfl ?_
                        refine jv_if_eq (t := 189) (pc' := 185) (a := 0) rfl rfl rfl (by omega) (fun hz_25 => ?_) (fun hz_25 => ?_)
                        · skip
                          refine jv_iload (pc' := 191) (k := 8) (x := (iI 0)) rfl rfl rfl ?_
                          refine jv_if_eq (t := 198) (pc' := 194) (a := 0) rfl rfl rfl (by omega) (fun hz_26 => ?_) (fun hz_26 => ?_)
                          · skip
                            refine jv_iconst (pc' := 199) (n := 0) rfl rfl ?_
                            obtain ⟨nq27, hnq27, hmq27⟩ := DV_n Vq13.1 hlim
                            refine jv_call (pc' := 202) rfl (ml_enter (I := Iq13) (M := Mq13) (s := (dS s)) Xq13 Dq13 Vq13.1 hnq27 hmq27) (fun vq27 gq27 q27 => ?_)
                            obtain ⟨Iq27, Mq27, rfl, rfl, Dq27, uq27, wq27⟩ := q27
                            have rq27 := fr_w uq27 wM1_E
                            have tq27 := fr_w wq27 wN1_E
                            have Xq27 := MX_fr (I := Iq13) Xq13 (fr_w rq27 wM_1)
                            show jx L xs _ 142 202 _ [] _ _
                            refine jv_aload_n (pc' := 203) (k := 0) (x := 103) rfl rfl rfl rfl ?_
                            refine jv_iload (pc' := 205) (k := 9) (x := (iI 0)) rfl rfl rfl ?_
                            refine jv_putZ (pc' := 208) (c := 12) (k := 33) rfl rfl rfl rfl (fun _ _ _ hz => if_pos hz) rfl rfl (by first | exact Or.inl rfl | exact Or.inr rfl) ?_
                            refine jv_aload_n (pc' := 209) (k := 0) (x := 103) rfl rfl rfl rfl ?_
                            refine jv_aload_n (pc' := 210) (k := 0) (x := 103) rfl rfl rfl rfl ?_
                            refine jv_getI (pc' := 213) (c := 12) (k := 30) (v := (iI ((dE (dS s) l ((nm : Nat) : Int) ((w : Nat) : Int) ((bv B pl w : Nat) : Int) 0) 0 0))) rfl rfl rfl (fun _ _ => rfl) rfl rfl Dq27.1 ?_
                            refine jv_iload_n (pc' := 214) (k := 2) (x := (iI ((w : Nat) : Int))) rfl rfl rfl rfl ?_
                            refine jv_iadd (pc' := 215) (a := ((dE (dS s) l ((nm : Nat) : Int) ((w : Nat) : Int) ((bv B pl w : Nat) : Int) 0) 0 0)) (b := ((w : Nat) : Int)) rfl rfl ?_
                            refine jv_putI (pc' := 218) (c := 12) (k := 30) rfl rfl rfl rfl (fun _ _ _  => rfl) rfl rfl ?_
                            refine jv_aload_n (pc' := 219) (k := 0) (x := 103) rfl rfl rfl rfl ?_
                            refine jv_getR (pc' := 222) (c := 12) (k := 35) (v := 125) rfl rfl rfl (fun _ _ => rfl) rfl rfl (jR_103_35 _) ?_
                            refine jv_iload_n (pc' := 223) (k := 1) (x := (iI ((nm : Nat) : Int))) rfl rfl rfl rfl ?_
                            refine jv_lload (pc' := 225) (k := 6) (x := (lI ((bv B pl w : Nat) : Int))) rfl rfl rfl ?_
                            refine jv_lastore (pc' := 226) (n := 8) (e := ((nm : Nat) : Int)) (v := (lI ((bv B pl w : Nat) : Int))) rfl rfl rfl rfl rfl (by omega) ?_
                            refine jv_aload_n (pc' := 227) (k := 0) (x := 103) rfl rfl rfl rfl ?_
                            refine jv_getR (pc' := 230) (c := 12) (k := 36) (v := 126) rfl rfl rfl (fun _ _ => rfl) rfl rfl (jR_103_36 _) ?_
                            refine jv_iload_n (pc' := 231) (k := 1) (x := (iI ((nm : Nat) : Int))) rfl rfl rfl rfl ?_
                            refine jv_iconst (pc' := 232) (n := 1) rfl rfl ?_
                            refine jv_bastore (pc' := 233) (n := 8) (e := ((nm : Nat) : Int)) (v := (iI 1)) rfl rfl rfl rfl rfl (by omega) (by first | exact Or.inl rfl | exact Or.inr rfl) ?_
                            refine jv_retV rfl rfl ⟨_, _, rfl, ?_⟩
                            first
                            | (exfalso; omega)
                            | (have hv2 : v = bv B pl w := hv.trans (fv_0 (by omega))
                               rw [u3] at hmk
                               have em : mk = 0 := hmk.trans ((fm_1 rfl).trans (if_pos (by omega)))
                               subst em
                               subst hok
                               subst hv2
                               exact ⟨_, _, rfl, rfl, (fr_u (by simp [wM1]) (fr_u (by simp [wM1]) (fr_u (by simp [wM1]) (fr_t (fr_t (fr_u (by simp [wM1]) (fr_u (by simp [wM1]) (fr_u (by simp [wM1]) (fr_u (by simp [wM1]) (fr_r _))))) rq13) rq27)))), (fr_u (by simp [wN1]) (fr_t (fr_t (fr_r _) tq13) tq27)), DM_F Dq27 rfl rfl (by first | rfl | omega), ((uq27 103 19 (by simp)).trans ((uq13 103 19 (by simp)).trans rfl)), rfl⟩)
                          · skip
                            exact absurd hz_26 (by decide)
                        · skip
                          exact absurd hz_25 (by decide)
                      · skip
                        refine jv_iconst (pc' := 169) (n := 1) rfl rfl ?_
                        refine jx_step (pc' := 173) rfl ?_
                        refine jv_istore (pc' := 175) (k := 9) (x := (iI 1)) rfl rfl rfl (Or.inr rfl) ?_
                        refine jv_aload_n (pc' := 176) (k := 0) (x := 103) rfl rfl rfl rfl ?_
                        refine jv_iload_n (pc' := 177) (k := 1) (x := (iI ((nm : Nat) : Int))) rfl rfl rfl rfl ?_
                        refine jv_iload_n (pc' := 178) (k := 2) (x := (iI ((w : Nat) : Int))) rfl rfl rfl rfl ?_
                        refine jv_lload (pc' := 180) (k := 6) (x := (lI ((bv B pl w : Nat) : Int))) rfl rfl rfl ?_
                        refine jv_iload (pc' := 182) (k := 9) (x := (iI 1)) rfl rfl rfl ?_
                        refine jv_if_eq (t := 189) (pc' := 185) (a := 1) rfl rfl rfl (by omega) (fun hz_28 => ?_) (fun hz_28 => ?_)
                        · skip
                          exact absurd hz_28 (by decide)
                        · skip
                          refine jv_iconst (pc' := 186) (n := 2) rfl rfl ?_
                          refine jx_step (pc' := 199) rfl ?_
                          obtain ⟨nq29, hnq29, hmq29⟩ := DV_n Vq13.1 hlim
                          refine jv_call (pc' := 202) rfl (ml_enter (I := Iq13) (M := Mq13) (s := (dS s)) Xq13 Dq13 Vq13.1 hnq29 hmq29) (fun vq29 gq29 q29 => ?_)
                          obtain ⟨Iq29, Mq29, rfl, rfl, Dq29, uq29, wq29⟩ := q29
                          have rq29 := fr_w uq29 wM1_E
                          have tq29 := fr_w wq29 wN1_E
                          have Xq29 := MX_fr (I := Iq13) Xq13 (fr_w rq29 wM_1)
                          show jx L xs _ 142 202 _ [] _ _
                          refine jv_aload_n (pc' := 203) (k := 0) (x := 103) rfl rfl rfl rfl ?_
                          refine jv_iload (pc' := 205) (k := 9) (x := (iI 1)) rfl rfl rfl ?_
                          refine jv_putZ (pc' := 208) (c := 12) (k := 33) rfl rfl rfl rfl (fun _ _ _ hz => if_pos hz) rfl rfl (by first | exact Or.inl rfl | exact Or.inr rfl) ?_
                          refine jv_aload_n (pc' := 209) (k := 0) (x := 103) rfl rfl rfl rfl ?_
                          refine jv_aload_n (pc' := 210) (k := 0) (x := 103) rfl rfl rfl rfl ?_
                          refine jv_getI (pc' := 213) (c := 12) (k := 30) (v := (iI ((dE (dS s) l ((nm : Nat) : Int) ((w : Nat) : Int) ((bv B pl w : Nat) : Int) 2) 0 0))) rfl rfl rfl (fun _ _ => rfl) rfl rfl Dq29.1 ?_
                          refine jv_iload_n (pc' := 214) (k := 2) (x := (iI ((w : Nat) : Int))) rfl rfl rfl rfl ?_
                          refine jv_iadd (pc' := 215) (a := ((dE (dS s) l ((nm : Nat) : Int) ((w : Nat) : Int) ((bv B pl w : Nat) : Int) 2) 0 0)) (b := ((w : Nat) : Int)) rfl rfl ?_
                          refine jv_putI (pc' := 218) (c := 12) (k := 30) rfl rfl rfl rfl (fun _ _ _  => rfl) rfl rfl ?_
                          refine jv_aload_n (pc' := 219) (k := 0) (x := 103) rfl rfl rfl rfl ?_
                          refine jv_getR (pc' := 222) (c := 12) (k := 35) (v := 125) rfl rfl rfl (fun _ _ => rfl) rfl rfl (jR_103_35 _) ?_
                          refine jv_iload_n (pc' := 223) (k := 1) (x := (iI ((nm : Nat) : Int))) rfl rfl rfl rfl ?_
                          refine jv_lload (pc' := 225) (k := 6) (x := (lI ((bv B pl w : Nat) : Int))) rfl rfl rfl ?_
                          refine jv_lastore (pc' := 226) (n := 8) (e := ((nm : Nat) : Int)) (v := (lI ((bv B pl w : Nat) : Int))) rfl rfl rfl rfl rfl (by omega) ?_
                          refine jv_aload_n (pc' := 227) (k := 0) (x := 103) rfl rfl rfl rfl ?_
                          refine jv_getR (pc' := 230) (c := 12) (k := 36) (v := 126) rfl rfl rfl (fun _ _ => rfl) rfl rfl (jR_103_36 _) ?_
                          refine jv_iload_n (pc' := 231) (k := 1) (x := (iI ((nm : Nat) : Int))) rfl rfl rfl rfl ?_
                          refine jv_iconst (pc' := 232) (n := 1) rfl rfl ?_
                          refine jv_bastore (pc' := 233) (n := 8) (e := ((nm : Nat) : Int)) (v := (iI 1)) rfl rfl rfl rfl rfl (by omega) (by first | exact Or.inl rfl | exact Or.inr rfl) ?_
                          refine jv_retV rfl rfl ⟨_, _, rfl, ?_⟩
                          first
                          | (exfalso; omega)
                          | (have hv2 : v = bv B pl w := hv.trans (fv_0 (by omega))
                             rw [u3] at hmk
                             have em : mk = 2 := hmk.trans ((fm_1 rfl).trans (if_neg (by omega)))
                             subst em
                             subst hok
                             subst hv2
                             exact ⟨_, _, rfl, rfl, (fr_u (by simp [wM1]) (fr_u (by simp [wM1]) (fr_u (by simp [wM1]) (fr_t (fr_t (fr_u (by simp [wM1]) (fr_u (by simp [wM1]) (fr_u (by simp [wM1]) (fr_u (by simp [wM1]) (fr_r _))))) rq13) rq29)))), (fr_u (by simp [wN1]) (fr_t (fr_t (fr_r _) tq13) tq29)), DM_F Dq29 rfl rfl (by first | rfl | omega), ((uq29 103 19 (by simp)).trans ((uq13 103 19 (by simp)).trans rfl)), rfl⟩)
                  · skip
                    exact absurd hz_19 (by decide)
                · skip
                  exact absurd hz_17 (by decide)
              · skip
                exfalso; omega
            · skip
              exact absurd hz_14 (by decide)
          · skip
            refine jv_aload_n (pc' := 55) (k := 0) (x := 103) rfl rfl rfl rfl ?_
            refine jv_bipush (pc' := 57) (n := 33) rfl rfl rfl ?_
            refine jv_call (pc' := 60) rfl (ml_takes_n (I := jm_u (jm_u (jm_u (jm_u I 103 19 (iI (((a : Nat) : Int) + 1))) 103 19 (iI ((a + 1 + nd c (a + 1) : Nat) : Int))) 103 19 (iI ((a + 1 + nd c (a + 1) + 1 : Nat) : Int))) 103 19 (iI ((a + 1 + nd c (a + 1) + 1 + nd c (a + 1 + nd c (a + 1) + 1) : Nat) : Int))) (x := 33) (a := a + 1 + nd c (a + 1) + 1 + nd c (a + 1 + nd c (a + 1) + 1)) (by omega) hX.1 rfl (by omega) (by omega)) (fun vq30 gq30 q30 => ?_)
            obtain ⟨rfl, rfl⟩ := q30
            show jx L xs _ 142 60 _ [.int (iI 0)] _ _
            refine jv_if_eq (t := 67) (pc' := 63) (a := 0) rfl rfl rfl (by omega) (fun hz_31 => ?_) (fun hz_31 => ?_)
            · skip
              refine jv_iconst (pc' := 68) (n := 0) rfl rfl ?_
              refine jv_istore (pc' := 70) (k := 5) (x := (iI 0)) rfl rfl rfl (Or.inr rfl) ?_
              refine jv_aload_n (pc' := 71) (k := 0) (x := 103) rfl rfl rfl rfl ?_
              refine jv_iload_n (pc' := 72) (k := 1) (x := (iI ((nm : Nat) : Int))) rfl rfl rfl rfl ?_
              refine jv_call (pc' := 75) rfl (ml_steps_y (I := jm_u (jm_u (jm_u (jm_u I 103 19 (iI (((a : Nat) : Int) + 1))) 103 19 (iI ((a + 1 + nd c (a + 1) : Nat) : Int))) 103 19 (iI ((a + 1 + nd c (a + 1) + 1 : Nat) : Int))) 103 19 (iI ((a + 1 + nd c (a + 1) + 1 + nd c (a + 1 + nd c (a + 1) + 1) : Nat) : Int))) (M := M) (s := s) (nm := ((nm : Nat) : Int)) hX hM hV o1) (fun vq32 gq32 q32 => ?_)
              obtain ⟨Iq32, Mq32, rfl, rfl, rq32, tq32, Dq32, uq32⟩ := q32
              have Xq32 := MX_fr (I := jm_u (jm_u (jm_u (jm_u I 103 19 (iI (((a : Nat) : Int) + 1))) 103 19 (iI ((a + 1 + nd c (a + 1) : Nat) : Int))) 103 19 (iI ((a + 1 + nd c (a + 1) + 1 : Nat) : Int))) 103 19 (iI ((a + 1 + nd c (a + 1) + 1 + nd c (a + 1 + nd c (a + 1) + 1) : Nat) : Int))) hX (fr_w rq32 wM_1)
              have Vq32 := DV_S hV o1
              have epq32 : dS s 0 0 = ((pl : Nat) : Int) := hpl
              show jx L xs _ 142 75 _ [.int (iI 1)] _ _
              refine jv_if_ne (t := 79) (pc' := 78) (a := 1) rfl rfl rfl (by omega) (fun hz_33 => ?_) (fun hz_33 => ?_)
              · skip
                refine jv_aload_n (pc' := 80) (k := 0) (x := 103) rfl rfl rfl rfl ?_
                refine jv_call (pc' := 83) rfl (ml_leftBits (I := Iq32) (M := Mq32) (s := (dS s)) Xq32 Dq32 Vq32.1) (fun vq34 gq34 q34 => ?_)
                obtain ⟨rfl, rfl⟩ := q34
                show jx L xs _ 142 83 _ [.int (iI (8 * (sz : Int) - (dS s) 0 0))] _ _
                refine jv_iload_n (pc' := 84) (k := 2) (x := (iI ((w : Nat) : Int))) rfl rfl rfl rfl ?_
                refine jv_ic_ge (t := 101) (pc' := 87) (a := (8 * (sz : Int) - (dS s) 0 0)) (b := ((w : Nat) : Int)) rfl rfl rfl (by omega) (fun hz_35 => ?_) (fun hz_35 => ?_)
                · skip
                  refine jv_iload_n (pc' := 102) (k := 3) (x := (iI 0)) rfl rfl rfl rfl ?_
                  refine jv_if_eq (t := 117) (pc' := 105) (a := 0) rfl rfl rfl (by omega) (fun hz_36 => ?_) (fun hz_36 => ?_)
                  · skip
                    refine jv_aload_n (pc' := 118) (k := 0) (x := 103) rfl rfl rfl rfl ?_
                    refine jv_aload_n (pc' := 119) (k := 0) (x := 103) rfl rfl rfl rfl ?_
                    refine jv_getI (pc' := 122) (c := 12) (k := 30) (v := (iI ((pl : Nat) : Int))) rfl rfl rfl (fun _ _ => rfl) rfl rfl (Dq32.1.trans (congrArg iI hpl)) ?_
                    refine jv_iload_n (pc' := 123) (k := 2) (x := (iI ((w : Nat) : Int))) rfl rfl rfl rfl ?_
                    refine jv_call (pc' := 126) rfl (ml_bitsAt (I := Iq32) (M := Mq32) (a := pl) (n := w) Xq32.2.1 Xq32.2.2.1 (by omega) (by omega)) (fun vq37 gq37 q37 => ?_)
                    obtain ⟨rfl, rfl⟩ := q37
                    show jx L xs _ 142 126 _ [.long (lI ((bv B pl w : Nat) : Int))] _ _
                    refine jv_lstore (pc' := 128) (k := 6) (x := (lI ((bv B pl w : Nat) : Int))) rfl rfl rfl (Or.inr rfl) ?_
                    have hvv : v = bv B pl w := hv.trans (fv_0 (by omega))
                    refine jv_iload (pc' := 130) (k := 5) (x := (iI 0)) rfl rfl rfl ?_
                    refine jv_if_eq (t := 151) (pc' := 133) (a := 0) rfl rfl rfl (by omega) (fun hz_38 => ?_) (fun hz_38 => ?_)
                    · skip
                      refine jv_iconst (pc' := 152) (n := 0) rfl rfl ?_
                      refine jv_istore (pc' := 154) (k := 8) (x := (iI 0)) rfl rfl rfl (Or.inr rfl) ?_
                      refine jv_iload (pc' := 156) (k := 4) (x := (iI (nv c (a + 1 + nd c (a + 1) + 1)))) rfl rfl rfl ?_
                      refine jv_if_lt (t := 172) (pc' := 159) (a := (nv c (a + 1 + nd c (a + 1) + 1))) rfl rfl rfl (by omega) (fun hz_39 => ?_) (fun hz_39 => ?_)
                      · skip
                        refine jv_iconst (pc' := 173) (n := 0) rfl rfl ?_
                        refine jv_istore (pc' := 175) (k := 9) (x := (iI 0)) rfl rfl rfl (Or.inr rfl) ?_
                        refine jv_aload_n (pc' := 176) (k := 0) (x := 103) rfl rfl rfl rfl ?_
                        refine jv_iload_n (pc' := 177) (k := 1) (x := (iI ((nm : Nat) : Int))) rfl rfl rfl rfl ?_
                        refine jv_iload_n (pc' := 178) (k := 2) (x := (iI ((w : Nat) : Int))) rfl rfl rfl rfl ?_
                        refine jv_lload (pc' := 180) (k := 6) (x := (lI ((bv B pl w : Nat) : Int))) rfl rfl rfl ?_
                        refine jv_iload (pc' := 182) (k := 9) (x := (iI 0)) rfl rfl rfl ?_
                        refine jv_if_eq (t := 189) (pc' := 185) (a := 0) rfl rfl rfl (by omega) (fun hz_40 => ?_) (fun hz_40 => ?_)
                        · skip
                          refine jv_iload (pc' := 191) (k := 8) (x := (iI 0)) rfl rfl rfl ?_
                          refine jv_if_eq (t := 198) (pc' := 194) (a := 0) rfl rfl rfl (by omega) (fun hz_41 => ?_) (fun hz_41 => ?_)
                          · skip
                            refine jv_iconst (pc' := 199) (n := 0) rfl rfl ?_
                            obtain ⟨nq42, hnq42, hmq42⟩ := DV_n Vq32.1 hlim
                            refine jv_call (pc' := 202) rfl (ml_enter (I := Iq32) (M := Mq32) (s := (dS s)) Xq32 Dq32 Vq32.1 hnq42 hmq42) (fun vq42 gq42 q42 => ?_)
                            obtain ⟨Iq42, Mq42, rfl, rfl, Dq42, uq42, wq42⟩ := q42
                            have rq42 := fr_w uq42 wM1_E
                            have tq42 := fr_w wq42 wN1_E
                            have Xq42 := MX_fr (I := Iq32) Xq32 (fr_w rq42 wM_1)
                            show jx L xs _ 142 202 _ [] _ _
                            refine jv_aload_n (pc' := 203) (k := 0) (x := 103) rfl rfl rfl rfl ?_
                            refine jv_iload (pc' := 205) (k := 9) (x := (iI 0)) rfl rfl rfl ?_
                            refine jv_putZ (pc' := 208) (c := 12) (k := 33) rfl rfl rfl rfl (fun _ _ _ hz => if_pos hz) rfl rfl (by first | exact Or.inl rfl | exact Or.inr rfl) ?_
                            refine jv_aload_n (pc' := 209) (k := 0) (x := 103) rfl rfl rfl rfl ?_
                            refine jv_aload_n (pc' := 210) (k := 0) (x := 103) rfl rfl rfl rfl ?_
                            refine jv_getI (pc' := 213) (c := 12) (k := 30) (v := (iI ((dE (dS s) l ((nm : Nat) : Int) ((w : Nat) : Int) ((bv B pl w : Nat) : Int) 0) 0 0))) rfl rfl rfl (fun _ _ => rfl) rfl rfl Dq42.1 ?_
                            refine jv_iload_n (pc' := 214) (k := 2) (x := (iI ((w : Nat) : Int))) rfl rfl rfl rfl ?_
                            refine jv_iadd (pc' := 215) (a := ((dE (dS s) l ((nm : Nat) : Int) ((w : Nat) : Int) ((bv B pl w : Nat) : Int) 0) 0 0)) (b := ((w : Nat) : Int)) rfl rfl ?_
                            refine jv_putI (pc' := 218) (c := 12) (k := 30) rfl rfl rfl rfl (fun _ _ _  => rfl) rfl rfl ?_
                            refine jv_aload_n (pc' := 219) (k := 0) (x := 103) rfl rfl rfl rfl ?_
                            refine jv_getR (pc' := 222) (c := 12) (k := 35) (v := 125) rfl rfl rfl (fun _ _ => rfl) rfl rfl (jR_103_35 _) ?_
                            refine jv_iload_n (pc' := 223) (k := 1) (x := (iI ((nm : Nat) : Int))) rfl rfl rfl rfl ?_
                            refine jv_lload (pc' := 225) (k := 6) (x := (lI ((bv B pl w : Nat) : Int))) rfl rfl rfl ?_
                            refine jv_lastore (pc' := 226) (n := 8) (e := ((nm : Nat) : Int)) (v := (lI ((bv B pl w : Nat) : Int))) rfl rfl rfl rfl rfl (by omega) ?_
                            refine jv_aload_n (pc' := 227) (k := 0) (x := 103) rfl rfl rfl rfl ?_
                            refine jv_getR (pc' := 230) (c := 12) (k := 36) (v := 126) rfl rfl rfl (fun _ _ => rfl) rfl rfl (jR_103_36 _) ?_
                            refine jv_iload_n (pc' := 231) (k := 1) (x := (iI ((nm : Nat) : Int))) rfl rfl rfl rfl ?_
                            refine jv_iconst (pc' := 232) (n := 1) rfl rfl ?_
                            refine jv_bastore (pc' := 233) (n := 8) (e := ((nm : Nat) : Int)) (v := (iI 1)) rfl rfl rfl rfl rfl (by omega) (by first | exact Or.inl rfl | exact Or.inr rfl) ?_
                            refine jv_retV rfl rfl ⟨_, _, rfl, ?_⟩
                            first
                            | (exfalso; omega)
                            | (have hv2 : v = bv B pl w := hv.trans (fv_0 (by omega))
                               rw [u3] at hmk
                               have em : mk = 0 := hmk.trans ((fm_1 rfl).trans (if_pos (by omega)))
                               subst em
                               subst hok
                               subst hv2
                               exact ⟨_, _, rfl, rfl, (fr_u (by simp [wM1]) (fr_u (by simp [wM1]) (fr_u (by simp [wM1]) (fr_t (fr_t (fr_u (by simp [wM1]) (fr_u (by simp [wM1]) (fr_u (by simp [wM1]) (fr_u (by simp [wM1]) (fr_r _))))) rq32) rq42)))), (fr_u (by simp [wN1]) (fr_t (fr_t (fr_r _) tq32) tq42)), DM_F Dq42 rfl rfl (by first | rfl | omega), ((uq42 103 19 (by simp)).trans ((uq32 103 19 (by simp)).trans rfl)), rfl⟩)
                          · skip
                            exact absurd hz_41 (by decide)
                        · skip
                          exact absurd hz_40 (by decide)
                      · skip
                        refine jv_lload (pc' := 161) (k := 6) (x := (lI ((bv B pl w : Nat) : Int))) rfl rfl rfl ?_
                        refine jv_iload (pc' := 163) (k := 4) (x := (iI (nv c (a + 1 + nd c (a + 1) + 1)))) rfl rfl rfl ?_
                        refine jv_i2l (pc' := 164) (a := (nv c (a + 1 + nd c (a + 1) + 1))) rfl rfl (by omega) ?_
                        refine jv_lc_eq (t := 172) (pc' := 168) (a := ((bv B pl w : Nat) : Int)) (b := (nv c (a + 1 + nd c (a + 1) + 1))) rfl rfl rfl rfl rfl (by omega) (fun hz_43 => ?_) (fun hz_43 => ?_)
                        · skip
                          refine jv_iconst (pc' := 173) (n := 0) rfl rfl ?_
                          refine jv_istore (pc' := 175) (k := 9) (x := (iI 0)) rfl rfl rfl (Or.inr rfl) ?_
                          refine jv_aload_n (pc' := 176) (k := 0) (x := 103) rfl rfl rfl rfl ?_
                          refine jv_iload_n (pc' := 177) (k := 1) (x := (iI ((nm : Nat) : Int))) rfl rfl rfl rfl ?_
                          refine jv_iload_n (pc' := 178) (k := 2) (x := (iI ((w : Nat) : Int))) rfl rfl rfl rfl ?_
                          refine jv_lload (pc' := 180) (k := 6) (x := (lI ((bv B pl w : Nat) : Int))) rfl rfl rfl ?_
                          refine jv_iload (pc' := 182) (k := 9) (x := (iI 0)) rfl rfl rfl ?_
                          refine jv_if_eq (t := 189) (pc' := 185) (a := 0) rfl rfl rfl (by omega) (fun hz_44 => ?_) (fun hz_44 => ?_)
                          · skip
                            refine jv_iload (pc' := 191) (k := 8) (x := (iI 0)) rfl rfl rfl ?_
                            refine jv_if_eq (t := 198) (pc' := 194) (a := 0) rfl rfl rfl (by omega) (fun hz_45 => ?_) (fun hz_45 => ?_)
                            · skip
                              refine jv_iconst (pc' := 199) (n := 0) rfl rfl ?_
                              obtain ⟨nq46, hnq46, hmq46⟩ := DV_n Vq32.1 hlim
                              refine jv_call (pc' := 202) rfl (ml_enter (I := Iq32) (M := Mq32) (s := (dS s)) Xq32 Dq32 Vq32.1 hnq46 hmq46) (fun vq46 gq46 q46 => ?_)
                              obtain ⟨Iq46, Mq46, rfl, rfl, Dq46, uq46, wq46⟩ := q46
                              have rq46 := fr_w uq46 wM1_E
                              have tq46 := fr_w wq46 wN1_E
                              have Xq46 := MX_fr (I := Iq32) Xq32 (fr_w rq46 wM_1)
                              show jx L xs _ 142 202 _ [] _ _
                              refine jv_aload_n (pc' := 203) (k := 0) (x := 103) rfl rfl rfl rfl ?_
                              refine jv_iload (pc' := 205) (k := 9) (x := (iI 0)) rfl rfl rfl ?_
                              refine jv_putZ (pc' := 208) (c := 12) (k := 33) rfl rfl rfl rfl (fun _ _ _ hz => if_pos hz) rfl rfl (by first | exact Or.inl rfl | exact Or.inr rfl) ?_
                              refine jv_aload_n (pc' := 209) (k := 0) (x := 103) rfl rfl rfl rfl ?_
                              refine jv_aload_n (pc' := 210) (k := 0) (x := 103) rfl rfl rfl rfl ?_
                              refine jv_getI (pc' := 213) (c := 12) (k := 30) (v := (iI ((dE (dS s) l ((nm : Nat) : Int) ((w : Nat) : Int) ((bv B pl w : Nat) : Int) 0) 0 0))) rfl rfl rfl (fun _ _ => rfl) rfl rfl Dq46.1 ?_
                              refine jv_iload_n (pc' := 214) (k := 2) (x := (iI ((w : Nat) : Int))) rfl rfl rfl rfl ?_
                              refine jv_iadd (pc' := 215) (a := ((dE (dS s) l ((nm : Nat) : Int) ((w : Nat) : Int) ((bv B pl w : Nat) : Int) 0) 0 0)) (b := ((w : Nat) : Int)) rfl rfl ?_
                              refine jv_putI (pc' := 218) (c := 12) (k := 30) rfl rfl rfl rfl (fun _ _ _  => rfl) rfl rfl ?_
                              refine jv_aload_n (pc' := 219) (k := 0) (x := 103) rfl rfl rfl rfl ?_
                              refine jv_getR (pc' := 222) (c := 12) (k := 35) (v := 125) rfl rfl rfl (fun _ _ => rfl) rfl rfl (jR_103_35 _) ?_
                              refine jv_iload_n (pc' := 223) (k := 1) (x := (iI ((nm : Nat) : Int))) rfl rfl rfl rfl ?_
                              refine jv_lload (pc' := 225) (k := 6) (x := (lI ((bv B pl w : Nat) : Int))) rfl rfl rfl ?_
                              refine jv_lastore (pc' := 226) (n := 8) (e := ((nm : Nat) : Int)) (v := (lI ((bv B pl w : Nat) : Int))) rfl rfl rfl rfl rfl (by omega) ?_
                              refine jv_aload_n (pc' := 227) (k := 0) (x := 103) rfl rfl rfl rfl ?_
                              refine jv_getR (pc' := 230) (c := 12) (k := 36) (v := 126) rfl rfl rfl (fun _ _ => rfl) rfl rfl (jR_103_36 _) ?_
                              refine jv_iload_n (pc' := 231) (k := 1) (x := (iI ((nm : Nat) : Int))) rfl rfl rfl rfl ?_
                              refine jv_iconst (pc' := 232) (n := 1) rfl rfl ?_
                              refine jv_bastore (pc' := 233) (n := 8) (e := ((nm : Nat) : Int)) (v := (iI 1)) rfl rfl rfl rfl rfl (by omega) (by first | exact Or.inl rfl | exact Or.inr rfl) ?_
                              refine jv_retV rfl rfl ⟨_, _, rfl, ?_⟩
                              first
                              | (exfalso; omega)
                              | (have hv2 : v = bv B pl w := hv.trans (fv_0 (by omega))
                                 rw [u3] at hmk
                                 have em : mk = 0 := hmk.trans ((fm_1 rfl).trans (if_pos (by omega)))
                                 subst em
                                 subst hok
                                 subst hv2
                                 exact ⟨_, _, rfl, rfl, (fr_u (by simp [wM1]) (fr_u (by simp [wM1]) (fr_u (by simp [wM1]) (fr_t (fr_t (fr_u (by simp [wM1]) (fr_u (by simp [wM1]) (fr_u (by simp [wM1]) (fr_u (by simp [wM1]) (fr_r _))))) rq32) rq46)))), (fr_u (by simp [wN1]) (fr_t (fr_t (fr_r _) tq32) tq46)), DM_F Dq46 rfl rfl (by first | rfl | omega), ((uq46 103 19 (by simp)).trans ((uq32 103 19 (by simp)).trans rfl)), rfl⟩)
                            · skip
                              exact absurd hz_45 (by decide)
                          · skip
                            exact absurd hz_44 (by decide)
                        · skip
                          refine jv_iconst (pc' := 169) (n := 1) rfl rfl ?_
                          refine jx_step (pc' := 173) rfl ?_
                          refine jv_istore (pc' := 175) (k := 9) (x := (iI 1)) rfl rfl rfl (Or.inr rfl) ?_
                          refine jv_aload_n (pc' := 176) (k := 0) (x := 103) rfl rfl rfl rfl ?_
                          refine jv_iload_n (pc' := 177) (k := 1) (x := (iI ((nm : Nat) : Int))) rfl rfl rfl rfl ?_
                          refine jv_iload_n (pc' := 178) (k := 2) (x := (iI ((w : Nat) : Int))) rfl rfl rfl rfl ?_
                          refine jv_lload (pc' := 180) (k := 6) (x := (lI ((bv B pl w : Nat) : Int))) rfl rfl rfl ?_
                          refine jv_iload (pc' := 182) (k := 9) (x := (iI 1)) rfl rfl rfl ?_
                          refine jv_if_eq (t := 189) (pc' := 185) (a := 1) rfl rfl rfl (by omega) (fun hz_47 => ?_) (fun hz_47 => ?_)
                          · skip
                            exact absurd hz_47 (by decide)
                          · skip
                            refine jv_iconst (pc' := 186) (n := 2) rfl rfl ?_
                            refine jx_step (pc' := 199) rfl ?_
                            obtain ⟨nq48, hnq48, hmq48⟩ := DV_n Vq32.1 hlim
                            refine jv_call (pc' := 202) rfl (ml_enter (I := Iq32) (M := Mq32) (s := (dS s)) Xq32 Dq32 Vq32.1 hnq48 hmq48) (fun vq48 gq48 q48 => ?_)
                            obtain ⟨Iq48, Mq48, rfl, rfl, Dq48, uq48, wq48⟩ := q48
                            have rq48 := fr_w uq48 wM1_E
                            have tq48 := fr_w wq48 wN1_E
                            have Xq48 := MX_fr (I := Iq32) Xq32 (fr_w rq48 wM_1)
                            show jx L xs _ 142 202 _ [] _ _
                            refine jv_aload_n (pc' := 203) (k := 0) (x := 103) rfl rfl rfl rfl ?_
                            refine jv_iload (pc' := 205) (k := 9) (x := (iI 1)) rfl rfl rfl ?_
                            refine jv_putZ (pc' := 208) (c := 12) (k := 33) rfl rfl rfl rfl (fun _ _ _ hz => if_pos hz) rfl rfl (by first | exact Or.inl rfl | exact Or.inr rfl) ?_
                            refine jv_aload_n (pc' := 209) (k := 0) (x := 103) rfl rfl rfl rfl ?_
                            refine jv_aload_n (pc' := 210) (k := 0) (x := 103) rfl rfl rfl rfl ?_
                            refine jv_getI (pc' := 213) (c := 12) (k := 30) (v := (iI ((dE (dS s) l ((nm : Nat) : Int) ((w : Nat) : Int) ((bv B pl w : Nat) : Int) 2) 0 0))) rfl rfl rfl (fun _ _ => rfl) rfl rfl Dq48.1 ?_
                            refine jv_iload_n (pc' := 214) (k := 2) (x := (iI ((w : Nat) : Int))) rfl rfl rfl rfl ?_
                            refine jv_iadd (pc' := 215) (a := ((dE (dS s) l ((nm : Nat) : Int) ((w : Nat) : Int) ((bv B pl w : Nat) : Int) 2) 0 0)) (b := ((w : Nat) : Int)) rfl rfl ?_
                            refine jv_putI (pc' := 218) (c := 12) (k := 30) rfl rfl rfl rfl (fun _ _ _  => rfl) rfl rfl ?_
                            refine jv_aload_n (pc' := 219) (k := 0) (x := 103) rfl rfl rfl rfl ?_
                            refine jv_getR (pc' := 222) (c := 12) (k := 35) (v := 125) rfl rfl rfl (fun _ _ => rfl) rfl rfl (jR_103_35 _) ?_
                            refine jv_iload_n (pc' := 223) (k := 1) (x := (iI ((nm : Nat) : Int))) rfl rfl rfl rfl ?_
                            refine jv_lload (pc' := 225) (k := 6) (x := (lI ((bv B pl w : Nat) : Int))) rfl rfl rfl ?_
                            refine jv_lastore (pc' := 226) (n := 8) (e := ((nm : Nat) : Int)) (v := (lI ((bv B pl w : Nat) : Int))) rfl rfl rfl rfl rfl (by omega) ?_
                            refine jv_aload_n (pc' := 227) (k := 0) (x := 103) rfl rfl rfl rfl ?_
                            refine jv_getR (pc' := 230) (c := 12) (k := 36) (v := 126) rfl rfl rfl (fun _ _ => rfl) rfl rfl (jR_103_36 _) ?_
                            refine jv_iload_n (pc' := 231) (k := 1) (x := (iI ((nm : Nat) : Int))) rfl rfl rfl rfl ?_
                            refine jv_iconst (pc' := 232) (n := 1) rfl rfl ?_
                            refine jv_bastore (pc' := 233) (n := 8) (e := ((nm : Nat) : Int)) (v := (iI 1)) rfl rfl rfl rfl rfl (by omega) (by first | exact Or.inl rfl | exact Or.inr rfl) ?_
                            refine jv_retV rfl rfl ⟨_, _, rfl, ?_⟩
                            first
                            | (exfalso; omega)
                            | (have hv2 : v = bv B pl w := hv.trans (fv_0 (by omega))
                               rw [u3] at hmk
                               have em : mk = 2 := hmk.trans ((fm_1 rfl).trans (if_neg (by omega)))
                               subst em
                               subst hok
                               subst hv2
                               exact ⟨_, _, rfl, rfl, (fr_u (by simp [wM1]) (fr_u (by simp [wM1]) (fr_u (by simp [wM1]) (fr_t (fr_t (fr_u (by simp [wM1]) (fr_u (by simp [wM1]) (fr_u (by simp [wM1]) (fr_u (by simp [wM1]) (fr_r _))))) rq32) rq48)))), (fr_u (by simp [wN1]) (fr_t (fr_t (fr_r _) tq32) tq48)), DM_F Dq48 rfl rfl (by first | rfl | omega), ((uq48 103 19 (by simp)).trans ((uq32 103 19 (by simp)).trans rfl)), rfl⟩)
                    · skip
                      exact absurd hz_38 (by decide)
                  · skip
                    exact absurd hz_36 (by decide)
                · skip
                  exfalso; omega
              · skip
                exact absurd hz_33 (by decide)
            · skip
              exact absurd hz_31 (by decide)
      · skip
        refine jv_aload_n (pc' := 1) (k := 0) (x := 103) rfl rfl rfl rfl ?_
        have hm1 := MT_c hX.1 (a)
        refine jv_call (pc' := 4) rfl (ml_here (I := I) (a := a) hX.1 hat (by omega)) (fun vq2 gq2 q2 => ?_)
        obtain ⟨rfl, rfl⟩ := q2
        show jx L xs _ 142 4 _ [.int (iI (c (a)))] _ _
        refine jv_bipush (pc' := 6) (n := 97) rfl rfl rfl ?_
        refine jv_isub (pc' := 7) (a := (c (a))) (b := 97) rfl rfl ?_
        rw [show (c (a)) - 97 = ((nm : Nat) : Int) by omega]
        refine jv_istore_n (pc' := 8) (k := 1) (x := (iI ((nm : Nat) : Int))) rfl rfl rfl rfl (Or.inr rfl) ?_
        refine jv_aload_n (pc' := 9) (k := 0) (x := 103) rfl rfl rfl rfl ?_
        refine jx_step (pc' := 10) rfl ?_
        refine jv_getI (pc' := 13) (c := 12) (k := 19) (v := (iI ((a : Nat) : Int))) rfl rfl rfl (fun _ _ => rfl) rfl rfl hat ?_
        refine jv_iconst (pc' := 14) (n := 1) rfl rfl ?_
        refine jv_iadd (pc' := 15) (a := ((a : Nat) : Int)) (b := 1) rfl rfl ?_
        refine jv_putI (pc' := 18) (c := 12) (k := 19) rfl rfl rfl rfl (fun _ _ _  => rfl) rfl rfl ?_
        refine jv_aload_n (pc' := 19) (k := 0) (x := 103) rfl rfl rfl rfl ?_
        have hm3 := nv_b c (a + 1)
        have hm4 := nd_le c (a + 1)
        refine jv_call (pc' := 22) rfl (ml_number_y (I := jm_u I 103 19 (iI (((a : Nat) : Int) + 1))) (a := a + 1) hX.1 rfl (by omega) (by omega)) (fun vq5 gq5 q5 => ?_)
        obtain ⟨rfl, rfl⟩ := q5
        show jx L xs _ 142 22 _ [.int (iI (nv c (a + 1)))] _ _
        rw [show nv c (a + 1) = ((w : Nat) : Int) by omega]
        refine jv_istore_n (pc' := 23) (k := 2) (x := (iI ((w : Nat) : Int))) rfl rfl rfl rfl (Or.inr rfl) ?_
        refine jv_aload_n (pc' := 24) (k := 0) (x := 103) rfl rfl rfl rfl ?_
        refine jv_bipush (pc' := 26) (n := 60) rfl rfl rfl ?_
        refine jv_call (pc' := 29) rfl (ml_takes_n (I := jm_u (jm_u I 103 19 (iI (((a : Nat) : Int) + 1))) 103 19 (iI ((a + 1 + nd c (a + 1) : Nat) : Int))) (x := 60) (a := a + 1 + nd c (a + 1)) (by omega) hX.1 rfl (by omega) (by omega)) (fun vq6 gq6 q6 => ?_)
        obtain ⟨rfl, rfl⟩ := q6
        show jx L xs _ 142 29 _ [.int (iI 0)] _ _
        refine jv_istore_n (pc' := 30) (k := 3) (x := (iI 0)) rfl rfl rfl rfl (Or.inr rfl) ?_
        refine jv_aload_n (pc' := 31) (k := 0) (x := 103) rfl rfl rfl rfl ?_
        refine jv_bipush (pc' := 33) (n := 61) rfl rfl rfl ?_
        refine jv_call (pc' := 36) rfl (ml_takes_n (I := jm_u (jm_u I 103 19 (iI (((a : Nat) : Int) + 1))) 103 19 (iI ((a + 1 + nd c (a + 1) : Nat) : Int))) (x := 61) (a := a + 1 + nd c (a + 1)) (by omega) hX.1 rfl (by omega) (by omega)) (fun vq7 gq7 q7 => ?_)
        obtain ⟨rfl, rfl⟩ := q7
        show jx L xs _ 142 36 _ [.int (iI 0)] _ _
        refine jv_if_eq (t := 46) (pc' := 39) (a := 0) rfl rfl rfl (by omega) (fun hz_8 => ?_) (fun hz_8 => ?_)
        · skip
          refine jv_iconst (pc' := 47) (n := -1) rfl rfl ?_
          refine jv_istore (pc' := 49) (k := 4) (x := (iI (-1))) rfl rfl rfl (Or.inr rfl) ?_
          refine jv_iload (pc' := 51) (k := 4) (x := (iI (-1))) rfl rfl rfl ?_
          refine jv_if_ge (t := 67) (pc' := 54) (a := (-1)) rfl rfl rfl (by omega) (fun hz_9 => ?_) (fun hz_9 => ?_)
          · skip
            exact absurd hz_9 (by decide)
          · skip
            refine jv_aload_n (pc' := 55) (k := 0) (x := 103) rfl rfl rfl rfl ?_
            refine jv_bipush (pc' := 57) (n := 33) rfl rfl rfl ?_
            refine jv_call (pc' := 60) rfl (ml_takes_y (I := jm_u (jm_u I 103 19 (iI (((a : Nat) : Int) + 1))) 103 19 (iI ((a + 1 + nd c (a + 1) : Nat) : Int))) (x := 33) (a := a + 1 + nd c (a + 1)) (by omega) hX.1 rfl (by omega) (by omega)) (fun vq10 gq10 q10 => ?_)
            obtain ⟨rfl, rfl⟩ := q10
            show jx L xs _ 142 60 _ [.int (iI 1)] _ _
            refine jv_if_eq (t := 67) (pc' := 63) (a := 1) rfl rfl rfl (by omega) (fun hz_11 => ?_) (fun hz_11 => ?_)
            · skip
              exact absurd hz_11 (by decide)
            · skip
              refine jv_iconst (pc' := 64) (n := 1) rfl rfl ?_
              refine jx_step (pc' := 68) rfl ?_
              refine jv_istore (pc' := 70) (k := 5) (x := (iI 1)) rfl rfl rfl (Or.inr rfl) ?_
              refine jv_aload_n (pc' := 71) (k := 0) (x := 103) rfl rfl rfl rfl ?_
              refine jv_iload_n (pc' := 72) (k := 1) (x := (iI ((nm : Nat) : Int))) rfl rfl rfl rfl ?_
              refine jv_call (pc' := 75) rfl (ml_steps_y (I := jm_u (jm_u (jm_u I 103 19 (iI (((a : Nat) : Int) + 1))) 103 19 (iI ((a + 1 + nd c (a + 1) : Nat) : Int))) 103 19 (iI ((a + 1 + nd c (a + 1) + 1 : Nat) : Int))) (M := M) (s := s) (nm := ((nm : Nat) : Int)) hX hM hV o1) (fun vq12 gq12 q12 => ?_)
              obtain ⟨Iq12, Mq12, rfl, rfl, rq12, tq12, Dq12, uq12⟩ := q12
              have Xq12 := MX_fr (I := jm_u (jm_u (jm_u I 103 19 (iI (((a : Nat) : Int) + 1))) 103 19 (iI ((a + 1 + nd c (a + 1) : Nat) : Int))) 103 19 (iI ((a + 1 + nd c (a + 1) + 1 : Nat) : Int))) hX (fr_w rq12 wM_1)
              have Vq12 := DV_S hV o1
              have epq12 : dS s 0 0 = ((pl : Nat) : Int) := hpl
              show jx L xs _ 142 75 _ [.int (iI 1)] _ _
              refine jv_if_ne (t := 79) (pc' := 78) (a := 1) rfl rfl rfl (by omega) (fun hz_13 => ?_) (fun hz_13 => ?_)
              · skip
                refine jv_aload_n (pc' := 80) (k := 0) (x := 103) rfl rfl rfl rfl ?_
                refine jv_call (pc' := 83) rfl (ml_leftBits (I := Iq12) (M := Mq12) (s := (dS s)) Xq12 Dq12 Vq12.1) (fun vq14 gq14 q14 => ?_)
                obtain ⟨rfl, rfl⟩ := q14
                show jx L xs _ 142 83 _ [.int (iI (8 * (sz : Int) - (dS s) 0 0))] _ _
                refine jv_iload_n (pc' := 84) (k := 2) (x := (iI ((w : Nat) : Int))) rfl rfl rfl rfl ?_
                refine jv_ic_ge (t := 101) (pc' := 87) (a := (8 * (sz : Int) - (dS s) 0 0)) (b := ((w : Nat) : Int)) rfl rfl rfl (by omega) (fun hz_15 => ?_) (fun hz_15 => ?_)
                · skip
                  refine jv_iload_n (pc' := 102) (k := 3) (x := (iI 0)) rfl rfl rfl rfl ?_
                  refine jv_if_eq (t := 117) (pc' := 105) (a := 0) rfl rfl rfl (by omega) (fun hz_16 => ?_) (fun hz_16 => ?_)
                  · skip
                    refine jv_aload_n (pc' := 118) (k := 0) (x := 103) rfl rfl rfl rfl ?_
                    refine jv_aload_n (pc' := 119) (k := 0) (x := 103) rfl rfl rfl rfl ?_
                    refine jv_getI (pc' := 122) (c := 12) (k := 30) (v := (iI ((pl : Nat) : Int))) rfl rfl rfl (fun _ _ => rfl) rfl rfl (Dq12.1.trans (congrArg iI hpl)) ?_
                    refine jv_iload_n (pc' := 123) (k := 2) (x := (iI ((w : Nat) : Int))) rfl rfl rfl rfl ?_
                    refine jv_call (pc' := 126) rfl (ml_bitsAt (I := Iq12) (M := Mq12) (a := pl) (n := w) Xq12.2.1 Xq12.2.2.1 (by omega) (by omega)) (fun vq17 gq17 q17 => ?_)
                    obtain ⟨rfl, rfl⟩ := q17
                    show jx L xs _ 142 126 _ [.long (lI ((bv B pl w : Nat) : Int))] _ _
                    refine jv_lstore (pc' := 128) (k := 6) (x := (lI ((bv B pl w : Nat) : Int))) rfl rfl rfl (Or.inr rfl) ?_
                    have hvv : v = bv B pl w := hv.trans (fv_0 (by omega))
                    refine jv_iload (pc' := 130) (k := 5) (x := (iI 1)) rfl rfl rfl ?_
                    refine jv_if_eq (t := 151) (pc' := 133) (a := 1) rfl rfl rfl (by omega) (fun hz_18 => ?_) (fun hz_18 => ?_)
                    · skip
                      exact absurd hz_18 (by decide)
                    · skip
                      refine jv_lload (pc' := 135) (k := 6) (x := (lI ((bv B pl w : Nat) : Int))) rfl rfl rfl ?_
                      refine jv_aload_n (pc' := 136) (k := 0) (x := 103) rfl rfl rfl rfl ?_
                      have hsm := sm_lt Xq12.2.1.2.2.2.2 bg pl sz
                      have hsm2 := Nat.mod_le (sm B bg pl sz) (2 ^ w)
                      have hp32 : 2 ^ w ≤ 2 ^ 32 := Nat.pow_le_pow_right (by decide) hw.2
                      have hp0 : 0 < 2 ^ w := Nat.two_pow_pos w
                      refine jv_call (pc' := 139) rfl (ml_sumBefore (I := Iq12) (M := Mq12) (a := bg) (n := pl) Xq12.2.1 Xq12.2.2.1 Xq12.2.2.2.2.1 (Dq12.1.trans (congrArg iI hpl)) (by omega) (by omega)) (fun vq19 gq19 q19 => ?_)
                      obtain ⟨rfl, rfl⟩ := q19
                      show jx L xs _ 142 139 _ [.long (lI ((sm B bg pl sz : Nat) : Int)), .long (lI ((bv B pl w : Nat) : Int))] _ _
                      refine jv_long (pc' := 140) (y := lI 1) rfl (by decide) ?_
                      refine jv_iload_n (pc' := 141) (k := 2) (x := (iI ((w : Nat) : Int))) rfl rfl rfl rfl ?_
                      refine jv_long (pc' := 142) (y := (lI ((2 ^ w : Nat) : Int))) rfl (lI_1w hw.2) ?_
                      refine jv_lrem (pc' := 143) (a := sm B bg pl sz) (b := 2 ^ w) rfl rfl hp0 (by omega) (by omega) ?_
                      refine jv_lc_eq (t := 151) (pc' := 147) (a := ((bv B pl w : Nat) : Int)) (b := ((sm B bg pl sz % 2 ^ w : Nat) : Int)) rfl rfl rfl rfl rfl (by omega) (fun hz_20 => ?_) (fun hz_20 => ?_)
                      · skip
                        refine jv_iconst (pc' := 152) (n := 0) rfl rfl ?_
                        refine jv_istore (pc' := 154) (k := 8) (x := (iI 0)) rfl rfl rfl (Or.inr rfl) ?_
                        refine jv_iload (pc' := 156) (k := 4) (x := (iI (-1))) rfl rfl rfl ?_
                        refine jv_if_lt (t := 172) (pc' := 159) (a := (-1)) rfl rfl rfl (by omega) (fun hz_21 => ?_) (fun hz_21 => ?_)
                        · skip
                          refine jv_iconst (pc' := 173) (n := 0) rfl rfl ?_
                          refine jv_istore (pc' := 175) (k := 9) (x := (iI 0)) rfl rfl rfl (Or.inr rfl) ?_
                          refine jv_aload_n (pc' := 176) (k := 0) (x := 103) rfl rfl rfl rfl ?_
                          refine jv_iload_n (pc' := 177) (k := 1) (x := (iI ((nm : Nat) : Int))) rfl rfl rfl rfl ?_
                          refine jv_iload_n (pc' := 178) (k := 2) (x := (iI ((w : Nat) : Int))) rfl rfl rfl rfl ?_
                          refine jv_lload (pc' := 180) (k := 6) (x := (lI ((bv B pl w : Nat) : Int))) rfl rfl rfl ?_
                          refine jv_iload (pc' := 182) (k := 9) (x := (iI 0)) rfl rfl rfl ?_
                          refine jv_if_eq (t := 189) (pc' := 185) (a := 0) rfl rfl rfl (by omega) (fun hz_22 => ?_) (fun hz_22 => ?_)
                          · skip
                            refine jv_iload (pc' := 191) (k := 8) (x := (iI 0)) rfl rfl rfl ?_
                            refine jv_if_eq (t := 198) (pc' := 194) (a := 0) rfl rfl rfl (by omega) (fun hz_23 => ?_) (fun hz_23 => ?_)
                            · skip
                              refine jv_iconst (pc' := 199) (n := 0) rfl rfl ?_
                              obtain ⟨nq24, hnq24, hmq24⟩ := DV_n Vq12.1 hlim
                              refine jv_call (pc' := 202) rfl (ml_enter (I := Iq12) (M := Mq12) (s := (dS s)) Xq12 Dq12 Vq12.1 hnq24 hmq24) (fun vq24 gq24 q24 => ?_)
                              obtain ⟨Iq24, Mq24, rfl, rfl, Dq24, uq24, wq24⟩ := q24
                              have rq24 := fr_w uq24 wM1_E
                              have tq24 := fr_w wq24 wN1_E
                              have Xq24 := MX_fr (I := Iq12) Xq12 (fr_w rq24 wM_1)
                              show jx L xs _ 142 202 _ [] _ _
                              refine jv_aload_n (pc' := 203) (k := 0) (x := 103) rfl rfl rfl rfl ?_
                              refine jv_iload (pc' := 205) (k := 9) (x := (iI 0)) rfl rfl rfl ?_
                              refine jv_putZ (pc' := 208) (c := 12) (k := 33) rfl rfl rfl rfl (fun _ _ _ hz => if_pos hz) rfl rfl (by first | exact Or.inl rfl | exact Or.inr rfl) ?_
                              refine jv_aload_n (pc' := 209) (k := 0) (x := 103) rfl rfl rfl rfl ?_
                              refine jv_aload_n (pc' := 210) (k := 0) (x := 103) rfl rfl rfl rfl ?_
                              refine jv_getI (pc' := 213) (c := 12) (k := 30) (v := (iI ((dE (dS s) l ((nm : Nat) : Int) ((w : Nat) : Int) ((bv B pl w : Nat) : Int) 0) 0 0))) rfl rfl rfl (fun _ _ => rfl) rfl rfl Dq24.1 ?_
                              refine jv_iload_n (pc' := 214) (k := 2) (x := (iI ((w : Nat) : Int))) rfl rfl rfl rfl ?_
                              refine jv_iadd (pc' := 215) (a := ((dE (dS s) l ((nm : Nat) : Int) ((w : Nat) : Int) ((bv B pl w : Nat) : Int) 0) 0 0)) (b := ((w : Nat) : Int)) rfl rfl ?_
                              refine jv_putI (pc' := 218) (c := 12) (k := 30) rfl rfl rfl rfl (fun _ _ _  => rfl) rfl rfl ?_
                              refine jv_aload_n (pc' := 219) (k := 0) (x := 103) rfl rfl rfl rfl ?_
                              refine jv_getR (pc' := 222) (c := 12) (k := 35) (v := 125) rfl rfl rfl (fun _ _ => rfl) rfl rfl (jR_103_35 _) ?_
                              refine jv_iload_n (pc' := 223) (k := 1) (x := (iI ((nm : Nat) : Int))) rfl rfl rfl rfl ?_
                              refine jv_lload (pc' := 225) (k := 6) (x := (lI ((bv B pl w : Nat) : Int))) rfl rfl rfl ?_
                              refine jv_lastore (pc' := 226) (n := 8) (e := ((nm : Nat) : Int)) (v := (lI ((bv B pl w : Nat) : Int))) rfl rfl rfl rfl rfl (by omega) ?_
                              refine jv_aload_n (pc' := 227) (k := 0) (x := 103) rfl rfl rfl rfl ?_
                              refine jv_getR (pc' := 230) (c := 12) (k := 36) (v := 126) rfl rfl rfl (fun _ _ => rfl) rfl rfl (jR_103_36 _) ?_
                              refine jv_iload_n (pc' := 231) (k := 1) (x := (iI ((nm : Nat) : Int))) rfl rfl rfl rfl ?_
                              refine jv_iconst (pc' := 232) (n := 1) rfl rfl ?_
                              refine jv_bastore (pc' := 233) (n := 8) (e := ((nm : Nat) : Int)) (v := (iI 1)) rfl rfl rfl rfl rfl (by omega) (by first | exact Or.inl rfl | exact Or.inr rfl) ?_
                              refine jv_retV rfl rfl ⟨_, _, rfl, ?_⟩
                              first
                              | (exfalso; omega)
                              | (have hv2 : v = bv B pl w := hv.trans (fv_0 (by omega))
                                 rw [u3] at hmk
                                 have em : mk = 0 := hmk.trans ((fm_2 rfl).trans (if_pos (by omega)))
                                 subst em
                                 subst hok
                                 subst hv2
                                 exact ⟨_, _, rfl, rfl, (fr_u (by simp [wM1]) (fr_u (by simp [wM1]) (fr_u (by simp [wM1]) (fr_t (fr_t (fr_u (by simp [wM1]) (fr_u (by simp [wM1]) (fr_u (by simp [wM1]) (fr_r _)))) rq12) rq24)))), (fr_u (by simp [wN1]) (fr_t (fr_t (fr_r _) tq12) tq24)), DM_F Dq24 rfl rfl (by first | rfl | omega), ((uq24 103 19 (by simp)).trans ((uq12 103 19 (by simp)).trans rfl)), rfl⟩)
                            · skip
                              exact absurd hz_23 (by decide)
                          · skip
                            exact absurd hz_22 (by decide)
                        · skip
                          exact absurd hz_21 (by decide)
                      · skip
                        refine jv_iconst (pc' := 148) (n := 1) rfl rfl ?_
                        refine jx_step (pc' := 152) rfl ?_
                        refine jv_istore (pc' := 154) (k := 8) (x := (iI 1)) rfl rfl rfl (Or.inr rfl) ?_
                        refine jv_iload (pc' := 156) (k := 4) (x := (iI (-1))) rfl rfl rfl ?_
                        refine jv_if_lt (t := 172) (pc' := 159) (a := (-1)) rfl rfl rfl (by omega) (fun hz_25 => ?_) (fun hz_25 => ?_)
                        · skip
                          refine jv_iconst (pc' := 173) (n := 0) rfl rfl ?_
                          refine jv_istore (pc' := 175) (k := 9) (x := (iI 0)) rfl rfl rfl (Or.inr rfl) ?_
                          refine jv_aload_n (pc' := 176) (k := 0) (x := 103) rfl rfl rfl rfl ?_
                          refine jv_iload_n (pc' := 177) (k := 1) (x := (iI ((nm : Nat) : Int))) rfl rfl rfl rfl ?_
                          refine jv_iload_n (pc' := 178) (k := 2) (x := (iI ((w : Nat) : Int))) rfl rfl rfl rfl ?_
                          refine jv_lload (pc' := 180) (k := 6) (x := (lI ((bv B pl w : Nat) : Int))) rfl rfl rfl ?_
                          refine jv_iload (pc' := 182) (k := 9) (x := (iI 0)) rfl rfl rfl ?_
                          refine jv_if_eq (t := 189) (pc' := 185) (a := 0) rfl rfl rfl (by omega) (fun hz_26 => ?_) (fun hz_26 => ?_)
                          · skip
                            refine jv_iload (pc' := 191) (k := 8) (x := (iI 1)) rfl rfl rfl ?_
                            refine jv_if_eq (t := 198) (pc' := 194) (a := 1) rfl rfl rfl (by omega) (fun hz_27 => ?_) (fun hz_27 => ?_)
                            · skip
                              exact absurd hz_27 (by decide)
                            · skip
                              refine jv_iconst (pc' := 195) (n := 3) rfl rfl ?_
                              refine jx_step (pc' := 199) rfl ?_
                              obtain ⟨nq28, hnq28, hmq28⟩ := DV_n Vq12.1 hlim
                              refine jv_call (pc' := 202) rfl (ml_enter (I := Iq12) (M := Mq12) (s := (dS s)) Xq12 Dq12 Vq12.1 hnq28 hmq28) (fun vq28 gq28 q28 => ?_)
                              obtain ⟨Iq28, Mq28, rfl, rfl, Dq28, uq28, wq28⟩ := q28
                              have rq28 := fr_w uq28 wM1_E
                              have tq28 := fr_w wq28 wN1_E
                              have Xq28 := MX_fr (I := Iq12) Xq12 (fr_w rq28 wM_1)
                              show jx L xs _ 142 202 _ [] _ _
                              refine jv_aload_n (pc' := 203) (k := 0) (x := 103) rfl rfl rfl rfl ?_
                              refine jv_iload (pc' := 205) (k := 9) (x := (iI 0)) rfl rfl rfl ?_
                              refine jv_putZ (pc' := 208) (c := 12) (k := 33) rfl rfl rfl rfl (fun _ _ _ hz => if_pos hz) rfl rfl (by first | exact Or.inl rfl | exact Or.inr rfl) ?_
                              refine jv_aload_n (pc' := 209) (k := 0) (x := 103) rfl rfl rfl rfl ?_
                              refine jv_aload_n (pc' := 210) (k := 0) (x := 103) rfl rfl rfl rfl ?_
                              refine jv_getI (pc' := 213) (c := 12) (k := 30) (v := (iI ((dE (dS s) l ((nm : Nat) : Int) ((w : Nat) : Int) ((bv B pl w : Nat) : Int) 3) 0 0))) rfl rfl rfl (fun _ _ => rfl) rfl rfl Dq28.1 ?_
                              refine jv_iload_n (pc' := 214) (k := 2) (x := (iI ((w : Nat) : Int))) rfl rfl rfl rfl ?_
                              refine jv_iadd (pc' := 215) (a := ((dE (dS s) l ((nm : Nat) : Int) ((w : Nat) : Int) ((bv B pl w : Nat) : Int) 3) 0 0)) (b := ((w : Nat) : Int)) rfl rfl ?_
                              refine jv_putI (pc' := 218) (c := 12) (k := 30) rfl rfl rfl rfl (fun _ _ _  => rfl) rfl rfl ?_
                              refine jv_aload_n (pc' := 219) (k := 0) (x := 103) rfl rfl rfl rfl ?_
                              refine jv_getR (pc' := 222) (c := 12) (k := 35) (v := 125) rfl rfl rfl (fun _ _ => rfl) rfl rfl (jR_103_35 _) ?_
                              refine jv_iload_n (pc' := 223) (k := 1) (x := (iI ((nm : Nat) : Int))) rfl rfl rfl rfl ?_
                              refine jv_lload (pc' := 225) (k := 6) (x := (lI ((bv B pl w : Nat) : Int))) rfl rfl rfl ?_
                              refine jv_lastore (pc' := 226) (n := 8) (e := ((nm : Nat) : Int)) (v := (lI ((bv B pl w : Nat) : Int))) rfl rfl rfl rfl rfl (by omega) ?_
                              refine jv_aload_n (pc' := 227) (k := 0) (x := 103) rfl rfl rfl rfl ?_
                              refine jv_getR (pc' := 230) (c := 12) (k := 36) (v := 126) rfl rfl rfl (fun _ _ => rfl) rfl rfl (jR_103_36 _) ?_
                              refine jv_iload_n (pc' := 231) (k := 1) (x := (iI ((nm : Nat) : Int))) rfl rfl rfl rfl ?_
                              refine jv_iconst (pc' := 232) (n := 1) rfl rfl ?_
                              refine jv_bastore (pc' := 233) (n := 8) (e := ((nm : Nat) : Int)) (v := (iI 1)) rfl rfl rfl rfl rfl (by omega) (by first | exact Or.inl rfl | exact Or.inr rfl) ?_
                              refine jv_retV rfl rfl ⟨_, _, rfl, ?_⟩
                              first
                              | (exfalso; omega)
                              | (have hv2 : v = bv B pl w := hv.trans (fv_0 (by omega))
                                 rw [u3] at hmk
                                 have em : mk = 3 := hmk.trans ((fm_2 rfl).trans (if_neg (by omega)))
                                 subst em
                                 subst hok
                                 subst hv2
                                 exact ⟨_, _, rfl, rfl, (fr_u (by simp [wM1]) (fr_u (by simp [wM1]) (fr_u (by simp [wM1]) (fr_t (fr_t (fr_u (by simp [wM1]) (fr_u (by simp [wM1]) (fr_u (by simp [wM1]) (fr_r _)))) rq12) rq28)))), (fr_u (by simp [wN1]) (fr_t (fr_t (fr_r _) tq12) tq28)), DM_F Dq28 rfl rfl (by first | rfl | omega), ((uq28 103 19 (by simp)).trans ((uq12 103 19 (by simp)).trans rfl)), rfl⟩)
                          · skip
                            exact absurd hz_26 (by decide)
                        · skip
                          exact absurd hz_25 (by decide)
                  · skip
                    exact absurd hz_16 (by decide)
                · skip
                  exfalso; omega
              · skip
                exact absurd hz_13 (by decide)
        · skip
          exact absurd hz_8 (by decide)
      · skip
        refine jv_aload_n (pc' := 1) (k := 0) (x := 103) rfl rfl rfl rfl ?_
        have hm1 := MT_c hX.1 (a)
        refine jv_call (pc' := 4) rfl (ml_here (I := I) (a := a) hX.1 hat (by omega)) (fun vq2 gq2 q2 => ?_)
        obtain ⟨rfl, rfl⟩ := q2
        show jx L xs _ 142 4 _ [.int (iI (c (a)))] _ _
        refine jv_bipush (pc' := 6) (n := 97) rfl rfl rfl ?_
        refine jv_isub (pc' := 7) (a := (c (a))) (b := 97) rfl rfl ?_
        rw [show (c (a)) - 97 = ((nm : Nat) : Int) by omega]
        refine jv_istore_n (pc' := 8) (k := 1) (x := (iI ((nm : Nat) : Int))) rfl rfl rfl rfl (Or.inr rfl) ?_
        refine jv_aload_n (pc' := 9) (k := 0) (x := 103) rfl rfl rfl rfl ?_
        refine jx_step (pc' := 10) rfl ?_
        refine jv_getI (pc' := 13) (c := 12) (k := 19) (v := (iI ((a : Nat) : Int))) rfl rfl rfl (fun _ _ => rfl) rfl rfl hat ?_
        refine jv_iconst (pc' := 14) (n := 1) rfl rfl ?_
        refine jv_iadd (pc' := 15) (a := ((a : Nat) : Int)) (b := 1) rfl rfl ?_
        refine jv_putI (pc' := 18) (c := 12) (k := 19) rfl rfl rfl rfl (fun _ _ _  => rfl) rfl rfl ?_
        refine jv_aload_n (pc' := 19) (k := 0) (x := 103) rfl rfl rfl rfl ?_
        have hm3 := nv_b c (a + 1)
        have hm4 := nd_le c (a + 1)
        refine jv_call (pc' := 22) rfl (ml_number_y (I := jm_u I 103 19 (iI (((a : Nat) : Int) + 1))) (a := a + 1) hX.1 rfl (by omega) (by omega)) (fun vq5 gq5 q5 => ?_)
        obtain ⟨rfl, rfl⟩ := q5
        show jx L xs _ 142 22 _ [.int (iI (nv c (a + 1)))] _ _
        rw [show nv c (a + 1) = ((w : Nat) : Int) by omega]
        refine jv_istore_n (pc' := 23) (k := 2) (x := (iI ((w : Nat) : Int))) rfl rfl rfl rfl (Or.inr rfl) ?_
        refine jv_aload_n (pc' := 24) (k := 0) (x := 103) rfl rfl rfl rfl ?_
        refine jv_bipush (pc' := 26) (n := 60) rfl rfl rfl ?_
        refine jv_call (pc' := 29) rfl (ml_takes_n (I := jm_u (jm_u I 103 19 (iI (((a : Nat) : Int) + 1))) 103 19 (iI ((a + 1 + nd c (a + 1) : Nat) : Int))) (x := 60) (a := a + 1 + nd c (a + 1)) (by omega) hX.1 rfl (by omega) (by omega)) (fun vq6 gq6 q6 => ?_)
        obtain ⟨rfl, rfl⟩ := q6
        show jx L xs _ 142 29 _ [.int (iI 0)] _ _
        refine jv_istore_n (pc' := 30) (k := 3) (x := (iI 0)) rfl rfl rfl rfl (Or.inr rfl) ?_
        refine jv_aload_n (pc' := 31) (k := 0) (x := 103) rfl rfl rfl rfl ?_
        refine jv_bipush (pc' := 33) (n := 61) rfl rfl rfl ?_
        refine jv_call (pc' := 36) rfl (ml_takes_n (I := jm_u (jm_u I 103 19 (iI (((a : Nat) : Int) + 1))) 103 19 (iI ((a + 1 + nd c (a + 1) : Nat) : Int))) (x := 61) (a := a + 1 + nd c (a + 1)) (by omega) hX.1 rfl (by omega) (by omega)) (fun vq7 gq7 q7 => ?_)
        obtain ⟨rfl, rfl⟩ := q7
        show jx L xs _ 142 36 _ [.int (iI 0)] _ _
        refine jv_if_eq (t := 46) (pc' := 39) (a := 0) rfl rfl rfl (by omega) (fun hz_8 => ?_) (fun hz_8 => ?_)
        · skip
          refine jv_iconst (pc' := 47) (n := -1) rfl rfl ?_
          refine jv_istore (pc' := 49) (k := 4) (x := (iI (-1))) rfl rfl rfl (Or.inr rfl) ?_
          refine jv_iload (pc' := 51) (k := 4) (x := (iI (-1))) rfl rfl rfl ?_
          refine jv_if_ge (t := 67) (pc' := 54) (a := (-1)) rfl rfl rfl (by omega) (fun hz_9 => ?_) (fun hz_9 => ?_)
          · skip
            exact absurd hz_9 (by decide)
          · skip
            refine jv_aload_n (pc' := 55) (k := 0) (x := 103) rfl rfl rfl rfl ?_
            refine jv_bipush (pc' := 57) (n := 33) rfl rfl rfl ?_
            refine jv_call (pc' := 60) rfl (ml_takes_n (I := jm_u (jm_u I 103 19 (iI (((a : Nat) : Int) + 1))) 103 19 (iI ((a + 1 + nd c (a + 1) : Nat) : Int))) (x := 33) (a := a + 1 + nd c (a + 1)) (by omega) hX.1 rfl (by omega) (by omega)) (fun vq10 gq10 q10 => ?_)
            obtain ⟨rfl, rfl⟩ := q10
            show jx L xs _ 142 60 _ [.int (iI 0)] _ _
            refine jv_if_eq (t := 67) (pc' := 63) (a := 0) rfl rfl rfl (by omega) (fun hz_11 => ?_) (fun hz_11 => ?_)
            · skip
              refine jv_iconst (pc' := 68) (n := 0) rfl rfl ?_
              refine jv_istore (pc' := 70) (k := 5) (x := (iI 0)) rfl rfl rfl (Or.inr rfl) ?_
              refine jv_aload_n (pc' := 71) (k := 0) (x := 103) rfl rfl rfl rfl ?_
              refine jv_iload_n (pc' := 72) (k := 1) (x := (iI ((nm : Nat) : Int))) rfl rfl rfl rfl ?_
              refine jv_call (pc' := 75) rfl (ml_steps_y (I := jm_u (jm_u I 103 19 (iI (((a : Nat) : Int) + 1))) 103 19 (iI ((a + 1 + nd c (a + 1) : Nat) : Int))) (M := M) (s := s) (nm := ((nm : Nat) : Int)) hX hM hV o1) (fun vq12 gq12 q12 => ?_)
              obtain ⟨Iq12, Mq12, rfl, rfl, rq12, tq12, Dq12, uq12⟩ := q12
              have Xq12 := MX_fr (I := jm_u (jm_u I 103 19 (iI (((a : Nat) : Int) + 1))) 103 19 (iI ((a + 1 + nd c (a + 1) : Nat) : Int))) hX (fr_w rq12 wM_1)
              have Vq12 := DV_S hV o1
              have epq12 : dS s 0 0 = ((pl : Nat) : Int) := hpl
              show jx L xs _ 142 75 _ [.int (iI 1)] _ _
              refine jv_if_ne (t := 79) (pc' := 78) (a := 1) rfl rfl rfl (by omega) (fun hz_13 => ?_) (fun hz_13 => ?_)
              · skip
                refine jv_aload_n (pc' := 80) (k := 0) (x := 103) rfl rfl rfl rfl ?_
                refine jv_call (pc' := 83) rfl (ml_leftBits (I := Iq12) (M := Mq12) (s := (dS s)) Xq12 Dq12 Vq12.1) (fun vq14 gq14 q14 => ?_)
                obtain ⟨rfl, rfl⟩ := q14
                show jx L xs _ 142 83 _ [.int (iI (8 * (sz : Int) - (dS s) 0 0))] _ _
                refine jv_iload_n (pc' := 84) (k := 2) (x := (iI ((w : Nat) : Int))) rfl rfl rfl rfl ?_
                refine jv_ic_ge (t := 101) (pc' := 87) (a := (8 * (sz : Int) - (dS s) 0 0)) (b := ((w : Nat) : Int)) rfl rfl rfl (by omega) (fun hz_15 => ?_) (fun hz_15 => ?_)
                · skip
                  refine jv_iload_n (pc' := 102) (k := 3) (x := (iI 0)) rfl rfl rfl rfl ?_
                  refine jv_if_eq (t := 117) (pc' := 105) (a := 0) rfl rfl rfl (by omega) (fun hz_16 => ?_) (fun hz_16 => ?_)
                  · skip
                    refine jv_aload_n (pc' := 118) (k := 0) (x := 103) rfl rfl rfl rfl ?_
                    refine jv_aload_n (pc' := 119) (k := 0) (x := 103) rfl rfl rfl rfl ?_
                    refine jv_getI (pc' := 122) (c := 12) (k := 30) (v := (iI ((pl : Nat) : Int))) rfl rfl rfl (fun _ _ => rfl) rfl rfl (Dq12.1.trans (congrArg iI hpl)) ?_
                    refine jv_iload_n (pc' := 123) (k := 2) (x := (iI ((w : Nat) : Int))) rfl rfl rfl rfl ?_
                    refine jv_call (pc' := 126) rfl (ml_bitsAt (I := Iq12) (M := Mq12) (a := pl) (n := w) Xq12.2.1 Xq12.2.2.1 (by omega) (by omega)) (fun vq17 gq17 q17 => ?_)
                    obtain ⟨rfl, rfl⟩ := q17
                    show jx L xs _ 142 126 _ [.long (lI ((bv B pl w : Nat) : Int))] _ _
                    refine jv_lstore (pc' := 128) (k := 6) (x := (lI ((bv B pl w : Nat) : Int))) rfl rfl rfl (Or.inr rfl) ?_
                    have hvv : v = bv B pl w := hv.trans (fv_0 (by omega))
                    refine jv_iload (pc' := 130) (k := 5) (x := (iI 0)) rfl rfl rfl ?_
                    refine jv_if_eq (t := 151) (pc' := 133) (a := 0) rfl rfl rfl (by omega) (fun hz_18 => ?_) (fun hz_18 => ?_)
                    · skip
                      refine jv_iconst (pc' := 152) (n := 0) rfl rfl ?_
                      refine jv_istore (pc' := 154) (k := 8) (x := (iI 0)) rfl rfl rfl (Or.inr rfl) ?_
                      refine jv_iload (pc' := 156) (k := 4) (x := (iI (-1))) rfl rfl rfl ?_
                      refine jv_if_lt (t := 172) (pc' := 159) (a := (-1)) rfl rfl rfl (by omega) (fun hz_19 => ?_) (fun hz_19 => ?_)
                      · skip
                        refine jv_iconst (pc' := 173) (n := 0) rfl rfl ?_
                        refine jv_istore (pc' := 175) (k := 9) (x := (iI 0)) rfl rfl rfl (Or.inr rfl) ?_
                        refine jv_aload_n (pc' := 176) (k := 0) (x := 103) rfl rfl rfl rfl ?_
                        refine jv_iload_n (pc' := 177) (k := 1) (x := (iI ((nm : Nat) : Int))) rfl rfl rfl rfl ?_
                        refine jv_iload_n (pc' := 178) (k := 2) (x := (iI ((w : Nat) : Int))) rfl rfl rfl rfl ?_
                        refine jv_lload (pc' := 180) (k := 6) (x := (lI ((bv B pl w : Nat) : Int))) rfl rfl rfl ?_
                        refine jv_iload (pc' := 182) (k := 9) (x := (iI 0)) rfl rfl rfl ?_
                        refine jv_if_eq (t := 189) (pc' := 185) (a := 0) rfl rfl rfl (by omega) (fun hz_20 => ?_) (fun hz_20 => ?_)
                        · skip
                          refine jv_iload (pc' := 191) (k := 8) (x := (iI 0)) rfl rfl rfl ?_
                          refine jv_if_eq (t := 198) (pc' := 194) (a := 0) rfl rfl rfl (by omega) (fun hz_21 => ?_) (fun hz_21 => ?_)
                          · skip
                            refine jv_iconst (pc' := 199) (n := 0) rfl rfl ?_
                            obtain ⟨nq22, hnq22, hmq22⟩ := DV_n Vq12.1 hlim
                            refine jv_call (pc' := 202) rfl (ml_enter (I := Iq12) (M := Mq12) (s := (dS s)) Xq12 Dq12 Vq12.1 hnq22 hmq22) (fun vq22 gq22 q22 => ?_)
                            obtain ⟨Iq22, Mq22, rfl, rfl, Dq22, uq22, wq22⟩ := q22
                            have rq22 := fr_w uq22 wM1_E
                            have tq22 := fr_w wq22 wN1_E
                            have Xq22 := MX_fr (I := Iq12) Xq12 (fr_w rq22 wM_1)
                            show jx L xs _ 142 202 _ [] _ _
                            refine jv_aload_n (pc' := 203) (k := 0) (x := 103) rfl rfl rfl rfl ?_
                            refine jv_iload (pc' := 205) (k := 9) (x := (iI 0)) rfl rfl rfl ?_
                            refine jv_putZ (pc' := 208) (c := 12) (k := 33) rfl rfl rfl rfl (fun _ _ _ hz => if_pos hz) rfl rfl (by first | exact Or.inl rfl | exact Or.inr rfl) ?_
                            refine jv_aload_n (pc' := 209) (k := 0) (x := 103) rfl rfl rfl rfl ?_
                            refine jv_aload_n (pc' := 210) (k := 0) (x := 103) rfl rfl rfl rfl ?_
                            refine jv_getI (pc' := 213) (c := 12) (k := 30) (v := (iI ((dE (dS s) l ((nm : Nat) : Int) ((w : Nat) : Int) ((bv B pl w : Nat) : Int) 0) 0 0))) rfl rfl rfl (fun _ _ => rfl) rfl rfl Dq22.1 ?_
                            refine jv_iload_n (pc' := 214) (k := 2) (x := (iI ((w : Nat) : Int))) rfl rfl rfl rfl ?_
                            refine jv_iadd (pc' := 215) (a := ((dE (dS s) l ((nm : Nat) : Int) ((w : Nat) : Int) ((bv B pl w : Nat) : Int) 0) 0 0)) (b := ((w : Nat) : Int)) rfl rfl ?_
                            refine jv_putI (pc' := 218) (c := 12) (k := 30) rfl rfl rfl rfl (fun _ _ _  => rfl) rfl rfl ?_
                            refine jv_aload_n (pc' := 219) (k := 0) (x := 103) rfl rfl rfl rfl ?_
                            refine jv_getR (pc' := 222) (c := 12) (k := 35) (v := 125) rfl rfl rfl (fun _ _ => rfl) rfl rfl (jR_103_35 _) ?_
                            refine jv_iload_n (pc' := 223) (k := 1) (x := (iI ((nm : Nat) : Int))) rfl rfl rfl rfl ?_
                            refine jv_lload (pc' := 225) (k := 6) (x := (lI ((bv B pl w : Nat) : Int))) rfl rfl rfl ?_
                            refine jv_lastore (pc' := 226) (n := 8) (e := ((nm : Nat) : Int)) (v := (lI ((bv B pl w : Nat) : Int))) rfl rfl rfl rfl rfl (by omega) ?_
                            refine jv_aload_n (pc' := 227) (k := 0) (x := 103) rfl rfl rfl rfl ?_
                            refine jv_getR (pc' := 230) (c := 12) (k := 36) (v := 126) rfl rfl rfl (fun _ _ => rfl) rfl rfl (jR_103_36 _) ?_
                            refine jv_iload_n (pc' := 231) (k := 1) (x := (iI ((nm : Nat) : Int))) rfl rfl rfl rfl ?_
                            refine jv_iconst (pc' := 232) (n := 1) rfl rfl ?_
                            refine jv_bastore (pc' := 233) (n := 8) (e := ((nm : Nat) : Int)) (v := (iI 1)) rfl rfl rfl rfl rfl (by omega) (by first | exact Or.inl rfl | exact Or.inr rfl) ?_
                            refine jv_retV rfl rfl ⟨_, _, rfl, ?_⟩
                            first
                            | (exfalso; omega)
                            | (have hv2 : v = bv B pl w := hv.trans (fv_0 (by omega))
                               rw [u3] at hmk
                               have em : mk = 0 := hmk.trans (fm_0 rfl)
                               subst em
                               subst hok
                               subst hv2
                               exact ⟨_, _, rfl, rfl, (fr_u (by simp [wM1]) (fr_u (by simp [wM1]) (fr_u (by simp [wM1]) (fr_t (fr_t (fr_u (by simp [wM1]) (fr_u (by simp [wM1]) (fr_r _))) rq12) rq22)))), (fr_u (by simp [wN1]) (fr_t (fr_t (fr_r _) tq12) tq22)), DM_F Dq22 rfl rfl (by first | rfl | omega), ((uq22 103 19 (by simp)).trans ((uq12 103 19 (by simp)).trans rfl)), rfl⟩)
                          · skip
                            exact absurd hz_21 (by decide)
                        · skip
                          exact absurd hz_20 (by decide)
                      · skip
                        exact absurd hz_19 (by decide)
                    · skip
                      exact absurd hz_18 (by decide)
                  · skip
                    exact absurd hz_16 (by decide)
                · skip
                  exfalso; omega
              · skip
                exact absurd hz_13 (by decide)
            · skip
              exact absurd hz_11 (by decide)
        · skip
          exact absurd hz_8 (by decide)
set_option maxHeartbeats 4000000 in
theorem ml_runBlock (hX : MX I fi B sz l bg lim c n) (hM : DM I M s) (hV : DV lim sz s) (hat : I 103 19 = iI ((a : Nat) : Int)) (hov : I 103 33 = iI 0) {Y : Nat → Nat → Int} {f : Nat} (hBK : BK c Y f a) (he : a + 2 ≤ 80) {ok : Bool} (hBL : BL lim sz l (Y 1 f) s ok s') : jc L xs (d + 3) 143 [.ref 103] (jx_G j I M p) (fun v g1 => ∃ I' M', g1 = jx_G j I' M' p ∧ v = none ∧ fr wM1 I I' ∧ fr wN1 M M' ∧ DM I' M' s' ∧ I' 103 19 = iI ((a + 2 : Nat) : Int) ∧ I' 103 33 = iI (if ok = true then 0 else 1)) := by
  unfold jc
  have hs := hX.2.1.2.2.1
  have hfi := hX.2.1.1
  have hlim := hX.2.2.2.2.2.2.2.1
  have hbg := hX.2.2.2.2.2.2.2.2.1
  have hl := hX.2.2.2.2.2.2.2.2.2
  have hv0 := hV.1
  have hv1 := hV.2.1
  have hv2 := hV.2.2.1
  have hn80 := hX.1.2.1
  obtain ⟨h36, _, hcn⟩ := hBK
  obtain ⟨pl, hpl⟩ : ∃ pl : Nat, s 0 0 = ((pl : Nat) : Int) := ⟨(s 0 0).toNat, by omega⟩
  rcases hBL with ⟨s1, ⟨hSP, rfl, rfl⟩ | ⟨hSP, ct, hct, ⟨hlt, rfl, rfl⟩ | ⟨hge, rfl, rfl⟩⟩⟩
  · obtain ⟨o1, rfl⟩ := SP_f hSP
    rcases hcn with ⟨hc42, hst⟩ | ⟨hc42, hcn2, h1⟩
    · skip
      refine jv_aload_n (pc' := 1) (k := 0) (x := 103) rfl rfl rfl rfl ?_
      refine jx_step (pc' := 2) rfl ?_
      refine jv_getI (pc' := 5) (c := 12) (k := 19) (v := (iI ((a : Nat) : Int))) rfl rfl rfl (fun _ _ => rfl) rfl rfl hat ?_
      refine jv_iconst (pc' := 6) (n := 1) rfl rfl ?_
      refine jv_iadd (pc' := 7) (a := ((a : Nat) : Int)) (b := 1) rfl rfl ?_
      refine jv_putI (pc' := 10) (c := 12) (k := 19) rfl rfl rfl rfl (fun _ _ _  => rfl) rfl rfl ?_
      refine jv_aload_n (pc' := 11) (k := 0) (x := 103) rfl rfl rfl rfl ?_
      refine jv_call (pc' := 14) rfl (ml_count_s (d := d) (I := jm_u I 103 19 (iI (((a : Nat) : Int) + 1))) (a := a + 1) (F := 255) hX.1 rfl (by omega) hX.2.2.2.2.2.2.1 (by omega) hc42) (fun vq1 gq1 q1 => ?_)
      obtain ⟨rfl, rfl⟩ := q1
      show jx L xs _ 143 14 _ [.int (iI 8)] _ _
      refine jv_istore_n (pc' := 15) (k := 1) (x := (iI 8)) rfl rfl rfl rfl (Or.inr rfl) ?_
      refine jv_aload_n (pc' := 16) (k := 0) (x := 103) rfl rfl rfl rfl ?_
      refine jv_bipush (pc' := 18) (n := 8) rfl rfl rfl ?_
      refine jv_call (pc' := 21) rfl (ml_steps_n (I := jm_u (jm_u I 103 19 (iI (((a : Nat) : Int) + 1))) 103 19 (iI ((a + 2 : Nat) : Int))) (M := M) (s := s) (nm := 8) hX hM hV o1) (fun vq2 gq2 q2 => ?_)
      obtain ⟨Iq2, Mq2, rfl, rfl, rq2, tq2, Dq2, oq2, uq2⟩ := q2
      have Xq2 := MX_fr (I := jm_u (jm_u I 103 19 (iI (((a : Nat) : Int) + 1))) 103 19 (iI ((a + 2 : Nat) : Int))) hX (fr_w rq2 wM_1)
      show jx L xs _ 143 21 _ [.int (iI 0)] _ _
      refine jv_if_ne (t := 25) (pc' := 24) (a := 0) rfl rfl rfl (by omega) (fun hz_3 => ?_) (fun hz_3 => ?_)
      · skip
        exact absurd hz_3 (by decide)
      · skip
        refine jv_retV rfl rfl ⟨_, _, rfl, ?_⟩
        first
        | (exfalso; omega)
        | exact ⟨_, _, rfl, rfl, (fr_t (fr_u (by simp [wM1]) (fr_u (by simp [wM1]) (fr_r _))) rq2), (fr_t (fr_r _) tq2), Dq2, ((uq2 19 (by omega)).trans rfl), oq2⟩
    · skip
      obtain ⟨nm, hnm, hnm8⟩ : ∃ nm : Nat, c (a + 1) - 97 = ((nm : Nat) : Int) ∧ nm < 8 := ⟨(c (a + 1) - 97).toNat, by omega, by omega⟩
      have hv3 := (hV.2.2.2 nm hnm8).1
      have hv4 : dS s 1 nm = s 1 nm := dS_r s (by omega) nm
      refine jv_aload_n (pc' := 1) (k := 0) (x := 103) rfl rfl rfl rfl ?_
      refine jx_step (pc' := 2) rfl ?_
      refine jv_getI (pc' := 5) (c := 12) (k := 19) (v := (iI ((a : Nat) : Int))) rfl rfl rfl (fun _ _ => rfl) rfl rfl hat ?_
      refine jv_iconst (pc' := 6) (n := 1) rfl rfl ?_
      refine jv_iadd (pc' := 7) (a := ((a : Nat) : Int)) (b := 1) rfl rfl ?_
      refine jv_putI (pc' := 10) (c := 12) (k := 19) rfl rfl rfl rfl (fun _ _ _  => rfl) rfl rfl ?_
      refine jv_aload_n (pc' := 11) (k := 0) (x := 103) rfl rfl rfl rfl ?_
      refine jv_call (pc' := 14) rfl (ml_count_y (d := d) (I := jm_u I 103 19 (iI (((a : Nat) : Int) + 1))) (a := a + 1) (F := 255) hX.1 rfl (by omega) hX.2.2.2.2.2.2.1 (by omega) hc42 (knw_255 hcn2)) (fun vq1 gq1 q1 => ?_)
      obtain ⟨rfl, rfl⟩ := q1
      show jx L xs _ 143 14 _ [.int (iI (c (a + 1) - 97))] _ _
      rw [show c (a + 1) - 97 = ((nm : Nat) : Int) by omega]
      refine jv_istore_n (pc' := 15) (k := 1) (x := (iI ((nm : Nat) : Int))) rfl rfl rfl rfl (Or.inr rfl) ?_
      refine jv_aload_n (pc' := 16) (k := 0) (x := 103) rfl rfl rfl rfl ?_
      refine jv_bipush (pc' := 18) (n := 8) rfl rfl rfl ?_
      refine jv_call (pc' := 21) rfl (ml_steps_n (I := jm_u (jm_u I 103 19 (iI (((a : Nat) : Int) + 1))) 103 19 (iI ((a + 2 : Nat) : Int))) (M := M) (s := s) (nm := 8) hX hM hV o1) (fun vq2 gq2 q2 => ?_)
      obtain ⟨Iq2, Mq2, rfl, rfl, rq2, tq2, Dq2, oq2, uq2⟩ := q2
      have Xq2 := MX_fr (I := jm_u (jm_u I 103 19 (iI (((a : Nat) : Int) + 1))) 103 19 (iI ((a + 2 : Nat) : Int))) hX (fr_w rq2 wM_1)
      show jx L xs _ 143 21 _ [.int (iI 0)] _ _
      refine jv_if_ne (t := 25) (pc' := 24) (a := 0) rfl rfl rfl (by omega) (fun hz_3 => ?_) (fun hz_3 => ?_)
      · skip
        exact absurd hz_3 (by decide)
      · skip
        refine jv_retV rfl rfl ⟨_, _, rfl, ?_⟩
        first
        | (exfalso; omega)
        | exact ⟨_, _, rfl, rfl, (fr_t (fr_u (by simp [wM1]) (fr_u (by simp [wM1]) (fr_r _))) rq2), (fr_t (fr_r _) tq2), Dq2, ((uq2 19 (by omega)).trans rfl), oq2⟩
  · obtain ⟨o1, rfl⟩ := SP_t hSP
    rcases hcn with ⟨hc42, hst⟩ | ⟨hc42, hcn2, h1⟩
    · skip
      rw [if_pos hst] at hct
      refine jv_aload_n (pc' := 1) (k := 0) (x := 103) rfl rfl rfl rfl ?_
      refine jx_step (pc' := 2) rfl ?_
      refine jv_getI (pc' := 5) (c := 12) (k := 19) (v := (iI ((a : Nat) : Int))) rfl rfl rfl (fun _ _ => rfl) rfl rfl hat ?_
      refine jv_iconst (pc' := 6) (n := 1) rfl rfl ?_
      refine jv_iadd (pc' := 7) (a := ((a : Nat) : Int)) (b := 1) rfl rfl ?_
      refine jv_putI (pc' := 10) (c := 12) (k := 19) rfl rfl rfl rfl (fun _ _ _  => rfl) rfl rfl ?_
      refine jv_aload_n (pc' := 11) (k := 0) (x := 103) rfl rfl rfl rfl ?_
      refine jv_call (pc' := 14) rfl (ml_count_s (d := d) (I := jm_u I 103 19 (iI (((a : Nat) : Int) + 1))) (a := a + 1) (F := 255) hX.1 rfl (by omega) hX.2.2.2.2.2.2.1 (by omega) hc42) (fun vq1 gq1 q1 => ?_)
      obtain ⟨rfl, rfl⟩ := q1
      show jx L xs _ 143 14 _ [.int (iI 8)] _ _
      refine jv_istore_n (pc' := 15) (k := 1) (x := (iI 8)) rfl rfl rfl rfl (Or.inr rfl) ?_
      refine jv_aload_n (pc' := 16) (k := 0) (x := 103) rfl rfl rfl rfl ?_
      refine jv_bipush (pc' := 18) (n := 8) rfl rfl rfl ?_
      refine jv_call (pc' := 21) rfl (ml_steps_y (I := jm_u (jm_u I 103 19 (iI (((a : Nat) : Int) + 1))) 103 19 (iI ((a + 2 : Nat) : Int))) (M := M) (s := s) (nm := 8) hX hM hV o1) (fun vq2 gq2 q2 => ?_)
      obtain ⟨Iq2, Mq2, rfl, rfl, rq2, tq2, Dq2, uq2⟩ := q2
      have Xq2 := MX_fr (I := jm_u (jm_u I 103 19 (iI (((a : Nat) : Int) + 1))) 103 19 (iI ((a + 2 : Nat) : Int))) hX (fr_w rq2 wM_1)
      have Vq2 := DV_S hV o1
      have epq2 : dS s 0 0 = ((pl : Nat) : Int) := hpl
      show jx L xs _ 143 21 _ [.int (iI 1)] _ _
      refine jv_if_ne (t := 25) (pc' := 24) (a := 1) rfl rfl rfl (by omega) (fun hz_3 => ?_) (fun hz_3 => ?_)
      · skip
        refine jv_iload_n (pc' := 26) (k := 1) (x := (iI 8)) rfl rfl rfl rfl ?_
        refine jv_bipush (pc' := 28) (n := 8) rfl rfl rfl ?_
        refine jv_ic_ne (t := 42) (pc' := 31) (a := 8) (b := 8) rfl rfl rfl (by omega) (fun hz_4 => ?_) (fun hz_4 => ?_)
        · skip
          exact absurd hz_4 (by decide)
        · skip
          refine jv_aload_n (pc' := 32) (k := 0) (x := 103) rfl rfl rfl rfl ?_
          refine jv_call (pc' := 35) rfl (ml_leftBits (I := Iq2) (M := Mq2) (s := (dS s)) Xq2 Dq2 Vq2.1) (fun vq5 gq5 q5 => ?_)
          obtain ⟨rfl, rfl⟩ := q5
          show jx L xs _ 143 35 _ [.int (iI (8 * (sz : Int) - (dS s) 0 0))] _ _
          refine jv_bipush (pc' := 37) (n := 8) rfl rfl rfl ?_
          refine jv_int (pc' := 38) (y := (iI (((8 * sz - pl) / 8 : Nat) : Int))) rfl ((congrArg (fun z => iI z / iI 8) (show _ = ((8 * sz - pl : Nat) : Int) by omega)).trans (iI_D8 (by omega))) ?_
          refine jv_i2l (pc' := 39) (a := (((8 * sz - pl) / 8 : Nat) : Int)) rfl rfl (by omega) ?_
          refine jx_step (pc' := 48) rfl ?_
          refine jv_lstore_n (pc' := 49) (k := 2) (x := (lI (((8 * sz - pl) / 8 : Nat) : Int))) rfl rfl rfl rfl (Or.inr rfl) ?_
          refine jv_long (pc' := 52) (y := lI 8) rfl (by decide) ?_
          refine jv_lload_n (pc' := 53) (k := 2) (x := (lI (((8 * sz - pl) / 8 : Nat) : Int))) rfl rfl rfl rfl ?_
          refine jv_lmul (pc' := 54) (a := 8) (b := (((8 * sz - pl) / 8 : Nat) : Int)) rfl rfl ?_
          refine jv_aload_n (pc' := 55) (k := 0) (x := 103) rfl rfl rfl rfl ?_
          refine jv_call (pc' := 58) rfl (ml_leftBits (I := Iq2) (M := Mq2) (s := (dS s)) Xq2 Dq2 Vq2.1) (fun vq6 gq6 q6 => ?_)
          obtain ⟨rfl, rfl⟩ := q6
          show jx L xs _ 143 58 _ [.int (iI (8 * (sz : Int) - (dS s) 0 0)), .long (lI (8 * (((8 * sz - pl) / 8 : Nat) : Int)))] _ _
          refine jv_i2l (pc' := 59) (a := (8 * (sz : Int) - (dS s) 0 0)) rfl rfl (by omega) ?_
          refine jv_lc_le (t := 78) (pc' := 63) (a := (8 * (((8 * sz - pl) / 8 : Nat) : Int))) (b := (8 * (sz : Int) - (dS s) 0 0)) rfl rfl rfl rfl rfl (by omega) (fun hz_7 => ?_) (fun hz_7 => ?_)
          · skip
            exfalso; omega
          · skip
            refine jv_aload_n (pc' := 64) (k := 0) (x := 103) rfl rfl rfl rfl ?_
            refine jv_bipush (pc' := 66) (n := 8) rfl rfl rfl ?_
            refine jv_iconst (pc' := 67) (n := 0) rfl rfl ?_
            refine jv_long (pc' := 68) (y := lI 0) rfl (by decide) ?_
            refine jv_iconst (pc' := 69) (n := 1) rfl rfl ?_
            obtain ⟨nq8, hnq8, hmq8⟩ := DV_n Vq2.1 hlim
            refine jv_call (pc' := 72) rfl (ml_enter (I := Iq2) (M := Mq2) (s := (dS s)) Xq2 Dq2 Vq2.1 hnq8 hmq8) (fun vq8 gq8 q8 => ?_)
            obtain ⟨Iq8, Mq8, rfl, rfl, Dq8, uq8, wq8⟩ := q8
            have rq8 := fr_w uq8 wM1_E
            have tq8 := fr_w wq8 wN1_E
            have Xq8 := MX_fr (I := Iq2) Xq2 (fr_w rq8 wM_1)
            show jx L xs _ 143 72 _ [] _ _
            refine jv_aload_n (pc' := 73) (k := 0) (x := 103) rfl rfl rfl rfl ?_
            refine jv_iconst (pc' := 74) (n := 1) rfl rfl ?_
            refine jv_putZ (pc' := 77) (c := 12) (k := 33) rfl rfl rfl rfl (fun _ _ _ hz => if_pos hz) rfl rfl (by first | exact Or.inl rfl | exact Or.inr rfl) ?_
            refine jv_retV rfl rfl ⟨_, _, rfl, ?_⟩
            first
            | (exfalso; omega)
            | exact ⟨_, _, rfl, rfl, (fr_u (by simp [wM1]) (fr_t (fr_t (fr_u (by simp [wM1]) (fr_u (by simp [wM1]) (fr_r _))) rq2) rq8)), (fr_t (fr_t (fr_r _) tq2) tq8), Dq8, ((uq8 103 19 (by simp)).trans ((uq2 103 19 (by simp)).trans rfl)), rfl⟩
      · skip
        exact absurd hz_3 (by decide)
    · skip
      obtain ⟨nm, hnm, hnm8⟩ : ∃ nm : Nat, c (a + 1) - 97 = ((nm : Nat) : Int) ∧ nm < 8 := ⟨(c (a + 1) - 97).toNat, by omega, by omega⟩
      have hv3 := (hV.2.2.2 nm hnm8).1
      have hv4 : dS s 1 nm = s 1 nm := dS_r s (by omega) nm
      rw [if_neg (by omega), show (Y 1 f).toNat = nm by omega] at hct
      refine jv_aload_n (pc' := 1) (k := 0) (x := 103) rfl rfl rfl rfl ?_
      refine jx_step (pc' := 2) rfl ?_
      refine jv_getI (pc' := 5) (c := 12) (k := 19) (v := (iI ((a : Nat) : Int))) rfl rfl rfl (fun _ _ => rfl) rfl rfl hat ?_
      refine jv_iconst (pc' := 6) (n := 1) rfl rfl ?_
      refine jv_iadd (pc' := 7) (a := ((a : Nat) : Int)) (b := 1) rfl rfl ?_
      refine jv_putI (pc' := 10) (c := 12) (k := 19) rfl rfl rfl rfl (fun _ _ _  => rfl) rfl rfl ?_
      refine jv_aload_n (pc' := 11) (k := 0) (x := 103) rfl rfl rfl rfl ?_
      refine jv_call (pc' := 14) rfl (ml_count_y (d := d) (I := jm_u I 103 19 (iI (((a : Nat) : Int) + 1))) (a := a + 1) (F := 255) hX.1 rfl (by omega) hX.2.2.2.2.2.2.1 (by omega) hc42 (knw_255 hcn2)) (fun vq1 gq1 q1 => ?_)
      obtain ⟨rfl, rfl⟩ := q1
      show jx L xs _ 143 14 _ [.int (iI (c (a + 1) - 97))] _ _
      rw [show c (a + 1) - 97 = ((nm : Nat) : Int) by omega]
      refine jv_istore_n (pc' := 15) (k := 1) (x := (iI ((nm : Nat) : Int))) rfl rfl rfl rfl (Or.inr rfl) ?_
      refine jv_aload_n (pc' := 16) (k := 0) (x := 103) rfl rfl rfl rfl ?_
      refine jv_bipush (pc' := 18) (n := 8) rfl rfl rfl ?_
      refine jv_call (pc' := 21) rfl (ml_steps_y (I := jm_u (jm_u I 103 19 (iI (((a : Nat) : Int) + 1))) 103 19 (iI ((a + 2 : Nat) : Int))) (M := M) (s := s) (nm := 8) hX hM hV o1) (fun vq2 gq2 q2 => ?_)
      obtain ⟨Iq2, Mq2, rfl, rfl, rq2, tq2, Dq2, uq2⟩ := q2
      have Xq2 := MX_fr (I := jm_u (jm_u I 103 19 (iI (((a : Nat) : Int) + 1))) 103 19 (iI ((a + 2 : Nat) : Int))) hX (fr_w rq2 wM_1)
      have Vq2 := DV_S hV o1
      have epq2 : dS s 0 0 = ((pl : Nat) : Int) := hpl
      show jx L xs _ 143 21 _ [.int (iI 1)] _ _
      refine jv_if_ne (t := 25) (pc' := 24) (a := 1) rfl rfl rfl (by omega) (fun hz_3 => ?_) (fun hz_3 => ?_)
      · skip
        refine jv_iload_n (pc' := 26) (k := 1) (x := (iI ((nm : Nat) : Int))) rfl rfl rfl rfl ?_
        refine jv_bipush (pc' := 28) (n := 8) rfl rfl rfl ?_
        refine jv_ic_ne (t := 42) (pc' := 31) (a := ((nm : Nat) : Int)) (b := 8) rfl rfl rfl (by omega) (fun hz_4 => ?_) (fun hz_4 => ?_)
        · skip
          refine jv_aload_n (pc' := 43) (k := 0) (x := 103) rfl rfl rfl rfl ?_
          refine jv_getR (pc' := 46) (c := 12) (k := 35) (v := 125) rfl rfl rfl (fun _ _ => rfl) rfl rfl (jR_103_35 _) ?_
          refine jv_iload_n (pc' := 47) (k := 1) (x := (iI ((nm : Nat) : Int))) rfl rfl rfl rfl ?_
          refine jv_laload (pc' := 48) (n := 8) (e := ((nm : Nat) : Int)) (v := (lI ((dS s) 1 nm))) rfl rfl rfl rfl rfl (by omega) ((Dq2.2.2.2.1 nm (by omega)).1) ?_
          refine jv_lstore_n (pc' := 49) (k := 2) (x := (lI ((dS s) 1 nm))) rfl rfl rfl rfl (Or.inr rfl) ?_
          refine jv_long (pc' := 52) (y := lI 8) rfl (by decide) ?_
          refine jv_lload_n (pc' := 53) (k := 2) (x := (lI ((dS s) 1 nm))) rfl rfl rfl rfl ?_
          refine jv_lmul (pc' := 54) (a := 8) (b := ((dS s) 1 nm)) rfl rfl ?_
          refine jv_aload_n (pc' := 55) (k := 0) (x := 103) rfl rfl rfl rfl ?_
          refine jv_call (pc' := 58) rfl (ml_leftBits (I := Iq2) (M := Mq2) (s := (dS s)) Xq2 Dq2 Vq2.1) (fun vq5 gq5 q5 => ?_)
          obtain ⟨rfl, rfl⟩ := q5
          show jx L xs _ 143 58 _ [.int (iI (8 * (sz : Int) - (dS s) 0 0)), .long (lI (8 * ((dS s) 1 nm)))] _ _
          refine jv_i2l (pc' := 59) (a := (8 * (sz : Int) - (dS s) 0 0)) rfl rfl (by omega) ?_
          refine jv_lc_le (t := 78) (pc' := 63) (a := (8 * ((dS s) 1 nm))) (b := (8 * (sz : Int) - (dS s) 0 0)) rfl rfl rfl rfl rfl (by omega) (fun hz_6 => ?_) (fun hz_6 => ?_)
          · skip
            exfalso; omega
          · skip
            refine jv_aload_n (pc' := 64) (k := 0) (x := 103) rfl rfl rfl rfl ?_
            refine jv_bipush (pc' := 66) (n := 8) rfl rfl rfl ?_
            refine jv_iconst (pc' := 67) (n := 0) rfl rfl ?_
            refine jv_long (pc' := 68) (y := lI 0) rfl (by decide) ?_
            refine jv_iconst (pc' := 69) (n := 1) rfl rfl ?_
            obtain ⟨nq7, hnq7, hmq7⟩ := DV_n Vq2.1 hlim
            refine jv_call (pc' := 72) rfl (ml_enter (I := Iq2) (M := Mq2) (s := (dS s)) Xq2 Dq2 Vq2.1 hnq7 hmq7) (fun vq7 gq7 q7 => ?_)
            obtain ⟨Iq7, Mq7, rfl, rfl, Dq7, uq7, wq7⟩ := q7
            have rq7 := fr_w uq7 wM1_E
            have tq7 := fr_w wq7 wN1_E
            have Xq7 := MX_fr (I := Iq2) Xq2 (fr_w rq7 wM_1)
            show jx L xs _ 143 72 _ [] _ _
            refine jv_aload_n (pc' := 73) (k := 0) (x := 103) rfl rfl rfl rfl ?_
            refine jv_iconst (pc' := 74) (n := 1) rfl rfl ?_
            refine jv_putZ (pc' := 77) (c := 12) (k := 33) rfl rfl rfl rfl (fun _ _ _ hz => if_pos hz) rfl rfl (by first | exact Or.inl rfl | exact Or.inr rfl) ?_
            refine jv_retV rfl rfl ⟨_, _, rfl, ?_⟩
            first
            | (exfalso; omega)
            | exact ⟨_, _, rfl, rfl, (fr_u (by simp [wM1]) (fr_t (fr_t (fr_u (by simp [wM1]) (fr_u (by simp [wM1]) (fr_r _))) rq2) rq7)), (fr_t (fr_t (fr_r _) tq2) tq7), Dq7, ((uq7 103 19 (by simp)).trans ((uq2 103 19 (by simp)).trans rfl)), rfl⟩
        · skip
          refine jv_aload_n (pc' := 32) (k := 0) (x := 103) rfl rfl rfl rfl ?_
          refine jv_call (pc' := 35) rfl (ml_leftBits (I := Iq2) (M := Mq2) (s := (dS s)) Xq2 Dq2 Vq2.1) (fun vq8 gq8 q8 => ?_)
          obtain ⟨rfl, rfl⟩ := q8
          show jx L xs _ 143 35 _ [.int (iI (8 * (sz : Int) - (dS s) 0 0))] _ _
          refine jv_bipush (pc' := 37) (n := 8) rfl rfl rfl ?_
          refine jv_int (pc' := 38) (y := (iI (((8 * sz - pl) / 8 : Nat) : Int))) rfl ((congrArg (fun z => iI z / iI 8) (show _ = ((8 * sz - pl : Nat) : Int) by omega)).trans (iI_D8 (by omega))) ?_
          refine jv_i2l (pc' := 39) (a := (((8 * sz - pl) / 8 : Nat) : Int)) rfl rfl (by omega) ?_
          refine jx_step (pc' := 48) rfl ?_
          refine jv_lstore_n (pc' := 49) (k := 2) (x := (lI (((8 * sz - pl) / 8 : Nat) : Int))) rfl rfl rfl rfl (Or.inr rfl) ?_
          refine jv_long (pc' := 52) (y := lI 8) rfl (by decide) ?_
          refine jv_lload_n (pc' := 53) (k := 2) (x := (lI (((8 * sz - pl) / 8 : Nat) : Int))) rfl rfl rfl rfl ?_
          refine jv_lmul (pc' := 54) (a := 8) (b := (((8 * sz - pl) / 8 : Nat) : Int)) rfl rfl ?_
          refine jv_aload_n (pc' := 55) (k := 0) (x := 103) rfl rfl rfl rfl ?_
          refine jv_call (pc' := 58) rfl (ml_leftBits (I := Iq2) (M := Mq2) (s := (dS s)) Xq2 Dq2 Vq2.1) (fun vq9 gq9 q9 => ?_)
          obtain ⟨rfl, rfl⟩ := q9
          show jx L xs _ 143 58 _ [.int (iI (8 * (sz : Int) - (dS s) 0 0)), .long (lI (8 * (((8 * sz - pl) / 8 : Nat) : Int)))] _ _
          refine jv_i2l (pc' := 59) (a := (8 * (sz : Int) - (dS s) 0 0)) rfl rfl (by omega) ?_
          refine jv_lc_le (t := 78) (pc' := 63) (a := (8 * (((8 * sz - pl) / 8 : Nat) : Int))) (b := (8 * (sz : Int) - (dS s) 0 0)) rfl rfl rfl rfl rfl (by omega) (fun hz_10 => ?_) (fun hz_10 => ?_)
          · skip
            exfalso; omega
          · skip
            refine jv_aload_n (pc' := 64) (k := 0) (x := 103) rfl rfl rfl rfl ?_
            refine jv_bipush (pc' := 66) (n := 8) rfl rfl rfl ?_
            refine jv_iconst (pc' := 67) (n := 0) rfl rfl ?_
            refine jv_long (pc' := 68) (y := lI 0) rfl (by decide) ?_
            refine jv_iconst (pc' := 69) (n := 1) rfl rfl ?_
            obtain ⟨nq11, hnq11, hmq11⟩ := DV_n Vq2.1 hlim
            refine jv_call (pc' := 72) rfl (ml_enter (I := Iq2) (M := Mq2) (s := (dS s)) Xq2 Dq2 Vq2.1 hnq11 hmq11) (fun vq11 gq11 q11 => ?_)
            obtain ⟨Iq11, Mq11, rfl, rfl, Dq11, uq11, wq11⟩ := q11
            have rq11 := fr_w uq11 wM1_E
            have tq11 := fr_w wq11 wN1_E
            have Xq11 := MX_fr (I := Iq2) Xq2 (fr_w rq11 wM_1)
            show jx L xs _ 143 72 _ [] _ _
            refine jv_aload_n (pc' := 73) (k := 0) (x := 103) rfl rfl rfl rfl ?_
            refine jv_iconst (pc' := 74) (n := 1) rfl rfl ?_
            refine jv_putZ (pc' := 77) (c := 12) (k := 33) rfl rfl rfl rfl (fun _ _ _ hz => if_pos hz) rfl rfl (by first | exact Or.inl rfl | exact Or.inr rfl) ?_
            refine jv_retV rfl rfl ⟨_, _, rfl, ?_⟩
            first
            | (exfalso; omega)
            | exact ⟨_, _, rfl, rfl, (fr_u (by simp [wM1]) (fr_t (fr_t (fr_u (by simp [wM1]) (fr_u (by simp [wM1]) (fr_r _))) rq2) rq11)), (fr_t (fr_t (fr_r _) tq2) tq11), Dq11, ((uq11 103 19 (by simp)).trans ((uq2 103 19 (by simp)).trans rfl)), rfl⟩
      · skip
        exact absurd hz_3 (by decide)
  · obtain ⟨o1, rfl⟩ := SP_t hSP
    rcases hcn with ⟨hc42, hst⟩ | ⟨hc42, hcn2, h1⟩
    · skip
      rw [if_pos hst] at hct
      refine jv_aload_n (pc' := 1) (k := 0) (x := 103) rfl rfl rfl rfl ?_
      refine jx_step (pc' := 2) rfl ?_
      refine jv_getI (pc' := 5) (c := 12) (k := 19) (v := (iI ((a : Nat) : Int))) rfl rfl rfl (fun _ _ => rfl) rfl rfl hat ?_
      refine jv_iconst (pc' := 6) (n := 1) rfl rfl ?_
      refine jv_iadd (pc' := 7) (a := ((a : Nat) : Int)) (b := 1) rfl rfl ?_
      refine jv_putI (pc' := 10) (c := 12) (k := 19) rfl rfl rfl rfl (fun _ _ _  => rfl) rfl rfl ?_
      refine jv_aload_n (pc' := 11) (k := 0) (x := 103) rfl rfl rfl rfl ?_
      refine jv_call (pc' := 14) rfl (ml_count_s (d := d) (I := jm_u I 103 19 (iI (((a : Nat) : Int) + 1))) (a := a + 1) (F := 255) hX.1 rfl (by omega) hX.2.2.2.2.2.2.1 (by omega) hc42) (fun vq1 gq1 q1 => ?_)
      obtain ⟨rfl, rfl⟩ := q1
      show jx L xs _ 143 14 _ [.int (iI 8)] _ _
      refine jv_istore_n (pc' := 15) (k := 1) (x := (iI 8)) rfl rfl rfl rfl (Or.inr rfl) ?_
      refine jv_aload_n (pc' := 16) (k := 0) (x := 103) rfl rfl rfl rfl ?_
      refine jv_bipush (pc' := 18) (n := 8) rfl rfl rfl ?_
      refine jv_call (pc' := 21) rfl (ml_steps_y (I := jm_u (jm_u I 103 19 (iI (((a : Nat) : Int) + 1))) 103 19 (iI ((a + 2 : Nat) : Int))) (M := M) (s := s) (nm := 8) hX hM hV o1) (fun vq2 gq2 q2 => ?_)
      obtain ⟨Iq2, Mq2, rfl, rfl, rq2, tq2, Dq2, uq2⟩ := q2
      have Xq2 := MX_fr (I := jm_u (jm_u I 103 19 (iI (((a : Nat) : Int) + 1))) 103 19 (iI ((a + 2 : Nat) : Int))) hX (fr_w rq2 wM_1)
      have Vq2 := DV_S hV o1
      have epq2 : dS s 0 0 = ((pl : Nat) : Int) := hpl
      show jx L xs _ 143 21 _ [.int (iI 1)] _ _
      refine jv_if_ne (t := 25) (pc' := 24) (a := 1) rfl rfl rfl (by omega) (fun hz_3 => ?_) (fun hz_3 => ?_)
      · skip
        refine jv_iload_n (pc' := 26) (k := 1) (x := (iI 8)) rfl rfl rfl rfl ?_
        refine jv_bipush (pc' := 28) (n := 8) rfl rfl rfl ?_
        refine jv_ic_ne (t := 42) (pc' := 31) (a := 8) (b := 8) rfl rfl rfl (by omega) (fun hz_4 => ?_) (fun hz_4 => ?_)
        · skip
          exact absurd hz_4 (by decide)
        · skip
          refine jv_aload_n (pc' := 32) (k := 0) (x := 103) rfl rfl rfl rfl ?_
          refine jv_call (pc' := 35) rfl (ml_leftBits (I := Iq2) (M := Mq2) (s := (dS s)) Xq2 Dq2 Vq2.1) (fun vq5 gq5 q5 => ?_)
          obtain ⟨rfl, rfl⟩ := q5
          show jx L xs _ 143 35 _ [.int (iI (8 * (sz : Int) - (dS s) 0 0))] _ _
          refine jv_bipush (pc' := 37) (n := 8) rfl rfl rfl ?_
          refine jv_int (pc' := 38) (y := (iI (((8 * sz - pl) / 8 : Nat) : Int))) rfl ((congrArg (fun z => iI z / iI 8) (show _ = ((8 * sz - pl : Nat) : Int) by omega)).trans (iI_D8 (by omega))) ?_
          refine jv_i2l (pc' := 39) (a := (((8 * sz - pl) / 8 : Nat) : Int)) rfl rfl (by omega) ?_
          refine jx_step (pc' := 48) rfl ?_
          refine jv_lstore_n (pc' := 49) (k := 2) (x := (lI (((8 * sz - pl) / 8 : Nat) : Int))) rfl rfl rfl rfl (Or.inr rfl) ?_
          refine jv_long (pc' := 52) (y := lI 8) rfl (by decide) ?_
          refine jv_lload_n (pc' := 53) (k := 2) (x := (lI (((8 * sz - pl) / 8 : Nat) : Int))) rfl rfl rfl rfl ?_
          refine jv_lmul (pc' := 54) (a := 8) (b := (((8 * sz - pl) / 8 : Nat) : Int)) rfl rfl ?_
          refine jv_aload_n (pc' := 55) (k := 0) (x := 103) rfl rfl rfl rfl ?_
          refine jv_call (pc' := 58) rfl (ml_leftBits (I := Iq2) (M := Mq2) (s := (dS s)) Xq2 Dq2 Vq2.1) (fun vq6 gq6 q6 => ?_)
          obtain ⟨rfl, rfl⟩ := q6
          show jx L xs _ 143 58 _ [.int (iI (8 * (sz : Int) - (dS s) 0 0)), .long (lI (8 * (((8 * sz - pl) / 8 : Nat) : Int)))] _ _
          refine jv_i2l (pc' := 59) (a := (8 * (sz : Int) - (dS s) 0 0)) rfl rfl (by omega) ?_
          refine jv_lc_le (t := 78) (pc' := 63) (a := (8 * (((8 * sz - pl) / 8 : Nat) : Int))) (b := (8 * (sz : Int) - (dS s) 0 0)) rfl rfl rfl rfl rfl (by omega) (fun hz_7 => ?_) (fun hz_7 => ?_)
          · skip
            refine jv_aload_n (pc' := 79) (k := 0) (x := 103) rfl rfl rfl rfl ?_
            refine jv_bipush (pc' := 81) (n := 8) rfl rfl rfl ?_
            refine jv_long (pc' := 84) (y := lI 8) rfl (by decide) ?_
            refine jv_lload_n (pc' := 85) (k := 2) (x := (lI (((8 * sz - pl) / 8 : Nat) : Int))) rfl rfl rfl rfl ?_
            refine jv_lmul (pc' := 86) (a := 8) (b := (((8 * sz - pl) / 8 : Nat) : Int)) rfl rfl ?_
            refine jv_l2i (pc' := 87) (a := (8 * (((8 * sz - pl) / 8 : Nat) : Int))) rfl rfl ?_
            refine jv_lload_n (pc' := 88) (k := 2) (x := (lI (((8 * sz - pl) / 8 : Nat) : Int))) rfl rfl rfl rfl ?_
            refine jv_iconst (pc' := 89) (n := 0) rfl rfl ?_
            obtain ⟨nq8, hnq8, hmq8⟩ := DV_n Vq2.1 hlim
            refine jv_call (pc' := 92) rfl (ml_enter (I := Iq2) (M := Mq2) (s := (dS s)) Xq2 Dq2 Vq2.1 hnq8 hmq8) (fun vq8 gq8 q8 => ?_)
            obtain ⟨Iq8, Mq8, rfl, rfl, Dq8, uq8, wq8⟩ := q8
            have rq8 := fr_w uq8 wM1_E
            have tq8 := fr_w wq8 wN1_E
            have Xq8 := MX_fr (I := Iq2) Xq2 (fr_w rq8 wM_1)
            show jx L xs _ 143 92 _ [] _ _
            refine jv_aload_n (pc' := 93) (k := 0) (x := 103) rfl rfl rfl rfl ?_
            refine jv_aload_n (pc' := 94) (k := 0) (x := 103) rfl rfl rfl rfl ?_
            refine jv_getI (pc' := 97) (c := 12) (k := 30) (v := (iI ((dE (dS s) l 8 (8 * (((8 * sz - pl) / 8 : Nat) : Int)) (((8 * sz - pl) / 8 : Nat) : Int) 0) 0 0))) rfl rfl rfl (fun _ _ => rfl) rfl rfl Dq8.1 ?_
            refine jv_long (pc' := 100) (y := lI 8) rfl (by decide) ?_
            refine jv_lload_n (pc' := 101) (k := 2) (x := (lI (((8 * sz - pl) / 8 : Nat) : Int))) rfl rfl rfl rfl ?_
            refine jv_lmul (pc' := 102) (a := 8) (b := (((8 * sz - pl) / 8 : Nat) : Int)) rfl rfl ?_
            refine jv_l2i (pc' := 103) (a := (8 * (((8 * sz - pl) / 8 : Nat) : Int))) rfl rfl ?_
            refine jv_iadd (pc' := 104) (a := ((dE (dS s) l 8 (8 * (((8 * sz - pl) / 8 : Nat) : Int)) (((8 * sz - pl) / 8 : Nat) : Int) 0) 0 0)) (b := (8 * (((8 * sz - pl) / 8 : Nat) : Int))) rfl rfl ?_
            refine jv_putI (pc' := 107) (c := 12) (k := 30) rfl rfl rfl rfl (fun _ _ _  => rfl) rfl rfl ?_
            refine jv_retV rfl rfl ⟨_, _, rfl, ?_⟩
            first
            | (exfalso; omega)
            | (have ec : ct = (((8 * sz - pl) / 8 : Nat) : Int) := by omega
               subst ec
               exact ⟨_, _, rfl, rfl, (fr_u (by simp [wM1]) (fr_t (fr_t (fr_u (by simp [wM1]) (fr_u (by simp [wM1]) (fr_r _))) rq2) rq8)), (fr_t (fr_t (fr_r _) tq2) tq8), DM_P Dq8 (by first | rfl | omega), ((uq8 103 19 (by simp)).trans ((uq2 103 19 (by simp)).trans rfl)), ((uq8 103 33 (by simp)).trans ((uq2 103 33 (by simp)).trans hov))⟩)
          · skip
            exfalso; omega
      · skip
        exact absurd hz_3 (by decide)
    · skip
      obtain ⟨nm, hnm, hnm8⟩ : ∃ nm : Nat, c (a + 1) - 97 = ((nm : Nat) : Int) ∧ nm < 8 := ⟨(c (a + 1) - 97).toNat, by omega, by omega⟩
      have hv3 := (hV.2.2.2 nm hnm8).1
      have hv4 : dS s 1 nm = s 1 nm := dS_r s (by omega) nm
      rw [if_neg (by omega), show (Y 1 f).toNat = nm by omega] at hct
      refine jv_aload_n (pc' := 1) (k := 0) (x := 103) rfl rfl rfl rfl ?_
      refine jx_step (pc' := 2) rfl ?_
      refine jv_getI (pc' := 5) (c := 12) (k := 19) (v := (iI ((a : Nat) : Int))) rfl rfl rfl (fun _ _ => rfl) rfl rfl hat ?_
      refine jv_iconst (pc' := 6) (n := 1) rfl rfl ?_
      refine jv_iadd (pc' := 7) (a := ((a : Nat) : Int)) (b := 1) rfl rfl ?_
      refine jv_putI (pc' := 10) (c := 12) (k := 19) rfl rfl rfl rfl (fun _ _ _  => rfl) rfl rfl ?_
      refine jv_aload_n (pc' := 11) (k := 0) (x := 103) rfl rfl rfl rfl ?_
      refine jv_call (pc' := 14) rfl (ml_count_y (d := d) (I := jm_u I 103 19 (iI (((a : Nat) : Int) + 1))) (a := a + 1) (F := 255) hX.1 rfl (by omega) hX.2.2.2.2.2.2.1 (by omega) hc42 (knw_255 hcn2)) (fun vq1 gq1 q1 => ?_)
      obtain ⟨rfl, rfl⟩ := q1
      show jx L xs _ 143 14 _ [.int (iI (c (a + 1) - 97))] _ _
      rw [show c (a + 1) - 97 = ((nm : Nat) : Int) by omega]
      refine jv_istore_n (pc' := 15) (k := 1) (x := (iI ((nm : Nat) : Int))) rfl rfl rfl rfl (Or.inr rfl) ?_
      refine jv_aload_n (pc' := 16) (k := 0) (x := 103) rfl rfl rfl rfl ?_
      refine jv_bipush (pc' := 18) (n := 8) rfl rfl rfl ?_
      refine jv_call (pc' := 21) rfl (ml_steps_y (I := jm_u (jm_u I 103 19 (iI (((a : Nat) : Int) + 1))) 103 19 (iI ((a + 2 : Nat) : Int))) (M := M) (s := s) (nm := 8) hX hM hV o1) (fun vq2 gq2 q2 => ?_)
      obtain ⟨Iq2, Mq2, rfl, rfl, rq2, tq2, Dq2, uq2⟩ := q2
      have Xq2 := MX_fr (I := jm_u (jm_u I 103 19 (iI (((a : Nat) : Int) + 1))) 103 19 (iI ((a + 2 : Nat) : Int))) hX (fr_w rq2 wM_1)
      have Vq2 := DV_S hV o1
      have epq2 : dS s 0 0 = ((pl : Nat) : Int) := hpl
      show jx L xs _ 143 21 _ [.int (iI 1)] _ _
      refine jv_if_ne (t := 25) (pc' := 24) (a := 1) rfl rfl rfl (by omega) (fun hz_3 => ?_) (fun hz_3 => ?_)
      · skip
        refine jv_iload_n (pc' := 26) (k := 1) (x := (iI ((nm : Nat) : Int))) rfl rfl rfl rfl ?_
        refine jv_bipush (pc' := 28) (n := 8) rfl rfl rfl ?_
        refine jv_ic_ne (t := 42) (pc' := 31) (a := ((nm : Nat) : Int)) (b := 8) rfl rfl rfl (by omega) (fun hz_4 => ?_) (fun hz_4 => ?_)
        · skip
          refine jv_aload_n (pc' := 43) (k := 0) (x := 103) rfl rfl rfl rfl ?_
          refine jv_getR (pc' := 46) (c := 12) (k := 35) (v := 125) rfl rfl rfl (fun _ _ => rfl) rfl rfl (jR_103_35 _) ?_
          refine jv_iload_n (pc' := 47) (k := 1) (x := (iI ((nm : Nat) : Int))) rfl rfl rfl rfl ?_
          refine jv_laload (pc' := 48) (n := 8) (e := ((nm : Nat) : Int)) (v := (lI ((dS s) 1 nm))) rfl rfl rfl rfl rfl (by omega) ((Dq2.2.2.2.1 nm (by omega)).1) ?_
          refine jv_lstore_n (pc' := 49) (k := 2) (x := (lI ((dS s) 1 nm))) rfl rfl rfl rfl (Or.inr rfl) ?_
          refine jv_long (pc' := 52) (y := lI 8) rfl (by decide) ?_
          refine jv_lload_n (pc' := 53) (k := 2) (x := (lI ((dS s) 1 nm))) rfl rfl rfl rfl ?_
          refine jv_lmul (pc' := 54) (a := 8) (b := ((dS s) 1 nm)) rfl rfl ?_
          refine jv_aload_n (pc' := 55) (k := 0) (x := 103) rfl rfl rfl rfl ?_
          refine jv_call (pc' := 58) rfl (ml_leftBits (I := Iq2) (M := Mq2) (s := (dS s)) Xq2 Dq2 Vq2.1) (fun vq5 gq5 q5 => ?_)
          obtain ⟨rfl, rfl⟩ := q5
          show jx L xs _ 143 58 _ [.int (iI (8 * (sz : Int) - (dS s) 0 0)), .long (lI (8 * ((dS s) 1 nm)))] _ _
          refine jv_i2l (pc' := 59) (a := (8 * (sz : Int) - (dS s) 0 0)) rfl rfl (by omega) ?_
          refine jv_lc_le (t := 78) (pc' := 63) (a := (8 * ((dS s) 1 nm))) (b := (8 * (sz : Int) - (dS s) 0 0)) rfl rfl rfl rfl rfl (by omega) (fun hz_6 => ?_) (fun hz_6 => ?_)
          · skip
            refine jv_aload_n (pc' := 79) (k := 0) (x := 103) rfl rfl rfl rfl ?_
            refine jv_bipush (pc' := 81) (n := 8) rfl rfl rfl ?_
            refine jv_long (pc' := 84) (y := lI 8) rfl (by decide) ?_
            refine jv_lload_n (pc' := 85) (k := 2) (x := (lI ((dS s) 1 nm))) rfl rfl rfl rfl ?_
            refine jv_lmul (pc' := 86) (a := 8) (b := ((dS s) 1 nm)) rfl rfl ?_
            refine jv_l2i (pc' := 87) (a := (8 * ((dS s) 1 nm))) rfl rfl ?_
            refine jv_lload_n (pc' := 88) (k := 2) (x := (lI ((dS s) 1 nm))) rfl rfl rfl rfl ?_
            refine jv_iconst (pc' := 89) (n := 0) rfl rfl ?_
            obtain ⟨nq7, hnq7, hmq7⟩ := DV_n Vq2.1 hlim
            refine jv_call (pc' := 92) rfl (ml_enter (I := Iq2) (M := Mq2) (s := (dS s)) Xq2 Dq2 Vq2.1 hnq7 hmq7) (fun vq7 gq7 q7 => ?_)
            obtain ⟨Iq7, Mq7, rfl, rfl, Dq7, uq7, wq7⟩ := q7
            have rq7 := fr_w uq7 wM1_E
            have tq7 := fr_w wq7 wN1_E
            have Xq7 := MX_fr (I := Iq2) Xq2 (fr_w rq7 wM_1)
            show jx L xs _ 143 92 _ [] _ _
            refine jv_aload_n (pc' := 93) (k := 0) (x := 103) rfl rfl rfl rfl ?_
            refine jv_aload_n (pc' := 94) (k := 0) (x := 103) rfl rfl rfl rfl ?_
            refine jv_getI (pc' := 97) (c := 12) (k := 30) (v := (iI ((dE (dS s) l 8 (8 * ((dS s) 1 nm)) ((dS s) 1 nm) 0) 0 0))) rfl rfl rfl (fun _ _ => rfl) rfl rfl Dq7.1 ?_
            refine jv_long (pc' := 100) (y := lI 8) rfl (by decide) ?_
            refine jv_lload_n (pc' := 101) (k := 2) (x := (lI ((dS s) 1 nm))) rfl rfl rfl rfl ?_
            refine jv_lmul (pc' := 102) (a := 8) (b := ((dS s) 1 nm)) rfl rfl ?_
            refine jv_l2i (pc' := 103) (a := (8 * ((dS s) 1 nm))) rfl rfl ?_
            refine jv_iadd (pc' := 104) (a := ((dE (dS s) l 8 (8 * ((dS s) 1 nm)) ((dS s) 1 nm) 0) 0 0)) (b := (8 * ((dS s) 1 nm))) rfl rfl ?_
            refine jv_putI (pc' := 107) (c := 12) (k := 30) rfl rfl rfl rfl (fun _ _ _  => rfl) rfl rfl ?_
            refine jv_retV rfl rfl ⟨_, _, rfl, ?_⟩
            first
            | (exfalso; omega)
            | (have ec : ct = dS s 1 nm := by omega
               subst ec
               exact ⟨_, _, rfl, rfl, (fr_u (by simp [wM1]) (fr_t (fr_t (fr_u (by simp [wM1]) (fr_u (by simp [wM1]) (fr_r _))) rq2) rq7)), (fr_t (fr_t (fr_r _) tq2) tq7), DM_P Dq7 (by first | rfl | omega), ((uq7 103 19 (by simp)).trans ((uq2 103 19 (by simp)).trans rfl)), ((uq7 103 33 (by simp)).trans ((uq2 103 33 (by simp)).trans hov))⟩)
          · skip
            exfalso; omega
        · skip
          refine jv_aload_n (pc' := 32) (k := 0) (x := 103) rfl rfl rfl rfl ?_
          refine jv_call (pc' := 35) rfl (ml_leftBits (I := Iq2) (M := Mq2) (s := (dS s)) Xq2 Dq2 Vq2.1) (fun vq8 gq8 q8 => ?_)
          obtain ⟨rfl, rfl⟩ := q8
          show jx L xs _ 143 35 _ [.int (iI (8 * (sz : Int) - (dS s) 0 0))] _ _
          refine jv_bipush (pc' := 37) (n := 8) rfl rfl rfl ?_
          refine jv_int (pc' := 38) (y := (iI (((8 * sz - pl) / 8 : Nat) : Int))) rfl ((congrArg (fun z => iI z / iI 8) (show _ = ((8 * sz - pl : Nat) : Int) by omega)).trans (iI_D8 (by omega))) ?_
          refine jv_i2l (pc' := 39) (a := (((8 * sz - pl) / 8 : Nat) : Int)) rfl rfl (by omega) ?_
          refine jx_step (pc' := 48) rfl ?_
          refine jv_lstore_n (pc' := 49) (k := 2) (x := (lI (((8 * sz - pl) / 8 : Nat) : Int))) rfl rfl rfl rfl (Or.inr rfl) ?_
          refine jv_long (pc' := 52) (y := lI 8) rfl (by decide) ?_
          refine jv_lload_n (pc' := 53) (k := 2) (x := (lI (((8 * sz - pl) / 8 : Nat) : Int))) rfl rfl rfl rfl ?_
          refine jv_lmul (pc' := 54) (a := 8) (b := (((8 * sz - pl) / 8 : Nat) : Int)) rfl rfl ?_
          refine jv_aload_n (pc' := 55) (k := 0) (x := 103) rfl rfl rfl rfl ?_
          refine jv_call (pc' := 58) rfl (ml_leftBits (I := Iq2) (M := Mq2) (s := (dS s)) Xq2 Dq2 Vq2.1) (fun vq9 gq9 q9 => ?_)
          obtain ⟨rfl, rfl⟩ := q9
          show jx L xs _ 143 58 _ [.int (iI (8 * (sz : Int) - (dS s) 0 0)), .long (lI (8 * (((8 * sz - pl) / 8 : Nat) : Int)))] _ _
          refine jv_i2l (pc' := 59) (a := (8 * (sz : Int) - (dS s) 0 0)) rfl rfl (by omega) ?_
          refine jv_lc_le (t := 78) (pc' := 63) (a := (8 * (((8 * sz - pl) / 8 : Nat) : Int))) (b := (8 * (sz : Int) - (dS s) 0 0)) rfl rfl rfl rfl rfl (by omega) (fun hz_10 => ?_) (fun hz_10 => ?_)
          · skip
            refine jv_aload_n (pc' := 79) (k := 0) (x := 103) rfl rfl rfl rfl ?_
            refine jv_bipush (pc' := 81) (n := 8) rfl rfl rfl ?_
            refine jv_long (pc' := 84) (y := lI 8) rfl (by decide) ?_
            refine jv_lload_n (pc' := 85) (k := 2) (x := (lI (((8 * sz - pl) / 8 : Nat) : Int))) rfl rfl rfl rfl ?_
            refine jv_lmul (pc' := 86) (a := 8) (b := (((8 * sz - pl) / 8 : Nat) : Int)) rfl rfl ?_
            refine jv_l2i (pc' := 87) (a := (8 * (((8 * sz - pl) / 8 : Nat) : Int))) rfl rfl ?_
            refine jv_lload_n (pc' := 88) (k := 2) (x := (lI (((8 * sz - pl) / 8 : Nat) : Int))) rfl rfl rfl rfl ?_
            refine jv_iconst (pc' := 89) (n := 0) rfl rfl ?_
            obtain ⟨nq11, hnq11, hmq11⟩ := DV_n Vq2.1 hlim
            refine jv_call (pc' := 92) rfl (ml_enter (I := Iq2) (M := Mq2) (s := (dS s)) Xq2 Dq2 Vq2.1 hnq11 hmq11) (fun vq11 gq11 q11 => ?_)
            obtain ⟨Iq11, Mq11, rfl, rfl, Dq11, uq11, wq11⟩ := q11
            have rq11 := fr_w uq11 wM1_E
            have tq11 := fr_w wq11 wN1_E
            have Xq11 := MX_fr (I := Iq2) Xq2 (fr_w rq11 wM_1)
            show jx L xs _ 143 92 _ [] _ _
            refine jv_aload_n (pc' := 93) (k := 0) (x := 103) rfl rfl rfl rfl ?_
            refine jv_aload_n (pc' := 94) (k := 0) (x := 103) rfl rfl rfl rfl ?_
            refine jv_getI (pc' := 97) (c := 12) (k := 30) (v := (iI ((dE (dS s) l 8 (8 * (((8 * sz - pl) / 8 : Nat) : Int)) (((8 * sz - pl) / 8 : Nat) : Int) 0) 0 0))) rfl rfl rfl (fun _ _ => rfl) rfl rfl Dq11.1 ?_
            refine jv_long (pc' := 100) (y := lI 8) rfl (by decide) ?_
            refine jv_lload_n (pc' := 101) (k := 2) (x := (lI (((8 * sz - pl) / 8 : Nat) : Int))) rfl rfl rfl rfl ?_
            refine jv_lmul (pc' := 102) (a := 8) (b := (((8 * sz - pl) / 8 : Nat) : Int)) rfl rfl ?_
            refine jv_l2i (pc' := 103) (a := (8 * (((8 * sz - pl) / 8 : Nat) : Int))) rfl rfl ?_
            refine jv_iadd (pc' := 104) (a := ((dE (dS s) l 8 (8 * (((8 * sz - pl) / 8 : Nat) : Int)) (((8 * sz - pl) / 8 : Nat) : Int) 0) 0 0)) (b := (8 * (((8 * sz - pl) / 8 : Nat) : Int))) rfl rfl ?_
            refine jv_putI (pc' := 107) (c := 12) (k := 30) rfl rfl rfl rfl (fun _ _ _  => rfl) rfl rfl ?_
            refine jv_retV rfl rfl ⟨_, _, rfl, ?_⟩
            first
            | (exfalso; omega)
            | (have ec : ct = dS s 1 nm := by omega
               subst ec
               exact ⟨_, _, rfl, rfl, (fr_u (by simp [wM1]) (fr_t (fr_t (fr_u (by simp [wM1]) (fr_u (by simp [wM1]) (fr_r _))) rq2) rq11)), (fr_t (fr_t (fr_r _) tq2) tq11), DM_P Dq11 (by first | rfl | omega), ((uq11 103 19 (by simp)).trans ((uq2 103 19 (by simp)).trans rfl)), ((uq11 103 33 (by simp)).trans ((uq2 103 33 (by simp)).trans hov))⟩)
          · skip
            exfalso; omega
      · skip
        exact absurd hz_3 (by decide)
end D5
