/-! printed in part by wip/whole/gen/g4.py: the reference finds a filter true or not -/
def MFL (I : Nat → Nat → Int32) (cF : Nat → Nat → Int) (nF : Nat → Nat) : Prop := ∀ f, f < 4 → I 108 f = iI ((nF f : Nat) : Int) ∧ nF f ≤ 80 ∧ ∀ k, k < nF f → I 107 (80 * f + k) = iI (cF f k)
theorem MFL_fr {W : Nat → Nat → Prop} {I I' : Nat → Nat → Int32} {cF : Nat → Nat → Int} {nF : Nat → Nat} (h : MFL I cF nF) (f : fr W I I') (h1 : ∀ k, ¬ W 107 k ∧ ¬ W 108 k) : MFL I' cF nF := fun l hl => ⟨(f _ _ (h1 _).2).trans (h l hl).1, (h l hl).2.1, fun k hk => (f _ _ (h1 _).1).trans ((h l hl).2.2 k hk)⟩
def VQ (I : Nat → Nat → Int32) : VK → Prop
  | [] => True
  | x :: r => (I 130 r.length = iI (ib x.1) ∧ I 131 r.length = iI (ib x.2.1) ∧ I 132 r.length = iI (ib x.2.2)) ∧ VQ I r
theorem VQ_c {I I' : Nat → Nat → Int32} : ∀ {ks : VK}, VQ I ks → (∀ i, i < ks.length → I' 130 i = I 130 i ∧ I' 131 i = I 131 i ∧ I' 132 i = I 132 i) → VQ I' ks := by
  intro ks
  induction ks with
  | nil => intro _ _; trivial
  | cons x r ih =>
    intro h q
    obtain ⟨q1, q2, q3⟩ := q r.length (by simp)
    exact ⟨⟨q1.trans h.1.1, q2.trans h.1.2.1, q3.trans h.1.2.2⟩, ih h.2 (fun i hi => q i (by simp; omega))⟩
theorem VR_44 {c : Nat → Int} {s : DSt} {k a e : Nat} {ks ks' : VK} (h : VR c s k a ks e ks') (he : c e ≠ 44) : c a ≠ 44 := by
  cases k with
  | zero => rw [h.1]; exact he
  | succ k =>
    obtain ⟨_, a1, k1, hs, _⟩ := h
    obtain ⟨y, l, t, r, _, hs⟩ := hs
    rcases hs with z | z | z | z | z | z
    · have := z.1; omega
    · have := z.1; omega
    · have := z.1; omega
    · have := z.1; omega
    · have := z.1; omega
    · have := z.1.1; omega
theorem VR_b {c : Nat → Int} {s : DSt} {k a e : Nat} {ks ks' : VK} (h : VR c s k a ks e ks') (hc : ∀ x, e ≤ x → c x = -1) : a ≤ e := by
  cases k with
  | zero => exact Nat.le_of_eq h.1
  | succ k =>
    by_cases ha : a ≤ e
    · exact ha
    · exfalso
      have h0 := hc a (by omega)
      obtain ⟨_, a1, k1, hs, _⟩ := h
      obtain ⟨y, l, t, r, _, hs⟩ := hs
      rcases hs with z | z | z | z | z | z
      · have := z.1; omega
      · have := z.1; omega
      · have := z.1; omega
      · have := z.1; omega
      · have := z.1; omega
      · have := z.1.1; omega
theorem VR_k {c : Nat → Int} {s : DSt} {k a e : Nat} {ks ks' : VK} (h : VR c s k a ks e ks') (hk : ks'.length ≤ 9) : ks.length ≤ 9 := by
  cases k with
  | zero => rw [h.2]; exact hk
  | succ k => exact h.1.2
def wB (l k : Nat) : Prop := wA l k ∨ l = 130 ∨ l = 131 ∨ l = 132

section G4
variable {L : Nat} {xs : Nat → Int32} {d j : Nat} {I : Nat → Nat → Int32} {M : Nat → Nat → Int64} {p : Nat → Option Nat}
variable {q : Nat}
theorem ml_begin (hq : q < 10) : jc L xs d 160 [.ref 103, .int (iI ((q : Nat) : Int))] (jx_G j I M p) (fun v g1 => v = none ∧ g1 = jx_G j (jm_u (jm_u (jm_u I 130 q (iI 0)) 131 q (iI 1)) 132 q (iI 0)) M p) := by
  unfold jc
  refine jv_aload_n (pc' := 1) (k := 0) (x := 103) rfl rfl rfl rfl ?_
  refine jv_getR (pc' := 4) (c := 12) (k := 41) (v := 130) rfl rfl rfl (fun _ _ => rfl) rfl rfl (jR_103_41 _) ?_
  refine jv_iload_n (pc' := 5) (k := 1) (x := (iI ((q : Nat) : Int))) rfl rfl rfl rfl ?_
  refine jv_iconst (pc' := 6) (n := 0) rfl rfl ?_
  refine jv_bastore (pc' := 7) (n := 10) (e := ((q : Nat) : Int)) (v := (iI 0)) rfl rfl rfl rfl rfl (by omega) (by first | exact Or.inl rfl | exact Or.inr rfl) ?_
  refine jv_aload_n (pc' := 8) (k := 0) (x := 103) rfl rfl rfl rfl ?_
  refine jv_getR (pc' := 11) (c := 12) (k := 42) (v := 131) rfl rfl rfl (fun _ _ => rfl) rfl rfl (jR_103_42 _) ?_
  refine jv_iload_n (pc' := 12) (k := 1) (x := (iI ((q : Nat) : Int))) rfl rfl rfl rfl ?_
  refine jv_iconst (pc' := 13) (n := 1) rfl rfl ?_
  refine jv_bastore (pc' := 14) (n := 10) (e := ((q : Nat) : Int)) (v := (iI 1)) rfl rfl rfl rfl rfl (by omega) (by first | exact Or.inl rfl | exact Or.inr rfl) ?_
  refine jv_aload_n (pc' := 15) (k := 0) (x := 103) rfl rfl rfl rfl ?_
  refine jv_getR (pc' := 18) (c := 12) (k := 43) (v := 132) rfl rfl rfl (fun _ _ => rfl) rfl rfl (jR_103_43 _) ?_
  refine jv_iload_n (pc' := 19) (k := 1) (x := (iI ((q : Nat) : Int))) rfl rfl rfl rfl ?_
  refine jv_iconst (pc' := 20) (n := 0) rfl rfl ?_
  refine jv_bastore (pc' := 21) (n := 10) (e := ((q : Nat) : Int)) (v := (iI 0)) rfl rfl rfl rfl rfl (by omega) (by first | exact Or.inl rfl | exact Or.inr rfl) ?_
  refine jv_retV rfl rfl ⟨_, _, rfl, ?_⟩
  exact ⟨rfl, rfl⟩
theorem ml_factor {l t b : Bool} (hq : q < 10) (h1 : I 131 q = iI (ib l)) (h2 : I 132 q = iI (ib t)) : jc L xs d 161 [.ref 103, .int (iI ((q : Nat) : Int)), .int (iI (ib b))] (jx_G j I M p) (fun v g1 => v = none ∧ g1 = jx_G j (jm_u (jm_u I 131 q (iI (ib (l && (b != t))))) 132 q (iI 0)) M p) := by
  rcases l with _ | _ <;> rcases t with _ | _ <;> rcases b with _ | _
  · unfold jc
    refine jv_aload_n (pc' := 1) (k := 0) (x := 103) rfl rfl rfl rfl ?_
    refine jv_getR (pc' := 4) (c := 12) (k := 42) (v := 131) rfl rfl rfl (fun _ _ => rfl) rfl rfl (jR_103_42 _) ?_
    refine jv_iload_n (pc' := 5) (k := 1) (x := (iI ((q : Nat) : Int))) rfl rfl rfl rfl ?_
    refine jv_aload_n (pc' := 6) (k := 0) (x := 103) rfl rfl rfl rfl ?_
    refine jv_getR (pc' := 9) (c := 12) (k := 42) (v := 131) rfl rfl rfl (fun _ _ => rfl) rfl rfl (jR_103_42 _) ?_
    refine jv_iload_n (pc' := 10) (k := 1) (x := (iI ((q : Nat) : Int))) rfl rfl rfl rfl ?_
    refine jv_baload (pc' := 11) (n := 10) (e := ((q : Nat) : Int)) (v := (iI 0)) rfl rfl rfl rfl rfl (by omega) h1 ?_
    refine jv_if_eq (t := 28) (pc' := 14) (a := 0) rfl rfl rfl (by omega) (fun hz_1 => ?_) (fun hz_1 => ?_)
    · skip
      refine jv_iconst (pc' := 29) (n := 0) rfl rfl ?_
      refine jv_bastore (pc' := 30) (n := 10) (e := ((q : Nat) : Int)) (v := (iI 0)) rfl rfl rfl rfl rfl (by omega) (by first | exact Or.inl rfl | exact Or.inr rfl) ?_
      refine jv_aload_n (pc' := 31) (k := 0) (x := 103) rfl rfl rfl rfl ?_
      refine jv_getR (pc' := 34) (c := 12) (k := 43) (v := 132) rfl rfl rfl (fun _ _ => rfl) rfl rfl (jR_103_43 _) ?_
      refine jv_iload_n (pc' := 35) (k := 1) (x := (iI ((q : Nat) : Int))) rfl rfl rfl rfl ?_
      refine jv_iconst (pc' := 36) (n := 0) rfl rfl ?_
      refine jv_bastore (pc' := 37) (n := 10) (e := ((q : Nat) : Int)) (v := (iI 0)) rfl rfl rfl rfl rfl (by omega) (by first | exact Or.inl rfl | exact Or.inr rfl) ?_
      refine jv_retV rfl rfl ⟨_, _, rfl, ?_⟩
      exact ⟨rfl, rfl⟩
    · skip
      exact absurd hz_1 (by decide)
  · unfold jc
    refine jv_aload_n (pc' := 1) (k := 0) (x := 103) rfl rfl rfl rfl ?_
    refine jv_getR (pc' := 4) (c := 12) (k := 42) (v := 131) rfl rfl rfl (fun _ _ => rfl) rfl rfl (jR_103_42 _) ?_
    refine jv_iload_n (pc' := 5) (k := 1) (x := (iI ((q : Nat) : Int))) rfl rfl rfl rfl ?_
    refine jv_aload_n (pc' := 6) (k := 0) (x := 103) rfl rfl rfl rfl ?_
    refine jv_getR (pc' := 9) (c := 12) (k := 42) (v := 131) rfl rfl rfl (fun _ _ => rfl) rfl rfl (jR_103_42 _) ?_
    refine jv_iload_n (pc' := 10) (k := 1) (x := (iI ((q : Nat) : Int))) rfl rfl rfl rfl ?_
    refine jv_baload (pc' := 11) (n := 10) (e := ((q : Nat) : Int)) (v := (iI 0)) rfl rfl rfl rfl rfl (by omega) h1 ?_
    refine jv_if_eq (t := 28) (pc' := 14) (a := 0) rfl rfl rfl (by omega) (fun hz_1 => ?_) (fun hz_1 => ?_)
    · skip
      refine jv_iconst (pc' := 29) (n := 0) rfl rfl ?_
      refine jv_bastore (pc' := 30) (n := 10) (e := ((q : Nat) : Int)) (v := (iI 0)) rfl rfl rfl rfl rfl (by omega) (by first | exact Or.inl rfl | exact Or.inr rfl) ?_
      refine jv_aload_n (pc' := 31) (k := 0) (x := 103) rfl rfl rfl rfl ?_
      refine jv_getR (pc' := 34) (c := 12) (k := 43) (v := 132) rfl rfl rfl (fun _ _ => rfl) rfl rfl (jR_103_43 _) ?_
      refine jv_iload_n (pc' := 35) (k := 1) (x := (iI ((q : Nat) : Int))) rfl rfl rfl rfl ?_
      refine jv_iconst (pc' := 36) (n := 0) rfl rfl ?_
      refine jv_bastore (pc' := 37) (n := 10) (e := ((q : Nat) : Int)) (v := (iI 0)) rfl rfl rfl rfl rfl (by omega) (by first | exact Or.inl rfl | exact Or.inr rfl) ?_
      refine jv_retV rfl rfl ⟨_, _, rfl, ?_⟩
      exact ⟨rfl, rfl⟩
    · skip
      exact absurd hz_1 (by decide)
  · unfold jc
    refine jv_aload_n (pc' := 1) (k := 0) (x := 103) rfl rfl rfl rfl ?_
    refine jv_getR (pc' := 4) (c := 12) (k := 42) (v := 131) rfl rfl rfl (fun _ _ => rfl) rfl rfl (jR_103_42 _) ?_
    refine jv_iload_n (pc' := 5) (k := 1) (x := (iI ((q : Nat) : Int))) rfl rfl rfl rfl ?_
    refine jv_aload_n (pc' := 6) (k := 0) (x := 103) rfl rfl rfl rfl ?_
    refine jv_getR (pc' := 9) (c := 12) (k := 42) (v := 131) rfl rfl rfl (fun _ _ => rfl) rfl rfl (jR_103_42 _) ?_
    refine jv_iload_n (pc' := 10) (k := 1) (x := (iI ((q : Nat) : Int))) rfl rfl rfl rfl ?_
    refine jv_baload (pc' := 11) (n := 10) (e := ((q : Nat) : Int)) (v := (iI 0)) rfl rfl rfl rfl rfl (by omega) h1 ?_
    refine jv_if_eq (t := 28) (pc' := 14) (a := 0) rfl rfl rfl (by omega) (fun hz_1 => ?_) (fun hz_1 => ?_)
    · skip
      refine jv_iconst (pc' := 29) (n := 0) rfl rfl ?_
      refine jv_bastore (pc' := 30) (n := 10) (e := ((q : Nat) : Int)) (v := (iI 0)) rfl rfl rfl rfl rfl (by omega) (by first | exact Or.inl rfl | exact Or.inr rfl) ?_
      refine jv_aload_n (pc' := 31) (k := 0) (x := 103) rfl rfl rfl rfl ?_
      refine jv_getR (pc' := 34) (c := 12) (k := 43) (v := 132) rfl rfl rfl (fun _ _ => rfl) rfl rfl (jR_103_43 _) ?_
      refine jv_iload_n (pc' := 35) (k := 1) (x := (iI ((q : Nat) : Int))) rfl rfl rfl rfl ?_
      refine jv_iconst (pc' := 36) (n := 0) rfl rfl ?_
      refine jv_bastore (pc' := 37) (n := 10) (e := ((q : Nat) : Int)) (v := (iI 0)) rfl rfl rfl rfl rfl (by omega) (by first | exact Or.inl rfl | exact Or.inr rfl) ?_
      refine jv_retV rfl rfl ⟨_, _, rfl, ?_⟩
      exact ⟨rfl, rfl⟩
    · skip
      exact absurd hz_1 (by decide)
  · unfold jc
    refine jv_aload_n (pc' := 1) (k := 0) (x := 103) rfl rfl rfl rfl ?_
    refine jv_getR (pc' := 4) (c := 12) (k := 42) (v := 131) rfl rfl rfl (fun _ _ => rfl) rfl rfl (jR_103_42 _) ?_
    refine jv_iload_n (pc' := 5) (k := 1) (x := (iI ((q : Nat) : Int))) rfl rfl rfl rfl ?_
    refine jv_aload_n (pc' := 6) (k := 0) (x := 103) rfl rfl rfl rfl ?_
    refine jv_getR (pc' := 9) (c := 12) (k := 42) (v := 131) rfl rfl rfl (fun _ _ => rfl) rfl rfl (jR_103_42 _) ?_
    refine jv_iload_n (pc' := 10) (k := 1) (x := (iI ((q : Nat) : Int))) rfl rfl rfl rfl ?_
    refine jv_baload (pc' := 11) (n := 10) (e := ((q : Nat) : Int)) (v := (iI 0)) rfl rfl rfl rfl rfl (by omega) h1 ?_
    refine jv_if_eq (t := 28) (pc' := 14) (a := 0) rfl rfl rfl (by omega) (fun hz_1 => ?_) (fun hz_1 => ?_)
    · skip
      refine jv_iconst (pc' := 29) (n := 0) rfl rfl ?_
      refine jv_bastore (pc' := 30) (n := 10) (e := ((q : Nat) : Int)) (v := (iI 0)) rfl rfl rfl rfl rfl (by omega) (by first | exact Or.inl rfl | exact Or.inr rfl) ?_
      refine jv_aload_n (pc' := 31) (k := 0) (x := 103) rfl rfl rfl rfl ?_
      refine jv_getR (pc' := 34) (c := 12) (k := 43) (v := 132) rfl rfl rfl (fun _ _ => rfl) rfl rfl (jR_103_43 _) ?_
      refine jv_iload_n (pc' := 35) (k := 1) (x := (iI ((q : Nat) : Int))) rfl rfl rfl rfl ?_
      refine jv_iconst (pc' := 36) (n := 0) rfl rfl ?_
      refine jv_bastore (pc' := 37) (n := 10) (e := ((q : Nat) : Int)) (v := (iI 0)) rfl rfl rfl rfl rfl (by omega) (by first | exact Or.inl rfl | exact Or.inr rfl) ?_
      refine jv_retV rfl rfl ⟨_, _, rfl, ?_⟩
      exact ⟨rfl, rfl⟩
    · skip
      exact absurd hz_1 (by decide)
  · unfold jc
    refine jv_aload_n (pc' := 1) (k := 0) (x := 103) rfl rfl rfl rfl ?_
    refine jv_getR (pc' := 4) (c := 12) (k := 42) (v := 131) rfl rfl rfl (fun _ _ => rfl) rfl rfl (jR_103_42 _) ?_
    refine jv_iload_n (pc' := 5) (k := 1) (x := (iI ((q : Nat) : Int))) rfl rfl rfl rfl ?_
    refine jv_aload_n (pc' := 6) (k := 0) (x := 103) rfl rfl rfl rfl ?_
    refine jv_getR (pc' := 9) (c := 12) (k := 42) (v := 131) rfl rfl rfl (fun _ _ => rfl) rfl rfl (jR_103_42 _) ?_
    refine jv_iload_n (pc' := 10) (k := 1) (x := (iI ((q : Nat) : Int))) rfl rfl rfl rfl ?_
    refine jv_baload (pc' := 11) (n := 10) (e := ((q : Nat) : Int)) (v := (iI 1)) rfl rfl rfl rfl rfl (by omega) h1 ?_
    refine jv_if_eq (t := 28) (pc' := 14) (a := 1) rfl rfl rfl (by omega) (fun hz_1 => ?_) (fun hz_1 => ?_)
    · skip
      exact absurd hz_1 (by decide)
    · skip
      refine jv_iload_n (pc' := 15) (k := 2) (x := (iI 0)) rfl rfl rfl rfl ?_
      refine jv_aload_n (pc' := 16) (k := 0) (x := 103) rfl rfl rfl rfl ?_
      refine jv_getR (pc' := 19) (c := 12) (k := 43) (v := 132) rfl rfl rfl (fun _ _ => rfl) rfl rfl (jR_103_43 _) ?_
      refine jv_iload_n (pc' := 20) (k := 1) (x := (iI ((q : Nat) : Int))) rfl rfl rfl rfl ?_
      refine jv_baload (pc' := 21) (n := 10) (e := ((q : Nat) : Int)) (v := (iI 0)) rfl rfl rfl rfl rfl (by omega) h2 ?_
      refine jv_ic_eq (t := 28) (pc' := 24) (a := 0) (b := 0) rfl rfl rfl (by omega) (fun hz_2 => ?_) (fun hz_2 => ?_)
      · skip
        refine jv_iconst (pc' := 29) (n := 0) rfl rfl ?_
        refine jv_bastore (pc' := 30) (n := 10) (e := ((q : Nat) : Int)) (v := (iI 0)) rfl rfl rfl rfl rfl (by omega) (by first | exact Or.inl rfl | exact Or.inr rfl) ?_
        refine jv_aload_n (pc' := 31) (k := 0) (x := 103) rfl rfl rfl rfl ?_
        refine jv_getR (pc' := 34) (c := 12) (k := 43) (v := 132) rfl rfl rfl (fun _ _ => rfl) rfl rfl (jR_103_43 _) ?_
        refine jv_iload_n (pc' := 35) (k := 1) (x := (iI ((q : Nat) : Int))) rfl rfl rfl rfl ?_
        refine jv_iconst (pc' := 36) (n := 0) rfl rfl ?_
        refine jv_bastore (pc' := 37) (n := 10) (e := ((q : Nat) : Int)) (v := (iI 0)) rfl rfl rfl rfl rfl (by omega) (by first | exact Or.inl rfl | exact Or.inr rfl) ?_
        refine jv_retV rfl rfl ⟨_, _, rfl, ?_⟩
        exact ⟨rfl, rfl⟩
      · skip
        exact absurd hz_2 (by decide)
  · unfold jc
    refine jv_aload_n (pc' := 1) (k := 0) (x := 103) rfl rfl rfl rfl ?_
    refine jv_getR (pc' := 4) (c := 12) (k := 42) (v := 131) rfl rfl rfl (fun _ _ => rfl) rfl rfl (jR_103_42 _) ?_
    refine jv_iload_n (pc' := 5) (k := 1) (x := (iI ((q : Nat) : Int))) rfl rfl rfl rfl ?_
    refine jv_aload_n (pc' := 6) (k := 0) (x := 103) rfl rfl rfl rfl ?_
    refine jv_getR (pc' := 9) (c := 12) (k := 42) (v := 131) rfl rfl rfl (fun _ _ => rfl) rfl rfl (jR_103_42 _) ?_
    refine jv_iload_n (pc' := 10) (k := 1) (x := (iI ((q : Nat) : Int))) rfl rfl rfl rfl ?_
    refine jv_baload (pc' := 11) (n := 10) (e := ((q : Nat) : Int)) (v := (iI 1)) rfl rfl rfl rfl rfl (by omega) h1 ?_
    refine jv_if_eq (t := 28) (pc' := 14) (a := 1) rfl rfl rfl (by omega) (fun hz_1 => ?_) (fun hz_1 => ?_)
    · skip
      exact absurd hz_1 (by decide)
    · skip
      refine jv_iload_n (pc' := 15) (k := 2) (x := (iI 1)) rfl rfl rfl rfl ?_
      refine jv_aload_n (pc' := 16) (k := 0) (x := 103) rfl rfl rfl rfl ?_
      refine jv_getR (pc' := 19) (c := 12) (k := 43) (v := 132) rfl rfl rfl (fun _ _ => rfl) rfl rfl (jR_103_43 _) ?_
      refine jv_iload_n (pc' := 20) (k := 1) (x := (iI ((q : Nat) : Int))) rfl rfl rfl rfl ?_
      refine jv_baload (pc' := 21) (n := 10) (e := ((q : Nat) : Int)) (v := (iI 0)) rfl rfl rfl rfl rfl (by omega) h2 ?_
      refine jv_ic_eq (t := 28) (pc' := 24) (a := 1) (b := 0) rfl rfl rfl (by omega) (fun hz_2 => ?_) (fun hz_2 => ?_)
      · skip
        exact absurd hz_2 (by decide)
      · skip
        refine jv_iconst (pc' := 25) (n := 1) rfl rfl ?_
        refine jx_step (pc' := 29) rfl ?_
        refine jv_bastore (pc' := 30) (n := 10) (e := ((q : Nat) : Int)) (v := (iI 1)) rfl rfl rfl rfl rfl (by omega) (by first | exact Or.inl rfl | exact Or.inr rfl) ?_
        refine jv_aload_n (pc' := 31) (k := 0) (x := 103) rfl rfl rfl rfl ?_
        refine jv_getR (pc' := 34) (c := 12) (k := 43) (v := 132) rfl rfl rfl (fun _ _ => rfl) rfl rfl (jR_103_43 _) ?_
        refine jv_iload_n (pc' := 35) (k := 1) (x := (iI ((q : Nat) : Int))) rfl rfl rfl rfl ?_
        refine jv_iconst (pc' := 36) (n := 0) rfl rfl ?_
        refine jv_bastore (pc' := 37) (n := 10) (e := ((q : Nat) : Int)) (v := (iI 0)) rfl rfl rfl rfl rfl (by omega) (by first | exact Or.inl rfl | exact Or.inr rfl) ?_
        refine jv_retV rfl rfl ⟨_, _, rfl, ?_⟩
        exact ⟨rfl, rfl⟩
  · unfold jc
    refine jv_aload_n (pc' := 1) (k := 0) (x := 103) rfl rfl rfl rfl ?_
    refine jv_getR (pc' := 4) (c := 12) (k := 42) (v := 131) rfl rfl rfl (fun _ _ => rfl) rfl rfl (jR_103_42 _) ?_
    refine jv_iload_n (pc' := 5) (k := 1) (x := (iI ((q : Nat) : Int))) rfl rfl rfl rfl ?_
    refine jv_aload_n (pc' := 6) (k := 0) (x := 103) rfl rfl rfl rfl ?_
    refine jv_getR (pc' := 9) (c := 12) (k := 42) (v := 131) rfl rfl rfl (fun _ _ => rfl) rfl rfl (jR_103_42 _) ?_
    refine jv_iload_n (pc' := 10) (k := 1) (x := (iI ((q : Nat) : Int))) rfl rfl rfl rfl ?_
    refine jv_baload (pc' := 11) (n := 10) (e := ((q : Nat) : Int)) (v := (iI 1)) rfl rfl rfl rfl rfl (by omega) h1 ?_
    refine jv_if_eq (t := 28) (pc' := 14) (a := 1) rfl rfl rfl (by omega) (fun hz_1 => ?_) (fun hz_1 => ?_)
    · skip
      exact absurd hz_1 (by decide)
    · skip
      refine jv_iload_n (pc' := 15) (k := 2) (x := (iI 0)) rfl rfl rfl rfl ?_
      refine jv_aload_n (pc' := 16) (k := 0) (x := 103) rfl rfl rfl rfl ?_
      refine jv_getR (pc' := 19) (c := 12) (k := 43) (v := 132) rfl rfl rfl (fun _ _ => rfl) rfl rfl (jR_103_43 _) ?_
      refine jv_iload_n (pc' := 20) (k := 1) (x := (iI ((q : Nat) : Int))) rfl rfl rfl rfl ?_
      refine jv_baload (pc' := 21) (n := 10) (e := ((q : Nat) : Int)) (v := (iI 1)) rfl rfl rfl rfl rfl (by omega) h2 ?_
      refine jv_ic_eq (t := 28) (pc' := 24) (a := 0) (b := 1) rfl rfl rfl (by omega) (fun hz_2 => ?_) (fun hz_2 => ?_)
      · skip
        exact absurd hz_2 (by decide)
      · skip
        refine jv_iconst (pc' := 25) (n := 1) rfl rfl ?_
        refine jx_step (pc' := 29) rfl ?_
        refine jv_bastore (pc' := 30) (n := 10) (e := ((q : Nat) : Int)) (v := (iI 1)) rfl rfl rfl rfl rfl (by omega) (by first | exact Or.inl rfl | exact Or.inr rfl) ?_
        refine jv_aload_n (pc' := 31) (k := 0) (x := 103) rfl rfl rfl rfl ?_
        refine jv_getR (pc' := 34) (c := 12) (k := 43) (v := 132) rfl rfl rfl (fun _ _ => rfl) rfl rfl (jR_103_43 _) ?_
        refine jv_iload_n (pc' := 35) (k := 1) (x := (iI ((q : Nat) : Int))) rfl rfl rfl rfl ?_
        refine jv_iconst (pc' := 36) (n := 0) rfl rfl ?_
        refine jv_bastore (pc' := 37) (n := 10) (e := ((q : Nat) : Int)) (v := (iI 0)) rfl rfl rfl rfl rfl (by omega) (by first | exact Or.inl rfl | exact Or.inr rfl) ?_
        refine jv_retV rfl rfl ⟨_, _, rfl, ?_⟩
        exact ⟨rfl, rfl⟩
  · unfold jc
    refine jv_aload_n (pc' := 1) (k := 0) (x := 103) rfl rfl rfl rfl ?_
    refine jv_getR (pc' := 4) (c := 12) (k := 42) (v := 131) rfl rfl rfl (fun _ _ => rfl) rfl rfl (jR_103_42 _) ?_
    refine jv_iload_n (pc' := 5) (k := 1) (x := (iI ((q : Nat) : Int))) rfl rfl rfl rfl ?_
    refine jv_aload_n (pc' := 6) (k := 0) (x := 103) rfl rfl rfl rfl ?_
    refine jv_getR (pc' := 9) (c := 12) (k := 42) (v := 131) rfl rfl rfl (fun _ _ => rfl) rfl rfl (jR_103_42 _) ?_
    refine jv_iload_n (pc' := 10) (k := 1) (x := (iI ((q : Nat) : Int))) rfl rfl rfl rfl ?_
    refine jv_baload (pc' := 11) (n := 10) (e := ((q : Nat) : Int)) (v := (iI 1)) rfl rfl rfl rfl rfl (by omega) h1 ?_
    refine jv_if_eq (t := 28) (pc' := 14) (a := 1) rfl rfl rfl (by omega) (fun hz_1 => ?_) (fun hz_1 => ?_)
    · skip
      exact absurd hz_1 (by decide)
    · skip
      refine jv_iload_n (pc' := 15) (k := 2) (x := (iI 1)) rfl rfl rfl rfl ?_
      refine jv_aload_n (pc' := 16) (k := 0) (x := 103) rfl rfl rfl rfl ?_
      refine jv_getR (pc' := 19) (c := 12) (k := 43) (v := 132) rfl rfl rfl (fun _ _ => rfl) rfl rfl (jR_103_43 _) ?_
      refine jv_iload_n (pc' := 20) (k := 1) (x := (iI ((q : Nat) : Int))) rfl rfl rfl rfl ?_
      refine jv_baload (pc' := 21) (n := 10) (e := ((q : Nat) : Int)) (v := (iI 1)) rfl rfl rfl rfl rfl (by omega) h2 ?_
      refine jv_ic_eq (t := 28) (pc' := 24) (a := 1) (b := 1) rfl rfl rfl (by omega) (fun hz_2 => ?_) (fun hz_2 => ?_)
      · skip
        refine jv_iconst (pc' := 29) (n := 0) rfl rfl ?_
        refine jv_bastore (pc' := 30) (n := 10) (e := ((q : Nat) : Int)) (v := (iI 0)) rfl rfl rfl rfl rfl (by omega) (by first | exact Or.inl rfl | exact Or.inr rfl) ?_
        refine jv_aload_n (pc' := 31) (k := 0) (x := 103) rfl rfl rfl rfl ?_
        refine jv_getR (pc' := 34) (c := 12) (k := 43) (v := 132) rfl rfl rfl (fun _ _ => rfl) rfl rfl (jR_103_43 _) ?_
        refine jv_iload_n (pc' := 35) (k := 1) (x := (iI ((q : Nat) : Int))) rfl rfl rfl rfl ?_
        refine jv_iconst (pc' := 36) (n := 0) rfl rfl ?_
        refine jv_bastore (pc' := 37) (n := 10) (e := ((q : Nat) : Int)) (v := (iI 0)) rfl rfl rfl rfl rfl (by omega) (by first | exact Or.inl rfl | exact Or.inr rfl) ?_
        refine jv_retV rfl rfl ⟨_, _, rfl, ?_⟩
        exact ⟨rfl, rfl⟩
      · skip
        exact absurd hz_2 (by decide)
variable {c : Nat → Int} {n : Nat} {s : DSt} {W : Nat → Nat → Int} {sz : Nat}
def wV (l k : Nat) : Prop := (l = 103 ∧ k = 19) ∨ l = 130 ∨ l = 131 ∨ l = 132
set_option maxHeartbeats 4000000 in
set_option maxRecDepth 100000 in
theorem ml_mloop {fl fr0 : Int} {k : Nat} {y0 l0 t0 : Bool} (hT : MT I c n) (hat : I 103 19 = iI ((0 : Nat) : Int)) (hM : DMe I M s) (hE : EP W sz s) (hc : 0 ≤ s 0 2 ∧ s 0 2 ≤ 64) (hK0 : VQ I [(false, true, false)]) (hR0 : VR c s k 0 [(false, true, false)] n [(y0, l0, t0)]) (f0 : jm_F) (hf0 : f0 0 = some (.ref 103)) (hf1 : f0 1 = some (.int (iI fl))) (hf2 : f0 2 = some (.int (iI fr0))) (hf3 : f0 3 = some (.int (iI 0))) : jx L xs (d + 3) 159 60 f0 [] (jx_G j I M p) (fun z => ∃ v g1, z = (.inl v, g1) ∧ (∃ I', g1 = jx_G j I' M p ∧ v = some (.int (jb ((y0 || l0) = true))) ∧ fr wV I I')) := by
  have H1 : ∀ (N : Nat) (k1 : Nat) (a1 : Nat) (dp : Nat) (ks : VK) (I1 : Nat → Nat → Int32), k1 < N → (fr wV I I1) → (I1 103 19 = iI ((a1 : Nat) : Int)) → (VQ I1 ks) → (dp + 1 = ks.length) → (VR c s k1 a1 ks n [(y0, l0, t0)]) → ∀ f : jm_F, f 0 = some (.ref 103) → f 1 = some (.int (iI fl)) → f 2 = some (.int (iI fr0)) → f 3 = some (.int (iI ((dp : Nat) : Int))) → jx L xs ((d + 3)) 159 60 f [] (jx_G j I1 M p) (fun z => ∃ v g1, z = (.inl v, g1) ∧ (∃ I', g1 = jx_G j I' M p ∧ v = some (.int (jb ((y0 || l0) = true))) ∧ fr wV I I')) := by
    intro N
    induction N with
    | zero => intro k1 a1 dp ks I1 hN; exact absurd hN (Nat.not_lt_zero _)
    | succ N ih =>
      intro k1 a1 dp ks I1 hN hf ha hK hdp hR f hf0 hf1 hf2 hf3 
      refine jv_aload_n (pc' := 61) (k := 0) (x := 103) rfl rfl rfl hf0 ?_
      have T1 : MT I1 c n := MT_fr hT hf (by simp [wV]) (by intro k; simp [wV])
      have hn80 := T1.2.1
      have ho1 := MT_or T1 a1
      have hm1 := MT_c T1 a1
      have hcn : c n = -1 := T1.2.2.2.2 n (by omega)
      rcases k1 with _ | k1
      · obtain ⟨e1, e2⟩ := hR
        subst e2
        rcases y0 with _ | _ <;> rcases l0 with _ | _
        · skip
          refine jv_getI (pc' := 64) (c := 12) (k := 19) (v := (iI ((a1 : Nat) : Int))) rfl rfl rfl (fun _ _ => rfl) rfl rfl ha ?_
          refine jv_aload_n (pc' := 65) (k := 0) (x := 103) rfl rfl rfl hf0 ?_
          refine jv_getI (pc' := 68) (c := 12) (k := 18) (v := (iI (n : Int))) rfl rfl rfl (fun _ _ => rfl) rfl rfl T1.1 ?_
          refine jv_ic_ge (t := 288) (pc' := 71) (a := ((a1 : Nat) : Int)) (b := (n : Int)) rfl rfl rfl (by omega) (fun hz_2 => ?_) (fun hz_2 => ?_)
          · skip
            refine jv_aload_n (pc' := 289) (k := 0) (x := 103) rfl rfl rfl hf0 ?_
            refine jv_getR (pc' := 292) (c := 12) (k := 41) (v := 130) rfl rfl rfl (fun _ _ => rfl) rfl rfl (jR_103_41 _) ?_
            refine jv_iconst (pc' := 293) (n := 0) rfl rfl ?_
            refine jv_baload (pc' := 294) (n := 10) (e := 0) (v := (iI 0)) rfl rfl rfl rfl rfl (by omega) hK.1.1 ?_
            refine jv_if_ne (t := 306) (pc' := 297) (a := 0) rfl rfl rfl (by omega) (fun hz_3 => ?_) (fun hz_3 => ?_)
            · skip
              exact absurd hz_3 (by decide)
            · skip
              refine jv_aload_n (pc' := 298) (k := 0) (x := 103) rfl rfl rfl hf0 ?_
              refine jv_getR (pc' := 301) (c := 12) (k := 42) (v := 131) rfl rfl rfl (fun _ _ => rfl) rfl rfl (jR_103_42 _) ?_
              refine jv_iconst (pc' := 302) (n := 0) rfl rfl ?_
              refine jv_baload (pc' := 303) (n := 10) (e := 0) (v := (iI 0)) rfl rfl rfl rfl rfl (by omega) hK.1.2.1 ?_
              refine jv_if_eq (t := 310) (pc' := 306) (a := 0) rfl rfl rfl (by omega) (fun hz_4 => ?_) (fun hz_4 => ?_)
              · skip
                refine jv_iconst (pc' := 311) (n := 0) rfl rfl ?_
                refine jv_retZ rfl rfl (by first | exact Or.inl rfl | exact Or.inr rfl) ⟨_, _, rfl, ?_⟩
                first
                | (exfalso; omega)
                | exact ⟨_, rfl, jq_f (by decide), hf⟩
              · skip
                exact absurd hz_4 (by decide)
          · skip
            exfalso; omega
        · skip
          refine jv_getI (pc' := 64) (c := 12) (k := 19) (v := (iI ((a1 : Nat) : Int))) rfl rfl rfl (fun _ _ => rfl) rfl rfl ha ?_
          refine jv_aload_n (pc' := 65) (k := 0) (x := 103) rfl rfl rfl hf0 ?_
          refine jv_getI (pc' := 68) (c := 12) (k := 18) (v := (iI (n : Int))) rfl rfl rfl (fun _ _ => rfl) rfl rfl T1.1 ?_
          refine jv_ic_ge (t := 288) (pc' := 71) (a := ((a1 : Nat) : Int)) (b := (n : Int)) rfl rfl rfl (by omega) (fun hz_5 => ?_) (fun hz_5 => ?_)
          · skip
            refine jv_aload_n (pc' := 289) (k := 0) (x := 103) rfl rfl rfl hf0 ?_
            refine jv_getR (pc' := 292) (c := 12) (k := 41) (v := 130) rfl rfl rfl (fun _ _ => rfl) rfl rfl (jR_103_41 _) ?_
            refine jv_iconst (pc' := 293) (n := 0) rfl rfl ?_
            refine jv_baload (pc' := 294) (n := 10) (e := 0) (v := (iI 0)) rfl rfl rfl rfl rfl (by omega) hK.1.1 ?_
            refine jv_if_ne (t := 306) (pc' := 297) (a := 0) rfl rfl rfl (by omega) (fun hz_6 => ?_) (fun hz_6 => ?_)
            · skip
              exact absurd hz_6 (by decide)
            · skip
              refine jv_aload_n (pc' := 298) (k := 0) (x := 103) rfl rfl rfl hf0 ?_
              refine jv_getR (pc' := 301) (c := 12) (k := 42) (v := 131) rfl rfl rfl (fun _ _ => rfl) rfl rfl (jR_103_42 _) ?_
              refine jv_iconst (pc' := 302) (n := 0) rfl rfl ?_
              refine jv_baload (pc' := 303) (n := 10) (e := 0) (v := (iI 1)) rfl rfl rfl rfl rfl (by omega) hK.1.2.1 ?_
              refine jv_if_eq (t := 310) (pc' := 306) (a := 1) rfl rfl rfl (by omega) (fun hz_7 => ?_) (fun hz_7 => ?_)
              · skip
                exact absurd hz_7 (by decide)
              · skip
                refine jv_iconst (pc' := 307) (n := 1) rfl rfl ?_
                refine jx_step (pc' := 311) rfl ?_
                refine jv_retZ rfl rfl (by first | exact Or.inl rfl | exact Or.inr rfl) ⟨_, _, rfl, ?_⟩
                first
                | (exfalso; omega)
                | exact ⟨_, rfl, jq_t (by decide), hf⟩
          · skip
            exfalso; omega
        · skip
          refine jv_getI (pc' := 64) (c := 12) (k := 19) (v := (iI ((a1 : Nat) : Int))) rfl rfl rfl (fun _ _ => rfl) rfl rfl ha ?_
          refine jv_aload_n (pc' := 65) (k := 0) (x := 103) rfl rfl rfl hf0 ?_
          refine jv_getI (pc' := 68) (c := 12) (k := 18) (v := (iI (n : Int))) rfl rfl rfl (fun _ _ => rfl) rfl rfl T1.1 ?_
          refine jv_ic_ge (t := 288) (pc' := 71) (a := ((a1 : Nat) : Int)) (b := (n : Int)) rfl rfl rfl (by omega) (fun hz_8 => ?_) (fun hz_8 => ?_)
          · skip
            refine jv_aload_n (pc' := 289) (k := 0) (x := 103) rfl rfl rfl hf0 ?_
            refine jv_getR (pc' := 292) (c := 12) (k := 41) (v := 130) rfl rfl rfl (fun _ _ => rfl) rfl rfl (jR_103_41 _) ?_
            refine jv_iconst (pc' := 293) (n := 0) rfl rfl ?_
            refine jv_baload (pc' := 294) (n := 10) (e := 0) (v := (iI 1)) rfl rfl rfl rfl rfl (by omega) hK.1.1 ?_
            refine jv_if_ne (t := 306) (pc' := 297) (a := 1) rfl rfl rfl (by omega) (fun hz_9 => ?_) (fun hz_9 => ?_)
            · skip
              refine jv_iconst (pc' := 307) (n := 1) rfl rfl ?_
              refine jx_step (pc' := 311) rfl ?_
              refine jv_retZ rfl rfl (by first | exact Or.inl rfl | exact Or.inr rfl) ⟨_, _, rfl, ?_⟩
              first
              | (exfalso; omega)
              | exact ⟨_, rfl, jq_t (by decide), hf⟩
            · skip
              exact absurd hz_9 (by decide)
          · skip
            exfalso; omega
        · skip
          refine jv_getI (pc' := 64) (c := 12) (k := 19) (v := (iI ((a1 : Nat) : Int))) rfl rfl rfl (fun _ _ => rfl) rfl rfl ha ?_
          refine jv_aload_n (pc' := 65) (k := 0) (x := 103) rfl rfl rfl hf0 ?_
          refine jv_getI (pc' := 68) (c := 12) (k := 18) (v := (iI (n : Int))) rfl rfl rfl (fun _ _ => rfl) rfl rfl T1.1 ?_
          refine jv_ic_ge (t := 288) (pc' := 71) (a := ((a1 : Nat) : Int)) (b := (n : Int)) rfl rfl rfl (by omega) (fun hz_10 => ?_) (fun hz_10 => ?_)
          · skip
            refine jv_aload_n (pc' := 289) (k := 0) (x := 103) rfl rfl rfl hf0 ?_
            refine jv_getR (pc' := 292) (c := 12) (k := 41) (v := 130) rfl rfl rfl (fun _ _ => rfl) rfl rfl (jR_103_41 _) ?_
            refine jv_iconst (pc' := 293) (n := 0) rfl rfl ?_
            refine jv_baload (pc' := 294) (n := 10) (e := 0) (v := (iI 1)) rfl rfl rfl rfl rfl (by omega) hK.1.1 ?_
            refine jv_if_ne (t := 306) (pc' := 297) (a := 1) rfl rfl rfl (by omega) (fun hz_11 => ?_) (fun hz_11 => ?_)
            · skip
              refine jv_iconst (pc' := 307) (n := 1) rfl rfl ?_
              refine jx_step (pc' := 311) rfl ?_
              refine jv_retZ rfl rfl (by first | exact Or.inl rfl | exact Or.inr rfl) ⟨_, _, rfl, ?_⟩
              first
              | (exfalso; omega)
              | exact ⟨_, rfl, jq_t (by decide), hf⟩
            · skip
              exact absurd hz_11 (by decide)
          · skip
            exfalso; omega
      · obtain ⟨⟨hb1, hb2⟩, a2, ks2, hS, hR⟩ := hR
        obtain ⟨y, l, t, r, hks, hS⟩ := hS
        subst hks
        obtain rfl : dp = r.length := Nat.succ.inj hdp
        have hlen : r.length + 1 ≤ 9 := hb2
        have hk9 := VR_k hR (by simp)
        have ha2 := VR_b hR T1.2.2.2.2
        rcases hS with ⟨h0, ea, ek⟩ | ⟨h0, ea, ek⟩ | ⟨h0, ea, ek⟩ | ⟨h0, ea, ek⟩ | ⟨h0, ea, y2, l2, t2, r2, er, ek⟩ | ⟨h0, ea, ek⟩
        · subst ea; subst ek
          rcases t with _ | _
          · skip
            refine jv_getI (pc' := 64) (c := 12) (k := 19) (v := (iI ((a1 : Nat) : Int))) rfl rfl rfl (fun _ _ => rfl) rfl rfl ha ?_
            refine jv_aload_n (pc' := 65) (k := 0) (x := 103) rfl rfl rfl hf0 ?_
            refine jv_getI (pc' := 68) (c := 12) (k := 18) (v := (iI (n : Int))) rfl rfl rfl (fun _ _ => rfl) rfl rfl T1.1 ?_
            refine jv_ic_ge (t := 288) (pc' := 71) (a := ((a1 : Nat) : Int)) (b := (n : Int)) rfl rfl rfl (by omega) (fun hz_12 => ?_) (fun hz_12 => ?_)
            · skip
              exfalso; omega
            · skip
              refine jv_aload_n (pc' := 72) (k := 0) (x := 103) rfl rfl rfl hf0 ?_
              have hm13 := MT_c T1 (a1)
              have ho13 := MT_or T1 (a1)
              refine jv_call (pc' := 75) rfl (ml_here (I := I1) (a := a1) T1 ha (by omega)) (fun vq14 gq14 q14 => ?_)
              obtain ⟨rfl, rfl⟩ := q14
              show jx L xs _ 159 75 _ [.int (iI (c (a1)))] _ _
              refine jv_istore (pc' := 77) (k := 4) (x := (iI (c (a1)))) rfl rfl rfl (Or.inr (congrArg jm_lng hf3)) ?_
              refine jv_iload (pc' := 79) (k := 4) (x := (iI (c (a1)))) rfl rfl rfl ?_
              refine jv_bipush (pc' := 81) (n := 33) rfl rfl rfl ?_
              refine jv_ic_ne (t := 117) (pc' := 84) (a := (c (a1))) (b := 33) rfl rfl rfl (by omega) (fun hz_15 => ?_) (fun hz_15 => ?_)
              · skip
                refine jv_iload (pc' := 119) (k := 4) (x := (iI (c (a1)))) rfl rfl rfl ?_
                refine jv_bipush (pc' := 121) (n := 40) rfl rfl rfl ?_
                refine jv_ic_ne (t := 145) (pc' := 124) (a := (c (a1))) (b := 40) rfl rfl rfl (by omega) (fun hz_16 => ?_) (fun hz_16 => ?_)
                · skip
                  refine jv_iload (pc' := 147) (k := 4) (x := (iI (c (a1)))) rfl rfl rfl ?_
                  refine jv_bipush (pc' := 149) (n := 38) rfl rfl rfl ?_
                  refine jv_ic_ne (t := 165) (pc' := 152) (a := (c (a1))) (b := 38) rfl rfl rfl (by omega) (fun hz_17 => ?_) (fun hz_17 => ?_)
                  · skip
                    refine jv_iload (pc' := 167) (k := 4) (x := (iI (c (a1)))) rfl rfl rfl ?_
                    refine jv_bipush (pc' := 169) (n := 124) rfl rfl rfl ?_
                    refine jv_ic_ne (t := 221) (pc' := 172) (a := (c (a1))) (b := 124) rfl rfl rfl (by omega) (fun hz_18 => ?_) (fun hz_18 => ?_)
                    · skip
                      refine jv_iload (pc' := 223) (k := 4) (x := (iI (c (a1)))) rfl rfl rfl ?_
                      refine jv_bipush (pc' := 225) (n := 41) rfl rfl rfl ?_
                      refine jv_ic_ne (t := 276) (pc' := 228) (a := (c (a1))) (b := 41) rfl rfl rfl (by omega) (fun hz_19 => ?_) (fun hz_19 => ?_)
                      · skip
                        exfalso; omega
                      · skip
                        exfalso; omega
                    · skip
                      exfalso; omega
                  · skip
                    exfalso; omega
                · skip
                  exfalso; omega
              · skip
                refine jv_aload_n (pc' := 85) (k := 0) (x := 103) rfl rfl rfl hf0 ?_
                refine jv_getR (pc' := 88) (c := 12) (k := 43) (v := 132) rfl rfl rfl (fun _ _ => rfl) rfl rfl (jR_103_43 _) ?_
                refine jv_iload_n (pc' := 89) (k := 3) (x := (iI ((r.length : Nat) : Int))) rfl rfl rfl hf3 ?_
                refine jv_aload_n (pc' := 90) (k := 0) (x := 103) rfl rfl rfl hf0 ?_
                refine jv_getR (pc' := 93) (c := 12) (k := 43) (v := 132) rfl rfl rfl (fun _ _ => rfl) rfl rfl (jR_103_43 _) ?_
                refine jv_iload_n (pc' := 94) (k := 3) (x := (iI ((r.length : Nat) : Int))) rfl rfl rfl hf3 ?_
                refine jv_baload (pc' := 95) (n := 10) (e := ((r.length : Nat) : Int)) (v := (iI 0)) rfl rfl rfl rfl rfl (by omega) hK.1.2.2 ?_
                refine jv_if_ne (t := 102) (pc' := 98) (a := 0) rfl rfl rfl (by omega) (fun hz_20 => ?_) (fun hz_20 => ?_)
                · skip
                  exact absurd hz_20 (by decide)
                · skip
                  refine jv_iconst (pc' := 99) (n := 1) rfl rfl ?_
                  refine jx_step (pc' := 103) rfl ?_
                  refine jv_bastore (pc' := 104) (n := 10) (e := ((r.length : Nat) : Int)) (v := (iI 1)) rfl rfl rfl rfl rfl (by omega) (by first | exact Or.inl rfl | exact Or.inr rfl) ?_
                  refine jv_aload_n (pc' := 105) (k := 0) (x := 103) rfl rfl rfl hf0 ?_
                  refine jx_step (pc' := 106) rfl ?_
                  refine jv_getI (pc' := 109) (c := 12) (k := 19) (v := (iI ((a1 : Nat) : Int))) rfl rfl rfl (fun _ _ => rfl) rfl rfl ha ?_
                  refine jv_iconst (pc' := 110) (n := 1) rfl rfl ?_
                  refine jv_iadd (pc' := 111) (a := ((a1 : Nat) : Int)) (b := 1) rfl rfl ?_
                  refine jv_putI (pc' := 114) (c := 12) (k := 19) rfl rfl rfl rfl (fun _ _ _  => rfl) rfl rfl ?_
                  refine jx_step (pc' := 285) rfl ?_
                  refine jx_step (pc' := 60) rfl ?_
                  exact ih k1 (a1 + 1) r.length ((y, l, true) :: r) (jm_u (jm_u I1 132 (((r.length : Nat) : Int) : Int).toNat (iI 1)) 103 19 (iI (((a1 : Nat) : Int) + 1))) (by omega) (fr_u (by simp [wV]) (fr_u (by simp [wV]) hf)) rfl (⟨⟨(jm_u_n2 (by omega)).trans ((jm_u_n2 (by omega)).trans hK.1.1), (jm_u_n2 (by omega)).trans ((jm_u_n2 (by omega)).trans hK.1.2.1), (jm_u_n2 (by omega)).trans (jm_u_eq ⟨rfl, rfl⟩)⟩, VQ_c hK.2 (fun i hi => ⟨(jm_u_n2 (by omega)).trans (jm_u_n2 (by omega)), (jm_u_n2 (by omega)).trans (jm_u_n2 (by omega)), (jm_u_n2 (by omega)).trans (jm_u_n2 (by omega))⟩)⟩) (by first | rfl | (simp; omega)) hR _ hf0 hf1 hf2 hf3 
          · skip
            refine jv_getI (pc' := 64) (c := 12) (k := 19) (v := (iI ((a1 : Nat) : Int))) rfl rfl rfl (fun _ _ => rfl) rfl rfl ha ?_
            refine jv_aload_n (pc' := 65) (k := 0) (x := 103) rfl rfl rfl hf0 ?_
            refine jv_getI (pc' := 68) (c := 12) (k := 18) (v := (iI (n : Int))) rfl rfl rfl (fun _ _ => rfl) rfl rfl T1.1 ?_
            refine jv_ic_ge (t := 288) (pc' := 71) (a := ((a1 : Nat) : Int)) (b := (n : Int)) rfl rfl rfl (by omega) (fun hz_21 => ?_) (fun hz_21 => ?_)
            · skip
              exfalso; omega
            · skip
              refine jv_aload_n (pc' := 72) (k := 0) (x := 103) rfl rfl rfl hf0 ?_
              have hm22 := MT_c T1 (a1)
              have ho22 := MT_or T1 (a1)
              refine jv_call (pc' := 75) rfl (ml_here (I := I1) (a := a1) T1 ha (by omega)) (fun vq23 gq23 q23 => ?_)
              obtain ⟨rfl, rfl⟩ := q23
              show jx L xs _ 159 75 _ [.int (iI (c (a1)))] _ _
              refine jv_istore (pc' := 77) (k := 4) (x := (iI (c (a1)))) rfl rfl rfl (Or.inr (congrArg jm_lng hf3)) ?_
              refine jv_iload (pc' := 79) (k := 4) (x := (iI (c (a1)))) rfl rfl rfl ?_
              refine jv_bipush (pc' := 81) (n := 33) rfl rfl rfl ?_
              refine jv_ic_ne (t := 117) (pc' := 84) (a := (c (a1))) (b := 33) rfl rfl rfl (by omega) (fun hz_24 => ?_) (fun hz_24 => ?_)
              · skip
                refine jv_iload (pc' := 119) (k := 4) (x := (iI (c (a1)))) rfl rfl rfl ?_
                refine jv_bipush (pc' := 121) (n := 40) rfl rfl rfl ?_
                refine jv_ic_ne (t := 145) (pc' := 124) (a := (c (a1))) (b := 40) rfl rfl rfl (by omega) (fun hz_25 => ?_) (fun hz_25 => ?_)
                · skip
                  refine jv_iload (pc' := 147) (k := 4) (x := (iI (c (a1)))) rfl rfl rfl ?_
                  refine jv_bipush (pc' := 149) (n := 38) rfl rfl rfl ?_
                  refine jv_ic_ne (t := 165) (pc' := 152) (a := (c (a1))) (b := 38) rfl rfl rfl (by omega) (fun hz_26 => ?_) (fun hz_26 => ?_)
                  · skip
                    refine jv_iload (pc' := 167) (k := 4) (x := (iI (c (a1)))) rfl rfl rfl ?_
                    refine jv_bipush (pc' := 169) (n := 124) rfl rfl rfl ?_
                    refine jv_ic_ne (t := 221) (pc' := 172) (a := (c (a1))) (b := 124) rfl rfl rfl (by omega) (fun hz_27 => ?_) (fun hz_27 => ?_)
                    · skip
                      refine jv_iload (pc' := 223) (k := 4) (x := (iI (c (a1)))) rfl rfl rfl ?_
                      refine jv_bipush (pc' := 225) (n := 41) rfl rfl rfl ?_
                      refine jv_ic_ne (t := 276) (pc' := 228) (a := (c (a1))) (b := 41) rfl rfl rfl (by omega) (fun hz_28 => ?_) (fun hz_28 => ?_)
                      · skip
                        exfalso; omega
                      · skip
                        exfalso; omega
                    · skip
                      exfalso; omega
                  · skip
                    exfalso; omega
                · skip
                  exfalso; omega
              · skip
                refine jv_aload_n (pc' := 85) (k := 0) (x := 103) rfl rfl rfl hf0 ?_
                refine jv_getR (pc' := 88) (c := 12) (k := 43) (v := 132) rfl rfl rfl (fun _ _ => rfl) rfl rfl (jR_103_43 _) ?_
                refine jv_iload_n (pc' := 89) (k := 3) (x := (iI ((r.length : Nat) : Int))) rfl rfl rfl hf3 ?_
                refine jv_aload_n (pc' := 90) (k := 0) (x := 103) rfl rfl rfl hf0 ?_
                refine jv_getR (pc' := 93) (c := 12) (k := 43) (v := 132) rfl rfl rfl (fun _ _ => rfl) rfl rfl (jR_103_43 _) ?_
                refine jv_iload_n (pc' := 94) (k := 3) (x := (iI ((r.length : Nat) : Int))) rfl rfl rfl hf3 ?_
                refine jv_baload (pc' := 95) (n := 10) (e := ((r.length : Nat) : Int)) (v := (iI 1)) rfl rfl rfl rfl rfl (by omega) hK.1.2.2 ?_
                refine jv_if_ne (t := 102) (pc' := 98) (a := 1) rfl rfl rfl (by omega) (fun hz_29 => ?_) (fun hz_29 => ?_)
                · skip
                  refine jv_iconst (pc' := 103) (n := 0) rfl rfl ?_
                  refine jv_bastore (pc' := 104) (n := 10) (e := ((r.length : Nat) : Int)) (v := (iI 0)) rfl rfl rfl rfl rfl (by omega) (by first | exact Or.inl rfl | exact Or.inr rfl) ?_
                  refine jv_aload_n (pc' := 105) (k := 0) (x := 103) rfl rfl rfl hf0 ?_
                  refine jx_step (pc' := 106) rfl ?_
                  refine jv_getI (pc' := 109) (c := 12) (k := 19) (v := (iI ((a1 : Nat) : Int))) rfl rfl rfl (fun _ _ => rfl) rfl rfl ha ?_
                  refine jv_iconst (pc' := 110) (n := 1) rfl rfl ?_
                  refine jv_iadd (pc' := 111) (a := ((a1 : Nat) : Int)) (b := 1) rfl rfl ?_
                  refine jv_putI (pc' := 114) (c := 12) (k := 19) rfl rfl rfl rfl (fun _ _ _  => rfl) rfl rfl ?_
                  refine jx_step (pc' := 285) rfl ?_
                  refine jx_step (pc' := 60) rfl ?_
                  exact ih k1 (a1 + 1) r.length ((y, l, false) :: r) (jm_u (jm_u I1 132 (((r.length : Nat) : Int) : Int).toNat (iI 0)) 103 19 (iI (((a1 : Nat) : Int) + 1))) (by omega) (fr_u (by simp [wV]) (fr_u (by simp [wV]) hf)) rfl (⟨⟨(jm_u_n2 (by omega)).trans ((jm_u_n2 (by omega)).trans hK.1.1), (jm_u_n2 (by omega)).trans ((jm_u_n2 (by omega)).trans hK.1.2.1), (jm_u_n2 (by omega)).trans (jm_u_eq ⟨rfl, rfl⟩)⟩, VQ_c hK.2 (fun i hi => ⟨(jm_u_n2 (by omega)).trans (jm_u_n2 (by omega)), (jm_u_n2 (by omega)).trans (jm_u_n2 (by omega)), (jm_u_n2 (by omega)).trans (jm_u_n2 (by omega))⟩)⟩) (by first | rfl | (simp; omega)) hR _ hf0 hf1 hf2 hf3 
                · skip
                  exact absurd hz_29 (by decide)
        · subst ea; subst ek
          have hk9b : r.length + 1 + 1 ≤ 9 := hk9
          refine jv_getI (pc' := 64) (c := 12) (k := 19) (v := (iI ((a1 : Nat) : Int))) rfl rfl rfl (fun _ _ => rfl) rfl rfl ha ?_
          refine jv_aload_n (pc' := 65) (k := 0) (x := 103) rfl rfl rfl hf0 ?_
          refine jv_getI (pc' := 68) (c := 12) (k := 18) (v := (iI (n : Int))) rfl rfl rfl (fun _ _ => rfl) rfl rfl T1.1 ?_
          refine jv_ic_ge (t := 288) (pc' := 71) (a := ((a1 : Nat) : Int)) (b := (n : Int)) rfl rfl rfl (by omega) (fun hz_30 => ?_) (fun hz_30 => ?_)
          · skip
            exfalso; omega
          · skip
            refine jv_aload_n (pc' := 72) (k := 0) (x := 103) rfl rfl rfl hf0 ?_
            have hm31 := MT_c T1 (a1)
            have ho31 := MT_or T1 (a1)
            refine jv_call (pc' := 75) rfl (ml_here (I := I1) (a := a1) T1 ha (by omega)) (fun vq32 gq32 q32 => ?_)
            obtain ⟨rfl, rfl⟩ := q32
            show jx L xs _ 159 75 _ [.int (iI (c (a1)))] _ _
            refine jv_istore (pc' := 77) (k := 4) (x := (iI (c (a1)))) rfl rfl rfl (Or.inr (congrArg jm_lng hf3)) ?_
            refine jv_iload (pc' := 79) (k := 4) (x := (iI (c (a1)))) rfl rfl rfl ?_
            refine jv_bipush (pc' := 81) (n := 33) rfl rfl rfl ?_
            refine jv_ic_ne (t := 117) (pc' := 84) (a := (c (a1))) (b := 33) rfl rfl rfl (by omega) (fun hz_33 => ?_) (fun hz_33 => ?_)
            · skip
              refine jv_iload (pc' := 119) (k := 4) (x := (iI (c (a1)))) rfl rfl rfl ?_
              refine jv_bipush (pc' := 121) (n := 40) rfl rfl rfl ?_
              refine jv_ic_ne (t := 145) (pc' := 124) (a := (c (a1))) (b := 40) rfl rfl rfl (by omega) (fun hz_34 => ?_) (fun hz_34 => ?_)
              · skip
                refine jv_iload (pc' := 147) (k := 4) (x := (iI (c (a1)))) rfl rfl rfl ?_
                refine jv_bipush (pc' := 149) (n := 38) rfl rfl rfl ?_
                refine jv_ic_ne (t := 165) (pc' := 152) (a := (c (a1))) (b := 38) rfl rfl rfl (by omega) (fun hz_35 => ?_) (fun hz_35 => ?_)
                · skip
                  refine jv_iload (pc' := 167) (k := 4) (x := (iI (c (a1)))) rfl rfl rfl ?_
                  refine jv_bipush (pc' := 169) (n := 124) rfl rfl rfl ?_
                  refine jv_ic_ne (t := 221) (pc' := 172) (a := (c (a1))) (b := 124) rfl rfl rfl (by omega) (fun hz_36 => ?_) (fun hz_36 => ?_)
                  · skip
                    refine jv_iload (pc' := 223) (k := 4) (x := (iI (c (a1)))) rfl rfl rfl ?_
                    refine jv_bipush (pc' := 225) (n := 41) rfl rfl rfl ?_
                    refine jv_ic_ne (t := 276) (pc' := 228) (a := (c (a1))) (b := 41) rfl rfl rfl (by omega) (fun hz_37 => ?_) (fun hz_37 => ?_)
                    · skip
                      exfalso; omega
                    · skip
                      exfalso; omega
                  · skip
                    exfalso; omega
                · skip
                  exfalso; omega
              · skip
                refine jv_iinc (pc' := 127) (k := 3) (a := ((r.length : Nat) : Int)) rfl rfl hf3 rfl (Or.inr (congrArg jm_lng hf2)) ?_
                refine jv_aload_n (pc' := 128) (k := 0) (x := 103) rfl rfl rfl hf0 ?_
                refine jv_iload_n (pc' := 129) (k := 3) (x := (iI (((r.length : Nat) : Int) + 1))) rfl rfl rfl rfl ?_
                rw [show ((r.length : Nat) : Int) + 1 = ((r.length + 1 : Nat) : Int) by omega]
                refine jv_call (pc' := 132) rfl (ml_begin (I := I1) (q := r.length + 1) (by omega)) (fun vq38 gq38 q38 => ?_)
                obtain ⟨rfl, rfl⟩ := q38
                show jx L xs _ 159 132 _ [] _ _
                refine jv_aload_n (pc' := 133) (k := 0) (x := 103) rfl rfl rfl hf0 ?_
                refine jx_step (pc' := 134) rfl ?_
                refine jv_getI (pc' := 137) (c := 12) (k := 19) (v := (iI ((a1 : Nat) : Int))) rfl rfl rfl (fun _ _ => rfl) rfl rfl ha ?_
                refine jv_iconst (pc' := 138) (n := 1) rfl rfl ?_
                refine jv_iadd (pc' := 139) (a := ((a1 : Nat) : Int)) (b := 1) rfl rfl ?_
                refine jv_putI (pc' := 142) (c := 12) (k := 19) rfl rfl rfl rfl (fun _ _ _  => rfl) rfl rfl ?_
                refine jx_step (pc' := 285) rfl ?_
                refine jx_step (pc' := 60) rfl ?_
                exact ih k1 (a1 + 1) (r.length + 1) ((false, true, false) :: (y, l, t) :: r) (jm_u (jm_u (jm_u (jm_u I1 130 (r.length + 1) (iI 0)) 131 (r.length + 1) (iI 1)) 132 (r.length + 1) (iI 0)) 103 19 (iI (((a1 : Nat) : Int) + 1))) (by omega) (fr_u (by simp [wV]) (fr_u (by simp [wV]) (fr_u (by simp [wV]) (fr_u (by simp [wV]) hf)))) rfl (⟨⟨(jm_u_n2 (by omega)).trans ((jm_u_n2 (by omega)).trans ((jm_u_n2 (by omega)).trans (jm_u_eq ⟨rfl, by simp⟩))), (jm_u_n2 (by omega)).trans ((jm_u_n2 (by omega)).trans (jm_u_eq ⟨rfl, by simp⟩)), (jm_u_n2 (by omega)).trans (jm_u_eq ⟨rfl, by simp⟩)⟩, VQ_c hK (fun i hi => by simp at hi; exact ⟨(jm_u_n2 (by omega)).trans ((jm_u_n2 (by omega)).trans ((jm_u_n2 (by omega)).trans (jm_u_n2 (by omega)))), (jm_u_n2 (by omega)).trans ((jm_u_n2 (by omega)).trans ((jm_u_n2 (by omega)).trans (jm_u_n2 (by omega)))), (jm_u_n2 (by omega)).trans ((jm_u_n2 (by omega)).trans ((jm_u_n2 (by omega)).trans (jm_u_n2 (by omega))))⟩)⟩) (by first | rfl | (simp; omega)) hR _ hf0 hf1 hf2 (congrArg (fun z => some (Value.int (iI z))) (show ((r.length : Nat) : Int) + 1 = ((r.length + 1 : Nat) : Int) by omega)) 
            · skip
              exfalso; omega
        · subst ea; subst ek
          refine jv_getI (pc' := 64) (c := 12) (k := 19) (v := (iI ((a1 : Nat) : Int))) rfl rfl rfl (fun _ _ => rfl) rfl rfl ha ?_
          refine jv_aload_n (pc' := 65) (k := 0) (x := 103) rfl rfl rfl hf0 ?_
          refine jv_getI (pc' := 68) (c := 12) (k := 18) (v := (iI (n : Int))) rfl rfl rfl (fun _ _ => rfl) rfl rfl T1.1 ?_
          refine jv_ic_ge (t := 288) (pc' := 71) (a := ((a1 : Nat) : Int)) (b := (n : Int)) rfl rfl rfl (by omega) (fun hz_39 => ?_) (fun hz_39 => ?_)
          · skip
            exfalso; omega
          · skip
            refine jv_aload_n (pc' := 72) (k := 0) (x := 103) rfl rfl rfl hf0 ?_
            have hm40 := MT_c T1 (a1)
            have ho40 := MT_or T1 (a1)
            refine jv_call (pc' := 75) rfl (ml_here (I := I1) (a := a1) T1 ha (by omega)) (fun vq41 gq41 q41 => ?_)
            obtain ⟨rfl, rfl⟩ := q41
            show jx L xs _ 159 75 _ [.int (iI (c (a1)))] _ _
            refine jv_istore (pc' := 77) (k := 4) (x := (iI (c (a1)))) rfl rfl rfl (Or.inr (congrArg jm_lng hf3)) ?_
            refine jv_iload (pc' := 79) (k := 4) (x := (iI (c (a1)))) rfl rfl rfl ?_
            refine jv_bipush (pc' := 81) (n := 33) rfl rfl rfl ?_
            refine jv_ic_ne (t := 117) (pc' := 84) (a := (c (a1))) (b := 33) rfl rfl rfl (by omega) (fun hz_42 => ?_) (fun hz_42 => ?_)
            · skip
              refine jv_iload (pc' := 119) (k := 4) (x := (iI (c (a1)))) rfl rfl rfl ?_
              refine jv_bipush (pc' := 121) (n := 40) rfl rfl rfl ?_
              refine jv_ic_ne (t := 145) (pc' := 124) (a := (c (a1))) (b := 40) rfl rfl rfl (by omega) (fun hz_43 => ?_) (fun hz_43 => ?_)
              · skip
                refine jv_iload (pc' := 147) (k := 4) (x := (iI (c (a1)))) rfl rfl rfl ?_
                refine jv_bipush (pc' := 149) (n := 38) rfl rfl rfl ?_
                refine jv_ic_ne (t := 165) (pc' := 152) (a := (c (a1))) (b := 38) rfl rfl rfl (by omega) (fun hz_44 => ?_) (fun hz_44 => ?_)
                · skip
                  refine jv_iload (pc' := 167) (k := 4) (x := (iI (c (a1)))) rfl rfl rfl ?_
                  refine jv_bipush (pc' := 169) (n := 124) rfl rfl rfl ?_
                  refine jv_ic_ne (t := 221) (pc' := 172) (a := (c (a1))) (b := 124) rfl rfl rfl (by omega) (fun hz_45 => ?_) (fun hz_45 => ?_)
                  · skip
                    refine jv_iload (pc' := 223) (k := 4) (x := (iI (c (a1)))) rfl rfl rfl ?_
                    refine jv_bipush (pc' := 225) (n := 41) rfl rfl rfl ?_
                    refine jv_ic_ne (t := 276) (pc' := 228) (a := (c (a1))) (b := 41) rfl rfl rfl (by omega) (fun hz_46 => ?_) (fun hz_46 => ?_)
                    · skip
                      exfalso; omega
                    · skip
                      exfalso; omega
                  · skip
                    exfalso; omega
                · skip
                  refine jv_aload_n (pc' := 153) (k := 0) (x := 103) rfl rfl rfl hf0 ?_
                  refine jx_step (pc' := 154) rfl ?_
                  refine jv_getI (pc' := 157) (c := 12) (k := 19) (v := (iI ((a1 : Nat) : Int))) rfl rfl rfl (fun _ _ => rfl) rfl rfl ha ?_
                  refine jv_iconst (pc' := 158) (n := 1) rfl rfl ?_
                  refine jv_iadd (pc' := 159) (a := ((a1 : Nat) : Int)) (b := 1) rfl rfl ?_
                  refine jv_putI (pc' := 162) (c := 12) (k := 19) rfl rfl rfl rfl (fun _ _ _  => rfl) rfl rfl ?_
                  refine jx_step (pc' := 285) rfl ?_
                  refine jx_step (pc' := 60) rfl ?_
                  exact ih k1 (a1 + 1) r.length ((y, l, t) :: r) (jm_u I1 103 19 (iI (((a1 : Nat) : Int) + 1))) (by omega) (fr_u (by simp [wV]) hf) rfl ((VQ_c hK (fun i hi => ⟨jm_u_n2 (by omega), jm_u_n2 (by omega), jm_u_n2 (by omega)⟩))) (by first | rfl | (simp; omega)) hR _ hf0 hf1 hf2 hf3 
              · skip
                exfalso; omega
            · skip
              exfalso; omega
        · subst ea; subst ek
          rcases y with _ | _ <;> rcases l with _ | _
          · skip
            refine jv_getI (pc' := 64) (c := 12) (k := 19) (v := (iI ((a1 : Nat) : Int))) rfl rfl rfl (fun _ _ => rfl) rfl rfl ha ?_
            refine jv_aload_n (pc' := 65) (k := 0) (x := 103) rfl rfl rfl hf0 ?_
            refine jv_getI (pc' := 68) (c := 12) (k := 18) (v := (iI (n : Int))) rfl rfl rfl (fun _ _ => rfl) rfl rfl T1.1 ?_
            refine jv_ic_ge (t := 288) (pc' := 71) (a := ((a1 : Nat) : Int)) (b := (n : Int)) rfl rfl rfl (by omega) (fun hz_47 => ?_) (fun hz_47 => ?_)
            · skip
              exfalso; omega
            · skip
              refine jv_aload_n (pc' := 72) (k := 0) (x := 103) rfl rfl rfl hf0 ?_
              have hm48 := MT_c T1 (a1)
              have ho48 := MT_or T1 (a1)
              refine jv_call (pc' := 75) rfl (ml_here (I := I1) (a := a1) T1 ha (by omega)) (fun vq49 gq49 q49 => ?_)
              obtain ⟨rfl, rfl⟩ := q49
              show jx L xs _ 159 75 _ [.int (iI (c (a1)))] _ _
              refine jv_istore (pc' := 77) (k := 4) (x := (iI (c (a1)))) rfl rfl rfl (Or.inr (congrArg jm_lng hf3)) ?_
              refine jv_iload (pc' := 79) (k := 4) (x := (iI (c (a1)))) rfl rfl rfl ?_
              refine jv_bipush (pc' := 81) (n := 33) rfl rfl rfl ?_
              refine jv_ic_ne (t := 117) (pc' := 84) (a := (c (a1))) (b := 33) rfl rfl rfl (by omega) (fun hz_50 => ?_) (fun hz_50 => ?_)
              · skip
                refine jv_iload (pc' := 119) (k := 4) (x := (iI (c (a1)))) rfl rfl rfl ?_
                refine jv_bipush (pc' := 121) (n := 40) rfl rfl rfl ?_
                refine jv_ic_ne (t := 145) (pc' := 124) (a := (c (a1))) (b := 40) rfl rfl rfl (by omega) (fun hz_51 => ?_) (fun hz_51 => ?_)
                · skip
                  refine jv_iload (pc' := 147) (k := 4) (x := (iI (c (a1)))) rfl rfl rfl ?_
                  refine jv_bipush (pc' := 149) (n := 38) rfl rfl rfl ?_
                  refine jv_ic_ne (t := 165) (pc' := 152) (a := (c (a1))) (b := 38) rfl rfl rfl (by omega) (fun hz_52 => ?_) (fun hz_52 => ?_)
                  · skip
                    refine jv_iload (pc' := 167) (k := 4) (x := (iI (c (a1)))) rfl rfl rfl ?_
                    refine jv_bipush (pc' := 169) (n := 124) rfl rfl rfl ?_
                    refine jv_ic_ne (t := 221) (pc' := 172) (a := (c (a1))) (b := 124) rfl rfl rfl (by omega) (fun hz_53 => ?_) (fun hz_53 => ?_)
                    · skip
                      refine jv_iload (pc' := 223) (k := 4) (x := (iI (c (a1)))) rfl rfl rfl ?_
                      refine jv_bipush (pc' := 225) (n := 41) rfl rfl rfl ?_
                      refine jv_ic_ne (t := 276) (pc' := 228) (a := (c (a1))) (b := 41) rfl rfl rfl (by omega) (fun hz_54 => ?_) (fun hz_54 => ?_)
                      · skip
                        exfalso; omega
                      · skip
                        exfalso; omega
                    · skip
                      refine jv_aload_n (pc' := 173) (k := 0) (x := 103) rfl rfl rfl hf0 ?_
                      refine jv_getR (pc' := 176) (c := 12) (k := 41) (v := 130) rfl rfl rfl (fun _ _ => rfl) rfl rfl (jR_103_41 _) ?_
                      refine jv_iload_n (pc' := 177) (k := 3) (x := (iI ((r.length : Nat) : Int))) rfl rfl rfl hf3 ?_
                      refine jv_aload_n (pc' := 178) (k := 0) (x := 103) rfl rfl rfl hf0 ?_
                      refine jv_getR (pc' := 181) (c := 12) (k := 41) (v := 130) rfl rfl rfl (fun _ _ => rfl) rfl rfl (jR_103_41 _) ?_
                      refine jv_iload_n (pc' := 182) (k := 3) (x := (iI ((r.length : Nat) : Int))) rfl rfl rfl hf3 ?_
                      refine jv_baload (pc' := 183) (n := 10) (e := ((r.length : Nat) : Int)) (v := (iI 0)) rfl rfl rfl rfl rfl (by omega) hK.1.1 ?_
                      refine jv_if_ne (t := 195) (pc' := 186) (a := 0) rfl rfl rfl (by omega) (fun hz_55 => ?_) (fun hz_55 => ?_)
                      · skip
                        exact absurd hz_55 (by decide)
                      · skip
                        refine jv_aload_n (pc' := 187) (k := 0) (x := 103) rfl rfl rfl hf0 ?_
                        refine jv_getR (pc' := 190) (c := 12) (k := 42) (v := 131) rfl rfl rfl (fun _ _ => rfl) rfl rfl (jR_103_42 _) ?_
                        refine jv_iload_n (pc' := 191) (k := 3) (x := (iI ((r.length : Nat) : Int))) rfl rfl rfl hf3 ?_
                        refine jv_baload (pc' := 192) (n := 10) (e := ((r.length : Nat) : Int)) (v := (iI 0)) rfl rfl rfl rfl rfl (by omega) hK.1.2.1 ?_
                        refine jv_if_eq (t := 199) (pc' := 195) (a := 0) rfl rfl rfl (by omega) (fun hz_56 => ?_) (fun hz_56 => ?_)
                        · skip
                          refine jv_iconst (pc' := 200) (n := 0) rfl rfl ?_
                          refine jv_bastore (pc' := 201) (n := 10) (e := ((r.length : Nat) : Int)) (v := (iI 0)) rfl rfl rfl rfl rfl (by omega) (by first | exact Or.inl rfl | exact Or.inr rfl) ?_
                          refine jv_aload_n (pc' := 202) (k := 0) (x := 103) rfl rfl rfl hf0 ?_
                          refine jv_getR (pc' := 205) (c := 12) (k := 42) (v := 131) rfl rfl rfl (fun _ _ => rfl) rfl rfl (jR_103_42 _) ?_
                          refine jv_iload_n (pc' := 206) (k := 3) (x := (iI ((r.length : Nat) : Int))) rfl rfl rfl hf3 ?_
                          refine jv_iconst (pc' := 207) (n := 1) rfl rfl ?_
                          refine jv_bastore (pc' := 208) (n := 10) (e := ((r.length : Nat) : Int)) (v := (iI 1)) rfl rfl rfl rfl rfl (by omega) (by first | exact Or.inl rfl | exact Or.inr rfl) ?_
                          refine jv_aload_n (pc' := 209) (k := 0) (x := 103) rfl rfl rfl hf0 ?_
                          refine jx_step (pc' := 210) rfl ?_
                          refine jv_getI (pc' := 213) (c := 12) (k := 19) (v := (iI ((a1 : Nat) : Int))) rfl rfl rfl (fun _ _ => rfl) rfl rfl ha ?_
                          refine jv_iconst (pc' := 214) (n := 1) rfl rfl ?_
                          refine jv_iadd (pc' := 215) (a := ((a1 : Nat) : Int)) (b := 1) rfl rfl ?_
                          refine jv_putI (pc' := 218) (c := 12) (k := 19) rfl rfl rfl rfl (fun _ _ _  => rfl) rfl rfl ?_
                          refine jx_step (pc' := 285) rfl ?_
                          refine jx_step (pc' := 60) rfl ?_
                          exact ih k1 (a1 + 1) r.length ((false, true, t) :: r) (jm_u (jm_u (jm_u I1 130 (((r.length : Nat) : Int) : Int).toNat (iI 0)) 131 (((r.length : Nat) : Int) : Int).toNat (iI 1)) 103 19 (iI (((a1 : Nat) : Int) + 1))) (by omega) (fr_u (by simp [wV]) (fr_u (by simp [wV]) (fr_u (by simp [wV]) hf))) rfl (⟨⟨(jm_u_n2 (by omega)).trans ((jm_u_n2 (by omega)).trans (jm_u_eq ⟨rfl, rfl⟩)), (jm_u_n2 (by omega)).trans (jm_u_eq ⟨rfl, rfl⟩), (jm_u_n2 (by omega)).trans ((jm_u_n2 (by omega)).trans ((jm_u_n2 (by omega)).trans hK.1.2.2))⟩, VQ_c hK.2 (fun i hi => ⟨(jm_u_n2 (by omega)).trans ((jm_u_n2 (by omega)).trans (jm_u_n2 (by omega))), (jm_u_n2 (by omega)).trans ((jm_u_n2 (by omega)).trans (jm_u_n2 (by omega))), (jm_u_n2 (by omega)).trans ((jm_u_n2 (by omega)).trans (jm_u_n2 (by omega)))⟩)⟩) (by first | rfl | (simp; omega)) hR _ hf0 hf1 hf2 hf3 
                        · skip
                          exact absurd hz_56 (by decide)
                  · skip
                    exfalso; omega
                · skip
                  exfalso; omega
              · skip
                exfalso; omega
          · skip
            refine jv_getI (pc' := 64) (c := 12) (k := 19) (v := (iI ((a1 : Nat) : Int))) rfl rfl rfl (fun _ _ => rfl) rfl rfl ha ?_
            refine jv_aload_n (pc' := 65) (k := 0) (x := 103) rfl rfl rfl hf0 ?_
            refine jv_getI (pc' := 68) (c := 12) (k := 18) (v := (iI (n : Int))) rfl rfl rfl (fun _ _ => rfl) rfl rfl T1.1 ?_
            refine jv_ic_ge (t := 288) (pc' := 71) (a := ((a1 : Nat) : Int)) (b := (n : Int)) rfl rfl rfl (by omega) (fun hz_57 => ?_) (fun hz_57 => ?_)
            · skip
              exfalso; omega
            · skip
              refine jv_aload_n (pc' := 72) (k := 0) (x := 103) rfl rfl rfl hf0 ?_
              have hm58 := MT_c T1 (a1)
              have ho58 := MT_or T1 (a1)
              refine jv_call (pc' := 75) rfl (ml_here (I := I1) (a := a1) T1 ha (by omega)) (fun vq59 gq59 q59 => ?_)
              obtain ⟨rfl, rfl⟩ := q59
              show jx L xs _ 159 75 _ [.int (iI (c (a1)))] _ _
              refine jv_istore (pc' := 77) (k := 4) (x := (iI (c (a1)))) rfl rfl rfl (Or.inr (congrArg jm_lng hf3)) ?_
              refine jv_iload (pc' := 79) (k := 4) (x := (iI (c (a1)))) rfl rfl rfl ?_
              refine jv_bipush (pc' := 81) (n := 33) rfl rfl rfl ?_
              refine jv_ic_ne (t := 117) (pc' := 84) (a := (c (a1))) (b := 33) rfl rfl rfl (by omega) (fun hz_60 => ?_) (fun hz_60 => ?_)
              · skip
                refine jv_iload (pc' := 119) (k := 4) (x := (iI (c (a1)))) rfl rfl rfl ?_
                refine jv_bipush (pc' := 121) (n := 40) rfl rfl rfl ?_
                refine jv_ic_ne (t := 145) (pc' := 124) (a := (c (a1))) (b := 40) rfl rfl rfl (by omega) (fun hz_61 => ?_) (fun hz_61 => ?_)
                · skip
                  refine jv_iload (pc' := 147) (k := 4) (x := (iI (c (a1)))) rfl rfl rfl ?_
                  refine jv_bipush (pc' := 149) (n := 38) rfl rfl rfl ?_
                  refine jv_ic_ne (t := 165) (pc' := 152) (a := (c (a1))) (b := 38) rfl rfl rfl (by omega) (fun hz_62 => ?_) (fun hz_62 => ?_)
                  · skip
                    refine jv_iload (pc' := 167) (k := 4) (x := (iI (c (a1)))) rfl rfl rfl ?_
                    refine jv_bipush (pc' := 169) (n := 124) rfl rfl rfl ?_
                    refine jv_ic_ne (t := 221) (pc' := 172) (a := (c (a1))) (b := 124) rfl rfl rfl (by omega) (fun hz_63 => ?_) (fun hz_63 => ?_)
                    · skip
                      refine jv_iload (pc' := 223) (k := 4) (x := (iI (c (a1)))) rfl rfl rfl ?_
                      refine jv_bipush (pc' := 225) (n := 41) rfl rfl rfl ?_
                      refine jv_ic_ne (t := 276) (pc' := 228) (a := (c (a1))) (b := 41) rfl rfl rfl (by omega) (fun hz_64 => ?_) (fun hz_64 => ?_)
                      · skip
                        exfalso; omega
                      · skip
                        exfalso; omega
                    · skip
                      refine jv_aload_n (pc' := 173) (k := 0) (x := 103) rfl rfl rfl hf0 ?_
                      refine jv_getR (pc' := 176) (c := 12) (k := 41) (v := 130) rfl rfl rfl (fun _ _ => rfl) rfl rfl (jR_103_41 _) ?_
                      refine jv_iload_n (pc' := 177) (k := 3) (x := (iI ((r.length : Nat) : Int))) rfl rfl rfl hf3 ?_
                      refine jv_aload_n (pc' := 178) (k := 0) (x := 103) rfl rfl rfl hf0 ?_
                      refine jv_getR (pc' := 181) (c := 12) (k := 41) (v := 130) rfl rfl rfl (fun _ _ => rfl) rfl rfl (jR_103_41 _) ?_
                      refine jv_iload_n (pc' := 182) (k := 3) (x := (iI ((r.length : Nat) : Int))) rfl rfl rfl hf3 ?_
                      refine jv_baload (pc' := 183) (n := 10) (e := ((r.length : Nat) : Int)) (v := (iI 0)) rfl rfl rfl rfl rfl (by omega) hK.1.1 ?_
                      refine jv_if_ne (t := 195) (pc' := 186) (a := 0) rfl rfl rfl (by omega) (fun hz_65 => ?_) (fun hz_65 => ?_)
                      · skip
                        exact absurd hz_65 (by decide)
                      · skip
                        refine jv_aload_n (pc' := 187) (k := 0) (x := 103) rfl rfl rfl hf0 ?_
                        refine jv_getR (pc' := 190) (c := 12) (k := 42) (v := 131) rfl rfl rfl (fun _ _ => rfl) rfl rfl (jR_103_42 _) ?_
                        refine jv_iload_n (pc' := 191) (k := 3) (x := (iI ((r.length : Nat) : Int))) rfl rfl rfl hf3 ?_
                        refine jv_baload (pc' := 192) (n := 10) (e := ((r.length : Nat) : Int)) (v := (iI 1)) rfl rfl rfl rfl rfl (by omega) hK.1.2.1 ?_
                        refine jv_if_eq (t := 199) (pc' := 195) (a := 1) rfl rfl rfl (by omega) (fun hz_66 => ?_) (fun hz_66 => ?_)
                        · skip
                          exact absurd hz_66 (by decide)
                        · skip
                          refine jv_iconst (pc' := 196) (n := 1) rfl rfl ?_
                          refine jx_step (pc' := 200) rfl ?_
                          refine jv_bastore (pc' := 201) (n := 10) (e := ((r.length : Nat) : Int)) (v := (iI 1)) rfl rfl rfl rfl rfl (by omega) (by first | exact Or.inl rfl | exact Or.inr rfl) ?_
                          refine jv_aload_n (pc' := 202) (k := 0) (x := 103) rfl rfl rfl hf0 ?_
                          refine jv_getR (pc' := 205) (c := 12) (k := 42) (v := 131) rfl rfl rfl (fun _ _ => rfl) rfl rfl (jR_103_42 _) ?_
                          refine jv_iload_n (pc' := 206) (k := 3) (x := (iI ((r.length : Nat) : Int))) rfl rfl rfl hf3 ?_
                          refine jv_iconst (pc' := 207) (n := 1) rfl rfl ?_
                          refine jv_bastore (pc' := 208) (n := 10) (e := ((r.length : Nat) : Int)) (v := (iI 1)) rfl rfl rfl rfl rfl (by omega) (by first | exact Or.inl rfl | exact Or.inr rfl) ?_
                          refine jv_aload_n (pc' := 209) (k := 0) (x := 103) rfl rfl rfl hf0 ?_
                          refine jx_step (pc' := 210) rfl ?_
                          refine jv_getI (pc' := 213) (c := 12) (k := 19) (v := (iI ((a1 : Nat) : Int))) rfl rfl rfl (fun _ _ => rfl) rfl rfl ha ?_
                          refine jv_iconst (pc' := 214) (n := 1) rfl rfl ?_
                          refine jv_iadd (pc' := 215) (a := ((a1 : Nat) : Int)) (b := 1) rfl rfl ?_
                          refine jv_putI (pc' := 218) (c := 12) (k := 19) rfl rfl rfl rfl (fun _ _ _  => rfl) rfl rfl ?_
                          refine jx_step (pc' := 285) rfl ?_
                          refine jx_step (pc' := 60) rfl ?_
                          exact ih k1 (a1 + 1) r.length ((true, true, t) :: r) (jm_u (jm_u (jm_u I1 130 (((r.length : Nat) : Int) : Int).toNat (iI 1)) 131 (((r.length : Nat) : Int) : Int).toNat (iI 1)) 103 19 (iI (((a1 : Nat) : Int) + 1))) (by omega) (fr_u (by simp [wV]) (fr_u (by simp [wV]) (fr_u (by simp [wV]) hf))) rfl (⟨⟨(jm_u_n2 (by omega)).trans ((jm_u_n2 (by omega)).trans (jm_u_eq ⟨rfl, rfl⟩)), (jm_u_n2 (by omega)).trans (jm_u_eq ⟨rfl, rfl⟩), (jm_u_n2 (by omega)).trans ((jm_u_n2 (by omega)).trans ((jm_u_n2 (by omega)).trans hK.1.2.2))⟩, VQ_c hK.2 (fun i hi => ⟨(jm_u_n2 (by omega)).trans ((jm_u_n2 (by omega)).trans (jm_u_n2 (by omega))), (jm_u_n2 (by omega)).trans ((jm_u_n2 (by omega)).trans (jm_u_n2 (by omega))), (jm_u_n2 (by omega)).trans ((jm_u_n2 (by omega)).trans (jm_u_n2 (by omega)))⟩)⟩) (by first | rfl | (simp; omega)) hR _ hf0 hf1 hf2 hf3 
                  · skip
                    exfalso; omega
                · skip
                  exfalso; omega
              · skip
                exfalso; omega
          · skip
            refine jv_getI (pc' := 64) (c := 12) (k := 19) (v := (iI ((a1 : Nat) : Int))) rfl rfl rfl (fun _ _ => rfl) rfl rfl ha ?_
            refine jv_aload_n (pc' := 65) (k := 0) (x := 103) rfl rfl rfl hf0 ?_
            refine jv_getI (pc' := 68) (c := 12) (k := 18) (v := (iI (n : Int))) rfl rfl rfl (fun _ _ => rfl) rfl rfl T1.1 ?_
            refine jv_ic_ge (t := 288) (pc' := 71) (a := ((a1 : Nat) : Int)) (b := (n : Int)) rfl rfl rfl (by omega) (fun hz_67 => ?_) (fun hz_67 => ?_)
            · skip
              exfalso; omega
            · skip
              refine jv_aload_n (pc' := 72) (k := 0) (x := 103) rfl rfl rfl hf0 ?_
              have hm68 := MT_c T1 (a1)
              have ho68 := MT_or T1 (a1)
              refine jv_call (pc' := 75) rfl (ml_here (I := I1) (a := a1) T1 ha (by omega)) (fun vq69 gq69 q69 => ?_)
              obtain ⟨rfl, rfl⟩ := q69
              show jx L xs _ 159 75 _ [.int (iI (c (a1)))] _ _
              refine jv_istore (pc' := 77) (k := 4) (x := (iI (c (a1)))) rfl rfl rfl (Or.inr (congrArg jm_lng hf3)) ?_
              refine jv_iload (pc' := 79) (k := 4) (x := (iI (c (a1)))) rfl rfl rfl ?_
              refine jv_bipush (pc' := 81) (n := 33) rfl rfl rfl ?_
              refine jv_ic_ne (t := 117) (pc' := 84) (a := (c (a1))) (b := 33) rfl rfl rfl (by omega) (fun hz_70 => ?_) (fun hz_70 => ?_)
              · skip
                refine jv_iload (pc' := 119) (k := 4) (x := (iI (c (a1)))) rfl rfl rfl ?_
                refine jv_bipush (pc' := 121) (n := 40) rfl rfl rfl ?_
                refine jv_ic_ne (t := 145) (pc' := 124) (a := (c (a1))) (b := 40) rfl rfl rfl (by omega) (fun hz_71 => ?_) (fun hz_71 => ?_)
                · skip
                  refine jv_iload (pc' := 147) (k := 4) (x := (iI (c (a1)))) rfl rfl rfl ?_
                  refine jv_bipush (pc' := 149) (n := 38) rfl rfl rfl ?_
                  refine jv_ic_ne (t := 165) (pc' := 152) (a := (c (a1))) (b := 38) rfl rfl rfl (by omega) (fun hz_72 => ?_) (fun hz_72 => ?_)
                  · skip
                    refine jv_iload (pc' := 167) (k := 4) (x := (iI (c (a1)))) rfl rfl rfl ?_
                    refine jv_bipush (pc' := 169) (n := 124) rfl rfl rfl ?_
                    refine jv_ic_ne (t := 221) (pc' := 172) (a := (c (a1))) (b := 124) rfl rfl rfl (by omega) (fun hz_73 => ?_) (fun hz_73 => ?_)
                    · skip
                      refine jv_iload (pc' := 223) (k := 4) (x := (iI (c (a1)))) rfl rfl rfl ?_
                      refine jv_bipush (pc' := 225) (n := 41) rfl rfl rfl ?_
                      refine jv_ic_ne (t := 276) (pc' := 228) (a := (c (a1))) (b := 41) rfl rfl rfl (by omega) (fun hz_74 => ?_) (fun hz_74 => ?_)
                      · skip
                        exfalso; omega
                      · skip
                        exfalso; omega
                    · skip
                      refine jv_aload_n (pc' := 173) (k := 0) (x := 103) rfl rfl rfl hf0 ?_
                      refine jv_getR (pc' := 176) (c := 12) (k := 41) (v := 130) rfl rfl rfl (fun _ _ => rfl) rfl rfl (jR_103_41 _) ?_
                      refine jv_iload_n (pc' := 177) (k := 3) (x := (iI ((r.length : Nat) : Int))) rfl rfl rfl hf3 ?_
                      refine jv_aload_n (pc' := 178) (k := 0) (x := 103) rfl rfl rfl hf0 ?_
                      refine jv_getR (pc' := 181) (c := 12) (k := 41) (v := 130) rfl rfl rfl (fun _ _ => rfl) rfl rfl (jR_103_41 _) ?_
                      refine jv_iload_n (pc' := 182) (k := 3) (x := (iI ((r.length : Nat) : Int))) rfl rfl rfl hf3 ?_
                      refine jv_baload (pc' := 183) (n := 10) (e := ((r.length : Nat) : Int)) (v := (iI 1)) rfl rfl rfl rfl rfl (by omega) hK.1.1 ?_
                      refine jv_if_ne (t := 195) (pc' := 186) (a := 1) rfl rfl rfl (by omega) (fun hz_75 => ?_) (fun hz_75 => ?_)
                      · skip
                        refine jv_iconst (pc' := 196) (n := 1) rfl rfl ?_
                        refine jx_step (pc' := 200) rfl ?_
                        refine jv_bastore (pc' := 201) (n := 10) (e := ((r.length : Nat) : Int)) (v := (iI 1)) rfl rfl rfl rfl rfl (by omega) (by first | exact Or.inl rfl | exact Or.inr rfl) ?_
                        refine jv_aload_n (pc' := 202) (k := 0) (x := 103) rfl rfl rfl hf0 ?_
                        refine jv_getR (pc' := 205) (c := 12) (k := 42) (v := 131) rfl rfl rfl (fun _ _ => rfl) rfl rfl (jR_103_42 _) ?_
                        refine jv_iload_n (pc' := 206) (k := 3) (x := (iI ((r.length : Nat) : Int))) rfl rfl rfl hf3 ?_
                        refine jv_iconst (pc' := 207) (n := 1) rfl rfl ?_
                        refine jv_bastore (pc' := 208) (n := 10) (e := ((r.length : Nat) : Int)) (v := (iI 1)) rfl rfl rfl rfl rfl (by omega) (by first | exact Or.inl rfl | exact Or.inr rfl) ?_
                        refine jv_aload_n (pc' := 209) (k := 0) (x := 103) rfl rfl rfl hf0 ?_
                        refine jx_step (pc' := 210) rfl ?_
                        refine jv_getI (pc' := 213) (c := 12) (k := 19) (v := (iI ((a1 : Nat) : Int))) rfl rfl rfl (fun _ _ => rfl) rfl rfl ha ?_
                        refine jv_iconst (pc' := 214) (n := 1) rfl rfl ?_
                        refine jv_iadd (pc' := 215) (a := ((a1 : Nat) : Int)) (b := 1) rfl rfl ?_
                        refine jv_putI (pc' := 218) (c := 12) (k := 19) rfl rfl rfl rfl (fun _ _ _  => rfl) rfl rfl ?_
                        refine jx_step (pc' := 285) rfl ?_
                        refine jx_step (pc' := 60) rfl ?_
                        exact ih k1 (a1 + 1) r.length ((true, true, t) :: r) (jm_u (jm_u (jm_u I1 130 (((r.length : Nat) : Int) : Int).toNat (iI 1)) 131 (((r.length : Nat) : Int) : Int).toNat (iI 1)) 103 19 (iI (((a1 : Nat) : Int) + 1))) (by omega) (fr_u (by simp [wV]) (fr_u (by simp [wV]) (fr_u (by simp [wV]) hf))) rfl (⟨⟨(jm_u_n2 (by omega)).trans ((jm_u_n2 (by omega)).trans (jm_u_eq ⟨rfl, rfl⟩)), (jm_u_n2 (by omega)).trans (jm_u_eq ⟨rfl, rfl⟩), (jm_u_n2 (by omega)).trans ((jm_u_n2 (by omega)).trans ((jm_u_n2 (by omega)).trans hK.1.2.2))⟩, VQ_c hK.2 (fun i hi => ⟨(jm_u_n2 (by omega)).trans ((jm_u_n2 (by omega)).trans (jm_u_n2 (by omega))), (jm_u_n2 (by omega)).trans ((jm_u_n2 (by omega)).trans (jm_u_n2 (by omega))), (jm_u_n2 (by omega)).trans ((jm_u_n2 (by omega)).trans (jm_u_n2 (by omega)))⟩)⟩) (by first | rfl | (simp; omega)) hR _ hf0 hf1 hf2 hf3 
                      · skip
                        exact absurd hz_75 (by decide)
                  · skip
                    exfalso; omega
                · skip
                  exfalso; omega
              · skip
                exfalso; omega
          · skip
            refine jv_getI (pc' := 64) (c := 12) (k := 19) (v := (iI ((a1 : Nat) : Int))) rfl rfl rfl (fun _ _ => rfl) rfl rfl ha ?_
            refine jv_aload_n (pc' := 65) (k := 0) (x := 103) rfl rfl rfl hf0 ?_
            refine jv_getI (pc' := 68) (c := 12) (k := 18) (v := (iI (n : Int))) rfl rfl rfl (fun _ _ => rfl) rfl rfl T1.1 ?_
            refine jv_ic_ge (t := 288) (pc' := 71) (a := ((a1 : Nat) : Int)) (b := (n : Int)) rfl rfl rfl (by omega) (fun hz_76 => ?_) (fun hz_76 => ?_)
            · skip
              exfalso; omega
            · skip
              refine jv_aload_n (pc' := 72) (k := 0) (x := 103) rfl rfl rfl hf0 ?_
              have hm77 := MT_c T1 (a1)
              have ho77 := MT_or T1 (a1)
              refine jv_call (pc' := 75) rfl (ml_here (I := I1) (a := a1) T1 ha (by omega)) (fun vq78 gq78 q78 => ?_)
              obtain ⟨rfl, rfl⟩ := q78
              show jx L xs _ 159 75 _ [.int (iI (c (a1)))] _ _
              refine jv_istore (pc' := 77) (k := 4) (x := (iI (c (a1)))) rfl rfl rfl (Or.inr (congrArg jm_lng hf3)) ?_
              refine jv_iload (pc' := 79) (k := 4) (x := (iI (c (a1)))) rfl rfl rfl ?_
              refine jv_bipush (pc' := 81) (n := 33) rfl rfl rfl ?_
              refine jv_ic_ne (t := 117) (pc' := 84) (a := (c (a1))) (b := 33) rfl rfl rfl (by omega) (fun hz_79 => ?_) (fun hz_79 => ?_)
              · skip
                refine jv_iload (pc' := 119) (k := 4) (x := (iI (c (a1)))) rfl rfl rfl ?_
                refine jv_bipush (pc' := 121) (n := 40) rfl rfl rfl ?_
                refine jv_ic_ne (t := 145) (pc' := 124) (a := (c (a1))) (b := 40) rfl rfl rfl (by omega) (fun hz_80 => ?_) (fun hz_80 => ?_)
                · skip
                  refine jv_iload (pc' := 147) (k := 4) (x := (iI (c (a1)))) rfl rfl rfl ?_
                  refine jv_bipush (pc' := 149) (n := 38) rfl rfl rfl ?_
                  refine jv_ic_ne (t := 165) (pc' := 152) (a := (c (a1))) (b := 38) rfl rfl rfl (by omega) (fun hz_81 => ?_) (fun hz_81 => ?_)
                  · skip
                    refine jv_iload (pc' := 167) (k := 4) (x := (iI (c (a1)))) rfl rfl rfl ?_
                    refine jv_bipush (pc' := 169) (n := 124) rfl rfl rfl ?_
                    refine jv_ic_ne (t := 221) (pc' := 172) (a := (c (a1))) (b := 124) rfl rfl rfl (by omega) (fun hz_82 => ?_) (fun hz_82 => ?_)
                    · skip
                      refine jv_iload (pc' := 223) (k := 4) (x := (iI (c (a1)))) rfl rfl rfl ?_
                      refine jv_bipush (pc' := 225) (n := 41) rfl rfl rfl ?_
                      refine jv_ic_ne (t := 276) (pc' := 228) (a := (c (a1))) (b := 41) rfl rfl rfl (by omega) (fun hz_83 => ?_) (fun hz_83 => ?_)
                      · skip
                        exfalso; omega
                      · skip
                        exfalso; omega
                    · skip
                      refine jv_aload_n (pc' := 173) (k := 0) (x := 103) rfl rfl rfl hf0 ?_
                      refine jv_getR (pc' := 176) (c := 12) (k := 41) (v := 130) rfl rfl rfl (fun _ _ => rfl) rfl rfl (jR_103_41 _) ?_
                      refine jv_iload_n (pc' := 177) (k := 3) (x := (iI ((r.length : Nat) : Int))) rfl rfl rfl hf3 ?_
                      refine jv_aload_n (pc' := 178) (k := 0) (x := 103) rfl rfl rfl hf0 ?_
                      refine jv_getR (pc' := 181) (c := 12) (k := 41) (v := 130) rfl rfl rfl (fun _ _ => rfl) rfl rfl (jR_103_41 _) ?_
                      refine jv_iload_n (pc' := 182) (k := 3) (x := (iI ((r.length : Nat) : Int))) rfl rfl rfl hf3 ?_
                      refine jv_baload (pc' := 183) (n := 10) (e := ((r.length : Nat) : Int)) (v := (iI 1)) rfl rfl rfl rfl rfl (by omega) hK.1.1 ?_
                      refine jv_if_ne (t := 195) (pc' := 186) (a := 1) rfl rfl rfl (by omega) (fun hz_84 => ?_) (fun hz_84 => ?_)
                      · skip
                        refine jv_iconst (pc' := 196) (n := 1) rfl rfl ?_
                        refine jx_step (pc' := 200) rfl ?_
                        refine jv_bastore (pc' := 201) (n := 10) (e := ((r.length : Nat) : Int)) (v := (iI 1)) rfl rfl rfl rfl rfl (by omega) (by first | exact Or.inl rfl | exact Or.inr rfl) ?_
                        refine jv_aload_n (pc' := 202) (k := 0) (x := 103) rfl rfl rfl hf0 ?_
                        refine jv_getR (pc' := 205) (c := 12) (k := 42) (v := 131) rfl rfl rfl (fun _ _ => rfl) rfl rfl (jR_103_42 _) ?_
                        refine jv_iload_n (pc' := 206) (k := 3) (x := (iI ((r.length : Nat) : Int))) rfl rfl rfl hf3 ?_
                        refine jv_iconst (pc' := 207) (n := 1) rfl rfl ?_
                        refine jv_bastore (pc' := 208) (n := 10) (e := ((r.length : Nat) : Int)) (v := (iI 1)) rfl rfl rfl rfl rfl (by omega) (by first | exact Or.inl rfl | exact Or.inr rfl) ?_
                        refine jv_aload_n (pc' := 209) (k := 0) (x := 103) rfl rfl rfl hf0 ?_
                        refine jx_step (pc' := 210) rfl ?_
                        refine jv_getI (pc' := 213) (c := 12) (k := 19) (v := (iI ((a1 : Nat) : Int))) rfl rfl rfl (fun _ _ => rfl) rfl rfl ha ?_
                        refine jv_iconst (pc' := 214) (n := 1) rfl rfl ?_
                        refine jv_iadd (pc' := 215) (a := ((a1 : Nat) : Int)) (b := 1) rfl rfl ?_
                        refine jv_putI (pc' := 218) (c := 12) (k := 19) rfl rfl rfl rfl (fun _ _ _  => rfl) rfl rfl ?_
                        refine jx_step (pc' := 285) rfl ?_
                        refine jx_step (pc' := 60) rfl ?_
                        exact ih k1 (a1 + 1) r.length ((true, true, t) :: r) (jm_u (jm_u (jm_u I1 130 (((r.length : Nat) : Int) : Int).toNat (iI 1)) 131 (((r.length : Nat) : Int) : Int).toNat (iI 1)) 103 19 (iI (((a1 : Nat) : Int) + 1))) (by omega) (fr_u (by simp [wV]) (fr_u (by simp [wV]) (fr_u (by simp [wV]) hf))) rfl (⟨⟨(jm_u_n2 (by omega)).trans ((jm_u_n2 (by omega)).trans (jm_u_eq ⟨rfl, rfl⟩)), (jm_u_n2 (by omega)).trans (jm_u_eq ⟨rfl, rfl⟩), (jm_u_n2 (by omega)).trans ((jm_u_n2 (by omega)).trans ((jm_u_n2 (by omega)).trans hK.1.2.2))⟩, VQ_c hK.2 (fun i hi => ⟨(jm_u_n2 (by omega)).trans ((jm_u_n2 (by omega)).trans (jm_u_n2 (by omega))), (jm_u_n2 (by omega)).trans ((jm_u_n2 (by omega)).trans (jm_u_n2 (by omega))), (jm_u_n2 (by omega)).trans ((jm_u_n2 (by omega)).trans (jm_u_n2 (by omega)))⟩)⟩) (by first | rfl | (simp; omega)) hR _ hf0 hf1 hf2 hf3 
                      · skip
                        exact absurd hz_84 (by decide)
                  · skip
                    exfalso; omega
                · skip
                  exfalso; omega
              · skip
                exfalso; omega
        · subst ea; subst er; subst ek
          have hlen2 : r2.length + 2 ≤ 9 := hlen
          rcases y with _ | _ <;> rcases l with _ | _
          · skip
            refine jv_getI (pc' := 64) (c := 12) (k := 19) (v := (iI ((a1 : Nat) : Int))) rfl rfl rfl (fun _ _ => rfl) rfl rfl ha ?_
            refine jv_aload_n (pc' := 65) (k := 0) (x := 103) rfl rfl rfl hf0 ?_
            refine jv_getI (pc' := 68) (c := 12) (k := 18) (v := (iI (n : Int))) rfl rfl rfl (fun _ _ => rfl) rfl rfl T1.1 ?_
            refine jv_ic_ge (t := 288) (pc' := 71) (a := ((a1 : Nat) : Int)) (b := (n : Int)) rfl rfl rfl (by omega) (fun hz_85 => ?_) (fun hz_85 => ?_)
            · skip
              exfalso; omega
            · skip
              refine jv_aload_n (pc' := 72) (k := 0) (x := 103) rfl rfl rfl hf0 ?_
              have hm86 := MT_c T1 (a1)
              have ho86 := MT_or T1 (a1)
              refine jv_call (pc' := 75) rfl (ml_here (I := I1) (a := a1) T1 ha (by omega)) (fun vq87 gq87 q87 => ?_)
              obtain ⟨rfl, rfl⟩ := q87
              show jx L xs _ 159 75 _ [.int (iI (c (a1)))] _ _
              refine jv_istore (pc' := 77) (k := 4) (x := (iI (c (a1)))) rfl rfl rfl (Or.inr (congrArg jm_lng hf3)) ?_
              refine jv_iload (pc' := 79) (k := 4) (x := (iI (c (a1)))) rfl rfl rfl ?_
              refine jv_bipush (pc' := 81) (n := 33) rfl rfl rfl ?_
              refine jv_ic_ne (t := 117) (pc' := 84) (a := (c (a1))) (b := 33) rfl rfl rfl (by omega) (fun hz_88 => ?_) (fun hz_88 => ?_)
              · skip
                refine jv_iload (pc' := 119) (k := 4) (x := (iI (c (a1)))) rfl rfl rfl ?_
                refine jv_bipush (pc' := 121) (n := 40) rfl rfl rfl ?_
                refine jv_ic_ne (t := 145) (pc' := 124) (a := (c (a1))) (b := 40) rfl rfl rfl (by omega) (fun hz_89 => ?_) (fun hz_89 => ?_)
                · skip
                  refine jv_iload (pc' := 147) (k := 4) (x := (iI (c (a1)))) rfl rfl rfl ?_
                  refine jv_bipush (pc' := 149) (n := 38) rfl rfl rfl ?_
                  refine jv_ic_ne (t := 165) (pc' := 152) (a := (c (a1))) (b := 38) rfl rfl rfl (by omega) (fun hz_90 => ?_) (fun hz_90 => ?_)
                  · skip
                    refine jv_iload (pc' := 167) (k := 4) (x := (iI (c (a1)))) rfl rfl rfl ?_
                    refine jv_bipush (pc' := 169) (n := 124) rfl rfl rfl ?_
                    refine jv_ic_ne (t := 221) (pc' := 172) (a := (c (a1))) (b := 124) rfl rfl rfl (by omega) (fun hz_91 => ?_) (fun hz_91 => ?_)
                    · skip
                      refine jv_iload (pc' := 223) (k := 4) (x := (iI (c (a1)))) rfl rfl rfl ?_
                      refine jv_bipush (pc' := 225) (n := 41) rfl rfl rfl ?_
                      refine jv_ic_ne (t := 276) (pc' := 228) (a := (c (a1))) (b := 41) rfl rfl rfl (by omega) (fun hz_92 => ?_) (fun hz_92 => ?_)
                      · skip
                        exfalso; omega
                      · skip
                        refine jv_aload_n (pc' := 229) (k := 0) (x := 103) rfl rfl rfl hf0 ?_
                        refine jv_getR (pc' := 232) (c := 12) (k := 41) (v := 130) rfl rfl rfl (fun _ _ => rfl) rfl rfl (jR_103_41 _) ?_
                        refine jv_iload_n (pc' := 233) (k := 3) (x := (iI ((r2.length + 1 : Nat) : Int))) rfl rfl rfl hf3 ?_
                        refine jv_baload (pc' := 234) (n := 10) (e := ((r2.length + 1 : Nat) : Int)) (v := (iI 0)) rfl rfl rfl rfl rfl (by omega) hK.1.1 ?_
                        refine jv_if_ne (t := 246) (pc' := 237) (a := 0) rfl rfl rfl (by omega) (fun hz_93 => ?_) (fun hz_93 => ?_)
                        · skip
                          exact absurd hz_93 (by decide)
                        · skip
                          refine jv_aload_n (pc' := 238) (k := 0) (x := 103) rfl rfl rfl hf0 ?_
                          refine jv_getR (pc' := 241) (c := 12) (k := 42) (v := 131) rfl rfl rfl (fun _ _ => rfl) rfl rfl (jR_103_42 _) ?_
                          refine jv_iload_n (pc' := 242) (k := 3) (x := (iI ((r2.length + 1 : Nat) : Int))) rfl rfl rfl hf3 ?_
                          refine jv_baload (pc' := 243) (n := 10) (e := ((r2.length + 1 : Nat) : Int)) (v := (iI 0)) rfl rfl rfl rfl rfl (by omega) hK.1.2.1 ?_
                          refine jv_if_eq (t := 250) (pc' := 246) (a := 0) rfl rfl rfl (by omega) (fun hz_94 => ?_) (fun hz_94 => ?_)
                          · skip
                            refine jv_iconst (pc' := 251) (n := 0) rfl rfl ?_
                            refine jv_istore (pc' := 253) (k := 5) (x := (iI 0)) rfl rfl rfl (Or.inr rfl) ?_
                            refine jv_iinc (pc' := 256) (k := 3) (a := ((r2.length + 1 : Nat) : Int)) rfl rfl hf3 rfl (Or.inr (congrArg jm_lng hf2)) ?_
                            refine jv_aload_n (pc' := 257) (k := 0) (x := 103) rfl rfl rfl hf0 ?_
                            refine jv_iload_n (pc' := 258) (k := 3) (x := (iI (((r2.length + 1 : Nat) : Int) + (-1)))) rfl rfl rfl rfl ?_
                            refine jv_iload (pc' := 260) (k := 5) (x := (iI 0)) rfl rfl rfl ?_
                            rw [show ((r2.length + 1 : Nat) : Int) + (-1) = ((r2.length : Nat) : Int) by omega]
                            refine jv_call (pc' := 263) rfl (ml_factor (I := I1) (q := r2.length) (l := l2) (t := t2) (b := false) (by omega) hK.2.1.2.1 hK.2.1.2.2) (fun vq95 gq95 q95 => ?_)
                            obtain ⟨rfl, rfl⟩ := q95
                            show jx L xs _ 159 263 _ [] _ _
                            refine jv_aload_n (pc' := 264) (k := 0) (x := 103) rfl rfl rfl hf0 ?_
                            refine jx_step (pc' := 265) rfl ?_
                            refine jv_getI (pc' := 268) (c := 12) (k := 19) (v := (iI ((a1 : Nat) : Int))) rfl rfl rfl (fun _ _ => rfl) rfl rfl ha ?_
                            refine jv_iconst (pc' := 269) (n := 1) rfl rfl ?_
                            refine jv_iadd (pc' := 270) (a := ((a1 : Nat) : Int)) (b := 1) rfl rfl ?_
                            refine jv_putI (pc' := 273) (c := 12) (k := 19) rfl rfl rfl rfl (fun _ _ _  => rfl) rfl rfl ?_
                            refine jx_step (pc' := 285) rfl ?_
                            refine jx_step (pc' := 60) rfl ?_
                            exact ih k1 (a1 + 1) r2.length ((y2, l2 && (false != t2), false) :: r2) (jm_u (jm_u (jm_u I1 131 r2.length (iI (ib (l2 && (false != t2))))) 132 r2.length (iI 0)) 103 19 (iI (((a1 : Nat) : Int) + 1))) (by omega) (fr_u (by simp [wV]) (fr_u (by simp [wV]) (fr_u (by simp [wV]) hf))) rfl (⟨⟨(jm_u_n2 (by omega)).trans ((jm_u_n2 (by omega)).trans ((jm_u_n2 (by omega)).trans hK.2.1.1)), (jm_u_n2 (by omega)).trans ((jm_u_n2 (by omega)).trans (jm_u_eq ⟨rfl, rfl⟩)), (jm_u_n2 (by omega)).trans (jm_u_eq ⟨rfl, rfl⟩)⟩, VQ_c hK.2.2 (fun i hi => ⟨(jm_u_n2 (by omega)).trans ((jm_u_n2 (by omega)).trans (jm_u_n2 (by omega))), (jm_u_n2 (by omega)).trans ((jm_u_n2 (by omega)).trans (jm_u_n2 (by omega))), (jm_u_n2 (by omega)).trans ((jm_u_n2 (by omega)).trans (jm_u_n2 (by omega)))⟩)⟩) (by first | rfl | (simp; omega)) hR _ hf0 hf1 hf2 rfl 
                          · skip
                            exact absurd hz_94 (by decide)
                    · skip
                      exfalso; omega
                  · skip
                    exfalso; omega
                · skip
                  exfalso; omega
              · skip
                exfalso; omega
          · skip
            refine jv_getI (pc' := 64) (c := 12) (k := 19) (v := (iI ((a1 : Nat) : Int))) rfl rfl rfl (fun _ _ => rfl) rfl rfl ha ?_
            refine jv_aload_n (pc' := 65) (k := 0) (x := 103) rfl rfl rfl hf0 ?_
            refine jv_getI (pc' := 68) (c := 12) (k := 18) (v := (iI (n : Int))) rfl rfl rfl (fun _ _ => rfl) rfl rfl T1.1 ?_
            refine jv_ic_ge (t := 288) (pc' := 71) (a := ((a1 : Nat) : Int)) (b := (n : Int)) rfl rfl rfl (by omega) (fun hz_96 => ?_) (fun hz_96 => ?_)
            · skip
              exfalso; omega
            · skip
              refine jv_aload_n (pc' := 72) (k := 0) (x := 103) rfl rfl rfl hf0 ?_
              have hm97 := MT_c T1 (a1)
              have ho97 := MT_or T1 (a1)
              refine jv_call (pc' := 75) rfl (ml_here (I := I1) (a := a1) T1 ha (by omega)) (fun vq98 gq98 q98 => ?_)
              obtain ⟨rfl, rfl⟩ := q98
              show jx L xs _ 159 75 _ [.int (iI (c (a1)))] _ _
              refine jv_istore (pc' := 77) (k := 4) (x := (iI (c (a1)))) rfl rfl rfl (Or.inr (congrArg jm_lng hf3)) ?_
              refine jv_iload (pc' := 79) (k := 4) (x := (iI (c (a1)))) rfl rfl rfl ?_
              refine jv_bipush (pc' := 81) (n := 33) rfl rfl rfl ?_
              refine jv_ic_ne (t := 117) (pc' := 84) (a := (c (a1))) (b := 33) rfl rfl rfl (by omega) (fun hz_99 => ?_) (fun hz_99 => ?_)
              · skip
                refine jv_iload (pc' := 119) (k := 4) (x := (iI (c (a1)))) rfl rfl rfl ?_
                refine jv_bipush (pc' := 121) (n := 40) rfl rfl rfl ?_
                refine jv_ic_ne (t := 145) (pc' := 124) (a := (c (a1))) (b := 40) rfl rfl rfl (by omega) (fun hz_100 => ?_) (fun hz_100 => ?_)
                · skip
                  refine jv_iload (pc' := 147) (k := 4) (x := (iI (c (a1)))) rfl rfl rfl ?_
                  refine jv_bipush (pc' := 149) (n := 38) rfl rfl rfl ?_
                  refine jv_ic_ne (t := 165) (pc' := 152) (a := (c (a1))) (b := 38) rfl rfl rfl (by omega) (fun hz_101 => ?_) (fun hz_101 => ?_)
                  · skip
                    refine jv_iload (pc' := 167) (k := 4) (x := (iI (c (a1)))) rfl rfl rfl ?_
                    refine jv_bipush (pc' := 169) (n := 124) rfl rfl rfl ?_
                    refine jv_ic_ne (t := 221) (pc' := 172) (a := (c (a1))) (b := 124) rfl rfl rfl (by omega) (fun hz_102 => ?_) (fun hz_102 => ?_)
                    · skip
                      refine jv_iload (pc' := 223) (k := 4) (x := (iI (c (a1)))) rfl rfl rfl ?_
                      refine jv_bipush (pc' := 225) (n := 41) rfl rfl rfl ?_
                      refine jv_ic_ne (t := 276) (pc' := 228) (a := (c (a1))) (b := 41) rfl rfl rfl (by omega) (fun hz_103 => ?_) (fun hz_103 => ?_)
                      · skip
                        exfalso; omega
                      · skip
                        refine jv_aload_n (pc' := 229) (k := 0) (x := 103) rfl rfl rfl hf0 ?_
                        refine jv_getR (pc' := 232) (c := 12) (k := 41) (v := 130) rfl rfl rfl (fun _ _ => rfl) rfl rfl (jR_103_41 _) ?_
                        refine jv_iload_n (pc' := 233) (k := 3) (x := (iI ((r2.length + 1 : Nat) : Int))) rfl rfl rfl hf3 ?_
                        refine jv_baload (pc' := 234) (n := 10) (e := ((r2.length + 1 : Nat) : Int)) (v := (iI 0)) rfl rfl rfl rfl rfl (by omega) hK.1.1 ?_
                        refine jv_if_ne (t := 246) (pc' := 237) (a := 0) rfl rfl rfl (by omega) (fun hz_104 => ?_) (fun hz_104 => ?_)
                        · skip
                          exact absurd hz_104 (by decide)
                        · skip
                          refine jv_aload_n (pc' := 238) (k := 0) (x := 103) rfl rfl rfl hf0 ?_
                          refine jv_getR (pc' := 241) (c := 12) (k := 42) (v := 131) rfl rfl rfl (fun _ _ => rfl) rfl rfl (jR_103_42 _) ?_
                          refine jv_iload_n (pc' := 242) (k := 3) (x := (iI ((r2.length + 1 : Nat) : Int))) rfl rfl rfl hf3 ?_
                          refine jv_baload (pc' := 243) (n := 10) (e := ((r2.length + 1 : Nat) : Int)) (v := (iI 1)) rfl rfl rfl rfl rfl (by omega) hK.1.2.1 ?_
                          refine jv_if_eq (t := 250) (pc' := 246) (a := 1) rfl rfl rfl (by omega) (fun hz_105 => ?_) (fun hz_105 => ?_)
                          · skip
                            exact absurd hz_105 (by decide)
                          · skip
                            refine jv_iconst (pc' := 247) (n := 1) rfl rfl ?_
                            refine jx_step (pc' := 251) rfl ?_
                            refine jv_istore (pc' := 253) (k := 5) (x := (iI 1)) rfl rfl rfl (Or.inr rfl) ?_
                            refine jv_iinc (pc' := 256) (k := 3) (a := ((r2.length + 1 : Nat) : Int)) rfl rfl hf3 rfl (Or.inr (congrArg jm_lng hf2)) ?_
                            refine jv_aload_n (pc' := 257) (k := 0) (x := 103) rfl rfl rfl hf0 ?_
                            refine jv_iload_n (pc' := 258) (k := 3) (x := (iI (((r2.length + 1 : Nat) : Int) + (-1)))) rfl rfl rfl rfl ?_
                            refine jv_iload (pc' := 260) (k := 5) (x := (iI 1)) rfl rfl rfl ?_
                            rw [show ((r2.length + 1 : Nat) : Int) + (-1) = ((r2.length : Nat) : Int) by omega]
                            refine jv_call (pc' := 263) rfl (ml_factor (I := I1) (q := r2.length) (l := l2) (t := t2) (b := true) (by omega) hK.2.1.2.1 hK.2.1.2.2) (fun vq106 gq106 q106 => ?_)
                            obtain ⟨rfl, rfl⟩ := q106
                            show jx L xs _ 159 263 _ [] _ _
                            refine jv_aload_n (pc' := 264) (k := 0) (x := 103) rfl rfl rfl hf0 ?_
                            refine jx_step (pc' := 265) rfl ?_
                            refine jv_getI (pc' := 268) (c := 12) (k := 19) (v := (iI ((a1 : Nat) : Int))) rfl rfl rfl (fun _ _ => rfl) rfl rfl ha ?_
                            refine jv_iconst (pc' := 269) (n := 1) rfl rfl ?_
                            refine jv_iadd (pc' := 270) (a := ((a1 : Nat) : Int)) (b := 1) rfl rfl ?_
                            refine jv_putI (pc' := 273) (c := 12) (k := 19) rfl rfl rfl rfl (fun _ _ _  => rfl) rfl rfl ?_
                            refine jx_step (pc' := 285) rfl ?_
                            refine jx_step (pc' := 60) rfl ?_
                            exact ih k1 (a1 + 1) r2.length ((y2, l2 && (true != t2), false) :: r2) (jm_u (jm_u (jm_u I1 131 r2.length (iI (ib (l2 && (true != t2))))) 132 r2.length (iI 0)) 103 19 (iI (((a1 : Nat) : Int) + 1))) (by omega) (fr_u (by simp [wV]) (fr_u (by simp [wV]) (fr_u (by simp [wV]) hf))) rfl (⟨⟨(jm_u_n2 (by omega)).trans ((jm_u_n2 (by omega)).trans ((jm_u_n2 (by omega)).trans hK.2.1.1)), (jm_u_n2 (by omega)).trans ((jm_u_n2 (by omega)).trans (jm_u_eq ⟨rfl, rfl⟩)), (jm_u_n2 (by omega)).trans (jm_u_eq ⟨rfl, rfl⟩)⟩, VQ_c hK.2.2 (fun i hi => ⟨(jm_u_n2 (by omega)).trans ((jm_u_n2 (by omega)).trans (jm_u_n2 (by omega))), (jm_u_n2 (by omega)).trans ((jm_u_n2 (by omega)).trans (jm_u_n2 (by omega))), (jm_u_n2 (by omega)).trans ((jm_u_n2 (by omega)).trans (jm_u_n2 (by omega)))⟩)⟩) (by first | rfl | (simp; omega)) hR _ hf0 hf1 hf2 rfl 
                    · skip
                      exfalso; omega
                  · skip
                    exfalso; omega
                · skip
                  exfalso; omega
              · skip
                exfalso; omega
          · skip
            refine jv_getI (pc' := 64) (c := 12) (k := 19) (v := (iI ((a1 : Nat) : Int))) rfl rfl rfl (fun _ _ => rfl) rfl rfl ha ?_
            refine jv_aload_n (pc' := 65) (k := 0) (x := 103) rfl rfl rfl hf0 ?_
            refine jv_getI (pc' := 68) (c := 12) (k := 18) (v := (iI (n : Int))) rfl rfl rfl (fun _ _ => rfl) rfl rfl T1.1 ?_
            refine jv_ic_ge (t := 288) (pc' := 71) (a := ((a1 : Nat) : Int)) (b := (n : Int)) rfl rfl rfl (by omega) (fun hz_107 => ?_) (fun hz_107 => ?_)
            · skip
              exfalso; omega
            · skip
              refine jv_aload_n (pc' := 72) (k := 0) (x := 103) rfl rfl rfl hf0 ?_
              have hm108 := MT_c T1 (a1)
              have ho108 := MT_or T1 (a1)
              refine jv_call (pc' := 75) rfl (ml_here (I := I1) (a := a1) T1 ha (by omega)) (fun vq109 gq109 q109 => ?_)
              obtain ⟨rfl, rfl⟩ := q109
              show jx L xs _ 159 75 _ [.int (iI (c (a1)))] _ _
              refine jv_istore (pc' := 77) (k := 4) (x := (iI (c (a1)))) rfl rfl rfl (Or.inr (congrArg jm_lng hf3)) ?_
              refine jv_iload (pc' := 79) (k := 4) (x := (iI (c (a1)))) rfl rfl rfl ?_
              refine jv_bipush (pc' := 81) (n := 33) rfl rfl rfl ?_
              refine jv_ic_ne (t := 117) (pc' := 84) (a := (c (a1))) (b := 33) rfl rfl rfl (by omega) (fun hz_110 => ?_) (fun hz_110 => ?_)
              · skip
                refine jv_iload (pc' := 119) (k := 4) (x := (iI (c (a1)))) rfl rfl rfl ?_
                refine jv_bipush (pc' := 121) (n := 40) rfl rfl rfl ?_
                refine jv_ic_ne (t := 145) (pc' := 124) (a := (c (a1))) (b := 40) rfl rfl rfl (by omega) (fun hz_111 => ?_) (fun hz_111 => ?_)
                · skip
                  refine jv_iload (pc' := 147) (k := 4) (x := (iI (c (a1)))) rfl rfl rfl ?_
                  refine jv_bipush (pc' := 149) (n := 38) rfl rfl rfl ?_
                  refine jv_ic_ne (t := 165) (pc' := 152) (a := (c (a1))) (b := 38) rfl rfl rfl (by omega) (fun hz_112 => ?_) (fun hz_112 => ?_)
                  · skip
                    refine jv_iload (pc' := 167) (k := 4) (x := (iI (c (a1)))) rfl rfl rfl ?_
                    refine jv_bipush (pc' := 169) (n := 124) rfl rfl rfl ?_
                    refine jv_ic_ne (t := 221) (pc' := 172) (a := (c (a1))) (b := 124) rfl rfl rfl (by omega) (fun hz_113 => ?_) (fun hz_113 => ?_)
                    · skip
                      refine jv_iload (pc' := 223) (k := 4) (x := (iI (c (a1)))) rfl rfl rfl ?_
                      refine jv_bipush (pc' := 225) (n := 41) rfl rfl rfl ?_
                      refine jv_ic_ne (t := 276) (pc' := 228) (a := (c (a1))) (b := 41) rfl rfl rfl (by omega) (fun hz_114 => ?_) (fun hz_114 => ?_)
                      · skip
                        exfalso; omega
                      · skip
                        refine jv_aload_n (pc' := 229) (k := 0) (x := 103) rfl rfl rfl hf0 ?_
                        refine jv_getR (pc' := 232) (c := 12) (k := 41) (v := 130) rfl rfl rfl (fun _ _ => rfl) rfl rfl (jR_103_41 _) ?_
                        refine jv_iload_n (pc' := 233) (k := 3) (x := (iI ((r2.length + 1 : Nat) : Int))) rfl rfl rfl hf3 ?_
                        refine jv_baload (pc' := 234) (n := 10) (e := ((r2.length + 1 : Nat) : Int)) (v := (iI 1)) rfl rfl rfl rfl rfl (by omega) hK.1.1 ?_
                        refine jv_if_ne (t := 246) (pc' := 237) (a := 1) rfl rfl rfl (by omega) (fun hz_115 => ?_) (fun hz_115 => ?_)
                        · skip
                          refine jv_iconst (pc' := 247) (n := 1) rfl rfl ?_
                          refine jx_step (pc' := 251) rfl ?_
                          refine jv_istore (pc' := 253) (k := 5) (x := (iI 1)) rfl rfl rfl (Or.inr rfl) ?_
                          refine jv_iinc (pc' := 256) (k := 3) (a := ((r2.length + 1 : Nat) : Int)) rfl rfl hf3 rfl (Or.inr (congrArg jm_lng hf2)) ?_
                          refine jv_aload_n (pc' := 257) (k := 0) (x := 103) rfl rfl rfl hf0 ?_
                          refine jv_iload_n (pc' := 258) (k := 3) (x := (iI (((r2.length + 1 : Nat) : Int) + (-1)))) rfl rfl rfl rfl ?_
                          refine jv_iload (pc' := 260) (k := 5) (x := (iI 1)) rfl rfl rfl ?_
                          rw [show ((r2.length + 1 : Nat) : Int) + (-1) = ((r2.length : Nat) : Int) by omega]
                          refine jv_call (pc' := 263) rfl (ml_factor (I := I1) (q := r2.length) (l := l2) (t := t2) (b := true) (by omega) hK.2.1.2.1 hK.2.1.2.2) (fun vq116 gq116 q116 => ?_)
                          obtain ⟨rfl, rfl⟩ := q116
                          show jx L xs _ 159 263 _ [] _ _
                          refine jv_aload_n (pc' := 264) (k := 0) (x := 103) rfl rfl rfl hf0 ?_
                          refine jx_step (pc' := 265) rfl ?_
                          refine jv_getI (pc' := 268) (c := 12) (k := 19) (v := (iI ((a1 : Nat) : Int))) rfl rfl rfl (fun _ _ => rfl) rfl rfl ha ?_
                          refine jv_iconst (pc' := 269) (n := 1) rfl rfl ?_
                          refine jv_iadd (pc' := 270) (a := ((a1 : Nat) : Int)) (b := 1) rfl rfl ?_
                          refine jv_putI (pc' := 273) (c := 12) (k := 19) rfl rfl rfl rfl (fun _ _ _  => rfl) rfl rfl ?_
                          refine jx_step (pc' := 285) rfl ?_
                          refine jx_step (pc' := 60) rfl ?_
                          exact ih k1 (a1 + 1) r2.length ((y2, l2 && (true != t2), false) :: r2) (jm_u (jm_u (jm_u I1 131 r2.length (iI (ib (l2 && (true != t2))))) 132 r2.length (iI 0)) 103 19 (iI (((a1 : Nat) : Int) + 1))) (by omega) (fr_u (by simp [wV]) (fr_u (by simp [wV]) (fr_u (by simp [wV]) hf))) rfl (⟨⟨(jm_u_n2 (by omega)).trans ((jm_u_n2 (by omega)).trans ((jm_u_n2 (by omega)).trans hK.2.1.1)), (jm_u_n2 (by omega)).trans ((jm_u_n2 (by omega)).trans (jm_u_eq ⟨rfl, rfl⟩)), (jm_u_n2 (by omega)).trans (jm_u_eq ⟨rfl, rfl⟩)⟩, VQ_c hK.2.2 (fun i hi => ⟨(jm_u_n2 (by omega)).trans ((jm_u_n2 (by omega)).trans (jm_u_n2 (by omega))), (jm_u_n2 (by omega)).trans ((jm_u_n2 (by omega)).trans (jm_u_n2 (by omega))), (jm_u_n2 (by omega)).trans ((jm_u_n2 (by omega)).trans (jm_u_n2 (by omega)))⟩)⟩) (by first | rfl | (simp; omega)) hR _ hf0 hf1 hf2 rfl 
                        · skip
                          exact absurd hz_115 (by decide)
                    · skip
                      exfalso; omega
                  · skip
                    exfalso; omega
                · skip
                  exfalso; omega
              · skip
                exfalso; omega
          · skip
            refine jv_getI (pc' := 64) (c := 12) (k := 19) (v := (iI ((a1 : Nat) : Int))) rfl rfl rfl (fun _ _ => rfl) rfl rfl ha ?_
            refine jv_aload_n (pc' := 65) (k := 0) (x := 103) rfl rfl rfl hf0 ?_
            refine jv_getI (pc' := 68) (c := 12) (k := 18) (v := (iI (n : Int))) rfl rfl rfl (fun _ _ => rfl) rfl rfl T1.1 ?_
            refine jv_ic_ge (t := 288) (pc' := 71) (a := ((a1 : Nat) : Int)) (b := (n : Int)) rfl rfl rfl (by omega) (fun hz_117 => ?_) (fun hz_117 => ?_)
            · skip
              exfalso; omega
            · skip
              refine jv_aload_n (pc' := 72) (k := 0) (x := 103) rfl rfl rfl hf0 ?_
              have hm118 := MT_c T1 (a1)
              have ho118 := MT_or T1 (a1)
              refine jv_call (pc' := 75) rfl (ml_here (I := I1) (a := a1) T1 ha (by omega)) (fun vq119 gq119 q119 => ?_)
              obtain ⟨rfl, rfl⟩ := q119
              show jx L xs _ 159 75 _ [.int (iI (c (a1)))] _ _
              refine jv_istore (pc' := 77) (k := 4) (x := (iI (c (a1)))) rfl rfl rfl (Or.inr (congrArg jm_lng hf3)) ?_
              refine jv_iload (pc' := 79) (k := 4) (x := (iI (c (a1)))) rfl rfl rfl ?_
              refine jv_bipush (pc' := 81) (n := 33) rfl rfl rfl ?_
              refine jv_ic_ne (t := 117) (pc' := 84) (a := (c (a1))) (b := 33) rfl rfl rfl (by omega) (fun hz_120 => ?_) (fun hz_120 => ?_)
              · skip
                refine jv_iload (pc' := 119) (k := 4) (x := (iI (c (a1)))) rfl rfl rfl ?_
                refine jv_bipush (pc' := 121) (n := 40) rfl rfl rfl ?_
                refine jv_ic_ne (t := 145) (pc' := 124) (a := (c (a1))) (b := 40) rfl rfl rfl (by omega) (fun hz_121 => ?_) (fun hz_121 => ?_)
                · skip
                  refine jv_iload (pc' := 147) (k := 4) (x := (iI (c (a1)))) rfl rfl rfl ?_
                  refine jv_bipush (pc' := 149) (n := 38) rfl rfl rfl ?_
                  refine jv_ic_ne (t := 165) (pc' := 152) (a := (c (a1))) (b := 38) rfl rfl rfl (by omega) (fun hz_122 => ?_) (fun hz_122 => ?_)
                  · skip
                    refine jv_iload (pc' := 167) (k := 4) (x := (iI (c (a1)))) rfl rfl rfl ?_
                    refine jv_bipush (pc' := 169) (n := 124) rfl rfl rfl ?_
                    refine jv_ic_ne (t := 221) (pc' := 172) (a := (c (a1))) (b := 124) rfl rfl rfl (by omega) (fun hz_123 => ?_) (fun hz_123 => ?_)
                    · skip
                      refine jv_iload (pc' := 223) (k := 4) (x := (iI (c (a1)))) rfl rfl rfl ?_
                      refine jv_bipush (pc' := 225) (n := 41) rfl rfl rfl ?_
                      refine jv_ic_ne (t := 276) (pc' := 228) (a := (c (a1))) (b := 41) rfl rfl rfl (by omega) (fun hz_124 => ?_) (fun hz_124 => ?_)
                      · skip
                        exfalso; omega
                      · skip
                        refine jv_aload_n (pc' := 229) (k := 0) (x := 103) rfl rfl rfl hf0 ?_
                        refine jv_getR (pc' := 232) (c := 12) (k := 41) (v := 130) rfl rfl rfl (fun _ _ => rfl) rfl rfl (jR_103_41 _) ?_
                        refine jv_iload_n (pc' := 233) (k := 3) (x := (iI ((r2.length + 1 : Nat) : Int))) rfl rfl rfl hf3 ?_
                        refine jv_baload (pc' := 234) (n := 10) (e := ((r2.length + 1 : Nat) : Int)) (v := (iI 1)) rfl rfl rfl rfl rfl (by omega) hK.1.1 ?_
                        refine jv_if_ne (t := 246) (pc' := 237) (a := 1) rfl rfl rfl (by omega) (fun hz_125 => ?_) (fun hz_125 => ?_)
                        · skip
                          refine jv_iconst (pc' := 247) (n := 1) rfl rfl ?_
                          refine jx_step (pc' := 251) rfl ?_
                          refine jv_istore (pc' := 253) (k := 5) (x := (iI 1)) rfl rfl rfl (Or.inr rfl) ?_
                          refine jv_iinc (pc' := 256) (k := 3) (a := ((r2.length + 1 : Nat) : Int)) rfl rfl hf3 rfl (Or.inr (congrArg jm_lng hf2)) ?_
                          refine jv_aload_n (pc' := 257) (k := 0) (x := 103) rfl rfl rfl hf0 ?_
                          refine jv_iload_n (pc' := 258) (k := 3) (x := (iI (((r2.length + 1 : Nat) : Int) + (-1)))) rfl rfl rfl rfl ?_
                          refine jv_iload (pc' := 260) (k := 5) (x := (iI 1)) rfl rfl rfl ?_
                          rw [show ((r2.length + 1 : Nat) : Int) + (-1) = ((r2.length : Nat) : Int) by omega]
                          refine jv_call (pc' := 263) rfl (ml_factor (I := I1) (q := r2.length) (l := l2) (t := t2) (b := true) (by omega) hK.2.1.2.1 hK.2.1.2.2) (fun vq126 gq126 q126 => ?_)
                          obtain ⟨rfl, rfl⟩ := q126
                          show jx L xs _ 159 263 _ [] _ _
                          refine jv_aload_n (pc' := 264) (k := 0) (x := 103) rfl rfl rfl hf0 ?_
                          refine jx_step (pc' := 265) rfl ?_
                          refine jv_getI (pc' := 268) (c := 12) (k := 19) (v := (iI ((a1 : Nat) : Int))) rfl rfl rfl (fun _ _ => rfl) rfl rfl ha ?_
                          refine jv_iconst (pc' := 269) (n := 1) rfl rfl ?_
                          refine jv_iadd (pc' := 270) (a := ((a1 : Nat) : Int)) (b := 1) rfl rfl ?_
                          refine jv_putI (pc' := 273) (c := 12) (k := 19) rfl rfl rfl rfl (fun _ _ _  => rfl) rfl rfl ?_
                          refine jx_step (pc' := 285) rfl ?_
                          refine jx_step (pc' := 60) rfl ?_
                          exact ih k1 (a1 + 1) r2.length ((y2, l2 && (true != t2), false) :: r2) (jm_u (jm_u (jm_u I1 131 r2.length (iI (ib (l2 && (true != t2))))) 132 r2.length (iI 0)) 103 19 (iI (((a1 : Nat) : Int) + 1))) (by omega) (fr_u (by simp [wV]) (fr_u (by simp [wV]) (fr_u (by simp [wV]) hf))) rfl (⟨⟨(jm_u_n2 (by omega)).trans ((jm_u_n2 (by omega)).trans ((jm_u_n2 (by omega)).trans hK.2.1.1)), (jm_u_n2 (by omega)).trans ((jm_u_n2 (by omega)).trans (jm_u_eq ⟨rfl, rfl⟩)), (jm_u_n2 (by omega)).trans (jm_u_eq ⟨rfl, rfl⟩)⟩, VQ_c hK.2.2 (fun i hi => ⟨(jm_u_n2 (by omega)).trans ((jm_u_n2 (by omega)).trans (jm_u_n2 (by omega))), (jm_u_n2 (by omega)).trans ((jm_u_n2 (by omega)).trans (jm_u_n2 (by omega))), (jm_u_n2 (by omega)).trans ((jm_u_n2 (by omega)).trans (jm_u_n2 (by omega)))⟩)⟩) (by first | rfl | (simp; omega)) hR _ hf0 hf1 hf2 rfl 
                        · skip
                          exact absurd hz_125 (by decide)
                    · skip
                      exfalso; omega
                  · skip
                    exfalso; omega
                · skip
                  exfalso; omega
              · skip
                exfalso; omega
        · subst ea; subst ek
          have hd := h0.1
          have h44 := VR_44 hR (by omega)
          refine jv_getI (pc' := 64) (c := 12) (k := 19) (v := (iI ((a1 : Nat) : Int))) rfl rfl rfl (fun _ _ => rfl) rfl rfl ha ?_
          refine jv_aload_n (pc' := 65) (k := 0) (x := 103) rfl rfl rfl hf0 ?_
          refine jv_getI (pc' := 68) (c := 12) (k := 18) (v := (iI (n : Int))) rfl rfl rfl (fun _ _ => rfl) rfl rfl T1.1 ?_
          refine jv_ic_ge (t := 288) (pc' := 71) (a := ((a1 : Nat) : Int)) (b := (n : Int)) rfl rfl rfl (by omega) (fun hz_127 => ?_) (fun hz_127 => ?_)
          · skip
            exfalso; omega
          · skip
            refine jv_aload_n (pc' := 72) (k := 0) (x := 103) rfl rfl rfl hf0 ?_
            have hm128 := MT_c T1 (a1)
            have ho128 := MT_or T1 (a1)
            refine jv_call (pc' := 75) rfl (ml_here (I := I1) (a := a1) T1 ha (by omega)) (fun vq129 gq129 q129 => ?_)
            obtain ⟨rfl, rfl⟩ := q129
            show jx L xs _ 159 75 _ [.int (iI (c (a1)))] _ _
            refine jv_istore (pc' := 77) (k := 4) (x := (iI (c (a1)))) rfl rfl rfl (Or.inr (congrArg jm_lng hf3)) ?_
            refine jv_iload (pc' := 79) (k := 4) (x := (iI (c (a1)))) rfl rfl rfl ?_
            refine jv_bipush (pc' := 81) (n := 33) rfl rfl rfl ?_
            refine jv_ic_ne (t := 117) (pc' := 84) (a := (c (a1))) (b := 33) rfl rfl rfl (by omega) (fun hz_130 => ?_) (fun hz_130 => ?_)
            · skip
              refine jv_iload (pc' := 119) (k := 4) (x := (iI (c (a1)))) rfl rfl rfl ?_
              refine jv_bipush (pc' := 121) (n := 40) rfl rfl rfl ?_
              refine jv_ic_ne (t := 145) (pc' := 124) (a := (c (a1))) (b := 40) rfl rfl rfl (by omega) (fun hz_131 => ?_) (fun hz_131 => ?_)
              · skip
                refine jv_iload (pc' := 147) (k := 4) (x := (iI (c (a1)))) rfl rfl rfl ?_
                refine jv_bipush (pc' := 149) (n := 38) rfl rfl rfl ?_
                refine jv_ic_ne (t := 165) (pc' := 152) (a := (c (a1))) (b := 38) rfl rfl rfl (by omega) (fun hz_132 => ?_) (fun hz_132 => ?_)
                · skip
                  refine jv_iload (pc' := 167) (k := 4) (x := (iI (c (a1)))) rfl rfl rfl ?_
                  refine jv_bipush (pc' := 169) (n := 124) rfl rfl rfl ?_
                  refine jv_ic_ne (t := 221) (pc' := 172) (a := (c (a1))) (b := 124) rfl rfl rfl (by omega) (fun hz_133 => ?_) (fun hz_133 => ?_)
                  · skip
                    refine jv_iload (pc' := 223) (k := 4) (x := (iI (c (a1)))) rfl rfl rfl ?_
                    refine jv_bipush (pc' := 225) (n := 41) rfl rfl rfl ?_
                    refine jv_ic_ne (t := 276) (pc' := 228) (a := (c (a1))) (b := 41) rfl rfl rfl (by omega) (fun hz_134 => ?_) (fun hz_134 => ?_)
                    · skip
                      refine jv_aload_n (pc' := 277) (k := 0) (x := 103) rfl rfl rfl hf0 ?_
                      refine jv_iload_n (pc' := 278) (k := 3) (x := (iI ((r.length : Nat) : Int))) rfl rfl rfl hf3 ?_
                      refine jv_aload_n (pc' := 279) (k := 0) (x := 103) rfl rfl rfl hf0 ?_
                      have Dq135 : DMe I1 M s := DMe_fr (W := wV) (V := fun _ _ => False) (I := I) hM hf (fr_r _) ⟨by simp [wV], by simp [wV], by simp [wV], fun l k h1 h2 => by unfold wV; omega⟩ (fun _ h => h)
                      refine jv_call (pc' := 282) rfl (ml_passes (I := I1) (a := a1) T1 ha (by omega) Dq135 hE hc h0 h44) (fun vq135 gq135 q135 => ?_)
                      obtain ⟨Iq135, rfl, rfl, rq135, aq135⟩ := q135
                      rw [jb_ib]
                      show jx L xs _ 159 282 _ [.int (iI (ib (bp (tV c s a1)))), .int (iI ((r.length : Nat) : Int)), .ref 103] _ _
                      refine jv_call (pc' := 285) rfl (ml_factor (I := Iq135) (q := r.length) (l := l) (t := t) (b := bp (tV c s a1)) (by omega) ((rq135 131 _ (by omega)).trans hK.1.2.1) ((rq135 132 _ (by omega)).trans hK.1.2.2)) (fun vq136 gq136 q136 => ?_)
                      obtain ⟨rfl, rfl⟩ := q136
                      show jx L xs _ 159 285 _ [] _ _
                      refine jx_step (pc' := 60) rfl ?_
                      exact ih k1 (tA c a1) r.length ((y, l && (bp (tV c s a1) != t), false) :: r) (jm_u (jm_u Iq135 131 r.length (iI (ib (l && (bp (tV c s a1) != t))))) 132 r.length (iI 0)) (by omega) (fr_u (by simp [wV]) (fr_u (by simp [wV]) (fr_t hf (fr_w rq135 (fun l k h => Or.inl h))))) aq135 (⟨⟨(jm_u_n2 (by omega)).trans ((jm_u_n2 (by omega)).trans ((rq135 130 _ (by omega)).trans hK.1.1)), (jm_u_n2 (by omega)).trans (jm_u_eq ⟨rfl, rfl⟩), jm_u_eq ⟨rfl, rfl⟩⟩, VQ_c hK.2 (fun i hi => ⟨(jm_u_n2 (by omega)).trans ((jm_u_n2 (by omega)).trans (rq135 130 _ (by omega))), (jm_u_n2 (by omega)).trans ((jm_u_n2 (by omega)).trans (rq135 131 _ (by omega))), (jm_u_n2 (by omega)).trans ((jm_u_n2 (by omega)).trans (rq135 132 _ (by omega)))⟩)⟩) (by first | rfl | (simp; omega)) hR _ hf0 hf1 hf2 hf3 
                    · skip
                      exfalso; omega
                  · skip
                    exfalso; omega
                · skip
                  exfalso; omega
              · skip
                exfalso; omega
            · skip
              exfalso; omega
  exact H1 _ k 0 0 ([(false, true, false)]) I (Nat.lt_succ_self _) (fr_r _) hat hK0 rfl hR0 _ hf0 hf1 hf2 hf3 
end G4
