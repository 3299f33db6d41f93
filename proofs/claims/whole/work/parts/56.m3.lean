/-! printed by wip/whole/gen/m3.py: the flat reading of a layer, and the reference along it -/
theorem MT_fr {W : Nat → Nat → Prop} {I I' : Nat → Nat → Int32} {c : Nat → Int} {n : Nat} (h : MT I c n) (f : fr W I I') (h1 : ¬ W 103 18) (h2 : ∀ k, ¬ W 117 k) : MT I' c n :=
  ⟨(f 103 18 h1).trans h.1, h.2.1, fun k hk => (f 117 k (h2 k)).trans (h.2.2.1 k hk), h.2.2.2.1, h.2.2.2.2⟩
/-- a step of the flat reading: place, names, a mark for each open level -/
def PS (c : Nat → Int) (a F : Nat) (s : List Bool) (a' F' : Nat) (s' : List Bool) : Prop := ∃ b r, s = b :: r ∧ (
  (c a = 41 ∧ b = true ∧ (∃ b1 r1, r = b1 :: r1 ∧ s' = true :: r1) ∧ a' = a + 1 ∧ F' = F)
  ∨ (c a = 36 ∧ cnO c F (a + 1) ∧ a' = a + 2 ∧ F' = F ∧ s' = true :: r)
  ∨ ((c a = 35 ∨ c a = 63) ∧ r.length < 3 ∧ opO c F a ∧ a' = opA c F a ∧ F' = F ∧ s' = false :: b :: r)
  ∨ ((c a ≠ -1 ∧ c a ≠ 41 ∧ c a ≠ 62 ∧ c a ≠ 36 ∧ c a ≠ 35 ∧ c a ≠ 63) ∧ fdOk c F a ∧ a' = fdA c F a ∧ F' = fdF c F a ∧ s' = true :: r))
/-- its end: good or not, and the place -/
def PF (c : Nat → Int) (n a F : Nat) (s : List Bool) (ok : Bool) (e : Nat) : Prop := ∃ b r, s = b :: r ∧ (
  (c a = -1 ∧ r = [] ∧ ok = b ∧ e = a)
  ∨ (c a = -1 ∧ r ≠ [] ∧ ok = false ∧ e = a)
  ∨ (c a = 41 ∧ (r = [] ∨ b = false) ∧ ok = false ∧ e = a)
  ∨ (c a = 62 ∧ (r ≠ [] ∨ b = false) ∧ ok = false ∧ e = a)
  ∨ (c a = 62 ∧ r = [] ∧ b = true ∧ ¬ knw c F (a + 1) ∧ ok = false ∧ e = a + 1)
  ∨ (c a = 62 ∧ r = [] ∧ b = true ∧ knw c F (a + 1) ∧ ok = decide (a + 2 = n) ∧ e = a + 2)
  ∨ (c a = 36 ∧ ¬ cnO c F (a + 1) ∧ ok = false ∧ e = a + 1)
  ∨ ((c a = 35 ∨ c a = 63) ∧ r.length = 3 ∧ ok = false ∧ e = a)
  ∨ ((c a = 35 ∨ c a = 63) ∧ r.length ≠ 3 ∧ ¬ opO c F a ∧ ok = false ∧ e = opA c F a)
  ∨ ((c a ≠ -1 ∧ c a ≠ 41 ∧ c a ≠ 62 ∧ c a ≠ 36 ∧ c a ≠ 35 ∧ c a ≠ 63) ∧ ¬ fdOk c F a ∧ ok = false ∧ e = fdA c F a))
def PE (c : Nat → Int) (n : Nat) : Nat → Nat → Nat → List Bool → Bool → Nat → Prop
  | 0, a, F, s, ok, e => (a ≤ 80 ∧ F < 256 ∧ s.length ≤ 4) ∧ PF c n a F s ok e
  | k + 1, a, F, s, ok, e => (a ≤ 80 ∧ F < 256 ∧ s.length ≤ 4) ∧ ∃ a' F' s', PS c a F s a' F' s' ∧ PE c n k a' F' s' ok e
def OP (I : Nat → Nat → Int32) : List Bool → Prop
  | [] => True
  | b :: r => I 118 r.length = iI (if b then 1 else 0) ∧ OP I r
theorem OP_e {I I' : Nat → Nat → Int32} {r : List Bool} (h : ∀ i, I' 118 i = I 118 i) (q : OP I r) : OP I' r := by
  induction r with
  | nil => trivial
  | cons b r ih => exact ⟨(h _).trans q.1, ih q.2⟩
theorem OP_k {I : Nat → Nat → Int32} {i : Nat} {v : Int32} : ∀ {r : List Bool}, r.length ≤ i → OP I r → OP (jm_u I 118 i v) r := by
  intro r
  induction r with
  | nil => intro _ _; trivial
  | cons b r ih =>
    intro hi q
    have hi' : r.length + 1 ≤ i := hi
    exact ⟨(jm_u_n2 (fun e => by omega)).trans q.1, ih (by omega) q.2⟩
theorem OP_s {I : Nat → Nat → Int32} {r : List Bool} {i : Nat} {v : Int32} {b : Bool} (hi : i = r.length) (hv : v = iI (if b then 1 else 0)) (h : OP I r) : OP (jm_u I 118 i v) (b :: r) :=
  ⟨by rw [← hi, hv]; exact jm_u_eq ⟨rfl, rfl⟩, OP_k (by omega) h⟩
def wP (l k : Nat) : Prop := (l = 103 ∧ (k = 19 ∨ k = 20)) ∨ l = 118
theorem wAF_P (l k : Nat) (h : wAF l k) : wP l k := Or.inl h
section M3
variable {L : Nat} {xs : Nat → Int32} {d j : Nat} {I : Nat → Nat → Int32} {M : Nat → Nat → Int64} {p : Nat → Option Nat}
variable {c : Nat → Int} {n : Nat}
theorem ml_isLayer {ok : Bool} {e k : Nat} (hT : MT I c n) (hE : PE c n k 0 0 [false] ok e) : jc L xs (d + 4) 121 [.ref 103] (jx_G j I M p) (fun v g1 => ∃ I', g1 = jx_G j I' M p ∧ v = some (.int (jb (ok = true))) ∧ (ok = false → I' 103 19 = iI ((e : Nat) : Int)) ∧ fr wP I I') := by
  unfold jc
  refine jv_aload_n (pc' := 1) (k := 0) (x := 103) rfl rfl rfl rfl ?_
  refine jv_iconst (pc' := 2) (n := 0) rfl rfl ?_
  refine jv_putI (pc' := 5) (c := 12) (k := 19) rfl rfl rfl rfl (fun _ _ _  => rfl) rfl rfl ?_
  refine jv_aload_n (pc' := 6) (k := 0) (x := 103) rfl rfl rfl rfl ?_
  refine jv_iconst (pc' := 7) (n := 0) rfl rfl ?_
  refine jv_putI (pc' := 10) (c := 12) (k := 20) rfl rfl rfl rfl (fun _ _ _  => rfl) rfl rfl ?_
  refine jv_iconst (pc' := 11) (n := 0) rfl rfl ?_
  refine jv_istore_n (pc' := 12) (k := 1) (x := (iI 0)) rfl rfl rfl rfl (Or.inr rfl) ?_
  refine jv_aload_n (pc' := 13) (k := 0) (x := 103) rfl rfl rfl rfl ?_
  refine jv_getR (pc' := 16) (c := 12) (k := 21) (v := 118) rfl rfl rfl (fun _ _ => rfl) rfl rfl rfl ?_
  refine jv_iconst (pc' := 17) (n := 0) rfl rfl ?_
  refine jv_iconst (pc' := 18) (n := 0) rfl rfl ?_
  refine jv_iastore (pc' := 19) (n := 16) (e := 0) (v := (iI 0)) rfl rfl rfl rfl rfl (by omega) ?_
  have H1 : ∀ (N : Nat) (k : Nat) (a : Nat) (F : Nat) (s : List Bool) (dp : Nat) (I1 : Nat → Nat → Int32), k < N → (PE c n k a F s ok e) → (s.length = dp + 1) → (MT I1 c n) → (I1 103 19 = iI ((a : Nat) : Int)) → (I1 103 20 = iI ((F : Nat) : Int)) → (OP I1 s) → (fr wP I I1) → ∀ f : jm_F, f 0 = some (.ref 103) → f 1 = some (.int (iI ((dp : Nat) : Int))) → jx L xs ((d + 4)) 121 19 f [] (jx_G j I1 M p) (fun z => ∃ v g1, z = (.inl v, g1) ∧ (fun v g1 => ∃ I', g1 = jx_G j I' M p ∧ v = some (.int (jb (ok = true))) ∧ (ok = false → I' 103 19 = iI ((e : Nat) : Int)) ∧ fr wP I I') v g1) := by
    intro N
    induction N with
    | zero => intro k a F s dp I1 hN; exact absurd hN (Nat.not_lt_zero _)
    | succ N ih =>
      intro k a F s dp I1 hN hE hdp hT ha hF hO hfr f hf0 hf1 
      cases k with
      | zero =>
        obtain ⟨⟨hb, hF2, hs4⟩, b, r, rfl, hE⟩ := hE
        rcases hE with ⟨hc, rfl, hok, he⟩ | ⟨hc, hr, hok, he⟩ | ⟨hc, hr, hok, he⟩ | ⟨hc, hr, hok, he⟩ | ⟨hc, rfl, rfl, hn1, hok, he⟩ | ⟨hc, rfl, rfl, hn1, hok, he⟩ | ⟨hc, hn1, hok, he⟩ | ⟨hc, hl, hok, he⟩ | ⟨hc, hl, ho, hok, he⟩ | ⟨hc, ho, hok, he⟩
        · -- end0
          simp only [List.length_cons, List.length_nil] at hdp hs4
          have hn80 := hT.2.1
          have hbb : (if b = true then (1 : Int) else 0) = 0 ∨ (if b = true then (1 : Int) else 0) = 1 := by cases b <;> simp
          refine jv_aload_n (pc' := 20) (k := 0) (x := 103) rfl rfl rfl hf0 ?_
          have hm2 := MT_c hT (a)
          refine jv_call (pc' := 23) rfl (ml_here (a := a) hT ha (by omega)) (fun vq3 gq3 q3 => ?_)
          obtain ⟨rfl, rfl⟩ := q3
          show jx L xs _ 121 23 _ [.int (iI (c (a)))] _ _
          refine jv_istore_n (pc' := 24) (k := 2) (x := (iI (c (a)))) rfl rfl rfl rfl (Or.inr (congrArg jm_lng hf1)) ?_
          refine jv_iload_n (pc' := 25) (k := 2) (x := (iI (c (a)))) rfl rfl rfl rfl ?_
          refine jv_iconst (pc' := 26) (n := -1) rfl rfl ?_
          refine jv_ic_ne (t := 49) (pc' := 29) (a := (c (a))) (b := (-1)) rfl rfl rfl (by omega) (fun h4 => ?_) (fun h4 => ?_)
          · skip
            exfalso; omega
          · skip
            refine jv_iload_n (pc' := 30) (k := 1) (x := (iI ((dp : Nat) : Int))) rfl rfl rfl hf1 ?_
            refine jv_if_ne (t := 47) (pc' := 33) (a := ((dp : Nat) : Int)) rfl rfl rfl (by omega) (fun h5 => ?_) (fun h5 => ?_)
            · skip
              refine jv_iconst (pc' := 48) (n := 0) rfl rfl ?_
              refine jv_retZ rfl rfl (by first | exact Or.inl rfl | exact Or.inr rfl) ⟨_, _, rfl, ?_⟩
              first
              | (exfalso; omega)
              | contradiction
              | (exfalso; rcases hn1 with q | q <;> contradiction)
              | exact ⟨_, rfl, jq_f (by rw [hok]; cases b <;> simp_all), fun _ => (by rw [he]; exact ha), fr_t hfr (fr_r _)⟩
            · skip
              refine jv_aload_n (pc' := 34) (k := 0) (x := 103) rfl rfl rfl hf0 ?_
              refine jv_getR (pc' := 37) (c := 12) (k := 21) (v := 118) rfl rfl rfl (fun _ _ => rfl) rfl rfl rfl ?_
              refine jv_iconst (pc' := 38) (n := 0) rfl rfl ?_
              refine jv_iaload (pc' := 39) (n := 16) (e := 0) (v := (iI (if b then 1 else 0))) rfl rfl (by decide) rfl rfl rfl (by omega) ((congrArg (fun q => I1 118 q) (show (0 : Int).toNat = 0 by omega)).trans hO.1) ?_
              refine jv_iconst (pc' := 40) (n := 1) rfl rfl ?_
              refine jv_ic_ne (t := 47) (pc' := 43) (a := (if b then 1 else 0)) (b := 1) rfl rfl rfl (by omega) (fun h6 => ?_) (fun h6 => ?_)
              · skip
                refine jv_iconst (pc' := 48) (n := 0) rfl rfl ?_
                refine jv_retZ rfl rfl (by first | exact Or.inl rfl | exact Or.inr rfl) ⟨_, _, rfl, ?_⟩
                first
                | (exfalso; omega)
                | contradiction
                | (exfalso; rcases hn1 with q | q <;> contradiction)
                | exact ⟨_, rfl, jq_f (by rw [hok]; cases b <;> simp_all), fun _ => (by rw [he]; exact ha), fr_t hfr (fr_r _)⟩
              · skip
                refine jv_iconst (pc' := 44) (n := 1) rfl rfl ?_
                refine jx_step (pc' := 48) rfl ?_
                refine jv_retZ rfl rfl (by first | exact Or.inl rfl | exact Or.inr rfl) ⟨_, _, rfl, ?_⟩
                first
                | (exfalso; omega)
                | contradiction
                | (exfalso; rcases hn1 with q | q <;> contradiction)
                | exact ⟨_, rfl, jq_t (by rw [hok]; cases b <;> simp_all), fun _ => (by rw [he]; exact ha), fr_t hfr (fr_r _)⟩
        · -- end1
          simp only [List.length_cons, List.length_nil] at hdp hs4
          have hn80 := hT.2.1
          have hr2 := List.length_pos_iff.mpr hr
          have hbb : (if b = true then (1 : Int) else 0) = 0 ∨ (if b = true then (1 : Int) else 0) = 1 := by cases b <;> simp
          refine jv_aload_n (pc' := 20) (k := 0) (x := 103) rfl rfl rfl hf0 ?_
          have hm7 := MT_c hT (a)
          refine jv_call (pc' := 23) rfl (ml_here (a := a) hT ha (by omega)) (fun vq8 gq8 q8 => ?_)
          obtain ⟨rfl, rfl⟩ := q8
          show jx L xs _ 121 23 _ [.int (iI (c (a)))] _ _
          refine jv_istore_n (pc' := 24) (k := 2) (x := (iI (c (a)))) rfl rfl rfl rfl (Or.inr (congrArg jm_lng hf1)) ?_
          refine jv_iload_n (pc' := 25) (k := 2) (x := (iI (c (a)))) rfl rfl rfl rfl ?_
          refine jv_iconst (pc' := 26) (n := -1) rfl rfl ?_
          refine jv_ic_ne (t := 49) (pc' := 29) (a := (c (a))) (b := (-1)) rfl rfl rfl (by omega) (fun h9 => ?_) (fun h9 => ?_)
          · skip
            exfalso; omega
          · skip
            refine jv_iload_n (pc' := 30) (k := 1) (x := (iI ((dp : Nat) : Int))) rfl rfl rfl hf1 ?_
            refine jv_if_ne (t := 47) (pc' := 33) (a := ((dp : Nat) : Int)) rfl rfl rfl (by omega) (fun h10 => ?_) (fun h10 => ?_)
            · skip
              refine jv_iconst (pc' := 48) (n := 0) rfl rfl ?_
              refine jv_retZ rfl rfl (by first | exact Or.inl rfl | exact Or.inr rfl) ⟨_, _, rfl, ?_⟩
              first
              | (exfalso; omega)
              | contradiction
              | (exfalso; rcases hn1 with q | q <;> contradiction)
              | exact ⟨_, rfl, jq_f (by rw [hok]; simp), fun _ => (by rw [he]; exact ha), fr_t hfr (fr_r _)⟩
            · skip
              refine jv_aload_n (pc' := 34) (k := 0) (x := 103) rfl rfl rfl hf0 ?_
              refine jv_getR (pc' := 37) (c := 12) (k := 21) (v := 118) rfl rfl rfl (fun _ _ => rfl) rfl rfl rfl ?_
              refine jv_iconst (pc' := 38) (n := 0) rfl rfl ?_
              refine jv_iaload (pc' := 39) (n := 16) (e := 0) (v := (iI (if b then 1 else 0))) rfl rfl (by decide) rfl rfl rfl (by omega) ((congrArg (fun q => I1 118 q) (show (0 : Int).toNat = r.length by omega)).trans hO.1) ?_
              refine jv_iconst (pc' := 40) (n := 1) rfl rfl ?_
              refine jv_ic_ne (t := 47) (pc' := 43) (a := (if b then 1 else 0)) (b := 1) rfl rfl rfl (by omega) (fun h11 => ?_) (fun h11 => ?_)
              · skip
                refine jv_iconst (pc' := 48) (n := 0) rfl rfl ?_
                refine jv_retZ rfl rfl (by first | exact Or.inl rfl | exact Or.inr rfl) ⟨_, _, rfl, ?_⟩
                first
                | (exfalso; omega)
                | contradiction
                | (exfalso; rcases hn1 with q | q <;> contradiction)
                | exact ⟨_, rfl, jq_f (by rw [hok]; simp), fun _ => (by rw [he]; exact ha), fr_t hfr (fr_r _)⟩
              · skip
                refine jv_iconst (pc' := 44) (n := 1) rfl rfl ?_
                refine jx_step (pc' := 48) rfl ?_
                refine jv_retZ rfl rfl (by first | exact Or.inl rfl | exact Or.inr rfl) ⟨_, _, rfl, ?_⟩
                first
                | (exfalso; omega)
                | contradiction
                | (exfalso; rcases hn1 with q | q <;> contradiction)
                | exact ⟨_, rfl, jq_f (by rw [hok]; simp), fun _ => (by rw [he]; exact ha), fr_t hfr (fr_r _)⟩
        · -- cl
          simp only [List.length_cons, List.length_nil] at hdp hs4
          have hn80 := hT.2.1
          have hr2 : r.length = 0 ∨ (if b = true then (1 : Int) else 0) = 0 := by
            rcases hr with hr | hr
            · rw [hr]; exact Or.inl rfl
            · rw [hr]; exact Or.inr rfl
          have hbb : (if b = true then (1 : Int) else 0) = 0 ∨ (if b = true then (1 : Int) else 0) = 1 := by cases b <;> simp
          refine jv_aload_n (pc' := 20) (k := 0) (x := 103) rfl rfl rfl hf0 ?_
          have hm12 := MT_c hT (a)
          refine jv_call (pc' := 23) rfl (ml_here (a := a) hT ha (by omega)) (fun vq13 gq13 q13 => ?_)
          obtain ⟨rfl, rfl⟩ := q13
          show jx L xs _ 121 23 _ [.int (iI (c (a)))] _ _
          refine jv_istore_n (pc' := 24) (k := 2) (x := (iI (c (a)))) rfl rfl rfl rfl (Or.inr (congrArg jm_lng hf1)) ?_
          refine jv_iload_n (pc' := 25) (k := 2) (x := (iI (c (a)))) rfl rfl rfl rfl ?_
          refine jv_iconst (pc' := 26) (n := -1) rfl rfl ?_
          refine jv_ic_ne (t := 49) (pc' := 29) (a := (c (a))) (b := (-1)) rfl rfl rfl (by omega) (fun h14 => ?_) (fun h14 => ?_)
          · skip
            refine jv_iload_n (pc' := 50) (k := 2) (x := (iI (c (a)))) rfl rfl rfl rfl ?_
            refine jv_bipush (pc' := 52) (n := 41) rfl rfl rfl ?_
            refine jv_ic_ne (t := 93) (pc' := 55) (a := (c (a))) (b := 41) rfl rfl rfl (by omega) (fun h15 => ?_) (fun h15 => ?_)
            · skip
              exfalso; omega
            · skip
              refine jv_iload_n (pc' := 56) (k := 1) (x := (iI ((dp : Nat) : Int))) rfl rfl rfl hf1 ?_
              refine jv_if_eq (t := 68) (pc' := 59) (a := ((dp : Nat) : Int)) rfl rfl rfl (by omega) (fun h16 => ?_) (fun h16 => ?_)
              · skip
                refine jv_iconst (pc' := 69) (n := 0) rfl rfl ?_
                refine jv_retZ rfl rfl (by first | exact Or.inl rfl | exact Or.inr rfl) ⟨_, _, rfl, ?_⟩
                first
                | (exfalso; omega)
                | contradiction
                | (exfalso; rcases hn1 with q | q <;> contradiction)
                | exact ⟨_, rfl, jq_f (by rw [hok]; simp), fun _ => (by rw [he]; exact ha), fr_t hfr (fr_r _)⟩
              · skip
                refine jv_aload_n (pc' := 60) (k := 0) (x := 103) rfl rfl rfl hf0 ?_
                refine jv_getR (pc' := 63) (c := 12) (k := 21) (v := 118) rfl rfl rfl (fun _ _ => rfl) rfl rfl rfl ?_
                refine jv_iload_n (pc' := 64) (k := 1) (x := (iI ((dp : Nat) : Int))) rfl rfl rfl hf1 ?_
                refine jv_iaload (pc' := 65) (n := 16) (e := ((dp : Nat) : Int)) (v := (iI (if b then 1 else 0))) rfl rfl (by decide) rfl rfl rfl (by omega) ((congrArg (fun q => I1 118 q) (show (((dp : Nat) : Int) : Int).toNat = r.length by omega)).trans hO.1) ?_
                refine jv_if_ne (t := 70) (pc' := 68) (a := (if b then 1 else 0)) rfl rfl rfl (by omega) (fun h17 => ?_) (fun h17 => ?_)
                · skip
                  refine jv_aload_n (pc' := 71) (k := 0) (x := 103) rfl rfl rfl hf0 ?_
                  refine jx_step (pc' := 72) rfl ?_
                  refine jv_getI (pc' := 75) (c := 12) (k := 19) (v := (iI ((a : Nat) : Int))) rfl rfl rfl (fun _ _ => rfl) rfl rfl ha ?_
                  refine jv_iconst (pc' := 76) (n := 1) rfl rfl ?_
                  refine jv_iadd (pc' := 77) (a := ((a : Nat) : Int)) (b := 1) rfl rfl ?_
                  refine jv_putI (pc' := 80) (c := 12) (k := 19) rfl rfl rfl rfl (fun _ _ _  => rfl) rfl rfl ?_
                  refine jv_iinc (pc' := 83) (k := 1) (a := ((dp : Nat) : Int)) rfl rfl hf1 rfl (Or.inr (congrArg jm_lng hf0)) ?_
                  refine jv_aload_n (pc' := 84) (k := 0) (x := 103) rfl rfl rfl hf0 ?_
                  refine jv_getR (pc' := 87) (c := 12) (k := 21) (v := 118) rfl rfl rfl (fun _ _ => rfl) rfl rfl rfl ?_
                  refine jv_iload_n (pc' := 88) (k := 1) (x := (iI (((dp : Nat) : Int) + (-1)))) rfl rfl rfl rfl ?_
                  refine jv_iconst (pc' := 89) (n := 1) rfl rfl ?_
                  refine jv_iastore (pc' := 90) (n := 16) (e := (((dp : Nat) : Int) + (-1))) (v := (iI 1)) rfl rfl rfl rfl rfl (by omega) ?_
                  refine jx_step (pc' := 238) rfl ?_
                  refine jx_step (pc' := 19) rfl ?_
                  first | (exfalso; omega) | contradiction
                · skip
                  refine jv_iconst (pc' := 69) (n := 0) rfl rfl ?_
                  refine jv_retZ rfl rfl (by first | exact Or.inl rfl | exact Or.inr rfl) ⟨_, _, rfl, ?_⟩
                  first
                  | (exfalso; omega)
                  | contradiction
                  | (exfalso; rcases hn1 with q | q <;> contradiction)
                  | exact ⟨_, rfl, jq_f (by rw [hok]; simp), fun _ => (by rw [he]; exact ha), fr_t hfr (fr_r _)⟩
          · skip
            exfalso; omega
        · -- ch0
          simp only [List.length_cons, List.length_nil] at hdp hs4
          have hn80 := hT.2.1
          have hr2 : 0 < r.length ∨ (if b = true then (1 : Int) else 0) = 0 := by
            rcases hr with hr | hr
            · exact Or.inl (List.length_pos_iff.mpr hr)
            · rw [hr]; exact Or.inr rfl
          have hbb : (if b = true then (1 : Int) else 0) = 0 ∨ (if b = true then (1 : Int) else 0) = 1 := by cases b <;> simp
          refine jv_aload_n (pc' := 20) (k := 0) (x := 103) rfl rfl rfl hf0 ?_
          have hm18 := MT_c hT (a)
          refine jv_call (pc' := 23) rfl (ml_here (a := a) hT ha (by omega)) (fun vq19 gq19 q19 => ?_)
          obtain ⟨rfl, rfl⟩ := q19
          show jx L xs _ 121 23 _ [.int (iI (c (a)))] _ _
          refine jv_istore_n (pc' := 24) (k := 2) (x := (iI (c (a)))) rfl rfl rfl rfl (Or.inr (congrArg jm_lng hf1)) ?_
          refine jv_iload_n (pc' := 25) (k := 2) (x := (iI (c (a)))) rfl rfl rfl rfl ?_
          refine jv_iconst (pc' := 26) (n := -1) rfl rfl ?_
          refine jv_ic_ne (t := 49) (pc' := 29) (a := (c (a))) (b := (-1)) rfl rfl rfl (by omega) (fun h20 => ?_) (fun h20 => ?_)
          · skip
            refine jv_iload_n (pc' := 50) (k := 2) (x := (iI (c (a)))) rfl rfl rfl rfl ?_
            refine jv_bipush (pc' := 52) (n := 41) rfl rfl rfl ?_
            refine jv_ic_ne (t := 93) (pc' := 55) (a := (c (a))) (b := 41) rfl rfl rfl (by omega) (fun h21 => ?_) (fun h21 => ?_)
            · skip
              refine jv_iload_n (pc' := 94) (k := 2) (x := (iI (c (a)))) rfl rfl rfl rfl ?_
              refine jv_bipush (pc' := 96) (n := 62) rfl rfl rfl ?_
              refine jv_ic_ne (t := 148) (pc' := 99) (a := (c (a))) (b := 62) rfl rfl rfl (by omega) (fun h22 => ?_) (fun h22 => ?_)
              · skip
                exfalso; omega
              · skip
                refine jv_iload_n (pc' := 100) (k := 1) (x := (iI ((dp : Nat) : Int))) rfl rfl rfl hf1 ?_
                refine jv_if_gt (t := 112) (pc' := 103) (a := ((dp : Nat) : Int)) rfl rfl rfl (by omega) (fun h23 => ?_) (fun h23 => ?_)
                · skip
                  refine jv_iconst (pc' := 113) (n := 0) rfl rfl ?_
                  refine jv_retZ rfl rfl (by first | exact Or.inl rfl | exact Or.inr rfl) ⟨_, _, rfl, ?_⟩
                  first
                  | (exfalso; omega)
                  | contradiction
                  | (exfalso; rcases hn1 with q | q <;> contradiction)
                  | exact ⟨_, rfl, jq_f (by rw [hok]; simp), fun _ => (by rw [he]; exact ha), fr_t hfr (fr_r _)⟩
                · skip
                  refine jv_aload_n (pc' := 104) (k := 0) (x := 103) rfl rfl rfl hf0 ?_
                  refine jv_getR (pc' := 107) (c := 12) (k := 21) (v := 118) rfl rfl rfl (fun _ _ => rfl) rfl rfl rfl ?_
                  refine jv_iconst (pc' := 108) (n := 0) rfl rfl ?_
                  refine jv_iaload (pc' := 109) (n := 16) (e := 0) (v := (iI (if b then 1 else 0))) rfl rfl (by decide) rfl rfl rfl (by omega) ((congrArg (fun q => I1 118 q) (show (0 : Int).toNat = r.length by omega)).trans hO.1) ?_
                  refine jv_if_ne (t := 114) (pc' := 112) (a := (if b then 1 else 0)) rfl rfl rfl (by omega) (fun h24 => ?_) (fun h24 => ?_)
                  · skip
                    refine jv_aload_n (pc' := 115) (k := 0) (x := 103) rfl rfl rfl hf0 ?_
                    refine jx_step (pc' := 116) rfl ?_
                    refine jv_getI (pc' := 119) (c := 12) (k := 19) (v := (iI ((a : Nat) : Int))) rfl rfl rfl (fun _ _ => rfl) rfl rfl ha ?_
                    refine jv_iconst (pc' := 120) (n := 1) rfl rfl ?_
                    refine jv_iadd (pc' := 121) (a := ((a : Nat) : Int)) (b := 1) rfl rfl ?_
                    refine jv_putI (pc' := 124) (c := 12) (k := 19) rfl rfl rfl rfl (fun _ _ _  => rfl) rfl rfl ?_
                    refine jv_aload_n (pc' := 125) (k := 0) (x := 103) rfl rfl rfl hf0 ?_
                    by_cases hk25 : knw c (F) (a + 1)
                    · skip
                      have hhk25 := hk25.1
                      refine jv_call (pc' := 128) rfl (ml_known_y (a := a + 1) (F := F) hT rfl (by omega) hF hF2 hk25) (fun vq26 gq26 q26 => ?_)
                      obtain ⟨rfl, rfl⟩ := q26
                      show jx L xs _ 121 128 _ [.int (iI (c (a + 1) - 97))] _ _
                      refine jv_if_lt (t := 146) (pc' := 131) (a := (c (a + 1) - 97)) rfl rfl rfl (by omega) (fun h27 => ?_) (fun h27 => ?_)
                      · skip
                        refine jv_iconst (pc' := 147) (n := 0) rfl rfl ?_
                        refine jv_retZ rfl rfl (by first | exact Or.inl rfl | exact Or.inr rfl) ⟨_, _, rfl, ?_⟩
                        first
                        | (exfalso; omega)
                        | contradiction
                        | (exfalso; rcases hn1 with q | q <;> contradiction)
                        | exact ⟨_, rfl, jq_f (by rw [hok]; simp), fun _ => (by rw [he]; exact rfl), fr_t hfr (fr_u (by simp [wP]) (fr_u (by simp [wP]) (fr_r _)))⟩
                      · skip
                        refine jv_aload_n (pc' := 132) (k := 0) (x := 103) rfl rfl rfl hf0 ?_
                        refine jv_getI (pc' := 135) (c := 12) (k := 19) (v := (iI ((a + 2 : Nat) : Int))) rfl rfl rfl (fun _ _ => rfl) rfl rfl rfl ?_
                        refine jv_aload_n (pc' := 136) (k := 0) (x := 103) rfl rfl rfl hf0 ?_
                        refine jv_getI (pc' := 139) (c := 12) (k := 18) (v := (iI (n : Int))) rfl rfl rfl (fun _ _ => rfl) rfl rfl hT.1 ?_
                        refine jv_ic_ne (t := 146) (pc' := 142) (a := ((a + 2 : Nat) : Int)) (b := (n : Int)) rfl rfl rfl (by omega) (fun h28 => ?_) (fun h28 => ?_)
                        · skip
                          refine jv_iconst (pc' := 147) (n := 0) rfl rfl ?_
                          refine jv_retZ rfl rfl (by first | exact Or.inl rfl | exact Or.inr rfl) ⟨_, _, rfl, ?_⟩
                          first
                          | (exfalso; omega)
                          | contradiction
                          | (exfalso; rcases hn1 with q | q <;> contradiction)
                          | exact ⟨_, rfl, jq_f (by rw [hok]; simp), fun _ => (by rw [he]; exact rfl), fr_t hfr (fr_u (by simp [wP]) (fr_u (by simp [wP]) (fr_r _)))⟩
                        · skip
                          refine jv_iconst (pc' := 143) (n := 1) rfl rfl ?_
                          refine jx_step (pc' := 147) rfl ?_
                          refine jv_retZ rfl rfl (by first | exact Or.inl rfl | exact Or.inr rfl) ⟨_, _, rfl, ?_⟩
                          first
                          | (exfalso; omega)
                          | contradiction
                          | (exfalso; rcases hn1 with q | q <;> contradiction)
                          | exact ⟨_, rfl, jq_f (by rw [hok]; simp), fun _ => (by rw [he]; exact rfl), fr_t hfr (fr_u (by simp [wP]) (fr_u (by simp [wP]) (fr_r _)))⟩
                    · skip
                      refine jv_call (pc' := 128) rfl (ml_known_n (a := a + 1) (F := F) hT rfl (by omega) hF hF2 hk25) (fun vq29 gq29 q29 => ?_)
                      obtain ⟨rfl, rfl⟩ := q29
                      show jx L xs _ 121 128 _ [.int (iI (-1))] _ _
                      refine jv_if_lt (t := 146) (pc' := 131) (a := (-1)) rfl rfl rfl (by omega) (fun h30 => ?_) (fun h30 => ?_)
                      · skip
                        refine jv_iconst (pc' := 147) (n := 0) rfl rfl ?_
                        refine jv_retZ rfl rfl (by first | exact Or.inl rfl | exact Or.inr rfl) ⟨_, _, rfl, ?_⟩
                        first
                        | (exfalso; omega)
                        | contradiction
                        | (exfalso; rcases hn1 with q | q <;> contradiction)
                        | exact ⟨_, rfl, jq_f (by rw [hok]; simp), fun _ => (by rw [he]; exact rfl), fr_t hfr (fr_u (by simp [wP]) (fr_r _))⟩
                      · skip
                        exact absurd h30 (by decide)
                  · skip
                    refine jv_iconst (pc' := 113) (n := 0) rfl rfl ?_
                    refine jv_retZ rfl rfl (by first | exact Or.inl rfl | exact Or.inr rfl) ⟨_, _, rfl, ?_⟩
                    first
                    | (exfalso; omega)
                    | contradiction
                    | (exfalso; rcases hn1 with q | q <;> contradiction)
                    | exact ⟨_, rfl, jq_f (by rw [hok]; simp), fun _ => (by rw [he]; exact ha), fr_t hfr (fr_r _)⟩
            · skip
              exfalso; omega
          · skip
            exfalso; omega
        · -- ch1
          simp only [List.length_cons, List.length_nil] at hdp hs4
          have hn80 := hT.2.1
          refine jv_aload_n (pc' := 20) (k := 0) (x := 103) rfl rfl rfl hf0 ?_
          have hm31 := MT_c hT (a)
          refine jv_call (pc' := 23) rfl (ml_here (a := a) hT ha (by omega)) (fun vq32 gq32 q32 => ?_)
          obtain ⟨rfl, rfl⟩ := q32
          show jx L xs _ 121 23 _ [.int (iI (c (a)))] _ _
          refine jv_istore_n (pc' := 24) (k := 2) (x := (iI (c (a)))) rfl rfl rfl rfl (Or.inr (congrArg jm_lng hf1)) ?_
          refine jv_iload_n (pc' := 25) (k := 2) (x := (iI (c (a)))) rfl rfl rfl rfl ?_
          refine jv_iconst (pc' := 26) (n := -1) rfl rfl ?_
          refine jv_ic_ne (t := 49) (pc' := 29) (a := (c (a))) (b := (-1)) rfl rfl rfl (by omega) (fun h33 => ?_) (fun h33 => ?_)
          · skip
            refine jv_iload_n (pc' := 50) (k := 2) (x := (iI (c (a)))) rfl rfl rfl rfl ?_
            refine jv_bipush (pc' := 52) (n := 41) rfl rfl rfl ?_
            refine jv_ic_ne (t := 93) (pc' := 55) (a := (c (a))) (b := 41) rfl rfl rfl (by omega) (fun h34 => ?_) (fun h34 => ?_)
            · skip
              refine jv_iload_n (pc' := 94) (k := 2) (x := (iI (c (a)))) rfl rfl rfl rfl ?_
              refine jv_bipush (pc' := 96) (n := 62) rfl rfl rfl ?_
              refine jv_ic_ne (t := 148) (pc' := 99) (a := (c (a))) (b := 62) rfl rfl rfl (by omega) (fun h35 => ?_) (fun h35 => ?_)
              · skip
                exfalso; omega
              · skip
                refine jv_iload_n (pc' := 100) (k := 1) (x := (iI ((dp : Nat) : Int))) rfl rfl rfl hf1 ?_
                refine jv_if_gt (t := 112) (pc' := 103) (a := ((dp : Nat) : Int)) rfl rfl rfl (by omega) (fun h36 => ?_) (fun h36 => ?_)
                · skip
                  refine jv_iconst (pc' := 113) (n := 0) rfl rfl ?_
                  refine jv_retZ rfl rfl (by first | exact Or.inl rfl | exact Or.inr rfl) ⟨_, _, rfl, ?_⟩
                  first
                  | (exfalso; omega)
                  | contradiction
                  | (exfalso; rcases hn1 with q | q <;> contradiction)
                  | exact ⟨_, rfl, jq_f (by rw [hok]; simp), fun _ => (by rw [he]; exact ha), fr_t hfr (fr_r _)⟩
                · skip
                  refine jv_aload_n (pc' := 104) (k := 0) (x := 103) rfl rfl rfl hf0 ?_
                  refine jv_getR (pc' := 107) (c := 12) (k := 21) (v := 118) rfl rfl rfl (fun _ _ => rfl) rfl rfl rfl ?_
                  refine jv_iconst (pc' := 108) (n := 0) rfl rfl ?_
                  refine jv_iaload (pc' := 109) (n := 16) (e := 0) (v := (iI 1)) rfl rfl (by decide) rfl rfl rfl (by omega) ((congrArg (fun q => I1 118 q) (show (0 : Int).toNat = 0 by omega)).trans hO.1) ?_
                  refine jv_if_ne (t := 114) (pc' := 112) (a := 1) rfl rfl rfl (by omega) (fun h37 => ?_) (fun h37 => ?_)
                  · skip
                    refine jv_aload_n (pc' := 115) (k := 0) (x := 103) rfl rfl rfl hf0 ?_
                    refine jx_step (pc' := 116) rfl ?_
                    refine jv_getI (pc' := 119) (c := 12) (k := 19) (v := (iI ((a : Nat) : Int))) rfl rfl rfl (fun _ _ => rfl) rfl rfl ha ?_
                    refine jv_iconst (pc' := 120) (n := 1) rfl rfl ?_
                    refine jv_iadd (pc' := 121) (a := ((a : Nat) : Int)) (b := 1) rfl rfl ?_
                    refine jv_putI (pc' := 124) (c := 12) (k := 19) rfl rfl rfl rfl (fun _ _ _  => rfl) rfl rfl ?_
                    refine jv_aload_n (pc' := 125) (k := 0) (x := 103) rfl rfl rfl hf0 ?_
                    by_cases hk38 : knw c (F) (a + 1)
                    · skip
                      have hhk38 := hk38.1
                      refine jv_call (pc' := 128) rfl (ml_known_y (a := a + 1) (F := F) hT rfl (by omega) hF hF2 hk38) (fun vq39 gq39 q39 => ?_)
                      obtain ⟨rfl, rfl⟩ := q39
                      show jx L xs _ 121 128 _ [.int (iI (c (a + 1) - 97))] _ _
                      refine jv_if_lt (t := 146) (pc' := 131) (a := (c (a + 1) - 97)) rfl rfl rfl (by omega) (fun h40 => ?_) (fun h40 => ?_)
                      · skip
                        refine jv_iconst (pc' := 147) (n := 0) rfl rfl ?_
                        refine jv_retZ rfl rfl (by first | exact Or.inl rfl | exact Or.inr rfl) ⟨_, _, rfl, ?_⟩
                        first
                        | (exfalso; omega)
                        | contradiction
                        | (exfalso; rcases hn1 with q | q <;> contradiction)
                        | exact ⟨_, rfl, jq_f (by rw [hok]; simp), fun _ => (by rw [he]; exact rfl), fr_t hfr (fr_u (by simp [wP]) (fr_u (by simp [wP]) (fr_r _)))⟩
                      · skip
                        refine jv_aload_n (pc' := 132) (k := 0) (x := 103) rfl rfl rfl hf0 ?_
                        refine jv_getI (pc' := 135) (c := 12) (k := 19) (v := (iI ((a + 2 : Nat) : Int))) rfl rfl rfl (fun _ _ => rfl) rfl rfl rfl ?_
                        refine jv_aload_n (pc' := 136) (k := 0) (x := 103) rfl rfl rfl hf0 ?_
                        refine jv_getI (pc' := 139) (c := 12) (k := 18) (v := (iI (n : Int))) rfl rfl rfl (fun _ _ => rfl) rfl rfl hT.1 ?_
                        refine jv_ic_ne (t := 146) (pc' := 142) (a := ((a + 2 : Nat) : Int)) (b := (n : Int)) rfl rfl rfl (by omega) (fun h41 => ?_) (fun h41 => ?_)
                        · skip
                          refine jv_iconst (pc' := 147) (n := 0) rfl rfl ?_
                          refine jv_retZ rfl rfl (by first | exact Or.inl rfl | exact Or.inr rfl) ⟨_, _, rfl, ?_⟩
                          first
                          | (exfalso; omega)
                          | contradiction
                          | (exfalso; rcases hn1 with q | q <;> contradiction)
                          | exact ⟨_, rfl, jq_f (by rw [hok]; simp), fun _ => (by rw [he]; exact rfl), fr_t hfr (fr_u (by simp [wP]) (fr_u (by simp [wP]) (fr_r _)))⟩
                        · skip
                          refine jv_iconst (pc' := 143) (n := 1) rfl rfl ?_
                          refine jx_step (pc' := 147) rfl ?_
                          refine jv_retZ rfl rfl (by first | exact Or.inl rfl | exact Or.inr rfl) ⟨_, _, rfl, ?_⟩
                          first
                          | (exfalso; omega)
                          | contradiction
                          | (exfalso; rcases hn1 with q | q <;> contradiction)
                          | exact ⟨_, rfl, jq_f (by rw [hok]; simp), fun _ => (by rw [he]; exact rfl), fr_t hfr (fr_u (by simp [wP]) (fr_u (by simp [wP]) (fr_r _)))⟩
                    · skip
                      refine jv_call (pc' := 128) rfl (ml_known_n (a := a + 1) (F := F) hT rfl (by omega) hF hF2 hk38) (fun vq42 gq42 q42 => ?_)
                      obtain ⟨rfl, rfl⟩ := q42
                      show jx L xs _ 121 128 _ [.int (iI (-1))] _ _
                      refine jv_if_lt (t := 146) (pc' := 131) (a := (-1)) rfl rfl rfl (by omega) (fun h43 => ?_) (fun h43 => ?_)
                      · skip
                        refine jv_iconst (pc' := 147) (n := 0) rfl rfl ?_
                        refine jv_retZ rfl rfl (by first | exact Or.inl rfl | exact Or.inr rfl) ⟨_, _, rfl, ?_⟩
                        first
                        | (exfalso; omega)
                        | contradiction
                        | (exfalso; rcases hn1 with q | q <;> contradiction)
                        | exact ⟨_, rfl, jq_f (by rw [hok]; simp), fun _ => (by rw [he]; exact rfl), fr_t hfr (fr_u (by simp [wP]) (fr_r _))⟩
                      · skip
                        exact absurd h43 (by decide)
                  · skip
                    exact absurd h37 (by decide)
            · skip
              exfalso; omega
          · skip
            exfalso; omega
        · -- ch2
          simp only [List.length_cons, List.length_nil] at hdp hs4
          have hn80 := hT.2.1
          refine jv_aload_n (pc' := 20) (k := 0) (x := 103) rfl rfl rfl hf0 ?_
          have hm44 := MT_c hT (a)
          refine jv_call (pc' := 23) rfl (ml_here (a := a) hT ha (by omega)) (fun vq45 gq45 q45 => ?_)
          obtain ⟨rfl, rfl⟩ := q45
          show jx L xs _ 121 23 _ [.int (iI (c (a)))] _ _
          refine jv_istore_n (pc' := 24) (k := 2) (x := (iI (c (a)))) rfl rfl rfl rfl (Or.inr (congrArg jm_lng hf1)) ?_
          refine jv_iload_n (pc' := 25) (k := 2) (x := (iI (c (a)))) rfl rfl rfl rfl ?_
          refine jv_iconst (pc' := 26) (n := -1) rfl rfl ?_
          refine jv_ic_ne (t := 49) (pc' := 29) (a := (c (a))) (b := (-1)) rfl rfl rfl (by omega) (fun h46 => ?_) (fun h46 => ?_)
          · skip
            refine jv_iload_n (pc' := 50) (k := 2) (x := (iI (c (a)))) rfl rfl rfl rfl ?_
            refine jv_bipush (pc' := 52) (n := 41) rfl rfl rfl ?_
            refine jv_ic_ne (t := 93) (pc' := 55) (a := (c (a))) (b := 41) rfl rfl rfl (by omega) (fun h47 => ?_) (fun h47 => ?_)
            · skip
              refine jv_iload_n (pc' := 94) (k := 2) (x := (iI (c (a)))) rfl rfl rfl rfl ?_
              refine jv_bipush (pc' := 96) (n := 62) rfl rfl rfl ?_
              refine jv_ic_ne (t := 148) (pc' := 99) (a := (c (a))) (b := 62) rfl rfl rfl (by omega) (fun h48 => ?_) (fun h48 => ?_)
              · skip
                exfalso; omega
              · skip
                refine jv_iload_n (pc' := 100) (k := 1) (x := (iI ((dp : Nat) : Int))) rfl rfl rfl hf1 ?_
                refine jv_if_gt (t := 112) (pc' := 103) (a := ((dp : Nat) : Int)) rfl rfl rfl (by omega) (fun h49 => ?_) (fun h49 => ?_)
                · skip
                  refine jv_iconst (pc' := 113) (n := 0) rfl rfl ?_
                  refine jv_retZ rfl rfl (by first | exact Or.inl rfl | exact Or.inr rfl) ⟨_, _, rfl, ?_⟩
                  first
                  | (exfalso; omega)
                  | contradiction
                  | (exfalso; rcases hn1 with q | q <;> contradiction)
                  | exact ⟨_, rfl, jq_f (by rw [hok]; simp; omega), fun _ => (by rw [he]; exact ha), fr_t hfr (fr_r _)⟩
                · skip
                  refine jv_aload_n (pc' := 104) (k := 0) (x := 103) rfl rfl rfl hf0 ?_
                  refine jv_getR (pc' := 107) (c := 12) (k := 21) (v := 118) rfl rfl rfl (fun _ _ => rfl) rfl rfl rfl ?_
                  refine jv_iconst (pc' := 108) (n := 0) rfl rfl ?_
                  refine jv_iaload (pc' := 109) (n := 16) (e := 0) (v := (iI 1)) rfl rfl (by decide) rfl rfl rfl (by omega) ((congrArg (fun q => I1 118 q) (show (0 : Int).toNat = 0 by omega)).trans hO.1) ?_
                  refine jv_if_ne (t := 114) (pc' := 112) (a := 1) rfl rfl rfl (by omega) (fun h50 => ?_) (fun h50 => ?_)
                  · skip
                    refine jv_aload_n (pc' := 115) (k := 0) (x := 103) rfl rfl rfl hf0 ?_
                    refine jx_step (pc' := 116) rfl ?_
                    refine jv_getI (pc' := 119) (c := 12) (k := 19) (v := (iI ((a : Nat) : Int))) rfl rfl rfl (fun _ _ => rfl) rfl rfl ha ?_
                    refine jv_iconst (pc' := 120) (n := 1) rfl rfl ?_
                    refine jv_iadd (pc' := 121) (a := ((a : Nat) : Int)) (b := 1) rfl rfl ?_
                    refine jv_putI (pc' := 124) (c := 12) (k := 19) rfl rfl rfl rfl (fun _ _ _  => rfl) rfl rfl ?_
                    refine jv_aload_n (pc' := 125) (k := 0) (x := 103) rfl rfl rfl hf0 ?_
                    by_cases hk51 : knw c (F) (a + 1)
                    · skip
                      have hhk51 := hk51.1
                      refine jv_call (pc' := 128) rfl (ml_known_y (a := a + 1) (F := F) hT rfl (by omega) hF hF2 hk51) (fun vq52 gq52 q52 => ?_)
                      obtain ⟨rfl, rfl⟩ := q52
                      show jx L xs _ 121 128 _ [.int (iI (c (a + 1) - 97))] _ _
                      refine jv_if_lt (t := 146) (pc' := 131) (a := (c (a + 1) - 97)) rfl rfl rfl (by omega) (fun h53 => ?_) (fun h53 => ?_)
                      · skip
                        refine jv_iconst (pc' := 147) (n := 0) rfl rfl ?_
                        refine jv_retZ rfl rfl (by first | exact Or.inl rfl | exact Or.inr rfl) ⟨_, _, rfl, ?_⟩
                        first
                        | (exfalso; omega)
                        | contradiction
                        | (exfalso; rcases hn1 with q | q <;> contradiction)
                        | exact ⟨_, rfl, jq_f (by rw [hok]; simp; omega), fun _ => (by rw [he]; exact rfl), fr_t hfr (fr_u (by simp [wP]) (fr_u (by simp [wP]) (fr_r _)))⟩
                      · skip
                        refine jv_aload_n (pc' := 132) (k := 0) (x := 103) rfl rfl rfl hf0 ?_
                        refine jv_getI (pc' := 135) (c := 12) (k := 19) (v := (iI ((a + 2 : Nat) : Int))) rfl rfl rfl (fun _ _ => rfl) rfl rfl rfl ?_
                        refine jv_aload_n (pc' := 136) (k := 0) (x := 103) rfl rfl rfl hf0 ?_
                        refine jv_getI (pc' := 139) (c := 12) (k := 18) (v := (iI (n : Int))) rfl rfl rfl (fun _ _ => rfl) rfl rfl hT.1 ?_
                        refine jv_ic_ne (t := 146) (pc' := 142) (a := ((a + 2 : Nat) : Int)) (b := (n : Int)) rfl rfl rfl (by omega) (fun h54 => ?_) (fun h54 => ?_)
                        · skip
                          refine jv_iconst (pc' := 147) (n := 0) rfl rfl ?_
                          refine jv_retZ rfl rfl (by first | exact Or.inl rfl | exact Or.inr rfl) ⟨_, _, rfl, ?_⟩
                          first
                          | (exfalso; omega)
                          | contradiction
                          | (exfalso; rcases hn1 with q | q <;> contradiction)
                          | exact ⟨_, rfl, jq_f (by rw [hok]; simp; omega), fun _ => (by rw [he]; exact rfl), fr_t hfr (fr_u (by simp [wP]) (fr_u (by simp [wP]) (fr_r _)))⟩
                        · skip
                          refine jv_iconst (pc' := 143) (n := 1) rfl rfl ?_
                          refine jx_step (pc' := 147) rfl ?_
                          refine jv_retZ rfl rfl (by first | exact Or.inl rfl | exact Or.inr rfl) ⟨_, _, rfl, ?_⟩
                          first
                          | (exfalso; omega)
                          | contradiction
                          | (exfalso; rcases hn1 with q | q <;> contradiction)
                          | exact ⟨_, rfl, jq_t (by rw [hok]; simp; omega), fun _ => (by rw [he]; exact rfl), fr_t hfr (fr_u (by simp [wP]) (fr_u (by simp [wP]) (fr_r _)))⟩
                    · skip
                      refine jv_call (pc' := 128) rfl (ml_known_n (a := a + 1) (F := F) hT rfl (by omega) hF hF2 hk51) (fun vq55 gq55 q55 => ?_)
                      obtain ⟨rfl, rfl⟩ := q55
                      show jx L xs _ 121 128 _ [.int (iI (-1))] _ _
                      refine jv_if_lt (t := 146) (pc' := 131) (a := (-1)) rfl rfl rfl (by omega) (fun h56 => ?_) (fun h56 => ?_)
                      · skip
                        refine jv_iconst (pc' := 147) (n := 0) rfl rfl ?_
                        refine jv_retZ rfl rfl (by first | exact Or.inl rfl | exact Or.inr rfl) ⟨_, _, rfl, ?_⟩
                        first
                        | (exfalso; omega)
                        | contradiction
                        | (exfalso; rcases hn1 with q | q <;> contradiction)
                        | exact ⟨_, rfl, jq_f (by rw [hok]; simp; omega), fun _ => (by rw [he]; exact rfl), fr_t hfr (fr_u (by simp [wP]) (fr_r _))⟩
                      · skip
                        exact absurd h56 (by decide)
                  · skip
                    exact absurd h50 (by decide)
            · skip
              exfalso; omega
          · skip
            exfalso; omega
        · -- bl
          simp only [List.length_cons, List.length_nil] at hdp hs4
          have hn80 := hT.2.1
          have hn2 : ¬ c (a + 1) = 42 := fun q => hn1 (Or.inl q)
          have hn3 : ¬ knw c F (a + 1) := fun q => hn1 (Or.inr q)
          have hbb : (if b = true then (1 : Int) else 0) = 0 ∨ (if b = true then (1 : Int) else 0) = 1 := by cases b <;> simp
          refine jv_aload_n (pc' := 20) (k := 0) (x := 103) rfl rfl rfl hf0 ?_
          have hm57 := MT_c hT (a)
          refine jv_call (pc' := 23) rfl (ml_here (a := a) hT ha (by omega)) (fun vq58 gq58 q58 => ?_)
          obtain ⟨rfl, rfl⟩ := q58
          show jx L xs _ 121 23 _ [.int (iI (c (a)))] _ _
          refine jv_istore_n (pc' := 24) (k := 2) (x := (iI (c (a)))) rfl rfl rfl rfl (Or.inr (congrArg jm_lng hf1)) ?_
          refine jv_iload_n (pc' := 25) (k := 2) (x := (iI (c (a)))) rfl rfl rfl rfl ?_
          refine jv_iconst (pc' := 26) (n := -1) rfl rfl ?_
          refine jv_ic_ne (t := 49) (pc' := 29) (a := (c (a))) (b := (-1)) rfl rfl rfl (by omega) (fun h59 => ?_) (fun h59 => ?_)
          · skip
            refine jv_iload_n (pc' := 50) (k := 2) (x := (iI (c (a)))) rfl rfl rfl rfl ?_
            refine jv_bipush (pc' := 52) (n := 41) rfl rfl rfl ?_
            refine jv_ic_ne (t := 93) (pc' := 55) (a := (c (a))) (b := 41) rfl rfl rfl (by omega) (fun h60 => ?_) (fun h60 => ?_)
            · skip
              refine jv_iload_n (pc' := 94) (k := 2) (x := (iI (c (a)))) rfl rfl rfl rfl ?_
              refine jv_bipush (pc' := 96) (n := 62) rfl rfl rfl ?_
              refine jv_ic_ne (t := 148) (pc' := 99) (a := (c (a))) (b := 62) rfl rfl rfl (by omega) (fun h61 => ?_) (fun h61 => ?_)
              · skip
                refine jv_iload_n (pc' := 149) (k := 2) (x := (iI (c (a)))) rfl rfl rfl rfl ?_
                refine jv_bipush (pc' := 151) (n := 36) rfl rfl rfl ?_
                refine jv_ic_ne (t := 183) (pc' := 154) (a := (c (a))) (b := 36) rfl rfl rfl (by omega) (fun h62 => ?_) (fun h62 => ?_)
                · skip
                  exfalso; omega
                · skip
                  refine jv_aload_n (pc' := 155) (k := 0) (x := 103) rfl rfl rfl hf0 ?_
                  refine jx_step (pc' := 156) rfl ?_
                  refine jv_getI (pc' := 159) (c := 12) (k := 19) (v := (iI ((a : Nat) : Int))) rfl rfl rfl (fun _ _ => rfl) rfl rfl ha ?_
                  refine jv_iconst (pc' := 160) (n := 1) rfl rfl ?_
                  refine jv_iadd (pc' := 161) (a := ((a : Nat) : Int)) (b := 1) rfl rfl ?_
                  refine jv_putI (pc' := 164) (c := 12) (k := 19) rfl rfl rfl rfl (fun _ _ _  => rfl) rfl rfl ?_
                  refine jv_aload_n (pc' := 165) (k := 0) (x := 103) rfl rfl rfl hf0 ?_
                  by_cases hs64 : c (a + 1) = 42
                  · skip
                    refine jv_call (pc' := 168) rfl (ml_count_s (a := a + 1) (F := F) hT rfl (by omega) hF hF2 hs64) (fun vq65 gq65 q65 => ?_)
                    obtain ⟨rfl, rfl⟩ := q65
                    show jx L xs _ 121 168 _ [.int (iI 8)] _ _
                    refine jv_if_ge (t := 173) (pc' := 171) (a := 8) rfl rfl rfl (by omega) (fun h66 => ?_) (fun h66 => ?_)
                    · skip
                      refine jv_aload_n (pc' := 174) (k := 0) (x := 103) rfl rfl rfl hf0 ?_
                      refine jv_getR (pc' := 177) (c := 12) (k := 21) (v := 118) rfl rfl rfl (fun _ _ => rfl) rfl rfl rfl ?_
                      refine jv_iload_n (pc' := 178) (k := 1) (x := (iI ((dp : Nat) : Int))) rfl rfl rfl hf1 ?_
                      refine jv_iconst (pc' := 179) (n := 1) rfl rfl ?_
                      refine jv_iastore (pc' := 180) (n := 16) (e := ((dp : Nat) : Int)) (v := (iI 1)) rfl rfl rfl rfl rfl (by omega) ?_
                      refine jx_step (pc' := 238) rfl ?_
                      refine jx_step (pc' := 19) rfl ?_
                      first | (exfalso; omega) | contradiction
                    · skip
                      exact absurd h66 (by decide)
                  · skip
                    by_cases hk63 : knw c (F) (a + 1)
                    · skip
                      have hhk63 := hk63.1
                      refine jv_call (pc' := 168) rfl (ml_count_y (a := a + 1) (F := F) hT rfl (by omega) hF hF2 hs64 hk63) (fun vq67 gq67 q67 => ?_)
                      obtain ⟨rfl, rfl⟩ := q67
                      show jx L xs _ 121 168 _ [.int (iI (c (a + 1) - 97))] _ _
                      refine jv_if_ge (t := 173) (pc' := 171) (a := (c (a + 1) - 97)) rfl rfl rfl (by omega) (fun h68 => ?_) (fun h68 => ?_)
                      · skip
                        refine jv_aload_n (pc' := 174) (k := 0) (x := 103) rfl rfl rfl hf0 ?_
                        refine jv_getR (pc' := 177) (c := 12) (k := 21) (v := 118) rfl rfl rfl (fun _ _ => rfl) rfl rfl rfl ?_
                        refine jv_iload_n (pc' := 178) (k := 1) (x := (iI ((dp : Nat) : Int))) rfl rfl rfl hf1 ?_
                        refine jv_iconst (pc' := 179) (n := 1) rfl rfl ?_
                        refine jv_iastore (pc' := 180) (n := 16) (e := ((dp : Nat) : Int)) (v := (iI 1)) rfl rfl rfl rfl rfl (by omega) ?_
                        refine jx_step (pc' := 238) rfl ?_
                        refine jx_step (pc' := 19) rfl ?_
                        first | (exfalso; omega) | contradiction
                      · skip
                        refine jv_iconst (pc' := 172) (n := 0) rfl rfl ?_
                        refine jv_retZ rfl rfl (by first | exact Or.inl rfl | exact Or.inr rfl) ⟨_, _, rfl, ?_⟩
                        first
                        | (exfalso; omega)
                        | contradiction
                        | (exfalso; rcases hn1 with q | q <;> contradiction)
                        | exact ⟨_, rfl, jq_f (by rw [hok]; simp), fun _ => (by rw [he]; exact rfl), fr_t hfr (fr_u (by simp [wP]) (fr_u (by simp [wP]) (fr_r _)))⟩
                    · skip
                      refine jv_call (pc' := 168) rfl (ml_count_n (a := a + 1) (F := F) hT rfl (by omega) hF hF2 hs64 hk63) (fun vq69 gq69 q69 => ?_)
                      obtain ⟨rfl, rfl⟩ := q69
                      show jx L xs _ 121 168 _ [.int (iI (-1))] _ _
                      refine jv_if_ge (t := 173) (pc' := 171) (a := (-1)) rfl rfl rfl (by omega) (fun h70 => ?_) (fun h70 => ?_)
                      · skip
                        exact absurd h70 (by decide)
                      · skip
                        refine jv_iconst (pc' := 172) (n := 0) rfl rfl ?_
                        refine jv_retZ rfl rfl (by first | exact Or.inl rfl | exact Or.inr rfl) ⟨_, _, rfl, ?_⟩
                        first
                        | (exfalso; omega)
                        | contradiction
                        | (exfalso; rcases hn1 with q | q <;> contradiction)
                        | exact ⟨_, rfl, jq_f (by rw [hok]; simp), fun _ => (by rw [he]; exact rfl), fr_t hfr (fr_u (by simp [wP]) (fr_r _))⟩
              · skip
                exfalso; omega
            · skip
              exfalso; omega
          · skip
            exfalso; omega
        · -- op0
          simp only [List.length_cons, List.length_nil] at hdp hs4
          have hn80 := hT.2.1
          have hbb : (if b = true then (1 : Int) else 0) = 0 ∨ (if b = true then (1 : Int) else 0) = 1 := by cases b <;> simp
          refine jv_aload_n (pc' := 20) (k := 0) (x := 103) rfl rfl rfl hf0 ?_
          have hm71 := MT_c hT (a)
          refine jv_call (pc' := 23) rfl (ml_here (a := a) hT ha (by omega)) (fun vq72 gq72 q72 => ?_)
          obtain ⟨rfl, rfl⟩ := q72
          show jx L xs _ 121 23 _ [.int (iI (c (a)))] _ _
          refine jv_istore_n (pc' := 24) (k := 2) (x := (iI (c (a)))) rfl rfl rfl rfl (Or.inr (congrArg jm_lng hf1)) ?_
          refine jv_iload_n (pc' := 25) (k := 2) (x := (iI (c (a)))) rfl rfl rfl rfl ?_
          refine jv_iconst (pc' := 26) (n := -1) rfl rfl ?_
          refine jv_ic_ne (t := 49) (pc' := 29) (a := (c (a))) (b := (-1)) rfl rfl rfl (by omega) (fun h73 => ?_) (fun h73 => ?_)
          · skip
            refine jv_iload_n (pc' := 50) (k := 2) (x := (iI (c (a)))) rfl rfl rfl rfl ?_
            refine jv_bipush (pc' := 52) (n := 41) rfl rfl rfl ?_
            refine jv_ic_ne (t := 93) (pc' := 55) (a := (c (a))) (b := 41) rfl rfl rfl (by omega) (fun h74 => ?_) (fun h74 => ?_)
            · skip
              refine jv_iload_n (pc' := 94) (k := 2) (x := (iI (c (a)))) rfl rfl rfl rfl ?_
              refine jv_bipush (pc' := 96) (n := 62) rfl rfl rfl ?_
              refine jv_ic_ne (t := 148) (pc' := 99) (a := (c (a))) (b := 62) rfl rfl rfl (by omega) (fun h75 => ?_) (fun h75 => ?_)
              · skip
                refine jv_iload_n (pc' := 149) (k := 2) (x := (iI (c (a)))) rfl rfl rfl rfl ?_
                refine jv_bipush (pc' := 151) (n := 36) rfl rfl rfl ?_
                refine jv_ic_ne (t := 183) (pc' := 154) (a := (c (a))) (b := 36) rfl rfl rfl (by omega) (fun h76 => ?_) (fun h76 => ?_)
                · skip
                  refine jv_iload_n (pc' := 184) (k := 2) (x := (iI (c (a)))) rfl rfl rfl rfl ?_
                  refine jv_bipush (pc' := 186) (n := 35) rfl rfl rfl ?_
                  refine jv_ic_eq (t := 195) (pc' := 189) (a := (c (a))) (b := 35) rfl rfl rfl (by omega) (fun h77 => ?_) (fun h77 => ?_)
                  · skip
                    refine jv_iload_n (pc' := 196) (k := 1) (x := (iI ((dp : Nat) : Int))) rfl rfl rfl hf1 ?_
                    refine jv_iconst (pc' := 197) (n := 3) rfl rfl ?_
                    refine jv_ic_eq (t := 207) (pc' := 200) (a := ((dp : Nat) : Int)) (b := 3) rfl rfl rfl (by omega) (fun h78 => ?_) (fun h78 => ?_)
                    · skip
                      refine jv_iconst (pc' := 208) (n := 0) rfl rfl ?_
                      refine jv_retZ rfl rfl (by first | exact Or.inl rfl | exact Or.inr rfl) ⟨_, _, rfl, ?_⟩
                      first
                      | (exfalso; omega)
                      | contradiction
                      | (exfalso; rcases hn1 with q | q <;> contradiction)
                      | exact ⟨_, rfl, jq_f (by rw [hok]; simp), fun _ => (by rw [he]; exact ha), fr_t hfr (fr_r _)⟩
                    · skip
                      refine jv_aload_n (pc' := 201) (k := 0) (x := 103) rfl rfl rfl hf0 ?_
                      refine jv_call (pc' := 204) rfl (ml_opens (a := a) (F := F) hT ha (by omega) hF (by omega) (by omega)) (fun vq79 gq79 q79 => ?_)
                      obtain ⟨Iq79, rfl, rfl, eq79, fq79, rq79⟩ := q79
                      have Tq79 := MT_fr hT rq79 (by simp [wAF, wP]) (by simp [wAF, wP])
                      have Oq79 := OP_e (fun i => rq79 118 i (by simp [wAF, wP])) hO
                      show jx L xs _ 121 204 _ [.int (jb (opO c F a))] _ _
                      refine jv_jb_ne (t := 209) (pc' := 207) (P := opO c F a) rfl rfl rfl (fun h80 => ?_) (fun h80 => ?_)
                      · skip
                        refine jv_iinc (pc' := 212) (k := 1) (a := ((dp : Nat) : Int)) rfl rfl hf1 rfl (Or.inr (congrArg jm_lng hf0)) ?_
                        refine jv_aload_n (pc' := 213) (k := 0) (x := 103) rfl rfl rfl hf0 ?_
                        refine jv_getR (pc' := 216) (c := 12) (k := 21) (v := 118) rfl rfl rfl (fun _ _ => rfl) rfl rfl rfl ?_
                        refine jv_iload_n (pc' := 217) (k := 1) (x := (iI (((dp : Nat) : Int) + 1))) rfl rfl rfl rfl ?_
                        refine jv_iconst (pc' := 218) (n := 0) rfl rfl ?_
                        refine jv_iastore (pc' := 219) (n := 16) (e := (((dp : Nat) : Int) + 1)) (v := (iI 0)) rfl rfl rfl rfl rfl (by omega) ?_
                        refine jx_step (pc' := 238) rfl ?_
                        refine jx_step (pc' := 19) rfl ?_
                        first | (exfalso; omega) | contradiction
                      · skip
                        refine jv_iconst (pc' := 208) (n := 0) rfl rfl ?_
                        refine jv_retZ rfl rfl (by first | exact Or.inl rfl | exact Or.inr rfl) ⟨_, _, rfl, ?_⟩
                        first
                        | (exfalso; omega)
                        | contradiction
                        | (exfalso; rcases hn1 with q | q <;> contradiction)
                        | exact ⟨_, rfl, jq_f (by rw [hok]; simp), fun _ => (by rw [he]; exact eq79), fr_t hfr (fr_t (fr_r _) (fr_w rq79 wAF_P))⟩
                  · skip
                    refine jv_iload_n (pc' := 190) (k := 2) (x := (iI (c (a)))) rfl rfl rfl rfl ?_
                    refine jv_bipush (pc' := 192) (n := 63) rfl rfl rfl ?_
                    refine jv_ic_ne (t := 222) (pc' := 195) (a := (c (a))) (b := 63) rfl rfl rfl (by omega) (fun h81 => ?_) (fun h81 => ?_)
                    · skip
                      refine jv_aload_n (pc' := 223) (k := 0) (x := 103) rfl rfl rfl hf0 ?_
                      refine jv_call (pc' := 226) rfl (ml_field (a := a) (F := F) hT ha (by omega) hF (by omega)) (fun vq82 gq82 q82 => ?_)
                      obtain ⟨Iq82, rfl, rfl, eq82, fq82, rq82⟩ := q82
                      have Tq82 := MT_fr hT rq82 (by simp [wAF, wP]) (by simp [wAF, wP])
                      have Oq82 := OP_e (fun i => rq82 118 i (by simp [wAF, wP])) hO
                      show jx L xs _ 121 226 _ [.int (jb (fdOk c F a))] _ _
                      refine jv_jb_ne (t := 231) (pc' := 229) (P := fdOk c F a) rfl rfl rfl (fun h83 => ?_) (fun h83 => ?_)
                      · skip
                        refine jv_aload_n (pc' := 232) (k := 0) (x := 103) rfl rfl rfl hf0 ?_
                        refine jv_getR (pc' := 235) (c := 12) (k := 21) (v := 118) rfl rfl rfl (fun _ _ => rfl) rfl rfl rfl ?_
                        refine jv_iload_n (pc' := 236) (k := 1) (x := (iI ((dp : Nat) : Int))) rfl rfl rfl hf1 ?_
                        refine jv_iconst (pc' := 237) (n := 1) rfl rfl ?_
                        refine jv_iastore (pc' := 238) (n := 16) (e := ((dp : Nat) : Int)) (v := (iI 1)) rfl rfl rfl rfl rfl (by omega) ?_
                        refine jx_step (pc' := 19) rfl ?_
                        first | (exfalso; omega) | contradiction
                      · skip
                        refine jv_iconst (pc' := 230) (n := 0) rfl rfl ?_
                        refine jv_retZ rfl rfl (by first | exact Or.inl rfl | exact Or.inr rfl) ⟨_, _, rfl, ?_⟩
                        first
                        | (exfalso; omega)
                        | contradiction
                        | (exfalso; rcases hn1 with q | q <;> contradiction)
                        | exact ⟨_, rfl, jq_f (by rw [hok]; simp), fun _ => (by rw [he]; exact eq82), fr_t hfr (fr_t (fr_r _) (fr_w rq82 wAF_P))⟩
                    · skip
                      refine jv_iload_n (pc' := 196) (k := 1) (x := (iI ((dp : Nat) : Int))) rfl rfl rfl hf1 ?_
                      refine jv_iconst (pc' := 197) (n := 3) rfl rfl ?_
                      refine jv_ic_eq (t := 207) (pc' := 200) (a := ((dp : Nat) : Int)) (b := 3) rfl rfl rfl (by omega) (fun h84 => ?_) (fun h84 => ?_)
                      · skip
                        refine jv_iconst (pc' := 208) (n := 0) rfl rfl ?_
                        refine jv_retZ rfl rfl (by first | exact Or.inl rfl | exact Or.inr rfl) ⟨_, _, rfl, ?_⟩
                        first
                        | (exfalso; omega)
                        | contradiction
                        | (exfalso; rcases hn1 with q | q <;> contradiction)
                        | exact ⟨_, rfl, jq_f (by rw [hok]; simp), fun _ => (by rw [he]; exact ha), fr_t hfr (fr_r _)⟩
                      · skip
                        refine jv_aload_n (pc' := 201) (k := 0) (x := 103) rfl rfl rfl hf0 ?_
                        refine jv_call (pc' := 204) rfl (ml_opens (a := a) (F := F) hT ha (by omega) hF (by omega) (by omega)) (fun vq85 gq85 q85 => ?_)
                        obtain ⟨Iq85, rfl, rfl, eq85, fq85, rq85⟩ := q85
                        have Tq85 := MT_fr hT rq85 (by simp [wAF, wP]) (by simp [wAF, wP])
                        have Oq85 := OP_e (fun i => rq85 118 i (by simp [wAF, wP])) hO
                        show jx L xs _ 121 204 _ [.int (jb (opO c F a))] _ _
                        refine jv_jb_ne (t := 209) (pc' := 207) (P := opO c F a) rfl rfl rfl (fun h86 => ?_) (fun h86 => ?_)
                        · skip
                          refine jv_iinc (pc' := 212) (k := 1) (a := ((dp : Nat) : Int)) rfl rfl hf1 rfl (Or.inr (congrArg jm_lng hf0)) ?_
                          refine jv_aload_n (pc' := 213) (k := 0) (x := 103) rfl rfl rfl hf0 ?_
                          refine jv_getR (pc' := 216) (c := 12) (k := 21) (v := 118) rfl rfl rfl (fun _ _ => rfl) rfl rfl rfl ?_
                          refine jv_iload_n (pc' := 217) (k := 1) (x := (iI (((dp : Nat) : Int) + 1))) rfl rfl rfl rfl ?_
                          refine jv_iconst (pc' := 218) (n := 0) rfl rfl ?_
                          refine jv_iastore (pc' := 219) (n := 16) (e := (((dp : Nat) : Int) + 1)) (v := (iI 0)) rfl rfl rfl rfl rfl (by omega) ?_
                          refine jx_step (pc' := 238) rfl ?_
                          refine jx_step (pc' := 19) rfl ?_
                          first | (exfalso; omega) | contradiction
                        · skip
                          refine jv_iconst (pc' := 208) (n := 0) rfl rfl ?_
                          refine jv_retZ rfl rfl (by first | exact Or.inl rfl | exact Or.inr rfl) ⟨_, _, rfl, ?_⟩
                          first
                          | (exfalso; omega)
                          | contradiction
                          | (exfalso; rcases hn1 with q | q <;> contradiction)
                          | exact ⟨_, rfl, jq_f (by rw [hok]; simp), fun _ => (by rw [he]; exact eq85), fr_t hfr (fr_t (fr_r _) (fr_w rq85 wAF_P))⟩
                · skip
                  exfalso; omega
              · skip
                exfalso; omega
            · skip
              exfalso; omega
          · skip
            exfalso; omega
        · -- op1
          simp only [List.length_cons, List.length_nil] at hdp hs4
          have hn80 := hT.2.1
          have hbb : (if b = true then (1 : Int) else 0) = 0 ∨ (if b = true then (1 : Int) else 0) = 1 := by cases b <;> simp
          refine jv_aload_n (pc' := 20) (k := 0) (x := 103) rfl rfl rfl hf0 ?_
          have hm87 := MT_c hT (a)
          refine jv_call (pc' := 23) rfl (ml_here (a := a) hT ha (by omega)) (fun vq88 gq88 q88 => ?_)
          obtain ⟨rfl, rfl⟩ := q88
          show jx L xs _ 121 23 _ [.int (iI (c (a)))] _ _
          refine jv_istore_n (pc' := 24) (k := 2) (x := (iI (c (a)))) rfl rfl rfl rfl (Or.inr (congrArg jm_lng hf1)) ?_
          refine jv_iload_n (pc' := 25) (k := 2) (x := (iI (c (a)))) rfl rfl rfl rfl ?_
          refine jv_iconst (pc' := 26) (n := -1) rfl rfl ?_
          refine jv_ic_ne (t := 49) (pc' := 29) (a := (c (a))) (b := (-1)) rfl rfl rfl (by omega) (fun h89 => ?_) (fun h89 => ?_)
          · skip
            refine jv_iload_n (pc' := 50) (k := 2) (x := (iI (c (a)))) rfl rfl rfl rfl ?_
            refine jv_bipush (pc' := 52) (n := 41) rfl rfl rfl ?_
            refine jv_ic_ne (t := 93) (pc' := 55) (a := (c (a))) (b := 41) rfl rfl rfl (by omega) (fun h90 => ?_) (fun h90 => ?_)
            · skip
              refine jv_iload_n (pc' := 94) (k := 2) (x := (iI (c (a)))) rfl rfl rfl rfl ?_
              refine jv_bipush (pc' := 96) (n := 62) rfl rfl rfl ?_
              refine jv_ic_ne (t := 148) (pc' := 99) (a := (c (a))) (b := 62) rfl rfl rfl (by omega) (fun h91 => ?_) (fun h91 => ?_)
              · skip
                refine jv_iload_n (pc' := 149) (k := 2) (x := (iI (c (a)))) rfl rfl rfl rfl ?_
                refine jv_bipush (pc' := 151) (n := 36) rfl rfl rfl ?_
                refine jv_ic_ne (t := 183) (pc' := 154) (a := (c (a))) (b := 36) rfl rfl rfl (by omega) (fun h92 => ?_) (fun h92 => ?_)
                · skip
                  refine jv_iload_n (pc' := 184) (k := 2) (x := (iI (c (a)))) rfl rfl rfl rfl ?_
                  refine jv_bipush (pc' := 186) (n := 35) rfl rfl rfl ?_
                  refine jv_ic_eq (t := 195) (pc' := 189) (a := (c (a))) (b := 35) rfl rfl rfl (by omega) (fun h93 => ?_) (fun h93 => ?_)
                  · skip
                    refine jv_iload_n (pc' := 196) (k := 1) (x := (iI ((dp : Nat) : Int))) rfl rfl rfl hf1 ?_
                    refine jv_iconst (pc' := 197) (n := 3) rfl rfl ?_
                    refine jv_ic_eq (t := 207) (pc' := 200) (a := ((dp : Nat) : Int)) (b := 3) rfl rfl rfl (by omega) (fun h94 => ?_) (fun h94 => ?_)
                    · skip
                      refine jv_iconst (pc' := 208) (n := 0) rfl rfl ?_
                      refine jv_retZ rfl rfl (by first | exact Or.inl rfl | exact Or.inr rfl) ⟨_, _, rfl, ?_⟩
                      first
                      | (exfalso; omega)
                      | contradiction
                      | (exfalso; rcases hn1 with q | q <;> contradiction)
                      | exact ⟨_, rfl, jq_f (by rw [hok]; simp), fun _ => (by rw [he]; exact ha), fr_t hfr (fr_r _)⟩
                    · skip
                      refine jv_aload_n (pc' := 201) (k := 0) (x := 103) rfl rfl rfl hf0 ?_
                      refine jv_call (pc' := 204) rfl (ml_opens (a := a) (F := F) hT ha (by omega) hF (by omega) (by omega)) (fun vq95 gq95 q95 => ?_)
                      obtain ⟨Iq95, rfl, rfl, eq95, fq95, rq95⟩ := q95
                      have Tq95 := MT_fr hT rq95 (by simp [wAF, wP]) (by simp [wAF, wP])
                      have Oq95 := OP_e (fun i => rq95 118 i (by simp [wAF, wP])) hO
                      show jx L xs _ 121 204 _ [.int (jb (opO c F a))] _ _
                      refine jv_jb_ne (t := 209) (pc' := 207) (P := opO c F a) rfl rfl rfl (fun h96 => ?_) (fun h96 => ?_)
                      · skip
                        refine jv_iinc (pc' := 212) (k := 1) (a := ((dp : Nat) : Int)) rfl rfl hf1 rfl (Or.inr (congrArg jm_lng hf0)) ?_
                        refine jv_aload_n (pc' := 213) (k := 0) (x := 103) rfl rfl rfl hf0 ?_
                        refine jv_getR (pc' := 216) (c := 12) (k := 21) (v := 118) rfl rfl rfl (fun _ _ => rfl) rfl rfl rfl ?_
                        refine jv_iload_n (pc' := 217) (k := 1) (x := (iI (((dp : Nat) : Int) + 1))) rfl rfl rfl rfl ?_
                        refine jv_iconst (pc' := 218) (n := 0) rfl rfl ?_
                        refine jv_iastore (pc' := 219) (n := 16) (e := (((dp : Nat) : Int) + 1)) (v := (iI 0)) rfl rfl rfl rfl rfl (by omega) ?_
                        refine jx_step (pc' := 238) rfl ?_
                        refine jx_step (pc' := 19) rfl ?_
                        first | (exfalso; omega) | contradiction
                      · skip
                        refine jv_iconst (pc' := 208) (n := 0) rfl rfl ?_
                        refine jv_retZ rfl rfl (by first | exact Or.inl rfl | exact Or.inr rfl) ⟨_, _, rfl, ?_⟩
                        first
                        | (exfalso; omega)
                        | contradiction
                        | (exfalso; rcases hn1 with q | q <;> contradiction)
                        | exact ⟨_, rfl, jq_f (by rw [hok]; simp), fun _ => (by rw [he]; exact eq95), fr_t hfr (fr_t (fr_r _) (fr_w rq95 wAF_P))⟩
                  · skip
                    refine jv_iload_n (pc' := 190) (k := 2) (x := (iI (c (a)))) rfl rfl rfl rfl ?_
                    refine jv_bipush (pc' := 192) (n := 63) rfl rfl rfl ?_
                    refine jv_ic_ne (t := 222) (pc' := 195) (a := (c (a))) (b := 63) rfl rfl rfl (by omega) (fun h97 => ?_) (fun h97 => ?_)
                    · skip
                      refine jv_aload_n (pc' := 223) (k := 0) (x := 103) rfl rfl rfl hf0 ?_
                      refine jv_call (pc' := 226) rfl (ml_field (a := a) (F := F) hT ha (by omega) hF (by omega)) (fun vq98 gq98 q98 => ?_)
                      obtain ⟨Iq98, rfl, rfl, eq98, fq98, rq98⟩ := q98
                      have Tq98 := MT_fr hT rq98 (by simp [wAF, wP]) (by simp [wAF, wP])
                      have Oq98 := OP_e (fun i => rq98 118 i (by simp [wAF, wP])) hO
                      show jx L xs _ 121 226 _ [.int (jb (fdOk c F a))] _ _
                      refine jv_jb_ne (t := 231) (pc' := 229) (P := fdOk c F a) rfl rfl rfl (fun h99 => ?_) (fun h99 => ?_)
                      · skip
                        refine jv_aload_n (pc' := 232) (k := 0) (x := 103) rfl rfl rfl hf0 ?_
                        refine jv_getR (pc' := 235) (c := 12) (k := 21) (v := 118) rfl rfl rfl (fun _ _ => rfl) rfl rfl rfl ?_
                        refine jv_iload_n (pc' := 236) (k := 1) (x := (iI ((dp : Nat) : Int))) rfl rfl rfl hf1 ?_
                        refine jv_iconst (pc' := 237) (n := 1) rfl rfl ?_
                        refine jv_iastore (pc' := 238) (n := 16) (e := ((dp : Nat) : Int)) (v := (iI 1)) rfl rfl rfl rfl rfl (by omega) ?_
                        refine jx_step (pc' := 19) rfl ?_
                        first | (exfalso; omega) | contradiction
                      · skip
                        refine jv_iconst (pc' := 230) (n := 0) rfl rfl ?_
                        refine jv_retZ rfl rfl (by first | exact Or.inl rfl | exact Or.inr rfl) ⟨_, _, rfl, ?_⟩
                        first
                        | (exfalso; omega)
                        | contradiction
                        | (exfalso; rcases hn1 with q | q <;> contradiction)
                        | exact ⟨_, rfl, jq_f (by rw [hok]; simp), fun _ => (by rw [he]; exact eq98), fr_t hfr (fr_t (fr_r _) (fr_w rq98 wAF_P))⟩
                    · skip
                      refine jv_iload_n (pc' := 196) (k := 1) (x := (iI ((dp : Nat) : Int))) rfl rfl rfl hf1 ?_
                      refine jv_iconst (pc' := 197) (n := 3) rfl rfl ?_
                      refine jv_ic_eq (t := 207) (pc' := 200) (a := ((dp : Nat) : Int)) (b := 3) rfl rfl rfl (by omega) (fun h100 => ?_) (fun h100 => ?_)
                      · skip
                        refine jv_iconst (pc' := 208) (n := 0) rfl rfl ?_
                        refine jv_retZ rfl rfl (by first | exact Or.inl rfl | exact Or.inr rfl) ⟨_, _, rfl, ?_⟩
                        first
                        | (exfalso; omega)
                        | contradiction
                        | (exfalso; rcases hn1 with q | q <;> contradiction)
                        | exact ⟨_, rfl, jq_f (by rw [hok]; simp), fun _ => (by rw [he]; exact ha), fr_t hfr (fr_r _)⟩
                      · skip
                        refine jv_aload_n (pc' := 201) (k := 0) (x := 103) rfl rfl rfl hf0 ?_
                        refine jv_call (pc' := 204) rfl (ml_opens (a := a) (F := F) hT ha (by omega) hF (by omega) (by omega)) (fun vq101 gq101 q101 => ?_)
                        obtain ⟨Iq101, rfl, rfl, eq101, fq101, rq101⟩ := q101
                        have Tq101 := MT_fr hT rq101 (by simp [wAF, wP]) (by simp [wAF, wP])
                        have Oq101 := OP_e (fun i => rq101 118 i (by simp [wAF, wP])) hO
                        show jx L xs _ 121 204 _ [.int (jb (opO c F a))] _ _
                        refine jv_jb_ne (t := 209) (pc' := 207) (P := opO c F a) rfl rfl rfl (fun h102 => ?_) (fun h102 => ?_)
                        · skip
                          refine jv_iinc (pc' := 212) (k := 1) (a := ((dp : Nat) : Int)) rfl rfl hf1 rfl (Or.inr (congrArg jm_lng hf0)) ?_
                          refine jv_aload_n (pc' := 213) (k := 0) (x := 103) rfl rfl rfl hf0 ?_
                          refine jv_getR (pc' := 216) (c := 12) (k := 21) (v := 118) rfl rfl rfl (fun _ _ => rfl) rfl rfl rfl ?_
                          refine jv_iload_n (pc' := 217) (k := 1) (x := (iI (((dp : Nat) : Int) + 1))) rfl rfl rfl rfl ?_
                          refine jv_iconst (pc' := 218) (n := 0) rfl rfl ?_
                          refine jv_iastore (pc' := 219) (n := 16) (e := (((dp : Nat) : Int) + 1)) (v := (iI 0)) rfl rfl rfl rfl rfl (by omega) ?_
                          refine jx_step (pc' := 238) rfl ?_
                          refine jx_step (pc' := 19) rfl ?_
                          first | (exfalso; omega) | contradiction
                        · skip
                          refine jv_iconst (pc' := 208) (n := 0) rfl rfl ?_
                          refine jv_retZ rfl rfl (by first | exact Or.inl rfl | exact Or.inr rfl) ⟨_, _, rfl, ?_⟩
                          first
                          | (exfalso; omega)
                          | contradiction
                          | (exfalso; rcases hn1 with q | q <;> contradiction)
                          | exact ⟨_, rfl, jq_f (by rw [hok]; simp), fun _ => (by rw [he]; exact eq101), fr_t hfr (fr_t (fr_r _) (fr_w rq101 wAF_P))⟩
                · skip
                  exfalso; omega
              · skip
                exfalso; omega
            · skip
              exfalso; omega
          · skip
            exfalso; omega
        · -- fd
          simp only [List.length_cons, List.length_nil] at hdp hs4
          have hn80 := hT.2.1
          have hbb : (if b = true then (1 : Int) else 0) = 0 ∨ (if b = true then (1 : Int) else 0) = 1 := by cases b <;> simp
          refine jv_aload_n (pc' := 20) (k := 0) (x := 103) rfl rfl rfl hf0 ?_
          have hm103 := MT_c hT (a)
          refine jv_call (pc' := 23) rfl (ml_here (a := a) hT ha (by omega)) (fun vq104 gq104 q104 => ?_)
          obtain ⟨rfl, rfl⟩ := q104
          show jx L xs _ 121 23 _ [.int (iI (c (a)))] _ _
          refine jv_istore_n (pc' := 24) (k := 2) (x := (iI (c (a)))) rfl rfl rfl rfl (Or.inr (congrArg jm_lng hf1)) ?_
          refine jv_iload_n (pc' := 25) (k := 2) (x := (iI (c (a)))) rfl rfl rfl rfl ?_
          refine jv_iconst (pc' := 26) (n := -1) rfl rfl ?_
          refine jv_ic_ne (t := 49) (pc' := 29) (a := (c (a))) (b := (-1)) rfl rfl rfl (by omega) (fun h105 => ?_) (fun h105 => ?_)
          · skip
            refine jv_iload_n (pc' := 50) (k := 2) (x := (iI (c (a)))) rfl rfl rfl rfl ?_
            refine jv_bipush (pc' := 52) (n := 41) rfl rfl rfl ?_
            refine jv_ic_ne (t := 93) (pc' := 55) (a := (c (a))) (b := 41) rfl rfl rfl (by omega) (fun h106 => ?_) (fun h106 => ?_)
            · skip
              refine jv_iload_n (pc' := 94) (k := 2) (x := (iI (c (a)))) rfl rfl rfl rfl ?_
              refine jv_bipush (pc' := 96) (n := 62) rfl rfl rfl ?_
              refine jv_ic_ne (t := 148) (pc' := 99) (a := (c (a))) (b := 62) rfl rfl rfl (by omega) (fun h107 => ?_) (fun h107 => ?_)
              · skip
                refine jv_iload_n (pc' := 149) (k := 2) (x := (iI (c (a)))) rfl rfl rfl rfl ?_
                refine jv_bipush (pc' := 151) (n := 36) rfl rfl rfl ?_
                refine jv_ic_ne (t := 183) (pc' := 154) (a := (c (a))) (b := 36) rfl rfl rfl (by omega) (fun h108 => ?_) (fun h108 => ?_)
                · skip
                  refine jv_iload_n (pc' := 184) (k := 2) (x := (iI (c (a)))) rfl rfl rfl rfl ?_
                  refine jv_bipush (pc' := 186) (n := 35) rfl rfl rfl ?_
                  refine jv_ic_eq (t := 195) (pc' := 189) (a := (c (a))) (b := 35) rfl rfl rfl (by omega) (fun h109 => ?_) (fun h109 => ?_)
                  · skip
                    exfalso; omega
                  · skip
                    refine jv_iload_n (pc' := 190) (k := 2) (x := (iI (c (a)))) rfl rfl rfl rfl ?_
                    refine jv_bipush (pc' := 192) (n := 63) rfl rfl rfl ?_
                    refine jv_ic_ne (t := 222) (pc' := 195) (a := (c (a))) (b := 63) rfl rfl rfl (by omega) (fun h110 => ?_) (fun h110 => ?_)
                    · skip
                      refine jv_aload_n (pc' := 223) (k := 0) (x := 103) rfl rfl rfl hf0 ?_
                      refine jv_call (pc' := 226) rfl (ml_field (a := a) (F := F) hT ha (by omega) hF (by omega)) (fun vq111 gq111 q111 => ?_)
                      obtain ⟨Iq111, rfl, rfl, eq111, fq111, rq111⟩ := q111
                      have Tq111 := MT_fr hT rq111 (by simp [wAF, wP]) (by simp [wAF, wP])
                      have Oq111 := OP_e (fun i => rq111 118 i (by simp [wAF, wP])) hO
                      show jx L xs _ 121 226 _ [.int (jb (fdOk c F a))] _ _
                      refine jv_jb_ne (t := 231) (pc' := 229) (P := fdOk c F a) rfl rfl rfl (fun h112 => ?_) (fun h112 => ?_)
                      · skip
                        refine jv_aload_n (pc' := 232) (k := 0) (x := 103) rfl rfl rfl hf0 ?_
                        refine jv_getR (pc' := 235) (c := 12) (k := 21) (v := 118) rfl rfl rfl (fun _ _ => rfl) rfl rfl rfl ?_
                        refine jv_iload_n (pc' := 236) (k := 1) (x := (iI ((dp : Nat) : Int))) rfl rfl rfl hf1 ?_
                        refine jv_iconst (pc' := 237) (n := 1) rfl rfl ?_
                        refine jv_iastore (pc' := 238) (n := 16) (e := ((dp : Nat) : Int)) (v := (iI 1)) rfl rfl rfl rfl rfl (by omega) ?_
                        refine jx_step (pc' := 19) rfl ?_
                        first | (exfalso; omega) | contradiction
                      · skip
                        refine jv_iconst (pc' := 230) (n := 0) rfl rfl ?_
                        refine jv_retZ rfl rfl (by first | exact Or.inl rfl | exact Or.inr rfl) ⟨_, _, rfl, ?_⟩
                        first
                        | (exfalso; omega)
                        | contradiction
                        | (exfalso; rcases hn1 with q | q <;> contradiction)
                        | exact ⟨_, rfl, jq_f (by rw [hok]; simp), fun _ => (by rw [he]; exact eq111), fr_t hfr (fr_t (fr_r _) (fr_w rq111 wAF_P))⟩
                    · skip
                      exfalso; omega
                · skip
                  exfalso; omega
              · skip
                exfalso; omega
            · skip
              exfalso; omega
          · skip
            exfalso; omega
      | succ k =>
        obtain ⟨⟨hb, hF2, hs4⟩, a', F', s', ⟨b, r, rfl, hE⟩, hE2⟩ := hE
        rcases hE with ⟨hc, rfl, ⟨b1, r1, rfl, e3⟩, e1, e2⟩ | ⟨hc, hn1, e1, e2, e3⟩ | ⟨hc, hl, ho, e1, e2, e3⟩ | ⟨hc, ho, e1, e2, e3⟩
        · -- close
          rw [e1, e2, e3] at hE2
          simp only [List.length_cons, List.length_nil] at hdp hs4
          have hn80 := hT.2.1
          have hO2 := hO.2.2
          refine jv_aload_n (pc' := 20) (k := 0) (x := 103) rfl rfl rfl hf0 ?_
          have hm113 := MT_c hT (a)
          refine jv_call (pc' := 23) rfl (ml_here (a := a) hT ha (by omega)) (fun vq114 gq114 q114 => ?_)
          obtain ⟨rfl, rfl⟩ := q114
          show jx L xs _ 121 23 _ [.int (iI (c (a)))] _ _
          refine jv_istore_n (pc' := 24) (k := 2) (x := (iI (c (a)))) rfl rfl rfl rfl (Or.inr (congrArg jm_lng hf1)) ?_
          refine jv_iload_n (pc' := 25) (k := 2) (x := (iI (c (a)))) rfl rfl rfl rfl ?_
          refine jv_iconst (pc' := 26) (n := -1) rfl rfl ?_
          refine jv_ic_ne (t := 49) (pc' := 29) (a := (c (a))) (b := (-1)) rfl rfl rfl (by omega) (fun h115 => ?_) (fun h115 => ?_)
          · skip
            refine jv_iload_n (pc' := 50) (k := 2) (x := (iI (c (a)))) rfl rfl rfl rfl ?_
            refine jv_bipush (pc' := 52) (n := 41) rfl rfl rfl ?_
            refine jv_ic_ne (t := 93) (pc' := 55) (a := (c (a))) (b := 41) rfl rfl rfl (by omega) (fun h116 => ?_) (fun h116 => ?_)
            · skip
              exfalso; omega
            · skip
              refine jv_iload_n (pc' := 56) (k := 1) (x := (iI ((dp : Nat) : Int))) rfl rfl rfl hf1 ?_
              refine jv_if_eq (t := 68) (pc' := 59) (a := ((dp : Nat) : Int)) rfl rfl rfl (by omega) (fun h117 => ?_) (fun h117 => ?_)
              · skip
                refine jv_iconst (pc' := 69) (n := 0) rfl rfl ?_
                refine jv_retZ rfl rfl (by first | exact Or.inl rfl | exact Or.inr rfl) ⟨_, _, rfl, ?_⟩
                first
                | (exfalso; omega)
                | contradiction
                | (exfalso; rcases hn1 with q | q <;> contradiction)
                | exact ⟨_, rfl, jq_f (by rw [hok]; simp), fun _ => (by rw [he]; exact ha), fr_t hfr (fr_r _)⟩
              · skip
                refine jv_aload_n (pc' := 60) (k := 0) (x := 103) rfl rfl rfl hf0 ?_
                refine jv_getR (pc' := 63) (c := 12) (k := 21) (v := 118) rfl rfl rfl (fun _ _ => rfl) rfl rfl rfl ?_
                refine jv_iload_n (pc' := 64) (k := 1) (x := (iI ((dp : Nat) : Int))) rfl rfl rfl hf1 ?_
                refine jv_iaload (pc' := 65) (n := 16) (e := ((dp : Nat) : Int)) (v := (iI 1)) rfl rfl (by decide) rfl rfl rfl (by omega) ((congrArg (fun q => I1 118 q) (show (((dp : Nat) : Int) : Int).toNat = r1.length + 1 by omega)).trans hO.1) ?_
                refine jv_if_ne (t := 70) (pc' := 68) (a := 1) rfl rfl rfl (by omega) (fun h118 => ?_) (fun h118 => ?_)
                · skip
                  refine jv_aload_n (pc' := 71) (k := 0) (x := 103) rfl rfl rfl hf0 ?_
                  refine jx_step (pc' := 72) rfl ?_
                  refine jv_getI (pc' := 75) (c := 12) (k := 19) (v := (iI ((a : Nat) : Int))) rfl rfl rfl (fun _ _ => rfl) rfl rfl ha ?_
                  refine jv_iconst (pc' := 76) (n := 1) rfl rfl ?_
                  refine jv_iadd (pc' := 77) (a := ((a : Nat) : Int)) (b := 1) rfl rfl ?_
                  refine jv_putI (pc' := 80) (c := 12) (k := 19) rfl rfl rfl rfl (fun _ _ _  => rfl) rfl rfl ?_
                  refine jv_iinc (pc' := 83) (k := 1) (a := ((dp : Nat) : Int)) rfl rfl hf1 rfl (Or.inr (congrArg jm_lng hf0)) ?_
                  refine jv_aload_n (pc' := 84) (k := 0) (x := 103) rfl rfl rfl hf0 ?_
                  refine jv_getR (pc' := 87) (c := 12) (k := 21) (v := 118) rfl rfl rfl (fun _ _ => rfl) rfl rfl rfl ?_
                  refine jv_iload_n (pc' := 88) (k := 1) (x := (iI (((dp : Nat) : Int) + (-1)))) rfl rfl rfl rfl ?_
                  refine jv_iconst (pc' := 89) (n := 1) rfl rfl ?_
                  refine jv_iastore (pc' := 90) (n := 16) (e := (((dp : Nat) : Int) + (-1))) (v := (iI 1)) rfl rfl rfl rfl rfl (by omega) ?_
                  refine jx_step (pc' := 238) rfl ?_
                  refine jx_step (pc' := 19) rfl ?_
                  first | (exfalso; omega) | exact ih k (a + 1) F (true :: r1) r1.length (jm_u (jm_u I1 103 19 (iI (((a : Nat) : Int) + 1))) 118 (((dp : Nat) : Int) + (-1) : Int).toNat (iI 1)) (by omega) hE2 (by simp) hT rfl hF (OP_s (by omega) rfl (by exact OP_e (I := I1) (fun i => rfl) hO2)) (fr_t hfr (fr_u (by simp [wP]) (fr_u (by simp [wP]) (fr_r _)))) _ hf0 (show _ = some (Value.int (iI ((r1.length : Nat) : Int))) from congrArg (fun z => some (Value.int (iI z))) (by omega)) 
                · skip
                  exact absurd h118 (by decide)
          · skip
            exfalso; omega
        · -- block
          rw [e1, e2, e3] at hE2
          simp only [List.length_cons, List.length_nil] at hdp hs4
          have hn80 := hT.2.1
          have hbb : (if b = true then (1 : Int) else 0) = 0 ∨ (if b = true then (1 : Int) else 0) = 1 := by cases b <;> simp
          refine jv_aload_n (pc' := 20) (k := 0) (x := 103) rfl rfl rfl hf0 ?_
          have hm119 := MT_c hT (a)
          refine jv_call (pc' := 23) rfl (ml_here (a := a) hT ha (by omega)) (fun vq120 gq120 q120 => ?_)
          obtain ⟨rfl, rfl⟩ := q120
          show jx L xs _ 121 23 _ [.int (iI (c (a)))] _ _
          refine jv_istore_n (pc' := 24) (k := 2) (x := (iI (c (a)))) rfl rfl rfl rfl (Or.inr (congrArg jm_lng hf1)) ?_
          refine jv_iload_n (pc' := 25) (k := 2) (x := (iI (c (a)))) rfl rfl rfl rfl ?_
          refine jv_iconst (pc' := 26) (n := -1) rfl rfl ?_
          refine jv_ic_ne (t := 49) (pc' := 29) (a := (c (a))) (b := (-1)) rfl rfl rfl (by omega) (fun h121 => ?_) (fun h121 => ?_)
          · skip
            refine jv_iload_n (pc' := 50) (k := 2) (x := (iI (c (a)))) rfl rfl rfl rfl ?_
            refine jv_bipush (pc' := 52) (n := 41) rfl rfl rfl ?_
            refine jv_ic_ne (t := 93) (pc' := 55) (a := (c (a))) (b := 41) rfl rfl rfl (by omega) (fun h122 => ?_) (fun h122 => ?_)
            · skip
              refine jv_iload_n (pc' := 94) (k := 2) (x := (iI (c (a)))) rfl rfl rfl rfl ?_
              refine jv_bipush (pc' := 96) (n := 62) rfl rfl rfl ?_
              refine jv_ic_ne (t := 148) (pc' := 99) (a := (c (a))) (b := 62) rfl rfl rfl (by omega) (fun h123 => ?_) (fun h123 => ?_)
              · skip
                refine jv_iload_n (pc' := 149) (k := 2) (x := (iI (c (a)))) rfl rfl rfl rfl ?_
                refine jv_bipush (pc' := 151) (n := 36) rfl rfl rfl ?_
                refine jv_ic_ne (t := 183) (pc' := 154) (a := (c (a))) (b := 36) rfl rfl rfl (by omega) (fun h124 => ?_) (fun h124 => ?_)
                · skip
                  exfalso; omega
                · skip
                  refine jv_aload_n (pc' := 155) (k := 0) (x := 103) rfl rfl rfl hf0 ?_
                  refine jx_step (pc' := 156) rfl ?_
                  refine jv_getI (pc' := 159) (c := 12) (k := 19) (v := (iI ((a : Nat) : Int))) rfl rfl rfl (fun _ _ => rfl) rfl rfl ha ?_
                  refine jv_iconst (pc' := 160) (n := 1) rfl rfl ?_
                  refine jv_iadd (pc' := 161) (a := ((a : Nat) : Int)) (b := 1) rfl rfl ?_
                  refine jv_putI (pc' := 164) (c := 12) (k := 19) rfl rfl rfl rfl (fun _ _ _  => rfl) rfl rfl ?_
                  refine jv_aload_n (pc' := 165) (k := 0) (x := 103) rfl rfl rfl hf0 ?_
                  by_cases hs126 : c (a + 1) = 42
                  · skip
                    refine jv_call (pc' := 168) rfl (ml_count_s (a := a + 1) (F := F) hT rfl (by omega) hF hF2 hs126) (fun vq127 gq127 q127 => ?_)
                    obtain ⟨rfl, rfl⟩ := q127
                    show jx L xs _ 121 168 _ [.int (iI 8)] _ _
                    refine jv_if_ge (t := 173) (pc' := 171) (a := 8) rfl rfl rfl (by omega) (fun h128 => ?_) (fun h128 => ?_)
                    · skip
                      refine jv_aload_n (pc' := 174) (k := 0) (x := 103) rfl rfl rfl hf0 ?_
                      refine jv_getR (pc' := 177) (c := 12) (k := 21) (v := 118) rfl rfl rfl (fun _ _ => rfl) rfl rfl rfl ?_
                      refine jv_iload_n (pc' := 178) (k := 1) (x := (iI ((dp : Nat) : Int))) rfl rfl rfl hf1 ?_
                      refine jv_iconst (pc' := 179) (n := 1) rfl rfl ?_
                      refine jv_iastore (pc' := 180) (n := 16) (e := ((dp : Nat) : Int)) (v := (iI 1)) rfl rfl rfl rfl rfl (by omega) ?_
                      refine jx_step (pc' := 238) rfl ?_
                      refine jx_step (pc' := 19) rfl ?_
                      first | (exfalso; omega) | exact ih k (a + 2) F (true :: r) r.length (jm_u (jm_u (jm_u I1 103 19 (iI (((a : Nat) : Int) + 1))) 103 19 (iI ((a + 2 : Nat) : Int))) 118 (((dp : Nat) : Int) : Int).toNat (iI 1)) (by omega) hE2 (by simp) hT rfl hF (OP_s (by omega) rfl (by exact OP_e (I := I1) (fun i => rfl) hO.2)) (fr_t hfr (fr_u (by simp [wP]) (fr_u (by simp [wP]) (fr_u (by simp [wP]) (fr_r _))))) _ hf0 (hf1.trans (congrArg (fun z => some (Value.int (iI z))) (by omega))) 
                    · skip
                      exact absurd h128 (by decide)
                  · skip
                    by_cases hk125 : knw c (F) (a + 1)
                    · skip
                      have hhk125 := hk125.1
                      refine jv_call (pc' := 168) rfl (ml_count_y (a := a + 1) (F := F) hT rfl (by omega) hF hF2 hs126 hk125) (fun vq129 gq129 q129 => ?_)
                      obtain ⟨rfl, rfl⟩ := q129
                      show jx L xs _ 121 168 _ [.int (iI (c (a + 1) - 97))] _ _
                      refine jv_if_ge (t := 173) (pc' := 171) (a := (c (a + 1) - 97)) rfl rfl rfl (by omega) (fun h130 => ?_) (fun h130 => ?_)
                      · skip
                        refine jv_aload_n (pc' := 174) (k := 0) (x := 103) rfl rfl rfl hf0 ?_
                        refine jv_getR (pc' := 177) (c := 12) (k := 21) (v := 118) rfl rfl rfl (fun _ _ => rfl) rfl rfl rfl ?_
                        refine jv_iload_n (pc' := 178) (k := 1) (x := (iI ((dp : Nat) : Int))) rfl rfl rfl hf1 ?_
                        refine jv_iconst (pc' := 179) (n := 1) rfl rfl ?_
                        refine jv_iastore (pc' := 180) (n := 16) (e := ((dp : Nat) : Int)) (v := (iI 1)) rfl rfl rfl rfl rfl (by omega) ?_
                        refine jx_step (pc' := 238) rfl ?_
                        refine jx_step (pc' := 19) rfl ?_
                        first | (exfalso; omega) | exact ih k (a + 2) F (true :: r) r.length (jm_u (jm_u (jm_u I1 103 19 (iI (((a : Nat) : Int) + 1))) 103 19 (iI ((a + 2 : Nat) : Int))) 118 (((dp : Nat) : Int) : Int).toNat (iI 1)) (by omega) hE2 (by simp) hT rfl hF (OP_s (by omega) rfl (by exact OP_e (I := I1) (fun i => rfl) hO.2)) (fr_t hfr (fr_u (by simp [wP]) (fr_u (by simp [wP]) (fr_u (by simp [wP]) (fr_r _))))) _ hf0 (hf1.trans (congrArg (fun z => some (Value.int (iI z))) (by omega))) 
                      · skip
                        refine jv_iconst (pc' := 172) (n := 0) rfl rfl ?_
                        refine jv_retZ rfl rfl (by first | exact Or.inl rfl | exact Or.inr rfl) ⟨_, _, rfl, ?_⟩
                        first
                        | (exfalso; omega)
                        | contradiction
                        | (exfalso; rcases hn1 with q | q <;> contradiction)
                        | exact ⟨_, rfl, jq_f (by rw [hok]; simp), fun _ => (by rw [he]; exact rfl), fr_t hfr (fr_u (by simp [wP]) (fr_u (by simp [wP]) (fr_r _)))⟩
                    · skip
                      refine jv_call (pc' := 168) rfl (ml_count_n (a := a + 1) (F := F) hT rfl (by omega) hF hF2 hs126 hk125) (fun vq131 gq131 q131 => ?_)
                      obtain ⟨rfl, rfl⟩ := q131
                      show jx L xs _ 121 168 _ [.int (iI (-1))] _ _
                      refine jv_if_ge (t := 173) (pc' := 171) (a := (-1)) rfl rfl rfl (by omega) (fun h132 => ?_) (fun h132 => ?_)
                      · skip
                        exact absurd h132 (by decide)
                      · skip
                        refine jv_iconst (pc' := 172) (n := 0) rfl rfl ?_
                        refine jv_retZ rfl rfl (by first | exact Or.inl rfl | exact Or.inr rfl) ⟨_, _, rfl, ?_⟩
                        first
                        | (exfalso; omega)
                        | contradiction
                        | (exfalso; rcases hn1 with q | q <;> contradiction)
                        | exact ⟨_, rfl, jq_f (by rw [hok]; simp), fun _ => (by rw [he]; exact rfl), fr_t hfr (fr_u (by simp [wP]) (fr_r _))⟩
              · skip
                exfalso; omega
            · skip
              exfalso; omega
          · skip
            exfalso; omega
        · -- open
          rw [e1, e2, e3] at hE2
          simp only [List.length_cons, List.length_nil] at hdp hs4
          have hn80 := hT.2.1
          have hbb : (if b = true then (1 : Int) else 0) = 0 ∨ (if b = true then (1 : Int) else 0) = 1 := by cases b <;> simp
          refine jv_aload_n (pc' := 20) (k := 0) (x := 103) rfl rfl rfl hf0 ?_
          have hm133 := MT_c hT (a)
          refine jv_call (pc' := 23) rfl (ml_here (a := a) hT ha (by omega)) (fun vq134 gq134 q134 => ?_)
          obtain ⟨rfl, rfl⟩ := q134
          show jx L xs _ 121 23 _ [.int (iI (c (a)))] _ _
          refine jv_istore_n (pc' := 24) (k := 2) (x := (iI (c (a)))) rfl rfl rfl rfl (Or.inr (congrArg jm_lng hf1)) ?_
          refine jv_iload_n (pc' := 25) (k := 2) (x := (iI (c (a)))) rfl rfl rfl rfl ?_
          refine jv_iconst (pc' := 26) (n := -1) rfl rfl ?_
          refine jv_ic_ne (t := 49) (pc' := 29) (a := (c (a))) (b := (-1)) rfl rfl rfl (by omega) (fun h135 => ?_) (fun h135 => ?_)
          · skip
            refine jv_iload_n (pc' := 50) (k := 2) (x := (iI (c (a)))) rfl rfl rfl rfl ?_
            refine jv_bipush (pc' := 52) (n := 41) rfl rfl rfl ?_
            refine jv_ic_ne (t := 93) (pc' := 55) (a := (c (a))) (b := 41) rfl rfl rfl (by omega) (fun h136 => ?_) (fun h136 => ?_)
            · skip
              refine jv_iload_n (pc' := 94) (k := 2) (x := (iI (c (a)))) rfl rfl rfl rfl ?_
              refine jv_bipush (pc' := 96) (n := 62) rfl rfl rfl ?_
              refine jv_ic_ne (t := 148) (pc' := 99) (a := (c (a))) (b := 62) rfl rfl rfl (by omega) (fun h137 => ?_) (fun h137 => ?_)
              · skip
                refine jv_iload_n (pc' := 149) (k := 2) (x := (iI (c (a)))) rfl rfl rfl rfl ?_
                refine jv_bipush (pc' := 151) (n := 36) rfl rfl rfl ?_
                refine jv_ic_ne (t := 183) (pc' := 154) (a := (c (a))) (b := 36) rfl rfl rfl (by omega) (fun h138 => ?_) (fun h138 => ?_)
                · skip
                  refine jv_iload_n (pc' := 184) (k := 2) (x := (iI (c (a)))) rfl rfl rfl rfl ?_
                  refine jv_bipush (pc' := 186) (n := 35) rfl rfl rfl ?_
                  refine jv_ic_eq (t := 195) (pc' := 189) (a := (c (a))) (b := 35) rfl rfl rfl (by omega) (fun h139 => ?_) (fun h139 => ?_)
                  · skip
                    refine jv_iload_n (pc' := 196) (k := 1) (x := (iI ((dp : Nat) : Int))) rfl rfl rfl hf1 ?_
                    refine jv_iconst (pc' := 197) (n := 3) rfl rfl ?_
                    refine jv_ic_eq (t := 207) (pc' := 200) (a := ((dp : Nat) : Int)) (b := 3) rfl rfl rfl (by omega) (fun h140 => ?_) (fun h140 => ?_)
                    · skip
                      refine jv_iconst (pc' := 208) (n := 0) rfl rfl ?_
                      refine jv_retZ rfl rfl (by first | exact Or.inl rfl | exact Or.inr rfl) ⟨_, _, rfl, ?_⟩
                      first
                      | (exfalso; omega)
                      | contradiction
                      | (exfalso; rcases hn1 with q | q <;> contradiction)
                      | exact ⟨_, rfl, jq_f (by rw [hok]; simp), fun _ => (by rw [he]; exact ha), fr_t hfr (fr_r _)⟩
                    · skip
                      refine jv_aload_n (pc' := 201) (k := 0) (x := 103) rfl rfl rfl hf0 ?_
                      refine jv_call (pc' := 204) rfl (ml_opens (a := a) (F := F) hT ha (by omega) hF (by omega) (by omega)) (fun vq141 gq141 q141 => ?_)
                      obtain ⟨Iq141, rfl, rfl, eq141, fq141, rq141⟩ := q141
                      have Tq141 := MT_fr hT rq141 (by simp [wAF, wP]) (by simp [wAF, wP])
                      have Oq141 := OP_e (fun i => rq141 118 i (by simp [wAF, wP])) hO
                      show jx L xs _ 121 204 _ [.int (jb (opO c F a))] _ _
                      refine jv_jb_ne (t := 209) (pc' := 207) (P := opO c F a) rfl rfl rfl (fun h142 => ?_) (fun h142 => ?_)
                      · skip
                        refine jv_iinc (pc' := 212) (k := 1) (a := ((dp : Nat) : Int)) rfl rfl hf1 rfl (Or.inr (congrArg jm_lng hf0)) ?_
                        refine jv_aload_n (pc' := 213) (k := 0) (x := 103) rfl rfl rfl hf0 ?_
                        refine jv_getR (pc' := 216) (c := 12) (k := 21) (v := 118) rfl rfl rfl (fun _ _ => rfl) rfl rfl rfl ?_
                        refine jv_iload_n (pc' := 217) (k := 1) (x := (iI (((dp : Nat) : Int) + 1))) rfl rfl rfl rfl ?_
                        refine jv_iconst (pc' := 218) (n := 0) rfl rfl ?_
                        refine jv_iastore (pc' := 219) (n := 16) (e := (((dp : Nat) : Int) + 1)) (v := (iI 0)) rfl rfl rfl rfl rfl (by omega) ?_
                        refine jx_step (pc' := 238) rfl ?_
                        refine jx_step (pc' := 19) rfl ?_
                        first | (exfalso; omega) | exact ih k (opA c F a) F (false :: b :: r) (r.length + 1) (jm_u Iq141 118 (((dp : Nat) : Int) + 1 : Int).toNat (iI 0)) (by omega) hE2 (by simp) Tq141 eq141 fq141 (OP_s (by simp; omega) rfl Oq141) (fr_t hfr (fr_u (by simp [wP]) (fr_t (fr_r _) (fr_w rq141 wAF_P)))) _ hf0 (show _ = some (Value.int (iI ((r.length + 1 : Nat) : Int))) from congrArg (fun z => some (Value.int (iI z))) (by omega)) 
                      · skip
                        refine jv_iconst (pc' := 208) (n := 0) rfl rfl ?_
                        refine jv_retZ rfl rfl (by first | exact Or.inl rfl | exact Or.inr rfl) ⟨_, _, rfl, ?_⟩
                        first
                        | (exfalso; omega)
                        | contradiction
                        | (exfalso; rcases hn1 with q | q <;> contradiction)
                        | exact ⟨_, rfl, jq_f (by rw [hok]; simp), fun _ => (by rw [he]; exact eq141), fr_t hfr (fr_t (fr_r _) (fr_w rq141 wAF_P))⟩
                  · skip
                    refine jv_iload_n (pc' := 190) (k := 2) (x := (iI (c (a)))) rfl rfl rfl rfl ?_
                    refine jv_bipush (pc' := 192) (n := 63) rfl rfl rfl ?_
                    refine jv_ic_ne (t := 222) (pc' := 195) (a := (c (a))) (b := 63) rfl rfl rfl (by omega) (fun h143 => ?_) (fun h143 => ?_)
                    · skip
                      refine jv_aload_n (pc' := 223) (k := 0) (x := 103) rfl rfl rfl hf0 ?_
                      refine jv_call (pc' := 226) rfl (ml_field (a := a) (F := F) hT ha (by omega) hF (by omega)) (fun vq144 gq144 q144 => ?_)
                      obtain ⟨Iq144, rfl, rfl, eq144, fq144, rq144⟩ := q144
                      have Tq144 := MT_fr hT rq144 (by simp [wAF, wP]) (by simp [wAF, wP])
                      have Oq144 := OP_e (fun i => rq144 118 i (by simp [wAF, wP])) hO
                      show jx L xs _ 121 226 _ [.int (jb (fdOk c F a))] _ _
                      refine jv_jb_ne (t := 231) (pc' := 229) (P := fdOk c F a) rfl rfl rfl (fun h145 => ?_) (fun h145 => ?_)
                      · skip
                        refine jv_aload_n (pc' := 232) (k := 0) (x := 103) rfl rfl rfl hf0 ?_
                        refine jv_getR (pc' := 235) (c := 12) (k := 21) (v := 118) rfl rfl rfl (fun _ _ => rfl) rfl rfl rfl ?_
                        refine jv_iload_n (pc' := 236) (k := 1) (x := (iI ((dp : Nat) : Int))) rfl rfl rfl hf1 ?_
                        refine jv_iconst (pc' := 237) (n := 1) rfl rfl ?_
                        refine jv_iastore (pc' := 238) (n := 16) (e := ((dp : Nat) : Int)) (v := (iI 1)) rfl rfl rfl rfl rfl (by omega) ?_
                        refine jx_step (pc' := 19) rfl ?_
                        first | (exfalso; omega) | exact ih k (opA c F a) F (false :: b :: r) (r.length + 1) (jm_u Iq144 118 (((dp : Nat) : Int) : Int).toNat (iI 1)) (by omega) hE2 (by simp) Tq144 eq144 fq144 (OP_s (by simp; omega) rfl Oq144) (fr_t hfr (fr_u (by simp [wP]) (fr_t (fr_r _) (fr_w rq144 wAF_P)))) _ hf0 (show _ = some (Value.int (iI ((r.length + 1 : Nat) : Int))) from congrArg (fun z => some (Value.int (iI z))) (by omega)) 
                      · skip
                        refine jv_iconst (pc' := 230) (n := 0) rfl rfl ?_
                        refine jv_retZ rfl rfl (by first | exact Or.inl rfl | exact Or.inr rfl) ⟨_, _, rfl, ?_⟩
                        first
                        | (exfalso; omega)
                        | contradiction
                        | (exfalso; rcases hn1 with q | q <;> contradiction)
                        | exact ⟨_, rfl, jq_f (by rw [hok]; simp), fun _ => (by rw [he]; exact eq144), fr_t hfr (fr_t (fr_r _) (fr_w rq144 wAF_P))⟩
                    · skip
                      refine jv_iload_n (pc' := 196) (k := 1) (x := (iI ((dp : Nat) : Int))) rfl rfl rfl hf1 ?_
                      refine jv_iconst (pc' := 197) (n := 3) rfl rfl ?_
                      refine jv_ic_eq (t := 207) (pc' := 200) (a := ((dp : Nat) : Int)) (b := 3) rfl rfl rfl (by omega) (fun h146 => ?_) (fun h146 => ?_)
                      · skip
                        refine jv_iconst (pc' := 208) (n := 0) rfl rfl ?_
                        refine jv_retZ rfl rfl (by first | exact Or.inl rfl | exact Or.inr rfl) ⟨_, _, rfl, ?_⟩
                        first
                        | (exfalso; omega)
                        | contradiction
                        | (exfalso; rcases hn1 with q | q <;> contradiction)
                        | exact ⟨_, rfl, jq_f (by rw [hok]; simp), fun _ => (by rw [he]; exact ha), fr_t hfr (fr_r _)⟩
                      · skip
                        refine jv_aload_n (pc' := 201) (k := 0) (x := 103) rfl rfl rfl hf0 ?_
                        refine jv_call (pc' := 204) rfl (ml_opens (a := a) (F := F) hT ha (by omega) hF (by omega) (by omega)) (fun vq147 gq147 q147 => ?_)
                        obtain ⟨Iq147, rfl, rfl, eq147, fq147, rq147⟩ := q147
                        have Tq147 := MT_fr hT rq147 (by simp [wAF, wP]) (by simp [wAF, wP])
                        have Oq147 := OP_e (fun i => rq147 118 i (by simp [wAF, wP])) hO
                        show jx L xs _ 121 204 _ [.int (jb (opO c F a))] _ _
                        refine jv_jb_ne (t := 209) (pc' := 207) (P := opO c F a) rfl rfl rfl (fun h148 => ?_) (fun h148 => ?_)
                        · skip
                          refine jv_iinc (pc' := 212) (k := 1) (a := ((dp : Nat) : Int)) rfl rfl hf1 rfl (Or.inr (congrArg jm_lng hf0)) ?_
                          refine jv_aload_n (pc' := 213) (k := 0) (x := 103) rfl rfl rfl hf0 ?_
                          refine jv_getR (pc' := 216) (c := 12) (k := 21) (v := 118) rfl rfl rfl (fun _ _ => rfl) rfl rfl rfl ?_
                          refine jv_iload_n (pc' := 217) (k := 1) (x := (iI (((dp : Nat) : Int) + 1))) rfl rfl rfl rfl ?_
                          refine jv_iconst (pc' := 218) (n := 0) rfl rfl ?_
                          refine jv_iastore (pc' := 219) (n := 16) (e := (((dp : Nat) : Int) + 1)) (v := (iI 0)) rfl rfl rfl rfl rfl (by omega) ?_
                          refine jx_step (pc' := 238) rfl ?_
                          refine jx_step (pc' := 19) rfl ?_
                          first | (exfalso; omega) | exact ih k (opA c F a) F (false :: b :: r) (r.length + 1) (jm_u Iq147 118 (((dp : Nat) : Int) + 1 : Int).toNat (iI 0)) (by omega) hE2 (by simp) Tq147 eq147 fq147 (OP_s (by simp; omega) rfl Oq147) (fr_t hfr (fr_u (by simp [wP]) (fr_t (fr_r _) (fr_w rq147 wAF_P)))) _ hf0 (show _ = some (Value.int (iI ((r.length + 1 : Nat) : Int))) from congrArg (fun z => some (Value.int (iI z))) (by omega)) 
                        · skip
                          refine jv_iconst (pc' := 208) (n := 0) rfl rfl ?_
                          refine jv_retZ rfl rfl (by first | exact Or.inl rfl | exact Or.inr rfl) ⟨_, _, rfl, ?_⟩
                          first
                          | (exfalso; omega)
                          | contradiction
                          | (exfalso; rcases hn1 with q | q <;> contradiction)
                          | exact ⟨_, rfl, jq_f (by rw [hok]; simp), fun _ => (by rw [he]; exact eq147), fr_t hfr (fr_t (fr_r _) (fr_w rq147 wAF_P))⟩
                · skip
                  exfalso; omega
              · skip
                exfalso; omega
            · skip
              exfalso; omega
          · skip
            exfalso; omega
        · -- field
          rw [e1, e2, e3] at hE2
          simp only [List.length_cons, List.length_nil] at hdp hs4
          have hn80 := hT.2.1
          have hbb : (if b = true then (1 : Int) else 0) = 0 ∨ (if b = true then (1 : Int) else 0) = 1 := by cases b <;> simp
          refine jv_aload_n (pc' := 20) (k := 0) (x := 103) rfl rfl rfl hf0 ?_
          have hm149 := MT_c hT (a)
          refine jv_call (pc' := 23) rfl (ml_here (a := a) hT ha (by omega)) (fun vq150 gq150 q150 => ?_)
          obtain ⟨rfl, rfl⟩ := q150
          show jx L xs _ 121 23 _ [.int (iI (c (a)))] _ _
          refine jv_istore_n (pc' := 24) (k := 2) (x := (iI (c (a)))) rfl rfl rfl rfl (Or.inr (congrArg jm_lng hf1)) ?_
          refine jv_iload_n (pc' := 25) (k := 2) (x := (iI (c (a)))) rfl rfl rfl rfl ?_
          refine jv_iconst (pc' := 26) (n := -1) rfl rfl ?_
          refine jv_ic_ne (t := 49) (pc' := 29) (a := (c (a))) (b := (-1)) rfl rfl rfl (by omega) (fun h151 => ?_) (fun h151 => ?_)
          · skip
            refine jv_iload_n (pc' := 50) (k := 2) (x := (iI (c (a)))) rfl rfl rfl rfl ?_
            refine jv_bipush (pc' := 52) (n := 41) rfl rfl rfl ?_
            refine jv_ic_ne (t := 93) (pc' := 55) (a := (c (a))) (b := 41) rfl rfl rfl (by omega) (fun h152 => ?_) (fun h152 => ?_)
            · skip
              refine jv_iload_n (pc' := 94) (k := 2) (x := (iI (c (a)))) rfl rfl rfl rfl ?_
              refine jv_bipush (pc' := 96) (n := 62) rfl rfl rfl ?_
              refine jv_ic_ne (t := 148) (pc' := 99) (a := (c (a))) (b := 62) rfl rfl rfl (by omega) (fun h153 => ?_) (fun h153 => ?_)
              · skip
                refine jv_iload_n (pc' := 149) (k := 2) (x := (iI (c (a)))) rfl rfl rfl rfl ?_
                refine jv_bipush (pc' := 151) (n := 36) rfl rfl rfl ?_
                refine jv_ic_ne (t := 183) (pc' := 154) (a := (c (a))) (b := 36) rfl rfl rfl (by omega) (fun h154 => ?_) (fun h154 => ?_)
                · skip
                  refine jv_iload_n (pc' := 184) (k := 2) (x := (iI (c (a)))) rfl rfl rfl rfl ?_
                  refine jv_bipush (pc' := 186) (n := 35) rfl rfl rfl ?_
                  refine jv_ic_eq (t := 195) (pc' := 189) (a := (c (a))) (b := 35) rfl rfl rfl (by omega) (fun h155 => ?_) (fun h155 => ?_)
                  · skip
                    exfalso; omega
                  · skip
                    refine jv_iload_n (pc' := 190) (k := 2) (x := (iI (c (a)))) rfl rfl rfl rfl ?_
                    refine jv_bipush (pc' := 192) (n := 63) rfl rfl rfl ?_
                    refine jv_ic_ne (t := 222) (pc' := 195) (a := (c (a))) (b := 63) rfl rfl rfl (by omega) (fun h156 => ?_) (fun h156 => ?_)
                    · skip
                      refine jv_aload_n (pc' := 223) (k := 0) (x := 103) rfl rfl rfl hf0 ?_
                      refine jv_call (pc' := 226) rfl (ml_field (a := a) (F := F) hT ha (by omega) hF (by omega)) (fun vq157 gq157 q157 => ?_)
                      obtain ⟨Iq157, rfl, rfl, eq157, fq157, rq157⟩ := q157
                      have Tq157 := MT_fr hT rq157 (by simp [wAF, wP]) (by simp [wAF, wP])
                      have Oq157 := OP_e (fun i => rq157 118 i (by simp [wAF, wP])) hO
                      show jx L xs _ 121 226 _ [.int (jb (fdOk c F a))] _ _
                      refine jv_jb_ne (t := 231) (pc' := 229) (P := fdOk c F a) rfl rfl rfl (fun h158 => ?_) (fun h158 => ?_)
                      · skip
                        refine jv_aload_n (pc' := 232) (k := 0) (x := 103) rfl rfl rfl hf0 ?_
                        refine jv_getR (pc' := 235) (c := 12) (k := 21) (v := 118) rfl rfl rfl (fun _ _ => rfl) rfl rfl rfl ?_
                        refine jv_iload_n (pc' := 236) (k := 1) (x := (iI ((dp : Nat) : Int))) rfl rfl rfl hf1 ?_
                        refine jv_iconst (pc' := 237) (n := 1) rfl rfl ?_
                        refine jv_iastore (pc' := 238) (n := 16) (e := ((dp : Nat) : Int)) (v := (iI 1)) rfl rfl rfl rfl rfl (by omega) ?_
                        refine jx_step (pc' := 19) rfl ?_
                        first | (exfalso; omega) | exact ih k (fdA c F a) (fdF c F a) (true :: r) r.length (jm_u Iq157 118 (((dp : Nat) : Int) : Int).toNat (iI 1)) (by omega) hE2 (by simp) Tq157 eq157 fq157 (OP_s (by omega) rfl (by exact OP_e (I := Iq157) (fun i => rfl) Oq157.2)) (fr_t hfr (fr_u (by simp [wP]) (fr_t (fr_r _) (fr_w rq157 wAF_P)))) _ hf0 (hf1.trans (congrArg (fun z => some (Value.int (iI z))) (by omega))) 
                      · skip
                        refine jv_iconst (pc' := 230) (n := 0) rfl rfl ?_
                        refine jv_retZ rfl rfl (by first | exact Or.inl rfl | exact Or.inr rfl) ⟨_, _, rfl, ?_⟩
                        first
                        | (exfalso; omega)
                        | contradiction
                        | (exfalso; rcases hn1 with q | q <;> contradiction)
                        | exact ⟨_, rfl, jq_f (by rw [hok]; simp), fun _ => (by rw [he]; exact eq157), fr_t hfr (fr_t (fr_r _) (fr_w rq157 wAF_P))⟩
                    · skip
                      exfalso; omega
                · skip
                  exfalso; omega
              · skip
                exfalso; omega
            · skip
              exfalso; omega
          · skip
            exfalso; omega
  exact H1 _ k 0 0 ([false]) 0 (jm_u (jm_u (jm_u I 103 19 (iI 0)) 103 20 (iI 0)) 118 (0 : Int).toNat (iI 0)) (Nat.lt_succ_self _) hE rfl hT rfl rfl ⟨rfl, trivial⟩ (fr_u (by simp [wP]) (fr_u (by simp [wP]) (fr_u (by simp [wP]) (fr_r _)))) _ rfl rfl 
end M3
