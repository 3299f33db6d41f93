/-! printed in part by wip/whole/gen/f2.py: the class reads a filter -/
def ib (b : Bool) : Int := if b then 1 else 0
theorem jb_ib (P : Prop) : jb P = iI (ib (bp P)) := by
  by_cases h : P
  · rw [jb_t h]; unfold ib bp; simp [h]
  · rw [jb_f h]; unfold ib bp; simp [h]
section QSs
variable {c : Nat → Int} {n a e : Nat} {k : List Bool} {s : DSt} {y l t : Bool} {r : VK}
theorem QS_n (h : c a = 33) (hk : k.length < 8) : QS c 0 a k 0 (a + 1) (false :: k) := Or.inl ⟨rfl, rfl, Or.inl h, hk, rfl, Or.inl ⟨h, rfl⟩⟩
theorem QS_b (h : c a = 40) (hk : k.length < 8) : QS c 0 a k 0 (a + 1) (true :: k) := Or.inl ⟨rfl, rfl, Or.inr h, hk, rfl, Or.inr ⟨h, rfl⟩⟩
theorem QS_t (h : c a ≠ 33 ∧ c a ≠ 40) (q : tO c a) : QS c 0 a k 1 (tA c a) k := Or.inr (Or.inl ⟨rfl, rfl, h, q, rfl, rfl⟩)
theorem QS_m : QS c 1 a (false :: k) 1 a k := Or.inr (Or.inr (Or.inl ⟨rfl, rfl, rfl, rfl⟩))
theorem QS_e (h : c a = 41) : QS c 1 a (true :: k) 1 (a + 1) k := Or.inr (Or.inr (Or.inr (Or.inl ⟨rfl, rfl, rfl, h, rfl⟩)))
theorem QS_j (hk : k = [] ∨ ∃ r, k = true :: r) (h : c a = 38 ∨ c a = 124) : QS c 1 a k 0 (a + 1) k := Or.inr (Or.inr (Or.inr (Or.inr ⟨rfl, rfl, hk, h, rfl, rfl⟩)))
theorem QE_d (hb : QB a k) (h : c a = 33 ∨ c a = 40) (hk : ¬ k.length < 8) : QE c n 0 0 a k false a := ⟨hb, Or.inl ⟨rfl, h, hk, rfl, rfl⟩⟩
theorem QE_t (hb : QB a k) (h : c a ≠ 33 ∧ c a ≠ 40) (q : ¬ tO c a) : QE c n 0 0 a k false (tA c a) := ⟨hb, Or.inr (Or.inl ⟨rfl, h, q, rfl, rfl⟩)⟩
theorem QE_b (hb : QB a (true :: k)) (h : c a ≠ 38 ∧ c a ≠ 124 ∧ c a ≠ 41) : QE c n 0 1 a (true :: k) false a := ⟨hb, Or.inr (Or.inr (Or.inr ⟨rfl, ⟨k, rfl⟩, h, rfl, rfl⟩))⟩
theorem VS_n (h : c a = 33) : VS c s a ((y, l, t) :: r) (a + 1) ((y, l, !t) :: r) := ⟨y, l, t, r, rfl, Or.inl ⟨h, rfl, rfl⟩⟩
theorem VS_b (h : c a = 40) : VS c s a ((y, l, t) :: r) (a + 1) ((false, true, false) :: (y, l, t) :: r) := ⟨y, l, t, r, rfl, Or.inr (Or.inl ⟨h, rfl, rfl⟩)⟩
theorem VS_a (h : c a = 38) : VS c s a ((y, l, t) :: r) (a + 1) ((y, l, t) :: r) := ⟨y, l, t, r, rfl, Or.inr (Or.inr (Or.inl ⟨h, rfl, rfl⟩))⟩
theorem VS_o (h : c a = 124) : VS c s a ((y, l, t) :: r) (a + 1) ((y || l, true, t) :: r) := ⟨y, l, t, r, rfl, Or.inr (Or.inr (Or.inr (Or.inl ⟨h, rfl, rfl⟩)))⟩
theorem VS_e {y2 l2 t2 : Bool} (h : c a = 41) : VS c s a ((y, l, t) :: (y2, l2, t2) :: r) (a + 1) ((y2, l2 && ((y || l) != t2), false) :: r) := ⟨y, l, t, _, rfl, Or.inr (Or.inr (Or.inr (Or.inr (Or.inl ⟨h, rfl, y2, l2, t2, r, rfl, rfl⟩))))⟩
theorem VS_t (q : tO c a) : VS c s a ((y, l, t) :: r) (tA c a) ((y, l && (bp (tV c s a) != t), false) :: r) := ⟨y, l, t, r, rfl, Or.inr (Or.inr (Or.inr (Or.inr (Or.inr ⟨q, rfl, rfl⟩))))⟩
end QSs
def HK (k : List Bool) : Prop := k = [] ∨ ∃ r, k = true :: r
/-- what a factor, a term, a filter of truth b is for the machine of truth -/
def VF (c : Nat → Int) (s : DSt) (D a e : Nat) (b : Bool) : Prop := ∀ (y l t : Bool) (r : VK), r.length ≤ D → ∃ k, VR c s k a ((y, l, t) :: r) e ((y, l && (b != t), false) :: r)
def VT (c : Nat → Int) (s : DSt) (D a e : Nat) (b : Bool) : Prop := ∀ (y : Bool) (r : VK), r.length ≤ D → ∃ k, VR c s k a ((y, true, false) :: r) e ((y, b, false) :: r)
def VL (c : Nat → Int) (s : DSt) (D a e : Nat) (b : Bool) : Prop := ∀ (r : VK), r.length ≤ D → ∃ k y l, VR c s k a ((false, true, false) :: r) e ((y, l, false) :: r) ∧ b = (y || l)
theorem VF_t {c : Nat → Int} {s : DSt} {D a : Nat} (hD : D ≤ 8) (ha : a ≤ 80) (q : tO c a) : VF c s D a (tA c a) (bp (tV c s a)) := fun y l t r hr => ⟨1, VR_1 ⟨ha, by simp; omega⟩ (VS_t q)⟩
theorem VF_n {c : Nat → Int} {s : DSt} {D a e : Nat} {b : Bool} (hD : D ≤ 8) (ha : a ≤ 80) (h : c a = 33) (q : VF c s (D + 1) (a + 1) e b) : VF c s D a e (!b) := fun y l t r hr => by
  obtain ⟨k, hk⟩ := q y l (!t) r (by omega)
  have e1 : (l && ((!b) != t)) = (l && (b != (!t))) := by cases b <;> cases t <;> rfl
  rw [e1]
  exact ⟨_, VR_app (VR_1 ⟨ha, by simp; omega⟩ (VS_n h)) hk⟩
theorem VF_b {c : Nat → Int} {s : DSt} {D a e : Nat} {b : Bool} (hD : D < 8) (ha : a ≤ 80) (he : e ≤ 80) (h : c a = 40) (q : VL c s (D + 1) (a + 1) e b) (h2 : c e = 41) : VF c s D a (e + 1) b := fun y l t r hr => by
  obtain ⟨k, y2, l2, hk, rfl⟩ := q ((y, l, t) :: r) (by simp; omega)
  exact ⟨_, VR_app (VR_1 ⟨ha, by simp; omega⟩ (VS_b h)) (VR_app hk (VR_1 ⟨he, by simp; omega⟩ (VS_e h2)))⟩
theorem VT_0 {c : Nat → Int} {s : DSt} {D a e : Nat} {b : Bool} (q : VF c s D a e b) : VT c s D a e b := fun y r hr => by
  obtain ⟨k, hk⟩ := q y true false r hr
  have e1 : (true && (b != false)) = b := by cases b <;> rfl
  rw [e1] at hk; exact ⟨k, hk⟩
theorem VT_s {c : Nat → Int} {s : DSt} {D a e e2 : Nat} {b b2 : Bool} (hD : D ≤ 8) (he : e ≤ 80) (h : VT c s D a e b) (hc : c e = 38) (q : VF c s D (e + 1) e2 b2) : VT c s D a e2 (b && b2) := fun y r hr => by
  obtain ⟨k, hk⟩ := h y r hr
  obtain ⟨k2, hk2⟩ := q y b false r hr
  have e1 : (b && (b2 != false)) = (b && b2) := by cases b <;> cases b2 <;> rfl
  rw [e1] at hk2
  exact ⟨_, VR_app hk (VR_app (VR_1 ⟨he, by simp; omega⟩ (VS_a hc)) hk2)⟩
theorem VL_0 {c : Nat → Int} {s : DSt} {D a e : Nat} {b : Bool} (q : VT c s D a e b) : VL c s D a e b := fun r hr => by
  obtain ⟨k, hk⟩ := q false r hr
  exact ⟨k, false, b, hk, by simp⟩
theorem VL_s {c : Nat → Int} {s : DSt} {D a e e2 : Nat} {b b2 : Bool} (hD : D ≤ 8) (he : e ≤ 80) (h : VL c s D a e b) (hc : c e = 124) (q : VT c s D (e + 1) e2 b2) : VL c s D a e2 (b || b2) := fun r hr => by
  obtain ⟨k, y, l, hk, rfl⟩ := h r hr
  obtain ⟨k2, hk2⟩ := q (y || l) r hr
  exact ⟨_, y || l, b2, VR_app hk (VR_app (VR_1 ⟨he, by simp; omega⟩ (VS_o hc)) hk2), rfl⟩
/-- what the class's readers answer: X tells of the truth and of what stands behind -/
def PQ (c : Nat → Int) (n : Nat) (X : Nat → Bool → Prop) (j : Nat) (p : Nat → Option Nat) (I : Nat → Nat → Int32) (M : Nat → Nat → Int64) (a : Nat) (k : List Bool) (v : Option Value) (g1 : jm_H) : Prop :=
  ∃ (I' : Nat → Nat → Int32) (e : Nat), g1 = jx_G j I' M p ∧ fr wF I I' ∧ I' 96 1 = iI ((e : Nat) : Int) ∧ (∃ z : Bool, I' 95 5 = iI (ib z)) ∧ ((v = some (.int (iI 1)) ∧ a < e ∧ e ≤ n ∧ (∃ i, QR c i 0 a k 1 e k) ∧ ∃ b, I' 95 5 = iI (ib b) ∧ X e b) ∨ (v = some (.int (iI 0)) ∧ ∃ i, QE c n i 0 a k false e))
def CFX (m D dd : Nat) (X : (Nat → Int) → DSt → Nat → Nat → Bool → Prop) (H : List Bool → Prop) : Prop := ∀ (L : Nat) (xs : Nat → Int32) (d j : Nat) (I : Nat → Nat → Int32) (M : Nat → Nat → Int64) (p : Nat → Option Nat) (c : Nat → Int) (n a t : Nat) (s : DSt) (W : Nat → Nat → Int) (sz : Nat) (k : List Bool), TL t → CT I t c n → I 96 1 = iI ((a : Nat) : Int) → p 21 = some t → a ≤ n → p 22 = some 39 → DCe I M s → EP W sz s → (0 ≤ s 0 2 ∧ s 0 2 ≤ 64) → (∃ z : Bool, I 95 5 = iI (ib z)) → k.length = D → H k →
  jc L xs (d + dd) m [.ref 95, .int (iI ((D : Nat) : Int))] (jx_G j I M p) (PQ c n (X c s a) j p I M a k)
def CFF (D dd : Nat) : Prop := CFX 89 D dd (fun c s a e b => VF c s D a e b) (fun _ => True)
def CFT (D dd : Nat) : Prop := CFX 88 D dd (fun c s a e b => VT c s D a e b ∧ c e ≠ 38) HK
def CFL (D dd : Nat) : Prop := CFX 87 D dd (fun c s a e b => VL c s D a e b ∧ c e ≠ 38 ∧ c e ≠ 124) HK
theorem CFX_s {m D dd : Nat} {X : (Nat → Int) → DSt → Nat → Nat → Bool → Prop} {H : List Bool → Prop} (q : CFX m D dd X H) : CFX m D (dd + 1) X H := fun L xs d => by
  have := q L xs (d + 1)
  rw [show d + (dd + 1) = d + 1 + dd by omega]
  exact this
theorem tA_lt {c : Nat → Int} {a : Nat} {n : Nat} (hn : ∀ k, n ≤ k → c k = -1) (ha : a ≤ n) (h : tO c a) : a < tA c a := by
  have e : tA c a = cA c (a + 2) := (if_pos h.1).trans (if_pos h.2.1)
  have h1 : a + 1 < n := by
    by_cases z : a + 1 < n
    · exact z
    · have := hn (a + 1) (by omega); have := h.2.1; omega
  have := cA_b hn (a := a + 2) (by omega)
  omega

set_option maxHeartbeats 4000000 in
theorem cl_CFT {D e : Nat} (hD8 : D ≤ 8) (hF : CFF D (e + 1)) : CFT D (e + 2) := by
  intro L xs d j I M p c n a t s W sz k hl hC ha hp han hp22 hD hE hc htz hkl hH
  show jc L xs (d + e + 2) _ _ _ _
  unfold jc
  have hn := hC.2.1
  have hcn := hC.2.2.2.2
  refine jv_aload_n (pc' := 1) (k := 0) (x := 95) rfl rfl rfl rfl ?_
  refine jv_iload_n (pc' := 2) (k := 1) (x := (iI ((D : Nat) : Int))) rfl rfl rfl rfl ?_
  have Gq1 : DCe I M s := DCe_F hD (fr_r _)
  refine jv_call (pc' := 5) rfl (hF L xs d j I M p c n (a) t s W sz k hl hC ha hp (by omega) hp22 Gq1 hE hc htz hkl trivial) (fun vq1 gq1 q1 => ?_)
  obtain ⟨Iq1, eq1, rfl, rq1, aq1, yq1, q1⟩ := q1
  rcases q1 with ⟨rfl, l1q1, l2q1, ⟨iq1, Qq1⟩, bq1, tq1, Xq1⟩ | ⟨rfl, iq1, Eq1⟩
  · skip
    rcases bq1 with _ | _
    · skip
      show jx L xs _ 88 5 _ [.int (iI 1)] _ _
      refine jv_if_ne (t := 10) (pc' := 8) (a := 1) rfl rfl rfl (by omega) (fun hz_2 => ?_) (fun hz_2 => ?_)
      · skip
        refine jv_aload_n (pc' := 11) (k := 0) (x := 95) rfl rfl rfl rfl ?_
        refine jv_getI (pc' := 14) (c := 9) (k := 5) (v := (iI 0)) rfl rfl rfl (fun _ _ => rfl) rfl rfl tq1 ?_
        refine jv_istore_n (pc' := 15) (k := 2) (x := (iI 0)) rfl rfl rfl rfl (Or.inr rfl) ?_
        refine jv_iconst (pc' := 16) (n := 0) rfl rfl ?_
        refine jv_istore_n (pc' := 17) (k := 3) (x := (iI 0)) rfl rfl rfl rfl (Or.inr rfl) ?_
        have H3 : ∀ (N : Nat) (i : Nat) (e1 : Nat) (I1 : Nat → Nat → Int32) (al : Bool), 80 - i < N → (i ≤ 80) → (i ≤ e1) → (e1 ≤ n) → (a < e1) → (fr wF I I1) → (I1 96 1 = iI ((e1 : Nat) : Int)) → (∃ z : Bool, I1 95 5 = iI (ib z)) → (∃ i, QR c i 0 a k 1 e1 k) → (VT c s D a e1 al) → ∀ f : jm_F, f 0 = some (.ref 95) → f 1 = some (.int (iI ((D : Nat) : Int))) → f 2 = some (.int (iI (ib al))) → f 3 = some (.int (iI ((i : Nat) : Int))) → jx L xs ((d + e + 2)) 88 17 f [] (jx_G j I1 M p) (fun z => ∃ v g1, z = (.inl v, g1) ∧ PQ c n (fun e b => VT c s D a e b ∧ c e ≠ 38) j p I M a k v g1) := by
          intro N
          induction N with
          | zero => intro i e1 I1 al hN; exact absurd hN (Nat.not_lt_zero _)
          | succ N ih =>
            intro i e1 I1 al hN hi hie he1 hae hf ha1 hT hQ hVV f hf0 hf1 hf2 hf3 
            refine jv_iload_n (pc' := 18) (k := 3) (x := (iI ((i : Nat) : Int))) rfl rfl rfl hf3 ?_
            have ho1 : c e1 = -1 ∨ e1 < n := by
              by_cases z : e1 < n
              · exact Or.inr z
              · exact Or.inl (hcn e1 (by omega))
            have C1 : CT I1 t c n := CT_fr (W := wF) (I := I) (t := t) (c := c) (n := n) hC hf (by unfold wF; omega) (by intro k; unfold wF; omega)
            rcases al with _ | _
            · skip
              show jx L xs _ 88 18 _ [.int (iI ((i : Nat) : Int))] _ _
              refine jv_bipush (pc' := 20) (n := 80) rfl rfl rfl ?_
              refine jv_ic_ge (t := 68) (pc' := 23) (a := ((i : Nat) : Int)) (b := 80) rfl rfl rfl (by omega) (fun hz_4 => ?_) (fun hz_4 => ?_)
              · skip
                refine jv_aload_n (pc' := 69) (k := 0) (x := 95) rfl rfl rfl hf0 ?_
                refine jv_iload_n (pc' := 70) (k := 2) (x := (iI 0)) rfl rfl rfl hf2 ?_
                refine jv_putZ (pc' := 73) (c := 9) (k := 5) rfl rfl rfl rfl (fun _ _ _ hz => if_pos hz) rfl rfl (by first | exact Or.inl rfl | exact Or.inr rfl) ?_
                refine jv_iconst (pc' := 74) (n := 1) rfl rfl ?_
                refine jv_retZ rfl rfl (by first | exact Or.inl rfl | exact Or.inr rfl) ⟨_, _, rfl, ?_⟩
                first
                | (exfalso; omega)
                | exact ⟨_, e1, rfl, (fr_u (by simp [wF]) hf), ha1, ⟨false, (by first | rfl | exact hT)⟩, Or.inl ⟨rfl, by omega, by omega, hQ, false, (by first | rfl | exact hT), ⟨hVV, by omega⟩⟩⟩
              · skip
                refine jv_aload_n (pc' := 24) (k := 0) (x := 95) rfl rfl rfl hf0 ?_
                refine jv_getR (pc' := 27) (c := 9) (k := 0) (v := 96) rfl rfl rfl (fun _ _ => rfl) rfl rfl (jR_95_0 _) ?_
                refine jv_bipush (pc' := 29) (n := 38) rfl rfl rfl ?_
                have hm5 := CT_c C1 (e1)
                have ho5 := CT_or C1 (e1)
                by_cases hk6 : c (e1) = 38
                · skip
                  refine jv_call (pc' := 32) rfl (cl_take_y_q (I := I1) (a := e1) hl C1 ha1 hp (by omega) (x := 38) (by omega) hk6) (fun vq7 gq7 q7 => ?_)
                  obtain ⟨rfl, rfl⟩ := q7
                  show jx L xs _ 88 32 _ [.int (iI 1)] _ _
                  refine jv_if_eq (t := 68) (pc' := 35) (a := 1) rfl rfl rfl (by omega) (fun hz_8 => ?_) (fun hz_8 => ?_)
                  · skip
                    exact absurd hz_8 (by decide)
                  · skip
                    refine jv_aload_n (pc' := 36) (k := 0) (x := 95) rfl rfl rfl hf0 ?_
                    refine jv_iload_n (pc' := 37) (k := 1) (x := (iI ((D : Nat) : Int))) rfl rfl rfl hf1 ?_
                    have C10 : CT (jm_u I1 96 1 (iI ((e1 + 1 : Nat) : Int))) t c n := CT_fr (W := wF) (I := I1) (t := t) (c := c) (n := n) C1 (fr_u (by simp [wF]) (fr_r _)) (by unfold wF; omega) (by intro k; unfold wF; omega)
                    have Gq9 : DCe (jm_u I1 96 1 (iI ((e1 + 1 : Nat) : Int))) M s := DCe_F hD (fr_u (by simp [wF]) hf)
                    refine jv_call (pc' := 40) rfl (hF L xs d j (jm_u I1 96 1 (iI ((e1 + 1 : Nat) : Int))) M p c n (e1 + 1) t s W sz k hl C10 rfl hp (by omega) hp22 Gq9 hE hc hT hkl trivial) (fun vq9 gq9 q9 => ?_)
                    obtain ⟨Iq9, eq9, rfl, rq9, aq9, yq9, q9⟩ := q9
                    rcases q9 with ⟨rfl, l1q9, l2q9, ⟨iq9, Qq9⟩, bq9, tq9, Xq9⟩ | ⟨rfl, iq9, Eq9⟩
                    · skip
                      rcases bq9 with _ | _
                      · skip
                        show jx L xs _ 88 40 _ [.int (iI 1)] _ _
                        refine jv_if_ne (t := 45) (pc' := 43) (a := 1) rfl rfl rfl (by omega) (fun hz_11 => ?_) (fun hz_11 => ?_)
                        · skip
                          refine jv_iload_n (pc' := 46) (k := 2) (x := (iI 0)) rfl rfl rfl hf2 ?_
                          refine jv_if_eq (t := 60) (pc' := 49) (a := 0) rfl rfl rfl (by omega) (fun hz_12 => ?_) (fun hz_12 => ?_)
                          · skip
                            refine jv_iconst (pc' := 61) (n := 0) rfl rfl ?_
                            refine jv_istore_n (pc' := 62) (k := 2) (x := (iI 0)) rfl rfl rfl rfl (Or.inr (congrArg jm_lng hf1)) ?_
                            refine jv_iinc (pc' := 65) (k := 3) (a := ((i : Nat) : Int)) rfl rfl hf3 rfl (Or.inr rfl) ?_
                            refine jx_step (pc' := 17) rfl ?_
                            exact ih (i + 1) eq9 Iq9 false (by omega) (by omega) (by omega) l2q9 (by omega) (fr_t (fr_u (by simp [wF]) hf) rq9) aq9 (⟨false, tq9⟩) (by obtain ⟨iq, hQ⟩ := hQ; exact ⟨_, QR_app hQ (QR_app (QR_1 ⟨by omega, by omega⟩ (QS_j hH (by omega))) Qq9)⟩) (VT_s hD8 (by omega) hVV (by assumption) Xq9) _ hf0 hf1 rfl rfl 
                          · skip
                            exact absurd hz_12 (by decide)
                        · skip
                          exact absurd hz_11 (by decide)
                      · skip
                        show jx L xs _ 88 40 _ [.int (iI 1)] _ _
                        refine jv_if_ne (t := 45) (pc' := 43) (a := 1) rfl rfl rfl (by omega) (fun hz_13 => ?_) (fun hz_13 => ?_)
                        · skip
                          refine jv_iload_n (pc' := 46) (k := 2) (x := (iI 0)) rfl rfl rfl hf2 ?_
                          refine jv_if_eq (t := 60) (pc' := 49) (a := 0) rfl rfl rfl (by omega) (fun hz_14 => ?_) (fun hz_14 => ?_)
                          · skip
                            refine jv_iconst (pc' := 61) (n := 0) rfl rfl ?_
                            refine jv_istore_n (pc' := 62) (k := 2) (x := (iI 0)) rfl rfl rfl rfl (Or.inr (congrArg jm_lng hf1)) ?_
                            refine jv_iinc (pc' := 65) (k := 3) (a := ((i : Nat) : Int)) rfl rfl hf3 rfl (Or.inr rfl) ?_
                            refine jx_step (pc' := 17) rfl ?_
                            exact ih (i + 1) eq9 Iq9 false (by omega) (by omega) (by omega) l2q9 (by omega) (fr_t (fr_u (by simp [wF]) hf) rq9) aq9 (⟨true, tq9⟩) (by obtain ⟨iq, hQ⟩ := hQ; exact ⟨_, QR_app hQ (QR_app (QR_1 ⟨by omega, by omega⟩ (QS_j hH (by omega))) Qq9)⟩) (VT_s hD8 (by omega) hVV (by assumption) Xq9) _ hf0 hf1 rfl rfl 
                          · skip
                            exact absurd hz_14 (by decide)
                        · skip
                          exact absurd hz_13 (by decide)
                    · skip
                      show jx L xs _ 88 40 _ [.int (iI 0)] _ _
                      refine jv_if_ne (t := 45) (pc' := 43) (a := 0) rfl rfl rfl (by omega) (fun hz_15 => ?_) (fun hz_15 => ?_)
                      · skip
                        exact absurd hz_15 (by decide)
                      · skip
                        refine jv_iconst (pc' := 44) (n := 0) rfl rfl ?_
                        refine jv_retZ rfl rfl (by first | exact Or.inl rfl | exact Or.inr rfl) ⟨_, _, rfl, ?_⟩
                        first
                        | (exfalso; omega)
                        | (obtain ⟨iq, hQ⟩ := hQ
                           exact ⟨_, _, rfl, (fr_t (fr_u (by simp [wF]) hf) rq9), aq9, yq9, Or.inr ⟨rfl, _, QR_QE hQ (QR_QE (QR_1 ⟨by omega, by omega⟩ (QS_j hH (by omega))) Eq9)⟩⟩)
                · skip
                  refine jv_call (pc' := 32) rfl (cl_take_n_q (I := I1) (a := e1) hl C1 ha1 hp (by omega) (x := 38) (by omega) hk6) (fun vq16 gq16 q16 => ?_)
                  obtain ⟨rfl, rfl⟩ := q16
                  show jx L xs _ 88 32 _ [.int (iI 0)] _ _
                  refine jv_if_eq (t := 68) (pc' := 35) (a := 0) rfl rfl rfl (by omega) (fun hz_17 => ?_) (fun hz_17 => ?_)
                  · skip
                    refine jv_aload_n (pc' := 69) (k := 0) (x := 95) rfl rfl rfl hf0 ?_
                    refine jv_iload_n (pc' := 70) (k := 2) (x := (iI 0)) rfl rfl rfl hf2 ?_
                    refine jv_putZ (pc' := 73) (c := 9) (k := 5) rfl rfl rfl rfl (fun _ _ _ hz => if_pos hz) rfl rfl (by first | exact Or.inl rfl | exact Or.inr rfl) ?_
                    refine jv_iconst (pc' := 74) (n := 1) rfl rfl ?_
                    refine jv_retZ rfl rfl (by first | exact Or.inl rfl | exact Or.inr rfl) ⟨_, _, rfl, ?_⟩
                    first
                    | (exfalso; omega)
                    | exact ⟨_, e1, rfl, (fr_u (by simp [wF]) hf), ha1, ⟨false, (by first | rfl | exact hT)⟩, Or.inl ⟨rfl, by omega, by omega, hQ, false, (by first | rfl | exact hT), ⟨hVV, by omega⟩⟩⟩
                  · skip
                    exact absurd hz_17 (by decide)
            · skip
              show jx L xs _ 88 18 _ [.int (iI ((i : Nat) : Int))] _ _
              refine jv_bipush (pc' := 20) (n := 80) rfl rfl rfl ?_
              refine jv_ic_ge (t := 68) (pc' := 23) (a := ((i : Nat) : Int)) (b := 80) rfl rfl rfl (by omega) (fun hz_18 => ?_) (fun hz_18 => ?_)
              · skip
                refine jv_aload_n (pc' := 69) (k := 0) (x := 95) rfl rfl rfl hf0 ?_
                refine jv_iload_n (pc' := 70) (k := 2) (x := (iI 1)) rfl rfl rfl hf2 ?_
                refine jv_putZ (pc' := 73) (c := 9) (k := 5) rfl rfl rfl rfl (fun _ _ _ hz => if_pos hz) rfl rfl (by first | exact Or.inl rfl | exact Or.inr rfl) ?_
                refine jv_iconst (pc' := 74) (n := 1) rfl rfl ?_
                refine jv_retZ rfl rfl (by first | exact Or.inl rfl | exact Or.inr rfl) ⟨_, _, rfl, ?_⟩
                first
                | (exfalso; omega)
                | exact ⟨_, e1, rfl, (fr_u (by simp [wF]) hf), ha1, ⟨true, (by first | rfl | exact hT)⟩, Or.inl ⟨rfl, by omega, by omega, hQ, true, (by first | rfl | exact hT), ⟨hVV, by omega⟩⟩⟩
              · skip
                refine jv_aload_n (pc' := 24) (k := 0) (x := 95) rfl rfl rfl hf0 ?_
                refine jv_getR (pc' := 27) (c := 9) (k := 0) (v := 96) rfl rfl rfl (fun _ _ => rfl) rfl rfl (jR_95_0 _) ?_
                refine jv_bipush (pc' := 29) (n := 38) rfl rfl rfl ?_
                have hm19 := CT_c C1 (e1)
                have ho19 := CT_or C1 (e1)
                by_cases hk20 : c (e1) = 38
                · skip
                  refine jv_call (pc' := 32) rfl (cl_take_y_q (I := I1) (a := e1) hl C1 ha1 hp (by omega) (x := 38) (by omega) hk20) (fun vq21 gq21 q21 => ?_)
                  obtain ⟨rfl, rfl⟩ := q21
                  show jx L xs _ 88 32 _ [.int (iI 1)] _ _
                  refine jv_if_eq (t := 68) (pc' := 35) (a := 1) rfl rfl rfl (by omega) (fun hz_22 => ?_) (fun hz_22 => ?_)
                  · skip
                    exact absurd hz_22 (by decide)
                  · skip
                    refine jv_aload_n (pc' := 36) (k := 0) (x := 95) rfl rfl rfl hf0 ?_
                    refine jv_iload_n (pc' := 37) (k := 1) (x := (iI ((D : Nat) : Int))) rfl rfl rfl hf1 ?_
                    have C24 : CT (jm_u I1 96 1 (iI ((e1 + 1 : Nat) : Int))) t c n := CT_fr (W := wF) (I := I1) (t := t) (c := c) (n := n) C1 (fr_u (by simp [wF]) (fr_r _)) (by unfold wF; omega) (by intro k; unfold wF; omega)
                    have Gq23 : DCe (jm_u I1 96 1 (iI ((e1 + 1 : Nat) : Int))) M s := DCe_F hD (fr_u (by simp [wF]) hf)
                    refine jv_call (pc' := 40) rfl (hF L xs d j (jm_u I1 96 1 (iI ((e1 + 1 : Nat) : Int))) M p c n (e1 + 1) t s W sz k hl C24 rfl hp (by omega) hp22 Gq23 hE hc hT hkl trivial) (fun vq23 gq23 q23 => ?_)
                    obtain ⟨Iq23, eq23, rfl, rq23, aq23, yq23, q23⟩ := q23
                    rcases q23 with ⟨rfl, l1q23, l2q23, ⟨iq23, Qq23⟩, bq23, tq23, Xq23⟩ | ⟨rfl, iq23, Eq23⟩
                    · skip
                      rcases bq23 with _ | _
                      · skip
                        show jx L xs _ 88 40 _ [.int (iI 1)] _ _
                        refine jv_if_ne (t := 45) (pc' := 43) (a := 1) rfl rfl rfl (by omega) (fun hz_25 => ?_) (fun hz_25 => ?_)
                        · skip
                          refine jv_iload_n (pc' := 46) (k := 2) (x := (iI 1)) rfl rfl rfl hf2 ?_
                          refine jv_if_eq (t := 60) (pc' := 49) (a := 1) rfl rfl rfl (by omega) (fun hz_26 => ?_) (fun hz_26 => ?_)
                          · skip
                            exact absurd hz_26 (by decide)
                          · skip
                            refine jv_aload_n (pc' := 50) (k := 0) (x := 95) rfl rfl rfl hf0 ?_
                            refine jv_getI (pc' := 53) (c := 9) (k := 5) (v := (iI 0)) rfl rfl rfl (fun _ _ => rfl) rfl rfl tq23 ?_
                            refine jv_if_eq (t := 60) (pc' := 56) (a := 0) rfl rfl rfl (by omega) (fun hz_27 => ?_) (fun hz_27 => ?_)
                            · skip
                              refine jv_iconst (pc' := 61) (n := 0) rfl rfl ?_
                              refine jv_istore_n (pc' := 62) (k := 2) (x := (iI 0)) rfl rfl rfl rfl (Or.inr (congrArg jm_lng hf1)) ?_
                              refine jv_iinc (pc' := 65) (k := 3) (a := ((i : Nat) : Int)) rfl rfl hf3 rfl (Or.inr rfl) ?_
                              refine jx_step (pc' := 17) rfl ?_
                              exact ih (i + 1) eq23 Iq23 false (by omega) (by omega) (by omega) l2q23 (by omega) (fr_t (fr_u (by simp [wF]) hf) rq23) aq23 (⟨false, tq23⟩) (by obtain ⟨iq, hQ⟩ := hQ; exact ⟨_, QR_app hQ (QR_app (QR_1 ⟨by omega, by omega⟩ (QS_j hH (by omega))) Qq23)⟩) (VT_s hD8 (by omega) hVV (by assumption) Xq23) _ hf0 hf1 rfl rfl 
                            · skip
                              exact absurd hz_27 (by decide)
                        · skip
                          exact absurd hz_25 (by decide)
                      · skip
                        show jx L xs _ 88 40 _ [.int (iI 1)] _ _
                        refine jv_if_ne (t := 45) (pc' := 43) (a := 1) rfl rfl rfl (by omega) (fun hz_28 => ?_) (fun hz_28 => ?_)
                        · skip
                          refine jv_iload_n (pc' := 46) (k := 2) (x := (iI 1)) rfl rfl rfl hf2 ?_
                          refine jv_if_eq (t := 60) (pc' := 49) (a := 1) rfl rfl rfl (by omega) (fun hz_29 => ?_) (fun hz_29 => ?_)
                          · skip
                            exact absurd hz_29 (by decide)
                          · skip
                            refine jv_aload_n (pc' := 50) (k := 0) (x := 95) rfl rfl rfl hf0 ?_
                            refine jv_getI (pc' := 53) (c := 9) (k := 5) (v := (iI 1)) rfl rfl rfl (fun _ _ => rfl) rfl rfl tq23 ?_
                            refine jv_if_eq (t := 60) (pc' := 56) (a := 1) rfl rfl rfl (by omega) (fun hz_30 => ?_) (fun hz_30 => ?_)
                            · skip
                              exact absurd hz_30 (by decide)
                            · skip
                              refine jv_iconst (pc' := 57) (n := 1) rfl rfl ?_
                              refine jx_step (pc' := 61) rfl ?_
                              refine jv_istore_n (pc' := 62) (k := 2) (x := (iI 1)) rfl rfl rfl rfl (Or.inr (congrArg jm_lng hf1)) ?_
                              refine jv_iinc (pc' := 65) (k := 3) (a := ((i : Nat) : Int)) rfl rfl hf3 rfl (Or.inr rfl) ?_
                              refine jx_step (pc' := 17) rfl ?_
                              exact ih (i + 1) eq23 Iq23 true (by omega) (by omega) (by omega) l2q23 (by omega) (fr_t (fr_u (by simp [wF]) hf) rq23) aq23 (⟨true, tq23⟩) (by obtain ⟨iq, hQ⟩ := hQ; exact ⟨_, QR_app hQ (QR_app (QR_1 ⟨by omega, by omega⟩ (QS_j hH (by omega))) Qq23)⟩) (VT_s hD8 (by omega) hVV (by assumption) Xq23) _ hf0 hf1 rfl rfl 
                        · skip
                          exact absurd hz_28 (by decide)
                    · skip
                      show jx L xs _ 88 40 _ [.int (iI 0)] _ _
                      refine jv_if_ne (t := 45) (pc' := 43) (a := 0) rfl rfl rfl (by omega) (fun hz_31 => ?_) (fun hz_31 => ?_)
                      · skip
                        exact absurd hz_31 (by decide)
                      · skip
                        refine jv_iconst (pc' := 44) (n := 0) rfl rfl ?_
                        refine jv_retZ rfl rfl (by first | exact Or.inl rfl | exact Or.inr rfl) ⟨_, _, rfl, ?_⟩
                        first
                        | (exfalso; omega)
                        | (obtain ⟨iq, hQ⟩ := hQ
                           exact ⟨_, _, rfl, (fr_t (fr_u (by simp [wF]) hf) rq23), aq23, yq23, Or.inr ⟨rfl, _, QR_QE hQ (QR_QE (QR_1 ⟨by omega, by omega⟩ (QS_j hH (by omega))) Eq23)⟩⟩)
                · skip
                  refine jv_call (pc' := 32) rfl (cl_take_n_q (I := I1) (a := e1) hl C1 ha1 hp (by omega) (x := 38) (by omega) hk20) (fun vq32 gq32 q32 => ?_)
                  obtain ⟨rfl, rfl⟩ := q32
                  show jx L xs _ 88 32 _ [.int (iI 0)] _ _
                  refine jv_if_eq (t := 68) (pc' := 35) (a := 0) rfl rfl rfl (by omega) (fun hz_33 => ?_) (fun hz_33 => ?_)
                  · skip
                    refine jv_aload_n (pc' := 69) (k := 0) (x := 95) rfl rfl rfl hf0 ?_
                    refine jv_iload_n (pc' := 70) (k := 2) (x := (iI 1)) rfl rfl rfl hf2 ?_
                    refine jv_putZ (pc' := 73) (c := 9) (k := 5) rfl rfl rfl rfl (fun _ _ _ hz => if_pos hz) rfl rfl (by first | exact Or.inl rfl | exact Or.inr rfl) ?_
                    refine jv_iconst (pc' := 74) (n := 1) rfl rfl ?_
                    refine jv_retZ rfl rfl (by first | exact Or.inl rfl | exact Or.inr rfl) ⟨_, _, rfl, ?_⟩
                    first
                    | (exfalso; omega)
                    | exact ⟨_, e1, rfl, (fr_u (by simp [wF]) hf), ha1, ⟨true, (by first | rfl | exact hT)⟩, Or.inl ⟨rfl, by omega, by omega, hQ, true, (by first | rfl | exact hT), ⟨hVV, by omega⟩⟩⟩
                  · skip
                    exact absurd hz_33 (by decide)
        exact H3 _ 0 eq1 Iq1 false (Nat.lt_succ_self _) (by omega) (by omega) l2q1 l1q1 (fr_t (fr_r _) rq1) aq1 ⟨false, tq1⟩ ⟨iq1, Qq1⟩ (VT_0 Xq1) _ rfl rfl rfl rfl 
      · skip
        exact absurd hz_2 (by decide)
    · skip
      show jx L xs _ 88 5 _ [.int (iI 1)] _ _
      refine jv_if_ne (t := 10) (pc' := 8) (a := 1) rfl rfl rfl (by omega) (fun hz_34 => ?_) (fun hz_34 => ?_)
      · skip
        refine jv_aload_n (pc' := 11) (k := 0) (x := 95) rfl rfl rfl rfl ?_
        refine jv_getI (pc' := 14) (c := 9) (k := 5) (v := (iI 1)) rfl rfl rfl (fun _ _ => rfl) rfl rfl tq1 ?_
        refine jv_istore_n (pc' := 15) (k := 2) (x := (iI 1)) rfl rfl rfl rfl (Or.inr rfl) ?_
        refine jv_iconst (pc' := 16) (n := 0) rfl rfl ?_
        refine jv_istore_n (pc' := 17) (k := 3) (x := (iI 0)) rfl rfl rfl rfl (Or.inr rfl) ?_
        have H35 : ∀ (N : Nat) (i : Nat) (e1 : Nat) (I1 : Nat → Nat → Int32) (al : Bool), 80 - i < N → (i ≤ 80) → (i ≤ e1) → (e1 ≤ n) → (a < e1) → (fr wF I I1) → (I1 96 1 = iI ((e1 : Nat) : Int)) → (∃ z : Bool, I1 95 5 = iI (ib z)) → (∃ i, QR c i 0 a k 1 e1 k) → (VT c s D a e1 al) → ∀ f : jm_F, f 0 = some (.ref 95) → f 1 = some (.int (iI ((D : Nat) : Int))) → f 2 = some (.int (iI (ib al))) → f 3 = some (.int (iI ((i : Nat) : Int))) → jx L xs ((d + e + 2)) 88 17 f [] (jx_G j I1 M p) (fun z => ∃ v g1, z = (.inl v, g1) ∧ PQ c n (fun e b => VT c s D a e b ∧ c e ≠ 38) j p I M a k v g1) := by
          intro N
          induction N with
          | zero => intro i e1 I1 al hN; exact absurd hN (Nat.not_lt_zero _)
          | succ N ih =>
            intro i e1 I1 al hN hi hie he1 hae hf ha1 hT hQ hVV f hf0 hf1 hf2 hf3 
            refine jv_iload_n (pc' := 18) (k := 3) (x := (iI ((i : Nat) : Int))) rfl rfl rfl hf3 ?_
            have ho1 : c e1 = -1 ∨ e1 < n := by
              by_cases z : e1 < n
              · exact Or.inr z
              · exact Or.inl (hcn e1 (by omega))
            have C1 : CT I1 t c n := CT_fr (W := wF) (I := I) (t := t) (c := c) (n := n) hC hf (by unfold wF; omega) (by intro k; unfold wF; omega)
            rcases al with _ | _
            · skip
              show jx L xs _ 88 18 _ [.int (iI ((i : Nat) : Int))] _ _
              refine jv_bipush (pc' := 20) (n := 80) rfl rfl rfl ?_
              refine jv_ic_ge (t := 68) (pc' := 23) (a := ((i : Nat) : Int)) (b := 80) rfl rfl rfl (by omega) (fun hz_36 => ?_) (fun hz_36 => ?_)
              · skip
                refine jv_aload_n (pc' := 69) (k := 0) (x := 95) rfl rfl rfl hf0 ?_
                refine jv_iload_n (pc' := 70) (k := 2) (x := (iI 0)) rfl rfl rfl hf2 ?_
                refine jv_putZ (pc' := 73) (c := 9) (k := 5) rfl rfl rfl rfl (fun _ _ _ hz => if_pos hz) rfl rfl (by first | exact Or.inl rfl | exact Or.inr rfl) ?_
                refine jv_iconst (pc' := 74) (n := 1) rfl rfl ?_
                refine jv_retZ rfl rfl (by first | exact Or.inl rfl | exact Or.inr rfl) ⟨_, _, rfl, ?_⟩
                first
                | (exfalso; omega)
                | exact ⟨_, e1, rfl, (fr_u (by simp [wF]) hf), ha1, ⟨false, (by first | rfl | exact hT)⟩, Or.inl ⟨rfl, by omega, by omega, hQ, false, (by first | rfl | exact hT), ⟨hVV, by omega⟩⟩⟩
              · skip
                refine jv_aload_n (pc' := 24) (k := 0) (x := 95) rfl rfl rfl hf0 ?_
                refine jv_getR (pc' := 27) (c := 9) (k := 0) (v := 96) rfl rfl rfl (fun _ _ => rfl) rfl rfl (jR_95_0 _) ?_
                refine jv_bipush (pc' := 29) (n := 38) rfl rfl rfl ?_
                have hm37 := CT_c C1 (e1)
                have ho37 := CT_or C1 (e1)
                by_cases hk38 : c (e1) = 38
                · skip
                  refine jv_call (pc' := 32) rfl (cl_take_y_q (I := I1) (a := e1) hl C1 ha1 hp (by omega) (x := 38) (by omega) hk38) (fun vq39 gq39 q39 => ?_)
                  obtain ⟨rfl, rfl⟩ := q39
                  show jx L xs _ 88 32 _ [.int (iI 1)] _ _
                  refine jv_if_eq (t := 68) (pc' := 35) (a := 1) rfl rfl rfl (by omega) (fun hz_40 => ?_) (fun hz_40 => ?_)
                  · skip
                    exact absurd hz_40 (by decide)
                  · skip
                    refine jv_aload_n (pc' := 36) (k := 0) (x := 95) rfl rfl rfl hf0 ?_
                    refine jv_iload_n (pc' := 37) (k := 1) (x := (iI ((D : Nat) : Int))) rfl rfl rfl hf1 ?_
                    have C42 : CT (jm_u I1 96 1 (iI ((e1 + 1 : Nat) : Int))) t c n := CT_fr (W := wF) (I := I1) (t := t) (c := c) (n := n) C1 (fr_u (by simp [wF]) (fr_r _)) (by unfold wF; omega) (by intro k; unfold wF; omega)
                    have Gq41 : DCe (jm_u I1 96 1 (iI ((e1 + 1 : Nat) : Int))) M s := DCe_F hD (fr_u (by simp [wF]) hf)
                    refine jv_call (pc' := 40) rfl (hF L xs d j (jm_u I1 96 1 (iI ((e1 + 1 : Nat) : Int))) M p c n (e1 + 1) t s W sz k hl C42 rfl hp (by omega) hp22 Gq41 hE hc hT hkl trivial) (fun vq41 gq41 q41 => ?_)
                    obtain ⟨Iq41, eq41, rfl, rq41, aq41, yq41, q41⟩ := q41
                    rcases q41 with ⟨rfl, l1q41, l2q41, ⟨iq41, Qq41⟩, bq41, tq41, Xq41⟩ | ⟨rfl, iq41, Eq41⟩
                    · skip
                      rcases bq41 with _ | _
                      · skip
                        show jx L xs _ 88 40 _ [.int (iI 1)] _ _
                        refine jv_if_ne (t := 45) (pc' := 43) (a := 1) rfl rfl rfl (by omega) (fun hz_43 => ?_) (fun hz_43 => ?_)
                        · skip
                          refine jv_iload_n (pc' := 46) (k := 2) (x := (iI 0)) rfl rfl rfl hf2 ?_
                          refine jv_if_eq (t := 60) (pc' := 49) (a := 0) rfl rfl rfl (by omega) (fun hz_44 => ?_) (fun hz_44 => ?_)
                          · skip
                            refine jv_iconst (pc' := 61) (n := 0) rfl rfl ?_
                            refine jv_istore_n (pc' := 62) (k := 2) (x := (iI 0)) rfl rfl rfl rfl (Or.inr (congrArg jm_lng hf1)) ?_
                            refine jv_iinc (pc' := 65) (k := 3) (a := ((i : Nat) : Int)) rfl rfl hf3 rfl (Or.inr rfl) ?_
                            refine jx_step (pc' := 17) rfl ?_
                            exact ih (i + 1) eq41 Iq41 false (by omega) (by omega) (by omega) l2q41 (by omega) (fr_t (fr_u (by simp [wF]) hf) rq41) aq41 (⟨false, tq41⟩) (by obtain ⟨iq, hQ⟩ := hQ; exact ⟨_, QR_app hQ (QR_app (QR_1 ⟨by omega, by omega⟩ (QS_j hH (by omega))) Qq41)⟩) (VT_s hD8 (by omega) hVV (by assumption) Xq41) _ hf0 hf1 rfl rfl 
                          · skip
                            exact absurd hz_44 (by decide)
                        · skip
                          exact absurd hz_43 (by decide)
                      · skip
                        show jx L xs _ 88 40 _ [.int (iI 1)] _ _
                        refine jv_if_ne (t := 45) (pc' := 43) (a := 1) rfl rfl rfl (by omega) (fun hz_45 => ?_) (fun hz_45 => ?_)
                        · skip
                          refine jv_iload_n (pc' := 46) (k := 2) (x := (iI 0)) rfl rfl rfl hf2 ?_
                          refine jv_if_eq (t := 60) (pc' := 49) (a := 0) rfl rfl rfl (by omega) (fun hz_46 => ?_) (fun hz_46 => ?_)
                          · skip
                            refine jv_iconst (pc' := 61) (n := 0) rfl rfl ?_
                            refine jv_istore_n (pc' := 62) (k := 2) (x := (iI 0)) rfl rfl rfl rfl (Or.inr (congrArg jm_lng hf1)) ?_
                            refine jv_iinc (pc' := 65) (k := 3) (a := ((i : Nat) : Int)) rfl rfl hf3 rfl (Or.inr rfl) ?_
                            refine jx_step (pc' := 17) rfl ?_
                            exact ih (i + 1) eq41 Iq41 false (by omega) (by omega) (by omega) l2q41 (by omega) (fr_t (fr_u (by simp [wF]) hf) rq41) aq41 (⟨true, tq41⟩) (by obtain ⟨iq, hQ⟩ := hQ; exact ⟨_, QR_app hQ (QR_app (QR_1 ⟨by omega, by omega⟩ (QS_j hH (by omega))) Qq41)⟩) (VT_s hD8 (by omega) hVV (by assumption) Xq41) _ hf0 hf1 rfl rfl 
                          · skip
                            exact absurd hz_46 (by decide)
                        · skip
                          exact absurd hz_45 (by decide)
                    · skip
                      show jx L xs _ 88 40 _ [.int (iI 0)] _ _
                      refine jv_if_ne (t := 45) (pc' := 43) (a := 0) rfl rfl rfl (by omega) (fun hz_47 => ?_) (fun hz_47 => ?_)
                      · skip
                        exact absurd hz_47 (by decide)
                      · skip
                        refine jv_iconst (pc' := 44) (n := 0) rfl rfl ?_
                        refine jv_retZ rfl rfl (by first | exact Or.inl rfl | exact Or.inr rfl) ⟨_, _, rfl, ?_⟩
                        first
                        | (exfalso; omega)
                        | (obtain ⟨iq, hQ⟩ := hQ
                           exact ⟨_, _, rfl, (fr_t (fr_u (by simp [wF]) hf) rq41), aq41, yq41, Or.inr ⟨rfl, _, QR_QE hQ (QR_QE (QR_1 ⟨by omega, by omega⟩ (QS_j hH (by omega))) Eq41)⟩⟩)
                · skip
                  refine jv_call (pc' := 32) rfl (cl_take_n_q (I := I1) (a := e1) hl C1 ha1 hp (by omega) (x := 38) (by omega) hk38) (fun vq48 gq48 q48 => ?_)
                  obtain ⟨rfl, rfl⟩ := q48
                  show jx L xs _ 88 32 _ [.int (iI 0)] _ _
                  refine jv_if_eq (t := 68) (pc' := 35) (a := 0) rfl rfl rfl (by omega) (fun hz_49 => ?_) (fun hz_49 => ?_)
                  · skip
                    refine jv_aload_n (pc' := 69) (k := 0) (x := 95) rfl rfl rfl hf0 ?_
                    refine jv_iload_n (pc' := 70) (k := 2) (x := (iI 0)) rfl rfl rfl hf2 ?_
                    refine jv_putZ (pc' := 73) (c := 9) (k := 5) rfl rfl rfl rfl (fun _ _ _ hz => if_pos hz) rfl rfl (by first | exact Or.inl rfl | exact Or.inr rfl) ?_
                    refine jv_iconst (pc' := 74) (n := 1) rfl rfl ?_
                    refine jv_retZ rfl rfl (by first | exact Or.inl rfl | exact Or.inr rfl) ⟨_, _, rfl, ?_⟩
                    first
                    | (exfalso; omega)
                    | exact ⟨_, e1, rfl, (fr_u (by simp [wF]) hf), ha1, ⟨false, (by first | rfl | exact hT)⟩, Or.inl ⟨rfl, by omega, by omega, hQ, false, (by first | rfl | exact hT), ⟨hVV, by omega⟩⟩⟩
                  · skip
                    exact absurd hz_49 (by decide)
            · skip
              show jx L xs _ 88 18 _ [.int (iI ((i : Nat) : Int))] _ _
              refine jv_bipush (pc' := 20) (n := 80) rfl rfl rfl ?_
              refine jv_ic_ge (t := 68) (pc' := 23) (a := ((i : Nat) : Int)) (b := 80) rfl rfl rfl (by omega) (fun hz_50 => ?_) (fun hz_50 => ?_)
              · skip
                refine jv_aload_n (pc' := 69) (k := 0) (x := 95) rfl rfl rfl hf0 ?_
                refine jv_iload_n (pc' := 70) (k := 2) (x := (iI 1)) rfl rfl rfl hf2 ?_
                refine jv_putZ (pc' := 73) (c := 9) (k := 5) rfl rfl rfl rfl (fun _ _ _ hz => if_pos hz) rfl rfl (by first | exact Or.inl rfl | exact Or.inr rfl) ?_
                refine jv_iconst (pc' := 74) (n := 1) rfl rfl ?_
                refine jv_retZ rfl rfl (by first | exact Or.inl rfl | exact Or.inr rfl) ⟨_, _, rfl, ?_⟩
                first
                | (exfalso; omega)
                | exact ⟨_, e1, rfl, (fr_u (by simp [wF]) hf), ha1, ⟨true, (by first | rfl | exact hT)⟩, Or.inl ⟨rfl, by omega, by omega, hQ, true, (by first | rfl | exact hT), ⟨hVV, by omega⟩⟩⟩
              · skip
                refine jv_aload_n (pc' := 24) (k := 0) (x := 95) rfl rfl rfl hf0 ?_
                refine jv_getR (pc' := 27) (c := 9) (k := 0) (v := 96) rfl rfl rfl (fun _ _ => rfl) rfl rfl (jR_95_0 _) ?_
                refine jv_bipush (pc' := 29) (n := 38) rfl rfl rfl ?_
                have hm51 := CT_c C1 (e1)
                have ho51 := CT_or C1 (e1)
                by_cases hk52 : c (e1) = 38
                · skip
                  refine jv_call (pc' := 32) rfl (cl_take_y_q (I := I1) (a := e1) hl C1 ha1 hp (by omega) (x := 38) (by omega) hk52) (fun vq53 gq53 q53 => ?_)
                  obtain ⟨rfl, rfl⟩ := q53
                  show jx L xs _ 88 32 _ [.int (iI 1)] _ _
                  refine jv_if_eq (t := 68) (pc' := 35) (a := 1) rfl rfl rfl (by omega) (fun hz_54 => ?_) (fun hz_54 => ?_)
                  · skip
                    exact absurd hz_54 (by decide)
                  · skip
                    refine jv_aload_n (pc' := 36) (k := 0) (x := 95) rfl rfl rfl hf0 ?_
                    refine jv_iload_n (pc' := 37) (k := 1) (x := (iI ((D : Nat) : Int))) rfl rfl rfl hf1 ?_
                    have C56 : CT (jm_u I1 96 1 (iI ((e1 + 1 : Nat) : Int))) t c n := CT_fr (W := wF) (I := I1) (t := t) (c := c) (n := n) C1 (fr_u (by simp [wF]) (fr_r _)) (by unfold wF; omega) (by intro k; unfold wF; omega)
                    have Gq55 : DCe (jm_u I1 96 1 (iI ((e1 + 1 : Nat) : Int))) M s := DCe_F hD (fr_u (by simp [wF]) hf)
                    refine jv_call (pc' := 40) rfl (hF L xs d j (jm_u I1 96 1 (iI ((e1 + 1 : Nat) : Int))) M p c n (e1 + 1) t s W sz k hl C56 rfl hp (by omega) hp22 Gq55 hE hc hT hkl trivial) (fun vq55 gq55 q55 => ?_)
                    obtain ⟨Iq55, eq55, rfl, rq55, aq55, yq55, q55⟩ := q55
                    rcases q55 with ⟨rfl, l1q55, l2q55, ⟨iq55, Qq55⟩, bq55, tq55, Xq55⟩ | ⟨rfl, iq55, Eq55⟩
                    · skip
                      rcases bq55 with _ | _
                      · skip
                        show jx L xs _ 88 40 _ [.int (iI 1)] _ _
                        refine jv_if_ne (t := 45) (pc' := 43) (a := 1) rfl rfl rfl (by omega) (fun hz_57 => ?_) (fun hz_57 => ?_)
                        · skip
                          refine jv_iload_n (pc' := 46) (k := 2) (x := (iI 1)) rfl rfl rfl hf2 ?_
                          refine jv_if_eq (t := 60) (pc' := 49) (a := 1) rfl rfl rfl (by omega) (fun hz_58 => ?_) (fun hz_58 => ?_)
                          · skip
                            exact absurd hz_58 (by decide)
                          · skip
                            refine jv_aload_n (pc' := 50) (k := 0) (x := 95) rfl rfl rfl hf0 ?_
                            refine jv_getI (pc' := 53) (c := 9) (k := 5) (v := (iI 0)) rfl rfl rfl (fun _ _ => rfl) rfl rfl tq55 ?_
                            refine jv_if_eq (t := 60) (pc' := 56) (a := 0) rfl rfl rfl (by omega) (fun hz_59 => ?_) (fun hz_59 => ?_)
                            · skip
                              refine jv_iconst (pc' := 61) (n := 0) rfl rfl ?_
                              refine jv_istore_n (pc' := 62) (k := 2) (x := (iI 0)) rfl rfl rfl rfl (Or.inr (congrArg jm_lng hf1)) ?_
                              refine jv_iinc (pc' := 65) (k := 3) (a := ((i : Nat) : Int)) rfl rfl hf3 rfl (Or.inr rfl) ?_
                              refine jx_step (pc' := 17) rfl ?_
                              exact ih (i + 1) eq55 Iq55 false (by omega) (by omega) (by omega) l2q55 (by omega) (fr_t (fr_u (by simp [wF]) hf) rq55) aq55 (⟨false, tq55⟩) (by obtain ⟨iq, hQ⟩ := hQ; exact ⟨_, QR_app hQ (QR_app (QR_1 ⟨by omega, by omega⟩ (QS_j hH (by omega))) Qq55)⟩) (VT_s hD8 (by omega) hVV (by assumption) Xq55) _ hf0 hf1 rfl rfl 
                            · skip
                              exact absurd hz_59 (by decide)
                        · skip
                          exact absurd hz_57 (by decide)
                      · skip
                        show jx L xs _ 88 40 _ [.int (iI 1)] _ _
                        refine jv_if_ne (t := 45) (pc' := 43) (a := 1) rfl rfl rfl (by omega) (fun hz_60 => ?_) (fun hz_60 => ?_)
                        · skip
                          refine jv_iload_n (pc' := 46) (k := 2) (x := (iI 1)) rfl rfl rfl hf2 ?_
                          refine jv_if_eq (t := 60) (pc' := 49) (a := 1) rfl rfl rfl (by omega) (fun hz_61 => ?_) (fun hz_61 => ?_)
                          · skip
                            exact absurd hz_61 (by decide)
                          · skip
                            refine jv_aload_n (pc' := 50) (k := 0) (x := 95) rfl rfl rfl hf0 ?_
                            refine jv_getI (pc' := 53) (c := 9) (k := 5) (v := (iI 1)) rfl rfl rfl (fun _ _ => rfl) rfl rfl tq55 ?_
                            refine jv_if_eq (t := 60) (pc' := 56) (a := 1) rfl rfl rfl (by omega) (fun hz_62 => ?_) (fun hz_62 => ?_)
                            · skip
                              exact absurd hz_62 (by decide)
                            · skip
                              refine jv_iconst (pc' := 57) (n := 1) rfl rfl ?_
                              refine jx_step (pc' := 61) rfl ?_
                              refine jv_istore_n (pc' := 62) (k := 2) (x := (iI 1)) rfl rfl rfl rfl (Or.inr (congrArg jm_lng hf1)) ?_
                              refine jv_iinc (pc' := 65) (k := 3) (a := ((i : Nat) : Int)) rfl rfl hf3 rfl (Or.inr rfl) ?_
                              refine jx_step (pc' := 17) rfl ?_
                              exact ih (i + 1) eq55 Iq55 true (by omega) (by omega) (by omega) l2q55 (by omega) (fr_t (fr_u (by simp [wF]) hf) rq55) aq55 (⟨true, tq55⟩) (by obtain ⟨iq, hQ⟩ := hQ; exact ⟨_, QR_app hQ (QR_app (QR_1 ⟨by omega, by omega⟩ (QS_j hH (by omega))) Qq55)⟩) (VT_s hD8 (by omega) hVV (by assumption) Xq55) _ hf0 hf1 rfl rfl 
                        · skip
                          exact absurd hz_60 (by decide)
                    · skip
                      show jx L xs _ 88 40 _ [.int (iI 0)] _ _
                      refine jv_if_ne (t := 45) (pc' := 43) (a := 0) rfl rfl rfl (by omega) (fun hz_63 => ?_) (fun hz_63 => ?_)
                      · skip
                        exact absurd hz_63 (by decide)
                      · skip
                        refine jv_iconst (pc' := 44) (n := 0) rfl rfl ?_
                        refine jv_retZ rfl rfl (by first | exact Or.inl rfl | exact Or.inr rfl) ⟨_, _, rfl, ?_⟩
                        first
                        | (exfalso; omega)
                        | (obtain ⟨iq, hQ⟩ := hQ
                           exact ⟨_, _, rfl, (fr_t (fr_u (by simp [wF]) hf) rq55), aq55, yq55, Or.inr ⟨rfl, _, QR_QE hQ (QR_QE (QR_1 ⟨by omega, by omega⟩ (QS_j hH (by omega))) Eq55)⟩⟩)
                · skip
                  refine jv_call (pc' := 32) rfl (cl_take_n_q (I := I1) (a := e1) hl C1 ha1 hp (by omega) (x := 38) (by omega) hk52) (fun vq64 gq64 q64 => ?_)
                  obtain ⟨rfl, rfl⟩ := q64
                  show jx L xs _ 88 32 _ [.int (iI 0)] _ _
                  refine jv_if_eq (t := 68) (pc' := 35) (a := 0) rfl rfl rfl (by omega) (fun hz_65 => ?_) (fun hz_65 => ?_)
                  · skip
                    refine jv_aload_n (pc' := 69) (k := 0) (x := 95) rfl rfl rfl hf0 ?_
                    refine jv_iload_n (pc' := 70) (k := 2) (x := (iI 1)) rfl rfl rfl hf2 ?_
                    refine jv_putZ (pc' := 73) (c := 9) (k := 5) rfl rfl rfl rfl (fun _ _ _ hz => if_pos hz) rfl rfl (by first | exact Or.inl rfl | exact Or.inr rfl) ?_
                    refine jv_iconst (pc' := 74) (n := 1) rfl rfl ?_
                    refine jv_retZ rfl rfl (by first | exact Or.inl rfl | exact Or.inr rfl) ⟨_, _, rfl, ?_⟩
                    first
                    | (exfalso; omega)
                    | exact ⟨_, e1, rfl, (fr_u (by simp [wF]) hf), ha1, ⟨true, (by first | rfl | exact hT)⟩, Or.inl ⟨rfl, by omega, by omega, hQ, true, (by first | rfl | exact hT), ⟨hVV, by omega⟩⟩⟩
                  · skip
                    exact absurd hz_65 (by decide)
        exact H35 _ 0 eq1 Iq1 true (Nat.lt_succ_self _) (by omega) (by omega) l2q1 l1q1 (fr_t (fr_r _) rq1) aq1 ⟨true, tq1⟩ ⟨iq1, Qq1⟩ (VT_0 Xq1) _ rfl rfl rfl rfl 
      · skip
        exact absurd hz_34 (by decide)
  · skip
    show jx L xs _ 88 5 _ [.int (iI 0)] _ _
    refine jv_if_ne (t := 10) (pc' := 8) (a := 0) rfl rfl rfl (by omega) (fun hz_66 => ?_) (fun hz_66 => ?_)
    · skip
      exact absurd hz_66 (by decide)
    · skip
      refine jv_iconst (pc' := 9) (n := 0) rfl rfl ?_
      refine jv_retZ rfl rfl (by first | exact Or.inl rfl | exact Or.inr rfl) ⟨_, _, rfl, ?_⟩
      exact ⟨_, _, rfl, (fr_t (fr_r _) rq1), aq1, yq1, Or.inr ⟨rfl, iq1, Eq1⟩⟩
set_option maxHeartbeats 4000000 in
theorem cl_CFL {D e : Nat} (hD8 : D ≤ 8) (hF : CFT D (e + 1)) : CFL D (e + 2) := by
  intro L xs d j I M p c n a t s W sz k hl hC ha hp han hp22 hD hE hc htz hkl hH
  show jc L xs (d + e + 2) _ _ _ _
  unfold jc
  have hn := hC.2.1
  have hcn := hC.2.2.2.2
  refine jv_aload_n (pc' := 1) (k := 0) (x := 95) rfl rfl rfl rfl ?_
  refine jv_iload_n (pc' := 2) (k := 1) (x := (iI ((D : Nat) : Int))) rfl rfl rfl rfl ?_
  have Gq1 : DCe I M s := DCe_F hD (fr_r _)
  refine jv_call (pc' := 5) rfl (hF L xs d j I M p c n (a) t s W sz k hl hC ha hp (by omega) hp22 Gq1 hE hc htz hkl hH) (fun vq1 gq1 q1 => ?_)
  obtain ⟨Iq1, eq1, rfl, rq1, aq1, yq1, q1⟩ := q1
  rcases q1 with ⟨rfl, l1q1, l2q1, ⟨iq1, Qq1⟩, bq1, tq1, Xq1⟩ | ⟨rfl, iq1, Eq1⟩
  · skip
    rcases bq1 with _ | _
    · skip
      show jx L xs _ 87 5 _ [.int (iI 1)] _ _
      refine jv_if_ne (t := 10) (pc' := 8) (a := 1) rfl rfl rfl (by omega) (fun hz_2 => ?_) (fun hz_2 => ?_)
      · skip
        refine jv_aload_n (pc' := 11) (k := 0) (x := 95) rfl rfl rfl rfl ?_
        refine jv_getI (pc' := 14) (c := 9) (k := 5) (v := (iI 0)) rfl rfl rfl (fun _ _ => rfl) rfl rfl tq1 ?_
        refine jv_istore_n (pc' := 15) (k := 2) (x := (iI 0)) rfl rfl rfl rfl (Or.inr rfl) ?_
        refine jv_iconst (pc' := 16) (n := 0) rfl rfl ?_
        refine jv_istore_n (pc' := 17) (k := 3) (x := (iI 0)) rfl rfl rfl rfl (Or.inr rfl) ?_
        have H3 : ∀ (N : Nat) (i : Nat) (e1 : Nat) (I1 : Nat → Nat → Int32) (al : Bool), 80 - i < N → (i ≤ 80) → (i ≤ e1) → (e1 ≤ n) → (a < e1) → (fr wF I I1) → (I1 96 1 = iI ((e1 : Nat) : Int)) → (∃ z : Bool, I1 95 5 = iI (ib z)) → (∃ i, QR c i 0 a k 1 e1 k) → (VL c s D a e1 al ∧ c e1 ≠ 38) → ∀ f : jm_F, f 0 = some (.ref 95) → f 1 = some (.int (iI ((D : Nat) : Int))) → f 2 = some (.int (iI (ib al))) → f 3 = some (.int (iI ((i : Nat) : Int))) → jx L xs ((d + e + 2)) 87 17 f [] (jx_G j I1 M p) (fun z => ∃ v g1, z = (.inl v, g1) ∧ PQ c n (fun e b => VL c s D a e b ∧ c e ≠ 38 ∧ c e ≠ 124) j p I M a k v g1) := by
          intro N
          induction N with
          | zero => intro i e1 I1 al hN; exact absurd hN (Nat.not_lt_zero _)
          | succ N ih =>
            intro i e1 I1 al hN hi hie he1 hae hf ha1 hT hQ hVV f hf0 hf1 hf2 hf3 
            refine jv_iload_n (pc' := 18) (k := 3) (x := (iI ((i : Nat) : Int))) rfl rfl rfl hf3 ?_
            have ho1 : c e1 = -1 ∨ e1 < n := by
              by_cases z : e1 < n
              · exact Or.inr z
              · exact Or.inl (hcn e1 (by omega))
            have C1 : CT I1 t c n := CT_fr (W := wF) (I := I) (t := t) (c := c) (n := n) hC hf (by unfold wF; omega) (by intro k; unfold wF; omega)
            rcases al with _ | _
            · skip
              show jx L xs _ 87 18 _ [.int (iI ((i : Nat) : Int))] _ _
              refine jv_bipush (pc' := 20) (n := 80) rfl rfl rfl ?_
              refine jv_ic_ge (t := 68) (pc' := 23) (a := ((i : Nat) : Int)) (b := 80) rfl rfl rfl (by omega) (fun hz_4 => ?_) (fun hz_4 => ?_)
              · skip
                refine jv_aload_n (pc' := 69) (k := 0) (x := 95) rfl rfl rfl hf0 ?_
                refine jv_iload_n (pc' := 70) (k := 2) (x := (iI 0)) rfl rfl rfl hf2 ?_
                refine jv_putZ (pc' := 73) (c := 9) (k := 5) rfl rfl rfl rfl (fun _ _ _ hz => if_pos hz) rfl rfl (by first | exact Or.inl rfl | exact Or.inr rfl) ?_
                refine jv_iconst (pc' := 74) (n := 1) rfl rfl ?_
                refine jv_retZ rfl rfl (by first | exact Or.inl rfl | exact Or.inr rfl) ⟨_, _, rfl, ?_⟩
                first
                | (exfalso; omega)
                | exact ⟨_, e1, rfl, (fr_u (by simp [wF]) hf), ha1, ⟨false, (by first | rfl | exact hT)⟩, Or.inl ⟨rfl, by omega, by omega, hQ, false, (by first | rfl | exact hT), ⟨hVV.1, hVV.2, by omega⟩⟩⟩
              · skip
                refine jv_aload_n (pc' := 24) (k := 0) (x := 95) rfl rfl rfl hf0 ?_
                refine jv_getR (pc' := 27) (c := 9) (k := 0) (v := 96) rfl rfl rfl (fun _ _ => rfl) rfl rfl (jR_95_0 _) ?_
                refine jv_bipush (pc' := 29) (n := 124) rfl rfl rfl ?_
                have hm5 := CT_c C1 (e1)
                have ho5 := CT_or C1 (e1)
                by_cases hk6 : c (e1) = 124
                · skip
                  refine jv_call (pc' := 32) rfl (cl_take_y_q (I := I1) (a := e1) hl C1 ha1 hp (by omega) (x := 124) (by omega) hk6) (fun vq7 gq7 q7 => ?_)
                  obtain ⟨rfl, rfl⟩ := q7
                  show jx L xs _ 87 32 _ [.int (iI 1)] _ _
                  refine jv_if_eq (t := 68) (pc' := 35) (a := 1) rfl rfl rfl (by omega) (fun hz_8 => ?_) (fun hz_8 => ?_)
                  · skip
                    exact absurd hz_8 (by decide)
                  · skip
                    refine jv_aload_n (pc' := 36) (k := 0) (x := 95) rfl rfl rfl hf0 ?_
                    refine jv_iload_n (pc' := 37) (k := 1) (x := (iI ((D : Nat) : Int))) rfl rfl rfl hf1 ?_
                    have C10 : CT (jm_u I1 96 1 (iI ((e1 + 1 : Nat) : Int))) t c n := CT_fr (W := wF) (I := I1) (t := t) (c := c) (n := n) C1 (fr_u (by simp [wF]) (fr_r _)) (by unfold wF; omega) (by intro k; unfold wF; omega)
                    have Gq9 : DCe (jm_u I1 96 1 (iI ((e1 + 1 : Nat) : Int))) M s := DCe_F hD (fr_u (by simp [wF]) hf)
                    refine jv_call (pc' := 40) rfl (hF L xs d j (jm_u I1 96 1 (iI ((e1 + 1 : Nat) : Int))) M p c n (e1 + 1) t s W sz k hl C10 rfl hp (by omega) hp22 Gq9 hE hc hT hkl hH) (fun vq9 gq9 q9 => ?_)
                    obtain ⟨Iq9, eq9, rfl, rq9, aq9, yq9, q9⟩ := q9
                    rcases q9 with ⟨rfl, l1q9, l2q9, ⟨iq9, Qq9⟩, bq9, tq9, Xq9⟩ | ⟨rfl, iq9, Eq9⟩
                    · skip
                      rcases bq9 with _ | _
                      · skip
                        show jx L xs _ 87 40 _ [.int (iI 1)] _ _
                        refine jv_if_ne (t := 45) (pc' := 43) (a := 1) rfl rfl rfl (by omega) (fun hz_11 => ?_) (fun hz_11 => ?_)
                        · skip
                          refine jv_iload_n (pc' := 46) (k := 2) (x := (iI 0)) rfl rfl rfl hf2 ?_
                          refine jv_if_ne (t := 56) (pc' := 49) (a := 0) rfl rfl rfl (by omega) (fun hz_12 => ?_) (fun hz_12 => ?_)
                          · skip
                            exact absurd hz_12 (by decide)
                          · skip
                            refine jv_aload_n (pc' := 50) (k := 0) (x := 95) rfl rfl rfl hf0 ?_
                            refine jv_getI (pc' := 53) (c := 9) (k := 5) (v := (iI 0)) rfl rfl rfl (fun _ _ => rfl) rfl rfl tq9 ?_
                            refine jv_if_eq (t := 60) (pc' := 56) (a := 0) rfl rfl rfl (by omega) (fun hz_13 => ?_) (fun hz_13 => ?_)
                            · skip
                              refine jv_iconst (pc' := 61) (n := 0) rfl rfl ?_
                              refine jv_istore_n (pc' := 62) (k := 2) (x := (iI 0)) rfl rfl rfl rfl (Or.inr (congrArg jm_lng hf1)) ?_
                              refine jv_iinc (pc' := 65) (k := 3) (a := ((i : Nat) : Int)) rfl rfl hf3 rfl (Or.inr rfl) ?_
                              refine jx_step (pc' := 17) rfl ?_
                              exact ih (i + 1) eq9 Iq9 false (by omega) (by omega) (by omega) l2q9 (by omega) (fr_t (fr_u (by simp [wF]) hf) rq9) aq9 (⟨false, tq9⟩) (by obtain ⟨iq, hQ⟩ := hQ; exact ⟨_, QR_app hQ (QR_app (QR_1 ⟨by omega, by omega⟩ (QS_j hH (by omega))) Qq9)⟩) (⟨VL_s hD8 (by omega) hVV.1 (by assumption) Xq9.1, Xq9.2⟩) _ hf0 hf1 rfl rfl 
                            · skip
                              exact absurd hz_13 (by decide)
                        · skip
                          exact absurd hz_11 (by decide)
                      · skip
                        show jx L xs _ 87 40 _ [.int (iI 1)] _ _
                        refine jv_if_ne (t := 45) (pc' := 43) (a := 1) rfl rfl rfl (by omega) (fun hz_14 => ?_) (fun hz_14 => ?_)
                        · skip
                          refine jv_iload_n (pc' := 46) (k := 2) (x := (iI 0)) rfl rfl rfl hf2 ?_
                          refine jv_if_ne (t := 56) (pc' := 49) (a := 0) rfl rfl rfl (by omega) (fun hz_15 => ?_) (fun hz_15 => ?_)
                          · skip
                            exact absurd hz_15 (by decide)
                          · skip
                            refine jv_aload_n (pc' := 50) (k := 0) (x := 95) rfl rfl rfl hf0 ?_
                            refine jv_getI (pc' := 53) (c := 9) (k := 5) (v := (iI 1)) rfl rfl rfl (fun _ _ => rfl) rfl rfl tq9 ?_
                            refine jv_if_eq (t := 60) (pc' := 56) (a := 1) rfl rfl rfl (by omega) (fun hz_16 => ?_) (fun hz_16 => ?_)
                            · skip
                              exact absurd hz_16 (by decide)
                            · skip
                              refine jv_iconst (pc' := 57) (n := 1) rfl rfl ?_
                              refine jx_step (pc' := 61) rfl ?_
                              refine jv_istore_n (pc' := 62) (k := 2) (x := (iI 1)) rfl rfl rfl rfl (Or.inr (congrArg jm_lng hf1)) ?_
                              refine jv_iinc (pc' := 65) (k := 3) (a := ((i : Nat) : Int)) rfl rfl hf3 rfl (Or.inr rfl) ?_
                              refine jx_step (pc' := 17) rfl ?_
                              exact ih (i + 1) eq9 Iq9 true (by omega) (by omega) (by omega) l2q9 (by omega) (fr_t (fr_u (by simp [wF]) hf) rq9) aq9 (⟨true, tq9⟩) (by obtain ⟨iq, hQ⟩ := hQ; exact ⟨_, QR_app hQ (QR_app (QR_1 ⟨by omega, by omega⟩ (QS_j hH (by omega))) Qq9)⟩) (⟨VL_s hD8 (by omega) hVV.1 (by assumption) Xq9.1, Xq9.2⟩) _ hf0 hf1 rfl rfl 
                        · skip
                          exact absurd hz_14 (by decide)
                    · skip
                      show jx L xs _ 87 40 _ [.int (iI 0)] _ _
                      refine jv_if_ne (t := 45) (pc' := 43) (a := 0) rfl rfl rfl (by omega) (fun hz_17 => ?_) (fun hz_17 => ?_)
                      · skip
                        exact absurd hz_17 (by decide)
                      · skip
                        refine jv_iconst (pc' := 44) (n := 0) rfl rfl ?_
                        refine jv_retZ rfl rfl (by first | exact Or.inl rfl | exact Or.inr rfl) ⟨_, _, rfl, ?_⟩
                        first
                        | (exfalso; omega)
                        | (obtain ⟨iq, hQ⟩ := hQ
                           exact ⟨_, _, rfl, (fr_t (fr_u (by simp [wF]) hf) rq9), aq9, yq9, Or.inr ⟨rfl, _, QR_QE hQ (QR_QE (QR_1 ⟨by omega, by omega⟩ (QS_j hH (by omega))) Eq9)⟩⟩)
                · skip
                  refine jv_call (pc' := 32) rfl (cl_take_n_q (I := I1) (a := e1) hl C1 ha1 hp (by omega) (x := 124) (by omega) hk6) (fun vq18 gq18 q18 => ?_)
                  obtain ⟨rfl, rfl⟩ := q18
                  show jx L xs _ 87 32 _ [.int (iI 0)] _ _
                  refine jv_if_eq (t := 68) (pc' := 35) (a := 0) rfl rfl rfl (by omega) (fun hz_19 => ?_) (fun hz_19 => ?_)
                  · skip
                    refine jv_aload_n (pc' := 69) (k := 0) (x := 95) rfl rfl rfl hf0 ?_
                    refine jv_iload_n (pc' := 70) (k := 2) (x := (iI 0)) rfl rfl rfl hf2 ?_
                    refine jv_putZ (pc' := 73) (c := 9) (k := 5) rfl rfl rfl rfl (fun _ _ _ hz => if_pos hz) rfl rfl (by first | exact Or.inl rfl | exact Or.inr rfl) ?_
                    refine jv_iconst (pc' := 74) (n := 1) rfl rfl ?_
                    refine jv_retZ rfl rfl (by first | exact Or.inl rfl | exact Or.inr rfl) ⟨_, _, rfl, ?_⟩
                    first
                    | (exfalso; omega)
                    | exact ⟨_, e1, rfl, (fr_u (by simp [wF]) hf), ha1, ⟨false, (by first | rfl | exact hT)⟩, Or.inl ⟨rfl, by omega, by omega, hQ, false, (by first | rfl | exact hT), ⟨hVV.1, hVV.2, by omega⟩⟩⟩
                  · skip
                    exact absurd hz_19 (by decide)
            · skip
              show jx L xs _ 87 18 _ [.int (iI ((i : Nat) : Int))] _ _
              refine jv_bipush (pc' := 20) (n := 80) rfl rfl rfl ?_
              refine jv_ic_ge (t := 68) (pc' := 23) (a := ((i : Nat) : Int)) (b := 80) rfl rfl rfl (by omega) (fun hz_20 => ?_) (fun hz_20 => ?_)
              · skip
                refine jv_aload_n (pc' := 69) (k := 0) (x := 95) rfl rfl rfl hf0 ?_
                refine jv_iload_n (pc' := 70) (k := 2) (x := (iI 1)) rfl rfl rfl hf2 ?_
                refine jv_putZ (pc' := 73) (c := 9) (k := 5) rfl rfl rfl rfl (fun _ _ _ hz => if_pos hz) rfl rfl (by first | exact Or.inl rfl | exact Or.inr rfl) ?_
                refine jv_iconst (pc' := 74) (n := 1) rfl rfl ?_
                refine jv_retZ rfl rfl (by first | exact Or.inl rfl | exact Or.inr rfl) ⟨_, _, rfl, ?_⟩
                first
                | (exfalso; omega)
                | exact ⟨_, e1, rfl, (fr_u (by simp [wF]) hf), ha1, ⟨true, (by first | rfl | exact hT)⟩, Or.inl ⟨rfl, by omega, by omega, hQ, true, (by first | rfl | exact hT), ⟨hVV.1, hVV.2, by omega⟩⟩⟩
              · skip
                refine jv_aload_n (pc' := 24) (k := 0) (x := 95) rfl rfl rfl hf0 ?_
                refine jv_getR (pc' := 27) (c := 9) (k := 0) (v := 96) rfl rfl rfl (fun _ _ => rfl) rfl rfl (jR_95_0 _) ?_
                refine jv_bipush (pc' := 29) (n := 124) rfl rfl rfl ?_
                have hm21 := CT_c C1 (e1)
                have ho21 := CT_or C1 (e1)
                by_cases hk22 : c (e1) = 124
                · skip
                  refine jv_call (pc' := 32) rfl (cl_take_y_q (I := I1) (a := e1) hl C1 ha1 hp (by omega) (x := 124) (by omega) hk22) (fun vq23 gq23 q23 => ?_)
                  obtain ⟨rfl, rfl⟩ := q23
                  show jx L xs _ 87 32 _ [.int (iI 1)] _ _
                  refine jv_if_eq (t := 68) (pc' := 35) (a := 1) rfl rfl rfl (by omega) (fun hz_24 => ?_) (fun hz_24 => ?_)
                  · skip
                    exact absurd hz_24 (by decide)
                  · skip
                    refine jv_aload_n (pc' := 36) (k := 0) (x := 95) rfl rfl rfl hf0 ?_
                    refine jv_iload_n (pc' := 37) (k := 1) (x := (iI ((D : Nat) : Int))) rfl rfl rfl hf1 ?_
                    have C26 : CT (jm_u I1 96 1 (iI ((e1 + 1 : Nat) : Int))) t c n := CT_fr (W := wF) (I := I1) (t := t) (c := c) (n := n) C1 (fr_u (by simp [wF]) (fr_r _)) (by unfold wF; omega) (by intro k; unfold wF; omega)
                    have Gq25 : DCe (jm_u I1 96 1 (iI ((e1 + 1 : Nat) : Int))) M s := DCe_F hD (fr_u (by simp [wF]) hf)
                    refine jv_call (pc' := 40) rfl (hF L xs d j (jm_u I1 96 1 (iI ((e1 + 1 : Nat) : Int))) M p c n (e1 + 1) t s W sz k hl C26 rfl hp (by omega) hp22 Gq25 hE hc hT hkl hH) (fun vq25 gq25 q25 => ?_)
                    obtain ⟨Iq25, eq25, rfl, rq25, aq25, yq25, q25⟩ := q25
                    rcases q25 with ⟨rfl, l1q25, l2q25, ⟨iq25, Qq25⟩, bq25, tq25, Xq25⟩ | ⟨rfl, iq25, Eq25⟩
                    · skip
                      rcases bq25 with _ | _
                      · skip
                        show jx L xs _ 87 40 _ [.int (iI 1)] _ _
                        refine jv_if_ne (t := 45) (pc' := 43) (a := 1) rfl rfl rfl (by omega) (fun hz_27 => ?_) (fun hz_27 => ?_)
                        · skip
                          refine jv_iload_n (pc' := 46) (k := 2) (x := (iI 1)) rfl rfl rfl hf2 ?_
                          refine jv_if_ne (t := 56) (pc' := 49) (a := 1) rfl rfl rfl (by omega) (fun hz_28 => ?_) (fun hz_28 => ?_)
                          · skip
                            refine jv_iconst (pc' := 57) (n := 1) rfl rfl ?_
                            refine jx_step (pc' := 61) rfl ?_
                            refine jv_istore_n (pc' := 62) (k := 2) (x := (iI 1)) rfl rfl rfl rfl (Or.inr (congrArg jm_lng hf1)) ?_
                            refine jv_iinc (pc' := 65) (k := 3) (a := ((i : Nat) : Int)) rfl rfl hf3 rfl (Or.inr rfl) ?_
                            refine jx_step (pc' := 17) rfl ?_
                            exact ih (i + 1) eq25 Iq25 true (by omega) (by omega) (by omega) l2q25 (by omega) (fr_t (fr_u (by simp [wF]) hf) rq25) aq25 (⟨false, tq25⟩) (by obtain ⟨iq, hQ⟩ := hQ; exact ⟨_, QR_app hQ (QR_app (QR_1 ⟨by omega, by omega⟩ (QS_j hH (by omega))) Qq25)⟩) (⟨VL_s hD8 (by omega) hVV.1 (by assumption) Xq25.1, Xq25.2⟩) _ hf0 hf1 rfl rfl 
                          · skip
                            exact absurd hz_28 (by decide)
                        · skip
                          exact absurd hz_27 (by decide)
                      · skip
                        show jx L xs _ 87 40 _ [.int (iI 1)] _ _
                        refine jv_if_ne (t := 45) (pc' := 43) (a := 1) rfl rfl rfl (by omega) (fun hz_29 => ?_) (fun hz_29 => ?_)
                        · skip
                          refine jv_iload_n (pc' := 46) (k := 2) (x := (iI 1)) rfl rfl rfl hf2 ?_
                          refine jv_if_ne (t := 56) (pc' := 49) (a := 1) rfl rfl rfl (by omega) (fun hz_30 => ?_) (fun hz_30 => ?_)
                          · skip
                            refine jv_iconst (pc' := 57) (n := 1) rfl rfl ?_
                            refine jx_step (pc' := 61) rfl ?_
                            refine jv_istore_n (pc' := 62) (k := 2) (x := (iI 1)) rfl rfl rfl rfl (Or.inr (congrArg jm_lng hf1)) ?_
                            refine jv_iinc (pc' := 65) (k := 3) (a := ((i : Nat) : Int)) rfl rfl hf3 rfl (Or.inr rfl) ?_
                            refine jx_step (pc' := 17) rfl ?_
                            exact ih (i + 1) eq25 Iq25 true (by omega) (by omega) (by omega) l2q25 (by omega) (fr_t (fr_u (by simp [wF]) hf) rq25) aq25 (⟨true, tq25⟩) (by obtain ⟨iq, hQ⟩ := hQ; exact ⟨_, QR_app hQ (QR_app (QR_1 ⟨by omega, by omega⟩ (QS_j hH (by omega))) Qq25)⟩) (⟨VL_s hD8 (by omega) hVV.1 (by assumption) Xq25.1, Xq25.2⟩) _ hf0 hf1 rfl rfl 
                          · skip
                            exact absurd hz_30 (by decide)
                        · skip
                          exact absurd hz_29 (by decide)
                    · skip
                      show jx L xs _ 87 40 _ [.int (iI 0)] _ _
                      refine jv_if_ne (t := 45) (pc' := 43) (a := 0) rfl rfl rfl (by omega) (fun hz_31 => ?_) (fun hz_31 => ?_)
                      · skip
                        exact absurd hz_31 (by decide)
                      · skip
                        refine jv_iconst (pc' := 44) (n := 0) rfl rfl ?_
                        refine jv_retZ rfl rfl (by first | exact Or.inl rfl | exact Or.inr rfl) ⟨_, _, rfl, ?_⟩
                        first
                        | (exfalso; omega)
                        | (obtain ⟨iq, hQ⟩ := hQ
                           exact ⟨_, _, rfl, (fr_t (fr_u (by simp [wF]) hf) rq25), aq25, yq25, Or.inr ⟨rfl, _, QR_QE hQ (QR_QE (QR_1 ⟨by omega, by omega⟩ (QS_j hH (by omega))) Eq25)⟩⟩)
                · skip
                  refine jv_call (pc' := 32) rfl (cl_take_n_q (I := I1) (a := e1) hl C1 ha1 hp (by omega) (x := 124) (by omega) hk22) (fun vq32 gq32 q32 => ?_)
                  obtain ⟨rfl, rfl⟩ := q32
                  show jx L xs _ 87 32 _ [.int (iI 0)] _ _
                  refine jv_if_eq (t := 68) (pc' := 35) (a := 0) rfl rfl rfl (by omega) (fun hz_33 => ?_) (fun hz_33 => ?_)
                  · skip
                    refine jv_aload_n (pc' := 69) (k := 0) (x := 95) rfl rfl rfl hf0 ?_
                    refine jv_iload_n (pc' := 70) (k := 2) (x := (iI 1)) rfl rfl rfl hf2 ?_
                    refine jv_putZ (pc' := 73) (c := 9) (k := 5) rfl rfl rfl rfl (fun _ _ _ hz => if_pos hz) rfl rfl (by first | exact Or.inl rfl | exact Or.inr rfl) ?_
                    refine jv_iconst (pc' := 74) (n := 1) rfl rfl ?_
                    refine jv_retZ rfl rfl (by first | exact Or.inl rfl | exact Or.inr rfl) ⟨_, _, rfl, ?_⟩
                    first
                    | (exfalso; omega)
                    | exact ⟨_, e1, rfl, (fr_u (by simp [wF]) hf), ha1, ⟨true, (by first | rfl | exact hT)⟩, Or.inl ⟨rfl, by omega, by omega, hQ, true, (by first | rfl | exact hT), ⟨hVV.1, hVV.2, by omega⟩⟩⟩
                  · skip
                    exact absurd hz_33 (by decide)
        exact H3 _ 0 eq1 Iq1 false (Nat.lt_succ_self _) (by omega) (by omega) l2q1 l1q1 (fr_t (fr_r _) rq1) aq1 ⟨false, tq1⟩ ⟨iq1, Qq1⟩ (⟨VL_0 Xq1.1, Xq1.2⟩) _ rfl rfl rfl rfl 
      · skip
        exact absurd hz_2 (by decide)
    · skip
      show jx L xs _ 87 5 _ [.int (iI 1)] _ _
      refine jv_if_ne (t := 10) (pc' := 8) (a := 1) rfl rfl rfl (by omega) (fun hz_34 => ?_) (fun hz_34 => ?_)
      · skip
        refine jv_aload_n (pc' := 11) (k := 0) (x := 95) rfl rfl rfl rfl ?_
        refine jv_getI (pc' := 14) (c := 9) (k := 5) (v := (iI 1)) rfl rfl rfl (fun _ _ => rfl) rfl rfl tq1 ?_
        refine jv_istore_n (pc' := 15) (k := 2) (x := (iI 1)) rfl rfl rfl rfl (Or.inr rfl) ?_
        refine jv_iconst (pc' := 16) (n := 0) rfl rfl ?_
        refine jv_istore_n (pc' := 17) (k := 3) (x := (iI 0)) rfl rfl rfl rfl (Or.inr rfl) ?_
        have H35 : ∀ (N : Nat) (i : Nat) (e1 : Nat) (I1 : Nat → Nat → Int32) (al : Bool), 80 - i < N → (i ≤ 80) → (i ≤ e1) → (e1 ≤ n) → (a < e1) → (fr wF I I1) → (I1 96 1 = iI ((e1 : Nat) : Int)) → (∃ z : Bool, I1 95 5 = iI (ib z)) → (∃ i, QR c i 0 a k 1 e1 k) → (VL c s D a e1 al ∧ c e1 ≠ 38) → ∀ f : jm_F, f 0 = some (.ref 95) → f 1 = some (.int (iI ((D : Nat) : Int))) → f 2 = some (.int (iI (ib al))) → f 3 = some (.int (iI ((i : Nat) : Int))) → jx L xs ((d + e + 2)) 87 17 f [] (jx_G j I1 M p) (fun z => ∃ v g1, z = (.inl v, g1) ∧ PQ c n (fun e b => VL c s D a e b ∧ c e ≠ 38 ∧ c e ≠ 124) j p I M a k v g1) := by
          intro N
          induction N with
          | zero => intro i e1 I1 al hN; exact absurd hN (Nat.not_lt_zero _)
          | succ N ih =>
            intro i e1 I1 al hN hi hie he1 hae hf ha1 hT hQ hVV f hf0 hf1 hf2 hf3 
            refine jv_iload_n (pc' := 18) (k := 3) (x := (iI ((i : Nat) : Int))) rfl rfl rfl hf3 ?_
            have ho1 : c e1 = -1 ∨ e1 < n := by
              by_cases z : e1 < n
              · exact Or.inr z
              · exact Or.inl (hcn e1 (by omega))
            have C1 : CT I1 t c n := CT_fr (W := wF) (I := I) (t := t) (c := c) (n := n) hC hf (by unfold wF; omega) (by intro k; unfold wF; omega)
            rcases al with _ | _
            · skip
              show jx L xs _ 87 18 _ [.int (iI ((i : Nat) : Int))] _ _
              refine jv_bipush (pc' := 20) (n := 80) rfl rfl rfl ?_
              refine jv_ic_ge (t := 68) (pc' := 23) (a := ((i : Nat) : Int)) (b := 80) rfl rfl rfl (by omega) (fun hz_36 => ?_) (fun hz_36 => ?_)
              · skip
                refine jv_aload_n (pc' := 69) (k := 0) (x := 95) rfl rfl rfl hf0 ?_
                refine jv_iload_n (pc' := 70) (k := 2) (x := (iI 0)) rfl rfl rfl hf2 ?_
                refine jv_putZ (pc' := 73) (c := 9) (k := 5) rfl rfl rfl rfl (fun _ _ _ hz => if_pos hz) rfl rfl (by first | exact Or.inl rfl | exact Or.inr rfl) ?_
                refine jv_iconst (pc' := 74) (n := 1) rfl rfl ?_
                refine jv_retZ rfl rfl (by first | exact Or.inl rfl | exact Or.inr rfl) ⟨_, _, rfl, ?_⟩
                first
                | (exfalso; omega)
                | exact ⟨_, e1, rfl, (fr_u (by simp [wF]) hf), ha1, ⟨false, (by first | rfl | exact hT)⟩, Or.inl ⟨rfl, by omega, by omega, hQ, false, (by first | rfl | exact hT), ⟨hVV.1, hVV.2, by omega⟩⟩⟩
              · skip
                refine jv_aload_n (pc' := 24) (k := 0) (x := 95) rfl rfl rfl hf0 ?_
                refine jv_getR (pc' := 27) (c := 9) (k := 0) (v := 96) rfl rfl rfl (fun _ _ => rfl) rfl rfl (jR_95_0 _) ?_
                refine jv_bipush (pc' := 29) (n := 124) rfl rfl rfl ?_
                have hm37 := CT_c C1 (e1)
                have ho37 := CT_or C1 (e1)
                by_cases hk38 : c (e1) = 124
                · skip
                  refine jv_call (pc' := 32) rfl (cl_take_y_q (I := I1) (a := e1) hl C1 ha1 hp (by omega) (x := 124) (by omega) hk38) (fun vq39 gq39 q39 => ?_)
                  obtain ⟨rfl, rfl⟩ := q39
                  show jx L xs _ 87 32 _ [.int (iI 1)] _ _
                  refine jv_if_eq (t := 68) (pc' := 35) (a := 1) rfl rfl rfl (by omega) (fun hz_40 => ?_) (fun hz_40 => ?_)
                  · skip
                    exact absurd hz_40 (by decide)
                  · skip
                    refine jv_aload_n (pc' := 36) (k := 0) (x := 95) rfl rfl rfl hf0 ?_
                    refine jv_iload_n (pc' := 37) (k := 1) (x := (iI ((D : Nat) : Int))) rfl rfl rfl hf1 ?_
                    have C42 : CT (jm_u I1 96 1 (iI ((e1 + 1 : Nat) : Int))) t c n := CT_fr (W := wF) (I := I1) (t := t) (c := c) (n := n) C1 (fr_u (by simp [wF]) (fr_r _)) (by unfold wF; omega) (by intro k; unfold wF; omega)
                    have Gq41 : DCe (jm_u I1 96 1 (iI ((e1 + 1 : Nat) : Int))) M s := DCe_F hD (fr_u (by simp [wF]) hf)
                    refine jv_call (pc' := 40) rfl (hF L xs d j (jm_u I1 96 1 (iI ((e1 + 1 : Nat) : Int))) M p c n (e1 + 1) t s W sz k hl C42 rfl hp (by omega) hp22 Gq41 hE hc hT hkl hH) (fun vq41 gq41 q41 => ?_)
                    obtain ⟨Iq41, eq41, rfl, rq41, aq41, yq41, q41⟩ := q41
                    rcases q41 with ⟨rfl, l1q41, l2q41, ⟨iq41, Qq41⟩, bq41, tq41, Xq41⟩ | ⟨rfl, iq41, Eq41⟩
                    · skip
                      rcases bq41 with _ | _
                      · skip
                        show jx L xs _ 87 40 _ [.int (iI 1)] _ _
                        refine jv_if_ne (t := 45) (pc' := 43) (a := 1) rfl rfl rfl (by omega) (fun hz_43 => ?_) (fun hz_43 => ?_)
                        · skip
                          refine jv_iload_n (pc' := 46) (k := 2) (x := (iI 0)) rfl rfl rfl hf2 ?_
                          refine jv_if_ne (t := 56) (pc' := 49) (a := 0) rfl rfl rfl (by omega) (fun hz_44 => ?_) (fun hz_44 => ?_)
                          · skip
                            exact absurd hz_44 (by decide)
                          · skip
                            refine jv_aload_n (pc' := 50) (k := 0) (x := 95) rfl rfl rfl hf0 ?_
                            refine jv_getI (pc' := 53) (c := 9) (k := 5) (v := (iI 0)) rfl rfl rfl (fun _ _ => rfl) rfl rfl tq41 ?_
                            refine jv_if_eq (t := 60) (pc' := 56) (a := 0) rfl rfl rfl (by omega) (fun hz_45 => ?_) (fun hz_45 => ?_)
                            · skip
                              refine jv_iconst (pc' := 61) (n := 0) rfl rfl ?_
                              refine jv_istore_n (pc' := 62) (k := 2) (x := (iI 0)) rfl rfl rfl rfl (Or.inr (congrArg jm_lng hf1)) ?_
                              refine jv_iinc (pc' := 65) (k := 3) (a := ((i : Nat) : Int)) rfl rfl hf3 rfl (Or.inr rfl) ?_
                              refine jx_step (pc' := 17) rfl ?_
                              exact ih (i + 1) eq41 Iq41 false (by omega) (by omega) (by omega) l2q41 (by omega) (fr_t (fr_u (by simp [wF]) hf) rq41) aq41 (⟨false, tq41⟩) (by obtain ⟨iq, hQ⟩ := hQ; exact ⟨_, QR_app hQ (QR_app (QR_1 ⟨by omega, by omega⟩ (QS_j hH (by omega))) Qq41)⟩) (⟨VL_s hD8 (by omega) hVV.1 (by assumption) Xq41.1, Xq41.2⟩) _ hf0 hf1 rfl rfl 
                            · skip
                              exact absurd hz_45 (by decide)
                        · skip
                          exact absurd hz_43 (by decide)
                      · skip
                        show jx L xs _ 87 40 _ [.int (iI 1)] _ _
                        refine jv_if_ne (t := 45) (pc' := 43) (a := 1) rfl rfl rfl (by omega) (fun hz_46 => ?_) (fun hz_46 => ?_)
                        · skip
                          refine jv_iload_n (pc' := 46) (k := 2) (x := (iI 0)) rfl rfl rfl hf2 ?_
                          refine jv_if_ne (t := 56) (pc' := 49) (a := 0) rfl rfl rfl (by omega) (fun hz_47 => ?_) (fun hz_47 => ?_)
                          · skip
                            exact absurd hz_47 (by decide)
                          · skip
                            refine jv_aload_n (pc' := 50) (k := 0) (x := 95) rfl rfl rfl hf0 ?_
                            refine jv_getI (pc' := 53) (c := 9) (k := 5) (v := (iI 1)) rfl rfl rfl (fun _ _ => rfl) rfl rfl tq41 ?_
                            refine jv_if_eq (t := 60) (pc' := 56) (a := 1) rfl rfl rfl (by omega) (fun hz_48 => ?_) (fun hz_48 => ?_)
                            · skip
                              exact absurd hz_48 (by decide)
                            · skip
                              refine jv_iconst (pc' := 57) (n := 1) rfl rfl ?_
                              refine jx_step (pc' := 61) rfl ?_
                              refine jv_istore_n (pc' := 62) (k := 2) (x := (iI 1)) rfl rfl rfl rfl (Or.inr (congrArg jm_lng hf1)) ?_
                              refine jv_iinc (pc' := 65) (k := 3) (a := ((i : Nat) : Int)) rfl rfl hf3 rfl (Or.inr rfl) ?_
                              refine jx_step (pc' := 17) rfl ?_
                              exact ih (i + 1) eq41 Iq41 true (by omega) (by omega) (by omega) l2q41 (by omega) (fr_t (fr_u (by simp [wF]) hf) rq41) aq41 (⟨true, tq41⟩) (by obtain ⟨iq, hQ⟩ := hQ; exact ⟨_, QR_app hQ (QR_app (QR_1 ⟨by omega, by omega⟩ (QS_j hH (by omega))) Qq41)⟩) (⟨VL_s hD8 (by omega) hVV.1 (by assumption) Xq41.1, Xq41.2⟩) _ hf0 hf1 rfl rfl 
                        · skip
                          exact absurd hz_46 (by decide)
                    · skip
                      show jx L xs _ 87 40 _ [.int (iI 0)] _ _
                      refine jv_if_ne (t := 45) (pc' := 43) (a := 0) rfl rfl rfl (by omega) (fun hz_49 => ?_) (fun hz_49 => ?_)
                      · skip
                        exact absurd hz_49 (by decide)
                      · skip
                        refine jv_iconst (pc' := 44) (n := 0) rfl rfl ?_
                        refine jv_retZ rfl rfl (by first | exact Or.inl rfl | exact Or.inr rfl) ⟨_, _, rfl, ?_⟩
                        first
                        | (exfalso; omega)
                        | (obtain ⟨iq, hQ⟩ := hQ
                           exact ⟨_, _, rfl, (fr_t (fr_u (by simp [wF]) hf) rq41), aq41, yq41, Or.inr ⟨rfl, _, QR_QE hQ (QR_QE (QR_1 ⟨by omega, by omega⟩ (QS_j hH (by omega))) Eq41)⟩⟩)
                · skip
                  refine jv_call (pc' := 32) rfl (cl_take_n_q (I := I1) (a := e1) hl C1 ha1 hp (by omega) (x := 124) (by omega) hk38) (fun vq50 gq50 q50 => ?_)
                  obtain ⟨rfl, rfl⟩ := q50
                  show jx L xs _ 87 32 _ [.int (iI 0)] _ _
                  refine jv_if_eq (t := 68) (pc' := 35) (a := 0) rfl rfl rfl (by omega) (fun hz_51 => ?_) (fun hz_51 => ?_)
                  · skip
                    refine jv_aload_n (pc' := 69) (k := 0) (x := 95) rfl rfl rfl hf0 ?_
                    refine jv_iload_n (pc' := 70) (k := 2) (x := (iI 0)) rfl rfl rfl hf2 ?_
                    refine jv_putZ (pc' := 73) (c := 9) (k := 5) rfl rfl rfl rfl (fun _ _ _ hz => if_pos hz) rfl rfl (by first | exact Or.inl rfl | exact Or.inr rfl) ?_
                    refine jv_iconst (pc' := 74) (n := 1) rfl rfl ?_
                    refine jv_retZ rfl rfl (by first | exact Or.inl rfl | exact Or.inr rfl) ⟨_, _, rfl, ?_⟩
                    first
                    | (exfalso; omega)
                    | exact ⟨_, e1, rfl, (fr_u (by simp [wF]) hf), ha1, ⟨false, (by first | rfl | exact hT)⟩, Or.inl ⟨rfl, by omega, by omega, hQ, false, (by first | rfl | exact hT), ⟨hVV.1, hVV.2, by omega⟩⟩⟩
                  · skip
                    exact absurd hz_51 (by decide)
            · skip
              show jx L xs _ 87 18 _ [.int (iI ((i : Nat) : Int))] _ _
              refine jv_bipush (pc' := 20) (n := 80) rfl rfl rfl ?_
              refine jv_ic_ge (t := 68) (pc' := 23) (a := ((i : Nat) : Int)) (b := 80) rfl rfl rfl (by omega) (fun hz_52 => ?_) (fun hz_52 => ?_)
              · skip
                refine jv_aload_n (pc' := 69) (k := 0) (x := 95) rfl rfl rfl hf0 ?_
                refine jv_iload_n (pc' := 70) (k := 2) (x := (iI 1)) rfl rfl rfl hf2 ?_
                refine jv_putZ (pc' := 73) (c := 9) (k := 5) rfl rfl rfl rfl (fun _ _ _ hz => if_pos hz) rfl rfl (by first | exact Or.inl rfl | exact Or.inr rfl) ?_
                refine jv_iconst (pc' := 74) (n := 1) rfl rfl ?_
                refine jv_retZ rfl rfl (by first | exact Or.inl rfl | exact Or.inr rfl) ⟨_, _, rfl, ?_⟩
                first
                | (exfalso; omega)
                | exact ⟨_, e1, rfl, (fr_u (by simp [wF]) hf), ha1, ⟨true, (by first | rfl | exact hT)⟩, Or.inl ⟨rfl, by omega, by omega, hQ, true, (by first | rfl | exact hT), ⟨hVV.1, hVV.2, by omega⟩⟩⟩
              · skip
                refine jv_aload_n (pc' := 24) (k := 0) (x := 95) rfl rfl rfl hf0 ?_
                refine jv_getR (pc' := 27) (c := 9) (k := 0) (v := 96) rfl rfl rfl (fun _ _ => rfl) rfl rfl (jR_95_0 _) ?_
                refine jv_bipush (pc' := 29) (n := 124) rfl rfl rfl ?_
                have hm53 := CT_c C1 (e1)
                have ho53 := CT_or C1 (e1)
                by_cases hk54 : c (e1) = 124
                · skip
                  refine jv_call (pc' := 32) rfl (cl_take_y_q (I := I1) (a := e1) hl C1 ha1 hp (by omega) (x := 124) (by omega) hk54) (fun vq55 gq55 q55 => ?_)
                  obtain ⟨rfl, rfl⟩ := q55
                  show jx L xs _ 87 32 _ [.int (iI 1)] _ _
                  refine jv_if_eq (t := 68) (pc' := 35) (a := 1) rfl rfl rfl (by omega) (fun hz_56 => ?_) (fun hz_56 => ?_)
                  · skip
                    exact absurd hz_56 (by decide)
                  · skip
                    refine jv_aload_n (pc' := 36) (k := 0) (x := 95) rfl rfl rfl hf0 ?_
                    refine jv_iload_n (pc' := 37) (k := 1) (x := (iI ((D : Nat) : Int))) rfl rfl rfl hf1 ?_
                    have C58 : CT (jm_u I1 96 1 (iI ((e1 + 1 : Nat) : Int))) t c n := CT_fr (W := wF) (I := I1) (t := t) (c := c) (n := n) C1 (fr_u (by simp [wF]) (fr_r _)) (by unfold wF; omega) (by intro k; unfold wF; omega)
                    have Gq57 : DCe (jm_u I1 96 1 (iI ((e1 + 1 : Nat) : Int))) M s := DCe_F hD (fr_u (by simp [wF]) hf)
                    refine jv_call (pc' := 40) rfl (hF L xs d j (jm_u I1 96 1 (iI ((e1 + 1 : Nat) : Int))) M p c n (e1 + 1) t s W sz k hl C58 rfl hp (by omega) hp22 Gq57 hE hc hT hkl hH) (fun vq57 gq57 q57 => ?_)
                    obtain ⟨Iq57, eq57, rfl, rq57, aq57, yq57, q57⟩ := q57
                    rcases q57 with ⟨rfl, l1q57, l2q57, ⟨iq57, Qq57⟩, bq57, tq57, Xq57⟩ | ⟨rfl, iq57, Eq57⟩
                    · skip
                      rcases bq57 with _ | _
                      · skip
                        show jx L xs _ 87 40 _ [.int (iI 1)] _ _
                        refine jv_if_ne (t := 45) (pc' := 43) (a := 1) rfl rfl rfl (by omega) (fun hz_59 => ?_) (fun hz_59 => ?_)
                        · skip
                          refine jv_iload_n (pc' := 46) (k := 2) (x := (iI 1)) rfl rfl rfl hf2 ?_
                          refine jv_if_ne (t := 56) (pc' := 49) (a := 1) rfl rfl rfl (by omega) (fun hz_60 => ?_) (fun hz_60 => ?_)
                          · skip
                            refine jv_iconst (pc' := 57) (n := 1) rfl rfl ?_
                            refine jx_step (pc' := 61) rfl ?_
                            refine jv_istore_n (pc' := 62) (k := 2) (x := (iI 1)) rfl rfl rfl rfl (Or.inr (congrArg jm_lng hf1)) ?_
                            refine jv_iinc (pc' := 65) (k := 3) (a := ((i : Nat) : Int)) rfl rfl hf3 rfl (Or.inr rfl) ?_
                            refine jx_step (pc' := 17) rfl ?_
                            exact ih (i + 1) eq57 Iq57 true (by omega) (by omega) (by omega) l2q57 (by omega) (fr_t (fr_u (by simp [wF]) hf) rq57) aq57 (⟨false, tq57⟩) (by obtain ⟨iq, hQ⟩ := hQ; exact ⟨_, QR_app hQ (QR_app (QR_1 ⟨by omega, by omega⟩ (QS_j hH (by omega))) Qq57)⟩) (⟨VL_s hD8 (by omega) hVV.1 (by assumption) Xq57.1, Xq57.2⟩) _ hf0 hf1 rfl rfl 
                          · skip
                            exact absurd hz_60 (by decide)
                        · skip
                          exact absurd hz_59 (by decide)
                      · skip
                        show jx L xs _ 87 40 _ [.int (iI 1)] _ _
                        refine jv_if_ne (t := 45) (pc' := 43) (a := 1) rfl rfl rfl (by omega) (fun hz_61 => ?_) (fun hz_61 => ?_)
                        · skip
                          refine jv_iload_n (pc' := 46) (k := 2) (x := (iI 1)) rfl rfl rfl hf2 ?_
                          refine jv_if_ne (t := 56) (pc' := 49) (a := 1) rfl rfl rfl (by omega) (fun hz_62 => ?_) (fun hz_62 => ?_)
                          · skip
                            refine jv_iconst (pc' := 57) (n := 1) rfl rfl ?_
                            refine jx_step (pc' := 61) rfl ?_
                            refine jv_istore_n (pc' := 62) (k := 2) (x := (iI 1)) rfl rfl rfl rfl (Or.inr (congrArg jm_lng hf1)) ?_
                            refine jv_iinc (pc' := 65) (k := 3) (a := ((i : Nat) : Int)) rfl rfl hf3 rfl (Or.inr rfl) ?_
                            refine jx_step (pc' := 17) rfl ?_
                            exact ih (i + 1) eq57 Iq57 true (by omega) (by omega) (by omega) l2q57 (by omega) (fr_t (fr_u (by simp [wF]) hf) rq57) aq57 (⟨true, tq57⟩) (by obtain ⟨iq, hQ⟩ := hQ; exact ⟨_, QR_app hQ (QR_app (QR_1 ⟨by omega, by omega⟩ (QS_j hH (by omega))) Qq57)⟩) (⟨VL_s hD8 (by omega) hVV.1 (by assumption) Xq57.1, Xq57.2⟩) _ hf0 hf1 rfl rfl 
                          · skip
                            exact absurd hz_62 (by decide)
                        · skip
                          exact absurd hz_61 (by decide)
                    · skip
                      show jx L xs _ 87 40 _ [.int (iI 0)] _ _
                      refine jv_if_ne (t := 45) (pc' := 43) (a := 0) rfl rfl rfl (by omega) (fun hz_63 => ?_) (fun hz_63 => ?_)
                      · skip
                        exact absurd hz_63 (by decide)
                      · skip
                        refine jv_iconst (pc' := 44) (n := 0) rfl rfl ?_
                        refine jv_retZ rfl rfl (by first | exact Or.inl rfl | exact Or.inr rfl) ⟨_, _, rfl, ?_⟩
                        first
                        | (exfalso; omega)
                        | (obtain ⟨iq, hQ⟩ := hQ
                           exact ⟨_, _, rfl, (fr_t (fr_u (by simp [wF]) hf) rq57), aq57, yq57, Or.inr ⟨rfl, _, QR_QE hQ (QR_QE (QR_1 ⟨by omega, by omega⟩ (QS_j hH (by omega))) Eq57)⟩⟩)
                · skip
                  refine jv_call (pc' := 32) rfl (cl_take_n_q (I := I1) (a := e1) hl C1 ha1 hp (by omega) (x := 124) (by omega) hk54) (fun vq64 gq64 q64 => ?_)
                  obtain ⟨rfl, rfl⟩ := q64
                  show jx L xs _ 87 32 _ [.int (iI 0)] _ _
                  refine jv_if_eq (t := 68) (pc' := 35) (a := 0) rfl rfl rfl (by omega) (fun hz_65 => ?_) (fun hz_65 => ?_)
                  · skip
                    refine jv_aload_n (pc' := 69) (k := 0) (x := 95) rfl rfl rfl hf0 ?_
                    refine jv_iload_n (pc' := 70) (k := 2) (x := (iI 1)) rfl rfl rfl hf2 ?_
                    refine jv_putZ (pc' := 73) (c := 9) (k := 5) rfl rfl rfl rfl (fun _ _ _ hz => if_pos hz) rfl rfl (by first | exact Or.inl rfl | exact Or.inr rfl) ?_
                    refine jv_iconst (pc' := 74) (n := 1) rfl rfl ?_
                    refine jv_retZ rfl rfl (by first | exact Or.inl rfl | exact Or.inr rfl) ⟨_, _, rfl, ?_⟩
                    first
                    | (exfalso; omega)
                    | exact ⟨_, e1, rfl, (fr_u (by simp [wF]) hf), ha1, ⟨true, (by first | rfl | exact hT)⟩, Or.inl ⟨rfl, by omega, by omega, hQ, true, (by first | rfl | exact hT), ⟨hVV.1, hVV.2, by omega⟩⟩⟩
                  · skip
                    exact absurd hz_65 (by decide)
        exact H35 _ 0 eq1 Iq1 true (Nat.lt_succ_self _) (by omega) (by omega) l2q1 l1q1 (fr_t (fr_r _) rq1) aq1 ⟨true, tq1⟩ ⟨iq1, Qq1⟩ (⟨VL_0 Xq1.1, Xq1.2⟩) _ rfl rfl rfl rfl 
      · skip
        exact absurd hz_34 (by decide)
  · skip
    show jx L xs _ 87 5 _ [.int (iI 0)] _ _
    refine jv_if_ne (t := 10) (pc' := 8) (a := 0) rfl rfl rfl (by omega) (fun hz_66 => ?_) (fun hz_66 => ?_)
    · skip
      exact absurd hz_66 (by decide)
    · skip
      refine jv_iconst (pc' := 9) (n := 0) rfl rfl ?_
      refine jv_retZ rfl rfl (by first | exact Or.inl rfl | exact Or.inr rfl) ⟨_, _, rfl, ?_⟩
      exact ⟨_, _, rfl, (fr_t (fr_r _) rq1), aq1, yq1, Or.inr ⟨rfl, iq1, Eq1⟩⟩
set_option maxHeartbeats 4000000 in
theorem cl_CFF {D e : Nat} (hD8 : D ≤ 8) (hF : D < 8 → CFF (D + 1) (e + 3)) (hL : D < 8 → CFL (D + 1) (e + 3)) : CFF D (e + 4) := by
  intro L xs d j I M p c n a t s W sz k hl hC ha hp han hp22 hD hE hc htz hkl hH
  show jc L xs (d + e + 4) _ _ _ _
  unfold jc
  have hn := hC.2.1
  have hcn := hC.2.2.2.2
  have ho0 : c a = -1 ∨ a < n := by
    by_cases z : a < n
    · exact Or.inr z
    · exact Or.inl (hcn a (by omega))
  refine jv_iload_n (pc' := 1) (k := 1) (x := (iI ((D : Nat) : Int))) rfl rfl rfl rfl ?_
  refine jv_bipush (pc' := 3) (n := 8) rfl rfl rfl ?_
  refine jv_ic_ge (t := 44) (pc' := 6) (a := ((D : Nat) : Int)) (b := 8) rfl rfl rfl (by omega) (fun hz_1 => ?_) (fun hz_1 => ?_)
  · skip
    refine jv_iload_n (pc' := 45) (k := 1) (x := (iI ((D : Nat) : Int))) rfl rfl rfl rfl ?_
    refine jv_bipush (pc' := 47) (n := 8) rfl rfl rfl ?_
    refine jv_ic_ge (t := 90) (pc' := 50) (a := ((D : Nat) : Int)) (b := 8) rfl rfl rfl (by omega) (fun hz_2 => ?_) (fun hz_2 => ?_)
    · skip
      refine jv_aload_n (pc' := 91) (k := 0) (x := 95) rfl rfl rfl rfl ?_
      refine jv_call (pc' := 94) rfl (cl_readTest (d := d + e) (I := I) (a := a) hl hC ha hp (by omega) hp22 hD hE hc) (fun vq3 gq3 q3 => ?_)
      obtain ⟨Iq3, rfl, rq3, aq3, q3⟩ := q3
      have tb := tA_b hcn (a := a) han
      rcases q3 with ⟨oq3, rfl, tq3⟩ | ⟨oq3, rfl, tq3⟩
      · skip
        show jx L xs _ 89 94 _ [.int (iI 1)] _ _
        refine jv_retZ rfl rfl (by first | exact Or.inl rfl | exact Or.inr rfl) ⟨_, _, rfl, ?_⟩
        first
        | (exfalso; omega)
        | (have ts := oq3.1
           have tl := tA_lt hcn han oq3
           exact ⟨_, _, rfl, (fr_t (fr_r _) rq3), aq3, ⟨_, tq3.trans (jb_ib _)⟩, Or.inl ⟨rfl, by omega, by omega, ⟨_, QR_1 ⟨by omega, by omega⟩ (QS_t (by omega) oq3)⟩, _, tq3.trans (jb_ib _), VF_t hD8 (by omega) oq3⟩⟩)
      · skip
        show jx L xs _ 89 94 _ [.int (iI 0)] _ _
        refine jv_retZ rfl rfl (by first | exact Or.inl rfl | exact Or.inr rfl) ⟨_, _, rfl, ?_⟩
        first
        | (exfalso; omega)
        | (by_cases h8 : c a = 33 ∨ c a = 40
           · have e1 : tA c a = a := if_neg (by omega)
             rw [e1] at aq3
             exact ⟨_, _, rfl, (fr_t (fr_r _) rq3), aq3, (htz.elim (fun z hz => ⟨z, tq3.trans hz⟩)), Or.inr ⟨rfl, _, QE_d ⟨by omega, by omega⟩ h8 (by omega)⟩⟩
           · exact ⟨_, _, rfl, (fr_t (fr_r _) rq3), aq3, (htz.elim (fun z hz => ⟨z, tq3.trans hz⟩)), Or.inr ⟨rfl, _, QE_t ⟨by omega, by omega⟩ (by omega) oq3⟩⟩)
    · skip
      refine jv_aload_n (pc' := 51) (k := 0) (x := 95) rfl rfl rfl rfl ?_
      refine jv_getR (pc' := 54) (c := 9) (k := 0) (v := 96) rfl rfl rfl (fun _ _ => rfl) rfl rfl (jR_95_0 _) ?_
      refine jv_bipush (pc' := 56) (n := 40) rfl rfl rfl ?_
      have hm4 := CT_c hC (a)
      have ho4 := CT_or hC (a)
      by_cases hk5 : c (a) = 40
      · skip
        refine jv_call (pc' := 59) rfl (cl_take_y_q (I := I) (a := a) hl hC ha hp (by omega) (x := 40) (by omega) hk5) (fun vq6 gq6 q6 => ?_)
        obtain ⟨rfl, rfl⟩ := q6
        show jx L xs _ 89 59 _ [.int (iI 1)] _ _
        refine jv_if_eq (t := 90) (pc' := 62) (a := 1) rfl rfl rfl (by omega) (fun hz_7 => ?_) (fun hz_7 => ?_)
        · skip
          exact absurd hz_7 (by decide)
        · skip
          refine jv_aload_n (pc' := 63) (k := 0) (x := 95) rfl rfl rfl rfl ?_
          refine jv_iload_n (pc' := 64) (k := 1) (x := (iI ((D : Nat) : Int))) rfl rfl rfl rfl ?_
          refine jv_iconst (pc' := 65) (n := 1) rfl rfl ?_
          refine jv_iadd (pc' := 66) (a := ((D : Nat) : Int)) (b := 1) rfl rfl ?_
          rw [show ((D : Nat) : Int) + 1 = ((D + 1 : Nat) : Int) by omega]
          have C9 : CT (jm_u I 96 1 (iI ((a + 1 : Nat) : Int))) t c n := CT_fr (W := wF) (I := I) (t := t) (c := c) (n := n) hC (fr_u (by simp [wF]) (fr_r _)) (by unfold wF; omega) (by intro k; unfold wF; omega)
          have Gq8 : DCe (jm_u I 96 1 (iI ((a + 1 : Nat) : Int))) M s := DCe_F hD (fr_u (by simp [wF]) (fr_r _))
          refine jv_call (pc' := 69) rfl (hL (by omega) L xs d j (jm_u I 96 1 (iI ((a + 1 : Nat) : Int))) M p c n (a + 1) t s W sz (true :: k) hl C9 rfl hp (by omega) hp22 Gq8 hE hc htz (by simp [hkl]) (Or.inr ⟨k, rfl⟩)) (fun vq8 gq8 q8 => ?_)
          obtain ⟨Iq8, eq8, rfl, rq8, aq8, yq8, q8⟩ := q8
          rcases q8 with ⟨rfl, l1q8, l2q8, ⟨iq8, Qq8⟩, bq8, tq8, Xq8⟩ | ⟨rfl, iq8, Eq8⟩
          · skip
            rcases bq8 with _ | _
            · skip
              show jx L xs _ 89 69 _ [.int (iI 1)] _ _
              refine jv_if_eq (t := 88) (pc' := 72) (a := 1) rfl rfl rfl (by omega) (fun hz_10 => ?_) (fun hz_10 => ?_)
              · skip
                exact absurd hz_10 (by decide)
              · skip
                refine jv_aload_n (pc' := 73) (k := 0) (x := 95) rfl rfl rfl rfl ?_
                refine jv_getR (pc' := 76) (c := 9) (k := 0) (v := 96) rfl rfl rfl (fun _ _ => rfl) rfl rfl (jR_95_0 _) ?_
                refine jv_bipush (pc' := 78) (n := 41) rfl rfl rfl ?_
                have C11 : CT Iq8 t c n := CT_fr (W := wF) (I := jm_u I 96 1 (iI ((a + 1 : Nat) : Int))) (t := t) (c := c) (n := n) C9 (fr_t (fr_r _) rq8) (by unfold wF; omega) (by intro k; unfold wF; omega)
                have hm12 := CT_c C11 (eq8)
                have ho12 := CT_or C11 (eq8)
                by_cases hk13 : c (eq8) = 41
                · skip
                  refine jv_call (pc' := 81) rfl (cl_take_y_q (I := Iq8) (a := eq8) hl C11 aq8 hp (by omega) (x := 41) (by omega) hk13) (fun vq14 gq14 q14 => ?_)
                  obtain ⟨rfl, rfl⟩ := q14
                  show jx L xs _ 89 81 _ [.int (iI 1)] _ _
                  refine jv_if_eq (t := 88) (pc' := 84) (a := 1) rfl rfl rfl (by omega) (fun hz_15 => ?_) (fun hz_15 => ?_)
                  · skip
                    exact absurd hz_15 (by decide)
                  · skip
                    refine jv_iconst (pc' := 85) (n := 1) rfl rfl ?_
                    refine jx_step (pc' := 89) rfl ?_
                    refine jv_retZ rfl rfl (by first | exact Or.inl rfl | exact Or.inr rfl) ⟨_, _, rfl, ?_⟩
                    first
                    | (exfalso; omega)
                    | exact ⟨_, _, rfl, (fr_u (by simp [wF]) (fr_t (fr_u (by simp [wF]) (fr_r _)) rq8)), rfl, ⟨false, tq8⟩, Or.inl ⟨rfl, by omega, by omega, ⟨_, QR_app (QR_1 ⟨by omega, by omega⟩ (QS_b (by assumption) (by omega))) (QR_app Qq8 (QR_1 ⟨by omega, by simp; omega⟩ (QS_e (by assumption))))⟩, false, tq8, VF_b (by omega) (by omega) (by omega) (by assumption) Xq8.1 (by assumption)⟩⟩
                · skip
                  refine jv_call (pc' := 81) rfl (cl_take_n_q (I := Iq8) (a := eq8) hl C11 aq8 hp (by omega) (x := 41) (by omega) hk13) (fun vq16 gq16 q16 => ?_)
                  obtain ⟨rfl, rfl⟩ := q16
                  show jx L xs _ 89 81 _ [.int (iI 0)] _ _
                  refine jv_if_eq (t := 88) (pc' := 84) (a := 0) rfl rfl rfl (by omega) (fun hz_17 => ?_) (fun hz_17 => ?_)
                  · skip
                    refine jv_iconst (pc' := 89) (n := 0) rfl rfl ?_
                    refine jv_retZ rfl rfl (by first | exact Or.inl rfl | exact Or.inr rfl) ⟨_, _, rfl, ?_⟩
                    first
                    | (exfalso; omega)
                    | exact ⟨_, _, rfl, (fr_t (fr_u (by simp [wF]) (fr_r _)) rq8), aq8, ⟨false, tq8⟩, Or.inr ⟨rfl, _, QR_QE (QR_1 ⟨by omega, by omega⟩ (QS_b (by assumption) (by omega))) (QR_QE Qq8 (QE_b ⟨by omega, by simp; omega⟩ ⟨Xq8.2.1, Xq8.2.2, by assumption⟩))⟩⟩
                  · skip
                    exact absurd hz_17 (by decide)
            · skip
              show jx L xs _ 89 69 _ [.int (iI 1)] _ _
              refine jv_if_eq (t := 88) (pc' := 72) (a := 1) rfl rfl rfl (by omega) (fun hz_18 => ?_) (fun hz_18 => ?_)
              · skip
                exact absurd hz_18 (by decide)
              · skip
                refine jv_aload_n (pc' := 73) (k := 0) (x := 95) rfl rfl rfl rfl ?_
                refine jv_getR (pc' := 76) (c := 9) (k := 0) (v := 96) rfl rfl rfl (fun _ _ => rfl) rfl rfl (jR_95_0 _) ?_
                refine jv_bipush (pc' := 78) (n := 41) rfl rfl rfl ?_
                have C19 : CT Iq8 t c n := CT_fr (W := wF) (I := jm_u I 96 1 (iI ((a + 1 : Nat) : Int))) (t := t) (c := c) (n := n) C9 (fr_t (fr_r _) rq8) (by unfold wF; omega) (by intro k; unfold wF; omega)
                have hm20 := CT_c C19 (eq8)
                have ho20 := CT_or C19 (eq8)
                by_cases hk21 : c (eq8) = 41
                · skip
                  refine jv_call (pc' := 81) rfl (cl_take_y_q (I := Iq8) (a := eq8) hl C19 aq8 hp (by omega) (x := 41) (by omega) hk21) (fun vq22 gq22 q22 => ?_)
                  obtain ⟨rfl, rfl⟩ := q22
                  show jx L xs _ 89 81 _ [.int (iI 1)] _ _
                  refine jv_if_eq (t := 88) (pc' := 84) (a := 1) rfl rfl rfl (by omega) (fun hz_23 => ?_) (fun hz_23 => ?_)
                  · skip
                    exact absurd hz_23 (by decide)
                  · skip
                    refine jv_iconst (pc' := 85) (n := 1) rfl rfl ?_
                    refine jx_step (pc' := 89) rfl ?_
                    refine jv_retZ rfl rfl (by first | exact Or.inl rfl | exact Or.inr rfl) ⟨_, _, rfl, ?_⟩
                    first
                    | (exfalso; omega)
                    | exact ⟨_, _, rfl, (fr_u (by simp [wF]) (fr_t (fr_u (by simp [wF]) (fr_r _)) rq8)), rfl, ⟨true, tq8⟩, Or.inl ⟨rfl, by omega, by omega, ⟨_, QR_app (QR_1 ⟨by omega, by omega⟩ (QS_b (by assumption) (by omega))) (QR_app Qq8 (QR_1 ⟨by omega, by simp; omega⟩ (QS_e (by assumption))))⟩, true, tq8, VF_b (by omega) (by omega) (by omega) (by assumption) Xq8.1 (by assumption)⟩⟩
                · skip
                  refine jv_call (pc' := 81) rfl (cl_take_n_q (I := Iq8) (a := eq8) hl C19 aq8 hp (by omega) (x := 41) (by omega) hk21) (fun vq24 gq24 q24 => ?_)
                  obtain ⟨rfl, rfl⟩ := q24
                  show jx L xs _ 89 81 _ [.int (iI 0)] _ _
                  refine jv_if_eq (t := 88) (pc' := 84) (a := 0) rfl rfl rfl (by omega) (fun hz_25 => ?_) (fun hz_25 => ?_)
                  · skip
                    refine jv_iconst (pc' := 89) (n := 0) rfl rfl ?_
                    refine jv_retZ rfl rfl (by first | exact Or.inl rfl | exact Or.inr rfl) ⟨_, _, rfl, ?_⟩
                    first
                    | (exfalso; omega)
                    | exact ⟨_, _, rfl, (fr_t (fr_u (by simp [wF]) (fr_r _)) rq8), aq8, ⟨true, tq8⟩, Or.inr ⟨rfl, _, QR_QE (QR_1 ⟨by omega, by omega⟩ (QS_b (by assumption) (by omega))) (QR_QE Qq8 (QE_b ⟨by omega, by simp; omega⟩ ⟨Xq8.2.1, Xq8.2.2, by assumption⟩))⟩⟩
                  · skip
                    exact absurd hz_25 (by decide)
          · skip
            show jx L xs _ 89 69 _ [.int (iI 0)] _ _
            refine jv_if_eq (t := 88) (pc' := 72) (a := 0) rfl rfl rfl (by omega) (fun hz_26 => ?_) (fun hz_26 => ?_)
            · skip
              refine jv_iconst (pc' := 89) (n := 0) rfl rfl ?_
              refine jv_retZ rfl rfl (by first | exact Or.inl rfl | exact Or.inr rfl) ⟨_, _, rfl, ?_⟩
              first
              | (exfalso; omega)
              | exact ⟨_, _, rfl, (fr_t (fr_u (by simp [wF]) (fr_r _)) rq8), aq8, yq8, Or.inr ⟨rfl, _, QR_QE (QR_1 ⟨by omega, by omega⟩ (QS_b (by assumption) (by omega))) Eq8⟩⟩
            · skip
              exact absurd hz_26 (by decide)
      · skip
        refine jv_call (pc' := 59) rfl (cl_take_n_q (I := I) (a := a) hl hC ha hp (by omega) (x := 40) (by omega) hk5) (fun vq27 gq27 q27 => ?_)
        obtain ⟨rfl, rfl⟩ := q27
        show jx L xs _ 89 59 _ [.int (iI 0)] _ _
        refine jv_if_eq (t := 90) (pc' := 62) (a := 0) rfl rfl rfl (by omega) (fun hz_28 => ?_) (fun hz_28 => ?_)
        · skip
          refine jv_aload_n (pc' := 91) (k := 0) (x := 95) rfl rfl rfl rfl ?_
          refine jv_call (pc' := 94) rfl (cl_readTest (d := d + e) (I := I) (a := a) hl hC ha hp (by omega) hp22 hD hE hc) (fun vq29 gq29 q29 => ?_)
          obtain ⟨Iq29, rfl, rq29, aq29, q29⟩ := q29
          have tb := tA_b hcn (a := a) han
          rcases q29 with ⟨oq29, rfl, tq29⟩ | ⟨oq29, rfl, tq29⟩
          · skip
            show jx L xs _ 89 94 _ [.int (iI 1)] _ _
            refine jv_retZ rfl rfl (by first | exact Or.inl rfl | exact Or.inr rfl) ⟨_, _, rfl, ?_⟩
            first
            | (exfalso; omega)
            | (have ts := oq29.1
               have tl := tA_lt hcn han oq29
               exact ⟨_, _, rfl, (fr_t (fr_r _) rq29), aq29, ⟨_, tq29.trans (jb_ib _)⟩, Or.inl ⟨rfl, by omega, by omega, ⟨_, QR_1 ⟨by omega, by omega⟩ (QS_t (by omega) oq29)⟩, _, tq29.trans (jb_ib _), VF_t hD8 (by omega) oq29⟩⟩)
          · skip
            show jx L xs _ 89 94 _ [.int (iI 0)] _ _
            refine jv_retZ rfl rfl (by first | exact Or.inl rfl | exact Or.inr rfl) ⟨_, _, rfl, ?_⟩
            first
            | (exfalso; omega)
            | (by_cases h8 : c a = 33 ∨ c a = 40
               · have e1 : tA c a = a := if_neg (by omega)
                 rw [e1] at aq29
                 exact ⟨_, _, rfl, (fr_t (fr_r _) rq29), aq29, (htz.elim (fun z hz => ⟨z, tq29.trans hz⟩)), Or.inr ⟨rfl, _, QE_d ⟨by omega, by omega⟩ h8 (by omega)⟩⟩
               · exact ⟨_, _, rfl, (fr_t (fr_r _) rq29), aq29, (htz.elim (fun z hz => ⟨z, tq29.trans hz⟩)), Or.inr ⟨rfl, _, QE_t ⟨by omega, by omega⟩ (by omega) oq29⟩⟩)
        · skip
          exact absurd hz_28 (by decide)
  · skip
    refine jv_aload_n (pc' := 7) (k := 0) (x := 95) rfl rfl rfl rfl ?_
    refine jv_getR (pc' := 10) (c := 9) (k := 0) (v := 96) rfl rfl rfl (fun _ _ => rfl) rfl rfl (jR_95_0 _) ?_
    refine jv_bipush (pc' := 12) (n := 33) rfl rfl rfl ?_
    have hm30 := CT_c hC (a)
    have ho30 := CT_or hC (a)
    by_cases hk31 : c (a) = 33
    · skip
      refine jv_call (pc' := 15) rfl (cl_take_y_q (I := I) (a := a) hl hC ha hp (by omega) (x := 33) (by omega) hk31) (fun vq32 gq32 q32 => ?_)
      obtain ⟨rfl, rfl⟩ := q32
      show jx L xs _ 89 15 _ [.int (iI 1)] _ _
      refine jv_if_eq (t := 44) (pc' := 18) (a := 1) rfl rfl rfl (by omega) (fun hz_33 => ?_) (fun hz_33 => ?_)
      · skip
        exact absurd hz_33 (by decide)
      · skip
        refine jv_aload_n (pc' := 19) (k := 0) (x := 95) rfl rfl rfl rfl ?_
        refine jv_iload_n (pc' := 20) (k := 1) (x := (iI ((D : Nat) : Int))) rfl rfl rfl rfl ?_
        refine jv_iconst (pc' := 21) (n := 1) rfl rfl ?_
        refine jv_iadd (pc' := 22) (a := ((D : Nat) : Int)) (b := 1) rfl rfl ?_
        rw [show ((D : Nat) : Int) + 1 = ((D + 1 : Nat) : Int) by omega]
        have C35 : CT (jm_u I 96 1 (iI ((a + 1 : Nat) : Int))) t c n := CT_fr (W := wF) (I := I) (t := t) (c := c) (n := n) hC (fr_u (by simp [wF]) (fr_r _)) (by unfold wF; omega) (by intro k; unfold wF; omega)
        have Gq34 : DCe (jm_u I 96 1 (iI ((a + 1 : Nat) : Int))) M s := DCe_F hD (fr_u (by simp [wF]) (fr_r _))
        refine jv_call (pc' := 25) rfl (hF (by omega) L xs d j (jm_u I 96 1 (iI ((a + 1 : Nat) : Int))) M p c n (a + 1) t s W sz (false :: k) hl C35 rfl hp (by omega) hp22 Gq34 hE hc htz (by simp [hkl]) trivial) (fun vq34 gq34 q34 => ?_)
        obtain ⟨Iq34, eq34, rfl, rq34, aq34, yq34, q34⟩ := q34
        rcases q34 with ⟨rfl, l1q34, l2q34, ⟨iq34, Qq34⟩, bq34, tq34, Xq34⟩ | ⟨rfl, iq34, Eq34⟩
        · skip
          rcases bq34 with _ | _
          · skip
            show jx L xs _ 89 25 _ [.int (iI 1)] _ _
            refine jv_istore_n (pc' := 26) (k := 2) (x := (iI 1)) rfl rfl rfl rfl (Or.inr rfl) ?_
            refine jv_aload_n (pc' := 27) (k := 0) (x := 95) rfl rfl rfl rfl ?_
            refine jv_aload_n (pc' := 28) (k := 0) (x := 95) rfl rfl rfl rfl ?_
            refine jv_getI (pc' := 31) (c := 9) (k := 5) (v := (iI 0)) rfl rfl rfl (fun _ _ => rfl) rfl rfl tq34 ?_
            refine jv_if_ne (t := 38) (pc' := 34) (a := 0) rfl rfl rfl (by omega) (fun hz_36 => ?_) (fun hz_36 => ?_)
            · skip
              exact absurd hz_36 (by decide)
            · skip
              refine jv_iconst (pc' := 35) (n := 1) rfl rfl ?_
              refine jx_step (pc' := 39) rfl ?_
              refine jv_putZ (pc' := 42) (c := 9) (k := 5) rfl rfl rfl rfl (fun _ _ _ hz => if_pos hz) rfl rfl (by first | exact Or.inl rfl | exact Or.inr rfl) ?_
              refine jv_iload_n (pc' := 43) (k := 2) (x := (iI 1)) rfl rfl rfl rfl ?_
              refine jv_retZ rfl rfl (by first | exact Or.inl rfl | exact Or.inr rfl) ⟨_, _, rfl, ?_⟩
              first
              | (exfalso; omega)
              | exact ⟨_, _, rfl, (fr_u (by simp [wF]) (fr_t (fr_u (by simp [wF]) (fr_r _)) rq34)), aq34, ⟨true, rfl⟩, Or.inl ⟨rfl, by omega, by omega, ⟨_, QR_app (QR_1 ⟨by omega, by omega⟩ (QS_n (by assumption) (by omega))) (QR_app Qq34 (QR_1 ⟨by omega, by simp; omega⟩ QS_m))⟩, true, rfl, VF_n hD8 (by omega) (by assumption) Xq34⟩⟩
          · skip
            show jx L xs _ 89 25 _ [.int (iI 1)] _ _
            refine jv_istore_n (pc' := 26) (k := 2) (x := (iI 1)) rfl rfl rfl rfl (Or.inr rfl) ?_
            refine jv_aload_n (pc' := 27) (k := 0) (x := 95) rfl rfl rfl rfl ?_
            refine jv_aload_n (pc' := 28) (k := 0) (x := 95) rfl rfl rfl rfl ?_
            refine jv_getI (pc' := 31) (c := 9) (k := 5) (v := (iI 1)) rfl rfl rfl (fun _ _ => rfl) rfl rfl tq34 ?_
            refine jv_if_ne (t := 38) (pc' := 34) (a := 1) rfl rfl rfl (by omega) (fun hz_37 => ?_) (fun hz_37 => ?_)
            · skip
              refine jv_iconst (pc' := 39) (n := 0) rfl rfl ?_
              refine jv_putZ (pc' := 42) (c := 9) (k := 5) rfl rfl rfl rfl (fun _ _ _ hz => if_pos hz) rfl rfl (by first | exact Or.inl rfl | exact Or.inr rfl) ?_
              refine jv_iload_n (pc' := 43) (k := 2) (x := (iI 1)) rfl rfl rfl rfl ?_
              refine jv_retZ rfl rfl (by first | exact Or.inl rfl | exact Or.inr rfl) ⟨_, _, rfl, ?_⟩
              first
              | (exfalso; omega)
              | exact ⟨_, _, rfl, (fr_u (by simp [wF]) (fr_t (fr_u (by simp [wF]) (fr_r _)) rq34)), aq34, ⟨false, rfl⟩, Or.inl ⟨rfl, by omega, by omega, ⟨_, QR_app (QR_1 ⟨by omega, by omega⟩ (QS_n (by assumption) (by omega))) (QR_app Qq34 (QR_1 ⟨by omega, by simp; omega⟩ QS_m))⟩, false, rfl, VF_n hD8 (by omega) (by assumption) Xq34⟩⟩
            · skip
              exact absurd hz_37 (by decide)
        · skip
          obtain ⟨zq34, hzq34, czq34⟩ := iI_of (Iq34 95 5)
          show jx L xs _ 89 25 _ [.int (iI 0)] _ _
          refine jv_istore_n (pc' := 26) (k := 2) (x := (iI 0)) rfl rfl rfl rfl (Or.inr rfl) ?_
          refine jv_aload_n (pc' := 27) (k := 0) (x := 95) rfl rfl rfl rfl ?_
          refine jv_aload_n (pc' := 28) (k := 0) (x := 95) rfl rfl rfl rfl ?_
          refine jv_getI (pc' := 31) (c := 9) (k := 5) (v := (iI zq34)) rfl rfl rfl (fun _ _ => rfl) rfl rfl czq34 ?_
          refine jv_if_ne (t := 38) (pc' := 34) (a := zq34) rfl rfl rfl (by omega) (fun hz_38 => ?_) (fun hz_38 => ?_)
          · skip
            refine jv_iconst (pc' := 39) (n := 0) rfl rfl ?_
            refine jv_putZ (pc' := 42) (c := 9) (k := 5) rfl rfl rfl rfl (fun _ _ _ hz => if_pos hz) rfl rfl (by first | exact Or.inl rfl | exact Or.inr rfl) ?_
            refine jv_iload_n (pc' := 43) (k := 2) (x := (iI 0)) rfl rfl rfl rfl ?_
            refine jv_retZ rfl rfl (by first | exact Or.inl rfl | exact Or.inr rfl) ⟨_, _, rfl, ?_⟩
            first
            | (exfalso; omega)
            | exact ⟨_, _, rfl, (fr_u (by simp [wF]) (fr_t (fr_u (by simp [wF]) (fr_r _)) rq34)), aq34, ⟨false, rfl⟩, Or.inr ⟨rfl, _, QR_QE (QR_1 ⟨by omega, by omega⟩ (QS_n (by assumption) (by omega))) Eq34⟩⟩
          · skip
            refine jv_iconst (pc' := 35) (n := 1) rfl rfl ?_
            refine jx_step (pc' := 39) rfl ?_
            refine jv_putZ (pc' := 42) (c := 9) (k := 5) rfl rfl rfl rfl (fun _ _ _ hz => if_pos hz) rfl rfl (by first | exact Or.inl rfl | exact Or.inr rfl) ?_
            refine jv_iload_n (pc' := 43) (k := 2) (x := (iI 0)) rfl rfl rfl rfl ?_
            refine jv_retZ rfl rfl (by first | exact Or.inl rfl | exact Or.inr rfl) ⟨_, _, rfl, ?_⟩
            first
            | (exfalso; omega)
            | exact ⟨_, _, rfl, (fr_u (by simp [wF]) (fr_t (fr_u (by simp [wF]) (fr_r _)) rq34)), aq34, ⟨true, rfl⟩, Or.inr ⟨rfl, _, QR_QE (QR_1 ⟨by omega, by omega⟩ (QS_n (by assumption) (by omega))) Eq34⟩⟩
    · skip
      refine jv_call (pc' := 15) rfl (cl_take_n_q (I := I) (a := a) hl hC ha hp (by omega) (x := 33) (by omega) hk31) (fun vq39 gq39 q39 => ?_)
      obtain ⟨rfl, rfl⟩ := q39
      show jx L xs _ 89 15 _ [.int (iI 0)] _ _
      refine jv_if_eq (t := 44) (pc' := 18) (a := 0) rfl rfl rfl (by omega) (fun hz_40 => ?_) (fun hz_40 => ?_)
      · skip
        refine jv_iload_n (pc' := 45) (k := 1) (x := (iI ((D : Nat) : Int))) rfl rfl rfl rfl ?_
        refine jv_bipush (pc' := 47) (n := 8) rfl rfl rfl ?_
        refine jv_ic_ge (t := 90) (pc' := 50) (a := ((D : Nat) : Int)) (b := 8) rfl rfl rfl (by omega) (fun hz_41 => ?_) (fun hz_41 => ?_)
        · skip
          refine jv_aload_n (pc' := 91) (k := 0) (x := 95) rfl rfl rfl rfl ?_
          refine jv_call (pc' := 94) rfl (cl_readTest (d := d + e) (I := I) (a := a) hl hC ha hp (by omega) hp22 hD hE hc) (fun vq42 gq42 q42 => ?_)
          obtain ⟨Iq42, rfl, rq42, aq42, q42⟩ := q42
          have tb := tA_b hcn (a := a) han
          rcases q42 with ⟨oq42, rfl, tq42⟩ | ⟨oq42, rfl, tq42⟩
          · skip
            show jx L xs _ 89 94 _ [.int (iI 1)] _ _
            refine jv_retZ rfl rfl (by first | exact Or.inl rfl | exact Or.inr rfl) ⟨_, _, rfl, ?_⟩
            first
            | (exfalso; omega)
            | (have ts := oq42.1
               have tl := tA_lt hcn han oq42
               exact ⟨_, _, rfl, (fr_t (fr_r _) rq42), aq42, ⟨_, tq42.trans (jb_ib _)⟩, Or.inl ⟨rfl, by omega, by omega, ⟨_, QR_1 ⟨by omega, by omega⟩ (QS_t (by omega) oq42)⟩, _, tq42.trans (jb_ib _), VF_t hD8 (by omega) oq42⟩⟩)
          · skip
            show jx L xs _ 89 94 _ [.int (iI 0)] _ _
            refine jv_retZ rfl rfl (by first | exact Or.inl rfl | exact Or.inr rfl) ⟨_, _, rfl, ?_⟩
            first
            | (exfalso; omega)
            | (by_cases h8 : c a = 33 ∨ c a = 40
               · have e1 : tA c a = a := if_neg (by omega)
                 rw [e1] at aq42
                 exact ⟨_, _, rfl, (fr_t (fr_r _) rq42), aq42, (htz.elim (fun z hz => ⟨z, tq42.trans hz⟩)), Or.inr ⟨rfl, _, QE_d ⟨by omega, by omega⟩ h8 (by omega)⟩⟩
               · exact ⟨_, _, rfl, (fr_t (fr_r _) rq42), aq42, (htz.elim (fun z hz => ⟨z, tq42.trans hz⟩)), Or.inr ⟨rfl, _, QE_t ⟨by omega, by omega⟩ (by omega) oq42⟩⟩)
        · skip
          refine jv_aload_n (pc' := 51) (k := 0) (x := 95) rfl rfl rfl rfl ?_
          refine jv_getR (pc' := 54) (c := 9) (k := 0) (v := 96) rfl rfl rfl (fun _ _ => rfl) rfl rfl (jR_95_0 _) ?_
          refine jv_bipush (pc' := 56) (n := 40) rfl rfl rfl ?_
          have hm43 := CT_c hC (a)
          have ho43 := CT_or hC (a)
          by_cases hk44 : c (a) = 40
          · skip
            refine jv_call (pc' := 59) rfl (cl_take_y_q (I := I) (a := a) hl hC ha hp (by omega) (x := 40) (by omega) hk44) (fun vq45 gq45 q45 => ?_)
            obtain ⟨rfl, rfl⟩ := q45
            show jx L xs _ 89 59 _ [.int (iI 1)] _ _
            refine jv_if_eq (t := 90) (pc' := 62) (a := 1) rfl rfl rfl (by omega) (fun hz_46 => ?_) (fun hz_46 => ?_)
            · skip
              exact absurd hz_46 (by decide)
            · skip
              refine jv_aload_n (pc' := 63) (k := 0) (x := 95) rfl rfl rfl rfl ?_
              refine jv_iload_n (pc' := 64) (k := 1) (x := (iI ((D : Nat) : Int))) rfl rfl rfl rfl ?_
              refine jv_iconst (pc' := 65) (n := 1) rfl rfl ?_
              refine jv_iadd (pc' := 66) (a := ((D : Nat) : Int)) (b := 1) rfl rfl ?_
              rw [show ((D : Nat) : Int) + 1 = ((D + 1 : Nat) : Int) by omega]
              have C48 : CT (jm_u I 96 1 (iI ((a + 1 : Nat) : Int))) t c n := CT_fr (W := wF) (I := I) (t := t) (c := c) (n := n) hC (fr_u (by simp [wF]) (fr_r _)) (by unfold wF; omega) (by intro k; unfold wF; omega)
              have Gq47 : DCe (jm_u I 96 1 (iI ((a + 1 : Nat) : Int))) M s := DCe_F hD (fr_u (by simp [wF]) (fr_r _))
              refine jv_call (pc' := 69) rfl (hL (by omega) L xs d j (jm_u I 96 1 (iI ((a + 1 : Nat) : Int))) M p c n (a + 1) t s W sz (true :: k) hl C48 rfl hp (by omega) hp22 Gq47 hE hc htz (by simp [hkl]) (Or.inr ⟨k, rfl⟩)) (fun vq47 gq47 q47 => ?_)
              obtain ⟨Iq47, eq47, rfl, rq47, aq47, yq47, q47⟩ := q47
              rcases q47 with ⟨rfl, l1q47, l2q47, ⟨iq47, Qq47⟩, bq47, tq47, Xq47⟩ | ⟨rfl, iq47, Eq47⟩
              · skip
                rcases bq47 with _ | _
                · skip
                  show jx L xs _ 89 69 _ [.int (iI 1)] _ _
                  refine jv_if_eq (t := 88) (pc' := 72) (a := 1) rfl rfl rfl (by omega) (fun hz_49 => ?_) (fun hz_49 => ?_)
                  · skip
                    exact absurd hz_49 (by decide)
                  · skip
                    refine jv_aload_n (pc' := 73) (k := 0) (x := 95) rfl rfl rfl rfl ?_
                    refine jv_getR (pc' := 76) (c := 9) (k := 0) (v := 96) rfl rfl rfl (fun _ _ => rfl) rfl rfl (jR_95_0 _) ?_
                    refine jv_bipush (pc' := 78) (n := 41) rfl rfl rfl ?_
                    have C50 : CT Iq47 t c n := CT_fr (W := wF) (I := jm_u I 96 1 (iI ((a + 1 : Nat) : Int))) (t := t) (c := c) (n := n) C48 (fr_t (fr_r _) rq47) (by unfold wF; omega) (by intro k; unfold wF; omega)
                    have hm51 := CT_c C50 (eq47)
                    have ho51 := CT_or C50 (eq47)
                    by_cases hk52 : c (eq47) = 41
                    · skip
                      refine jv_call (pc' := 81) rfl (cl_take_y_q (I := Iq47) (a := eq47) hl C50 aq47 hp (by omega) (x := 41) (by omega) hk52) (fun vq53 gq53 q53 => ?_)
                      obtain ⟨rfl, rfl⟩ := q53
                      show jx L xs _ 89 81 _ [.int (iI 1)] _ _
                      refine jv_if_eq (t := 88) (pc' := 84) (a := 1) rfl rfl rfl (by omega) (fun hz_54 => ?_) (fun hz_54 => ?_)
                      · skip
                        exact absurd hz_54 (by decide)
                      · skip
                        refine jv_iconst (pc' := 85) (n := 1) rfl rfl ?_
                        refine jx_step (pc' := 89) rfl ?_
                        refine jv_retZ rfl rfl (by first | exact Or.inl rfl | exact Or.inr rfl) ⟨_, _, rfl, ?_⟩
                        first
                        | (exfalso; omega)
                        | exact ⟨_, _, rfl, (fr_u (by simp [wF]) (fr_t (fr_u (by simp [wF]) (fr_r _)) rq47)), rfl, ⟨false, tq47⟩, Or.inl ⟨rfl, by omega, by omega, ⟨_, QR_app (QR_1 ⟨by omega, by omega⟩ (QS_b (by assumption) (by omega))) (QR_app Qq47 (QR_1 ⟨by omega, by simp; omega⟩ (QS_e (by assumption))))⟩, false, tq47, VF_b (by omega) (by omega) (by omega) (by assumption) Xq47.1 (by assumption)⟩⟩
                    · skip
                      refine jv_call (pc' := 81) rfl (cl_take_n_q (I := Iq47) (a := eq47) hl C50 aq47 hp (by omega) (x := 41) (by omega) hk52) (fun vq55 gq55 q55 => ?_)
                      obtain ⟨rfl, rfl⟩ := q55
                      show jx L xs _ 89 81 _ [.int (iI 0)] _ _
                      refine jv_if_eq (t := 88) (pc' := 84) (a := 0) rfl rfl rfl (by omega) (fun hz_56 => ?_) (fun hz_56 => ?_)
                      · skip
                        refine jv_iconst (pc' := 89) (n := 0) rfl rfl ?_
                        refine jv_retZ rfl rfl (by first | exact Or.inl rfl | exact Or.inr rfl) ⟨_, _, rfl, ?_⟩
                        first
                        | (exfalso; omega)
                        | exact ⟨_, _, rfl, (fr_t (fr_u (by simp [wF]) (fr_r _)) rq47), aq47, ⟨false, tq47⟩, Or.inr ⟨rfl, _, QR_QE (QR_1 ⟨by omega, by omega⟩ (QS_b (by assumption) (by omega))) (QR_QE Qq47 (QE_b ⟨by omega, by simp; omega⟩ ⟨Xq47.2.1, Xq47.2.2, by assumption⟩))⟩⟩
                      · skip
                        exact absurd hz_56 (by decide)
                · skip
                  show jx L xs _ 89 69 _ [.int (iI 1)] _ _
                  refine jv_if_eq (t := 88) (pc' := 72) (a := 1) rfl rfl rfl (by omega) (fun hz_57 => ?_) (fun hz_57 => ?_)
                  · skip
                    exact absurd hz_57 (by decide)
                  · skip
                    refine jv_aload_n (pc' := 73) (k := 0) (x := 95) rfl rfl rfl rfl ?_
                    refine jv_getR (pc' := 76) (c := 9) (k := 0) (v := 96) rfl rfl rfl (fun _ _ => rfl) rfl rfl (jR_95_0 _) ?_
                    refine jv_bipush (pc' := 78) (n := 41) rfl rfl rfl ?_
                    have C58 : CT Iq47 t c n := CT_fr (W := wF) (I := jm_u I 96 1 (iI ((a + 1 : Nat) : Int))) (t := t) (c := c) (n := n) C48 (fr_t (fr_r _) rq47) (by unfold wF; omega) (by intro k; unfold wF; omega)
                    have hm59 := CT_c C58 (eq47)
                    have ho59 := CT_or C58 (eq47)
                    by_cases hk60 : c (eq47) = 41
                    · skip
                      refine jv_call (pc' := 81) rfl (cl_take_y_q (I := Iq47) (a := eq47) hl C58 aq47 hp (by omega) (x := 41) (by omega) hk60) (fun vq61 gq61 q61 => ?_)
                      obtain ⟨rfl, rfl⟩ := q61
                      show jx L xs _ 89 81 _ [.int (iI 1)] _ _
                      refine jv_if_eq (t := 88) (pc' := 84) (a := 1) rfl rfl rfl (by omega) (fun hz_62 => ?_) (fun hz_62 => ?_)
                      · skip
                        exact absurd hz_62 (by decide)
                      · skip
                        refine jv_iconst (pc' := 85) (n := 1) rfl rfl ?_
                        refine jx_step (pc' := 89) rfl ?_
                        refine jv_retZ rfl rfl (by first | exact Or.inl rfl | exact Or.inr rfl) ⟨_, _, rfl, ?_⟩
                        first
                        | (exfalso; omega)
                        | exact ⟨_, _, rfl, (fr_u (by simp [wF]) (fr_t (fr_u (by simp [wF]) (fr_r _)) rq47)), rfl, ⟨true, tq47⟩, Or.inl ⟨rfl, by omega, by omega, ⟨_, QR_app (QR_1 ⟨by omega, by omega⟩ (QS_b (by assumption) (by omega))) (QR_app Qq47 (QR_1 ⟨by omega, by simp; omega⟩ (QS_e (by assumption))))⟩, true, tq47, VF_b (by omega) (by omega) (by omega) (by assumption) Xq47.1 (by assumption)⟩⟩
                    · skip
                      refine jv_call (pc' := 81) rfl (cl_take_n_q (I := Iq47) (a := eq47) hl C58 aq47 hp (by omega) (x := 41) (by omega) hk60) (fun vq63 gq63 q63 => ?_)
                      obtain ⟨rfl, rfl⟩ := q63
                      show jx L xs _ 89 81 _ [.int (iI 0)] _ _
                      refine jv_if_eq (t := 88) (pc' := 84) (a := 0) rfl rfl rfl (by omega) (fun hz_64 => ?_) (fun hz_64 => ?_)
                      · skip
                        refine jv_iconst (pc' := 89) (n := 0) rfl rfl ?_
                        refine jv_retZ rfl rfl (by first | exact Or.inl rfl | exact Or.inr rfl) ⟨_, _, rfl, ?_⟩
                        first
                        | (exfalso; omega)
                        | exact ⟨_, _, rfl, (fr_t (fr_u (by simp [wF]) (fr_r _)) rq47), aq47, ⟨true, tq47⟩, Or.inr ⟨rfl, _, QR_QE (QR_1 ⟨by omega, by omega⟩ (QS_b (by assumption) (by omega))) (QR_QE Qq47 (QE_b ⟨by omega, by simp; omega⟩ ⟨Xq47.2.1, Xq47.2.2, by assumption⟩))⟩⟩
                      · skip
                        exact absurd hz_64 (by decide)
              · skip
                show jx L xs _ 89 69 _ [.int (iI 0)] _ _
                refine jv_if_eq (t := 88) (pc' := 72) (a := 0) rfl rfl rfl (by omega) (fun hz_65 => ?_) (fun hz_65 => ?_)
                · skip
                  refine jv_iconst (pc' := 89) (n := 0) rfl rfl ?_
                  refine jv_retZ rfl rfl (by first | exact Or.inl rfl | exact Or.inr rfl) ⟨_, _, rfl, ?_⟩
                  first
                  | (exfalso; omega)
                  | exact ⟨_, _, rfl, (fr_t (fr_u (by simp [wF]) (fr_r _)) rq47), aq47, yq47, Or.inr ⟨rfl, _, QR_QE (QR_1 ⟨by omega, by omega⟩ (QS_b (by assumption) (by omega))) Eq47⟩⟩
                · skip
                  exact absurd hz_65 (by decide)
          · skip
            refine jv_call (pc' := 59) rfl (cl_take_n_q (I := I) (a := a) hl hC ha hp (by omega) (x := 40) (by omega) hk44) (fun vq66 gq66 q66 => ?_)
            obtain ⟨rfl, rfl⟩ := q66
            show jx L xs _ 89 59 _ [.int (iI 0)] _ _
            refine jv_if_eq (t := 90) (pc' := 62) (a := 0) rfl rfl rfl (by omega) (fun hz_67 => ?_) (fun hz_67 => ?_)
            · skip
              refine jv_aload_n (pc' := 91) (k := 0) (x := 95) rfl rfl rfl rfl ?_
              refine jv_call (pc' := 94) rfl (cl_readTest (d := d + e) (I := I) (a := a) hl hC ha hp (by omega) hp22 hD hE hc) (fun vq68 gq68 q68 => ?_)
              obtain ⟨Iq68, rfl, rq68, aq68, q68⟩ := q68
              have tb := tA_b hcn (a := a) han
              rcases q68 with ⟨oq68, rfl, tq68⟩ | ⟨oq68, rfl, tq68⟩
              · skip
                show jx L xs _ 89 94 _ [.int (iI 1)] _ _
                refine jv_retZ rfl rfl (by first | exact Or.inl rfl | exact Or.inr rfl) ⟨_, _, rfl, ?_⟩
                first
                | (exfalso; omega)
                | (have ts := oq68.1
                   have tl := tA_lt hcn han oq68
                   exact ⟨_, _, rfl, (fr_t (fr_r _) rq68), aq68, ⟨_, tq68.trans (jb_ib _)⟩, Or.inl ⟨rfl, by omega, by omega, ⟨_, QR_1 ⟨by omega, by omega⟩ (QS_t (by omega) oq68)⟩, _, tq68.trans (jb_ib _), VF_t hD8 (by omega) oq68⟩⟩)
              · skip
                show jx L xs _ 89 94 _ [.int (iI 0)] _ _
                refine jv_retZ rfl rfl (by first | exact Or.inl rfl | exact Or.inr rfl) ⟨_, _, rfl, ?_⟩
                first
                | (exfalso; omega)
                | (by_cases h8 : c a = 33 ∨ c a = 40
                   · have e1 : tA c a = a := if_neg (by omega)
                     rw [e1] at aq68
                     exact ⟨_, _, rfl, (fr_t (fr_r _) rq68), aq68, (htz.elim (fun z hz => ⟨z, tq68.trans hz⟩)), Or.inr ⟨rfl, _, QE_d ⟨by omega, by omega⟩ h8 (by omega)⟩⟩
                   · exact ⟨_, _, rfl, (fr_t (fr_r _) rq68), aq68, (htz.elim (fun z hz => ⟨z, tq68.trans hz⟩)), Or.inr ⟨rfl, _, QE_t ⟨by omega, by omega⟩ (by omega) oq68⟩⟩)
            · skip
              exact absurd hz_67 (by decide)
      · skip
        exact absurd hz_40 (by decide)
theorem cl_CFall : ∀ h, h ≤ 8 → CFF (8 - h) (3 * h + 4) ∧ CFL (8 - h) (3 * h + 6) := by
  intro h
  induction h with
  | zero =>
    intro _
    have h1 : CFF 8 4 := cl_CFF (D := 8) (e := 0) (by omega) (fun z => absurd z (by omega)) (fun z => absurd z (by omega))
    exact ⟨h1, cl_CFL (D := 8) (e := 4) (by omega) (cl_CFT (D := 8) (e := 3) (by omega) h1)⟩
  | succ h ih =>
    intro hh
    obtain ⟨f1, l1⟩ := ih (by omega)
    have e1 : 8 - h = 8 - (h + 1) + 1 := by omega
    rw [e1] at f1 l1
    have h1 : CFF (8 - (h + 1)) (3 * h + 3 + 4) := cl_CFF (D := 8 - (h + 1)) (e := 3 * h + 3) (by omega) (fun _ => CFX_s (CFX_s f1)) (fun _ => l1)
    exact ⟨h1, cl_CFL (D := 8 - (h + 1)) (e := 3 * h + 3 + 4) (by omega) (cl_CFT (D := 8 - (h + 1)) (e := 3 * h + 3 + 3) (by omega) h1)⟩
theorem cl_CFL0 : CFL 0 30 := (cl_CFall 8 (by omega)).2
