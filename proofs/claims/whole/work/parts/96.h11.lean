/-! printed by wip/whole/gen/h11.py: operations frame, drop -/
theorem jmi13 {f : Nat} (h : f < 12) : jx_mi 13 ((f : Nat) : Int).toNat = some (1 + f) := by
  have : f = 0 ∨ f = 1 ∨ f = 2 ∨ f = 3 ∨ f = 4 ∨ f = 5 ∨ f = 6 ∨ f = 7 ∨ f = 8 ∨ f = 9 ∨ f = 10 ∨ f = 11 := by omega
  rcases this with rfl | rfl | rfl | rfl | rfl | rfl | rfl | rfl | rfl | rfl | rfl | rfl <;> rfl
theorem FL_2 {F : Nat} (h : FL F) : F % 2 = 0 ∧ 14 ≤ F ∧ F ≤ 36 := by
  rcases h with rfl | rfl | rfl | rfl | rfl | rfl | rfl | rfl | rfl | rfl | rfl | rfl <;> decide
/-- the rows of the frames in another order -/
def aRw (A : AB) (s : Nat → Nat) : AB := fun l k => if 113 ≤ l ∧ l ≤ 115 then A l (s k) else if l = 116 then A 116 (40 * s (k / 40) + k % 40) else A l k
def sUp (n c : Nat) : Nat → Nat := fun k => if n < k ∧ k ≤ c then k - 1 else k
def sDn (f n : Nat) : Nat → Nat := fun k => if f ≤ k ∧ k < n then k + 1 else k
def sCa (a b : Nat) : Nat → Nat := fun k => if k = b then a else k
section RW
variable {A B : AB} {s t : Nat → Nat} {a b c f n m k l q : Nat} {x y : Int}
theorem aRw_1 (h : 113 ≤ l ∧ l ≤ 115) : aRw A s l k = A l (s k) := if_pos h
theorem aRw_2 (h : k < 40) : aRw A s 116 (40 * n + k) = A 116 (40 * s n + k) := by
  refine (if_neg (by omega)).trans ((if_pos rfl).trans ?_)
  rw [show (40 * n + k) / 40 = n by omega, show (40 * n + k) % 40 = k by omega]
theorem aRw_3 (h : ¬ (113 ≤ l ∧ l ≤ 116)) : aRw A s l k = A l k := (if_neg (by omega)).trans (if_neg (by omega))
theorem aRw_id (h : ∀ k, s k = k) : aRw A s = A := by
  funext l k
  unfold aRw
  split
  · rw [h]
  · split
    next e => rw [h, e, show 40 * (k / 40) + k % 40 = k by omega]
    · rfl
theorem aRw_c (h : ∀ k, s (t k) = n + 0 * k ∨ True) : aRw (aRw A s) t = aRw A (fun k => s (t k)) := by
  funext l k
  by_cases e : 113 ≤ l ∧ l ≤ 115
  · rw [aRw_1 e, aRw_1 e, aRw_1 e]
  · by_cases e2 : l = 116
    · subst e2
      rw [show k = 40 * (k / 40) + k % 40 by omega, aRw_2 (by omega), aRw_2 (by omega), aRw_2 (by omega)]
    · rw [aRw_3 (by omega), aRw_3 (by omega), aRw_3 (by omega)]
theorem aRw_up0 : aRw A (sUp c c) = A := aRw_id (fun k => if_neg (by omega))
theorem aRw_up (h : n < c) : aRw (aRw A (sUp (n + 1) c)) (sCa n (n + 1)) = aRw A (sUp n c) := by
  rw [aRw_c (n := 0) (fun _ => Or.inr trivial)]
  congr 1
  funext k
  unfold sUp sCa
  by_cases e : k = n + 1
  · rw [if_pos e, if_neg (by omega), if_pos (by omega)]; omega
  · rw [if_neg e]
    by_cases e2 : n + 1 < k ∧ k ≤ c
    · rw [if_pos e2, if_pos (by omega)]
    · rw [if_neg e2, if_neg (by omega)]
theorem aRw_dn0 : aRw A (sDn f f) = A := aRw_id (fun k => if_neg (by omega))
theorem aRw_dn (h : f ≤ n) : aRw (aRw A (sDn f n)) (sCa (n + 1) n) = aRw A (sDn f (n + 1)) := by
  rw [aRw_c (n := 0) (fun _ => Or.inr trivial)]
  congr 1
  funext k
  unfold sDn sCa
  by_cases e : k = n
  · rw [if_pos e, if_neg (by omega), if_pos (by omega)]; omega
  · rw [if_neg e]
    by_cases e2 : f ≤ k ∧ k < n
    · rw [if_pos e2, if_pos (by omega)]
    · rw [if_neg e2, if_neg (by omega)]
/-- row a is carried to row b: the first m bytes -/
def aCk (B : AB) (a b m : Nat) : AB := fun l k => if 113 ≤ l ∧ l ≤ 115 ∧ k = b then B l a else if l = 116 ∧ 40 * b ≤ k ∧ k < 40 * b + m then B 116 (40 * a + (k - 40 * b)) else B l k
theorem aCk_0 : jm_u (jm_u (jm_u B 113 b (B 113 a)) 114 b (B 114 a)) 115 b (B 115 a) = aCk B a b 0 := by
  funext l k
  by_cases e : 113 ≤ l ∧ l ≤ 115 ∧ k = b
  · refine Eq.trans ?_ (if_pos e).symm
    have : l = 113 ∨ l = 114 ∨ l = 115 := by omega
    rcases this with rfl | rfl | rfl
    · exact (jm_u_n2 (by omega)).trans ((jm_u_n2 (by omega)).trans (jm_u_eq ⟨rfl, e.2.2⟩))
    · exact (jm_u_n2 (by omega)).trans (jm_u_eq ⟨rfl, e.2.2⟩)
    · exact jm_u_eq ⟨rfl, e.2.2⟩
  · refine Eq.trans ?_ ((if_neg e).trans (if_neg (by omega))).symm
    exact (jm_u_n2 (by omega)).trans ((jm_u_n2 (by omega)).trans (jm_u_n2 (by omega)))
theorem aCk_s {i : Nat} (hi : i = 40 * b + m) : jm_u (aCk B a b m) 116 i (B 116 (40 * a + m)) = aCk B a b (m + 1) := by
  funext l k
  by_cases e : l = 116 ∧ k = i
  · rw [jm_u_eq e]
    refine Eq.symm ((if_neg (by omega)).trans ((if_pos ⟨e.1, by omega, by omega⟩).trans ?_))
    rw [show k - 40 * b = m by omega]
  · rw [jm_u_n2 e]
    unfold aCk
    by_cases e1 : 113 ≤ l ∧ l ≤ 115 ∧ k = b
    · rw [if_pos e1, if_pos e1]
    · rw [if_neg e1, if_neg e1]
      by_cases e2 : l = 116 ∧ 40 * b ≤ k ∧ k < 40 * b + m
      · rw [if_pos e2, if_pos (by omega)]
      · rw [if_neg e2, if_neg (by omega)]
theorem aCk_r (h : a ≠ b) (hm : m < 40) : aCk B a b m 116 (40 * a + m) = B 116 (40 * a + m) := (if_neg (by omega)).trans (if_neg (by omega))
theorem aCk_40 : aCk B a b 40 = aRw B (sCa a b) := by
  funext l k
  by_cases e : 113 ≤ l ∧ l ≤ 115
  · rw [aRw_1 e]
    unfold sCa
    by_cases e1 : k = b
    · rw [if_pos e1]; exact if_pos ⟨e.1, e.2, e1⟩
    · rw [if_neg e1]; exact (if_neg (by omega)).trans (if_neg (by omega))
  · by_cases e2 : l = 116
    · subst e2
      refine (if_neg (by omega)).trans ?_
      refine Eq.trans ?_ ((if_neg (by omega)).trans (if_pos rfl)).symm
      unfold sCa
      by_cases e1 : k / 40 = b
      · rw [if_pos e1, if_pos (by omega), show 40 * a + (k - 40 * b) = 40 * a + k % 40 by omega]
      · rw [if_neg e1, if_neg (by omega), show 40 * (k / 40) + k % 40 = k by omega]
    · rw [aRw_3 (by omega)]; exact (if_neg (by omega)).trans (if_neg (by omega))
/-- m characters of the draft in row q of the bytes -/
def aBy (B A : AB) (q m : Nat) : AB := fun l k => if l = 116 ∧ 40 * q ≤ k ∧ k < 40 * q + m then A 104 (k - 40 * q) else B l k
theorem aBy_s {i : Nat} (hi : i = 40 * q + m) : jm_u (aBy B A q m) 116 i (A 104 m) = aBy B A q (m + 1) := by
  funext l k
  by_cases e : l = 116 ∧ k = i
  · rw [jm_u_eq e]
    refine Eq.symm ((if_pos ⟨e.1, by omega, by omega⟩).trans ?_)
    rw [show k - 40 * q = m by omega]
  · rw [jm_u_n2 e]
    unfold aBy
    by_cases e2 : l = 116 ∧ 40 * q ≤ k ∧ k < 40 * q + m
    · rw [if_pos e2, if_pos (by omega)]
    · rw [if_neg e2, if_neg (by omega)]
theorem aBy_0 : aBy B A q 0 = B := by
  funext l k
  exact if_neg (by omega)
/-- a frame is put at q -/
def aI0 (A : AB) (q c : Nat) (x y : Int) : AB := jm_u (jm_u (jm_u (aRw A (sUp q c)) 113 q x) 114 q y) 115 q (A 103 2)
def aIn (A : AB) (q c : Nat) (x y : Int) : AB := jm_u (jm_u (jm_u (aBy (aI0 A q c x y) A q (aN A)) 103 12 ((c + 1 : Nat) : Int)) 103 2 0) 103 44 0
theorem aIn_b : l ≠ 103 → aIn A q c x y l k = aBy (aI0 A q c x y) A q (aN A) l k := fun h => (jm_u_n2 (by omega)).trans ((jm_u_n2 (by omega)).trans (jm_u_n2 (by omega)))
theorem aIn_1 : aIn A q c x y 113 q = x := (aIn_b (by omega)).trans ((if_neg (by omega)).trans ((jm_u_n2 (by omega)).trans ((jm_u_n2 (by omega)).trans (jm_u_eq ⟨rfl, rfl⟩))))
theorem aIn_2 : aIn A q c x y 114 q = y := (aIn_b (by omega)).trans ((if_neg (by omega)).trans ((jm_u_n2 (by omega)).trans (jm_u_eq ⟨rfl, rfl⟩)))
theorem aIn_3 : aIn A q c x y 115 q = A 103 2 := (aIn_b (by omega)).trans ((if_neg (by omega)).trans (jm_u_eq ⟨rfl, rfl⟩))
theorem aIn_4 (h : k < aN A) : aIn A q c x y 116 (40 * q + k) = A 104 k := (aIn_b (by omega)).trans ((if_pos ⟨rfl, by omega, by omega⟩).trans (by rw [Nat.add_sub_cancel_left]))
theorem aIn_5 (h : k ≠ q) (hl : 113 ≤ l ∧ l ≤ 115) : aIn A q c x y l k = A l (sUp q c k) := (aIn_b (by omega)).trans ((if_neg (by omega)).trans ((jm_u_n2 (by omega)).trans ((jm_u_n2 (by omega)).trans ((jm_u_n2 (by omega)).trans (aRw_1 hl)))))
theorem aIn_6 (h : n ≠ q) (hk : k < 40) (hN : aN A ≤ 40) : aIn A q c x y 116 (40 * n + k) = A 116 (40 * sUp q c n + k) := (aIn_b (by omega)).trans ((if_neg (by omega)).trans ((jm_u_n2 (by omega)).trans ((jm_u_n2 (by omega)).trans ((jm_u_n2 (by omega)).trans (aRw_2 hk)))))
theorem aIn_7 (h : ¬ ((l = 103 ∧ (k = 2 ∨ k = 12 ∨ k = 44)) ∨ (113 ≤ l ∧ l ≤ 116))) : aIn A q c x y l k = A l k := (jm_u_n2 (by omega)).trans ((jm_u_n2 (by omega)).trans ((jm_u_n2 (by omega)).trans ((if_neg (by omega)).trans ((jm_u_n2 (by omega)).trans ((jm_u_n2 (by omega)).trans ((jm_u_n2 (by omega)).trans (aRw_3 (by omega))))))))
/-- frame f is taken out; m frames stay -/
def aDr (A : AB) (f m : Nat) : AB := jm_u (aRw (jm_u A 103 12 ((m : Nat) : Int)) (sDn f m)) 103 44 0
theorem aDr_1 (hl : 113 ≤ l ∧ l ≤ 115) : aDr A f m l k = A l (sDn f m k) := (jm_u_n2 (by omega)).trans ((aRw_1 hl).trans (jm_u_n2 (by omega)))
theorem aDr_2 (hk : k < 40) : aDr A f m 116 (40 * n + k) = A 116 (40 * sDn f m n + k) := (jm_u_n2 (by omega)).trans ((aRw_2 hk).trans (jm_u_n2 (by omega)))
theorem aDr_3 (h : ¬ ((l = 103 ∧ (k = 12 ∨ k = 44)) ∨ (113 ≤ l ∧ l ≤ 116))) : aDr A f m l k = A l k := (jm_u_n2 (by omega)).trans ((aRw_3 (by omega)).trans (jm_u_n2 (by omega)))
end RW
/-- where a frame of time y is put among c -/
def FQ (A : AB) (c : Nat) (y : Int) (q : Nat) : Prop := q ≤ c ∧ (∀ k, q ≤ k → k < c → y < A 114 k) ∧ (∀ k, q = k + 1 → A 114 k ≤ y)
def RWO (A A' : AB) (g u : Nat) : Prop := (u : Int) < A 103 12 ∧ A' 113 g = A 113 u ∧ A' 114 g = A 114 u ∧ A' 115 g = A 115 u ∧ ∀ k, k < 40 → A' 116 (40 * g + k) = A 116 (40 * u + k)
def RWN (I' : Nat → Nat → Int32) (p : Nat → Option Nat) (A' : AB) (g u : Nat) : Prop := ∃ F, p (1 + u) = some F ∧ ((0 ≤ A' 113 g ∧ A' 113 g < 2) ∧ (0 ≤ A' 114 g ∧ A' 114 g < 2147483648) ∧ (1 ≤ A' 115 g ∧ A' 115 g ≤ 40) ∧ ∀ k : Nat, (k : Int) < A' 115 g → 0 ≤ A' 116 (40 * g + k) ∧ A' 116 (40 * g + k) < 256) ∧ I' F 1 = iI (A' 115 g) ∧ I' F 2 = iI (A' 113 g) ∧ I' F 3 = iI (A' 114 g) ∧ ∀ k : Nat, (k : Int) < A' 115 g → I' (F + 1) k = iI (A' 116 (40 * g + k))
theorem CR_frs {W : Nat → Nat → Prop} {I I' : Nat → Nat → Int32} {M : Nat → Nat → Int64} {p p' : Nat → Option Nat} {A A' : AB} {s : Nat → Nat} (h : CR I M p A) (f : fr W I I') (hW1 : ∀ l k, W l k → wG l k ∨ (l = 0 ∧ k = 10) ∨ (l = 1 ∧ k = 1) ∨ (14 ≤ l ∧ l ≤ 37)) (hW2 : ∀ (g F k : Nat), (g : Int) < A 103 12 → p (1 + g) = some F → ¬ W F k ∧ ¬ W (F + 1) k) (g1 : I' 98 2 = iI 0) (g2 : ∀ f, f < 12 → I' 100 f = iI (-1)) (g3 : I' 0 12 = iI (-1)) (g4 : I' 0 10 = iI (A' 103 12)) (hs1 : ∀ i, i < 12 → s i < 12) (hs2 : ∀ i i', i < 12 → i' < 12 → s i = s i' → i = i') (hp1 : ∀ i, i < 12 → p' (1 + i) = p (1 + s i)) (hp2 : ∀ i, i = 0 ∨ 13 ≤ i → p' i = p i) (h12 : 0 ≤ A' 103 12 ∧ A' 103 12 ≤ 12) (hrow : ∀ g : Nat, (g : Int) < A' 103 12 → RWO A A' g (s g) ∨ RWN I' p A' g (s g)) (hA : ∀ l k, ¬ ((l = 103 ∧ (k = 2 ∨ k = 12 ∨ k = 44)) ∨ (113 ≤ l ∧ l ≤ 116)) → A' l k = A l k) (h44 : A' 103 44 = 0) (hd : (A' 103 2 = A 103 2 ∧ I' 1 1 = I 1 1) ∨ (A' 103 2 = 0 ∧ I' 1 1 = iI 0)) : CR I' M p' A' := by
  obtain ⟨hv, d1, ⟨Tl, S, σ, d2, d3, d4⟩, d5, d8, d6, d9, d7⟩ := h
  have hv5 := hv.2.2.2.2
  have hc12 := hv5.2.2.1
  have nW : ∀ l k, ¬ (wG l k ∨ (l = 0 ∧ k = 10) ∨ (l = 1 ∧ k = 1) ∨ (14 ≤ l ∧ l ≤ 37)) → ¬ W l k := fun l k q e => q (hW1 l k e)
  have k5 : AV5 A' := by
    refine ⟨fun i hi => by rw [hA 109 i (by omega)]; exact hv5.1 i hi, by rw [hA 103 11 (by omega)]; exact hv5.2.1, h12, fun g hg => ?_⟩
    rcases hrow g hg with ⟨q0, q1, q2, q3, q4⟩ | ⟨F, _, q, _⟩
    · obtain ⟨a1, a2, a3, a4⟩ := hv5.2.2.2 _ q0
      refine ⟨by rw [q1]; exact a1, by rw [q2]; exact a2, by rw [q3]; exact a3, fun k hk => ?_⟩
      rw [q4 k (by omega)]; exact a4 k (by omega)
    · exact q
  have k1 : RFr I' p' A' (fun i => σ (s i)) := by
    refine ⟨fun i hi => ⟨(hp1 i hi).trans (d3.1 _ (hs1 i hi)).1, (d3.1 _ (hs1 i hi)).2⟩, fun i i' hi hi' he => hs2 i i' hi hi' (d3.2.1 _ _ (hs1 i hi) (hs1 i' hi') he), fun g hg => ?_⟩
    have hg12 : g < 12 := by omega
    have hpg := (d3.1 _ (hs1 g hg12)).1
    rcases hrow g hg with ⟨q0, q1, q2, q3, q4⟩ | ⟨F, e, q, a1, a2, a3, a4⟩
    · obtain ⟨a1, a2, a3, a4⟩ := d3.2.2 _ q0
      have a0 := (hv5.2.2.2 _ q0).2.2.1
      have hw := fun k => hW2 _ _ k q0 hpg
      exact ⟨(f _ _ (hw _).1).trans (by rw [q3]; exact a1), (f _ _ (hw _).1).trans (by rw [q1]; exact a2), (f _ _ (hw _).1).trans (by rw [q2]; exact a3), fun k hk => (f _ _ (hw _).2).trans (by rw [q4 k (by omega)]; exact a4 k (by omega))⟩
    · obtain rfl : σ (s g) = F := Option.some.inj (hpg.symm.trans e)
      exact ⟨a1, a2, a3, a4⟩
  have e104 : ∀ k, A' 104 k = A 104 k := fun k => hA 104 k (by omega)
  have k2 : AV1 A' ∧ RDr I' A' := by
    rcases hd with ⟨q1, q2⟩ | ⟨q1, q2⟩
    · have e1 : aC A' = aC A := by funext k; unfold aC; rw [q1, e104]
      have e2 : aN A' = aN A := congrArg Int.toNat q1
      refine ⟨⟨by rw [q1]; exact hv.1.1, fun k hk => by rw [e104]; exact hv.1.2 k (by omega)⟩, ?_⟩
      have d1' : CT I 1 (aC A) (aN A) := d1
      show CT I' 1 (aC A') (aN A')
      rw [e1, e2]
      exact ⟨q2.trans d1'.1, d1'.2.1, fun k hk => (f _ _ (nW _ _ (by unfold wG; omega))).trans (d1'.2.2.1 k hk), d1'.2.2.2⟩
    · have e2 : aN A' = 0 := congrArg Int.toNat q1
      refine ⟨⟨by omega, fun k hk => absurd hk (by omega)⟩, ?_⟩
      show CT I' 1 (aC A') (aN A')
      rw [e2]
      exact ⟨q2, Nat.zero_le _, fun k hk => absurd hk (Nat.not_lt_zero _), fun k hk => absurd hk (Nat.not_lt_zero _), fun k _ => if_neg (by omega)⟩
  have k3 : RTa I' M A' := RTa_0 g1 g2 h44
  have k4 : RDe I' M A' Tl := RDe_f d4 f (fr_r (W := fun _ _ => False) M) ⟨nW _ _ (by unfold wG; omega), nW _ _ (by unfold wG; omega), nW _ _ (by unfold wG; omega), nW _ _ (by unfold wG; omega), by intro k; exact nW _ _ (by unfold wG; omega)⟩ (fun _ h => h) g3
  have k6 : RSc I' A' := ⟨g4, (f _ _ (nW _ _ (by unfold wG; omega))).trans (by rw [hA 103 11 (by omega)]; exact d8.2.1), fun i hi => (f _ _ (nW _ _ (by unfold wG; omega))).trans (by rw [hA 109 i (by omega)]; exact d8.2.2 i hi)⟩
  have gg := (⟨k1, k2, k3, k4, k5, k6⟩ : _ ∧ _ ∧ _ ∧ _ ∧ _ ∧ _)
  have eA : A' = fun i k => if (i = 103 ∧ (k = 2 ∨ k = 12 ∨ k = 44)) ∨ (113 ≤ i ∧ i ≤ 116) then A' i k else A i k := by
    funext i k
    split
    · rfl
    next q => exact hA _ _ q
  rw [eA] at gg ⊢
  obtain ⟨k1, k2, k3, k4, k5, k6⟩ := gg
  exact ⟨⟨k2.1, hv.2.1, hv.2.2.1, hv.2.2.2.1, k5⟩, k2.2, ⟨Tl, S, _, RLy_w d2 f (fun i hi => hp2 i (by omega)) (by intro T i k h1 h2; exact nW _ _ (by unfold wG; omega)), k1, k4⟩, RFo_w d5 f (by intro T i k h1 h2; exact nW _ _ (by unfold wG; omega)), k6, RFi_w d6 f (by intro l k h1 h2; exact nW _ _ (by unfold wG; omega)), k3, RJo_w d7 f (by intro k; exact nW _ _ (by unfold wG; omega))⟩
theorem CM_ck {I : Nat → Nat → Int32} {M : Nat → Nat → Int64} {B : AB} {a b m i : Nat} (h : CM I M (aCk B a b m)) (hi : i = 40 * b + m) : CM (jm_u I 116 i (iI (B 116 (40 * a + m)))) M (aCk B a b (m + 1)) := by
  rw [← aCk_s hi]; exact CM_u h (by omega)
theorem CM_by {I : Nat → Nat → Int32} {M : Nat → Nat → Int64} {A B : AB} {q m i : Nat} (h : CM I M (aBy B A q m)) (hi : i = 40 * q + m) : CM (jm_u I 116 i (iI (A 104 m))) M (aBy B A q (m + 1)) := by
  rw [← aBy_s hi]; exact CM_u h (by omega)
section H11
variable {L : Nat} {xs : Nat → Int32} {d j : Nat} {I : Nat → Nat → Int32} {M : Nat → Nat → Int64} {p : Nat → Option Nat}
variable {A B : AB} {x y : Int} {q a b c fd n m F : Nat} {ch : Nat → Int}
theorem ml_carry (hM : CM I M B) (ha : a < 12) (hb : b < 12) (hab : a ≠ b) : jc L xs d 131 [.ref 103, .int (iI ((a : Nat) : Int)), .int (iI ((b : Nat) : Int))] (jx_G j I M p) (fun v g1 => ∃ I', g1 = jx_G j I' M p ∧ v = none ∧ fr (fun l _ => 113 ≤ l ∧ l ≤ 116) I I' ∧ CM I' M (aRw B (sCa a b))) := by
  unfold jc
  refine jv_aload_n (pc' := 1) (k := 0) (x := 103) rfl rfl rfl rfl ?_
  refine jv_getR (pc' := 4) (c := 12) (k := 13) (v := 113) rfl rfl rfl (fun _ _ => rfl) rfl rfl (jR_103_13 _) ?_
  refine jv_iload_n (pc' := 5) (k := 2) (x := (iI ((b : Nat) : Int))) rfl rfl rfl rfl ?_
  refine jv_aload_n (pc' := 6) (k := 0) (x := 103) rfl rfl rfl rfl ?_
  refine jv_getR (pc' := 9) (c := 12) (k := 13) (v := 113) rfl rfl rfl (fun _ _ => rfl) rfl rfl (jR_103_13 _) ?_
  refine jv_iload_n (pc' := 10) (k := 1) (x := (iI ((a : Nat) : Int))) rfl rfl rfl rfl ?_
  refine jv_iaload (pc' := 11) (n := 12) (e := ((a : Nat) : Int)) (v := (iI (B 113 a))) rfl rfl (by decide) rfl rfl rfl (by omega) ((CM_r hM (l := 113) (k := a) (by simp [pers]) (by omega)).trans rfl) ?_
  refine jv_iastore (pc' := 12) (n := 12) (e := ((b : Nat) : Int)) (v := (iI (B 113 a))) rfl rfl rfl rfl rfl (by omega) ?_
  refine jv_aload_n (pc' := 13) (k := 0) (x := 103) rfl rfl rfl rfl ?_
  refine jv_getR (pc' := 16) (c := 12) (k := 14) (v := 114) rfl rfl rfl (fun _ _ => rfl) rfl rfl (jR_103_14 _) ?_
  refine jv_iload_n (pc' := 17) (k := 2) (x := (iI ((b : Nat) : Int))) rfl rfl rfl rfl ?_
  refine jv_aload_n (pc' := 18) (k := 0) (x := 103) rfl rfl rfl rfl ?_
  refine jv_getR (pc' := 21) (c := 12) (k := 14) (v := 114) rfl rfl rfl (fun _ _ => rfl) rfl rfl (jR_103_14 _) ?_
  refine jv_iload_n (pc' := 22) (k := 1) (x := (iI ((a : Nat) : Int))) rfl rfl rfl rfl ?_
  refine jv_iaload (pc' := 23) (n := 12) (e := ((a : Nat) : Int)) (v := (iI (B 114 a))) rfl rfl (by decide) rfl rfl rfl (by omega) ((CM_r (CM_ui hM (l := 113) (k := b) (z := B 113 a) (by omega) (by omega)) (l := 114) (k := a) (by simp [pers]) (by omega)).trans rfl) ?_
  refine jv_iastore (pc' := 24) (n := 12) (e := ((b : Nat) : Int)) (v := (iI (B 114 a))) rfl rfl rfl rfl rfl (by omega) ?_
  refine jv_aload_n (pc' := 25) (k := 0) (x := 103) rfl rfl rfl rfl ?_
  refine jv_getR (pc' := 28) (c := 12) (k := 15) (v := 115) rfl rfl rfl (fun _ _ => rfl) rfl rfl (jR_103_15 _) ?_
  refine jv_iload_n (pc' := 29) (k := 2) (x := (iI ((b : Nat) : Int))) rfl rfl rfl rfl ?_
  refine jv_aload_n (pc' := 30) (k := 0) (x := 103) rfl rfl rfl rfl ?_
  refine jv_getR (pc' := 33) (c := 12) (k := 15) (v := 115) rfl rfl rfl (fun _ _ => rfl) rfl rfl (jR_103_15 _) ?_
  refine jv_iload_n (pc' := 34) (k := 1) (x := (iI ((a : Nat) : Int))) rfl rfl rfl rfl ?_
  refine jv_iaload (pc' := 35) (n := 12) (e := ((a : Nat) : Int)) (v := (iI (B 115 a))) rfl rfl (by decide) rfl rfl rfl (by omega) ((CM_r (CM_ui (CM_ui hM (l := 113) (k := b) (z := B 113 a) (by omega) (by omega)) (l := 114) (k := b) (z := B 114 a) (by omega) (by omega)) (l := 115) (k := a) (by simp [pers]) (by omega)).trans rfl) ?_
  refine jv_iastore (pc' := 36) (n := 12) (e := ((b : Nat) : Int)) (v := (iI (B 115 a))) rfl rfl rfl rfl rfl (by omega) ?_
  refine jv_iconst (pc' := 37) (n := 0) rfl rfl ?_
  refine jv_istore_n (pc' := 38) (k := 3) (x := (iI 0)) rfl rfl rfl rfl (Or.inr rfl) ?_
  have H1 : ∀ (N : Nat) (k : Nat) (I4 : Nat → Nat → Int32), 40 - k < N → (k ≤ 40) → (fr (fun l _ => 113 ≤ l ∧ l ≤ 116) I I4) → (CM I4 M (aCk B a b k)) → ∀ f : jm_F, f 0 = some (.ref 103) → f 1 = some (.int (iI ((a : Nat) : Int))) → f 2 = some (.int (iI ((b : Nat) : Int))) → f 3 = some (.int (iI ((k : Nat) : Int))) → jx L xs (d) 131 38 f [] (jx_G j I4 M p) (fun z => ∃ v g1, z = (.inl v, g1) ∧ (fun v g1 => ∃ I', g1 = jx_G j I' M p ∧ v = none ∧ fr (fun l _ => 113 ≤ l ∧ l ≤ 116) I I' ∧ CM I' M (aRw B (sCa a b))) v g1) := by
    intro N
    induction N with
    | zero => intro k I4 hN; exact absurd hN (Nat.not_lt_zero _)
    | succ N ih =>
      intro k I4 hN hk hf hC f hf0 hf1 hf2 hf3 
      refine jv_iload_n (pc' := 39) (k := 3) (x := (iI ((k : Nat) : Int))) rfl rfl rfl hf3 ?_
      refine jv_bipush (pc' := 41) (n := 40) rfl rfl rfl ?_
      refine jv_ic_ge (t := 72) (pc' := 44) (a := ((k : Nat) : Int)) (b := 40) rfl rfl rfl (by omega) (fun hz_2 => ?_) (fun hz_2 => ?_)
      · skip
        refine jv_retV rfl rfl ⟨_, _, rfl, ?_⟩
        have ek : k = 40 := by omega
        subst ek
        exact ⟨_, rfl, rfl, hf, by rw [← aCk_40]; exact hC⟩
      · skip
        refine jv_aload_n (pc' := 45) (k := 0) (x := 103) rfl rfl rfl hf0 ?_
        refine jv_getR (pc' := 48) (c := 12) (k := 16) (v := 116) rfl rfl rfl (fun _ _ => rfl) rfl rfl (jR_103_16 _) ?_
        refine jv_bipush (pc' := 50) (n := 40) rfl rfl rfl ?_
        refine jv_iload_n (pc' := 51) (k := 2) (x := (iI ((b : Nat) : Int))) rfl rfl rfl hf2 ?_
        refine jv_imul (pc' := 52) (a := 40) (b := ((b : Nat) : Int)) rfl rfl ?_
        refine jv_iload_n (pc' := 53) (k := 3) (x := (iI ((k : Nat) : Int))) rfl rfl rfl hf3 ?_
        refine jv_iadd (pc' := 54) (a := (40 * ((b : Nat) : Int))) (b := ((k : Nat) : Int)) rfl rfl ?_
        refine jv_aload_n (pc' := 55) (k := 0) (x := 103) rfl rfl rfl hf0 ?_
        refine jv_getR (pc' := 58) (c := 12) (k := 16) (v := 116) rfl rfl rfl (fun _ _ => rfl) rfl rfl (jR_103_16 _) ?_
        refine jv_bipush (pc' := 60) (n := 40) rfl rfl rfl ?_
        refine jv_iload_n (pc' := 61) (k := 1) (x := (iI ((a : Nat) : Int))) rfl rfl rfl hf1 ?_
        refine jv_imul (pc' := 62) (a := 40) (b := ((a : Nat) : Int)) rfl rfl ?_
        refine jv_iload_n (pc' := 63) (k := 3) (x := (iI ((k : Nat) : Int))) rfl rfl rfl hf3 ?_
        refine jv_iadd (pc' := 64) (a := (40 * ((a : Nat) : Int))) (b := ((k : Nat) : Int)) rfl rfl ?_
        refine jv_iaload (pc' := 65) (n := 480) (e := ((40 * ((a : Nat) : Int)) + ((k : Nat) : Int))) (v := (iI (B 116 (40 * a + k)))) rfl rfl (by decide) rfl rfl rfl (by omega) ((CM_r hC (l := 116) (k := 40 * a + k) (by simp [pers]) (by omega)).trans (congrArg iI (aCk_r hab (by omega)))) ?_
        refine jv_iastore (pc' := 66) (n := 480) (e := ((40 * ((b : Nat) : Int)) + ((k : Nat) : Int))) (v := (iI (B 116 (40 * a + k)))) rfl rfl rfl rfl rfl (by omega) ?_
        refine jv_iinc (pc' := 69) (k := 3) (a := ((k : Nat) : Int)) rfl rfl hf3 rfl (Or.inr (congrArg jm_lng hf2)) ?_
        refine jx_step (pc' := 38) rfl ?_
        exact ih (k + 1) (jm_u I4 116 ((40 * ((b : Nat) : Int)) + ((k : Nat) : Int) : Int).toNat (iI (B 116 (40 * a + k)))) (by omega) (by omega) (fr_t hf (fr_u (by omega) (fr_r _))) (CM_ck hC (by omega)) _ hf0 hf1 hf2 rfl 
  exact H1 _ 0 (jm_u (jm_u (jm_u I 113 (((b : Nat) : Int) : Int).toNat (iI (B 113 a))) 114 (((b : Nat) : Int) : Int).toNat (iI (B 114 a))) 115 (((b : Nat) : Int) : Int).toNat (iI (B 115 a))) (Nat.lt_succ_self _) (by omega) (fr_u (by omega) (fr_u (by omega) (fr_u (by omega) (fr_r _)))) (by rw [← aCk_0]; exact (CM_ui (CM_ui (CM_ui hM (l := 113) (k := b) (z := B 113 a) (by omega) (by omega)) (l := 114) (k := b) (z := B 114 a) (by omega) (by omega)) (l := 115) (k := b) (z := B 115 a) (by omega) (by omega))) _ rfl rfl rfl rfl 
theorem op_frame_b1 (hM : CM I M A) (hA : AV1 A) (hc : A 103 12 = ((c : Nat) : Int)) (hc12 : c ≤ 12) (hx : iR x) (hy : iR y) (hbad : ¬ ((0 ≤ x ∧ x < 2) ∧ 0 ≤ y)) : jc L xs (d + 1) 132 [.ref 103, .int (iI x), .int (iI y)] (jx_G j I M p) (fun v g1 => ∃ I', g1 = jx_G j I' M p ∧ fr mW I I' ∧ CM I' M A ∧ I' 103 0 = iI 1) := by
  unfold jc
  have hv1 := hA.1
  have hNa : ((aN A : Nat) : Int) = A 103 2 := by unfold aN; omega
  refine jv_aload_n (pc' := 1) (k := 0) (x := 103) rfl rfl rfl rfl ?_
  refine jv_iload_n (pc' := 2) (k := 1) (x := (iI x)) rfl rfl rfl rfl ?_
  refine jv_if_lt (t := 14) (pc' := 5) (a := x) rfl rfl rfl (by omega) (fun hz_1 => ?_) (fun hz_1 => ?_)
  · skip
    refine jv_iconst (pc' := 15) (n := 1) rfl rfl ?_
    refine jx_step (pc' := 48) rfl ?_
    refine jv_putI (pc' := 51) (c := 12) (k := 0) rfl rfl rfl rfl (fun _ _ _  => rfl) rfl rfl ?_
    refine jv_aload_n (pc' := 52) (k := 0) (x := 103) rfl rfl rfl rfl ?_
    refine jv_getI (pc' := 55) (c := 12) (k := 0) (v := (iI 1)) rfl rfl rfl (fun _ _ => rfl) rfl rfl rfl ?_
    refine jv_if_le (t := 60) (pc' := 58) (a := 1) rfl rfl rfl (by omega) (fun hz_2 => ?_) (fun hz_2 => ?_)
    · skip
      exact absurd hz_2 (by decide)
    · skip
      refine jv_iconst (pc' := 59) (n := 0) rfl rfl ?_
      refine jv_retI rfl rfl ⟨_, _, rfl, ?_⟩
      first
      | (exfalso; omega)
      | exact ⟨_, rfl, (fr_u (by simp [mW]) (fr_r _)), CM_n hM (by simp [pers]), rfl⟩
  · skip
    refine jv_iload_n (pc' := 6) (k := 1) (x := (iI x)) rfl rfl rfl rfl ?_
    refine jv_iconst (pc' := 7) (n := 1) rfl rfl ?_
    refine jv_ic_gt (t := 14) (pc' := 10) (a := x) (b := 1) rfl rfl rfl (by omega) (fun hz_3 => ?_) (fun hz_3 => ?_)
    · skip
      refine jv_iconst (pc' := 15) (n := 1) rfl rfl ?_
      refine jx_step (pc' := 48) rfl ?_
      refine jv_putI (pc' := 51) (c := 12) (k := 0) rfl rfl rfl rfl (fun _ _ _  => rfl) rfl rfl ?_
      refine jv_aload_n (pc' := 52) (k := 0) (x := 103) rfl rfl rfl rfl ?_
      refine jv_getI (pc' := 55) (c := 12) (k := 0) (v := (iI 1)) rfl rfl rfl (fun _ _ => rfl) rfl rfl rfl ?_
      refine jv_if_le (t := 60) (pc' := 58) (a := 1) rfl rfl rfl (by omega) (fun hz_4 => ?_) (fun hz_4 => ?_)
      · skip
        exact absurd hz_4 (by decide)
      · skip
        refine jv_iconst (pc' := 59) (n := 0) rfl rfl ?_
        refine jv_retI rfl rfl ⟨_, _, rfl, ?_⟩
        first
        | (exfalso; omega)
        | exact ⟨_, rfl, (fr_u (by simp [mW]) (fr_r _)), CM_n hM (by simp [pers]), rfl⟩
    · skip
      refine jv_iload_n (pc' := 11) (k := 2) (x := (iI y)) rfl rfl rfl rfl ?_
      refine jv_if_ge (t := 18) (pc' := 14) (a := y) rfl rfl rfl (by omega) (fun hz_5 => ?_) (fun hz_5 => ?_)
      · skip
        exfalso; omega
      · skip
        refine jv_iconst (pc' := 15) (n := 1) rfl rfl ?_
        refine jx_step (pc' := 48) rfl ?_
        refine jv_putI (pc' := 51) (c := 12) (k := 0) rfl rfl rfl rfl (fun _ _ _  => rfl) rfl rfl ?_
        refine jv_aload_n (pc' := 52) (k := 0) (x := 103) rfl rfl rfl rfl ?_
        refine jv_getI (pc' := 55) (c := 12) (k := 0) (v := (iI 1)) rfl rfl rfl (fun _ _ => rfl) rfl rfl rfl ?_
        refine jv_if_le (t := 60) (pc' := 58) (a := 1) rfl rfl rfl (by omega) (fun hz_6 => ?_) (fun hz_6 => ?_)
        · skip
          exact absurd hz_6 (by decide)
        · skip
          refine jv_iconst (pc' := 59) (n := 0) rfl rfl ?_
          refine jv_retI rfl rfl ⟨_, _, rfl, ?_⟩
          first
          | (exfalso; omega)
          | exact ⟨_, rfl, (fr_u (by simp [mW]) (fr_r _)), CM_n hM (by simp [pers]), rfl⟩
theorem op_frame_b2 (hM : CM I M A) (hA : AV1 A) (hc : A 103 12 = ((c : Nat) : Int)) (hc12 : c ≤ 12) (hx : 0 ≤ x ∧ x < 2) (hy : 0 ≤ y ∧ y < 2147483648) (hbad : ¬ (c < 12 ∧ 0 < A 103 2 ∧ A 103 2 ≤ 40)) : jc L xs (d + 1) 132 [.ref 103, .int (iI x), .int (iI y)] (jx_G j I M p) (fun v g1 => ∃ I', g1 = jx_G j I' M p ∧ fr mW I I' ∧ CM I' M A ∧ I' 103 0 = iI 2) := by
  unfold jc
  have hv1 := hA.1
  have hNa : ((aN A : Nat) : Int) = A 103 2 := by unfold aN; omega
  refine jv_aload_n (pc' := 1) (k := 0) (x := 103) rfl rfl rfl rfl ?_
  refine jv_iload_n (pc' := 2) (k := 1) (x := (iI x)) rfl rfl rfl rfl ?_
  refine jv_if_lt (t := 14) (pc' := 5) (a := x) rfl rfl rfl (by omega) (fun hz_1 => ?_) (fun hz_1 => ?_)
  · skip
    exfalso; omega
  · skip
    refine jv_iload_n (pc' := 6) (k := 1) (x := (iI x)) rfl rfl rfl rfl ?_
    refine jv_iconst (pc' := 7) (n := 1) rfl rfl ?_
    refine jv_ic_gt (t := 14) (pc' := 10) (a := x) (b := 1) rfl rfl rfl (by omega) (fun hz_2 => ?_) (fun hz_2 => ?_)
    · skip
      exfalso; omega
    · skip
      refine jv_iload_n (pc' := 11) (k := 2) (x := (iI y)) rfl rfl rfl rfl ?_
      refine jv_if_ge (t := 18) (pc' := 14) (a := y) rfl rfl rfl (by omega) (fun hz_3 => ?_) (fun hz_3 => ?_)
      · skip
        refine jv_aload_n (pc' := 19) (k := 0) (x := 103) rfl rfl rfl rfl ?_
        refine jv_getI (pc' := 22) (c := 12) (k := 12) (v := (iI ((c : Nat) : Int))) rfl rfl rfl (fun _ _ => rfl) rfl rfl ((CM_r hM (l := 103) (k := 12) (by simp [pers]) rfl).trans (congrArg iI hc)) ?_
        refine jv_bipush (pc' := 24) (n := 12) rfl rfl rfl ?_
        refine jv_ic_eq (t := 43) (pc' := 27) (a := ((c : Nat) : Int)) (b := 12) rfl rfl rfl (by omega) (fun hz_4 => ?_) (fun hz_4 => ?_)
        · skip
          refine jv_iconst (pc' := 44) (n := 2) rfl rfl ?_
          refine jx_step (pc' := 48) rfl ?_
          refine jv_putI (pc' := 51) (c := 12) (k := 0) rfl rfl rfl rfl (fun _ _ _  => rfl) rfl rfl ?_
          refine jv_aload_n (pc' := 52) (k := 0) (x := 103) rfl rfl rfl rfl ?_
          refine jv_getI (pc' := 55) (c := 12) (k := 0) (v := (iI 2)) rfl rfl rfl (fun _ _ => rfl) rfl rfl rfl ?_
          refine jv_if_le (t := 60) (pc' := 58) (a := 2) rfl rfl rfl (by omega) (fun hz_5 => ?_) (fun hz_5 => ?_)
          · skip
            exact absurd hz_5 (by decide)
          · skip
            refine jv_iconst (pc' := 59) (n := 0) rfl rfl ?_
            refine jv_retI rfl rfl ⟨_, _, rfl, ?_⟩
            first
            | (exfalso; omega)
            | exact ⟨_, rfl, (fr_u (by simp [mW]) (fr_r _)), CM_n hM (by simp [pers]), rfl⟩
        · skip
          refine jv_aload_n (pc' := 28) (k := 0) (x := 103) rfl rfl rfl rfl ?_
          refine jv_getI (pc' := 31) (c := 12) (k := 2) (v := (iI (A 103 2))) rfl rfl rfl (fun _ _ => rfl) rfl rfl (CM_r hM (l := 103) (k := 2) (by simp [pers]) rfl) ?_
          refine jv_if_eq (t := 43) (pc' := 34) (a := (A 103 2)) rfl rfl rfl (by omega) (fun hz_6 => ?_) (fun hz_6 => ?_)
          · skip
            refine jv_iconst (pc' := 44) (n := 2) rfl rfl ?_
            refine jx_step (pc' := 48) rfl ?_
            refine jv_putI (pc' := 51) (c := 12) (k := 0) rfl rfl rfl rfl (fun _ _ _  => rfl) rfl rfl ?_
            refine jv_aload_n (pc' := 52) (k := 0) (x := 103) rfl rfl rfl rfl ?_
            refine jv_getI (pc' := 55) (c := 12) (k := 0) (v := (iI 2)) rfl rfl rfl (fun _ _ => rfl) rfl rfl rfl ?_
            refine jv_if_le (t := 60) (pc' := 58) (a := 2) rfl rfl rfl (by omega) (fun hz_7 => ?_) (fun hz_7 => ?_)
            · skip
              exact absurd hz_7 (by decide)
            · skip
              refine jv_iconst (pc' := 59) (n := 0) rfl rfl ?_
              refine jv_retI rfl rfl ⟨_, _, rfl, ?_⟩
              first
              | (exfalso; omega)
              | exact ⟨_, rfl, (fr_u (by simp [mW]) (fr_r _)), CM_n hM (by simp [pers]), rfl⟩
          · skip
            refine jv_aload_n (pc' := 35) (k := 0) (x := 103) rfl rfl rfl rfl ?_
            refine jv_getI (pc' := 38) (c := 12) (k := 2) (v := (iI (A 103 2))) rfl rfl rfl (fun _ _ => rfl) rfl rfl (CM_r hM (l := 103) (k := 2) (by simp [pers]) rfl) ?_
            refine jv_bipush (pc' := 40) (n := 40) rfl rfl rfl ?_
            refine jv_ic_le (t := 47) (pc' := 43) (a := (A 103 2)) (b := 40) rfl rfl rfl (by omega) (fun hz_8 => ?_) (fun hz_8 => ?_)
            · skip
              exfalso; omega
            · skip
              refine jv_iconst (pc' := 44) (n := 2) rfl rfl ?_
              refine jx_step (pc' := 48) rfl ?_
              refine jv_putI (pc' := 51) (c := 12) (k := 0) rfl rfl rfl rfl (fun _ _ _  => rfl) rfl rfl ?_
              refine jv_aload_n (pc' := 52) (k := 0) (x := 103) rfl rfl rfl rfl ?_
              refine jv_getI (pc' := 55) (c := 12) (k := 0) (v := (iI 2)) rfl rfl rfl (fun _ _ => rfl) rfl rfl rfl ?_
              refine jv_if_le (t := 60) (pc' := 58) (a := 2) rfl rfl rfl (by omega) (fun hz_9 => ?_) (fun hz_9 => ?_)
              · skip
                exact absurd hz_9 (by decide)
              · skip
                refine jv_iconst (pc' := 59) (n := 0) rfl rfl ?_
                refine jv_retI rfl rfl ⟨_, _, rfl, ?_⟩
                first
                | (exfalso; omega)
                | exact ⟨_, rfl, (fr_u (by simp [mW]) (fr_r _)), CM_n hM (by simp [pers]), rfl⟩
      · skip
        exfalso; omega
set_option maxRecDepth 100000 in
theorem op_frame_m (hM : CM I M A) (hA : AV1 A) (hc : A 103 12 = ((c : Nat) : Int)) (hx : 0 ≤ x ∧ x < 2) (hy : 0 ≤ y ∧ y < 2147483648) (hok : c < 12 ∧ 0 < A 103 2 ∧ A 103 2 ≤ 40) (hA4 : ∀ k, k < c → 0 ≤ A 114 k ∧ A 114 k < 2147483648) (hQ : FQ A c y q) : jc L xs (d + 1) 132 [.ref 103, .int (iI x), .int (iI y)] (jx_G j I M p) (fun v g1 => ∃ I', g1 = jx_G j I' M p ∧ fr mW I I' ∧ CM I' M (aIn A q c x y) ∧ I' 103 0 = iI 0 ∧ v = some (.int (iI ((q : Nat) : Int)))) := by
  unfold jc
  have hv1 := hA.1
  have hNa : ((aN A : Nat) : Int) = A 103 2 := by unfold aN; omega
  refine jv_aload_n (pc' := 1) (k := 0) (x := 103) rfl rfl rfl rfl ?_
  refine jv_iload_n (pc' := 2) (k := 1) (x := (iI x)) rfl rfl rfl rfl ?_
  refine jv_if_lt (t := 14) (pc' := 5) (a := x) rfl rfl rfl (by omega) (fun hz_1 => ?_) (fun hz_1 => ?_)
  · skip
    exfalso; omega
  · skip
    refine jv_iload_n (pc' := 6) (k := 1) (x := (iI x)) rfl rfl rfl rfl ?_
    refine jv_iconst (pc' := 7) (n := 1) rfl rfl ?_
    refine jv_ic_gt (t := 14) (pc' := 10) (a := x) (b := 1) rfl rfl rfl (by omega) (fun hz_2 => ?_) (fun hz_2 => ?_)
    · skip
      exfalso; omega
    · skip
      refine jv_iload_n (pc' := 11) (k := 2) (x := (iI y)) rfl rfl rfl rfl ?_
      refine jv_if_ge (t := 18) (pc' := 14) (a := y) rfl rfl rfl (by omega) (fun hz_3 => ?_) (fun hz_3 => ?_)
      · skip
        refine jv_aload_n (pc' := 19) (k := 0) (x := 103) rfl rfl rfl rfl ?_
        refine jv_getI (pc' := 22) (c := 12) (k := 12) (v := (iI ((c : Nat) : Int))) rfl rfl rfl (fun _ _ => rfl) rfl rfl ((CM_r hM (l := 103) (k := 12) (by simp [pers]) rfl).trans (congrArg iI hc)) ?_
        refine jv_bipush (pc' := 24) (n := 12) rfl rfl rfl ?_
        refine jv_ic_eq (t := 43) (pc' := 27) (a := ((c : Nat) : Int)) (b := 12) rfl rfl rfl (by omega) (fun hz_4 => ?_) (fun hz_4 => ?_)
        · skip
          exfalso; omega
        · skip
          refine jv_aload_n (pc' := 28) (k := 0) (x := 103) rfl rfl rfl rfl ?_
          refine jv_getI (pc' := 31) (c := 12) (k := 2) (v := (iI (A 103 2))) rfl rfl rfl (fun _ _ => rfl) rfl rfl (CM_r hM (l := 103) (k := 2) (by simp [pers]) rfl) ?_
          refine jv_if_eq (t := 43) (pc' := 34) (a := (A 103 2)) rfl rfl rfl (by omega) (fun hz_5 => ?_) (fun hz_5 => ?_)
          · skip
            exfalso; omega
          · skip
            refine jv_aload_n (pc' := 35) (k := 0) (x := 103) rfl rfl rfl rfl ?_
            refine jv_getI (pc' := 38) (c := 12) (k := 2) (v := (iI (A 103 2))) rfl rfl rfl (fun _ _ => rfl) rfl rfl (CM_r hM (l := 103) (k := 2) (by simp [pers]) rfl) ?_
            refine jv_bipush (pc' := 40) (n := 40) rfl rfl rfl ?_
            refine jv_ic_le (t := 47) (pc' := 43) (a := (A 103 2)) (b := 40) rfl rfl rfl (by omega) (fun hz_6 => ?_) (fun hz_6 => ?_)
            · skip
              refine jv_iconst (pc' := 48) (n := 0) rfl rfl ?_
              refine jv_putI (pc' := 51) (c := 12) (k := 0) rfl rfl rfl rfl (fun _ _ _  => rfl) rfl rfl ?_
              refine jv_aload_n (pc' := 52) (k := 0) (x := 103) rfl rfl rfl rfl ?_
              refine jv_getI (pc' := 55) (c := 12) (k := 0) (v := (iI 0)) rfl rfl rfl (fun _ _ => rfl) rfl rfl rfl ?_
              refine jv_if_le (t := 60) (pc' := 58) (a := 0) rfl rfl rfl (by omega) (fun hz_7 => ?_) (fun hz_7 => ?_)
              · skip
                refine jv_aload_n (pc' := 61) (k := 0) (x := 103) rfl rfl rfl rfl ?_
                refine jv_getI (pc' := 64) (c := 12) (k := 12) (v := (iI ((c : Nat) : Int))) rfl rfl rfl (fun _ _ => rfl) rfl rfl ((CM_r hM (l := 103) (k := 12) (by simp [pers]) rfl).trans (congrArg iI hc)) ?_
                refine jv_istore_n (pc' := 65) (k := 3) (x := (iI ((c : Nat) : Int))) rfl rfl rfl rfl (Or.inr rfl) ?_
                have H8 : ∀ (N : Nat) (n : Nat) (I3 : Nat → Nat → Int32) (zn : Int), n < N → (q ≤ n ∧ n ≤ c) → (fr mW I I3) → (CM I3 M (aRw A (sUp n c))) → (I3 103 0 = iI 0) → (zn = ((n : Nat) : Int)) → ∀ f : jm_F, f 0 = some (.ref 103) → f 1 = some (.int (iI x)) → f 2 = some (.int (iI y)) → f 3 = some (.int (iI zn)) → jx L xs ((d + 1)) 132 65 f [] (jx_G j I3 M p) (fun z => ∃ v g1, z = (.inl v, g1) ∧ (fun v g1 => ∃ I', g1 = jx_G j I' M p ∧ fr mW I I' ∧ CM I' M (aIn A q c x y) ∧ I' 103 0 = iI 0 ∧ v = some (.int (iI ((q : Nat) : Int)))) v g1) := by
                  intro N
                  induction N with
                  | zero => intro n I3 zn hN; exact absurd hN (Nat.not_lt_zero _)
                  | succ N ih =>
                    intro n I3 zn hN hn hf hC h0 hzn f hf0 hf1 hf2 hf3 
                    refine jv_iload_n (pc' := 66) (k := 3) (x := (iI zn)) rfl rfl rfl hf3 ?_
                    refine jv_if_le (t := 95) (pc' := 69) (a := zn) rfl rfl rfl (by omega) (fun hz_9 => ?_) (fun hz_9 => ?_)
                    · skip
                      have en : n = q := by omega
                      have hC5 : CM I3 M (aRw A (sUp q c)) := by rw [← en]; exact hC
                      refine jv_aload_n (pc' := 96) (k := 0) (x := 103) rfl rfl rfl hf0 ?_
                      refine jv_getR (pc' := 99) (c := 12) (k := 13) (v := 113) rfl rfl rfl (fun _ _ => rfl) rfl rfl (jR_103_13 _) ?_
                      refine jv_iload_n (pc' := 100) (k := 3) (x := (iI zn)) rfl rfl rfl hf3 ?_
                      refine jv_iload_n (pc' := 101) (k := 1) (x := (iI x)) rfl rfl rfl hf1 ?_
                      refine jv_iastore (pc' := 102) (n := 12) (e := zn) (v := (iI x)) rfl rfl rfl rfl rfl (by omega) ?_
                      refine jv_aload_n (pc' := 103) (k := 0) (x := 103) rfl rfl rfl hf0 ?_
                      refine jv_getR (pc' := 106) (c := 12) (k := 14) (v := 114) rfl rfl rfl (fun _ _ => rfl) rfl rfl (jR_103_14 _) ?_
                      refine jv_iload_n (pc' := 107) (k := 3) (x := (iI zn)) rfl rfl rfl hf3 ?_
                      refine jv_iload_n (pc' := 108) (k := 2) (x := (iI y)) rfl rfl rfl hf2 ?_
                      refine jv_iastore (pc' := 109) (n := 12) (e := zn) (v := (iI y)) rfl rfl rfl rfl rfl (by omega) ?_
                      refine jv_aload_n (pc' := 110) (k := 0) (x := 103) rfl rfl rfl hf0 ?_
                      refine jv_getR (pc' := 113) (c := 12) (k := 15) (v := 115) rfl rfl rfl (fun _ _ => rfl) rfl rfl (jR_103_15 _) ?_
                      refine jv_iload_n (pc' := 114) (k := 3) (x := (iI zn)) rfl rfl rfl hf3 ?_
                      refine jv_aload_n (pc' := 115) (k := 0) (x := 103) rfl rfl rfl hf0 ?_
                      refine jv_getI (pc' := 118) (c := 12) (k := 2) (v := (iI (A 103 2))) rfl rfl rfl (fun _ _ => rfl) rfl rfl ((CM_r (CM_ui (CM_ui hC5 (l := 113) (k := q) (z := x) (by omega) (by omega)) (l := 114) (k := q) (z := y) (by omega) (by omega)) (l := 103) (k := 2) (by simp [pers]) rfl).trans rfl) ?_
                      refine jv_iastore (pc' := 119) (n := 12) (e := zn) (v := (iI (A 103 2))) rfl rfl rfl rfl rfl (by omega) ?_
                      refine jv_iconst (pc' := 120) (n := 0) rfl rfl ?_
                      refine jv_istore (pc' := 122) (k := 4) (x := (iI 0)) rfl rfl rfl (Or.inr (congrArg jm_lng hf3)) ?_
                      have H10 : ∀ (Nb : Nat) (k : Nat) (I4 : Nat → Nat → Int32), 80 - k < Nb → ((k : Int) ≤ A 103 2) → (fr mW I I4) → (CM I4 M (aBy (aI0 A q c x y) A q k)) → (I4 103 0 = iI 0) → ∀ f : jm_F, f 0 = some (.ref 103) → f 1 = some (.int (iI x)) → f 2 = some (.int (iI y)) → f 3 = some (.int (iI zn)) → f 4 = some (.int (iI ((k : Nat) : Int))) → jx L xs ((d + 1)) 132 122 f [] (jx_G j I4 M p) (fun z => ∃ v g1, z = (.inl v, g1) ∧ (fun v g1 => ∃ I', g1 = jx_G j I' M p ∧ fr mW I I' ∧ CM I' M (aIn A q c x y) ∧ I' 103 0 = iI 0 ∧ v = some (.int (iI ((q : Nat) : Int)))) v g1) := by
                        intro Nb
                        induction Nb with
                        | zero => intro k I4 hNb; exact absurd hNb (Nat.not_lt_zero _)
                        | succ Nb ihb =>
                          intro k I4 hNb hk hf hC h0 f hf0 hf1 hf2 hf3 hf4 
                          refine jv_iload (pc' := 124) (k := 4) (x := (iI ((k : Nat) : Int))) rfl rfl hf4 ?_
                          refine jv_aload_n (pc' := 125) (k := 0) (x := 103) rfl rfl rfl hf0 ?_
                          refine jv_getI (pc' := 128) (c := 12) (k := 2) (v := (iI (A 103 2))) rfl rfl rfl (fun _ _ => rfl) rfl rfl ((CM_r hC (l := 103) (k := 2) (by simp [pers]) rfl).trans rfl) ?_
                          refine jv_ic_ge (t := 156) (pc' := 131) (a := ((k : Nat) : Int)) (b := (A 103 2)) rfl rfl rfl (by omega) (fun hz_11 => ?_) (fun hz_11 => ?_)
                          · skip
                            have ek : k = aN A := by omega
                            subst ek
                            refine jv_aload_n (pc' := 157) (k := 0) (x := 103) rfl rfl rfl hf0 ?_
                            refine jx_step (pc' := 158) rfl ?_
                            refine jv_getI (pc' := 161) (c := 12) (k := 12) (v := (iI ((c : Nat) : Int))) rfl rfl rfl (fun _ _ => rfl) rfl rfl ((CM_r hC (l := 103) (k := 12) (by simp [pers]) rfl).trans (congrArg iI hc)) ?_
                            refine jv_iconst (pc' := 162) (n := 1) rfl rfl ?_
                            refine jv_iadd (pc' := 163) (a := ((c : Nat) : Int)) (b := 1) rfl rfl ?_
                            rw [show ((c : Nat) : Int) + 1 = ((c + 1 : Nat) : Int) by omega]
                            refine jv_putI (pc' := 166) (c := 12) (k := 12) rfl rfl rfl rfl (fun _ _ _  => rfl) rfl rfl ?_
                            refine jv_aload_n (pc' := 167) (k := 0) (x := 103) rfl rfl rfl hf0 ?_
                            refine jv_iconst (pc' := 168) (n := 0) rfl rfl ?_
                            refine jv_putI (pc' := 171) (c := 12) (k := 2) rfl rfl rfl rfl (fun _ _ _  => rfl) rfl rfl ?_
                            refine jv_aload_n (pc' := 172) (k := 0) (x := 103) rfl rfl rfl hf0 ?_
                            refine jv_call (pc' := 175) rfl (ml_changed (I := jm_u (jm_u I4 103 12 (iI ((c + 1 : Nat) : Int))) 103 2 (iI 0))) (fun vq12 gq12 q12 => ?_)
                            obtain ⟨rfl, rfl⟩ := q12
                            show jx L xs _ 132 175 _ [] _ _
                            refine jv_iload_n (pc' := 176) (k := 3) (x := (iI zn)) rfl rfl rfl hf3 ?_
                            rw [show zn = ((q : Nat) : Int) by omega]
                            refine jv_retI rfl rfl ⟨_, _, rfl, ?_⟩
                            first
                            | (exfalso; omega)
                            | exact ⟨_, rfl, (fr_u (by simp [mW]) (fr_u (by simp [mW]) (fr_u (by simp [mW]) hf))), CM_u (CM_u (CM_u hC (by omega)) (by omega)) (by omega), h0, rfl⟩
                          · skip
                            refine jv_aload_n (pc' := 132) (k := 0) (x := 103) rfl rfl rfl hf0 ?_
                            refine jv_getR (pc' := 135) (c := 12) (k := 16) (v := 116) rfl rfl rfl (fun _ _ => rfl) rfl rfl (jR_103_16 _) ?_
                            refine jv_bipush (pc' := 137) (n := 40) rfl rfl rfl ?_
                            refine jv_iload_n (pc' := 138) (k := 3) (x := (iI zn)) rfl rfl rfl hf3 ?_
                            refine jv_imul (pc' := 139) (a := 40) (b := zn) rfl rfl ?_
                            refine jv_iload (pc' := 141) (k := 4) (x := (iI ((k : Nat) : Int))) rfl rfl hf4 ?_
                            refine jv_iadd (pc' := 142) (a := (40 * zn)) (b := ((k : Nat) : Int)) rfl rfl ?_
                            refine jv_aload_n (pc' := 143) (k := 0) (x := 103) rfl rfl rfl hf0 ?_
                            refine jv_getR (pc' := 146) (c := 12) (k := 1) (v := 104) rfl rfl rfl (fun _ _ => rfl) rfl rfl (jR_103_1 _) ?_
                            refine jv_iload (pc' := 148) (k := 4) (x := (iI ((k : Nat) : Int))) rfl rfl hf4 ?_
                            refine jv_iaload (pc' := 149) (n := 80) (e := ((k : Nat) : Int)) (v := (iI (A 104 k))) rfl rfl (by decide) rfl rfl rfl (by omega) ((CM_r hC (l := 104) (k := k) (by simp [pers]) (by omega)).trans rfl) ?_
                            refine jv_iastore (pc' := 150) (n := 480) (e := ((40 * zn) + ((k : Nat) : Int))) (v := (iI (A 104 k))) rfl rfl rfl rfl rfl (by omega) ?_
                            refine jv_iinc (pc' := 153) (k := 4) (a := ((k : Nat) : Int)) rfl rfl hf4 rfl (Or.inr (congrArg jm_lng hf3)) ?_
                            refine jx_step (pc' := 122) rfl ?_
                            exact ihb (k + 1) (jm_u I4 116 ((40 * zn) + ((k : Nat) : Int) : Int).toNat (iI (A 104 k))) (by omega) (by omega) (fr_t hf (fr_u (by simp [mW]) (fr_r _))) (CM_by hC (by omega)) h0 _ hf0 hf1 hf2 hf3 rfl 
                      exact H10 _ 0 (jm_u (jm_u (jm_u I3 113 (zn : Int).toNat (iI x)) 114 (zn : Int).toNat (iI y)) 115 (zn : Int).toNat (iI (A 103 2))) (Nat.lt_succ_self _) (by omega) (fr_u (by simp [mW]) (fr_u (by simp [mW]) (fr_u (by simp [mW]) hf))) (by rw [aBy_0]; exact (CM_ui (CM_ui (CM_ui hC5 (l := 113) (k := q) (z := x) (by omega) (by omega)) (l := 114) (k := q) (z := y) (by omega) (by omega)) (l := 115) (k := q) (z := A 103 2) (by omega) (by omega))) h0 _ hf0 hf1 hf2 hf3 rfl 
                    · skip
                      obtain ⟨i, rfl⟩ : ∃ i, n = i + 1 := ⟨n - 1, by omega⟩
                      have e1 := hQ.2.1 i
                      have e2 := hQ.2.2 i
                      have hA4i := hA4 i (by omega)
                      refine jv_aload_n (pc' := 70) (k := 0) (x := 103) rfl rfl rfl hf0 ?_
                      refine jv_getR (pc' := 73) (c := 12) (k := 14) (v := 114) rfl rfl rfl (fun _ _ => rfl) rfl rfl (jR_103_14 _) ?_
                      refine jv_iload_n (pc' := 74) (k := 3) (x := (iI zn)) rfl rfl rfl hf3 ?_
                      refine jv_iconst (pc' := 75) (n := 1) rfl rfl ?_
                      refine jv_isub (pc' := 76) (a := zn) (b := 1) rfl rfl ?_
                      rw [show zn - 1 = ((i : Nat) : Int) by omega]
                      refine jv_iaload (pc' := 77) (n := 12) (e := ((i : Nat) : Int)) (v := (iI (A 114 i))) rfl rfl (by decide) rfl rfl rfl (by omega) ((CM_r hC (l := 114) (k := i) (by simp [pers]) (by omega)).trans (congrArg iI ((aRw_1 (by omega)).trans (by rw [show sUp (i + 1) c i = i from if_neg (by omega)])))) ?_
                      refine jv_iload_n (pc' := 78) (k := 2) (x := (iI y)) rfl rfl rfl hf2 ?_
                      refine jv_ic_le (t := 95) (pc' := 81) (a := (A 114 i)) (b := y) rfl rfl rfl (by omega) (fun hz_13 => ?_) (fun hz_13 => ?_)
                      · skip
                        have en : i + 1 = q := by omega
                        have hC5 : CM I3 M (aRw A (sUp q c)) := by rw [← en]; exact hC
                        refine jv_aload_n (pc' := 96) (k := 0) (x := 103) rfl rfl rfl hf0 ?_
                        refine jv_getR (pc' := 99) (c := 12) (k := 13) (v := 113) rfl rfl rfl (fun _ _ => rfl) rfl rfl (jR_103_13 _) ?_
                        refine jv_iload_n (pc' := 100) (k := 3) (x := (iI zn)) rfl rfl rfl hf3 ?_
                        refine jv_iload_n (pc' := 101) (k := 1) (x := (iI x)) rfl rfl rfl hf1 ?_
                        refine jv_iastore (pc' := 102) (n := 12) (e := zn) (v := (iI x)) rfl rfl rfl rfl rfl (by omega) ?_
                        refine jv_aload_n (pc' := 103) (k := 0) (x := 103) rfl rfl rfl hf0 ?_
                        refine jv_getR (pc' := 106) (c := 12) (k := 14) (v := 114) rfl rfl rfl (fun _ _ => rfl) rfl rfl (jR_103_14 _) ?_
                        refine jv_iload_n (pc' := 107) (k := 3) (x := (iI zn)) rfl rfl rfl hf3 ?_
                        refine jv_iload_n (pc' := 108) (k := 2) (x := (iI y)) rfl rfl rfl hf2 ?_
                        refine jv_iastore (pc' := 109) (n := 12) (e := zn) (v := (iI y)) rfl rfl rfl rfl rfl (by omega) ?_
                        refine jv_aload_n (pc' := 110) (k := 0) (x := 103) rfl rfl rfl hf0 ?_
                        refine jv_getR (pc' := 113) (c := 12) (k := 15) (v := 115) rfl rfl rfl (fun _ _ => rfl) rfl rfl (jR_103_15 _) ?_
                        refine jv_iload_n (pc' := 114) (k := 3) (x := (iI zn)) rfl rfl rfl hf3 ?_
                        refine jv_aload_n (pc' := 115) (k := 0) (x := 103) rfl rfl rfl hf0 ?_
                        refine jv_getI (pc' := 118) (c := 12) (k := 2) (v := (iI (A 103 2))) rfl rfl rfl (fun _ _ => rfl) rfl rfl ((CM_r (CM_ui (CM_ui hC5 (l := 113) (k := q) (z := x) (by omega) (by omega)) (l := 114) (k := q) (z := y) (by omega) (by omega)) (l := 103) (k := 2) (by simp [pers]) rfl).trans rfl) ?_
                        refine jv_iastore (pc' := 119) (n := 12) (e := zn) (v := (iI (A 103 2))) rfl rfl rfl rfl rfl (by omega) ?_
                        refine jv_iconst (pc' := 120) (n := 0) rfl rfl ?_
                        refine jv_istore (pc' := 122) (k := 4) (x := (iI 0)) rfl rfl rfl (Or.inr (congrArg jm_lng hf3)) ?_
                        have H14 : ∀ (Nb : Nat) (k : Nat) (I4 : Nat → Nat → Int32), 80 - k < Nb → ((k : Int) ≤ A 103 2) → (fr mW I I4) → (CM I4 M (aBy (aI0 A q c x y) A q k)) → (I4 103 0 = iI 0) → ∀ f : jm_F, f 0 = some (.ref 103) → f 1 = some (.int (iI x)) → f 2 = some (.int (iI y)) → f 3 = some (.int (iI zn)) → f 4 = some (.int (iI ((k : Nat) : Int))) → jx L xs ((d + 1)) 132 122 f [] (jx_G j I4 M p) (fun z => ∃ v g1, z = (.inl v, g1) ∧ (fun v g1 => ∃ I', g1 = jx_G j I' M p ∧ fr mW I I' ∧ CM I' M (aIn A q c x y) ∧ I' 103 0 = iI 0 ∧ v = some (.int (iI ((q : Nat) : Int)))) v g1) := by
                          intro Nb
                          induction Nb with
                          | zero => intro k I4 hNb; exact absurd hNb (Nat.not_lt_zero _)
                          | succ Nb ihb =>
                            intro k I4 hNb hk hf hC h0 f hf0 hf1 hf2 hf3 hf4 
                            refine jv_iload (pc' := 124) (k := 4) (x := (iI ((k : Nat) : Int))) rfl rfl hf4 ?_
                            refine jv_aload_n (pc' := 125) (k := 0) (x := 103) rfl rfl rfl hf0 ?_
                            refine jv_getI (pc' := 128) (c := 12) (k := 2) (v := (iI (A 103 2))) rfl rfl rfl (fun _ _ => rfl) rfl rfl ((CM_r hC (l := 103) (k := 2) (by simp [pers]) rfl).trans rfl) ?_
                            refine jv_ic_ge (t := 156) (pc' := 131) (a := ((k : Nat) : Int)) (b := (A 103 2)) rfl rfl rfl (by omega) (fun hz_15 => ?_) (fun hz_15 => ?_)
                            · skip
                              have ek : k = aN A := by omega
                              subst ek
                              refine jv_aload_n (pc' := 157) (k := 0) (x := 103) rfl rfl rfl hf0 ?_
                              refine jx_step (pc' := 158) rfl ?_
                              refine jv_getI (pc' := 161) (c := 12) (k := 12) (v := (iI ((c : Nat) : Int))) rfl rfl rfl (fun _ _ => rfl) rfl rfl ((CM_r hC (l := 103) (k := 12) (by simp [pers]) rfl).trans (congrArg iI hc)) ?_
                              refine jv_iconst (pc' := 162) (n := 1) rfl rfl ?_
                              refine jv_iadd (pc' := 163) (a := ((c : Nat) : Int)) (b := 1) rfl rfl ?_
                              rw [show ((c : Nat) : Int) + 1 = ((c + 1 : Nat) : Int) by omega]
                              refine jv_putI (pc' := 166) (c := 12) (k := 12) rfl rfl rfl rfl (fun _ _ _  => rfl) rfl rfl ?_
                              refine jv_aload_n (pc' := 167) (k := 0) (x := 103) rfl rfl rfl hf0 ?_
                              refine jv_iconst (pc' := 168) (n := 0) rfl rfl ?_
                              refine jv_putI (pc' := 171) (c := 12) (k := 2) rfl rfl rfl rfl (fun _ _ _  => rfl) rfl rfl ?_
                              refine jv_aload_n (pc' := 172) (k := 0) (x := 103) rfl rfl rfl hf0 ?_
                              refine jv_call (pc' := 175) rfl (ml_changed (I := jm_u (jm_u I4 103 12 (iI ((c + 1 : Nat) : Int))) 103 2 (iI 0))) (fun vq16 gq16 q16 => ?_)
                              obtain ⟨rfl, rfl⟩ := q16
                              show jx L xs _ 132 175 _ [] _ _
                              refine jv_iload_n (pc' := 176) (k := 3) (x := (iI zn)) rfl rfl rfl hf3 ?_
                              rw [show zn = ((q : Nat) : Int) by omega]
                              refine jv_retI rfl rfl ⟨_, _, rfl, ?_⟩
                              first
                              | (exfalso; omega)
                              | exact ⟨_, rfl, (fr_u (by simp [mW]) (fr_u (by simp [mW]) (fr_u (by simp [mW]) hf))), CM_u (CM_u (CM_u hC (by omega)) (by omega)) (by omega), h0, rfl⟩
                            · skip
                              refine jv_aload_n (pc' := 132) (k := 0) (x := 103) rfl rfl rfl hf0 ?_
                              refine jv_getR (pc' := 135) (c := 12) (k := 16) (v := 116) rfl rfl rfl (fun _ _ => rfl) rfl rfl (jR_103_16 _) ?_
                              refine jv_bipush (pc' := 137) (n := 40) rfl rfl rfl ?_
                              refine jv_iload_n (pc' := 138) (k := 3) (x := (iI zn)) rfl rfl rfl hf3 ?_
                              refine jv_imul (pc' := 139) (a := 40) (b := zn) rfl rfl ?_
                              refine jv_iload (pc' := 141) (k := 4) (x := (iI ((k : Nat) : Int))) rfl rfl hf4 ?_
                              refine jv_iadd (pc' := 142) (a := (40 * zn)) (b := ((k : Nat) : Int)) rfl rfl ?_
                              refine jv_aload_n (pc' := 143) (k := 0) (x := 103) rfl rfl rfl hf0 ?_
                              refine jv_getR (pc' := 146) (c := 12) (k := 1) (v := 104) rfl rfl rfl (fun _ _ => rfl) rfl rfl (jR_103_1 _) ?_
                              refine jv_iload (pc' := 148) (k := 4) (x := (iI ((k : Nat) : Int))) rfl rfl hf4 ?_
                              refine jv_iaload (pc' := 149) (n := 80) (e := ((k : Nat) : Int)) (v := (iI (A 104 k))) rfl rfl (by decide) rfl rfl rfl (by omega) ((CM_r hC (l := 104) (k := k) (by simp [pers]) (by omega)).trans rfl) ?_
                              refine jv_iastore (pc' := 150) (n := 480) (e := ((40 * zn) + ((k : Nat) : Int))) (v := (iI (A 104 k))) rfl rfl rfl rfl rfl (by omega) ?_
                              refine jv_iinc (pc' := 153) (k := 4) (a := ((k : Nat) : Int)) rfl rfl hf4 rfl (Or.inr (congrArg jm_lng hf3)) ?_
                              refine jx_step (pc' := 122) rfl ?_
                              exact ihb (k + 1) (jm_u I4 116 ((40 * zn) + ((k : Nat) : Int) : Int).toNat (iI (A 104 k))) (by omega) (by omega) (fr_t hf (fr_u (by simp [mW]) (fr_r _))) (CM_by hC (by omega)) h0 _ hf0 hf1 hf2 hf3 rfl 
                        exact H14 _ 0 (jm_u (jm_u (jm_u I3 113 (zn : Int).toNat (iI x)) 114 (zn : Int).toNat (iI y)) 115 (zn : Int).toNat (iI (A 103 2))) (Nat.lt_succ_self _) (by omega) (fr_u (by simp [mW]) (fr_u (by simp [mW]) (fr_u (by simp [mW]) hf))) (by rw [aBy_0]; exact (CM_ui (CM_ui (CM_ui hC5 (l := 113) (k := q) (z := x) (by omega) (by omega)) (l := 114) (k := q) (z := y) (by omega) (by omega)) (l := 115) (k := q) (z := A 103 2) (by omega) (by omega))) h0 _ hf0 hf1 hf2 hf3 rfl 
                      · skip
                        refine jv_aload_n (pc' := 82) (k := 0) (x := 103) rfl rfl rfl hf0 ?_
                        refine jv_iload_n (pc' := 83) (k := 3) (x := (iI zn)) rfl rfl rfl hf3 ?_
                        refine jv_iconst (pc' := 84) (n := 1) rfl rfl ?_
                        refine jv_isub (pc' := 85) (a := zn) (b := 1) rfl rfl ?_
                        rw [show zn - 1 = ((i : Nat) : Int) by omega]
                        refine jv_iload_n (pc' := 86) (k := 3) (x := (iI zn)) rfl rfl rfl hf3 ?_
                        rw [show zn = ((i + 1 : Nat) : Int) by omega]
                        refine jv_call (pc' := 89) rfl (ml_carry (I := I3) (a := i) (b := i + 1) hC (by omega) (by omega) (by omega)) (fun v5 g5 q5 => ?_)
                        obtain ⟨I5, rfl, rfl, r5, C5⟩ := q5
                        rw [aRw_up (by omega)] at C5
                        show jx L xs _ 132 89 _ [] _ _
                        refine jv_iinc (pc' := 92) (k := 3) (a := zn) rfl rfl hf3 rfl (Or.inr (congrArg jm_lng hf2)) ?_
                        refine jx_step (pc' := 65) rfl ?_
                        exact ih i I5 (zn + (-1)) (by omega) (by omega) (fr_t hf (fr_w r5 (fun l k h => by unfold mW; omega))) C5 ((r5 103 0 (by omega)).trans h0) (by omega) _ hf0 hf1 hf2 rfl 
                exact H8 _ c (jm_u I 103 0 (iI 0)) ((c : Nat) : Int) (Nat.lt_succ_self _) (by have := hQ.1; omega) (fr_u (by simp [mW]) (fr_r _)) (by rw [aRw_up0]; exact (CM_n hM (l := 103) (k := 0) (v := iI 0) (by simp [pers]))) rfl rfl _ rfl rfl rfl rfl 
              · skip
                exact absurd hz_7 (by decide)
            · skip
              exfalso; omega
      · skip
        exfalso; omega
theorem op_drop_b (hM : CM I M A) (hv12 : 0 ≤ A 103 12 ∧ A 103 12 ≤ 12) (hx : iR x) (hbad : ¬ (0 ≤ x ∧ x < A 103 12)) : jc L xs (d + 1) 134 [.ref 103, .int (iI x)] (jx_G j I M p) (fun v g1 => ∃ I' M', g1 = jx_G j I' M' p ∧ fr mW I I' ∧ fr mV M M' ∧ CM I' M' A ∧ I' 103 0 = iI 1) := by
  unfold jc
  refine jv_aload_n (pc' := 1) (k := 0) (x := 103) rfl rfl rfl rfl ?_
  refine jv_aload_n (pc' := 2) (k := 0) (x := 103) rfl rfl rfl rfl ?_
  refine jv_iload_n (pc' := 3) (k := 1) (x := (iI x)) rfl rfl rfl rfl ?_
  refine jv_call (pc' := 6) rfl (ml_noFrame (I := I) (M := M) (A := A) (by omega) hM hv12) (fun vq1 gq1 q1 => ?_)
  obtain ⟨rfl, rfl⟩ := q1
  show jx L xs _ 134 6 _ [.int (jb (¬ (0 ≤ x ∧ x < A 103 12))), .ref 103] _ _
  refine jv_jb_eq (t := 13) (pc' := 9) (P := ¬ (0 ≤ x ∧ x < A 103 12)) rfl rfl rfl (fun hz_2 => ?_) (fun hz_2 => ?_)
  · skip
    refine jv_iconst (pc' := 14) (n := 0) rfl rfl ?_
    refine jv_putI (pc' := 17) (c := 12) (k := 0) rfl rfl rfl rfl (fun _ _ _  => rfl) rfl rfl ?_
    refine jv_aload_n (pc' := 18) (k := 0) (x := 103) rfl rfl rfl rfl ?_
    refine jv_getI (pc' := 21) (c := 12) (k := 0) (v := (iI 0)) rfl rfl rfl (fun _ _ => rfl) rfl rfl rfl ?_
    refine jv_if_le (t := 26) (pc' := 24) (a := 0) rfl rfl rfl (by omega) (fun hz_3 => ?_) (fun hz_3 => ?_)
    · skip
      exfalso; omega
    · skip
      exact absurd hz_3 (by decide)
  · skip
    refine jv_iconst (pc' := 10) (n := 1) rfl rfl ?_
    refine jx_step (pc' := 14) rfl ?_
    refine jv_putI (pc' := 17) (c := 12) (k := 0) rfl rfl rfl rfl (fun _ _ _  => rfl) rfl rfl ?_
    refine jv_aload_n (pc' := 18) (k := 0) (x := 103) rfl rfl rfl rfl ?_
    refine jv_getI (pc' := 21) (c := 12) (k := 0) (v := (iI 1)) rfl rfl rfl (fun _ _ => rfl) rfl rfl rfl ?_
    refine jv_if_le (t := 26) (pc' := 24) (a := 1) rfl rfl rfl (by omega) (fun hz_4 => ?_) (fun hz_4 => ?_)
    · skip
      exact absurd hz_4 (by decide)
    · skip
      refine jv_iconst (pc' := 25) (n := 0) rfl rfl ?_
      refine jv_retI rfl rfl ⟨_, _, rfl, ?_⟩
      first
      | (exfalso; omega)
      | exact ⟨_, _, rfl, (fr_u (by simp [mW]) (fr_r _)), (fr_r _), (CM_n hM (by simp [pers])), rfl⟩
theorem op_drop_m (hM : CM I M A) (hc : A 103 12 = ((m + 1 : Nat) : Int)) (hm : m < 12) (hf1 : fd ≤ m) : jc L xs (d + 1) 134 [.ref 103, .int (iI ((fd : Nat) : Int))] (jx_G j I M p) (fun v g1 => ∃ I', g1 = jx_G j I' M p ∧ fr mW I I' ∧ CM I' M (aDr A fd m) ∧ I' 103 0 = iI 0 ∧ v = some (.int (iI (A 114 fd)))) := by
  unfold jc
  have hv12 : 0 ≤ A 103 12 ∧ A 103 12 ≤ 12 := by omega
  refine jv_aload_n (pc' := 1) (k := 0) (x := 103) rfl rfl rfl rfl ?_
  refine jv_aload_n (pc' := 2) (k := 0) (x := 103) rfl rfl rfl rfl ?_
  refine jv_iload_n (pc' := 3) (k := 1) (x := (iI ((fd : Nat) : Int))) rfl rfl rfl rfl ?_
  refine jv_call (pc' := 6) rfl (ml_noFrame (I := I) (M := M) (A := A) (by omega) hM hv12) (fun vq1 gq1 q1 => ?_)
  obtain ⟨rfl, rfl⟩ := q1
  show jx L xs _ 134 6 _ [.int (jb (¬ (0 ≤ ((fd : Nat) : Int) ∧ ((fd : Nat) : Int) < A 103 12))), .ref 103] _ _
  refine jv_jb_eq (t := 13) (pc' := 9) (P := ¬ (0 ≤ ((fd : Nat) : Int) ∧ ((fd : Nat) : Int) < A 103 12)) rfl rfl rfl (fun hz_2 => ?_) (fun hz_2 => ?_)
  · skip
    refine jv_iconst (pc' := 14) (n := 0) rfl rfl ?_
    refine jv_putI (pc' := 17) (c := 12) (k := 0) rfl rfl rfl rfl (fun _ _ _  => rfl) rfl rfl ?_
    refine jv_aload_n (pc' := 18) (k := 0) (x := 103) rfl rfl rfl rfl ?_
    refine jv_getI (pc' := 21) (c := 12) (k := 0) (v := (iI 0)) rfl rfl rfl (fun _ _ => rfl) rfl rfl rfl ?_
    refine jv_if_le (t := 26) (pc' := 24) (a := 0) rfl rfl rfl (by omega) (fun hz_3 => ?_) (fun hz_3 => ?_)
    · skip
      refine jv_aload_n (pc' := 27) (k := 0) (x := 103) rfl rfl rfl rfl ?_
      refine jv_getR (pc' := 30) (c := 12) (k := 14) (v := 114) rfl rfl rfl (fun _ _ => rfl) rfl rfl (jR_103_14 _) ?_
      refine jv_iload_n (pc' := 31) (k := 1) (x := (iI ((fd : Nat) : Int))) rfl rfl rfl rfl ?_
      refine jv_iaload (pc' := 32) (n := 12) (e := ((fd : Nat) : Int)) (v := (iI (A 114 fd))) rfl rfl (by decide) rfl rfl rfl (by omega) (CM_r (CM_n hM (l := 103) (k := 0) (v := iI 0) (by simp [pers])) (l := 114) (k := fd) (by simp [pers]) (by omega)) ?_
      refine jv_istore_n (pc' := 33) (k := 2) (x := (iI (A 114 fd))) rfl rfl rfl rfl (Or.inr rfl) ?_
      refine jv_aload_n (pc' := 34) (k := 0) (x := 103) rfl rfl rfl rfl ?_
      refine jx_step (pc' := 35) rfl ?_
      refine jv_getI (pc' := 38) (c := 12) (k := 12) (v := (iI ((m + 1 : Nat) : Int))) rfl rfl rfl (fun _ _ => rfl) rfl rfl ((CM_r (CM_n hM (l := 103) (k := 0) (v := iI 0) (by simp [pers])) (l := 103) (k := 12) (by simp [pers]) rfl).trans (congrArg iI hc)) ?_
      refine jv_iconst (pc' := 39) (n := 1) rfl rfl ?_
      refine jv_isub (pc' := 40) (a := ((m + 1 : Nat) : Int)) (b := 1) rfl rfl ?_
      rw [show ((m + 1 : Nat) : Int) - 1 = ((m : Nat) : Int) by omega]
      refine jv_putI (pc' := 43) (c := 12) (k := 12) rfl rfl rfl rfl (fun _ _ _  => rfl) rfl rfl ?_
      refine jv_iload_n (pc' := 44) (k := 1) (x := (iI ((fd : Nat) : Int))) rfl rfl rfl rfl ?_
      refine jv_istore_n (pc' := 45) (k := 3) (x := (iI ((fd : Nat) : Int))) rfl rfl rfl rfl (Or.inr rfl) ?_
      have H4 : ∀ (N : Nat) (n : Nat) (I3 : Nat → Nat → Int32), m - n < N → (fd ≤ n ∧ n ≤ m) → (fr mW I I3) → (CM I3 M (aRw (jm_u A 103 12 ((m : Nat) : Int)) (sDn fd n))) → (I3 103 0 = iI 0) → ∀ f : jm_F, f 0 = some (.ref 103) → f 1 = some (.int (iI ((fd : Nat) : Int))) → f 2 = some (.int (iI (A 114 fd))) → f 3 = some (.int (iI ((n : Nat) : Int))) → jx L xs ((d + 1)) 134 45 f [] (jx_G j I3 M p) (fun z => ∃ v g1, z = (.inl v, g1) ∧ (fun v g1 => ∃ I', g1 = jx_G j I' M p ∧ fr mW I I' ∧ CM I' M (aDr A fd m) ∧ I' 103 0 = iI 0 ∧ v = some (.int (iI (A 114 fd)))) v g1) := by
        intro N
        induction N with
        | zero => intro n I3 hN; exact absurd hN (Nat.not_lt_zero _)
        | succ N ih =>
          intro n I3 hN hn hf hC h0 f hf0 hf1 hf2 hf3 
          refine jv_iload_n (pc' := 46) (k := 3) (x := (iI ((n : Nat) : Int))) rfl rfl rfl hf3 ?_
          refine jv_aload_n (pc' := 47) (k := 0) (x := 103) rfl rfl rfl hf0 ?_
          refine jv_getI (pc' := 50) (c := 12) (k := 12) (v := (iI ((m : Nat) : Int))) rfl rfl rfl (fun _ _ => rfl) rfl rfl ((CM_r hC (l := 103) (k := 12) (by simp [pers]) rfl).trans rfl) ?_
          refine jv_ic_ge (t := 67) (pc' := 53) (a := ((n : Nat) : Int)) (b := ((m : Nat) : Int)) rfl rfl rfl (by omega) (fun hz_5 => ?_) (fun hz_5 => ?_)
          · skip
            refine jv_aload_n (pc' := 68) (k := 0) (x := 103) rfl rfl rfl hf0 ?_
            refine jv_call (pc' := 71) rfl (ml_changed (I := I3)) (fun vq6 gq6 q6 => ?_)
            obtain ⟨rfl, rfl⟩ := q6
            show jx L xs _ 134 71 _ [] _ _
            refine jv_iload_n (pc' := 72) (k := 2) (x := (iI (A 114 fd))) rfl rfl rfl hf2 ?_
            refine jv_retI rfl rfl ⟨_, _, rfl, ?_⟩
            first
            | (exfalso; omega)
            | (obtain rfl : n = m := by omega
               exact ⟨_, rfl, (fr_u (by simp [mW]) hf), CM_u hC (by omega), h0, rfl⟩)
          · skip
            refine jv_aload_n (pc' := 54) (k := 0) (x := 103) rfl rfl rfl hf0 ?_
            refine jv_iload_n (pc' := 55) (k := 3) (x := (iI ((n : Nat) : Int))) rfl rfl rfl hf3 ?_
            refine jv_iconst (pc' := 56) (n := 1) rfl rfl ?_
            refine jv_iadd (pc' := 57) (a := ((n : Nat) : Int)) (b := 1) rfl rfl ?_
            rw [show ((n : Nat) : Int) + 1 = ((n + 1 : Nat) : Int) by omega]
            refine jv_iload_n (pc' := 58) (k := 3) (x := (iI ((n : Nat) : Int))) rfl rfl rfl hf3 ?_
            refine jv_call (pc' := 61) rfl (ml_carry (I := I3) (a := n + 1) (b := n) hC (by omega) (by omega) (by omega)) (fun v5 g5 q5 => ?_)
            obtain ⟨I5, rfl, rfl, r5, C5⟩ := q5
            rw [aRw_dn (by omega)] at C5
            show jx L xs _ 134 61 _ [] _ _
            refine jv_iinc (pc' := 64) (k := 3) (a := ((n : Nat) : Int)) rfl rfl hf3 rfl (Or.inr (congrArg jm_lng hf2)) ?_
            refine jx_step (pc' := 45) rfl ?_
            exact ih (n + 1) I5 (by omega) (by omega) (fr_t hf (fr_w r5 (fun l k h => by unfold mW; omega))) C5 ((r5 103 0 (by omega)).trans h0) _ hf0 hf1 hf2 rfl 
      exact H4 _ fd (jm_u (jm_u I 103 0 (iI 0)) 103 12 (iI ((m : Nat) : Int))) (Nat.lt_succ_self _) (by omega) (fr_u (by simp [mW]) (fr_u (by simp [mW]) (fr_r _))) (by rw [aRw_dn0]; exact (CM_u (CM_n hM (l := 103) (k := 0) (v := iI 0) (by simp [pers])) (l := 103) (k := 12) (z := ((m : Nat) : Int)) (by omega))) rfl _ rfl rfl rfl rfl 
    · skip
      exact absurd hz_3 (by decide)
  · skip
    exfalso; omega
theorem cl_ffill (hF : FL F) (hC : CT I 1 ch n) (hn : n ≤ 40) : jc L xs d 57 [.ref F, .int (iI x), .int (iI y), .ref 1] (jx_G j I M p) (fun v g1 => ∃ I', g1 = jx_G j I' M p ∧ v = none ∧ fr (fun l _ => l = F ∨ l = F + 1) I I' ∧ I' F 1 = iI ((n : Nat) : Int) ∧ I' F 2 = iI x ∧ I' F 3 = iI y ∧ ∀ k, k < n → I' (F + 1) k = iI (ch k)) := by
  unfold jc
  have hF2 := FL_2 hF
  refine jv_aload_n (pc' := 1) (k := 0) (x := F) rfl rfl rfl rfl ?_
  refine jv_iload_n (pc' := 2) (k := 1) (x := (iI x)) rfl rfl rfl rfl ?_
  refine jv_putI (pc' := 5) (c := 5) (k := 2) rfl rfl rfl rfl (fun _ _ _  => rfl) (FL_A hF j _ _ _) rfl ?_
  refine jv_aload_n (pc' := 6) (k := 0) (x := F) rfl rfl rfl rfl ?_
  refine jv_iload_n (pc' := 7) (k := 2) (x := (iI y)) rfl rfl rfl rfl ?_
  refine jv_putI (pc' := 10) (c := 5) (k := 3) rfl rfl rfl rfl (fun _ _ _  => rfl) (FL_A hF j _ _ _) rfl ?_
  refine jv_aload_n (pc' := 11) (k := 0) (x := F) rfl rfl rfl rfl ?_
  refine jv_aload_n (pc' := 12) (k := 3) (x := 1) rfl rfl rfl rfl ?_
  refine jv_getI (pc' := 15) (c := 1) (k := 1) (v := (iI ((n : Nat) : Int))) rfl rfl rfl (fun _ _ => rfl) rfl rfl ((jm_u_n2 (by omega)).trans ((jm_u_n2 (by omega)).trans hC.1)) ?_
  refine jv_bipush (pc' := 17) (n := 40) rfl rfl rfl ?_
  refine jv_int (pc' := 20) (y := (iI ((n : Nat) : Int))) rfl (if_neg (by rw [iI_lt ⟨by omega, by omega⟩]; omega)) ?_
  refine jv_putI (pc' := 23) (c := 5) (k := 1) rfl rfl rfl rfl (fun _ _ _  => rfl) (FL_A hF j _ _ _) rfl ?_
  refine jv_aload_n (pc' := 24) (k := 3) (x := 1) rfl rfl rfl rfl ?_
  refine jv_getR (pc' := 27) (c := 1) (k := 0) (v := 2) rfl rfl rfl (fun _ _ => rfl) rfl rfl (jR_1_0 _) ?_
  refine jv_iconst (pc' := 28) (n := 0) rfl rfl ?_
  refine jv_aload_n (pc' := 29) (k := 0) (x := F) rfl rfl rfl rfl ?_
  refine jv_getR (pc' := 32) (c := 5) (k := 0) (v := (F + 1)) rfl rfl rfl (fun _ _ => rfl) (FL_A hF j _ _ _) rfl (FL_R hF _) ?_
  refine jv_iconst (pc' := 33) (n := 0) rfl rfl ?_
  refine jv_aload_n (pc' := 34) (k := 0) (x := F) rfl rfl rfl rfl ?_
  refine jv_getI (pc' := 37) (c := 5) (k := 1) (v := (iI ((n : Nat) : Int))) rfl rfl rfl (fun _ _ => rfl) (FL_A hF j _ _ _) rfl (jm_u_eq ⟨rfl, rfl⟩) ?_
  refine jv_copy (pc' := 40) (n := ((n : Nat) : Int)) (a := 80) (b := 40) rfl rfl rfl rfl (FL_B hF j _ _ _) rfl (FL_n hF) (by omega) ?_
  refine jv_retV rfl rfl ⟨_, _, rfl, ?_⟩
  refine ⟨_, rfl, rfl, fr_ua (fun k => Or.inr rfl) (fr_u (Or.inl rfl) (fr_u (Or.inl rfl) (fr_u (Or.inl rfl) (fr_r _)))), (jm_ua_n (by omega)).trans (jm_u_eq ⟨rfl, rfl⟩), (jm_ua_n (by omega)).trans ((jm_u_n2 (by omega)).trans ((jm_u_n2 (by omega)).trans (jm_u_eq ⟨rfl, rfl⟩))), (jm_ua_n (by omega)).trans ((jm_u_n2 (by omega)).trans (jm_u_eq ⟨rfl, rfl⟩)), fun k hk => jm_ua_e.trans ((cpy0 hk).trans ((jm_u_n2 (by omega)).trans ((jm_u_n2 (by omega)).trans ((jm_u_n2 (by omega)).trans (hC.2.2.1 k hk)))))⟩
theorem op_frame_t1 (hx : iR x) (hy : iR y) (hbad : ¬ ((0 ≤ x ∧ x < 2) ∧ 0 ≤ y)) : jt L xs (d + 1) 7 [.ref 0, .int (iI x), .int (iI y)] (jx_G j I M p) 50 (fun g1 => g1 = jx_G (j + 1) I M p) := by
  unfold jt
  refine jv_iload_n (pc' := 1) (k := 1) (x := (iI x)) rfl rfl rfl rfl ?_
  refine jv_call (pc' := 4) rfl (cl_isLink (by omega)) (fun vq1 gq1 q1 => ?_)
  obtain ⟨rfl, rfl⟩ := q1
  show jx L xs _ 7 4 _ [.int (jb (0 ≤ x ∧ x < 2))] _ _
  refine jv_jb_eq (t := 11) (pc' := 7) (P := 0 ≤ x ∧ x < 2) rfl rfl rfl (fun hz_2 => ?_) (fun hz_2 => ?_)
  · skip
    refine jx_ret0 rfl ⟨_, rfl, ?_⟩
    first
    | (exfalso; omega)
    | rfl
  · skip
    refine jv_iload_n (pc' := 8) (k := 2) (x := (iI y)) rfl rfl rfl rfl ?_
    refine jv_if_ge (t := 19) (pc' := 11) (a := y) rfl rfl rfl (by omega) (fun hz_3 => ?_) (fun hz_3 => ?_)
    · skip
      exfalso; omega
    · skip
      refine jx_ret0 rfl ⟨_, rfl, ?_⟩
      first
      | (exfalso; omega)
      | rfl
theorem op_frame_t2 (hR : CR I M p A) (hc : A 103 12 = ((c : Nat) : Int)) (hx : 0 ≤ x ∧ x < 2) (hy : 0 ≤ y ∧ y < 2147483648) (hbad : ¬ (c < 12 ∧ 0 < A 103 2 ∧ A 103 2 ≤ 40)) : jt L xs (d + 1) 7 [.ref 0, .int (iI x), .int (iI y)] (jx_G j I M p) 51 (fun g1 => g1 = jx_G (j + 1) I M p) := by
  unfold jt
  have hv1 := hR.1.1.1
  have hc12 := hR.1.2.2.2.2.2.2.1
  have hNa : ((aN A : Nat) : Int) = A 103 2 := by unfold aN; omega
  refine jv_iload_n (pc' := 1) (k := 1) (x := (iI x)) rfl rfl rfl rfl ?_
  refine jv_call (pc' := 4) rfl (cl_isLink (by omega)) (fun vq1 gq1 q1 => ?_)
  obtain ⟨rfl, rfl⟩ := q1
  show jx L xs _ 7 4 _ [.int (jb (0 ≤ x ∧ x < 2))] _ _
  refine jv_jb_eq (t := 11) (pc' := 7) (P := 0 ≤ x ∧ x < 2) rfl rfl rfl (fun hz_2 => ?_) (fun hz_2 => ?_)
  · skip
    exfalso; omega
  · skip
    refine jv_iload_n (pc' := 8) (k := 2) (x := (iI y)) rfl rfl rfl rfl ?_
    refine jv_if_ge (t := 19) (pc' := 11) (a := y) rfl rfl rfl (by omega) (fun hz_3 => ?_) (fun hz_3 => ?_)
    · skip
      refine jv_aload_n (pc' := 20) (k := 0) (x := 0) rfl rfl rfl rfl ?_
      refine jv_getI (pc' := 23) (c := 0) (k := 10) (v := (iI ((c : Nat) : Int))) rfl rfl rfl (fun _ _ => rfl) rfl rfl (hR.2.2.2.2.1.1.trans (congrArg iI hc)) ?_
      refine jv_bipush (pc' := 25) (n := 12) rfl rfl rfl ?_
      refine jv_ic_ge (t := 50) (pc' := 28) (a := ((c : Nat) : Int)) (b := 12) rfl rfl rfl (by omega) (fun hz_4 => ?_) (fun hz_4 => ?_)
      · skip
        refine jx_ret0 rfl ⟨_, rfl, ?_⟩
        first
        | (exfalso; omega)
        | rfl
      · skip
        refine jv_aload_n (pc' := 29) (k := 0) (x := 0) rfl rfl rfl rfl ?_
        refine jv_getR (pc' := 32) (c := 0) (k := 0) (v := 1) rfl rfl rfl (fun _ _ => rfl) rfl rfl (jR_0_0 _) ?_
        refine jv_getI (pc' := 35) (c := 1) (k := 1) (v := (iI (A 103 2))) rfl rfl rfl (fun _ _ => rfl) rfl rfl (hR.2.1.1.trans (congrArg iI hNa)) ?_
        refine jv_if_eq (t := 50) (pc' := 38) (a := (A 103 2)) rfl rfl rfl (by omega) (fun hz_5 => ?_) (fun hz_5 => ?_)
        · skip
          refine jx_ret0 rfl ⟨_, rfl, ?_⟩
          first
          | (exfalso; omega)
          | rfl
        · skip
          refine jv_aload_n (pc' := 39) (k := 0) (x := 0) rfl rfl rfl rfl ?_
          refine jv_getR (pc' := 42) (c := 0) (k := 0) (v := 1) rfl rfl rfl (fun _ _ => rfl) rfl rfl (jR_0_0 _) ?_
          refine jv_getI (pc' := 45) (c := 1) (k := 1) (v := (iI (A 103 2))) rfl rfl rfl (fun _ _ => rfl) rfl rfl (hR.2.1.1.trans (congrArg iI hNa)) ?_
          refine jv_bipush (pc' := 47) (n := 40) rfl rfl rfl ?_
          refine jv_ic_le (t := 58) (pc' := 50) (a := (A 103 2)) (b := 40) rfl rfl rfl (by omega) (fun hz_6 => ?_) (fun hz_6 => ?_)
          · skip
            exfalso; omega
          · skip
            refine jx_ret0 rfl ⟨_, rfl, ?_⟩
            first
            | (exfalso; omega)
            | rfl
    · skip
      exfalso; omega
/-- the frames' places while one is moved -/
def PU (p p1 : Nat → Option Nat) (s : Nat → Nat) : Prop := (∀ i, i = 0 ∨ 13 ≤ i → p1 i = p i) ∧ ∀ k, k < 12 → p1 (1 + k) = p (1 + s k)
theorem PU_s {p p1 : Nat → Option Nat} {s s' : Nat → Nat} {z u : Nat} {v : Option Nat} (h : PU p p1 s) (hz : z < 12) (hv : p (1 + u) = v) (h1 : s' z = u) (h2 : ∀ k, k ≠ z → s' k = s k) : PU p (fun q => if q = 1 + z then v else p1 q) s' := by
  refine ⟨fun i hi => (if_neg (by omega)).trans (h.1 i hi), fun k hk => ?_⟩
  by_cases e : k = z
  · subst e
    rw [h1]; exact (if_pos rfl).trans hv.symm
  · rw [h2 k e]; exact (if_neg (by omega)).trans (h.2 k hk)
set_option maxRecDepth 100000 in
theorem op_frame_c (hR : CR I M p A) (hc : A 103 12 = ((c : Nat) : Int)) (hx : 0 ≤ x ∧ x < 2) (hy : 0 ≤ y ∧ y < 2147483648) (hok : c < 12 ∧ 0 < A 103 2 ∧ A 103 2 ≤ 40) : jc L xs (d + 3) 7 [.ref 0, .int (iI x), .int (iI y)] (jx_G j I M p) (fun v g1 => ∃ (I' : Nat → Nat → Int32) (p' : Nat → Option Nat) (q : Nat), g1 = jx_G j I' M p' ∧ fr cW I I' ∧ v = some (.int (iI ((q : Nat) : Int))) ∧ FQ A c y q ∧ CR I' M p' (aIn A q c x y)) := by
  unfold jc
  have hv1 := hR.1.1.1
  have hc12 := hR.1.2.2.2.2.2.2.1
  have hNa : ((aN A : Nat) : Int) = A 103 2 := by unfold aN; omega
  have hR0 := hR
  obtain ⟨hv, h1, ⟨Tl, S, σ, h2, h3, h4⟩, h5, hSc, h7, h8, h9⟩ := hR0
  have hv5 := hv.2.2.2.2
  obtain ⟨F, hFe⟩ : ∃ F, σ c = F := ⟨_, rfl⟩
  have hpc : p (1 + c) = some F := (h3.1 c (by omega)).1.trans (congrArg some hFe)
  have hFF : FL F := hFe ▸ (h3.1 c (by omega)).2
  refine jv_iload_n (pc' := 1) (k := 1) (x := (iI x)) rfl rfl rfl rfl ?_
  refine jv_call (pc' := 4) rfl (cl_isLink (by omega)) (fun vq1 gq1 q1 => ?_)
  obtain ⟨rfl, rfl⟩ := q1
  show jx L xs _ 7 4 _ [.int (jb (0 ≤ x ∧ x < 2))] _ _
  refine jv_jb_eq (t := 11) (pc' := 7) (P := 0 ≤ x ∧ x < 2) rfl rfl rfl (fun hz_2 => ?_) (fun hz_2 => ?_)
  · skip
    exfalso; omega
  · skip
    refine jv_iload_n (pc' := 8) (k := 2) (x := (iI y)) rfl rfl rfl rfl ?_
    refine jv_if_ge (t := 19) (pc' := 11) (a := y) rfl rfl rfl (by omega) (fun hz_3 => ?_) (fun hz_3 => ?_)
    · skip
      refine jv_aload_n (pc' := 20) (k := 0) (x := 0) rfl rfl rfl rfl ?_
      refine jv_getI (pc' := 23) (c := 0) (k := 10) (v := (iI ((c : Nat) : Int))) rfl rfl rfl (fun _ _ => rfl) rfl rfl (hR.2.2.2.2.1.1.trans (congrArg iI hc)) ?_
      refine jv_bipush (pc' := 25) (n := 12) rfl rfl rfl ?_
      refine jv_ic_ge (t := 50) (pc' := 28) (a := ((c : Nat) : Int)) (b := 12) rfl rfl rfl (by omega) (fun hz_4 => ?_) (fun hz_4 => ?_)
      · skip
        exfalso; omega
      · skip
        refine jv_aload_n (pc' := 29) (k := 0) (x := 0) rfl rfl rfl rfl ?_
        refine jv_getR (pc' := 32) (c := 0) (k := 0) (v := 1) rfl rfl rfl (fun _ _ => rfl) rfl rfl (jR_0_0 _) ?_
        refine jv_getI (pc' := 35) (c := 1) (k := 1) (v := (iI (A 103 2))) rfl rfl rfl (fun _ _ => rfl) rfl rfl (hR.2.1.1.trans (congrArg iI hNa)) ?_
        refine jv_if_eq (t := 50) (pc' := 38) (a := (A 103 2)) rfl rfl rfl (by omega) (fun hz_5 => ?_) (fun hz_5 => ?_)
        · skip
          exfalso; omega
        · skip
          refine jv_aload_n (pc' := 39) (k := 0) (x := 0) rfl rfl rfl rfl ?_
          refine jv_getR (pc' := 42) (c := 0) (k := 0) (v := 1) rfl rfl rfl (fun _ _ => rfl) rfl rfl (jR_0_0 _) ?_
          refine jv_getI (pc' := 45) (c := 1) (k := 1) (v := (iI (A 103 2))) rfl rfl rfl (fun _ _ => rfl) rfl rfl (hR.2.1.1.trans (congrArg iI hNa)) ?_
          refine jv_bipush (pc' := 47) (n := 40) rfl rfl rfl ?_
          refine jv_ic_le (t := 58) (pc' := 50) (a := (A 103 2)) (b := 40) rfl rfl rfl (by omega) (fun hz_6 => ?_) (fun hz_6 => ?_)
          · skip
            refine jv_aload_n (pc' := 59) (k := 0) (x := 0) rfl rfl rfl rfl ?_
            refine jv_getR (pc' := 62) (c := 0) (k := 3) (v := 13) rfl rfl rfl (fun _ _ => rfl) rfl rfl (jR_0_3 _) ?_
            refine jv_aload_n (pc' := 63) (k := 0) (x := 0) rfl rfl rfl rfl ?_
            refine jv_getI (pc' := 66) (c := 0) (k := 10) (v := (iI ((c : Nat) : Int))) rfl rfl rfl (fun _ _ => rfl) rfl rfl (hR.2.2.2.2.1.1.trans (congrArg iI hc)) ?_
            refine jv_aaload (pc' := 67) (n := 12) (e := ((c : Nat) : Int)) (v := F) rfl rfl rfl rfl rfl (by omega) ((jR13 _ (by omega)).trans hpc) ?_
            refine jv_astore_n (pc' := 68) (k := 3) (x := F) rfl rfl rfl rfl (Or.inr rfl) ?_
            refine jv_aload_n (pc' := 69) (k := 3) (x := F) rfl rfl rfl rfl ?_
            refine jv_iload_n (pc' := 70) (k := 1) (x := (iI x)) rfl rfl rfl rfl ?_
            refine jv_iload_n (pc' := 71) (k := 2) (x := (iI y)) rfl rfl rfl rfl ?_
            refine jv_aload_n (pc' := 72) (k := 0) (x := 0) rfl rfl rfl rfl ?_
            refine jv_getR (pc' := 75) (c := 0) (k := 0) (v := 1) rfl rfl rfl (fun _ _ => rfl) rfl rfl (jR_0_0 _) ?_
            refine jv_callv (pc' := 78) rfl rfl rfl rfl (FL_A hFF j _ _ _) rfl rfl (cl_ffill (I := I) (M := M) (p := p) (F := F) (n := aN A) hFF hR.2.1 (by omega)) (fun v1 g1 q1 => ?_)
            obtain ⟨I1, rfl, rfl, r1, z1, z2, z3, z4⟩ := q1
            have hF2 := FL_2 hFF
            show jx L xs _ 7 78 _ [] _ _
            refine jv_aload_n (pc' := 79) (k := 0) (x := 0) rfl rfl rfl rfl ?_
            refine jv_getI (pc' := 82) (c := 0) (k := 10) (v := (iI ((c : Nat) : Int))) rfl rfl rfl (fun _ _ => rfl) rfl rfl ((r1 0 10 (by omega)).trans (hR.2.2.2.2.1.1.trans (congrArg iI hc))) ?_
            refine jv_istore (pc' := 84) (k := 4) (x := (iI ((c : Nat) : Int))) rfl rfl rfl (Or.inr rfl) ?_
            have H7 : ∀ (N : Nat) (n : Nat) (p1 : Nat → Option Nat) (zn : Int), n < N → (zn = ((n : Nat) : Int)) → (n ≤ c) → (PU p p1 (sUp n c)) → (∀ k, n ≤ k → k < c → y < A 114 k) → ∀ f : jm_F, f 0 = some (.ref 0) → f 1 = some (.int (iI x)) → f 2 = some (.int (iI y)) → f 3 = some (.ref F) → f 4 = some (.int (iI zn)) → jx L xs ((d + 3)) 7 84 f [] (jx_G j I1 M p1) (fun z => ∃ v g1, z = (.inl v, g1) ∧ (fun v g1 => ∃ (I' : Nat → Nat → Int32) (p' : Nat → Option Nat) (q : Nat), g1 = jx_G j I' M p' ∧ fr cW I I' ∧ v = some (.int (iI ((q : Nat) : Int))) ∧ FQ A c y q ∧ CR I' M p' (aIn A q c x y)) v g1) := by
              intro N
              induction N with
              | zero => intro n p1 zn hN; exact absurd hN (Nat.not_lt_zero _)
              | succ N ih =>
                intro n p1 zn hN hzn hn hP hg f hf0 hf1 hf2 hf3 hf4 
                refine jv_iload (pc' := 86) (k := 4) (x := (iI zn)) rfl rfl hf4 ?_
                refine jv_if_le (t := 127) (pc' := 89) (a := zn) rfl rfl rfl (by omega) (fun hz_8 => ?_) (fun hz_8 => ?_)
                · skip
                  refine jv_aload_n (pc' := 128) (k := 0) (x := 0) rfl rfl rfl hf0 ?_
                  refine jv_getR (pc' := 131) (c := 0) (k := 3) (v := 13) rfl rfl rfl (fun _ _ => rfl) rfl rfl (jR_0_3 _) ?_
                  refine jv_iload (pc' := 133) (k := 4) (x := (iI zn)) rfl rfl hf4 ?_
                  refine jv_aload_n (pc' := 134) (k := 3) (x := F) rfl rfl rfl hf3 ?_
                  rw [show zn = ((n : Nat) : Int) by omega]
                  refine jv_aastore (pc' := 135) (n := 12) (i := 1 + (n)) (e := ((n : Nat) : Int)) (v := F) rfl rfl rfl (FL_A hFF j _ _ _) rfl rfl (by omega) (jmi13 (by omega)) ?_
                  refine jv_aload_n (pc' := 136) (k := 0) (x := 0) rfl rfl rfl hf0 ?_
                  refine jx_step (pc' := 137) rfl ?_
                  refine jv_getI (pc' := 140) (c := 0) (k := 10) (v := (iI ((c : Nat) : Int))) rfl rfl rfl (fun _ _ => rfl) rfl rfl ((r1 0 10 (by omega)).trans (hR.2.2.2.2.1.1.trans (congrArg iI hc))) ?_
                  refine jv_iconst (pc' := 141) (n := 1) rfl rfl ?_
                  refine jv_iadd (pc' := 142) (a := ((c : Nat) : Int)) (b := 1) rfl rfl ?_
                  rw [show ((c : Nat) : Int) + 1 = ((c + 1 : Nat) : Int) by omega]
                  refine jv_putI (pc' := 145) (c := 0) (k := 10) rfl rfl rfl rfl (fun _ _ _  => rfl) rfl rfl ?_
                  refine jv_aload_n (pc' := 146) (k := 0) (x := 0) rfl rfl rfl hf0 ?_
                  refine jv_getR (pc' := 149) (c := 0) (k := 0) (v := 1) rfl rfl rfl (fun _ _ => rfl) rfl rfl (jR_0_0 _) ?_
                  refine jv_iconst (pc' := 150) (n := 0) rfl rfl ?_
                  refine jv_putI (pc' := 153) (c := 1) (k := 1) rfl rfl rfl rfl (fun _ _ _  => rfl) rfl rfl ?_
                  refine jv_aload_n (pc' := 154) (k := 0) (x := 0) rfl rfl rfl hf0 ?_
                  refine jv_call (pc' := 157) rfl (cl_forget (I := jm_u (jm_u I1 0 10 (iI ((c + 1 : Nat) : Int))) 1 1 (iI 0))) (fun vq9 gq9 q9 => ?_)
                  obtain ⟨Iq9, rfl, rfl, aq9, bq9, rq9, zq9⟩ := q9
                  show jx L xs _ 7 157 _ [] _ _
                  refine jv_iload (pc' := 159) (k := 4) (x := (iI zn)) rfl rfl hf4 ?_
                  rw [show zn = ((n : Nat) : Int) by omega]
                  refine jv_retI rfl rfl ⟨_, _, rfl, ?_⟩
                  first
                  | (exfalso; omega)
                  | (have hPF : PU p (fun q => if q = 1 + (n) then some F else p1 q) (fun k => if k = n then c else sUp (n) c k) := PU_s hP (by omega) hpc (if_pos rfl) (fun k hk => if_neg hk)
                     have fW : fr (fun l k => wG l k ∨ (l = 0 ∧ k = 10) ∨ (l = 1 ∧ k = 1) ∨ l = F ∨ l = F + 1) I Iq9 := fr_t (fr_u (Or.inr (Or.inr (Or.inl ⟨rfl, rfl⟩))) (fr_u (Or.inr (Or.inl ⟨rfl, rfl⟩)) (fr_w r1 (fun l k h => Or.inr (Or.inr (Or.inr h)))))) (fr_w rq9 (fun l k h => Or.inl h))
                     refine ⟨_, _, n, rfl, fr_w fW (fun l k h => by unfold wG at h; unfold cW; omega), rfl, ⟨by omega, fun k h1 h2 => hg k h1 h2, fun k hk => by first | omega | (have ek : k = i := (by omega); subst ek; omega)⟩, ?_⟩
                     refine CR_frs (s := fun k => if k = n then c else sUp (n) c k) hR fW (fun l k h => by
                       rcases h with h | h | h | h | h
                       · exact Or.inl h
                       · exact Or.inr (Or.inl h)
                       · exact Or.inr (Or.inr (Or.inl h))
                       · exact Or.inr (Or.inr (Or.inr (by omega)))
                       · exact Or.inr (Or.inr (Or.inr (by omega)))) (fun g G k hg hp => ?_) aq9 bq9 zq9 ((rq9 0 10 (by simp [wG])).trans rfl) (fun u hu => ?_) (fun u u' hu hu' he => ?_) hPF.2 hPF.1 ⟨?_, ?_⟩ (fun g hg => ?_) (fun l k h => aIn_7 h) rfl (Or.inr ⟨rfl, (rq9 1 1 (by simp [wG])).trans rfl⟩)
                     · obtain ⟨a1, a2⟩ := h3.1 g (by omega)
                       obtain rfl : σ g = G := Option.some.inj (a1.symm.trans hp)
                       have hne : σ g ≠ F := fun e => absurd (h3.2.1 g c (by omega) (by omega) (e.trans hFe.symm)) (by omega)
                       have := FL_2 a2
                       unfold wG; omega
                     · show (if u = n then c else sUp (n) c u) < 12
                       unfold sUp; split <;> (try split) <;> omega
                     · have he' : (if u = n then c else sUp (n) c u) = (if u' = n then c else sUp (n) c u') := he
                       unfold sUp at he'
                       split at he' <;> split at he' <;> (try split at he') <;> (try split at he') <;> omega
                     · show (0 : Int) ≤ ((c + 1 : Nat) : Int); omega
                     · show ((c + 1 : Nat) : Int) ≤ 12; omega
                     · have hg' : (g : Int) < ((c + 1 : Nat) : Int) := hg
                       by_cases e : g = n
                       · have e' := e.symm
                         subst e'
                         refine Or.inr ⟨F, by rw [if_pos rfl]; exact hpc, ⟨by rw [aIn_1]; exact hx, by rw [aIn_2]; exact hy, by rw [aIn_3]; omega, fun k hk => ?_⟩, ?_, ?_, ?_, fun k hk => ?_⟩
                         · rw [aIn_3] at hk
                           rw [aIn_4 (by omega)]; exact hR.1.1.2 k hk
                         · rw [aIn_3, ← hNa]; exact (rq9 _ _ (by unfold wG; omega)).trans ((jm_u_n2 (by omega)).trans ((jm_u_n2 (by omega)).trans z1))
                         · rw [aIn_1]; exact (rq9 _ _ (by unfold wG; omega)).trans ((jm_u_n2 (by omega)).trans ((jm_u_n2 (by omega)).trans z2))
                         · rw [aIn_2]; exact (rq9 _ _ (by unfold wG; omega)).trans ((jm_u_n2 (by omega)).trans ((jm_u_n2 (by omega)).trans z3))
                         · rw [aIn_3] at hk
                           rw [aIn_4 (by omega)]
                           exact (rq9 _ _ (by unfold wG; omega)).trans ((jm_u_n2 (by omega)).trans ((jm_u_n2 (by omega)).trans ((z4 k (by omega)).trans (congrArg iI (if_pos hk)))))
                       · rw [if_neg e]
                         refine Or.inl ⟨?_, aIn_5 e (by omega), aIn_5 e (by omega), aIn_5 e (by omega), fun k hk => aIn_6 e hk (by omega)⟩
                         unfold sUp; split <;> omega)
                · skip
                  obtain ⟨i, rfl⟩ : ∃ i, n = i + 1 := ⟨n - 1, by omega⟩
                  obtain ⟨hpi, hFi⟩ := h3.1 i (by omega)
                  have hFi2 := FL_2 hFi
                  have hne : σ i ≠ F := fun e => absurd (h3.2.1 i c (by omega) (by omega) (e.trans hFe.symm)) (by omega)
                  have hti : I1 (σ i) 3 = iI (A 114 i) := (r1 _ _ (by omega)).trans (h3.2.2 i (by omega)).2.2.1
                  have hv5i := (hv5.2.2.2 i (by omega)).2.1
                  refine jv_aload_n (pc' := 90) (k := 0) (x := 0) rfl rfl rfl hf0 ?_
                  refine jv_getR (pc' := 93) (c := 0) (k := 3) (v := 13) rfl rfl rfl (fun _ _ => rfl) rfl rfl (jR_0_3 _) ?_
                  refine jv_iload (pc' := 95) (k := 4) (x := (iI zn)) rfl rfl hf4 ?_
                  refine jv_iconst (pc' := 96) (n := 1) rfl rfl ?_
                  refine jv_isub (pc' := 97) (a := zn) (b := 1) rfl rfl ?_
                  rw [show zn - 1 = ((i : Nat) : Int) by omega]
                  refine jv_aaload (pc' := 98) (n := 12) (e := ((i : Nat) : Int)) (v := (σ i)) rfl rfl rfl rfl rfl (by omega) ((jR13 _ (by omega)).trans ((hP.2 i (by omega)).trans (by rw [show sUp (i + 1) c i = i from if_neg (by omega)]; exact hpi))) ?_
                  refine jv_getI (pc' := 101) (c := 5) (k := 3) (v := (iI (A 114 i))) rfl rfl rfl (fun _ _ => rfl) (FL_A hFi j _ _ _) rfl hti ?_
                  refine jv_iload_n (pc' := 102) (k := 2) (x := (iI y)) rfl rfl rfl hf2 ?_
                  refine jv_ic_le (t := 127) (pc' := 105) (a := (A 114 i)) (b := y) rfl rfl rfl (by omega) (fun hz_10 => ?_) (fun hz_10 => ?_)
                  · skip
                    refine jv_aload_n (pc' := 128) (k := 0) (x := 0) rfl rfl rfl hf0 ?_
                    refine jv_getR (pc' := 131) (c := 0) (k := 3) (v := 13) rfl rfl rfl (fun _ _ => rfl) rfl rfl (jR_0_3 _) ?_
                    refine jv_iload (pc' := 133) (k := 4) (x := (iI zn)) rfl rfl hf4 ?_
                    refine jv_aload_n (pc' := 134) (k := 3) (x := F) rfl rfl rfl hf3 ?_
                    rw [show zn = ((i + 1 : Nat) : Int) by omega]
                    refine jv_aastore (pc' := 135) (n := 12) (i := 1 + (i + 1)) (e := ((i + 1 : Nat) : Int)) (v := F) rfl rfl rfl (FL_A hFF j _ _ _) rfl rfl (by omega) (jmi13 (by omega)) ?_
                    refine jv_aload_n (pc' := 136) (k := 0) (x := 0) rfl rfl rfl hf0 ?_
                    refine jx_step (pc' := 137) rfl ?_
                    refine jv_getI (pc' := 140) (c := 0) (k := 10) (v := (iI ((c : Nat) : Int))) rfl rfl rfl (fun _ _ => rfl) rfl rfl ((r1 0 10 (by omega)).trans (hR.2.2.2.2.1.1.trans (congrArg iI hc))) ?_
                    refine jv_iconst (pc' := 141) (n := 1) rfl rfl ?_
                    refine jv_iadd (pc' := 142) (a := ((c : Nat) : Int)) (b := 1) rfl rfl ?_
                    rw [show ((c : Nat) : Int) + 1 = ((c + 1 : Nat) : Int) by omega]
                    refine jv_putI (pc' := 145) (c := 0) (k := 10) rfl rfl rfl rfl (fun _ _ _  => rfl) rfl rfl ?_
                    refine jv_aload_n (pc' := 146) (k := 0) (x := 0) rfl rfl rfl hf0 ?_
                    refine jv_getR (pc' := 149) (c := 0) (k := 0) (v := 1) rfl rfl rfl (fun _ _ => rfl) rfl rfl (jR_0_0 _) ?_
                    refine jv_iconst (pc' := 150) (n := 0) rfl rfl ?_
                    refine jv_putI (pc' := 153) (c := 1) (k := 1) rfl rfl rfl rfl (fun _ _ _  => rfl) rfl rfl ?_
                    refine jv_aload_n (pc' := 154) (k := 0) (x := 0) rfl rfl rfl hf0 ?_
                    refine jv_call (pc' := 157) rfl (cl_forget (I := jm_u (jm_u I1 0 10 (iI ((c + 1 : Nat) : Int))) 1 1 (iI 0))) (fun vq11 gq11 q11 => ?_)
                    obtain ⟨Iq11, rfl, rfl, aq11, bq11, rq11, zq11⟩ := q11
                    show jx L xs _ 7 157 _ [] _ _
                    refine jv_iload (pc' := 159) (k := 4) (x := (iI zn)) rfl rfl hf4 ?_
                    rw [show zn = ((i + 1 : Nat) : Int) by omega]
                    refine jv_retI rfl rfl ⟨_, _, rfl, ?_⟩
                    first
                    | (exfalso; omega)
                    | (have hPF : PU p (fun q => if q = 1 + (i + 1) then some F else p1 q) (fun k => if k = i + 1 then c else sUp (i + 1) c k) := PU_s hP (by omega) hpc (if_pos rfl) (fun k hk => if_neg hk)
                       have fW : fr (fun l k => wG l k ∨ (l = 0 ∧ k = 10) ∨ (l = 1 ∧ k = 1) ∨ l = F ∨ l = F + 1) I Iq11 := fr_t (fr_u (Or.inr (Or.inr (Or.inl ⟨rfl, rfl⟩))) (fr_u (Or.inr (Or.inl ⟨rfl, rfl⟩)) (fr_w r1 (fun l k h => Or.inr (Or.inr (Or.inr h)))))) (fr_w rq11 (fun l k h => Or.inl h))
                       refine ⟨_, _, i + 1, rfl, fr_w fW (fun l k h => by unfold wG at h; unfold cW; omega), rfl, ⟨by omega, fun k h1 h2 => hg k h1 h2, fun k hk => by first | omega | (have ek : k = i := (by omega); subst ek; omega)⟩, ?_⟩
                       refine CR_frs (s := fun k => if k = i + 1 then c else sUp (i + 1) c k) hR fW (fun l k h => by
                         rcases h with h | h | h | h | h
                         · exact Or.inl h
                         · exact Or.inr (Or.inl h)
                         · exact Or.inr (Or.inr (Or.inl h))
                         · exact Or.inr (Or.inr (Or.inr (by omega)))
                         · exact Or.inr (Or.inr (Or.inr (by omega)))) (fun g G k hg hp => ?_) aq11 bq11 zq11 ((rq11 0 10 (by simp [wG])).trans rfl) (fun u hu => ?_) (fun u u' hu hu' he => ?_) hPF.2 hPF.1 ⟨?_, ?_⟩ (fun g hg => ?_) (fun l k h => aIn_7 h) rfl (Or.inr ⟨rfl, (rq11 1 1 (by simp [wG])).trans rfl⟩)
                       · obtain ⟨a1, a2⟩ := h3.1 g (by omega)
                         obtain rfl : σ g = G := Option.some.inj (a1.symm.trans hp)
                         have hne : σ g ≠ F := fun e => absurd (h3.2.1 g c (by omega) (by omega) (e.trans hFe.symm)) (by omega)
                         have := FL_2 a2
                         unfold wG; omega
                       · show (if u = i + 1 then c else sUp (i + 1) c u) < 12
                         unfold sUp; split <;> (try split) <;> omega
                       · have he' : (if u = i + 1 then c else sUp (i + 1) c u) = (if u' = i + 1 then c else sUp (i + 1) c u') := he
                         unfold sUp at he'
                         split at he' <;> split at he' <;> (try split at he') <;> (try split at he') <;> omega
                       · show (0 : Int) ≤ ((c + 1 : Nat) : Int); omega
                       · show ((c + 1 : Nat) : Int) ≤ 12; omega
                       · have hg' : (g : Int) < ((c + 1 : Nat) : Int) := hg
                         by_cases e : g = i + 1
                         · have e' := e.symm
                           subst e'
                           refine Or.inr ⟨F, by rw [if_pos rfl]; exact hpc, ⟨by rw [aIn_1]; exact hx, by rw [aIn_2]; exact hy, by rw [aIn_3]; omega, fun k hk => ?_⟩, ?_, ?_, ?_, fun k hk => ?_⟩
                           · rw [aIn_3] at hk
                             rw [aIn_4 (by omega)]; exact hR.1.1.2 k hk
                           · rw [aIn_3, ← hNa]; exact (rq11 _ _ (by unfold wG; omega)).trans ((jm_u_n2 (by omega)).trans ((jm_u_n2 (by omega)).trans z1))
                           · rw [aIn_1]; exact (rq11 _ _ (by unfold wG; omega)).trans ((jm_u_n2 (by omega)).trans ((jm_u_n2 (by omega)).trans z2))
                           · rw [aIn_2]; exact (rq11 _ _ (by unfold wG; omega)).trans ((jm_u_n2 (by omega)).trans ((jm_u_n2 (by omega)).trans z3))
                           · rw [aIn_3] at hk
                             rw [aIn_4 (by omega)]
                             exact (rq11 _ _ (by unfold wG; omega)).trans ((jm_u_n2 (by omega)).trans ((jm_u_n2 (by omega)).trans ((z4 k (by omega)).trans (congrArg iI (if_pos hk)))))
                         · rw [if_neg e]
                           refine Or.inl ⟨?_, aIn_5 e (by omega), aIn_5 e (by omega), aIn_5 e (by omega), fun k hk => aIn_6 e hk (by omega)⟩
                           unfold sUp; split <;> omega)
                  · skip
                    refine jv_aload_n (pc' := 106) (k := 0) (x := 0) rfl rfl rfl hf0 ?_
                    refine jv_getR (pc' := 109) (c := 0) (k := 3) (v := 13) rfl rfl rfl (fun _ _ => rfl) rfl rfl (jR_0_3 _) ?_
                    refine jv_iload (pc' := 111) (k := 4) (x := (iI zn)) rfl rfl hf4 ?_
                    refine jv_aload_n (pc' := 112) (k := 0) (x := 0) rfl rfl rfl hf0 ?_
                    refine jv_getR (pc' := 115) (c := 0) (k := 3) (v := 13) rfl rfl rfl (fun _ _ => rfl) rfl rfl (jR_0_3 _) ?_
                    refine jv_iload (pc' := 117) (k := 4) (x := (iI zn)) rfl rfl hf4 ?_
                    refine jv_iconst (pc' := 118) (n := 1) rfl rfl ?_
                    refine jv_isub (pc' := 119) (a := zn) (b := 1) rfl rfl ?_
                    rw [show zn - 1 = ((i : Nat) : Int) by omega]
                    refine jv_aaload (pc' := 120) (n := 12) (e := ((i : Nat) : Int)) (v := (σ i)) rfl rfl rfl rfl rfl (by omega) ((jR13 _ (by omega)).trans ((hP.2 i (by omega)).trans (by rw [show sUp (i + 1) c i = i from if_neg (by omega)]; exact hpi))) ?_
                    rw [show zn = ((i + 1 : Nat) : Int) by omega]
                    refine jv_aastore (pc' := 121) (n := 12) (i := 1 + (i + 1)) (e := ((i + 1 : Nat) : Int)) (v := σ i) rfl rfl rfl (FL_A hFi j _ _ _) rfl rfl (by omega) (jmi13 (by omega)) ?_
                    refine jv_iinc (pc' := 124) (k := 4) (a := zn) rfl rfl hf4 rfl (Or.inr (congrArg jm_lng hf3)) ?_
                    refine jx_step (pc' := 84) rfl ?_
                    exact ih i (fun q => if q = 1 + (i + 1) then some (σ i) else p1 q) (zn + (-1)) (by omega) (by omega) (by omega) (PU_s hP (by omega) hpi ((if_pos (by omega)).trans (by omega)) (fun k hk => by
                          unfold sUp
                          by_cases e : i + 1 < k ∧ k ≤ c
                          · rw [if_pos e, if_pos (by omega)]
                          · rw [if_neg e, if_neg (by omega)])) (fun k h1 h2 => by
                          by_cases e : k = i
                          · subst e; omega
                          · exact hg k (by omega) h2) _ hf0 hf1 hf2 hf3 rfl 
            exact H7 _ c p ((c : Nat) : Int) (Nat.lt_succ_self _) rfl (Nat.le_refl _) ⟨fun _ _ => rfl, fun k _ => by rw [show sUp c c k = k from if_neg (by omega)]⟩ (fun k h1 h2 => absurd h2 (by omega)) _ rfl rfl rfl rfl rfl 
          · skip
            exfalso; omega
    · skip
      exfalso; omega
theorem op_drop_t (hx : iR x) (hR : CR I M p A) (hbad : ¬ (0 ≤ x ∧ x < A 103 12)) : jt L xs (d + 1) 8 [.ref 0, .int (iI x)] (jx_G j I M p) 52 (fun g1 => g1 = jx_G (j + 1) I M p) := by
  unfold jt
  refine jv_aload_n (pc' := 1) (k := 0) (x := 0) rfl rfl rfl rfl ?_
  refine jv_iload_n (pc' := 2) (k := 1) (x := (iI x)) rfl rfl rfl rfl ?_
  refine jv_call (pc' := 5) rfl (cl_isFrame (I := I) (M := M) (by omega) hR) (fun vq1 gq1 q1 => ?_)
  obtain ⟨rfl, rfl⟩ := q1
  show jx L xs _ 8 5 _ [.int (jb (0 ≤ x ∧ x < A 103 12))] _ _
  refine jv_jb_ne (t := 16) (pc' := 8) (P := 0 ≤ x ∧ x < A 103 12) rfl rfl rfl (fun hz_2 => ?_) (fun hz_2 => ?_)
  · skip
    exfalso; omega
  · skip
    refine jx_ret0 rfl ⟨_, rfl, ?_⟩
    first
    | (exfalso; omega)
    | rfl
set_option maxRecDepth 100000 in
theorem op_drop_c (hR : CR I M p A) (hc : A 103 12 = ((m + 1 : Nat) : Int)) (hf1 : fd ≤ m) : jc L xs (d + 3) 8 [.ref 0, .int (iI ((fd : Nat) : Int))] (jx_G j I M p) (fun v g1 => ∃ (I' : Nat → Nat → Int32) (p' : Nat → Option Nat), g1 = jx_G j I' M p' ∧ fr cW I I' ∧ v = some (.int (iI (A 114 fd))) ∧ CR I' M p' (aDr A fd m)) := by
  unfold jc
  have hR0 := hR
  obtain ⟨hv, h1, ⟨Tl, S, σ, h2, h3, h4⟩, h5, hSc, h7, h8, h9⟩ := hR0
  have hc12 := hv.2.2.2.2.2.2.1
  obtain ⟨hpf, hFf⟩ := h3.1 fd (by omega)
  have hF2 := FL_2 hFf
  refine jv_aload_n (pc' := 1) (k := 0) (x := 0) rfl rfl rfl rfl ?_
  refine jv_iload_n (pc' := 2) (k := 1) (x := (iI ((fd : Nat) : Int))) rfl rfl rfl rfl ?_
  refine jv_call (pc' := 5) rfl (cl_isFrame (I := I) (M := M) (by omega) hR) (fun vq1 gq1 q1 => ?_)
  obtain ⟨rfl, rfl⟩ := q1
  show jx L xs _ 8 5 _ [.int (jb (0 ≤ ((fd : Nat) : Int) ∧ ((fd : Nat) : Int) < A 103 12))] _ _
  refine jv_jb_ne (t := 16) (pc' := 8) (P := 0 ≤ ((fd : Nat) : Int) ∧ ((fd : Nat) : Int) < A 103 12) rfl rfl rfl (fun hz_2 => ?_) (fun hz_2 => ?_)
  · skip
    refine jv_aload_n (pc' := 17) (k := 0) (x := 0) rfl rfl rfl rfl ?_
    refine jv_getR (pc' := 20) (c := 0) (k := 3) (v := 13) rfl rfl rfl (fun _ _ => rfl) rfl rfl (jR_0_3 _) ?_
    refine jv_iload_n (pc' := 21) (k := 1) (x := (iI ((fd : Nat) : Int))) rfl rfl rfl rfl ?_
    refine jv_aaload (pc' := 22) (n := 12) (e := ((fd : Nat) : Int)) (v := (σ fd)) rfl rfl rfl rfl rfl (by omega) ((jR13 _ (by omega)).trans hpf) ?_
    refine jv_astore_n (pc' := 23) (k := 2) (x := (σ fd)) rfl rfl rfl rfl (Or.inr rfl) ?_
    refine jv_iload_n (pc' := 24) (k := 1) (x := (iI ((fd : Nat) : Int))) rfl rfl rfl rfl ?_
    refine jv_istore_n (pc' := 25) (k := 3) (x := (iI ((fd : Nat) : Int))) rfl rfl rfl rfl (Or.inr rfl) ?_
    have H3 : ∀ (N : Nat) (n : Nat) (p1 : Nat → Option Nat), m - n < N → (fd ≤ n ∧ n ≤ m) → (PU p p1 (sDn fd n)) → ∀ f : jm_F, f 0 = some (.ref 0) → f 1 = some (.int (iI ((fd : Nat) : Int))) → f 2 = some (.ref (σ fd)) → f 3 = some (.int (iI ((n : Nat) : Int))) → jx L xs ((d + 3)) 8 25 f [] (jx_G j I M p1) (fun z => ∃ v g1, z = (.inl v, g1) ∧ (fun v g1 => ∃ (I' : Nat → Nat → Int32) (p' : Nat → Option Nat), g1 = jx_G j I' M p' ∧ fr cW I I' ∧ v = some (.int (iI (A 114 fd))) ∧ CR I' M p' (aDr A fd m)) v g1) := by
      intro N
      induction N with
      | zero => intro n p1 hN; exact absurd hN (Nat.not_lt_zero _)
      | succ N ih =>
        intro n p1 hN hn hP f hf0 hf1 hf2 hf3 
        refine jv_iload_n (pc' := 26) (k := 3) (x := (iI ((n : Nat) : Int))) rfl rfl rfl hf3 ?_
        refine jv_aload_n (pc' := 27) (k := 0) (x := 0) rfl rfl rfl hf0 ?_
        refine jv_getI (pc' := 30) (c := 0) (k := 10) (v := (iI ((m + 1 : Nat) : Int))) rfl rfl rfl (fun _ _ => rfl) rfl rfl (hR.2.2.2.2.1.1.trans (congrArg iI hc)) ?_
        refine jv_iconst (pc' := 31) (n := 1) rfl rfl ?_
        refine jv_isub (pc' := 32) (a := ((m + 1 : Nat) : Int)) (b := 1) rfl rfl ?_
        rw [show ((m + 1 : Nat) : Int) - 1 = ((m : Nat) : Int) by omega]
        refine jv_ic_ge (t := 55) (pc' := 35) (a := ((n : Nat) : Int)) (b := ((m : Nat) : Int)) rfl rfl rfl (by omega) (fun hz_4 => ?_) (fun hz_4 => ?_)
        · skip
          obtain rfl : m = n := by omega
          refine jv_aload_n (pc' := 56) (k := 0) (x := 0) rfl rfl rfl hf0 ?_
          refine jv_getR (pc' := 59) (c := 0) (k := 3) (v := 13) rfl rfl rfl (fun _ _ => rfl) rfl rfl (jR_0_3 _) ?_
          refine jv_aload_n (pc' := 60) (k := 0) (x := 0) rfl rfl rfl hf0 ?_
          refine jv_getI (pc' := 63) (c := 0) (k := 10) (v := (iI ((m + 1 : Nat) : Int))) rfl rfl rfl (fun _ _ => rfl) rfl rfl (hR.2.2.2.2.1.1.trans (congrArg iI hc)) ?_
          refine jv_iconst (pc' := 64) (n := 1) rfl rfl ?_
          refine jv_isub (pc' := 65) (a := ((m + 1 : Nat) : Int)) (b := 1) rfl rfl ?_
          rw [show ((m + 1 : Nat) : Int) - 1 = ((m : Nat) : Int) by omega]
          refine jv_aload_n (pc' := 66) (k := 2) (x := (σ fd)) rfl rfl rfl hf2 ?_
          refine jv_aastore (pc' := 67) (n := 12) (i := 1 + (m)) (e := ((m : Nat) : Int)) (v := σ fd) rfl rfl rfl (FL_A hFf j _ _ _) rfl rfl (by omega) (jmi13 (by omega)) ?_
          refine jv_aload_n (pc' := 68) (k := 0) (x := 0) rfl rfl rfl hf0 ?_
          refine jx_step (pc' := 69) rfl ?_
          refine jv_getI (pc' := 72) (c := 0) (k := 10) (v := (iI ((m + 1 : Nat) : Int))) rfl rfl rfl (fun _ _ => rfl) rfl rfl (hR.2.2.2.2.1.1.trans (congrArg iI hc)) ?_
          refine jv_iconst (pc' := 73) (n := 1) rfl rfl ?_
          refine jv_isub (pc' := 74) (a := ((m + 1 : Nat) : Int)) (b := 1) rfl rfl ?_
          rw [show ((m + 1 : Nat) : Int) - 1 = ((m : Nat) : Int) by omega]
          refine jv_putI (pc' := 77) (c := 0) (k := 10) rfl rfl rfl rfl (fun _ _ _  => rfl) rfl rfl ?_
          refine jv_aload_n (pc' := 78) (k := 0) (x := 0) rfl rfl rfl hf0 ?_
          refine jv_call (pc' := 81) rfl (cl_forget (I := jm_u I 0 10 (iI ((m : Nat) : Int)))) (fun vq5 gq5 q5 => ?_)
          obtain ⟨Iq5, rfl, rfl, aq5, bq5, rq5, zq5⟩ := q5
          show jx L xs _ 8 81 _ [] _ _
          refine jv_aload_n (pc' := 82) (k := 2) (x := (σ fd)) rfl rfl rfl hf2 ?_
          refine jv_getI (pc' := 85) (c := 5) (k := 3) (v := (iI (A 114 fd))) rfl rfl rfl (fun _ _ => rfl) (FL_A hFf j _ _ _) rfl ((rq5 _ _ (by unfold wG; omega)).trans ((jm_u_n2 (by omega)).trans (h3.2.2 fd (by omega)).2.2.1)) ?_
          refine jv_retI rfl rfl ⟨_, _, rfl, ?_⟩
          first
          | (exfalso; omega)
          | (have hPF : PU p (fun q => if q = 1 + (m) then some (σ fd) else p1 q) (fun k => if k = m then fd else sDn fd m k) := PU_s hP (by omega) hpf (if_pos rfl) (fun k hk => if_neg hk)
             have fW : fr (fun l k => wG l k ∨ (l = 0 ∧ k = 10)) I Iq5 := fr_t (fr_u (Or.inr ⟨rfl, rfl⟩) (fr_r _)) (fr_w rq5 (fun l k h => Or.inl h))
             refine ⟨_, _, rfl, fr_w fW (fun l k h => by unfold wG at h; unfold cW; omega), rfl, ?_⟩
             refine CR_frs (s := (fun k => if k = m then fd else sDn fd m k)) hR fW (fun l k h => by
               rcases h with h | h
               · exact Or.inl h
               · exact Or.inr (Or.inl h)) (fun g G k hg hp => ?_) aq5 bq5 zq5 ((rq5 0 10 (by simp [wG])).trans rfl) (fun u hu => ?_) (fun u u' hu hu' he => ?_) hPF.2 hPF.1 ⟨?_, ?_⟩ (fun g hg => ?_) (fun l k h => aDr_3 (by omega)) rfl (Or.inl ⟨rfl, fW 1 1 (by unfold wG; omega)⟩)
             · obtain ⟨a1, a2⟩ := h3.1 g (by omega)
               obtain rfl : σ g = G := Option.some.inj (a1.symm.trans hp)
               have := FL_2 a2
               unfold wG; omega
             · show (if u = m then fd else sDn fd m u) < 12
               unfold sDn; split <;> (try split) <;> omega
             · have he' : (if u = m then fd else sDn fd m u) = (if u' = m then fd else sDn fd m u') := he
               unfold sDn at he'
               split at he' <;> split at he' <;> (try split at he') <;> (try split at he') <;> omega
             · show (0 : Int) ≤ ((m : Nat) : Int); omega
             · show ((m : Nat) : Int) ≤ 12; omega
             · have hg' : (g : Int) < ((m : Nat) : Int) := hg
               rw [if_neg (show ¬ g = m by omega)]
               refine Or.inl ⟨?_, aDr_1 (by omega), aDr_1 (by omega), aDr_1 (by omega), fun k hk => aDr_2 hk⟩
               unfold sDn; split <;> omega)
        · skip
          obtain ⟨hpi, hFi⟩ := h3.1 (n + 1) (by omega)
          refine jv_aload_n (pc' := 36) (k := 0) (x := 0) rfl rfl rfl hf0 ?_
          refine jv_getR (pc' := 39) (c := 0) (k := 3) (v := 13) rfl rfl rfl (fun _ _ => rfl) rfl rfl (jR_0_3 _) ?_
          refine jv_iload_n (pc' := 40) (k := 3) (x := (iI ((n : Nat) : Int))) rfl rfl rfl hf3 ?_
          refine jv_aload_n (pc' := 41) (k := 0) (x := 0) rfl rfl rfl hf0 ?_
          refine jv_getR (pc' := 44) (c := 0) (k := 3) (v := 13) rfl rfl rfl (fun _ _ => rfl) rfl rfl (jR_0_3 _) ?_
          refine jv_iload_n (pc' := 45) (k := 3) (x := (iI ((n : Nat) : Int))) rfl rfl rfl hf3 ?_
          refine jv_iconst (pc' := 46) (n := 1) rfl rfl ?_
          refine jv_iadd (pc' := 47) (a := ((n : Nat) : Int)) (b := 1) rfl rfl ?_
          rw [show ((n : Nat) : Int) + 1 = ((n + 1 : Nat) : Int) by omega]
          refine jv_aaload (pc' := 48) (n := 12) (e := ((n + 1 : Nat) : Int)) (v := (σ (n + 1))) rfl rfl rfl rfl rfl (by omega) ((jR13 _ (by omega)).trans ((hP.2 (n + 1) (by omega)).trans (by rw [show sDn fd n (n + 1) = n + 1 from if_neg (by omega)]; exact hpi))) ?_
          refine jv_aastore (pc' := 49) (n := 12) (i := 1 + (n)) (e := ((n : Nat) : Int)) (v := σ (n + 1)) rfl rfl rfl (FL_A hFi j _ _ _) rfl rfl (by omega) (jmi13 (by omega)) ?_
          refine jv_iinc (pc' := 52) (k := 3) (a := ((n : Nat) : Int)) rfl rfl hf3 rfl (Or.inr (congrArg jm_lng hf2)) ?_
          refine jx_step (pc' := 25) rfl ?_
          exact ih (n + 1) (fun q => if q = 1 + (n) then some (σ (n + 1)) else p1 q) (by omega) (by omega) (PU_s hP (by omega) hpi (if_pos (by omega)) (fun k hk => by
                unfold sDn
                by_cases e : fd ≤ k ∧ k < n
                · rw [if_pos e, if_pos (by omega)]
                · rw [if_neg e, if_neg (by omega)])) _ hf0 hf1 hf2 rfl 
    exact H3 _ fd p (Nat.lt_succ_self _) (by omega) ⟨fun _ _ => rfl, fun k _ => by rw [show sDn fd fd k = k from if_neg (by omega)]⟩ _ rfl rfl rfl rfl 
  · skip
    exfalso; omega
end H11
