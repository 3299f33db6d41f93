/-! Paths of the flat reading; the items of a layer as the class keeps them, along the text. -/
def PR (c : Nat → Int) : Nat → Nat → Nat → List Bool → Nat → Nat → List Bool → Prop
  | 0, a, F, s, a', F', s' => a = a' ∧ F = F' ∧ s = s'
  | k + 1, a, F, s, a', F', s' => (a ≤ 80 ∧ F < 256 ∧ s.length ≤ 4) ∧ ∃ a1 F1 s1, PS c a F s a1 F1 s1 ∧ PR c k a1 F1 s1 a' F' s'
theorem PR_app {c : Nat → Int} : ∀ {k l a F : Nat} {s : List Bool} {a1 F1 : Nat} {s1 : List Bool} {a2 F2 : Nat} {s2 : List Bool}, PR c k a F s a1 F1 s1 → PR c l a1 F1 s1 a2 F2 s2 → PR c (k + l) a F s a2 F2 s2 := by
  intro k
  induction k with
  | zero =>
    intro l a F s a1 F1 s1 a2 F2 s2 h q
    obtain ⟨rfl, rfl, rfl⟩ := h
    rw [Nat.zero_add]
    exact q
  | succ k ih =>
    intro l a F s a1 F1 s1 a2 F2 s2 h q
    obtain ⟨hb, x, y, z, hs, h⟩ := h
    rw [Nat.succ_add]
    exact ⟨hb, x, y, z, hs, ih h q⟩
theorem PR_1 {c : Nat → Int} {a F : Nat} {s : List Bool} {a' F' : Nat} {s' : List Bool} (hb : a ≤ 80 ∧ F < 256 ∧ s.length ≤ 4) (h : PS c a F s a' F' s') : PR c 1 a F s a' F' s' := ⟨hb, _, _, _, h, rfl, rfl, rfl⟩
theorem PR_PE {c : Nat → Int} {n : Nat} {ok : Bool} {e : Nat} : ∀ {k l a F : Nat} {s : List Bool} {a1 F1 : Nat} {s1 : List Bool}, PR c k a F s a1 F1 s1 → PE c n l a1 F1 s1 ok e → PE c n (k + l) a F s ok e := by
  intro k
  induction k with
  | zero =>
    intro l a F s a1 F1 s1 h q
    obtain ⟨rfl, rfl, rfl⟩ := h
    rw [Nat.zero_add]
    exact q
  | succ k ih =>
    intro l a F s a1 F1 s1 h q
    obtain ⟨hb, x, y, z, hs, h⟩ := h
    rw [Nat.succ_add]
    exact ⟨hb, x, y, z, hs, ih h q⟩
/-- items: rows 0 kind, 1 name, 2 number, 3 inside; by name 4 width, 5 swapped -/
def FI (c : Nat → Int) (Y : Nat → Nat → Int) (f a e : Nat) : Prop :=
  (97 ≤ c a ∧ c a ≤ 104) ∧ Y 1 f = c a - 97 ∧ 0 < nd c (a + 1) ∧ (1 ≤ nv c (a + 1) ∧ nv c (a + 1) ≤ 32) ∧ Y 4 (c a - 97).toNat = nv c (a + 1) ∧
  ∃ a2, ((c (fd1 c a) = 60 ∧ a2 = fd1 c a + 1 ∧ Y 5 (c a - 97).toNat = 1 ∧ (nv c (a + 1) = 16 ∨ nv c (a + 1) = 24 ∨ nv c (a + 1) = 32)) ∨ (c (fd1 c a) ≠ 60 ∧ a2 = fd1 c a ∧ Y 5 (c a - 97).toNat = 0)) ∧
    ((c a2 = 61 ∧ 0 < nd c (a2 + 1) ∧ Y 0 f = 1 ∧ Y 2 f = nv c (a2 + 1) ∧ e = a2 + 1 + nd c (a2 + 1)) ∨ (c a2 = 33 ∧ Y 0 f = 2 ∧ e = a2 + 1) ∨ (c a2 ≠ 61 ∧ c a2 ≠ 33 ∧ Y 0 f = 0 ∧ e = a2))
def CN (c : Nat → Int) (Y : Nat → Nat → Int) (f a : Nat) : Prop := (c a = 42 ∧ Y 1 f = -1) ∨ (c a ≠ 42 ∧ (97 ≤ c a ∧ c a ≤ 104) ∧ Y 1 f = c a - 97)
def BK (c : Nat → Int) (Y : Nat → Nat → Int) (f a : Nat) : Prop := c a = 36 ∧ Y 0 f = 3 ∧ CN c Y f (a + 1)
def HD (c : Nat → Int) (Y : Nat → Nat → Int) (f a b : Nat) : Prop :=
  (c a = 35 ∧ Y 0 f = 4 ∧ CN c Y f (a + 1) ∧ c (a + 2) = 40 ∧ b = a + 3)
  ∨ (c a = 63 ∧ (97 ≤ c (a + 1) ∧ c (a + 1) ≤ 104) ∧ Y 1 f = c (a + 1) - 97 ∧ ((c (a + 2) = 61 ∧ Y 0 f = 5) ∨ (c (a + 2) = 60 ∧ Y 0 f = 6)) ∧ 0 < nd c (a + 3) ∧ Y 2 f = nv c (a + 3) ∧ c (a + 3 + nd c (a + 3)) = 40 ∧ b = a + 3 + nd c (a + 3) + 1)
/-- the items f .. t of one level are the text from a to b; h levels may lie inside -/
def IT (c : Nat → Int) (Y : Nat → Nat → Int) : Nat → Nat → Nat → Nat → Nat → Nat → Prop
  | 0, _, f, t, a, b => f = t ∧ a = b
  | q + 1, h, f, t, a, b => (f = t ∧ a = b) ∨ (f < t ∧ ∃ e, ((FI c Y f a e ∧ IT c Y q h (f + 1) t e b) ∨ (BK c Y f a ∧ e = a + 2 ∧ IT c Y q h (f + 1) t e b)
      ∨ ∃ b1 e1 g : Nat, HD c Y f a b1 ∧ (0 < h ∧ IT c Y q (h - 1) (f + 1) g b1 e1) ∧ c e1 = 41 ∧ e = e1 + 1 ∧ Y 3 f = (g : Int) - ((f : Int) + 1) ∧ f + 1 ≤ g ∧ g ≤ t ∧ IT c Y q h g t e b))
theorem IT_le {c : Nat → Int} {Y : Nat → Nat → Int} : ∀ {q h f t a b : Nat}, IT c Y q h f t a b → f ≤ t := by
  intro q
  cases q with
  | zero => intro h f t a b h; exact Nat.le_of_eq h.1
  | succ q =>
    intro h f t a b h
    rcases h with h | h
    · exact Nat.le_of_eq h.1
    · exact Nat.le_of_lt h.1
theorem IT_s {c : Nat → Int} {Y : Nat → Nat → Int} : ∀ {q h f t a b : Nat}, IT c Y q h f t a b → IT c Y (q + 1) h f t a b := by
  intro q
  induction q with
  | zero => intro h f t a b h; exact Or.inl h
  | succ q ih =>
    intro h f t a b h
    rcases h with h | ⟨hf, e, h⟩
    · exact Or.inl h
    · refine Or.inr ⟨hf, e, ?_⟩
      rcases h with ⟨h1, h2⟩ | ⟨h1, h2, h3⟩ | ⟨b1, e1, g, h1, ⟨h0, h2⟩, h3, h4, h5, h6, h7, h8⟩
      · exact Or.inl ⟨h1, ih h2⟩
      · exact Or.inr (Or.inl ⟨h1, h2, ih h3⟩)
      · exact Or.inr (Or.inr ⟨b1, e1, g, h1, ⟨h0, ih h2⟩, h3, h4, h5, h6, h7, ih h8⟩)
theorem IT_m {c : Nat → Int} {Y : Nat → Nat → Int} {q z f t a b : Nat} (h : IT c Y q z f t a b) : ∀ {q' : Nat}, q ≤ q' → IT c Y q' z f t a b := by
  intro q' hq
  obtain ⟨x, rfl⟩ : ∃ x, q' = q + x := ⟨q' - q, by omega⟩
  clear hq
  induction x with
  | zero => exact h
  | succ x ih => exact IT_s ih
theorem IT_app {c : Nat → Int} {Y : Nat → Nat → Int} : ∀ {q r h f t u a b e : Nat}, IT c Y q h f t a b → IT c Y r h t u b e → IT c Y (q + r) h f u a e := by
  intro q
  induction q with
  | zero =>
    intro r h f t u a b e h k
    obtain ⟨rfl, rfl⟩ := h
    rw [Nat.zero_add]
    exact k
  | succ q ih =>
    intro r h f t u a b e h k
    have hu := IT_le k
    rcases h with ⟨rfl, rfl⟩ | ⟨hf, x, h⟩
    · exact IT_m k (by omega)
    · rw [Nat.succ_add]
      refine Or.inr ⟨by omega, x, ?_⟩
      rcases h with ⟨h1, h2⟩ | ⟨h1, h2, h3⟩ | ⟨b1, e1, g, h1, ⟨h0, h2⟩, h3, h4, h5, h6, h7, h8⟩
      · exact Or.inl ⟨h1, ih h2 k⟩
      · exact Or.inr (Or.inl ⟨h1, h2, ih h3 k⟩)
      · exact Or.inr (Or.inr ⟨b1, e1, g, h1, ⟨h0, IT_m h2 (by omega)⟩, h3, h4, h5, h6, by omega, ih h8 k⟩)
/-- later writes leave the items f .. t as they are -/
def YX (f t : Nat) (Y Y' : Nat → Nat → Int) : Prop := (∀ r, r < 4 → ∀ k, f ≤ k → k < t → Y' r k = Y r k) ∧ (∀ i, 0 < Y 4 i → Y' 4 i = Y 4 i ∧ Y' 5 i = Y 5 i)
theorem FI_x {c : Nat → Int} {Y Y' : Nat → Nat → Int} {f t k a e : Nat} (h : YX f t Y Y') (h1 : f ≤ k) (h2 : k < t) (q : FI c Y k a e) : FI c Y' k a e := by
  obtain ⟨q1, q2, q3, q4, q5, a2, q6, q7⟩ := q
  have hw := h.2 (c a - 97).toNat (by rw [q5]; omega)
  have y0 := h.1 0 (by decide) k h1 h2
  have y1 := h.1 1 (by decide) k h1 h2
  have y2 := h.1 2 (by decide) k h1 h2
  refine ⟨q1, by rw [y1]; exact q2, q3, q4, by rw [hw.1]; exact q5, a2, ?_, ?_⟩
  · rw [hw.2]; exact q6
  · rw [y0, y2]; exact q7
theorem CN_x {c : Nat → Int} {Y Y' : Nat → Nat → Int} {k a : Nat} (h : Y' 1 k = Y 1 k) (q : CN c Y k a) : CN c Y' k a := by
  unfold CN; rw [h]; exact q
theorem BK_x {c : Nat → Int} {Y Y' : Nat → Nat → Int} {f t k a : Nat} (h : YX f t Y Y') (h1 : f ≤ k) (h2 : k < t) (q : BK c Y k a) : BK c Y' k a :=
  ⟨q.1, by rw [h.1 0 (by decide) k h1 h2]; exact q.2.1, CN_x (h.1 1 (by decide) k h1 h2) q.2.2⟩
theorem HD_x {c : Nat → Int} {Y Y' : Nat → Nat → Int} {f t k a b : Nat} (h : YX f t Y Y') (h1 : f ≤ k) (h2 : k < t) (q : HD c Y k a b) : HD c Y' k a b := by
  have y0 := h.1 0 (by decide) k h1 h2
  have y1 := h.1 1 (by decide) k h1 h2
  have y2 := h.1 2 (by decide) k h1 h2
  rcases q with ⟨q1, q2, q3, q4⟩ | q
  · exact Or.inl ⟨q1, by rw [y0]; exact q2, CN_x y1 q3, q4⟩
  · refine Or.inr ?_
    rw [y0, y1, y2]; exact q
theorem IT_x {c : Nat → Int} {Y Y' : Nat → Nat → Int} {f t : Nat} (h : YX f t Y Y') : ∀ {q z k u a b : Nat}, f ≤ k → u ≤ t → IT c Y q z k u a b → IT c Y' q z k u a b := by
  intro q
  induction q with
  | zero => intro z k u a b _ _ q; exact q
  | succ q ih =>
    intro z k u a b h1 h2 q
    rcases q with q | ⟨hf, e, q⟩
    · exact Or.inl q
    · refine Or.inr ⟨hf, e, ?_⟩
      rcases q with ⟨q1, q2⟩ | ⟨q1, q2, q3⟩ | ⟨b1, e1, g, q1, ⟨q0, q2⟩, q3, q4, q5, q6, q7, q8⟩
      · exact Or.inl ⟨FI_x h h1 (by omega) q1, ih (by omega) h2 q2⟩
      · exact Or.inr (Or.inl ⟨BK_x h h1 (by omega) q1, q2, ih (by omega) h2 q3⟩)
      · exact Or.inr (Or.inr ⟨b1, e1, g, HD_x h h1 (by omega) q1, ⟨q0, ih (by omega) (by omega) q2⟩, q3, q4, by rw [h.1 3 (by decide) k h1 (by omega)]; exact q5, q6, q7, ih (by omega) h2 q8⟩)
theorem YX_r (f t : Nat) (Y : Nat → Nat → Int) : YX f t Y Y := ⟨fun _ _ _ _ _ => rfl, fun _ _ => ⟨rfl, rfl⟩⟩
theorem YX_t {f t : Nat} {Y Y1 Y2 : Nat → Nat → Int} (h : YX f t Y Y1) (q : YX f t Y1 Y2) : YX f t Y Y2 :=
  ⟨fun r hr k h1 h2 => (q.1 r hr k h1 h2).trans (h.1 r hr k h1 h2), fun i hi => by
    have e := h.2 i hi
    have e2 := q.2 i (by rw [e.1]; exact hi)
    exact ⟨e2.1.trans e.1, e2.2.trans e.2⟩⟩
theorem YX_m {f t f' t' : Nat} {Y Y' : Nat → Nat → Int} (h : YX f t Y Y') (hf : f ≤ f') (ht : t' ≤ t) : YX f' t' Y Y' :=
  ⟨fun r hr k h1 h2 => h.1 r hr k (by omega) (by omega), h.2⟩
/-- an item more; a field's width; what is inside -/
def Yad (Y : Nat → Nat → Int) (m : Nat) (kd nm nu : Int) : Nat → Nat → Int := fun r k => if r < 4 ∧ k = m then (if r = 0 then kd else if r = 1 then nm else if r = 2 then nu else 0) else Y r k
def Ywd (Y : Nat → Nat → Int) (i : Nat) (w s : Int) : Nat → Nat → Int := fun r k => if r = 4 ∧ k = i then w else if r = 5 ∧ k = i then s else Y r k
def Yin (Y : Nat → Nat → Int) (m : Nat) (v : Int) : Nat → Nat → Int := fun r k => if r = 3 ∧ k = m then v else Y r k
theorem YX_ad (Y : Nat → Nat → Int) {f m : Nat} (kd nm nu : Int) : YX f m Y (Yad Y m kd nm nu) :=
  ⟨fun r hr k h1 h2 => if_neg (by omega), fun i hi => ⟨if_neg (by omega), if_neg (by omega)⟩⟩
theorem YX_wd {Y : Nat → Nat → Int} {f m i : Nat} {w s : Int} (h : ¬ 0 < Y 4 i) : YX f m Y (Ywd Y i w s) :=
  ⟨fun r hr k h1 h2 => (if_neg (by omega)).trans (if_neg (by omega)), fun k hk => by
    have : k ≠ i := fun e => h (e ▸ hk)
    exact ⟨(if_neg (by omega)).trans (if_neg (by omega)), (if_neg (by omega)).trans (if_neg (by omega))⟩⟩
theorem YX_in {Y : Nat → Nat → Int} {f t m : Nat} {v : Int} (h : m < f) : YX f t Y (Yin Y m v) :=
  ⟨fun r hr k h1 h2 => if_neg (by omega), fun i hi => ⟨if_neg (by omega), if_neg (by omega)⟩⟩
/-- the names with a width are the names that stand before -/
def NF (Y : Nat → Nat → Int) (F : Nat) : Prop := ∀ i, i < 8 → (F.testBit i = true ↔ 0 < Y 4 i)
theorem NF_ad {Y : Nat → Nat → Int} {F m : Nat} {kd nm nu : Int} (h : NF Y F) : NF (Yad Y m kd nm nu) F := fun i hi => by
  have e : Yad Y m kd nm nu 4 i = Y 4 i := if_neg (by omega)
  rw [e]; exact h i hi
theorem NF_in {Y : Nat → Nat → Int} {F m : Nat} {v : Int} (h : NF Y F) : NF (Yin Y m v) F := fun i hi => by
  have e : Yin Y m v 4 i = Y 4 i := if_neg (by omega)
  rw [e]; exact h i hi
theorem NF_wd {Y : Nat → Nat → Int} {F i : Nat} {w s : Int} (h : NF Y F) (hw : 0 < w) : NF (Ywd Y i w s) (F ||| 2 ^ i) := fun k hk => by
  rw [Nat.testBit_or, Nat.testBit_two_pow]
  by_cases e : i = k
  · subst e
    have e2 : Ywd Y i w s 4 i = w := if_pos ⟨rfl, rfl⟩
    rw [e2]; simp [hw]
  · have e2 : Ywd Y i w s 4 k = Y 4 k := (if_neg (by omega)).trans (if_neg (by omega))
    rw [e2]; simp [e, h k hk]
