/-! Filters: tests, and the flat machines for their form and their truth. -/
noncomputable def fitN (op v num : Int) : Prop := if op = 61 then v = num else if op = 60 then v < num else if op = 62 then num < v else ¬ (lI v &&& lI num = lI 0)
abbrev cm (x : Int) : Prop := x = 61 ∨ x = 60 ∨ x = 62 ∨ x = 126
def mo (x : Int) : Nat := if x = 61 then 3 else 0
def nq (c : Nat → Int) : Nat → Nat → List Int
  | 0, _ => []
  | k + 1, a => if c a = 44 ∧ 0 < nd c (a + 1) then nv c (a + 1) :: nq c k (a + 1 + nd c (a + 1)) else []
def qA (c : Nat → Int) : Nat → Nat → Nat
  | 0, a => a
  | k + 1, a => if c a = 44 then (if 0 < nd c (a + 1) then qA c k (a + 1 + nd c (a + 1)) else a + 1) else a
def qO (c : Nat → Int) : Nat → Nat → Prop
  | 0, _ => True
  | k + 1, a => c a = 44 → (0 < nd c (a + 1) ∧ qO c k (a + 1 + nd c (a + 1)))
def cO (c : Nat → Int) (a : Nat) : Prop := cm (c a) → (0 < nd c (a + 1) ∧ qO c (mo (c a)) (a + 1 + nd c (a + 1)))
def cA (c : Nat → Int) (a : Nat) : Nat := if cm (c a) then (if 0 < nd c (a + 1) then qA c (mo (c a)) (a + 1 + nd c (a + 1)) else a + 1) else a
def cN (c : Nat → Int) (a : Nat) : List Int := if cm (c a) then nv c (a + 1) :: nq c (mo (c a)) (a + 1 + nd c (a + 1)) else []
abbrev ts1 (c : Nat → Int) (a : Nat) : Prop := 48 ≤ c a ∧ c a ≤ 51
abbrev ts2 (c : Nat → Int) (a : Nat) : Prop := c (a + 1) = 36 ∨ (97 ≤ c (a + 1) ∧ c (a + 1) ≤ 104)
def tO (c : Nat → Int) (a : Nat) : Prop := ts1 c a ∧ ts2 c a ∧ cO c (a + 2)
def tA (c : Nat → Int) (a : Nat) : Nat := if ts1 c a then (if ts2 c a then cA c (a + 2) else a + 1) else a
def nmq (c : Nat → Int) (a : Nat) : Int := if c (a + 1) = 36 then 8 else c (a + 1) - 97
def fitP (c : Nat → Int) (a : Nat) (v : Int) : Prop := cN c a = [] ∨ ∃ x, x ∈ cN c a ∧ fitN (c a) v x
def tV (c : Nat → Int) (s : DSt) (a : Nat) : Prop := ∃ k : Nat, (k : Int) < s 0 2 ∧ (s 3 k = c a - 48 ∧ s 4 k = nmq c a ∧ s 7 k ≠ 1 ∧ s 7 k ≠ 4) ∧ fitP c (a + 2) (s 8 k)
theorem nd_in {c : Nat → Int} {n a : Nat} (hn : ∀ k, n ≤ k → c k = -1) (ha : a ≤ n) : a + nd c a ≤ n := by
  have h : ∀ k a, a ≤ n → a + ndk c k a ≤ n := by
    intro k
    induction k with
    | zero => intro a ha; exact ha
    | succ k ih =>
      intro a ha
      unfold ndk
      split
      next q =>
        have h1 : a < n := by
          by_cases e : a < n
          · exact e
          · have := hn a (by omega); unfold dg at q; omega
        have := ih (a + 1) (by omega)
        omega
      · omega
  exact h 6 a ha
theorem qA_b {c : Nat → Int} {n : Nat} (hn : ∀ k, n ≤ k → c k = -1) : ∀ k a, a ≤ n → a ≤ qA c k a ∧ qA c k a ≤ n := by
  intro k
  induction k with
  | zero => intro a ha; exact ⟨Nat.le_refl _, ha⟩
  | succ k ih =>
    intro a ha
    unfold qA
    by_cases h : c a = 44
    · have h1 : a < n := by
        by_cases e : a < n
        · exact e
        · have := hn a (by omega); omega
      rw [if_pos h]
      have h2 := nd_in hn (a := a + 1) (by omega)
      split
      · have := ih (a + 1 + nd c (a + 1)) h2; omega
      · omega
    · rw [if_neg h]; omega
theorem cA_b {c : Nat → Int} {n : Nat} (hn : ∀ k, n ≤ k → c k = -1) {a : Nat} (ha : a ≤ n) : a ≤ cA c a ∧ cA c a ≤ n := by
  unfold cA
  by_cases h : cm (c a)
  · have h1 : a < n := by
      by_cases e : a < n
      · exact e
      · have := hn a (by omega); unfold cm at h; omega
    rw [if_pos h]
    have h2 := nd_in hn (a := a + 1) (by omega)
    split
    · have := qA_b hn (mo (c a)) (a + 1 + nd c (a + 1)) h2; omega
    · omega
  · rw [if_neg h]; omega
theorem tA_b {c : Nat → Int} {n : Nat} (hn : ∀ k, n ≤ k → c k = -1) {a : Nat} (ha : a ≤ n) : a ≤ tA c a ∧ tA c a ≤ n := by
  have hx : ∀ x, c x ≠ -1 → x < n := fun x h => by
    by_cases e : x < n
    · exact e
    · exact absurd (hn x (by omega)) h
  unfold tA
  split
  next h =>
    have := hx a (by omega)
    split
    next h2 =>
      have := hx (a + 1) (by omega)
      have := cA_b hn (a := a + 2) (by omega)
      omega
    · omega
  · omega
/-- the form: md 0 where a factor may stand, md 1 behind one; true a bracket, false a not -/
def QS (c : Nat → Int) (md a : Nat) (k : List Bool) (md' a' : Nat) (k' : List Bool) : Prop :=
  (md = 0 ∧ md' = 0 ∧ (c a = 33 ∨ c a = 40) ∧ k.length < 8 ∧ a' = a + 1 ∧ ((c a = 33 ∧ k' = false :: k) ∨ (c a = 40 ∧ k' = true :: k)))
  ∨ (md = 0 ∧ md' = 1 ∧ (c a ≠ 33 ∧ c a ≠ 40) ∧ tO c a ∧ a' = tA c a ∧ k' = k)
  ∨ (md = 1 ∧ md' = 1 ∧ k = false :: k' ∧ a' = a)
  ∨ (md = 1 ∧ md' = 1 ∧ k = true :: k' ∧ c a = 41 ∧ a' = a + 1)
  ∨ (md = 1 ∧ md' = 0 ∧ (k = [] ∨ ∃ r, k = true :: r) ∧ (c a = 38 ∨ c a = 124) ∧ a' = a + 1 ∧ k' = k)
def QF (c : Nat → Int) (n md a : Nat) (k : List Bool) (ok : Bool) (e : Nat) : Prop :=
  (md = 0 ∧ (c a = 33 ∨ c a = 40) ∧ ¬ k.length < 8 ∧ ok = false ∧ e = a)
  ∨ (md = 0 ∧ (c a ≠ 33 ∧ c a ≠ 40) ∧ ¬ tO c a ∧ ok = false ∧ e = tA c a)
  ∨ (md = 1 ∧ k = [] ∧ (c a ≠ 38 ∧ c a ≠ 124) ∧ ok = decide (a = n) ∧ e = a)
  ∨ (md = 1 ∧ (∃ r, k = true :: r) ∧ (c a ≠ 38 ∧ c a ≠ 124 ∧ c a ≠ 41) ∧ ok = false ∧ e = a)
def QB (a : Nat) (k : List Bool) : Prop := a ≤ 80 ∧ k.length ≤ 8
def QR (c : Nat → Int) : Nat → Nat → Nat → List Bool → Nat → Nat → List Bool → Prop
  | 0, md, a, k, md', a', k' => md = md' ∧ a = a' ∧ k = k'
  | n + 1, md, a, k, md', a', k' => QB a k ∧ ∃ md1 a1 k1, QS c md a k md1 a1 k1 ∧ QR c n md1 a1 k1 md' a' k'
def QE (c : Nat → Int) (n : Nat) : Nat → Nat → Nat → List Bool → Bool → Nat → Prop
  | 0, md, a, k, ok, e => QB a k ∧ QF c n md a k ok e
  | m + 1, md, a, k, ok, e => QB a k ∧ ∃ md1 a1 k1, QS c md a k md1 a1 k1 ∧ QE c n m md1 a1 k1 ok e
theorem QR_app {c : Nat → Int} : ∀ {n m md a : Nat} {k : List Bool} {md1 a1 : Nat} {k1 : List Bool} {md2 a2 : Nat} {k2 : List Bool}, QR c n md a k md1 a1 k1 → QR c m md1 a1 k1 md2 a2 k2 → QR c (n + m) md a k md2 a2 k2 := by
  intro n
  induction n with
  | zero =>
    intro m md a k md1 a1 k1 md2 a2 k2 h q
    obtain ⟨rfl, rfl, rfl⟩ := h
    rw [Nat.zero_add]
    exact q
  | succ n ih =>
    intro m md a k md1 a1 k1 md2 a2 k2 h q
    obtain ⟨hb, x, y, z, hs, h⟩ := h
    rw [Nat.succ_add]
    exact ⟨hb, x, y, z, hs, ih h q⟩
theorem QR_1 {c : Nat → Int} {md a : Nat} {k : List Bool} {md1 a1 : Nat} {k1 : List Bool} (hb : QB a k) (h : QS c md a k md1 a1 k1) : QR c 1 md a k md1 a1 k1 := ⟨hb, _, _, _, h, rfl, rfl, rfl⟩
theorem QR_QE {c : Nat → Int} {n : Nat} {ok : Bool} {e : Nat} : ∀ {i m md a : Nat} {k : List Bool} {md1 a1 : Nat} {k1 : List Bool}, QR c i md a k md1 a1 k1 → QE c n m md1 a1 k1 ok e → QE c n (i + m) md a k ok e := by
  intro i
  induction i with
  | zero =>
    intro m md a k md1 a1 k1 h q
    obtain ⟨rfl, rfl, rfl⟩ := h
    rw [Nat.zero_add]
    exact q
  | succ i ih =>
    intro m md a k md1 a1 k1 h q
    obtain ⟨hb, x, y, z, hs, h⟩ := h
    rw [Nat.succ_add]
    exact ⟨hb, x, y, z, hs, ih h q⟩
theorem QS_det {c : Nat → Int} {md a : Nat} {k : List Bool} {md1 a1 : Nat} {k1 : List Bool} {md2 a2 : Nat} {k2 : List Bool} (h : QS c md a k md1 a1 k1) (q : QS c md a k md2 a2 k2) : md1 = md2 ∧ a1 = a2 ∧ k1 = k2 := by
  rcases h with ⟨h0, h1, h2, h3, h4, h5⟩ | ⟨h0, h1, h2, h3, h4, h5⟩ | ⟨h0, h1, h2, h3⟩ | ⟨h0, h1, h2, h3, h4⟩ | ⟨h0, h1, h2, h3, h4, h5⟩ <;> rcases q with ⟨q0, q1, q2, q3, q4, q5⟩ | ⟨q0, q1, q2, q3, q4, q5⟩ | ⟨q0, q1, q2, q3⟩ | ⟨q0, q1, q2, q3, q4⟩ | ⟨q0, q1, q2, q3, q4, q5⟩ <;> first | (exfalso; omega) | skip
  · refine ⟨by omega, by omega, ?_⟩
    rcases h5 with ⟨a1, a2⟩ | ⟨a1, a2⟩ <;> rcases q5 with ⟨b1, b2⟩ | ⟨b1, b2⟩ <;> first | (exfalso; omega) | (rw [a2, b2])
  · exact ⟨by omega, by omega, by rw [h5, q5]⟩
  · rw [h2] at q2; cases q2; exact ⟨by omega, by omega, rfl⟩
  · rw [h2] at q2; cases q2
  · rcases q2 with q2 | ⟨r, q2⟩ <;> (rw [h2] at q2; cases q2)
  · rw [h2] at q2; cases q2
  · rw [h2] at q2; cases q2; exact ⟨by omega, by omega, rfl⟩
  · rcases h2 with h2 | ⟨r, h2⟩ <;> (rw [h2] at q2; cases q2)
  · exact ⟨by omega, by omega, by rw [h5, q5]⟩
theorem QS_QF {c : Nat → Int} {n md a : Nat} {k : List Bool} {md1 a1 : Nat} {k1 : List Bool} {ok : Bool} {e : Nat} (h : QS c md a k md1 a1 k1) (q : QF c n md a k ok e) : False := by
  rcases h with ⟨h0, h1, h2, h3, h4, h5⟩ | ⟨h0, h1, h2, h3, h4, h5⟩ | ⟨h0, h1, h2, h3⟩ | ⟨h0, h1, h2, h3, h4⟩ | ⟨h0, h1, h2, h3, h4, h5⟩ <;> rcases q with ⟨q0, q1, q2, q3⟩ | ⟨q0, q1, q2, q3⟩ | ⟨q0, q1, q2, q3⟩ | ⟨q0, ⟨r, q1⟩, q2, q3⟩ <;> first | omega | (exact absurd h3 q2) | (rw [h2] at q1; cases q1)
theorem QE_det {c : Nat → Int} {n : Nat} {ok1 ok2 : Bool} {e1 e2 : Nat} : ∀ {i m md a : Nat} {k : List Bool}, QE c n i md a k ok1 e1 → QE c n m md a k ok2 e2 → ok1 = ok2 := by
  intro i
  induction i with
  | zero =>
    intro m md a k h q
    cases m with
    | zero =>
      obtain ⟨_, h⟩ := h; obtain ⟨_, q⟩ := q
      rcases h with ⟨h0, h1, h2, h3, h4⟩ | ⟨h0, h1, h2, h3, h4⟩ | ⟨h0, h1, h2, h3, h4⟩ | ⟨h0, ⟨r, h1⟩, h2, h3, h4⟩ <;> rcases q with ⟨q0, q1, q2, q3, q4⟩ | ⟨q0, q1, q2, q3, q4⟩ | ⟨q0, q1, q2, q3, q4⟩ | ⟨q0, ⟨r2, q1⟩, q2, q3, q4⟩ <;> first | (exact h3.trans q3.symm) | (exfalso; omega) | (rw [h1] at q1; cases q1)
    | succ m => obtain ⟨_, x, y, z, hs, _⟩ := q; exact absurd h.2 (fun t => QS_QF hs t)
  | succ i ih =>
    intro m md a k h q
    obtain ⟨_, x, y, z, hs, h⟩ := h
    cases m with
    | zero => exact absurd q.2 (fun t => QS_QF hs t)
    | succ m =>
      obtain ⟨_, x2, y2, z2, hs2, q⟩ := q
      obtain ⟨rfl, rfl, rfl⟩ := QS_det hs hs2
      exact ih h q
/-- the truth: a level is any, all, not -/
abbrev VK : Type := List (Bool × Bool × Bool)
noncomputable def bp (P : Prop) : Bool := @decide P (Classical.propDecidable P)
def VS (c : Nat → Int) (s : DSt) (a : Nat) (k : VK) (a' : Nat) (k' : VK) : Prop := ∃ y l t r, k = (y, l, t) :: r ∧ (
  (c a = 33 ∧ a' = a + 1 ∧ k' = (y, l, !t) :: r)
  ∨ (c a = 40 ∧ a' = a + 1 ∧ k' = (false, true, false) :: k)
  ∨ (c a = 38 ∧ a' = a + 1 ∧ k' = k)
  ∨ (c a = 124 ∧ a' = a + 1 ∧ k' = (y || l, true, t) :: r)
  ∨ (c a = 41 ∧ a' = a + 1 ∧ ∃ y2 l2 t2 r2, r = (y2, l2, t2) :: r2 ∧ k' = (y2, l2 && ((y || l) != t2), false) :: r2)
  ∨ (tO c a ∧ a' = tA c a ∧ k' = (y, l && (bp (tV c s a) != t), false) :: r))
def VR (c : Nat → Int) (s : DSt) : Nat → Nat → VK → Nat → VK → Prop
  | 0, a, k, a', k' => a = a' ∧ k = k'
  | n + 1, a, k, a', k' => (a ≤ 80 ∧ k.length ≤ 9) ∧ ∃ a1 k1, VS c s a k a1 k1 ∧ VR c s n a1 k1 a' k'
theorem VR_app {c : Nat → Int} {s : DSt} : ∀ {n m a : Nat} {k : VK} {a1 : Nat} {k1 : VK} {a2 : Nat} {k2 : VK}, VR c s n a k a1 k1 → VR c s m a1 k1 a2 k2 → VR c s (n + m) a k a2 k2 := by
  intro n
  induction n with
  | zero =>
    intro m a k a1 k1 a2 k2 h q
    obtain ⟨rfl, rfl⟩ := h
    rw [Nat.zero_add]
    exact q
  | succ n ih =>
    intro m a k a1 k1 a2 k2 h q
    obtain ⟨hb, x, y, hs, h⟩ := h
    rw [Nat.succ_add]
    exact ⟨hb, x, y, hs, ih h q⟩
theorem VR_1 {c : Nat → Int} {s : DSt} {a : Nat} {k : VK} {a1 : Nat} {k1 : VK} (hb : a ≤ 80 ∧ k.length ≤ 9) (h : VS c s a k a1 k1) : VR c s 1 a k a1 k1 := ⟨hb, _, _, h, rfl, rfl⟩
