/-! printed by wip/whole/gen/h13.py: operation talks -/
/-- the talk in which a frame of addresses a, b goes: the first that fits, else the number behind -/
def tFd (B : AB) (a b : Int) : Nat → Nat → Nat
  | 0, i => i
  | n + 1, i => if (B 133 i = a ∧ B 134 i = b) ∨ (B 133 i = b ∧ B 134 i = a) then i else tFd B a b n (i + 1)
def tMt (B : AB) (a b : Int) (i : Nat) : Prop := (B 133 i = a ∧ B 134 i = b) ∨ (B 133 i = b ∧ B 134 i = a)
def TF (B : AB) (a b : Int) (t i : Nat) : Prop := i ≤ t ∧ (∀ k, k < i → ¬ tMt B a b k) ∧ (i < t → tMt B a b i)
theorem tFd_s {B : AB} {a b : Int} : ∀ n i, i ≤ tFd B a b n i ∧ tFd B a b n i ≤ i + n ∧ (∀ k, i ≤ k → k < tFd B a b n i → ¬ tMt B a b k) ∧ (tFd B a b n i < i + n → tMt B a b (tFd B a b n i)) := by
  intro n
  induction n with
  | zero => intro i; exact ⟨Nat.le_refl _, Nat.le_refl _, fun k h1 h2 => absurd (show k < i from h2) (by omega), fun h => absurd (show i < i + 0 from h) (by omega)⟩
  | succ n ih =>
    intro i
    by_cases e : tMt B a b i
    · have e1 : tFd B a b (n + 1) i = i := if_pos e
      rw [e1]
      exact ⟨Nat.le_refl _, by omega, fun k h1 h2 => absurd h2 (by omega), fun _ => e⟩
    · have e1 : tFd B a b (n + 1) i = tFd B a b n (i + 1) := if_neg e
      obtain ⟨h1, h2, h3, h4⟩ := ih (i + 1)
      rw [e1]
      refine ⟨by omega, by omega, fun k q1 q2 => ?_, fun q => h4 (by omega)⟩
      by_cases e2 : k = i
      · subst e2; exact e
      · exact h3 k (by omega) q2
theorem tFd_c {B B' : AB} {a b : Int} (h : ∀ l i, l = 133 ∨ l = 134 → B' l i = B l i) : ∀ n i, tFd B' a b n i = tFd B a b n i := by
  intro n
  induction n with
  | zero => intro i; rfl
  | succ n ih =>
    intro i
    show (if (B' 133 i = a ∧ B' 134 i = b) ∨ (B' 133 i = b ∧ B' 134 i = a) then i else tFd B' a b n (i + 1)) = _
    rw [h 133 i (Or.inl rfl), h 134 i (Or.inr rfl), ih]
    rfl
theorem TF_of {B : AB} {a b : Int} {t : Nat} : TF B a b t (tFd B a b t 0) := by
  obtain ⟨h1, h2, h3, h4⟩ := tFd_s (B := B) (a := a) (b := b) t 0
  exact ⟨by omega, fun k hk => h3 k (Nat.zero_le _) hk, fun h => h4 (by omega)⟩
def tS1 (B : AB) (fk : Nat) (a b : Int) (t i : Nat) : AB := if i < t then jm_u (jm_u B 135 fk (i : Int)) 136 fk (if B 133 i = a ∧ B 134 i = b then 1 else 0) else jm_u (jm_u (jm_u (jm_u (jm_u B 133 t a) 134 t b) 135 fk (t : Int)) 136 fk 1) 103 44 ((t + 1 : Nat) : Int)
def tSt (B : AB) (fk : Nat) (a b : Int) : AB := tS1 B fk a b (B 103 44).toNat (tFd B a b (B 103 44).toNat 0)
theorem jm_u_cg {α : Type} {f g : Nat → Nat → α} {a k l i : Nat} {v : α} (h : f l i = g l i) : jm_u f a k v l i = jm_u g a k v l i := by
  unfold jm_u; rw [h]
theorem tSt_c {B H : AB} {k : Nat} {a b : Int} (h : ∀ l i, ¬ (l = 135 ∧ k < i) → H l i = B l i) (l i : Nat) (hli : ¬ (l = 135 ∧ k < i)) : tSt H k a b l i = tSt B k a b l i := by
  unfold tSt
  rw [h 103 44 (by omega), tFd_c (B := B) (fun l i hl => h l i (by omega))]
  unfold tS1
  have e := h l i hli
  split
  · rw [h 133 _ (by omega), h 134 _ (by omega)]
    exact jm_u_cg (jm_u_cg e)
  · exact jm_u_cg (jm_u_cg (jm_u_cg (jm_u_cg (jm_u_cg e))))
theorem tSt_o {B : AB} {k l i : Nat} {a b : Int} (h : ¬ ((l = 103 ∧ i = 44) ∨ (133 ≤ l ∧ l ≤ 136))) : tSt B k a b l i = B l i := by
  unfold tSt tS1
  split
  · exact (jm_u_n2 (by omega)).trans (jm_u_n2 (by omega))
  · exact (jm_u_n2 (by omega)).trans ((jm_u_n2 (by omega)).trans ((jm_u_n2 (by omega)).trans ((jm_u_n2 (by omega)).trans (jm_u_n2 (by omega)))))
theorem tSt_pos {B : AB} {k : Nat} {a b : Int} (h : 0 ≤ B 103 44) : 0 < tSt B k a b 103 44 := by
  unfold tSt tS1
  split
  next e =>
    have e1 : ∀ v w, jm_u (jm_u B 135 k v) 136 k w 103 44 = B 103 44 := fun v w => (jm_u_n2 (by omega)).trans (jm_u_n2 (by omega))
    rw [e1]; omega
  · rw [jm_u_eq ⟨rfl, rfl⟩]; omega
theorem tSt_5 {B : AB} {k i : Nat} {a b : Int} (h : i ≠ k) : tSt B k a b 135 i = B 135 i ∧ tSt B k a b 136 i = B 136 i := by
  unfold tSt tS1
  split
  · exact ⟨(jm_u_n2 (by omega)).trans (jm_u_n2 (by omega)), (jm_u_n2 (by omega)).trans (jm_u_n2 (by omega))⟩
  · exact ⟨(jm_u_n2 (by omega)).trans ((jm_u_n2 (by omega)).trans ((jm_u_n2 (by omega)).trans ((jm_u_n2 (by omega)).trans (jm_u_n2 (by omega))))), (jm_u_n2 (by omega)).trans ((jm_u_n2 (by omega)).trans ((jm_u_n2 (by omega)).trans ((jm_u_n2 (by omega)).trans (jm_u_n2 (by omega)))))⟩
/-- what is known of the talks' numbers alone -/
def ATk (B : AB) (k : Nat) : Prop := (0 ≤ B 103 44 ∧ B 103 44 ≤ k) ∧ ∀ f, (-1 ≤ B 135 f ∧ B 135 f < B 103 44) ∧ (B 136 f = 0 ∨ B 136 f = 1)
theorem ATk_s {B : AB} {k n : Nat} {a b : Int} (h : ATk B n) : ATk (tSt B k a b) (n + 1) := by
  obtain ⟨h1, h2⟩ := h
  obtain ⟨t, ht⟩ : ∃ t : Nat, B 103 44 = (t : Int) := ⟨(B 103 44).toNat, by omega⟩
  have e0 : (B 103 44).toNat = t := by omega
  unfold tSt tS1
  rw [e0]
  split
  next hi =>
    have e1 : ∀ v w, jm_u (jm_u B 135 k v) 136 k w 103 44 = B 103 44 := fun v w => (jm_u_n2 (by omega)).trans (jm_u_n2 (by omega))
    refine ⟨by rw [e1]; omega, fun f => ?_⟩
    rw [e1]
    by_cases e : f = k
    · subst e
      have e2 : ∀ v w, jm_u (jm_u B 135 f v) 136 f w 135 f = v := fun v w => (jm_u_n2 (by omega)).trans (jm_u_eq ⟨rfl, rfl⟩)
      rw [e2, jm_u_eq ⟨rfl, rfl⟩]
      refine ⟨by omega, ?_⟩
      split
      · exact Or.inr rfl
      · exact Or.inl rfl
    · have e2 : ∀ v w, jm_u (jm_u B 135 k v) 136 k w 135 f = B 135 f := fun v w => (jm_u_n2 (by omega)).trans (jm_u_n2 (by omega))
      have e3 : ∀ v w, jm_u (jm_u B 135 k v) 136 k w 136 f = B 136 f := fun v w => (jm_u_n2 (by omega)).trans (jm_u_n2 (by omega))
      rw [e2, e3]; exact h2 f
  next hi =>
    refine ⟨by rw [jm_u_eq ⟨rfl, rfl⟩]; omega, fun f => ?_⟩
    rw [jm_u_eq ⟨rfl, rfl⟩, jm_u_n2 (a := 103) (by omega), jm_u_n2 (a := 103) (by omega)]
    by_cases e : f = k
    · subst e
      rw [jm_u_eq (a := 136) ⟨rfl, rfl⟩, jm_u_n2 (a := 136) (by omega), jm_u_eq (a := 135) ⟨rfl, rfl⟩]
      exact ⟨by omega, Or.inr rfl⟩
    · have h3 := h2 f
      have e2 : jm_u (jm_u (jm_u (jm_u B 133 t a) 134 t b) 135 k (t : Int)) 136 k 1 135 f = B 135 f := (jm_u_n2 (by omega)).trans ((jm_u_n2 (by omega)).trans ((jm_u_n2 (by omega)).trans (jm_u_n2 (by omega))))
      have e3 : jm_u (jm_u (jm_u (jm_u B 133 t a) 134 t b) 135 k (t : Int)) 136 k 1 136 f = B 136 f := (jm_u_n2 (by omega)).trans ((jm_u_n2 (by omega)).trans ((jm_u_n2 (by omega)).trans (jm_u_n2 (by omega))))
      rw [e2, e3]; exact ⟨by omega, h3.2⟩
/-- the talks of the first k frames: as the reference writes them, and with no talk for the frames behind -/
def aTk (pv : Nat → Option (Int × Int)) (A : AB) : Nat → AB
  | 0 => jm_u A 103 44 0
  | k + 1 => match pv k with
    | none => jm_u (aTk pv A k) 135 k (-1)
    | some ab => tSt (jm_u (aTk pv A k) 135 k (-1)) k ab.1 ab.2
def hTk (pv : Nat → Option (Int × Int)) (A : AB) : Nat → AB
  | 0 => fun l i => if l = 135 then -1 else jm_u A 103 44 0 l i
  | k + 1 => match pv k with
    | none => hTk pv A k
    | some ab => tSt (hTk pv A k) k ab.1 ab.2
section TK
variable {pv pv' : Nat → Option (Int × Int)} {A : AB} {k l i : Nat} {ab : Int × Int}
theorem aTk_n (h : pv k = none) : aTk pv A (k + 1) = jm_u (aTk pv A k) 135 k (-1) := by
  show (match pv k with | none => jm_u (aTk pv A k) 135 k (-1) | some ab => tSt (jm_u (aTk pv A k) 135 k (-1)) k ab.1 ab.2) = _
  rw [h]
theorem aTk_v (h : pv k = some ab) : aTk pv A (k + 1) = tSt (jm_u (aTk pv A k) 135 k (-1)) k ab.1 ab.2 := by
  show (match pv k with | none => jm_u (aTk pv A k) 135 k (-1) | some ab => tSt (jm_u (aTk pv A k) 135 k (-1)) k ab.1 ab.2) = _
  rw [h]
theorem hTk_n (h : pv k = none) : hTk pv A (k + 1) = hTk pv A k := by
  show (match pv k with | none => hTk pv A k | some ab => tSt (hTk pv A k) k ab.1 ab.2) = _
  rw [h]
theorem hTk_v (h : pv k = some ab) : hTk pv A (k + 1) = tSt (hTk pv A k) k ab.1 ab.2 := by
  show (match pv k with | none => hTk pv A k | some ab => tSt (hTk pv A k) k ab.1 ab.2) = _
  rw [h]
theorem hTk_c : ∀ {k : Nat}, (∀ i, i < k → pv' i = pv i) → hTk pv' A k = hTk pv A k := by
  intro k
  induction k with
  | zero => intro _; rfl
  | succ k ih =>
    intro h
    have e := ih (fun i hi => h i (by omega))
    cases ho : pv k with
    | none => rw [hTk_n ho, hTk_n ((h k (by omega)).trans ho), e]
    | some v => rw [hTk_v ho, hTk_v ((h k (by omega)).trans ho), e]
theorem hTk_un : hTk (fun i => if i = k then none else pv i) A (k + 1) = hTk pv A k := by
  rw [hTk_n (if_pos rfl), hTk_c (pv := pv) (fun i hi => if_neg (by omega))]
theorem hTk_us : hTk (fun i => if i = k then some ab else pv i) A (k + 1) = tSt (hTk pv A k) k ab.1 ab.2 := by
  rw [hTk_v (if_pos rfl), hTk_c (pv := pv) (fun i hi => if_neg (by omega))]
theorem hTk_m : ∀ {k i : Nat}, k ≤ i → hTk pv A k 135 i = -1 := by
  intro k
  induction k with
  | zero => intro i _; rfl
  | succ k ih =>
    intro i hi
    cases ho : pv k with
    | none => rw [hTk_n ho]; exact ih (by omega)
    | some v => rw [hTk_v ho, (tSt_5 (by omega)).1]; exact ih (by omega)
theorem hTk_e : ∀ {k l i : Nat}, ¬ (l = 135 ∧ k ≤ i) → hTk pv A k l i = aTk pv A k l i := by
  intro k
  induction k with
  | zero => intro l i h; exact if_neg (by omega)
  | succ k ih =>
    intro l i h
    have q : ∀ l i, ¬ (l = 135 ∧ k < i) → hTk pv A k l i = jm_u (aTk pv A k) 135 k (-1) l i := by
      intro l i h2
      by_cases e : l = 135 ∧ i = k
      · rw [jm_u_eq e, e.1, e.2]; exact hTk_m (Nat.le_refl _)
      · rw [jm_u_n2 e]; exact ih (by omega)
    cases ho : pv k with
    | none => rw [hTk_n ho, aTk_n ho]; exact q l i (by omega)
    | some v => rw [hTk_v ho, aTk_v ho]; exact tSt_c q l i (by omega)
theorem aTk_o : ∀ {k l i : Nat}, ¬ ((l = 103 ∧ i = 44) ∨ (133 ≤ l ∧ l ≤ 136)) → aTk pv A k l i = A l i := by
  intro k
  induction k with
  | zero => intro l i h; exact jm_u_n2 (by omega)
  | succ k ih =>
    intro l i h
    cases ho : pv k with
    | none => rw [aTk_n ho]; exact (jm_u_n2 (by omega)).trans (ih h)
    | some v => rw [aTk_v ho]; exact (tSt_o h).trans ((jm_u_n2 (by omega)).trans (ih h))
theorem hTk_o {k l i : Nat} (h : ¬ ((l = 103 ∧ i = 44) ∨ (133 ≤ l ∧ l ≤ 136))) : hTk pv A k l i = A l i := (hTk_e (by omega)).trans (aTk_o h)
theorem hTk_b (h6 : ∀ f, A 136 f = 0 ∨ A 136 f = 1) : ∀ {k : Nat}, ATk (hTk pv A k) k := by
  intro k
  induction k with
  | zero => exact ⟨⟨Int.le_refl _, Int.le_refl _⟩, fun f => ⟨⟨Int.le_refl _, show (-1 : Int) < 0 by omega⟩, h6 f⟩⟩
  | succ k ih =>
    cases ho : pv k with
    | none => rw [hTk_n ho]; exact ⟨by have := ih.1; omega, ih.2⟩
    | some v => rw [hTk_v ho]; exact ATk_s ih
theorem aTk_6 (h6 : ∀ f, A 136 f = 0 ∨ A 136 f = 1) (k f : Nat) : aTk pv A k 136 f = 0 ∨ aTk pv A k 136 f = 1 := by
  rw [← hTk_e (by omega)]; exact ((hTk_b h6).2 f).2
end TK
/-- the talks' facts, all alike -/
theorem RTa_u {I : Nat → Nat → Int32} {M : Nat → Nat → Int64} {H : AB} {c : Nat} (h : RTa I M H) (hc : H 103 12 = (c : Int)) {i w b : Nat} (hi : (i : Int) < H 103 44) (hw : w < 2) (hb : b < 2) : M 99 (6 * i + 3 - w + 2 * b) = lI (tcnt H (i : Int) (w : Int) (b : Int) c) := by
  obtain ⟨_, _, _, _, e1, e2, e3, e4⟩ := h.2.2.1 i hi
  have ec : (H 103 12).toNat = c := by omega
  rw [ec] at e1 e2 e3 e4
  have : (w = 0 ∨ w = 1) ∧ (b = 0 ∨ b = 1) := by omega
  rcases this with ⟨rfl | rfl, rfl | rfl⟩
  · exact e2
  · exact e4
  · exact e1
  · exact e3
theorem RTa_mk {I : Nat → Nat → Int32} {M : Nat → Nat → Int64} {H : AB} {c : Nat} (hc : H 103 12 = (c : Int)) (h1 : I 98 2 = iI (H 103 44)) (h2 : 0 ≤ H 103 44 ∧ H 103 44 ≤ 12) (h3 : ∀ k : Nat, (k : Int) < H 103 44 → M 99 (6 * k) = lI (H 133 k) ∧ M 99 (6 * k + 1) = lI (H 134 k) ∧ (0 ≤ H 133 k ∧ H 133 k < 4294967296) ∧ (0 ≤ H 134 k ∧ H 134 k < 4294967296) ∧ ∀ w b : Nat, w < 2 → b < 2 → M 99 (6 * k + 3 - w + 2 * b) = lI (tcnt H (k : Int) (w : Int) (b : Int) c))
    (h4 : ∀ f : Nat, f < 12 → ∃ w : Int, I 100 f = iI w ∧ (-1 ≤ w ∧ w < 12) ∧ ((f : Int) < H 103 12 → 0 < H 103 44 → (H 136 f = 0 ∨ H 136 f = 1) ∧ (-1 ≤ H 135 f ∧ H 135 f < H 103 44) ∧ (∀ k : Int, 0 ≤ k → (w = k ↔ (H 135 f = k ∧ H 136 f = 1))))) : RTa I M H := by
  have ec : (H 103 12).toNat = c := by omega
  refine ⟨h1, h2, fun k hk => ?_, h4⟩
  obtain ⟨a1, a2, a3, a4, a5⟩ := h3 k hk
  rw [ec]
  exact ⟨a1, a2, a3, a4, a5 1 0 (by omega) (by omega), a5 0 0 (by omega) (by omega), a5 1 1 (by omega) (by omega), a5 0 1 (by omega) (by omega)⟩
theorem tcnt_s {H : AB} {fk : Nat} {i sm : Int} (hm : H 135 fk = -1) {q w b : Int} (hq : 0 ≤ q) : ∀ n, tcnt (jm_u (jm_u H 135 fk i) 136 fk sm) q w b n = tcnt H q w b n + (if fk < n ∧ q = i ∧ w = sm then (if b = 0 then 1 else H 115 fk) else 0) := by
  intro n
  induction n with
  | zero => exact (Int.add_zero _).symm.trans (by rw [if_neg (by omega)]; rfl)
  | succ n ih =>
    show tcnt (jm_u (jm_u H 135 fk i) 136 fk sm) q w b n + (if jm_u (jm_u H 135 fk i) 136 fk sm 135 n = q ∧ jm_u (jm_u H 135 fk i) 136 fk sm 136 n = w then (if b = 0 then 1 else jm_u (jm_u H 135 fk i) 136 fk sm 115 n) else 0) = tcnt H q w b n + (if H 135 n = q ∧ H 136 n = w then (if b = 0 then 1 else H 115 n) else 0) + _
    rw [ih]
    have e0 : jm_u (jm_u H 135 fk i) 136 fk sm 115 n = H 115 n := (jm_u_n2 (by omega)).trans (jm_u_n2 (by omega))
    rw [e0]
    by_cases e : n = fk
    · subst e
      have e1 : jm_u (jm_u H 135 n i) 136 n sm 135 n = i := (jm_u_n2 (by omega)).trans (jm_u_eq ⟨rfl, rfl⟩)
      have e2 : jm_u (jm_u H 135 n i) 136 n sm 136 n = sm := jm_u_eq ⟨rfl, rfl⟩
      rw [e1, e2, if_neg (show ¬ (n < n ∧ q = i ∧ w = sm) by omega), if_neg (show ¬ (H 135 n = q ∧ H 136 n = w) by omega)]
      by_cases e3 : i = q ∧ sm = w
      · rw [if_pos e3, if_pos (show n < n + 1 ∧ q = i ∧ w = sm by omega)]
        first | done | omega
      · rw [if_neg e3, if_neg (show ¬ (n < n + 1 ∧ q = i ∧ w = sm) by omega)]
    · have e1 : jm_u (jm_u H 135 fk i) 136 fk sm 135 n = H 135 n := (jm_u_n2 (by omega)).trans (jm_u_n2 (by omega))
      have e2 : jm_u (jm_u H 135 fk i) 136 fk sm 136 n = H 136 n := (jm_u_n2 (by omega)).trans (jm_u_n2 (by omega))
      rw [e1, e2]
      by_cases e3 : fk < n ∧ q = i ∧ w = sm
      · rw [if_pos e3, if_pos (show fk < n + 1 ∧ q = i ∧ w = sm by omega)]; omega
      · rw [if_neg e3, if_neg (show ¬ (fk < n + 1 ∧ q = i ∧ w = sm) by omega)]; omega
theorem tcnt_z {H : AB} {q w b : Int} (h : ∀ f, H 135 f < q) : ∀ n, tcnt H q w b n = 0 := by
  intro n
  induction n with
  | zero => rfl
  | succ n ih =>
    show tcnt H q w b n + (if H 135 n = q ∧ H 136 n = w then (if b = 0 then 1 else H 115 n) else 0) = 0
    have := h n
    rw [ih, if_neg (by omega)]; rfl
section RTF
variable {I I' : Nat → Nat → Int32} {M M' : Nat → Nat → Int64} {H : AB} {fk i sm c t : Nat} {a b : Int}
theorem RTa_p (h : RTa I M H) (hc : H 103 12 = (c : Int)) (hc12 : c ≤ 12) (hfk : fk < c) (hm1 : H 135 fk = -1) (hi : (i : Int) < H 103 44) (hsm : sm < 2) (h0 : I' 98 2 = I 98 2) (h1 : ∀ f, f ≠ fk → I' 100 f = I 100 f) (h2 : (sm = 1 ∧ I' 100 fk = iI (i : Int)) ∨ (sm = 0 ∧ I' 100 fk = I 100 fk)) (h3 : M' 99 (6 * i + 3 - sm) = lI (tcnt H (i : Int) (sm : Int) 0 c + 1)) (h4 : M' 99 (6 * i + 3 - sm + 2) = lI (tcnt H (i : Int) (sm : Int) 1 c + H 115 fk)) (h5 : ∀ z, z ≠ 6 * i + 3 - sm → z ≠ 6 * i + 3 - sm + 2 → M' 99 z = M 99 z) : RTa I' M' (jm_u (jm_u H 135 fk (i : Int)) 136 fk (sm : Int)) := by
  have eo : ∀ l k, l ≠ 135 → l ≠ 136 → jm_u (jm_u H 135 fk (i : Int)) 136 fk (sm : Int) l k = H l k := fun l k q1 q2 => (jm_u_n2 (by omega)).trans (jm_u_n2 (by omega))
  have h44 := h.2.1
  refine RTa_mk (c := c) ((eo _ _ (by omega) (by omega)).trans hc) ?_ ?_ (fun k hk => ?_) (fun g hg => ?_)
  · rw [eo _ _ (by omega) (by omega)]; exact h0.trans h.1
  · rw [eo _ _ (by omega) (by omega)]; exact h44
  · rw [eo _ _ (by omega) (by omega)] at hk
    rw [eo _ _ (by omega) (by omega), eo _ _ (by omega) (by omega)]
    obtain ⟨a1, a2, a3, a4, _⟩ := h.2.2.1 k hk
    refine ⟨(h5 _ (by omega) (by omega)).trans a1, (h5 _ (by omega) (by omega)).trans a2, a3, a4, fun w b' hw hb => ?_⟩
    rw [tcnt_s hm1 (by omega)]
    by_cases e : k = i ∧ w = sm
    · rw [if_pos ⟨hfk, by omega, by omega⟩, e.1, e.2]
      by_cases eb : b' = 0
      · subst eb
        exact h3
      · obtain rfl : b' = 1 := by omega
        rw [if_neg (by omega)]
        exact h4
    · rw [if_neg (by omega), Int.add_zero, h5 _ (by omega) (by omega)]
      exact RTa_u h hc hk hw hb
  · obtain ⟨w, b1, b2, b4⟩ := h.2.2.2 g hg
    by_cases e : g = fk
    · subst e
      have e1 : jm_u (jm_u H 135 g (i : Int)) 136 g (sm : Int) 135 g = i := (jm_u_n2 (by omega)).trans (jm_u_eq ⟨rfl, rfl⟩)
      have e2 : jm_u (jm_u H 135 g (i : Int)) 136 g (sm : Int) 136 g = sm := jm_u_eq ⟨rfl, rfl⟩
      rw [eo _ _ (by omega) (by omega), eo _ _ (by omega) (by omega), e1, e2]
      obtain ⟨_, _, b5⟩ := b4 (by omega) (by omega)
      have b6 := b5 w
      rcases h2 with ⟨rfl, q⟩ | ⟨rfl, q⟩
      · exact ⟨i, q, by omega, fun _ _ => ⟨Or.inr rfl, by omega, fun k hk => by omega⟩⟩
      · exact ⟨w, q.trans b1, b2, fun _ _ => ⟨Or.inl rfl, by omega, fun k hk => by omega⟩⟩
    · have e1 : jm_u (jm_u H 135 fk (i : Int)) 136 fk (sm : Int) 135 g = H 135 g := (jm_u_n2 (by omega)).trans (jm_u_n2 (by omega))
      have e2 : jm_u (jm_u H 135 fk (i : Int)) 136 fk (sm : Int) 136 g = H 136 g := (jm_u_n2 (by omega)).trans (jm_u_n2 (by omega))
      rw [eo _ _ (by omega) (by omega), eo _ _ (by omega) (by omega), e1, e2]
      exact ⟨w, (h1 g e).trans b1, b2, b4⟩
theorem RTa_n {k : Nat} (hw : H 103 44 = 0 → ∀ f, f < 12 → I 100 f = iI (-1)) (h : RTa I M H) (hc : H 103 12 = (c : Int)) (h7 : ATk H k) (ht : H 103 44 = (t : Int)) (ht12 : t < 12) (ha : 0 ≤ a ∧ a < 4294967296) (hb : 0 ≤ b ∧ b < 4294967296) (h0 : I' 98 2 = iI ((t + 1 : Nat) : Int)) (h1 : ∀ f, I' 100 f = I 100 f) (h2 : M' 99 (6 * t) = lI a) (h3 : M' 99 (6 * t + 1) = lI b) (h4 : ∀ z, 2 ≤ z → z < 6 → M' 99 (6 * t + z) = lI 0) (h5 : ∀ z, (z < 6 * t ∨ 6 * t + 6 ≤ z) → M' 99 z = M 99 z) : RTa I' M' (jm_u (jm_u (jm_u H 133 t a) 134 t b) 103 44 ((t + 1 : Nat) : Int)) := by
  obtain ⟨B, hB⟩ : ∃ B, B = jm_u (jm_u (jm_u H 133 t a) 134 t b) 103 44 ((t + 1 : Nat) : Int) := ⟨_, rfl⟩
  rw [← hB]
  have eo : ∀ l k, ¬ (l = 133 ∧ k = t) → ¬ (l = 134 ∧ k = t) → ¬ (l = 103 ∧ k = 44) → B l k = H l k := fun l k q1 q2 q3 => by rw [hB]; exact (jm_u_n2 q3).trans ((jm_u_n2 q2).trans (jm_u_n2 q1))
  have e44 : B 103 44 = ((t + 1 : Nat) : Int) := by rw [hB]; exact jm_u_eq ⟨rfl, rfl⟩
  have e133 : B 133 t = a := by rw [hB]; exact (jm_u_n2 (by omega)).trans ((jm_u_n2 (by omega)).trans (jm_u_eq ⟨rfl, rfl⟩))
  have e134 : B 134 t = b := by rw [hB]; exact (jm_u_n2 (by omega)).trans (jm_u_eq ⟨rfl, rfl⟩)
  have etc : ∀ q w b' n, tcnt B q w b' n = tcnt H q w b' n := by
    intro q w b' n
    induction n with
    | zero => rfl
    | succ n ih =>
      show tcnt B q w b' n + (if B 135 n = q ∧ B 136 n = w then (if b' = 0 then 1 else B 115 n) else 0) = tcnt H q w b' n + (if H 135 n = q ∧ H 136 n = w then (if b' = 0 then 1 else H 115 n) else 0)
      rw [ih, eo _ _ (by omega) (by omega) (by omega), eo _ _ (by omega) (by omega) (by omega), eo _ _ (by omega) (by omega) (by omega)]
  refine RTa_mk (c := c) ((eo _ _ (by omega) (by omega) (by omega)).trans hc) ?_ ?_ (fun k hk => ?_) (fun g hg => ?_)
  · rw [e44]; exact h0
  · rw [e44]; omega
  · rw [e44] at hk
    by_cases e : k = t
    · subst e
      rw [e133, e134]
      refine ⟨h2, h3, ha, hb, fun w b' hw hb' => ?_⟩
      rw [etc, tcnt_z (fun f => by have := (h7.2 f).1.2; omega)]
      have := h4 (3 - w + 2 * b') (by omega) (by omega)
      rwa [show 6 * k + (3 - w + 2 * b') = 6 * k + 3 - w + 2 * b' by omega] at this
    · rw [eo _ _ (by omega) (by omega) (by omega), eo _ _ (by omega) (by omega) (by omega)]
      obtain ⟨a1, a2, a3, a4, _⟩ := h.2.2.1 k (by omega)
      refine ⟨(h5 _ (by omega)).trans a1, (h5 _ (by omega)).trans a2, a3, a4, fun w b' hw hb' => ?_⟩
      rw [etc, h5 _ (by omega)]
      exact RTa_u h hc (by omega) hw hb'
  · obtain ⟨w, b1, b2, b4⟩ := h.2.2.2 g hg
    have h8 := h7.2 g
    rw [e44, eo _ _ (by omega) (by omega) (by omega), eo _ _ (by omega) (by omega) (by omega), eo _ _ (by omega) (by omega) (by omega)]
    refine ⟨w, (h1 g).trans b1, b2, fun q1 _ => ⟨h8.2, by omega, fun k hk => ?_⟩⟩
    by_cases e : 0 < H 103 44
    · exact (b4 q1 e).2.2 k hk
    · have e9 : iI w = iI (-1) := b1.symm.trans (hw (by omega) g hg)
      rw [iI_eq ⟨⟨by omega, by omega⟩, by omega⟩] at e9
      omega
/-- only the talks change -/
theorem CR_ta {p : Nat → Option Nat} {A A' : AB} (h : CR I M p A) (f : fr (fun l k => (l = 98 ∧ k = 2) ∨ l = 100) I I') (g : fr (fun l _ => l = 99) M M') (hT : RTa I' M' A') (hA : ∀ l k, ¬ ((l = 103 ∧ k = 44) ∨ (133 ≤ l ∧ l ≤ 136)) → A' l k = A l k) : CR I' M' p A' := by
  obtain ⟨hv, d1, ⟨Tl, S, σ, d2, d3, d4⟩, d5, d8, d6, d9, d7⟩ := h
  have hv5 := hv.2.2.2.2.2.2.1
  have eA : A' = fun i k => if (i = 103 ∧ k = 44) ∨ (133 ≤ i ∧ i ≤ 136) then A' i k else A i k := by
    funext i k
    split
    · rfl
    next q => exact hA _ _ q
  rw [eA] at hT ⊢
  exact ⟨hv, CT_fr d1 f (by omega) (by intro k; omega), ⟨Tl, S, σ, RLy_w d2 f (fun _ _ => rfl) (by intro T i k h1 h2; omega), RFr_w d3 f (fun _ _ _ => rfl) (by intro T i k h1 h2; omega) (show A 103 12 ≤ 12 by omega), RDe_w d2 d4 f g ⟨by omega, by omega, by omega, by omega, by intro k; omega, by omega⟩ (by intro T k h1; omega) (by intro k; omega)⟩, RFo_w d5 f (by intro T i k h1 h2; omega), RSc_w d8 f ⟨by omega, by omega, by intro k; omega⟩, RFi_w d6 f (by intro l k h1 h2; omega), hT, RJo_w d7 f (by intro k; omega)⟩
theorem tcnt_e {A B : AB} {n : Nat} {q w b : Int} (h : ∀ l f, l = 115 ∨ l = 135 ∨ l = 136 → f < n → B l f = A l f) : ∀ m, m ≤ n → tcnt B q w b m = tcnt A q w b m := by
  intro m
  induction m with
  | zero => intro _; rfl
  | succ m ih =>
    intro hm
    show tcnt B q w b m + (if B 135 m = q ∧ B 136 m = w then (if b = 0 then 1 else B 115 m) else 0) = tcnt A q w b m + (if A 135 m = q ∧ A 136 m = w then (if b = 0 then 1 else A 115 m) else 0)
    rw [ih (by omega), h 135 m (by omega) (by omega), h 136 m (by omega) (by omega), h 115 m (by omega) (by omega)]
theorem RTa_e {A B : AB} (h : RTa I M A) (hc : A 103 12 = (c : Int)) (e : ∀ l k, ¬ (l = 135 ∧ c ≤ k) → B l k = A l k) : RTa I M B := by
  obtain ⟨h1, h2, h3, h4⟩ := h
  have e1 := e 103 44 (by omega)
  have e2 := e 103 12 (by omega)
  have ec : (A 103 12).toNat = c := by omega
  refine ⟨by rw [e1]; exact h1, by rw [e1]; exact h2, fun k hk => ?_, fun f hf => ?_⟩
  · rw [e1] at hk
    have et : ∀ w b : Int, tcnt B (k : Int) w b (B 103 12).toNat = tcnt A (k : Int) w b (A 103 12).toNat := fun w b => by
      rw [e2, ec]; exact tcnt_e (n := c) (fun l f _ hf => e l f (by omega)) c (Nat.le_refl _)
    rw [et, et, et, et, e 133 k (by omega), e 134 k (by omega)]
    exact h3 k hk
  · obtain ⟨w, a1, a2, a4⟩ := h4 f hf
    refine ⟨w, a1, a2, fun q1 q2 => ?_⟩
    rw [e2] at q1
    rw [e1] at q2 ⊢
    rw [e 135 f (by omega), e 136 f (by omega)]
    exact a4 q1 q2
end RTF
section H13
variable {L : Nat} {xs : Nat → Int32} {d j : Nat} {I : Nat → Nat → Int32} {M : Nat → Nat → Int64} {p : Nat → Option Nat}
variable {A B H : AB} {x y lz nz a b : Int} {fk i t c n q sm k : Nat} {pv : Nat → Option (Int × Int)}
theorem cl_tfact2 (hx : M 99 (6 * k + q) = lI x) (hk : k < 12) (hq : q < 6) : jc L xs d 97 [.ref 98, .int (iI ((k : Nat) : Int)), .int (iI ((q : Nat) : Int))] (jx_G j I M p) (fun v g1 => v = some (.long (lI x)) ∧ g1 = jx_G j I M p) := by
  unfold jc
  refine jv_aload_n (pc' := 1) (k := 0) (x := 98) rfl rfl rfl rfl ?_
  refine jv_getR (pc' := 4) (c := 10) (k := 0) (v := 99) rfl rfl rfl (fun _ _ => rfl) rfl rfl (jR_98_0 _) ?_
  refine jv_iload_n (pc' := 5) (k := 1) (x := (iI ((k : Nat) : Int))) rfl rfl rfl rfl ?_
  refine jv_bipush (pc' := 7) (n := 6) rfl rfl rfl ?_
  refine jv_imul (pc' := 8) (a := ((k : Nat) : Int)) (b := 6) rfl rfl ?_
  refine jv_iload_n (pc' := 9) (k := 2) (x := (iI ((q : Nat) : Int))) rfl rfl rfl rfl ?_
  refine jv_iadd (pc' := 10) (a := (((k : Nat) : Int) * 6)) (b := ((q : Nat) : Int)) rfl rfl ?_
  refine jv_laload (pc' := 11) (n := 72) (e := ((((k : Nat) : Int) * 6) + ((q : Nat) : Int))) (v := (lI x)) rfl rfl rfl rfl rfl (by omega) ((congrArg (M 99) (show ((((k : Nat) : Int) * 6) + ((q : Nat) : Int) : Int).toNat = 6 * k + q by omega)).trans hx) ?_
  refine jv_retJ rfl rfl ⟨_, _, rfl, ?_⟩
  exact ⟨rfl, rfl⟩
theorem cl_tfind (hT : RTa I M H) (ht : H 103 44 = (t : Int)) (ha : 0 ≤ a ∧ a < 4294967296) (hb : 0 ≤ b ∧ b < 4294967296) (hTF : TF H a b t i) : jc L xs (d + 1) 100 [.ref 98, .long (lI a), .long (lI b)] (jx_G j I M p) (fun v g1 => v = some (.int (iI ((i : Nat) : Int))) ∧ g1 = jx_G j I M p) := by
  unfold jc
  have h44 := hT.2.1
  have hit := hTF.1
  refine jv_iconst (pc' := 1) (n := 0) rfl rfl ?_
  refine jv_istore (pc' := 3) (k := 5) (x := (iI 0)) rfl rfl rfl (Or.inr rfl) ?_
  have H1 : ∀ (N : Nat) (k : Nat), 12 - k < N → (k ≤ i) → ∀ f : jm_F, f 0 = some (.ref 98) → f 1 = some (.long (lI a)) → f 3 = some (.long (lI b)) → f 5 = some (.int (iI ((k : Nat) : Int))) → jm_lng (f 2) = false → jm_lng (f 4) = false → jx L xs ((d + 1)) 100 3 f [] (jx_G j I M p) (fun z => ∃ v g1, z = (.inl v, g1) ∧ (fun v g1 => v = some (.int (iI ((i : Nat) : Int))) ∧ g1 = jx_G j I M p) v g1) := by
    intro N
    induction N with
    | zero => intro k hN; exact absurd hN (Nat.not_lt_zero _)
    | succ N ih =>
      intro k hN hk f hf0 hf1 hf3 hf5 hg2 hg4
      refine jv_iload (pc' := 5) (k := 5) (x := (iI ((k : Nat) : Int))) rfl rfl hf5 ?_
      refine jv_aload_n (pc' := 6) (k := 0) (x := 98) rfl rfl rfl hf0 ?_
      refine jv_getI (pc' := 9) (c := 10) (k := 2) (v := (iI (H 103 44))) rfl rfl rfl (fun _ _ => rfl) rfl rfl hT.1 ?_
      refine jv_ic_ge (t := 67) (pc' := 12) (a := ((k : Nat) : Int)) (b := (H 103 44)) rfl rfl rfl (by omega) (fun hz_2 => ?_) (fun hz_2 => ?_)
      · skip
        refine jv_aload_n (pc' := 68) (k := 0) (x := 98) rfl rfl rfl hf0 ?_
        refine jv_getI (pc' := 71) (c := 10) (k := 2) (v := (iI (H 103 44))) rfl rfl rfl (fun _ _ => rfl) rfl rfl hT.1 ?_
        refine jv_retI rfl rfl ⟨_, _, rfl, ?_⟩
        first
        | (exfalso; omega)
        | (obtain rfl : k = i := by omega
           exact ⟨by rw [ht, show k = t by omega], rfl⟩)
      · skip
        by_cases eki : k = i
        · skip
          subst eki
          have hyk := hTF.2.2 (by omega)
          unfold tMt at hyk
          obtain ⟨k1, k2, k3, k4, _⟩ := hT.2.2.1 k (by omega)
          refine jv_aload_n (pc' := 13) (k := 0) (x := 98) rfl rfl rfl hf0 ?_
          refine jv_iload (pc' := 15) (k := 5) (x := (iI ((k : Nat) : Int))) rfl rfl hf5 ?_
          refine jv_iconst (pc' := 16) (n := 0) rfl rfl ?_
          refine jv_call (pc' := 19) rfl (cl_tfact2 (I := I) (M := M) (k := k) (q := 0) (x := H 133 k) (k1) (by omega) (by omega)) (fun vq3 gq3 q3 => ?_)
          obtain ⟨rfl, rfl⟩ := q3
          show jx L xs _ 100 19 _ [.long (lI (H 133 k))] _ _
          refine jv_lstore (pc' := 21) (k := 6) (x := (lI (H 133 k))) rfl rfl rfl (Or.inr (congrArg jm_lng hf5)) ?_
          refine jv_aload_n (pc' := 22) (k := 0) (x := 98) rfl rfl rfl hf0 ?_
          refine jv_iload (pc' := 24) (k := 5) (x := (iI ((k : Nat) : Int))) rfl rfl hf5 ?_
          refine jv_iconst (pc' := 25) (n := 1) rfl rfl ?_
          refine jv_call (pc' := 28) rfl (cl_tfact2 (I := I) (M := M) (k := k) (q := 1) (x := H 134 k) (k2) (by omega) (by omega)) (fun vq4 gq4 q4 => ?_)
          obtain ⟨rfl, rfl⟩ := q4
          show jx L xs _ 100 28 _ [.long (lI (H 134 k))] _ _
          refine jv_lstore (pc' := 30) (k := 8) (x := (lI (H 134 k))) rfl rfl rfl (Or.inr rfl) ?_
          refine jv_lload (pc' := 32) (k := 6) (x := (lI (H 133 k))) rfl rfl rfl ?_
          refine jv_lload_n (pc' := 33) (k := 1) (x := (lI a)) rfl rfl rfl hf1 ?_
          refine jv_lc_ne (t := 44) (pc' := 37) (a := (H 133 k)) (b := a) rfl rfl rfl rfl rfl (by omega) (fun hz_5 => ?_) (fun hz_5 => ?_)
          · skip
            refine jv_lload (pc' := 46) (k := 6) (x := (lI (H 133 k))) rfl rfl rfl ?_
            refine jv_lload_n (pc' := 47) (k := 3) (x := (lI b)) rfl rfl rfl hf3 ?_
            refine jv_lc_ne (t := 61) (pc' := 51) (a := (H 133 k)) (b := b) rfl rfl rfl rfl rfl (by omega) (fun hz_6 => ?_) (fun hz_6 => ?_)
            · skip
              exfalso; omega
            · skip
              refine jv_lload (pc' := 53) (k := 8) (x := (lI (H 134 k))) rfl rfl rfl ?_
              refine jv_lload_n (pc' := 54) (k := 1) (x := (lI a)) rfl rfl rfl hf1 ?_
              refine jv_lc_ne (t := 61) (pc' := 58) (a := (H 134 k)) (b := a) rfl rfl rfl rfl rfl (by omega) (fun hz_7 => ?_) (fun hz_7 => ?_)
              · skip
                exfalso; omega
              · skip
                refine jv_iload (pc' := 60) (k := 5) (x := (iI ((k : Nat) : Int))) rfl rfl hf5 ?_
                refine jv_retI rfl rfl ⟨_, _, rfl, ?_⟩
                exact ⟨rfl, rfl⟩
          · skip
            refine jv_lload (pc' := 39) (k := 8) (x := (lI (H 134 k))) rfl rfl rfl ?_
            refine jv_lload_n (pc' := 40) (k := 3) (x := (lI b)) rfl rfl rfl hf3 ?_
            refine jv_lc_eq (t := 58) (pc' := 44) (a := (H 134 k)) (b := b) rfl rfl rfl rfl rfl (by omega) (fun hz_8 => ?_) (fun hz_8 => ?_)
            · skip
              refine jv_iload (pc' := 60) (k := 5) (x := (iI ((k : Nat) : Int))) rfl rfl hf5 ?_
              refine jv_retI rfl rfl ⟨_, _, rfl, ?_⟩
              exact ⟨rfl, rfl⟩
            · skip
              refine jv_lload (pc' := 46) (k := 6) (x := (lI (H 133 k))) rfl rfl rfl ?_
              refine jv_lload_n (pc' := 47) (k := 3) (x := (lI b)) rfl rfl rfl hf3 ?_
              refine jv_lc_ne (t := 61) (pc' := 51) (a := (H 133 k)) (b := b) rfl rfl rfl rfl rfl (by omega) (fun hz_9 => ?_) (fun hz_9 => ?_)
              · skip
                exfalso; omega
              · skip
                refine jv_lload (pc' := 53) (k := 8) (x := (lI (H 134 k))) rfl rfl rfl ?_
                refine jv_lload_n (pc' := 54) (k := 1) (x := (lI a)) rfl rfl rfl hf1 ?_
                refine jv_lc_ne (t := 61) (pc' := 58) (a := (H 134 k)) (b := a) rfl rfl rfl rfl rfl (by omega) (fun hz_10 => ?_) (fun hz_10 => ?_)
                · skip
                  exfalso; omega
                · skip
                  refine jv_iload (pc' := 60) (k := 5) (x := (iI ((k : Nat) : Int))) rfl rfl hf5 ?_
                  refine jv_retI rfl rfl ⟨_, _, rfl, ?_⟩
                  exact ⟨rfl, rfl⟩
        · skip
          have hnk := hTF.2.1 k (by omega)
          unfold tMt at hnk
          obtain ⟨k1, k2, k3, k4, _⟩ := hT.2.2.1 k (by omega)
          refine jv_aload_n (pc' := 13) (k := 0) (x := 98) rfl rfl rfl hf0 ?_
          refine jv_iload (pc' := 15) (k := 5) (x := (iI ((k : Nat) : Int))) rfl rfl hf5 ?_
          refine jv_iconst (pc' := 16) (n := 0) rfl rfl ?_
          refine jv_call (pc' := 19) rfl (cl_tfact2 (I := I) (M := M) (k := k) (q := 0) (x := H 133 k) (k1) (by omega) (by omega)) (fun vq11 gq11 q11 => ?_)
          obtain ⟨rfl, rfl⟩ := q11
          show jx L xs _ 100 19 _ [.long (lI (H 133 k))] _ _
          refine jv_lstore (pc' := 21) (k := 6) (x := (lI (H 133 k))) rfl rfl rfl (Or.inr (congrArg jm_lng hf5)) ?_
          refine jv_aload_n (pc' := 22) (k := 0) (x := 98) rfl rfl rfl hf0 ?_
          refine jv_iload (pc' := 24) (k := 5) (x := (iI ((k : Nat) : Int))) rfl rfl hf5 ?_
          refine jv_iconst (pc' := 25) (n := 1) rfl rfl ?_
          refine jv_call (pc' := 28) rfl (cl_tfact2 (I := I) (M := M) (k := k) (q := 1) (x := H 134 k) (k2) (by omega) (by omega)) (fun vq12 gq12 q12 => ?_)
          obtain ⟨rfl, rfl⟩ := q12
          show jx L xs _ 100 28 _ [.long (lI (H 134 k))] _ _
          refine jv_lstore (pc' := 30) (k := 8) (x := (lI (H 134 k))) rfl rfl rfl (Or.inr rfl) ?_
          refine jv_lload (pc' := 32) (k := 6) (x := (lI (H 133 k))) rfl rfl rfl ?_
          refine jv_lload_n (pc' := 33) (k := 1) (x := (lI a)) rfl rfl rfl hf1 ?_
          refine jv_lc_ne (t := 44) (pc' := 37) (a := (H 133 k)) (b := a) rfl rfl rfl rfl rfl (by omega) (fun hz_13 => ?_) (fun hz_13 => ?_)
          · skip
            refine jv_lload (pc' := 46) (k := 6) (x := (lI (H 133 k))) rfl rfl rfl ?_
            refine jv_lload_n (pc' := 47) (k := 3) (x := (lI b)) rfl rfl rfl hf3 ?_
            refine jv_lc_ne (t := 61) (pc' := 51) (a := (H 133 k)) (b := b) rfl rfl rfl rfl rfl (by omega) (fun hz_14 => ?_) (fun hz_14 => ?_)
            · skip
              refine jv_iinc (pc' := 64) (k := 5) (a := ((k : Nat) : Int)) rfl rfl hf5 rfl (Or.inr hg4) ?_
              refine jx_step (pc' := 3) rfl ?_
              exact ih (k + 1) (by omega) (by omega) _ hf0 hf1 hf3 rfl hg2 hg4
            · skip
              refine jv_lload (pc' := 53) (k := 8) (x := (lI (H 134 k))) rfl rfl rfl ?_
              refine jv_lload_n (pc' := 54) (k := 1) (x := (lI a)) rfl rfl rfl hf1 ?_
              refine jv_lc_ne (t := 61) (pc' := 58) (a := (H 134 k)) (b := a) rfl rfl rfl rfl rfl (by omega) (fun hz_15 => ?_) (fun hz_15 => ?_)
              · skip
                refine jv_iinc (pc' := 64) (k := 5) (a := ((k : Nat) : Int)) rfl rfl hf5 rfl (Or.inr hg4) ?_
                refine jx_step (pc' := 3) rfl ?_
                exact ih (k + 1) (by omega) (by omega) _ hf0 hf1 hf3 rfl hg2 hg4
              · skip
                exfalso; omega
          · skip
            refine jv_lload (pc' := 39) (k := 8) (x := (lI (H 134 k))) rfl rfl rfl ?_
            refine jv_lload_n (pc' := 40) (k := 3) (x := (lI b)) rfl rfl rfl hf3 ?_
            refine jv_lc_eq (t := 58) (pc' := 44) (a := (H 134 k)) (b := b) rfl rfl rfl rfl rfl (by omega) (fun hz_16 => ?_) (fun hz_16 => ?_)
            · skip
              exfalso; omega
            · skip
              refine jv_lload (pc' := 46) (k := 6) (x := (lI (H 133 k))) rfl rfl rfl ?_
              refine jv_lload_n (pc' := 47) (k := 3) (x := (lI b)) rfl rfl rfl hf3 ?_
              refine jv_lc_ne (t := 61) (pc' := 51) (a := (H 133 k)) (b := b) rfl rfl rfl rfl rfl (by omega) (fun hz_17 => ?_) (fun hz_17 => ?_)
              · skip
                refine jv_iinc (pc' := 64) (k := 5) (a := ((k : Nat) : Int)) rfl rfl hf5 rfl (Or.inr hg4) ?_
                refine jx_step (pc' := 3) rfl ?_
                exact ih (k + 1) (by omega) (by omega) _ hf0 hf1 hf3 rfl hg2 hg4
              · skip
                refine jv_lload (pc' := 53) (k := 8) (x := (lI (H 134 k))) rfl rfl rfl ?_
                refine jv_lload_n (pc' := 54) (k := 1) (x := (lI a)) rfl rfl rfl hf1 ?_
                refine jv_lc_ne (t := 61) (pc' := 58) (a := (H 134 k)) (b := a) rfl rfl rfl rfl rfl (by omega) (fun hz_18 => ?_) (fun hz_18 => ?_)
                · skip
                  refine jv_iinc (pc' := 64) (k := 5) (a := ((k : Nat) : Int)) rfl rfl hf5 rfl (Or.inr hg4) ?_
                  refine jx_step (pc' := 3) rfl ?_
                  exact ih (k + 1) (by omega) (by omega) _ hf0 hf1 hf3 rfl hg2 hg4
                · skip
                  exfalso; omega
  exact H1 _ 0 (Nat.lt_succ_self _) (by omega) _ rfl rfl rfl rfl rfl rfl
theorem cl_tbegin (ht : I 98 2 = iI ((t : Nat) : Int)) (ht12 : t < 12) : jc L xs d 101 [.ref 98, .long (lI a), .long (lI b)] (jx_G j I M p) (fun v g1 => ∃ I' M', g1 = jx_G j I' M' p ∧ v = none ∧ fr (fun l k => l = 98 ∧ k = 2) I I' ∧ I' 98 2 = iI ((t + 1 : Nat) : Int) ∧ M' 99 (6 * t) = lI a ∧ M' 99 (6 * t + 1) = lI b ∧ (∀ z, 2 ≤ z → z < 6 → M' 99 (6 * t + z) = lI 0) ∧ fr (fun l z => l = 99 ∧ 6 * t ≤ z ∧ z < 6 * t + 6) M M') := by
  unfold jc
  refine jv_aload_n (pc' := 1) (k := 0) (x := 98) rfl rfl rfl rfl ?_
  refine jv_getI (pc' := 4) (c := 10) (k := 2) (v := (iI ((t : Nat) : Int))) rfl rfl rfl (fun _ _ => rfl) rfl rfl ht ?_
  refine jv_bipush (pc' := 6) (n := 6) rfl rfl rfl ?_
  refine jv_imul (pc' := 7) (a := ((t : Nat) : Int)) (b := 6) rfl rfl ?_
  refine jv_istore (pc' := 9) (k := 5) (x := (iI (((t : Nat) : Int) * 6))) rfl rfl rfl (Or.inr rfl) ?_
  refine jv_iconst (pc' := 10) (n := 0) rfl rfl ?_
  refine jv_istore (pc' := 12) (k := 6) (x := (iI 0)) rfl rfl rfl (Or.inr rfl) ?_
  have H1 : ∀ (N : Nat) (k : Nat) (M1 : Nat → Nat → Int64), 6 - k < N → (k ≤ 6) → (fr (fun l z => l = 99 ∧ 6 * t ≤ z ∧ z < 6 * t + 6) M M1) → (∀ z, z < k → M1 99 (6 * t + z) = lI 0) → ∀ f : jm_F, f 0 = some (.ref 98) → f 1 = some (.long (lI a)) → f 3 = some (.long (lI b)) → f 5 = some (.int (iI (((t : Nat) : Int) * 6))) → f 6 = some (.int (iI ((k : Nat) : Int))) → jm_lng (f 2) = false → jm_lng (f 4) = false → jx L xs (d) 101 12 f [] (jx_G j I M1 p) (fun z => ∃ v g1, z = (.inl v, g1) ∧ (fun v g1 => ∃ I' M', g1 = jx_G j I' M' p ∧ v = none ∧ fr (fun l k => l = 98 ∧ k = 2) I I' ∧ I' 98 2 = iI ((t + 1 : Nat) : Int) ∧ M' 99 (6 * t) = lI a ∧ M' 99 (6 * t + 1) = lI b ∧ (∀ z, 2 ≤ z → z < 6 → M' 99 (6 * t + z) = lI 0) ∧ fr (fun l z => l = 99 ∧ 6 * t ≤ z ∧ z < 6 * t + 6) M M') v g1) := by
    intro N
    induction N with
    | zero => intro k M1 hN; exact absurd hN (Nat.not_lt_zero _)
    | succ N ih =>
      intro k M1 hN hk hm hz0 f hf0 hf1 hf3 hf5 hf6 hg2 hg4
      refine jv_iload (pc' := 14) (k := 6) (x := (iI ((k : Nat) : Int))) rfl rfl hf6 ?_
      refine jv_bipush (pc' := 16) (n := 6) rfl rfl rfl ?_
      refine jv_ic_ge (t := 36) (pc' := 19) (a := ((k : Nat) : Int)) (b := 6) rfl rfl rfl (by omega) (fun hz_2 => ?_) (fun hz_2 => ?_)
      · skip
        refine jv_aload_n (pc' := 37) (k := 0) (x := 98) rfl rfl rfl hf0 ?_
        refine jv_getR (pc' := 40) (c := 10) (k := 0) (v := 99) rfl rfl rfl (fun _ _ => rfl) rfl rfl (jR_98_0 _) ?_
        refine jv_iload (pc' := 42) (k := 5) (x := (iI (((t : Nat) : Int) * 6))) rfl rfl hf5 ?_
        refine jv_iconst (pc' := 43) (n := 0) rfl rfl ?_
        refine jv_iadd (pc' := 44) (a := (((t : Nat) : Int) * 6)) (b := 0) rfl rfl ?_
        refine jv_lload_n (pc' := 45) (k := 1) (x := (lI a)) rfl rfl rfl hf1 ?_
        refine jv_lastore (pc' := 46) (n := 72) (e := ((((t : Nat) : Int) * 6) + 0)) (v := (lI a)) rfl rfl rfl rfl rfl (by omega) ?_
        refine jv_aload_n (pc' := 47) (k := 0) (x := 98) rfl rfl rfl hf0 ?_
        refine jv_getR (pc' := 50) (c := 10) (k := 0) (v := 99) rfl rfl rfl (fun _ _ => rfl) rfl rfl (jR_98_0 _) ?_
        refine jv_iload (pc' := 52) (k := 5) (x := (iI (((t : Nat) : Int) * 6))) rfl rfl hf5 ?_
        refine jv_iconst (pc' := 53) (n := 1) rfl rfl ?_
        refine jv_iadd (pc' := 54) (a := (((t : Nat) : Int) * 6)) (b := 1) rfl rfl ?_
        refine jv_lload_n (pc' := 55) (k := 3) (x := (lI b)) rfl rfl rfl hf3 ?_
        refine jv_lastore (pc' := 56) (n := 72) (e := ((((t : Nat) : Int) * 6) + 1)) (v := (lI b)) rfl rfl rfl rfl rfl (by omega) ?_
        refine jv_aload_n (pc' := 57) (k := 0) (x := 98) rfl rfl rfl hf0 ?_
        refine jx_step (pc' := 58) rfl ?_
        refine jv_getI (pc' := 61) (c := 10) (k := 2) (v := (iI ((t : Nat) : Int))) rfl rfl rfl (fun _ _ => rfl) rfl rfl ht ?_
        refine jv_iconst (pc' := 62) (n := 1) rfl rfl ?_
        refine jv_iadd (pc' := 63) (a := ((t : Nat) : Int)) (b := 1) rfl rfl ?_
        refine jv_putI (pc' := 66) (c := 10) (k := 2) rfl rfl rfl rfl (fun _ _ _  => rfl) rfl rfl ?_
        refine jv_retV rfl rfl ⟨_, _, rfl, ?_⟩
        obtain rfl : k = 6 := by omega
        refine ⟨_, _, rfl, rfl, fr_u ⟨rfl, rfl⟩ (fr_r _), ?_, ?_, ?_, ?_, ?_⟩
        · exact congrArg iI (by omega)
        · exact (jm_u_n2 (by omega)).trans (jm_u_eq ⟨rfl, by omega⟩)
        · exact jm_u_eq ⟨rfl, by omega⟩
        · exact fun z h1 h2 => (jm_u_n2 (by omega)).trans ((jm_u_n2 (by omega)).trans (hz0 z h2))
        · exact fr_t hm (fr_u ⟨rfl, by omega⟩ (fr_u ⟨rfl, by omega⟩ (fr_r _)))
      · skip
        refine jv_aload_n (pc' := 20) (k := 0) (x := 98) rfl rfl rfl hf0 ?_
        refine jv_getR (pc' := 23) (c := 10) (k := 0) (v := 99) rfl rfl rfl (fun _ _ => rfl) rfl rfl (jR_98_0 _) ?_
        refine jv_iload (pc' := 25) (k := 5) (x := (iI (((t : Nat) : Int) * 6))) rfl rfl hf5 ?_
        refine jv_iload (pc' := 27) (k := 6) (x := (iI ((k : Nat) : Int))) rfl rfl hf6 ?_
        refine jv_iadd (pc' := 28) (a := (((t : Nat) : Int) * 6)) (b := ((k : Nat) : Int)) rfl rfl ?_
        refine jv_long (pc' := 29) (y := lI 0) rfl (by decide) ?_
        refine jv_lastore (pc' := 30) (n := 72) (e := ((((t : Nat) : Int) * 6) + ((k : Nat) : Int))) (v := (lI 0)) rfl rfl rfl rfl rfl (by omega) ?_
        refine jv_iinc (pc' := 33) (k := 6) (a := ((k : Nat) : Int)) rfl rfl hf6 rfl (Or.inr (congrArg jm_lng hf5)) ?_
        refine jx_step (pc' := 12) rfl ?_
        exact ih (k + 1) (jm_u M1 99 ((((t : Nat) : Int) * 6) + ((k : Nat) : Int) : Int).toNat (lI 0)) (by omega) (by omega) (fr_t hm (fr_u ⟨rfl, by omega⟩ (fr_r _))) (fun z hz => by
              by_cases e : z = k
              · subst e; exact jm_u_eq ⟨rfl, by omega⟩
              · exact (jm_u_n2 (by omega)).trans (hz0 z (by omega))) _ hf0 hf1 hf3 hf5 rfl hg2 hg4
  exact H1 _ 0 M (Nat.lt_succ_self _) (by omega) (fr_r _) (fun z hz => absurd hz (by omega)) _ rfl rfl rfl rfl rfl rfl rfl
set_option maxRecDepth 100000 in
theorem cl_tput_1 (hT : RTa I M H) (hc : H 103 12 = (c : Int)) (hc12 : c ≤ 12) (hfk : fk < c) (hm1 : H 135 fk = -1) (hs : 0 ≤ H 115 fk ∧ H 115 fk < 100) (ht : H 103 44 = (t : Int)) (ha : 0 ≤ a ∧ a < 4294967296) (hb : 0 ≤ b ∧ b < 4294967296) (hTF : TF H a b t i) (hit : i < t) (hsm : H 133 i = a ∧ H 134 i = b) : jc L xs (d + 2) 99 [.ref 98, .int (iI ((fk : Nat) : Int)), .int (iI (H 115 fk)), .long (lI a), .long (lI b)] (jx_G j I M p) (fun v g1 => ∃ I' M', g1 = jx_G j I' M' p ∧ v = none ∧ fr (fun l k => (l = 98 ∧ k = 2) ∨ l = 100) I I' ∧ fr (fun l _ => l = 99) M M' ∧ RTa I' M' (tS1 H fk a b t i)) := by
  unfold jc
  have h44 := hT.2.1
  have hcN := hc
  have hiN : (i : Int) < H 103 44 := by omega
  obtain ⟨k1, k2, k3, k4, _⟩ := hT.2.2.1 i hiN
  refine jv_aload_n (pc' := 1) (k := 0) (x := 98) rfl rfl rfl rfl ?_
  refine jv_lload_n (pc' := 2) (k := 3) (x := (lI a)) rfl rfl rfl rfl ?_
  refine jv_lload (pc' := 4) (k := 5) (x := (lI b)) rfl rfl rfl ?_
  refine jv_call (pc' := 7) rfl (cl_tfind (I := I) (M := M) (p := p) (i := i) hT ht ha hb hTF) (fun v1 g1 q1 => ?_)
  obtain ⟨rfl, rfl⟩ := q1
  show jx L xs _ 99 7 _ [.int (iI ((i : Nat) : Int))] _ _
  refine jv_istore (pc' := 9) (k := 7) (x := (iI ((i : Nat) : Int))) rfl rfl rfl (Or.inr rfl) ?_
  refine jv_iload (pc' := 11) (k := 7) (x := (iI ((i : Nat) : Int))) rfl rfl rfl ?_
  refine jv_aload_n (pc' := 12) (k := 0) (x := 98) rfl rfl rfl rfl ?_
  refine jv_getI (pc' := 15) (c := 10) (k := 2) (v := (iI (H 103 44))) rfl rfl rfl (fun _ _ => rfl) rfl rfl hT.1 ?_
  refine jv_ic_ne (t := 25) (pc' := 18) (a := ((i : Nat) : Int)) (b := (H 103 44)) rfl rfl rfl (by omega) (fun hz_1 => ?_) (fun hz_1 => ?_)
  · skip
    refine jv_aload_n (pc' := 26) (k := 0) (x := 98) rfl rfl rfl rfl ?_
    refine jv_iload (pc' := 28) (k := 7) (x := (iI ((i : Nat) : Int))) rfl rfl rfl ?_
    refine jv_iconst (pc' := 29) (n := 0) rfl rfl ?_
    refine jv_call (pc' := 32) rfl (cl_tfact2 (I := I) (M := M) (k := i) (q := 0) (x := H 133 i) (k1) (by omega) (by omega)) (fun vq2 gq2 q2 => ?_)
    obtain ⟨rfl, rfl⟩ := q2
    show jx L xs _ 99 32 _ [.long (lI (H 133 i))] _ _
    refine jv_lload_n (pc' := 33) (k := 3) (x := (lI a)) rfl rfl rfl rfl ?_
    refine jv_lc_ne (t := 54) (pc' := 37) (a := (H 133 i)) (b := a) rfl rfl rfl rfl rfl (by omega) (fun hz_3 => ?_) (fun hz_3 => ?_)
    · skip
      exfalso; omega
    · skip
      refine jv_aload_n (pc' := 38) (k := 0) (x := 98) rfl rfl rfl rfl ?_
      refine jv_iload (pc' := 40) (k := 7) (x := (iI ((i : Nat) : Int))) rfl rfl rfl ?_
      refine jv_iconst (pc' := 41) (n := 1) rfl rfl ?_
      refine jv_call (pc' := 44) rfl (cl_tfact2 (I := I) (M := M) (k := i) (q := 1) (x := H 134 i) (k2) (by omega) (by omega)) (fun vq4 gq4 q4 => ?_)
      obtain ⟨rfl, rfl⟩ := q4
      show jx L xs _ 99 44 _ [.long (lI (H 134 i))] _ _
      refine jv_lload (pc' := 46) (k := 5) (x := (lI b)) rfl rfl rfl ?_
      refine jv_lc_ne (t := 54) (pc' := 50) (a := (H 134 i)) (b := b) rfl rfl rfl rfl rfl (by omega) (fun hz_5 => ?_) (fun hz_5 => ?_)
      · skip
        exfalso; omega
      · skip
        refine jv_iconst (pc' := 51) (n := 1) rfl rfl ?_
        refine jx_step (pc' := 55) rfl ?_
        refine jv_istore (pc' := 57) (k := 8) (x := (iI 1)) rfl rfl rfl (Or.inr rfl) ?_
        refine jv_iload (pc' := 59) (k := 8) (x := (iI 1)) rfl rfl rfl ?_
        refine jv_if_eq (t := 70) (pc' := 62) (a := 1) rfl rfl rfl (by omega) (fun hz_6 => ?_) (fun hz_6 => ?_)
        · skip
          exact absurd hz_6 (by decide)
        · skip
          refine jv_aload_n (pc' := 63) (k := 0) (x := 98) rfl rfl rfl rfl ?_
          refine jv_getR (pc' := 66) (c := 10) (k := 1) (v := 100) rfl rfl rfl (fun _ _ => rfl) rfl rfl (jR_98_1 _) ?_
          refine jv_iload_n (pc' := 67) (k := 1) (x := (iI ((fk : Nat) : Int))) rfl rfl rfl rfl ?_
          refine jv_iload (pc' := 69) (k := 7) (x := (iI ((i : Nat) : Int))) rfl rfl rfl ?_
          refine jv_iastore (pc' := 70) (n := 12) (e := ((fk : Nat) : Int)) (v := (iI ((i : Nat) : Int))) rfl rfl rfl rfl rfl (by omega) ?_
          refine jv_iload (pc' := 72) (k := 7) (x := (iI ((i : Nat) : Int))) rfl rfl rfl ?_
          refine jv_bipush (pc' := 74) (n := 6) rfl rfl rfl ?_
          refine jv_imul (pc' := 75) (a := ((i : Nat) : Int)) (b := 6) rfl rfl ?_
          refine jv_iload (pc' := 77) (k := 8) (x := (iI 1)) rfl rfl rfl ?_
          refine jv_if_eq (t := 84) (pc' := 80) (a := 1) rfl rfl rfl (by omega) (fun hz_7 => ?_) (fun hz_7 => ?_)
          · skip
            exact absurd hz_7 (by decide)
          · skip
            refine jv_iconst (pc' := 81) (n := 0) rfl rfl ?_
            refine jx_step (pc' := 85) rfl ?_
            refine jv_iadd (pc' := 86) (a := (((i : Nat) : Int) * 6)) (b := 0) rfl rfl ?_
            refine jv_istore (pc' := 88) (k := 9) (x := (iI ((((i : Nat) : Int) * 6) + 0))) rfl rfl rfl (Or.inr rfl) ?_
            refine jv_aload_n (pc' := 89) (k := 0) (x := 98) rfl rfl rfl rfl ?_
            refine jv_getR (pc' := 92) (c := 10) (k := 0) (v := 99) rfl rfl rfl (fun _ _ => rfl) rfl rfl (jR_98_0 _) ?_
            refine jv_iload (pc' := 94) (k := 9) (x := (iI ((((i : Nat) : Int) * 6) + 0))) rfl rfl rfl ?_
            refine jv_iconst (pc' := 95) (n := 2) rfl rfl ?_
            refine jv_iadd (pc' := 96) (a := ((((i : Nat) : Int) * 6) + 0)) (b := 2) rfl rfl ?_
            refine jx_step (pc' := 97) rfl ?_
            refine jv_laload (pc' := 98) (n := 72) (e := (((((i : Nat) : Int) * 6) + 0) + 2)) (v := (lI (tcnt H ((i : Nat) : Int) ((1 : Nat) : Int) ((0 : Nat) : Int) c))) rfl rfl rfl rfl rfl (by omega) ((congrArg (M 99) (show (((((i : Nat) : Int) * 6) + 0) + 2 : Int).toNat = 6 * i + 3 - 1 + 2 * 0 by omega)).trans (RTa_u (H := H) hT hcN (i := i) (w := 1) (b := 0) hiN (by omega) (by omega))) ?_
            refine jv_long (pc' := 99) (y := lI 1) rfl (by decide) ?_
            refine jv_ladd (pc' := 100) (a := (tcnt H ((i : Nat) : Int) ((1 : Nat) : Int) ((0 : Nat) : Int) c)) (b := 1) rfl rfl ?_
            refine jv_lastore (pc' := 101) (n := 72) (e := (((((i : Nat) : Int) * 6) + 0) + 2)) (v := (lI ((tcnt H ((i : Nat) : Int) ((1 : Nat) : Int) ((0 : Nat) : Int) c) + 1))) rfl rfl rfl rfl rfl (by omega) ?_
            refine jv_aload_n (pc' := 102) (k := 0) (x := 98) rfl rfl rfl rfl ?_
            refine jv_getR (pc' := 105) (c := 10) (k := 0) (v := 99) rfl rfl rfl (fun _ _ => rfl) rfl rfl (jR_98_0 _) ?_
            refine jv_iload (pc' := 107) (k := 9) (x := (iI ((((i : Nat) : Int) * 6) + 0))) rfl rfl rfl ?_
            refine jv_iconst (pc' := 108) (n := 4) rfl rfl ?_
            refine jv_iadd (pc' := 109) (a := ((((i : Nat) : Int) * 6) + 0)) (b := 4) rfl rfl ?_
            refine jx_step (pc' := 110) rfl ?_
            refine jv_laload (pc' := 111) (n := 72) (e := (((((i : Nat) : Int) * 6) + 0) + 4)) (v := (lI (tcnt H ((i : Nat) : Int) ((1 : Nat) : Int) ((1 : Nat) : Int) c))) rfl rfl rfl rfl rfl (by omega) ((jm_u_n2 (by omega)).trans ((congrArg (M 99) (show (((((i : Nat) : Int) * 6) + 0) + 4 : Int).toNat = 6 * i + 3 - 1 + 2 * 1 by omega)).trans (RTa_u (H := H) hT hcN (i := i) (w := 1) (b := 1) hiN (by omega) (by omega)))) ?_
            refine jv_iload_n (pc' := 112) (k := 2) (x := (iI (H 115 fk))) rfl rfl rfl rfl ?_
            refine jv_i2l (pc' := 113) (a := (H 115 fk)) rfl rfl (by omega) ?_
            refine jv_ladd (pc' := 114) (a := (tcnt H ((i : Nat) : Int) ((1 : Nat) : Int) ((1 : Nat) : Int) c)) (b := (H 115 fk)) rfl rfl ?_
            refine jv_lastore (pc' := 115) (n := 72) (e := (((((i : Nat) : Int) * 6) + 0) + 4)) (v := (lI ((tcnt H ((i : Nat) : Int) ((1 : Nat) : Int) ((1 : Nat) : Int) c) + (H 115 fk)))) rfl rfl rfl rfl rfl (by omega) ?_
            refine jv_retV rfl rfl ⟨_, _, rfl, ?_⟩
            first
            | (exfalso; omega)
            | exact ⟨_, _, rfl, rfl, (fr_u (by omega) (fr_r _)), (fr_u (rfl) (fr_u (rfl) (fr_r _))), by unfold tS1; rw [if_pos hit, if_pos hsm]; exact RTa_p (I' := jm_u I 100 (((fk : Nat) : Int) : Int).toNat (iI ((i : Nat) : Int))) (M' := jm_u (jm_u M 99 (((((i : Nat) : Int) * 6) + 0) + 2 : Int).toNat (lI ((tcnt H ((i : Nat) : Int) ((1 : Nat) : Int) ((0 : Nat) : Int) c) + 1))) 99 (((((i : Nat) : Int) * 6) + 0) + 4 : Int).toNat (lI ((tcnt H ((i : Nat) : Int) ((1 : Nat) : Int) ((1 : Nat) : Int) c) + (H 115 fk)))) (fk := fk) (i := i) (sm := 1) hT hcN hc12 hfk hm1 hiN (by omega) (jm_u_n2 (by omega)) (fun f hf => jm_u_n2 (by omega)) (Or.inl ⟨rfl, jm_u_eq ⟨rfl, by omega⟩⟩) ((jm_u_n2 (by omega)).trans (jm_u_eq ⟨rfl, by omega⟩)) ((jm_u_eq ⟨rfl, by omega⟩).trans rfl) (fun z h1 h2 => (jm_u_n2 (by omega)).trans (jm_u_n2 (by omega)))⟩
  · skip
    exfalso; omega
set_option maxRecDepth 100000 in
theorem cl_tput_0 (hT : RTa I M H) (hc : H 103 12 = (c : Int)) (hc12 : c ≤ 12) (hfk : fk < c) (hm1 : H 135 fk = -1) (hs : 0 ≤ H 115 fk ∧ H 115 fk < 100) (ht : H 103 44 = (t : Int)) (ha : 0 ≤ a ∧ a < 4294967296) (hb : 0 ≤ b ∧ b < 4294967296) (hTF : TF H a b t i) (hit : i < t) (hsm : ¬ (H 133 i = a ∧ H 134 i = b)) : jc L xs (d + 2) 99 [.ref 98, .int (iI ((fk : Nat) : Int)), .int (iI (H 115 fk)), .long (lI a), .long (lI b)] (jx_G j I M p) (fun v g1 => ∃ I' M', g1 = jx_G j I' M' p ∧ v = none ∧ fr (fun l k => (l = 98 ∧ k = 2) ∨ l = 100) I I' ∧ fr (fun l _ => l = 99) M M' ∧ RTa I' M' (tS1 H fk a b t i)) := by
  unfold jc
  have h44 := hT.2.1
  have hcN := hc
  have hiN : (i : Int) < H 103 44 := by omega
  obtain ⟨k1, k2, k3, k4, _⟩ := hT.2.2.1 i hiN
  refine jv_aload_n (pc' := 1) (k := 0) (x := 98) rfl rfl rfl rfl ?_
  refine jv_lload_n (pc' := 2) (k := 3) (x := (lI a)) rfl rfl rfl rfl ?_
  refine jv_lload (pc' := 4) (k := 5) (x := (lI b)) rfl rfl rfl ?_
  refine jv_call (pc' := 7) rfl (cl_tfind (I := I) (M := M) (p := p) (i := i) hT ht ha hb hTF) (fun v1 g1 q1 => ?_)
  obtain ⟨rfl, rfl⟩ := q1
  show jx L xs _ 99 7 _ [.int (iI ((i : Nat) : Int))] _ _
  refine jv_istore (pc' := 9) (k := 7) (x := (iI ((i : Nat) : Int))) rfl rfl rfl (Or.inr rfl) ?_
  refine jv_iload (pc' := 11) (k := 7) (x := (iI ((i : Nat) : Int))) rfl rfl rfl ?_
  refine jv_aload_n (pc' := 12) (k := 0) (x := 98) rfl rfl rfl rfl ?_
  refine jv_getI (pc' := 15) (c := 10) (k := 2) (v := (iI (H 103 44))) rfl rfl rfl (fun _ _ => rfl) rfl rfl hT.1 ?_
  refine jv_ic_ne (t := 25) (pc' := 18) (a := ((i : Nat) : Int)) (b := (H 103 44)) rfl rfl rfl (by omega) (fun hz_1 => ?_) (fun hz_1 => ?_)
  · skip
    refine jv_aload_n (pc' := 26) (k := 0) (x := 98) rfl rfl rfl rfl ?_
    refine jv_iload (pc' := 28) (k := 7) (x := (iI ((i : Nat) : Int))) rfl rfl rfl ?_
    refine jv_iconst (pc' := 29) (n := 0) rfl rfl ?_
    refine jv_call (pc' := 32) rfl (cl_tfact2 (I := I) (M := M) (k := i) (q := 0) (x := H 133 i) (k1) (by omega) (by omega)) (fun vq2 gq2 q2 => ?_)
    obtain ⟨rfl, rfl⟩ := q2
    show jx L xs _ 99 32 _ [.long (lI (H 133 i))] _ _
    refine jv_lload_n (pc' := 33) (k := 3) (x := (lI a)) rfl rfl rfl rfl ?_
    refine jv_lc_ne (t := 54) (pc' := 37) (a := (H 133 i)) (b := a) rfl rfl rfl rfl rfl (by omega) (fun hz_3 => ?_) (fun hz_3 => ?_)
    · skip
      refine jv_iconst (pc' := 55) (n := 0) rfl rfl ?_
      refine jv_istore (pc' := 57) (k := 8) (x := (iI 0)) rfl rfl rfl (Or.inr rfl) ?_
      refine jv_iload (pc' := 59) (k := 8) (x := (iI 0)) rfl rfl rfl ?_
      refine jv_if_eq (t := 70) (pc' := 62) (a := 0) rfl rfl rfl (by omega) (fun hz_4 => ?_) (fun hz_4 => ?_)
      · skip
        refine jv_iload (pc' := 72) (k := 7) (x := (iI ((i : Nat) : Int))) rfl rfl rfl ?_
        refine jv_bipush (pc' := 74) (n := 6) rfl rfl rfl ?_
        refine jv_imul (pc' := 75) (a := ((i : Nat) : Int)) (b := 6) rfl rfl ?_
        refine jv_iload (pc' := 77) (k := 8) (x := (iI 0)) rfl rfl rfl ?_
        refine jv_if_eq (t := 84) (pc' := 80) (a := 0) rfl rfl rfl (by omega) (fun hz_5 => ?_) (fun hz_5 => ?_)
        · skip
          refine jv_iconst (pc' := 85) (n := 1) rfl rfl ?_
          refine jv_iadd (pc' := 86) (a := (((i : Nat) : Int) * 6)) (b := 1) rfl rfl ?_
          refine jv_istore (pc' := 88) (k := 9) (x := (iI ((((i : Nat) : Int) * 6) + 1))) rfl rfl rfl (Or.inr rfl) ?_
          refine jv_aload_n (pc' := 89) (k := 0) (x := 98) rfl rfl rfl rfl ?_
          refine jv_getR (pc' := 92) (c := 10) (k := 0) (v := 99) rfl rfl rfl (fun _ _ => rfl) rfl rfl (jR_98_0 _) ?_
          refine jv_iload (pc' := 94) (k := 9) (x := (iI ((((i : Nat) : Int) * 6) + 1))) rfl rfl rfl ?_
          refine jv_iconst (pc' := 95) (n := 2) rfl rfl ?_
          refine jv_iadd (pc' := 96) (a := ((((i : Nat) : Int) * 6) + 1)) (b := 2) rfl rfl ?_
          refine jx_step (pc' := 97) rfl ?_
          refine jv_laload (pc' := 98) (n := 72) (e := (((((i : Nat) : Int) * 6) + 1) + 2)) (v := (lI (tcnt H ((i : Nat) : Int) ((0 : Nat) : Int) ((0 : Nat) : Int) c))) rfl rfl rfl rfl rfl (by omega) ((congrArg (M 99) (show (((((i : Nat) : Int) * 6) + 1) + 2 : Int).toNat = 6 * i + 3 - 0 + 2 * 0 by omega)).trans (RTa_u (H := H) hT hcN (i := i) (w := 0) (b := 0) hiN (by omega) (by omega))) ?_
          refine jv_long (pc' := 99) (y := lI 1) rfl (by decide) ?_
          refine jv_ladd (pc' := 100) (a := (tcnt H ((i : Nat) : Int) ((0 : Nat) : Int) ((0 : Nat) : Int) c)) (b := 1) rfl rfl ?_
          refine jv_lastore (pc' := 101) (n := 72) (e := (((((i : Nat) : Int) * 6) + 1) + 2)) (v := (lI ((tcnt H ((i : Nat) : Int) ((0 : Nat) : Int) ((0 : Nat) : Int) c) + 1))) rfl rfl rfl rfl rfl (by omega) ?_
          refine jv_aload_n (pc' := 102) (k := 0) (x := 98) rfl rfl rfl rfl ?_
          refine jv_getR (pc' := 105) (c := 10) (k := 0) (v := 99) rfl rfl rfl (fun _ _ => rfl) rfl rfl (jR_98_0 _) ?_
          refine jv_iload (pc' := 107) (k := 9) (x := (iI ((((i : Nat) : Int) * 6) + 1))) rfl rfl rfl ?_
          refine jv_iconst (pc' := 108) (n := 4) rfl rfl ?_
          refine jv_iadd (pc' := 109) (a := ((((i : Nat) : Int) * 6) + 1)) (b := 4) rfl rfl ?_
          refine jx_step (pc' := 110) rfl ?_
          refine jv_laload (pc' := 111) (n := 72) (e := (((((i : Nat) : Int) * 6) + 1) + 4)) (v := (lI (tcnt H ((i : Nat) : Int) ((0 : Nat) : Int) ((1 : Nat) : Int) c))) rfl rfl rfl rfl rfl (by omega) ((jm_u_n2 (by omega)).trans ((congrArg (M 99) (show (((((i : Nat) : Int) * 6) + 1) + 4 : Int).toNat = 6 * i + 3 - 0 + 2 * 1 by omega)).trans (RTa_u (H := H) hT hcN (i := i) (w := 0) (b := 1) hiN (by omega) (by omega)))) ?_
          refine jv_iload_n (pc' := 112) (k := 2) (x := (iI (H 115 fk))) rfl rfl rfl rfl ?_
          refine jv_i2l (pc' := 113) (a := (H 115 fk)) rfl rfl (by omega) ?_
          refine jv_ladd (pc' := 114) (a := (tcnt H ((i : Nat) : Int) ((0 : Nat) : Int) ((1 : Nat) : Int) c)) (b := (H 115 fk)) rfl rfl ?_
          refine jv_lastore (pc' := 115) (n := 72) (e := (((((i : Nat) : Int) * 6) + 1) + 4)) (v := (lI ((tcnt H ((i : Nat) : Int) ((0 : Nat) : Int) ((1 : Nat) : Int) c) + (H 115 fk)))) rfl rfl rfl rfl rfl (by omega) ?_
          refine jv_retV rfl rfl ⟨_, _, rfl, ?_⟩
          first
          | (exfalso; omega)
          | exact ⟨_, _, rfl, rfl, (fr_r _), (fr_u (rfl) (fr_u (rfl) (fr_r _))), by unfold tS1; rw [if_pos hit, if_neg hsm]; exact RTa_p (I' := I) (M' := jm_u (jm_u M 99 (((((i : Nat) : Int) * 6) + 1) + 2 : Int).toNat (lI ((tcnt H ((i : Nat) : Int) ((0 : Nat) : Int) ((0 : Nat) : Int) c) + 1))) 99 (((((i : Nat) : Int) * 6) + 1) + 4 : Int).toNat (lI ((tcnt H ((i : Nat) : Int) ((0 : Nat) : Int) ((1 : Nat) : Int) c) + (H 115 fk)))) (fk := fk) (i := i) (sm := 0) hT hcN hc12 hfk hm1 hiN (by omega) rfl (fun f hf => rfl) (Or.inr ⟨rfl, rfl⟩) ((jm_u_n2 (by omega)).trans (jm_u_eq ⟨rfl, by omega⟩)) ((jm_u_eq ⟨rfl, by omega⟩).trans rfl) (fun z h1 h2 => (jm_u_n2 (by omega)).trans (jm_u_n2 (by omega)))⟩
        · skip
          exact absurd hz_5 (by decide)
      · skip
        exact absurd hz_4 (by decide)
    · skip
      refine jv_aload_n (pc' := 38) (k := 0) (x := 98) rfl rfl rfl rfl ?_
      refine jv_iload (pc' := 40) (k := 7) (x := (iI ((i : Nat) : Int))) rfl rfl rfl ?_
      refine jv_iconst (pc' := 41) (n := 1) rfl rfl ?_
      refine jv_call (pc' := 44) rfl (cl_tfact2 (I := I) (M := M) (k := i) (q := 1) (x := H 134 i) (k2) (by omega) (by omega)) (fun vq6 gq6 q6 => ?_)
      obtain ⟨rfl, rfl⟩ := q6
      show jx L xs _ 99 44 _ [.long (lI (H 134 i))] _ _
      refine jv_lload (pc' := 46) (k := 5) (x := (lI b)) rfl rfl rfl ?_
      refine jv_lc_ne (t := 54) (pc' := 50) (a := (H 134 i)) (b := b) rfl rfl rfl rfl rfl (by omega) (fun hz_7 => ?_) (fun hz_7 => ?_)
      · skip
        refine jv_iconst (pc' := 55) (n := 0) rfl rfl ?_
        refine jv_istore (pc' := 57) (k := 8) (x := (iI 0)) rfl rfl rfl (Or.inr rfl) ?_
        refine jv_iload (pc' := 59) (k := 8) (x := (iI 0)) rfl rfl rfl ?_
        refine jv_if_eq (t := 70) (pc' := 62) (a := 0) rfl rfl rfl (by omega) (fun hz_8 => ?_) (fun hz_8 => ?_)
        · skip
          refine jv_iload (pc' := 72) (k := 7) (x := (iI ((i : Nat) : Int))) rfl rfl rfl ?_
          refine jv_bipush (pc' := 74) (n := 6) rfl rfl rfl ?_
          refine jv_imul (pc' := 75) (a := ((i : Nat) : Int)) (b := 6) rfl rfl ?_
          refine jv_iload (pc' := 77) (k := 8) (x := (iI 0)) rfl rfl rfl ?_
          refine jv_if_eq (t := 84) (pc' := 80) (a := 0) rfl rfl rfl (by omega) (fun hz_9 => ?_) (fun hz_9 => ?_)
          · skip
            refine jv_iconst (pc' := 85) (n := 1) rfl rfl ?_
            refine jv_iadd (pc' := 86) (a := (((i : Nat) : Int) * 6)) (b := 1) rfl rfl ?_
            refine jv_istore (pc' := 88) (k := 9) (x := (iI ((((i : Nat) : Int) * 6) + 1))) rfl rfl rfl (Or.inr rfl) ?_
            refine jv_aload_n (pc' := 89) (k := 0) (x := 98) rfl rfl rfl rfl ?_
            refine jv_getR (pc' := 92) (c := 10) (k := 0) (v := 99) rfl rfl rfl (fun _ _ => rfl) rfl rfl (jR_98_0 _) ?_
            refine jv_iload (pc' := 94) (k := 9) (x := (iI ((((i : Nat) : Int) * 6) + 1))) rfl rfl rfl ?_
            refine jv_iconst (pc' := 95) (n := 2) rfl rfl ?_
            refine jv_iadd (pc' := 96) (a := ((((i : Nat) : Int) * 6) + 1)) (b := 2) rfl rfl ?_
            refine jx_step (pc' := 97) rfl ?_
            refine jv_laload (pc' := 98) (n := 72) (e := (((((i : Nat) : Int) * 6) + 1) + 2)) (v := (lI (tcnt H ((i : Nat) : Int) ((0 : Nat) : Int) ((0 : Nat) : Int) c))) rfl rfl rfl rfl rfl (by omega) ((congrArg (M 99) (show (((((i : Nat) : Int) * 6) + 1) + 2 : Int).toNat = 6 * i + 3 - 0 + 2 * 0 by omega)).trans (RTa_u (H := H) hT hcN (i := i) (w := 0) (b := 0) hiN (by omega) (by omega))) ?_
            refine jv_long (pc' := 99) (y := lI 1) rfl (by decide) ?_
            refine jv_ladd (pc' := 100) (a := (tcnt H ((i : Nat) : Int) ((0 : Nat) : Int) ((0 : Nat) : Int) c)) (b := 1) rfl rfl ?_
            refine jv_lastore (pc' := 101) (n := 72) (e := (((((i : Nat) : Int) * 6) + 1) + 2)) (v := (lI ((tcnt H ((i : Nat) : Int) ((0 : Nat) : Int) ((0 : Nat) : Int) c) + 1))) rfl rfl rfl rfl rfl (by omega) ?_
            refine jv_aload_n (pc' := 102) (k := 0) (x := 98) rfl rfl rfl rfl ?_
            refine jv_getR (pc' := 105) (c := 10) (k := 0) (v := 99) rfl rfl rfl (fun _ _ => rfl) rfl rfl (jR_98_0 _) ?_
            refine jv_iload (pc' := 107) (k := 9) (x := (iI ((((i : Nat) : Int) * 6) + 1))) rfl rfl rfl ?_
            refine jv_iconst (pc' := 108) (n := 4) rfl rfl ?_
            refine jv_iadd (pc' := 109) (a := ((((i : Nat) : Int) * 6) + 1)) (b := 4) rfl rfl ?_
            refine jx_step (pc' := 110) rfl ?_
            refine jv_laload (pc' := 111) (n := 72) (e := (((((i : Nat) : Int) * 6) + 1) + 4)) (v := (lI (tcnt H ((i : Nat) : Int) ((0 : Nat) : Int) ((1 : Nat) : Int) c))) rfl rfl rfl rfl rfl (by omega) ((jm_u_n2 (by omega)).trans ((congrArg (M 99) (show (((((i : Nat) : Int) * 6) + 1) + 4 : Int).toNat = 6 * i + 3 - 0 + 2 * 1 by omega)).trans (RTa_u (H := H) hT hcN (i := i) (w := 0) (b := 1) hiN (by omega) (by omega)))) ?_
            refine jv_iload_n (pc' := 112) (k := 2) (x := (iI (H 115 fk))) rfl rfl rfl rfl ?_
            refine jv_i2l (pc' := 113) (a := (H 115 fk)) rfl rfl (by omega) ?_
            refine jv_ladd (pc' := 114) (a := (tcnt H ((i : Nat) : Int) ((0 : Nat) : Int) ((1 : Nat) : Int) c)) (b := (H 115 fk)) rfl rfl ?_
            refine jv_lastore (pc' := 115) (n := 72) (e := (((((i : Nat) : Int) * 6) + 1) + 4)) (v := (lI ((tcnt H ((i : Nat) : Int) ((0 : Nat) : Int) ((1 : Nat) : Int) c) + (H 115 fk)))) rfl rfl rfl rfl rfl (by omega) ?_
            refine jv_retV rfl rfl ⟨_, _, rfl, ?_⟩
            first
            | (exfalso; omega)
            | exact ⟨_, _, rfl, rfl, (fr_r _), (fr_u (rfl) (fr_u (rfl) (fr_r _))), by unfold tS1; rw [if_pos hit, if_neg hsm]; exact RTa_p (I' := I) (M' := jm_u (jm_u M 99 (((((i : Nat) : Int) * 6) + 1) + 2 : Int).toNat (lI ((tcnt H ((i : Nat) : Int) ((0 : Nat) : Int) ((0 : Nat) : Int) c) + 1))) 99 (((((i : Nat) : Int) * 6) + 1) + 4 : Int).toNat (lI ((tcnt H ((i : Nat) : Int) ((0 : Nat) : Int) ((1 : Nat) : Int) c) + (H 115 fk)))) (fk := fk) (i := i) (sm := 0) hT hcN hc12 hfk hm1 hiN (by omega) rfl (fun f hf => rfl) (Or.inr ⟨rfl, rfl⟩) ((jm_u_n2 (by omega)).trans (jm_u_eq ⟨rfl, by omega⟩)) ((jm_u_eq ⟨rfl, by omega⟩).trans rfl) (fun z h1 h2 => (jm_u_n2 (by omega)).trans (jm_u_n2 (by omega)))⟩
          · skip
            exact absurd hz_9 (by decide)
        · skip
          exact absurd hz_8 (by decide)
      · skip
        exfalso; omega
  · skip
    exfalso; omega
set_option maxRecDepth 100000 in
theorem cl_tput_n (hT : RTa I M H) (hc : H 103 12 = (c : Int)) (hc12 : c ≤ 12) (hfk : fk < c) (hm1 : H 135 fk = -1) (hs : 0 ≤ H 115 fk ∧ H 115 fk < 100) (ht : H 103 44 = (t : Int)) (ha : 0 ≤ a ∧ a < 4294967296) (hb : 0 ≤ b ∧ b < 4294967296) (hTF : TF H a b t i) (hit : i = t) (ht12 : t < 12) (h7 : ATk H k) (hw : H 103 44 = 0 → ∀ f, f < 12 → I 100 f = iI (-1)) : jc L xs (d + 2) 99 [.ref 98, .int (iI ((fk : Nat) : Int)), .int (iI (H 115 fk)), .long (lI a), .long (lI b)] (jx_G j I M p) (fun v g1 => ∃ I' M', g1 = jx_G j I' M' p ∧ v = none ∧ fr (fun l k => (l = 98 ∧ k = 2) ∨ l = 100) I I' ∧ fr (fun l _ => l = 99) M M' ∧ RTa I' M' (tS1 H fk a b t i)) := by
  unfold jc
  have h44 := hT.2.1
  refine jv_aload_n (pc' := 1) (k := 0) (x := 98) rfl rfl rfl rfl ?_
  refine jv_lload_n (pc' := 2) (k := 3) (x := (lI a)) rfl rfl rfl rfl ?_
  refine jv_lload (pc' := 4) (k := 5) (x := (lI b)) rfl rfl rfl ?_
  refine jv_call (pc' := 7) rfl (cl_tfind (I := I) (M := M) (p := p) (i := i) hT ht ha hb hTF) (fun v1 g1 q1 => ?_)
  obtain ⟨rfl, rfl⟩ := q1
  show jx L xs _ 99 7 _ [.int (iI ((i : Nat) : Int))] _ _
  rw [show ((i : Nat) : Int) = ((t : Nat) : Int) by rw [hit]]
  refine jv_istore (pc' := 9) (k := 7) (x := (iI ((t : Nat) : Int))) rfl rfl rfl (Or.inr rfl) ?_
  refine jv_iload (pc' := 11) (k := 7) (x := (iI ((t : Nat) : Int))) rfl rfl rfl ?_
  refine jv_aload_n (pc' := 12) (k := 0) (x := 98) rfl rfl rfl rfl ?_
  refine jv_getI (pc' := 15) (c := 10) (k := 2) (v := (iI (H 103 44))) rfl rfl rfl (fun _ _ => rfl) rfl rfl hT.1 ?_
  refine jv_ic_ne (t := 25) (pc' := 18) (a := ((t : Nat) : Int)) (b := (H 103 44)) rfl rfl rfl (by omega) (fun hz_1 => ?_) (fun hz_1 => ?_)
  · skip
    exfalso; omega
  · skip
    refine jv_aload_n (pc' := 19) (k := 0) (x := 98) rfl rfl rfl rfl ?_
    refine jv_lload_n (pc' := 20) (k := 3) (x := (lI a)) rfl rfl rfl rfl ?_
    refine jv_lload (pc' := 22) (k := 5) (x := (lI b)) rfl rfl rfl ?_
    refine jv_call (pc' := 25) rfl (cl_tbegin (I := I) (M := M) (p := p) (t := t) (a := a) (b := b) (hT.1.trans (congrArg iI ht)) (by omega)) (fun v2 g2 q2 => ?_)
    obtain ⟨I1, M1, rfl, rfl, r1, b0, b1, b2, b3, t1⟩ := q2
    have T1 : RTa I1 M1 (jm_u (jm_u (jm_u H 133 t a) 134 t b) 103 44 ((t + 1 : Nat) : Int)) := RTa_n hw hT hc h7 ht (by omega) ha hb b0 (fun f => r1 100 f (by omega)) b1 b2 b3 (fun z hz => t1 99 z (by omega))
    obtain ⟨HN, hHN⟩ : ∃ HN, HN = jm_u (jm_u (jm_u H 133 t a) 134 t b) 103 44 ((t + 1 : Nat) : Int) := ⟨_, rfl⟩
    rw [← hHN] at T1
    have hcN : HN 103 12 = (c : Int) := by rw [hHN]; exact (jm_u_n2 (by omega)).trans ((jm_u_n2 (by omega)).trans ((jm_u_n2 (by omega)).trans hc))
    have hiN : ((t : Nat) : Int) < HN 103 44 := by rw [hHN, jm_u_eq ⟨rfl, rfl⟩]; omega
    have e115 : HN 115 fk = H 115 fk := by rw [hHN]; exact (jm_u_n2 (by omega)).trans ((jm_u_n2 (by omega)).trans (jm_u_n2 (by omega)))
    have e135 : HN 135 fk = -1 := by rw [hHN]; exact (jm_u_n2 (by omega)).trans ((jm_u_n2 (by omega)).trans ((jm_u_n2 (by omega)).trans hm1))
    show jx L xs _ 99 25 _ [] _ _
    refine jv_aload_n (pc' := 26) (k := 0) (x := 98) rfl rfl rfl rfl ?_
    refine jv_iload (pc' := 28) (k := 7) (x := (iI ((t : Nat) : Int))) rfl rfl rfl ?_
    refine jv_iconst (pc' := 29) (n := 0) rfl rfl ?_
    refine jv_call (pc' := 32) rfl (cl_tfact2 (I := I1) (M := M1) (k := t) (q := 0) (x := a) (b1) (by omega) (by omega)) (fun vq2 gq2 q2 => ?_)
    obtain ⟨rfl, rfl⟩ := q2
    show jx L xs _ 99 32 _ [.long (lI a)] _ _
    refine jv_lload_n (pc' := 33) (k := 3) (x := (lI a)) rfl rfl rfl rfl ?_
    refine jv_lc_ne (t := 54) (pc' := 37) (a := a) (b := a) rfl rfl rfl rfl rfl (by omega) (fun hz_3 => ?_) (fun hz_3 => ?_)
    · skip
      exfalso; omega
    · skip
      refine jv_aload_n (pc' := 38) (k := 0) (x := 98) rfl rfl rfl rfl ?_
      refine jv_iload (pc' := 40) (k := 7) (x := (iI ((t : Nat) : Int))) rfl rfl rfl ?_
      refine jv_iconst (pc' := 41) (n := 1) rfl rfl ?_
      refine jv_call (pc' := 44) rfl (cl_tfact2 (I := I1) (M := M1) (k := t) (q := 1) (x := b) (b2) (by omega) (by omega)) (fun vq4 gq4 q4 => ?_)
      obtain ⟨rfl, rfl⟩ := q4
      show jx L xs _ 99 44 _ [.long (lI b)] _ _
      refine jv_lload (pc' := 46) (k := 5) (x := (lI b)) rfl rfl rfl ?_
      refine jv_lc_ne (t := 54) (pc' := 50) (a := b) (b := b) rfl rfl rfl rfl rfl (by omega) (fun hz_5 => ?_) (fun hz_5 => ?_)
      · skip
        exfalso; omega
      · skip
        refine jv_iconst (pc' := 51) (n := 1) rfl rfl ?_
        refine jx_step (pc' := 55) rfl ?_
        refine jv_istore (pc' := 57) (k := 8) (x := (iI 1)) rfl rfl rfl (Or.inr rfl) ?_
        refine jv_iload (pc' := 59) (k := 8) (x := (iI 1)) rfl rfl rfl ?_
        refine jv_if_eq (t := 70) (pc' := 62) (a := 1) rfl rfl rfl (by omega) (fun hz_6 => ?_) (fun hz_6 => ?_)
        · skip
          exact absurd hz_6 (by decide)
        · skip
          refine jv_aload_n (pc' := 63) (k := 0) (x := 98) rfl rfl rfl rfl ?_
          refine jv_getR (pc' := 66) (c := 10) (k := 1) (v := 100) rfl rfl rfl (fun _ _ => rfl) rfl rfl (jR_98_1 _) ?_
          refine jv_iload_n (pc' := 67) (k := 1) (x := (iI ((fk : Nat) : Int))) rfl rfl rfl rfl ?_
          refine jv_iload (pc' := 69) (k := 7) (x := (iI ((t : Nat) : Int))) rfl rfl rfl ?_
          refine jv_iastore (pc' := 70) (n := 12) (e := ((fk : Nat) : Int)) (v := (iI ((t : Nat) : Int))) rfl rfl rfl rfl rfl (by omega) ?_
          refine jv_iload (pc' := 72) (k := 7) (x := (iI ((t : Nat) : Int))) rfl rfl rfl ?_
          refine jv_bipush (pc' := 74) (n := 6) rfl rfl rfl ?_
          refine jv_imul (pc' := 75) (a := ((t : Nat) : Int)) (b := 6) rfl rfl ?_
          refine jv_iload (pc' := 77) (k := 8) (x := (iI 1)) rfl rfl rfl ?_
          refine jv_if_eq (t := 84) (pc' := 80) (a := 1) rfl rfl rfl (by omega) (fun hz_7 => ?_) (fun hz_7 => ?_)
          · skip
            exact absurd hz_7 (by decide)
          · skip
            refine jv_iconst (pc' := 81) (n := 0) rfl rfl ?_
            refine jx_step (pc' := 85) rfl ?_
            refine jv_iadd (pc' := 86) (a := (((t : Nat) : Int) * 6)) (b := 0) rfl rfl ?_
            refine jv_istore (pc' := 88) (k := 9) (x := (iI ((((t : Nat) : Int) * 6) + 0))) rfl rfl rfl (Or.inr rfl) ?_
            refine jv_aload_n (pc' := 89) (k := 0) (x := 98) rfl rfl rfl rfl ?_
            refine jv_getR (pc' := 92) (c := 10) (k := 0) (v := 99) rfl rfl rfl (fun _ _ => rfl) rfl rfl (jR_98_0 _) ?_
            refine jv_iload (pc' := 94) (k := 9) (x := (iI ((((t : Nat) : Int) * 6) + 0))) rfl rfl rfl ?_
            refine jv_iconst (pc' := 95) (n := 2) rfl rfl ?_
            refine jv_iadd (pc' := 96) (a := ((((t : Nat) : Int) * 6) + 0)) (b := 2) rfl rfl ?_
            refine jx_step (pc' := 97) rfl ?_
            refine jv_laload (pc' := 98) (n := 72) (e := (((((t : Nat) : Int) * 6) + 0) + 2)) (v := (lI (tcnt HN ((t : Nat) : Int) ((1 : Nat) : Int) ((0 : Nat) : Int) c))) rfl rfl rfl rfl rfl (by omega) ((congrArg (M1 99) (show (((((t : Nat) : Int) * 6) + 0) + 2 : Int).toNat = 6 * t + 3 - 1 + 2 * 0 by omega)).trans (RTa_u (H := HN) T1 hcN (i := t) (w := 1) (b := 0) hiN (by omega) (by omega))) ?_
            refine jv_long (pc' := 99) (y := lI 1) rfl (by decide) ?_
            refine jv_ladd (pc' := 100) (a := (tcnt HN ((t : Nat) : Int) ((1 : Nat) : Int) ((0 : Nat) : Int) c)) (b := 1) rfl rfl ?_
            refine jv_lastore (pc' := 101) (n := 72) (e := (((((t : Nat) : Int) * 6) + 0) + 2)) (v := (lI ((tcnt HN ((t : Nat) : Int) ((1 : Nat) : Int) ((0 : Nat) : Int) c) + 1))) rfl rfl rfl rfl rfl (by omega) ?_
            refine jv_aload_n (pc' := 102) (k := 0) (x := 98) rfl rfl rfl rfl ?_
            refine jv_getR (pc' := 105) (c := 10) (k := 0) (v := 99) rfl rfl rfl (fun _ _ => rfl) rfl rfl (jR_98_0 _) ?_
            refine jv_iload (pc' := 107) (k := 9) (x := (iI ((((t : Nat) : Int) * 6) + 0))) rfl rfl rfl ?_
            refine jv_iconst (pc' := 108) (n := 4) rfl rfl ?_
            refine jv_iadd (pc' := 109) (a := ((((t : Nat) : Int) * 6) + 0)) (b := 4) rfl rfl ?_
            refine jx_step (pc' := 110) rfl ?_
            refine jv_laload (pc' := 111) (n := 72) (e := (((((t : Nat) : Int) * 6) + 0) + 4)) (v := (lI (tcnt HN ((t : Nat) : Int) ((1 : Nat) : Int) ((1 : Nat) : Int) c))) rfl rfl rfl rfl rfl (by omega) ((jm_u_n2 (by omega)).trans ((congrArg (M1 99) (show (((((t : Nat) : Int) * 6) + 0) + 4 : Int).toNat = 6 * t + 3 - 1 + 2 * 1 by omega)).trans (RTa_u (H := HN) T1 hcN (i := t) (w := 1) (b := 1) hiN (by omega) (by omega)))) ?_
            refine jv_iload_n (pc' := 112) (k := 2) (x := (iI (H 115 fk))) rfl rfl rfl rfl ?_
            refine jv_i2l (pc' := 113) (a := (H 115 fk)) rfl rfl (by omega) ?_
            refine jv_ladd (pc' := 114) (a := (tcnt HN ((t : Nat) : Int) ((1 : Nat) : Int) ((1 : Nat) : Int) c)) (b := (H 115 fk)) rfl rfl ?_
            refine jv_lastore (pc' := 115) (n := 72) (e := (((((t : Nat) : Int) * 6) + 0) + 4)) (v := (lI ((tcnt HN ((t : Nat) : Int) ((1 : Nat) : Int) ((1 : Nat) : Int) c) + (H 115 fk)))) rfl rfl rfl rfl rfl (by omega) ?_
            refine jv_retV rfl rfl ⟨_, _, rfl, ?_⟩
            first
            | (exfalso; omega)
            | exact ⟨_, _, rfl, rfl, (fr_u (by omega) (fr_w r1 (fun l k h => Or.inl h))), (fr_u (rfl) (fr_u (rfl) (fr_w t1 (fun l k h => h.1)))), by
                have q := RTa_p (I' := jm_u I1 100 (((fk : Nat) : Int) : Int).toNat (iI ((t : Nat) : Int))) (M' := jm_u (jm_u M1 99 (((((t : Nat) : Int) * 6) + 0) + 2 : Int).toNat (lI ((tcnt HN ((t : Nat) : Int) ((1 : Nat) : Int) ((0 : Nat) : Int) c) + 1))) 99 (((((t : Nat) : Int) * 6) + 0) + 4 : Int).toNat (lI ((tcnt HN ((t : Nat) : Int) ((1 : Nat) : Int) ((1 : Nat) : Int) c) + (H 115 fk)))) (fk := fk) (i := t) (sm := 1) T1 hcN hc12 hfk e135 hiN (by omega) (jm_u_n2 (by omega)) (fun f hf => jm_u_n2 (by omega)) (Or.inl ⟨rfl, jm_u_eq ⟨rfl, by omega⟩⟩) ((jm_u_n2 (by omega)).trans (jm_u_eq ⟨rfl, by omega⟩)) ((jm_u_eq ⟨rfl, by omega⟩).trans (by rw [e115]; first | done | rfl)) (fun z h1 h2 => (jm_u_n2 (by omega)).trans (jm_u_n2 (by omega)))
                unfold tS1
                rw [if_neg (by omega)]
                have e3 : jm_u (jm_u HN 135 fk ((t : Nat) : Int)) 136 fk ((1 : Nat) : Int) = jm_u (jm_u (jm_u (jm_u (jm_u H 133 t a) 134 t b) 135 fk ((t : Nat) : Int)) 136 fk 1) 103 44 ((t + 1 : Nat) : Int) := by
                  rw [hHN, jm_u_c _ 103 44 135 fk _ _ (by omega), jm_u_c _ 103 44 136 fk _ _ (by omega)]; rfl
                rw [← e3]
                exact q⟩
theorem cl_tput (hT : RTa I M H) (hc : H 103 12 = (c : Int)) (hc12 : c ≤ 12) (hfk : fk < c) (hm1 : H 135 fk = -1) (hs : 0 ≤ H 115 fk ∧ H 115 fk < 100) (ha : 0 ≤ a ∧ a < 4294967296) (hb : 0 ≤ b ∧ b < 4294967296) (h7 : ATk H k) (hk : k < 12) (hw : H 103 44 = 0 → ∀ f, f < 12 → I 100 f = iI (-1)) : jc L xs (d + 2) 99 [.ref 98, .int (iI ((fk : Nat) : Int)), .int (iI (H 115 fk)), .long (lI a), .long (lI b)] (jx_G j I M p) (fun v g1 => ∃ I' M', g1 = jx_G j I' M' p ∧ v = none ∧ fr (fun l k => (l = 98 ∧ k = 2) ∨ l = 100) I I' ∧ fr (fun l _ => l = 99) M M' ∧ RTa I' M' (tSt H fk a b)) := by
  obtain ⟨t, ht⟩ : ∃ t : Nat, H 103 44 = (t : Int) := ⟨(H 103 44).toNat, by have := h7.1; omega⟩
  have e0 : (H 103 44).toNat = t := by omega
  have ht12 : t < 12 := by have := h7.1; omega
  unfold tSt
  rw [e0]
  have hTF := TF_of (B := H) (a := a) (b := b) (t := t)
  by_cases e : tFd H a b t 0 < t
  · by_cases e1 : H 133 (tFd H a b t 0) = a ∧ H 134 (tFd H a b t 0) = b
    · exact cl_tput_1 hT hc hc12 hfk hm1 hs ht ha hb hTF e e1
    · exact cl_tput_0 hT hc hc12 hfk hm1 hs ht ha hb hTF e e1
  · exact cl_tput_n hT hc hc12 hfk hm1 hs ht ha hb hTF (by have := hTF.1; omega) ht12 h7 hw
/-- the addresses that frame f gives -/
def PV (A : AB) (x y z u : Int) (f : Nat) (o : Option (Int × Int)) : Prop := ∃ (s : DSt) (W : Nat → Nat → Int), DEC (acL A) (anL A) (afc A) (afv A) (afn A) (aB A f) (aZ A f) (aLim A) (aRoot A f) s ∧ EP W (aZ A f) s ∧ (0 ≤ s 0 2 ∧ s 0 2 ≤ 64) ∧ ∃ r1 r2, FS s x y r1 ∧ FS s z u r2 ∧ ((0 ≤ r1 ∧ 0 ≤ r2 ∧ o = some (s 8 r1.toNat, s 8 r2.toNat)) ∨ ((r1 = -1 ∨ r2 = -1) ∧ o = none))
section EO3
variable {f : Nat} {s : DSt}
theorem cl_entriesOf3 (hR : CR I M p A) (hf : (f : Int) < A 103 12) : jc L xs (d + 12) 27 [.ref 0, .int (iI ((f : Nat) : Int))] (jx_G j I M p) (fun v g1 => ∃ I' M' p', g1 = jx_G j I' M' p' ∧ v = some (.ref 39) ∧ fr wR2 I I' ∧ fr wE M M' ∧ (∀ i, i ≠ 17 → i ≠ 18 → p' i = p i) ∧ ∃ s, EN I' M' p' A f s) := by
  unfold jc
  have hR0 := hR
  obtain ⟨hv, h1, ⟨Tl, S, σ, h2, h3, h4⟩, h5, hSc, h7, h8, h9⟩ := hR0
  obtain ⟨_, s, W0, sz0, df, hDs, hEs, hcs, hd12, hdf⟩ := h4
  have v5 := hv.2.2.2.2
  have hv12 := v5.2.2.1
  have hf12 : f < 12 := by omega
  obtain ⟨hpf, hFL⟩ := h3.1 f hf12
  have hlm := v5.2.1
  have hlimc : I 0 11 = iI ((aLim A : Nat) : Int) := hSc.2.1.trans (congrArg iI (by unfold aLim; omega))
  obtain ⟨lk, hlke⟩ : ∃ lk : Nat, A 113 f = ((lk : Nat) : Int) := ⟨(A 113 f).toNat, by have := (v5.2.2.2 f hf).1; omega⟩
  have hlk : lk < 2 := by have := (v5.2.2.2 f hf).1; omega
  have hlkc : I (σ f) 2 = iI ((lk : Nat) : Int) := (h3.2.2 f hf).2.1.trans (congrArg iI hlke)
  have hrt : aRoot A f = A 109 lk := by unfold aRoot; rw [hlke]; rfl
  have hroot : -1 ≤ aRoot A f ∧ aRoot A f < 4 := by rw [hrt]; exact v5.1 lk hlk
  have hlim1 : 1 ≤ aLim A ∧ aLim A ≤ 64 := by unfold aLim; omega
  have hX : RX I p Tl (acL A) (anL A) (afc A) (afv A) (afn A) (σ f) (aB A f) (aZ A f) (aLim A) := ⟨h2.1, h5, TXS_L hv.2.1, hFL, FB_of h3 v5 hf, hlim1.2⟩
  have hdr : -1 ≤ df ∧ df < 12 := by
    rcases hdf with z | ⟨f2, z, z2, _⟩ <;> omega
  refine jv_aload_n (pc' := 1) (k := 0) (x := 0) rfl rfl rfl rfl ?_
  refine jv_getI (pc' := 4) (c := 0) (k := 12) (v := (iI df)) rfl rfl rfl (fun _ _ => rfl) rfl rfl hd12 ?_
  refine jv_iload_n (pc' := 5) (k := 1) (x := (iI ((f : Nat) : Int))) rfl rfl rfl rfl ?_
  refine jv_ic_eq (t := 44) (pc' := 8) (a := df) (b := ((f : Nat) : Int)) rfl rfl rfl (by omega) (fun hz_1 => ?_) (fun hz_1 => ?_)
  · skip
    refine jv_aload_n (pc' := 45) (k := 0) (x := 0) rfl rfl rfl rfl ?_
    refine jv_getR (pc' := 48) (c := 0) (k := 4) (v := 38) rfl rfl rfl (fun _ _ => rfl) rfl rfl (jR_0_4 _) ?_
    refine jv_getR (pc' := 51) (c := 6) (k := 0) (v := 39) rfl rfl rfl (fun _ _ => rfl) rfl rfl (jR_38_0 _) ?_
    refine jv_retR rfl rfl ⟨_, _, rfl, ?_⟩
    first
    | (exfalso; omega)
    | (rcases hdf with hdf | ⟨f2, e1, h5, h6, h7⟩
       · exfalso; omega
       · have e2 : f2 = f := by omega
         subst e2
         exact ⟨_, _, _, rfl, rfl, fr_r _, fr_r _, fun _ _ _ => rfl, s, hR, hDs, h6, hcs, e1 ▸ hd12, Tl, S, h2, h7⟩)
  · skip
    refine jv_aload_n (pc' := 9) (k := 0) (x := 0) rfl rfl rfl rfl ?_
    refine jv_getR (pc' := 12) (c := 0) (k := 4) (v := 38) rfl rfl rfl (fun _ _ => rfl) rfl rfl (jR_0_4 _) ?_
    refine jv_aload_n (pc' := 13) (k := 0) (x := 0) rfl rfl rfl rfl ?_
    refine jv_getR (pc' := 16) (c := 0) (k := 3) (v := 13) rfl rfl rfl (fun _ _ => rfl) rfl rfl (jR_0_3 _) ?_
    refine jv_iload_n (pc' := 17) (k := 1) (x := (iI ((f : Nat) : Int))) rfl rfl rfl rfl ?_
    refine jv_aaload (pc' := 18) (n := 12) (e := ((f : Nat) : Int)) (v := (σ f)) rfl rfl rfl rfl rfl (by omega) ((jR13 _ hf12).trans hpf) ?_
    refine jv_aload_n (pc' := 19) (k := 0) (x := 0) rfl rfl rfl rfl ?_
    refine jv_getR (pc' := 22) (c := 0) (k := 2) (v := 12) rfl rfl rfl (fun _ _ => rfl) rfl rfl (jR_0_2 _) ?_
    refine jv_aload_n (pc' := 23) (k := 0) (x := 0) rfl rfl rfl rfl ?_
    refine jv_getR (pc' := 26) (c := 0) (k := 3) (v := 13) rfl rfl rfl (fun _ _ => rfl) rfl rfl (jR_0_3 _) ?_
    refine jv_iload_n (pc' := 27) (k := 1) (x := (iI ((f : Nat) : Int))) rfl rfl rfl rfl ?_
    refine jv_aaload (pc' := 28) (n := 12) (e := ((f : Nat) : Int)) (v := (σ f)) rfl rfl rfl rfl rfl (by omega) ((jR13 _ hf12).trans hpf) ?_
    refine jv_getI (pc' := 31) (c := 5) (k := 2) (v := (iI ((lk : Nat) : Int))) rfl rfl rfl (fun _ _ => rfl) (FL_A hFL j _ _ _) rfl hlkc ?_
    refine jv_iaload (pc' := 32) (n := 2) (e := ((lk : Nat) : Int)) (v := (iI (A 109 lk))) rfl rfl (by decide) rfl rfl rfl (by omega) (hSc.2.2 lk hlk) ?_
    refine jv_aload_n (pc' := 33) (k := 0) (x := 0) rfl rfl rfl rfl ?_
    refine jv_getI (pc' := 36) (c := 0) (k := 11) (v := (iI ((aLim A : Nat) : Int))) rfl rfl rfl (fun _ _ => rfl) rfl rfl (hlimc) ?_
    rw [show A 109 lk = aRoot A f by exact hrt.symm]
    refine jv_call (pc' := 39) rfl (cl_run (I := I) (M := M) (p := p) (Tl := Tl) (root := aRoot A f) (F := σ f) (sz := aZ A f) (lim := aLim A) hX (by omega) hroot) (fun vq2 gq2 q2 => ?_)
    obtain ⟨I1, M1, p1, s1, rfl, rfl, r1, t1, hp1, D1, E1, P1, c1⟩ := q2
    show jx L xs _ 27 39 _ [] _ _
    refine jv_aload_n (pc' := 40) (k := 0) (x := 0) rfl rfl rfl rfl ?_
    refine jv_iload_n (pc' := 41) (k := 1) (x := (iI ((f : Nat) : Int))) rfl rfl rfl rfl ?_
    refine jv_putI (pc' := 44) (c := 0) (k := 12) rfl rfl rfl rfl (fun _ _ _  => rfl) rfl rfl ?_
    refine jv_aload_n (pc' := 45) (k := 0) (x := 0) rfl rfl rfl rfl ?_
    refine jv_getR (pc' := 48) (c := 0) (k := 4) (v := 38) rfl rfl rfl (fun _ _ => rfl) rfl rfl (jR_0_4 _) ?_
    refine jv_getR (pc' := 51) (c := 6) (k := 0) (v := 39) rfl rfl rfl (fun _ _ => rfl) rfl rfl (jR_38_0 _) ?_
    refine jv_retR rfl rfl ⟨_, _, rfl, ?_⟩
    have R1 : fr wR2 I (jm_u I1 0 12 (iI ((f : Nat) : Int))) := fr_u (Or.inr ⟨rfl, rfl⟩) (fr_w r1 (fun l k h => Or.inl h))
    exact ⟨_, _, _, rfl, rfl, R1, t1, hp1, s1, EN_mk hR h2 h3 hf R1 t1 hp1 (show DCe I1 M1 s1 from D1) E1 P1 c1 rfl⟩
end EO3
theorem op_talks_t (hx : iR x) (hy : iR y) (hz : iR lz) (hu : iR nz) (hbad : ¬ ((0 ≤ x ∧ x < 4) ∧ (0 ≤ y ∧ y < 8) ∧ (0 ≤ lz ∧ lz < 4) ∧ (0 ≤ nz ∧ nz < 8))) : jt L xs (d + 1) 16 [.ref 0, .int (iI x), .int (iI y), .int (iI lz), .int (iI nz)] (jx_G j I M p) 50 (fun g1 => g1 = jx_G (j + 1) I M p) := by
  unfold jt
  refine jv_iload_n (pc' := 1) (k := 1) (x := (iI x)) rfl rfl rfl rfl ?_
  refine jv_call (pc' := 4) rfl (cl_isLayer (by omega)) (fun vq1 gq1 q1 => ?_)
  obtain ⟨rfl, rfl⟩ := q1
  show jx L xs _ 16 4 _ [.int (jb (0 ≤ x ∧ x < 4))] _ _
  refine jv_jb_eq (t := 29) (pc' := 7) (P := 0 ≤ x ∧ x < 4) rfl rfl rfl (fun hz_2 => ?_) (fun hz_2 => ?_)
  · skip
    refine jx_ret0 rfl ⟨_, rfl, ?_⟩
    first
    | (exfalso; omega)
    | rfl
  · skip
    refine jv_iload_n (pc' := 8) (k := 2) (x := (iI y)) rfl rfl rfl rfl ?_
    refine jv_call (pc' := 11) rfl (cl_isFieldName (by omega)) (fun vq3 gq3 q3 => ?_)
    obtain ⟨rfl, rfl⟩ := q3
    show jx L xs _ 16 11 _ [.int (jb (0 ≤ y ∧ y < 8))] _ _
    refine jv_jb_eq (t := 29) (pc' := 14) (P := 0 ≤ y ∧ y < 8) rfl rfl rfl (fun hz_4 => ?_) (fun hz_4 => ?_)
    · skip
      refine jx_ret0 rfl ⟨_, rfl, ?_⟩
      first
      | (exfalso; omega)
      | rfl
    · skip
      refine jv_iload_n (pc' := 15) (k := 3) (x := (iI lz)) rfl rfl rfl rfl ?_
      refine jv_call (pc' := 18) rfl (cl_isLayer (by omega)) (fun vq5 gq5 q5 => ?_)
      obtain ⟨rfl, rfl⟩ := q5
      show jx L xs _ 16 18 _ [.int (jb (0 ≤ lz ∧ lz < 4))] _ _
      refine jv_jb_eq (t := 29) (pc' := 21) (P := 0 ≤ lz ∧ lz < 4) rfl rfl rfl (fun hz_6 => ?_) (fun hz_6 => ?_)
      · skip
        refine jx_ret0 rfl ⟨_, rfl, ?_⟩
        first
        | (exfalso; omega)
        | rfl
      · skip
        refine jv_iload (pc' := 23) (k := 4) (x := (iI nz)) rfl rfl rfl ?_
        refine jv_call (pc' := 26) rfl (cl_isFieldName (by omega)) (fun vq7 gq7 q7 => ?_)
        obtain ⟨rfl, rfl⟩ := q7
        show jx L xs _ 16 26 _ [.int (jb (0 ≤ nz ∧ nz < 8))] _ _
        refine jv_jb_ne (t := 37) (pc' := 29) (P := 0 ≤ nz ∧ nz < 8) rfl rfl rfl (fun hz_8 => ?_) (fun hz_8 => ?_)
        · skip
          exfalso; omega
        · skip
          refine jx_ret0 rfl ⟨_, rfl, ?_⟩
          first
          | (exfalso; omega)
          | rfl
set_option maxRecDepth 100000 in
set_option maxHeartbeats 4000000 in
theorem op_talks_c (hR : CR I M p A) (h6 : ∀ f, A 136 f = 0 ∨ A 136 f = 1) (hc : A 103 12 = (c : Int)) (hx : 0 ≤ x ∧ x < 4) (hy : 0 ≤ y ∧ y < 8) (hz : 0 ≤ lz ∧ lz < 4) (hu : 0 ≤ nz ∧ nz < 8)  : jc L xs (d + 13) 16 [.ref 0, .int (iI x), .int (iI y), .int (iI lz), .int (iI nz)] (jx_G j I M p) (fun v g1 => ∃ (I' : Nat → Nat → Int32) (M' : Nat → Nat → Int64) (p' : Nat → Option Nat) (pv : Nat → Option (Int × Int)), g1 = jx_G j I' M' p' ∧ fr cW I I' ∧ fr cV M M' ∧ CR I' M' p' (aTk pv A c) ∧ (∀ i, i < c → PV A x y lz nz i (pv i)) ∧ v = some (.int (iI (aTk pv A c 103 44)))) := by
  unfold jc
  have hv12 := hR.1.2.2.2.2.2.2.1
  refine jv_iload_n (pc' := 1) (k := 1) (x := (iI x)) rfl rfl rfl rfl ?_
  refine jv_call (pc' := 4) rfl (cl_isLayer (by omega)) (fun vq1 gq1 q1 => ?_)
  obtain ⟨rfl, rfl⟩ := q1
  show jx L xs _ 16 4 _ [.int (jb (0 ≤ x ∧ x < 4))] _ _
  refine jv_jb_eq (t := 29) (pc' := 7) (P := 0 ≤ x ∧ x < 4) rfl rfl rfl (fun hz_2 => ?_) (fun hz_2 => ?_)
  · skip
    exfalso; omega
  · skip
    refine jv_iload_n (pc' := 8) (k := 2) (x := (iI y)) rfl rfl rfl rfl ?_
    refine jv_call (pc' := 11) rfl (cl_isFieldName (by omega)) (fun vq3 gq3 q3 => ?_)
    obtain ⟨rfl, rfl⟩ := q3
    show jx L xs _ 16 11 _ [.int (jb (0 ≤ y ∧ y < 8))] _ _
    refine jv_jb_eq (t := 29) (pc' := 14) (P := 0 ≤ y ∧ y < 8) rfl rfl rfl (fun hz_4 => ?_) (fun hz_4 => ?_)
    · skip
      exfalso; omega
    · skip
      refine jv_iload_n (pc' := 15) (k := 3) (x := (iI lz)) rfl rfl rfl rfl ?_
      refine jv_call (pc' := 18) rfl (cl_isLayer (by omega)) (fun vq5 gq5 q5 => ?_)
      obtain ⟨rfl, rfl⟩ := q5
      show jx L xs _ 16 18 _ [.int (jb (0 ≤ lz ∧ lz < 4))] _ _
      refine jv_jb_eq (t := 29) (pc' := 21) (P := 0 ≤ lz ∧ lz < 4) rfl rfl rfl (fun hz_6 => ?_) (fun hz_6 => ?_)
      · skip
        exfalso; omega
      · skip
        refine jv_iload (pc' := 23) (k := 4) (x := (iI nz)) rfl rfl rfl ?_
        refine jv_call (pc' := 26) rfl (cl_isFieldName (by omega)) (fun vq7 gq7 q7 => ?_)
        obtain ⟨rfl, rfl⟩ := q7
        show jx L xs _ 16 26 _ [.int (jb (0 ≤ nz ∧ nz < 8))] _ _
        refine jv_jb_ne (t := 37) (pc' := 29) (P := 0 ≤ nz ∧ nz < 8) rfl rfl rfl (fun hz_8 => ?_) (fun hz_8 => ?_)
        · skip
          refine jv_aload_n (pc' := 38) (k := 0) (x := 0) rfl rfl rfl rfl ?_
          refine jv_getR (pc' := 41) (c := 0) (k := 7) (v := 98) rfl rfl rfl (fun _ _ => rfl) rfl rfl (jR_0_7 _) ?_
          refine jv_call (pc' := 44) rfl (cl_tclear (I := I)) (fun v0 g0 q0 => ?_)
          obtain ⟨I0, rfl, rfl, a0, b0, r0, z0⟩ := q0
          have r00 : fr (fun l k => (l = 98 ∧ k = 2) ∨ l = 100) I I0 := fun l k h => by
            by_cases e : l = 0 ∧ k = 12
            · rw [e.1, e.2]; exact z0
            · exact r0 l k (by unfold wG; omega)
          have hR0 : CR I0 M p (hTk (fun _ => none) A 0) := CR_ta hR r00 (fr_r _) (RTa_0 a0 b0 rfl) (fun l i h => hTk_o h)
          show jx L xs _ 16 44 _ [] _ _
          refine jv_iconst (pc' := 45) (n := 0) rfl rfl ?_
          refine jv_istore (pc' := 47) (k := 5) (x := (iI 0)) rfl rfl rfl (Or.inr rfl) ?_
          have H9 : ∀ (N : Nat) (k : Nat) (I1 : Nat → Nat → Int32) (M1 : Nat → Nat → Int64) (P1 : Nat → Option Nat) (pv : Nat → Option (Int × Int)) (HB : AB), 12 - k < N → (k ≤ c) → (fr cW I I1) → (fr cV M M1) → (HB = hTk pv A k) → (CR I1 M1 P1 HB) → (∀ i, i < k → PV A x y lz nz i (pv i)) → (HB 103 44 = 0 → ∀ f, f < 12 → I1 100 f = iI (-1)) → ∀ f : jm_F, f 0 = some (.ref 0) → f 1 = some (.int (iI x)) → f 2 = some (.int (iI y)) → f 3 = some (.int (iI lz)) → f 4 = some (.int (iI nz)) → f 5 = some (.int (iI ((k : Nat) : Int))) → jx L xs ((d + 13)) 16 47 f [] (jx_G j I1 M1 P1) (fun z => ∃ v g1, z = (.inl v, g1) ∧ (fun v g1 => ∃ (I' : Nat → Nat → Int32) (M' : Nat → Nat → Int64) (p' : Nat → Option Nat) (pv : Nat → Option (Int × Int)), g1 = jx_G j I' M' p' ∧ fr cW I I' ∧ fr cV M M' ∧ CR I' M' p' (aTk pv A c) ∧ (∀ i, i < c → PV A x y lz nz i (pv i)) ∧ v = some (.int (iI (aTk pv A c 103 44)))) v g1) := by
            intro N
            induction N with
            | zero => intro k I1 M1 P1 pv HB hN; exact absurd hN (Nat.not_lt_zero _)
            | succ N ih =>
              intro k I1 M1 P1 pv HB hN hk0 hf hm hHB hR1 hPV hcl f hf0 hf1 hf2 hf3 hf4 hf5 
              refine jv_iload (pc' := 49) (k := 5) (x := (iI ((k : Nat) : Int))) rfl rfl hf5 ?_
              refine jv_aload_n (pc' := 50) (k := 0) (x := 0) rfl rfl rfl hf0 ?_
              refine jv_getI (pc' := 53) (c := 0) (k := 10) (v := (iI ((c : Nat) : Int))) rfl rfl rfl (fun _ _ => rfl) rfl rfl (hR1.2.2.2.2.1.1.trans (congrArg iI (by rw [hHB, hTk_o (by omega)]; exact hc))) ?_
              refine jv_ic_ge (t := 136) (pc' := 56) (a := ((k : Nat) : Int)) (b := ((c : Nat) : Int)) rfl rfl rfl (by omega) (fun hz_10 => ?_) (fun hz_10 => ?_)
              · skip
                have hcH : HB 103 12 = (c : Int) := by rw [hHB, hTk_o (by omega)]; exact hc
                refine jv_aload_n (pc' := 137) (k := 0) (x := 0) rfl rfl rfl hf0 ?_
                refine jv_getR (pc' := 140) (c := 0) (k := 7) (v := 98) rfl rfl rfl (fun _ _ => rfl) rfl rfl (jR_0_7 _) ?_
                refine jv_getI (pc' := 143) (c := 10) (k := 2) (v := (iI (HB 103 44))) rfl rfl rfl (fun _ _ => rfl) rfl rfl hR1.2.2.2.2.2.2.1.1 ?_
                refine jv_retI rfl rfl ⟨_, _, rfl, ?_⟩
                obtain rfl : k = c := by omega
                have hRF : CR I1 M1 P1 (aTk pv A k) := CR_ta hR1 (fr_r _) (fr_r _) (RTa_e (c := k) hR1.2.2.2.2.2.2.1 hcH (fun l i h => by rw [hHB]; exact (hTk_e h).symm)) (fun l i h => (aTk_o h).trans (by rw [hHB]; exact (hTk_o h).symm))
                exact ⟨_, _, _, pv, rfl, hf, hm, hRF, hPV, by rw [hHB, hTk_e (by omega)]⟩
              · skip
                have h44b : 0 ≤ HB 103 44 := hR1.2.2.2.2.2.2.1.2.1.1
                have hcH : HB 103 12 = (c : Int) := by rw [hHB, hTk_o (by omega)]; exact hc
                have eHB : HB = fun i k => if (i = 103 ∧ k = 44) ∨ (133 ≤ i ∧ i ≤ 136) then HB i k else A i k := by
                  funext i k
                  split
                  · rfl
                  next q => rw [hHB]; exact hTk_o q
                refine jv_aload_n (pc' := 57) (k := 0) (x := 0) rfl rfl rfl hf0 ?_
                refine jv_iload (pc' := 59) (k := 5) (x := (iI ((k : Nat) : Int))) rfl rfl hf5 ?_
                refine jv_call (pc' := 62) rfl (cl_entriesOf3 (I := I1) (M := M1) (p := P1) (A := HB) (f := k) hR1 (by omega)) (fun v2 g2 q2 => ?_)
                obtain ⟨I2, M2, p2, rfl, rfl, r2, t2, _, s2, N2⟩ := q2
                obtain ⟨Tl2, S2, hL2, hE2⟩ := N2.2.2.2.2.2
                have hDE : DEC (acL A) (anL A) (afc A) (afv A) (afn A) (aB A k) (aZ A k) (aLim A) (aRoot A k) s2 := by
                  have q := N2.2.2.1
                  rw [eHB] at q; exact q
                have hE3 : EP (Wd I2 Tl2) (aZ A k) s2 := by
                  have q := hE2
                  rw [eHB] at q; exact q
                obtain ⟨_, _, σ2, _, hF2, _⟩ := N2.1.2.2.1
                obtain ⟨hpk, hFk⟩ := hF2.1 k (by omega)
                have hsz := (hF2.2.2 k (by omega)).1
                have hszb := (N2.1.1.2.2.2.2.2.2.2 k (by omega)).2.2.1
                have hsc := N2.2.2.2.1
                show jx L xs _ 16 62 _ [.ref 39] _ _
                refine jv_astore (pc' := 64) (k := 6) (x := 39) rfl rfl rfl (Or.inr (congrArg jm_lng hf5)) ?_
                refine jv_aload (pc' := 66) (k := 6) (x := 39) rfl rfl rfl ?_
                refine jv_iload_n (pc' := 67) (k := 1) (x := (iI x)) rfl rfl rfl hf1 ?_
                refine jv_iload_n (pc' := 68) (k := 2) (x := (iI y)) rfl rfl rfl hf2 ?_
                refine jv_call (pc' := 71) rfl (cl_first (I := I2) (M := M2) (p := p2) (s := s2) N2.2.1 hE3 N2.2.2.2.1 (by omega) (by omega)) (fun v5 g5 q5 => ?_)
                obtain ⟨w1, rfl, rfl, hFS1⟩ := q5
                have hrb1 := FS_b hFS1
                show jx L xs _ 16 71 _ [.int (iI w1)] _ _
                refine jv_istore (pc' := 73) (k := 7) (x := (iI w1)) rfl rfl rfl (Or.inr rfl) ?_
                refine jv_aload (pc' := 75) (k := 6) (x := 39) rfl rfl rfl ?_
                refine jv_iload_n (pc' := 76) (k := 3) (x := (iI lz)) rfl rfl rfl hf3 ?_
                refine jv_iload (pc' := 78) (k := 4) (x := (iI nz)) rfl rfl hf4 ?_
                refine jv_call (pc' := 81) rfl (cl_first (I := I2) (M := M2) (p := p2) (s := s2) N2.2.1 hE3 N2.2.2.2.1 (by omega) (by omega)) (fun v5 g5 q5 => ?_)
                obtain ⟨w2, rfl, rfl, hFS2⟩ := q5
                have hrb2 := FS_b hFS2
                show jx L xs _ 16 81 _ [.int (iI w2)] _ _
                refine jv_istore (pc' := 83) (k := 8) (x := (iI w2)) rfl rfl rfl (Or.inr rfl) ?_
                refine jv_iload (pc' := 85) (k := 7) (x := (iI w1)) rfl rfl rfl ?_
                refine jv_iconst (pc' := 86) (n := -1) rfl rfl ?_
                refine jv_ic_eq (t := 130) (pc' := 89) (a := w1) (b := (-1)) rfl rfl rfl (by omega) (fun hz_11 => ?_) (fun hz_11 => ?_)
                · skip
                  refine jv_iinc (pc' := 133) (k := 5) (a := ((k : Nat) : Int)) rfl rfl hf5 rfl (Or.inr (congrArg jm_lng hf4)) ?_
                  refine jx_step (pc' := 47) rfl ?_
                  have hPk : PV A x y lz nz k none := ⟨s2, _, hDE, hE3, N2.2.2.2.1, w1, w2, hFS1, hFS2, Or.inr ⟨by omega, rfl⟩⟩
                  exact ih (k + 1) I2 M2 p2 (fun i => if i = k then none else pv i) HB (by omega) (by omega) (fr_t hf (fr_w r2 (fun l k h => by unfold wR2 wR at h; unfold cW; omega))) (fr_t hm (fr_w t2 (fun l k h => by unfold wE at h; unfold cV; omega))) (by rw [hTk_un, ← hHB]) N2.1 (fun i hi => by
                        by_cases e : i = k
                        · subst e; rw [if_pos rfl]; exact hPk
                        · rw [if_neg e]; exact hPV i (by omega)) (fun e f hf => (r2 100 f (by unfold wR2 wR; omega)).trans (hcl e f hf)) _ hf0 hf1 hf2 hf3 hf4 rfl 
                · skip
                  refine jv_iload (pc' := 91) (k := 8) (x := (iI w2)) rfl rfl rfl ?_
                  refine jv_iconst (pc' := 92) (n := -1) rfl rfl ?_
                  refine jv_ic_eq (t := 130) (pc' := 95) (a := w2) (b := (-1)) rfl rfl rfl (by omega) (fun hz_12 => ?_) (fun hz_12 => ?_)
                  · skip
                    refine jv_iinc (pc' := 133) (k := 5) (a := ((k : Nat) : Int)) rfl rfl hf5 rfl (Or.inr (congrArg jm_lng hf4)) ?_
                    refine jx_step (pc' := 47) rfl ?_
                    have hPk : PV A x y lz nz k none := ⟨s2, _, hDE, hE3, N2.2.2.2.1, w1, w2, hFS1, hFS2, Or.inr ⟨by omega, rfl⟩⟩
                    exact ih (k + 1) I2 M2 p2 (fun i => if i = k then none else pv i) HB (by omega) (by omega) (fr_t hf (fr_w r2 (fun l k h => by unfold wR2 wR at h; unfold cW; omega))) (fr_t hm (fr_w t2 (fun l k h => by unfold wE at h; unfold cV; omega))) (by rw [hTk_un, ← hHB]) N2.1 (fun i hi => by
                          by_cases e : i = k
                          · subst e; rw [if_pos rfl]; exact hPk
                          · rw [if_neg e]; exact hPV i (by omega)) (fun e f hf => (r2 100 f (by unfold wR2 wR; omega)).trans (hcl e f hf)) _ hf0 hf1 hf2 hf3 hf4 rfl 
                  · skip
                    refine jv_aload_n (pc' := 96) (k := 0) (x := 0) rfl rfl rfl hf0 ?_
                    refine jv_getR (pc' := 99) (c := 0) (k := 7) (v := 98) rfl rfl rfl (fun _ _ => rfl) rfl rfl (jR_0_7 _) ?_
                    refine jv_iload (pc' := 101) (k := 5) (x := (iI ((k : Nat) : Int))) rfl rfl hf5 ?_
                    refine jv_aload_n (pc' := 102) (k := 0) (x := 0) rfl rfl rfl hf0 ?_
                    refine jv_getR (pc' := 105) (c := 0) (k := 3) (v := 13) rfl rfl rfl (fun _ _ => rfl) rfl rfl (jR_0_3 _) ?_
                    refine jv_iload (pc' := 107) (k := 5) (x := (iI ((k : Nat) : Int))) rfl rfl hf5 ?_
                    refine jv_aaload (pc' := 108) (n := 12) (e := ((k : Nat) : Int)) (v := (σ2 k)) rfl rfl rfl rfl rfl (by omega) ((jR13 _ (by omega)).trans hpk) ?_
                    refine jv_getI (pc' := 111) (c := 5) (k := 1) (v := (iI (HB 115 k))) rfl rfl rfl (fun _ _ => rfl) (FL_A hFk j _ _ _) rfl hsz ?_
                    refine jv_aload (pc' := 113) (k := 6) (x := 39) rfl rfl rfl ?_
                    refine jv_getR (pc' := 116) (c := 7) (k := 1) (v := 41) rfl rfl rfl (fun _ _ => rfl) rfl rfl (jR_39_1 _) ?_
                    refine jv_iload (pc' := 118) (k := 7) (x := (iI w1)) rfl rfl rfl ?_
                    refine jv_laload (pc' := 119) (n := 64) (e := w1) (v := (lI (s2 8 w1.toNat))) rfl rfl rfl rfl rfl (by omega) ((N2.2.1.2.2.2 w1.toNat (by omega)).2.2.2.2.2) ?_
                    refine jv_aload (pc' := 121) (k := 6) (x := 39) rfl rfl rfl ?_
                    refine jv_getR (pc' := 124) (c := 7) (k := 1) (v := 41) rfl rfl rfl (fun _ _ => rfl) rfl rfl (jR_39_1 _) ?_
                    refine jv_iload (pc' := 126) (k := 8) (x := (iI w2)) rfl rfl rfl ?_
                    refine jv_laload (pc' := 127) (n := 64) (e := w2) (v := (lI (s2 8 w2.toNat))) rfl rfl rfl rfl rfl (by omega) ((N2.2.1.2.2.2 w2.toNat (by omega)).2.2.2.2.2) ?_
                    have hvb1 := (hE3 w1.toNat (by omega)).1.2.2.2.2
                    have hvb2 := (hE3 w2.toNat (by omega)).1.2.2.2.2
                    refine jv_call (pc' := 130) rfl (cl_tput (I := I2) (M := M2) (p := p2) (H := HB) (c := c) (fk := k) (k := k) N2.1.2.2.2.2.2.2.1 hcH (by omega) (by omega) (by rw [hHB]; exact hTk_m (Nat.le_refl _)) (by omega) hvb1 hvb2 (by rw [hHB]; exact hTk_b h6) (by omega) (fun e f hf => (r2 100 f (by unfold wR2 wR; omega)).trans (hcl e f hf))) (fun v6 g6 q6 => ?_)
                    obtain ⟨I3, M3, rfl, rfl, r3, t3, T3⟩ := q6
                    have hR3 : CR I3 M3 p2 (tSt HB k (s2 8 w1.toNat) (s2 8 w2.toNat)) := CR_ta N2.1 r3 t3 T3 (fun l i h => tSt_o h)
                    show jx L xs _ 16 130 _ [] _ _
                    refine jv_iinc (pc' := 133) (k := 5) (a := ((k : Nat) : Int)) rfl rfl hf5 rfl (Or.inr (congrArg jm_lng hf4)) ?_
                    refine jx_step (pc' := 47) rfl ?_
                    have hPk : PV A x y lz nz k (some (s2 8 w1.toNat, s2 8 w2.toNat)) := ⟨s2, _, hDE, hE3, N2.2.2.2.1, w1, w2, hFS1, hFS2, Or.inl ⟨by omega, by omega, rfl⟩⟩
                    exact ih (k + 1) I3 M3 p2 (fun i => if i = k then some (s2 8 w1.toNat, s2 8 w2.toNat) else pv i) (tSt HB k (s2 8 w1.toNat) (s2 8 w2.toNat)) (by omega) (by omega) (fr_t (fr_t hf (fr_w r2 (fun l k h => by unfold wR2 wR at h; unfold cW; omega))) (fr_w r3 (fun l k h => by unfold cW; omega))) (fr_t (fr_t hm (fr_w t2 (fun l k h => by unfold wE at h; unfold cV; omega))) (fr_w t3 (fun l k h => by unfold cV; omega))) (by rw [hTk_us, ← hHB]) hR3 (fun i hi => by
                          by_cases e : i = k
                          · subst e; rw [if_pos rfl]; exact hPk
                          · rw [if_neg e]; exact hPV i (by omega)) (fun e => absurd e (by have := tSt_pos (k := k) (a := s2 8 w1.toNat) (b := s2 8 w2.toNat) h44b; omega)) _ hf0 hf1 hf2 hf3 hf4 rfl 
          exact H9 _ 0 I0 M p (fun _ => none) (hTk (fun _ => none) A 0) (Nat.lt_succ_self _) (by omega) (fr_t (fr_r _) (fr_w r00 (fun l k h => by unfold cW; omega))) (fr_r _) rfl hR0 (fun i hi => absurd hi (by omega)) (fun _ => b0) _ rfl rfl rfl rfl rfl rfl 
        · skip
          exfalso; omega
theorem CM_uM {l k k' : Nat} {z : Int} (h : CM I M A) (hl : l = 133 ∨ l = 134) (hk : k' = k) : CM I (jm_u M l k' (lI z)) (jm_u A l k z) := by
  subst hk
  refine ⟨fun l' i hp => ?_, fun l' i hl' => ?_⟩
  · rw [jm_u_n2 (by unfold pers at hp; omega)]; exact h.1 l' i hp
  · by_cases e : l' = l ∧ i = k'
    · rw [jm_u_eq e, jm_u_eq e]
    · rw [jm_u_n2 e, jm_u_n2 e]; exact h.2 l' i hl'
set_option maxRecDepth 100000 in
theorem ml_assign (hM : CM I M B) (ht : B 103 44 = (t : Int)) (ht12 : t < 12) (hfk : fk < 12) (hB : ∀ k, k < t → (0 ≤ B 133 k ∧ B 133 k < 4294967296) ∧ (0 ≤ B 134 k ∧ B 134 k < 4294967296)) (ha : 0 ≤ a ∧ a < 4294967296) (hb : 0 ≤ b ∧ b < 4294967296) (hTF : TF B a b t i) : jc L xs d 166 [.ref 103, .int (iI ((fk : Nat) : Int)), .long (lI a), .long (lI b)] (jx_G j I M p) (fun v g1 => ∃ I' M', g1 = jx_G j I' M' p ∧ v = none ∧ fr (fun l k => (l = 103 ∧ k = 44) ∨ l = 135 ∨ l = 136) I I' ∧ fr (fun l _ => l = 133 ∨ l = 134) M M' ∧ CM I' M' (tS1 B fk a b t i)) := by
  unfold jc
  have hit := hTF.1
  refine jv_iconst (pc' := 1) (n := 0) rfl rfl ?_
  refine jv_istore (pc' := 3) (k := 6) (x := (iI 0)) rfl rfl rfl (Or.inr rfl) ?_
  have H1 : ∀ (N : Nat) (k : Nat), 12 - k < N → (k ≤ i) → ∀ f : jm_F, f 0 = some (.ref 103) → f 1 = some (.int (iI ((fk : Nat) : Int))) → f 2 = some (.long (lI a)) → f 4 = some (.long (lI b)) → f 6 = some (.int (iI ((k : Nat) : Int))) → jm_lng (f 3) = false → jm_lng (f 5) = false → jx L xs (d) 166 3 f [] (jx_G j I M p) (fun z => ∃ v g1, z = (.inl v, g1) ∧ (fun v g1 => ∃ I' M', g1 = jx_G j I' M' p ∧ v = none ∧ fr (fun l k => (l = 103 ∧ k = 44) ∨ l = 135 ∨ l = 136) I I' ∧ fr (fun l _ => l = 133 ∨ l = 134) M M' ∧ CM I' M' (tS1 B fk a b t i)) v g1) := by
    intro N
    induction N with
    | zero => intro k hN; exact absurd hN (Nat.not_lt_zero _)
    | succ N ih =>
      intro k hN hk f hf0 hf1 hf2 hf4 hf6 hg3 hg5
      refine jv_iload (pc' := 5) (k := 6) (x := (iI ((k : Nat) : Int))) rfl rfl hf6 ?_
      refine jv_aload_n (pc' := 6) (k := 0) (x := 103) rfl rfl rfl hf0 ?_
      refine jv_getI (pc' := 9) (c := 12) (k := 44) (v := (iI (B 103 44))) rfl rfl rfl (fun _ _ => rfl) rfl rfl (hM.1 103 44 (by simp [pers])) ?_
      refine jv_ic_ge (t := 97) (pc' := 12) (a := ((k : Nat) : Int)) (b := (B 103 44)) rfl rfl rfl (by omega) (fun hz_2 => ?_) (fun hz_2 => ?_)
      · skip
        refine jv_aload_n (pc' := 98) (k := 0) (x := 103) rfl rfl rfl hf0 ?_
        refine jv_getR (pc' := 101) (c := 12) (k := 45) (v := 133) rfl rfl rfl (fun _ _ => rfl) rfl rfl (jR_103_45 _) ?_
        refine jv_aload_n (pc' := 102) (k := 0) (x := 103) rfl rfl rfl hf0 ?_
        refine jv_getI (pc' := 105) (c := 12) (k := 44) (v := (iI ((k : Nat) : Int))) rfl rfl rfl (fun _ _ => rfl) rfl rfl ((hM.1 103 44 (by simp [pers])).trans (congrArg iI (show B 103 44 = ((k : Nat) : Int) by omega))) ?_
        refine jv_lload_n (pc' := 106) (k := 2) (x := (lI a)) rfl rfl rfl hf2 ?_
        refine jv_lastore (pc' := 107) (n := 12) (e := ((k : Nat) : Int)) (v := (lI a)) rfl rfl rfl rfl rfl (by omega) ?_
        refine jv_aload_n (pc' := 108) (k := 0) (x := 103) rfl rfl rfl hf0 ?_
        refine jv_getR (pc' := 111) (c := 12) (k := 46) (v := 134) rfl rfl rfl (fun _ _ => rfl) rfl rfl (jR_103_46 _) ?_
        refine jv_aload_n (pc' := 112) (k := 0) (x := 103) rfl rfl rfl hf0 ?_
        refine jv_getI (pc' := 115) (c := 12) (k := 44) (v := (iI ((k : Nat) : Int))) rfl rfl rfl (fun _ _ => rfl) rfl rfl ((hM.1 103 44 (by simp [pers])).trans (congrArg iI (show B 103 44 = ((k : Nat) : Int) by omega))) ?_
        refine jv_lload (pc' := 117) (k := 4) (x := (lI b)) rfl rfl hf4 ?_
        refine jv_lastore (pc' := 118) (n := 12) (e := ((k : Nat) : Int)) (v := (lI b)) rfl rfl rfl rfl rfl (by omega) ?_
        refine jv_aload_n (pc' := 119) (k := 0) (x := 103) rfl rfl rfl hf0 ?_
        refine jv_getR (pc' := 122) (c := 12) (k := 47) (v := 135) rfl rfl rfl (fun _ _ => rfl) rfl rfl (jR_103_47 _) ?_
        refine jv_iload_n (pc' := 123) (k := 1) (x := (iI ((fk : Nat) : Int))) rfl rfl rfl hf1 ?_
        refine jv_aload_n (pc' := 124) (k := 0) (x := 103) rfl rfl rfl hf0 ?_
        refine jv_getI (pc' := 127) (c := 12) (k := 44) (v := (iI ((k : Nat) : Int))) rfl rfl rfl (fun _ _ => rfl) rfl rfl ((hM.1 103 44 (by simp [pers])).trans (congrArg iI (show B 103 44 = ((k : Nat) : Int) by omega))) ?_
        refine jv_iastore (pc' := 128) (n := 12) (e := ((fk : Nat) : Int)) (v := (iI ((k : Nat) : Int))) rfl rfl rfl rfl rfl (by omega) ?_
        refine jv_aload_n (pc' := 129) (k := 0) (x := 103) rfl rfl rfl hf0 ?_
        refine jv_getR (pc' := 132) (c := 12) (k := 48) (v := 136) rfl rfl rfl (fun _ _ => rfl) rfl rfl (jR_103_48 _) ?_
        refine jv_iload_n (pc' := 133) (k := 1) (x := (iI ((fk : Nat) : Int))) rfl rfl rfl hf1 ?_
        refine jv_iconst (pc' := 134) (n := 1) rfl rfl ?_
        refine jv_bastore (pc' := 135) (n := 12) (e := ((fk : Nat) : Int)) (v := (iI 1)) rfl rfl rfl rfl rfl (by omega) (by first | exact Or.inl rfl | exact Or.inr rfl) ?_
        refine jv_aload_n (pc' := 136) (k := 0) (x := 103) rfl rfl rfl hf0 ?_
        refine jx_step (pc' := 137) rfl ?_
        refine jv_getI (pc' := 140) (c := 12) (k := 44) (v := (iI ((k : Nat) : Int))) rfl rfl rfl (fun _ _ => rfl) rfl rfl ((hM.1 103 44 (by simp [pers])).trans (congrArg iI (show B 103 44 = ((k : Nat) : Int) by omega))) ?_
        refine jv_iconst (pc' := 141) (n := 1) rfl rfl ?_
        refine jv_iadd (pc' := 142) (a := ((k : Nat) : Int)) (b := 1) rfl rfl ?_
        rw [show ((k : Nat) : Int) + 1 = ((k + 1 : Nat) : Int) by omega]
        refine jv_putI (pc' := 145) (c := 12) (k := 44) rfl rfl rfl rfl (fun _ _ _  => rfl) rfl rfl ?_
        refine jv_retV rfl rfl ⟨_, _, rfl, ?_⟩
        first
        | (exfalso; omega)
        | (obtain rfl : k = i := by omega
           obtain rfl : k = t := by omega
           exact ⟨_, _, rfl, rfl, fr_u (Or.inl ⟨rfl, rfl⟩) (fr_u (Or.inr (Or.inr rfl)) (fr_u (Or.inr (Or.inl rfl)) (fr_r _))), fr_u (Or.inr rfl) (fr_u (Or.inl rfl) (fr_r _)), by unfold tS1; rw [if_neg (by omega)]; exact CM_ui (CM_ui (CM_ui (CM_uM (CM_uM hM (Or.inl rfl) (k := k) (by omega)) (Or.inr rfl) (k := k) (by omega)) (l := 135) (k := fk) (z := ((k : Nat) : Int)) (by omega) (by omega)) (l := 136) (k := fk) (z := 1) (by omega) (by omega)) (l := 103) (k := 44) (by omega) rfl⟩)
      · skip
        by_cases eki : k = i
        · skip
          subst eki
          have hyk := hTF.2.2 (by omega)
          unfold tMt at hyk
          have hbk := hB k (by omega)
          refine jv_aload_n (pc' := 13) (k := 0) (x := 103) rfl rfl rfl hf0 ?_
          refine jv_getR (pc' := 16) (c := 12) (k := 45) (v := 133) rfl rfl rfl (fun _ _ => rfl) rfl rfl (jR_103_45 _) ?_
          refine jv_iload (pc' := 18) (k := 6) (x := (iI ((k : Nat) : Int))) rfl rfl hf6 ?_
          refine jv_laload (pc' := 19) (n := 12) (e := ((k : Nat) : Int)) (v := (lI (B 133 k))) rfl rfl rfl rfl rfl (by omega) (hM.2 133 k (by omega)) ?_
          refine jv_lload_n (pc' := 20) (k := 2) (x := (lI a)) rfl rfl rfl hf2 ?_
          refine jv_lc_ne (t := 41) (pc' := 24) (a := (B 133 k)) (b := a) rfl rfl rfl rfl rfl (by omega) (fun hz_3 => ?_) (fun hz_3 => ?_)
          · skip
            refine jv_iconst (pc' := 42) (n := 0) rfl rfl ?_
            refine jv_istore (pc' := 44) (k := 7) (x := (iI 0)) rfl rfl rfl (Or.inr (congrArg jm_lng hf6)) ?_
            refine jv_iload (pc' := 46) (k := 7) (x := (iI 0)) rfl rfl rfl ?_
            refine jv_if_ne (t := 74) (pc' := 49) (a := 0) rfl rfl rfl (by omega) (fun hz_4 => ?_) (fun hz_4 => ?_)
            · skip
              exact absurd hz_4 (by decide)
            · skip
              refine jv_aload_n (pc' := 50) (k := 0) (x := 103) rfl rfl rfl hf0 ?_
              refine jv_getR (pc' := 53) (c := 12) (k := 45) (v := 133) rfl rfl rfl (fun _ _ => rfl) rfl rfl (jR_103_45 _) ?_
              refine jv_iload (pc' := 55) (k := 6) (x := (iI ((k : Nat) : Int))) rfl rfl hf6 ?_
              refine jv_laload (pc' := 56) (n := 12) (e := ((k : Nat) : Int)) (v := (lI (B 133 k))) rfl rfl rfl rfl rfl (by omega) (hM.2 133 k (by omega)) ?_
              refine jv_lload (pc' := 58) (k := 4) (x := (lI b)) rfl rfl hf4 ?_
              refine jv_lc_ne (t := 91) (pc' := 62) (a := (B 133 k)) (b := b) rfl rfl rfl rfl rfl (by omega) (fun hz_5 => ?_) (fun hz_5 => ?_)
              · skip
                exfalso; omega
              · skip
                refine jv_aload_n (pc' := 63) (k := 0) (x := 103) rfl rfl rfl hf0 ?_
                refine jv_getR (pc' := 66) (c := 12) (k := 46) (v := 134) rfl rfl rfl (fun _ _ => rfl) rfl rfl (jR_103_46 _) ?_
                refine jv_iload (pc' := 68) (k := 6) (x := (iI ((k : Nat) : Int))) rfl rfl hf6 ?_
                refine jv_laload (pc' := 69) (n := 12) (e := ((k : Nat) : Int)) (v := (lI (B 134 k))) rfl rfl rfl rfl rfl (by omega) (hM.2 134 k (by omega)) ?_
                refine jv_lload_n (pc' := 70) (k := 2) (x := (lI a)) rfl rfl rfl hf2 ?_
                refine jv_lc_ne (t := 91) (pc' := 74) (a := (B 134 k)) (b := a) rfl rfl rfl rfl rfl (by omega) (fun hz_6 => ?_) (fun hz_6 => ?_)
                · skip
                  exfalso; omega
                · skip
                  refine jv_aload_n (pc' := 75) (k := 0) (x := 103) rfl rfl rfl hf0 ?_
                  refine jv_getR (pc' := 78) (c := 12) (k := 47) (v := 135) rfl rfl rfl (fun _ _ => rfl) rfl rfl (jR_103_47 _) ?_
                  refine jv_iload_n (pc' := 79) (k := 1) (x := (iI ((fk : Nat) : Int))) rfl rfl rfl hf1 ?_
                  refine jv_iload (pc' := 81) (k := 6) (x := (iI ((k : Nat) : Int))) rfl rfl hf6 ?_
                  refine jv_iastore (pc' := 82) (n := 12) (e := ((fk : Nat) : Int)) (v := (iI ((k : Nat) : Int))) rfl rfl rfl rfl rfl (by omega) ?_
                  refine jv_aload_n (pc' := 83) (k := 0) (x := 103) rfl rfl rfl hf0 ?_
                  refine jv_getR (pc' := 86) (c := 12) (k := 48) (v := 136) rfl rfl rfl (fun _ _ => rfl) rfl rfl (jR_103_48 _) ?_
                  refine jv_iload_n (pc' := 87) (k := 1) (x := (iI ((fk : Nat) : Int))) rfl rfl rfl hf1 ?_
                  refine jv_iload (pc' := 89) (k := 7) (x := (iI 0)) rfl rfl rfl ?_
                  refine jv_bastore (pc' := 90) (n := 12) (e := ((fk : Nat) : Int)) (v := (iI 0)) rfl rfl rfl rfl rfl (by omega) (by first | exact Or.inl rfl | exact Or.inr rfl) ?_
                  refine jv_retV rfl rfl ⟨_, _, rfl, ?_⟩
                  first
                  | (exfalso; omega)
                  | exact ⟨_, _, rfl, rfl, fr_u (Or.inr (Or.inr rfl)) (fr_u (Or.inr (Or.inl rfl)) (fr_r _)), fr_r _, by unfold tS1; rw [if_pos (by omega), if_neg (by omega)]; exact CM_ui (CM_ui hM (l := 135) (k := fk) (z := ((k : Nat) : Int)) (by omega) (by omega)) (l := 136) (k := fk) (by omega) (by omega)⟩
          · skip
            refine jv_aload_n (pc' := 25) (k := 0) (x := 103) rfl rfl rfl hf0 ?_
            refine jv_getR (pc' := 28) (c := 12) (k := 46) (v := 134) rfl rfl rfl (fun _ _ => rfl) rfl rfl (jR_103_46 _) ?_
            refine jv_iload (pc' := 30) (k := 6) (x := (iI ((k : Nat) : Int))) rfl rfl hf6 ?_
            refine jv_laload (pc' := 31) (n := 12) (e := ((k : Nat) : Int)) (v := (lI (B 134 k))) rfl rfl rfl rfl rfl (by omega) (hM.2 134 k (by omega)) ?_
            refine jv_lload (pc' := 33) (k := 4) (x := (lI b)) rfl rfl hf4 ?_
            refine jv_lc_ne (t := 41) (pc' := 37) (a := (B 134 k)) (b := b) rfl rfl rfl rfl rfl (by omega) (fun hz_7 => ?_) (fun hz_7 => ?_)
            · skip
              refine jv_iconst (pc' := 42) (n := 0) rfl rfl ?_
              refine jv_istore (pc' := 44) (k := 7) (x := (iI 0)) rfl rfl rfl (Or.inr (congrArg jm_lng hf6)) ?_
              refine jv_iload (pc' := 46) (k := 7) (x := (iI 0)) rfl rfl rfl ?_
              refine jv_if_ne (t := 74) (pc' := 49) (a := 0) rfl rfl rfl (by omega) (fun hz_8 => ?_) (fun hz_8 => ?_)
              · skip
                exact absurd hz_8 (by decide)
              · skip
                refine jv_aload_n (pc' := 50) (k := 0) (x := 103) rfl rfl rfl hf0 ?_
                refine jv_getR (pc' := 53) (c := 12) (k := 45) (v := 133) rfl rfl rfl (fun _ _ => rfl) rfl rfl (jR_103_45 _) ?_
                refine jv_iload (pc' := 55) (k := 6) (x := (iI ((k : Nat) : Int))) rfl rfl hf6 ?_
                refine jv_laload (pc' := 56) (n := 12) (e := ((k : Nat) : Int)) (v := (lI (B 133 k))) rfl rfl rfl rfl rfl (by omega) (hM.2 133 k (by omega)) ?_
                refine jv_lload (pc' := 58) (k := 4) (x := (lI b)) rfl rfl hf4 ?_
                refine jv_lc_ne (t := 91) (pc' := 62) (a := (B 133 k)) (b := b) rfl rfl rfl rfl rfl (by omega) (fun hz_9 => ?_) (fun hz_9 => ?_)
                · skip
                  exfalso; omega
                · skip
                  refine jv_aload_n (pc' := 63) (k := 0) (x := 103) rfl rfl rfl hf0 ?_
                  refine jv_getR (pc' := 66) (c := 12) (k := 46) (v := 134) rfl rfl rfl (fun _ _ => rfl) rfl rfl (jR_103_46 _) ?_
                  refine jv_iload (pc' := 68) (k := 6) (x := (iI ((k : Nat) : Int))) rfl rfl hf6 ?_
                  refine jv_laload (pc' := 69) (n := 12) (e := ((k : Nat) : Int)) (v := (lI (B 134 k))) rfl rfl rfl rfl rfl (by omega) (hM.2 134 k (by omega)) ?_
                  refine jv_lload_n (pc' := 70) (k := 2) (x := (lI a)) rfl rfl rfl hf2 ?_
                  refine jv_lc_ne (t := 91) (pc' := 74) (a := (B 134 k)) (b := a) rfl rfl rfl rfl rfl (by omega) (fun hz_10 => ?_) (fun hz_10 => ?_)
                  · skip
                    exfalso; omega
                  · skip
                    refine jv_aload_n (pc' := 75) (k := 0) (x := 103) rfl rfl rfl hf0 ?_
                    refine jv_getR (pc' := 78) (c := 12) (k := 47) (v := 135) rfl rfl rfl (fun _ _ => rfl) rfl rfl (jR_103_47 _) ?_
                    refine jv_iload_n (pc' := 79) (k := 1) (x := (iI ((fk : Nat) : Int))) rfl rfl rfl hf1 ?_
                    refine jv_iload (pc' := 81) (k := 6) (x := (iI ((k : Nat) : Int))) rfl rfl hf6 ?_
                    refine jv_iastore (pc' := 82) (n := 12) (e := ((fk : Nat) : Int)) (v := (iI ((k : Nat) : Int))) rfl rfl rfl rfl rfl (by omega) ?_
                    refine jv_aload_n (pc' := 83) (k := 0) (x := 103) rfl rfl rfl hf0 ?_
                    refine jv_getR (pc' := 86) (c := 12) (k := 48) (v := 136) rfl rfl rfl (fun _ _ => rfl) rfl rfl (jR_103_48 _) ?_
                    refine jv_iload_n (pc' := 87) (k := 1) (x := (iI ((fk : Nat) : Int))) rfl rfl rfl hf1 ?_
                    refine jv_iload (pc' := 89) (k := 7) (x := (iI 0)) rfl rfl rfl ?_
                    refine jv_bastore (pc' := 90) (n := 12) (e := ((fk : Nat) : Int)) (v := (iI 0)) rfl rfl rfl rfl rfl (by omega) (by first | exact Or.inl rfl | exact Or.inr rfl) ?_
                    refine jv_retV rfl rfl ⟨_, _, rfl, ?_⟩
                    first
                    | (exfalso; omega)
                    | exact ⟨_, _, rfl, rfl, fr_u (Or.inr (Or.inr rfl)) (fr_u (Or.inr (Or.inl rfl)) (fr_r _)), fr_r _, by unfold tS1; rw [if_pos (by omega), if_neg (by omega)]; exact CM_ui (CM_ui hM (l := 135) (k := fk) (z := ((k : Nat) : Int)) (by omega) (by omega)) (l := 136) (k := fk) (by omega) (by omega)⟩
            · skip
              refine jv_iconst (pc' := 38) (n := 1) rfl rfl ?_
              refine jx_step (pc' := 42) rfl ?_
              refine jv_istore (pc' := 44) (k := 7) (x := (iI 1)) rfl rfl rfl (Or.inr (congrArg jm_lng hf6)) ?_
              refine jv_iload (pc' := 46) (k := 7) (x := (iI 1)) rfl rfl rfl ?_
              refine jv_if_ne (t := 74) (pc' := 49) (a := 1) rfl rfl rfl (by omega) (fun hz_11 => ?_) (fun hz_11 => ?_)
              · skip
                refine jv_aload_n (pc' := 75) (k := 0) (x := 103) rfl rfl rfl hf0 ?_
                refine jv_getR (pc' := 78) (c := 12) (k := 47) (v := 135) rfl rfl rfl (fun _ _ => rfl) rfl rfl (jR_103_47 _) ?_
                refine jv_iload_n (pc' := 79) (k := 1) (x := (iI ((fk : Nat) : Int))) rfl rfl rfl hf1 ?_
                refine jv_iload (pc' := 81) (k := 6) (x := (iI ((k : Nat) : Int))) rfl rfl hf6 ?_
                refine jv_iastore (pc' := 82) (n := 12) (e := ((fk : Nat) : Int)) (v := (iI ((k : Nat) : Int))) rfl rfl rfl rfl rfl (by omega) ?_
                refine jv_aload_n (pc' := 83) (k := 0) (x := 103) rfl rfl rfl hf0 ?_
                refine jv_getR (pc' := 86) (c := 12) (k := 48) (v := 136) rfl rfl rfl (fun _ _ => rfl) rfl rfl (jR_103_48 _) ?_
                refine jv_iload_n (pc' := 87) (k := 1) (x := (iI ((fk : Nat) : Int))) rfl rfl rfl hf1 ?_
                refine jv_iload (pc' := 89) (k := 7) (x := (iI 1)) rfl rfl rfl ?_
                refine jv_bastore (pc' := 90) (n := 12) (e := ((fk : Nat) : Int)) (v := (iI 1)) rfl rfl rfl rfl rfl (by omega) (by first | exact Or.inl rfl | exact Or.inr rfl) ?_
                refine jv_retV rfl rfl ⟨_, _, rfl, ?_⟩
                first
                | (exfalso; omega)
                | exact ⟨_, _, rfl, rfl, fr_u (Or.inr (Or.inr rfl)) (fr_u (Or.inr (Or.inl rfl)) (fr_r _)), fr_r _, by unfold tS1; rw [if_pos (by omega), if_pos (by omega)]; exact CM_ui (CM_ui hM (l := 135) (k := fk) (z := ((k : Nat) : Int)) (by omega) (by omega)) (l := 136) (k := fk) (by omega) (by omega)⟩
              · skip
                exact absurd hz_11 (by decide)
        · skip
          have hnk := hTF.2.1 k (by omega)
          unfold tMt at hnk
          have hbk := hB k (by omega)
          refine jv_aload_n (pc' := 13) (k := 0) (x := 103) rfl rfl rfl hf0 ?_
          refine jv_getR (pc' := 16) (c := 12) (k := 45) (v := 133) rfl rfl rfl (fun _ _ => rfl) rfl rfl (jR_103_45 _) ?_
          refine jv_iload (pc' := 18) (k := 6) (x := (iI ((k : Nat) : Int))) rfl rfl hf6 ?_
          refine jv_laload (pc' := 19) (n := 12) (e := ((k : Nat) : Int)) (v := (lI (B 133 k))) rfl rfl rfl rfl rfl (by omega) (hM.2 133 k (by omega)) ?_
          refine jv_lload_n (pc' := 20) (k := 2) (x := (lI a)) rfl rfl rfl hf2 ?_
          refine jv_lc_ne (t := 41) (pc' := 24) (a := (B 133 k)) (b := a) rfl rfl rfl rfl rfl (by omega) (fun hz_12 => ?_) (fun hz_12 => ?_)
          · skip
            refine jv_iconst (pc' := 42) (n := 0) rfl rfl ?_
            refine jv_istore (pc' := 44) (k := 7) (x := (iI 0)) rfl rfl rfl (Or.inr (congrArg jm_lng hf6)) ?_
            refine jv_iload (pc' := 46) (k := 7) (x := (iI 0)) rfl rfl rfl ?_
            refine jv_if_ne (t := 74) (pc' := 49) (a := 0) rfl rfl rfl (by omega) (fun hz_13 => ?_) (fun hz_13 => ?_)
            · skip
              exact absurd hz_13 (by decide)
            · skip
              refine jv_aload_n (pc' := 50) (k := 0) (x := 103) rfl rfl rfl hf0 ?_
              refine jv_getR (pc' := 53) (c := 12) (k := 45) (v := 133) rfl rfl rfl (fun _ _ => rfl) rfl rfl (jR_103_45 _) ?_
              refine jv_iload (pc' := 55) (k := 6) (x := (iI ((k : Nat) : Int))) rfl rfl hf6 ?_
              refine jv_laload (pc' := 56) (n := 12) (e := ((k : Nat) : Int)) (v := (lI (B 133 k))) rfl rfl rfl rfl rfl (by omega) (hM.2 133 k (by omega)) ?_
              refine jv_lload (pc' := 58) (k := 4) (x := (lI b)) rfl rfl hf4 ?_
              refine jv_lc_ne (t := 91) (pc' := 62) (a := (B 133 k)) (b := b) rfl rfl rfl rfl rfl (by omega) (fun hz_14 => ?_) (fun hz_14 => ?_)
              · skip
                refine jv_iinc (pc' := 94) (k := 6) (a := ((k : Nat) : Int)) rfl rfl hf6 rfl (Or.inr hg5) ?_
                refine jx_step (pc' := 3) rfl ?_
                exact ih (k + 1) (by omega) (by omega) _ hf0 hf1 hf2 hf4 rfl hg3 hg5
              · skip
                refine jv_aload_n (pc' := 63) (k := 0) (x := 103) rfl rfl rfl hf0 ?_
                refine jv_getR (pc' := 66) (c := 12) (k := 46) (v := 134) rfl rfl rfl (fun _ _ => rfl) rfl rfl (jR_103_46 _) ?_
                refine jv_iload (pc' := 68) (k := 6) (x := (iI ((k : Nat) : Int))) rfl rfl hf6 ?_
                refine jv_laload (pc' := 69) (n := 12) (e := ((k : Nat) : Int)) (v := (lI (B 134 k))) rfl rfl rfl rfl rfl (by omega) (hM.2 134 k (by omega)) ?_
                refine jv_lload_n (pc' := 70) (k := 2) (x := (lI a)) rfl rfl rfl hf2 ?_
                refine jv_lc_ne (t := 91) (pc' := 74) (a := (B 134 k)) (b := a) rfl rfl rfl rfl rfl (by omega) (fun hz_15 => ?_) (fun hz_15 => ?_)
                · skip
                  refine jv_iinc (pc' := 94) (k := 6) (a := ((k : Nat) : Int)) rfl rfl hf6 rfl (Or.inr hg5) ?_
                  refine jx_step (pc' := 3) rfl ?_
                  exact ih (k + 1) (by omega) (by omega) _ hf0 hf1 hf2 hf4 rfl hg3 hg5
                · skip
                  exfalso; omega
          · skip
            refine jv_aload_n (pc' := 25) (k := 0) (x := 103) rfl rfl rfl hf0 ?_
            refine jv_getR (pc' := 28) (c := 12) (k := 46) (v := 134) rfl rfl rfl (fun _ _ => rfl) rfl rfl (jR_103_46 _) ?_
            refine jv_iload (pc' := 30) (k := 6) (x := (iI ((k : Nat) : Int))) rfl rfl hf6 ?_
            refine jv_laload (pc' := 31) (n := 12) (e := ((k : Nat) : Int)) (v := (lI (B 134 k))) rfl rfl rfl rfl rfl (by omega) (hM.2 134 k (by omega)) ?_
            refine jv_lload (pc' := 33) (k := 4) (x := (lI b)) rfl rfl hf4 ?_
            refine jv_lc_ne (t := 41) (pc' := 37) (a := (B 134 k)) (b := b) rfl rfl rfl rfl rfl (by omega) (fun hz_16 => ?_) (fun hz_16 => ?_)
            · skip
              refine jv_iconst (pc' := 42) (n := 0) rfl rfl ?_
              refine jv_istore (pc' := 44) (k := 7) (x := (iI 0)) rfl rfl rfl (Or.inr (congrArg jm_lng hf6)) ?_
              refine jv_iload (pc' := 46) (k := 7) (x := (iI 0)) rfl rfl rfl ?_
              refine jv_if_ne (t := 74) (pc' := 49) (a := 0) rfl rfl rfl (by omega) (fun hz_17 => ?_) (fun hz_17 => ?_)
              · skip
                exact absurd hz_17 (by decide)
              · skip
                refine jv_aload_n (pc' := 50) (k := 0) (x := 103) rfl rfl rfl hf0 ?_
                refine jv_getR (pc' := 53) (c := 12) (k := 45) (v := 133) rfl rfl rfl (fun _ _ => rfl) rfl rfl (jR_103_45 _) ?_
                refine jv_iload (pc' := 55) (k := 6) (x := (iI ((k : Nat) : Int))) rfl rfl hf6 ?_
                refine jv_laload (pc' := 56) (n := 12) (e := ((k : Nat) : Int)) (v := (lI (B 133 k))) rfl rfl rfl rfl rfl (by omega) (hM.2 133 k (by omega)) ?_
                refine jv_lload (pc' := 58) (k := 4) (x := (lI b)) rfl rfl hf4 ?_
                refine jv_lc_ne (t := 91) (pc' := 62) (a := (B 133 k)) (b := b) rfl rfl rfl rfl rfl (by omega) (fun hz_18 => ?_) (fun hz_18 => ?_)
                · skip
                  refine jv_iinc (pc' := 94) (k := 6) (a := ((k : Nat) : Int)) rfl rfl hf6 rfl (Or.inr hg5) ?_
                  refine jx_step (pc' := 3) rfl ?_
                  exact ih (k + 1) (by omega) (by omega) _ hf0 hf1 hf2 hf4 rfl hg3 hg5
                · skip
                  refine jv_aload_n (pc' := 63) (k := 0) (x := 103) rfl rfl rfl hf0 ?_
                  refine jv_getR (pc' := 66) (c := 12) (k := 46) (v := 134) rfl rfl rfl (fun _ _ => rfl) rfl rfl (jR_103_46 _) ?_
                  refine jv_iload (pc' := 68) (k := 6) (x := (iI ((k : Nat) : Int))) rfl rfl hf6 ?_
                  refine jv_laload (pc' := 69) (n := 12) (e := ((k : Nat) : Int)) (v := (lI (B 134 k))) rfl rfl rfl rfl rfl (by omega) (hM.2 134 k (by omega)) ?_
                  refine jv_lload_n (pc' := 70) (k := 2) (x := (lI a)) rfl rfl rfl hf2 ?_
                  refine jv_lc_ne (t := 91) (pc' := 74) (a := (B 134 k)) (b := a) rfl rfl rfl rfl rfl (by omega) (fun hz_19 => ?_) (fun hz_19 => ?_)
                  · skip
                    refine jv_iinc (pc' := 94) (k := 6) (a := ((k : Nat) : Int)) rfl rfl hf6 rfl (Or.inr hg5) ?_
                    refine jx_step (pc' := 3) rfl ?_
                    exact ih (k + 1) (by omega) (by omega) _ hf0 hf1 hf2 hf4 rfl hg3 hg5
                  · skip
                    exfalso; omega
            · skip
              refine jv_iconst (pc' := 38) (n := 1) rfl rfl ?_
              refine jx_step (pc' := 42) rfl ?_
              refine jv_istore (pc' := 44) (k := 7) (x := (iI 1)) rfl rfl rfl (Or.inr (congrArg jm_lng hf6)) ?_
              refine jv_iload (pc' := 46) (k := 7) (x := (iI 1)) rfl rfl rfl ?_
              refine jv_if_ne (t := 74) (pc' := 49) (a := 1) rfl rfl rfl (by omega) (fun hz_20 => ?_) (fun hz_20 => ?_)
              · skip
                exfalso; omega
              · skip
                exact absurd hz_20 (by decide)
  exact H1 _ 0 (Nat.lt_succ_self _) (by omega) _ rfl rfl rfl rfl rfl rfl rfl
theorem op_talks_b (hM : CM I M A) (hx : iR x) (hy : iR y) (hz : iR lz) (hu : iR nz) (hbad : ¬ ((0 ≤ x ∧ x < 4) ∧ (0 ≤ y ∧ y < 8) ∧ (0 ≤ lz ∧ lz < 4) ∧ (0 ≤ nz ∧ nz < 8))) : jc L xs (d + 1) 165 [.ref 103, .int (iI x), .int (iI y), .int (iI lz), .int (iI nz)] (jx_G j I M p) (fun v g1 => ∃ I', g1 = jx_G j I' M p ∧ fr mW I I' ∧ CM I' M A ∧ I' 103 0 = iI 1) := by
  unfold jc
  refine jv_aload_n (pc' := 1) (k := 0) (x := 103) rfl rfl rfl rfl ?_
  refine jv_iload_n (pc' := 2) (k := 1) (x := (iI x)) rfl rfl rfl rfl ?_
  refine jv_call (pc' := 5) rfl (ml_noLayer (by omega)) (fun vq1 gq1 q1 => ?_)
  obtain ⟨rfl, rfl⟩ := q1
  show jx L xs _ 165 5 _ [.int (jb (x < 0 ∨ 3 < x)), .ref 103] _ _
  refine jv_jb_ne (t := 37) (pc' := 8) (P := x < 0 ∨ 3 < x) rfl rfl rfl (fun hz_2 => ?_) (fun hz_2 => ?_)
  · skip
    refine jv_iconst (pc' := 38) (n := 1) rfl rfl ?_
    refine jx_step (pc' := 42) rfl ?_
    refine jv_putI (pc' := 45) (c := 12) (k := 0) rfl rfl rfl rfl (fun _ _ _  => rfl) rfl rfl ?_
    refine jv_aload_n (pc' := 46) (k := 0) (x := 103) rfl rfl rfl rfl ?_
    refine jv_getI (pc' := 49) (c := 12) (k := 0) (v := (iI 1)) rfl rfl rfl (fun _ _ => rfl) rfl rfl rfl ?_
    refine jv_if_le (t := 54) (pc' := 52) (a := 1) rfl rfl rfl (by omega) (fun hz_3 => ?_) (fun hz_3 => ?_)
    · skip
      exact absurd hz_3 (by decide)
    · skip
      refine jv_iconst (pc' := 53) (n := 0) rfl rfl ?_
      refine jv_retI rfl rfl ⟨_, _, rfl, ?_⟩
      first
      | (exfalso; omega)
      | exact ⟨_, rfl, (fr_u (by simp [mW]) (fr_r _)), CM_n hM (by simp [pers]), rfl⟩
  · skip
    refine jv_iload_n (pc' := 9) (k := 2) (x := (iI y)) rfl rfl rfl rfl ?_
    refine jv_if_lt (t := 37) (pc' := 12) (a := y) rfl rfl rfl (by omega) (fun hz_4 => ?_) (fun hz_4 => ?_)
    · skip
      refine jv_iconst (pc' := 38) (n := 1) rfl rfl ?_
      refine jx_step (pc' := 42) rfl ?_
      refine jv_putI (pc' := 45) (c := 12) (k := 0) rfl rfl rfl rfl (fun _ _ _  => rfl) rfl rfl ?_
      refine jv_aload_n (pc' := 46) (k := 0) (x := 103) rfl rfl rfl rfl ?_
      refine jv_getI (pc' := 49) (c := 12) (k := 0) (v := (iI 1)) rfl rfl rfl (fun _ _ => rfl) rfl rfl rfl ?_
      refine jv_if_le (t := 54) (pc' := 52) (a := 1) rfl rfl rfl (by omega) (fun hz_5 => ?_) (fun hz_5 => ?_)
      · skip
        exact absurd hz_5 (by decide)
      · skip
        refine jv_iconst (pc' := 53) (n := 0) rfl rfl ?_
        refine jv_retI rfl rfl ⟨_, _, rfl, ?_⟩
        first
        | (exfalso; omega)
        | exact ⟨_, rfl, (fr_u (by simp [mW]) (fr_r _)), CM_n hM (by simp [pers]), rfl⟩
    · skip
      refine jv_iload_n (pc' := 13) (k := 2) (x := (iI y)) rfl rfl rfl rfl ?_
      refine jv_bipush (pc' := 15) (n := 7) rfl rfl rfl ?_
      refine jv_ic_gt (t := 37) (pc' := 18) (a := y) (b := 7) rfl rfl rfl (by omega) (fun hz_6 => ?_) (fun hz_6 => ?_)
      · skip
        refine jv_iconst (pc' := 38) (n := 1) rfl rfl ?_
        refine jx_step (pc' := 42) rfl ?_
        refine jv_putI (pc' := 45) (c := 12) (k := 0) rfl rfl rfl rfl (fun _ _ _  => rfl) rfl rfl ?_
        refine jv_aload_n (pc' := 46) (k := 0) (x := 103) rfl rfl rfl rfl ?_
        refine jv_getI (pc' := 49) (c := 12) (k := 0) (v := (iI 1)) rfl rfl rfl (fun _ _ => rfl) rfl rfl rfl ?_
        refine jv_if_le (t := 54) (pc' := 52) (a := 1) rfl rfl rfl (by omega) (fun hz_7 => ?_) (fun hz_7 => ?_)
        · skip
          exact absurd hz_7 (by decide)
        · skip
          refine jv_iconst (pc' := 53) (n := 0) rfl rfl ?_
          refine jv_retI rfl rfl ⟨_, _, rfl, ?_⟩
          first
          | (exfalso; omega)
          | exact ⟨_, rfl, (fr_u (by simp [mW]) (fr_r _)), CM_n hM (by simp [pers]), rfl⟩
      · skip
        refine jv_iload_n (pc' := 19) (k := 3) (x := (iI lz)) rfl rfl rfl rfl ?_
        refine jv_call (pc' := 22) rfl (ml_noLayer (by omega)) (fun vq8 gq8 q8 => ?_)
        obtain ⟨rfl, rfl⟩ := q8
        show jx L xs _ 165 22 _ [.int (jb (lz < 0 ∨ 3 < lz)), .ref 103] _ _
        refine jv_jb_ne (t := 37) (pc' := 25) (P := lz < 0 ∨ 3 < lz) rfl rfl rfl (fun hz_9 => ?_) (fun hz_9 => ?_)
        · skip
          refine jv_iconst (pc' := 38) (n := 1) rfl rfl ?_
          refine jx_step (pc' := 42) rfl ?_
          refine jv_putI (pc' := 45) (c := 12) (k := 0) rfl rfl rfl rfl (fun _ _ _  => rfl) rfl rfl ?_
          refine jv_aload_n (pc' := 46) (k := 0) (x := 103) rfl rfl rfl rfl ?_
          refine jv_getI (pc' := 49) (c := 12) (k := 0) (v := (iI 1)) rfl rfl rfl (fun _ _ => rfl) rfl rfl rfl ?_
          refine jv_if_le (t := 54) (pc' := 52) (a := 1) rfl rfl rfl (by omega) (fun hz_10 => ?_) (fun hz_10 => ?_)
          · skip
            exact absurd hz_10 (by decide)
          · skip
            refine jv_iconst (pc' := 53) (n := 0) rfl rfl ?_
            refine jv_retI rfl rfl ⟨_, _, rfl, ?_⟩
            first
            | (exfalso; omega)
            | exact ⟨_, rfl, (fr_u (by simp [mW]) (fr_r _)), CM_n hM (by simp [pers]), rfl⟩
        · skip
          refine jv_iload (pc' := 27) (k := 4) (x := (iI nz)) rfl rfl rfl ?_
          refine jv_if_lt (t := 37) (pc' := 30) (a := nz) rfl rfl rfl (by omega) (fun hz_11 => ?_) (fun hz_11 => ?_)
          · skip
            refine jv_iconst (pc' := 38) (n := 1) rfl rfl ?_
            refine jx_step (pc' := 42) rfl ?_
            refine jv_putI (pc' := 45) (c := 12) (k := 0) rfl rfl rfl rfl (fun _ _ _  => rfl) rfl rfl ?_
            refine jv_aload_n (pc' := 46) (k := 0) (x := 103) rfl rfl rfl rfl ?_
            refine jv_getI (pc' := 49) (c := 12) (k := 0) (v := (iI 1)) rfl rfl rfl (fun _ _ => rfl) rfl rfl rfl ?_
            refine jv_if_le (t := 54) (pc' := 52) (a := 1) rfl rfl rfl (by omega) (fun hz_12 => ?_) (fun hz_12 => ?_)
            · skip
              exact absurd hz_12 (by decide)
            · skip
              refine jv_iconst (pc' := 53) (n := 0) rfl rfl ?_
              refine jv_retI rfl rfl ⟨_, _, rfl, ?_⟩
              first
              | (exfalso; omega)
              | exact ⟨_, rfl, (fr_u (by simp [mW]) (fr_r _)), CM_n hM (by simp [pers]), rfl⟩
          · skip
            refine jv_iload (pc' := 32) (k := 4) (x := (iI nz)) rfl rfl rfl ?_
            refine jv_bipush (pc' := 34) (n := 7) rfl rfl rfl ?_
            refine jv_ic_le (t := 41) (pc' := 37) (a := nz) (b := 7) rfl rfl rfl (by omega) (fun hz_13 => ?_) (fun hz_13 => ?_)
            · skip
              exfalso; omega
            · skip
              refine jv_iconst (pc' := 38) (n := 1) rfl rfl ?_
              refine jx_step (pc' := 42) rfl ?_
              refine jv_putI (pc' := 45) (c := 12) (k := 0) rfl rfl rfl rfl (fun _ _ _  => rfl) rfl rfl ?_
              refine jv_aload_n (pc' := 46) (k := 0) (x := 103) rfl rfl rfl rfl ?_
              refine jv_getI (pc' := 49) (c := 12) (k := 0) (v := (iI 1)) rfl rfl rfl (fun _ _ => rfl) rfl rfl rfl ?_
              refine jv_if_le (t := 54) (pc' := 52) (a := 1) rfl rfl rfl (by omega) (fun hz_14 => ?_) (fun hz_14 => ?_)
              · skip
                exact absurd hz_14 (by decide)
              · skip
                refine jv_iconst (pc' := 53) (n := 0) rfl rfl ?_
                refine jv_retI rfl rfl ⟨_, _, rfl, ?_⟩
                first
                | (exfalso; omega)
                | exact ⟨_, rfl, (fr_u (by simp [mW]) (fr_r _)), CM_n hM (by simp [pers]), rfl⟩
/-- the addresses of the talks kept are in range -/
def TBr (B : AB) : Prop := ∀ k : Nat, (k : Int) < B 103 44 → (0 ≤ B 133 k ∧ B 133 k < 4294967296) ∧ (0 ≤ B 134 k ∧ B 134 k < 4294967296)
theorem TBr_s (h : TBr B) (h44 : 0 ≤ B 103 44) (ha : 0 ≤ a ∧ a < 4294967296) (hb : 0 ≤ b ∧ b < 4294967296) : TBr (tSt B fk a b) := by
  intro k hk
  obtain ⟨t, ht⟩ : ∃ t : Nat, B 103 44 = (t : Int) := ⟨(B 103 44).toNat, by omega⟩
  have e0 : (B 103 44).toNat = t := by omega
  unfold tSt tS1 at hk ⊢
  rw [e0] at hk ⊢
  split at hk
  next e =>
    rw [if_pos e]
    have hk' : (k : Int) < B 103 44 := hk
    exact h k hk'
  next e =>
    rw [if_neg e]
    have hk' : (k : Int) < ((t + 1 : Nat) : Int) := hk
    by_cases ek : k = t
    · subst ek
      have e1 : jm_u (jm_u (jm_u (jm_u (jm_u B 133 k a) 134 k b) 135 fk (k : Int)) 136 fk 1) 103 44 ((k + 1 : Nat) : Int) 133 k = a := (jm_u_n2 (by omega)).trans ((jm_u_n2 (by omega)).trans ((jm_u_n2 (by omega)).trans ((jm_u_n2 (by omega)).trans (jm_u_eq ⟨rfl, rfl⟩))))
      have e2 : jm_u (jm_u (jm_u (jm_u (jm_u B 133 k a) 134 k b) 135 fk (k : Int)) 136 fk 1) 103 44 ((k + 1 : Nat) : Int) 134 k = b := (jm_u_n2 (by omega)).trans ((jm_u_n2 (by omega)).trans ((jm_u_n2 (by omega)).trans (jm_u_eq ⟨rfl, rfl⟩)))
      rw [e1, e2]; exact ⟨ha, hb⟩
    · have e1 : jm_u (jm_u (jm_u (jm_u (jm_u B 133 t a) 134 t b) 135 fk (t : Int)) 136 fk 1) 103 44 ((t + 1 : Nat) : Int) 133 k = B 133 k := (jm_u_n2 (by omega)).trans ((jm_u_n2 (by omega)).trans ((jm_u_n2 (by omega)).trans ((jm_u_n2 (by omega)).trans (jm_u_n2 (by omega)))))
      have e2 : jm_u (jm_u (jm_u (jm_u (jm_u B 133 t a) 134 t b) 135 fk (t : Int)) 136 fk 1) 103 44 ((t + 1 : Nat) : Int) 134 k = B 134 k := (jm_u_n2 (by omega)).trans ((jm_u_n2 (by omega)).trans ((jm_u_n2 (by omega)).trans ((jm_u_n2 (by omega)).trans (jm_u_n2 (by omega)))))
      rw [e1, e2]; exact h k (by omega)
theorem aTk_44 (h6 : ∀ f, A 136 f = 0 ∨ A 136 f = 1) {k : Nat} : 0 ≤ aTk pv A k 103 44 ∧ aTk pv A k 103 44 ≤ k := by
  rw [← hTk_e (by omega)]; exact (hTk_b h6).1
set_option maxRecDepth 100000 in
set_option maxHeartbeats 4000000 in
theorem op_talks_m (hM : CM I M A) (hv : AV2 A ∧ AV4 A ∧ AV5 A) (h6 : ∀ f, A 136 f = 0 ∨ A 136 f = 1) (hc : A 103 12 = (c : Int)) (hx : 0 ≤ x ∧ x < 4) (hy : 0 ≤ y ∧ y < 8) (hz : 0 ≤ lz ∧ lz < 4) (hu : 0 ≤ nz ∧ nz < 8) (hPV : ∀ i, i < c → PV A x y lz nz i (pv i)) : jc L xs (d + 7) 165 [.ref 103, .int (iI x), .int (iI y), .int (iI lz), .int (iI nz)] (jx_G j I M p) (fun v g1 => ∃ I' M', g1 = jx_G j I' M' p ∧ fr mW I I' ∧ fr mV M M' ∧ CM I' M' (aTk pv A c) ∧ I' 103 0 = iI 0 ∧ v = some (.int (iI (aTk pv A c 103 44)))) := by
  unfold jc
  have hv12 := hv.2.2.2.2.1
  refine jv_aload_n (pc' := 1) (k := 0) (x := 103) rfl rfl rfl rfl ?_
  refine jv_iload_n (pc' := 2) (k := 1) (x := (iI x)) rfl rfl rfl rfl ?_
  refine jv_call (pc' := 5) rfl (ml_noLayer (by omega)) (fun vq1 gq1 q1 => ?_)
  obtain ⟨rfl, rfl⟩ := q1
  show jx L xs _ 165 5 _ [.int (jb (x < 0 ∨ 3 < x)), .ref 103] _ _
  refine jv_jb_ne (t := 37) (pc' := 8) (P := x < 0 ∨ 3 < x) rfl rfl rfl (fun hz_2 => ?_) (fun hz_2 => ?_)
  · skip
    exfalso; omega
  · skip
    refine jv_iload_n (pc' := 9) (k := 2) (x := (iI y)) rfl rfl rfl rfl ?_
    refine jv_if_lt (t := 37) (pc' := 12) (a := y) rfl rfl rfl (by omega) (fun hz_3 => ?_) (fun hz_3 => ?_)
    · skip
      exfalso; omega
    · skip
      refine jv_iload_n (pc' := 13) (k := 2) (x := (iI y)) rfl rfl rfl rfl ?_
      refine jv_bipush (pc' := 15) (n := 7) rfl rfl rfl ?_
      refine jv_ic_gt (t := 37) (pc' := 18) (a := y) (b := 7) rfl rfl rfl (by omega) (fun hz_4 => ?_) (fun hz_4 => ?_)
      · skip
        exfalso; omega
      · skip
        refine jv_iload_n (pc' := 19) (k := 3) (x := (iI lz)) rfl rfl rfl rfl ?_
        refine jv_call (pc' := 22) rfl (ml_noLayer (by omega)) (fun vq5 gq5 q5 => ?_)
        obtain ⟨rfl, rfl⟩ := q5
        show jx L xs _ 165 22 _ [.int (jb (lz < 0 ∨ 3 < lz)), .ref 103] _ _
        refine jv_jb_ne (t := 37) (pc' := 25) (P := lz < 0 ∨ 3 < lz) rfl rfl rfl (fun hz_6 => ?_) (fun hz_6 => ?_)
        · skip
          exfalso; omega
        · skip
          refine jv_iload (pc' := 27) (k := 4) (x := (iI nz)) rfl rfl rfl ?_
          refine jv_if_lt (t := 37) (pc' := 30) (a := nz) rfl rfl rfl (by omega) (fun hz_7 => ?_) (fun hz_7 => ?_)
          · skip
            exfalso; omega
          · skip
            refine jv_iload (pc' := 32) (k := 4) (x := (iI nz)) rfl rfl rfl ?_
            refine jv_bipush (pc' := 34) (n := 7) rfl rfl rfl ?_
            refine jv_ic_le (t := 41) (pc' := 37) (a := nz) (b := 7) rfl rfl rfl (by omega) (fun hz_8 => ?_) (fun hz_8 => ?_)
            · skip
              refine jv_iconst (pc' := 42) (n := 0) rfl rfl ?_
              refine jv_putI (pc' := 45) (c := 12) (k := 0) rfl rfl rfl rfl (fun _ _ _  => rfl) rfl rfl ?_
              refine jv_aload_n (pc' := 46) (k := 0) (x := 103) rfl rfl rfl rfl ?_
              refine jv_getI (pc' := 49) (c := 12) (k := 0) (v := (iI 0)) rfl rfl rfl (fun _ _ => rfl) rfl rfl rfl ?_
              refine jv_if_le (t := 54) (pc' := 52) (a := 0) rfl rfl rfl (by omega) (fun hz_9 => ?_) (fun hz_9 => ?_)
              · skip
                refine jv_aload_n (pc' := 55) (k := 0) (x := 103) rfl rfl rfl rfl ?_
                refine jv_iconst (pc' := 56) (n := 0) rfl rfl ?_
                refine jv_putI (pc' := 59) (c := 12) (k := 44) rfl rfl rfl rfl (fun _ _ _  => rfl) rfl rfl ?_
                refine jv_iconst (pc' := 60) (n := 0) rfl rfl ?_
                refine jv_istore (pc' := 62) (k := 5) (x := (iI 0)) rfl rfl rfl (Or.inr rfl) ?_
                have H10 : ∀ (N : Nat) (k : Nat) (I1 : Nat → Nat → Int32) (M1 : Nat → Nat → Int64) (HB : AB), 12 - k < N → (k ≤ c) → (fr mW I I1) → (fr mV M M1) → (HB = aTk pv A k) → (CM I1 M1 HB) → (I1 103 0 = iI 0) → (TBr HB) → ∀ f : jm_F, f 0 = some (.ref 103) → f 1 = some (.int (iI x)) → f 2 = some (.int (iI y)) → f 3 = some (.int (iI lz)) → f 4 = some (.int (iI nz)) → f 5 = some (.int (iI ((k : Nat) : Int))) → jx L xs ((d + 7)) 165 62 f [] (jx_G j I1 M1 p) (fun z => ∃ v g1, z = (.inl v, g1) ∧ (fun v g1 => ∃ I' M', g1 = jx_G j I' M' p ∧ fr mW I I' ∧ fr mV M M' ∧ CM I' M' (aTk pv A c) ∧ I' 103 0 = iI 0 ∧ v = some (.int (iI (aTk pv A c 103 44)))) v g1) := by
                  intro N
                  induction N with
                  | zero => intro k I1 M1 HB hN; exact absurd hN (Nat.not_lt_zero _)
                  | succ N ih =>
                    intro k I1 M1 HB hN hk0 hf hm hHB hM1 h0 hTB f hf0 hf1 hf2 hf3 hf4 hf5 
                    refine jv_iload (pc' := 64) (k := 5) (x := (iI ((k : Nat) : Int))) rfl rfl hf5 ?_
                    refine jv_aload_n (pc' := 65) (k := 0) (x := 103) rfl rfl rfl hf0 ?_
                    refine jv_getI (pc' := 68) (c := 12) (k := 12) (v := (iI ((c : Nat) : Int))) rfl rfl rfl (fun _ _ => rfl) rfl rfl ((hM1.1 103 12 (by simp [pers])).trans (congrArg iI (by rw [hHB, aTk_o (by omega)]; exact hc))) ?_
                    refine jv_ic_ge (t := 138) (pc' := 71) (a := ((k : Nat) : Int)) (b := ((c : Nat) : Int)) rfl rfl rfl (by omega) (fun hz_11 => ?_) (fun hz_11 => ?_)
                    · skip
                      refine jv_aload_n (pc' := 139) (k := 0) (x := 103) rfl rfl rfl hf0 ?_
                      refine jv_getI (pc' := 142) (c := 12) (k := 44) (v := (iI (HB 103 44))) rfl rfl rfl (fun _ _ => rfl) rfl rfl (hM1.1 103 44 (by simp [pers])) ?_
                      refine jv_retI rfl rfl ⟨_, _, rfl, ?_⟩
                      first
                      | (exfalso; omega)
                      | (obtain rfl : k = c := by omega
                         subst hHB
                         exact ⟨_, _, rfl, hf, hm, hM1, h0, rfl⟩)
                    · skip
                      have hcH : HB 103 12 = (c : Int) := by rw [hHB, aTk_o (by omega)]; exact hc
                      have h44 : 0 ≤ HB 103 44 ∧ HB 103 44 ≤ k := by rw [hHB]; exact aTk_44 h6
                      have eHB : HB = fun i k => if (i = 103 ∧ k = 44) ∨ (133 ≤ i ∧ i ≤ 136) then HB i k else A i k := by
                        funext i k
                        split
                        · rfl
                        next q => rw [hHB]; exact aTk_o q
                      refine jv_aload_n (pc' := 72) (k := 0) (x := 103) rfl rfl rfl hf0 ?_
                      refine jv_iload (pc' := 74) (k := 5) (x := (iI ((k : Nat) : Int))) rfl rfl hf5 ?_
                      obtain ⟨s, W0, hDE, hE0, hc0, w1, w2, hFS1, hFS2, hcs⟩ := hPV k (by omega)
                      have hrb1 := FS_b hFS1
                      have hrb2 := FS_b hFS2
                      refine jv_call (pc' := 77) rfl (ml_dec (I := I1) (M := M1) (A := HB) (f := k) (s := s) hM1 (by rw [eHB]; exact hv) (by omega) (by rw [eHB]; exact hDE)) (fun v2 g2 q2 => ?_)
                      obtain ⟨I2, M2, rfl, rfl, r2, t2, C2, D2, _, z2⟩ := q2
                      show jx L xs _ 165 77 _ [] _ _
                      refine jv_aload_n (pc' := 78) (k := 0) (x := 103) rfl rfl rfl hf0 ?_
                      refine jv_iload_n (pc' := 79) (k := 1) (x := (iI x)) rfl rfl rfl hf1 ?_
                      refine jv_iload_n (pc' := 80) (k := 2) (x := (iI y)) rfl rfl rfl hf2 ?_
                      refine jv_call (pc' := 83) rfl (ml_first (I := I2) (M := M2) (s := s) D2 hE0 hc0 (by omega) (by omega)) (fun v3 g3 q3 => ?_)
                      obtain ⟨w', rfl, rfl, hFS'⟩ := q3
                      obtain rfl := FS_det hFS1 hFS'
                      show jx L xs _ 165 83 _ [.int (iI w1)] _ _
                      refine jv_istore (pc' := 85) (k := 6) (x := (iI w1)) rfl rfl rfl (Or.inr (congrArg jm_lng hf5)) ?_
                      refine jv_aload_n (pc' := 86) (k := 0) (x := 103) rfl rfl rfl hf0 ?_
                      refine jv_iload_n (pc' := 87) (k := 3) (x := (iI lz)) rfl rfl rfl hf3 ?_
                      refine jv_iload (pc' := 89) (k := 4) (x := (iI nz)) rfl rfl hf4 ?_
                      refine jv_call (pc' := 92) rfl (ml_first (I := I2) (M := M2) (s := s) D2 hE0 hc0 (by omega) (by omega)) (fun v3 g3 q3 => ?_)
                      obtain ⟨w', rfl, rfl, hFS'⟩ := q3
                      obtain rfl := FS_det hFS2 hFS'
                      show jx L xs _ 165 92 _ [.int (iI w2)] _ _
                      refine jv_istore (pc' := 94) (k := 7) (x := (iI w2)) rfl rfl rfl (Or.inr rfl) ?_
                      refine jv_aload_n (pc' := 95) (k := 0) (x := 103) rfl rfl rfl hf0 ?_
                      refine jv_getR (pc' := 98) (c := 12) (k := 47) (v := 135) rfl rfl rfl (fun _ _ => rfl) rfl rfl (jR_103_47 _) ?_
                      refine jv_iload (pc' := 100) (k := 5) (x := (iI ((k : Nat) : Int))) rfl rfl hf5 ?_
                      refine jv_iconst (pc' := 101) (n := -1) rfl rfl ?_
                      refine jv_iastore (pc' := 102) (n := 12) (e := ((k : Nat) : Int)) (v := (iI (-1))) rfl rfl rfl rfl rfl (by omega) ?_
                      have C3 : CM (jm_u I2 135 (((k : Nat) : Int)).toNat (iI (-1))) M2 (jm_u HB 135 k (-1)) := CM_ui C2 (by omega) (by omega)
                      refine jv_iload (pc' := 104) (k := 6) (x := (iI w1)) rfl rfl rfl ?_
                      refine jv_if_lt (t := 132) (pc' := 107) (a := w1) rfl rfl rfl (by omega) (fun hz_12 => ?_) (fun hz_12 => ?_)
                      · skip
                        refine jv_iinc (pc' := 135) (k := 5) (a := ((k : Nat) : Int)) rfl rfl hf5 rfl (Or.inr (congrArg jm_lng hf4)) ?_
                        refine jx_step (pc' := 62) rfl ?_
                        have hpk : pv k = none := by
                          rcases hcs with ⟨_, _, _⟩ | ⟨_, e⟩
                          · omega
                          · exact e
                        exact ih (k + 1) (jm_u I2 135 (((k : Nat) : Int) : Int).toNat (iI (-1))) M2 (jm_u HB 135 k (-1)) (by omega) (by omega) (fr_u (by simp [mW]) (fr_t hf r2)) (fr_t hm t2) (by rw [aTk_n hpk, ← hHB]) C3 (z2.trans h0) hTB _ hf0 hf1 hf2 hf3 hf4 rfl 
                      · skip
                        refine jv_iload (pc' := 109) (k := 7) (x := (iI w2)) rfl rfl rfl ?_
                        refine jv_if_lt (t := 132) (pc' := 112) (a := w2) rfl rfl rfl (by omega) (fun hz_13 => ?_) (fun hz_13 => ?_)
                        · skip
                          refine jv_iinc (pc' := 135) (k := 5) (a := ((k : Nat) : Int)) rfl rfl hf5 rfl (Or.inr (congrArg jm_lng hf4)) ?_
                          refine jx_step (pc' := 62) rfl ?_
                          have hpk : pv k = none := by
                            rcases hcs with ⟨_, _, _⟩ | ⟨_, e⟩
                            · omega
                            · exact e
                          exact ih (k + 1) (jm_u I2 135 (((k : Nat) : Int) : Int).toNat (iI (-1))) M2 (jm_u HB 135 k (-1)) (by omega) (by omega) (fr_u (by simp [mW]) (fr_t hf r2)) (fr_t hm t2) (by rw [aTk_n hpk, ← hHB]) C3 (z2.trans h0) hTB _ hf0 hf1 hf2 hf3 hf4 rfl 
                        · skip
                          refine jv_aload_n (pc' := 113) (k := 0) (x := 103) rfl rfl rfl hf0 ?_
                          refine jv_iload (pc' := 115) (k := 5) (x := (iI ((k : Nat) : Int))) rfl rfl hf5 ?_
                          refine jv_aload_n (pc' := 116) (k := 0) (x := 103) rfl rfl rfl hf0 ?_
                          refine jv_getR (pc' := 119) (c := 12) (k := 28) (v := 124) rfl rfl rfl (fun _ _ => rfl) rfl rfl (jR_103_28 _) ?_
                          refine jv_iload (pc' := 121) (k := 6) (x := (iI w1)) rfl rfl rfl ?_
                          refine jv_laload (pc' := 122) (n := 65) (e := w1) (v := (lI (s 8 w1.toNat))) rfl rfl rfl rfl rfl (by omega) ((D2.2.2.2 w1.toNat (by omega)).2.2.2.2.2) ?_
                          refine jv_aload_n (pc' := 123) (k := 0) (x := 103) rfl rfl rfl hf0 ?_
                          refine jv_getR (pc' := 126) (c := 12) (k := 28) (v := 124) rfl rfl rfl (fun _ _ => rfl) rfl rfl (jR_103_28 _) ?_
                          refine jv_iload (pc' := 128) (k := 7) (x := (iI w2)) rfl rfl rfl ?_
                          refine jv_laload (pc' := 129) (n := 65) (e := w2) (v := (lI (s 8 w2.toNat))) rfl rfl rfl rfl rfl (by omega) ((D2.2.2.2 w2.toNat (by omega)).2.2.2.2.2) ?_
                          have hvb1 := (hE0 w1.toNat (by omega)).1.2.2.2.2
                          have hvb2 := (hE0 w2.toNat (by omega)).1.2.2.2.2
                          have hpk : pv k = some (s 8 w1.toNat, s 8 w2.toNat) := by
                            rcases hcs with ⟨_, _, e⟩ | ⟨e, _⟩
                            · exact e
                            · omega
                          refine jv_call (pc' := 132) rfl (ml_assign (I := jm_u I2 135 (((k : Nat) : Int) : Int).toNat (iI (-1))) (M := M2) (B := jm_u HB 135 k (-1)) (t := (HB 103 44).toNat) (fk := k) C3 (show HB 103 44 = _ by omega) (by omega) (by omega) (fun i hi => hTB i (by omega)) hvb1 hvb2 TF_of) (fun v4 g4 q4 => ?_)
                          obtain ⟨I4, M4, rfl, rfl, r4, t4, C4⟩ := q4
                          have C5 : CM I4 M4 (tSt (jm_u HB 135 k (-1)) k (s 8 w1.toNat) (s 8 w2.toNat)) := C4
                          show jx L xs _ 165 132 _ [] _ _
                          refine jv_iinc (pc' := 135) (k := 5) (a := ((k : Nat) : Int)) rfl rfl hf5 rfl (Or.inr (congrArg jm_lng hf4)) ?_
                          refine jx_step (pc' := 62) rfl ?_
                          exact ih (k + 1) I4 M4 (tSt (jm_u HB 135 k (-1)) k (s 8 w1.toNat) (s 8 w2.toNat)) (by omega) (by omega) (fr_t (fr_u (by simp [mW]) (fr_t hf r2)) (fr_w r4 (fun l k h => by unfold mW; omega))) (fr_t (fr_t hm t2) (fr_w t4 (fun l k h => by unfold mV; omega))) (by rw [aTk_v hpk, ← hHB]) C5 ((r4 103 0 (by omega)).trans (z2.trans h0)) (TBr_s hTB (show 0 ≤ HB 103 44 by omega) hvb1 hvb2) _ hf0 hf1 hf2 hf3 hf4 rfl 
                exact H10 _ 0 (jm_u (jm_u I 103 0 (iI 0)) 103 44 (iI 0)) M (jm_u A 103 44 0) (Nat.lt_succ_self _) (by omega) (fr_u (by simp [mW]) (fr_u (by simp [mW]) (fr_r _))) (fr_r _) rfl (CM_u (CM_n hM (by simp [pers])) (by omega)) rfl (fun i hi => absurd (show (i : Int) < 0 from hi) (by omega)) _ rfl rfl rfl rfl rfl rfl 
              · skip
                exact absurd hz_9 (by decide)
            · skip
              exfalso; omega
end H13
