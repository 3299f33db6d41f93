/-! The coupling of the class and the reference: A holds the reference's lasting cells as numbers. -/
abbrev AB : Type := Nat → Nat → Int
def pers (l k : Nat) : Prop := (l = 103 ∧ (k = 2 ∨ k = 11 ∨ k = 12 ∨ k = 44)) ∨ (104 ≤ l ∧ l ≤ 116) ∨ (135 ≤ l ∧ l ≤ 137)
def CM (I : Nat → Nat → Int32) (M : Nat → Nat → Int64) (A : AB) : Prop := (∀ l k, pers l k → I l k = iI (A l k)) ∧ ∀ l k, (l = 133 ∨ l = 134) → M l k = lI (A l k)
theorem CM_fr {V W : Nat → Nat → Prop} {I I' : Nat → Nat → Int32} {M M' : Nat → Nat → Int64} {A : AB} (h : CM I M A) (f : fr W I I') (g : fr V M M') (h1 : ∀ l k, pers l k → ¬ W l k) (h2 : ∀ l k, (l = 133 ∨ l = 134) → ¬ V l k) : CM I' M' A :=
  ⟨fun l k hp => (f l k (h1 l k hp)).trans (h.1 l k hp), fun l k hl => (g l k (h2 l k hl)).trans (h.2 l k hl)⟩
theorem CM_u {I : Nat → Nat → Int32} {M : Nat → Nat → Int64} {A : AB} {l k : Nat} {z : Int} (h : CM I M A) (hl : l ≠ 133 ∧ l ≠ 134) : CM (jm_u I l k (iI z)) M (jm_u A l k z) := by
  refine ⟨fun l' k' hp => ?_, fun l' k' hl' => ?_⟩
  · by_cases e : l' = l ∧ k' = k
    · rw [jm_u_eq e, jm_u_eq e]
    · rw [jm_u_n2 e, jm_u_n2 e]; exact h.1 l' k' hp
  · rw [jm_u_n2 (by omega)]; exact h.2 l' k' hl'
theorem CM_n {I : Nat → Nat → Int32} {M : Nat → Nat → Int64} {A : AB} {l k : Nat} {v : Int32} (h : CM I M A) (hl : ¬ pers l k) : CM (jm_u I l k v) M A :=
  ⟨fun l' k' hp => (jm_u_n2 (fun e => hl (by rw [← e.1, ← e.2]; exact hp))).trans (h.1 l' k' hp), h.2⟩
/-- texts, layers, followers, frames out of the numbers -/
def aC (A : AB) : Nat → Int := fun k => if (k : Int) < A 103 2 then A 104 k else -1
def aN (A : AB) : Nat := (A 103 2).toNat
def acL (A : AB) : Nat → Nat → Int := fun l k => if (k : Int) < A 106 l then A 105 (80 * l + k) else -1
def anL (A : AB) : Nat → Nat := fun l => (A 106 l).toNat
def acF (A : AB) : Nat → Nat → Int := fun l k => if (k : Int) < A 108 l then A 107 (80 * l + k) else -1
def anF (A : AB) : Nat → Nat := fun l => (A 108 l).toNat
def afc (A : AB) : Nat → Nat := fun l => (A 110 l).toNat
def afv (A : AB) : Nat → Nat → Int := fun l k => A 111 (8 * l + k)
def afn (A : AB) : Nat → Nat → Int := fun l k => A 112 (8 * l + k)
def aB (A : AB) : Nat → Nat → Nat := fun f k => if (k : Int) < A 115 f then (A 116 (40 * f + k)).toNat else 0
def aZ (A : AB) : Nat → Nat := fun f => (A 115 f).toNat
def aRoot (A : AB) (f : Nat) : Int := A 109 (A 113 f).toNat
def aLim (A : AB) : Nat := (A 103 11).toNat
/-- ranges -/
def AV1 (A : AB) : Prop := (0 ≤ A 103 2 ∧ A 103 2 ≤ 80) ∧ (∀ k : Nat, (k : Int) < A 103 2 → 0 ≤ A 104 k ∧ A 104 k < 256)
def AV2 (A : AB) : Prop := ∀ l, l < 4 → (0 ≤ A 106 l ∧ A 106 l ≤ 80) ∧ (∀ k : Nat, (k : Int) < A 106 l → 0 ≤ A 105 (80 * l + k) ∧ A 105 (80 * l + k) < 256)
def AV3 (A : AB) : Prop := ∀ l, l < 4 → (0 ≤ A 108 l ∧ A 108 l ≤ 80) ∧ (∀ k : Nat, (k : Int) < A 108 l → 0 ≤ A 107 (80 * l + k) ∧ A 107 (80 * l + k) < 256) ∧ (0 < A 108 l → ∃ i e, QE (acF A l) (anF A l) i 0 0 [] true e)
def AV4 (A : AB) : Prop := ∀ l, l < 4 → (0 ≤ A 110 l ∧ A 110 l ≤ 8) ∧ (∀ k : Nat, (k : Int) < A 110 l → (0 ≤ A 111 (8 * l + k) ∧ A 111 (8 * l + k) < 2147483648) ∧ (0 ≤ A 112 (8 * l + k) ∧ A 112 (8 * l + k) < 4)) ∧ (∀ k k' : Nat, (k : Int) < A 110 l → (k' : Int) < A 110 l → A 111 (8 * l + k) = A 111 (8 * l + k') → k = k')
def AV5 (A : AB) : Prop := (∀ i, i < 2 → -1 ≤ A 109 i ∧ A 109 i < 4) ∧ (1 ≤ A 103 11 ∧ A 103 11 ≤ 64) ∧ (0 ≤ A 103 12 ∧ A 103 12 ≤ 12) ∧ (∀ f : Nat, (f : Int) < A 103 12 → (0 ≤ A 113 f ∧ A 113 f < 2) ∧ (0 ≤ A 114 f ∧ A 114 f < 2147483648) ∧ (1 ≤ A 115 f ∧ A 115 f ≤ 40) ∧ ∀ k : Nat, (k : Int) < A 115 f → 0 ≤ A 116 (40 * f + k) ∧ A 116 (40 * f + k) < 256)
/-- the class's parts -/
def RDr (I : Nat → Nat → Int32) (A : AB) : Prop := CT I 1 (aC A) (aN A)
def RLy (I : Nat → Nat → Int32) (p : Nat → Option Nat) (A : AB) (Tl : Nat → Nat) (S : Nat) : Prop := LYS I p Tl (acL A) (anL A) ∧ p 0 = some S ∧ YL S ∧ (∀ l, l < 4 → Tl l ≠ S) ∧ (∀ l l', l < 4 → l' < 4 → Tl l = Tl l' → l = l')
def RFo (I : Nat → Nat → Int32) (A : AB) : Prop := FWS I (afc A) (afv A) (afn A)
def RFr (I : Nat → Nat → Int32) (p : Nat → Option Nat) (A : AB) (σ : Nat → Nat) : Prop := (∀ i, i < 12 → p (1 + i) = some (σ i) ∧ FL (σ i)) ∧ (∀ i i', i < 12 → i' < 12 → σ i = σ i' → i = i') ∧ ∀ f : Nat, (f : Int) < A 103 12 → (I (σ f) 1 = iI (A 115 f) ∧ I (σ f) 2 = iI (A 113 f) ∧ I (σ f) 3 = iI (A 114 f) ∧ ∀ k : Nat, (k : Int) < A 115 f → I (σ f + 1) k = iI (A 116 (40 * f + k)))
def RSc (I : Nat → Nat → Int32) (A : AB) : Prop := I 0 10 = iI (A 103 12) ∧ I 0 11 = iI (A 103 11) ∧ ∀ i, i < 2 → I 12 i = iI (A 109 i)
def RFi (I : Nat → Nat → Int32) (A : AB) : Prop := ∀ f, f < 4 → CT I (87 + 2 * f) (acF A f) (anF A f)
def RDe (I : Nat → Nat → Int32) (M : Nat → Nat → Int64) (A : AB) (Tl : Nat → Nat) : Prop := (∃ z : Bool, I 95 5 = iI (ib z)) ∧ ∃ (s : DSt) (W : Nat → Nat → Int) (sz : Nat) (df : Int), DCe I M s ∧ EP W sz s ∧ (0 ≤ s 0 2 ∧ s 0 2 ≤ 64) ∧ I 0 12 = iI df ∧ (df = -1 ∨ ∃ f : Nat, df = (f : Int) ∧ (f : Int) < A 103 12 ∧ DEC (acL A) (anL A) (afc A) (afv A) (afn A) (aB A f) (aZ A f) (aLim A) (aRoot A f) s ∧ EP (Wd I Tl) (aZ A f) s)
/-- talks: of frames f < n the reference keeps the talk (135) and whether it goes the same way (136) -/
def tcnt (A : AB) (k : Int) (w b : Int) : Nat → Int
  | 0 => 0
  | f + 1 => tcnt A k w b f + (if A 135 f = k ∧ A 136 f = w then (if b = 0 then 1 else A 115 f) else 0)
def RTa (I : Nat → Nat → Int32) (M : Nat → Nat → Int64) (A : AB) : Prop := I 98 2 = iI (A 103 44) ∧ (0 ≤ A 103 44 ∧ A 103 44 ≤ 12) ∧
  (∀ k : Nat, (k : Int) < A 103 44 → M 99 (6 * k) = lI (A 133 k) ∧ M 99 (6 * k + 1) = lI (A 134 k) ∧ (0 ≤ A 133 k ∧ A 133 k < 4294967296) ∧ (0 ≤ A 134 k ∧ A 134 k < 4294967296) ∧ M 99 (6 * k + 2) = lI (tcnt A k 1 0 (A 103 12).toNat) ∧ M 99 (6 * k + 3) = lI (tcnt A k 0 0 (A 103 12).toNat) ∧ M 99 (6 * k + 4) = lI (tcnt A k 1 1 (A 103 12).toNat) ∧ M 99 (6 * k + 5) = lI (tcnt A k 0 1 (A 103 12).toNat)) ∧
  (∀ f : Nat, f < 12 → ∃ w : Int, I 100 f = iI w ∧ (-1 ≤ w ∧ w < 12) ∧ ((f : Int) < A 103 12 → 0 < A 103 44 → (A 136 f = 0 ∨ A 136 f = 1) ∧ (-1 ≤ A 135 f ∧ A 135 f < A 103 44) ∧ (∀ k : Int, 0 ≤ k → (w = k ↔ (A 135 f = k ∧ A 136 f = 1)))))
def RJo (I : Nat → Nat → Int32) (A : AB) : Prop := ∀ q, q < 64 → I 102 q = iI (A 137 q) ∧ -1 ≤ A 137 q ∧ A 137 q < 256
def CR (I : Nat → Nat → Int32) (M : Nat → Nat → Int64) (p : Nat → Option Nat) (A : AB) : Prop := (AV1 A ∧ AV2 A ∧ AV3 A ∧ AV4 A ∧ AV5 A) ∧ RDr I A ∧ (∃ Tl S σ, RLy I p A Tl S ∧ RFr I p A σ ∧ RDe I M A Tl) ∧ RFo I A ∧ RSc I A ∧ RFi I A ∧ RTa I M A ∧ RJo I A
theorem TXS_L {A : AB} (h : AV2 A) : TXS (acL A) (anL A) := fun l hl => by
  obtain ⟨h1, h2⟩ := h l hl
  refine ⟨fun k hk => ?_, fun k hk => ?_⟩
  · have e : acL A l k = A 105 (80 * l + k) := if_pos (by unfold anL at hk; omega)
    rw [e]; exact h2 k (by unfold anL at hk; omega)
  · exact if_neg (by unfold anL at hk; omega)
theorem TXS_F {A : AB} (h : AV3 A) : TXS (acF A) (anF A) := fun l hl => by
  obtain ⟨h1, h2, _⟩ := h l hl
  refine ⟨fun k hk => ?_, fun k hk => ?_⟩
  · have e : acF A l k = A 107 (80 * l + k) := if_pos (by unfold anF at hk; omega)
    rw [e]; exact h2 k (by unfold anF at hk; omega)
  · exact if_neg (by unfold anF at hk; omega)
theorem aB_lt {A : AB} (hv : AV5 A) {f : Nat} (hf : (f : Int) < A 103 12) (k : Nat) : aB A f k < 256 ∧ ((k : Int) < A 115 f → ((aB A f k : Nat) : Int) = A 116 (40 * f + k)) := by
  obtain ⟨h1, h2, h3, h4⟩ := hv.2.2.2 f hf
  unfold aB
  by_cases hk : (k : Int) < A 115 f
  · have := h4 k hk
    rw [if_pos hk]; omega
  · rw [if_neg hk]; omega
theorem FM_of {I : Nat → Nat → Int32} {M : Nat → Nat → Int64} {A : AB} (h : CM I M A) (hv : AV5 A) {f : Nat} (hf : (f : Int) < A 103 12) : FM I f (aB A f) (aZ A f) := by
  obtain ⟨h1, h2, h3, h4⟩ := hv.2.2.2 f hf
  have hz : ((aZ A f : Nat) : Int) = A 115 f := by unfold aZ; omega
  refine ⟨by have := hv.2.2.1; omega, by rw [hz]; exact h.1 115 f (by unfold pers; omega), by omega, fun k hk => ?_, fun k => (aB_lt hv hf k).1⟩
  rw [(aB_lt hv hf k).2 (by omega)]; exact h.1 116 _ (by unfold pers; omega)
theorem FB_of {I : Nat → Nat → Int32} {p : Nat → Option Nat} {A : AB} {σ : Nat → Nat} (h : RFr I p A σ) (hv : AV5 A) {f : Nat} (hf : (f : Int) < A 103 12) : FB I (σ f) (aB A f) (aZ A f) := by
  obtain ⟨h1, h2, h3, h4⟩ := hv.2.2.2 f hf
  obtain ⟨q1, q2, q3, q4⟩ := h.2.2 f hf
  have hz : ((aZ A f : Nat) : Int) = A 115 f := by unfold aZ; omega
  refine ⟨by rw [hz]; exact q1, by omega, fun k hk => ?_, fun k => (aB_lt hv hf k).1⟩
  rw [(aB_lt hv hf k).2 (by omega)]; exact q4 k (by omega)
theorem MD_of {I : Nat → Nat → Int32} {M : Nat → Nat → Int64} {A : AB} (h : CM I M A) (hv : AV2 A ∧ AV4 A ∧ AV5 A) {f : Nat} (hf : (f : Int) < A 103 12) : MD I f (aB A f) (aZ A f) (aLim A) (acL A) (anL A) (afc A) (afv A) (afn A) := by
  obtain ⟨v2, v4, v5⟩ := hv
  have hl : ((aLim A : Nat) : Int) = A 103 11 := by have := v5.2.1; unfold aLim; omega
  refine ⟨FM_of h v5 hf, by rw [hl]; exact h.1 103 11 (by unfold pers; omega), by have := v5.2.1; omega, fun l hl => ?_, fun l hl => ?_, TXS_L v2⟩
  · obtain ⟨h1, h2⟩ := v2 l hl
    have e : ((anL A l : Nat) : Int) = A 106 l := by unfold anL; omega
    refine ⟨by rw [e]; exact h.1 106 l (by unfold pers; omega), by omega, fun k hk => ?_⟩
    have e2 : acL A l k = A 105 (80 * l + k) := if_pos (by omega)
    rw [e2]; exact h.1 105 _ (by unfold pers; omega)
  · obtain ⟨h1, h2, h3⟩ := v4 l hl
    have e : ((afc A l : Nat) : Int) = A 110 l := by unfold afc; omega
    refine ⟨by rw [e]; exact h.1 110 l (by unfold pers; omega), by omega, fun k hk => ?_, fun k k' hk hk' he => h3 k k' (by omega) (by omega) he⟩
    obtain ⟨a, b⟩ := h2 k (by omega)
    exact ⟨h.1 111 _ (by unfold pers; omega), h.1 112 _ (by unfold pers; omega), a, b⟩
theorem MFL_of {I : Nat → Nat → Int32} {M : Nat → Nat → Int64} {A : AB} (h : CM I M A) (hv : AV3 A) : MFL I (acF A) (anF A) := fun l hl => by
  obtain ⟨h1, h2, _⟩ := hv l hl
  have e : ((anF A l : Nat) : Int) = A 108 l := by unfold anF; omega
  refine ⟨by rw [e]; exact h.1 108 l (by unfold pers; omega), by omega, fun k hk => ?_⟩
  have e2 : acF A l k = A 107 (80 * l + k) := if_pos (by omega)
  rw [e2]; exact h.1 107 _ (by unfold pers; omega)
/-- what is not written stays -/
theorem LYS_w {W : Nat → Nat → Prop} {I I' : Nat → Nat → Int32} {p p' : Nat → Option Nat} {Tl : Nat → Nat} {cL : Nat → Nat → Int} {nL : Nat → Nat} (h : LYS I p Tl cL nL) (f : fr W I I') (hp : ∀ i, 13 ≤ i → i < 17 → p' i = p i) (hW : ∀ l i k, l < 4 → i ≤ 6 → ¬ W (Tl l + i) k) : LYS I' p' Tl cL nL := fun l hl => by
  obtain ⟨h1, h2, h3, h4⟩ := h l hl
  have hw0 := hW l 0
  refine ⟨(hp _ (by omega) (by omega)).trans h1, h2, h3, ?_⟩
  rcases h4 with ⟨a, b⟩ | ⟨a, Y, m, q, e, ch, b1, b2, b3, b4, b5, b6⟩
  · exact Or.inl ⟨a, (f _ _ (hw0 6 hl (by omega))).trans b⟩
  · refine Or.inr ⟨a, Y, m, q, e, ch, LB_fr b1 f (fun l' k q1 q2 => ?_), b2, b3, b4, (f _ _ (hw0 7 hl (by omega))).trans b5, b6⟩
    have := hW l (l' - Tl l) k hl (by omega)
    rwa [show Tl l + (l' - Tl l) = l' by omega] at this
theorem RLy_w {W : Nat → Nat → Prop} {I I' : Nat → Nat → Int32} {p p' : Nat → Option Nat} {A : AB} {Tl : Nat → Nat} {S : Nat} (h : RLy I p A Tl S) (f : fr W I I') (hp : ∀ i, i = 0 ∨ (13 ≤ i ∧ i < 17) → p' i = p i) (hW : ∀ T i k, YL T → i ≤ 6 → ¬ W (T + i) k) : RLy I' p' A Tl S :=
  ⟨LYS_w h.1 f (fun i h1 h2 => hp i (Or.inr ⟨h1, h2⟩)) (fun l i k hl hi => hW _ i k (h.1 l hl).2.1 hi), (hp 0 (Or.inl rfl)).trans h.2.1, h.2.2⟩
theorem RFo_w {W : Nat → Nat → Prop} {I I' : Nat → Nat → Int32} {A : AB} (h : RFo I A) (f : fr W I I') (hW : ∀ G i k, GL G → i ≤ 2 → ¬ W (G + i) k) : RFo I' A := fun l hl => FOC_fr (h l hl) f (fun k => ⟨hW _ 0 k (GL_l hl) (by omega), hW _ 1 k (GL_l hl) (by omega), hW _ 2 k (GL_l hl) (by omega)⟩)
theorem RFr_w {W : Nat → Nat → Prop} {I I' : Nat → Nat → Int32} {p p' : Nat → Option Nat} {A : AB} {σ : Nat → Nat} (h : RFr I p A σ) (f : fr W I I') (hp : ∀ i, 1 ≤ i → i < 13 → p' i = p i) (hW : ∀ F i k, FL F → i ≤ 1 → ¬ W (F + i) k) (h12 : A 103 12 ≤ 12) : RFr I' p' A σ := by
  refine ⟨fun i hi => ⟨(hp _ (by omega) (by omega)).trans (h.1 i hi).1, (h.1 i hi).2⟩, h.2.1, fun g hg => ?_⟩
  obtain ⟨a, b, c, e⟩ := h.2.2 g hg
  have hF := (h.1 g (by omega)).2
  exact ⟨(f _ _ (hW _ 0 _ hF (by omega))).trans a, (f _ _ (hW _ 0 _ hF (by omega))).trans b, (f _ _ (hW _ 0 _ hF (by omega))).trans c, fun k hk => (f _ _ (hW _ 1 _ hF (by omega))).trans (e k hk)⟩
theorem RSc_w {W : Nat → Nat → Prop} {I I' : Nat → Nat → Int32} {A : AB} (h : RSc I A) (f : fr W I I') (hW : ¬ W 0 10 ∧ ¬ W 0 11 ∧ ∀ k, ¬ W 12 k) : RSc I' A := ⟨(f _ _ hW.1).trans h.1, (f _ _ hW.2.1).trans h.2.1, fun i hi => (f _ _ (hW.2.2 i)).trans (h.2.2 i hi)⟩
theorem RFi_w {W : Nat → Nat → Prop} {I I' : Nat → Nat → Int32} {A : AB} (h : RFi I A) (f : fr W I I') (hW : ∀ l k, 87 ≤ l → l ≤ 94 → ¬ W l k) : RFi I' A := fun g hg => CT_fr (h g hg) f (hW _ _ (by omega) (by omega)) (fun k => hW _ _ (by omega) (by omega))
theorem RTa_w {W V : Nat → Nat → Prop} {I I' : Nat → Nat → Int32} {M M' : Nat → Nat → Int64} {A : AB} (h : RTa I M A) (f : fr W I I') (g : fr V M M') (hW : ¬ W 98 2 ∧ ∀ k, ¬ W 100 k) (hV : ∀ k, ¬ V 99 k) : RTa I' M' A := by
  obtain ⟨h1, h2, h3, h4⟩ := h
  refine ⟨(f _ _ hW.1).trans h1, h2, fun k hk => ?_, fun q hq => ?_⟩
  · obtain ⟨a, b, c, d, e1, e2, e3, e4⟩ := h3 k hk
    exact ⟨(g _ _ (hV _)).trans a, (g _ _ (hV _)).trans b, c, d, (g _ _ (hV _)).trans e1, (g _ _ (hV _)).trans e2, (g _ _ (hV _)).trans e3, (g _ _ (hV _)).trans e4⟩
  · obtain ⟨w, a, b⟩ := h4 q hq
    exact ⟨w, (f _ _ (hW.2 _)).trans a, b⟩
theorem RJo_w {W : Nat → Nat → Prop} {I I' : Nat → Nat → Int32} {A : AB} (h : RJo I A) (f : fr W I I') (hW : ∀ k, ¬ W 102 k) : RJo I' A := fun q hq => ⟨(f _ _ (hW q)).trans (h q hq).1, (h q hq).2⟩
theorem RDe_w {W V : Nat → Nat → Prop} {I I' : Nat → Nat → Int32} {M M' : Nat → Nat → Int64} {p : Nat → Option Nat} {A : AB} {Tl : Nat → Nat} {S : Nat} (hL : RLy I p A Tl S) (h : RDe I M A Tl) (f : fr W I I') (g : fr V M M') (hW : ¬ W 95 5 ∧ ¬ W 38 9 ∧ ¬ W 38 10 ∧ ¬ W 39 2 ∧ (∀ k, ¬ W 40 k) ∧ ¬ W 0 12) (hW2 : ∀ T k, YL T → ¬ W (T + 5) k) (hV : ∀ k, ¬ V 41 k) : RDe I' M' A Tl := by
  obtain ⟨⟨z, hz⟩, s, W0, sz, df, h1, h2, h3, h4, h5⟩ := h
  refine ⟨⟨z, (f _ _ hW.1).trans hz⟩, s, W0, sz, df, DCe_fr h1 f g ⟨hW.2.1, hW.2.2.1, hW.2.2.2.1, hW.2.2.2.2.1⟩ hV, h2, h3, (f _ _ hW.2.2.2.2.2).trans h4, ?_⟩
  rcases h5 with h5 | ⟨q, a, b, c, e⟩
  · exact Or.inl h5
  · refine Or.inr ⟨q, a, b, c, ?_⟩
    intro k hk
    obtain ⟨e1, e2⟩ := e k hk
    refine ⟨e1, ?_⟩
    rcases e2 with e2 | e2 | e2 | ⟨x1, x2, x3⟩
    · exact Or.inl e2
    · exact Or.inr (Or.inl e2)
    · exact Or.inr (Or.inr (Or.inl e2))
    · refine Or.inr (Or.inr (Or.inr ⟨x1, ?_, x3⟩))
      have hl := e1.1
      have : Wd I' Tl (s 3 k).toNat (s 4 k).toNat = Wd I Tl (s 3 k).toNat (s 4 k).toNat := congrArg Int32.toInt (f _ _ (hW2 _ _ (hL.1 _ (by omega)).2.1))
      rw [this]; exact x2
