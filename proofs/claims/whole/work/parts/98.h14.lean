/-! printed by wip/whole/gen/h14.py: operation stream -/
theorem lI_mz {x : Int} {k : Nat} (hk : k ≤ 32) : lI x &&& lI ((2 ^ k - 1 : Nat) : Int) = lI (x % ((2 ^ k : Nat) : Int)) := by
  have h1 : 2 ^ k ≤ 2 ^ 32 := Nat.pow_le_pow_right (by decide) hk
  have h0 : 0 < 2 ^ k := Nat.two_pow_pos k
  apply Int64.toBitVec_inj.1
  rw [Int64.toBitVec_and]
  apply BitVec.eq_of_toNat_eq
  have e1 : (lI x).toBitVec = BitVec.ofInt 64 x := rfl
  have e2 : (lI (x % ((2 ^ k : Nat) : Int))).toBitVec = BitVec.ofInt 64 (x % ((2 ^ k : Nat) : Int)) := rfl
  rw [e1, e2, lI_nat, BitVec.toNat_and, BitVec.toNat_ofInt, BitVec.toNat_ofInt, BitVec.toNat_ofNat, Nat.mod_eq_of_lt (show 2 ^ k - 1 < 2 ^ 64 by omega), Nat.and_two_pow_sub_one_eq_mod]
  have hd : ((2 ^ k : Nat) : Int) ∣ ((2 ^ 64 : Nat) : Int) := Int.natCast_dvd_natCast.2 (Nat.pow_dvd_pow 2 (by omega))
  have e3 := Int.emod_emod_of_dvd x hd
  have p0 := Int.emod_nonneg x (show ((2 ^ 64 : Nat) : Int) ≠ 0 by omega)
  have p1 := Int.emod_nonneg x (show ((2 ^ k : Nat) : Int) ≠ 0 by omega)
  have p2 := Int.emod_lt_of_pos x (show 0 < ((2 ^ k : Nat) : Int) by omega)
  obtain ⟨y, hy⟩ : ∃ y : Nat, x % ((2 ^ 64 : Nat) : Int) = (y : Int) := ⟨_, (Int.toNat_of_nonneg p0).symm⟩
  rw [hy] at e3
  rw [Int.emod_eq_of_lt (b := ((2 ^ 64 : Nat) : Int)) p1 (by omega), hy, ← e3]
  rw [← Int.natCast_emod, Int.toNat_natCast, Int.toNat_natCast]
theorem lI_p0 {w : Nat} (hw : w ≤ 32) : lI 1 <<< ((iI ((w : Nat) : Int)).toInt64 &&& 63) = lI ((2 ^ w : Nat) : Int) := by
  have h1 : 2 ^ w ≤ 2 ^ 32 := Nat.pow_le_pow_right (by decide) hw
  have e := lI_shl (a := 1) (k := w) (by omega) (by omega)
  rw [Nat.one_mul] at e
  exact e
theorem lI_rz {z : Int} {w : Nat} (hw : w ≤ 32) (h : 0 ≤ z + ((2 ^ w : Nat) : Int) ∧ z < 4294967296) : lI (z + ((2 ^ w : Nat) : Int)) - lI (z + ((2 ^ w : Nat) : Int)) / lI ((2 ^ w : Nat) : Int) * lI ((2 ^ w : Nat) : Int) = lI (z % ((2 ^ w : Nat) : Int)) := by
  have h1 : 2 ^ w ≤ 2 ^ 32 := Nat.pow_le_pow_right (by decide) hw
  have h0 : 0 < 2 ^ w := Nat.two_pow_pos w
  obtain ⟨a, ha⟩ : ∃ a : Nat, z + ((2 ^ w : Nat) : Int) = (a : Int) := ⟨(z + ((2 ^ w : Nat) : Int)).toNat, by omega⟩
  rw [ha, lI_rem h0 (by omega) (by omega)]
  congr 1
  rw [Int.natCast_emod, ← ha]
  exact Int.add_emod_right z _
theorem dv8 : ∀ n : Fin 41, iI ((8 * n.val : Nat) : Int) / iI 8 = iI (n.val : Int) := by decide +kernel
theorem iI_d9 {n : Nat} (h : n ≤ 40) : iI ((8 * n : Nat) : Int) / iI 8 = iI ((n : Nat) : Int) := dv8 ⟨n, by omega⟩
/-- entries come of layers that are there -/
def LG (nL : Nat → Nat) (s : DSt) : Prop := ∀ k : Nat, (k : Int) < s 0 2 → 0 < nL (s 3 k).toNat
section LGS
variable {nL : Nat → Nat} {s s' : DSt} {l : Int}
theorem LG_c (h : LG nL s) (h1 : s' 0 2 = s 0 2) (h2 : ∀ k, s' 3 k = s 3 k) : LG nL s' := fun k hk => by rw [h2]; exact h k (by omega)
theorem LG_E {nm bits v mk : Int} (h : LG nL s) (hl : 0 < nL l.toNat) : LG nL (dE s l nm bits v mk) := fun k hk => by
  have hk' : (k : Int) < s 0 2 + 1 := hk
  by_cases e : (k : Int) = s 0 2
  · have : dE s l nm bits v mk 3 k = l := (if_neg (by omega)).trans ((if_pos ⟨e, by omega, by omega⟩).trans (if_pos rfl))
    rw [this]; exact hl
  · have : dE s l nm bits v mk 3 k = s 3 k := (if_neg (by omega)).trans (if_neg (by omega))
    rw [this]; exact h k (by omega)
theorem LG_S (h : LG nL s) : LG nL (dS s) := LG_c h (jm_u_n2 (by omega)) (fun k => jm_u_n2 (by omega))
theorem LG_P {x : Int} (h : LG nL s) : LG nL (dP s x) := LG_c h (jm_u_n2 (by omega)) (fun k => jm_u_n2 (by omega))
theorem LG_F {nm : Nat} {x v : Int} (h : LG nL s) : LG nL (dF s nm x v) := LG_c h ((jm_u_n2 (by omega)).trans ((jm_u_n2 (by omega)).trans (jm_u_n2 (by omega)))) (fun k => (jm_u_n2 (by omega)).trans ((jm_u_n2 (by omega)).trans (jm_u_n2 (by omega))))
theorem LG_Z (h : LG nL s) : LG nL (dZ s) := LG_c h (if_neg (by omega)) (fun k => if_neg (by omega))
theorem LG_SP {lim : Nat} {nm : Int} {ok : Bool} (h : LG nL s) (hl : 0 < nL l.toNat) (q : SP lim l nm s ok s') : LG nL s' := by
  rcases q with ⟨_, _, rfl⟩ | ⟨_, _, rfl⟩
  · exact LG_S h
  · exact LG_E h hl
theorem LG_FD {B : Nat → Nat} {lim sz bg nm x : Nat} {sw kd num : Int} {ok : Bool} (h : LG nL s) (hl : 0 < nL l.toNat) (q : FD B lim sz bg l nm x sw kd num s ok s') : LG nL s' := by
  obtain ⟨s1, q⟩ := q
  rcases q with ⟨a, _, rfl⟩ | ⟨a, _, _, rfl⟩ | ⟨a, _, _, _, _, _, _, rfl⟩
  · exact LG_SP h hl a
  · exact LG_E (LG_SP h hl a) hl
  · exact LG_F (LG_E (LG_SP h hl a) hl)
theorem LG_BL {lim sz : Nat} {nm : Int} {ok : Bool} (h : LG nL s) (hl : 0 < nL l.toNat) (q : BL lim sz l nm s ok s') : LG nL s' := by
  obtain ⟨s1, q⟩ := q
  rcases q with ⟨a, _, rfl⟩ | ⟨a, _, _, ⟨_, _, rfl⟩ | ⟨_, _, rfl⟩⟩
  · exact LG_SP h hl a
  · exact LG_E (LG_SP h hl a) hl
  · exact LG_P (LG_E (LG_SP h hl a) hl)
theorem LG_DT {c : Nat → Int} {B : Nat → Nat} {lim sz bg md a md' a' : Nat} {k k' : DK} (h : LG nL s) (hl : 0 < nL l.toNat) (q : DT c B lim sz bg l md a k s md' a' k' s') : LG nL s' := by
  rcases q with ⟨_, _, _, _, _, _, q⟩ | ⟨_, _, _, _, _, _, _, q⟩ | ⟨_, _, rfl, _⟩ | ⟨_, _, rfl, _⟩ | ⟨_, _, rfl, _⟩ | ⟨_, _, _, _, _, _, _, ⟨_, q, _⟩ | ⟨_, rfl, _⟩⟩
  · exact LG_FD h hl q
  · exact LG_BL h hl q
  · exact h
  · exact h
  · exact h
  · exact LG_SP h hl q
  · exact h
theorem LG_DO {c : Nat → Int} {B : Nat → Nat} {lim sz bg md a : Nat} {k : DK} (h : LG nL s) (hl : 0 < nL l.toNat) (q : DO c B lim sz bg l md a k s s') : LG nL s' := by
  rcases q with ⟨_, _, _, _, _, _, q⟩ | ⟨_, _, _, _, _, q⟩ | ⟨_, _, _, _, _, _, _, q⟩
  · exact LG_FD h hl q
  · exact LG_BL h hl q
  · exact LG_SP h hl q
theorem LG_DR {c : Nat → Int} {B : Nat → Nat} {lim sz bg : Nat} (hl : 0 < nL l.toNat) : ∀ {n md a : Nat} {k : DK} {s : DSt} {md' a' : Nat} {k' : DK} {s' : DSt}, LG nL s → DR c B lim sz bg l n md a k s md' a' k' s' → LG nL s' := by
  intro n
  induction n with
  | zero => intro md a k s md' a' k' s' h q; obtain ⟨_, _, _, rfl⟩ := q; exact h
  | succ n ih => intro md a k s md' a' k' s' h q; obtain ⟨_, _, _, _, s1, q1, q2⟩ := q; exact ih (LG_DT h hl q1) q2
theorem LG_DQ {c : Nat → Int} {B : Nat → Nat} {lim sz bg : Nat} (hl : 0 < nL l.toNat) : ∀ {n md a : Nat} {k : DK} {s s' : DSt}, LG nL s → DQ c B lim sz bg l n md a k s s' → LG nL s' := by
  intro n
  induction n with
  | zero => intro md a k s s' h q; exact LG_DO h hl q.2
  | succ n ih => intro md a k s s' h q; obtain ⟨_, _, _, _, s1, q1, q2⟩ := q; exact ih (LG_DT h hl q1) q2
theorem LG_DLn {cL : Nat → Nat → Int} {fc : Nat → Nat} {fva fnx : Nat → Nat → Int} {B : Nat → Nat} {sz lim : Nat} : ∀ {n : Nat} {l : Int} {s : DSt} {r : Int} {s' : DSt}, LG nL s → DLn cL nL fc fva fnx B sz lim n l s r s' → LG nL s' := by
  intro n
  induction n with
  | zero => intro l s r s' h q; obtain ⟨_, rfl⟩ := q; exact h
  | succ n ih =>
    intro l s r s' h q
    obtain ⟨l1, r1, s1, _, _, h0, _, q1, q2⟩ := q
    obtain ⟨_, _, k, e, q3, _⟩ := q1
    exact ih (LG_DR (l := (l1 : Int)) h0 (LG_Z (LG_S h)) q3) q2
theorem LG_DEC {cL : Nat → Nat → Int} {fc : Nat → Nat} {fva fnx : Nat → Nat → Int} {B : Nat → Nat} {sz lim : Nat} (q : DEC cL nL fc fva fnx B sz lim l s) : LG nL s := by
  obtain ⟨k, r, s2, q1, q2⟩ := q
  have h0 : LG nL (fun _ _ => 0) := fun k hk => absurd (show (k : Int) < 0 from hk) (by omega)
  have h2 := LG_DLn h0 q1
  rcases q2 with ⟨_, rfl⟩ | ⟨l1, _, _, hl, _, q3⟩
  · exact h2
  · rcases q3 with ⟨_, rfl⟩ | ⟨_, k, q4⟩
    · exact LG_E h2 hl
    · exact LG_DQ (l := (l1 : Int)) hl (LG_Z (LG_S h2)) q4
end LGS
/-- bytes are joined: n of them, from place d on, where none is yet -/
def jP (B : AB) (b : Nat → Int) (q : Nat) : Nat → AB
  | 0 => B
  | i + 1 => if q + i < 64 ∧ jP B b q i 137 (q + i) < 0 then jm_u (jP B b q i) 137 (q + i) (b i) else jP B b q i
def jC (B : AB) : Nat → Int
  | 0 => 0
  | q + 1 => jC B q + (if 0 ≤ B 137 q then 1 else 0)
def jB (jv : Nat → Option (Int × Int × Int)) : Nat → Int
  | 0 => -1
  | k + 1 => match jv k with
    | none => jB jv k
    | some t => if jB jv k < 0 then t.1 else jB jv k
/-- the bytes of frame f, from bit a on -/
def jY (A : AB) (f a : Nat) : Nat → Int := fun i => ((bv (aB A f) (a + 8 * i) 8 : Nat) : Int)
def jR (jv : Nat → Option (Int × Int × Int)) (A : AB) (w : Nat) : Nat → AB
  | 0 => fun l i => if l = 137 ∧ i < 64 then -1 else A l i
  | k + 1 => match jv k with
    | none => jR jv A w k
    | some t => jP (jR jv A w k) (jY A k t.2.1.toNat) ((t.1 - (if jB jv k < 0 then t.1 else jB jv k)) % ((2 ^ w : Nat) : Int)).toNat t.2.2.toNat
section JS
variable {A B : AB} {b : Nat → Int} {q i n k l w : Nat} {jv jv' : Nat → Option (Int × Int × Int)} {t : Int × Int × Int} {v : Int}
theorem jP_y (h : q + i < 64) (h2 : jP B b q i 137 (q + i) < 0) : jP B b q (i + 1) = jm_u (jP B b q i) 137 (q + i) (b i) := if_pos ⟨h, h2⟩
theorem jP_n (h : ¬ (q + i < 64 ∧ jP B b q i 137 (q + i) < 0)) : jP B b q (i + 1) = jP B b q i := if_neg h
theorem jP_e (h : 64 ≤ q + i) : ∀ n, jP B b q (i + n) = jP B b q i := by
  intro n
  induction n with
  | zero => rfl
  | succ n ih => exact (jP_n (i := i + n) (by omega)).trans ih
theorem jP_o : ∀ {i l k : Nat}, l ≠ 137 → jP B b q i l k = B l k := by
  intro i
  induction i with
  | zero => intro l k _; rfl
  | succ i ih =>
    intro l k h
    by_cases e : q + i < 64 ∧ jP B b q i 137 (q + i) < 0
    · rw [jP_y e.1 e.2]; exact (jm_u_n2 (by omega)).trans (ih h)
    · rw [jP_n e]; exact ih h
theorem jC_u {z : Nat} (hz : B 137 z < 0) (hv : 0 ≤ v) : ∀ q, jC (jm_u B 137 z v) q = jC B q + (if z < q then 1 else 0) := by
  intro q
  induction q with
  | zero => exact (by rw [if_neg (by omega)]; rfl)
  | succ q ih =>
    show jC (jm_u B 137 z v) q + (if 0 ≤ jm_u B 137 z v 137 q then 1 else 0) = jC B q + (if 0 ≤ B 137 q then 1 else 0) + _
    rw [ih]
    by_cases e : q = z
    · subst e
      rw [jm_u_eq ⟨rfl, rfl⟩, if_pos hv, if_neg (show ¬ q < q by omega), if_neg (show ¬ 0 ≤ B 137 q by omega), if_pos (show q < q + 1 by omega)]
      first | done | omega
    · rw [jm_u_n2 (by omega)]
      by_cases e2 : z < q
      · rw [if_pos e2, if_pos (show z < q + 1 by omega)]; omega
      · rw [if_neg e2, if_neg (show ¬ z < q + 1 by omega)]; omega
theorem jC_b : ∀ q, 0 ≤ jC B q ∧ jC B q ≤ q := by
  intro q
  induction q with
  | zero => exact ⟨Int.le_refl _, Int.le_refl _⟩
  | succ q ih =>
    show 0 ≤ jC B q + (if 0 ≤ B 137 q then 1 else 0) ∧ jC B q + (if 0 ≤ B 137 q then 1 else 0) ≤ _
    split <;> omega
theorem jB_n (h : jv k = none) : jB jv (k + 1) = jB jv k := by
  show (match jv k with | none => jB jv k | some t => if jB jv k < 0 then t.1 else jB jv k) = _
  rw [h]
theorem jB_v (h : jv k = some t) : jB jv (k + 1) = if jB jv k < 0 then t.1 else jB jv k := by
  show (match jv k with | none => jB jv k | some t => if jB jv k < 0 then t.1 else jB jv k) = _
  rw [h]
theorem jR_n (h : jv k = none) : jR jv A w (k + 1) = jR jv A w k := by
  show (match jv k with | none => jR jv A w k | some t => jP (jR jv A w k) (jY A k t.2.1.toNat) ((t.1 - (if jB jv k < 0 then t.1 else jB jv k)) % ((2 ^ w : Nat) : Int)).toNat t.2.2.toNat) = _
  rw [h]
theorem jR_v (h : jv k = some t) : jR jv A w (k + 1) = jP (jR jv A w k) (jY A k t.2.1.toNat) ((t.1 - (if jB jv k < 0 then t.1 else jB jv k)) % ((2 ^ w : Nat) : Int)).toNat t.2.2.toNat := by
  show (match jv k with | none => jR jv A w k | some t => jP (jR jv A w k) (jY A k t.2.1.toNat) ((t.1 - (if jB jv k < 0 then t.1 else jB jv k)) % ((2 ^ w : Nat) : Int)).toNat t.2.2.toNat) = _
  rw [h]
theorem jB_c : ∀ {k : Nat}, (∀ i, i < k → jv' i = jv i) → jB jv' k = jB jv k := by
  intro k
  induction k with
  | zero => intro _; rfl
  | succ k ih =>
    intro h
    have e := ih (fun i hi => h i (by omega))
    cases ho : jv k with
    | none => rw [jB_n ho, jB_n ((h k (by omega)).trans ho), e]
    | some t => rw [jB_v ho, jB_v ((h k (by omega)).trans ho), e]
theorem jR_c : ∀ {k : Nat}, (∀ i, i < k → jv' i = jv i) → jR jv' A w k = jR jv A w k := by
  intro k
  induction k with
  | zero => intro _; rfl
  | succ k ih =>
    intro h
    have e := ih (fun i hi => h i (by omega))
    have e2 : jB jv' k = jB jv k := jB_c (fun i hi => h i (by omega))
    cases ho : jv k with
    | none => rw [jR_n ho, jR_n ((h k (by omega)).trans ho), e]
    | some t => rw [jR_v ho, jR_v ((h k (by omega)).trans ho), e, e2]
theorem jB_un : jB (fun i => if i = k then none else jv i) (k + 1) = jB jv k := by
  rw [jB_n (if_pos rfl), jB_c (jv := jv) (fun i hi => if_neg (by omega))]
theorem jB_us : jB (fun i => if i = k then some t else jv i) (k + 1) = if jB jv k < 0 then t.1 else jB jv k := by
  rw [jB_v (if_pos rfl), jB_c (jv := jv) (fun i hi => if_neg (by omega))]
theorem jR_un : jR (fun i => if i = k then none else jv i) A w (k + 1) = jR jv A w k := by
  rw [jR_n (if_pos rfl), jR_c (jv := jv) (fun i hi => if_neg (by omega))]
theorem jR_us : jR (fun i => if i = k then some t else jv i) A w (k + 1) = jP (jR jv A w k) (jY A k t.2.1.toNat) ((t.1 - (if jB jv k < 0 then t.1 else jB jv k)) % ((2 ^ w : Nat) : Int)).toNat t.2.2.toNat := by
  rw [jR_v (if_pos rfl), jR_c (jv := jv) (fun i hi => if_neg (by omega)), jB_c (jv := jv) (fun i hi => if_neg (by omega))]
theorem jR_o : ∀ {k l i : Nat}, l ≠ 137 → jR jv A w k l i = A l i := by
  intro k
  induction k with
  | zero => intro l i h; exact if_neg (by omega)
  | succ k ih =>
    intro l i h
    cases ho : jv k with
    | none => rw [jR_n ho]; exact ih h
    | some t => rw [jR_v ho]; exact (jP_o h).trans (ih h)
end JS
/-- only what is joined changes -/
theorem CR_jo {I I' : Nat → Nat → Int32} {M M' : Nat → Nat → Int64} {p : Nat → Option Nat} {A A' : AB} (h : CR I M p A) (f : fr (fun l _ => l = 101 ∨ l = 102) I I') (g : fr (fun l _ => l = 101) M M') (hJ : RJo I' A') (hA : ∀ l k, l ≠ 137 → A' l k = A l k) : CR I' M' p A' := by
  obtain ⟨hv, d1, ⟨Tl, S, σ, d2, d3, d4⟩, d5, d8, d6, d9, d7⟩ := h
  have hv5 := hv.2.2.2.2.2.2.1
  have k4 : RTa I' M' A' := RTa_w (RTa_A d9 (hA _ _ (by omega)) (hA _ _ (by omega)) (fun l k hl => hA _ _ (by omega))) f g ⟨by omega, by intro k; omega⟩ (by intro k; omega)
  have gg := (⟨hJ, k4⟩ : _ ∧ _)
  have eA : A' = fun i k => if i = 137 then A' i k else A i k := by
    funext i k
    split
    · rfl
    next q => exact hA _ _ q
  rw [eA] at gg ⊢
  exact ⟨hv, CT_fr d1 f (by omega) (by intro k; omega), ⟨Tl, S, σ, RLy_w d2 f (fun _ _ => rfl) (by intro T i k h1 h2; omega), RFr_w d3 f (fun _ _ _ => rfl) (by intro T i k h1 h2; omega) (show A 103 12 ≤ 12 by omega), RDe_w d2 d4 f g ⟨by omega, by omega, by omega, by omega, by intro k; omega, by omega⟩ (by intro T k h1; omega) (by intro k; omega)⟩, RFo_w d5 f (by intro T i k h1 h2; omega), RSc_w d8 f ⟨by omega, by omega, by intro k; omega⟩, RFi_w d6 f (by intro l k h1 h2; omega), gg.2, gg.1⟩
/-- what frame f gives to what is joined of talk x: number, place, count -/
def PJn (A : AB) (x l nm : Int) (w f : Nat) (o : Option (Int × Int × Int)) : Prop := (¬ (A 135 f = x ∧ A 136 f = 1) ∧ o = none) ∨ ((A 135 f = x ∧ A 136 f = 1) ∧ ∃ (s : DSt) (W : Nat → Nat → Int), DEC (acL A) (anL A) (afc A) (afv A) (afn A) (aB A f) (aZ A f) (aLim A) (aRoot A f) s ∧ EP W (aZ A f) s ∧ (0 ≤ s 0 2 ∧ s 0 2 ≤ 64) ∧ ∃ r1 r2, FS s l nm r1 ∧ FS s l 8 r2 ∧ ((0 ≤ r1 ∧ 0 ≤ r2 ∧ o = some (s 8 r1.toNat, s 5 r2.toNat, s 8 r2.toNat) ∧ s 6 r1.toNat = (w : Int) ∧ w ≤ 32 ∧ s 8 r1.toNat < ((2 ^ w : Nat) : Int)) ∨ ((r1 = -1 ∨ r2 = -1) ∧ o = none)))
theorem EP_2 {W : Nat → Nat → Int} {sz : Nat} {s : DSt} {l nm r : Int} (h : EP W sz s) (hF : FS s l nm r) (hr : 0 ≤ r) (hn : nm < 8) : s 3 r.toNat = l ∧ s 6 r.toNat = W l.toNat nm.toNat ∧ s 8 r.toNat < 2 ^ (s 6 r.toNat).toNat := by
  rcases hF with ⟨k, rfl, h1, ⟨h2, h3, h4, h5⟩, _⟩ | ⟨h1, _⟩
  · have e : ((k : Int)).toNat = k := by omega
    rw [e]
    rcases (h k h1).2 with q | q | ⟨q, _⟩ | ⟨_, q1, q2⟩
    · exact absurd q h4
    · exact absurd q h5
    · omega
    · rw [← h2, ← h3]; exact ⟨rfl, q1, q2⟩
  · omega
theorem EP_8 {W : Nat → Nat → Int} {sz : Nat} {s : DSt} {l r : Int} (h : EP W sz s) (hF : FS s l 8 r) (hr : 0 ≤ r) : s 6 r.toNat = 8 * s 8 r.toNat := by
  rcases hF with ⟨k, rfl, h1, ⟨h2, h3, h4, h5⟩, _⟩ | ⟨h1, _⟩
  · have e : ((k : Int)).toNat = k := by omega
    rw [e]
    rcases (h k h1).2 with q | q | ⟨_, _, q⟩ | ⟨q, _⟩
    · exact absurd q h4
    · exact absurd q h5
    · exact q
    · omega
  · omega
theorem pw_I (w : Nat) : (2 : Int) ^ w = ((2 ^ w : Nat) : Int) := by simp
section H14
variable {L : Nat} {xs : Nat → Int32} {d j : Nat} {I : Nat → Nat → Int32} {M : Nat → Nat → Int64} {p : Nat → Option Nat}
variable {A B H : AB} {x y z u v l nm bs bg : Int} {f k n q t c wd F ps dn sz xk r2 : Nat} {Bf : Nat → Nat} {s : DSt} {W : Nat → Nat → Int} {jv : Nat → Option (Int × Int × Int)}
theorem cl_goes (hk : I 100 k = iI y) (hk12 : k < 12) (hx : iR x) (hy : iR y) : jc L xs d 98 [.ref 98, .int (iI x), .int (iI ((k : Nat) : Int))] (jx_G j I M p) (fun v g1 => v = some (.int (jb (y = x))) ∧ g1 = jx_G j I M p) := by
  unfold jc
  refine jv_aload_n (pc' := 1) (k := 0) (x := 98) rfl rfl rfl rfl ?_
  refine jv_getR (pc' := 4) (c := 10) (k := 1) (v := 100) rfl rfl rfl (fun _ _ => rfl) rfl rfl (jR_98_1 _) ?_
  refine jv_iload_n (pc' := 5) (k := 2) (x := (iI ((k : Nat) : Int))) rfl rfl rfl rfl ?_
  refine jv_iaload (pc' := 6) (n := 12) (e := ((k : Nat) : Int)) (v := (iI y)) rfl rfl (by decide) rfl rfl rfl (by omega) hk ?_
  refine jv_iload_n (pc' := 7) (k := 1) (x := (iI x)) rfl rfl rfl rfl ?_
  refine jv_ic_ne (t := 14) (pc' := 10) (a := y) (b := x) rfl rfl rfl (by omega) (fun h1 => ?_) (fun h1 => ?_)
  · skip
    refine jv_iconst (pc' := 15) (n := 0) rfl rfl ?_
    refine jv_retZ rfl rfl (by first | exact Or.inl rfl | exact Or.inr rfl) ⟨_, _, rfl, ?_⟩
    exact ⟨jq_f (by omega), rfl⟩
  · skip
    refine jv_iconst (pc' := 11) (n := 1) rfl rfl ?_
    refine jx_step (pc' := 15) rfl ?_
    refine jv_retZ rfl rfl (by first | exact Or.inl rfl | exact Or.inr rfl) ⟨_, _, rfl, ?_⟩
    exact ⟨jq_t (by omega), rfl⟩
theorem cl_jclear  : jc L xs (d + 1) 103 [.ref 101] (jx_G j I M p) (fun v g1 => ∃ I', g1 = jx_G j I' M p ∧ v = none ∧ I' 101 1 = iI 0 ∧ I' 101 2 = iI 0 ∧ (∀ k, k < 64 → I' 102 k = iI (-1)) ∧ fr (fun l _ => l = 101 ∨ l = 102) I I') := by
  unfold jc
  refine jv_aload_n (pc' := 1) (k := 0) (x := 101) rfl rfl rfl rfl ?_
  refine jv_iconst (pc' := 2) (n := 0) rfl rfl ?_
  refine jv_putI (pc' := 5) (c := 11) (k := 1) rfl rfl rfl rfl (fun _ _ _  => rfl) rfl rfl ?_
  refine jv_aload_n (pc' := 6) (k := 0) (x := 101) rfl rfl rfl rfl ?_
  refine jv_iconst (pc' := 7) (n := 0) rfl rfl ?_
  refine jv_putZ (pc' := 10) (c := 11) (k := 2) rfl rfl rfl rfl (fun _ _ _ hz => if_pos hz) rfl rfl (by first | exact Or.inl rfl | exact Or.inr rfl) ?_
  refine jv_aload_n (pc' := 11) (k := 0) (x := 101) rfl rfl rfl rfl ?_
  refine jv_getR (pc' := 14) (c := 11) (k := 0) (v := 102) rfl rfl rfl (fun _ _ => rfl) rfl rfl (jR_101_0 _) ?_
  refine jv_iconst (pc' := 15) (n := -1) rfl rfl ?_
  refine jv_call (pc' := 18) rfl (cl_fill_102 (I := jm_u (jm_u I 101 1 (iI 0)) 101 2 (iI 0)) (x := -1)) (fun v1 g1 q1 => ?_)
  obtain ⟨I1, rfl, rfl, w1, r1⟩ := q1
  show jx L xs _ 103 18 _ [] _ _
  refine jv_retV rfl rfl ⟨_, _, rfl, ?_⟩
  exact ⟨_, rfl, rfl, (r1 101 1 (by omega)).trans rfl, (r1 101 2 (by omega)).trans rfl, w1, fr_t (fr_u (Or.inl rfl) (fr_u (Or.inl rfl) (fr_r _))) (fr_w r1 (fun l k h => Or.inr h))⟩
theorem cl_jbegin_0 (hb : I 101 2 = iI 0) (hw : wd ≤ 32) : jc L xs d 104 [.ref 101, .long (lI v), .int (iI ((wd : Nat) : Int))] (jx_G j I M p) (fun r g1 => ∃ I' M', g1 = jx_G j I' M' p ∧ r = none ∧ fr (fun l k => l = 101 ∧ k = 2) I I' ∧ fr (fun l k => l = 101 ∧ (k = 3 ∨ k = 4)) M M' ∧ I' 101 2 = iI 1 ∧ M' 101 3 = lI v ∧ M' 101 4 = lI ((v - v) % ((2 ^ wd : Nat) : Int))) := by
  unfold jc
  refine jv_aload_n (pc' := 1) (k := 0) (x := 101) rfl rfl rfl rfl ?_
  refine jv_getI (pc' := 4) (c := 11) (k := 2) (v := (iI 0)) rfl rfl rfl (fun _ _ => rfl) rfl rfl hb ?_
  refine jv_if_ne (t := 17) (pc' := 7) (a := 0) rfl rfl rfl (by omega) (fun hz_1 => ?_) (fun hz_1 => ?_)
  · skip
    exact absurd hz_1 (by decide)
  · skip
    refine jv_aload_n (pc' := 8) (k := 0) (x := 101) rfl rfl rfl rfl ?_
    refine jv_iconst (pc' := 9) (n := 1) rfl rfl ?_
    refine jv_putZ (pc' := 12) (c := 11) (k := 2) rfl rfl rfl rfl (fun _ _ _ hz => if_pos hz) rfl rfl (by first | exact Or.inl rfl | exact Or.inr rfl) ?_
    refine jv_aload_n (pc' := 13) (k := 0) (x := 101) rfl rfl rfl rfl ?_
    refine jv_lload_n (pc' := 14) (k := 1) (x := (lI v)) rfl rfl rfl rfl ?_
    refine jv_putJ (pc' := 17) (c := 11) (k := 3) rfl rfl rfl rfl (fun _ _ _ => rfl) rfl rfl ?_
    refine jv_aload_n (pc' := 18) (k := 0) (x := 101) rfl rfl rfl rfl ?_
    refine jv_lload_n (pc' := 19) (k := 1) (x := (lI v)) rfl rfl rfl rfl ?_
    refine jv_aload_n (pc' := 20) (k := 0) (x := 101) rfl rfl rfl rfl ?_
    refine jv_getJ (pc' := 23) (c := 11) (k := 3) (v := (lI v)) rfl rfl rfl (fun _ _ => rfl) rfl rfl rfl ?_
    refine jv_lsub (pc' := 24) (a := v) (b := v) rfl rfl ?_
    refine jv_long (pc' := 25) (y := lI 1) rfl (by decide) ?_
    refine jv_iload_n (pc' := 26) (k := 3) (x := (iI ((wd : Nat) : Int))) rfl rfl rfl rfl ?_
    refine jv_long (pc' := 27) (y := (lI 1) <<< ((iI ((wd : Nat) : Int)).toInt64 &&& 63)) rfl rfl ?_
    refine jv_long (pc' := 28) (y := lI 1) rfl (by decide) ?_
    refine jv_long (pc' := 29) (y := (lI ((2 ^ wd - 1 : Nat) : Int))) rfl (lI_p1 hw) ?_
    refine jv_long (pc' := 30) (y := (lI ((v - v) % ((2 ^ wd : Nat) : Int)))) rfl (lI_mz hw) ?_
    refine jv_putJ (pc' := 33) (c := 11) (k := 4) rfl rfl rfl rfl (fun _ _ _ => rfl) rfl rfl ?_
    refine jv_retV rfl rfl ⟨_, _, rfl, ?_⟩
    exact ⟨_, _, rfl, rfl, fr_u ⟨rfl, rfl⟩ (fr_r _), fr_u ⟨rfl, Or.inr rfl⟩ (fr_u ⟨rfl, Or.inl rfl⟩ (fr_r _)), rfl, (jm_u_n2 (by omega)).trans (jm_u_eq ⟨rfl, rfl⟩), jm_u_eq ⟨rfl, rfl⟩⟩
theorem cl_jbegin_1 (hb : I 101 2 = iI 1) (hbs : M 101 3 = lI bs) (hw : wd ≤ 32) : jc L xs d 104 [.ref 101, .long (lI v), .int (iI ((wd : Nat) : Int))] (jx_G j I M p) (fun r g1 => ∃ I' M', g1 = jx_G j I' M' p ∧ r = none ∧ fr (fun l k => l = 101 ∧ k = 2) I I' ∧ fr (fun l k => l = 101 ∧ (k = 3 ∨ k = 4)) M M' ∧ I' 101 2 = iI 1 ∧ M' 101 3 = lI bs ∧ M' 101 4 = lI ((v - bs) % ((2 ^ wd : Nat) : Int))) := by
  unfold jc
  refine jv_aload_n (pc' := 1) (k := 0) (x := 101) rfl rfl rfl rfl ?_
  refine jv_getI (pc' := 4) (c := 11) (k := 2) (v := (iI 1)) rfl rfl rfl (fun _ _ => rfl) rfl rfl hb ?_
  refine jv_if_ne (t := 17) (pc' := 7) (a := 1) rfl rfl rfl (by omega) (fun hz_1 => ?_) (fun hz_1 => ?_)
  · skip
    refine jv_aload_n (pc' := 18) (k := 0) (x := 101) rfl rfl rfl rfl ?_
    refine jv_lload_n (pc' := 19) (k := 1) (x := (lI v)) rfl rfl rfl rfl ?_
    refine jv_aload_n (pc' := 20) (k := 0) (x := 101) rfl rfl rfl rfl ?_
    refine jv_getJ (pc' := 23) (c := 11) (k := 3) (v := (lI bs)) rfl rfl rfl (fun _ _ => rfl) rfl rfl hbs ?_
    refine jv_lsub (pc' := 24) (a := v) (b := bs) rfl rfl ?_
    refine jv_long (pc' := 25) (y := lI 1) rfl (by decide) ?_
    refine jv_iload_n (pc' := 26) (k := 3) (x := (iI ((wd : Nat) : Int))) rfl rfl rfl rfl ?_
    refine jv_long (pc' := 27) (y := (lI 1) <<< ((iI ((wd : Nat) : Int)).toInt64 &&& 63)) rfl rfl ?_
    refine jv_long (pc' := 28) (y := lI 1) rfl (by decide) ?_
    refine jv_long (pc' := 29) (y := (lI ((2 ^ wd - 1 : Nat) : Int))) rfl (lI_p1 hw) ?_
    refine jv_long (pc' := 30) (y := (lI ((v - bs) % ((2 ^ wd : Nat) : Int)))) rfl (lI_mz hw) ?_
    refine jv_putJ (pc' := 33) (c := 11) (k := 4) rfl rfl rfl rfl (fun _ _ _ => rfl) rfl rfl ?_
    refine jv_retV rfl rfl ⟨_, _, rfl, ?_⟩
    exact ⟨_, _, rfl, rfl, fr_r _, fr_u ⟨rfl, Or.inr rfl⟩ (fr_r _), hb, (jm_u_n2 (by omega)).trans hbs, jm_u_eq ⟨rfl, rfl⟩⟩
  · skip
    exact absurd hz_1 (by decide)
theorem cl_jput (hF : FL F) (hB : FB I F Bf sz) (hn : n ≤ 40) (hps : ps + 8 * n ≤ 8 * sz) (hd : M 101 4 = lI ((dn : Nat) : Int)) (hdn : dn < 4294967296) (hJ0 : RJo I H) (hc0 : I 101 1 = iI (jC H 64)) : jc L xs (d + 1) 105 [.ref 101, .ref F, .int (iI ((ps : Nat) : Int)), .long (lI ((n : Nat) : Int))] (jx_G j I M p) (fun v g1 => ∃ I', g1 = jx_G j I' M p ∧ v = none ∧ fr (fun l k => l = 102 ∨ (l = 101 ∧ k = 1)) I I' ∧ RJo I' (jP H (fun i => ((bv Bf (ps + 8 * i) 8 : Nat) : Int)) dn n) ∧ I' 101 1 = iI (jC (jP H (fun i => ((bv Bf (ps + 8 * i) 8 : Nat) : Int)) dn n) 64)) := by
  unfold jc
  have hF2 := FL_2 hF
  have hsz := hB.2.1
  refine jv_iconst (pc' := 1) (n := 0) rfl rfl ?_
  refine jv_istore (pc' := 3) (k := 5) (x := (iI 0)) rfl rfl rfl (Or.inr rfl) ?_
  have H1 : ∀ (N : Nat) (i : Nat) (I1 : Nat → Nat → Int32), 40 - i < N → (i ≤ n) → (fr (fun l k => l = 102 ∨ (l = 101 ∧ k = 1)) I I1) → (RJo I1 (jP H (fun i => ((bv Bf (ps + 8 * i) 8 : Nat) : Int)) dn i)) → (I1 101 1 = iI (jC (jP H (fun i => ((bv Bf (ps + 8 * i) 8 : Nat) : Int)) dn i) 64)) → ∀ f : jm_F, f 0 = some (.ref 101) → f 1 = some (.ref F) → f 2 = some (.int (iI ((ps : Nat) : Int))) → f 3 = some (.long (lI ((n : Nat) : Int))) → f 5 = some (.int (iI ((i : Nat) : Int))) → jm_lng (f 4) = false → jx L xs ((d + 1)) 105 3 f [] (jx_G j I1 M p) (fun z => ∃ v g1, z = (.inl v, g1) ∧ (fun v g1 => ∃ I', g1 = jx_G j I' M p ∧ v = none ∧ fr (fun l k => l = 102 ∨ (l = 101 ∧ k = 1)) I I' ∧ RJo I' (jP H (fun i => ((bv Bf (ps + 8 * i) 8 : Nat) : Int)) dn n) ∧ I' 101 1 = iI (jC (jP H (fun i => ((bv Bf (ps + 8 * i) 8 : Nat) : Int)) dn n) 64)) v g1) := by
    intro N
    induction N with
    | zero => intro i I1 hN; exact absurd hN (Nat.not_lt_zero _)
    | succ N ih =>
      intro i I1 hN hi hf hJ hct f hf0 hf1 hf2 hf3 hf5 hg4
      refine jv_iload (pc' := 5) (k := 5) (x := (iI ((i : Nat) : Int))) rfl rfl hf5 ?_
      refine jv_i2l (pc' := 6) (a := ((i : Nat) : Int)) rfl rfl (by omega) ?_
      refine jv_lload_n (pc' := 7) (k := 3) (x := (lI ((n : Nat) : Int))) rfl rfl rfl hf3 ?_
      refine jv_lc_ge (t := 84) (pc' := 11) (a := ((i : Nat) : Int)) (b := ((n : Nat) : Int)) rfl rfl rfl rfl rfl (by omega) (fun hz_2 => ?_) (fun hz_2 => ?_)
      · skip
        refine jv_retV rfl rfl ⟨_, _, rfl, ?_⟩
        first
        | (have e : i = n := by omega
           subst e
           exact ⟨_, rfl, rfl, hf, hJ, hct⟩)
        | (have e : jP H (fun i => ((bv Bf (ps + 8 * i) 8 : Nat) : Int)) dn n = jP H (fun i => ((bv Bf (ps + 8 * i) 8 : Nat) : Int)) dn i := by
             have := jP_e (B := H) (b := (fun i => ((bv Bf (ps + 8 * i) 8 : Nat) : Int))) (q := dn) (i := i) (by omega) (n - i)
             rwa [show i + (n - i) = n by omega] at this
           rw [e]
           exact ⟨_, rfl, rfl, hf, hJ, hct⟩)
      · skip
        refine jv_aload_n (pc' := 12) (k := 0) (x := 101) rfl rfl rfl hf0 ?_
        refine jv_getJ (pc' := 15) (c := 11) (k := 4) (v := (lI ((dn : Nat) : Int))) rfl rfl rfl (fun _ _ => rfl) rfl rfl hd ?_
        refine jv_iload (pc' := 17) (k := 5) (x := (iI ((i : Nat) : Int))) rfl rfl hf5 ?_
        refine jv_i2l (pc' := 18) (a := ((i : Nat) : Int)) rfl rfl (by omega) ?_
        refine jv_ladd (pc' := 19) (a := ((dn : Nat) : Int)) (b := ((i : Nat) : Int)) rfl rfl ?_
        refine jv_long (pc' := 22) (y := lI (64)) rfl (by decide) ?_
        refine jv_lc_ge (t := 84) (pc' := 26) (a := (((dn : Nat) : Int) + ((i : Nat) : Int))) (b := 64) rfl rfl rfl rfl rfl (by omega) (fun hz_3 => ?_) (fun hz_3 => ?_)
        · skip
          refine jv_retV rfl rfl ⟨_, _, rfl, ?_⟩
          first
          | (have e : i = n := by omega
             subst e
             exact ⟨_, rfl, rfl, hf, hJ, hct⟩)
          | (have e : jP H (fun i => ((bv Bf (ps + 8 * i) 8 : Nat) : Int)) dn n = jP H (fun i => ((bv Bf (ps + 8 * i) 8 : Nat) : Int)) dn i := by
               have := jP_e (B := H) (b := (fun i => ((bv Bf (ps + 8 * i) 8 : Nat) : Int))) (q := dn) (i := i) (by omega) (n - i)
               rwa [show i + (n - i) = n by omega] at this
             rw [e]
             exact ⟨_, rfl, rfl, hf, hJ, hct⟩)
        · skip
          have hjz := hJ (dn + i) (by omega)
          refine jv_aload_n (pc' := 27) (k := 0) (x := 101) rfl rfl rfl hf0 ?_
          refine jv_getJ (pc' := 30) (c := 11) (k := 4) (v := (lI ((dn : Nat) : Int))) rfl rfl rfl (fun _ _ => rfl) rfl rfl hd ?_
          refine jv_l2i (pc' := 31) (a := ((dn : Nat) : Int)) rfl rfl ?_
          refine jv_iload (pc' := 33) (k := 5) (x := (iI ((i : Nat) : Int))) rfl rfl hf5 ?_
          refine jv_iadd (pc' := 34) (a := ((dn : Nat) : Int)) (b := ((i : Nat) : Int)) rfl rfl ?_
          refine jv_istore (pc' := 36) (k := 6) (x := (iI (((dn : Nat) : Int) + ((i : Nat) : Int)))) rfl rfl rfl (Or.inr (congrArg jm_lng hf5)) ?_
          refine jv_aload_n (pc' := 37) (k := 0) (x := 101) rfl rfl rfl hf0 ?_
          refine jv_getR (pc' := 40) (c := 11) (k := 0) (v := 102) rfl rfl rfl (fun _ _ => rfl) rfl rfl (jR_101_0 _) ?_
          refine jv_iload (pc' := 42) (k := 6) (x := (iI (((dn : Nat) : Int) + ((i : Nat) : Int)))) rfl rfl rfl ?_
          refine jv_iaload (pc' := 43) (n := 64) (e := (((dn : Nat) : Int) + ((i : Nat) : Int))) (v := (iI (jP H (fun i => ((bv Bf (ps + 8 * i) 8 : Nat) : Int)) dn i 137 (dn + i)))) rfl rfl (by decide) rfl rfl rfl (by omega) ((congrArg (I1 102) (show (((dn : Nat) : Int) + ((i : Nat) : Int) : Int).toNat = dn + i by omega)).trans hjz.1) ?_
          refine jv_iconst (pc' := 44) (n := -1) rfl rfl ?_
          refine jv_ic_ne (t := 78) (pc' := 47) (a := (jP H (fun i => ((bv Bf (ps + 8 * i) 8 : Nat) : Int)) dn i 137 (dn + i))) (b := (-1)) rfl rfl rfl (by omega) (fun hz_4 => ?_) (fun hz_4 => ?_)
          · skip
            refine jv_iinc (pc' := 81) (k := 5) (a := ((i : Nat) : Int)) rfl rfl hf5 rfl (Or.inr hg4) ?_
            refine jx_step (pc' := 3) rfl ?_
            exact ih (i + 1) I1 (by omega) (by omega) hf (by rw [jP_n (by omega)]; exact hJ) (by rw [jP_n (by omega)]; exact hct) _ hf0 hf1 hf2 hf3 rfl hg4
          · skip
            refine jv_aload_n (pc' := 48) (k := 0) (x := 101) rfl rfl rfl hf0 ?_
            refine jv_getR (pc' := 51) (c := 11) (k := 0) (v := 102) rfl rfl rfl (fun _ _ => rfl) rfl rfl (jR_101_0 _) ?_
            refine jv_iload (pc' := 53) (k := 6) (x := (iI (((dn : Nat) : Int) + ((i : Nat) : Int)))) rfl rfl rfl ?_
            refine jv_aload_n (pc' := 54) (k := 1) (x := F) rfl rfl rfl hf1 ?_
            refine jv_iload_n (pc' := 55) (k := 2) (x := (iI ((ps : Nat) : Int))) rfl rfl rfl hf2 ?_
            refine jv_bipush (pc' := 57) (n := 8) rfl rfl rfl ?_
            refine jv_iload (pc' := 59) (k := 5) (x := (iI ((i : Nat) : Int))) rfl rfl hf5 ?_
            refine jv_imul (pc' := 60) (a := 8) (b := ((i : Nat) : Int)) rfl rfl ?_
            refine jv_iadd (pc' := 61) (a := ((ps : Nat) : Int)) (b := (8 * ((i : Nat) : Int))) rfl rfl ?_
            rw [show ((ps : Nat) : Int) + (8 * ((i : Nat) : Int)) = ((ps + 8 * i : Nat) : Int) by omega]
            refine jv_bipush (pc' := 63) (n := 8) rfl rfl rfl ?_
            refine jv_callv (pc' := 66) rfl rfl rfl rfl (FL_A hF j _ _ _) rfl rfl (cl_bitsAt (I := I1) (M := M) (B := Bf) (sz := sz) (a := ps + 8 * i) (n := 8) hF (FB_fr hB hf (by omega) (by intro k; omega)) (by omega) (by omega)) (fun v1 g1 q1 => ?_)
            obtain ⟨rfl, rfl⟩ := q1
            have hbv := bv_lt Bf (ps + 8 * i) 8
            show jx L xs _ 105 66 _ [.long (lI ((bv Bf (ps + 8 * i) 8 : Nat) : Int)), .int (iI (((dn : Nat) : Int) + ((i : Nat) : Int))), .ref 102] _ _
            refine jv_l2i (pc' := 67) (a := ((bv Bf (ps + 8 * i) 8 : Nat) : Int)) rfl rfl ?_
            refine jv_iastore (pc' := 68) (n := 64) (e := (((dn : Nat) : Int) + ((i : Nat) : Int))) (v := (iI ((bv Bf (ps + 8 * i) 8 : Nat) : Int))) rfl rfl rfl rfl rfl (by omega) ?_
            refine jv_aload_n (pc' := 69) (k := 0) (x := 101) rfl rfl rfl hf0 ?_
            refine jx_step (pc' := 70) rfl ?_
            refine jv_getI (pc' := 73) (c := 11) (k := 1) (v := (iI (jC (jP H (fun i => ((bv Bf (ps + 8 * i) 8 : Nat) : Int)) dn i) 64))) rfl rfl rfl (fun _ _ => rfl) rfl rfl hct ?_
            refine jv_iconst (pc' := 74) (n := 1) rfl rfl ?_
            refine jv_iadd (pc' := 75) (a := (jC (jP H (fun i => ((bv Bf (ps + 8 * i) 8 : Nat) : Int)) dn i) 64)) (b := 1) rfl rfl ?_
            refine jv_putI (pc' := 78) (c := 11) (k := 1) rfl rfl rfl rfl (fun _ _ _  => rfl) rfl rfl ?_
            refine jv_iinc (pc' := 81) (k := 5) (a := ((i : Nat) : Int)) rfl rfl hf5 rfl (Or.inr hg4) ?_
            refine jx_step (pc' := 3) rfl ?_
            exact ih (i + 1) (jm_u (jm_u I1 102 (((dn : Nat) : Int) + ((i : Nat) : Int) : Int).toNat (iI ((bv Bf (ps + 8 * i) 8 : Nat) : Int))) 101 1 (iI ((jC (jP H (fun i => ((bv Bf (ps + 8 * i) 8 : Nat) : Int)) dn i) 64) + 1))) (by omega) (by omega) (fr_t hf (fr_u (Or.inr ⟨rfl, rfl⟩) (fr_u (Or.inl rfl) (fr_r _)))) (by
                  rw [jP_y (by omega) (by omega)]
                  intro z hz
                  by_cases e : z = dn + i
                  · subst e
                    rw [jm_u_eq (α := Int) ⟨rfl, rfl⟩]
                    exact ⟨(jm_u_n2 (by omega)).trans (jm_u_eq ⟨rfl, by omega⟩), by show -1 ≤ ((bv Bf (ps + 8 * i) 8 : Nat) : Int) ∧ ((bv Bf (ps + 8 * i) 8 : Nat) : Int) < 256; omega⟩
                  · rw [jm_u_n2 (α := Int) (by omega)]
                    exact ⟨(jm_u_n2 (by omega)).trans ((jm_u_n2 (by omega)).trans (hJ z hz).1), (hJ z hz).2⟩) (by
                  rw [jP_y (by omega) (by omega), jC_u (by omega) (by show 0 ≤ ((bv Bf (ps + 8 * i) 8 : Nat) : Int); omega), if_pos (by omega)]
                  rfl) _ hf0 hf1 hf2 hf3 rfl hg4
  exact H1 _ 0 I (Nat.lt_succ_self _) (by omega) (fr_r _) hJ0 hc0 _ rfl rfl rfl rfl rfl rfl
theorem op_stream_t1 (hR : CR I M p A) (hx : iR x) (hbad : ¬ (0 ≤ x ∧ x < A 103 44)) : jt L xs (d + 1) 18 [.ref 0, .int (iI x), .int (iI l), .int (iI nm)] (jx_G j I M p) 52 (fun g1 => g1 = jx_G (j + 1) I M p) := by
  unfold jt
  refine jv_aload_n (pc' := 1) (k := 0) (x := 0) rfl rfl rfl rfl ?_
  refine jv_getR (pc' := 4) (c := 0) (k := 7) (v := 98) rfl rfl rfl (fun _ _ => rfl) rfl rfl (jR_0_7 _) ?_
  refine jv_iload_n (pc' := 5) (k := 1) (x := (iI x)) rfl rfl rfl rfl ?_
  refine jv_call (pc' := 8) rfl (cl_thas (by omega) hR.2.2.2.2.2.2.1) (fun vq1 gq1 q1 => ?_)
  obtain ⟨rfl, rfl⟩ := q1
  show jx L xs _ 18 8 _ [.int (jb (0 ≤ x ∧ x < A 103 44))] _ _
  refine jv_jb_ne (t := 19) (pc' := 11) (P := 0 ≤ x ∧ x < A 103 44) rfl rfl rfl (fun hz_2 => ?_) (fun hz_2 => ?_)
  · skip
    exfalso; omega
  · skip
    refine jx_ret0 rfl ⟨_, rfl, ?_⟩
    first
    | (exfalso; omega)
    | rfl
theorem op_stream_t2 (hR : CR I M p A) (hx : iR x) (hok : 0 ≤ x ∧ x < A 103 44) (hl : iR l) (hnm : iR nm) (hbad : ¬ ((0 ≤ l ∧ l < 4) ∧ (0 ≤ nm ∧ nm < 8))) : jt L xs (d + 1) 18 [.ref 0, .int (iI x), .int (iI l), .int (iI nm)] (jx_G j I M p) 50 (fun g1 => g1 = jx_G (j + 1) I M p) := by
  unfold jt
  refine jv_aload_n (pc' := 1) (k := 0) (x := 0) rfl rfl rfl rfl ?_
  refine jv_getR (pc' := 4) (c := 0) (k := 7) (v := 98) rfl rfl rfl (fun _ _ => rfl) rfl rfl (jR_0_7 _) ?_
  refine jv_iload_n (pc' := 5) (k := 1) (x := (iI x)) rfl rfl rfl rfl ?_
  refine jv_call (pc' := 8) rfl (cl_thas (by omega) hR.2.2.2.2.2.2.1) (fun vq1 gq1 q1 => ?_)
  obtain ⟨rfl, rfl⟩ := q1
  show jx L xs _ 18 8 _ [.int (jb (0 ≤ x ∧ x < A 103 44))] _ _
  refine jv_jb_ne (t := 19) (pc' := 11) (P := 0 ≤ x ∧ x < A 103 44) rfl rfl rfl (fun hz_2 => ?_) (fun hz_2 => ?_)
  · skip
    refine jv_iload_n (pc' := 20) (k := 2) (x := (iI l)) rfl rfl rfl rfl ?_
    refine jv_call (pc' := 23) rfl (cl_isLayer (by omega)) (fun vq3 gq3 q3 => ?_)
    obtain ⟨rfl, rfl⟩ := q3
    show jx L xs _ 18 23 _ [.int (jb (0 ≤ l ∧ l < 4))] _ _
    refine jv_jb_eq (t := 33) (pc' := 26) (P := 0 ≤ l ∧ l < 4) rfl rfl rfl (fun hz_4 => ?_) (fun hz_4 => ?_)
    · skip
      refine jx_ret0 rfl ⟨_, rfl, ?_⟩
      first
      | (exfalso; omega)
      | rfl
    · skip
      refine jv_iload_n (pc' := 27) (k := 3) (x := (iI nm)) rfl rfl rfl rfl ?_
      refine jv_call (pc' := 30) rfl (cl_isFieldName (by omega)) (fun vq5 gq5 q5 => ?_)
      obtain ⟨rfl, rfl⟩ := q5
      show jx L xs _ 18 30 _ [.int (jb (0 ≤ nm ∧ nm < 8))] _ _
      refine jv_jb_ne (t := 41) (pc' := 33) (P := 0 ≤ nm ∧ nm < 8) rfl rfl rfl (fun hz_6 => ?_) (fun hz_6 => ?_)
      · skip
        exfalso; omega
      · skip
        refine jx_ret0 rfl ⟨_, rfl, ?_⟩
        first
        | (exfalso; omega)
        | rfl
  · skip
    exfalso; omega
theorem jC_z (h : ∀ q, q < 64 → B 137 q = -1) : ∀ q, q ≤ 64 → jC B q = 0 := by
  intro q
  induction q with
  | zero => intro _; rfl
  | succ q ih =>
    intro hq
    show jC B q + (if 0 ≤ B 137 q then 1 else 0) = 0
    rw [ih (by omega), h q (by omega)]; rfl
set_option maxRecDepth 100000 in
set_option maxHeartbeats 4000000 in
theorem op_stream_c (hR : CR I M p A) (hc : A 103 12 = (c : Int)) (hxk : (xk : Int) < A 103 44) (hl : 0 ≤ l ∧ l < 4) (hnm : 0 ≤ nm ∧ nm < 8) : jc L xs (d + 13) 18 [.ref 0, .int (iI ((xk : Nat) : Int)), .int (iI l), .int (iI nm)] (jx_G j I M p) (fun v g1 => ∃ (I' : Nat → Nat → Int32) (M' : Nat → Nat → Int64) (p' : Nat → Option Nat) (wd : Nat) (jv : Nat → Option (Int × Int × Int)), g1 = jx_G j I' M' p' ∧ fr cW I I' ∧ fr cV M M' ∧ CR I' M' p' (jR jv A wd c) ∧ (∀ i, i < c → PJn A ((xk : Nat) : Int) l nm wd i (jv i)) ∧ v = some (.int (iI (jC (jR jv A wd c) 64)))) := by
  unfold jc
  have hv12 := hR.1.2.2.2.2.2.2.1
  have h44b := hR.2.2.2.2.2.2.1.2.1
  have hRc := hR
  obtain ⟨_, _, ⟨Tl, S, σ, hL0, _, _⟩, _⟩ := hRc
  obtain ⟨hTl0, hYT, _, _⟩ := hL0.1 l.toNat (by omega)
  generalize Tl l.toNat = T at hTl0 hYT
  obtain ⟨wd, hwdd⟩ : ∃ wd : Nat, wd = (I (T + 5) nm.toNat).toInt.toNat := ⟨_, rfl⟩
  refine jv_aload_n (pc' := 1) (k := 0) (x := 0) rfl rfl rfl rfl ?_
  refine jv_getR (pc' := 4) (c := 0) (k := 7) (v := 98) rfl rfl rfl (fun _ _ => rfl) rfl rfl (jR_0_7 _) ?_
  refine jv_iload_n (pc' := 5) (k := 1) (x := (iI ((xk : Nat) : Int))) rfl rfl rfl rfl ?_
  refine jv_call (pc' := 8) rfl (cl_thas (by omega) hR.2.2.2.2.2.2.1) (fun vq1 gq1 q1 => ?_)
  obtain ⟨rfl, rfl⟩ := q1
  show jx L xs _ 18 8 _ [.int (jb (0 ≤ ((xk : Nat) : Int) ∧ ((xk : Nat) : Int) < A 103 44))] _ _
  refine jv_jb_ne (t := 19) (pc' := 11) (P := 0 ≤ ((xk : Nat) : Int) ∧ ((xk : Nat) : Int) < A 103 44) rfl rfl rfl (fun hz_2 => ?_) (fun hz_2 => ?_)
  · skip
    refine jv_iload_n (pc' := 20) (k := 2) (x := (iI l)) rfl rfl rfl rfl ?_
    refine jv_call (pc' := 23) rfl (cl_isLayer (by omega)) (fun vq3 gq3 q3 => ?_)
    obtain ⟨rfl, rfl⟩ := q3
    show jx L xs _ 18 23 _ [.int (jb (0 ≤ l ∧ l < 4))] _ _
    refine jv_jb_eq (t := 33) (pc' := 26) (P := 0 ≤ l ∧ l < 4) rfl rfl rfl (fun hz_4 => ?_) (fun hz_4 => ?_)
    · skip
      exfalso; omega
    · skip
      refine jv_iload_n (pc' := 27) (k := 3) (x := (iI nm)) rfl rfl rfl rfl ?_
      refine jv_call (pc' := 30) rfl (cl_isFieldName (by omega)) (fun vq5 gq5 q5 => ?_)
      obtain ⟨rfl, rfl⟩ := q5
      show jx L xs _ 18 30 _ [.int (jb (0 ≤ nm ∧ nm < 8))] _ _
      refine jv_jb_ne (t := 41) (pc' := 33) (P := 0 ≤ nm ∧ nm < 8) rfl rfl rfl (fun hz_6 => ?_) (fun hz_6 => ?_)
      · skip
        refine jv_aload_n (pc' := 42) (k := 0) (x := 0) rfl rfl rfl rfl ?_
        refine jv_getR (pc' := 45) (c := 0) (k := 8) (v := 101) rfl rfl rfl (fun _ _ => rfl) rfl rfl (jR_0_8 _) ?_
        refine jv_call (pc' := 48) rfl (cl_jclear (I := I)) (fun v0 g0 q0 => ?_)
        obtain ⟨I0, rfl, rfl, a0, b0, c0, r0⟩ := q0
        have hR0 : CR I0 M p (jR (fun _ => none) A wd 0) := CR_jo hR r0 (fr_r _) (fun q hq => by rw [show jR (fun _ => none) A wd 0 137 q = -1 from if_pos ⟨rfl, hq⟩]; exact ⟨c0 q hq, by omega⟩) (fun l i h => jR_o h)
        have hc00 : jC (jR (fun _ => none) A wd 0) 64 = 0 := jC_z (fun q hq => if_pos ⟨rfl, hq⟩) 64 (Nat.le_refl _)
        show jx L xs _ 18 48 _ [] _ _
        refine jv_iconst (pc' := 49) (n := 0) rfl rfl ?_
        refine jv_istore (pc' := 51) (k := 4) (x := (iI 0)) rfl rfl rfl (Or.inr rfl) ?_
        have H7 : ∀ (N : Nat) (k : Nat) (I1 : Nat → Nat → Int32) (M1 : Nat → Nat → Int64) (P1 : Nat → Option Nat) (jv : Nat → Option (Int × Int × Int)) (HB : AB) (bs : Int) (bg : Int), 12 - k < N → (k ≤ c) → (fr cW I I1) → (fr cV M M1) → (CR I1 M1 P1 HB) → (HB = jR jv A wd k) → (bs = jB jv k) → (∀ i, i < k → PJn A ((xk : Nat) : Int) l nm wd i (jv i)) → (I1 101 1 = iI (jC HB 64)) → (I1 101 2 = iI bg) → ((bg = 0 ∧ bs < 0) ∨ (bg = 1 ∧ 0 ≤ bs)) → (0 ≤ bs → M1 101 3 = lI bs) → (bs < ((2 ^ wd : Nat) : Int) ∨ bs < 0) → (P1 (13 + l.toNat) = some T) → (I1 (T + 5) nm.toNat = I (T + 5) nm.toNat) → ∀ f : jm_F, f 0 = some (.ref 0) → f 1 = some (.int (iI ((xk : Nat) : Int))) → f 2 = some (.int (iI l)) → f 3 = some (.int (iI nm)) → f 4 = some (.int (iI ((k : Nat) : Int))) → jx L xs ((d + 13)) 18 51 f [] (jx_G j I1 M1 P1) (fun z => ∃ v g1, z = (.inl v, g1) ∧ (fun v g1 => ∃ (I' : Nat → Nat → Int32) (M' : Nat → Nat → Int64) (p' : Nat → Option Nat) (wd : Nat) (jv : Nat → Option (Int × Int × Int)), g1 = jx_G j I' M' p' ∧ fr cW I I' ∧ fr cV M M' ∧ CR I' M' p' (jR jv A wd c) ∧ (∀ i, i < c → PJn A ((xk : Nat) : Int) l nm wd i (jv i)) ∧ v = some (.int (iI (jC (jR jv A wd c) 64)))) v g1) := by
          intro N
          induction N with
          | zero => intro k I1 M1 P1 jv HB bs bg hN; exact absurd hN (Nat.not_lt_zero _)
          | succ N ih =>
            intro k I1 M1 P1 jv HB bs bg hN hk0 hf hm hR1 hHB hbs hJV hcnt hbg1 hbg2 hbase hbsb hTl hWd f hf0 hf1 hf2 hf3 hf4 
            refine jv_iload (pc' := 53) (k := 4) (x := (iI ((k : Nat) : Int))) rfl rfl hf4 ?_
            refine jv_aload_n (pc' := 54) (k := 0) (x := 0) rfl rfl rfl hf0 ?_
            refine jv_getI (pc' := 57) (c := 0) (k := 10) (v := (iI ((c : Nat) : Int))) rfl rfl rfl (fun _ _ => rfl) rfl rfl (hR1.2.2.2.2.1.1.trans (congrArg iI (by rw [hHB, jR_o (by omega)]; exact hc))) ?_
            refine jv_ic_ge (t := 177) (pc' := 60) (a := ((k : Nat) : Int)) (b := ((c : Nat) : Int)) rfl rfl rfl (by omega) (fun hz_8 => ?_) (fun hz_8 => ?_)
            · skip
              refine jv_aload_n (pc' := 178) (k := 0) (x := 0) rfl rfl rfl hf0 ?_
              refine jv_getR (pc' := 181) (c := 0) (k := 8) (v := 101) rfl rfl rfl (fun _ _ => rfl) rfl rfl (jR_0_8 _) ?_
              refine jv_getI (pc' := 184) (c := 11) (k := 1) (v := (iI (jC HB 64))) rfl rfl rfl (fun _ _ => rfl) rfl rfl hcnt ?_
              refine jv_retI rfl rfl ⟨_, _, rfl, ?_⟩
              first
              | (exfalso; omega)
              | (obtain rfl : k = c := by omega
                 subst hHB
                 exact ⟨_, _, _, wd, jv, rfl, hf, hm, hR1, hJV, rfl⟩)
            · skip
              have hcH : HB 103 12 = (c : Int) := by rw [hHB, jR_o (by omega)]; exact hc
              have h44H : HB 103 44 = A 103 44 := by rw [hHB, jR_o (by omega)]
              have eHB : HB = fun i k => if i = 137 then HB i k else A i k := by
                funext i k
                split
                · rfl
                next q => rw [hHB]; exact jR_o q
              refine jv_aload_n (pc' := 61) (k := 0) (x := 0) rfl rfl rfl hf0 ?_
              refine jv_getR (pc' := 64) (c := 0) (k := 7) (v := 98) rfl rfl rfl (fun _ _ => rfl) rfl rfl (jR_0_7 _) ?_
              refine jv_iload_n (pc' := 65) (k := 1) (x := (iI ((xk : Nat) : Int))) rfl rfl rfl hf1 ?_
              refine jv_iload (pc' := 67) (k := 4) (x := (iI ((k : Nat) : Int))) rfl rfl hf4 ?_
              obtain ⟨y0, g1, g2, g4⟩ := hR1.2.2.2.2.2.2.1.2.2.2 k (by omega)
              have g5 := (g4 (by rw [hcH]; omega) (by rw [h44H]; omega)).2.2 ((xk : Nat) : Int) (by omega)
              rw [show HB 135 k = A 135 k by rw [hHB]; exact jR_o (by omega), show HB 136 k = A 136 k by rw [hHB]; exact jR_o (by omega)] at g5
              refine jv_call (pc' := 70) rfl (cl_goes (I := I1) (k := k) (y := y0) g1 (by omega) (by omega) (by omega)) (fun v1 g1' q1 => ?_)
              obtain ⟨rfl, rfl⟩ := q1
              show jx L xs _ 18 70 _ [.int (jb (y0 = ((xk : Nat) : Int)))] _ _
              refine jv_jb_eq (t := 171) (pc' := 73) (P := y0 = ((xk : Nat) : Int)) rfl rfl rfl (fun hz_9 => ?_) (fun hz_9 => ?_)
              · skip
                refine jv_iinc (pc' := 174) (k := 4) (a := ((k : Nat) : Int)) rfl rfl hf4 rfl (Or.inr (congrArg jm_lng hf3)) ?_
                refine jx_step (pc' := 51) rfl ?_
                have hPk : PJn A ((xk : Nat) : Int) l nm wd k none := Or.inl ⟨fun e => absurd (g5.2 e) (by first | assumption | omega), rfl⟩
                exact ih (k + 1) I1 M1 P1 (fun i => if i = k then none else jv i) HB bs bg (by omega) (by omega) hf hm hR1 (by rw [jR_un, ← hHB]) (by rw [jB_un, ← hbs]) (fun i hi => by
                      by_cases e : i = k
                      · subst e; rw [if_pos rfl]; exact hPk
                      · rw [if_neg e]; exact hJV i (by omega)) hcnt hbg1 hbg2 hbase hbsb hTl hWd _ hf0 hf1 hf2 hf3 rfl 
              · skip
                refine jv_aload_n (pc' := 74) (k := 0) (x := 0) rfl rfl rfl hf0 ?_
                refine jv_iload (pc' := 76) (k := 4) (x := (iI ((k : Nat) : Int))) rfl rfl hf4 ?_
                have hgo : A 135 k = ((xk : Nat) : Int) ∧ A 136 k = 1 := g5.1 (by first | assumption | omega)
                refine jv_call (pc' := 79) rfl (cl_entriesOf3 (I := I1) (M := M1) (p := P1) (A := HB) (f := k) hR1 (by omega)) (fun v2 g2' q2 => ?_)
                obtain ⟨I2, M2, p2, rfl, rfl, r2, t2, hp2, s2, N2⟩ := q2
                obtain ⟨Tl2, S2, hL2, hE2⟩ := N2.2.2.2.2.2
                have hDE : DEC (acL A) (anL A) (afc A) (afv A) (afn A) (aB A k) (aZ A k) (aLim A) (aRoot A k) s2 := by
                  have q := N2.2.2.1
                  rw [eHB] at q; exact q
                have hE3 : EP (Wd I2 Tl2) (aZ A k) s2 := by
                  have q := hE2
                  rw [eHB] at q; exact q
                obtain ⟨_, _, σ2, _, hF2, _⟩ := N2.1.2.2.1
                obtain ⟨hpk, hFk⟩ := hF2.1 k (by omega)
                have hFB : FB I2 (σ2 k) (aB A k) (aZ A k) := by
                  have q := FB_of hF2 N2.1.1.2.2.2.2 (f := k) (by omega)
                  rw [eHB] at q; exact q
                have hsz := hFB.2.1
                have hsc := N2.2.2.2.1
                obtain ⟨hpl2, hYL2, _, hLY2⟩ := hL2.1 l.toNat (by omega)
                have hT2 : Tl2 l.toNat = T := Option.some.inj (hpl2.symm.trans ((hp2 _ (by omega) (by omega)).trans hTl))
                have hw2 : I2 (T + 5) nm.toNat = I (T + 5) nm.toNat := (r2 _ _ (by unfold wR2 wR; omega)).trans hWd
                have hLG := LG_DEC hDE
                show jx L xs _ 18 79 _ [.ref 39] _ _
                refine jv_astore (pc' := 81) (k := 5) (x := 39) rfl rfl rfl (Or.inr (congrArg jm_lng hf4)) ?_
                refine jv_aload (pc' := 83) (k := 5) (x := 39) rfl rfl rfl ?_
                refine jv_iload_n (pc' := 84) (k := 2) (x := (iI l)) rfl rfl rfl hf2 ?_
                refine jv_iload_n (pc' := 85) (k := 3) (x := (iI nm)) rfl rfl rfl hf3 ?_
                refine jv_call (pc' := 88) rfl (cl_first (I := I2) (M := M2) (p := p2) (s := s2) N2.2.1 hE3 N2.2.2.2.1 (by omega) (by omega)) (fun v5 g5' q5 => ?_)
                obtain ⟨w1, rfl, rfl, hFS1⟩ := q5
                have hrb1 := FS_b hFS1
                show jx L xs _ 18 88 _ [.int (iI w1)] _ _
                refine jv_istore (pc' := 90) (k := 6) (x := (iI w1)) rfl rfl rfl (Or.inr rfl) ?_
                refine jv_aload (pc' := 92) (k := 5) (x := 39) rfl rfl rfl ?_
                refine jv_iload_n (pc' := 93) (k := 2) (x := (iI l)) rfl rfl rfl hf2 ?_
                refine jv_bipush (pc' := 95) (n := 8) rfl rfl rfl ?_
                refine jv_call (pc' := 98) rfl (cl_first (I := I2) (M := M2) (p := p2) (s := s2) N2.2.1 hE3 N2.2.2.2.1 (by omega) (by omega)) (fun v5 g5' q5 => ?_)
                obtain ⟨w2, rfl, rfl, hFS2⟩ := q5
                have hrb2 := FS_b hFS2
                show jx L xs _ 18 98 _ [.int (iI w2)] _ _
                refine jv_istore (pc' := 100) (k := 7) (x := (iI w2)) rfl rfl rfl (Or.inr rfl) ?_
                refine jv_iload (pc' := 102) (k := 6) (x := (iI w1)) rfl rfl rfl ?_
                refine jv_iconst (pc' := 103) (n := -1) rfl rfl ?_
                refine jv_ic_eq (t := 171) (pc' := 106) (a := w1) (b := (-1)) rfl rfl rfl (by omega) (fun hz_10 => ?_) (fun hz_10 => ?_)
                · skip
                  refine jv_iinc (pc' := 174) (k := 4) (a := ((k : Nat) : Int)) rfl rfl hf4 rfl (Or.inr (congrArg jm_lng hf3)) ?_
                  refine jx_step (pc' := 51) rfl ?_
                  have hPk : PJn A ((xk : Nat) : Int) l nm wd k none := Or.inr ⟨hgo, s2, _, hDE, hE3, N2.2.2.2.1, w1, w2, hFS1, hFS2, Or.inr ⟨by omega, rfl⟩⟩
                  exact ih (k + 1) I2 M2 p2 (fun i => if i = k then none else jv i) HB bs bg (by omega) (by omega) (fr_t hf (fr_w r2 (fun l k h => by unfold wR2 wR at h; unfold cW; omega))) (fr_t hm (fr_w t2 (fun l k h => by unfold wE at h; unfold cV; omega))) N2.1 (by rw [jR_un, ← hHB]) (by rw [jB_un, ← hbs]) (fun i hi => by
                        by_cases e : i = k
                        · subst e; rw [if_pos rfl]; exact hPk
                        · rw [if_neg e]; exact hJV i (by omega)) ((r2 _ _ (by unfold wR2 wR; omega)).trans hcnt) ((r2 _ _ (by unfold wR2 wR; omega)).trans hbg1) hbg2 (fun e => (t2 _ _ (by unfold wE; omega)).trans (hbase e)) hbsb ((hp2 _ (by omega) (by omega)).trans hTl) hw2 _ hf0 hf1 hf2 hf3 rfl 
                · skip
                  refine jv_iload (pc' := 108) (k := 7) (x := (iI w2)) rfl rfl rfl ?_
                  refine jv_iconst (pc' := 109) (n := -1) rfl rfl ?_
                  refine jv_ic_eq (t := 171) (pc' := 112) (a := w2) (b := (-1)) rfl rfl rfl (by omega) (fun hz_11 => ?_) (fun hz_11 => ?_)
                  · skip
                    refine jv_iinc (pc' := 174) (k := 4) (a := ((k : Nat) : Int)) rfl rfl hf4 rfl (Or.inr (congrArg jm_lng hf3)) ?_
                    refine jx_step (pc' := 51) rfl ?_
                    have hPk : PJn A ((xk : Nat) : Int) l nm wd k none := Or.inr ⟨hgo, s2, _, hDE, hE3, N2.2.2.2.1, w1, w2, hFS1, hFS2, Or.inr ⟨by omega, rfl⟩⟩
                    exact ih (k + 1) I2 M2 p2 (fun i => if i = k then none else jv i) HB bs bg (by omega) (by omega) (fr_t hf (fr_w r2 (fun l k h => by unfold wR2 wR at h; unfold cW; omega))) (fr_t hm (fr_w t2 (fun l k h => by unfold wE at h; unfold cV; omega))) N2.1 (by rw [jR_un, ← hHB]) (by rw [jB_un, ← hbs]) (fun i hi => by
                          by_cases e : i = k
                          · subst e; rw [if_pos rfl]; exact hPk
                          · rw [if_neg e]; exact hJV i (by omega)) ((r2 _ _ (by unfold wR2 wR; omega)).trans hcnt) ((r2 _ _ (by unfold wR2 wR; omega)).trans hbg1) hbg2 (fun e => (t2 _ _ (by unfold wE; omega)).trans (hbase e)) hbsb ((hp2 _ (by omega) (by omega)).trans hTl) hw2 _ hf0 hf1 hf2 hf3 rfl 
                  · skip
                    obtain ⟨q3, q6, q8⟩ := EP_2 hE3 hFS1 (by omega) (by omega)
                    have q9 := EP_8 hE3 hFS2 (by omega)
                    have hwd : s2 6 w1.toNat = (wd : Int) ∧ wd ≤ 32 ∧ I2 (T + 5) nm.toNat = iI ((wd : Nat) : Int) := by
                      have q0 := hLG w1.toNat (by omega)
                      rw [q3] at q0
                      have q0' : 0 < anL HB l.toNat := by rw [eHB]; exact q0
                      rcases hLY2 with ⟨z0, _⟩ | ⟨_, Y, m, _, _, _, hLB, _⟩
                      · omega
                      · obtain ⟨y1, _, y2, y3⟩ := hLB.2.2.2 nm.toNat (by omega)
                        rw [hT2] at y1
                        have y4 : Wd I2 Tl2 l.toNat nm.toNat = Y 4 nm.toNat := by
                          show (I2 (Tl2 l.toNat + 5) nm.toNat).toInt = _
                          rw [hT2, y1]; exact iI_T ⟨by omega, by omega⟩
                        have y5 : (I (T + 5) nm.toNat).toInt = Y 4 nm.toNat := by rw [← hw2, y1]; exact iI_T ⟨by omega, by omega⟩
                        rw [q6, y4, y1]
                        have y6 : (wd : Int) = Y 4 nm.toNat := by rw [hwdd, y5]; omega
                        exact ⟨y6.symm, by omega, congrArg iI y6.symm⟩
                    have hpw : 2 ^ wd ≤ 2 ^ 32 := Nat.pow_le_pow_right (by decide) hwd.2.1
                    have hpw0 : 0 < 2 ^ wd := Nat.two_pow_pos wd
                    have hv1 : s2 8 w1.toNat < ((2 ^ wd : Nat) : Int) := by
                      rw [hwd.1, Int.toNat_natCast, pw_I] at q8; exact q8
                    have hvb1 := (hE3 w1.toNat (by omega)).1.2.2.2.2
                    have hvb2 := (hE3 w2.toNat (by omega)).1
                    obtain ⟨nb, hnb⟩ : ∃ nb : Nat, s2 8 w2.toNat = (nb : Int) := ⟨(s2 8 w2.toNat).toNat, by omega⟩
                    obtain ⟨ps, hps⟩ : ∃ ps : Nat, s2 5 w2.toNat = (ps : Int) := ⟨(s2 5 w2.toNat).toNat, by omega⟩
                    have hi40 := N2.2.1.2.2.2 w2.toNat (by omega)
                    refine jv_aload_n (pc' := 113) (k := 0) (x := 0) rfl rfl rfl hf0 ?_
                    refine jv_getR (pc' := 116) (c := 0) (k := 8) (v := 101) rfl rfl rfl (fun _ _ => rfl) rfl rfl (jR_0_8 _) ?_
                    refine jv_aload (pc' := 118) (k := 5) (x := 39) rfl rfl rfl ?_
                    refine jv_getR (pc' := 121) (c := 7) (k := 1) (v := 41) rfl rfl rfl (fun _ _ => rfl) rfl rfl (jR_39_1 _) ?_
                    refine jv_iload (pc' := 123) (k := 6) (x := (iI w1)) rfl rfl rfl ?_
                    refine jv_laload (pc' := 124) (n := 64) (e := w1) (v := (lI (s2 8 w1.toNat))) rfl rfl rfl rfl rfl (by omega) ((N2.2.1.2.2.2 w1.toNat (by omega)).2.2.2.2.2) ?_
                    refine jv_aload_n (pc' := 125) (k := 0) (x := 0) rfl rfl rfl hf0 ?_
                    refine jv_getR (pc' := 128) (c := 0) (k := 4) (v := 38) rfl rfl rfl (fun _ _ => rfl) rfl rfl (jR_0_4 _) ?_
                    refine jv_getR (pc' := 131) (c := 6) (k := 1) (v := 42) rfl rfl rfl (fun _ _ => rfl) rfl rfl (jR_38_1 _) ?_
                    refine jv_iload_n (pc' := 132) (k := 2) (x := (iI l)) rfl rfl rfl hf2 ?_
                    refine jv_aaload (pc' := 133) (n := 4) (e := l) (v := T) rfl rfl rfl rfl rfl (by omega) ((jR42 _ (show l.toNat < 4 by omega)).trans ((hp2 _ (by omega) (by omega)).trans hTl)) ?_
                    refine jv_getR (pc' := 136) (c := 2) (k := 4) (v := (T + 5)) rfl rfl rfl (fun _ _ => rfl) (YL_A hYT j _ _ _) rfl (YL_R5 hYT _) ?_
                    refine jv_iload_n (pc' := 137) (k := 3) (x := (iI nm)) rfl rfl rfl hf3 ?_
                    refine jv_iaload (pc' := 138) (n := 8) (e := nm) (v := (iI ((wd : Nat) : Int))) rfl rfl (YL_S hYT 5 (by omega)) (YL_B5 hYT j _ _ _) (YL_n5 hYT) rfl (by omega) hwd.2.2 ?_
                    rcases hbg2 with ⟨e0, e1⟩ | ⟨e0, e1⟩
                    · skip
                      have hb2 : I2 101 2 = iI bg := (r2 _ _ (by unfold wR2 wR; omega)).trans hbg1
                      rw [e0] at hb2
                      refine jv_call (pc' := 141) rfl (cl_jbegin_0 (I := I2) (M := M2) (p := p2) (wd := wd) (v := s2 8 w1.toNat) hb2 hwd.2.1) (fun v6 g6 q6 => ?_)
                      obtain ⟨I3, M3, rfl, rfl, r3, t3, b3, m3, m4⟩ := q6
                      obtain ⟨dn, hdn⟩ : ∃ dn : Nat, (s2 8 w1.toNat - (s2 8 w1.toNat)) % ((2 ^ wd : Nat) : Int) = (dn : Int) := ⟨_, (Int.toNat_of_nonneg (Int.emod_nonneg _ (by omega))).symm⟩
                      have hdn2 : (dn : Int) < ((2 ^ wd : Nat) : Int) := by rw [← hdn]; exact Int.emod_lt_of_pos _ (by omega)
                      rw [hdn] at m4
                      show jx L xs _ 18 141 _ [] _ _
                      refine jv_aload_n (pc' := 142) (k := 0) (x := 0) rfl rfl rfl hf0 ?_
                      refine jv_getR (pc' := 145) (c := 0) (k := 8) (v := 101) rfl rfl rfl (fun _ _ => rfl) rfl rfl (jR_0_8 _) ?_
                      refine jv_aload_n (pc' := 146) (k := 0) (x := 0) rfl rfl rfl hf0 ?_
                      refine jv_getR (pc' := 149) (c := 0) (k := 3) (v := 13) rfl rfl rfl (fun _ _ => rfl) rfl rfl (jR_0_3 _) ?_
                      refine jv_iload (pc' := 151) (k := 4) (x := (iI ((k : Nat) : Int))) rfl rfl hf4 ?_
                      refine jv_aaload (pc' := 152) (n := 12) (e := ((k : Nat) : Int)) (v := (σ2 k)) rfl rfl rfl rfl rfl (by omega) ((jR13 _ (by omega)).trans hpk) ?_
                      refine jv_aload (pc' := 154) (k := 5) (x := 39) rfl rfl rfl ?_
                      refine jv_iload (pc' := 156) (k := 7) (x := (iI w2)) rfl rfl rfl ?_
                      refine jv_iconst (pc' := 157) (n := 2) rfl rfl ?_
                      rw [show w2 = ((w2.toNat : Nat) : Int) by omega]
                      refine jv_call (pc' := 160) rfl (cl_fact (I := I3) (M := M3) (k := w2.toNat) (q := 2) (z := s2 5 w2.toNat) (by omega) (by omega) ((r3 _ _ (by omega)).trans hi40.2.2.1)) (fun v7 g7 q7 => ?_)
                      obtain ⟨rfl, rfl⟩ := q7
                      show jx L xs _ 18 160 _ [.int (iI (s2 5 w2.toNat)), .ref (σ2 k), .ref 101] _ _
                      rw [show s2 5 w2.toNat = ((ps : Nat) : Int) by exact hps]
                      refine jv_aload (pc' := 162) (k := 5) (x := 39) rfl rfl rfl ?_
                      refine jv_getR (pc' := 165) (c := 7) (k := 1) (v := 41) rfl rfl rfl (fun _ _ => rfl) rfl rfl (jR_39_1 _) ?_
                      refine jv_iload (pc' := 167) (k := 7) (x := (iI ((w2.toNat : Nat) : Int))) rfl rfl rfl ?_
                      refine jv_laload (pc' := 168) (n := 64) (e := ((w2.toNat : Nat) : Int)) (v := (lI (s2 8 w2.toNat))) rfl rfl rfl rfl rfl (by omega) ((congrArg (M3 41) (show ((w2.toNat : Nat) : Int).toNat = w2.toNat by omega)).trans ((t3 _ _ (by omega)).trans (N2.2.1.2.2.2 w2.toNat (by omega)).2.2.2.2.2)) ?_
                      rw [show s2 8 w2.toNat = ((nb : Nat) : Int) by exact hnb]
                      refine jv_call (pc' := 171) rfl (cl_jput (I := I3) (M := M3) (p := p2) (F := σ2 k) (Bf := aB A k) (sz := aZ A k) (H := HB) (n := nb) (ps := ps) (dn := dn) hFk (FB_fr hFB r3 (by omega) (by intro k; omega)) (by omega) (by omega) m4 (by omega) (RJo_w N2.1.2.2.2.2.2.2.2 r3 (by intro k; omega)) ((r3 _ _ (by omega)).trans ((r2 _ _ (by unfold wR2 wR; omega)).trans hcnt))) (fun v8 g8 q8' => ?_)
                      obtain ⟨I4, rfl, rfl, r4, J4, c4⟩ := q8'
                      have hR4 : CR I4 M3 p2 (jP HB (fun i => ((bv (aB A k) (ps + 8 * i) 8 : Nat) : Int)) dn nb) := CR_jo N2.1 (fr_t (fr_w r3 (fun l k h => Or.inl h.1)) (fr_w r4 (fun l k h => by omega))) (fr_w t3 (fun l k h => h.1)) J4 (fun l i h => jP_o h)
                      show jx L xs _ 18 171 _ [] _ _
                      refine jv_iinc (pc' := 174) (k := 4) (a := ((k : Nat) : Int)) rfl rfl hf4 rfl (Or.inr (congrArg jm_lng hf3)) ?_
                      refine jx_step (pc' := 51) rfl ?_
                      have hPk : PJn A ((xk : Nat) : Int) l nm wd k (some (s2 8 w1.toNat, s2 5 w2.toNat, s2 8 w2.toNat)) := Or.inr ⟨hgo, s2, _, hDE, hE3, N2.2.2.2.1, w1, w2, hFS1, hFS2, Or.inl ⟨by omega, by omega, rfl, hwd.1, hwd.2.1, hv1⟩⟩
                      exact ih (k + 1) I4 M3 p2 (fun i => if i = k then some (s2 8 w1.toNat, s2 5 w2.toNat, s2 8 w2.toNat) else jv i) (jP HB (fun i => ((bv (aB A k) (ps + 8 * i) 8 : Nat) : Int)) dn nb) (s2 8 w1.toNat) 1 (by omega) (by omega) (fr_t (fr_t (fr_t hf (fr_w r2 (fun l k h => by unfold wR2 wR at h; unfold cW; omega))) (fr_w r3 (fun l k h => by unfold cW; omega))) (fr_w r4 (fun l k h => by unfold cW; omega))) (fr_t (fr_t hm (fr_w t2 (fun l k h => by unfold wE at h; unfold cV; omega))) (fr_w t3 (fun l k h => by unfold cV; omega))) hR4 (by
                            rw [jR_us, ← hHB, ← hbs, if_pos e1, hdn]
                            show _ = jP HB (jY A k (s2 5 w2.toNat).toNat) ((dn : Int)).toNat (s2 8 w2.toNat).toNat
                            rw [hps, hnb, Int.toNat_natCast, Int.toNat_natCast, Int.toNat_natCast]; rfl) (by rw [jB_us, ← hbs, if_pos e1]) (fun i hi => by
                            by_cases e : i = k
                            · subst e; rw [if_pos rfl]; exact hPk
                            · rw [if_neg e]; exact hJV i (by omega)) c4 ((r4 _ _ (by omega)).trans b3) (Or.inr ⟨rfl, by omega⟩) (fun _ => m3) (by omega) ((hp2 _ (by omega) (by omega)).trans hTl) ((r4 _ _ (by omega)).trans ((r3 _ _ (by omega)).trans hw2)) _ hf0 hf1 hf2 hf3 rfl 
                    · skip
                      have hb2 : I2 101 2 = iI bg := (r2 _ _ (by unfold wR2 wR; omega)).trans hbg1
                      rw [e0] at hb2
                      have hm3 : M2 101 3 = lI bs := (t2 _ _ (by unfold wE; omega)).trans (hbase e1)
                      refine jv_call (pc' := 141) rfl (cl_jbegin_1 (I := I2) (M := M2) (p := p2) (wd := wd) (v := s2 8 w1.toNat) hb2 hm3 hwd.2.1) (fun v6 g6 q6 => ?_)
                      obtain ⟨I3, M3, rfl, rfl, r3, t3, b3, m3, m4⟩ := q6
                      obtain ⟨dn, hdn⟩ : ∃ dn : Nat, (s2 8 w1.toNat - bs) % ((2 ^ wd : Nat) : Int) = (dn : Int) := ⟨_, (Int.toNat_of_nonneg (Int.emod_nonneg _ (by omega))).symm⟩
                      have hdn2 : (dn : Int) < ((2 ^ wd : Nat) : Int) := by rw [← hdn]; exact Int.emod_lt_of_pos _ (by omega)
                      rw [hdn] at m4
                      show jx L xs _ 18 141 _ [] _ _
                      refine jv_aload_n (pc' := 142) (k := 0) (x := 0) rfl rfl rfl hf0 ?_
                      refine jv_getR (pc' := 145) (c := 0) (k := 8) (v := 101) rfl rfl rfl (fun _ _ => rfl) rfl rfl (jR_0_8 _) ?_
                      refine jv_aload_n (pc' := 146) (k := 0) (x := 0) rfl rfl rfl hf0 ?_
                      refine jv_getR (pc' := 149) (c := 0) (k := 3) (v := 13) rfl rfl rfl (fun _ _ => rfl) rfl rfl (jR_0_3 _) ?_
                      refine jv_iload (pc' := 151) (k := 4) (x := (iI ((k : Nat) : Int))) rfl rfl hf4 ?_
                      refine jv_aaload (pc' := 152) (n := 12) (e := ((k : Nat) : Int)) (v := (σ2 k)) rfl rfl rfl rfl rfl (by omega) ((jR13 _ (by omega)).trans hpk) ?_
                      refine jv_aload (pc' := 154) (k := 5) (x := 39) rfl rfl rfl ?_
                      refine jv_iload (pc' := 156) (k := 7) (x := (iI w2)) rfl rfl rfl ?_
                      refine jv_iconst (pc' := 157) (n := 2) rfl rfl ?_
                      rw [show w2 = ((w2.toNat : Nat) : Int) by omega]
                      refine jv_call (pc' := 160) rfl (cl_fact (I := I3) (M := M3) (k := w2.toNat) (q := 2) (z := s2 5 w2.toNat) (by omega) (by omega) ((r3 _ _ (by omega)).trans hi40.2.2.1)) (fun v7 g7 q7 => ?_)
                      obtain ⟨rfl, rfl⟩ := q7
                      show jx L xs _ 18 160 _ [.int (iI (s2 5 w2.toNat)), .ref (σ2 k), .ref 101] _ _
                      rw [show s2 5 w2.toNat = ((ps : Nat) : Int) by exact hps]
                      refine jv_aload (pc' := 162) (k := 5) (x := 39) rfl rfl rfl ?_
                      refine jv_getR (pc' := 165) (c := 7) (k := 1) (v := 41) rfl rfl rfl (fun _ _ => rfl) rfl rfl (jR_39_1 _) ?_
                      refine jv_iload (pc' := 167) (k := 7) (x := (iI ((w2.toNat : Nat) : Int))) rfl rfl rfl ?_
                      refine jv_laload (pc' := 168) (n := 64) (e := ((w2.toNat : Nat) : Int)) (v := (lI (s2 8 w2.toNat))) rfl rfl rfl rfl rfl (by omega) ((congrArg (M3 41) (show ((w2.toNat : Nat) : Int).toNat = w2.toNat by omega)).trans ((t3 _ _ (by omega)).trans (N2.2.1.2.2.2 w2.toNat (by omega)).2.2.2.2.2)) ?_
                      rw [show s2 8 w2.toNat = ((nb : Nat) : Int) by exact hnb]
                      refine jv_call (pc' := 171) rfl (cl_jput (I := I3) (M := M3) (p := p2) (F := σ2 k) (Bf := aB A k) (sz := aZ A k) (H := HB) (n := nb) (ps := ps) (dn := dn) hFk (FB_fr hFB r3 (by omega) (by intro k; omega)) (by omega) (by omega) m4 (by omega) (RJo_w N2.1.2.2.2.2.2.2.2 r3 (by intro k; omega)) ((r3 _ _ (by omega)).trans ((r2 _ _ (by unfold wR2 wR; omega)).trans hcnt))) (fun v8 g8 q8' => ?_)
                      obtain ⟨I4, rfl, rfl, r4, J4, c4⟩ := q8'
                      have hR4 : CR I4 M3 p2 (jP HB (fun i => ((bv (aB A k) (ps + 8 * i) 8 : Nat) : Int)) dn nb) := CR_jo N2.1 (fr_t (fr_w r3 (fun l k h => Or.inl h.1)) (fr_w r4 (fun l k h => by omega))) (fr_w t3 (fun l k h => h.1)) J4 (fun l i h => jP_o h)
                      show jx L xs _ 18 171 _ [] _ _
                      refine jv_iinc (pc' := 174) (k := 4) (a := ((k : Nat) : Int)) rfl rfl hf4 rfl (Or.inr (congrArg jm_lng hf3)) ?_
                      refine jx_step (pc' := 51) rfl ?_
                      have hPk : PJn A ((xk : Nat) : Int) l nm wd k (some (s2 8 w1.toNat, s2 5 w2.toNat, s2 8 w2.toNat)) := Or.inr ⟨hgo, s2, _, hDE, hE3, N2.2.2.2.1, w1, w2, hFS1, hFS2, Or.inl ⟨by omega, by omega, rfl, hwd.1, hwd.2.1, hv1⟩⟩
                      exact ih (k + 1) I4 M3 p2 (fun i => if i = k then some (s2 8 w1.toNat, s2 5 w2.toNat, s2 8 w2.toNat) else jv i) (jP HB (fun i => ((bv (aB A k) (ps + 8 * i) 8 : Nat) : Int)) dn nb) bs 1 (by omega) (by omega) (fr_t (fr_t (fr_t hf (fr_w r2 (fun l k h => by unfold wR2 wR at h; unfold cW; omega))) (fr_w r3 (fun l k h => by unfold cW; omega))) (fr_w r4 (fun l k h => by unfold cW; omega))) (fr_t (fr_t hm (fr_w t2 (fun l k h => by unfold wE at h; unfold cV; omega))) (fr_w t3 (fun l k h => by unfold cV; omega))) hR4 (by
                            rw [jR_us, ← hHB, ← hbs, if_neg (by omega), hdn]
                            show _ = jP HB (jY A k (s2 5 w2.toNat).toNat) ((dn : Int)).toNat (s2 8 w2.toNat).toNat
                            rw [hps, hnb, Int.toNat_natCast, Int.toNat_natCast, Int.toNat_natCast]; rfl) (by rw [jB_us, ← hbs, if_neg (by omega)]) (fun i hi => by
                            by_cases e : i = k
                            · subst e; rw [if_pos rfl]; exact hPk
                            · rw [if_neg e]; exact hJV i (by omega)) c4 ((r4 _ _ (by omega)).trans b3) (Or.inr ⟨rfl, by omega⟩) (fun _ => m3) (by omega) ((hp2 _ (by omega) (by omega)).trans hTl) ((r4 _ _ (by omega)).trans ((r3 _ _ (by omega)).trans hw2)) _ hf0 hf1 hf2 hf3 rfl 
        exact H7 _ 0 I0 M p (fun _ => none) (jR (fun _ => none) A wd 0) (-1) 0 (Nat.lt_succ_self _) (by omega) (fr_t (fr_r _) (fr_w r0 (fun l k h => by unfold cW; omega))) (fr_r _) hR0 rfl rfl (fun i hi => absurd hi (by omega)) (by rw [hc00]; exact a0) b0 (Or.inl ⟨rfl, by omega⟩) (fun e => absurd e (by omega)) (Or.inr (by omega)) hTl0 (r0 _ _ (by omega)) _ rfl rfl rfl rfl rfl 
      · skip
        exfalso; omega
  · skip
    exfalso; omega
theorem jP_r {b : Nat → Int} {e : Nat} (h : ∀ q, q < 64 → -1 ≤ H 137 q ∧ H 137 q < 256) (hb : ∀ i, 0 ≤ b i ∧ b i < 256) : ∀ i q, q < 64 → -1 ≤ jP H b e i 137 q ∧ jP H b e i 137 q < 256 := by
  intro i
  induction i with
  | zero => exact h
  | succ i ih =>
    intro q hq
    by_cases e1 : e + i < 64 ∧ jP H b e i 137 (e + i) < 0
    · rw [jP_y e1.1 e1.2]
      by_cases e2 : q = e + i
      · rw [jm_u_eq ⟨rfl, e2⟩]; have := hb i; omega
      · rw [jm_u_n2 (by omega)]; exact ih q hq
    · rw [jP_n e1]; exact ih q hq
theorem jY_r (f a i : Nat) : 0 ≤ jY A f a i ∧ jY A f a i < 256 := by
  have := bv_lt (aB A f) (a + 8 * i) 8
  show 0 ≤ ((bv (aB A f) (a + 8 * i) 8 : Nat) : Int) ∧ ((bv (aB A f) (a + 8 * i) 8 : Nat) : Int) < 256
  omega
theorem ml_jput (hM : CM I M H) (hFM : FM I k Bf sz) (hin : I 103 29 = iI (k : Int)) (hr2 : r2 < 64) (h121 : I 121 r2 = iI ((ps : Nat) : Int)) (h122 : I 122 r2 = iI ((8 * n : Nat) : Int)) (hn : n ≤ 40) (hps : ps + 8 * n ≤ 8 * sz) (hdn : dn < 4294967296) (hJ0 : ∀ q, q < 64 → -1 ≤ H 137 q ∧ H 137 q < 256) : jc L xs (d + 1) 171 [.ref 103, .long (lI ((dn : Nat) : Int)), .int (iI ((r2 : Nat) : Int))] (jx_G j I M p) (fun v g1 => ∃ I', g1 = jx_G j I' M p ∧ v = none ∧ fr (fun l _ => l = 137) I I' ∧ CM I' M (jP H (fun i => ((bv Bf (ps + 8 * i) 8 : Nat) : Int)) dn n)) := by
  unfold jc
  have hsz := hFM.2.2.1
  refine jv_iconst (pc' := 1) (n := 0) rfl rfl ?_
  refine jv_istore (pc' := 3) (k := 4) (x := (iI 0)) rfl rfl rfl (Or.inr rfl) ?_
  have H1 : ∀ (N : Nat) (i : Nat) (I1 : Nat → Nat → Int32), 40 - i < N → (i ≤ n) → (fr (fun l _ => l = 137) I I1) → (CM I1 M (jP H (fun i => ((bv Bf (ps + 8 * i) 8 : Nat) : Int)) dn i)) → ∀ f : jm_F, f 0 = some (.ref 103) → f 1 = some (.long (lI ((dn : Nat) : Int))) → f 3 = some (.int (iI ((r2 : Nat) : Int))) → f 4 = some (.int (iI ((i : Nat) : Int))) → jm_lng (f 2) = false → jx L xs ((d + 1)) 171 3 f [] (jx_G j I1 M p) (fun z => ∃ v g1, z = (.inl v, g1) ∧ (fun v g1 => ∃ I', g1 = jx_G j I' M p ∧ v = none ∧ fr (fun l _ => l = 137) I I' ∧ CM I' M (jP H (fun i => ((bv Bf (ps + 8 * i) 8 : Nat) : Int)) dn n)) v g1) := by
    intro N
    induction N with
    | zero => intro i I1 hN; exact absurd hN (Nat.not_lt_zero _)
    | succ N ih =>
      intro i I1 hN hi hf hC f hf0 hf1 hf3 hf4 hg2
      refine jv_iload (pc' := 5) (k := 4) (x := (iI ((i : Nat) : Int))) rfl rfl hf4 ?_
      refine jv_aload_n (pc' := 6) (k := 0) (x := 103) rfl rfl rfl hf0 ?_
      refine jv_getR (pc' := 9) (c := 12) (k := 26) (v := 122) rfl rfl rfl (fun _ _ => rfl) rfl rfl (jR_103_26 _) ?_
      refine jv_iload_n (pc' := 10) (k := 3) (x := (iI ((r2 : Nat) : Int))) rfl rfl rfl hf3 ?_
      refine jv_iaload (pc' := 11) (n := 65) (e := ((r2 : Nat) : Int)) (v := (iI ((8 * n : Nat) : Int))) rfl rfl (by decide) rfl rfl rfl (by omega) ((hf _ _ (by omega)).trans h122) ?_
      refine jv_bipush (pc' := 13) (n := 8) rfl rfl rfl ?_
      refine jv_int (pc' := 14) (y := (iI ((n : Nat) : Int))) rfl (iI_d9 (by omega)) ?_
      refine jv_ic_ge (t := 77) (pc' := 17) (a := ((i : Nat) : Int)) (b := ((n : Nat) : Int)) rfl rfl rfl (by omega) (fun hz_2 => ?_) (fun hz_2 => ?_)
      · skip
        refine jv_retV rfl rfl ⟨_, _, rfl, ?_⟩
        have e : i = n := by omega
        subst e
        exact ⟨_, rfl, rfl, hf, hC⟩
      · skip
        refine jv_lload_n (pc' := 18) (k := 1) (x := (lI ((dn : Nat) : Int))) rfl rfl rfl hf1 ?_
        refine jv_iload (pc' := 20) (k := 4) (x := (iI ((i : Nat) : Int))) rfl rfl hf4 ?_
        refine jv_i2l (pc' := 21) (a := ((i : Nat) : Int)) rfl rfl (by omega) ?_
        refine jv_ladd (pc' := 22) (a := ((dn : Nat) : Int)) (b := ((i : Nat) : Int)) rfl rfl ?_
        refine jv_lstore (pc' := 24) (k := 5) (x := (lI (((dn : Nat) : Int) + ((i : Nat) : Int)))) rfl rfl rfl (Or.inr (congrArg jm_lng hf4)) ?_
        have hjz := jP_r (e := dn) (b := (fun i => ((bv Bf (ps + 8 * i) 8 : Nat) : Int))) hJ0 (fun i => by have := bv_lt Bf (ps + 8 * i) 8; omega) i (dn + i)
        refine jv_lload (pc' := 26) (k := 5) (x := (lI (((dn : Nat) : Int) + ((i : Nat) : Int)))) rfl rfl rfl ?_
        refine jv_long (pc' := 29) (y := lI (64)) rfl (by decide) ?_
        refine jv_lc_ge (t := 71) (pc' := 33) (a := (((dn : Nat) : Int) + ((i : Nat) : Int))) (b := 64) rfl rfl rfl rfl rfl (by omega) (fun hz_3 => ?_) (fun hz_3 => ?_)
        · skip
          refine jv_iinc (pc' := 74) (k := 4) (a := ((i : Nat) : Int)) rfl rfl hf4 rfl (Or.inr (congrArg jm_lng hf3)) ?_
          refine jx_step (pc' := 3) rfl ?_
          exact ih (i + 1) I1 (by omega) (by omega) hf (by rw [jP_n (by omega)]; exact hC) _ hf0 hf1 hf3 rfl hg2
        · skip
          refine jv_aload_n (pc' := 34) (k := 0) (x := 103) rfl rfl rfl hf0 ?_
          refine jv_getR (pc' := 37) (c := 12) (k := 49) (v := 137) rfl rfl rfl (fun _ _ => rfl) rfl rfl (jR_103_49 _) ?_
          refine jv_lload (pc' := 39) (k := 5) (x := (lI (((dn : Nat) : Int) + ((i : Nat) : Int)))) rfl rfl rfl ?_
          refine jv_l2i (pc' := 40) (a := (((dn : Nat) : Int) + ((i : Nat) : Int))) rfl rfl ?_
          refine jv_iaload (pc' := 41) (n := 64) (e := (((dn : Nat) : Int) + ((i : Nat) : Int))) (v := (iI (jP H (fun i => ((bv Bf (ps + 8 * i) 8 : Nat) : Int)) dn i 137 (dn + i)))) rfl rfl (by decide) rfl rfl rfl (by omega) (CM_r hC (l := 137) (k := dn + i) (by simp [pers]) (by omega)) ?_
          refine jv_if_ge (t := 71) (pc' := 44) (a := (jP H (fun i => ((bv Bf (ps + 8 * i) 8 : Nat) : Int)) dn i 137 (dn + i))) rfl rfl rfl (by omega) (fun hz_4 => ?_) (fun hz_4 => ?_)
          · skip
            refine jv_iinc (pc' := 74) (k := 4) (a := ((i : Nat) : Int)) rfl rfl hf4 rfl (Or.inr (congrArg jm_lng hf3)) ?_
            refine jx_step (pc' := 3) rfl ?_
            exact ih (i + 1) I1 (by omega) (by omega) hf (by rw [jP_n (by omega)]; exact hC) _ hf0 hf1 hf3 rfl hg2
          · skip
            refine jv_aload_n (pc' := 45) (k := 0) (x := 103) rfl rfl rfl hf0 ?_
            refine jv_getR (pc' := 48) (c := 12) (k := 49) (v := 137) rfl rfl rfl (fun _ _ => rfl) rfl rfl (jR_103_49 _) ?_
            refine jv_lload (pc' := 50) (k := 5) (x := (lI (((dn : Nat) : Int) + ((i : Nat) : Int)))) rfl rfl rfl ?_
            refine jv_l2i (pc' := 51) (a := (((dn : Nat) : Int) + ((i : Nat) : Int))) rfl rfl ?_
            refine jv_aload_n (pc' := 52) (k := 0) (x := 103) rfl rfl rfl hf0 ?_
            refine jv_aload_n (pc' := 53) (k := 0) (x := 103) rfl rfl rfl hf0 ?_
            refine jv_getR (pc' := 56) (c := 12) (k := 25) (v := 121) rfl rfl rfl (fun _ _ => rfl) rfl rfl (jR_103_25 _) ?_
            refine jv_iload_n (pc' := 57) (k := 3) (x := (iI ((r2 : Nat) : Int))) rfl rfl rfl hf3 ?_
            refine jv_iaload (pc' := 58) (n := 65) (e := ((r2 : Nat) : Int)) (v := (iI ((ps : Nat) : Int))) rfl rfl (by decide) rfl rfl rfl (by omega) ((hf _ _ (by omega)).trans h121) ?_
            refine jv_bipush (pc' := 60) (n := 8) rfl rfl rfl ?_
            refine jv_iload (pc' := 62) (k := 4) (x := (iI ((i : Nat) : Int))) rfl rfl hf4 ?_
            refine jv_imul (pc' := 63) (a := 8) (b := ((i : Nat) : Int)) rfl rfl ?_
            refine jv_iadd (pc' := 64) (a := ((ps : Nat) : Int)) (b := (8 * ((i : Nat) : Int))) rfl rfl ?_
            rw [show ((ps : Nat) : Int) + (8 * ((i : Nat) : Int)) = ((ps + 8 * i : Nat) : Int) by omega]
            refine jv_bipush (pc' := 66) (n := 8) rfl rfl rfl ?_
            refine jv_call (pc' := 69) rfl (ml_bitsAt (I := I1) (M := M) (B := Bf) (sz := sz) (fi := k) (a := ps + 8 * i) (n := 8) (FM_fr hFM hf (by omega) (by intro q; omega)) ((hf _ _ (by omega)).trans hin) (by omega) (by omega)) (fun v1 g1 q1 => ?_)
            obtain ⟨rfl, rfl⟩ := q1
            have hbv := bv_lt Bf (ps + 8 * i) 8
            show jx L xs _ 171 69 _ [.long (lI ((bv Bf (ps + 8 * i) 8 : Nat) : Int)), .int (iI (((dn : Nat) : Int) + ((i : Nat) : Int))), .ref 137] _ _
            refine jv_l2i (pc' := 70) (a := ((bv Bf (ps + 8 * i) 8 : Nat) : Int)) rfl rfl ?_
            refine jv_iastore (pc' := 71) (n := 64) (e := (((dn : Nat) : Int) + ((i : Nat) : Int))) (v := (iI ((bv Bf (ps + 8 * i) 8 : Nat) : Int))) rfl rfl rfl rfl rfl (by omega) ?_
            refine jv_iinc (pc' := 74) (k := 4) (a := ((i : Nat) : Int)) rfl rfl hf4 rfl (Or.inr (congrArg jm_lng hf3)) ?_
            refine jx_step (pc' := 3) rfl ?_
            exact ih (i + 1) (jm_u I1 137 (((dn : Nat) : Int) + ((i : Nat) : Int) : Int).toNat (iI ((bv Bf (ps + 8 * i) 8 : Nat) : Int))) (by omega) (by omega) (fr_t hf (fr_u rfl (fr_r _))) (by rw [jP_y (by omega) (by omega)]; exact CM_ui hC (by omega) (by omega)) _ hf0 hf1 hf3 rfl hg2
  exact H1 _ 0 I (Nat.lt_succ_self _) (by omega) (fr_r _) hM _ rfl rfl rfl rfl rfl
theorem op_stream_b1 (hM : CM I M A) (hA : AT A) (hx : iR x) (hbad : ¬ (0 ≤ x ∧ x < A 103 44)) : jc L xs (d + 1) 170 [.ref 103, .int (iI x), .int (iI l), .int (iI nm)] (jx_G j I M p) (fun v g1 => ∃ I', g1 = jx_G j I' M p ∧ fr mW I I' ∧ CM I' M A ∧ I' 103 0 = iI 1) := by
  unfold jc
  have h44 := hA.1
  refine jv_aload_n (pc' := 1) (k := 0) (x := 103) rfl rfl rfl rfl ?_
  refine jv_aload_n (pc' := 2) (k := 0) (x := 103) rfl rfl rfl rfl ?_
  refine jv_iload_n (pc' := 3) (k := 1) (x := (iI x)) rfl rfl rfl rfl ?_
  refine jv_call (pc' := 6) rfl (ml_noTalk (by omega) hM hA.1) (fun vq1 gq1 q1 => ?_)
  obtain ⟨rfl, rfl⟩ := q1
  show jx L xs _ 170 6 _ [.int (jb (¬ (0 ≤ x ∧ x < A 103 44))), .ref 103] _ _
  refine jv_jb_eq (t := 13) (pc' := 9) (P := ¬ (0 ≤ x ∧ x < A 103 44)) rfl rfl rfl (fun hz_2 => ?_) (fun hz_2 => ?_)
  · skip
    exfalso; omega
  · skip
    refine jv_iconst (pc' := 10) (n := 1) rfl rfl ?_
    refine jx_step (pc' := 35) rfl ?_
    refine jv_putI (pc' := 38) (c := 12) (k := 0) rfl rfl rfl rfl (fun _ _ _  => rfl) rfl rfl ?_
    refine jv_aload_n (pc' := 39) (k := 0) (x := 103) rfl rfl rfl rfl ?_
    refine jv_getI (pc' := 42) (c := 12) (k := 0) (v := (iI 1)) rfl rfl rfl (fun _ _ => rfl) rfl rfl rfl ?_
    refine jv_if_le (t := 47) (pc' := 45) (a := 1) rfl rfl rfl (by omega) (fun hz_3 => ?_) (fun hz_3 => ?_)
    · skip
      exact absurd hz_3 (by decide)
    · skip
      refine jv_iconst (pc' := 46) (n := 0) rfl rfl ?_
      refine jv_retI rfl rfl ⟨_, _, rfl, ?_⟩
      first
      | (exfalso; omega)
      | exact ⟨_, rfl, (fr_u (by simp [mW]) (fr_r _)), CM_n hM (by simp [pers]), rfl⟩
theorem op_stream_b2 (hM : CM I M A) (hA : AT A) (hx : iR x) (hok : 0 ≤ x ∧ x < A 103 44) (hl : iR l) (hnm : iR nm) (hbad : ¬ ((0 ≤ l ∧ l < 4) ∧ (0 ≤ nm ∧ nm < 8))) : jc L xs (d + 1) 170 [.ref 103, .int (iI x), .int (iI l), .int (iI nm)] (jx_G j I M p) (fun v g1 => ∃ I', g1 = jx_G j I' M p ∧ fr mW I I' ∧ CM I' M A ∧ I' 103 0 = iI 2) := by
  unfold jc
  have h44 := hA.1
  refine jv_aload_n (pc' := 1) (k := 0) (x := 103) rfl rfl rfl rfl ?_
  refine jv_aload_n (pc' := 2) (k := 0) (x := 103) rfl rfl rfl rfl ?_
  refine jv_iload_n (pc' := 3) (k := 1) (x := (iI x)) rfl rfl rfl rfl ?_
  refine jv_call (pc' := 6) rfl (ml_noTalk (by omega) hM hA.1) (fun vq1 gq1 q1 => ?_)
  obtain ⟨rfl, rfl⟩ := q1
  show jx L xs _ 170 6 _ [.int (jb (¬ (0 ≤ x ∧ x < A 103 44))), .ref 103] _ _
  refine jv_jb_eq (t := 13) (pc' := 9) (P := ¬ (0 ≤ x ∧ x < A 103 44)) rfl rfl rfl (fun hz_2 => ?_) (fun hz_2 => ?_)
  · skip
    refine jv_iload_n (pc' := 14) (k := 2) (x := (iI l)) rfl rfl rfl rfl ?_
    refine jv_call (pc' := 17) rfl (ml_noLayer (by omega)) (fun vq3 gq3 q3 => ?_)
    obtain ⟨rfl, rfl⟩ := q3
    show jx L xs _ 170 17 _ [.int (jb (l < 0 ∨ 3 < l)), .ref 103] _ _
    refine jv_jb_ne (t := 30) (pc' := 20) (P := l < 0 ∨ 3 < l) rfl rfl rfl (fun hz_4 => ?_) (fun hz_4 => ?_)
    · skip
      refine jv_iconst (pc' := 31) (n := 2) rfl rfl ?_
      refine jx_step (pc' := 35) rfl ?_
      refine jv_putI (pc' := 38) (c := 12) (k := 0) rfl rfl rfl rfl (fun _ _ _  => rfl) rfl rfl ?_
      refine jv_aload_n (pc' := 39) (k := 0) (x := 103) rfl rfl rfl rfl ?_
      refine jv_getI (pc' := 42) (c := 12) (k := 0) (v := (iI 2)) rfl rfl rfl (fun _ _ => rfl) rfl rfl rfl ?_
      refine jv_if_le (t := 47) (pc' := 45) (a := 2) rfl rfl rfl (by omega) (fun hz_5 => ?_) (fun hz_5 => ?_)
      · skip
        exact absurd hz_5 (by decide)
      · skip
        refine jv_iconst (pc' := 46) (n := 0) rfl rfl ?_
        refine jv_retI rfl rfl ⟨_, _, rfl, ?_⟩
        first
        | (exfalso; omega)
        | exact ⟨_, rfl, (fr_u (by simp [mW]) (fr_r _)), CM_n hM (by simp [pers]), rfl⟩
    · skip
      refine jv_iload_n (pc' := 21) (k := 3) (x := (iI nm)) rfl rfl rfl rfl ?_
      refine jv_if_lt (t := 30) (pc' := 24) (a := nm) rfl rfl rfl (by omega) (fun hz_6 => ?_) (fun hz_6 => ?_)
      · skip
        refine jv_iconst (pc' := 31) (n := 2) rfl rfl ?_
        refine jx_step (pc' := 35) rfl ?_
        refine jv_putI (pc' := 38) (c := 12) (k := 0) rfl rfl rfl rfl (fun _ _ _  => rfl) rfl rfl ?_
        refine jv_aload_n (pc' := 39) (k := 0) (x := 103) rfl rfl rfl rfl ?_
        refine jv_getI (pc' := 42) (c := 12) (k := 0) (v := (iI 2)) rfl rfl rfl (fun _ _ => rfl) rfl rfl rfl ?_
        refine jv_if_le (t := 47) (pc' := 45) (a := 2) rfl rfl rfl (by omega) (fun hz_7 => ?_) (fun hz_7 => ?_)
        · skip
          exact absurd hz_7 (by decide)
        · skip
          refine jv_iconst (pc' := 46) (n := 0) rfl rfl ?_
          refine jv_retI rfl rfl ⟨_, _, rfl, ?_⟩
          first
          | (exfalso; omega)
          | exact ⟨_, rfl, (fr_u (by simp [mW]) (fr_r _)), CM_n hM (by simp [pers]), rfl⟩
      · skip
        refine jv_iload_n (pc' := 25) (k := 3) (x := (iI nm)) rfl rfl rfl rfl ?_
        refine jv_bipush (pc' := 27) (n := 7) rfl rfl rfl ?_
        refine jv_ic_le (t := 34) (pc' := 30) (a := nm) (b := 7) rfl rfl rfl (by omega) (fun hz_8 => ?_) (fun hz_8 => ?_)
        · skip
          exfalso; omega
        · skip
          refine jv_iconst (pc' := 31) (n := 2) rfl rfl ?_
          refine jx_step (pc' := 35) rfl ?_
          refine jv_putI (pc' := 38) (c := 12) (k := 0) rfl rfl rfl rfl (fun _ _ _  => rfl) rfl rfl ?_
          refine jv_aload_n (pc' := 39) (k := 0) (x := 103) rfl rfl rfl rfl ?_
          refine jv_getI (pc' := 42) (c := 12) (k := 0) (v := (iI 2)) rfl rfl rfl (fun _ _ => rfl) rfl rfl rfl ?_
          refine jv_if_le (t := 47) (pc' := 45) (a := 2) rfl rfl rfl (by omega) (fun hz_9 => ?_) (fun hz_9 => ?_)
          · skip
            exact absurd hz_9 (by decide)
          · skip
            refine jv_iconst (pc' := 46) (n := 0) rfl rfl ?_
            refine jv_retI rfl rfl ⟨_, _, rfl, ?_⟩
            first
            | (exfalso; omega)
            | exact ⟨_, rfl, (fr_u (by simp [mW]) (fr_r _)), CM_n hM (by simp [pers]), rfl⟩
  · skip
    exfalso; omega
def aFl (A : AB) (n : Nat) : AB := fun l i => if l = 137 ∧ i < n then -1 else A l i
theorem aFl_s {i : Nat} (hi : i = n) : jm_u (aFl A n) 137 i (-1) = aFl A (n + 1) := by
  funext l z
  by_cases e : l = 137 ∧ z = i
  · rw [jm_u_eq e]; exact (if_pos ⟨e.1, by omega⟩).symm
  · rw [jm_u_n2 e]
    unfold aFl
    by_cases e2 : l = 137 ∧ z < n
    · rw [if_pos e2, if_pos (by omega)]
    · rw [if_neg e2, if_neg (by omega)]
theorem aFl_0 : aFl A 0 = A := by
  funext l z
  exact if_neg (by omega)
theorem CM_fl {i : Nat} (h : CM I M (aFl A n)) (hi : i = n) : CM (jm_u I 137 i (iI (-1))) M (aFl A (n + 1)) := by
  rw [← aFl_s hi]; exact CM_u h (by omega)
set_option maxRecDepth 100000 in
set_option maxHeartbeats 4000000 in
theorem op_stream_m (hM : CM I M A) (hA : AT A) (hv : AV2 A ∧ AV4 A ∧ AV5 A) (hc : A 103 12 = (c : Int)) (hxk : (xk : Int) < A 103 44) (hl : 0 ≤ l ∧ l < 4) (hnm : 0 ≤ nm ∧ nm < 8) (hJV : ∀ i, i < c → PJn A ((xk : Nat) : Int) l nm wd i (jv i)) : jc L xs (d + 7) 170 [.ref 103, .int (iI ((xk : Nat) : Int)), .int (iI l), .int (iI nm)] (jx_G j I M p) (fun v g1 => ∃ I' M', g1 = jx_G j I' M' p ∧ fr mW I I' ∧ fr mV M M' ∧ CM I' M' (jR jv A wd c) ∧ I' 103 0 = iI 0 ∧ v = some (.int (iI (jC (jR jv A wd c) 64)))) := by
  unfold jc
  have hv12 := hv.2.2.2.2.1
  have h44 := hA.1
  refine jv_aload_n (pc' := 1) (k := 0) (x := 103) rfl rfl rfl rfl ?_
  refine jv_aload_n (pc' := 2) (k := 0) (x := 103) rfl rfl rfl rfl ?_
  refine jv_iload_n (pc' := 3) (k := 1) (x := (iI ((xk : Nat) : Int))) rfl rfl rfl rfl ?_
  refine jv_call (pc' := 6) rfl (ml_noTalk (by omega) hM hA.1) (fun vq1 gq1 q1 => ?_)
  obtain ⟨rfl, rfl⟩ := q1
  show jx L xs _ 170 6 _ [.int (jb (¬ (0 ≤ ((xk : Nat) : Int) ∧ ((xk : Nat) : Int) < A 103 44))), .ref 103] _ _
  refine jv_jb_eq (t := 13) (pc' := 9) (P := ¬ (0 ≤ ((xk : Nat) : Int) ∧ ((xk : Nat) : Int) < A 103 44)) rfl rfl rfl (fun hz_2 => ?_) (fun hz_2 => ?_)
  · skip
    refine jv_iload_n (pc' := 14) (k := 2) (x := (iI l)) rfl rfl rfl rfl ?_
    refine jv_call (pc' := 17) rfl (ml_noLayer (by omega)) (fun vq3 gq3 q3 => ?_)
    obtain ⟨rfl, rfl⟩ := q3
    show jx L xs _ 170 17 _ [.int (jb (l < 0 ∨ 3 < l)), .ref 103] _ _
    refine jv_jb_ne (t := 30) (pc' := 20) (P := l < 0 ∨ 3 < l) rfl rfl rfl (fun hz_4 => ?_) (fun hz_4 => ?_)
    · skip
      exfalso; omega
    · skip
      refine jv_iload_n (pc' := 21) (k := 3) (x := (iI nm)) rfl rfl rfl rfl ?_
      refine jv_if_lt (t := 30) (pc' := 24) (a := nm) rfl rfl rfl (by omega) (fun hz_5 => ?_) (fun hz_5 => ?_)
      · skip
        exfalso; omega
      · skip
        refine jv_iload_n (pc' := 25) (k := 3) (x := (iI nm)) rfl rfl rfl rfl ?_
        refine jv_bipush (pc' := 27) (n := 7) rfl rfl rfl ?_
        refine jv_ic_le (t := 34) (pc' := 30) (a := nm) (b := 7) rfl rfl rfl (by omega) (fun hz_6 => ?_) (fun hz_6 => ?_)
        · skip
          refine jv_iconst (pc' := 35) (n := 0) rfl rfl ?_
          refine jv_putI (pc' := 38) (c := 12) (k := 0) rfl rfl rfl rfl (fun _ _ _  => rfl) rfl rfl ?_
          refine jv_aload_n (pc' := 39) (k := 0) (x := 103) rfl rfl rfl rfl ?_
          refine jv_getI (pc' := 42) (c := 12) (k := 0) (v := (iI 0)) rfl rfl rfl (fun _ _ => rfl) rfl rfl rfl ?_
          refine jv_if_le (t := 47) (pc' := 45) (a := 0) rfl rfl rfl (by omega) (fun hz_7 => ?_) (fun hz_7 => ?_)
          · skip
            refine jv_iconst (pc' := 48) (n := 0) rfl rfl ?_
            refine jv_istore (pc' := 50) (k := 4) (x := (iI 0)) rfl rfl rfl (Or.inr rfl) ?_
            have H8 : ∀ (N : Nat) (k0 : Nat) (I0 : Nat → Nat → Int32), 64 - k0 < N → (k0 ≤ 64) → (fr mW I I0) → (CM I0 M (aFl A k0)) → (I0 103 0 = iI 0) → ∀ f : jm_F, f 0 = some (.ref 103) → f 1 = some (.int (iI ((xk : Nat) : Int))) → f 2 = some (.int (iI l)) → f 3 = some (.int (iI nm)) → f 4 = some (.int (iI ((k0 : Nat) : Int))) → jx L xs ((d + 7)) 170 50 f [] (jx_G j I0 M p) (fun z => ∃ v g1, z = (.inl v, g1) ∧ (fun v g1 => ∃ I' M', g1 = jx_G j I' M' p ∧ fr mW I I' ∧ fr mV M M' ∧ CM I' M' (jR jv A wd c) ∧ I' 103 0 = iI 0 ∧ v = some (.int (iI (jC (jR jv A wd c) 64)))) v g1) := by
              intro N
              induction N with
              | zero => intro k0 I0 hN; exact absurd hN (Nat.not_lt_zero _)
              | succ N ih =>
                intro k0 I0 hN hk0 hf hC h0 f hf0 hf1 hf2 hf3 hf4 
                refine jv_iload (pc' := 52) (k := 4) (x := (iI ((k0 : Nat) : Int))) rfl rfl hf4 ?_
                refine jv_bipush (pc' := 54) (n := 64) rfl rfl rfl ?_
                refine jv_ic_ge (t := 71) (pc' := 57) (a := ((k0 : Nat) : Int)) (b := 64) rfl rfl rfl (by omega) (fun hz_9 => ?_) (fun hz_9 => ?_)
                · skip
                  refine jv_long (pc' := 74) (y := lI (-1)) rfl (by decide) ?_
                  refine jv_lstore (pc' := 76) (k := 4) (x := (lI (-1))) rfl rfl rfl (Or.inr (congrArg jm_lng hf3)) ?_
                  refine jv_iconst (pc' := 77) (n := 0) rfl rfl ?_
                  refine jv_istore (pc' := 79) (k := 6) (x := (iI 0)) rfl rfl rfl (Or.inr rfl) ?_
                  have H10 : ∀ (Nb : Nat) (k : Nat) (I1 : Nat → Nat → Int32) (M1 : Nat → Nat → Int64) (HB : AB) (bs : Int), 12 - k < Nb → (k ≤ c) → (fr mW I I1) → (fr mV M M1) → (HB = jR jv A wd k) → (bs = jB jv k) → (CM I1 M1 HB) → (I1 103 0 = iI 0) → (∀ q, q < 64 → -1 ≤ HB 137 q ∧ HB 137 q < 256) → ((0 ≤ bs ∧ bs < ((2 ^ wd : Nat) : Int) ∧ bs < 4294967296) ∨ bs = -1) → ∀ f : jm_F, f 0 = some (.ref 103) → f 1 = some (.int (iI ((xk : Nat) : Int))) → f 2 = some (.int (iI l)) → f 3 = some (.int (iI nm)) → f 4 = some (.long (lI bs)) → f 6 = some (.int (iI ((k : Nat) : Int))) → jm_lng (f 5) = false → jx L xs ((d + 7)) 170 79 f [] (jx_G j I1 M1 p) (fun z => ∃ v g1, z = (.inl v, g1) ∧ (fun v g1 => ∃ I' M', g1 = jx_G j I' M' p ∧ fr mW I I' ∧ fr mV M M' ∧ CM I' M' (jR jv A wd c) ∧ I' 103 0 = iI 0 ∧ v = some (.int (iI (jC (jR jv A wd c) 64)))) v g1) := by
                    intro Nb
                    induction Nb with
                    | zero => intro k I1 M1 HB bs hNb; exact absurd hNb (Nat.not_lt_zero _)
                    | succ Nb ihb =>
                      intro k I1 M1 HB bs hNb hk0 hf hm hHB hbs hM1 h0 hJr hbsb f hf0 hf1 hf2 hf3 hf4 hf6 hg5
                      refine jv_iload (pc' := 81) (k := 6) (x := (iI ((k : Nat) : Int))) rfl rfl hf6 ?_
                      refine jv_aload_n (pc' := 82) (k := 0) (x := 103) rfl rfl rfl hf0 ?_
                      refine jv_getI (pc' := 85) (c := 12) (k := 12) (v := (iI ((c : Nat) : Int))) rfl rfl rfl (fun _ _ => rfl) rfl rfl ((hM1.1 103 12 (by simp [pers])).trans (congrArg iI (by rw [hHB, jR_o (by omega)]; exact hc))) ?_
                      refine jv_ic_ge (t := 200) (pc' := 88) (a := ((k : Nat) : Int)) (b := ((c : Nat) : Int)) rfl rfl rfl (by omega) (fun hz_11 => ?_) (fun hz_11 => ?_)
                      · skip
                        refine jv_iconst (pc' := 201) (n := 0) rfl rfl ?_
                        refine jv_istore (pc' := 203) (k := 6) (x := (iI 0)) rfl rfl rfl (Or.inr hg5) ?_
                        refine jv_iconst (pc' := 204) (n := 0) rfl rfl ?_
                        refine jv_istore (pc' := 206) (k := 7) (x := (iI 0)) rfl rfl rfl (Or.inr rfl) ?_
                        have H12 : ∀ (Nc : Nat) (i : Nat) (zc : Int), 64 - i < Nc → (i ≤ 64) → (zc = jC HB i) → ∀ f : jm_F, f 0 = some (.ref 103) → f 4 = some (.long (lI bs)) → f 6 = some (.int (iI zc)) → f 7 = some (.int (iI ((i : Nat) : Int))) → jm_lng (f 5) = false → jx L xs ((d + 7)) 170 206 f [] (jx_G j I1 M1 p) (fun z => ∃ v g1, z = (.inl v, g1) ∧ (fun v g1 => ∃ I' M', g1 = jx_G j I' M' p ∧ fr mW I I' ∧ fr mV M M' ∧ CM I' M' (jR jv A wd c) ∧ I' 103 0 = iI 0 ∧ v = some (.int (iI (jC (jR jv A wd c) 64)))) v g1) := by
                          intro Nc
                          induction Nc with
                          | zero => intro i zc hNc; exact absurd hNc (Nat.not_lt_zero _)
                          | succ Nc ihc =>
                            intro i zc hNc hi hzc f hf0 hf4 hf6 hf7 hg5
                            refine jv_iload (pc' := 208) (k := 7) (x := (iI ((i : Nat) : Int))) rfl rfl hf7 ?_
                            refine jv_bipush (pc' := 210) (n := 64) rfl rfl rfl ?_
                            refine jv_ic_ge (t := 240) (pc' := 213) (a := ((i : Nat) : Int)) (b := 64) rfl rfl rfl (by omega) (fun hz_13 => ?_) (fun hz_13 => ?_)
                            · skip
                              refine jv_iload (pc' := 242) (k := 6) (x := (iI zc)) rfl rfl hf6 ?_
                              refine jv_retI rfl rfl ⟨_, _, rfl, ?_⟩
                              first
                              | (exfalso; omega)
                              | (obtain rfl : i = 64 := by omega
                                 obtain rfl : k = c := by omega
                                 subst hHB
                                 exact ⟨_, _, rfl, hf, hm, hM1, h0, by rw [hzc]⟩)
                            · skip
                              have hji := hJr i (by omega)
                              refine jv_aload_n (pc' := 214) (k := 0) (x := 103) rfl rfl rfl hf0 ?_
                              refine jv_getR (pc' := 217) (c := 12) (k := 49) (v := 137) rfl rfl rfl (fun _ _ => rfl) rfl rfl (jR_103_49 _) ?_
                              refine jv_iload (pc' := 219) (k := 7) (x := (iI ((i : Nat) : Int))) rfl rfl hf7 ?_
                              refine jv_iaload (pc' := 220) (n := 64) (e := ((i : Nat) : Int)) (v := (iI (HB 137 i))) rfl rfl (by decide) rfl rfl rfl (by omega) (hM1.1 137 i (by simp [pers])) ?_
                              refine jv_if_lt (t := 230) (pc' := 223) (a := (HB 137 i)) rfl rfl rfl (by omega) (fun hz_14 => ?_) (fun hz_14 => ?_)
                              · skip
                                refine jv_iload (pc' := 232) (k := 6) (x := (iI zc)) rfl rfl hf6 ?_
                                refine jv_istore (pc' := 234) (k := 6) (x := (iI zc)) rfl rfl rfl (Or.inr hg5) ?_
                                refine jv_iinc (pc' := 237) (k := 7) (a := ((i : Nat) : Int)) rfl rfl hf7 rfl (Or.inr rfl) ?_
                                refine jx_step (pc' := 206) rfl ?_
                                exact ihc (i + 1) zc (by omega) (by omega) (by
                                      show _ = jC HB i + (if 0 ≤ HB 137 i then 1 else 0)
                                      split <;> omega) _ hf0 hf4 rfl rfl hg5
                              · skip
                                refine jv_iload (pc' := 225) (k := 6) (x := (iI zc)) rfl rfl hf6 ?_
                                refine jv_iconst (pc' := 226) (n := 1) rfl rfl ?_
                                refine jv_iadd (pc' := 227) (a := zc) (b := 1) rfl rfl ?_
                                refine jx_step (pc' := 232) rfl ?_
                                refine jv_istore (pc' := 234) (k := 6) (x := (iI (zc + 1))) rfl rfl rfl (Or.inr hg5) ?_
                                refine jv_iinc (pc' := 237) (k := 7) (a := ((i : Nat) : Int)) rfl rfl hf7 rfl (Or.inr rfl) ?_
                                refine jx_step (pc' := 206) rfl ?_
                                exact ihc (i + 1) (zc + 1) (by omega) (by omega) (by
                                      show _ = jC HB i + (if 0 ≤ HB 137 i then 1 else 0)
                                      split <;> omega) _ hf0 hf4 rfl rfl hg5
                        exact H12 _ 0 0 (Nat.lt_succ_self _) (by omega) rfl _ hf0 hf4 rfl rfl hg5
                      · skip
                        have hcH : HB 103 12 = (c : Int) := by rw [hHB, jR_o (by omega)]; exact hc
                        have eHB : HB = fun i k => if i = 137 then HB i k else A i k := by
                          funext i k
                          split
                          · rfl
                          next q => rw [hHB]; exact jR_o q
                        have hpj := hJV k (by omega)
                        have hto := hA.2.1 (by omega) k (by omega)
                        refine jv_aload_n (pc' := 89) (k := 0) (x := 103) rfl rfl rfl hf0 ?_
                        refine jv_getR (pc' := 92) (c := 12) (k := 47) (v := 135) rfl rfl rfl (fun _ _ => rfl) rfl rfl (jR_103_47 _) ?_
                        refine jv_iload (pc' := 94) (k := 6) (x := (iI ((k : Nat) : Int))) rfl rfl hf6 ?_
                        refine jv_iaload (pc' := 95) (n := 12) (e := ((k : Nat) : Int)) (v := (iI (A 135 k))) rfl rfl (by decide) rfl rfl rfl (by omega) ((hM1.1 135 k (by simp [pers])).trans (congrArg iI (by rw [hHB]; exact jR_o (by omega)))) ?_
                        refine jv_iload_n (pc' := 96) (k := 1) (x := (iI ((xk : Nat) : Int))) rfl rfl rfl hf1 ?_
                        refine jv_ic_ne (t := 194) (pc' := 99) (a := (A 135 k)) (b := ((xk : Nat) : Int)) rfl rfl rfl (by omega) (fun hz_15 => ?_) (fun hz_15 => ?_)
                        · skip
                          refine jv_iinc (pc' := 197) (k := 6) (a := ((k : Nat) : Int)) rfl rfl hf6 rfl (Or.inr hg5) ?_
                          refine jx_step (pc' := 79) rfl ?_
                          have hjk : jv k = none := by
                            rcases hpj with ⟨_, e⟩ | ⟨e, _⟩
                            · exact e
                            · omega
                          exact ihb (k + 1) I1 M1 HB bs (by omega) (by omega) hf hm (by rw [jR_n hjk, ← hHB]) (by rw [jB_n hjk, ← hbs]) hM1 h0 hJr hbsb _ hf0 hf1 hf2 hf3 hf4 rfl hg5
                        · skip
                          refine jv_aload_n (pc' := 100) (k := 0) (x := 103) rfl rfl rfl hf0 ?_
                          refine jv_getR (pc' := 103) (c := 12) (k := 48) (v := 136) rfl rfl rfl (fun _ _ => rfl) rfl rfl (jR_103_48 _) ?_
                          refine jv_iload (pc' := 105) (k := 6) (x := (iI ((k : Nat) : Int))) rfl rfl hf6 ?_
                          refine jv_baload (pc' := 106) (n := 12) (e := ((k : Nat) : Int)) (v := (iI (A 136 k))) rfl rfl rfl rfl rfl (by omega) ((hM1.1 136 k (by simp [pers])).trans (congrArg iI (by rw [hHB]; exact jR_o (by omega)))) ?_
                          refine jv_if_eq (t := 194) (pc' := 109) (a := (A 136 k)) rfl rfl rfl (by omega) (fun hz_16 => ?_) (fun hz_16 => ?_)
                          · skip
                            refine jv_iinc (pc' := 197) (k := 6) (a := ((k : Nat) : Int)) rfl rfl hf6 rfl (Or.inr hg5) ?_
                            refine jx_step (pc' := 79) rfl ?_
                            have hjk : jv k = none := by
                              rcases hpj with ⟨_, e⟩ | ⟨e, _⟩
                              · exact e
                              · omega
                            exact ihb (k + 1) I1 M1 HB bs (by omega) (by omega) hf hm (by rw [jR_n hjk, ← hHB]) (by rw [jB_n hjk, ← hbs]) hM1 h0 hJr hbsb _ hf0 hf1 hf2 hf3 hf4 rfl hg5
                          · skip
                            refine jv_aload_n (pc' := 110) (k := 0) (x := 103) rfl rfl rfl hf0 ?_
                            refine jv_iload (pc' := 112) (k := 6) (x := (iI ((k : Nat) : Int))) rfl rfl hf6 ?_
                            obtain ⟨s, W0, hDE, hE0, hc0, w1, w2, hFS1, hFS2, hcs⟩ : ∃ (s : DSt) (W : Nat → Nat → Int), DEC (acL A) (anL A) (afc A) (afv A) (afn A) (aB A k) (aZ A k) (aLim A) (aRoot A k) s ∧ EP W (aZ A k) s ∧ (0 ≤ s 0 2 ∧ s 0 2 ≤ 64) ∧ ∃ r1 r2, FS s l nm r1 ∧ FS s l 8 r2 ∧ ((0 ≤ r1 ∧ 0 ≤ r2 ∧ jv k = some (s 8 r1.toNat, s 5 r2.toNat, s 8 r2.toNat) ∧ s 6 r1.toNat = (wd : Int) ∧ wd ≤ 32 ∧ s 8 r1.toNat < ((2 ^ wd : Nat) : Int)) ∨ ((r1 = -1 ∨ r2 = -1) ∧ jv k = none)) := by
                              rcases hpj with ⟨e, _⟩ | ⟨_, e⟩
                              · exact absurd ⟨by omega, by omega⟩ e
                              · exact e
                            have hrb1 := FS_b hFS1
                            have hrb2 := FS_b hFS2
                            refine jv_call (pc' := 115) rfl (ml_dec (I := I1) (M := M1) (A := HB) (f := k) (s := s) hM1 (by rw [eHB]; exact hv) (by omega) (by rw [eHB]; exact hDE)) (fun v2 g2 q2 => ?_)
                            obtain ⟨I2, M2, rfl, rfl, r2, t2, C2, D2, hin2, z2⟩ := q2
                            have hFM : FM I2 k (aB A k) (aZ A k) := by
                              have q := FM_of (f := k) C2 (show AV5 HB by rw [eHB]; exact hv.2.2) (by omega)
                              rw [eHB] at q; exact q
                            show jx L xs _ 170 115 _ [] _ _
                            refine jv_aload_n (pc' := 116) (k := 0) (x := 103) rfl rfl rfl hf0 ?_
                            refine jv_iload_n (pc' := 117) (k := 2) (x := (iI l)) rfl rfl rfl hf2 ?_
                            refine jv_iload_n (pc' := 118) (k := 3) (x := (iI nm)) rfl rfl rfl hf3 ?_
                            refine jv_call (pc' := 121) rfl (ml_first (I := I2) (M := M2) (s := s) D2 hE0 hc0 (by omega) (by omega)) (fun v3 g3 q3 => ?_)
                            obtain ⟨w', rfl, rfl, hFS'⟩ := q3
                            obtain rfl := FS_det hFS1 hFS'
                            show jx L xs _ 170 121 _ [.int (iI w1)] _ _
                            refine jv_istore (pc' := 123) (k := 7) (x := (iI w1)) rfl rfl rfl (Or.inr (congrArg jm_lng hf6)) ?_
                            refine jv_aload_n (pc' := 124) (k := 0) (x := 103) rfl rfl rfl hf0 ?_
                            refine jv_iload_n (pc' := 125) (k := 2) (x := (iI l)) rfl rfl rfl hf2 ?_
                            refine jv_call (pc' := 128) rfl (ml_firstBlock (I := I2) (M := M2) (s := s) D2 hE0 hc0 (by omega)) (fun v3 g3 q3 => ?_)
                            obtain ⟨w', rfl, rfl, hFS'⟩ := q3
                            obtain rfl := FS_det hFS2 hFS'
                            show jx L xs _ 170 128 _ [.int (iI w2)] _ _
                            refine jv_istore (pc' := 130) (k := 8) (x := (iI w2)) rfl rfl rfl (Or.inr rfl) ?_
                            refine jv_iload (pc' := 132) (k := 7) (x := (iI w1)) rfl rfl rfl ?_
                            refine jv_if_lt (t := 194) (pc' := 135) (a := w1) rfl rfl rfl (by omega) (fun hz_17 => ?_) (fun hz_17 => ?_)
                            · skip
                              refine jv_iinc (pc' := 197) (k := 6) (a := ((k : Nat) : Int)) rfl rfl hf6 rfl (Or.inr hg5) ?_
                              refine jx_step (pc' := 79) rfl ?_
                              have hjk : jv k = none := by
                                rcases hcs with ⟨_, _, _⟩ | ⟨_, e⟩
                                · omega
                                · exact e
                              exact ihb (k + 1) I2 M2 HB bs (by omega) (by omega) (fr_t hf r2) (fr_t hm t2) (by rw [jR_n hjk, ← hHB]) (by rw [jB_n hjk, ← hbs]) C2 (z2.trans h0) hJr hbsb _ hf0 hf1 hf2 hf3 hf4 rfl hg5
                            · skip
                              refine jv_iload (pc' := 137) (k := 8) (x := (iI w2)) rfl rfl rfl ?_
                              refine jv_if_lt (t := 194) (pc' := 140) (a := w2) rfl rfl rfl (by omega) (fun hz_18 => ?_) (fun hz_18 => ?_)
                              · skip
                                refine jv_iinc (pc' := 197) (k := 6) (a := ((k : Nat) : Int)) rfl rfl hf6 rfl (Or.inr hg5) ?_
                                refine jx_step (pc' := 79) rfl ?_
                                have hjk : jv k = none := by
                                  rcases hcs with ⟨_, _, _⟩ | ⟨_, e⟩
                                  · omega
                                  · exact e
                                exact ihb (k + 1) I2 M2 HB bs (by omega) (by omega) (fr_t hf r2) (fr_t hm t2) (by rw [jR_n hjk, ← hHB]) (by rw [jB_n hjk, ← hbs]) C2 (z2.trans h0) hJr hbsb _ hf0 hf1 hf2 hf3 hf4 rfl hg5
                              · skip
                                have hcs1 : 0 ≤ w1 ∧ 0 ≤ w2 ∧ jv k = some (s 8 w1.toNat, s 5 w2.toNat, s 8 w2.toNat) ∧ s 6 w1.toNat = (wd : Int) ∧ wd ≤ 32 ∧ s 8 w1.toNat < ((2 ^ wd : Nat) : Int) := by
                                  rcases hcs with h | ⟨h, _⟩
                                  · exact h
                                  · omega
                                obtain ⟨_, _, hjk, hs6, hw32, hv1⟩ := hcs1
                                have q9 := EP_8 hE0 hFS2 (by omega)
                                have hpw : 2 ^ wd ≤ 2 ^ 32 := Nat.pow_le_pow_right (by decide) hw32
                                have hpw0 : 0 < 2 ^ wd := Nat.two_pow_pos wd
                                have hvb1 := (hE0 w1.toNat (by omega)).1.2.2.2.2
                                have hvb2 := (hE0 w2.toNat (by omega)).1
                                have hsz := hFM.2.2.1
                                obtain ⟨nb, hnb⟩ : ∃ nb : Nat, s 8 w2.toNat = (nb : Int) := ⟨(s 8 w2.toNat).toNat, by omega⟩
                                obtain ⟨ps, hps⟩ : ∃ ps : Nat, s 5 w2.toNat = (ps : Int) := ⟨(s 5 w2.toNat).toNat, by omega⟩
                                have hd2 := D2.2.2.2 w2.toNat (by omega)
                                have hd1 := D2.2.2.2 w1.toNat (by omega)
                                refine jv_lload (pc' := 142) (k := 4) (x := (lI bs)) rfl rfl hf4 ?_
                                refine jv_long (pc' := 143) (y := lI 0) rfl (by decide) ?_
                                refine jv_lc_ge (t := 157) (pc' := 147) (a := bs) (b := 0) rfl rfl rfl rfl rfl (by omega) (fun hz_19 => ?_) (fun hz_19 => ?_)
                                · skip
                                  refine jv_lload (pc' := 159) (k := 4) (x := (lI bs)) rfl rfl hf4 ?_
                                  refine jv_lstore (pc' := 161) (k := 4) (x := (lI bs)) rfl rfl rfl (Or.inr (congrArg jm_lng hf3)) ?_
                                  refine jv_long (pc' := 162) (y := lI 1) rfl (by decide) ?_
                                  refine jv_aload_n (pc' := 163) (k := 0) (x := 103) rfl rfl rfl hf0 ?_
                                  refine jv_getR (pc' := 166) (c := 12) (k := 26) (v := 122) rfl rfl rfl (fun _ _ => rfl) rfl rfl (jR_103_26 _) ?_
                                  refine jv_iload (pc' := 168) (k := 7) (x := (iI w1)) rfl rfl rfl ?_
                                  refine jv_iaload (pc' := 169) (n := 65) (e := w1) (v := (iI ((wd : Nat) : Int))) rfl rfl (by decide) rfl rfl rfl (by omega) (hd1.2.2.2.1.trans (congrArg iI hs6)) ?_
                                  refine jv_long (pc' := 170) (y := (lI ((2 ^ wd : Nat) : Int))) rfl (lI_p0 hw32) ?_
                                  refine jv_lstore (pc' := 172) (k := 9) (x := (lI ((2 ^ wd : Nat) : Int))) rfl rfl rfl (Or.inr rfl) ?_
                                  refine jv_aload_n (pc' := 173) (k := 0) (x := 103) rfl rfl rfl hf0 ?_
                                  refine jv_aload_n (pc' := 174) (k := 0) (x := 103) rfl rfl rfl hf0 ?_
                                  refine jv_getR (pc' := 177) (c := 12) (k := 28) (v := 124) rfl rfl rfl (fun _ _ => rfl) rfl rfl (jR_103_28 _) ?_
                                  refine jv_iload (pc' := 179) (k := 7) (x := (iI w1)) rfl rfl rfl ?_
                                  refine jv_laload (pc' := 180) (n := 65) (e := w1) (v := (lI (s 8 w1.toNat))) rfl rfl rfl rfl rfl (by omega) ((D2.2.2.2 w1.toNat (by omega)).2.2.2.2.2) ?_
                                  refine jv_lload (pc' := 182) (k := 4) (x := (lI bs)) rfl rfl rfl ?_
                                  refine jv_lsub (pc' := 183) (a := (s 8 w1.toNat)) (b := bs) rfl rfl ?_
                                  refine jv_lload (pc' := 185) (k := 9) (x := (lI ((2 ^ wd : Nat) : Int))) rfl rfl rfl ?_
                                  refine jv_ladd (pc' := 186) (a := ((s 8 w1.toNat) - bs)) (b := ((2 ^ wd : Nat) : Int)) rfl rfl ?_
                                  refine jv_lload (pc' := 188) (k := 9) (x := (lI ((2 ^ wd : Nat) : Int))) rfl rfl rfl ?_
                                  obtain ⟨aa, haa⟩ : ∃ aa : Nat, ((s 8 w1.toNat) - bs) + ((2 ^ wd : Nat) : Int) = (aa : Int) := ⟨(((s 8 w1.toNat) - bs) + ((2 ^ wd : Nat) : Int)).toNat, by omega⟩
                                  rw [show ((s 8 w1.toNat) - bs) + ((2 ^ wd : Nat) : Int) = ((aa : Nat) : Int) by exact haa]
                                  refine jv_lrem (pc' := 189) (a := aa) (b := 2 ^ wd) rfl rfl hpw0 (by omega) (by omega) ?_
                                  rw [show ((aa % 2 ^ wd : Nat) : Int) = (s 8 w1.toNat - bs) % ((2 ^ wd : Nat) : Int) by rw [Int.natCast_emod, ← haa]; exact Int.add_emod_right _ _]
                                  refine jv_iload (pc' := 191) (k := 8) (x := (iI w2)) rfl rfl rfl ?_
                                  obtain ⟨dn, hdn⟩ : ∃ dn : Nat, (s 8 w1.toNat - bs) % ((2 ^ wd : Nat) : Int) = (dn : Int) := ⟨_, (Int.toNat_of_nonneg (Int.emod_nonneg _ (by omega))).symm⟩
                                  have hdn2 : (dn : Int) < ((2 ^ wd : Nat) : Int) := by rw [← hdn]; exact Int.emod_lt_of_pos _ (by omega)
                                  rw [show (s 8 w1.toNat - bs) % ((2 ^ wd : Nat) : Int) = ((dn : Nat) : Int) by exact hdn]
                                  rw [show w2 = ((w2.toNat : Nat) : Int) by omega]
                                  refine jv_call (pc' := 194) rfl (ml_jput (I := I2) (M := M2) (H := HB) (k := k) (Bf := aB A k) (sz := aZ A k) (r2 := w2.toNat) (ps := ps) (n := nb) (dn := dn) C2 hFM hin2 (by omega) (hd2.2.2.1.trans (congrArg iI hps)) (hd2.2.2.2.1.trans (congrArg iI (by omega))) (by omega) (by omega) (by omega) hJr) (fun v4 g4 q4 => ?_)
                                  obtain ⟨I4, rfl, rfl, r4, C4⟩ := q4
                                  show jx L xs _ 170 194 _ [] _ _
                                  refine jv_iinc (pc' := 197) (k := 6) (a := ((k : Nat) : Int)) rfl rfl hf6 rfl (Or.inr rfl) ?_
                                  refine jx_step (pc' := 79) rfl ?_
                                  exact ihb (k + 1) I4 M2 (jP HB (fun i => ((bv (aB A k) (ps + 8 * i) 8 : Nat) : Int)) dn nb) bs (by omega) (by omega) (fr_t (fr_t hf r2) (fr_w r4 (fun l k h => by unfold mW; omega))) (fr_t hm t2) (by
                                        rw [jR_v hjk, ← hHB, ← hbs, if_neg (by omega), hdn]
                                        show _ = jP HB (jY A k (s 5 w2.toNat).toNat) ((dn : Int)).toNat (s 8 w2.toNat).toNat
                                        rw [hps, hnb, Int.toNat_natCast, Int.toNat_natCast, Int.toNat_natCast]; rfl) (by rw [jB_v hjk, ← hbs, if_neg (by omega)]) C4 ((r4 103 0 (by omega)).trans (z2.trans h0)) (jP_r hJr (fun i => by have := bv_lt (aB A k) (ps + 8 * i) 8; omega) _) (by omega) _ hf0 hf1 hf2 hf3 rfl rfl rfl
                                · skip
                                  refine jv_aload_n (pc' := 148) (k := 0) (x := 103) rfl rfl rfl hf0 ?_
                                  refine jv_getR (pc' := 151) (c := 12) (k := 28) (v := 124) rfl rfl rfl (fun _ _ => rfl) rfl rfl (jR_103_28 _) ?_
                                  refine jv_iload (pc' := 153) (k := 7) (x := (iI w1)) rfl rfl rfl ?_
                                  refine jv_laload (pc' := 154) (n := 65) (e := w1) (v := (lI (s 8 w1.toNat))) rfl rfl rfl rfl rfl (by omega) ((D2.2.2.2 w1.toNat (by omega)).2.2.2.2.2) ?_
                                  refine jx_step (pc' := 159) rfl ?_
                                  refine jv_lstore (pc' := 161) (k := 4) (x := (lI (s 8 w1.toNat))) rfl rfl rfl (Or.inr (congrArg jm_lng hf3)) ?_
                                  refine jv_long (pc' := 162) (y := lI 1) rfl (by decide) ?_
                                  refine jv_aload_n (pc' := 163) (k := 0) (x := 103) rfl rfl rfl hf0 ?_
                                  refine jv_getR (pc' := 166) (c := 12) (k := 26) (v := 122) rfl rfl rfl (fun _ _ => rfl) rfl rfl (jR_103_26 _) ?_
                                  refine jv_iload (pc' := 168) (k := 7) (x := (iI w1)) rfl rfl rfl ?_
                                  refine jv_iaload (pc' := 169) (n := 65) (e := w1) (v := (iI ((wd : Nat) : Int))) rfl rfl (by decide) rfl rfl rfl (by omega) (hd1.2.2.2.1.trans (congrArg iI hs6)) ?_
                                  refine jv_long (pc' := 170) (y := (lI ((2 ^ wd : Nat) : Int))) rfl (lI_p0 hw32) ?_
                                  refine jv_lstore (pc' := 172) (k := 9) (x := (lI ((2 ^ wd : Nat) : Int))) rfl rfl rfl (Or.inr rfl) ?_
                                  refine jv_aload_n (pc' := 173) (k := 0) (x := 103) rfl rfl rfl hf0 ?_
                                  refine jv_aload_n (pc' := 174) (k := 0) (x := 103) rfl rfl rfl hf0 ?_
                                  refine jv_getR (pc' := 177) (c := 12) (k := 28) (v := 124) rfl rfl rfl (fun _ _ => rfl) rfl rfl (jR_103_28 _) ?_
                                  refine jv_iload (pc' := 179) (k := 7) (x := (iI w1)) rfl rfl rfl ?_
                                  refine jv_laload (pc' := 180) (n := 65) (e := w1) (v := (lI (s 8 w1.toNat))) rfl rfl rfl rfl rfl (by omega) ((D2.2.2.2 w1.toNat (by omega)).2.2.2.2.2) ?_
                                  refine jv_lload (pc' := 182) (k := 4) (x := (lI (s 8 w1.toNat))) rfl rfl rfl ?_
                                  refine jv_lsub (pc' := 183) (a := (s 8 w1.toNat)) (b := (s 8 w1.toNat)) rfl rfl ?_
                                  refine jv_lload (pc' := 185) (k := 9) (x := (lI ((2 ^ wd : Nat) : Int))) rfl rfl rfl ?_
                                  refine jv_ladd (pc' := 186) (a := ((s 8 w1.toNat) - (s 8 w1.toNat))) (b := ((2 ^ wd : Nat) : Int)) rfl rfl ?_
                                  refine jv_lload (pc' := 188) (k := 9) (x := (lI ((2 ^ wd : Nat) : Int))) rfl rfl rfl ?_
                                  obtain ⟨aa, haa⟩ : ∃ aa : Nat, ((s 8 w1.toNat) - (s 8 w1.toNat)) + ((2 ^ wd : Nat) : Int) = (aa : Int) := ⟨(((s 8 w1.toNat) - (s 8 w1.toNat)) + ((2 ^ wd : Nat) : Int)).toNat, by omega⟩
                                  rw [show ((s 8 w1.toNat) - (s 8 w1.toNat)) + ((2 ^ wd : Nat) : Int) = ((aa : Nat) : Int) by exact haa]
                                  refine jv_lrem (pc' := 189) (a := aa) (b := 2 ^ wd) rfl rfl hpw0 (by omega) (by omega) ?_
                                  rw [show ((aa % 2 ^ wd : Nat) : Int) = (s 8 w1.toNat - (s 8 w1.toNat)) % ((2 ^ wd : Nat) : Int) by rw [Int.natCast_emod, ← haa]; exact Int.add_emod_right _ _]
                                  refine jv_iload (pc' := 191) (k := 8) (x := (iI w2)) rfl rfl rfl ?_
                                  obtain ⟨dn, hdn⟩ : ∃ dn : Nat, (s 8 w1.toNat - (s 8 w1.toNat)) % ((2 ^ wd : Nat) : Int) = (dn : Int) := ⟨_, (Int.toNat_of_nonneg (Int.emod_nonneg _ (by omega))).symm⟩
                                  have hdn2 : (dn : Int) < ((2 ^ wd : Nat) : Int) := by rw [← hdn]; exact Int.emod_lt_of_pos _ (by omega)
                                  rw [show (s 8 w1.toNat - (s 8 w1.toNat)) % ((2 ^ wd : Nat) : Int) = ((dn : Nat) : Int) by exact hdn]
                                  rw [show w2 = ((w2.toNat : Nat) : Int) by omega]
                                  refine jv_call (pc' := 194) rfl (ml_jput (I := I2) (M := M2) (H := HB) (k := k) (Bf := aB A k) (sz := aZ A k) (r2 := w2.toNat) (ps := ps) (n := nb) (dn := dn) C2 hFM hin2 (by omega) (hd2.2.2.1.trans (congrArg iI hps)) (hd2.2.2.2.1.trans (congrArg iI (by omega))) (by omega) (by omega) (by omega) hJr) (fun v4 g4 q4 => ?_)
                                  obtain ⟨I4, rfl, rfl, r4, C4⟩ := q4
                                  show jx L xs _ 170 194 _ [] _ _
                                  refine jv_iinc (pc' := 197) (k := 6) (a := ((k : Nat) : Int)) rfl rfl hf6 rfl (Or.inr rfl) ?_
                                  refine jx_step (pc' := 79) rfl ?_
                                  exact ihb (k + 1) I4 M2 (jP HB (fun i => ((bv (aB A k) (ps + 8 * i) 8 : Nat) : Int)) dn nb) (s 8 w1.toNat) (by omega) (by omega) (fr_t (fr_t hf r2) (fr_w r4 (fun l k h => by unfold mW; omega))) (fr_t hm t2) (by
                                        rw [jR_v hjk, ← hHB, ← hbs, if_pos (by omega), hdn]
                                        show _ = jP HB (jY A k (s 5 w2.toNat).toNat) ((dn : Int)).toNat (s 8 w2.toNat).toNat
                                        rw [hps, hnb, Int.toNat_natCast, Int.toNat_natCast, Int.toNat_natCast]; rfl) (by rw [jB_v hjk, ← hbs, if_pos (by omega)]) C4 ((r4 103 0 (by omega)).trans (z2.trans h0)) (jP_r hJr (fun i => by have := bv_lt (aB A k) (ps + 8 * i) 8; omega) _) (by omega) _ hf0 hf1 hf2 hf3 rfl rfl rfl
                  exact H10 _ 0 I0 M (jR jv A wd 0) (-1) (Nat.lt_succ_self _) (by omega) hf (fr_r _) rfl rfl (by obtain rfl : k0 = 64 := (by omega); exact hC) h0 (fun q hq => by rw [show jR jv A wd 0 137 q = -1 from if_pos ⟨rfl, hq⟩]; omega) (Or.inr rfl) _ hf0 hf1 hf2 hf3 rfl rfl rfl
                · skip
                  refine jv_aload_n (pc' := 58) (k := 0) (x := 103) rfl rfl rfl hf0 ?_
                  refine jv_getR (pc' := 61) (c := 12) (k := 49) (v := 137) rfl rfl rfl (fun _ _ => rfl) rfl rfl (jR_103_49 _) ?_
                  refine jv_iload (pc' := 63) (k := 4) (x := (iI ((k0 : Nat) : Int))) rfl rfl hf4 ?_
                  refine jv_iconst (pc' := 64) (n := -1) rfl rfl ?_
                  refine jv_iastore (pc' := 65) (n := 64) (e := ((k0 : Nat) : Int)) (v := (iI (-1))) rfl rfl rfl rfl rfl (by omega) ?_
                  refine jv_iinc (pc' := 68) (k := 4) (a := ((k0 : Nat) : Int)) rfl rfl hf4 rfl (Or.inr (congrArg jm_lng hf3)) ?_
                  refine jx_step (pc' := 50) rfl ?_
                  exact ih (k0 + 1) (jm_u I0 137 (((k0 : Nat) : Int) : Int).toNat (iI (-1))) (by omega) (by omega) (fr_t hf (fr_u (by simp [mW]) (fr_r _))) (CM_fl hC (by omega)) h0 _ hf0 hf1 hf2 hf3 rfl 
            exact H8 _ 0 (jm_u I 103 0 (iI 0)) (Nat.lt_succ_self _) (by omega) (fr_u (by simp [mW]) (fr_r _)) (by rw [aFl_0]; exact (CM_n hM (l := 103) (k := 0) (v := iI 0) (by simp [pers]))) rfl _ rfl rfl rfl rfl rfl 
          · skip
            exact absurd hz_7 (by decide)
        · skip
          exfalso; omega
  · skip
    exfalso; omega
end H14
