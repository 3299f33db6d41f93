/-! Decoding as a flat machine over the text of a layer. -/
/-- row 0: 0 bit, 1 steps, 2 entries; row 1 latest, row 2 seen; an entry's layer 3, name 4, bit 5, bits 6, mark 7, value 8 -/
abbrev DSt : Type := Nat → Nat → Int
def dE (s : DSt) (l nm bits v mk : Int) : DSt := fun r k => if r = 0 ∧ k = 2 then s 0 2 + 1 else if (k : Int) = s 0 2 ∧ 3 ≤ r ∧ r ≤ 8 then (if r = 3 then l else if r = 4 then nm else if r = 5 then s 0 0 else if r = 6 then bits else if r = 7 then mk else v) else s r k
def dS (s : DSt) : DSt := jm_u s 0 1 (s 0 1 + 1)
def dP (s : DSt) (w : Int) : DSt := jm_u s 0 0 (s 0 0 + w)
def dF (s : DSt) (nm : Nat) (w v : Int) : DSt := jm_u (jm_u (jm_u s 1 nm v) 2 nm 1) 0 0 (s 0 0 + w)
theorem dE_0 (s : DSt) (l nm bits v mk : Int) : dE s l nm bits v mk 0 0 = s 0 0 ∧ dE s l nm bits v mk 0 1 = s 0 1 ∧ dE s l nm bits v mk 0 2 = s 0 2 + 1 := ⟨by simp [dE], by simp [dE], by simp [dE]⟩
theorem dE_1 (s : DSt) (l nm bits v mk : Int) (k : Nat) : dE s l nm bits v mk 1 k = s 1 k ∧ dE s l nm bits v mk 2 k = s 2 k := ⟨by simp [dE], by simp [dE]⟩
theorem dE_n (s : DSt) (l nm bits v mk : Int) {r k : Nat} (h : ¬ (k : Int) = s 0 2) (hr : 3 ≤ r) : dE s l nm bits v mk r k = s r k := by
  unfold dE
  rw [if_neg (by omega), if_neg (by omega)]
theorem dE_e (s : DSt) (l nm bits v mk : Int) {k : Nat} (h : (k : Int) = s 0 2) : dE s l nm bits v mk 3 k = l ∧ dE s l nm bits v mk 4 k = nm ∧ dE s l nm bits v mk 5 k = s 0 0 ∧ dE s l nm bits v mk 6 k = bits ∧ dE s l nm bits v mk 7 k = mk ∧ dE s l nm bits v mk 8 k = v := by
  refine ⟨?_, ?_, ?_, ?_, ?_, ?_⟩ <;> simp [dE, h]
theorem dS_0 (s : DSt) : dS s 0 0 = s 0 0 ∧ dS s 0 1 = s 0 1 + 1 ∧ dS s 0 2 = s 0 2 := ⟨rfl, rfl, rfl⟩
theorem dS_r (s : DSt) {r : Nat} (h : r ≠ 0) (k : Nat) : dS s r k = s r k := jm_u_n2 (by omega)
theorem dP_0 (s : DSt) (w : Int) : dP s w 0 0 = s 0 0 + w ∧ dP s w 0 1 = s 0 1 ∧ dP s w 0 2 = s 0 2 := ⟨rfl, rfl, rfl⟩
theorem dP_r (s : DSt) (w : Int) {r : Nat} (h : r ≠ 0) (k : Nat) : dP s w r k = s r k := jm_u_n2 (by omega)
theorem dF_0 (s : DSt) (nm : Nat) (w v : Int) : dF s nm w v 0 0 = s 0 0 + w ∧ dF s nm w v 0 1 = s 0 1 ∧ dF s nm w v 0 2 = s 0 2 := ⟨rfl, rfl, rfl⟩
theorem dF_1 (s : DSt) (nm : Nat) (w v : Int) (k : Nat) : dF s nm w v 1 k = (if k = nm then v else s 1 k) ∧ dF s nm w v 2 k = (if k = nm then 1 else s 2 k) := by
  constructor <;> simp [dF, jm_u]
theorem dF_r (s : DSt) (nm : Nat) (w v : Int) {r : Nat} (h : 3 ≤ r) (k : Nat) : dF s nm w v r k = s r k := (jm_u_n2 (by omega)).trans ((jm_u_n2 (by omega)).trans (jm_u_n2 (by omega)))
/-- ranges -/
def DV (lim sz : Nat) (s : DSt) : Prop := (0 ≤ s 0 0 ∧ s 0 0 ≤ 8 * (sz : Int)) ∧ (0 ≤ s 0 1 ∧ s 0 1 ≤ lim) ∧ (0 ≤ s 0 2 ∧ s 0 2 + 1 ≤ s 0 1) ∧ ∀ k, k < 8 → (0 ≤ s 1 k ∧ s 1 k < 4294967296) ∧ (s 2 k = 0 ∨ s 2 k = 1)
/-- what holds of every entry; W the widths by layer and name -/
def EP (W : Nat → Nat → Int) (sz : Nat) (s : DSt) : Prop := ∀ k : Nat, (k : Int) < s 0 2 → ((0 ≤ s 3 k ∧ s 3 k < 4) ∧ (0 ≤ s 4 k ∧ s 4 k ≤ 10) ∧ (0 ≤ s 5 k ∧ 0 ≤ s 6 k ∧ s 5 k + s 6 k ≤ 8 * (sz : Int)) ∧ (0 ≤ s 7 k ∧ s 7 k ≤ 4) ∧ (0 ≤ s 8 k ∧ s 8 k < 4294967296)) ∧ (s 7 k = 1 ∨ s 7 k = 4 ∨ (s 4 k = 8 ∧ s 7 k = 0 ∧ s 6 k = 8 * s 8 k) ∨ (s 4 k < 8 ∧ s 6 k = W (s 3 k).toNat (s 4 k).toNat ∧ s 8 k < 2 ^ (s 6 k).toNat))
theorem EP_c {W : Nat → Nat → Int} {sz : Nat} {s s' : DSt} (h : EP W sz s) (h0 : s' 0 2 = s 0 2) (hr : ∀ r k, 3 ≤ r → s' r k = s r k) : EP W sz s' := fun k hk => by
  rw [h0] at hk
  rw [hr 3 k (by omega), hr 4 k (by omega), hr 5 k (by omega), hr 6 k (by omega), hr 7 k (by omega), hr 8 k (by omega)]
  exact h k hk
theorem EP_S {W : Nat → Nat → Int} {sz : Nat} {s : DSt} (h : EP W sz s) : EP W sz (dS s) := EP_c h rfl (fun r k hr => dS_r s (by omega) k)
theorem EP_P {W : Nat → Nat → Int} {sz : Nat} {s : DSt} {w : Int} (h : EP W sz s) : EP W sz (dP s w) := EP_c h rfl (fun r k hr => dP_r s w (by omega) k)
theorem EP_F {W : Nat → Nat → Int} {sz : Nat} {s : DSt} {nm : Nat} {w v : Int} (h : EP W sz s) : EP W sz (dF s nm w v) := EP_c h rfl (fun r k hr => dF_r s nm w v hr k)
theorem EP_E {W : Nat → Nat → Int} {sz : Nat} {s : DSt} {l nm bits v mk : Int} (h : EP W sz s) (hn : 0 ≤ s 0 2) (h1 : (0 ≤ l ∧ l < 4) ∧ (0 ≤ nm ∧ nm ≤ 10) ∧ (0 ≤ s 0 0 ∧ 0 ≤ bits ∧ s 0 0 + bits ≤ 8 * (sz : Int)) ∧ (0 ≤ mk ∧ mk ≤ 4) ∧ (0 ≤ v ∧ v < 4294967296)) (h2 : mk = 1 ∨ mk = 4 ∨ (nm = 8 ∧ mk = 0 ∧ bits = 8 * v) ∨ (nm < 8 ∧ bits = W l.toNat nm.toNat ∧ v < 2 ^ bits.toNat)) : EP W sz (dE s l nm bits v mk) := fun k hk => by
  rw [(dE_0 s l nm bits v mk).2.2] at hk
  by_cases e : (k : Int) = s 0 2
  · obtain ⟨e1, e2, e3, e4, e5, e6⟩ := dE_e s l nm bits v mk e
    rw [e1, e2, e3, e4, e5, e6]
    exact ⟨h1, h2⟩
  · rw [dE_n s l nm bits v mk e (by omega), dE_n s l nm bits v mk e (by omega), dE_n s l nm bits v mk e (by omega), dE_n s l nm bits v mk e (by omega), dE_n s l nm bits v mk e (by omega), dE_n s l nm bits v mk e (by omega)]
    exact h k (by omega)
/-- the class's cells -/
def DC (I : Nat → Nat → Int32) (M : Nat → Nat → Int64) (s : DSt) : Prop := I 38 9 = iI (s 0 0) ∧ I 38 10 = iI (s 0 1) ∧ I 39 2 = iI (s 0 2) ∧ (∀ k, k < 8 → M 44 k = lI (s 1 k) ∧ I 45 k = iI (s 2 k)) ∧ (∀ k : Nat, (k : Int) < s 0 2 → I 40 (5 * k) = iI (s 3 k) ∧ I 40 (5 * k + 1) = iI (s 4 k) ∧ I 40 (5 * k + 2) = iI (s 5 k) ∧ I 40 (5 * k + 3) = iI (s 6 k) ∧ I 40 (5 * k + 4) = iI (s 7 k) ∧ M 41 k = lI (s 8 k))
/-- the reference's cells -/
def DM (I : Nat → Nat → Int32) (M : Nat → Nat → Int64) (s : DSt) : Prop := I 103 30 = iI (s 0 0) ∧ I 103 32 = iI (s 0 1) ∧ I 103 22 = iI (s 0 2) ∧ (∀ k, k < 8 → M 125 k = lI (s 1 k) ∧ I 126 k = iI (s 2 k)) ∧ (∀ k : Nat, (k : Int) < s 0 2 → I 119 k = iI (s 3 k) ∧ I 120 k = iI (s 4 k) ∧ I 121 k = iI (s 5 k) ∧ I 122 k = iI (s 6 k) ∧ I 123 k = iI (s 7 k) ∧ M 124 k = lI (s 8 k))
theorem DC_en {I : Nat → Nat → Int32} {M : Nat → Nat → Int64} {s : DSt} {n : Nat} {l nm bits v mk : Int} (h : DC I M s) (hn : s 0 2 = (n : Int)) {i0 i1 i2 i3 i4 i5 : Nat} (h0 : i0 = 5 * n) (h1 : i1 = 5 * n + 1) (h2 : i2 = 5 * n + 2) (h3 : i3 = 5 * n + 3) (h4 : i4 = 5 * n + 4) (h5 : i5 = n) {z : Int} (hz : z = s 0 2 + 1) :
    DC (jm_u (jm_u (jm_u (jm_u (jm_u (jm_u I 40 i0 (iI l)) 40 i1 (iI nm)) 40 i2 (iI (s 0 0))) 40 i3 (iI bits)) 40 i4 (iI mk)) 39 2 (iI z)) (jm_u M 41 i5 (lI v)) (dE s l nm bits v mk) := by
  obtain ⟨d0, d1, d2⟩ := dE_0 s l nm bits v mk
  refine ⟨?_, ?_, ?_, fun k hk => ?_, fun k hk => ?_⟩
  · rw [d0]; exact h.1
  · rw [d1]; exact h.2.1
  · rw [d2, hz]; rfl
  · obtain ⟨e1, e2⟩ := dE_1 s l nm bits v mk k
    rw [e1, e2]
    obtain ⟨a, b⟩ := h.2.2.2.1 k hk
    exact ⟨(jm_u_n2 (by omega)).trans a, (jm_u_n2 (by omega)).trans ((jm_u_n2 (by omega)).trans ((jm_u_n2 (by omega)).trans ((jm_u_n2 (by omega)).trans ((jm_u_n2 (by omega)).trans ((jm_u_n2 (by omega)).trans b)))))⟩
  · rw [d2] at hk
    by_cases e : (k : Int) = s 0 2
    · obtain ⟨e1, e2, e3, e4, e5, e6⟩ := dE_e s l nm bits v mk e
      rw [e1, e2, e3, e4, e5, e6]
      have ek : k = n := by omega
      subst ek
      refine ⟨?_, ?_, ?_, ?_, ?_, ?_⟩
      · rw [jm_u_n2 (by omega), jm_u_n2 (by omega), jm_u_n2 (by omega), jm_u_n2 (by omega), jm_u_n2 (by omega), jm_u_eq (by omega)]
      · rw [jm_u_n2 (by omega), jm_u_n2 (by omega), jm_u_n2 (by omega), jm_u_n2 (by omega), jm_u_eq (by omega)]
      · rw [jm_u_n2 (by omega), jm_u_n2 (by omega), jm_u_n2 (by omega), jm_u_eq (by omega)]
      · rw [jm_u_n2 (by omega), jm_u_n2 (by omega), jm_u_eq (by omega)]
      · rw [jm_u_n2 (by omega), jm_u_eq (by omega)]
      · rw [jm_u_eq (by omega)]
    · rw [dE_n s l nm bits v mk e (by omega), dE_n s l nm bits v mk e (by omega), dE_n s l nm bits v mk e (by omega), dE_n s l nm bits v mk e (by omega), dE_n s l nm bits v mk e (by omega), dE_n s l nm bits v mk e (by omega)]
      obtain ⟨a, b, c, d, f, g⟩ := h.2.2.2.2 k (by omega)
      refine ⟨?_, ?_, ?_, ?_, ?_, ?_⟩
      · rw [jm_u_n2 (by omega), jm_u_n2 (by omega), jm_u_n2 (by omega), jm_u_n2 (by omega), jm_u_n2 (by omega), jm_u_n2 (by omega)]; exact a
      · rw [jm_u_n2 (by omega), jm_u_n2 (by omega), jm_u_n2 (by omega), jm_u_n2 (by omega), jm_u_n2 (by omega), jm_u_n2 (by omega)]; exact b
      · rw [jm_u_n2 (by omega), jm_u_n2 (by omega), jm_u_n2 (by omega), jm_u_n2 (by omega), jm_u_n2 (by omega), jm_u_n2 (by omega)]; exact c
      · rw [jm_u_n2 (by omega), jm_u_n2 (by omega), jm_u_n2 (by omega), jm_u_n2 (by omega), jm_u_n2 (by omega), jm_u_n2 (by omega)]; exact d
      · rw [jm_u_n2 (by omega), jm_u_n2 (by omega), jm_u_n2 (by omega), jm_u_n2 (by omega), jm_u_n2 (by omega), jm_u_n2 (by omega)]; exact f
      · rw [jm_u_n2 (by omega)]; exact g
theorem DC_S {I : Nat → Nat → Int32} {M : Nat → Nat → Int64} {s : DSt} {z : Int} (h : DC I M s) (hz : z = s 0 1 + 1) : DC (jm_u I 38 10 (iI z)) M (dS s) := by
  subst hz
  refine ⟨h.1, rfl, h.2.2.1, fun k hk => ?_, fun k hk => ?_⟩
  · rw [dS_r s (by omega), dS_r s (by omega)]; exact h.2.2.2.1 k hk
  · rw [dS_r s (by omega), dS_r s (by omega), dS_r s (by omega), dS_r s (by omega), dS_r s (by omega), dS_r s (by omega)]; exact h.2.2.2.2 k hk
theorem DC_P {I : Nat → Nat → Int32} {M : Nat → Nat → Int64} {s : DSt} {z w : Int} (h : DC I M s) (hz : z = s 0 0 + w) : DC (jm_u I 38 9 (iI z)) M (dP s w) := by
  subst hz
  refine ⟨rfl, h.2.1, h.2.2.1, fun k hk => ?_, fun k hk => ?_⟩
  · rw [dP_r s w (by omega), dP_r s w (by omega)]; exact h.2.2.2.1 k hk
  · rw [dP_r s w (by omega), dP_r s w (by omega), dP_r s w (by omega), dP_r s w (by omega), dP_r s w (by omega), dP_r s w (by omega)]; exact h.2.2.2.2 k hk
theorem DC_F {I : Nat → Nat → Int32} {M : Nat → Nat → Int64} {s : DSt} {z w v : Int} {nm i1 i2 : Nat} (h : DC I M s) (h1 : i1 = nm) (h2 : i2 = nm) (hz : z = s 0 0 + w) : DC (jm_u (jm_u I 45 i2 (iI 1)) 38 9 (iI z)) (jm_u M 44 i1 (lI v)) (dF s nm w v) := by
  subst h1; subst h2; subst hz
  refine ⟨rfl, h.2.1, h.2.2.1, fun k hk => ?_, fun k hk => ?_⟩
  · obtain ⟨e1, e2⟩ := dF_1 s i2 w v k
    rw [e1, e2]
    obtain ⟨a, b⟩ := h.2.2.2.1 k hk
    by_cases e : k = i2
    · rw [if_pos e, if_pos e]
      exact ⟨jm_u_eq ⟨rfl, e⟩, (jm_u_n2 (by omega)).trans (jm_u_eq ⟨rfl, e⟩)⟩
    · rw [if_neg e, if_neg e]
      exact ⟨(jm_u_n2 (by omega)).trans a, (jm_u_n2 (by omega)).trans ((jm_u_n2 (by omega)).trans b)⟩
  · rw [dF_r s i2 w v (by omega), dF_r s i2 w v (by omega), dF_r s i2 w v (by omega), dF_r s i2 w v (by omega), dF_r s i2 w v (by omega), dF_r s i2 w v (by omega)]
    obtain ⟨a, b, c, d, f, g⟩ := h.2.2.2.2 k hk
    exact ⟨a, b, c, d, f, (jm_u_n2 (by omega)).trans g⟩
/-- a step; a field; a block -/
def SP (lim : Nat) (l nm : Int) (s : DSt) (ok : Bool) (s' : DSt) : Prop := (s 0 1 < lim ∧ ok = true ∧ s' = dS s) ∨ (¬ s 0 1 < lim ∧ ok = false ∧ s' = dE s l nm 0 0 4)
noncomputable def fv (B : Nat → Nat) (a w : Nat) (sw : Int) : Nat := if sw = 1 then tv B a w (w / 8) else bv B a w
noncomputable def fm (B : Nat → Nat) (bg sz a w : Nat) (kd num : Int) (v : Nat) : Int := if kd = 1 then (if (v : Int) = num then 0 else 2) else if kd = 2 then (if v = sm B bg a sz % 2 ^ w then 0 else 3) else 0
def FD (B : Nat → Nat) (lim sz bg : Nat) (l : Int) (nm w : Nat) (sw kd num : Int) (s : DSt) (ok : Bool) (s' : DSt) : Prop := ∃ s1,
  (SP lim l nm s false s1 ∧ ok = false ∧ s' = s1)
  ∨ (SP lim l nm s true s1 ∧ 8 * (sz : Int) - s1 0 0 < w ∧ ok = false ∧ s' = dE s1 l nm 0 0 1)
  ∨ (SP lim l nm s true s1 ∧ w ≤ 8 * (sz : Int) - s1 0 0 ∧ ∃ (v : Nat) (mk : Int), v = fv B (s1 0 0).toNat w sw ∧ mk = fm B bg sz (s1 0 0).toNat w kd num v ∧ ok = decide (mk ≠ 2) ∧ s' = dF (dE s1 l nm w v mk) nm w v)
def BL (lim sz : Nat) (l nm : Int) (s : DSt) (ok : Bool) (s' : DSt) : Prop := ∃ s1,
  (SP lim l 8 s false s1 ∧ ok = false ∧ s' = s1)
  ∨ (SP lim l 8 s true s1 ∧ ∃ ct : Int, ct = (if nm = -1 then (8 * (sz : Int) - s1 0 0) / 8 else s1 1 nm.toNat) ∧
      ((8 * (sz : Int) - s1 0 0 < 8 * ct ∧ ok = false ∧ s' = dE s1 l 8 0 0 1) ∨ (8 * ct ≤ 8 * (sz : Int) - s1 0 0 ∧ ok = true ∧ s' = dP (dE s1 l 8 (8 * ct) ct 0) (8 * ct))))
theorem DV_S {lim sz : Nat} {s : DSt} (h : DV lim sz s) (hs : s 0 1 < lim) : DV lim sz (dS s) ∧ dS s 0 2 + 2 ≤ dS s 0 1 := by
  obtain ⟨h1, h2, h3, h4⟩ := h
  obtain ⟨e1, e2, e3⟩ := dS_0 s
  refine ⟨⟨by rw [e1]; exact h1, by rw [e2]; omega, by rw [e2, e3]; omega, fun k hk => ?_⟩, by rw [e2, e3]; omega⟩
  rw [dS_r s (by omega), dS_r s (by omega)]; exact h4 k hk
theorem DV_F {lim sz : Nat} {s : DSt} {l nm' bits mk w v : Int} {nm : Nat} (h : DV lim sz s) (hs : s 0 2 + 2 ≤ s 0 1) (hw : 0 ≤ w ∧ w ≤ 8 * (sz : Int) - s 0 0) (hv : 0 ≤ v ∧ v < 4294967296) : DV lim sz (dF (dE s l nm' bits v mk) nm w v) := by
  obtain ⟨h1, h2, h3, h4⟩ := h
  obtain ⟨e1, e2, e3⟩ := dF_0 (dE s l nm' bits v mk) nm w v
  obtain ⟨d1, d2, d3⟩ := dE_0 s l nm' bits v mk
  refine ⟨by rw [e1, d1]; omega, by rw [e2, d2]; omega, by rw [e3, e2, d3, d2]; omega, fun k hk => ?_⟩
  obtain ⟨x1, x2⟩ := dF_1 (dE s l nm' bits v mk) nm w v k
  obtain ⟨y1, y2⟩ := dE_1 s l nm' bits v mk k
  rw [x1, x2, y1, y2]
  have := h4 k hk
  by_cases e : k = nm
  · rw [if_pos e, if_pos e]; exact ⟨hv, Or.inr rfl⟩
  · rw [if_neg e, if_neg e]; exact this
theorem DV_P {lim sz : Nat} {s : DSt} {l nm' bits mk w v : Int} (h : DV lim sz s) (hs : s 0 2 + 2 ≤ s 0 1) (hw : 0 ≤ w ∧ w ≤ 8 * (sz : Int) - s 0 0) : DV lim sz (dP (dE s l nm' bits v mk) w) := by
  obtain ⟨h1, h2, h3, h4⟩ := h
  obtain ⟨e1, e2, e3⟩ := dP_0 (dE s l nm' bits v mk) w
  obtain ⟨d1, d2, d3⟩ := dE_0 s l nm' bits v mk
  refine ⟨by rw [e1, d1]; omega, by rw [e2, d2]; omega, by rw [e3, e2, d3, d2]; omega, fun k hk => ?_⟩
  obtain ⟨y1, y2⟩ := dE_1 s l nm' bits v mk k
  rw [dP_r _ _ (by omega), dP_r _ _ (by omega), y1, y2]
  exact h4 k hk
/-- the way over what is inside, to behind its end -/
def LQ (c : Nat → Int) : Nat → Nat → Nat → Nat → Prop
  | 0, dp, a, e => dp = 0 ∧ a = e
  | k + 1, dp, a, e => 0 < dp ∧ a < 80 ∧ LQ c k (if c a = 40 then dp + 1 else if c a = 41 then dp - 1 else dp) (a + 1) e
def CH (Y : Nat → Nat → Int) (f : Nat) (s : DSt) : Prop := (Y 0 f = 5 ∧ s 1 (Y 1 f).toNat = Y 2 f) ∨ (Y 0 f = 6 ∧ s 1 (Y 1 f).toNat < Y 2 f)
abbrev DK : Type := List (Nat × Bool × Int)
def AG (sz : Nat) (gr : Bool) (lf : Int) (s : DSt) : Prop := gr = true ∧ ((lf < 0 ∧ 0 < 8 * (sz : Int) - s 0 0) ∨ 0 < lf)
/-- what goes on: md 1 is the end of a round of the outermost open group or option -/
def DT (c : Nat → Int) (B : Nat → Nat) (lim sz bg : Nat) (l : Int) (md a : Nat) (k : DK) (s : DSt) (md' a' : Nat) (k' : DK) (s' : DSt) : Prop :=
  (md = 0 ∧ md' = 0 ∧ k' = k ∧ ∃ Y f, FI c Y f a a' ∧ FD B lim sz bg l (Y 1 f).toNat (Y 4 (Y 1 f).toNat).toNat (Y 5 (Y 1 f).toNat) (Y 0 f) (Y 2 f) s true s')
  ∨ (md = 0 ∧ md' = 0 ∧ k' = k ∧ a' = a + 2 ∧ ∃ Y f, BK c Y f a ∧ BL lim sz l (Y 1 f) s true s')
  ∨ (md = 0 ∧ md' = 1 ∧ s' = s ∧ ∃ Y f, HD c Y f a a' ∧ c a = 35 ∧ k' = (a', true, if Y 1 f = -1 then -1 else s 1 (Y 1 f).toNat) :: k)
  ∨ (md = 0 ∧ md' = 0 ∧ s' = s ∧ ∃ Y f b, HD c Y f a b ∧ c a = 63 ∧ ((CH Y f s ∧ a' = b ∧ k' = (b, false, 0) :: k) ∨ (¬ CH Y f s ∧ k' = k ∧ ∃ n, LQ c n 1 b a')))
  ∨ (md = 0 ∧ md' = 1 ∧ s' = s ∧ k' = k ∧ k ≠ [] ∧ c a = 41)
  ∨ (md = 1 ∧ md' = 0 ∧ ∃ it gr lf r, k = (it, gr, lf) :: r ∧ ((AG sz gr lf s ∧ SP lim l 9 s true s' ∧ a' = it ∧ k' = (it, gr, if lf < 0 then lf else lf - 1) :: r) ∨ (¬ AG sz gr lf s ∧ s' = s ∧ k' = r ∧ ∃ n, LQ c n 1 it a')))
/-- decoding is over -/
def DO (c : Nat → Int) (B : Nat → Nat) (lim sz bg : Nat) (l : Int) (md a : Nat) (k : DK) (s s' : DSt) : Prop :=
  (md = 0 ∧ ∃ Y f e, e ≤ 80 ∧ FI c Y f a e ∧ FD B lim sz bg l (Y 1 f).toNat (Y 4 (Y 1 f).toNat).toNat (Y 5 (Y 1 f).toNat) (Y 0 f) (Y 2 f) s false s')
  ∨ (md = 0 ∧ ∃ Y f, a + 2 ≤ 80 ∧ BK c Y f a ∧ BL lim sz l (Y 1 f) s false s')
  ∨ (md = 1 ∧ ∃ it gr lf r, k = (it, gr, lf) :: r ∧ AG sz gr lf s ∧ SP lim l 9 s false s')
def DB (lim sz : Nat) (a : Nat) (k : DK) (s : DSt) : Prop := a ≤ 80 ∧ k.length ≤ 3 ∧ DV lim sz s ∧ ∀ x, x ∈ k → x.1 ≤ 80 ∧ -1 ≤ x.2.2 ∧ x.2.2 < 4294967296
def DR (c : Nat → Int) (B : Nat → Nat) (lim sz bg : Nat) (l : Int) : Nat → Nat → Nat → DK → DSt → Nat → Nat → DK → DSt → Prop
  | 0, md, a, k, s, md', a', k', s' => md = md' ∧ a = a' ∧ k = k' ∧ s = s'
  | n + 1, md, a, k, s, md', a', k', s' => DB lim sz a k s ∧ ∃ md1 a1 k1 s1, DT c B lim sz bg l md a k s md1 a1 k1 s1 ∧ DR c B lim sz bg l n md1 a1 k1 s1 md' a' k' s'
def DQ (c : Nat → Int) (B : Nat → Nat) (lim sz bg : Nat) (l : Int) : Nat → Nat → Nat → DK → DSt → DSt → Prop
  | 0, md, a, k, s, s' => DB lim sz a k s ∧ DO c B lim sz bg l md a k s s'
  | n + 1, md, a, k, s, s' => DB lim sz a k s ∧ ∃ md1 a1 k1 s1, DT c B lim sz bg l md a k s md1 a1 k1 s1 ∧ DQ c B lim sz bg l n md1 a1 k1 s1 s'
theorem DR_app {c : Nat → Int} {B : Nat → Nat} {lim sz bg : Nat} {l : Int} : ∀ {n m md a : Nat} {k : DK} {s : DSt} {md1 a1 : Nat} {k1 : DK} {s1 : DSt} {md2 a2 : Nat} {k2 : DK} {s2 : DSt}, DR c B lim sz bg l n md a k s md1 a1 k1 s1 → DR c B lim sz bg l m md1 a1 k1 s1 md2 a2 k2 s2 → DR c B lim sz bg l (n + m) md a k s md2 a2 k2 s2 := by
  intro n
  induction n with
  | zero =>
    intro m md a k s md1 a1 k1 s1 md2 a2 k2 s2 h q
    obtain ⟨rfl, rfl, rfl, rfl⟩ := h
    rw [Nat.zero_add]
    exact q
  | succ n ih =>
    intro m md a k s md1 a1 k1 s1 md2 a2 k2 s2 h q
    obtain ⟨hb, x, y, z, u, hs, h⟩ := h
    rw [Nat.succ_add]
    exact ⟨hb, x, y, z, u, hs, ih h q⟩
theorem DR_1 {c : Nat → Int} {B : Nat → Nat} {lim sz bg : Nat} {l : Int} {md a : Nat} {k : DK} {s : DSt} {md1 a1 : Nat} {k1 : DK} {s1 : DSt} (hb : DB lim sz a k s) (h : DT c B lim sz bg l md a k s md1 a1 k1 s1) : DR c B lim sz bg l 1 md a k s md1 a1 k1 s1 := ⟨hb, _, _, _, _, h, rfl, rfl, rfl, rfl⟩
theorem DR_DQ {c : Nat → Int} {B : Nat → Nat} {lim sz bg : Nat} {l : Int} {s2 : DSt} : ∀ {n m md a : Nat} {k : DK} {s : DSt} {md1 a1 : Nat} {k1 : DK} {s1 : DSt}, DR c B lim sz bg l n md a k s md1 a1 k1 s1 → DQ c B lim sz bg l m md1 a1 k1 s1 s2 → DQ c B lim sz bg l (n + m) md a k s s2 := by
  intro n
  induction n with
  | zero =>
    intro m md a k s md1 a1 k1 s1 h q
    obtain ⟨rfl, rfl, rfl, rfl⟩ := h
    rw [Nat.zero_add]
    exact q
  | succ n ih =>
    intro m md a k s md1 a1 k1 s1 h q
    obtain ⟨hb, x, y, z, u, hs, h⟩ := h
    rw [Nat.succ_add]
    exact ⟨hb, x, y, z, u, hs, ih h q⟩
/-- the way over items -/
theorem nd_dg {c : Nat → Int} : ∀ k a i, i < ndk c k a → 48 ≤ c (a + i) ∧ c (a + i) ≤ 57 := by
  intro k
  induction k with
  | zero => intro a i h; exact absurd h (by unfold ndk; omega)
  | succ k ih =>
    intro a i h
    unfold ndk at h
    split at h
    next q =>
      cases i with
      | zero => unfold dg at q; exact q
      | succ i =>
        have := ih (a + 1) i (by omega)
        rw [show a + (i + 1) = a + 1 + i by omega]; exact this
    next q => omega
theorem LQ_s {c : Nat → Int} {n dp a e : Nat} (hd : 0 < dp) (ha : a < 80) (h : c a ≠ 40 ∧ c a ≠ 41) (q : LQ c n dp (a + 1) e) : LQ c (n + 1) dp a e := by
  refine ⟨hd, ha, ?_⟩
  rw [if_neg h.1, if_neg h.2]; exact q
theorem LQ_n {c : Nat → Int} {dp e : Nat} (hd : 0 < dp) : ∀ {i n a : Nat}, (∀ x, x < i → c (a + x) ≠ 40 ∧ c (a + x) ≠ 41) → a + i ≤ 80 → LQ c n dp (a + i) e → LQ c (n + i) dp a e := by
  intro i
  induction i with
  | zero => intro n a _ _ q; exact q
  | succ i ih =>
    intro n a h hb q
    refine LQ_s hd (by omega) (h 0 (by omega)) (ih (fun x hx => ?_) (by omega) ?_)
    · have := h (x + 1) (by omega)
      rw [show a + 1 + x = a + (x + 1) by omega]; exact this
    · rw [show a + 1 + i = a + (i + 1) by omega]; exact q
theorem FI_np {c : Nat → Int} {Y : Nat → Nat → Int} {f a e : Nat} (h : FI c Y f a e) : a + 2 ≤ e ∧ ∀ x, a + x < e → c (a + x) ≠ 40 ∧ c (a + x) ≠ 41 := by
  obtain ⟨h1, h2, h3, h4, h5, a2, h6, h7⟩ := h
  have ha2 : (a2 = fd1 c a ∨ (a2 = fd1 c a + 1 ∧ c (fd1 c a) = 60)) := by
    rcases h6 with h6 | h6
    · exact Or.inr ⟨h6.2.1, h6.1⟩
    · exact Or.inl h6.2.1
  have he : (e = a2 ∨ (e = a2 + 1 ∧ c a2 = 33) ∨ (e = a2 + 1 + nd c (a2 + 1) ∧ c a2 = 61)) := by
    rcases h7 with h7 | h7 | h7
    · exact Or.inr (Or.inr ⟨h7.2.2.2.2, h7.1⟩)
    · exact Or.inr (Or.inl ⟨h7.2.2, h7.1⟩)
    · exact Or.inl h7.2.2.2
  unfold fd1 at ha2
  refine ⟨by omega, fun x hx => ?_⟩
  have d1 : ∀ i, i < nd c (a + 1) → 48 ≤ c (a + 1 + i) ∧ c (a + 1 + i) ≤ 57 := nd_dg 6 (a + 1)
  have d2 : ∀ i, i < nd c (a2 + 1) → 48 ≤ c (a2 + 1 + i) ∧ c (a2 + 1 + i) ≤ 57 := nd_dg 6 (a2 + 1)
  by_cases x0 : x = 0
  · subst x0; rw [Nat.add_zero]; omega
  · by_cases x1 : x ≤ nd c (a + 1)
    · have := d1 (x - 1) (by omega)
      rw [show a + 1 + (x - 1) = a + x by omega] at this; omega
    · by_cases x2 : a + x = a2
      · rw [x2]; omega
      · by_cases x3 : a + x < a2
        · have : a + x = a + 1 + nd c (a + 1) := by omega
          rw [this]; omega
        · have := d2 (a + x - (a2 + 1)) (by omega)
          rw [show a2 + 1 + (a + x - (a2 + 1)) = a + x by omega] at this; omega
theorem HD_lt {c : Nat → Int} {Y : Nat → Nat → Int} {f a b : Nat} (h : HD c Y f a b) : a + 3 ≤ b := by
  rcases h with h | h
  · omega
  · have := h.2.2.2.2.2.2.2; omega
theorem IT_ab {c : Nat → Int} {Y : Nat → Nat → Int} : ∀ {q z f t a b : Nat}, IT c Y q z f t a b → a ≤ b := by
  intro q
  induction q with
  | zero => intro z f t a b h; exact Nat.le_of_eq h.2
  | succ q ih =>
    intro z f t a b h
    rcases h with h | ⟨hf, e, h⟩
    · exact Nat.le_of_eq h.2
    · rcases h with ⟨h1, h2⟩ | ⟨h1, h2, h3⟩ | ⟨b1, e1, g, h1, ⟨h0, h2⟩, h3, h4, h5, h6, h7, h8⟩
      · have := (FI_np h1).1; have := ih h2; omega
      · have := ih h3; omega
      · have := HD_lt h1; have := ih h2; have := ih h8; omega
theorem LQ_it {c : Nat → Int} {Y : Nat → Nat → Int} : ∀ {q z f t a b : Nat}, IT c Y q z f t a b → ∀ {dp n e : Nat}, 0 < dp → b ≤ 80 → LQ c n dp b e → ∃ n', LQ c n' dp a e := by
  intro q
  induction q with
  | zero => intro z f t a b h dp n e hd hb k; obtain ⟨_, rfl⟩ := h; exact ⟨n, k⟩
  | succ q ih =>
    intro z f t a b h dp n e hd hb k
    rcases h with ⟨_, rfl⟩ | ⟨hf, x, h⟩
    · exact ⟨n, k⟩
    · rcases h with ⟨h1, h2⟩ | ⟨h1, h2, h3⟩ | ⟨b1, e1, g, h1, ⟨h0, h2⟩, h3, h4, h5, h6, h7, h8⟩
      · obtain ⟨n1, k1⟩ := ih h2 hd hb k
        have hn := FI_np h1
        have hx := IT_ab h2
        have := LQ_n (c := c) (dp := dp) (e := e) hd (i := x - a) (n := n1) (a := a) (fun y hy => hn.2 y (by omega)) (by omega) (by rw [show a + (x - a) = x by omega]; exact k1)
        exact ⟨_, this⟩
      · obtain ⟨n1, k1⟩ := ih h3 hd hb k
        have hx := IT_ab h3
        subst h2
        obtain ⟨c1, c2, c3⟩ := h1
        have c4 : c (a + 1) ≠ 40 ∧ c (a + 1) ≠ 41 := by
          rcases c3 with c3 | c3
          · have := c3.1; omega
          · have := c3.2.1; omega
        exact ⟨_, LQ_s hd (by omega) (by omega) (LQ_s hd (by omega) c4 k1)⟩
      · obtain ⟨n1, k1⟩ := ih h8 hd hb k
        have hx := IT_ab h8
        have hy := IT_ab h2
        have hz := HD_lt h1
        subst h4
        have k2 : LQ c (n1 + 1) (dp + 1) e1 e := by
          refine ⟨by omega, by omega, ?_⟩
          rw [if_neg (by omega), if_pos h3]; exact k1
        obtain ⟨n3, k3⟩ := ih h2 (dp := dp + 1) (by omega) (by omega) k2
        rcases h1 with ⟨c1, _, c3, c4, rfl⟩ | ⟨c1, c2, _, c3, c5, _, c4, rfl⟩
        · have c6 : c (a + 1) ≠ 40 ∧ c (a + 1) ≠ 41 := by
            rcases c3 with c3 | c3
            · have := c3.1; omega
            · have := c3.2.1; omega
          refine ⟨_, LQ_s hd (by omega) (by omega) (LQ_s hd (by omega) c6 (?_ : LQ c (n3 + 1) dp (a + 1 + 1) e))⟩
          refine ⟨hd, by omega, ?_⟩
          rw [if_pos c4]; exact k3
        · have d1 : ∀ i, i < nd c (a + 3) → 48 ≤ c (a + 3 + i) ∧ c (a + 3 + i) ≤ 57 := nd_dg 6 (a + 3)
          have k4 : LQ c (n3 + 1) dp (a + 3 + nd c (a + 3)) e := by
            refine ⟨hd, by omega, ?_⟩
            rw [if_pos c4]; exact k3
          have := LQ_n (c := c) (dp := dp) (e := e) hd (i := nd c (a + 3)) (n := n3 + 1) (a := a + 3) (fun y hy => by have := d1 y hy; omega) (by omega) k4
          exact ⟨_, LQ_s hd (by omega) (by omega) (LQ_s hd (by omega) (by omega) (LQ_s hd (by omega) (show c (a + 2) ≠ 40 ∧ c (a + 2) ≠ 41 by omega) this))⟩
