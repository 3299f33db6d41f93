/-! printed by wip/whole/gen/c2.py: a layer that is being read -/
def LB (I : Nat → Nat → Int32) (T : Nat) (Y : Nat → Nat → Int) (m : Nat) : Prop := I T 6 = iI (m : Int) ∧ m ≤ 40 ∧ (∀ k, k < m → I (T + 1) k = iI (Y 0 k) ∧ I (T + 2) k = iI (Y 1 k) ∧ I (T + 3) k = iI (Y 2 k) ∧ I (T + 4) k = iI (Y 3 k)) ∧ (∀ k, k < 8 → I (T + 5) k = iI (Y 4 k) ∧ I (T + 6) k = iI (Y 5 k) ∧ 0 ≤ Y 4 k ∧ Y 4 k ≤ 32)
def wT (T l k : Nat) : Prop := T ≤ l ∧ l ≤ T + 6 ∧ ¬ (l = T ∧ k = 7)
def wL (T l k : Nat) : Prop := (T ≤ l ∧ l ≤ T + 6 ∧ ¬ (l = T ∧ k = 7)) ∨ (l = 11 ∧ (k = 1 ∨ k = 2))
def wC (T l k : Nat) : Prop := (T ≤ l ∧ l ≤ T + 6) ∨ (l = 11 ∧ (k = 1 ∨ k = 2))
theorem wL_C (T l k : Nat) (h : wL T l k) : wC T l k := by unfold wL at h; unfold wC; omega
theorem wT_L (T l k : Nat) (h : wT T l k) : wL T l k := Or.inl h
theorem LB_fr {W : Nat → Nat → Prop} {I I' : Nat → Nat → Int32} {T : Nat} {Y : Nat → Nat → Int} {m : Nat} (h : LB I T Y m) (f : fr W I I') (hw : ∀ l k, T ≤ l → l ≤ T + 6 → ¬ W l k) : LB I' T Y m :=
  ⟨(f _ _ (hw _ _ (by omega) (by omega))).trans h.1, h.2.1, fun k hk => by
    obtain ⟨a, b, c, d⟩ := h.2.2.1 k hk
    exact ⟨(f _ _ (hw _ _ (by omega) (by omega))).trans a, (f _ _ (hw _ _ (by omega) (by omega))).trans b, (f _ _ (hw _ _ (by omega) (by omega))).trans c, (f _ _ (hw _ _ (by omega) (by omega))).trans d⟩, fun k hk => by
    obtain ⟨a, b, c⟩ := h.2.2.2 k hk
    exact ⟨(f _ _ (hw _ _ (by omega) (by omega))).trans a, (f _ _ (hw _ _ (by omega) (by omega))).trans b, c⟩⟩
theorem LB_add {I : Nat → Nat → Int32} {T : Nat} {Y : Nat → Nat → Int} {m : Nat} {kd nm nu : Int} (h : LB I T Y m) (hm : m < 40) : LB (jm_u (jm_u (jm_u (jm_u (jm_u I (T + 1) m (iI kd)) (T + 2) m (iI nm)) (T + 3) m (iI nu)) (T + 4) m (iI 0)) T 6 (iI ((m + 1 : Nat) : Int))) T (Yad Y m kd nm nu) (m + 1) := by
  refine ⟨jm_u_eq ⟨rfl, rfl⟩, hm, fun k hk => ?_, fun k hk => ?_⟩
  · by_cases e : k = m
    · subst e
      refine ⟨?_, ?_, ?_, ?_⟩
      · rw [jm_u_n2 (by omega), jm_u_n2 (by omega), jm_u_n2 (by omega), jm_u_n2 (by omega), jm_u_eq ⟨rfl, rfl⟩]; simp [Yad]
      · rw [jm_u_n2 (by omega), jm_u_n2 (by omega), jm_u_n2 (by omega), jm_u_eq ⟨rfl, rfl⟩]; simp [Yad]
      · rw [jm_u_n2 (by omega), jm_u_n2 (by omega), jm_u_eq ⟨rfl, rfl⟩]; simp [Yad]
      · rw [jm_u_n2 (by omega), jm_u_eq ⟨rfl, rfl⟩]; simp [Yad]
    · obtain ⟨a, b, c, d⟩ := h.2.2.1 k (by omega)
      refine ⟨?_, ?_, ?_, ?_⟩ <;> rw [jm_u_n2 (by omega), jm_u_n2 (by omega), jm_u_n2 (by omega), jm_u_n2 (by omega), jm_u_n2 (by omega)] <;> simp [Yad, e, a, b, c, d]
  · obtain ⟨a, b, c, d⟩ := h.2.2.2 k hk
    refine ⟨?_, ?_, ?_, ?_⟩
    · rw [jm_u_n2 (by omega), jm_u_n2 (by omega), jm_u_n2 (by omega), jm_u_n2 (by omega), jm_u_n2 (by omega)]; simp [Yad, a]
    · rw [jm_u_n2 (by omega), jm_u_n2 (by omega), jm_u_n2 (by omega), jm_u_n2 (by omega), jm_u_n2 (by omega)]; simp [Yad, b]
    · simpa [Yad] using c
    · simpa [Yad] using d
theorem LB_wd {I : Nat → Nat → Int32} {T : Nat} {Y : Nat → Nat → Int} {m : Nat} {w s : Int} {i : Nat} (h : LB I T Y m) (hi : i < 8) (hw : 0 ≤ w ∧ w ≤ 32) {I' : Nat → Nat → Int32} (hI : ∀ l k, T ≤ l → l ≤ T + 6 → I' l k = jm_u (jm_u I (T + 5) i (iI w)) (T + 6) i (iI s) l k) : LB I' T (Ywd Y i w s) m := by
  refine ⟨?_, h.2.1, fun k hk => ?_, fun k hk => ?_⟩
  · rw [hI _ _ (by omega) (by omega), jm_u_n2 (by omega), jm_u_n2 (by omega)]; exact h.1
  · obtain ⟨a, b, c, d⟩ := h.2.2.1 k hk
    refine ⟨?_, ?_, ?_, ?_⟩ <;> rw [hI _ _ (by omega) (by omega), jm_u_n2 (by omega), jm_u_n2 (by omega)] <;> simp [Ywd, a, b, c, d]
  · obtain ⟨a, b, c, d⟩ := h.2.2.2 k hk
    by_cases e : k = i
    · subst e
      refine ⟨?_, ?_, ?_, ?_⟩
      · rw [hI _ _ (by omega) (by omega), jm_u_n2 (by omega), jm_u_eq ⟨rfl, rfl⟩]; simp [Ywd]
      · rw [hI _ _ (by omega) (by omega), jm_u_eq ⟨rfl, rfl⟩]; simp [Ywd]
      · simpa [Ywd] using hw.1
      · simpa [Ywd] using hw.2
    · refine ⟨?_, ?_, ?_, ?_⟩
      · rw [hI _ _ (by omega) (by omega), jm_u_n2 (by omega), jm_u_n2 (by omega)]; simp [Ywd, e, a]
      · rw [hI _ _ (by omega) (by omega), jm_u_n2 (by omega), jm_u_n2 (by omega)]; simp [Ywd, e, b]
      · simpa [Ywd, e] using c
      · simpa [Ywd, e] using d
theorem LB_ch {I : Nat → Nat → Int32} {T : Nat} {Y : Nat → Nat → Int} {m : Nat} {v : Int32} (h : LB I T Y m) : LB (jm_u I T 7 v) T Y m :=
  ⟨(jm_u_n2 (by omega)).trans h.1, h.2.1, fun k hk => by
    obtain ⟨a, b, c, d⟩ := h.2.2.1 k hk
    exact ⟨(jm_u_n2 (by omega)).trans a, (jm_u_n2 (by omega)).trans b, (jm_u_n2 (by omega)).trans c, (jm_u_n2 (by omega)).trans d⟩, fun k hk => by
    obtain ⟨a, b, c⟩ := h.2.2.2 k hk
    exact ⟨(jm_u_n2 (by omega)).trans a, (jm_u_n2 (by omega)).trans b, c⟩⟩
theorem LB_in {I : Nat → Nat → Int32} {T : Nat} {Y : Nat → Nat → Int} {m i : Nat} {v : Int} (h : LB I T Y m) : LB (jm_u I (T + 4) i (iI v)) T (Yin Y i v) m := by
  refine ⟨?_, h.2.1, fun k hk => ?_, fun k hk => ?_⟩
  · rw [jm_u_n2 (by omega)]; exact h.1
  · obtain ⟨a, b, c, d⟩ := h.2.2.1 k hk
    refine ⟨?_, ?_, ?_, ?_⟩
    · rw [jm_u_n2 (by omega)]; simp [Yin, a]
    · rw [jm_u_n2 (by omega)]; simp [Yin, b]
    · rw [jm_u_n2 (by omega)]; simp [Yin, c]
    · by_cases e : k = i
      · subst e; rw [jm_u_eq ⟨rfl, rfl⟩]; simp [Yin]
      · rw [jm_u_n2 (by omega)]; simp [Yin, e, d]
  · obtain ⟨a, b, c, d⟩ := h.2.2.2 k hk
    refine ⟨?_, ?_, ?_, ?_⟩
    · rw [jm_u_n2 (by omega)]; simp [Yin, a]
    · rw [jm_u_n2 (by omega)]; simp [Yin, b]
    · simpa [Yin] using c
    · simpa [Yin] using d
theorem CT_or {I : Nat → Nat → Int32} {t : Nat} {c : Nat → Int} {n : Nat} (h : CT I t c n) (a : Nat) : c a = -1 ∨ a < n := by
  by_cases e : a < n
  · exact Or.inr e
  · exact Or.inl (h.2.2.2.2 a (by omega))
/-- the condition of an option, read behind its question mark at a -/
def cdO (c : Nat → Int) (F a : Nat) : Prop := knw c F (a + 1) ∧ (c (a + 2) = 61 ∨ c (a + 2) = 60) ∧ 0 < nd c (a + 3)
theorem fd_pos {c : Nat → Int} {a : Nat} (h : fdV c a) : 0 < nd c (a + 1) ∧ 1 ≤ nv c (a + 1) ∧ nv c (a + 1) ≤ 32 := by
  by_cases e : 0 < nd c (a + 1)
  · unfold fdV at h; rw [fd_W e] at h; exact ⟨e, h⟩
  · exact absurd h (fd_V0 e)
theorem fd2_le (c : Nat → Int) (a : Nat) : a + 1 + nd c (a + 1) ≤ fd2 c a ∧ fd2 c a ≤ a + 1 + nd c (a + 1) + 1 := by
  by_cases e : fdT c a
  · have : fd2 c a = fd1 c a + 1 := if_pos e
    unfold fd1 at this; omega
  · have : fd2 c a = fd1 c a := if_neg e
    unfold fd1 at this; omega
theorem fd2_in {I : Nat → Nat → Int32} {t : Nat} {c : Nat → Int} {n a : Nat} (h : CT I t c n) (ha : a + 1 ≤ n) : fd2 c a ≤ n := by
  have h3 := CT_nd h 6 (a + 1) ha
  have h4 : nd c (a + 1) = ndk c 6 (a + 1) := rfl
  by_cases e : fdT c a
  · have : fd2 c a = fd1 c a + 1 := if_pos e
    have h5 := CT_lt h (a := fd1 c a) (by rw [e.2]; decide)
    omega
  · have : fd2 c a = fd1 c a := if_neg e
    unfold fd1 at this; omega
theorem fd_sw {c : Nat → Int} {a : Nat} {s : Int} {Y : Nat → Nat → Int} (h : (s = 1 ∧ c (a + 1 + nd c (a + 1)) = 60 ∧ (nv c (a + 1) = 16 ∨ nv c (a + 1) = 24 ∨ nv c (a + 1) = 32)) ∨ (s = 0 ∧ ¬ ((nv c (a + 1) = 16 ∨ nv c (a + 1) = 24 ∨ nv c (a + 1) = 32) ∧ c (a + 1 + nd c (a + 1)) = 60))) (hn : 0 < nd c (a + 1)) (hs : Y 5 (c a - 97).toNat = s) (hq : c (fd2 c a) = 60 → False) : ((c (fd1 c a) = 60 ∧ fd2 c a = fd1 c a + 1 ∧ Y 5 (c a - 97).toNat = 1 ∧ (nv c (a + 1) = 16 ∨ nv c (a + 1) = 24 ∨ nv c (a + 1) = 32)) ∨ (c (fd1 c a) ≠ 60 ∧ fd2 c a = fd1 c a ∧ Y 5 (c a - 97).toNat = 0)) := by
  rcases h with ⟨rfl, h1, h2⟩ | ⟨rfl, h1⟩
  · exact Or.inl ⟨h1, fd2_y hn h2 h1, hs, h2⟩
  · have e := fd2_n hn h1
    exact Or.inr ⟨fun q => hq (by rw [e]; exact q), e, hs⟩
/-- names: those that stand at an item have a width; a field's name stands at no item before -/
def UQ (Y : Nat → Nat → Int) (m : Nat) : Prop := (∀ k, k < m → Y 1 k = -1 ∨ (0 ≤ Y 1 k ∧ Y 1 k < 8 ∧ 0 < Y 4 (Y 1 k).toNat)) ∧ (∀ k k', k < k' → k' < m → Y 0 k' ≤ 2 → Y 1 k' ≠ Y 1 k) ∧ (∀ k, k < m → Y 0 k ≤ 3 → Y 3 k = 0)
theorem UQ_ad {Y : Nat → Nat → Int} {m : Nat} {kd nm nu : Int} (hk : ¬ kd ≤ 2) (hn : nm = -1 ∨ (0 ≤ nm ∧ nm < 8 ∧ 0 < Y 4 nm.toNat)) (h : UQ Y m) : UQ (Yad Y m kd nm nu) (m + 1) := by
  have e4 : ∀ i, Yad Y m kd nm nu 4 i = Y 4 i := fun i => if_neg (by omega)
  refine ⟨fun k hk1 => ?_, fun k k' h1 h2 h3 => ?_, fun k h1 h2 => ?_⟩
  · by_cases e : k = m
    · subst e
      have e1 : Yad Y k kd nm nu 1 k = nm := by simp [Yad]
      rw [e1, e4]; exact hn
    · have e1 : Yad Y m kd nm nu 1 k = Y 1 k := if_neg (by omega)
      rw [e1, e4]; exact h.1 k (by omega)
  · by_cases e : k' = m
    · subst e
      exact absurd h3 (by simpa [Yad] using hk)
    · have e1 : Yad Y m kd nm nu 1 k = Y 1 k := if_neg (by omega)
      have e2 : Yad Y m kd nm nu 1 k' = Y 1 k' := if_neg (by omega)
      have e3 : Yad Y m kd nm nu 0 k' = Y 0 k' := if_neg (by omega)
      rw [e1, e2]; rw [e3] at h3
      exact h.2.1 k k' h1 (by omega) h3
  · by_cases e : k = m
    · subst e; simp [Yad]
    · have e0 : Yad Y m kd nm nu 0 k = Y 0 k := if_neg (by omega)
      have e3 : Yad Y m kd nm nu 3 k = Y 3 k := if_neg (by omega)
      rw [e0] at h2; rw [e3]; exact h.2.2 k (by omega) h2
theorem UQ_fd {Y : Nat → Nat → Int} {m : Nat} {kd nm nu w s : Int} (hw : ¬ 0 < Y 4 nm.toNat) (hn : 0 ≤ nm ∧ nm < 8) (hw2 : 0 < w) (h : UQ Y m) : UQ (Yad (Ywd Y nm.toNat w s) m kd nm nu) (m + 1) := by
  have e4 : ∀ i, Yad (Ywd Y nm.toNat w s) m kd nm nu 4 i = if i = nm.toNat then w else Y 4 i := fun i => by simp [Yad, Ywd]
  have e1 : ∀ k, Yad (Ywd Y nm.toNat w s) m kd nm nu 1 k = if k = m then nm else Y 1 k := fun k => by simp [Yad, Ywd]
  have e0 : ∀ k, Yad (Ywd Y nm.toNat w s) m kd nm nu 0 k = if k = m then kd else Y 0 k := fun k => by simp [Yad, Ywd]
  have e3 : ∀ k, Yad (Ywd Y nm.toNat w s) m kd nm nu 3 k = if k = m then 0 else Y 3 k := fun k => by simp [Yad, Ywd]
  refine ⟨fun k hk1 => ?_, fun k k' h1 h2 h3 => ?_, fun k h1 h2 => ?_⟩
  · rw [e1, e4]
    by_cases e : k = m
    · rw [if_pos e]; refine Or.inr ⟨hn.1, hn.2, ?_⟩; rw [if_pos rfl]; exact hw2
    · rw [if_neg e]
      rcases h.1 k (by omega) with q | q
      · exact Or.inl q
      · refine Or.inr ⟨q.1, q.2.1, ?_⟩
        split
        · exact hw2
        · exact q.2.2
  · rw [e1, e1]; rw [e0] at h3
    rw [if_neg (show ¬ k = m by omega)]
    by_cases e : k' = m
    · rw [if_pos e]
      intro q
      rcases h.1 k (by omega) with z | z
      · omega
      · exact hw (by rw [q]; exact z.2.2)
    · rw [if_neg e]; rw [if_neg e] at h3
      exact h.2.1 k k' h1 (by omega) h3
  · rw [e3]; rw [e0] at h2
    by_cases e : k = m
    · rw [if_pos e]
    · rw [if_neg e]; rw [if_neg e] at h2
      exact h.2.2 k (by omega) h2
theorem UQ_in {Y : Nat → Nat → Int} {m i : Nat} {v : Int} (hi : ¬ Y 0 i ≤ 3) (h : UQ Y m) : UQ (Yin Y i v) m := by
  have e : ∀ r k, r ≠ 3 → Yin Y i v r k = Y r k := fun r k hr => if_neg (by omega)
  refine ⟨fun k hk => ?_, fun k k' h1 h2 h3 => ?_, fun k h1 h2 => ?_⟩
  · rw [e 1 _ (by omega), e 4 _ (by omega)]; exact h.1 k hk
  · rw [e 0 _ (by omega)] at h3; rw [e 1 _ (by omega), e 1 _ (by omega)]; exact h.2.1 k k' h1 h2 h3
  · rw [e 0 _ (by omega)] at h2
    by_cases ek : k = i
    · subst ek; exact absurd h2 hi
    · have e3 : Yin Y i v 3 k = Y 3 k := if_neg (by omega)
      rw [e3]; exact h.2.2 k h1 h2
section C2N
variable {L : Nat} {xs : Nat → Int32} {d j : Nat} {I : Nat → Nat → Int32} {M : Nat → Nat → Int64} {p : Nat → Option Nat} {c : Nat → Int} {n a : Nat}
theorem cl_takeNumber_ky (hC : CT I 1 c n) (ha : I 11 1 = iI ((a : Nat) : Int)) (hp : p 19 = some 1) (hb : a ≤ 80) (han : a ≤ n) (h : 0 < nd c a) : jc L xs d 55 [.ref 11] (jx_G j I M p) (fun v g1 => v = some (.int (iI 1)) ∧ g1 = jx_G j (jm_u (jm_u I 11 2 (iI (nv c a))) 11 1 (iI ((a + nd c a : Nat) : Int))) M p) :=
  jc_mono (cl_takeNumber_k hC ha hp hb han) (fun v g1 q => by rw [jb_t h] at q; exact q)
theorem cl_takeNumber_kn (hC : CT I 1 c n) (ha : I 11 1 = iI ((a : Nat) : Int)) (hp : p 19 = some 1) (hb : a ≤ 80) (han : a ≤ n) (h : ¬ 0 < nd c a) : jc L xs d 55 [.ref 11] (jx_G j I M p) (fun v g1 => v = some (.int (iI 0)) ∧ g1 = jx_G j (jm_u (jm_u I 11 2 (iI 0)) 11 1 (iI ((a : Nat) : Int))) M p) :=
  jc_mono (cl_takeNumber_k hC ha hp hb han) (fun v g1 q => by
    rw [jb_f h] at q
    have e : nd c a = 0 := by omega
    have e2 : nv c a = 0 := by unfold nv; rw [e]; rfl
    rw [e2, e] at q
    exact q)
end C2N
