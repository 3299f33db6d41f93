/-! how a logical heap lies in a real one -/
def jm_fs (B b : Nat) (g : jm_H) (a c : Nat) : List Value := (List.range (jm_nf c)).map (fun k => jm_rz B b (jm_gv g a c k))
def jm_cell (B b : Nat) (tc : Nat → ClassId) (g : jm_H) (a : Nat) : va_E :=
  if (jm_SH a).1 < 20 then .inr ((jm_SH a).1, jm_fs B b g a (jm_SH a).1)
  else if (jm_SH a).1 = 21 then .inl (tc 21, (jm_SH a).2, .inr (.inl (jm_l g a)))
  else if (jm_SH a).1 < 30 then .inl (tc (jm_SH a).1, (jm_SH a).2, .inl (jm_i g a))
  else .inl (tc (jm_SH a).1, (jm_SH a).2, .inr (.inr (.inr (.inr (fun k => (jm_r g a k).map (jm_ad B b))))))
def jm_ws (B b : Nat) (tc : Nat → ClassId) (g : jm_H) : va_W := (List.range (jm_n g)).map (fun a => (B + a, jm_cell B b tc g a))
def jm_A (B : Nat) : Nat → Prop := fun q => B ≤ q
theorem jm_ws_at {B b : Nat} {tc : Nat → ClassId} {g : jm_H} {a : Nat} (h : a < jm_n g) : (jm_ws B b tc g)[a]? = some (B + a, jm_cell B b tc g a) := by
  simp [jm_ws, h]
theorem jm_ws_of {B b : Nat} {tc : Nat → ClassId} {g : jm_H} {k : Nat} {q : Nat × va_E} (h : (jm_ws B b tc g)[k]? = some q) : k < jm_n g ∧ q = (B + k, jm_cell B b tc g k) := by
  have hk : k < (jm_ws B b tc g).length := (List.getElem?_eq_some_iff.mp h).1
  have hk' : k < jm_n g := by simpa [jm_ws] using hk
  rw [jm_ws_at hk'] at h
  exact ⟨hk', (Option.some.inj h).symm⟩
theorem jm_ws_D (B b : Nat) (tc : Nat → ClassId) (g : jm_H) : va_D (jm_A B) (jm_ws B b tc g) := by
  refine ⟨fun i j p q hi hj hpq => ?_, fun k q hk => ?_⟩
  · obtain ⟨-, rfl⟩ := jm_ws_of hi
    obtain ⟨-, rfl⟩ := jm_ws_of hj
    exact Nat.add_left_cancel hpq
  · obtain ⟨-, rfl⟩ := jm_ws_of hk
    exact Nat.le_add_right _ _
theorem jm_ws_set {B b : Nat} {tc : Nat → ClassId} {g g' : jm_H} {a : Nat} (ha : a < jm_n g) (hn : jm_n g' = jm_n g) (ho : ∀ k, k ≠ a → jm_cell B b tc g' k = jm_cell B b tc g k) {x : va_E} (hx : x = jm_cell B b tc g' a) :
    (jm_ws B b tc g).set a (B + a, x) = jm_ws B b tc g' := by
  subst hx
  apply List.ext_getElem?
  intro k
  by_cases hk : k < jm_n g
  · rw [jm_ws_at (g := g') (by rw [hn]; exact hk)]
    by_cases hka : k = a
    · subst hka
      rw [List.getElem?_set_self (by simpa [jm_ws] using hk)]
    · rw [List.getElem?_set_ne (Ne.symm hka), jm_ws_at hk, ho k hka]
  · rw [List.getElem?_eq_none (by simp [jm_ws]; omega), List.getElem?_eq_none (by simp [jm_ws, hn]; omega)]
theorem jm_ws_push {B b : Nat} {tc : Nat → ClassId} {g g' : jm_H} (hn : jm_n g' = jm_n g + 1) (ho : ∀ k, k < jm_n g → jm_cell B b tc g' k = jm_cell B b tc g k) :
    jm_ws B b tc g' = jm_ws B b tc g ++ [(B + jm_n g, jm_cell B b tc g' (jm_n g))] := by
  unfold jm_ws
  rw [hn, List.range_succ, List.map_append]
  congr 1
  apply List.map_congr_left
  intro k hk
  rw [ho k (List.mem_range.mp hk)]
theorem jm_rz_rv (B b : Nat) (r : Option Nat) : jm_rz B b (jm_rv r) = va_rf (r.map (jm_ad B b)) := by cases r <;> rfl
theorem jm_u_ne {α : Type} {f : Nat → Nat → α} {a k x : Nat} {v : α} (h : x ≠ a) : jm_u f a k v x = f x := by
  funext j; simp [jm_u, h]
theorem jm_ua_ne {α : Type} {f : Nat → Nat → α} {a x : Nat} {v : Nat → α} (h : x ≠ a) : jm_ua f a v x = f x := by
  funext j; simp [jm_ua, h]
theorem jm_cell_si {B b : Nat} {tc : Nat → ClassId} {g : jm_H} {a k x : Nat} {v : Int32} (h : x ≠ a) : jm_cell B b tc (jm_si g a k v) x = jm_cell B b tc g x := by
  have e1 : jm_i (jm_si g a k v) x = jm_i g x := jm_u_ne h
  have e2 : jm_l (jm_si g a k v) x = jm_l g x := rfl
  have e3 : jm_r (jm_si g a k v) x = jm_r g x := rfl
  unfold jm_cell jm_fs jm_gv
  simp only [e1, e2, e3]
theorem jm_cell_sl {B b : Nat} {tc : Nat → ClassId} {g : jm_H} {a k x : Nat} {v : Int64} (h : x ≠ a) : jm_cell B b tc (jm_sl g a k v) x = jm_cell B b tc g x := by
  have e1 : jm_i (jm_sl g a k v) x = jm_i g x := rfl
  have e2 : jm_l (jm_sl g a k v) x = jm_l g x := jm_u_ne h
  have e3 : jm_r (jm_sl g a k v) x = jm_r g x := rfl
  unfold jm_cell jm_fs jm_gv
  simp only [e1, e2, e3]
theorem jm_cell_sr {B b : Nat} {tc : Nat → ClassId} {g : jm_H} {a k x : Nat} {v : Option Nat} (h : x ≠ a) : jm_cell B b tc (jm_sr g a k v) x = jm_cell B b tc g x := by
  have e1 : jm_i (jm_sr g a k v) x = jm_i g x := rfl
  have e2 : jm_l (jm_sr g a k v) x = jm_l g x := rfl
  have e3 : jm_r (jm_sr g a k v) x = jm_r g x := jm_u_ne h
  unfold jm_cell jm_fs jm_gv
  simp only [e1, e2, e3]
theorem jm_cell_sa {B b : Nat} {tc : Nat → ClassId} {g : jm_H} {a x : Nat} {v : Nat → Int32} (h : x ≠ a) : jm_cell B b tc (jm_sa g a v) x = jm_cell B b tc g x := by
  have e1 : jm_i (jm_sa g a v) x = jm_i g x := jm_ua_ne h
  have e2 : jm_l (jm_sa g a v) x = jm_l g x := rfl
  have e3 : jm_r (jm_sa g a v) x = jm_r g x := rfl
  unfold jm_cell jm_fs jm_gv
  simp only [e1, e2, e3]
theorem jm_cell_new {B b : Nat} {tc : Nat → ClassId} {g : jm_H} {x : Nat} (h : x < jm_n g) : jm_cell B b tc (jm_new g) x = jm_cell B b tc g x := by
  have h' : x ≠ g.1 := Nat.ne_of_lt h
  have e1 : jm_i (jm_new g) x = jm_i g x := jm_ua_ne h'
  have e2 : jm_l (jm_new g) x = jm_l g x := jm_ua_ne h'
  have e3 : jm_r (jm_new g) x = jm_r g x := jm_ua_ne h'
  unfold jm_cell jm_fs jm_gv
  simp only [e1, e2, e3]
/-- the heap holds g from address B on -/
def jm_R (B b : Nat) (D : va_G) (tc : Nat → ClassId) (g : jm_H) (H : Heap) : Prop := va_P D jm_classes (jm_ws B b tc g) H
/-- the locals -/
def jm_loc (B b : Nat) (ls : Array Slot) (nL : Nat) (f : jm_F) : Prop := ls.size = nL ∧ lv_wf ls ∧ ∀ (i : Nat) (v : Value), f i = some v → ls[i]? = some (.val (jm_rz B b v))
def jm_asc (B b nL : Nat) (f : jm_F) : List (Nat × Value) := (List.range nL).filterMap (fun i => (f i).map (fun v => (i, jm_rz B b v)))
theorem jm_loc.has {B b nL : Nat} {ls : Array Slot} {f : jm_F} (h : jm_loc B b ls nL f) : lv_has ls nL (jm_asc B b nL f) := by
  refine ⟨h.1, h.2.1, fun q hq => ?_⟩
  obtain ⟨i, -, hi⟩ := List.mem_filterMap.mp hq
  cases hf : f i with
  | none => rw [hf] at hi; cases hi
  | some v =>
    rw [hf] at hi
    cases hi
    exact h.2.2 i v hf
theorem jm_loc.mem {B b nL : Nat} {ls : Array Slot} {f : jm_F} (h : jm_loc B b ls nL f) {i : Nat} {v : Value} (hf : f i = some v) : (i, jm_rz B b v) ∈ jm_asc B b nL f := by
  have hi : i < nL := by rw [← h.1]; exact lv_lt (h.2.2 i v hf)
  exact List.mem_filterMap.mpr ⟨i, List.mem_range.mpr hi, by rw [hf]; rfl⟩
theorem jm_rz_cat (B b : Nat) (v : Value) : (jm_rz B b v).category = v.category := by cases v <;> rfl
theorem jm_lng_cat {v : Value} (h : jm_lng (some v) = false) : v.category ≠ 2 := by
  cases v <;> simp [jm_lng, Value.category] at h ⊢
theorem jm_nolong {f : jm_F} {i j : Nat} {w : Value} (hno : ¬ (i ≠ 0 ∧ jm_lng (f (i - 1)) = true)) (hj : j + 1 = i) (hw : f j = some w) : w.category ≠ 2 := by
  apply jm_lng_cat
  have h1 : i - 1 = j := by omega
  rw [h1, hw] at hno
  cases hz : jm_lng (some w) with
  | false => rfl
  | true => exact absurd ⟨by omega, hz⟩ hno
theorem jm_loc.st1 {B b nL : Nat} {ls ls' : Array Slot} {f : jm_F} {i : Nat} {v : Value} (h : jm_loc B b ls nL f) (hno : ¬ (i ≠ 0 ∧ jm_lng (f (i - 1)) = true))
    (h' : lv_has ls' nL ((i, jm_rz B b v) :: (jm_asc B b nL f).filter (fun q => !(q.1 == i) && !(q.1 + 1 == i && q.2.category == 2)))) : jm_loc B b ls' nL (jm_upd f i (some v)) := by
  refine ⟨h'.1, h'.2.1, fun j w hj => ?_⟩
  by_cases hji : j = i
  · subst hji
    simp only [jm_upd, if_true] at hj
    cases hj
    exact h'.2.2 (j, jm_rz B b v) List.mem_cons_self
  · simp only [jm_upd, if_neg hji] at hj
    refine h'.2.2 (j, jm_rz B b w) (List.mem_cons_of_mem _ (List.mem_filter.mpr ⟨h.mem hj, ?_⟩))
    by_cases h1 : j + 1 = i
    · have := jm_nolong hno h1 hj
      simp [hji, jm_rz_cat, this]
    · simp [hji, h1]
theorem jm_loc.st2 {B b nL : Nat} {ls ls' : Array Slot} {f : jm_F} {i : Nat} {v : Value} (h : jm_loc B b ls nL f) (hno : ¬ (i ≠ 0 ∧ jm_lng (f (i - 1)) = true))
    (h' : lv_has ls' nL ((i, jm_rz B b v) :: (jm_asc B b nL f).filter (fun q => !(q.1 == i) && (!(q.1 == i + 1) && !(q.1 + 1 == i && q.2.category == 2))))) : jm_loc B b ls' nL (jm_upd (jm_upd f (i + 1) none) i (some v)) := by
  refine ⟨h'.1, h'.2.1, fun j w hj => ?_⟩
  by_cases hji : j = i
  · subst hji
    simp only [jm_upd, if_true] at hj
    cases hj
    exact h'.2.2 (j, jm_rz B b v) List.mem_cons_self
  · simp only [jm_upd, if_neg hji] at hj
    by_cases h2 : j = i + 1
    · rw [if_pos h2] at hj; cases hj
    · rw [if_neg h2] at hj
      refine h'.2.2 (j, jm_rz B b w) (List.mem_cons_of_mem _ (List.mem_filter.mpr ⟨h.mem hj, ?_⟩))
      by_cases h1 : j + 1 = i
      · have := jm_nolong hno h1 hj
        simp [hji, h2, jm_rz_cat, this]
      · simp [hji, h1, h2]
theorem jm_loc.kill {B b nL : Nat} {ls : Array Slot} {f : jm_F} (h : jm_loc B b ls nL f) (i : Nat) : jm_loc B b ls nL (jm_upd f i none) := by
  refine ⟨h.1, h.2.1, fun j w hj => h.2.2 j w ?_⟩
  by_cases hji : j = i
  · simp [jm_upd, hji] at hj
  · simpa [jm_upd, hji] using hj
