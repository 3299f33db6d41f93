/-! ends of methods, and how they begin -/
def jm_Qc (B b : Nat) (D : va_G) (tc : Nat → ClassId) (g' : jm_H) (v : Option Value) : Array Value → State → Outcome → State → Prop := fun _ st oc t => oc = .returned (v.map (jm_rz B b)) ∧ jm_R B b D tc g' t.heap ∧ va_F (jm_A B) st t
abbrev jm_tN : String := "java/lang/Throwable"
/-- what isn't a good word, and is carried: links to nest mates, arrays of references, casts, declared constructors, two statics of Throwable -/
def jm_xcs : List String := ["java/lang/IllegalArgumentException", "java/lang/IllegalStateException", "java/lang/IndexOutOfBoundsException", "java/util/NoSuchElementException"]
def jm_dcl : List MethodName := [⟨"java/lang/RuntimeException", "<init>", "()V"⟩, ⟨"java/lang/Exception", "<init>", "()V"⟩, ⟨"java/lang/Throwable", "<init>", "()V"⟩]
/-- a static of Throwable is laid out -/
def jm_Ls (n d : String) (A : Nat → Prop) (U : State) (H : Heap) : Prop := ∃ (c : ClassId) (k : Class) (i : Nat) (f : Field) (a : Nat) (cell : Cell), U.vm.findClass jm_tN = some c ∧ U.fieldFound? jm_tN n d = some (c, k, i, f) ∧ f.isStatic = true ∧ k.statics = some a ∧ H[a]? = some cell ∧ cell.vm.isStatics = true ∧ cell.cls = c ∧ f.slot < cell.slots.size ∧ k.staticTypes[f.slot]? = some f.type ∧ ¬ A a
theorem jm_Ls.moved {n d : String} {A : Nat → Prop} {u U : State} {H : Heap} (hvm : u.vm.Alike U.vm) (h : jm_Ls n d A u H) : jm_Ls n d A U H := by
  obtain ⟨c, k, i, f, a, cell, h0, h1, h2, h3, h4, h5, h6, h7, h8, h9⟩ := h
  obtain ⟨k', hi', he⟩ := State.fieldFound?_setVm hvm h1
  exact ⟨c, k', i, f, a, cell, by rw [hvm.findClass]; exact h0, hi', h2, by rw [he]; exact h3, h4, h5, h6, h7, by rw [he]; exact h8, h9⟩
theorem jm_Ls.kept {n d : String} {A : Nat → Prop} {U : State} {H H1 : Heap} (h : jm_Ls n d A U H) (hq : ∀ a : Nat, a < H.size → ¬ A a → H1[a]? = H[a]?) : jm_Ls n d A U H1 := by
  obtain ⟨c, k, i, f, a, cell, h0, h1, h2, h3, h4, h5, h6, h7, h8, h9⟩ := h
  exact ⟨c, k, i, f, a, cell, h0, h1, h2, h3, by rw [hq a (Array.getElem?_eq_some_iff.mp h4).1 h9]; exact h4, h5, h6, h7, h8, h9⟩
theorem jm_Ls.use {n d : String} {A : Nat → Prop} {U : State} (h : jm_Ls n d A U U.heap) (args : Array Value) : (Cond.laysStatic jm_tN n d).before args U = true := by
  obtain ⟨c, k, i, f, a, cell, h0, h1, h2, h3, h4, h5, h6, h7, h8, -⟩ := h
  simp [Cond.before, Cond.holds, Cond.value, h0, h1, h2, h3, h4, h5, h6, h7, h8]
theorem jm_Ls.of {n d : String} {A : Nat → Prop} {s : State} {args : Array Value} (h : (Cond.laysStatic jm_tN n d).before args s = true) (hA : ∀ a : Nat, a < s.heap.size → ¬ A a) : jm_Ls n d A s s.heap := by
  obtain ⟨c, k, i, f, a, cell, h0, h1, h2, h3, h4, h5, h6, h7, h8⟩ := Cond.laysStatic_spec h
  exact ⟨c, k, i, f, a, cell, h0, h1, h2, h3, h4, h5, h6, h7, h8, hA a (Array.getElem?_eq_some_iff.mp h4).1⟩
def jm_Ex (B : Nat) (U : State) : Prop :=
  (∀ r ∈ jm_nst, va_Nw (.methodLinkNest (jm_on r.1) r.2.1 (jm_y r.2.2) "CaptureBench") U) ∧ (∀ cx : Nat, 30 + cx ∈ jm_tags → va_AO (jm_cn cx) U) ∧
  (∀ x ∈ jm_xcs, va_Nw (.castable x x) U) ∧ (∀ x ∈ jm_xcs, ∀ z ∈ jm_xcs, x ≠ z → va_Nc x z U) ∧ (∀ x ∈ jm_dcl, va_Nw (.declares x) U) ∧
  va_Zq jm_tN "UNASSIGNED_STACK" "[Ljava/lang/StackTraceElement;" (jm_A B) U U.heap ∧ va_Zq jm_tN "SUPPRESSED_SENTINEL" "Ljava/util/List;" (jm_A B) U U.heap ∧ jm_Ls "UNASSIGNED_STACK" "[Ljava/lang/StackTraceElement;" (jm_A B) U U.heap ∧ jm_Ls "SUPPRESSED_SENTINEL" "Ljava/util/List;" (jm_A B) U U.heap
theorem jm_Ex.go {B : Nat} {s U : State} (h : jm_Ex B s) (hW : s.WarmedH U.vm) (hk : ∀ a : Nat, a < s.heap.size → ¬ jm_A B a → U.heap[a]? = s.heap[a]?) : jm_Ex B U := by
  obtain ⟨h1, h2, h3, h4, h5, h6, h7, h8, h9⟩ := h
  exact ⟨fun r hr => va_Nw.warmM hW (h1 r hr), fun cx hc => (h2 cx hc).moved hW.alike, fun x hx => va_Nw.warmC hW (h3 x hx), fun x hx z hz hn => (h4 x hx z hz hn).moved hW.alike, fun x hx => va_Nw.warmD hW (h5 x hx), (h6.moved hW.alike).kept hk, (h7.moved hW.alike).kept hk, (h8.moved hW.alike).kept hk, (h9.moved hW.alike).kept hk⟩
theorem jm_Ex.calling {B : Nat} {U : State} {fr : JFrame} {mk : MethodId} {a : Array Value} (h : jm_Ex B U) : jm_Ex B (U.calling fr mk a) := by
  obtain ⟨h1, h2, h3, h4, h5, h6, h7, h8, h9⟩ := h
  exact ⟨fun r hr => va_Nw.same rfl rfl (h1 r hr), fun cx hc => (h2 cx hc).moved (Vm.Alike.refl U.vm), fun x hx => va_Nw.same rfl rfl (h3 x hx), fun x hx z hz hn => (h4 x hx z hz hn).moved (Vm.Alike.refl U.vm), fun x hx => va_Nw.same rfl rfl (h5 x hx), h6.moved (Vm.Alike.refl U.vm), h7.moved (Vm.Alike.refl U.vm), h8.moved (Vm.Alike.refl U.vm), h9.moved (Vm.Alike.refl U.vm)⟩
def jm_Pc (B b L : Nat) (xs : Nat → Int32) (D : va_G) (tc : Nat → ClassId) (g : jm_H) (av : List Value) : Array Value → State → Prop := fun a U =>
  a = (av.map (jm_rz B b)).toArray ∧ jm_R B b D tc g U.heap ∧ va_K D jm_classes (jm_tys tc) U ∧ va_X b L xs U U.heap ∧ B ≤ U.heap.size ∧ U.heap.size ≤ B + (jm_n g + jm_j g) ∧ jm_Ex B U
theorem jm_Pc_blind (B b L : Nat) (xs : Nat → Int32) (D : va_G) (tc : Nat → ClassId) (g : jm_H) (av : List Value) : FrameBlind (jm_Pc B b L xs D tc g av) := by
  intro a U fr mk q
  obtain ⟨q0, q1, q2, q3, q4, q5, q6⟩ := q
  exact ⟨q0, q1, va_K.moved (u := U) (U := U.calling fr mk a) (Vm.Alike.refl U.vm) q2, va_X.moved (u := U) (U := U.calling fr mk a) (Vm.Alike.refl U.vm) q3, q4, q5, q6.calling⟩
section JS5
variable {p : Program} {l : Launch} {e : Env} {R : Room} {s : State} {m : MethodId} {args : Array Value} {below : List Frame} {meth : Method} {c : Code} {H : Heap} {locs : List Loc} {cells slots : Nat} {Q : State → Prop}
variable {pc len B b L c0 mi : Nat} {xs : Nat → Int32} {ls : Array Slot} {f : jm_F} {st : List Value} {i : Instr} {g g' : jm_H} {D : va_G} {tc : Nat → ClassId}
theorem jm_rk_1 (h : jm_rk mi = 1) : jm_rt mi = some .int := by
  unfold jm_rk at h
  split at h <;> first | assumption | (cases h; done) | omega
theorem jm_rk_2 (h : jm_rk mi = 2) : jm_rt mi = some .boolean := by
  unfold jm_rk at h
  split at h <;> first | assumption | (cases h; done) | omega
theorem jm_rk_3 (h : jm_rk mi = 3) : jm_rt mi = some .long := by
  unfold jm_rk at h
  split at h <;> first | assumption | (cases h; done) | omega
theorem jm_rk_0 (h : jm_rk mi = 0) : jm_rt mi = none := by
  unfold jm_rk at h
  split at h <;> first | assumption | (cases h; done) | omega
theorem jm_rk_4 (h : jm_rk mi = 4) : ∃ t, jm_rt mi = some t ∧ ((∃ n, t = .object n) ∨ ∃ t', t = .array t') := by
  unfold jm_rk at h
  split at h
  all_goals first | (cases h; done) | (next a e => exact ⟨_, e, Or.inl ⟨_, rfl⟩⟩) | (next a e => exact ⟨_, e, Or.inr ⟨_, rfl⟩⟩) | omega
set_option maxHeartbeats 4000000 in
theorem jm_fin {v : Option Value} (hx : p.tables.exec = Jvm.exec) (hb : c.code = jm_b mi) (hr : meth.sig.returnType = jm_rt mi) (hlocks : meth.locks = false) (hd : decode (jm_b mi) pc = .ok (i, len)) (hlen : jm_len i len = len)
    (hR : jm_R B b D tc g H) (hS : va_S (jm_A B) s.heap H locs) (h : jm_p9 mi (jm_oc mi) i st g = some (.inl v, g')) :
    W p l e R s m args below meth c H locs cells slots (MQ below (jm_Qc B b D tc g' v) args s cells slots (jm_A B)) (F0 m pc ls (st.map (jm_rz B b))) := by
  cases i with
  | ireturn =>
    obtain rfl : 1 = len := hlen
    simp only [jm_p9] at h
    split at h
    next x =>
      split at h
      next hc =>
        cases h
        rcases hc with hc | ⟨hc, hv⟩
        · exact W.iret (v := x) hx hb (hr.trans (jm_rk_1 hc)) (fun t ht _ => ⟨rfl, by rw [ht]; exact hR, hS.F ht⟩) hS.2.2 hd
        · exact W.zret (v := x) (ty := .boolean) hx hb (hr.trans (jm_rk_2 hc)) (by rcases hv with rfl | rfl <;> rfl) (fun t ht _ => ⟨rfl, by rw [ht]; exact hR, hS.F ht⟩) hS.2.2 hd
      next => cases h
    next => cases h
  | lreturn =>
    obtain rfl : 1 = len := hlen
    simp only [jm_p9] at h
    split at h
    next x =>
      split at h
      next hc =>
        cases h
        exact W.lret (v := x) hx hb (hr.trans (jm_rk_3 hc)) (fun t ht _ => ⟨rfl, by rw [ht]; exact hR, hS.F ht⟩) hS.2.2 hd
      next => cases h
    next => cases h
  | areturn =>
    obtain rfl : 1 = len := hlen
    simp only [jm_p9] at h
    split at h
    next x =>
      split at h
      next hc =>
        cases h
        obtain ⟨t, ht, hk⟩ := jm_rk_4 hc
        exact W.aret (v := .ref (jm_ad B b x)) (rt := t) hx hb (hr.trans ht) hk (Or.inr ⟨_, rfl⟩) (fun t ht _ => ⟨rfl, by rw [ht]; exact hR, hS.F ht⟩) hS.2.2 hd
      next => cases h
    next => cases h
  | return_ =>
    obtain rfl : 1 = len := hlen
    simp only [jm_p9] at h
    split at h
    next =>
      split at h
      next hc =>
        cases h
        exact W.vret hx hb (hr.trans (jm_rk_0 hc)) (fun t ht _ => ⟨rfl, by rw [ht]; exact hR, hS.F ht⟩) hS.2.2 hd
      next => cases h
    next => cases h
  | new x =>
    simp only [jm_p9] at h
    repeat' split at h
    all_goals cases h
  | _ => simp [jm_p9] at h
theorem jm_args_map (B b : Nat) : ∀ (av : List Value) (k : Nat), lv_args k (av.map (jm_rz B b)) = (lv_args k av).map (fun q => (q.1, jm_rz B b q.2))
  | [], _ => rfl
  | v :: av, k => by
    simp only [List.map_cons, lv_args, jm_rz_cat]
    rw [jm_args_map B b av]
theorem jm_lookup_mem {i : Nat} {v : Value} : ∀ {l : List (Nat × Value)}, l.lookup i = some v → (i, v) ∈ l
  | [], h => by simp at h
  | (k, w) :: l, h => by
    rw [List.lookup_cons] at h
    cases hk : i == k with
    | true =>
      rw [hk] at h
      cases h
      have : i = k := by simpa using hk
      subst this
      exact List.mem_cons_self
    | false =>
      rw [hk] at h
      exact List.mem_cons_of_mem _ (jm_lookup_mem h)
theorem jm_sl_len (B b : Nat) : ∀ av : List Value, (lg_sl (av.map (jm_rz B b))).length = (av.map fun v => v.category).sum
  | [] => rfl
  | v :: av => by
    have ih := jm_sl_len B b av
    simp only [lg_sl, List.map_cons, List.flatMap_cons, List.length_append, List.sum_cons, jm_rz_cat] at ih ⊢
    rw [ih]
    rcases lv_cat v with h | h <;> simp [h]
theorem jm_entry {av : List Value} {nL : Nat} (h : (av.map fun v => v.category).sum ≤ nL) : jm_loc B b ((lg_sl (av.map (jm_rz B b)) ++ List.replicate (nL - (lg_sl (av.map (jm_rz B b))).length) Slot.unset).toArray) nL (jm_ent av) := by
  have h0 := lv_entry (av.map (jm_rz B b)) (n := nL) (by rw [jm_sl_len]; exact h)
  refine ⟨h0.1, h0.2.1, fun i v hv => ?_⟩
  refine h0.2.2 (i, jm_rz B b v) ?_
  rw [jm_args_map]
  exact List.mem_map.mpr ⟨(i, v), jm_lookup_mem hv, rfl⟩
/-- behind a call that returned -/
theorem jm_back {mc ms : Nat} {av : Array Value} {rest st0 : List Value} {v : Option Value} (hr : va_Run p l e R s m args below meth c H locs cells slots mc ms (F0 m pc ls st0) rest (jm_Qc B b D tc g' v av) (jm_A B)) (hB : B ≤ s.heap.size) (hS : va_S (jm_A B) s.heap H locs)
    (kk : ∀ (H1 : Heap) (locs1 : List Loc), jm_R B b D tc g' H1 → va_S (jm_A B) s.heap H1 locs1 → W p l e R s m args below meth c H1 locs1 (cells + mc) (slots + ms) Q (F0 m (pc + 3) ls ((v.map (jm_rz B b)).toList ++ rest))) : W p l e R s m args below meth c H locs cells slots Q (F0 m pc ls st0) := by
  intro T hT X
  obtain ⟨v', st₀, t, T', L, h0, X', hL, e1, e2, ⟨hv, hRg, hz, hk⟩, st⟩ := hr T hT X
  cases hv
  rw [h0] at hz hk
  obtain ⟨t2, a1, b1⟩ := kk T'.heap (locs ++ L) (by rw [e1]; exact hRg)
    ⟨Nat.le_trans hS.1 (by rw [e1]; exact hz), fun q h1 h2 => by rw [e1, hk q (Nat.lt_of_lt_of_le h1 hS.1) h2]; exact hS.2.1 q h1 h2, fun q hq => by
      rcases List.mem_append.mp hq with h | h
      · exact hS.2.2 q h
      · exact hL q h⟩ T' rfl X'
  exact ⟨t2, st t2 a1, b1⟩
end JS5
