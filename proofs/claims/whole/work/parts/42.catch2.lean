/-! the row on calls that threw -/
theorem jm_hnb_spec {mi pc x h k1 : Nat} (hb : jm_hnb (mi, pc, x, h, k1) = true) : ∃ hp, jm_hsel (jm_hh mi) pc x = some hp ∧ (x = 50 ∨ x = 51 ∨ x = 52 ∨ x = 53) ∧ (∃ idx, jm_tab mi pc = some (.invokevirtual idx, 3)) ∧
    ((∃ q : Fin 4, jm_tab mi hp = some (.astore_n q, 1) ∧ (q : Nat) = k1 ∧ h = hp + 1) ∨ (jm_tab mi hp = some (.astore k1, 2) ∧ h = hp + 2)) := by
  unfold jm_hnb at hb
  dsimp only at hb
  split at hb
  next hp hs =>
    simp only [Bool.and_eq_true, decide_eq_true_eq] at hb
    obtain ⟨h1, h2, h3⟩ := hb
    refine ⟨hp, hs, by omega, ?_, ?_⟩
    · split at h2
      next idx e => exact ⟨idx, e⟩
      next => cases h2
    · split at h3
      next q e =>
        simp only [Bool.and_eq_true, decide_eq_true_eq] at h3
        exact Or.inl ⟨q, e, h3.1, h3.2⟩
      next q e =>
        simp only [Bool.and_eq_true, decide_eq_true_eq] at h3
        obtain ⟨rfl, h4⟩ := h3
        exact Or.inr ⟨e, h4⟩
      next => cases h3
  next => cases hb
theorem jm_loc_none {B b nL : Nat} {ls : Array Slot} {lv : List (Nat × Value)} (h : lv_has ls nL lv) : jm_loc B b ls nL (fun _ => none) := ⟨h.1, h.2.1, fun _ _ q => by cases q⟩
section JS9
variable {p : Program} {l : Launch} {e : Env} {R : Room} {s : State} {m : MethodId} {args : Array Value} {below : List Frame} {meth : Method} {c : Code} {locs : List Loc} {cells slots mc ms : Nat}
/-- a call whose contract throws: the state with the note over the caller's frame -/
theorem jm_ofFreeT {T : State} (X : Stand p l e R s m args below meth c T locs cells slots) {y : MethodName} {ws : List Cond} {rm : Room} {Pc : Array Value → State → Prop} {Qc : Array Value → State → Outcome → State → Prop} {free : Addr → Prop} (hM : jm_MetT l y ws rm Pc Qc mc ms free)
    (hrc : rm.cells = mc) (hrs : rm.slots = ms) {bytes : ByteArray} {maxL : Nat} {ret : Option FieldType} (hframes : rm.frames + 1 ≤ R.frames) (hlocals : 8 + (maxL + 11) + rm.locals ≤ R.locals) (hc1 : cells + mc ≤ R.cells) (hs1 : slots + ms ≤ R.slots)
    (hws : ∀ w ∈ ws, ∀ (a' : Array Value) (U : State), s.WarmedH U.vm → w.before a' U = true) (hcode : Cond.code y bytes maxL ret ∈ ws) (hinit : ∀ (a' : Array Value) (U : State), s.WarmedH U.vm → (Cond.initialized y.cls).before a' U = true)
    {g : JFrame} (hg : g.method = m) (hsize : g.locals.size = c.maxLocals) {ig : Instr} {len : Nat} (hdg : decode c.code g.pc = .ok (ig, len)) (hW : 2 * g.monitorRoom + (g.stack.map fun v => v.category).sum ≤ 8) {mk : MethodId} (hn : T.methodNamed? y = some mk) {av : Array Value}
    (hP : Pc av (T.calling g mk av)) :
    ∃ (a : Addr) (t : State) (L : List Loc), Qc av (T.calling g mk av) (.threw a) t ∧ (∀ q ∈ L, free q.base) ∧ s.WarmedH t.vm ∧
      Stand p l e R s m args below meth c (({ T with heap := t.heap, slotsUsed := t.slotsUsed } : State).setVm t.vm) (locs ++ L) (cells + mc) (slots + ms) ∧
      Steps p.tables e below (doInvoke e (T.setTop g) [] mk av).1 (((({ T with heap := t.heap, slotsUsed := t.slotsUsed } : State).setVm t.vm).setTop g).pushFrame (.throwing a)) := by
  have h2 := hws _ hcode av T X.warmed
  obtain ⟨methY, cY, hmY, hcY, -, hlY, -⟩ := Cond.code_spec hn h2
  obtain ⟨kY, hkY, -⟩ := className_of_methodNamed hn
  have hinitY : kY.init = .initialized := Cond.initialized_spec (findClass_of_methodNamed hn) hkY (hinit av T X.warmed)
  have h : At T g.method c below := by rw [hg]; exact X.here
  have happ : (headSpec ws rm).appliesLoose y e.platform (T.calling g mk av) = true :=
    Spec.appliesLoose_calling (g := g) h hdg hn hkY hinitY
      (X.room_calling (g := g) (R' := (headSpec ws rm).room) hsize hmY hcY hframes (by rw [hlY]; show _ + _ + rm.locals ≤ _; omega) (by rw [show (headSpec ws rm).room.cells = mc from hrc]; exact hc1) (by rw [show (headSpec ws rm).room.slots = ms from hrs]; exact hs1)) (atoms_intro fun w hw => hws w hw _ _ X.warmed)
  obtain ⟨mid, hmid⟩ := h.above
  have hfr : (T.setTop g).frames = (.java g :: mid) ++ below := by rw [State.frames_setTop' g h.top, hmid]; rfl
  obtain ⟨o, s₂, hsteps, -, hend, hq0⟩ := Steps.callFree hM p X.admits X.cas X.clock (acts := []) hfr happ hP trivial
  have hq' : Qc av (T.calling g mk av) o s₂ ∧ ∃ L, jm_FET (T.calling g mk av) o s₂ L mc ms ∧ ∀ q ∈ L, free q.base := hq0
  obtain ⟨hq, L, hfe, hL⟩ := hq'
  obtain ⟨⟨a, rfl⟩, hW₂, e2, q2, q3, q4, q5, q6⟩ := hfe
  rw [State.frames_setTop' g h.top] at hend
  have hf₂ : s₂.frames = .throwing a :: .java g :: T.frames.tail := hend
  have hW' : T.WarmedH s₂.vm := hW₂
  have e3 : s₂ = ({ (T.calling g mk av).setFrames s₂.frames with heap := s₂.heap, slotsUsed := s₂.slotsUsed } : State).setVm s₂.vm := by
    have : s₂ = ({ s₂ with vm := (T.calling g mk av).vm } : State).setVm s₂.vm := rfl
    rw [e2] at this
    exact this
  obtain ⟨g₀, hg0⟩ := Option.isSome_iff_exists.mp h.top
  obtain ⟨r, hr⟩ := State.topJava?_eq_some.mp hg0
  have hs₂ : s₂ = ((({ T with heap := s₂.heap, slotsUsed := s₂.slotsUsed } : State).setVm s₂.vm).setTop g).pushFrame (.throwing a) := by
    have hr' : (({ T with heap := s₂.heap, slotsUsed := s₂.slotsUsed } : State).setVm s₂.vm).frames = .java g₀ :: r := hr
    refine e3.trans ?_
    rw [hf₂, State.calling_eq h.top, State.setFrames_setFrames, State.pushFrame, State.frames_setTop _ hr', State.setTop_of_frames _ hr', State.setFrames_setFrames, hr]
    rfl
  have hsame : T.sameButNew ({ T with heap := s₂.heap, slotsUsed := s₂.slotsUsed } : State) L mc ms := by
    refine ⟨?_, q2, q3, q4, q5, q6⟩
    obtain ⟨t, ht, -⟩ := State.frames_cons hr
    show ({ T with heap := s₂.heap, slotsUsed := s₂.slotsUsed } : State) = { T.setFrames T.frames with heap := s₂.heap, slotsUsed := s₂.slotsUsed }
    rw [State.setFrames_self ht]
  subst hg
  refine ⟨a, s₂, L, hq, hL, State.WarmedH.trans X.warmed hW', ⟨X.admits, X.cas, X.clock, X.frames, X.room, X.hears, X.method, X.code, (X.here.setHeapUsed s₂.heap s₂.slotsUsed).setVm hW'.alike, X.tail, State.WarmedH.trans X.warmed hW', X.limits, X.bytes, X.same.trans (hsame.setVm s.vm)⟩, ?_⟩
  rw [← hs₂]
  exact hsteps
end JS9
