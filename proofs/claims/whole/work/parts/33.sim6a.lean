/-! calls: the callee's contract, and the run of the call -/
def jm_rm (d mc ms : Nat) : Room := { frames := d + 8, cells := mc, slots := ms, locals := 64 * d + 200 }
theorem jm_ml_le : ∀ k, k < jm_NM → jm_ml k ≤ 40 := by decide +kernel
theorem jm_nst_h : ∀ r ∈ jm_nst, jm_hh r.2.2 = [] := by decide +kernel
theorem jm_nst_v : ∀ r ∈ jm_nst, jm_rc r.2.2 = none ∨ jm_isI r.2.2 = true := by decide +kernel
theorem jm_hh_i : ∀ k, k < jm_NM → jm_rc k = none ∨ jm_hh k = [] := by decide +kernel
theorem jm_rt_i : ∀ k, k < jm_NM → jm_isI k = true → jm_rt k = none ∧ jm_nm k = "<init>" := by decide +kernel
section JS6
variable {p : Program} {l : Launch} {e : Env} {R : Room} {s : State} {m : MethodId} {args : Array Value} {below : List Frame} {meth : Method} {c : Code} {H : Heap} {locs : List Loc} {cells slots : Nat} {Q : State → Prop}
variable {pc len B b L mi oc d mc ms : Nat} {xs : Nat → Int32} {ls : Array Slot} {f : jm_F} {st st' : List Value} {i : Instr} {g g1 : jm_H} {D : va_G} {tc : Nat → ClassId} {k pc' : Nat} {av : List Value} {v : Option Value}
theorem jm_callSW {T : State} (X : Stand p l e R s m args below meth c T locs cells slots) (hexec : p.tables.exec = Jvm.exec) {own : String} {index : Nat} {y : MethodName} {bytes : ByteArray} {maxL : Nat} {ret : Option FieldType} {hh : List (Nat × Nat × Nat × Nat)}
    (hown : s.vm.findClass own = some m.cls) (hlink : (Cond.methodLink own index y).before args s = true) (hstat : (Cond.static y).before args s = true) (hinit : (Cond.initialized y.cls).before args s = true)
    (hcode : (Cond.codeWith y bytes maxL ret hh).before args s = true) (hy : y.cls ≠ "java/lang/invoke/MethodHandle" ∧ y.cls ≠ "java/lang/invoke/VarHandle")
    {W : Nat} {Pre : Pt → Array Value → Prop} {Post : Pt → Array Value → Option Value → Pt → Prop} (hK : Back l R p e below s args y 3 W Pre Post)
    {g : JFrame} (hg : g.method = m) (hsize : g.locals.size = c.maxLocals) {argsL rest : List Value} (hlen : ∀ sig, parseMethodDescriptor y.desc = some sig → argsL.length = sig.parameters.length)
    (hstack : g.stack = argsL.reverse ++ rest) (hW : 2 * g.monitorRoom + (rest.map fun v => v.category).sum ≤ W) (hdg : decode c.code g.pc = .ok (.invokestatic index, 3))
    (hpre : ∀ vm₁, s.WarmedH vm₁ → Pre ⟨T.setVm vm₁, locs, cells, slots⟩ argsL.toArray) :
    ∃ (v : Option Value) (vm₁ : Vm) (B : Pt), s.WarmedH vm₁ ∧ Stand p l e R s m args below meth c B.U B.locs B.cells B.slots ∧ Post ⟨T.setVm vm₁, locs, cells, slots⟩ argsL.toArray v B ∧
      ∀ target, Steps p.tables e below (B.U.setTop { g with pc := g.pc + 3, stack := v.toList ++ rest }) target → Steps p.tables e below (T.setTop g) target := by
  obtain ⟨mk, methM, cM, hnamed, hmethM, -, -, -, -, -, -, hsigM⟩ := Cond.codeWith_spec hcode
  have hstatic : methM.isStatic = true := Cond.static_spec hnamed hmethM hstat
  obtain ⟨kP, hkP, -⟩ := className_of_methodNamed hnamed
  have hinitP : kP.init = .initialized := Cond.initialized_spec (findClass_of_methodNamed hnamed) hkP hinit
  obtain ⟨vm₁, X₁, hstep₁⟩ := X.invokestatic hexec hown hlink hnamed hmethM hstatic hkP hinitP hy (g := g) hg (argsL := argsL) (rest := rest) (hlen _ hsigM) hstack hdg
  obtain ⟨v, B, X', hpost, hsteps⟩ := hK m meth c ⟨T.setVm vm₁, locs, cells, slots⟩ { g with stack := rest } (.invokestatic index) mk argsL.toArray X₁ hg hsize hdg hW (X₁.named hnamed) (hpre vm₁ X₁.warmed)
  exact ⟨v, vm₁, B, X₁.warmed, X', hpost, fun target h => hstep₁ _ fun acts => by rw [doInvoke_state]; exact hsteps.trans h⟩
theorem jm_cw_nil (h : jm_hh k = []) : jm_cw k = .code (jm_y k) (jm_b k) (jm_ml k) (jm_rt k) := by
  unfold jm_cw
  rw [h]
theorem jm_cw_cons (h : jm_hh k ≠ []) : jm_cw k = .codeWith (jm_y k) (jm_b k) (jm_ml k) (jm_rt k) (jm_hh k) := by
  unfold jm_cw
  split
  next e => exact absurd e h
  next => rfl
/-- what a caller has at hand -/
def jm_Cx (B b L : Nat) (xs : Nat → Int32) (D : va_G) (tc : Nat → ClassId) (mi : Nat) (p : Program) (s : State) (m : MethodId) (args : Array Value) (meth : Method) (c : Code) : Prop :=
  p.tables.exec = Jvm.exec ∧ c.code = jm_b mi ∧ c.maxLocals = jm_ml mi ∧ meth.sig.returnType = jm_rt mi ∧ meth.locks = false ∧ s.vm.findClass (jm_on (jm_oc mi)) = some m.cls ∧ (jm_isI mi = true → meth.name = "<init>") ∧ (∀ w ∈ jm_W, w.before args s = true) ∧
  va_K D jm_classes (jm_tys tc) s ∧ va_X b L xs s s.heap ∧ b < B ∧ B ≤ s.heap.size ∧ jm_Ex B s
theorem jm_cat (B b : Nat) (r : List Value) : ((r.map (jm_rz B b)).map fun v => v.category).sum = (r.map fun v => v.category).sum := by
  rw [List.map_map]
  congr 1
  apply List.map_congr_left
  intro v _
  exact jm_rz_cat B b v
/-- the callee's start, out of the caller's -/
theorem jm_pre (C : jm_Cx B b L xs D tc mi p s m args meth c) (hR : jm_R B b D tc g H) (hS : va_S (jm_A B) s.heap H locs) (hsz : H.size ≤ B + (jm_n g + jm_j g)) : ∀ U : State, U.heap = H → s.WarmedH U.vm → jm_Pc B b L xs D tc g av (av.map (jm_rz B b)).toArray U := by
  intro U hU hW
  obtain ⟨-, -, -, -, -, -, -, -, hK, hX, hbB, hBs, hEx⟩ := C
  have hkp : ∀ a : Nat, a < s.heap.size → ¬ jm_A B a → U.heap[a]? = s.heap[a]? := fun a h1 h2 => by rw [hU]; exact hS.2.1 a h1 h2
  refine ⟨rfl, by rw [hU]; exact hR, va_K.moved hW.alike hK, ?_, by rw [hU]; exact Nat.le_trans hBs hS.1, by rw [hU]; exact hsz, hEx.go hW hkp⟩
  exact (va_X.moved hW.alike hX).kept (hkp b (Nat.lt_of_lt_of_le hbB hBs) (Nat.not_le.mpr hbB))
end JS6
