/-! a call that threw goes on in the handler -/
def jm_ct (ct : Nat) : Nat := match ct with
  | 13 => 50
  | 27 => 51
  | 36 => 52
  | 59 => 53
  | _ => 0
def jm_hsel : List (Nat × Nat × Nat × Nat) → Nat → Nat → Option Nat
  | [], _, _ => none
  | q :: t, pc, x => if q.1 ≤ pc ∧ pc < q.2.1 ∧ jm_ct q.2.2.2 = x then some q.2.2.1 else jm_hsel t pc x
def jm_hnb (r : Nat × Nat × Nat × Nat × Nat) : Bool := match jm_hsel (jm_hh r.1) r.2.1 r.2.2.1 with
  | some hp => (decide (50 ≤ r.2.2.1 ∧ r.2.2.1 < 54)) && ((match jm_tab r.1 r.2.1 with
    | some (.invokevirtual _, 3) => true
    | _ => false) && match jm_tab r.1 hp with
    | some (.astore_n k, 1) => decide ((k : Nat) = r.2.2.2.2) && decide (r.2.2.2.1 = hp + 1)
    | some (.astore k, 2) => decide (k = r.2.2.2.2) && decide (r.2.2.2.1 = hp + 2)
    | _ => false)
  | none => false
theorem jm_hns_ok : jm_hns.all jm_hnb = true := by decide +kernel
theorem jm_hns_oc : ∀ r ∈ jm_hns, jm_oc r.1 = 13 ∧ r.2.2.2.2 < jm_ml r.1 := by decide +kernel
theorem jm_hh_ct : ∀ k, k < jm_NM → ∀ q ∈ jm_hh k, jm_ct q.2.2.2 = 50 ∨ jm_ct q.2.2.2 = 51 ∨ jm_ct q.2.2.2 = 52 ∨ jm_ct q.2.2.2 = 53 := by decide +kernel
theorem jm_hn_mem {mi pc x h k1 : Nat} (hh : jm_hn mi pc x = some (h, k1)) : (mi, pc, x, h, k1) ∈ jm_hns := by
  unfold jm_hn at hh
  cases hf : jm_hns.find? (fun r => r.1 == mi && (r.2.1 == pc && r.2.2.1 == x)) with
  | none => rw [hf] at hh; cases hh
  | some r =>
    rw [hf] at hh
    have h1 := List.mem_of_find?_eq_some hf
    have h2 := List.find?_some hf
    simp only [Bool.and_eq_true, beq_iff_eq] at h2
    obtain ⟨r1, r2, r3, r4, r5⟩ := r
    obtain ⟨e1, e2, e3⟩ := h2
    cases hh
    cases e1
    cases e2
    cases e3
    exact h1
/-- the search at an entry that covers the place, its class not yet resolved or resolved -/
theorem jm_go1 {e : Env} {S : State} {f : JFrame} {a : Addr} {x : ExceptionTableEntry} {t : List ExceptionTableEntry} {c : ClassId} {cell : Cell} {vm₁ : Vm} {Q : Handler → Pre} {E : CtlPost} {d : Bool} {acts : List Action}
    (hx : covers x f.pc = true) (h0 : x.catchType ≠ 0) (hg : (Jvm.resolveClass f.method.cls x.catchType).Gives e.toSetting S.vm (.ok c) vm₁) (hsz : vm₁.classes.size ≤ S.vm.classes.size)
    (hcell : S.heap[a]? = some cell) (hobj : ∀ k, cell.vm ≠ .statics k) (hk : ∃ k, vm₁.classes[cell.cls]? = some k) (hc : ∃ k, vm₁.classes[c]? = some k) :
    wp (findHandler.go f a (x :: t)) Q E e d acts S ↔ if vm₁.assignable cell.cls c = true then Q (.found x.handlerPc) d acts (S.setVm vm₁) else wp (findHandler.go f a t) Q E e d acts (S.setVm vm₁) := by
  obtain ⟨ha, ht⟩ := hg.op (op := VmOp.resolveClass f.method.cls x.catchType) rfl
  simp only [covers] at hx
  cases hfit : vm₁.assignable cell.cls c <;> simp [findHandler.go, hx, h0, ha, ht, hsz, hcell, hobj, hk, hc, hfit, VmOp.dirties, VmOp.acts]
theorem jm_xn_mem {x : Nat} (hx : x = 50 ∨ x = 51 ∨ x = 52 ∨ x = 53) : jm_xn x ∈ jm_xcs := by rcases hx with rfl | rfl | rfl | rfl <;> decide
theorem jm_xn_ne {x z : Nat} (hx : x = 50 ∨ x = 51 ∨ x = 52 ∨ x = 53) (hz : z = 50 ∨ z = 51 ∨ z = 52 ∨ z = 53) (h : z ≠ x) : jm_xn x ≠ jm_xn z := by
  rcases hx with rfl | rfl | rfl | rfl <;> rcases hz with rfl | rfl | rfl | rfl <;> first | (exact absurd rfl h) | decide
theorem jm_search {B : Nat} {l : Launch} {e : Env} {s : State} {args : Array Value} {f : JFrame} {a : Addr} {own : String} {x : Nat} {cell : Cell} (hadm : l.admits e) (hown : s.vm.findClass own = some f.method.cls) (hEx : jm_Ex B s) (hx : x = 50 ∨ x = 51 ∨ x = 52 ∨ x = 53) (hobj : ∀ k, cell.vm ≠ .statics k) (hcls : s.vm.findClass (jm_xn x) = some cell.cls) :
    ∀ (hh : List (Nat × Nat × Nat × Nat)) (hp : Nat), (∀ q ∈ hh, (jm_ct q.2.2.2 = 50 ∨ jm_ct q.2.2.2 = 51 ∨ jm_ct q.2.2.2 = 52 ∨ jm_ct q.2.2.2 = 53) ∧ (Cond.classLink own q.2.2.2 (jm_xn (jm_ct q.2.2.2))).before args s = true) → jm_hsel hh f.pc x = some hp →
    ∀ S : State, s.WarmedH S.vm → S.heap[a]? = some cell → ∃ vm', s.WarmedH vm' ∧ ∀ (Q : Handler → Pre) (E : CtlPost) (d : Bool) (acts : List Action), wp (findHandler.go f a (tableOf hh)) Q E e d acts S ↔ Q (.found hp) d acts (S.setVm vm') := by
  have hpl : e.platform.magicAccessors = ({} : Platform).magicAccessors := by rw [hadm.platform]
  intro hh
  induction hh with
  | nil => intro hp _ h; cases h
  | cons q t ih =>
    intro hp hall hsel S hW hcell
    obtain ⟨hct, hlink⟩ := hall q List.mem_cons_self
    have hall' := fun r hr => hall r (List.mem_cons_of_mem _ hr)
    by_cases hcov : q.1 ≤ f.pc ∧ f.pc < q.2.1
    · have hcv : covers (⟨q.1, q.2.1, q.2.2.1, q.2.2.2⟩ : ExceptionTableEntry) f.pc = true := by simp [covers, hcov.1, hcov.2]
      have h0 : q.2.2.2 ≠ 0 := by
        intro hz
        rw [hz] at hct
        exact absurd hct (by decide)
      obtain ⟨cX, hfX, hcl⟩ := Cond.classLink_spec hown hlink e.platform hpl
      obtain ⟨hg₁, hwarm₁, -⟩ := State.classEntry (e := e) hW hcl
      generalize S.vm.noted f.method.cls q.2.2.2 (.cls cX) = vm₁ at hg₁ hwarm₁
      have hal : s.vm.Alike vm₁ := hwarm₁.alike
      have hsz : vm₁.classes.size ≤ S.vm.classes.size := Vm.Alike.size_le (hW.alike.symm.trans hal)
      have hk1 : ∃ k, vm₁.classes[cell.cls]? = some k := Vm.classAt_of_findClass (by rw [hal.findClass]; exact hcls)
      have hk2 : ∃ k, vm₁.classes[cX]? = some k := Vm.classAt_of_findClass (by rw [hal.findClass]; exact hfX)
      by_cases hxe : jm_ct q.2.2.2 = x
      · have hsel2 : q.2.2.1 = hp := by
          have : jm_hsel (q :: t) f.pc x = some q.2.2.1 := by
            unfold jm_hsel
            rw [if_pos ⟨hcov.1, hcov.2, hxe⟩]
          exact Option.some.inj (this.symm.trans hsel)
        rw [hxe] at hfX
        have hc2 : cX = cell.cls := Option.some.inj (hfX.symm.trans hcls)
        refine ⟨vm₁, hwarm₁, fun Q E d acts => ?_⟩
        show wp (findHandler.go f a (⟨q.1, q.2.1, q.2.2.1, q.2.2.2⟩ :: tableOf t)) Q E e d acts S ↔ _
        rw [jm_go1 hcv h0 hg₁ hsz hcell hobj hk1 hk2, if_pos (by rw [hc2]; exact va_asg vm₁ _), ← hsel2]
      · have hsel2 : jm_hsel t f.pc x = some hp := by
          have : jm_hsel (q :: t) f.pc x = jm_hsel t f.pc x := by
            rw [jm_hsel]
            rw [if_neg (fun z => hxe z.2.2)]
          rw [← this]
          exact hsel
        obtain ⟨c1, c2, e1, e2, e3⟩ := hEx.2.2.2.1 (jm_xn x) (jm_xn_mem hx) (jm_xn (jm_ct q.2.2.2)) (jm_xn_mem hct) (jm_xn_ne hx hct hxe)
        cases e1.symm.trans hcls
        cases e2.symm.trans hfX
        obtain ⟨vm', hw', hi⟩ := ih hp hall' hsel2 (S.setVm vm₁) hwarm₁ hcell
        refine ⟨vm', hw', fun Q E d acts => ?_⟩
        show wp (findHandler.go f a (⟨q.1, q.2.1, q.2.2.1, q.2.2.2⟩ :: tableOf t)) Q E e d acts S ↔ _
        rw [jm_go1 hcv h0 hg₁ hsz hcell hobj hk1 hk2, if_neg (by rw [hal.assignable, e3]; decide)]
        exact hi Q E d acts
    · have hsel2 : jm_hsel t f.pc x = some hp := by
        have : jm_hsel (q :: t) f.pc x = jm_hsel t f.pc x := by
          rw [jm_hsel]
          rw [if_neg (fun z => hcov ⟨z.1, z.2.1⟩)]
        rw [← this]
        exact hsel
      have hcv : covers (⟨q.1, q.2.1, q.2.2.1, q.2.2.2⟩ : ExceptionTableEntry) f.pc = false := by
        simp only [covers, Bool.and_eq_false_iff, decide_eq_false_iff_not]
        by_cases h1 : q.1 ≤ f.pc
        · exact Or.inr (fun h2 => hcov ⟨h1, h2⟩)
        · exact Or.inl h1
      obtain ⟨vm', hw', hi⟩ := ih hp hall' hsel2 S hW hcell
      refine ⟨vm', hw', fun Q E d acts => ?_⟩
      show wp (findHandler.go f a (⟨q.1, q.2.1, q.2.2.1, q.2.2.2⟩ :: tableOf t)) Q E e d acts S ↔ _
      rw [W.findHandler_go_skip hcv]
      exact hi Q E d acts
/-- the exception is caught in the method's own frame, the tables turned by the search -/
theorem jm_caught {tb : Tables} {e : Env} {s target : State} {g : JFrame} {c : Code} {below : List Frame} {a : Addr} {vm' : Vm} {meth : Method} (h : At s g.method c below) {pc : Nat} (hm : s.vm.method? g.method = some meth) (hc : meth.code = some c)
    (hfind : ∀ (Q : Handler → Pre) (E : CtlPost) (d : Bool) (acts : List Action), wp (findHandler.go g a c.exceptionTable.toList) Q E e d acts ((s.setTop g).pushFrame (.throwing a)) ↔ Q (.found pc) d acts (((s.setTop g).pushFrame (.throwing a)).setVm vm'))
    (hrest : Steps tb e below ((s.setVm vm').setTop { g with pc := pc, stack := [.ref a] }) target) :
    Steps tb e below ((s.setTop g).pushFrame (.throwing a)) target := by
  obtain ⟨hgo, hw⟩ := h.throwing a
  refine Steps.head hgo hw ?_
  have hm2 : ((s.setTop g).pushFrame (.throwing a)).vm.method? g.method = some meth := by
    rw [Stand.throwing_vm]
    exact hm
  have hst : (stepThrowing e ((s.setTop g).pushFrame (.throwing a)) a (.java g :: s.frames.tail)).Is ((((s.setTop g).pushFrame (.throwing a)).setVm vm').setFrames (.java { g with pc := pc, stack := [.ref a] } :: s.frames.tail)) [] := by
    simp only [stepThrowing, searchFrame, vmDo]
    generalize hr : Sem.go _ e false [] ((s.setTop g).pushFrame (.throwing a)) = res
    obtain ⟨as, rfl, ha⟩ := Sem.eq_ok_of hr (a := Handler.found pc) (s' := ((s.setTop g).pushFrame (.throwing a)).setVm vm') (acts' := []) (by simp [W.findHandler_eq hm2 hc, hfind])
    exact ⟨rfl, ha⟩
  obtain ⟨g₀, hg⟩ := Option.isSome_iff_exists.mp h.top
  obtain ⟨r, hr⟩ := State.topJava?_eq_some.mp hg
  rw [stepThread_throwing (frames_entered h.top _), hst.1]
  have e1 : (((s.setTop g).pushFrame (.throwing a)).setVm vm').setFrames (.java { g with pc := pc, stack := [.ref a] } :: s.frames.tail) = (s.setVm vm').setTop { g with pc := pc, stack := [.ref a] } := by
    have hr2 : (s.setVm vm').frames = .java g₀ :: r := hr
    rw [State.setTop_of_frames _ hr2, hr, State.pushFrame, State.setTop_of_frames _ hr]
    show (((s.setFrames _).setFrames _).setVm vm').setFrames _ = (s.setVm vm').setFrames _
    have e2 : ∀ (u : State) (fs : List Frame), (u.setFrames fs).setVm vm' = (u.setVm vm').setFrames fs := fun _ _ => rfl
    rw [e2, e2, State.setFrames_setFrames, State.setFrames_setFrames]
    rfl
  rw [e1]
  exact hrest
