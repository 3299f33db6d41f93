/-! THE CLAIM OUT OF ONE WALK OF THE LAW'S BODY. Your part is whole_start (and what it stands on); all else here is the same for every law, but numbers. -/
def R_law : String := "CaptureBenchLaw"
def lw_P (b : Addr) (xs : List Int32) (args : Array Value) (s : State) : Prop := args = #[.ref b] ∧ s.IntsAt b xs ∧ xs.length ≤ 2560 ∧ (Jvm.Cond.and given_1 narrow_1).before args s = true
def lw_Q (_ : Array Value) (s : State) (o : Outcome) (t : State) : Prop := o = .returned (some (.int 1)) ∧ Framed s o t [] 601024 7293034
def lw_Z (below : List Frame) (a : Array Value) (s : State) : State → Prop := fun t => ∃ o, t.status = .running ∧ Ended t below o ∧ lw_Q a s o t
/-- the law's own end, with 1 on the stack, nothing written that was there before, its room as the claim has it -/
theorem lw_ret {p : Program} {l : Launch} {e : Env} {s : State} {m : MethodId} {below : List Frame} {meth : Method} {c : Code} {b : Nat} (hx : p.tables.exec = Jvm.exec) (hb : c.code = code) (hr : meth.sig.returnType = ret) (hlocks : meth.locks = false) {pc : Nat} {H : Heap} {ls : Array Slot} (hdg : decode code pc = .ok (.ireturn, 1)) : W p l e room_1 s m #[Value.ref b] below meth c H [] 601024 7293034 (lw_Z below #[Value.ref b] s) (F0 m pc ls [.int 1]) := by
  intro T hT X
  obtain ⟨fs, hret, hrun, hended, hW, hframe⟩ := X.leave (v := some (.int 1)) (hlocks := hlocks) (fun h => by rw [hr] at h; cases h)
  have hmeth' : T.vm.method? m = some meth := X.method'
  refine ⟨T.setFrames fs, ?_, .returned (some (.int 1)), hrun, hended, rfl, ⟨_, rfl⟩, hW, hframe⟩
  jvm_step X.here [X.here.top, hx, hb, hdg, hmeth', hr, ret, narrow_b1]
  (try refine ⟨rfl, ?_⟩); (try refine ⟨rfl, ?_⟩)
  first | (intro acts; rw [hret _ acts rfl rfl rfl]) | rw [hret _ _ rfl rfl rfl]
  exact Steps.refl _
/-- what holds at the law's entry: the machine, the code, the tables' words (any of lw_tbl by 'hts w (by decide +kernel)'), the script of L ints xs at the cell b, what the Statement gives of the start (any of its parts by flat_of_before) -/
def lw_At (p : Program) (s : State) (m : MethodId) (meth : Method) (c : Code) (b L : Nat) (xs : Nat → Int32) : Prop :=
  p.tables.exec = Jvm.exec ∧ c.code = code ∧ meth.sig.returnType = ret ∧ c.maxLocals = 8 ∧ s.vm.findClass R_law = some m.cls ∧ (∀ w ∈ lw_tbl, w.before #[Value.ref b] s = true) ∧ va_X b L xs s s.heap ∧ b < s.heap.size ∧ meth.locks = false ∧ (Jvm.Cond.and given_1 narrow_1).before #[Value.ref b] s = true ∧ c.exceptionTable.isEmpty = true
/-! THE LAW: from its entry the machine follows the small machine; what that one answers is jm_law, a matter of numbers alone -/
def jm_g0 : jm_H := (0, 0, fun _ _ => 0, fun _ _ => 0, fun _ _ => none)
/-- what is owed of the small machine: on every script of at most 2560 ints the law's run ends with 1, within the room -/
def jm_Law : Prop := ∀ (L : Nat) (xs : Nat → Int32), L ≤ 2560 → ∃ (n d : Nat) (gF : jm_H), d ≤ 1000 ∧ jm_run L xs n d 0 0 (jm_ent [.ref jm_S]) [] jm_g0 = some (.inl (some (.int 1)), gF) ∧ jm_n gF + jm_j gF ≤ 601024 ∧ jm_z gF ≤ 7293034
theorem jm_Kof {s : State} {args : Array Value} (hts : ∀ w ∈ jm_W, w.before args s = true) (hao : ∀ cx : Nat, 30 + cx ∈ jm_tags → va_AO (jm_cn cx) s) : ∃ (D : va_G) (tc : Nat → ClassId), va_K D jm_classes (jm_tys tc) s := by
  have h1 : ∀ c : Nat, ∃ q : ClassId × (Nat → Nat), c < jm_NC → u_Kn s (jm_cn c) (jm_T c) (jm_nf c) q.1 q.2 := by
    intro c
    by_cases hc : c < jm_NC
    · obtain ⟨cC, iS, h⟩ := u_known (n := jm_nf c) hts (jm_T_in c hc) (hts _ (jm_mem _ jm_insk (List.mem_map.mpr ⟨c, List.mem_range.mpr hc, rfl⟩)))
      exact ⟨(cC, iS), fun _ => h⟩
    · exact ⟨(0, fun _ => 0), fun h => absurd h hc⟩
  have h2 : ∀ t : Nat, ∃ cA : ClassId, t ∈ jm_tags → ArrOfT s cA (jm_aty t) ∧ va_RA s cA (jm_aty t) := by
    intro t
    by_cases ht : t ∈ jm_tags
    · by_cases h30 : 30 ≤ t
      · obtain ⟨cx, rfl⟩ : ∃ cx, t = 30 + cx := ⟨t - 30, by omega⟩
        have e : jm_aty (30 + cx) = .object (jm_cn cx) := by
          unfold jm_aty
          rw [if_neg (by omega), if_neg (by omega), if_neg (by omega), show 30 + cx - 30 = cx by omega]
        obtain ⟨comp, cA, kA, f1, -, f3, f4, f5⟩ := Cond.arrayOver_spec (va_AO.use (A := args) (hao cx ht))
        refine ⟨cA, fun _ => ?_⟩
        rw [e]
        exact ⟨fun N z => ⟨(fun k h => by cases h), kA, f3, comp, f4⟩, kA, comp, f3, f4, f1, f5⟩
      · have h3 : t = 20 ∨ t = 21 ∨ t = 22 := by
          simp only [jm_tags, List.mem_cons, List.not_mem_nil, or_false] at ht
          omega
        have hw : Cond.arrayClass (jm_aty t) ∈ jm_W := by
          refine jm_mem _ jm_ack ?_
          rcases h3 with rfl | rfl | rfl <;> decide
        obtain ⟨cA, kA, comp, f1, f2, f3⟩ := Cond.arrayClass_spec (hts _ hw)
        refine ⟨cA, fun _ => ⟨fun N z => ⟨(fun k h => by cases h), kA, f2, comp, f3⟩, ?_⟩⟩
        rcases h3 with rfl | rfl | rfl <;> exact f1
    · exact ⟨0, fun h => absurd h ht⟩
  refine ⟨(fun c => (Classical.choose (h1 c)).1, fun c => (Classical.choose (h1 c)).2), fun t => Classical.choose (h2 t), fun c q hq => ?_, fun k q hk => ?_⟩
  · have hc : c < jm_NC := by
      have := (List.getElem?_eq_some_iff.mp hq).1
      simpa [jm_classes] using this
    rw [jm_cl_at hc] at hq
    cases hq
    exact Classical.choose_spec (h1 c) hc
  · obtain ⟨t, ht, rfl⟩ := List.mem_map.mp (List.mem_of_getElem? hk)
    exact Classical.choose_spec (h2 t) ht
theorem jm_in_of {ws : List Cond} {ps : List Nat} (h : ws = ps.filterMap (fun i => lw_tbl[i]?)) {w : Cond} (hw : w ∈ ws) : w ∈ lw_tbl := by
  rw [h] at hw
  obtain ⟨i, -, hi⟩ := List.mem_filterMap.mp hw
  exact List.mem_of_getElem? hi
theorem jm_ao_of {s : State} {args : Array Value} (hts : ∀ w ∈ lw_tbl, w.before args s = true) : ∀ cx : Nat, 30 + cx ∈ jm_tags → va_AO (jm_cn cx) s := by
  intro cx hc
  have hm : 30 + cx ∈ ([31, 32, 35, 38] : List Nat) := by
    simp only [jm_tags, List.mem_cons, List.not_mem_nil, or_false] at hc ⊢
    omega
  have h := hts _ (jm_in_of jm_aok (List.mem_map.mpr ⟨30 + cx, hm, rfl⟩))
  rw [show 30 + cx - 30 = cx by omega] at h
  exact va_AO.of h
theorem jm_Exof {s : State} {b : Nat} (hts : ∀ w ∈ lw_tbl, w.before #[Value.ref b] s = true) (hgv : (Jvm.Cond.and given_1 narrow_1).before #[Value.ref b] s = true) : jm_Ex s.heap.size s := by
  have hA : ∀ a : Nat, a < s.heap.size → ¬ jm_A s.heap.size a := fun a h => Nat.not_le.mpr h
  have hgv2 := flat_of_before _ hgv
  refine ⟨fun r hr => ?_, jm_ao_of hts, fun x hx => ?_, fun x hx z hz hn => ?_, fun x hx => ?_, ?_, ?_, ?_, ?_⟩
  · exact va_Nw.of rfl (hts _ (jm_in_of jm_nstk (List.mem_map.mpr ⟨r, hr, rfl⟩)))
  · refine va_Nw.of rfl (hts _ ?_)
    simp only [jm_xcs, List.mem_cons, List.not_mem_nil, or_false] at hx
    rcases hx with rfl | rfl | rfl | rfl
    · exact List.mem_of_getElem? (i := 453) (by decide +kernel)
    · exact List.mem_of_getElem? (i := 653) (by decide +kernel)
    · exact List.mem_of_getElem? (i := 697) (by decide +kernel)
    · exact List.mem_of_getElem? (i := 895) (by decide +kernel)
  · refine va_Nc.of (args := #[Value.ref b]) (hgv2 _ ?_)
    simp only [jm_xcs, List.mem_cons, List.not_mem_nil, or_false] at hx hz
    rcases hx with rfl | rfl | rfl | rfl <;> rcases hz with rfl | rfl | rfl | rfl <;> first | (exact absurd rfl hn) | decide +kernel
  · refine va_Nw.of rfl (hts _ ?_)
    simp only [jm_dcl, List.mem_cons, List.not_mem_nil, or_false] at hx
    rcases hx with rfl | rfl | rfl
    · exact List.mem_of_getElem? (i := 454) (by decide +kernel)
    · exact List.mem_of_getElem? (i := 456) (by decide +kernel)
    · exact List.mem_of_getElem? (i := 458) (by decide +kernel)
  · exact va_Zqof (hts _ (List.mem_of_getElem? (i := 478) (by decide +kernel))) (hts _ (List.mem_of_getElem? (i := 94) (by decide +kernel))) (hgv2 _ (by decide +kernel)) hA
  · exact va_Zqof (hts _ (List.mem_of_getElem? (i := 480) (by decide +kernel))) (hts _ (List.mem_of_getElem? (i := 94) (by decide +kernel))) (hgv2 _ (by decide +kernel)) hA
  · exact jm_Ls.of (hts _ (List.mem_of_getElem? (i := 478) (by decide +kernel))) hA
  · exact jm_Ls.of (hts _ (List.mem_of_getElem? (i := 480) (by decide +kernel))) hA
set_option maxHeartbeats 2000000 in
theorem whole_start (hlaw : jm_Law) {p : Program} {e : Env} {s : State} {m : MethodId} {below : List Frame} {meth : Method} {c : Code} (l : Launch) (hfl : l.flags = flags0) {b L : Nat} {xs : Nat → Int32} (hL : L ≤ 2560) (C0 : lw_At p s m meth c b L xs) : W p l e room_1 s m #[Value.ref b] below meth c s.heap [] 0 0 (lw_Z below #[Value.ref b] s) (entryFrame m ([Value.ref b] : List Value).toArray 8) := by
  obtain ⟨hx, hb, hr, hml, hown, hts, hX, hbl, hlocks, hgv, hex⟩ := C0
  have hW : ∀ w ∈ jm_W, w.before #[Value.ref b] s = true := fun w hw => hts w (jm_W_in hw)
  obtain ⟨D, tc, hK⟩ := jm_Kof hW (jm_ao_of hts)
  obtain ⟨n, d, gF, hd, hrun, hn, hz⟩ := hlaw L xs hL
  have hC : jm_Cx s.heap.size b L xs D tc 0 p s m #[Value.ref b] meth c := ⟨hx, hb, hml, hr, hlocks, hown, fun h => absurd h (by decide +kernel), hW, hK, hX, hbl, Nat.le_refl _, jm_Exof hts hgv⟩
  have hent : jm_loc s.heap.size b ((lg_sl ([Value.ref jm_S].map (jm_rz s.heap.size b)) ++ List.replicate (8 - (lg_sl ([Value.ref jm_S].map (jm_rz s.heap.size b))).length) Slot.unset).toArray) 8 (jm_ent [.ref jm_S]) := jm_entry (by decide)
  have hlist : ([Value.ref jm_S].map (jm_rz s.heap.size b)) = [Value.ref b] := by simp [jm_rz, jm_ad]
  rw [hlist] at hent
  rw [lg_entry_eq]
  refine jm_sim (jm_throwRow hfl s.heap.size b L xs D tc) (jm_catchRow l s.heap.size b L xs D tc) n d 0 0 (jm_ent [.ref jm_S]) [] jm_g0 (.inl (some (.int 1))) gF hrun (c0 := 0) (z0 := 0) hC ?_ (Nat.le_refl _) (by show d + 8 ≤ 2048; omega) (by show 64 * d + 200 ≤ 84000; omega) (by show _ ≤ 0 + 601024; omega) (by show _ ≤ 0 + 7293034; omega) rfl rfl ?_ va_S.rf hent ?_
  · show c.exceptionTable.toList = []
    simpa [Array.isEmpty] using hex
  · intro k q hk
    exact absurd (jm_ws_of hk).1 (Nat.not_lt_zero k)
  · intro i len pc ls st g H locs cells slots ht hlen h9 hc hz2 hR hS hls
    have hd9 := jm_dec ht
    cases i with
    | ireturn =>
      obtain rfl : 1 = len := hlen
      simp only [jm_p9] at h9
      split at h9
      next v =>
        split at h9
        next hc2 =>
          cases h9
          refine va_forget (fun q hq => hS.2.2 q hq) ?_
          refine W.widen (k := 601024) (n := 7293034) (by omega) (by omega) ?_
          exact lw_ret hx hb hr hlocks hd9
        next => cases h9
      next => cases h9
    | lreturn =>
      simp only [jm_p9] at h9
      repeat' split at h9
      all_goals cases h9
    | areturn =>
      simp only [jm_p9] at h9
      repeat' split at h9
      all_goals cases h9
    | return_ =>
      simp only [jm_p9] at h9
      repeat' split at h9
      all_goals cases h9
    | new x =>
      simp only [jm_p9] at h9
      repeat' split at h9
      all_goals cases h9
    | _ => simp [jm_p9] at h9
set_option maxHeartbeats 4000000 in
theorem lw_walk (hlaw : jm_Law) (l : Launch) (hfl : l.flags = flags0) (b : Addr) (xs : List Int32) : MetFree l x (headSpec (Jvm.Cond.code x code maxLocals ret :: tables_1) room_1) (lw_P b xs) (fun _ _ _ _ _ => True) lw_Q := by
  refine MetFree.of_bodyS (code := code) (maxLocals := maxLocals) (ret := ret) (by decide) ?_ ?_
  · intro args s m h hn
    obtain ⟨meth, c, h1, h2, h3, h4, h5, h6, -, -⟩ := Cond.code_spec hn (atoms_spec (ws := Jvm.Cond.code x code maxLocals ret :: tables_1) h _ List.mem_cons_self)
    exact ⟨meth, c, h1, h2, h3, h4, h5, h6⟩
  · intro p e s m args below meth c s₁ B hml0 hP _
    obtain ⟨rfl, hx, hbd, hgv⟩ := hP
    obtain ⟨scr, harrAt, hlist, hof, hsmall⟩ := hx
    obtain ⟨hcb, hkn, -, -⟩ := State.arrayAt?_spec harrAt
    have hown : s.vm.findClass R_law = some m.cls := findClass_of_methodNamed B.named
    have hts0 : ∀ c ∈ (Jvm.Cond.code x code maxLocals ret :: tables_1), c.before #[Value.ref b] s = true := atoms_spec (ws := Jvm.Cond.code x code maxLocals ret :: tables_1) B.pre
    have hts : ∀ w ∈ lw_tbl, w.before #[Value.ref b] s = true := k2_hts_sels lw_privs (fun w hw => hts0 w (List.mem_cons_of_mem _ hw)) lw_privs_ok
    have hml : c.maxLocals = 8 := B.maxLocals_eq (hts0 _ List.mem_cons_self)
    have X₀ : Stand p l e room_1 s m #[Value.ref b] below meth c s₁ [] 0 0 := Stand.of_body B
    have hh0 : s₁.heap = s.heap := by rw [B.state]; rfl
    have hsz : scr.slots.size = xs.length := by rw [← Array.length_toList, hlist, List.length_map]
    have hval : ∀ j : Nat, j < xs.length → scr.slots[j]? = some (.int (xs.getD j 0)) := fun j hj => by
      rw [← Array.getElem?_toList, hlist]
      simp [hj]
    have hbl : b < s.heap.size := (Array.getElem?_eq_some_iff.mp hcb).1
    have hX : va_X b xs.length (fun j => xs.getD j 0) s s.heap := ⟨scr, hcb, hof, hkn, hsz, hval⟩
    have K : W p l e room_1 s m #[Value.ref b] below meth c s₁.heap [] 0 0 (lw_Z below #[Value.ref b] s) (entryFrame m ([Value.ref b] : List Value).toArray 8) := by
      rw [hh0]
      exact whole_start hlaw l hfl hbd ⟨B.exec, B.bytes, B.returns, hml, hown, hts, hX, hbl, B.notSynchronized, hgv, BodyLoose.noHandlers B (hts0 _ List.mem_cons_self)⟩
    obtain ⟨t, a1, o, b1, b2, b3⟩ := K s₁ rfl X₀
    exact ⟨t, o, a1, b1, b2, b3⟩
theorem lw_pre_spec {args : Array Value} {s : State} (h : (Jvm.Cond.and given_1 narrow_1).before args s = true) (hr : rest_1_c.before args s = true) : ∃ (b : Addr) (xs : List Int32), lw_P b xs args s := by
  have hs := flat_of_before _ h
  have hq := flat_of_before _ hr
  have hc : (Cond.count 1).before args s = true := hs _ (by decide +kernel)
  have harr : (Cond.arrayOf (.arg 0) .int).before args s = true := hs _ (by decide +kernel)
  have hle : (Cond.le (.length (.arg 0)) (.int 2560)).before args s = true := hs _ (by decide +kernel)
  have hlen : (Cond.isInt (.length (.arg 0))).before args s = true := hq _ (by decide +kernel)
  have hall : (Cond.all (.arg 0) (.isInt (.elem (.arg 0) (.index 0)))).before args s = true := hq _ (by decide +kernel)
  obtain ⟨b, xs, hb, hx⟩ := State.ints_of_pre rfl harr hlen hall
  have hsm : xs.length < 2 ^ 31 := hx.choose_spec.2.2.2
  have hev : (Term.length (.arg 0)).eval args s none [] s = some (.int xs.length.toInt32) := hx.length_eval hb
  have hv := Cond.le_ints hev (show (Term.int 2560).eval args s none [] s = some (.int 2560) from rfl)
  have hd : xs.length.toInt32 ≤ 2560 := by
    simpa [Cond.before, Cond.holds, hv] using hle
  have hN : xs.length ≤ 2560 := (Int32.ofNat_le_ofNat hsm (by decide)).mp (show Int32.ofNat xs.length ≤ Int32.ofNat 2560 from hd)
  exact ⟨b, xs, Cond.one_arg hc (show args[0]? = some (.ref b) from hb), hx, hN, h⟩
theorem lw_comes (hlaw : jm_Law) (l : Launch) (hfl : l.flags = flags0) : Comes l x (Jvm.Cond.code x code maxLocals ret :: tables_1) room_1 (fun tb e args s => Calls_1 tb e args s ∧ rest_1 tb e args s ∧ Pre_1 tb e args s)
    (fun _ _ args s o t => lw_Q args s o t) := by
  intro p e ha hc hk s m args below hf hfit hheap happ hpre
  obtain ⟨b, xs, hP⟩ := lw_pre_spec hpre.2.2 hpre.2.1
  obtain ⟨k, o, h1, h2, h3, hQ⟩ := lw_walk hlaw l hfl b xs p e ha hc hk s m args below hf ((Spec.applies_iff_loose hf).mp happ).1 hP trivial
  exact ⟨k, o, h1, h2, h3, hQ⟩
theorem lw_frame {s t : State} {o : Outcome} {args : Array Value} (h : Framed s o t [] 601024 7293034) :
    Framed s o t (fieldLocs frame_1_writes args s ++ arrayLocs frame_1_arrays args s ++ staticLocs frame_1_statics s) 601024 7293034 := h
theorem lw_limb (hlaw : jm_Law) (L : Cond) (hL : ∀ (args : Array Value) (s t : State), L.after args s (.returned (some (.int 1))) t = true) :
    ArmFor flags0 classFile x code maxLocals ret World_1 tables_1 room_1 Calls_1 rest_1 Pre_1
      (fun tb e a s o t => postC L tb e a s o t ∧ Framed s o t (fieldLocs frame_1_writes a s ++ arrayLocs frame_1_arrays a s ++ staticLocs frame_1_statics s) 601024 7293034) := by
  intro l hfl _ _ p e ha hc hk s m args below hf hfit hheap happ hpre
  obtain ⟨k, o, h1, h2, h3, rfl, hF⟩ := lw_comes hlaw l hfl p e ha hc hk s m args below hf hfit hheap happ hpre
  exact ⟨k, _, h1, h2, h3, hL args s _, lw_frame hF⟩
