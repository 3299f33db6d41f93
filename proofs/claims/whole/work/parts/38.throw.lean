/-! a throw ends a method -/
theorem jm_zq_isRef {C n d : String} {A : Nat → Prop} {U : State} (h : va_Zq C n d A U U.heap) (args : Array Value) : (Cond.isRef (.static C n d)).before args U = true := by
  have key : ∀ v, va_Z C n d v A U U.heap → (Term.static C n d).eval args U none [] U = some v := by
    intro v hz
    obtain ⟨cf, kf, fi, f, a, cell, h1, h2, h3, h4, h5, h6, h7, -⟩ := hz
    simp [Term.eval, State.fieldNamed?, h1, h2, h4, h5, h6, h7]
  rcases h with h | ⟨t, h⟩
  · simp [Cond.before, Cond.holds, Cond.value, key _ h]
  · simp [Cond.before, Cond.holds, Cond.value, key _ h]
theorem jm_atoms_of {B : Nat} {s : State} {args : Array Value} (hts : ∀ w ∈ jm_W, w.before args s = true) (hEx : jm_Ex B s) {l0 : List Cond} {ps : List Nat} {X : String} (hX : X ∈ jm_xcs) (h1 : l0 = ps.filterMap (fun i => jm_xl[i]?))
    (h2 : l0.filter (fun a => !goodWord a) = [.laysStatic "java/lang/Throwable" "UNASSIGNED_STACK" "[Ljava/lang/StackTraceElement;", .laysStatic "java/lang/Throwable" "SUPPRESSED_SENTINEL" "Ljava/util/List;", .declares ⟨"java/lang/RuntimeException", "<init>", "()V"⟩, .declares ⟨"java/lang/Exception", "<init>", "()V"⟩, .declares ⟨"java/lang/Throwable", "<init>", "()V"⟩, .castable X X, jm_st1w, jm_st2w]) : ∀ a ∈ l0, a.before args s = true := by
  intro a ha
  have e1 : jm_st1w.before args s = true := jm_zq_isRef hEx.2.2.2.2.2.1 args
  have e2 : jm_st2w.before args s = true := jm_zq_isRef hEx.2.2.2.2.2.2.1 args
  by_cases hg : goodWord a = true
  · have ha2 := ha
    rw [h1] at ha2
    obtain ⟨i, -, hi⟩ := List.mem_filterMap.mp ha2
    rcases List.mem_append.mp (List.mem_of_getElem? hi) with h | h
    · exact hts _ (jm_W_of h hg)
    · simp only [List.mem_cons, List.not_mem_nil, or_false] at h
      rcases h with rfl | rfl
      · exact e1
      · exact e2
  · have hf : a ∈ l0.filter (fun a => !goodWord a) := List.mem_filter.mpr ⟨ha, by simpa using hg⟩
    rw [h2] at hf
    simp only [List.mem_cons, List.not_mem_nil, or_false] at hf
    rcases hf with rfl | rfl | rfl | rfl | rfl | rfl | rfl | rfl
    · exact jm_Ls.use hEx.2.2.2.2.2.2.2.1 args
    · exact jm_Ls.use hEx.2.2.2.2.2.2.2.2 args
    · exact va_Nw.use rfl (hEx.2.2.2.2.1 _ (by simp [jm_dcl]))
    · exact va_Nw.use rfl (hEx.2.2.2.2.1 _ (by simp [jm_dcl]))
    · exact va_Nw.use rfl (hEx.2.2.2.2.1 _ (by simp [jm_dcl]))
    · exact va_Nw.use rfl (hEx.2.2.1 _ hX)
    · exact e1
    · exact e2
theorem jm_atoms {B : Nat} {s : State} {args : Array Value} (hts : ∀ w ∈ jm_W, w.before args s = true) (hEx : jm_Ex B s) {x : Nat} (hx : x = 50 ∨ x = 51 ∨ x = 52 ∨ x = 53) : ∀ a ∈ Bundle.ownAtoms0 "CaptureBench" (jm_ic x) (jm_xn x) jm_ups, a.before args s = true := by
  rcases hx with rfl | rfl | rfl | rfl
  · exact jm_atoms_of hts hEx (by decide) jm_own0 jm_bad0
  · exact jm_atoms_of hts hEx (by decide) jm_own1 jm_bad1
  · exact jm_atoms_of hts hEx (by decide) jm_own2 jm_bad2
  · exact jm_atoms_of hts hEx (by decide) jm_own3 jm_bad3
section JS8
variable {p : Program} {l : Launch} {e : Env} {R : Room} {s : State} {m : MethodId} {args : Array Value} {below : List Frame} {meth : Method} {c : Code} {locs : List Loc} {cells slots : Nat}
/-- the walk so far taken as the method's start -/
theorem jm_rebase {T : State} (X : Stand p l e R s m args below meth c T locs cells slots) {R' : Room} (hf : R'.frames ≤ R.frames) (hl : R'.locals ≤ R.locals) (hc : cells + R'.cells ≤ R.cells) (hsl : slots + R'.slots ≤ R.slots) :
    Stand p l e R' (T.setFrames (.invoking m args :: below)) m args below meth c T [] 0 0 := by
  obtain ⟨g₀, hg⟩ := X.frames_eq
  obtain ⟨t, ht, -⟩ := State.frames_cons hg
  have hcur : T.cur < T.threads.size := State.cur_lt_of_frames hg
  have hfr : (T.setFrames (.invoking m args :: below)).frames = .invoking m args :: below := State.frames_setFrames _ hcur
  have hmeth : (T.setFrames (.invoking m args :: below)).vm.method? m = some meth := X.method'
  have hlim : e.platform.stackLimits (T.setFrames (.invoking m args :: below)).me = e.platform.stackLimits s.me := (State.stackLimits_setFrames _ _ _).trans X.limits
  have hby : (T.setFrames (.invoking m args :: below)).me.stackBytes = s.me.stackBytes := (State.stackBytes_setFrames _ _).trans X.bytes
  refine ⟨X.admits, X.cas, X.clock, hfr, ?_, ?_, hmeth, X.code, X.here, X.tail, State.WarmedH.refl _, (State.stackLimits_setFrames _ _ _).symm, (State.stackBytes_setFrames _ _).symm, ?_⟩
  · have hr := X.room
    have h1 := X.heapSize
    have h2 := X.used
    have hbk := X.book
    simp only [State.hasRoom, Bool.and_eq_true, decide_eq_true_eq] at hr ⊢
    rw [State.localsInUse_invoking X.frames X.method X.code, X.frames] at hr
    rw [State.localsInUse_invoking hfr hmeth X.code, hfr, hlim, hby]
    have e1 : (T.setFrames (.invoking m args :: below)).heap.size = T.heap.size := rfl
    have e2 : (T.setFrames (.invoking m args :: below)).slotsUsed = T.slotsUsed := rfl
    rw [e1, e2]
    obtain ⟨⟨⟨⟨a1, a2, a3, a4, a5, a6⟩, a7⟩, a8⟩, a9⟩ := hr
    exact ⟨⟨⟨⟨by omega, by omega, by omega, by omega, by omega, a6⟩, by omega⟩, by omega⟩, hbk⟩
  · have hh := X.hears
    have ha := X.warmed.alike
    unfold State.hears at hh ⊢
    have hcd : ∀ q : MethodId, (T.setFrames (.invoking m args :: below)).code? q = s.code? q := by
      intro q
      rw [State.code?_eq, State.code?_eq]
      show (T.vm.method? q).bind _ = _
      rw [ha.method?]
    split at hh
    next g r => simp only [hcd]; exact hh
    next => rfl
    next => rfl
    next h1 h2 h3 =>
      rw [show (T.setFrames (.invoking m args :: below)).vm.method? m = s.vm.method? m from ha.method? m]
      exact hh
  · obtain ⟨t2, ht2, -⟩ := State.frames_cons hfr
    have h := (State.sameButNew.refl (T.setFrames (.invoking m args :: below)) ht2).setFrames T.frames (State.cur_lt_of_frames hfr)
    rw [State.setFrames_setFrames, State.setFrames_self ht] at h
    exact h
theorem jm_same_nil {s U : State} {k n : Nat} (h : s.sameButNew U [] k n) {q : Nat} {cell : Cell} (hq : s.heap[q]? = some cell) : U.heap[q]? = some cell := by
  obtain ⟨c', h1, h2, h3, h4⟩ := h.2.2.2.2.2 q cell hq
  rw [h1]
  have hs : c'.slots = cell.slots := by
    apply Array.ext_getElem?
    intro i
    exact h4 i (by simp)
  rw [h2, hs]
end JS8
set_option maxHeartbeats 4000000 in
theorem jm_throwRow {l : Launch} (hfl : l.flags = pinnedFlags ++ [noTraceFlag]) (B b L : Nat) (xs : Nat → Int32) (D : va_G) (tc : Nat → ClassId) : jm_ThrowRow l B b L xs D tc := by
  intro p e R s m args below meth c H locs cells slots mi pc len x ls st i g g' C ht hlen hexE h9 hrf hrl hrc hrs hls hR hS
  obtain ⟨hx, hb, hml, hrt, hlk, hown, hnm, hts, hK, hXs, hbB, hBs, hEx⟩ := C
  cases i with
  | new idx =>
    obtain rfl : 3 = len := hlen
    simp only [jm_p9] at h9
    split at h9
    next =>
      split at h9
      next cx hcl =>
        split at h9
        next h50 =>
          cases h9
          have hd := jm_dec ht
          have hmem : (jm_oc mi, idx, x) ∈ jm_cls := jm_find2 hcl
          obtain ⟨hoc, hx4⟩ := jm_clx_eq _ hmem h50
          dsimp only at hoc hx4
          have hx4m : x ∈ ([50, 51, 52, 53] : List Nat) := by rcases hx4 with rfl | rfl | rfl | rfl <;> decide
          have hW1 : Cond.classLink (jm_on (jm_oc mi)) idx (jm_xn x) ∈ jm_W := jm_mem _ jm_clxk (List.mem_map.mpr ⟨_, List.mem_filter.mpr ⟨hmem, decide_eq_true h50⟩, rfl⟩)
          have hW2 : Cond.instantiable (jm_xn x) 6 ∈ jm_W := jm_mem _ jm_xik (List.mem_map.mpr ⟨x, hx4m, rfl⟩)
          have hW3 : Cond.initialized (jm_xn x) ∈ jm_W := jm_mem _ jm_xjk (List.mem_map.mpr ⟨x, hx4m, rfl⟩)
          have hthb := List.all_eq_true.mp (jm_th_ok mi (jm_tab_lt ht)) _ (jm_look_mem ht)
          simp only [jm_thb, hcl, Bool.or_eq_true, decide_eq_true_eq, Bool.and_eq_true] at hthb
          obtain ⟨t3, t4, t7⟩ : jm_tab mi (pc + 3) = some (.dup, 1) ∧ jm_tab mi (pc + 4) = some (.invokespecial (jm_ic x), 3) ∧ jm_tab mi (pc + 7) = some (.athrow, 1) := by
            rcases hthb with q | q
            · omega
            · exact q
          have hd3 := jm_dec t3
          have hd4 := jm_dec t4
          have hd7 := jm_dec t7
          have hf1 : Bundle.fit (jm_xn x) = true := by rcases hx4 with rfl | rfl | rfl | rfl <;> decide +kernel
          have hf2 : ∀ n ∈ jm_ups, Bundle.fit n = true := by decide +kernel
          intro T hT X
          have X' := jm_rebase X (R' := { frames := R.frames, cells := 1, slots := 6, locals := R.locals }) (Nat.le_refl _) (Nat.le_refl _) hrc hrs
          generalize hs' : T.setFrames (.invoking m args :: below) = s' at X'
          have hvm' : s'.vm = T.vm := by rw [← hs']; rfl
          have hhp' : s'.heap = H := by rw [← hs', ← hT]; rfl
          have hWm : s.WarmedH s'.vm := by rw [hvm']; exact X.warmed
          have hts' : ∀ w ∈ jm_W, w.before args s' = true := fun w hw => word_at hWm (good_of_word (jm_W_good hw)) (hts w hw)
          have hEx' : jm_Ex B s' := hEx.go hWm (fun a h1 h2 => by rw [hhp']; exact hS.2.1 a h1 h2)
          have hown' : s'.vm.findClass (jm_on (jm_oc mi)) = some m.cls := by rw [hWm.alike.findClass]; exact hown
          have hat := jm_atoms hts' hEx' hx4
          have key : W p l e { frames := R.frames, cells := 1, slots := 6, locals := R.locals } s' m args below meth c H [] 0 0 (jm_MQT below (jm_QT B b D tc (jm_junk g) x) args s (cells + 1) (slots + 6) (jm_A B)) (F0 m pc ls []) := by
            refine W.newc hx hb hown' (hts' _ hW1) (hts' _ hW2) (hts' _ hW3) rfl hd (Nat.le_refl _) (Nat.le_refl _) fun cC kC f1 f2 f3 f4 => ?_
            refine lv_dup hx hb hd3 rfl ?_
            intro T2 hT2 X2
            have hc2 : T2.heap[H.size]? = some (freshCell cC kC) := by rw [hT2]; simp [freshCell]
            obtain ⟨U, hst, hrun, hend, hwarm, hsame, ce, hce, hoc2⟩ := X2.ctorThrow0 hx (Launch.traces_off hfl X2.admits) (own := "CaptureBench") (cls := jm_xn x) (names := jm_ups) (ic := jm_ic x) (by rw [hoc] at hown'; exact hown') hf1 hf2 hat (by simp) (a := H.size) f1 f2 hc2 (by rw [hhp']; exact Nat.le_refl _)
              (g := F0 m (pc + 4) ls [.ref H.size, .ref H.size]) rfl (by rw [hml]; exact hls) rfl rfl (rest := []) rfl (by rw [hb]; exact hd4) (by rw [hb]; exact hd7) (by rw [hexE]; intro y hy; cases hy) (by show 2 + 3 < R.frames; omega) (by show 2 * 0 + (1 + 0) + (13 * (2 + 1) + 41) ≤ R.locals; omega) hlk
            have hkeep : ∀ q : Nat, q < H.size → U.heap[q]? = H[q]? := by
              intro q hq
              have hq1 : H[q]? = some H[q] := Array.getElem?_eq_getElem hq
              rw [hq1]
              exact jm_same_nil hsame (by rw [hhp']; exact hq1)
            have hszU : H.size ≤ U.heap.size := by
              have := hsame.2.1
              rw [hhp'] at this
              exact this
            refine ⟨U, hst, .threw H.size, hrun, hend, ⟨H.size, ce, rfl, hce, by rw [hoc2.vm]; rfl, ?_, ?_, ?_⟩, locs, ⟨⟨_, rfl⟩, ?_, ?_⟩, hS.2.2⟩
            · rw [hwarm.alike.findClass]
              exact hoc2.cls
            · show va_P D jm_classes (jm_ws B b tc g) U.heap
              exact va_P.kept hR (fun k q hk => hkeep _ (hR k q hk).lt)
            · exact ⟨Nat.le_trans hS.1 hszU, fun q h1 h2 => (hkeep q (Nat.lt_of_lt_of_le h1 hS.1)).trans (hS.2.1 q h1 h2)⟩
            · have hw2 : T.WarmedH U.vm := by rw [← hs'] at hwarm; exact hwarm
              exact State.WarmedH.trans X.warmed hw2
            · have hs2 : T.sameButNew ({ U with vm := T.vm } : State) [] 1 6 := by
                obtain ⟨e2, q2, q3, q4, q5, q6⟩ := hsame
                rw [← hs'] at e2 q2 q3 q4 q5 q6
                refine ⟨?_, q2, q3, q4, q5, q6⟩
                rw [State.setFrames_setFrames] at e2
                exact e2
              have h3 := X.same.trans (hs2.setVm s.vm)
              rw [List.append_nil] at h3
              exact h3
          exact key T hT X'
        next => cases h9
      next => cases h9
    next => cases h9
  | ireturn =>
    simp only [jm_p9] at h9
    repeat' split at h9
    all_goals cases h9
  | lreturn =>
    simp only [jm_p9] at h9
    repeat' split at h9
    all_goals cases h9
  | areturn =>
    simp only [jm_p9] at h9
    repeat' split at h9
    all_goals cases h9
  | return_ =>
    simp only [jm_p9] at h9
    repeat' split at h9
    all_goals cases h9
  | _ => simp [jm_p9] at h9
