/-! whole runs -/
def jm_xn (x : Nat) : String := jm_xcs.getD (x - 50) "?"
def jm_FET (first : State) (o : Outcome) (t : State) (L : List Loc) (k n : Nat) : Prop :=
  (∃ a, o = .threw a) ∧ first.WarmedH t.vm ∧ first.sameButNew ({ t with vm := first.vm } : State) L k n
/-- the end of a method that throws -/
def jm_QT (B b : Nat) (D : va_G) (tc : Nat → ClassId) (g' : jm_H) (x : Nat) : Array Value → State → Outcome → State → Prop := fun _ st oc t =>
  ∃ (a : Addr) (cell : Cell), oc = .threw a ∧ t.heap[a]? = some cell ∧ cell.vm.isStatics = false ∧ t.vm.findClass (jm_xn x) = some cell.cls ∧ jm_R B b D tc g' t.heap ∧ va_F (jm_A B) st t
def jm_MQT (below : List Frame) (Qc : Array Value → State → Outcome → State → Prop) (a : Array Value) (s : State) (mc ms : Nat) (free : Addr → Prop) : State → Prop := fun t =>
  ∃ o, t.status = .running ∧ Ended t below o ∧ Qc a s o t ∧ ∃ L, jm_FET s o t L mc ms ∧ ∀ q ∈ L, free q.base
def jm_MetT (l : Launch) (y : MethodName) (ws : List Cond) (rm : Room) (Pc : Array Value → State → Prop) (Qc : Array Value → State → Outcome → State → Prop) (mc ms : Nat) (free : Addr → Prop) : Prop :=
  MetFree l y (headSpec ws rm) Pc (fun _ _ _ _ _ => True) (fun a st o t => Qc a st o t ∧ ∃ L, jm_FET st o t L mc ms ∧ ∀ q ∈ L, free q.base)
theorem jm_MetT_ofW {l : Launch} {y : MethodName} {ws ws' : List Cond} {rm : Room} {Pc : Array Value → State → Prop} {Qc : Array Value → State → Outcome → State → Prop} {mc ms : Nat} {free : Addr → Prop} {cc : ByteArray} {maxL : Nat} {ret : Option FieldType}
    (hy : plainFor y = true) (hw : ws = Cond.code y cc maxL ret :: ws')
    (body : ∀ p e s m args below meth c s₁, BodyLoose p l y (headSpec ws rm) cc maxL ret e s m args below meth c s₁ → c.maxLocals = maxL → Pc args s →
      W p l e (headSpec ws rm).room s m args below meth c s.heap [] 0 0 (jm_MQT below Qc args s mc ms free) (entryFrame m args maxL)) : jm_MetT l y ws rm Pc Qc mc ms free := by
  refine MetFree.of_bodySF (code := cc) (maxLocals := maxL) (ret := ret) hy ?_ ?_
  · intro args s m h hn
    obtain ⟨meth, c, h1, h2, h3, h4, h5, h6, -, -⟩ := Cond.code_spec hn (atoms_spec (ws := ws) h _ (by rw [hw]; exact List.mem_cons_self))
    exact ⟨meth, c, h1, h2, h3, h4, h5, h6⟩
  · intro p e s m args below meth c s₁ B hml hP _
    have hh0 : s₁.heap = s.heap := by rw [B.state]; rfl
    obtain ⟨t, a1, o, b1, b2, b3⟩ := body p e s m args below meth c s₁ B hml hP s₁ hh0 (Stand.of_body B)
    exact ⟨t, o, a1, b1, b2, ⟨b3.1, b3.2⟩⟩
theorem jm_MetT_ofWW {l : Launch} {y : MethodName} {ws ws' : List Cond} {rm : Room} {Pc : Array Value → State → Prop} {Qc : Array Value → State → Outcome → State → Prop} {mc ms : Nat} {free : Addr → Prop} {cc : ByteArray} {maxL : Nat} {ret : Option FieldType} {hh : List (Nat × Nat × Nat × Nat)}
    (hy : plainFor y = true) (hw : ws = Cond.codeWith y cc maxL ret hh :: ws')
    (body : ∀ p e s m args below meth c s₁, BodyLoose p l y (headSpec ws rm) cc maxL ret e s m args below meth c s₁ → c.maxLocals = maxL → Pc args s →
      W p l e (headSpec ws rm).room s m args below meth c s.heap [] 0 0 (jm_MQT below Qc args s mc ms free) (entryFrame m args maxL)) : jm_MetT l y ws rm Pc Qc mc ms free := by
  refine MetFree.of_bodySF (code := cc) (maxLocals := maxL) (ret := ret) hy ?_ ?_
  · intro args s m h hn
    obtain ⟨m9, meth, c, hn9, h1, h2, h3, h4, -, h5, h6, -⟩ := Cond.codeWith_spec (atoms_spec (ws := ws) h _ (by rw [hw]; exact List.mem_cons_self))
    cases hn.symm.trans hn9
    exact ⟨meth, c, h1, h2, h3, h4, h5, h6⟩
  · intro p e s m args below meth c s₁ B hml hP _
    have hh0 : s₁.heap = s.heap := by rw [B.state]; rfl
    obtain ⟨t, a1, o, b1, b2, b3⟩ := body p e s m args below meth c s₁ B hml hP s₁ hh0 (Stand.of_body B)
    exact ⟨t, o, a1, b1, b2, ⟨b3.1, b3.2⟩⟩
theorem jm_cls_50 : ∀ r ∈ jm_cls, 50 ≤ r.2.2 → r.1 = 0 := by decide +kernel
theorem jm_hh_0 : ∀ k, k < jm_NM → jm_hh k = [] ∨ jm_oc k = 13 := by decide +kernel
theorem jm_thr_oc {k : Nat} {i : Instr} {st : List Value} {g g1 : jm_H} {x : Nat} (h : jm_p9 k (jm_oc k) i st g = some (.inr x, g1)) : jm_oc k = 0 := by
  unfold jm_p9 at h
  repeat' split at h
  all_goals first | (cases h; done) | skip
  next hcl hc =>
    cases h
    exact jm_cls_50 _ (jm_find2 hcl) hc
theorem jm_thr_hh (k : Nat) (i : Instr) (st : List Value) (g : jm_H) (x : Nat) (g1 : jm_H) (h : jm_p9 k (jm_oc k) i st g = some (.inr x, g1)) : jm_hh k = [] := by
  have h0 := jm_thr_oc h
  by_cases hk : k < jm_NM
  · rcases jm_hh_0 k hk with q | q
    · exact q
    · rw [h0] at q; cases q
  · obtain ⟨n, rfl⟩ : ∃ n, k = n + jm_NM := ⟨k - jm_NM, by omega⟩
    rfl
/-- the two rows on exceptions that runs need: a throw ends a method; a call that threw goes on in the handler -/
def jm_ThrowRow (l : Launch) (B b L : Nat) (xs : Nat → Int32) (D : va_G) (tc : Nat → ClassId) : Prop :=
  ∀ {p : Program} {e : Env} {R : Room} {s : State} {m : MethodId} {args : Array Value} {below : List Frame} {meth : Method} {c : Code} {H : Heap} {locs : List Loc} {cells slots mi pc len x : Nat} {ls : Array Slot} {st : List Value} {i : Instr} {g g' : jm_H},
    jm_Cx B b L xs D tc mi p s m args meth c → jm_tab mi pc = some (i, len) → jm_len i len = len → c.exceptionTable.toList = [] → jm_p9 mi (jm_oc mi) i st g = some (.inr x, g') → 8 ≤ R.frames → 200 ≤ R.locals → cells + 1 ≤ R.cells → slots + 6 ≤ R.slots → ls.size = jm_ml mi →
    jm_R B b D tc g H → va_S (jm_A B) s.heap H locs →
    W p l e R s m args below meth c H locs cells slots (jm_MQT below (jm_QT B b D tc g' x) args s (cells + 1) (slots + 6) (jm_A B)) (F0 m pc ls (st.map (jm_rz B b)))
def jm_CatchRow (l : Launch) (B b L : Nat) (xs : Nat → Int32) (D : va_G) (tc : Nat → ClassId) : Prop :=
  ∀ {p : Program} {e : Env} {R : Room} {s : State} {m : MethodId} {args : Array Value} {below : List Frame} {meth : Method} {c : Code} {H : Heap} {locs : List Loc} {cells slots mi pc len x d mc ms k pc' h k1 : Nat} {ls : Array Slot} {st st' av : List Value} {i : Instr} {g g1 : jm_H} {f : jm_F} {Q : State → Prop},
    jm_Cx B b L xs D tc mi p s m args meth c → jm_tab mi pc = some (i, len) → jm_len i len = len → c.exceptionTable.toList = tableOf (jm_hh mi) → jm_p8 (jm_oc mi) pc i st g = some (k, av, pc', st') → jm_hn mi pc x = some (h, k1) →
    jm_MetT l (jm_y k) (jm_cw k :: jm_W) (jm_rm d mc ms) (jm_Pc B b L xs D tc g av) (jm_QT B b D tc g1 x) mc ms (jm_A B) → d + 9 ≤ R.frames → 64 * d + 264 ≤ R.locals → cells + mc ≤ R.cells → slots + ms ≤ R.slots →
    jm_loc B b ls (jm_ml mi) f → jm_R B b D tc g H → va_S (jm_A B) s.heap H locs → H.size ≤ B + (jm_n g + jm_j g) →
    (∀ (H1 : Heap) (locs1 : List Loc) (ls1 : Array Slot), jm_loc B b ls1 (jm_ml mi) (fun _ => none) → jm_R B b D tc g1 H1 → va_S (jm_A B) s.heap H1 locs1 → W p l e R s m args below meth c H1 locs1 (cells + mc) (slots + ms) Q (F0 m h ls1 [])) →
    W p l e R s m args below meth c H locs cells slots Q (F0 m pc ls (st.map (jm_rz B b)))
def jm_Last (l : Launch) (B b : Nat) (D : va_G) (tc : Nat → ClassId) (mi c0 z0 : Nat) (o : Option Value ⊕ Nat) (gF : jm_H) (p : Program) (e : Env) (R : Room) (s : State) (m : MethodId) (args : Array Value) (below : List Frame) (meth : Method) (c : Code) (Q : State → Prop) : Prop :=
  ∀ (i : Instr) (len pc : Nat) (ls : Array Slot) (st : List Value) (g : jm_H) (H : Heap) (locs : List Loc) (cells slots : Nat), jm_tab mi pc = some (i, len) → jm_len i len = len → jm_p9 mi (jm_oc mi) i st g = some (o, gF) → c0 + cells = jm_n g + jm_j g → z0 + slots = jm_z g → jm_R B b D tc g H → va_S (jm_A B) s.heap H locs → ls.size = jm_ml mi →
    W p l e R s m args below meth c H locs cells slots Q (F0 m pc ls (st.map (jm_rz B b)))
theorem jm_hh_p : ∀ k, k < jm_NM → jm_hh k = [] ∨ plainName (jm_on (jm_oc k)) = true := by decide +kernel
section JS7
variable {l : Launch} {B b L : Nat} {xs : Nat → Int32} {D : va_G} {tc : Nat → ClassId}
set_option maxHeartbeats 4000000 in
theorem jm_sim (hThrow : jm_ThrowRow l B b L xs D tc) (hCatch : jm_CatchRow l B b L xs D tc) : ∀ (n d mi pc : Nat) (f : jm_F) (st : List Value) (g : jm_H) (o : Option Value ⊕ Nat) (gF : jm_H), jm_run L xs n d mi pc f st g = some (o, gF) →
    ∀ {p : Program} {e : Env} {R : Room} {s : State} {m : MethodId} {args : Array Value} {below : List Frame} {meth : Method} {c : Code} {H : Heap} {locs : List Loc} {cells slots c0 z0 : Nat} {ls : Array Slot} {Q : State → Prop},
    jm_Cx B b L xs D tc mi p s m args meth c → c.exceptionTable.toList = tableOf (jm_hh mi) → s.heap.size ≤ B + c0 → d + 8 ≤ R.frames → 64 * d + 200 ≤ R.locals → jm_n gF + jm_j gF ≤ c0 + R.cells → jm_z gF ≤ z0 + R.slots → c0 + cells = jm_n g + jm_j g → z0 + slots = jm_z g →
    jm_R B b D tc g H → va_S (jm_A B) s.heap H locs → jm_loc B b ls (jm_ml mi) f → jm_Last l B b D tc mi c0 z0 o gF p e R s m args below meth c Q → W p l e R s m args below meth c H locs cells slots Q (F0 m pc ls (st.map (jm_rz B b))) := by
  intro n
  induction n with
  | zero => intro d mi pc f st g o gF h; simp [jm_run] at h
  | succ n ih =>
    intro d mi pc f st g o gF h p e R s m args below meth c H locs cells slots c0 z0 ls Q C hex hs0 hrf hrl hrc hrs hc0 hz0 hR hS hl hLast
    have hle0 := jm_run_le L xs (n + 1) d mi pc f st g o gF h
    unfold jm_run at h
    cases hs : jm_step L xs mi pc f st g with
    | none => rw [hs] at h; cases h
    | some y =>
      rw [hs] at h
      obtain ⟨i, len, ht, hlen, hi⟩ := jm_step_or hs
      have hd := jm_dec ht
      have C' := C
      obtain ⟨hx, hb, hml, hrt, hlk, hown, hnm, hts, hK, hXs, hbB, hBs, hEx⟩ := C'
      rcases jm_ins_or hi with ⟨a, b1, d1, h1, rfl⟩ | ⟨a, b1, d1, h1, rfl⟩ | ⟨a, b1, d1, h1, rfl⟩ | ⟨a, b1, d1, g', h1, rfl⟩ | ⟨a, b1, d1, g', h1, rfl⟩ | ⟨a, b1, d1, g', h1, rfl⟩ | ⟨a, b1, d1, g', h1, rfl⟩ | ⟨k, av, pc', st', h1, rfl⟩ | ⟨o1, g', h1, rfl⟩
      · exact jm_ok1 hx hb hd hlen hl h1 (fun ls' hl' => ih _ _ _ _ _ _ _ _ h C hex hs0 hrf hrl hrc hrs hc0 hz0 hR hS hl' hLast)
      · exact jm_ok2 hx hb hd hlen hl h1 (fun ls' hl' => ih _ _ _ _ _ _ _ _ h C hex hs0 hrf hrl hrc hrs hc0 hz0 hR hS hl' hLast)
      · exact jm_ok3 hx hb hd hlen hl h1 (fun ls' hl' => ih _ _ _ _ _ _ _ _ h C hex hs0 hrf hrl hrc hrs hc0 hz0 hR hS hl' hLast)
      · obtain ⟨q1, q2⟩ := jm_p4_n h1
        exact (jm_ok4 hx hb hd hlen hts hown hK hnm hR hS hl h1 (fun H' locs' hl' hR' hS' => ih _ _ _ _ _ _ _ _ h C hex hs0 hrf hrl hrc hrs (by rw [q1, q2]; exact hc0) (by unfold jm_z; rw [q1, q2]; exact hz0) hR' hS' hl' hLast)).2.2
      · obtain ⟨q1, q2⟩ := jm_p5_n h1
        exact (jm_ok5 hx hb hd hlen hK hXs (Nat.lt_of_lt_of_le hbB hBs) hbB hR hS hl h1 (fun H' locs' hl' hR' hS' => ih _ _ _ _ _ _ _ _ h C hex hs0 hrf hrl hrc hrs (by rw [q1, q2]; exact hc0) (by unfold jm_z; rw [q1, q2]; exact hz0) hR' hS' hl' hLast)).2.2
      · have q := jm_p6_n h1
        subst q
        have hle := jm_run_le L xs _ _ _ _ _ _ _ _ _ h
        have hl1 : jm_n g + 1 + jm_j g ≤ jm_n gF + jm_j gF := hle.1
        have hl2 := hle.2
        rw [jm_z_new] at hl2
        exact (jm_ok6 (c0 := c0) hx hb hd hlen hts hown hK hEx.2.1 hc0 hs0 hBs (by omega) (by omega) hR hS hl h1 (fun H' locs' hl' hR' hS' => ih _ _ _ _ _ _ _ _ h C hex hs0 hrf hrl hrc hrs (by show c0 + (cells + 1) = jm_n g + 1 + jm_j g; omega) (by rw [jm_z_new]; omega) hR' hS' hl' hLast)).2
      · obtain ⟨q1, q2⟩ := jm_p7_n h1
        have hl1 := hle0.1
        have hl2 := hle0.2
        exact (jm_ok7 hx hb hml hd hlen hts hown hK (by omega) (by omega) (by omega) (by omega) hR hS hl h1 (fun H' locs' hl' hR' hS' => ih _ _ _ _ _ _ _ _ h C hex hs0 hrf hrl hrc hrs (by rw [q1, q2]; exact hc0) (by unfold jm_z; rw [q1, q2]; exact hz0) hR' hS' hl' hLast)).2.2
      · dsimp only at h
        cases d with
        | zero => cases h
        | succ d' =>
          dsimp only at h
          cases hr : jm_run L xs n d' k 0 (jm_ent av) [] g with
          | none => rw [hr] at h; cases h
          | some w =>
            rw [hr] at h
            obtain ⟨hpc, hk0, hkN, hcatk, hrun8⟩ := jm_run8 C hd hlen h1
            obtain ⟨ov, g1⟩ := w
            have hle1 := jm_run_le L xs _ _ _ _ _ _ _ _ _ hr
            obtain ⟨mc, hmc⟩ : ∃ mc, jm_n g + jm_j g + mc = jm_n g1 + jm_j g1 := ⟨_, Nat.add_sub_cancel' hle1.1⟩
            obtain ⟨ms, hms⟩ : ∃ ms, jm_z g + ms = jm_z g1 := ⟨_, Nat.add_sub_cancel' hle1.2⟩
            cases ov with
            | inl v =>
              dsimp only at h
              have hle2 := jm_run_le L xs _ _ _ _ _ _ _ _ _ h
              have hl1 := hle2.1
              have hl2 := hle2.2
              have hbody : ∀ (p : Program) (e : Env) (s : State) (m : MethodId) (args : Array Value) (below : List Frame) (meth : Method) (c : Code), jm_Cx B b L xs D tc k p s m args meth c → c.exceptionTable.toList = tableOf (jm_hh k) → args = (av.map (jm_rz B b)).toArray → jm_R B b D tc g s.heap → s.heap.size ≤ B + (jm_n g + jm_j g) →
                  W p l e (jm_rm d' mc ms) s m args below meth c s.heap [] 0 0 (MQ below (jm_Qc B b D tc g1 v) args s mc ms (jm_A B)) (entryFrame m args (jm_ml k)) := by
                intro p e s m args below meth c Ck hexk hargs hRg hsz
                subst hargs
                rw [lg_entry_eq]
                refine ih d' k 0 (jm_ent av) [] g (.inl v) g1 hr (c0 := jm_n g + jm_j g) (z0 := jm_z g) Ck hexk hsz (Nat.le_refl _) (Nat.le_refl _) (by show _ ≤ _ + mc; omega) (by show _ ≤ _ + ms; omega) rfl rfl hRg va_S.rf (jm_entry hcatk) ?_
                intro i2 len2 pc2 ls2 st2 g2 H2 locs2 cells2 slots2 ht2 hlen2 h92 hc2 hz2 hR2 hS2 hls2
                have hg2 : g1 = g2 := by
                  rcases jm_p9_n h92 with ⟨v2, -, e2⟩ | ⟨x2, e2, -⟩
                  · exact e2
                  · cases e2
                subst hg2
                obtain rfl : cells2 = mc := by omega
                obtain rfl : slots2 = ms := by omega
                obtain ⟨hx2, hb2, -, hrt2, hlk2, -⟩ := Ck
                exact jm_fin hx2 hb2 hrt2 hlk2 (jm_dec ht2) hlen2 hR2 hS2 h92
              have hM : Met l (jm_y k) (jm_cw k :: jm_W) (jm_rm d' mc ms) (jm_Pc B b L xs D tc g av) (jm_Qc B b D tc g1 v) mc ms (jm_A B) := by
                by_cases hh : jm_hh k = []
                · refine va_MetF (cc := jm_b k) (maxL := jm_ml k) (ret := jm_rt k) (jm_plain k hkN) (by rw [jm_cw_nil hh]) ?_
                  intro p e s m args below meth c s₁ Bd hml2 hv
                  obtain ⟨e0, e1, e2, e3, e4, e5, e6⟩ := hv
                  have hts2 := atoms_spec (ws := jm_cw k :: jm_W) Bd.pre
                  have hcode2 := hts2 _ List.mem_cons_self
                  rw [jm_cw_nil hh] at hcode2
                  refine hbody p e s m args below meth c ⟨Bd.exec, Bd.bytes, hml2, Bd.returns, Bd.notSynchronized, findClass_of_methodNamed Bd.named, fun hi2 => ((name_of_methodNamed Bd.named Bd.method).1).trans (jm_rt_i k hkN hi2).2, fun w hw => hts2 w (List.mem_cons_of_mem _ hw), e2, e3, hbB, e4, e6⟩ ?_ e0 e1 e5
                  rw [hh]
                  have he := BodyLoose.noHandlers Bd hcode2
                  simpa [tableOf, Array.isEmpty] using he
                · have hpl : plainName (jm_y k).cls = true := by
                    rcases jm_hh_p k hkN with q | q
                    · exact absurd q hh
                    · exact q
                  refine va_MetW (cc := jm_b k) (maxL := jm_ml k) (ret := jm_rt k) (hh := jm_hh k) hpl (by rw [jm_cw_cons hh]) ?_
                  intro p e s m args below meth c s₁ Bd hml2 hv
                  obtain ⟨e0, e1, e2, e3, e4, e5, e6⟩ := hv
                  have hts2 := atoms_spec (ws := jm_cw k :: jm_W) Bd.pre
                  have hcode2 := hts2 _ List.mem_cons_self
                  rw [jm_cw_cons hh] at hcode2
                  refine hbody p e s m args below meth c ⟨Bd.exec, Bd.bytes, hml2, Bd.returns, Bd.notSynchronized, findClass_of_methodNamed Bd.named, fun hi2 => ((name_of_methodNamed Bd.named Bd.method).1).trans (jm_rt_i k hkN hi2).2, fun w hw => hts2 w (List.mem_cons_of_mem _ hw), e2, e3, hbB, e4, e6⟩ ?_ e0 e1 e5
                  obtain ⟨m9, meth9, c9, hn9, hm9, hc9, -, -, he9, -⟩ := Cond.codeWith_spec hcode2
                  cases hn9.symm.trans Bd.named
                  cases hm9.symm.trans Bd.method
                  cases hc9.symm.trans (Stand.of_body Bd).code
                  rw [← he9]
                  exact (table_eq _).symm
              refine jm_size fun hsz => ?_
              refine jm_back (hrun8 hl.1 hR hS (by omega) hM (by omega) (by omega) (by omega) (by omega)) hBs hS (fun H1 locs1 hR1 hS1 => ?_)
              subst hpc
              have hk := ih (d' + 1) mi (pc + 3) f (v.toList ++ st') g1 o gF h (cells := cells + mc) (slots := slots + ms) C hex hs0 hrf hrl hrc hrs (by omega) (by omega) hR1 hS1 hl hLast
              have hst : (v.toList ++ st').map (jm_rz B b) = (v.map (jm_rz B b)).toList ++ st'.map (jm_rz B b) := by cases v <;> rfl
              rw [hst] at hk
              exact hk
            | inr x =>
              dsimp only at h
              cases hh : jm_hn mi pc x with
              | none => rw [hh] at h; cases h
              | some q =>
                rw [hh] at h
                obtain ⟨h2, k1⟩ := q
                dsimp only at h
                have hle2 := jm_run_le L xs _ _ _ _ _ _ _ _ _ h
                have hl1 := hle2.1
                have hl2 := hle2.2
                have hbodyT : ∀ (p : Program) (e : Env) (s : State) (m : MethodId) (args : Array Value) (below : List Frame) (meth : Method) (c : Code), jm_Cx B b L xs D tc k p s m args meth c → c.exceptionTable.toList = tableOf (jm_hh k) → args = (av.map (jm_rz B b)).toArray → jm_R B b D tc g s.heap → s.heap.size ≤ B + (jm_n g + jm_j g) →
                    W p l e (jm_rm d' mc ms) s m args below meth c s.heap [] 0 0 (jm_MQT below (jm_QT B b D tc g1 x) args s mc ms (jm_A B)) (entryFrame m args (jm_ml k)) := by
                  intro p e s m args below meth c Ck hexk hargs hRg hsz
                  subst hargs
                  rw [lg_entry_eq]
                  refine ih d' k 0 (jm_ent av) [] g (.inr x) g1 hr (c0 := jm_n g + jm_j g) (z0 := jm_z g) Ck hexk hsz (Nat.le_refl _) (Nat.le_refl _) (by show _ ≤ _ + mc; omega) (by show _ ≤ _ + ms; omega) rfl rfl hRg va_S.rf (jm_entry hcatk) ?_
                  intro i2 len2 pc2 ls2 st2 g2 H2 locs2 cells2 slots2 ht2 hlen2 h92 hc2 hz2 hR2 hS2 hls2
                  have hg2 : g1 = jm_junk g2 := by
                    rcases jm_p9_n h92 with ⟨v2, e2, -⟩ | ⟨x2, -, e2⟩
                    · cases e2
                    · exact e2
                  have en : jm_n g1 + jm_j g1 = jm_n g2 + jm_j g2 + 1 := by rw [hg2]; rfl
                  have ez : jm_z g1 = jm_z g2 + 6 := by
                    rw [hg2]
                    show jm_zs (jm_n g2) + 6 * (jm_j g2 + 1) = jm_zs (jm_n g2) + 6 * jm_j g2 + 6
                    omega
                  obtain rfl : mc = cells2 + 1 := by omega
                  obtain rfl : ms = slots2 + 6 := by omega
                  have hhk : jm_hh k = [] := jm_thr_hh k i2 st2 g2 x g1 h92
                  rw [hhk] at hexk
                  exact hThrow Ck ht2 hlen2 hexk h92 (by show 8 ≤ d' + 8; omega) (by show 200 ≤ 64 * d' + 200; omega) (Nat.le_refl _) (Nat.le_refl _) hls2 hR2 hS2
                have hMT : jm_MetT l (jm_y k) (jm_cw k :: jm_W) (jm_rm d' mc ms) (jm_Pc B b L xs D tc g av) (jm_QT B b D tc g1 x) mc ms (jm_A B) := by
                  by_cases hh : jm_hh k = []
                  · refine jm_MetT_ofW (cc := jm_b k) (maxL := jm_ml k) (ret := jm_rt k) (jm_plain k hkN) (by rw [jm_cw_nil hh]) ?_
                    intro p e s m args below meth c s₁ Bd hml2 hv
                    obtain ⟨e0, e1, e2, e3, e4, e5, e6⟩ := hv
                    have hts2 := atoms_spec (ws := jm_cw k :: jm_W) Bd.pre
                    have hcode2 := hts2 _ List.mem_cons_self
                    rw [jm_cw_nil hh] at hcode2
                    refine hbodyT p e s m args below meth c ⟨Bd.exec, Bd.bytes, hml2, Bd.returns, Bd.notSynchronized, findClass_of_methodNamed Bd.named, fun hi2 => ((name_of_methodNamed Bd.named Bd.method).1).trans (jm_rt_i k hkN hi2).2, fun w hw => hts2 w (List.mem_cons_of_mem _ hw), e2, e3, hbB, e4, e6⟩ ?_ e0 e1 e5
                    rw [hh]
                    have he := BodyLoose.noHandlers Bd hcode2
                    simpa [tableOf, Array.isEmpty] using he
                  · refine jm_MetT_ofWW (cc := jm_b k) (maxL := jm_ml k) (ret := jm_rt k) (hh := jm_hh k) (jm_plain k hkN) (by rw [jm_cw_cons hh]) ?_
                    intro p e s m args below meth c s₁ Bd hml2 hv
                    obtain ⟨e0, e1, e2, e3, e4, e5, e6⟩ := hv
                    have hts2 := atoms_spec (ws := jm_cw k :: jm_W) Bd.pre
                    have hcode2 := hts2 _ List.mem_cons_self
                    rw [jm_cw_cons hh] at hcode2
                    refine hbodyT p e s m args below meth c ⟨Bd.exec, Bd.bytes, hml2, Bd.returns, Bd.notSynchronized, findClass_of_methodNamed Bd.named, fun hi2 => ((name_of_methodNamed Bd.named Bd.method).1).trans (jm_rt_i k hkN hi2).2, fun w hw => hts2 w (List.mem_cons_of_mem _ hw), e2, e3, hbB, e4, e6⟩ ?_ e0 e1 e5
                    obtain ⟨m9, meth9, c9, hn9, hm9, hc9, -, -, he9, -⟩ := Cond.codeWith_spec hcode2
                    cases hn9.symm.trans Bd.named
                    cases hm9.symm.trans Bd.method
                    cases hc9.symm.trans (Stand.of_body Bd).code
                    rw [← he9]
                    exact (table_eq _).symm
                refine jm_size fun hsz => ?_
                refine hCatch C ht hlen hex h1 hh hMT (by omega) (by omega) (by omega) (by omega) hl hR hS (by omega) (fun H1 locs1 ls1 hl1 hR1 hS1 => ?_)
                exact ih (d' + 1) mi h2 (fun _ => none) [] g1 o gF h (cells := cells + mc) (slots := slots + ms) C hex hs0 hrf hrl hrc hrs (by omega) (by omega) hR1 hS1 hl1 hLast
      · cases h
        exact hLast i len pc ls st g H locs cells slots ht hlen h1 hc0 hz0 hR hS hl.1
end JS7
