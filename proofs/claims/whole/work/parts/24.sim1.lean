/-! the real machine follows: constants, locals, stack, arithmetic, branches -/
section JS0
variable {p : Program} {l : Launch} {e : Env} {R : Room} {s : State} {m : MethodId} {args : Array Value} {below : List Frame} {meth : Method} {c : Code} {H : Heap} {locs : List Loc} {cells slots : Nat} {Q : State → Prop}
variable {cc : ByteArray} {pc : Nat} {ls : Array Slot} {rest : List Value}
theorem jm_lv_if_eqf (hexec : p.tables.exec = Jvm.exec) (hb : c.code = cc) {x : Int32} {off : Int} (hdg : decode cc pc = .ok (.ifCond .eq off, 3)) (hP : ¬ (x = 0)) (kf : W p l e R s m args below meth c H locs cells slots Q (F0 m (pc + 3) ls rest)) : W p l e R s m args below meth c H locs cells slots Q (F0 m pc ls (.int x :: rest)) := by
  intro T hT X
  obtain ⟨t, a, b⟩ := kf T hT X
  refine ⟨t, ?_, b⟩
  jvm_step X.here [X.here.top, hexec, hb, hdg, Op.ifCond.holds, hP]
  exact a
theorem jm_lv_if_nef (hexec : p.tables.exec = Jvm.exec) (hb : c.code = cc) {x : Int32} {off : Int} (hdg : decode cc pc = .ok (.ifCond .ne off, 3)) (hP : ¬ (¬ x = 0)) (kf : W p l e R s m args below meth c H locs cells slots Q (F0 m (pc + 3) ls rest)) : W p l e R s m args below meth c H locs cells slots Q (F0 m pc ls (.int x :: rest)) := by
  intro T hT X
  obtain ⟨t, a, b⟩ := kf T hT X
  refine ⟨t, ?_, b⟩
  have hP := Classical.not_not.mp hP
  jvm_step X.here [X.here.top, hexec, hb, hdg, Op.ifCond.holds, hP]
  exact a
theorem jm_lv_if_ltf (hexec : p.tables.exec = Jvm.exec) (hb : c.code = cc) {x : Int32} {off : Int} (hdg : decode cc pc = .ok (.ifCond .lt off, 3)) (hP : ¬ (x < 0)) (kf : W p l e R s m args below meth c H locs cells slots Q (F0 m (pc + 3) ls rest)) : W p l e R s m args below meth c H locs cells slots Q (F0 m pc ls (.int x :: rest)) := by
  intro T hT X
  obtain ⟨t, a, b⟩ := kf T hT X
  refine ⟨t, ?_, b⟩
  jvm_step X.here [X.here.top, hexec, hb, hdg, Op.ifCond.holds, hP]
  exact a
theorem jm_lv_if_gef (hexec : p.tables.exec = Jvm.exec) (hb : c.code = cc) {x : Int32} {off : Int} (hdg : decode cc pc = .ok (.ifCond .ge off, 3)) (hP : ¬ (0 ≤ x)) (kf : W p l e R s m args below meth c H locs cells slots Q (F0 m (pc + 3) ls rest)) : W p l e R s m args below meth c H locs cells slots Q (F0 m pc ls (.int x :: rest)) := by
  intro T hT X
  obtain ⟨t, a, b⟩ := kf T hT X
  refine ⟨t, ?_, b⟩
  jvm_step X.here [X.here.top, hexec, hb, hdg, Op.ifCond.holds, hP]
  exact a
theorem jm_lv_if_gtf (hexec : p.tables.exec = Jvm.exec) (hb : c.code = cc) {x : Int32} {off : Int} (hdg : decode cc pc = .ok (.ifCond .gt off, 3)) (hP : ¬ (0 < x)) (kf : W p l e R s m args below meth c H locs cells slots Q (F0 m (pc + 3) ls rest)) : W p l e R s m args below meth c H locs cells slots Q (F0 m pc ls (.int x :: rest)) := by
  intro T hT X
  obtain ⟨t, a, b⟩ := kf T hT X
  refine ⟨t, ?_, b⟩
  jvm_step X.here [X.here.top, hexec, hb, hdg, Op.ifCond.holds, hP]
  exact a
theorem jm_lv_if_lef (hexec : p.tables.exec = Jvm.exec) (hb : c.code = cc) {x : Int32} {off : Int} (hdg : decode cc pc = .ok (.ifCond .le off, 3)) (hP : ¬ (x ≤ 0)) (kf : W p l e R s m args below meth c H locs cells slots Q (F0 m (pc + 3) ls rest)) : W p l e R s m args below meth c H locs cells slots Q (F0 m pc ls (.int x :: rest)) := by
  intro T hT X
  obtain ⟨t, a, b⟩ := kf T hT X
  refine ⟨t, ?_, b⟩
  jvm_step X.here [X.here.top, hexec, hb, hdg, Op.ifCond.holds, hP]
  exact a
theorem jm_lv_icmp_eqf (hexec : p.tables.exec = Jvm.exec) (hb : c.code = cc) {x y : Int32} {off : Int} (hdg : decode cc pc = .ok (.if_icmp .eq off, 3)) (hP : ¬ (x = y)) (kf : W p l e R s m args below meth c H locs cells slots Q (F0 m (pc + 3) ls rest)) : W p l e R s m args below meth c H locs cells slots Q (F0 m pc ls (.int y :: .int x :: rest)) := by
  intro T hT X
  obtain ⟨t, a, b⟩ := kf T hT X
  refine ⟨t, ?_, b⟩
  jvm_step X.here [X.here.top, hexec, hb, hdg, Op.if_icmp.holds, hP]
  exact a
theorem jm_lv_icmp_nef (hexec : p.tables.exec = Jvm.exec) (hb : c.code = cc) {x y : Int32} {off : Int} (hdg : decode cc pc = .ok (.if_icmp .ne off, 3)) (hP : ¬ (¬ x = y)) (kf : W p l e R s m args below meth c H locs cells slots Q (F0 m (pc + 3) ls rest)) : W p l e R s m args below meth c H locs cells slots Q (F0 m pc ls (.int y :: .int x :: rest)) := by
  intro T hT X
  obtain ⟨t, a, b⟩ := kf T hT X
  refine ⟨t, ?_, b⟩
  have hP := Classical.not_not.mp hP
  jvm_step X.here [X.here.top, hexec, hb, hdg, Op.if_icmp.holds, hP]
  exact a
theorem jm_lv_icmp_ltf (hexec : p.tables.exec = Jvm.exec) (hb : c.code = cc) {x y : Int32} {off : Int} (hdg : decode cc pc = .ok (.if_icmp .lt off, 3)) (hP : ¬ (x < y)) (kf : W p l e R s m args below meth c H locs cells slots Q (F0 m (pc + 3) ls rest)) : W p l e R s m args below meth c H locs cells slots Q (F0 m pc ls (.int y :: .int x :: rest)) := by
  intro T hT X
  obtain ⟨t, a, b⟩ := kf T hT X
  refine ⟨t, ?_, b⟩
  jvm_step X.here [X.here.top, hexec, hb, hdg, Op.if_icmp.holds, hP]
  exact a
theorem jm_lv_icmp_gef (hexec : p.tables.exec = Jvm.exec) (hb : c.code = cc) {x y : Int32} {off : Int} (hdg : decode cc pc = .ok (.if_icmp .ge off, 3)) (hP : ¬ (y ≤ x)) (kf : W p l e R s m args below meth c H locs cells slots Q (F0 m (pc + 3) ls rest)) : W p l e R s m args below meth c H locs cells slots Q (F0 m pc ls (.int y :: .int x :: rest)) := by
  intro T hT X
  obtain ⟨t, a, b⟩ := kf T hT X
  refine ⟨t, ?_, b⟩
  jvm_step X.here [X.here.top, hexec, hb, hdg, Op.if_icmp.holds, hP]
  exact a
theorem jm_lv_icmp_gtf (hexec : p.tables.exec = Jvm.exec) (hb : c.code = cc) {x y : Int32} {off : Int} (hdg : decode cc pc = .ok (.if_icmp .gt off, 3)) (hP : ¬ (y < x)) (kf : W p l e R s m args below meth c H locs cells slots Q (F0 m (pc + 3) ls rest)) : W p l e R s m args below meth c H locs cells slots Q (F0 m pc ls (.int y :: .int x :: rest)) := by
  intro T hT X
  obtain ⟨t, a, b⟩ := kf T hT X
  refine ⟨t, ?_, b⟩
  jvm_step X.here [X.here.top, hexec, hb, hdg, Op.if_icmp.holds, hP]
  exact a
theorem jm_lv_icmp_lef (hexec : p.tables.exec = Jvm.exec) (hb : c.code = cc) {x y : Int32} {off : Int} (hdg : decode cc pc = .ok (.if_icmp .le off, 3)) (hP : ¬ (x ≤ y)) (kf : W p l e R s m args below meth c H locs cells slots Q (F0 m (pc + 3) ls rest)) : W p l e R s m args below meth c H locs cells slots Q (F0 m pc ls (.int y :: .int x :: rest)) := by
  intro T hT X
  obtain ⟨t, a, b⟩ := kf T hT X
  refine ⟨t, ?_, b⟩
  jvm_step X.here [X.here.top, hexec, hb, hdg, Op.if_icmp.holds, hP]
  exact a
end JS0
section JS1
variable {p : Program} {l : Launch} {e : Env} {R : Room} {s : State} {m : MethodId} {args : Array Value} {below : List Frame} {meth : Method} {c : Code} {H : Heap} {locs : List Loc} {cells slots : Nat} {Q : State → Prop}
variable {cc : ByteArray} {pc len nL B b : Nat} {ls : Array Slot} {f f' : jm_F} {st st' : List Value} {pc' : Nat} {i : Instr}
set_option maxHeartbeats 4000000 in
theorem jm_ok1 (hx : p.tables.exec = Jvm.exec) (hb : c.code = cc) (hd : decode cc pc = .ok (i, len)) (hlen : jm_len i len = len) (hl : jm_loc B b ls nL f) (h : jm_p1 nL pc i f st = some (pc', f', st'))
    (k : ∀ ls' : Array Slot, jm_loc B b ls' nL f' → W p l e R s m args below meth c H locs cells slots Q (F0 m pc' ls' (st'.map (jm_rz B b)))) : W p l e R s m args below meth c H locs cells slots Q (F0 m pc ls (st.map (jm_rz B b))) := by
  cases i with
  | iconst n =>
    obtain rfl : 1 = len := hlen
    simp only [jm_p1] at h
    cases h
    exact lv_iconst hx hb hd rfl (k ls hl)
  | bipush n =>
    obtain rfl : 2 = len := hlen
    simp only [jm_p1] at h
    cases h
    exact lv_bipush hx hb hd rfl (k ls hl)
  | sipush n =>
    obtain rfl : 3 = len := hlen
    simp only [jm_p1] at h
    cases h
    exact lv_sipush hx hb hd rfl (k ls hl)
  | lconst n =>
    obtain rfl : 1 = len := hlen
    simp only [jm_p1] at h
    cases h
    exact lv_lconst hx hb hd rfl (k ls hl)
  | iload_n q =>
    obtain rfl : 1 = len := hlen
    simp only [jm_p1] at h
    split at h
    next x hf =>
      cases h
      exact lv_iload_n hx hb hd rfl (hl.2.2 _ _ hf) (k ls hl)
    next => cases h
  | iload q =>
    obtain rfl : 2 = len := hlen
    simp only [jm_p1] at h
    split at h
    next x hf =>
      cases h
      exact lv_iload hx hb hd (hl.2.2 _ _ hf) (k ls hl)
    next => cases h
  | lload_n q =>
    obtain rfl : 1 = len := hlen
    simp only [jm_p1] at h
    split at h
    next x hf =>
      cases h
      exact lv_lload_n hx hb hd rfl (hl.2.2 _ _ hf) (k ls hl)
    next => cases h
  | lload q =>
    obtain rfl : 2 = len := hlen
    simp only [jm_p1] at h
    split at h
    next x hf =>
      cases h
      exact lv_lload hx hb hd (hl.2.2 _ _ hf) (k ls hl)
    next => cases h
  | aload_n q =>
    obtain rfl : 1 = len := hlen
    simp only [jm_p1] at h
    split at h
    next x hf =>
      cases h
      exact lv_aload_n hx hb hd rfl (hl.2.2 _ _ hf) (k ls hl)
    next => cases h
  | aload q =>
    obtain rfl : 2 = len := hlen
    simp only [jm_p1] at h
    split at h
    next x hf =>
      cases h
      exact lv_aload hx hb hd (hl.2.2 _ _ hf) (k ls hl)
    next => cases h
  | istore_n q =>
    obtain rfl : 1 = len := hlen
    simp only [jm_p1] at h
    split at h
    next x r =>
      unfold jm_st1 at h
      split at h
      next hc =>
        simp only [Option.map_some] at h
        cases h
        exact lv_istore_n hx hb hd rfl hl.has hc.1 rfl (fun ls' h' => k ls' (hl.st1 (v := .int x) hc.2 h'))
      next => cases h
    next => cases h
  | istore q =>
    obtain rfl : 2 = len := hlen
    simp only [jm_p1] at h
    split at h
    next x r =>
      unfold jm_st1 at h
      split at h
      next hc =>
        simp only [Option.map_some] at h
        cases h
        exact lv_istore hx hb hd hl.has hc.1 rfl (fun ls' h' => k ls' (hl.st1 (v := .int x) hc.2 h'))
      next => cases h
    next => cases h
  | lstore_n q =>
    obtain rfl : 1 = len := hlen
    simp only [jm_p1] at h
    split at h
    next x r =>
      unfold jm_st2 at h
      split at h
      next hc =>
        simp only [Option.map_some] at h
        cases h
        exact lv_lstore_n hx hb hd rfl hl.has hc.1 rfl (fun ls' h' => k ls' (hl.st2 (v := .long x) hc.2 h'))
      next => cases h
    next => cases h
  | lstore q =>
    obtain rfl : 2 = len := hlen
    simp only [jm_p1] at h
    split at h
    next x r =>
      unfold jm_st2 at h
      split at h
      next hc =>
        simp only [Option.map_some] at h
        cases h
        exact lv_lstore hx hb hd hl.has hc.1 rfl (fun ls' h' => k ls' (hl.st2 (v := .long x) hc.2 h'))
      next => cases h
    next => cases h
  | astore_n q =>
    obtain rfl : 1 = len := hlen
    simp only [jm_p1] at h
    split at h
    next x r =>
      unfold jm_st1 at h
      split at h
      next hc =>
        simp only [Option.map_some] at h
        cases h
        exact lv_astore_n hx hb hd rfl hl.has hc.1 rfl (fun ls' h' => k ls' (hl.st1 (v := .ref x) hc.2 h'))
      next => cases h
    next => cases h
  | astore q =>
    obtain rfl : 2 = len := hlen
    simp only [jm_p1] at h
    split at h
    next x r =>
      unfold jm_st1 at h
      split at h
      next hc =>
        simp only [Option.map_some] at h
        cases h
        exact lv_astore hx hb hd hl.has hc.1 rfl (fun ls' h' => k ls' (hl.st1 (v := .ref x) hc.2 h'))
      next => cases h
    next => cases h
  | iinc q n =>
    obtain rfl : 3 = len := hlen
    simp only [jm_p1] at h
    split at h
    next x hf =>
      unfold jm_st1 at h
      split at h
      next hc =>
        simp only [Option.map_some] at h
        cases h
        obtain ⟨kk, hkk⟩ := List.getElem?_of_mem (hl.mem hf)
        exact lv_iinc hx hb hd hl.has hkk rfl hc.1 rfl (fun ls' h' => k ls' (hl.st1 (v := .int (x + Int32.ofInt n)) hc.2 h'))
      next => cases h
    next => cases h
  | dup =>
    obtain rfl : 1 = len := hlen
    simp only [jm_p1] at h
    split at h
    next a r =>
      split at h
      next hc =>
        cases h
        exact lv_dup hx hb hd (by rw [jm_rz_cat]; exact hc) (k ls hl)
      next => cases h
    next => cases h
  | pop =>
    obtain rfl : 1 = len := hlen
    simp only [jm_p1] at h
    split at h
    next a r =>
      split at h
      next hc =>
        cases h
        exact lv_pop hx hb hd (va := jm_rz B b a) (by rw [jm_rz_cat]; exact hc) (k ls hl)
      next => cases h
    next => cases h
  | dup_x1 =>
    obtain rfl : 1 = len := hlen
    simp only [jm_p1] at h
    split at h
    next a b1 r =>
      split at h
      next hc =>
        cases h
        exact lv_dup_x1 hx hb hd (by rw [jm_rz_cat]; exact hc.1) (by rw [jm_rz_cat]; exact hc.2) (k ls hl)
      next => cases h
    next => cases h
  | dup_x2 =>
    obtain rfl : 1 = len := hlen
    simp only [jm_p1] at h
    split at h
    next a b1 d r =>
      split at h
      next hc =>
        cases h
        exact lv_dup_x2 hx hb hd (by rw [jm_rz_cat]; exact hc.1) (by rw [jm_rz_cat]; exact hc.2.1) (by rw [jm_rz_cat]; exact hc.2.2) (k ls hl)
      next => cases h
    next => cases h
  | dup2 =>
    obtain rfl : 1 = len := hlen
    simp only [jm_p1] at h
    split at h
    next a b1 r =>
      split at h
      next hc =>
        cases h
        exact lv_dup2_11 hx hb hd (by rw [jm_rz_cat]; exact hc.1) (by rw [jm_rz_cat]; exact hc.2) (k ls hl)
      next => cases h
    next => cases h
  | _ => simp [jm_p1] at h
set_option maxHeartbeats 4000000 in
theorem jm_ok2 (hx : p.tables.exec = Jvm.exec) (hb : c.code = cc) (hd : decode cc pc = .ok (i, len)) (hlen : jm_len i len = len) (hl : jm_loc B b ls nL f) (h : jm_p2 pc i f st = some (pc', f', st'))
    (k : ∀ ls' : Array Slot, jm_loc B b ls' nL f' → W p l e R s m args below meth c H locs cells slots Q (F0 m pc' ls' (st'.map (jm_rz B b)))) : W p l e R s m args below meth c H locs cells slots Q (F0 m pc ls (st.map (jm_rz B b))) := by
  cases i with
  | iadd =>
    obtain rfl : 1 = len := hlen
    simp only [jm_p2] at h
    split at h
    next y x r =>
      cases h
      exact lv_iadd hx hb hd (k ls hl)
    next => cases h
  | isub =>
    obtain rfl : 1 = len := hlen
    simp only [jm_p2] at h
    split at h
    next y x r =>
      cases h
      exact lv_isub hx hb hd (k ls hl)
    next => cases h
  | imul =>
    obtain rfl : 1 = len := hlen
    simp only [jm_p2] at h
    split at h
    next y x r =>
      cases h
      exact lv_imul hx hb hd (k ls hl)
    next => cases h
  | iand =>
    obtain rfl : 1 = len := hlen
    simp only [jm_p2] at h
    split at h
    next y x r =>
      cases h
      exact lv_iand hx hb hd (k ls hl)
    next => cases h
  | ior =>
    obtain rfl : 1 = len := hlen
    simp only [jm_p2] at h
    split at h
    next y x r =>
      cases h
      exact lv_ior hx hb hd (k ls hl)
    next => cases h
  | ixor =>
    obtain rfl : 1 = len := hlen
    simp only [jm_p2] at h
    split at h
    next y x r =>
      cases h
      exact lv_ixor hx hb hd (k ls hl)
    next => cases h
  | ishl =>
    obtain rfl : 1 = len := hlen
    simp only [jm_p2] at h
    split at h
    next y x r =>
      cases h
      exact lv_ishl hx hb hd (k ls hl)
    next => cases h
  | ishr =>
    obtain rfl : 1 = len := hlen
    simp only [jm_p2] at h
    split at h
    next y x r =>
      cases h
      exact lv_ishr hx hb hd (k ls hl)
    next => cases h
  | ladd =>
    obtain rfl : 1 = len := hlen
    simp only [jm_p2] at h
    split at h
    next y x r =>
      cases h
      exact lv_ladd hx hb hd (k ls hl)
    next => cases h
  | lsub =>
    obtain rfl : 1 = len := hlen
    simp only [jm_p2] at h
    split at h
    next y x r =>
      cases h
      exact lv_lsub hx hb hd (k ls hl)
    next => cases h
  | lmul =>
    obtain rfl : 1 = len := hlen
    simp only [jm_p2] at h
    split at h
    next y x r =>
      cases h
      exact lv_lmul hx hb hd (k ls hl)
    next => cases h
  | land =>
    obtain rfl : 1 = len := hlen
    simp only [jm_p2] at h
    split at h
    next y x r =>
      cases h
      exact lv_land hx hb hd (k ls hl)
    next => cases h
  | lor =>
    obtain rfl : 1 = len := hlen
    simp only [jm_p2] at h
    split at h
    next y x r =>
      cases h
      exact lv_lor hx hb hd (k ls hl)
    next => cases h
  | lcmp =>
    obtain rfl : 1 = len := hlen
    simp only [jm_p2] at h
    split at h
    next y x r =>
      cases h
      exact W.lcmp hx hb hd (k ls hl)
    next => cases h
  | idiv =>
    obtain rfl : 1 = len := hlen
    simp only [jm_p2] at h
    split at h
    next y x r =>
      split at h
      next => cases h
      next hc =>
        cases h
        exact lv_idiv hx hb hd hc (k ls hl)
    next => cases h
  | irem =>
    obtain rfl : 1 = len := hlen
    simp only [jm_p2] at h
    split at h
    next y x r =>
      split at h
      next => cases h
      next hc =>
        cases h
        exact lv_irem hx hb hd hc (k ls hl)
    next => cases h
  | ldiv =>
    obtain rfl : 1 = len := hlen
    simp only [jm_p2] at h
    split at h
    next y x r =>
      split at h
      next => cases h
      next hc =>
        cases h
        exact lv_ldiv hx hb hd hc (k ls hl)
    next => cases h
  | lrem =>
    obtain rfl : 1 = len := hlen
    simp only [jm_p2] at h
    split at h
    next y x r =>
      split at h
      next => cases h
      next hc =>
        cases h
        exact lv_lrem hx hb hd hc (k ls hl)
    next => cases h
  | lshl =>
    obtain rfl : 1 = len := hlen
    simp only [jm_p2] at h
    split at h
    next y x r =>
      cases h
      exact lv_lshl hx hb hd rfl (k ls hl)
    next => cases h
  | lshr =>
    obtain rfl : 1 = len := hlen
    simp only [jm_p2] at h
    split at h
    next y x r =>
      cases h
      exact lv_lshr hx hb hd rfl (k ls hl)
    next => cases h
  | i2l =>
    obtain rfl : 1 = len := hlen
    simp only [jm_p2] at h
    split at h
    next y r =>
      cases h
      exact lv_i2l hx hb hd rfl (k ls hl)
    next => cases h
  | l2i =>
    obtain rfl : 1 = len := hlen
    simp only [jm_p2] at h
    split at h
    next y r =>
      cases h
      exact lv_l2i hx hb hd rfl (k ls hl)
    next => cases h
  | ineg =>
    obtain rfl : 1 = len := hlen
    simp only [jm_p2] at h
    split at h
    next y r =>
      cases h
      exact lv_ineg hx hb hd (k ls hl)
    next => cases h
  | _ => simp [jm_p2] at h
theorem jm_tg_spec {pc t : Nat} {off : Int} (h : jm_tg pc off = some t) : (pc : Int) + off = (t : Int) := by
  unfold jm_tg at h
  split at h
  next => cases h
  next hc => cases h; omega
set_option maxHeartbeats 4000000 in
theorem jm_ok3 (hx : p.tables.exec = Jvm.exec) (hb : c.code = cc) (hd : decode cc pc = .ok (i, len)) (hlen : jm_len i len = len) (hl : jm_loc B b ls nL f) (h : jm_p3 pc i f st = some (pc', f', st'))
    (k : ∀ ls' : Array Slot, jm_loc B b ls' nL f' → W p l e R s m args below meth c H locs cells slots Q (F0 m pc' ls' (st'.map (jm_rz B b)))) : W p l e R s m args below meth c H locs cells slots Q (F0 m pc ls (st.map (jm_rz B b))) := by
  cases i with
  | ifCond cd off =>
    obtain rfl : 3 = len := hlen
    simp only [jm_p3] at h
    split at h
    next x r =>
      cases cd with
      | eq =>
        simp only [jm_cb, decide_eq_true_eq] at h
        split at h
        next hc =>
          cases ht : jm_tg pc off with
          | none => rw [ht] at h; cases h
          | some t =>
            rw [ht] at h
            cases h
            exact lv_if_eq hx hb hd (jm_tg_spec ht) (fun _ => k ls hl) (fun q => absurd hc q)
        next hc =>
          cases h
          exact jm_lv_if_eqf hx hb hd hc (k ls hl)
      | ne =>
        simp only [jm_cb, decide_eq_true_eq] at h
        split at h
        next hc =>
          cases ht : jm_tg pc off with
          | none => rw [ht] at h; cases h
          | some t =>
            rw [ht] at h
            cases h
            exact lv_if_ne hx hb hd (jm_tg_spec ht) (fun _ => k ls hl) (fun q => absurd q hc)
        next hc =>
          cases h
          exact jm_lv_if_nef hx hb hd hc (k ls hl)
      | lt =>
        simp only [jm_cb, decide_eq_true_eq] at h
        split at h
        next hc =>
          cases ht : jm_tg pc off with
          | none => rw [ht] at h; cases h
          | some t =>
            rw [ht] at h
            cases h
            exact lv_if_lt hx hb hd (jm_tg_spec ht) (fun _ => k ls hl) (fun q => absurd hc q)
        next hc =>
          cases h
          exact jm_lv_if_ltf hx hb hd hc (k ls hl)
      | ge =>
        simp only [jm_cb, decide_eq_true_eq] at h
        split at h
        next hc =>
          cases ht : jm_tg pc off with
          | none => rw [ht] at h; cases h
          | some t =>
            rw [ht] at h
            cases h
            exact lv_if_ge hx hb hd (jm_tg_spec ht) (fun _ => k ls hl) (fun q => absurd hc q)
        next hc =>
          cases h
          exact jm_lv_if_gef hx hb hd hc (k ls hl)
      | gt =>
        simp only [jm_cb, decide_eq_true_eq] at h
        split at h
        next hc =>
          cases ht : jm_tg pc off with
          | none => rw [ht] at h; cases h
          | some t =>
            rw [ht] at h
            cases h
            exact lv_if_gt hx hb hd (jm_tg_spec ht) (fun _ => k ls hl) (fun q => absurd hc q)
        next hc =>
          cases h
          exact jm_lv_if_gtf hx hb hd hc (k ls hl)
      | le =>
        simp only [jm_cb, decide_eq_true_eq] at h
        split at h
        next hc =>
          cases ht : jm_tg pc off with
          | none => rw [ht] at h; cases h
          | some t =>
            rw [ht] at h
            cases h
            exact lv_if_le hx hb hd (jm_tg_spec ht) (fun _ => k ls hl) (fun q => absurd hc q)
        next hc =>
          cases h
          exact jm_lv_if_lef hx hb hd hc (k ls hl)
    next => cases h
  | if_icmp cd off =>
    obtain rfl : 3 = len := hlen
    simp only [jm_p3] at h
    split at h
    next y x r =>
      cases cd with
      | eq =>
        simp only [jm_cb, decide_eq_true_eq] at h
        split at h
        next hc =>
          cases ht : jm_tg pc off with
          | none => rw [ht] at h; cases h
          | some t =>
            rw [ht] at h
            cases h
            exact lv_icmp_eq hx hb hd (jm_tg_spec ht) (fun _ => k ls hl) (fun q => absurd hc q)
        next hc =>
          cases h
          exact jm_lv_icmp_eqf hx hb hd hc (k ls hl)
      | ne =>
        simp only [jm_cb, decide_eq_true_eq] at h
        split at h
        next hc =>
          cases ht : jm_tg pc off with
          | none => rw [ht] at h; cases h
          | some t =>
            rw [ht] at h
            cases h
            exact lv_icmp_ne hx hb hd (jm_tg_spec ht) (fun _ => k ls hl) (fun q => absurd q hc)
        next hc =>
          cases h
          exact jm_lv_icmp_nef hx hb hd hc (k ls hl)
      | lt =>
        simp only [jm_cb, decide_eq_true_eq] at h
        split at h
        next hc =>
          cases ht : jm_tg pc off with
          | none => rw [ht] at h; cases h
          | some t =>
            rw [ht] at h
            cases h
            exact lv_icmp_lt hx hb hd (jm_tg_spec ht) (fun _ => k ls hl) (fun q => absurd hc q)
        next hc =>
          cases h
          exact jm_lv_icmp_ltf hx hb hd hc (k ls hl)
      | ge =>
        simp only [jm_cb, decide_eq_true_eq] at h
        split at h
        next hc =>
          cases ht : jm_tg pc off with
          | none => rw [ht] at h; cases h
          | some t =>
            rw [ht] at h
            cases h
            exact lv_icmp_ge hx hb hd (jm_tg_spec ht) (fun _ => k ls hl) (fun q => absurd hc q)
        next hc =>
          cases h
          exact jm_lv_icmp_gef hx hb hd hc (k ls hl)
      | gt =>
        simp only [jm_cb, decide_eq_true_eq] at h
        split at h
        next hc =>
          cases ht : jm_tg pc off with
          | none => rw [ht] at h; cases h
          | some t =>
            rw [ht] at h
            cases h
            exact lv_icmp_gt hx hb hd (jm_tg_spec ht) (fun _ => k ls hl) (fun q => absurd hc q)
        next hc =>
          cases h
          exact jm_lv_icmp_gtf hx hb hd hc (k ls hl)
      | le =>
        simp only [jm_cb, decide_eq_true_eq] at h
        split at h
        next hc =>
          cases ht : jm_tg pc off with
          | none => rw [ht] at h; cases h
          | some t =>
            rw [ht] at h
            cases h
            exact lv_icmp_le hx hb hd (jm_tg_spec ht) (fun _ => k ls hl) (fun q => absurd hc q)
        next hc =>
          cases h
          exact jm_lv_icmp_lef hx hb hd hc (k ls hl)
    next => cases h
  | goto off =>
    obtain rfl : 3 = len := hlen
    simp only [jm_p3] at h
    cases ht : jm_tg pc off with
    | none => rw [ht] at h; cases h
    | some t =>
      rw [ht] at h
      cases h
      exact lv_goto hx hb hd (jm_tg_spec ht) (k ls hl)
  | tableswitch d lo hi offs =>
    simp only [jm_p3] at h
    split at h
    next x r =>
      split at h
      next hc =>
        cases ht : jm_tg pc d with
        | none => rw [ht] at h; cases h
        | some t =>
          rw [ht] at h
          cases h
          exact lv_tableOut hx hb hd hc (jm_tg_spec ht) (k ls hl)
      next hc =>
        cases ho : offs[(x.toInt - lo).toNat]? with
        | none => rw [ho] at h; cases h
        | some o =>
          rw [ho] at h
          simp only [Option.bind_some] at h
          cases ht : jm_tg pc o with
          | none => rw [ht] at h; cases h
          | some t =>
            rw [ht] at h
            cases h
            exact lv_tableIn hx hb hd (fun q => hc (Or.inl q)) (fun q => hc (Or.inr q)) ho (jm_tg_spec ht) (k ls hl)
    next => cases h
  | lookupswitch d ps =>
    simp only [jm_p3] at h
    split at h
    next x r =>
      split at h
      next hc =>
        cases ht : jm_tg pc (Op.lookupswitch.offset ps.toList d x.toInt) with
        | none => rw [ht] at h; cases h
        | some t =>
          rw [ht] at h
          cases h
          exact lv_lookup hx hb hd hc rfl (jm_tg_spec ht) (k ls hl)
      next => cases h
    next => cases h
  | _ => simp [jm_p3] at h
end JS1
