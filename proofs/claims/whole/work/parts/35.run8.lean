/-! a call, of any kind -/
section JS6Z
variable {p : Program} {l : Launch} {e : Env} {R : Room} {s : State} {m : MethodId} {args : Array Value} {below : List Frame} {meth : Method} {c : Code} {H : Heap} {locs : List Loc} {cells slots : Nat} {Q : State → Prop}
variable {pc len B b L mi oc d mc ms : Nat} {xs : Nat → Int32} {ls : Array Slot} {f : jm_F} {st st' : List Value} {i : Instr} {g g1 : jm_H} {D : va_G} {tc : Nat → ClassId} {k pc' : Nat} {av : List Value} {v : Option Value}
theorem jm_run8 (C : jm_Cx B b L xs D tc mi p s m args meth c) (hd : decode (jm_b mi) pc = .ok (i, len)) (hlen : jm_len i len = len) (h : jm_p8 (jm_oc mi) pc i st g = some (k, av, pc', st')) :
    pc' = pc + 3 ∧ 0 < k ∧ k < jm_NM ∧ (av.map fun v => v.category).sum ≤ jm_ml k ∧ (∀ {l : Launch} {e : Env} {R : Room} {below : List Frame} {H : Heap} {locs : List Loc} {cells slots mc ms d : Nat} {ls : Array Slot} {v : Option Value} {g1 : jm_H}, ls.size = jm_ml mi → jm_R B b D tc g H → va_S (jm_A B) s.heap H locs → H.size ≤ B + (jm_n g + jm_j g) →
      Met l (jm_y k) (jm_cw k :: jm_W) (jm_rm d mc ms) (jm_Pc B b L xs D tc g av) (jm_Qc B b D tc g1 v) mc ms (jm_A B) → d + 9 ≤ R.frames → 64 * d + 264 ≤ R.locals → cells + mc ≤ R.cells → slots + ms ≤ R.slots →
      va_Run p l e R s m args below meth c H locs cells slots mc ms (F0 m pc ls (st.map (jm_rz B b))) (st'.map (jm_rz B b)) (jm_Qc B b D tc g1 v (av.map (jm_rz B b)).toArray) (jm_A B)) := by
  cases i with
  | invokestatic x =>
    obtain rfl : 3 = len := hlen
    exact jm_run8S C hd h
  | invokevirtual x =>
    obtain rfl : 3 = len := hlen
    exact jm_run8V C hd h
  | invokespecial x =>
    obtain rfl : 3 = len := hlen
    exact jm_run8I C hd h
  | _ => simp [jm_p8] at h
end JS6Z
