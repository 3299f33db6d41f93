/-! the real machine follows: fields, rows, what is made -/
theorem jm_ad_lab {B b a t : Nat} (h : (jm_SH a).1 = t) (ht : t < 99) : jm_ad B b a = B + a := by
  unfold jm_ad
  rw [if_neg]
  intro he
  subst he
  rw [jm_SH_S] at h
  omega
theorem jm_inb_spec {j : Int32} {n : Nat} (h : jm_inb j n = true) : vp_in j n := by
  unfold jm_inb at h
  unfold vp_in
  exact of_decide_eq_true h
theorem jm_isA_spec {g : jm_H} {a t : Nat} (h : jm_isA g a t = true) : a < jm_n g ∧ (jm_SH a).1 = t := by
  simpa [jm_isA] using h
theorem jm_cl_at {c : Nat} (hc : c < jm_NC) : jm_classes[c]? = some (jm_cn c, jm_T c, jm_nf c) := by
  simp [jm_classes, hc]
theorem jm_cell_obj {B b : Nat} {tc : Nat → ClassId} {g : jm_H} {a c : Nat} (h : (jm_SH a).1 = c) (hc : c < 20) : jm_cell B b tc g a = .inr (c, jm_fs B b g a c) := by
  unfold jm_cell
  rw [h, if_pos hc]
theorem jm_cell_int {B b : Nat} {tc : Nat → ClassId} {g : jm_H} {a : Nat} (h : (jm_SH a).1 = 20) : jm_cell B b tc g a = .inl (tc 20, (jm_SH a).2, .inl (jm_i g a)) := by
  unfold jm_cell
  rw [h]
  rfl
theorem jm_cell_bool {B b : Nat} {tc : Nat → ClassId} {g : jm_H} {a : Nat} (h : (jm_SH a).1 = 22) : jm_cell B b tc g a = .inl (tc 22, (jm_SH a).2, .inl (jm_i g a)) := by
  unfold jm_cell
  rw [h]
  rfl
theorem jm_cell_long {B b : Nat} {tc : Nat → ClassId} {g : jm_H} {a : Nat} (h : (jm_SH a).1 = 21) : jm_cell B b tc g a = .inl (tc 21, (jm_SH a).2, .inr (.inl (jm_l g a))) := by
  unfold jm_cell
  rw [h]
  rfl
theorem jm_cell_ref {B b : Nat} {tc : Nat → ClassId} {g : jm_H} {a t : Nat} (h : (jm_SH a).1 = t) (ht : 30 ≤ t) : jm_cell B b tc g a = .inl (tc t, (jm_SH a).2, .inr (.inr (.inr (.inr (fun k => (jm_r g a k).map (jm_ad B b)))))) := by
  unfold jm_cell
  rw [h, if_neg (by omega), if_neg (by omega), if_neg (by omega)]
theorem jm_cell_arr {B b : Nat} {tc : Nat → ClassId} {g : jm_H} (a : Nat) (h1 : 20 ≤ (jm_SH a).1) (h2 : (jm_SH a).1 < 50) : ∃ x : vp_A, jm_cell B b tc g a = .inl (tc (jm_SH a).1, x) ∧ x.1 = (jm_SH a).2 ∧ ∃ ty, (jm_tys tc)[jm_tx (jm_SH a).1]? = some (tc (jm_SH a).1, ty) := by
  have ht := jm_tys_at (tc := tc) _ (jm_tag_mem a h1 h2)
  unfold jm_cell
  rw [if_neg (by omega)]
  split
  next e => exact ⟨_, by rw [e], rfl, _, ht⟩
  next =>
    split
    next => exact ⟨_, rfl, rfl, _, ht⟩
    next => exact ⟨_, rfl, rfl, _, ht⟩
theorem jm_fs_get {B b : Nat} {g : jm_H} {a c k : Nat} (hk : k < jm_nf c) : (jm_fs B b g a c)[k]? = some (jm_rz B b (jm_gv g a c k)) := by
  simp [jm_fs, hk]
theorem jm_fs_len {B b : Nat} {g : jm_H} {a c : Nat} : (jm_fs B b g a c).length = jm_nf c := by simp [jm_fs]
theorem jm_u_at {α : Type} {f : Nat → Nat → α} {a k : Nat} {v : α} (j : Nat) : jm_u f a k v a j = if j = k then v else f a j := by simp [jm_u]
/-- one field is written -/
theorem jm_fs_set {B b : Nat} {g g' : jm_H} {a c k : Nat} {v : Value} (hv : jm_gv g' a c k = v) (ho : ∀ j, j ≠ k → jm_gv g' a c j = jm_gv g a c j) : (jm_fs B b g a c).set k (jm_rz B b v) = jm_fs B b g' a c := by
  apply List.ext_getElem?
  intro j
  by_cases hj : j < jm_nf c
  · rw [jm_fs_get hj]
    by_cases hjk : j = k
    · subst hjk
      rw [List.getElem?_set_self (by rw [jm_fs_len]; exact hj), hv]
    · rw [List.getElem?_set_ne (Ne.symm hjk), jm_fs_get hj, ho j hjk]
  · rw [List.getElem?_eq_none (by simp [jm_fs_len]; omega), List.getElem?_eq_none (by simp [jm_fs_len]; omega)]
theorem jm_pv_spec {g g' : jm_H} {a c k : Nat} {v : Value} (h : jm_pv g a c k v = some g') : jm_n g' = jm_n g ∧ jm_j g' = jm_j g ∧ jm_gv g' a c k = v ∧ (∀ j, j ≠ k → jm_gv g' a c j = jm_gv g a c j) ∧ (∀ (B b : Nat) (tc : Nat → ClassId) (x : Nat), x ≠ a → jm_cell B b tc g' x = jm_cell B b tc g x) := by
  unfold jm_pv at h
  split at h
  next hf =>
    split at h
    next x =>
      cases h
      refine ⟨rfl, rfl, ?_, fun j hj => ?_, fun B b tc x hx => jm_cell_si hx⟩
      · simp [jm_gv, hf, jm_i, jm_si, jm_u]
      · simp [jm_gv, jm_i, jm_l, jm_r, jm_si, jm_u, hj]
    next => cases h
  next hf =>
    split at h
    next x =>
      cases h
      refine ⟨rfl, rfl, ?_, fun j hj => ?_, fun B b tc x hx => jm_cell_sl hx⟩
      · simp [jm_gv, hf, jm_l, jm_sl, jm_u]
      · simp [jm_gv, jm_i, jm_l, jm_r, jm_sl, jm_u, hj]
    next => cases h
  next hf =>
    split at h
    next x =>
      cases h
      refine ⟨rfl, rfl, ?_, fun j hj => ?_, fun B b tc x hx => jm_cell_sr hx⟩
      · simp [jm_gv, hf, jm_r, jm_sr, jm_u, jm_rv]
      · simp [jm_gv, jm_i, jm_l, jm_r, jm_sr, jm_u, hj]
    next => cases h
  next h0 h1 h2 =>
    split at h
    next x =>
      split at h
      next =>
        cases h
        refine ⟨rfl, rfl, ?_, fun j hj => ?_, fun B b tc x hx => jm_cell_si hx⟩
        · unfold jm_gv
          split
          next e => exact absurd e h1
          next e => exact absurd e h2
          next => simp [jm_i, jm_si, jm_u]
        · simp [jm_gv, jm_i, jm_l, jm_r, jm_si, jm_u, hj]
      next => cases h
    next => cases h
section JS2
variable {p : Program} {l : Launch} {e : Env} {R : Room} {s : State} {m : MethodId} {args : Array Value} {below : List Frame} {meth : Method} {c : Code} {H : Heap} {locs : List Loc} {cells slots : Nat} {Q : State → Prop}
variable {cc : ByteArray} {pc len nL B b oc L : Nat} {xs : Nat → Int32} {ls : Array Slot} {f f' : jm_F} {st st' : List Value} {pc' : Nat} {i : Instr} {g g' : jm_H} {D : va_G} {tc : Nat → ClassId}
theorem jm_narrow {c k : Nat} {g g' : jm_H} {a : Nat} {v : Value} {B b : Nat} (hc : c < jm_NC) (hk : k < jm_nf c) (h : jm_pv g a c k v = some g') : narrow (jm_ty c k) (jm_rz B b v) = jm_rz B b v ∧ fits (jm_ty c k) (jm_rz B b v) = true := by
  unfold jm_pv at h
  split at h
  next hf =>
    split at h
    next x => rw [jm_ty_0 c hc k hk hf]; exact ⟨rfl, rfl⟩
    next => cases h
  next hf =>
    split at h
    next x => rw [jm_ty_1 c hc k hk hf]; exact ⟨rfl, rfl⟩
    next => cases h
  next hf =>
    split at h
    next x =>
      have := jm_ty_2 c hc k hk hf
      cases hty : jm_ty c k <;> rw [hty] at this <;> first | (cases this; done) | exact ⟨rfl, rfl⟩
    next => cases h
  next h0 h1 h2 =>
    split at h
    next x =>
      split at h
      next hx =>
        rw [jm_ty_3 c hc k hk h0 h1 h2]
        rcases hx with rfl | rfl <;> exact ⟨rfl, rfl⟩
      next => cases h
    next => cases h
set_option maxHeartbeats 4000000 in
theorem jm_ok4 {mi : Nat} (hx : p.tables.exec = Jvm.exec) (hb : c.code = cc) (hd : decode cc pc = .ok (i, len)) (hlen : jm_len i len = len) (hts : ∀ w ∈ jm_W, w.before args s = true) (hown : s.vm.findClass (jm_on (jm_oc mi)) = some m.cls) (hK : va_K D jm_classes (jm_tys tc) s)
    (hnm : jm_isI mi = true → meth.name = "<init>") (hR : jm_R B b D tc g H) (hS : va_S (jm_A B) s.heap H locs) (hl : jm_loc B b ls nL f) (h : jm_p4 mi pc i f st g = some (pc', f', st', g'))
    (k : ∀ (H' : Heap) (locs' : List Loc), jm_loc B b ls nL f' → jm_R B b D tc g' H' → va_S (jm_A B) s.heap H' locs' → W p l e R s m args below meth c H' locs' cells slots Q (F0 m pc' ls (st'.map (jm_rz B b)))) :
    jm_n g' = jm_n g ∧ jm_j g' = jm_j g ∧ W p l e R s m args below meth c H locs cells slots Q (F0 m pc ls (st.map (jm_rz B b))) := by
  cases i with
  | getfield x =>
    obtain rfl : 3 = len := hlen
    simp only [jm_p4] at h
    split at h
    next a r =>
      split at h
      next c0 k0 hfl =>
        split at h
        next hc =>
          cases h
          obtain ⟨ha, hsh⟩ := jm_isA_spec hc.1
          obtain ⟨hcN, hlk⟩ := jm_fl_ok (jm_oc mi) x c0 k0 hfl
          have hc20 : c0 < 20 := Nat.lt_of_lt_of_le hcN jm_NC_le
          have he := jm_ws_at (B := B) (b := b) (tc := tc) ha
          rw [jm_cell_obj hsh hc20] at he
          refine ⟨rfl, rfl, ?_⟩
          show W p l e R s m args below meth c H locs cells slots Q (F0 m pc ls (.ref (jm_ad B b a) :: List.map (jm_rz B b) _))
          rw [jm_ad_lab hsh (by omega)]
          exact va_get hx hb hts (jm_T_in c0 hcN) hown hK hR a he (jm_cl_at hcN) k0 hc.2 (hts _ hlk) (fun _ h9 => h9) (jm_fs_get hc.2) hd (k H locs hl hR hS)
        next => cases h
      next => cases h
    next => cases h
  | putfield x =>
    obtain rfl : 3 = len := hlen
    simp only [jm_p4] at h
    split at h
    next v a r =>
      split at h
      next c0 k0 hfl =>
        split at h
        next hc =>
          cases hp : jm_pv g a c0 k0 v with
          | none => rw [hp] at h; cases h
          | some g1 =>
            rw [hp] at h
            cases h
            obtain ⟨ha, hsh⟩ := jm_isA_spec hc.1
            obtain ⟨hcN, hlk⟩ := jm_fl_ok (jm_oc mi) x c0 k0 hfl
            have hc20 : c0 < 20 := Nat.lt_of_lt_of_le hcN jm_NC_le
            obtain ⟨q1, q2, q3, q4, q5⟩ := jm_pv_spec hp
            obtain ⟨n1, n2⟩ := jm_narrow (B := B) (b := b) hcN hc.2.1 hp
            have he := jm_ws_at (B := B) (b := b) (tc := tc) ha
            rw [jm_cell_obj hsh hc20] at he
            have hset : (jm_ws B b tc g).set a (B + a, .inr (c0, (jm_fs B b g a c0).set k0 (jm_rz B b v))) = jm_ws B b tc g' :=
              jm_ws_set ha q1 (fun y hy => q5 B b tc y hy) (by rw [jm_cell_obj hsh hc20, jm_fs_set q3 q4])
            refine ⟨q1, q2, ?_⟩
            show W p l e R s m args below meth c H locs cells slots Q (F0 m pc ls (jm_rz B b v :: .ref (jm_ad B b a) :: List.map (jm_rz B b) _))
            rw [jm_ad_lab hsh (by omega)]
            have hkk : ∀ (H1 : Heap) (locs1 : List Loc), va_P D jm_classes ((jm_ws B b tc g).set a (B + a, .inr (c0, (jm_fs B b g a c0).set k0 (jm_rz B b v)))) H1 → va_D (jm_A B) ((jm_ws B b tc g).set a (B + a, .inr (c0, (jm_fs B b g a c0).set k0 (jm_rz B b v)))) → va_S (jm_A B) s.heap H1 locs1 → W p l e R s m args below meth c H1 locs1 cells slots Q (F0 m (pc + 3) ls (st'.map (jm_rz B b))) := by
              intro H1 locs1 hP1 _ hS1
              rw [hset] at hP1
              exact k H1 locs1 hl hP1 hS1
            have hlN : k0 < (jm_fs B b g a c0).length := by rw [jm_fs_len]; exact hc.2.1
            by_cases hfin : (jm_T c0 k0).2.2.2 = true
            · obtain ⟨hi1, hi2⟩ := jm_pf_ok mi x c0 k0 hfl hc.2.2 hfin
              exact va_putF hx hb hts (jm_T_in c0 hcN) (jm_ty c0) (jm_ty_ok c0 hcN) (jm_T_nm c0 hcN) hown hK hR (jm_ws_D B b tc g) hS a he (jm_cl_at hcN) k0 hc.2.1 (hts _ hlk) (fun _ h9 => h9) hfin (hnm hi1) hi2 (jm_ty_ok c0 hcN k0 hc.2.1) n1 n2 hlN hd hkk
            · exact va_put hx hb hts (jm_T_in c0 hcN) (jm_ty c0) (jm_ty_ok c0 hcN) (jm_T_nm c0 hcN) hown hK hR (jm_ws_D B b tc g) hS a he (jm_cl_at hcN) k0 hc.2.1 (hts _ hlk) (fun _ h9 => h9) (by simpa using hfin) (jm_ty_ok c0 hcN k0 hc.2.1) n1 n2 hlN hd hkk
        next => cases h
      next => cases h
    next => cases h
  | ldc x =>
    obtain rfl : 2 = len := hlen
    simp only [jm_p4] at h
    split at h
    next v hld =>
      cases h
      exact ⟨rfl, rfl, lv_ldc hx hb hown (hts _ (jm_ld_int (jm_oc mi) x v hld)) hd (k H locs hl hR hS)⟩
    next => cases h
  | ldc2_w x =>
    obtain rfl : 3 = len := hlen
    simp only [jm_p4] at h
    split at h
    next v hld =>
      cases h
      exact ⟨rfl, rfl, lv_ldc2 hx hb hown (hts _ (jm_ld_long (jm_oc mi) x v hld)) hd (k H locs hl hR hS)⟩
    next => cases h
  | _ => simp [jm_p4] at h
set_option maxHeartbeats 4000000 in
theorem jm_ok5 (hx : p.tables.exec = Jvm.exec) (hb : c.code = cc) (hd : decode cc pc = .ok (i, len)) (hlen : jm_len i len = len) (hK : va_K D jm_classes (jm_tys tc) s) (hXs : va_X b L xs s s.heap) (hbl : b < s.heap.size) (hbB : b < B)
    (hR : jm_R B b D tc g H) (hS : va_S (jm_A B) s.heap H locs) (hl : jm_loc B b ls nL f) (h : jm_p5 L xs pc i f st g = some (pc', f', st', g'))
    (k : ∀ (H' : Heap) (locs' : List Loc), jm_loc B b ls nL f' → jm_R B b D tc g' H' → va_S (jm_A B) s.heap H' locs' → W p l e R s m args below meth c H' locs' cells slots Q (F0 m pc' ls (st'.map (jm_rz B b)))) :
    jm_n g' = jm_n g ∧ jm_j g' = jm_j g ∧ W p l e R s m args below meth c H locs cells slots Q (F0 m pc ls (st.map (jm_rz B b))) := by
  have hbA : ¬ jm_A B b := Nat.not_le.mpr hbB
  cases i with
  | iaload =>
    obtain rfl : 1 = len := hlen
    simp only [jm_p5] at h
    split at h
    next j a r =>
      split at h
      next hsc =>
        split at h
        next hc =>
          cases h
          refine ⟨rfl, rfl, ?_⟩
          show W p l e R s m args below meth c H locs cells slots Q (F0 m pc ls (.int j :: .ref (jm_ad B b a) :: List.map (jm_rz B b) _))
          rw [show jm_ad B b a = b from if_pos hsc]
          exact va_sld hx hb hXs hbl hbA hS (jm_inb_spec hc) hd (k H locs hl hR hS)
        next => cases h
      next hsc =>
        split at h
        next hc =>
          cases h
          obtain ⟨ha, hsh⟩ := jm_isA_spec hc.1
          have he := jm_ws_at (B := B) (b := b) (tc := tc) ha
          rw [jm_cell_int hsh] at he
          refine ⟨rfl, rfl, ?_⟩
          show W p l e R s m args below meth c H locs cells slots Q (F0 m pc ls (.int j :: .ref (jm_ad B b a) :: List.map (jm_rz B b) _))
          rw [jm_ad_lab hsh (by omega)]
          exact va_iald hx hb hK hR a (jm_tx 20) he (jm_tys_at 20 (by decide)) (jm_inb_spec hc.2) hd (k H locs hl hR hS)
        next => cases h
    next => cases h
  | laload =>
    obtain rfl : 1 = len := hlen
    simp only [jm_p5] at h
    split at h
    next j a r =>
      split at h
      next hc =>
        cases h
        obtain ⟨ha, hsh⟩ := jm_isA_spec hc.1
        have he := jm_ws_at (B := B) (b := b) (tc := tc) ha
        rw [jm_cell_long hsh] at he
        refine ⟨rfl, rfl, ?_⟩
        show W p l e R s m args below meth c H locs cells slots Q (F0 m pc ls (.int j :: .ref (jm_ad B b a) :: List.map (jm_rz B b) _))
        rw [jm_ad_lab hsh (by omega)]
        exact va_lald hx hb hK hR a (jm_tx 21) he (jm_tys_at 21 (by decide)) (jm_inb_spec hc.2) hd (k H locs hl hR hS)
      next => cases h
    next => cases h
  | baload =>
    obtain rfl : 1 = len := hlen
    simp only [jm_p5] at h
    split at h
    next j a r =>
      split at h
      next hc =>
        cases h
        obtain ⟨ha, hsh⟩ := jm_isA_spec hc.1
        have he := jm_ws_at (B := B) (b := b) (tc := tc) ha
        rw [jm_cell_bool hsh] at he
        refine ⟨rfl, rfl, ?_⟩
        show W p l e R s m args below meth c H locs cells slots Q (F0 m pc ls (.int j :: .ref (jm_ad B b a) :: List.map (jm_rz B b) _))
        rw [jm_ad_lab hsh (by omega)]
        exact va_zald hx hb hK hR a (jm_tx 22) he (jm_tys_at 22 (by decide)) (jm_inb_spec hc.2) hd (k H locs hl hR hS)
      next => cases h
    next => cases h
  | aaload =>
    obtain rfl : 1 = len := hlen
    simp only [jm_p5] at h
    split at h
    next j a r =>
      split at h
      next hc =>
        cases h
        obtain ⟨ha, h30, h50, hin⟩ := hc
        have he := jm_ws_at (B := B) (b := b) (tc := tc) ha
        rw [jm_cell_ref rfl h30] at he
        refine ⟨rfl, rfl, ?_⟩
        show W p l e R s m args below meth c H locs cells slots Q (F0 m pc ls (.int j :: .ref (jm_ad B b a) :: List.map (jm_rz B b) _))
        rw [jm_ad_lab (a := a) rfl (by omega)]
        refine va_aldq (C := jm_cn ((jm_SH a).1 - 30)) hx hb hK hR a (jm_tx (jm_SH a).1) he (jm_tys_ref a h30 h50) (jm_inb_spec hin) hd ?_
        rw [← jm_rz_rv]
        exact k H locs hl hR hS
      next => cases h
    next => cases h
  | iastore =>
    obtain rfl : 1 = len := hlen
    simp only [jm_p5] at h
    split at h
    next x j a r =>
      split at h
      next hc =>
        cases h
        obtain ⟨ha, hsh⟩ := jm_isA_spec hc.1
        have he := jm_ws_at (B := B) (b := b) (tc := tc) ha
        rw [jm_cell_int hsh] at he
        refine ⟨rfl, rfl, ?_⟩
        show W p l e R s m args below meth c H locs cells slots Q (F0 m pc ls (.int x :: .int j :: .ref (jm_ad B b a) :: List.map (jm_rz B b) _))
        rw [jm_ad_lab hsh (by omega)]
        refine va_iast hx hb hK hR (jm_ws_D B b tc g) hS a (jm_tx 20) he (jm_tys_at 20 (by decide)) (jm_inb_spec hc.2) hd (fun H1 locs1 hP1 _ hS1 => ?_)
        rw [jm_ws_set ha rfl (fun y hy => jm_cell_si hy) (g' := jm_si g a j.toNatClampNeg x) ?_] at hP1
        · exact k H1 locs1 hl hP1 hS1
        · rw [jm_cell_int hsh]
          rw [show upd (jm_i g a) j.toNatClampNeg x = jm_i (jm_si g a j.toNatClampNeg x) a from by funext z; simp [upd, jm_i, jm_si, jm_u]]
      next => cases h
    next => cases h
  | lastore =>
    obtain rfl : 1 = len := hlen
    simp only [jm_p5] at h
    split at h
    next x j a r =>
      split at h
      next hc =>
        cases h
        obtain ⟨ha, hsh⟩ := jm_isA_spec hc.1
        have he := jm_ws_at (B := B) (b := b) (tc := tc) ha
        rw [jm_cell_long hsh] at he
        refine ⟨rfl, rfl, ?_⟩
        show W p l e R s m args below meth c H locs cells slots Q (F0 m pc ls (.long x :: .int j :: .ref (jm_ad B b a) :: List.map (jm_rz B b) _))
        rw [jm_ad_lab hsh (by omega)]
        refine va_last hx hb hK hR (jm_ws_D B b tc g) hS a (jm_tx 21) he (jm_tys_at 21 (by decide)) (jm_inb_spec hc.2) hd (fun H1 locs1 hP1 _ hS1 => ?_)
        rw [jm_ws_set ha rfl (fun y hy => jm_cell_sl hy) (g' := jm_sl g a j.toNatClampNeg x) ?_] at hP1
        · exact k H1 locs1 hl hP1 hS1
        · rw [jm_cell_long hsh]
          rw [show vp_updL (jm_l g a) j.toNatClampNeg x = jm_l (jm_sl g a j.toNatClampNeg x) a from by funext z; simp [vp_updL, jm_l, jm_sl, jm_u]]
      next => cases h
    next => cases h
  | bastore =>
    obtain rfl : 1 = len := hlen
    simp only [jm_p5] at h
    split at h
    next x j a r =>
      split at h
      next hc =>
        cases h
        obtain ⟨ha, hsh⟩ := jm_isA_spec hc.1
        have he := jm_ws_at (B := B) (b := b) (tc := tc) ha
        rw [jm_cell_bool hsh] at he
        refine ⟨rfl, rfl, ?_⟩
        show W p l e R s m args below meth c H locs cells slots Q (F0 m pc ls (.int x :: .int j :: .ref (jm_ad B b a) :: List.map (jm_rz B b) _))
        rw [jm_ad_lab hsh (by omega)]
        refine va_zast hx hb hK hR (jm_ws_D B b tc g) hS a (jm_tx 22) he (jm_tys_at 22 (by decide)) (jm_inb_spec hc.2.1) hd (fun H1 locs1 hP1 _ hS1 => ?_)
        rw [jm_ws_set ha rfl (fun y hy => jm_cell_si hy) (g' := jm_si g a j.toNatClampNeg x) ?_] at hP1
        · exact k H1 locs1 hl hP1 hS1
        · rw [jm_cell_bool hsh]
          rw [show vp_nar .boolean x = x by rcases hc.2.2 with rfl | rfl <;> decide]
          rw [show upd (jm_i g a) j.toNatClampNeg x = jm_i (jm_si g a j.toNatClampNeg x) a from by funext z; simp [upd, jm_i, jm_si, jm_u]]
      next => cases h
    next => cases h
  | aastore =>
    obtain rfl : 1 = len := hlen
    simp only [jm_p5] at h
    split at h
    next x j a r =>
      split at h
      next hc =>
        cases h
        obtain ⟨ha, h30, h50, hx1, hin⟩ := hc
        obtain ⟨hxn, hxs⟩ := jm_isA_spec hx1
        have he := jm_ws_at (B := B) (b := b) (tc := tc) ha
        rw [jm_cell_ref rfl h30] at he
        have hcN : (jm_SH a).1 - 30 < jm_NC := jm_tys_NC a h30 h50
        have hc20 : (jm_SH a).1 - 30 < 20 := Nat.lt_of_lt_of_le hcN jm_NC_le
        have hv := jm_ws_at (B := B) (b := b) (tc := tc) hxn
        rw [jm_cell_obj hxs hc20] at hv
        refine ⟨rfl, rfl, ?_⟩
        show W p l e R s m args below meth c H locs cells slots Q (F0 m pc ls (.ref (jm_ad B b x) :: .int j :: .ref (jm_ad B b a) :: List.map (jm_rz B b) _))
        rw [jm_ad_lab (a := a) rfl (by omega), jm_ad_lab hxs (by omega)]
        refine va_astq hx hb hK hR (jm_ws_D B b tc g) hS a (jm_tx (jm_SH a).1) x ((jm_SH a).1 - 30) he (jm_tys_ref a h30 h50) hv (jm_cl_at hcN) (jm_inb_spec hin) hd (fun H1 locs1 hP1 _ hS1 => ?_)
        rw [jm_ws_set ha rfl (fun y hy => jm_cell_sr hy) (g' := jm_sr g a j.toNatClampNeg (some x)) ?_] at hP1
        · exact k H1 locs1 hl hP1 hS1
        · rw [jm_cell_ref rfl h30]
          rw [show va_up (fun k => Option.map (jm_ad B b) (jm_r g a k)) j.toNatClampNeg (some (B + x)) = fun k => Option.map (jm_ad B b) (jm_r (jm_sr g a j.toNatClampNeg (some x)) a k) from by
            funext z
            by_cases hz : z = j.toNatClampNeg
            · simp [va_up, jm_r, jm_sr, jm_u, hz, jm_ad_lab hxs (show (jm_SH a).1 - 30 < 99 by omega)]
            · simp [va_up, jm_r, jm_sr, jm_u, hz]]
      next => cases h
    next => cases h
  | arraylength =>
    obtain rfl : 1 = len := hlen
    simp only [jm_p5] at h
    split at h
    next a r =>
      split at h
      next hsc =>
        cases h
        refine ⟨rfl, rfl, ?_⟩
        show W p l e R s m args below meth c H locs cells slots Q (F0 m pc ls (.ref (jm_ad B b a) :: List.map (jm_rz B b) _))
        rw [show jm_ad B b a = b from if_pos hsc]
        exact va_slen hx hb hXs hbl hbA hS hd (k H locs hl hR hS)
      next hsc =>
        split at h
        next hc =>
          cases h
          obtain ⟨ha, h20, h50⟩ := hc
          have he := jm_ws_at (B := B) (b := b) (tc := tc) ha
          refine ⟨rfl, rfl, ?_⟩
          show W p l e R s m args below meth c H locs cells slots Q (F0 m pc ls (.ref (jm_ad B b a) :: List.map (jm_rz B b) _))
          rw [jm_ad_lab (a := a) rfl (by omega)]
          obtain ⟨x, hx1, hx2, ty, hty⟩ := jm_cell_arr (B := B) (b := b) (tc := tc) (g := g) a h20 h50
          rw [hx1] at he
          exact va_alen hx hb hK hR a (jm_tx (jm_SH a).1) he hty (by rw [hx2]) hd (k H locs hl hR hS)
        next => cases h
    next => cases h
  | _ => simp [jm_p5] at h
end JS2
