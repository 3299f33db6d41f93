/-! the real machine follows: what is made; members that are one step -/
def jm_zs (n : Nat) : Nat := ((List.range n).map (fun a => (jm_SH a).2)).sum
def jm_z (g : jm_H) : Nat := jm_zs (jm_n g) + 6 * jm_j g
theorem jm_zs_succ (n : Nat) : jm_zs (n + 1) = jm_zs n + (jm_SH n).2 := by
  simp [jm_zs, List.range_succ]
theorem jm_z_new (g : jm_H) : jm_z (jm_new g) = jm_z g + (jm_SH (jm_n g)).2 := by
  show jm_zs (jm_n g + 1) + 6 * jm_j g = jm_zs (jm_n g) + 6 * jm_j g + _
  rw [jm_zs_succ]
  omega
section JS3
variable {p : Program} {l : Launch} {e : Env} {R : Room} {s : State} {m : MethodId} {args : Array Value} {below : List Frame} {meth : Method} {c : Code} {H : Heap} {locs : List Loc} {cells slots : Nat} {Q : State → Prop}
variable {cc : ByteArray} {pc len nL B b oc L c0 : Nat} {xs : Nat → Int32} {ls : Array Slot} {f f' : jm_F} {st st' : List Value} {pc' : Nat} {i : Instr} {g g' : jm_H} {D : va_G} {tc : Nat → ClassId}
/-- how large the heap is -/
theorem jm_size {g0 : JFrame} (k : H.size ≤ s.heap.size + cells → W p l e R s m args below meth c H locs cells slots Q g0) : W p l e R s m args below meth c H locs cells slots Q g0 :=
  fun T hT X => k (by rw [← hT]; exact X.heapSize) T hT X
theorem jm_low (hR : jm_R B b D tc g H) (hB : B ≤ H.size) : B + jm_n g ≤ H.size := by
  cases hn : jm_n g with
  | zero => exact hB
  | succ n =>
    have h1 := (hR n _ (jm_ws_at (g := g) (a := n) (by rw [hn]; exact Nat.lt_succ_self n))).lt
    have h2 : B + n < H.size := h1
    omega
theorem jm_push {H1 : Heap} (hR : jm_R B b D tc g H) (hlow : B + jm_n g ≤ H.size) (hn : jm_n g' = jm_n g + 1) (ho : ∀ k, k < jm_n g → jm_cell B b tc g' k = jm_cell B b tc g k) (hkeep : ∀ q, q < H.size → H1[q]? = H[q]?)
    (hat : va_at D jm_classes (B + jm_n g, jm_cell B b tc g' (jm_n g)) H1) : jm_R B b D tc g' H1 := by
  unfold jm_R
  rw [jm_ws_push hn ho]
  refine va_P.app (va_P.kept hR (fun k q hk => ?_)) (fun k q hk => ?_)
  · obtain ⟨hk1, rfl⟩ := jm_ws_of hk
    exact hkeep _ (show B + k < H.size by omega)
  · have hz : k < 1 := (List.getElem?_eq_some_iff.mp hk).1
    rw [show k = 0 by omega] at hk
    cases hk
    exact hat
theorem jm_S_push {A : Nat → Prop} {H0 H1 : Heap} (hS : va_S A H0 H locs) (hz : H1.size = H.size + 1) (hkeep : ∀ q, q < H.size → H1[q]? = H[q]?) : va_S A H0 H1 locs :=
  ⟨by rw [hz]; exact Nat.le_succ_of_le hS.1, fun q h1 h2 => (hkeep q (Nat.lt_of_lt_of_le h1 hS.1)).trans (hS.2.1 q h1 h2), hS.2.2⟩
set_option maxHeartbeats 4000000 in
theorem jm_ok6 (hx : p.tables.exec = Jvm.exec) (hb : c.code = cc) (hd : decode cc pc = .ok (i, len)) (hlen : jm_len i len = len) (hts : ∀ w ∈ jm_W, w.before args s = true) (hown : s.vm.findClass (jm_on oc) = some m.cls) (hK : va_K D jm_classes (jm_tys tc) s) (hao : ∀ cx : Nat, 30 + cx ∈ jm_tags → va_AO (jm_cn cx) s)
    (hc0 : c0 + cells = jm_n g + jm_j g) (hs0 : s.heap.size ≤ B + c0) (hBs : B ≤ s.heap.size) (hrc : cells + 1 ≤ R.cells) (hrs : slots + (jm_SH (jm_n g)).2 ≤ R.slots)
    (hR : jm_R B b D tc g H) (hS : va_S (jm_A B) s.heap H locs) (hl : jm_loc B b ls nL f) (h : jm_p6 oc pc i f st g = some (pc', f', st', g'))
    (k : ∀ (H' : Heap) (locs' : List Loc), jm_loc B b ls nL f' → jm_R B b D tc g' H' → va_S (jm_A B) s.heap H' locs' → W p l e R s m args below meth c H' locs' (cells + 1) (slots + (jm_SH (jm_n g)).2) Q (F0 m pc' ls (st'.map (jm_rz B b)))) :
    g' = jm_new g ∧ W p l e R s m args below meth c H locs cells slots Q (F0 m pc ls (st.map (jm_rz B b))) := by
  have hlow := jm_low hR (Nat.le_trans hBs hS.1)
  cases i with
  | new x =>
    obtain rfl : 3 = len := hlen
    simp only [jm_p6] at h
    split at h
    next cx hcl =>
      split at h
      next hc =>
        cases h
        obtain ⟨hc20, hj, hsh⟩ := hc
        obtain ⟨hcN, hw1, hw2, hw3⟩ := jm_cl_ok oc x cx hcl hc20
        refine ⟨rfl, jm_size fun hsz => ?_⟩
        have hsz2 : H.size = B + jm_n g := by omega
        rw [hsh] at hrs k
        refine W.newcK hx hb hown (hts _ hw1) (hts _ hw2) (hts _ hw3) rfl hd hrc hrs (hK.1 cx _ (jm_cl_at hcN)).2.1 hsz2 fun H1 kC hkC e1 z1 o1 => ?_
        have hS1 := jm_S_push hS (H1 := H1) (by rw [z1, hsz2]) (fun q hq => o1 q (by omega))
        have hnl : jm_ad B b (jm_n g) = B + jm_n g := jm_ad_lab (by rw [hsh]) (by omega)
        have hk := k H1 locs hl (jm_push hR hlow rfl (fun y hy => jm_cell_new hy) (fun q hq => o1 q (by omega)) ?_) hS1
        · simp only [List.map_cons, jm_rz, hnl] at hk
          exact hk
        · rw [jm_cell_obj (by rw [hsh]) hc20]
          refine ⟨_, jm_cl_at hcN, (u_born (jm_ty cx) hts (jm_T_in cx hcN) (hK.1 cx _ (jm_cl_at hcN)) hkC e1 (jm_ty_ok cx hcN)).to (fun j hj2 => ?_)⟩
          show defaultValue (jm_ty cx j) = vp_V (jm_fs B b (jm_new g) (jm_n g) cx) j
          unfold vp_V
          rw [List.getD_eq_getElem?_getD, jm_fs_get hj2]
          have e : jm_gv (jm_new g) (jm_n g) cx j = jm_dv (jm_ft cx j) := by
            unfold jm_gv jm_dv
            generalize jm_ft cx j = t
            match t with
            | 0 => simp [jm_new, jm_i, jm_n, jm_ua]
            | 1 => simp [jm_new, jm_l, jm_n, jm_ua]
            | 2 => simp [jm_new, jm_r, jm_n, jm_ua, jm_rv]
            | t + 3 => simp [jm_new, jm_i, jm_n, jm_ua]
          rw [e]
          exact jm_def cx hcN j hj2 B b
      next => cases h
    next => cases h
  | newarray t =>
    obtain rfl : 2 = len := hlen
    simp only [jm_p6] at h
    split at h
    next n r =>
      split at h
      next hc =>
        cases h
        obtain ⟨hn0, hj, ht99, hn1, hsh⟩ := hc
        refine ⟨rfl, jm_size fun hsz => ?_⟩
        have hsz2 : H.size = B + jm_n g := by omega
        rw [hsh] at hrs k
        have hnl : jm_ad B b (jm_n g) = B + jm_n g := jm_ad_lab (a := jm_n g) rfl (by rw [hsh]; exact ht99)
        refine va_newaK hx hb (hts _ (jm_ac_ok t ht99)) rfl hd rfl hn0 rfl (jm_cb_ok t _ hn1) hrc hrs hsz2 fun H1 cA e1 z1 o1 _ hfc => ?_
        have hS1 := jm_S_push hS (H1 := H1) (by rw [z1, hsz2]) (fun q hq => o1 q (by omega))
        have hk := k H1 locs hl (jm_push hR hlow rfl (fun y hy => jm_cell_new hy) (fun q hq => o1 q (by omega)) ?_) hS1
        · simp only [List.map_cons, jm_rz, hnl] at hk
          exact hk
        · cases t with
          | int =>
            have hA : tc 20 = cA := Option.some.inj ((va_nm_int (hK.2 (jm_tx 20) _ (jm_tys_at 20 (by decide))).2).symm.trans hfc)
            rw [jm_cell_int (by rw [hsh]; rfl), hA]
            show H1[_]? = some (vp_cell _ _)
            rw [vp_cell_i, e1]
            rw [hsh, show (fun j => Value.int (jm_i (jm_new g) (jm_n g) j)) = fun _ => Value.int 0 from by funext j; simp [jm_i, jm_new, jm_ua, jm_n]]
            rfl
          | long =>
            have hA : tc 21 = cA := Option.some.inj ((va_nm_long (hK.2 (jm_tx 21) _ (jm_tys_at 21 (by decide))).2).symm.trans hfc)
            rw [jm_cell_long (by rw [hsh]; rfl), hA]
            show H1[_]? = some (vp_cell _ _)
            rw [vp_cell_l, e1]
            rw [hsh, show (fun j => Value.long (jm_l (jm_new g) (jm_n g) j)) = fun _ => Value.long 0 from by funext j; simp [jm_l, jm_new, jm_ua, jm_n]]
            rfl
          | boolean =>
            have hA : tc 22 = cA := Option.some.inj ((va_nm_boolean (hK.2 (jm_tx 22) _ (jm_tys_at 22 (by decide))).2).symm.trans hfc)
            rw [jm_cell_bool (by rw [hsh]; rfl), hA]
            show H1[_]? = some (vp_cell _ _)
            rw [vp_cell_i, e1]
            rw [hsh, show (fun j => Value.int (jm_i (jm_new g) (jm_n g) j)) = fun _ => Value.int 0 from by funext j; simp [jm_i, jm_new, jm_ua, jm_n]]
            rfl
          | _ => simp [jm_at] at ht99
      next => cases h
    next => cases h
  | anewarray x =>
    obtain rfl : 3 = len := hlen
    simp only [jm_p6] at h
    split at h
    next n r =>
      split at h
      next cx hcl =>
        split at h
        next hc =>
          cases h
          obtain ⟨hn0, hj, hc20, hn1, hsh⟩ := hc
          obtain ⟨hcN, hw1⟩ := jm_cl_mem hcl hc20
          refine ⟨rfl, jm_size fun hsz => ?_⟩
          have hsz2 : H.size = B + jm_n g := by omega
          rw [hsh] at hrs k
          have hnl : jm_ad B b (jm_n g) = B + jm_n g := jm_ad_lab (a := jm_n g) rfl (by rw [hsh]; show 30 + cx < 99; omega)
          refine W.anew hx hb hown (hts _ hw1) (va_AO.use (hao cx (by have := jm_tag_mem (jm_n g) (by rw [hsh]; show 20 ≤ 30 + cx; omega) (by rw [hsh]; show 30 + cx < 50; omega); rw [hsh] at this; exact this))) rfl hd rfl hn0 (by omega) hrc hrs fun cA kA comp f1 f2 f3 f4 => ?_
          generalize hH1 : H.push ({ cls := cA, slots := Array.replicate n.toNatClampNeg .null, vm := .none } : Cell) = H1
          have z1 : H1.size = H.size + 1 := by rw [← hH1, Array.size_push]
          have e1 : H1[H.size]? = some (arrV cA n.toNatClampNeg (fun _ => .null)) := by rw [← hH1, Array.getElem?_push_size, ← arrV_new]
          have o1 : ∀ q : Nat, q < H.size → H1[q]? = H[q]? := fun q hq => by rw [← hH1, Array.getElem?_push, if_neg (Nat.ne_of_lt hq)]
          have hS1 := jm_S_push hS z1 o1
          have hk := k H1 locs hl (jm_push hR hlow rfl (fun y hy => jm_cell_new hy) o1 ?_) hS1
          · simp only [List.map_cons, jm_rz, hnl] at hk
            rw [hsz2]
            exact hk
          · rw [jm_cell_ref (t := 30 + cx) (by rw [hsh]) (by omega)]
            have hA : tc (30 + cx) = cA := by
              have htr := jm_tys_ref (tc := tc) (jm_n g) (by rw [hsh]; show 30 ≤ 30 + cx; omega) (by rw [hsh]; show 30 + cx < 50; omega)
              rw [hsh] at htr
              rw [show (30 + cx, n.toNatClampNeg).1 - 30 = cx by show 30 + cx - 30 = cx; omega] at htr
              obtain ⟨-, hra⟩ := hK.2 _ _ htr
              obtain ⟨_, _, -, -, -, h4⟩ := hra
              exact Option.some.inj (h4.symm.trans f1)
            rw [hA]
            show H1[_]? = some (vp_cell _ _)
            rw [vp_cell_q, ← hsz2, e1, hsh]
            rw [show (fun j => va_rf (Option.map (jm_ad B b) (jm_r (jm_new g) (jm_n g) j))) = fun _ => Value.null from by funext j; simp [jm_r, jm_new, jm_ua, jm_n, va_rf]]
        next => cases h
      next => cases h
    next => cases h
  | _ => simp [jm_p6] at h
set_option maxHeartbeats 4000000 in
theorem jm_ok7 (hx : p.tables.exec = Jvm.exec) (hb : c.code = cc) (hml : c.maxLocals = nL) (hd : decode cc pc = .ok (i, len)) (hlen : jm_len i len = len) (hts : ∀ w ∈ jm_W, w.before args s = true) (hown : s.vm.findClass (jm_on oc) = some m.cls) (hK : va_K D jm_classes (jm_tys tc) s)
    (hrf : 8 ≤ R.frames) (hrl : 200 ≤ R.locals) (hrc : cells ≤ R.cells) (hrs : slots ≤ R.slots)
    (hR : jm_R B b D tc g H) (hS : va_S (jm_A B) s.heap H locs) (hl : jm_loc B b ls nL f) (h : jm_p7 oc pc i f st g = some (pc', f', st', g'))
    (k : ∀ (H' : Heap) (locs' : List Loc), jm_loc B b ls nL f' → jm_R B b D tc g' H' → va_S (jm_A B) s.heap H' locs' → W p l e R s m args below meth c H' locs' cells slots Q (F0 m pc' ls (st'.map (jm_rz B b)))) :
    jm_n g' = jm_n g ∧ jm_j g' = jm_j g ∧ W p l e R s m args below meth c H locs cells slots Q (F0 m pc ls (st.map (jm_rz B b))) := by
  have hcat : ∀ r : List Value, ((r.map (jm_rz B b)).map fun v => v.category).sum = (r.map fun v => v.category).sum := by
    intro r
    rw [List.map_map]
    congr 1
    apply List.map_congr_left
    intro v _
    exact jm_rz_cat B b v
  have hls : c.maxLocals = ls.size := by rw [hml, hl.1]
  cases i with
  | invokespecial x =>
    obtain rfl : 3 = len := hlen
    simp only [jm_p7] at h
    split at h
    next hmt =>
      split at h
      next a r =>
        split at h
        next hc =>
          cases h
          obtain ⟨w1, w2, w3⟩ := jm_mt_900 oc x hmt
          exact ⟨rfl, rfl, W.objInit hx hb hown (hts _ w1) (hts _ w2) (hts _ w3) rfl hls.symm rfl hd (by omega) (by rw [hcat]; show 2 * 0 + _ + 12 ≤ _; omega) (k H locs hl hR hS)⟩
        next => cases h
      next => cases h
    next => cases h
  | invokestatic x =>
    obtain rfl : 3 = len := hlen
    simp only [jm_p7] at h
    split at h
    next hmt =>
      split at h
      next n dp d sp sr r =>
        split at h
        next hc =>
          cases h
          obtain ⟨q1, q2, h1, h2, h3, h4, h5, h6⟩ := hc
          obtain ⟨w1, w2, w3, w4⟩ := jm_mt_901 oc x hmt
          obtain ⟨hsn, hss⟩ := jm_isA_spec q1
          obtain ⟨hdn, hds⟩ := jm_isA_spec q2
          have he0 := jm_ws_at (B := B) (b := b) (tc := tc) hsn
          rw [jm_cell_int hss] at he0
          have he1 := jm_ws_at (B := B) (b := b) (tc := tc) hdn
          rw [jm_cell_int hds] at he1
          refine ⟨rfl, rfl, ?_⟩
          show W p l e R s m args below meth c H locs cells slots Q (F0 m pc ls (.int n :: .int dp :: .ref (jm_ad B b d) :: .int sp :: .ref (jm_ad B b sr) :: List.map (jm_rz B b) _))
          rw [jm_ad_lab hss (by omega), jm_ad_lab hds (by omega)]
          refine va_copyi hx hb hls hown (hts _ w1) (hts _ w2) (hts _ w3) (hts _ w4) hK hR (jm_ws_D B b tc g) hS sr d (jm_tx 20) (jm_tx 20) he0 he1 (jm_tys_at 20 (by decide)) (jm_tys_at 20 (by decide)) rfl h1 h2 h3 h4 h5 (fun _ _ => rfl) (by omega) (by rw [hcat]; exact Nat.le_trans (Nat.add_le_add h6 jm_nat_words) hrl) hd (fun H1 locs1 hP1 _ hS1 => ?_)
          rw [jm_ws_set hdn rfl (fun y hy => jm_cell_sa hy) (g' := jm_sa g d (va_cpy (jm_i g sr) (jm_i g d) sp.toNatClampNeg dp.toNatClampNeg n.toNatClampNeg)) ?_] at hP1
          · exact k H1 locs1 hl hP1 hS1
          · rw [jm_cell_int hds]
            rw [show jm_i (jm_sa g d (va_cpy (jm_i g sr) (jm_i g d) sp.toNatClampNeg dp.toNatClampNeg n.toNatClampNeg)) d = va_cpy (jm_i g sr) (jm_i g d) sp.toNatClampNeg dp.toNatClampNeg n.toNatClampNeg from by funext z; simp [jm_i, jm_sa, jm_ua]]
        next => cases h
      next => cases h
    next hmt =>
      split at h
      next y x1 r =>
        split at h
        next hc =>
          cases h
          obtain ⟨w1, w2, w3, w4⟩ := jm_mt_902 oc x hmt
          exact ⟨rfl, rfl, va_mmin hx hb hls hown (hts _ w1) (hts _ w2) (hts _ w3) (hts _ w4) (by omega) (by rw [hcat]; omega) hrc hrs hd (k H locs hl hR hS)⟩
        next => cases h
      next => cases h
    next hmt =>
      split at h
      next y x1 r =>
        split at h
        next hc =>
          cases h
          obtain ⟨w1, w2, w3, w4⟩ := jm_mt_903 oc x hmt
          exact ⟨rfl, rfl, va_mmin_long hx hb hls hown (hts _ w1) (hts _ w2) (hts _ w3) (hts _ w4) (by omega) (by rw [hcat]; omega) hrc hrs hd (k H locs hl hR hS)⟩
        next => cases h
      next => cases h
    next hmt =>
      split at h
      next y x1 r =>
        split at h
        next hc =>
          cases h
          obtain ⟨w1, w2, w3, w4⟩ := jm_mt_904 oc x hmt
          exact ⟨rfl, rfl, va_mmax_long hx hb hls hown (hts _ w1) (hts _ w2) (hts _ w3) (hts _ w4) (by omega) (by rw [hcat]; omega) hrc hrs hd (k H locs hl hR hS)⟩
        next => cases h
      next => cases h
    next => cases h
  | _ => simp [jm_p7] at h
end JS3
