set_option maxHeartbeats 2000000 in
theorem jm_catchRow (l : Launch) (B b L : Nat) (xs : Nat → Int32) (D : va_G) (tc : Nat → ClassId) : jm_CatchRow l B b L xs D tc := by
  intro p e R s m args below meth c H locs cells slots mi pc len x d mc ms k pc' h k1 ls st st' av i g g1 f Q C ht hlen hex h8 hhn hMT hrf hrl hrc hrs hl hR hS hsz kk
  have hmem := jm_hn_mem hhn
  obtain ⟨hp, hsel, hx4, ⟨idx, htv⟩, hast⟩ := jm_hnb_spec (List.all_eq_true.mp jm_hns_ok _ hmem)
  obtain ⟨hoc13, hk1⟩ := jm_hns_oc _ hmem
  dsimp only at hoc13 hk1
  have hmiN : mi < jm_NM := jm_tab_lt ht
  cases ht.symm.trans htv
  have hd := jm_dec ht
  have C' := C
  obtain ⟨hx, hb, hml, -, -, hown, -, hts, hK, hXs, hbB, hBs, hEx⟩ := C'
  simp only [jm_p8] at h8
  split at h8
  next k0 hmt =>
    split at h8
    next c0 hrc0 =>
      split at h8
      next b0 r hdr =>
        split at h8
        next hc =>
          cases h8
          obtain ⟨h900, hI, hisA, hna, hcat, hml2⟩ := hc
          obtain ⟨hkN, hk0, hlk⟩ := jm_mt_ok hmt h900
          have hmlk : jm_ml k ≤ 40 := jm_ml_le k hkN
          obtain ⟨hin, hoc, hsl⟩ := jm_kind1 hkN hrc0
          have hcN : c0 < jm_NC := jm_rc_N k hkN c0 hrc0
          have hc20 : c0 < 20 := Nat.lt_of_lt_of_le hcN jm_NC_le
          obtain ⟨hbn, hbs⟩ := jm_isA_spec hisA
          have hhh : jm_hh k = [] := by
            rcases jm_hh_i k hkN with q | q
            · rw [hrc0] at q; cases q
            · exact q
          have hlk2 : Cond.methodLink (jm_on (jm_oc mi)) idx (jm_y k) ∈ jm_W := by
            rcases hlk with q | q
            · exact q
            · rcases jm_nst_v _ q with q2 | q2
              · rw [hrc0] at q2; cases q2
              · rw [hI] at q2; cases q2
          have hini : Cond.initialized (jm_y k).cls ∈ jm_W := jm_ini (jm_ocs k hkN)
          have hnM := jm_noMH _ (jm_ocs k hkN)
          have hlen2 : ∀ sig, parseMethodDescriptor (jm_y k).desc = some sig → (List.map (jm_rz B b) (List.take (jm_na k) st).reverse).length = sig.parameters.length := by
            intro sig hsig
            have h2 := jm_desc k hkN
            rw [show parseMethodDescriptor (jm_ds k) = some sig from hsig] at h2
            have h3 : sig.parameters.length = jm_na k := Option.some.inj h2
            rw [h3, List.length_map, List.length_reverse, List.length_take]
            omega
          have hstk : (F0 m pc ls (st.map (jm_rz B b))).stack = (List.map (jm_rz B b) (List.take (jm_na k) st).reverse).reverse ++ .ref (B + b0) :: List.map (jm_rz B b) st' := by
            show st.map (jm_rz B b) = _
            rw [← jm_ad_lab (B := B) (b := b) hbs (by omega), List.map_reverse, List.reverse_reverse]
            show _ = _ ++ List.map (jm_rz B b) (.ref b0 :: st')
            rw [← hdr, ← List.map_append, List.take_append_drop]
          have hroom : 2 * (F0 m pc ls (List.map (jm_rz B b) st')).monitorRoom + ((List.map (jm_rz B b) st').map fun v => v.category).sum ≤ 8 := by
            rw [jm_cat]
            show 2 * 0 + _ ≤ 8
            omega
          have hws := pay_in hts (jm_good k hk0 hkN)
          have hinW : ∀ (a' : Array Value) (U : State), s.WarmedH U.vm → (Cond.initialized (jm_y k).cls).before a' U = true := fun a' U hW => word_at hW (good_of_word (jm_W_good hini)) (hts _ hini)
          have hav : List.map (jm_rz B b) (Value.ref b0 :: (List.take (jm_na k) st).reverse) = Value.ref (B + b0) :: List.map (jm_rz B b) (List.take (jm_na k) st).reverse := by
            rw [List.map_cons, ← jm_ad_lab (B := B) (b := b) hbs (by omega)]
            rfl
          have hcw := jm_cw_nil hhh
          have hcd : (Cond.code (jm_y k) (jm_b k) (jm_ml k) (jm_rt k)).before args s = true := by rw [← hcw]; exact hts _ (jm_cw_ok k hk0 hkN)
          have he := jm_ws_at (B := B) (b := b) (tc := tc) hbn
          rw [jm_cell_obj hbs hc20] at he
          obtain ⟨cellB, hcB, hoB, hclB⟩ := va_recv hK hR (jm_cl_at hcN) he
          obtain ⟨mk, methM, hnamed, hmethM, hstM, habM⟩ := Cond.instanceMethod_spec (hts _ (jm_inm_ok k hin))
          obtain ⟨methM', cM, hmethM', -, -, -, -, -, -, hsigM⟩ := Cond.code_spec hnamed hcd
          cases hmethM.symm.trans hmethM'
          obtain ⟨c2, r2, m2, q1, q2, q3, q4, kP, hkP, hkPi⟩ := Cond.selects_spec (hts _ (jm_sel_ok k (hsl hI)))
          have hclB' : s.vm.findClass (jm_on (jm_oc k)) = some cellB.cls := by rw [← hoc]; exact hclB
          cases hclB'.symm.trans q1
          cases (State.methodFound?_of_named hnamed hnM).symm.trans q2
          cases hnamed.symm.trans q3
          intro T hT X
          have hselP : selectMethod e.platform s.vm cellB.cls mk = .method mk := by rw [Launch.admits_selectMethod X.admits]; exact q4
          obtain ⟨vm₁, X₁, hstep₁⟩ := X.invokevirtual hx (own := jm_on (jm_oc mi)) (index := idx) (x := jm_y k) hown (hts _ hlk2) hnamed hmethM hstM hkP hkPi hnM (a := B + b0) (cell := cellB) (by rw [hT]; exact hcB)
            (fun z hz => by rw [hz] at hoB; cases hoB) hselP hmethM habM hkP hkPi (g := F0 m pc ls (st.map (jm_rz B b))) rfl (argsL := List.map (jm_rz B b) (List.take (jm_na k) st).reverse) (rest := List.map (jm_rz B b) st') (hlen2 _ hsigM) hstk (by rw [hb]; exact hd)
          have hpre : jm_Pc B b L xs D tc g (Value.ref b0 :: (List.take (jm_na k) st).reverse) (Value.ref (B + b0) :: List.map (jm_rz B b) (List.take (jm_na k) st).reverse).toArray (T.setVm vm₁) := by
            rw [← hav]
            exact jm_pre C hR hS hsz (T.setVm vm₁) hT X₁.warmed
          obtain ⟨a, t, L2, hq, hL, hWt, X2, hsteps⟩ := jm_ofFreeT X₁ hMT rfl rfl (bytes := jm_b k) (maxL := jm_ml k) (ret := jm_rt k) (by show d + 8 + 1 ≤ _; omega) (by show 8 + (jm_ml k + 11) + (64 * d + 200) ≤ _; omega) hrc hrs hws (by rw [← hcw]; exact List.mem_cons_self) hinW
            (g := F0 m pc ls (List.map (jm_rz B b) st')) rfl (by rw [hml]; exact hl.1) (by rw [hb]; exact hd) hroom (X₁.named hnamed) (jm_Pc_blind B b L xs D tc g _ _ _ _ mk hpre)
          obtain ⟨a2, cell2, ho, hcell2, hst2, hcls2, hR1, hF1⟩ := hq
          cases ho
          have hsz1 : H.size ≤ t.heap.size := by
            have := hF1.1
            rw [show ((T.setVm vm₁).calling (F0 m pc ls (List.map (jm_rz B b) st')) mk (Value.ref (B + b0) :: List.map (jm_rz B b) (List.take (jm_na k) st).reverse).toArray).heap = H from hT] at this
            exact this
          have hkp1 : ∀ q : Nat, q < H.size → ¬ jm_A B q → t.heap[q]? = H[q]? := by
            intro q h1 h2
            have := hF1.2 q
            rw [show ((T.setVm vm₁).calling (F0 m pc ls (List.map (jm_rz B b) st')) mk (Value.ref (B + b0) :: List.map (jm_rz B b) (List.take (jm_na k) st).reverse).toArray).heap = H from hT] at this
            exact this h1 h2
          have hS1 : va_S (jm_A B) s.heap t.heap (locs ++ L2) := ⟨Nat.le_trans hS.1 hsz1, fun q h1 h2 => (hkp1 q (Nat.lt_of_lt_of_le h1 hS.1) h2).trans (hS.2.1 q h1 h2), fun q hq2 => by
            rcases List.mem_append.mp hq2 with h1 | h1
            · exact hS.2.2 q h1
            · exact hL q h1⟩
          have hall : ∀ q ∈ jm_hh mi, (jm_ct q.2.2.2 = 50 ∨ jm_ct q.2.2.2 = 51 ∨ jm_ct q.2.2.2 = 52 ∨ jm_ct q.2.2.2 = 53) ∧ (Cond.classLink (jm_on (jm_oc mi)) q.2.2.2 (jm_xn (jm_ct q.2.2.2))).before args s = true := by
            intro q hq2
            have h1 := jm_hh_ct mi hmiN q hq2
            refine ⟨h1, ?_⟩
            rw [hoc13]
            exact hts _ (jm_ct_W h1)
          obtain ⟨vm', hw', hfind⟩ := jm_search (B := B) (a := a) (args := args) (f := F0 m pc ls (List.map (jm_rz B b) st')) X.admits hown hEx hx4 (cell := cell2) (VmData.ne_statics_of hst2) (by rw [← hWt.alike.findClass]; exact hcls2) (jm_hh mi) hp hall hsel
            (((({ T.setVm vm₁ with heap := t.heap, slotsUsed := t.slotsUsed } : State).setVm t.vm).setTop (F0 m pc ls (List.map (jm_rz B b) st'))).pushFrame (.throwing a)) (by rw [Stand.throwing_vm]; exact hWt) (by rw [Stand.throwing_heap]; exact hcell2)
          have hkk : W p l e R s m args below meth c t.heap (locs ++ L2) (cells + mc) (slots + ms) Q (F0 m hp ls [.ref a]) := by
            rcases hast with ⟨q, hta, hqk, hh⟩ | ⟨hta, hh⟩
            · subst hh
              exact lv_astore_n hx hb (jm_dec hta) rfl hl.has (by rw [hqk]; exact hk1) rfl (fun ls' h' => kk t.heap _ ls' (jm_loc_none h') hR1 hS1)
            · subst hh
              exact lv_astore hx hb (jm_dec hta) hl.has hk1 rfl (fun ls' h' => kk t.heap _ ls' (jm_loc_none h') hR1 hS1)
          obtain ⟨tt, a1, b1⟩ := hkk ((({ T.setVm vm₁ with heap := t.heap, slotsUsed := t.slotsUsed } : State).setVm t.vm).setVm vm') rfl (X2.noted hw')
          refine ⟨tt, hstep₁ _ (fun acts => ?_), b1⟩
          rw [doInvoke_state]
          refine hsteps.trans ?_
          refine jm_caught (pc := hp) X2.here X2.method' X2.code (fun Q2 E2 d2 acts2 => ?_) a1
          rw [hex]
          exact hfind Q2 E2 d2 acts2
        next => cases h8
      next => cases h8
    next => cases h8
  next => cases h8
