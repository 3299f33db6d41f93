/-! a call: invokestatic -/
section JS6S
variable {p : Program} {l : Launch} {e : Env} {R : Room} {s : State} {m : MethodId} {args : Array Value} {below : List Frame} {meth : Method} {c : Code} {H : Heap} {locs : List Loc} {cells slots : Nat} {Q : State → Prop}
variable {pc len B b L mi oc d mc ms : Nat} {xs : Nat → Int32} {ls : Array Slot} {f : jm_F} {st st' : List Value} {i : Instr} {g g1 : jm_H} {D : va_G} {tc : Nat → ClassId} {k pc' : Nat} {av : List Value} {v : Option Value}
set_option maxHeartbeats 2000000 in
theorem jm_run8S {x : Nat} (C : jm_Cx B b L xs D tc mi p s m args meth c) (hd : decode (jm_b mi) pc = .ok (.invokestatic x, 3)) (h : jm_p8 (jm_oc mi) pc (.invokestatic x) st g = some (k, av, pc', st')) :
    pc' = pc + 3 ∧ 0 < k ∧ k < jm_NM ∧ (av.map fun v => v.category).sum ≤ jm_ml k ∧ (∀ {l : Launch} {e : Env} {R : Room} {below : List Frame} {H : Heap} {locs : List Loc} {cells slots mc ms d : Nat} {ls : Array Slot} {v : Option Value} {g1 : jm_H}, ls.size = jm_ml mi → jm_R B b D tc g H → va_S (jm_A B) s.heap H locs → H.size ≤ B + (jm_n g + jm_j g) →
      Met l (jm_y k) (jm_cw k :: jm_W) (jm_rm d mc ms) (jm_Pc B b L xs D tc g av) (jm_Qc B b D tc g1 v) mc ms (jm_A B) → d + 9 ≤ R.frames → 64 * d + 264 ≤ R.locals → cells + mc ≤ R.cells → slots + ms ≤ R.slots →
      va_Run p l e R s m args below meth c H locs cells slots mc ms (F0 m pc ls (st.map (jm_rz B b))) (st'.map (jm_rz B b)) (jm_Qc B b D tc g1 v (av.map (jm_rz B b)).toArray) (jm_A B)) := by
  have C' := C
  obtain ⟨hx, hb, hml, -, -, hown, -, hts, hK, -, -, -, hEx⟩ := C'
  have hnw : ∀ {k : Nat}, (jm_oc mi, x, k) ∈ jm_nst → (Cond.methodLinkNest (jm_on (jm_oc mi)) x (jm_y k) "CaptureBench").before args s = true := fun {k} h2 => by
    have h3 := hEx.1 _ h2
    exact va_Nw.use rfl h3
  simp only [jm_p8] at h
  split at h
  next k0 hmt =>
    split at h
    next hc =>
      cases h
      obtain ⟨h900, hrc, hna, hcat, hml2⟩ := hc
      obtain ⟨hkN, hk0, hlk⟩ := jm_mt_ok hmt h900
      have hmlk : jm_ml k ≤ 40 := jm_ml_le k hkN
      refine ⟨rfl, hk0, hkN, by rw [List.map_reverse, List.sum_reverse]; exact hml2, ?_⟩
      intro l e R below H locs cells slots mc ms d ls v g1 hls hR hS hsz hM hrf hrl hrcl hrs
      have hst : Cond.static (jm_y k) ∈ jm_W := jm_sta_ok k (jm_kind0 hkN hk0 hrc)
      have hini : Cond.initialized (jm_y k).cls ∈ jm_W := jm_ini (jm_ocs k hkN)
      have hnM := jm_noMH _ (jm_ocs k hkN)
      have hlen2 : ∀ sig, parseMethodDescriptor (jm_y k).desc = some sig → (List.map (jm_rz B b) (List.take (jm_na k) st).reverse).length = sig.parameters.length := by
        intro sig hsig
        have h2 := jm_desc k hkN
        rw [show parseMethodDescriptor (jm_ds k) = some sig from hsig] at h2
        have h3 : sig.parameters.length = jm_na k := Option.some.inj h2
        rw [h3, List.length_map, List.length_reverse, List.length_take]
        omega
      have hstk : (F0 m pc ls (st.map (jm_rz B b))).stack = (List.map (jm_rz B b) (List.take (jm_na k) st).reverse).reverse ++ List.map (jm_rz B b) (List.drop (jm_na k) st) := by
        show st.map (jm_rz B b) = _
        rw [List.map_reverse, List.reverse_reverse, ← List.map_append, List.take_append_drop]
      have hroom : 2 * (F0 m pc ls (st.map (jm_rz B b))).monitorRoom + ((List.map (jm_rz B b) (List.drop (jm_na k) st)).map fun v => v.category).sum ≤ 8 := by
        rw [jm_cat]
        show 2 * 0 + _ ≤ 8
        omega
      have hws := pay_in hts (jm_good k hk0 hkN)
      have hinW : ∀ (a' : Array Value) (U : State), s.WarmedH U.vm → (Cond.initialized (jm_y k).cls).before a' U = true := fun a' U hW => word_at hW (good_of_word (jm_W_good hini)) (hts _ hini)
      intro T hT X
      have hpr : ∀ vm₁, s.WarmedH vm₁ → PreOf R mc ms (jm_Pc B b L xs D tc g (List.take (jm_na k) st).reverse) ⟨T.setVm vm₁, locs, cells, slots⟩ (List.map (jm_rz B b) (List.take (jm_na k) st).reverse).toArray := fun vm₁ hW₁ => ⟨hrcl, hrs, jm_pre C hR hS hsz (T.setVm vm₁) hT hW₁⟩
      by_cases hh : jm_hh k = []
      · have hcw := jm_cw_nil hh
        have hcd : (Cond.code (jm_y k) (jm_b k) (jm_ml k) (jm_rt k)).before args s = true := by rw [← hcw]; exact hts _ (jm_cw_ok k hk0 hkN)
        have hBk : Back l R p e below s args (jm_y k) 3 8 (PreOf R mc ms (jm_Pc B b L xs D tc g (List.take (jm_na k) st).reverse)) (PostOf (jm_Qc B b D tc g1 v) mc ms (jm_A B)) :=
          back_of (bytes := jm_b k) (maxL := jm_ml k) (ret := jm_rt k) hM (jm_Pc_blind B b L xs D tc g _) rfl rfl (by show d + 8 + 1 ≤ _; omega) (by show 8 + (jm_ml k + 11) + (64 * d + 200) ≤ _; omega) hws (by rw [← hcw]; exact List.mem_cons_self) hinW
        rcases hlk with hlk | hlk
        · obtain ⟨v', vm₁, ⟨U', l2, c2, s2⟩, hW₁, X', ⟨g', mk, t, L2, e1, e2, hq, h1, hL, h2, h3⟩, st2⟩ := callS X hx (own := jm_on (jm_oc mi)) (index := x) (y := jm_y k) (bytes := jm_b k) (maxL := jm_ml k) (ret := jm_rt k) hown (hts _ hlk) (hts _ hst) (hts _ hini) hcd hnM hBk rfl (by rw [hml]; exact hls) hlen2 hstk hroom (by rw [hb]; exact hd) hpr
          dsimp only [Pt.U, Pt.locs, Pt.cells, Pt.slots] at X' e1 e2 h1 h2 h3 st2
          subst h1; subst h2; subst h3
          exact ⟨v', _, t, U', L2, hT, X', hL, e1, e2, hq, st2⟩
        · obtain ⟨v', vm₁, ⟨U', l2, c2, s2⟩, hW₁, X', ⟨g', mk, t, L2, e1, e2, hq, h1, hL, h2, h3⟩, st2⟩ := va_callSN X hx (own := jm_on (jm_oc mi)) (index := x) (y := jm_y k) (bytes := jm_b k) (maxL := jm_ml k) (ret := jm_rt k) (host := "CaptureBench") hown (hnw hlk) (hts _ hst) (hts _ hini) hcd hnM hBk rfl (by rw [hml]; exact hls) hlen2 hstk hroom (by rw [hb]; exact hd) hpr
          dsimp only [Pt.U, Pt.locs, Pt.cells, Pt.slots] at X' e1 e2 h1 h2 h3 st2
          subst h1; subst h2; subst h3
          exact ⟨v', _, t, U', L2, hT, X', hL, e1, e2, hq, st2⟩
      · have hcw := jm_cw_cons hh
        have hcd : (Cond.codeWith (jm_y k) (jm_b k) (jm_ml k) (jm_rt k) (jm_hh k)).before args s = true := by rw [← hcw]; exact hts _ (jm_cw_ok k hk0 hkN)
        have hBk : Back l R p e below s args (jm_y k) 3 8 (PreOf R mc ms (jm_Pc B b L xs D tc g (List.take (jm_na k) st).reverse)) (PostOf (jm_Qc B b D tc g1 v) mc ms (jm_A B)) :=
          va_backW (hh := jm_hh k) (bytes := jm_b k) (maxL := jm_ml k) (ret := jm_rt k) hM (jm_Pc_blind B b L xs D tc g _) rfl rfl (by show d + 8 + 1 ≤ _; omega) (by show 8 + (jm_ml k + 11) + (64 * d + 200) ≤ _; omega) hws (by rw [← hcw]; exact List.mem_cons_self) hinW
        rcases hlk with hlk | hlk
        · obtain ⟨v', vm₁, ⟨U', l2, c2, s2⟩, hW₁, X', ⟨g', mk, t, L2, e1, e2, hq, h1, hL, h2, h3⟩, st2⟩ := jm_callSW X hx (own := jm_on (jm_oc mi)) (index := x) (y := jm_y k) (bytes := jm_b k) (maxL := jm_ml k) (ret := jm_rt k) (hh := jm_hh k) hown (hts _ hlk) (hts _ hst) (hts _ hini) hcd hnM hBk rfl (by rw [hml]; exact hls) hlen2 hstk hroom (by rw [hb]; exact hd) hpr
          dsimp only [Pt.U, Pt.locs, Pt.cells, Pt.slots] at X' e1 e2 h1 h2 h3 st2
          subst h1; subst h2; subst h3
          exact ⟨v', _, t, U', L2, hT, X', hL, e1, e2, hq, st2⟩
        · exact absurd (jm_nst_h _ hlk) hh
    next => cases h
  next => cases h
end JS6S
