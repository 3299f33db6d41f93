/-! printed by wip/whole/gen/h17.py: the law -/
def LwQ (z : jm_O) : Prop := ∃ gF : jm_H, z = (.inl (some (.int (iI 1))), gF) ∧ jm_n gF + jm_j gF ≤ 601024 ∧ jm_z gF ≤ 7293034
theorem zs139 : jm_zs 139 ≤ 7000000 := by decide +kernel
section H17
variable {L : Nat} {xs : Nat → Int32} {d : Nat}
set_option maxRecDepth 100000 in
set_option maxHeartbeats 4000000 in
theorem law_loop (hL : L ≤ 2560) : ∀ (N : Nat) (q j : Nat) (I : Nat → Nat → Int32) (M : Nat → Nat → Int64) (p : Nat → Option Nat) (A : AB) (f : jm_F), L - 5 * q < N → 5 * q ≤ L → f 0 = some (.ref jm_S) → f 1 = some (.ref 0) → f 2 = some (.ref 103) → f 3 = some (.ref 138) → f 4 = some (.int (iI ((5 * q : Nat) : Int))) → j ≤ q → CR I M p A → CM I M A → A6 A → jx L xs (d + 40) 0 23 f [] (jx_G j I M p) LwQ := by
  intro N
  induction N with
  | zero => intro q j I M p A f h0; exact absurd h0 (Nat.not_lt_zero _)
  | succ N ih =>
    intro q j I M p A f hN hq hf0 hf1 hf2 hf3 hf4 hj hR hM h6
    obtain ⟨a0, ha0, ca0⟩ := iI_of (xs (5 * q + 0))
    refine jv_iload (pc' := 25) (k := 4) (x := (iI ((5 * q : Nat) : Int))) rfl rfl hf4 ?_
    refine jv_aload_n (pc' := 26) (k := 0) (x := jm_S) rfl rfl rfl hf0 ?_
    refine jv_int (pc' := 27) (y := iI (L : Int)) rfl rfl ?_
    refine jv_iconst (pc' := 28) (n := 5) rfl rfl ?_
    refine jv_isub (pc' := 29) (a := (L : Int)) (b := 5) rfl rfl ?_
    refine jv_ic_gt (t := 1249) (pc' := 32) (a := ((5 * q : Nat) : Int)) (b := ((L : Int) - 5)) rfl rfl rfl (by omega) (fun hz_1 => ?_) (fun hz_1 => ?_)
    · skip
      refine jv_iconst (pc' := 1250) (n := 1) rfl rfl ?_
      refine jv_retZ rfl rfl (Or.inr rfl) ⟨_, rfl, ?_, ?_⟩
      · show 139 + j ≤ 601024
        omega
      · show jm_zs 139 + 6 * j ≤ 7293034
        have := zs139
        omega
    · skip
      have hq5 : 5 * q + 5 ≤ L := by omega
      have K : ∀ (j' : Nat) (I' : Nat → Nat → Int32) (M' : Nat → Nat → Int64) (p' : Nat → Option Nat) (A' : AB) (f' : jm_F), f' 0 = some (.ref jm_S) → f' 1 = some (.ref 0) → f' 2 = some (.ref 103) → f' 3 = some (.ref 138) → f' 4 = some (.int (iI ((5 * q : Nat) : Int))) → j' ≤ q + 1 → CR I' M' p' A' → CM I' M' A' → A6 A' → jx L xs (d + 40) 0 1243 f' [] (jx_G j' I' M' p') LwQ := by
        intro j' I' M' p' A' f' e0 e1 e2 e3 e4 hj' hR' hM' h6'
        refine jv_iinc (pc' := 1246) (k := 4) (a := ((5 * q : Nat) : Int)) rfl rfl e4 rfl (Or.inr (congrArg jm_lng e3)) ?_
        refine jx_step (pc' := 23) rfl ?_
        exact ih (q + 1) j' I' M' p' A' _ (by omega) (by omega) e0 e1 e2 e3 (congrArg (fun z => some (Value.int (iI z))) (show ((5 * q : Nat) : Int) + 5 = ((5 * (q + 1) : Nat) : Int) by omega)) hj' hR' hM' h6'
      refine jv_aload_n (pc' := 33) (k := 0) (x := jm_S) rfl rfl rfl hf0 ?_
      refine jv_iload (pc' := 35) (k := 4) (x := (iI ((5 * q : Nat) : Int))) rfl rfl hf4 ?_
      refine jv_sload (pc' := 36) (e := ((5 * q : Nat) : Int)) (v := (iI a0)) rfl rfl hL (by omega) ((congrArg xs (show (((5 * q : Nat) : Int) : Int).toNat = 5 * q + 0 by omega)).trans ca0) ?_
      refine jv_bipush (pc' := 38) (n := 31) rfl rfl rfl ?_
      refine jv_int (pc' := 39) (y := (iI a0) &&& (iI 31)) rfl rfl ?_
      obtain ⟨kk, hkk, ekk⟩ := and31 (iI a0)
      rw [ekk]
      have h32 : kk = 0 ∨ kk = 1 ∨ kk = 2 ∨ kk = 3 ∨ kk = 4 ∨ kk = 5 ∨ kk = 6 ∨ kk = 7 ∨ kk = 8 ∨ kk = 9 ∨ kk = 10 ∨ kk = 11 ∨ kk = 12 ∨ kk = 13 ∨ kk = 14 ∨ kk = 15 ∨ kk = 16 ∨ kk = 17 ∨ kk = 18 ∨ kk = 19 ∨ kk = 20 ∨ kk = 21 ∨ kk = 22 ∨ kk = 23 ∨ kk = 24 ∨ kk = 25 ∨ kk = 26 ∨ kk = 27 ∨ kk = 28 ∨ kk = 29 ∨ kk = 30 ∨ kk = 31 := by omega
      rcases h32 with rfl | rfl | rfl | rfl | rfl | rfl | rfl | rfl | rfl | rfl | rfl | rfl | rfl | rfl | rfl | rfl | rfl | rfl | rfl | rfl | rfl | rfl | rfl | rfl | rfl | rfl | rfl | rfl | rfl | rfl | rfl | rfl
      · refine jx_step (pc' := 124) rfl ?_
        exact blk_write hL hq5 hf0 hf1 hf2 hf3 hf4 hj hR hM h6 K
      · refine jx_step (pc' := 224) rfl ?_
        exact blk_wipe hL hq5 hf0 hf1 hf2 hf3 hf4 hj hR hM h6 K
      · refine jx_step (pc' := 237) rfl ?_
        exact blk_layer hL hq5 hf0 hf1 hf2 hf3 hf4 hj hR hM h6 K
      · refine jx_step (pc' := 293) rfl ?_
        exact blk_root hL hq5 hf0 hf1 hf2 hf3 hf4 hj hR hM h6 K
      · refine jx_step (pc' := 341) rfl ?_
        exact blk_follow hL hq5 hf0 hf1 hf2 hf3 hf4 hj hR hM h6 K
      · refine jx_step (pc' := 401) rfl ?_
        exact blk_frame hL hq5 hf0 hf1 hf2 hf3 hf4 hj hR hM h6 K
      · refine jx_step (pc' := 469) rfl ?_
        exact blk_drop hL hq5 hf0 hf1 hf2 hf3 hf4 hj hR hM h6 K
      · refine jx_step (pc' := 525) rfl ?_
        exact blk_limit hL hq5 hf0 hf1 hf2 hf3 hf4 hj hR hM h6 K
      · refine jx_step (pc' := 561) rfl ?_
        exact blk_decode hL hq5 hf0 hf1 hf2 hf3 hf4 hj hR hM h6 K
      · refine jx_step (pc' := 617) rfl ?_
        exact blk_entry hL hq5 hf0 hf1 hf2 hf3 hf4 hj hR hM h6 K
      · refine jx_step (pc' := 697) rfl ?_
        exact blk_value hL hq5 hf0 hf1 hf2 hf3 hf4 hj hR hM h6 K
      · refine jx_step (pc' := 764) rfl ?_
        exact blk_filter hL hq5 hf0 hf1 hf2 hf3 hf4 hj hR hM h6 K
      · refine jx_step (pc' := 820) rfl ?_
        exact blk_next hL hq5 hf0 hf1 hf2 hf3 hf4 hj hR hM h6 K
      · refine jx_step (pc' := 888) rfl ?_
        exact blk_total hL hq5 hf0 hf1 hf2 hf3 hf4 hj hR hM h6 K
      · refine jx_step (pc' := 979) rfl ?_
        exact blk_talks hL hq5 hf0 hf1 hf2 hf3 hf4 hj hR hM h6 K
      · refine jx_step (pc' := 1071) rfl ?_
        exact blk_talk hL hq5 hf0 hf1 hf2 hf3 hf4 hj hR hM h6 K
      · refine jx_step (pc' := 1138) rfl ?_
        exact blk_stream hL hq5 hf0 hf1 hf2 hf3 hf4 hj hR hM h6 K
      · refine jx_step (pc' := 1218) rfl ?_
        exact blk_streamed hL hq5 hf0 hf1 hf2 hf3 hf4 hj hR hM h6 K
      · refine jx_step (pc' := 1243) rfl ?_
        exact K _ _ _ _ _ _ hf0 hf1 hf2 hf3 hf4 (by omega) hR hM h6
      · refine jx_step (pc' := 1243) rfl ?_
        exact K _ _ _ _ _ _ hf0 hf1 hf2 hf3 hf4 (by omega) hR hM h6
      · refine jx_step (pc' := 1243) rfl ?_
        exact K _ _ _ _ _ _ hf0 hf1 hf2 hf3 hf4 (by omega) hR hM h6
      · refine jx_step (pc' := 1243) rfl ?_
        exact K _ _ _ _ _ _ hf0 hf1 hf2 hf3 hf4 (by omega) hR hM h6
      · refine jx_step (pc' := 1243) rfl ?_
        exact K _ _ _ _ _ _ hf0 hf1 hf2 hf3 hf4 (by omega) hR hM h6
      · refine jx_step (pc' := 1243) rfl ?_
        exact K _ _ _ _ _ _ hf0 hf1 hf2 hf3 hf4 (by omega) hR hM h6
      · refine jx_step (pc' := 1243) rfl ?_
        exact K _ _ _ _ _ _ hf0 hf1 hf2 hf3 hf4 (by omega) hR hM h6
      · refine jx_step (pc' := 1243) rfl ?_
        exact K _ _ _ _ _ _ hf0 hf1 hf2 hf3 hf4 (by omega) hR hM h6
      · refine jx_step (pc' := 1243) rfl ?_
        exact K _ _ _ _ _ _ hf0 hf1 hf2 hf3 hf4 (by omega) hR hM h6
      · refine jx_step (pc' := 1243) rfl ?_
        exact K _ _ _ _ _ _ hf0 hf1 hf2 hf3 hf4 (by omega) hR hM h6
      · refine jx_step (pc' := 1243) rfl ?_
        exact K _ _ _ _ _ _ hf0 hf1 hf2 hf3 hf4 (by omega) hR hM h6
      · refine jx_step (pc' := 1243) rfl ?_
        exact K _ _ _ _ _ _ hf0 hf1 hf2 hf3 hf4 (by omega) hR hM h6
      · refine jx_step (pc' := 1243) rfl ?_
        exact K _ _ _ _ _ _ hf0 hf1 hf2 hf3 hf4 (by omega) hR hM h6
      · refine jx_step (pc' := 1243) rfl ?_
        exact K _ _ _ _ _ _ hf0 hf1 hf2 hf3 hf4 (by omega) hR hM h6
end H17
/-! the start -/
def jx_p0 (i : Nat) : Option Nat := (jx_mut.find? (fun r => r.2.2 == i)).bind (fun r => jx_R1 r.1 r.2.1)
theorem jx_p0_ok : ∀ r ∈ jx_mut, jx_p0 r.2.2 = jx_R1 r.1 r.2.1 := by decide +kernel
theorem start_g : jx_g1 = jx_G 0 jx_I jx_L jx_p0 := by
  have e : jx_R jx_p0 = jx_R1 := by
    funext a k
    unfold jx_R
    cases hq : jx_mi a k with
    | none => rfl
    | some i => exact jx_p0_ok (a, k, i) (jm_find2 hq)
  show (139, 0, jx_I, jx_L, jx_R1) = (139, 0, jx_I, jx_L, jx_R jx_p0)
  rw [e]
def jx_A0 : AB := fun l k => if l = 133 ∨ l = 134 then (jx_L l k).toInt else (jx_I l k).toInt
theorem start_m : CM jx_I jx_L jx_A0 := by
  refine ⟨fun l k hp => ?_, fun l k hl => ?_⟩
  · have : jx_A0 l k = (jx_I l k).toInt := if_neg (by unfold pers at hp; omega)
    rw [this]; exact (Int32.ofInt_toInt _).symm
  · have : jx_A0 l k = (jx_L l k).toInt := if_pos hl
    rw [this]; exact (Int64.ofInt_toInt _).symm
set_option maxRecDepth 100000 in
theorem start_6 : A6 jx_A0 := fun f => Or.inl (show (jx_I 136 f).toInt = 0 from congrArg Int32.toInt (show jx_I 136 f = 0 from rfl))
theorem st1 : jx_A0 103 2 = 0 ∧ jx_A0 103 11 = 64 ∧ jx_A0 103 12 = 0 ∧ jx_A0 103 44 = 0 := by decide +kernel
theorem st2 : ∀ l, l < 4 → jx_A0 106 l = 0 ∧ jx_A0 108 l = 0 ∧ jx_A0 110 l = 0 := by decide +kernel
theorem st3 : ∀ i, i < 2 → jx_A0 109 i = -1 ∧ jx_I 12 i = iI (-1) := by decide +kernel
theorem st4 : ∀ q, q < 64 → jx_A0 137 q = -1 ∧ jx_I 102 q = iI (-1) := by decide +kernel
theorem st5 : ∀ l, l < 4 → jx_p0 (13 + l) = some (46 + 10 * l) ∧ jx_I (46 + 10 * l) 6 = iI 0 ∧ jx_I (53 + 10 * l) 2 = iI 0 ∧ jx_I (87 + 2 * l) 1 = iI 0 := by decide +kernel
theorem st6 : ∀ i, i < 12 → jx_p0 (1 + i) = some (14 + 2 * i) ∧ jx_I 100 i = iI 0 := by decide +kernel
theorem st7 : jx_p0 0 = some 3 ∧ jx_I 1 1 = iI 0 ∧ jx_I 95 5 = iI 0 ∧ jx_I 38 9 = iI 0 ∧ jx_I 38 10 = iI 0 ∧ jx_I 39 2 = iI 0 ∧ jx_I 0 12 = iI (-1) ∧ jx_I 0 10 = iI 0 ∧ jx_I 0 11 = iI 64 ∧ jx_I 98 2 = iI 0 := by decide +kernel
theorem start_r : CR jx_I jx_L jx_p0 jx_A0 := by
  obtain ⟨a2, a11, a12, a44⟩ := st1
  obtain ⟨p0, i1, i95, i389, i3810, i39, i012, i010, i011, i98⟩ := st7
  have v1 : AV1 jx_A0 := ⟨by omega, fun k hk => absurd hk (by omega)⟩
  have v2 : AV2 jx_A0 := fun l hl => by have := st2 l hl; exact ⟨by omega, fun k hk => absurd hk (by omega)⟩
  have v3 : AV3 jx_A0 := fun l hl => by have := st2 l hl; exact ⟨by omega, fun k hk => absurd hk (by omega), fun h => absurd h (by omega)⟩
  have v4 : AV4 jx_A0 := fun l hl => by have := st2 l hl; exact ⟨by omega, fun k hk => absurd hk (by omega), fun k k' hk => absurd hk (by omega)⟩
  have v5 : AV5 jx_A0 := ⟨fun i hi => by have := st3 i hi; omega, by omega, by omega, fun f hf => absurd hf (by omega)⟩
  refine ⟨⟨v1, v2, v3, v4, v5⟩, ?_, ⟨fun l => 46 + 10 * l, 3, fun i => 14 + 2 * i, ?_, ?_, ?_⟩, ?_, ?_, ?_, ?_, ?_⟩
  · have e : aN jx_A0 = 0 := by unfold aN; omega
    show CT jx_I 1 (aC jx_A0) (aN jx_A0)
    rw [e]
    exact ⟨i1, Nat.zero_le _, fun k hk => absurd hk (Nat.not_lt_zero _), fun k hk => absurd hk (Nat.not_lt_zero _), fun k _ => if_neg (by omega)⟩
  · refine ⟨fun l hl => ?_, p0, Or.inl rfl, fun l hl => (by show 46 + 10 * l ≠ 3; omega), fun l l' _ _ e => (by have e' : 46 + 10 * l = 46 + 10 * l' := e; omega)⟩
    have h1 := st5 l hl
    have h2 := st2 l hl
    have e : anL jx_A0 l = 0 := by unfold anL; omega
    rw [e]
    exact ⟨h1.1, (by show YL (46 + 10 * l); unfold YL; omega), Nat.zero_le _, Or.inl ⟨rfl, h1.2.1⟩⟩
  · exact ⟨fun i hi => ⟨(st6 i hi).1, (by show FL (14 + 2 * i); unfold FL; omega)⟩, fun i i' _ _ e => (by have e' : 14 + 2 * i = 14 + 2 * i' := e; omega), fun f hf => absurd hf (by omega)⟩
  · exact ⟨⟨false, i95⟩, fun _ _ => 0, fun _ _ => 0, 0, -1, ⟨i389, i3810, i39, fun k hk => absurd (show (k : Int) < 0 from hk) (by omega)⟩, fun k hk => absurd (show (k : Int) < 0 from hk) (by omega), ⟨Int.le_refl _, (show (0 : Int) ≤ 64 by omega)⟩, i012, Or.inl rfl⟩
  · intro l hl
    have h1 := st5 l hl
    have h2 := st2 l hl
    have e : afc jx_A0 l = 0 := by unfold afc; omega
    rw [e]
    exact ⟨h1.2.2.1, by omega, fun k hk => absurd hk (Nat.not_lt_zero _)⟩
  · exact ⟨by rw [a12]; exact i010, by rw [a11]; exact i011, fun i hi => by rw [(st3 i hi).1]; exact (st3 i hi).2⟩
  · intro l hl
    have h1 := st5 l hl
    have h2 := st2 l hl
    have e : anF jx_A0 l = 0 := by unfold anF; omega
    rw [e]
    exact ⟨h1.2.2.2, Nat.zero_le _, fun k hk => absurd hk (Nat.not_lt_zero _), fun k hk => absurd hk (Nat.not_lt_zero _), fun k _ => if_neg (by omega)⟩
  · exact ⟨by rw [a44]; exact i98, by omega, fun k hk => absurd hk (by omega), fun f hf => ⟨0, (st6 f hf).2, by omega, fun h => absurd h (by omega)⟩⟩
  · exact fun q hq => by rw [(st4 q hq).1]; exact ⟨(st4 q hq).2, by omega⟩
theorem jm_law : jm_Law := by
  intro L xs hL
  obtain ⟨f, hw, h0, h1, h2, h3, h4⟩ := jx_first L xs 29
  have hz : jx L xs 40 0 0 (jm_ent [.ref jm_S]) [] jm_g0 LwQ := by
    refine jx_walk 13 0 _ _ _ _ hw ?_
    show jx L xs 40 0 23 f [] jx_g1 LwQ
    rw [start_g]
    exact law_loop (d := 0) hL _ 0 0 jx_I jx_L jx_p0 jx_A0 f (Nat.lt_succ_self _) (Nat.zero_le _) h0 h1 h2 h3 (h4.trans (congrArg (fun z => some (Value.int z)) (show (0 : Int32) = iI ((5 * 0 : Nat) : Int) by decide))) (Nat.le_refl _) start_r start_m start_6
  obtain ⟨n, z, hr, gF, rfl, q1, q2⟩ := hz
  refine ⟨n, 40, gF, by omega, ?_, q1, q2⟩
  rw [hr, show iI 1 = (1 : Int32) by decide]
