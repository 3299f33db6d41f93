/-! printed by wip/whole/gen/d10.py: the class decodes a frame -/
section D10
variable {L : Nat} {xs : Nat → Int32} {d j : Nat} {I : Nat → Nat → Int32} {M : Nat → Nat → Int64} {p : Nat → Option Nat}
variable {Tl : Nat → Nat} {cL : Nat → Nat → Int} {nL fc : Nat → Nat} {fva fnx : Nat → Nat → Int} {F : Nat} {B : Nat → Nat} {sz lim : Nat} {root : Int}
theorem DLn_1 {ln : Nat} {s s2 : DSt} {r : Int} (h1 : ln < 4) (h2 : 0 < nL ln) (h3 : DVb lim sz s) (h4 : LR cL nL fc fva fnx B sz lim ln s r s2) : DLn cL nL fc fva fnx B sz lim 1 (ln : Int) s r s2 := ⟨ln, r, s2, rfl, h1, h2, h3, h4, rfl, rfl⟩
def RQ (cL : Nat → Nat → Int) (nL fc : Nat → Nat) (fva fnx : Nat → Nat → Int) (B : Nat → Nat) (sz lim : Nat) (root : Int) (kk : Nat) (r : Int) (s1 : DSt) : Prop := ((-1 ≤ r ∧ r < 4) ∧ ((kk : Int) ≤ s1 0 1) ∧ DVb lim sz s1 ∧ ∃ k, DLn cL nL fc fva fnx B sz lim k root (fun _ _ => 0) r s1) ∨ (r = -1 ∧ DEC cL nL fc fva fnx B sz lim root s1)
set_option maxHeartbeats 4000000 in
theorem cl_run (hR : RX I p Tl cL nL fc fva fnx F B sz lim) (hlim1 : 1 ≤ lim) (hroot : -1 ≤ root ∧ root < 4) : jc L xs (d + 11) 61 [.ref 38, .ref F, .int (iI root), .int (iI (lim : Int))] (jx_G j I M p) (fun v g1 => ∃ I' M' p' s', g1 = jx_G j I' M' p' ∧ v = none ∧ fr wR I I' ∧ fr wE M M' ∧ (∀ i, i ≠ 17 → i ≠ 18 → p' i = p i) ∧ DCe I' M' s' ∧ DEC cL nL fc fva fnx B sz lim root s' ∧ EP (Wd I Tl) sz s' ∧ (0 ≤ s' 0 2 ∧ s' 0 2 ≤ 64)) := by
  unfold jc
  have hlim0 := hR.2.2.2.2.2
  refine jv_aload_n (pc' := 1) (k := 0) (x := 38) rfl rfl rfl rfl ?_
  refine jv_aload_n (pc' := 2) (k := 1) (x := F) rfl rfl rfl rfl ?_
  refine jv_putR (pc' := 5) (c := 6) (k := 5) (i := 17) rfl rfl rfl rfl (fun _ _ _ => rfl) rfl rfl rfl ?_
  refine jv_aload_n (pc' := 6) (k := 0) (x := 38) rfl rfl rfl rfl ?_
  refine jv_iload_n (pc' := 7) (k := 3) (x := (iI (lim : Int))) rfl rfl rfl rfl ?_
  refine jv_putI (pc' := 10) (c := 6) (k := 11) rfl rfl rfl rfl (fun _ _ _  => rfl) rfl rfl ?_
  refine jv_aload_n (pc' := 11) (k := 0) (x := 38) rfl rfl rfl rfl ?_
  refine jv_iconst (pc' := 12) (n := 0) rfl rfl ?_
  refine jv_putI (pc' := 15) (c := 6) (k := 9) rfl rfl rfl rfl (fun _ _ _  => rfl) rfl rfl ?_
  refine jv_aload_n (pc' := 16) (k := 0) (x := 38) rfl rfl rfl rfl ?_
  refine jv_iconst (pc' := 17) (n := 0) rfl rfl ?_
  refine jv_putI (pc' := 20) (c := 6) (k := 10) rfl rfl rfl rfl (fun _ _ _  => rfl) rfl rfl ?_
  refine jv_aload_n (pc' := 21) (k := 0) (x := 38) rfl rfl rfl rfl ?_
  refine jv_getR (pc' := 24) (c := 6) (k := 0) (v := 39) rfl rfl rfl (fun _ _ => rfl) rfl rfl (jR_38_0 _) ?_
  refine jv_iconst (pc' := 25) (n := 0) rfl rfl ?_
  refine jv_putI (pc' := 28) (c := 7) (k := 2) rfl rfl rfl rfl (fun _ _ _  => rfl) rfl rfl ?_
  refine jv_iload_n (pc' := 29) (k := 2) (x := (iI root)) rfl rfl rfl rfl ?_
  refine jv_istore (pc' := 31) (k := 4) (x := (iI root)) rfl rfl rfl (Or.inr rfl) ?_
  refine jv_iconst (pc' := 32) (n := 0) rfl rfl ?_
  refine jv_istore (pc' := 34) (k := 5) (x := (iI 0)) rfl rfl rfl (Or.inr rfl) ?_
  have H1 : ∀ (N : Nat) (kk : Nat) (r : Int) (I1 : Nat → Nat → Int32) (M1 : Nat → Nat → Int64) (P1 : Nat → Option Nat) (s1 : DSt), 65 - kk < N → (kk ≤ 65) → (-1 ≤ r ∧ r < 4) → (fr wR I I1) → (fr wE M M1) → (P1 17 = some F) → (∀ i, i ≠ 17 → i ≠ 18 → P1 i = p i) → (I1 38 11 = iI (lim : Int)) → (DCe I1 M1 s1) → (EP (Wd I Tl) sz s1) → (0 ≤ s1 0 2 ∧ s1 0 2 ≤ 64) → (RQ cL nL fc fva fnx B sz lim root kk r s1) → ∀ f : jm_F, f 0 = some (.ref 38) → f 1 = some (.ref F) → f 2 = some (.int (iI root)) → f 3 = some (.int (iI (lim : Int))) → f 4 = some (.int (iI r)) → f 5 = some (.int (iI ((kk : Nat) : Int))) → jx L xs ((d + 11)) 61 34 f [] (jx_G j I1 M1 P1) (fun z => ∃ v g1, z = (.inl v, g1) ∧ (fun v g1 => ∃ I' M' p' s', g1 = jx_G j I' M' p' ∧ v = none ∧ fr wR I I' ∧ fr wE M M' ∧ (∀ i, i ≠ 17 → i ≠ 18 → p' i = p i) ∧ DCe I' M' s' ∧ DEC cL nL fc fva fnx B sz lim root s' ∧ EP (Wd I Tl) sz s' ∧ (0 ≤ s' 0 2 ∧ s' 0 2 ≤ 64)) v g1) := by
    intro N
    induction N with
    | zero => intro kk r I1 M1 P1 s1 hN; exact absurd hN (Nat.not_lt_zero _)
    | succ N ih =>
      intro kk r I1 M1 P1 s1 hN hkk hrr hf hm hp17 hp1 h11 hD1 hE hcn hJ f hf0 hf1 hf2 hf3 hf4 hf5 
      refine jv_iload (pc' := 36) (k := 5) (x := (iI ((kk : Nat) : Int))) rfl rfl hf5 ?_
      have hlim := hR.2.2.2.2.2
      refine jv_bipush (pc' := 38) (n := 64) rfl rfl rfl ?_
      refine jv_ic_gt (t := 61) (pc' := 41) (a := ((kk : Nat) : Int)) (b := 64) rfl rfl rfl (by omega) (fun hz_2 => ?_) (fun hz_2 => ?_)
      · skip
        refine jv_retV rfl rfl ⟨_, _, rfl, ?_⟩
        first
        | (exfalso; omega)
        | (rcases hJ with ⟨hr4, hks, hV1, k1, hDL⟩ | ⟨hr1, hDE⟩
           · have hv := hV1.2.1
             have er : r = -1 := by omega
             subst er
             exact ⟨_, _, _, _, rfl, rfl, hf, hm, hp1, hD1, ⟨k1, _, _, hDL, Or.inl ⟨Or.inl rfl, rfl⟩⟩, hE, hcn⟩
           · exact ⟨_, _, _, _, rfl, rfl, hf, hm, hp1, hD1, hDE, hE, hcn⟩)
      · skip
        refine jv_iload (pc' := 43) (k := 4) (x := (iI r)) rfl rfl hf4 ?_
        refine jv_iconst (pc' := 44) (n := -1) rfl rfl ?_
        refine jv_ic_eq (t := 61) (pc' := 47) (a := r) (b := (-1)) rfl rfl rfl (by omega) (fun hz_3 => ?_) (fun hz_3 => ?_)
        · skip
          refine jv_retV rfl rfl ⟨_, _, rfl, ?_⟩
          first
          | (exfalso; omega)
          | (rcases hJ with ⟨hr4, hks, hV1, k1, hDL⟩ | ⟨hr1, hDE⟩
             · have hv := hV1.2.1
               have er : r = -1 := by omega
               subst er
               exact ⟨_, _, _, _, rfl, rfl, hf, hm, hp1, hD1, ⟨k1, _, _, hDL, Or.inl ⟨Or.inl rfl, rfl⟩⟩, hE, hcn⟩
             · exact ⟨_, _, _, _, rfl, rfl, hf, hm, hp1, hD1, hDE, hE, hcn⟩)
        · skip
          refine jv_aload_n (pc' := 48) (k := 0) (x := 38) rfl rfl rfl hf0 ?_
          refine jv_iload (pc' := 50) (k := 4) (x := (iI r)) rfl rfl hf4 ?_
          rcases hJ with ⟨hr4, hks, hV1, k1, hDL⟩ | ⟨hr1, hDE⟩
          · skip
            obtain ⟨ln, rfl⟩ : ∃ ln : Nat, r = ((ln : Nat) : Int) := ⟨r.toNat, by omega⟩
            have hln : ln < 4 := by omega
            have X1 := RX_p (p' := P1) (RX_fr hR hf) (fun i h1 h2 => hp1 i (by omega) (by omega))
            refine jv_call (pc' := 53) rfl (cl_runLayer (I := I1) (M := M1) (p := P1) (ln := ln) (T := Tl ln) (s := s1) X1 hp17 h11 hlim1 hD1 hV1 hln rfl) (fun vq4 gq4 q4 => ?_)
            obtain ⟨Iq4, Mq4, sq4, rfl, lq4, rq4, tq4, Dq4, cq4, eq4, q4⟩ := q4
            have Eq4 := eq4 (Wd I Tl) (fun l i hl hi _ => congrArg Int32.toInt (hf _ _ (by have := (hR.1 l hl).2.1; unfold wR; omega)).symm) hE
            rcases q4 with ⟨r2, rfl, hr2, hn0, hLR, hV2, hs2⟩ | ⟨rfl, hn0, hLO⟩ | ⟨rfl, hn0, rfl⟩
            · skip
              show jx L xs _ 61 53 _ [.int (iI r2)] _ _
              refine jv_istore (pc' := 55) (k := 4) (x := (iI r2)) rfl rfl rfl (Or.inr (congrArg jm_lng hf3)) ?_
              refine jv_iinc (pc' := 58) (k := 5) (a := ((kk : Nat) : Int)) rfl rfl hf5 rfl (Or.inr rfl) ?_
              refine jx_step (pc' := 34) rfl ?_
              exact ih (kk + 1) r2 Iq4 Mq4 (fun q => if q = 18 then some (Tl ln) else P1 q) sq4 (by omega) (by omega) (by omega) (fr_t hf rq4) (fr_t hm tq4) hp17 (fun i h1 h2 => (if_neg h2).trans (hp1 i h1 h2)) (lq4.trans h11) Dq4 Eq4 cq4 (Or.inl ⟨hr2, by omega, hV2, _, DLn_app hDL (DLn_1 hln hn0 hV1 hLR)⟩) _ hf0 hf1 hf2 hf3 rfl rfl 
            · skip
              show jx L xs _ 61 53 _ [.int (iI (-1))] _ _
              refine jv_istore (pc' := 55) (k := 4) (x := (iI (-1))) rfl rfl rfl (Or.inr (congrArg jm_lng hf3)) ?_
              refine jv_iinc (pc' := 58) (k := 5) (a := ((kk : Nat) : Int)) rfl rfl hf5 rfl (Or.inr rfl) ?_
              refine jx_step (pc' := 34) rfl ?_
              exact ih (kk + 1) (-1) Iq4 Mq4 (fun q => if q = 18 then some (Tl ln) else P1 q) sq4 (by omega) (by omega) (by omega) (fr_t hf rq4) (fr_t hm tq4) hp17 (fun i h1 h2 => (if_neg h2).trans (hp1 i h1 h2)) (lq4.trans h11) Dq4 Eq4 cq4 (Or.inr ⟨rfl, k1, _, _, hDL, Or.inr ⟨ln, rfl, hln, hn0, hV1, hLO⟩⟩) _ hf0 hf1 hf2 hf3 rfl rfl 
            · skip
              show jx L xs _ 61 53 _ [.int (iI (-1))] _ _
              refine jv_istore (pc' := 55) (k := 4) (x := (iI (-1))) rfl rfl rfl (Or.inr (congrArg jm_lng hf3)) ?_
              refine jv_iinc (pc' := 58) (k := 5) (a := ((kk : Nat) : Int)) rfl rfl hf5 rfl (Or.inr rfl) ?_
              refine jx_step (pc' := 34) rfl ?_
              exact ih (kk + 1) (-1) Iq4 Mq4 (fun q => if q = 18 then some (Tl ln) else P1 q) sq4 (by omega) (by omega) (by omega) (fr_t hf rq4) (fr_t hm tq4) hp17 (fun i h1 h2 => (if_neg h2).trans (hp1 i h1 h2)) (lq4.trans h11) Dq4 Eq4 cq4 (Or.inr ⟨rfl, k1, _, _, hDL, Or.inl ⟨Or.inr ⟨ln, rfl, hln, hn0⟩, rfl⟩⟩) _ hf0 hf1 hf2 hf3 rfl rfl 
          · exfalso; omega
  exact H1 _ 0 root (jm_u (jm_u (jm_u (jm_u I 38 11 (iI (lim : Int))) 38 9 (iI 0)) 38 10 (iI 0)) 39 2 (iI 0)) M (fun q => if q = 17 then some F else p q) (fun _ _ => 0) (Nat.lt_succ_self _) (by omega) hroot (fr_u (by simp [wR]) (fr_u (by simp [wR]) (fr_u (by simp [wR]) (fr_u (by simp [wR]) (fr_r _))))) (fr_r _) rfl (fun i h1 h2 => if_neg h1) rfl ⟨rfl, rfl, rfl, fun k hk => absurd (show (k : Int) < 0 from hk) (by omega)⟩ (fun k hk => absurd (show (k : Int) < 0 from hk) (by omega)) (show (0 : Int) ≤ 0 ∧ (0 : Int) ≤ 64 by omega) (Or.inl ⟨hroot, by dsimp only; omega, ⟨by dsimp only; omega, by dsimp only; omega, by dsimp only; omega⟩, 0, rfl, rfl⟩) _ rfl rfl rfl rfl rfl rfl 
end D10
