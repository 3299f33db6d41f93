/-! printed by wip/whole/gen/h16.py: the helpers of the law, and its blocks -/
theorem CR_o {I : Nat → Nat → Int32} {M M' : Nat → Nat → Int64} {p : Nat → Option Nat} {A : AB} (h : CR I M p A) (g : fr (fun l _ => l = 138) M M') : CR I M' p A := by
  obtain ⟨hv, h1, ⟨Tl, S, σ, h2, h3, h4⟩, h5, h6, h7, h8, h9⟩ := h
  have f : fr (fun _ _ => False) I I := fr_r _
  exact ⟨hv, h1, ⟨Tl, S, σ, h2, h3, RDe_w h2 h4 f g ⟨id, id, id, id, fun _ => id, id⟩ (fun _ _ _ => id) (by intro k; omega)⟩, h5, h6, h7, RTa_w h8 f g ⟨id, fun _ => id⟩ (by intro k; omega), h9⟩
def RO (kd : Nat) (rv : Option Value) (M' : Nat → Nat → Int64) : Prop := (kd = 0 ∧ rv = none) ∨ (kd = 1 ∧ ∃ r : Int, iR r ∧ rv = some (.int (iI r)) ∧ M' 138 0 = lI r) ∨ (kd = 3 ∧ ∃ r : Int, lR r ∧ rv = some (.long (lI r)) ∧ M' 138 0 = lI r)
theorem RO_1 {rv : Option Value} {M' : Nat → Nat → Int64} (h : RO 1 rv M') : ∃ r : Int, iR r ∧ rv = some (.int (iI r)) ∧ M' 138 0 = lI r := by
  rcases h with ⟨e, _⟩ | ⟨_, h⟩ | ⟨e, _⟩
  · exact absurd e (by omega)
  · exact h
  · exact absurd e (by omega)
theorem RO_3 {rv : Option Value} {M' : Nat → Nat → Int64} (h : RO 3 rv M') : ∃ r : Int, lR r ∧ rv = some (.long (lI r)) ∧ M' 138 0 = lI r := by
  rcases h with ⟨e, _⟩ | ⟨e, _⟩ | ⟨_, h⟩
  · exact absurd e (by omega)
  · exact absurd e (by omega)
  · exact h
theorem RO_i {a b : Int} (ha : iR a) (hb : iR b) (h : (some (Value.int (iI a)) : Option Value) = some (.int (iI b))) : a = b := by
  injection h with h
  injection h with h
  rw [← iI_T ha, ← iI_T hb, h]
theorem RO_l {a b : Int} (ha : lR a) (hb : lR b) (h : (some (Value.long (lI a)) : Option Value) = some (.long (lI b))) : a = b := by
  injection h with h
  injection h with h
  rw [← lI_T ha, ← lI_T hb, h]
def HPo (kd R : Nat) (av : List Value) (A : AB) (j : Nat) (I : Nat → Nat → Int32) (M : Nat → Nat → Int64) (v : Option Value) (g1 : jm_H) : Prop := ∃ (e : Nat) (I' : Nat → Nat → Int32) (M' : Nat → Nat → Int64) (p' : Nat → Option Nat) (A' : AB) (t : Int) (rv : Option Value), g1 = jx_G (j + e) I' M' p' ∧ e ≤ 1 ∧ fr cW I I' ∧ fr cV M M' ∧ v = some (.int (iI t)) ∧ (0 ≤ t ∧ t ≤ 2) ∧ CR I' M' p' A' ∧ A6 A' ∧ REF R av A A' t rv ∧ (t = 0 → RO kd rv M')
theorem jv_sload {L : Nat} {xs : Nat → Int32} {d mi pc : Nat} {f : jm_F} {r : List Value} {g : jm_H} {Q : jm_O → Prop} {pc' : Nat} {e : Int} {v : Int32} (ht : jm_tab mi pc = some (.iaload, 1)) (hp : pc + 1 = pc') (hL : L ≤ 2560) (hi : 0 ≤ e ∧ e < L) (hv : xs e.toNat = v) (kk : jx L xs d mi pc' f (.int v :: r) g Q) : jx L xs d mi pc f (.int (iI e) :: .ref jm_S :: r) g Q := by
  subst hp
  have h1 : jm_inb (iI e) L = true := iI_in hi (by omega)
  have h2 : xs (iI e).toNatClampNeg = v := by rw [iI_N ⟨by omega, by omega⟩]; exact hv
  exact jx_step (jx_ins ht rfl (by simp [jm_ins, jm_p1, jm_p2, jm_p3, jm_p4, jm_p5, jm_p6, jm_p7, h1, h2])) kk
theorem and31 (x : Int32) : ∃ k : Nat, k < 32 ∧ x &&& iI 31 = iI ((k : Nat) : Int) := by
  refine ⟨(x.toBitVec &&& 31#32).toNat, ?_, ?_⟩
  · rw [BitVec.toNat_and]
    have : x.toBitVec.toNat &&& (31#32).toNat ≤ (31#32).toNat := Nat.and_le_right
    have e : (31#32).toNat = 31 := rfl
    omega
  · apply Int32.toBitVec_inj.1
    rw [Int32.toBitVec_and]
    show x.toBitVec &&& 31#32 = BitVec.ofInt 32 _
    rw [BitVec.ofInt_natCast, BitVec.ofNat_toNat, BitVec.setWidth_eq]
section H16
variable {L : Nat} {xs : Nat → Int32} {d j : Nat} {I : Nat → Nat → Int32} {M : Nat → Nat → Int64} {p : Nat → Option Nat}
variable {A : AB} {x y z u t : Int} {q : Nat} {f : jm_F} {Q : jm_O → Prop}
theorem ml_thrown (h0 : I 103 0 = iI t) : jc L xs d 107 [.ref 103] (jx_G j I M p) (fun v g1 => v = some (.int (iI t)) ∧ g1 = jx_G j I M p) := by
  unfold jc
  refine jv_aload_n (pc' := 1) (k := 0) (x := 103) rfl rfl rfl rfl ?_
  refine jv_getI (pc' := 4) (c := 12) (k := 0) (v := (iI t)) rfl rfl rfl (fun _ _ => rfl) rfl rfl h0 ?_
  refine jv_retI rfl rfl ⟨_, _, rfl, ?_⟩
  exact ⟨rfl, rfl⟩
theorem hp_write {b : Int64} (hCO : COP 1 2 108 (X1 50) [.int (iI x), .long b] A) (hR : CR I M p A) (h6 : A6 A) : jc L xs (d + 39) 173 [.ref 0, .int (iI x), .long b, .ref 138] (jx_G j I M p) (HPo 1 108 [.int (iI x), .long b] A j I M) := by
  unfold jc
  refine jv_aload (pc' := 2) (k := 4) (x := 138) rfl rfl rfl ?_
  refine jv_iconst (pc' := 3) (n := 0) rfl rfl ?_
  refine jv_aload_n (pc' := 4) (k := 0) (x := 0) rfl rfl rfl rfl ?_
  refine jv_iload_n (pc' := 5) (k := 1) (x := (iI x)) rfl rfl rfl rfl ?_
  refine jv_lload_n (pc' := 6) (k := 2) (x := b) rfl rfl rfl rfl ?_
  refine jx_callo (pc' := 9) rfl (hCO L xs d j I M p hR) (fun v g1 q => ?_) (fun x' g1 q => ?_)
  · rcases q with ⟨I1, M1, p1, A1, rv, e, r1, m1, R1, h61, hg, hREF⟩ | ⟨_, _, _, _, _, e, _⟩
    · obtain ⟨rfl, rfl⟩ : rv = v ∧ g1 = jx_G j I1 M1 p1 := by cases e; exact ⟨rfl, rfl⟩
      obtain ⟨r, hr, rfl⟩ : ∃ r : Int, iR r ∧ rv = some (.int (iI r)) := by rcases hg with ⟨h, _⟩ | ⟨_, h⟩ | ⟨h, _⟩ <;> first | exact h | exact absurd h (by omega)
      show jx L xs _ 173 9 _ [.int (iI r), .int (iI 0), .ref 138] _ _
      refine jv_i2l (pc' := 10) (a := r) rfl rfl (by omega) ?_
      refine jv_lastore (pc' := 11) (n := 1) (e := 0) (v := (lI r)) rfl rfl rfl rfl rfl (by omega) ?_
      refine jx_step (pc' := 18) rfl ?_
      refine jv_iconst (pc' := 19) (n := 0) rfl rfl ?_
      refine jv_retI rfl rfl ⟨_, _, rfl, ?_⟩
      exact ⟨0, _, _, _, _, 0, _, rfl, by omega, r1, (fr_u (Or.inr rfl) m1), rfl, by omega, (CR_o R1 (fr_u rfl (fr_r _))), h61, hREF, fun _ => Or.inr (Or.inl ⟨rfl, r, hr, rfl, jm_u_eq ⟨rfl, rfl⟩⟩)⟩
    · cases e
  · rcases q with ⟨_, _, _, _, _, e, _⟩ | ⟨I1, M1, p1, x1, t, e, r1, m1, R1, hX, hREF⟩
    · cases e
    · cases e
      unfold X1 at hX
      obtain ⟨rfl, rfl⟩ := hX
      refine ⟨16, 5, rfl, ?_⟩
      refine jv_iconst (pc' := 17) (n := 1) rfl rfl ?_
      refine jv_retI rfl rfl ⟨_, _, rfl, ?_⟩
      exact ⟨1, _, _, _, _, 1, none, rfl, by omega, r1, m1, rfl, by omega, R1, h6, hREF, fun h => absurd h (by omega)⟩
theorem hp_layer (hCO : COP 1 4 126 (X1 50) [.int (iI x)] A) (hR : CR I M p A) (h6 : A6 A) : jc L xs (d + 39) 174 [.ref 0, .int (iI x), .ref 138] (jx_G j I M p) (HPo 1 126 [.int (iI x)] A j I M) := by
  unfold jc
  refine jv_aload_n (pc' := 1) (k := 2) (x := 138) rfl rfl rfl rfl ?_
  refine jv_iconst (pc' := 2) (n := 0) rfl rfl ?_
  refine jv_aload_n (pc' := 3) (k := 0) (x := 0) rfl rfl rfl rfl ?_
  refine jv_iload_n (pc' := 4) (k := 1) (x := (iI x)) rfl rfl rfl rfl ?_
  refine jx_callo (pc' := 7) rfl (hCO L xs d j I M p hR) (fun v g1 q => ?_) (fun x' g1 q => ?_)
  · rcases q with ⟨I1, M1, p1, A1, rv, e, r1, m1, R1, h61, hg, hREF⟩ | ⟨_, _, _, _, _, e, _⟩
    · obtain ⟨rfl, rfl⟩ : rv = v ∧ g1 = jx_G j I1 M1 p1 := by cases e; exact ⟨rfl, rfl⟩
      obtain ⟨r, hr, rfl⟩ : ∃ r : Int, iR r ∧ rv = some (.int (iI r)) := by rcases hg with ⟨h, _⟩ | ⟨_, h⟩ | ⟨h, _⟩ <;> first | exact h | exact absurd h (by omega)
      show jx L xs _ 174 7 _ [.int (iI r), .int (iI 0), .ref 138] _ _
      refine jv_i2l (pc' := 8) (a := r) rfl rfl (by omega) ?_
      refine jv_lastore (pc' := 9) (n := 1) (e := 0) (v := (lI r)) rfl rfl rfl rfl rfl (by omega) ?_
      refine jx_step (pc' := 15) rfl ?_
      refine jv_iconst (pc' := 16) (n := 0) rfl rfl ?_
      refine jv_retI rfl rfl ⟨_, _, rfl, ?_⟩
      exact ⟨0, _, _, _, _, 0, _, rfl, by omega, r1, (fr_u (Or.inr rfl) m1), rfl, by omega, (CR_o R1 (fr_u rfl (fr_r _))), h61, hREF, fun _ => Or.inr (Or.inl ⟨rfl, r, hr, rfl, jm_u_eq ⟨rfl, rfl⟩⟩)⟩
    · cases e
  · rcases q with ⟨_, _, _, _, _, e, _⟩ | ⟨I1, M1, p1, x1, t, e, r1, m1, R1, hX, hREF⟩
    · cases e
    · cases e
      unfold X1 at hX
      obtain ⟨rfl, rfl⟩ := hX
      refine ⟨13, 3, rfl, ?_⟩
      refine jv_iconst (pc' := 14) (n := 1) rfl rfl ?_
      refine jv_retI rfl rfl ⟨_, _, rfl, ?_⟩
      exact ⟨1, _, _, _, _, 1, none, rfl, by omega, r1, m1, rfl, by omega, R1, h6, hREF, fun h => absurd h (by omega)⟩
theorem hp_root (hCO : COP 0 5 128 (X1 50) [.int (iI x), .int (iI y)] A) (hR : CR I M p A) (h6 : A6 A) : jc L xs (d + 39) 175 [.ref 0, .int (iI x), .int (iI y)] (jx_G j I M p) (HPo 0 128 [.int (iI x), .int (iI y)] A j I M) := by
  unfold jc
  refine jv_aload_n (pc' := 1) (k := 0) (x := 0) rfl rfl rfl rfl ?_
  refine jv_iload_n (pc' := 2) (k := 1) (x := (iI x)) rfl rfl rfl rfl ?_
  refine jv_iload_n (pc' := 3) (k := 2) (x := (iI y)) rfl rfl rfl rfl ?_
  refine jx_callo (pc' := 6) rfl (hCO L xs d j I M p hR) (fun v g1 q => ?_) (fun x' g1 q => ?_)
  · rcases q with ⟨I1, M1, p1, A1, rv, e, r1, m1, R1, h61, hg, hREF⟩ | ⟨_, _, _, _, _, e, _⟩
    · obtain ⟨rfl, rfl⟩ : rv = v ∧ g1 = jx_G j I1 M1 p1 := by cases e; exact ⟨rfl, rfl⟩
      obtain rfl : rv = none := by rcases hg with ⟨_, h⟩ | ⟨h, _⟩ | ⟨h, _⟩ <;> first | exact h | exact absurd h (by omega)
      show jx L xs _ 175 6 _ [] _ _
      refine jx_step (pc' := 12) rfl ?_
      refine jv_iconst (pc' := 13) (n := 0) rfl rfl ?_
      refine jv_retI rfl rfl ⟨_, _, rfl, ?_⟩
      exact ⟨0, _, _, _, _, 0, _, rfl, by omega, r1, m1, rfl, by omega, R1, h61, hREF, fun _ => Or.inl ⟨rfl, rfl⟩⟩
    · cases e
  · rcases q with ⟨_, _, _, _, _, e, _⟩ | ⟨I1, M1, p1, x1, t, e, r1, m1, R1, hX, hREF⟩
    · cases e
    · cases e
      unfold X1 at hX
      obtain ⟨rfl, rfl⟩ := hX
      refine ⟨10, 3, rfl, ?_⟩
      refine jv_iconst (pc' := 11) (n := 1) rfl rfl ?_
      refine jv_retI rfl rfl ⟨_, _, rfl, ?_⟩
      exact ⟨1, _, _, _, _, 1, none, rfl, by omega, r1, m1, rfl, by omega, R1, h6, hREF, fun h => absurd h (by omega)⟩
theorem hp_follow (hCO : COP 0 6 130 (X2 50 51) [.int (iI z), .int (iI x), .int (iI y)] A) (hR : CR I M p A) (h6 : A6 A) : jc L xs (d + 39) 176 [.ref 0, .int (iI z), .int (iI x), .int (iI y)] (jx_G j I M p) (HPo 0 130 [.int (iI z), .int (iI x), .int (iI y)] A j I M) := by
  unfold jc
  refine jv_aload_n (pc' := 1) (k := 0) (x := 0) rfl rfl rfl rfl ?_
  refine jv_iload_n (pc' := 2) (k := 1) (x := (iI z)) rfl rfl rfl rfl ?_
  refine jv_iload_n (pc' := 3) (k := 2) (x := (iI x)) rfl rfl rfl rfl ?_
  refine jv_iload_n (pc' := 4) (k := 3) (x := (iI y)) rfl rfl rfl rfl ?_
  refine jx_callo (pc' := 7) rfl (hCO L xs d j I M p hR) (fun v g1 q => ?_) (fun x' g1 q => ?_)
  · rcases q with ⟨I1, M1, p1, A1, rv, e, r1, m1, R1, h61, hg, hREF⟩ | ⟨_, _, _, _, _, e, _⟩
    · obtain ⟨rfl, rfl⟩ : rv = v ∧ g1 = jx_G j I1 M1 p1 := by cases e; exact ⟨rfl, rfl⟩
      obtain rfl : rv = none := by rcases hg with ⟨_, h⟩ | ⟨h, _⟩ | ⟨h, _⟩ <;> first | exact h | exact absurd h (by omega)
      show jx L xs _ 176 7 _ [] _ _
      refine jx_step (pc' := 18) rfl ?_
      refine jv_iconst (pc' := 19) (n := 0) rfl rfl ?_
      refine jv_retI rfl rfl ⟨_, _, rfl, ?_⟩
      exact ⟨0, _, _, _, _, 0, _, rfl, by omega, r1, m1, rfl, by omega, R1, h61, hREF, fun _ => Or.inl ⟨rfl, rfl⟩⟩
    · cases e
  · rcases q with ⟨_, _, _, _, _, e, _⟩ | ⟨I1, M1, p1, x1, t, e, r1, m1, R1, hX, hREF⟩
    · cases e
    · cases e
      unfold X2 at hX
      rcases hX with ⟨rfl, rfl⟩ | ⟨rfl, rfl⟩
      · skip
        refine ⟨12, 4, rfl, ?_⟩
        refine jv_iconst (pc' := 13) (n := 1) rfl rfl ?_
        refine jv_retI rfl rfl ⟨_, _, rfl, ?_⟩
        exact ⟨1, _, _, _, _, 1, none, rfl, by omega, r1, m1, rfl, by omega, R1, h6, hREF, fun h => absurd h (by omega)⟩
      · skip
        refine ⟨16, 4, rfl, ?_⟩
        refine jv_iconst (pc' := 17) (n := 2) rfl rfl ?_
        refine jv_retI rfl rfl ⟨_, _, rfl, ?_⟩
        exact ⟨1, _, _, _, _, 2, none, rfl, by omega, r1, m1, rfl, by omega, R1, h6, hREF, fun h => absurd h (by omega)⟩
theorem hp_frame (hCO : COP 1 7 132 (X2 50 51) [.int (iI x), .int (iI y)] A) (hR : CR I M p A) (h6 : A6 A) : jc L xs (d + 39) 177 [.ref 0, .int (iI x), .int (iI y), .ref 138] (jx_G j I M p) (HPo 1 132 [.int (iI x), .int (iI y)] A j I M) := by
  unfold jc
  refine jv_aload_n (pc' := 1) (k := 3) (x := 138) rfl rfl rfl rfl ?_
  refine jv_iconst (pc' := 2) (n := 0) rfl rfl ?_
  refine jv_aload_n (pc' := 3) (k := 0) (x := 0) rfl rfl rfl rfl ?_
  refine jv_iload_n (pc' := 4) (k := 1) (x := (iI x)) rfl rfl rfl rfl ?_
  refine jv_iload_n (pc' := 5) (k := 2) (x := (iI y)) rfl rfl rfl rfl ?_
  refine jx_callo (pc' := 8) rfl (hCO L xs d j I M p hR) (fun v g1 q => ?_) (fun x' g1 q => ?_)
  · rcases q with ⟨I1, M1, p1, A1, rv, e, r1, m1, R1, h61, hg, hREF⟩ | ⟨_, _, _, _, _, e, _⟩
    · obtain ⟨rfl, rfl⟩ : rv = v ∧ g1 = jx_G j I1 M1 p1 := by cases e; exact ⟨rfl, rfl⟩
      obtain ⟨r, hr, rfl⟩ : ∃ r : Int, iR r ∧ rv = some (.int (iI r)) := by rcases hg with ⟨h, _⟩ | ⟨_, h⟩ | ⟨h, _⟩ <;> first | exact h | exact absurd h (by omega)
      show jx L xs _ 177 8 _ [.int (iI r), .int (iI 0), .ref 138] _ _
      refine jv_i2l (pc' := 9) (a := r) rfl rfl (by omega) ?_
      refine jv_lastore (pc' := 10) (n := 1) (e := 0) (v := (lI r)) rfl rfl rfl rfl rfl (by omega) ?_
      refine jx_step (pc' := 21) rfl ?_
      refine jv_iconst (pc' := 22) (n := 0) rfl rfl ?_
      refine jv_retI rfl rfl ⟨_, _, rfl, ?_⟩
      exact ⟨0, _, _, _, _, 0, _, rfl, by omega, r1, (fr_u (Or.inr rfl) m1), rfl, by omega, (CR_o R1 (fr_u rfl (fr_r _))), h61, hREF, fun _ => Or.inr (Or.inl ⟨rfl, r, hr, rfl, jm_u_eq ⟨rfl, rfl⟩⟩)⟩
    · cases e
  · rcases q with ⟨_, _, _, _, _, e, _⟩ | ⟨I1, M1, p1, x1, t, e, r1, m1, R1, hX, hREF⟩
    · cases e
    · cases e
      unfold X2 at hX
      rcases hX with ⟨rfl, rfl⟩ | ⟨rfl, rfl⟩
      · skip
        refine ⟨15, 4, rfl, ?_⟩
        refine jv_iconst (pc' := 16) (n := 1) rfl rfl ?_
        refine jv_retI rfl rfl ⟨_, _, rfl, ?_⟩
        exact ⟨1, _, _, _, _, 1, none, rfl, by omega, r1, m1, rfl, by omega, R1, h6, hREF, fun h => absurd h (by omega)⟩
      · skip
        refine ⟨19, 4, rfl, ?_⟩
        refine jv_iconst (pc' := 20) (n := 2) rfl rfl ?_
        refine jv_retI rfl rfl ⟨_, _, rfl, ?_⟩
        exact ⟨1, _, _, _, _, 2, none, rfl, by omega, r1, m1, rfl, by omega, R1, h6, hREF, fun h => absurd h (by omega)⟩
theorem hp_drop (hCO : COP 1 8 134 (X1 52) [.int (iI x)] A) (hR : CR I M p A) (h6 : A6 A) : jc L xs (d + 39) 178 [.ref 0, .int (iI x), .ref 138] (jx_G j I M p) (HPo 1 134 [.int (iI x)] A j I M) := by
  unfold jc
  refine jv_aload_n (pc' := 1) (k := 2) (x := 138) rfl rfl rfl rfl ?_
  refine jv_iconst (pc' := 2) (n := 0) rfl rfl ?_
  refine jv_aload_n (pc' := 3) (k := 0) (x := 0) rfl rfl rfl rfl ?_
  refine jv_iload_n (pc' := 4) (k := 1) (x := (iI x)) rfl rfl rfl rfl ?_
  refine jx_callo (pc' := 7) rfl (hCO L xs d j I M p hR) (fun v g1 q => ?_) (fun x' g1 q => ?_)
  · rcases q with ⟨I1, M1, p1, A1, rv, e, r1, m1, R1, h61, hg, hREF⟩ | ⟨_, _, _, _, _, e, _⟩
    · obtain ⟨rfl, rfl⟩ : rv = v ∧ g1 = jx_G j I1 M1 p1 := by cases e; exact ⟨rfl, rfl⟩
      obtain ⟨r, hr, rfl⟩ : ∃ r : Int, iR r ∧ rv = some (.int (iI r)) := by rcases hg with ⟨h, _⟩ | ⟨_, h⟩ | ⟨h, _⟩ <;> first | exact h | exact absurd h (by omega)
      show jx L xs _ 178 7 _ [.int (iI r), .int (iI 0), .ref 138] _ _
      refine jv_i2l (pc' := 8) (a := r) rfl rfl (by omega) ?_
      refine jv_lastore (pc' := 9) (n := 1) (e := 0) (v := (lI r)) rfl rfl rfl rfl rfl (by omega) ?_
      refine jx_step (pc' := 15) rfl ?_
      refine jv_iconst (pc' := 16) (n := 0) rfl rfl ?_
      refine jv_retI rfl rfl ⟨_, _, rfl, ?_⟩
      exact ⟨0, _, _, _, _, 0, _, rfl, by omega, r1, (fr_u (Or.inr rfl) m1), rfl, by omega, (CR_o R1 (fr_u rfl (fr_r _))), h61, hREF, fun _ => Or.inr (Or.inl ⟨rfl, r, hr, rfl, jm_u_eq ⟨rfl, rfl⟩⟩)⟩
    · cases e
  · rcases q with ⟨_, _, _, _, _, e, _⟩ | ⟨I1, M1, p1, x1, t, e, r1, m1, R1, hX, hREF⟩
    · cases e
    · cases e
      unfold X1 at hX
      obtain ⟨rfl, rfl⟩ := hX
      refine ⟨13, 3, rfl, ?_⟩
      refine jv_iconst (pc' := 14) (n := 1) rfl rfl ?_
      refine jv_retI rfl rfl ⟨_, _, rfl, ?_⟩
      exact ⟨1, _, _, _, _, 1, none, rfl, by omega, r1, m1, rfl, by omega, R1, h6, hREF, fun h => absurd h (by omega)⟩
theorem hp_limit (hCO : COP 0 9 135 (X1 50) [.int (iI x)] A) (hR : CR I M p A) (h6 : A6 A) : jc L xs (d + 39) 179 [.ref 0, .int (iI x)] (jx_G j I M p) (HPo 0 135 [.int (iI x)] A j I M) := by
  unfold jc
  refine jv_aload_n (pc' := 1) (k := 0) (x := 0) rfl rfl rfl rfl ?_
  refine jv_iload_n (pc' := 2) (k := 1) (x := (iI x)) rfl rfl rfl rfl ?_
  refine jx_callo (pc' := 5) rfl (hCO L xs d j I M p hR) (fun v g1 q => ?_) (fun x' g1 q => ?_)
  · rcases q with ⟨I1, M1, p1, A1, rv, e, r1, m1, R1, h61, hg, hREF⟩ | ⟨_, _, _, _, _, e, _⟩
    · obtain ⟨rfl, rfl⟩ : rv = v ∧ g1 = jx_G j I1 M1 p1 := by cases e; exact ⟨rfl, rfl⟩
      obtain rfl : rv = none := by rcases hg with ⟨_, h⟩ | ⟨h, _⟩ | ⟨h, _⟩ <;> first | exact h | exact absurd h (by omega)
      show jx L xs _ 179 5 _ [] _ _
      refine jx_step (pc' := 11) rfl ?_
      refine jv_iconst (pc' := 12) (n := 0) rfl rfl ?_
      refine jv_retI rfl rfl ⟨_, _, rfl, ?_⟩
      exact ⟨0, _, _, _, _, 0, _, rfl, by omega, r1, m1, rfl, by omega, R1, h61, hREF, fun _ => Or.inl ⟨rfl, rfl⟩⟩
    · cases e
  · rcases q with ⟨_, _, _, _, _, e, _⟩ | ⟨I1, M1, p1, x1, t, e, r1, m1, R1, hX, hREF⟩
    · cases e
    · cases e
      unfold X1 at hX
      obtain ⟨rfl, rfl⟩ := hX
      refine ⟨9, 2, rfl, ?_⟩
      refine jv_iconst (pc' := 10) (n := 1) rfl rfl ?_
      refine jv_retI rfl rfl ⟨_, _, rfl, ?_⟩
      exact ⟨1, _, _, _, _, 1, none, rfl, by omega, r1, m1, rfl, by omega, R1, h6, hREF, fun h => absurd h (by omega)⟩
theorem hp_decode (hCO : COP 1 10 152 (X1 52) [.int (iI x)] A) (hR : CR I M p A) (h6 : A6 A) : jc L xs (d + 39) 180 [.ref 0, .int (iI x), .ref 138] (jx_G j I M p) (HPo 1 152 [.int (iI x)] A j I M) := by
  unfold jc
  refine jv_aload_n (pc' := 1) (k := 2) (x := 138) rfl rfl rfl rfl ?_
  refine jv_iconst (pc' := 2) (n := 0) rfl rfl ?_
  refine jv_aload_n (pc' := 3) (k := 0) (x := 0) rfl rfl rfl rfl ?_
  refine jv_iload_n (pc' := 4) (k := 1) (x := (iI x)) rfl rfl rfl rfl ?_
  refine jx_callo (pc' := 7) rfl (hCO L xs d j I M p hR) (fun v g1 q => ?_) (fun x' g1 q => ?_)
  · rcases q with ⟨I1, M1, p1, A1, rv, e, r1, m1, R1, h61, hg, hREF⟩ | ⟨_, _, _, _, _, e, _⟩
    · obtain ⟨rfl, rfl⟩ : rv = v ∧ g1 = jx_G j I1 M1 p1 := by cases e; exact ⟨rfl, rfl⟩
      obtain ⟨r, hr, rfl⟩ : ∃ r : Int, iR r ∧ rv = some (.int (iI r)) := by rcases hg with ⟨h, _⟩ | ⟨_, h⟩ | ⟨h, _⟩ <;> first | exact h | exact absurd h (by omega)
      show jx L xs _ 180 7 _ [.int (iI r), .int (iI 0), .ref 138] _ _
      refine jv_i2l (pc' := 8) (a := r) rfl rfl (by omega) ?_
      refine jv_lastore (pc' := 9) (n := 1) (e := 0) (v := (lI r)) rfl rfl rfl rfl rfl (by omega) ?_
      refine jx_step (pc' := 15) rfl ?_
      refine jv_iconst (pc' := 16) (n := 0) rfl rfl ?_
      refine jv_retI rfl rfl ⟨_, _, rfl, ?_⟩
      exact ⟨0, _, _, _, _, 0, _, rfl, by omega, r1, (fr_u (Or.inr rfl) m1), rfl, by omega, (CR_o R1 (fr_u rfl (fr_r _))), h61, hREF, fun _ => Or.inr (Or.inl ⟨rfl, r, hr, rfl, jm_u_eq ⟨rfl, rfl⟩⟩)⟩
    · cases e
  · rcases q with ⟨_, _, _, _, _, e, _⟩ | ⟨I1, M1, p1, x1, t, e, r1, m1, R1, hX, hREF⟩
    · cases e
    · cases e
      unfold X1 at hX
      obtain ⟨rfl, rfl⟩ := hX
      refine ⟨13, 3, rfl, ?_⟩
      refine jv_iconst (pc' := 14) (n := 1) rfl rfl ?_
      refine jv_retI rfl rfl ⟨_, _, rfl, ?_⟩
      exact ⟨1, _, _, _, _, 1, none, rfl, by omega, r1, m1, rfl, by omega, R1, h6, hREF, fun h => absurd h (by omega)⟩
theorem hp_entry (hCO : COP 1 11 154 (X2 52 50) [.int (iI x), .int (iI y), .int (iI z)] A) (hR : CR I M p A) (h6 : A6 A) : jc L xs (d + 39) 181 [.ref 0, .int (iI x), .int (iI y), .int (iI z), .ref 138] (jx_G j I M p) (HPo 1 154 [.int (iI x), .int (iI y), .int (iI z)] A j I M) := by
  unfold jc
  refine jv_aload (pc' := 2) (k := 4) (x := 138) rfl rfl rfl ?_
  refine jv_iconst (pc' := 3) (n := 0) rfl rfl ?_
  refine jv_aload_n (pc' := 4) (k := 0) (x := 0) rfl rfl rfl rfl ?_
  refine jv_iload_n (pc' := 5) (k := 1) (x := (iI x)) rfl rfl rfl rfl ?_
  refine jv_iload_n (pc' := 6) (k := 2) (x := (iI y)) rfl rfl rfl rfl ?_
  refine jv_iload_n (pc' := 7) (k := 3) (x := (iI z)) rfl rfl rfl rfl ?_
  refine jx_callo (pc' := 10) rfl (hCO L xs d j I M p hR) (fun v g1 q => ?_) (fun x' g1 q => ?_)
  · rcases q with ⟨I1, M1, p1, A1, rv, e, r1, m1, R1, h61, hg, hREF⟩ | ⟨_, _, _, _, _, e, _⟩
    · obtain ⟨rfl, rfl⟩ : rv = v ∧ g1 = jx_G j I1 M1 p1 := by cases e; exact ⟨rfl, rfl⟩
      obtain ⟨r, hr, rfl⟩ : ∃ r : Int, iR r ∧ rv = some (.int (iI r)) := by rcases hg with ⟨h, _⟩ | ⟨_, h⟩ | ⟨h, _⟩ <;> first | exact h | exact absurd h (by omega)
      show jx L xs _ 181 10 _ [.int (iI r), .int (iI 0), .ref 138] _ _
      refine jv_i2l (pc' := 11) (a := r) rfl rfl (by omega) ?_
      refine jv_lastore (pc' := 12) (n := 1) (e := 0) (v := (lI r)) rfl rfl rfl rfl rfl (by omega) ?_
      refine jx_step (pc' := 23) rfl ?_
      refine jv_iconst (pc' := 24) (n := 0) rfl rfl ?_
      refine jv_retI rfl rfl ⟨_, _, rfl, ?_⟩
      exact ⟨0, _, _, _, _, 0, _, rfl, by omega, r1, (fr_u (Or.inr rfl) m1), rfl, by omega, (CR_o R1 (fr_u rfl (fr_r _))), h61, hREF, fun _ => Or.inr (Or.inl ⟨rfl, r, hr, rfl, jm_u_eq ⟨rfl, rfl⟩⟩)⟩
    · cases e
  · rcases q with ⟨_, _, _, _, _, e, _⟩ | ⟨I1, M1, p1, x1, t, e, r1, m1, R1, hX, hREF⟩
    · cases e
    · cases e
      unfold X2 at hX
      rcases hX with ⟨rfl, rfl⟩ | ⟨rfl, rfl⟩
      · skip
        refine ⟨17, 5, rfl, ?_⟩
        refine jv_iconst (pc' := 18) (n := 1) rfl rfl ?_
        refine jv_retI rfl rfl ⟨_, _, rfl, ?_⟩
        exact ⟨1, _, _, _, _, 1, none, rfl, by omega, r1, m1, rfl, by omega, R1, h6, hREF, fun h => absurd h (by omega)⟩
      · skip
        refine ⟨21, 5, rfl, ?_⟩
        refine jv_iconst (pc' := 22) (n := 2) rfl rfl ?_
        refine jv_retI rfl rfl ⟨_, _, rfl, ?_⟩
        exact ⟨1, _, _, _, _, 2, none, rfl, by omega, r1, m1, rfl, by omega, R1, h6, hREF, fun h => absurd h (by omega)⟩
theorem hp_value (hCO : COP 3 12 155 (X1 52) [.int (iI x), .int (iI y)] A) (hR : CR I M p A) (h6 : A6 A) : jc L xs (d + 39) 182 [.ref 0, .int (iI x), .int (iI y), .ref 138] (jx_G j I M p) (HPo 3 155 [.int (iI x), .int (iI y)] A j I M) := by
  unfold jc
  refine jv_aload_n (pc' := 1) (k := 3) (x := 138) rfl rfl rfl rfl ?_
  refine jv_iconst (pc' := 2) (n := 0) rfl rfl ?_
  refine jv_aload_n (pc' := 3) (k := 0) (x := 0) rfl rfl rfl rfl ?_
  refine jv_iload_n (pc' := 4) (k := 1) (x := (iI x)) rfl rfl rfl rfl ?_
  refine jv_iload_n (pc' := 5) (k := 2) (x := (iI y)) rfl rfl rfl rfl ?_
  refine jx_callo (pc' := 8) rfl (hCO L xs d j I M p hR) (fun v g1 q => ?_) (fun x' g1 q => ?_)
  · rcases q with ⟨I1, M1, p1, A1, rv, e, r1, m1, R1, h61, hg, hREF⟩ | ⟨_, _, _, _, _, e, _⟩
    · obtain ⟨rfl, rfl⟩ : rv = v ∧ g1 = jx_G j I1 M1 p1 := by cases e; exact ⟨rfl, rfl⟩
      obtain ⟨r, hr, rfl⟩ : ∃ r : Int, lR r ∧ rv = some (.long (lI r)) := by rcases hg with ⟨h, _⟩ | ⟨h, _⟩ | ⟨_, h⟩ <;> first | exact h | exact absurd h (by omega)
      show jx L xs _ 182 8 _ [.long (lI r), .int (iI 0), .ref 138] _ _
      refine jv_lastore (pc' := 9) (n := 1) (e := 0) (v := (lI r)) rfl rfl rfl rfl rfl (by omega) ?_
      refine jx_step (pc' := 16) rfl ?_
      refine jv_iconst (pc' := 17) (n := 0) rfl rfl ?_
      refine jv_retI rfl rfl ⟨_, _, rfl, ?_⟩
      exact ⟨0, _, _, _, _, 0, _, rfl, by omega, r1, (fr_u (Or.inr rfl) m1), rfl, by omega, (CR_o R1 (fr_u rfl (fr_r _))), h61, hREF, fun _ => Or.inr (Or.inr ⟨rfl, r, hr, rfl, jm_u_eq ⟨rfl, rfl⟩⟩)⟩
    · cases e
  · rcases q with ⟨_, _, _, _, _, e, _⟩ | ⟨I1, M1, p1, x1, t, e, r1, m1, R1, hX, hREF⟩
    · cases e
    · cases e
      unfold X1 at hX
      obtain ⟨rfl, rfl⟩ := hX
      refine ⟨14, 4, rfl, ?_⟩
      refine jv_iconst (pc' := 15) (n := 1) rfl rfl ?_
      refine jv_retI rfl rfl ⟨_, _, rfl, ?_⟩
      exact ⟨1, _, _, _, _, 1, none, rfl, by omega, r1, m1, rfl, by omega, R1, h6, hREF, fun h => absurd h (by omega)⟩
theorem hp_filter (hCO : COP 1 13 127 (X1 50) [.int (iI x)] A) (hR : CR I M p A) (h6 : A6 A) : jc L xs (d + 39) 183 [.ref 0, .int (iI x), .ref 138] (jx_G j I M p) (HPo 1 127 [.int (iI x)] A j I M) := by
  unfold jc
  refine jv_aload_n (pc' := 1) (k := 2) (x := 138) rfl rfl rfl rfl ?_
  refine jv_iconst (pc' := 2) (n := 0) rfl rfl ?_
  refine jv_aload_n (pc' := 3) (k := 0) (x := 0) rfl rfl rfl rfl ?_
  refine jv_iload_n (pc' := 4) (k := 1) (x := (iI x)) rfl rfl rfl rfl ?_
  refine jx_callo (pc' := 7) rfl (hCO L xs d j I M p hR) (fun v g1 q => ?_) (fun x' g1 q => ?_)
  · rcases q with ⟨I1, M1, p1, A1, rv, e, r1, m1, R1, h61, hg, hREF⟩ | ⟨_, _, _, _, _, e, _⟩
    · obtain ⟨rfl, rfl⟩ : rv = v ∧ g1 = jx_G j I1 M1 p1 := by cases e; exact ⟨rfl, rfl⟩
      obtain ⟨r, hr, rfl⟩ : ∃ r : Int, iR r ∧ rv = some (.int (iI r)) := by rcases hg with ⟨h, _⟩ | ⟨_, h⟩ | ⟨h, _⟩ <;> first | exact h | exact absurd h (by omega)
      show jx L xs _ 183 7 _ [.int (iI r), .int (iI 0), .ref 138] _ _
      refine jv_i2l (pc' := 8) (a := r) rfl rfl (by omega) ?_
      refine jv_lastore (pc' := 9) (n := 1) (e := 0) (v := (lI r)) rfl rfl rfl rfl rfl (by omega) ?_
      refine jx_step (pc' := 15) rfl ?_
      refine jv_iconst (pc' := 16) (n := 0) rfl rfl ?_
      refine jv_retI rfl rfl ⟨_, _, rfl, ?_⟩
      exact ⟨0, _, _, _, _, 0, _, rfl, by omega, r1, (fr_u (Or.inr rfl) m1), rfl, by omega, (CR_o R1 (fr_u rfl (fr_r _))), h61, hREF, fun _ => Or.inr (Or.inl ⟨rfl, r, hr, rfl, jm_u_eq ⟨rfl, rfl⟩⟩)⟩
    · cases e
  · rcases q with ⟨_, _, _, _, _, e, _⟩ | ⟨I1, M1, p1, x1, t, e, r1, m1, R1, hX, hREF⟩
    · cases e
    · cases e
      unfold X1 at hX
      obtain ⟨rfl, rfl⟩ := hX
      refine ⟨13, 3, rfl, ?_⟩
      refine jv_iconst (pc' := 14) (n := 1) rfl rfl ?_
      refine jv_retI rfl rfl ⟨_, _, rfl, ?_⟩
      exact ⟨1, _, _, _, _, 1, none, rfl, by omega, r1, m1, rfl, by omega, R1, h6, hREF, fun h => absurd h (by omega)⟩
theorem hp_next (hCO : COP 1 14 162 (X2 50 53) [.int (iI x), .int (iI y)] A) (hR : CR I M p A) (h6 : A6 A) : jc L xs (d + 39) 184 [.ref 0, .int (iI x), .int (iI y), .ref 138] (jx_G j I M p) (HPo 1 162 [.int (iI x), .int (iI y)] A j I M) := by
  unfold jc
  refine jv_aload_n (pc' := 1) (k := 3) (x := 138) rfl rfl rfl rfl ?_
  refine jv_iconst (pc' := 2) (n := 0) rfl rfl ?_
  refine jv_aload_n (pc' := 3) (k := 0) (x := 0) rfl rfl rfl rfl ?_
  refine jv_iload_n (pc' := 4) (k := 1) (x := (iI x)) rfl rfl rfl rfl ?_
  refine jv_iload_n (pc' := 5) (k := 2) (x := (iI y)) rfl rfl rfl rfl ?_
  refine jx_callo (pc' := 8) rfl (hCO L xs d j I M p hR) (fun v g1 q => ?_) (fun x' g1 q => ?_)
  · rcases q with ⟨I1, M1, p1, A1, rv, e, r1, m1, R1, h61, hg, hREF⟩ | ⟨_, _, _, _, _, e, _⟩
    · obtain ⟨rfl, rfl⟩ : rv = v ∧ g1 = jx_G j I1 M1 p1 := by cases e; exact ⟨rfl, rfl⟩
      obtain ⟨r, hr, rfl⟩ : ∃ r : Int, iR r ∧ rv = some (.int (iI r)) := by rcases hg with ⟨h, _⟩ | ⟨_, h⟩ | ⟨h, _⟩ <;> first | exact h | exact absurd h (by omega)
      show jx L xs _ 184 8 _ [.int (iI r), .int (iI 0), .ref 138] _ _
      refine jv_i2l (pc' := 9) (a := r) rfl rfl (by omega) ?_
      refine jv_lastore (pc' := 10) (n := 1) (e := 0) (v := (lI r)) rfl rfl rfl rfl rfl (by omega) ?_
      refine jx_step (pc' := 21) rfl ?_
      refine jv_iconst (pc' := 22) (n := 0) rfl rfl ?_
      refine jv_retI rfl rfl ⟨_, _, rfl, ?_⟩
      exact ⟨0, _, _, _, _, 0, _, rfl, by omega, r1, (fr_u (Or.inr rfl) m1), rfl, by omega, (CR_o R1 (fr_u rfl (fr_r _))), h61, hREF, fun _ => Or.inr (Or.inl ⟨rfl, r, hr, rfl, jm_u_eq ⟨rfl, rfl⟩⟩)⟩
    · cases e
  · rcases q with ⟨_, _, _, _, _, e, _⟩ | ⟨I1, M1, p1, x1, t, e, r1, m1, R1, hX, hREF⟩
    · cases e
    · cases e
      unfold X2 at hX
      rcases hX with ⟨rfl, rfl⟩ | ⟨rfl, rfl⟩
      · skip
        refine ⟨15, 4, rfl, ?_⟩
        refine jv_iconst (pc' := 16) (n := 1) rfl rfl ?_
        refine jv_retI rfl rfl ⟨_, _, rfl, ?_⟩
        exact ⟨1, _, _, _, _, 1, none, rfl, by omega, r1, m1, rfl, by omega, R1, h6, hREF, fun h => absurd h (by omega)⟩
      · skip
        refine ⟨19, 4, rfl, ?_⟩
        refine jv_iconst (pc' := 20) (n := 2) rfl rfl ?_
        refine jv_retI rfl rfl ⟨_, _, rfl, ?_⟩
        exact ⟨1, _, _, _, _, 2, none, rfl, by omega, r1, m1, rfl, by omega, R1, h6, hREF, fun h => absurd h (by omega)⟩
theorem hp_total (hCO : COP 3 15 164 (X2 50 53) [.int (iI x), .int (iI y), .int (iI z), .int (iI u)] A) (hR : CR I M p A) (h6 : A6 A) : jc L xs (d + 39) 185 [.ref 0, .int (iI x), .int (iI y), .int (iI z), .int (iI u), .ref 138] (jx_G j I M p) (HPo 3 164 [.int (iI x), .int (iI y), .int (iI z), .int (iI u)] A j I M) := by
  unfold jc
  refine jv_aload (pc' := 2) (k := 5) (x := 138) rfl rfl rfl ?_
  refine jv_iconst (pc' := 3) (n := 0) rfl rfl ?_
  refine jv_aload_n (pc' := 4) (k := 0) (x := 0) rfl rfl rfl rfl ?_
  refine jv_iload_n (pc' := 5) (k := 1) (x := (iI x)) rfl rfl rfl rfl ?_
  refine jv_iload_n (pc' := 6) (k := 2) (x := (iI y)) rfl rfl rfl rfl ?_
  refine jv_iload_n (pc' := 7) (k := 3) (x := (iI z)) rfl rfl rfl rfl ?_
  refine jv_iload (pc' := 9) (k := 4) (x := (iI u)) rfl rfl rfl ?_
  refine jx_callo (pc' := 12) rfl (hCO L xs d j I M p hR) (fun v g1 q => ?_) (fun x' g1 q => ?_)
  · rcases q with ⟨I1, M1, p1, A1, rv, e, r1, m1, R1, h61, hg, hREF⟩ | ⟨_, _, _, _, _, e, _⟩
    · obtain ⟨rfl, rfl⟩ : rv = v ∧ g1 = jx_G j I1 M1 p1 := by cases e; exact ⟨rfl, rfl⟩
      obtain ⟨r, hr, rfl⟩ : ∃ r : Int, lR r ∧ rv = some (.long (lI r)) := by rcases hg with ⟨h, _⟩ | ⟨h, _⟩ | ⟨_, h⟩ <;> first | exact h | exact absurd h (by omega)
      show jx L xs _ 185 12 _ [.long (lI r), .int (iI 0), .ref 138] _ _
      refine jv_lastore (pc' := 13) (n := 1) (e := 0) (v := (lI r)) rfl rfl rfl rfl rfl (by omega) ?_
      refine jx_step (pc' := 24) rfl ?_
      refine jv_iconst (pc' := 25) (n := 0) rfl rfl ?_
      refine jv_retI rfl rfl ⟨_, _, rfl, ?_⟩
      exact ⟨0, _, _, _, _, 0, _, rfl, by omega, r1, (fr_u (Or.inr rfl) m1), rfl, by omega, (CR_o R1 (fr_u rfl (fr_r _))), h61, hREF, fun _ => Or.inr (Or.inr ⟨rfl, r, hr, rfl, jm_u_eq ⟨rfl, rfl⟩⟩)⟩
    · cases e
  · rcases q with ⟨_, _, _, _, _, e, _⟩ | ⟨I1, M1, p1, x1, t, e, r1, m1, R1, hX, hREF⟩
    · cases e
    · cases e
      unfold X2 at hX
      rcases hX with ⟨rfl, rfl⟩ | ⟨rfl, rfl⟩
      · skip
        refine ⟨18, 6, rfl, ?_⟩
        refine jv_iconst (pc' := 19) (n := 1) rfl rfl ?_
        refine jv_retI rfl rfl ⟨_, _, rfl, ?_⟩
        exact ⟨1, _, _, _, _, 1, none, rfl, by omega, r1, m1, rfl, by omega, R1, h6, hREF, fun h => absurd h (by omega)⟩
      · skip
        refine ⟨22, 6, rfl, ?_⟩
        refine jv_iconst (pc' := 23) (n := 2) rfl rfl ?_
        refine jv_retI rfl rfl ⟨_, _, rfl, ?_⟩
        exact ⟨1, _, _, _, _, 2, none, rfl, by omega, r1, m1, rfl, by omega, R1, h6, hREF, fun h => absurd h (by omega)⟩
theorem hp_talks (hCO : COP 1 16 165 (X1 50) [.int (iI x), .int (iI y), .int (iI z), .int (iI u)] A) (hR : CR I M p A) (h6 : A6 A) : jc L xs (d + 39) 186 [.ref 0, .int (iI x), .int (iI y), .int (iI z), .int (iI u), .ref 138] (jx_G j I M p) (HPo 1 165 [.int (iI x), .int (iI y), .int (iI z), .int (iI u)] A j I M) := by
  unfold jc
  refine jv_aload (pc' := 2) (k := 5) (x := 138) rfl rfl rfl ?_
  refine jv_iconst (pc' := 3) (n := 0) rfl rfl ?_
  refine jv_aload_n (pc' := 4) (k := 0) (x := 0) rfl rfl rfl rfl ?_
  refine jv_iload_n (pc' := 5) (k := 1) (x := (iI x)) rfl rfl rfl rfl ?_
  refine jv_iload_n (pc' := 6) (k := 2) (x := (iI y)) rfl rfl rfl rfl ?_
  refine jv_iload_n (pc' := 7) (k := 3) (x := (iI z)) rfl rfl rfl rfl ?_
  refine jv_iload (pc' := 9) (k := 4) (x := (iI u)) rfl rfl rfl ?_
  refine jx_callo (pc' := 12) rfl (hCO L xs d j I M p hR) (fun v g1 q => ?_) (fun x' g1 q => ?_)
  · rcases q with ⟨I1, M1, p1, A1, rv, e, r1, m1, R1, h61, hg, hREF⟩ | ⟨_, _, _, _, _, e, _⟩
    · obtain ⟨rfl, rfl⟩ : rv = v ∧ g1 = jx_G j I1 M1 p1 := by cases e; exact ⟨rfl, rfl⟩
      obtain ⟨r, hr, rfl⟩ : ∃ r : Int, iR r ∧ rv = some (.int (iI r)) := by rcases hg with ⟨h, _⟩ | ⟨_, h⟩ | ⟨h, _⟩ <;> first | exact h | exact absurd h (by omega)
      show jx L xs _ 186 12 _ [.int (iI r), .int (iI 0), .ref 138] _ _
      refine jv_i2l (pc' := 13) (a := r) rfl rfl (by omega) ?_
      refine jv_lastore (pc' := 14) (n := 1) (e := 0) (v := (lI r)) rfl rfl rfl rfl rfl (by omega) ?_
      refine jx_step (pc' := 21) rfl ?_
      refine jv_iconst (pc' := 22) (n := 0) rfl rfl ?_
      refine jv_retI rfl rfl ⟨_, _, rfl, ?_⟩
      exact ⟨0, _, _, _, _, 0, _, rfl, by omega, r1, (fr_u (Or.inr rfl) m1), rfl, by omega, (CR_o R1 (fr_u rfl (fr_r _))), h61, hREF, fun _ => Or.inr (Or.inl ⟨rfl, r, hr, rfl, jm_u_eq ⟨rfl, rfl⟩⟩)⟩
    · cases e
  · rcases q with ⟨_, _, _, _, _, e, _⟩ | ⟨I1, M1, p1, x1, t, e, r1, m1, R1, hX, hREF⟩
    · cases e
    · cases e
      unfold X1 at hX
      obtain ⟨rfl, rfl⟩ := hX
      refine ⟨19, 6, rfl, ?_⟩
      refine jv_iconst (pc' := 20) (n := 1) rfl rfl ?_
      refine jv_retI rfl rfl ⟨_, _, rfl, ?_⟩
      exact ⟨1, _, _, _, _, 1, none, rfl, by omega, r1, m1, rfl, by omega, R1, h6, hREF, fun h => absurd h (by omega)⟩
theorem hp_talk (hCO : COP 3 17 168 (X2 52 50) [.int (iI x), .int (iI y)] A) (hR : CR I M p A) (h6 : A6 A) : jc L xs (d + 39) 187 [.ref 0, .int (iI x), .int (iI y), .ref 138] (jx_G j I M p) (HPo 3 168 [.int (iI x), .int (iI y)] A j I M) := by
  unfold jc
  refine jv_aload_n (pc' := 1) (k := 3) (x := 138) rfl rfl rfl rfl ?_
  refine jv_iconst (pc' := 2) (n := 0) rfl rfl ?_
  refine jv_aload_n (pc' := 3) (k := 0) (x := 0) rfl rfl rfl rfl ?_
  refine jv_iload_n (pc' := 4) (k := 1) (x := (iI x)) rfl rfl rfl rfl ?_
  refine jv_iload_n (pc' := 5) (k := 2) (x := (iI y)) rfl rfl rfl rfl ?_
  refine jx_callo (pc' := 8) rfl (hCO L xs d j I M p hR) (fun v g1 q => ?_) (fun x' g1 q => ?_)
  · rcases q with ⟨I1, M1, p1, A1, rv, e, r1, m1, R1, h61, hg, hREF⟩ | ⟨_, _, _, _, _, e, _⟩
    · obtain ⟨rfl, rfl⟩ : rv = v ∧ g1 = jx_G j I1 M1 p1 := by cases e; exact ⟨rfl, rfl⟩
      obtain ⟨r, hr, rfl⟩ : ∃ r : Int, lR r ∧ rv = some (.long (lI r)) := by rcases hg with ⟨h, _⟩ | ⟨h, _⟩ | ⟨_, h⟩ <;> first | exact h | exact absurd h (by omega)
      show jx L xs _ 187 8 _ [.long (lI r), .int (iI 0), .ref 138] _ _
      refine jv_lastore (pc' := 9) (n := 1) (e := 0) (v := (lI r)) rfl rfl rfl rfl rfl (by omega) ?_
      refine jx_step (pc' := 20) rfl ?_
      refine jv_iconst (pc' := 21) (n := 0) rfl rfl ?_
      refine jv_retI rfl rfl ⟨_, _, rfl, ?_⟩
      exact ⟨0, _, _, _, _, 0, _, rfl, by omega, r1, (fr_u (Or.inr rfl) m1), rfl, by omega, (CR_o R1 (fr_u rfl (fr_r _))), h61, hREF, fun _ => Or.inr (Or.inr ⟨rfl, r, hr, rfl, jm_u_eq ⟨rfl, rfl⟩⟩)⟩
    · cases e
  · rcases q with ⟨_, _, _, _, _, e, _⟩ | ⟨I1, M1, p1, x1, t, e, r1, m1, R1, hX, hREF⟩
    · cases e
    · cases e
      unfold X2 at hX
      rcases hX with ⟨rfl, rfl⟩ | ⟨rfl, rfl⟩
      · skip
        refine ⟨14, 4, rfl, ?_⟩
        refine jv_iconst (pc' := 15) (n := 1) rfl rfl ?_
        refine jv_retI rfl rfl ⟨_, _, rfl, ?_⟩
        exact ⟨1, _, _, _, _, 1, none, rfl, by omega, r1, m1, rfl, by omega, R1, h6, hREF, fun h => absurd h (by omega)⟩
      · skip
        refine ⟨18, 4, rfl, ?_⟩
        refine jv_iconst (pc' := 19) (n := 2) rfl rfl ?_
        refine jv_retI rfl rfl ⟨_, _, rfl, ?_⟩
        exact ⟨1, _, _, _, _, 2, none, rfl, by omega, r1, m1, rfl, by omega, R1, h6, hREF, fun h => absurd h (by omega)⟩
theorem hp_stream (hCO : COP 1 18 170 (X2 52 50) [.int (iI x), .int (iI y), .int (iI z)] A) (hR : CR I M p A) (h6 : A6 A) : jc L xs (d + 39) 188 [.ref 0, .int (iI x), .int (iI y), .int (iI z), .ref 138] (jx_G j I M p) (HPo 1 170 [.int (iI x), .int (iI y), .int (iI z)] A j I M) := by
  unfold jc
  refine jv_aload (pc' := 2) (k := 4) (x := 138) rfl rfl rfl ?_
  refine jv_iconst (pc' := 3) (n := 0) rfl rfl ?_
  refine jv_aload_n (pc' := 4) (k := 0) (x := 0) rfl rfl rfl rfl ?_
  refine jv_iload_n (pc' := 5) (k := 1) (x := (iI x)) rfl rfl rfl rfl ?_
  refine jv_iload_n (pc' := 6) (k := 2) (x := (iI y)) rfl rfl rfl rfl ?_
  refine jv_iload_n (pc' := 7) (k := 3) (x := (iI z)) rfl rfl rfl rfl ?_
  refine jx_callo (pc' := 10) rfl (hCO L xs d j I M p hR) (fun v g1 q => ?_) (fun x' g1 q => ?_)
  · rcases q with ⟨I1, M1, p1, A1, rv, e, r1, m1, R1, h61, hg, hREF⟩ | ⟨_, _, _, _, _, e, _⟩
    · obtain ⟨rfl, rfl⟩ : rv = v ∧ g1 = jx_G j I1 M1 p1 := by cases e; exact ⟨rfl, rfl⟩
      obtain ⟨r, hr, rfl⟩ : ∃ r : Int, iR r ∧ rv = some (.int (iI r)) := by rcases hg with ⟨h, _⟩ | ⟨_, h⟩ | ⟨h, _⟩ <;> first | exact h | exact absurd h (by omega)
      show jx L xs _ 188 10 _ [.int (iI r), .int (iI 0), .ref 138] _ _
      refine jv_i2l (pc' := 11) (a := r) rfl rfl (by omega) ?_
      refine jv_lastore (pc' := 12) (n := 1) (e := 0) (v := (lI r)) rfl rfl rfl rfl rfl (by omega) ?_
      refine jx_step (pc' := 23) rfl ?_
      refine jv_iconst (pc' := 24) (n := 0) rfl rfl ?_
      refine jv_retI rfl rfl ⟨_, _, rfl, ?_⟩
      exact ⟨0, _, _, _, _, 0, _, rfl, by omega, r1, (fr_u (Or.inr rfl) m1), rfl, by omega, (CR_o R1 (fr_u rfl (fr_r _))), h61, hREF, fun _ => Or.inr (Or.inl ⟨rfl, r, hr, rfl, jm_u_eq ⟨rfl, rfl⟩⟩)⟩
    · cases e
  · rcases q with ⟨_, _, _, _, _, e, _⟩ | ⟨I1, M1, p1, x1, t, e, r1, m1, R1, hX, hREF⟩
    · cases e
    · cases e
      unfold X2 at hX
      rcases hX with ⟨rfl, rfl⟩ | ⟨rfl, rfl⟩
      · skip
        refine ⟨17, 5, rfl, ?_⟩
        refine jv_iconst (pc' := 18) (n := 1) rfl rfl ?_
        refine jv_retI rfl rfl ⟨_, _, rfl, ?_⟩
        exact ⟨1, _, _, _, _, 1, none, rfl, by omega, r1, m1, rfl, by omega, R1, h6, hREF, fun h => absurd h (by omega)⟩
      · skip
        refine ⟨21, 5, rfl, ?_⟩
        refine jv_iconst (pc' := 22) (n := 2) rfl rfl ?_
        refine jv_retI rfl rfl ⟨_, _, rfl, ?_⟩
        exact ⟨1, _, _, _, _, 2, none, rfl, by omega, r1, m1, rfl, by omega, R1, h6, hREF, fun h => absurd h (by omega)⟩
set_option maxRecDepth 100000 in
set_option maxHeartbeats 4000000 in
theorem blk_write (hL : L ≤ 2560) (hq : 5 * q + 5 ≤ L) (hf0 : f 0 = some (.ref jm_S)) (hf1 : f 1 = some (.ref 0)) (hf2 : f 2 = some (.ref 103)) (hf3 : f 3 = some (.ref 138)) (hf4 : f 4 = some (.int (iI ((5 * q : Nat) : Int)))) (hj : j ≤ q) (hR : CR I M p A) (hM : CM I M A) (h6 : A6 A) (K : ∀ (j' : Nat) (I' : Nat → Nat → Int32) (M' : Nat → Nat → Int64) (p' : Nat → Option Nat) (A' : AB) (f' : jm_F), f' 0 = some (.ref jm_S) → f' 1 = some (.ref 0) → f' 2 = some (.ref 103) → f' 3 = some (.ref 138) → f' 4 = some (.int (iI ((5 * q : Nat) : Int))) → j' ≤ q + 1 → CR I' M' p' A' → CM I' M' A' → A6 A' → jx L xs (d + 40) 0 1243 f' [] (jx_G j' I' M' p') Q) : jx L xs (d + 40) 0 124 f [] (jx_G j I M p) Q := by
  obtain ⟨a1, ha1, ca1⟩ := iI_of (xs (5 * q + 1))
  obtain ⟨a2, ha2, ca2⟩ := iI_of (xs (5 * q + 2))
  obtain ⟨a3, ha3, ca3⟩ := iI_of (xs (5 * q + 3))
  refine jv_aload_n (pc' := 125) (k := 1) (x := 0) rfl rfl rfl hf1 ?_
  refine jv_aload_n (pc' := 126) (k := 0) (x := jm_S) rfl rfl rfl hf0 ?_
  refine jv_iload (pc' := 128) (k := 4) (x := (iI ((5 * q : Nat) : Int))) rfl rfl hf4 ?_
  refine jv_iconst (pc' := 129) (n := 1) rfl rfl ?_
  refine jv_iadd (pc' := 130) (a := ((5 * q : Nat) : Int)) (b := 1) rfl rfl ?_
  refine jv_sload (pc' := 131) (e := (((5 * q : Nat) : Int) + 1)) (v := (iI a1)) rfl rfl hL (by omega) ((congrArg xs (show (((5 * q : Nat) : Int) + 1 : Int).toNat = 5 * q + 1 by omega)).trans ca1) ?_
  refine jv_aload_n (pc' := 132) (k := 0) (x := jm_S) rfl rfl rfl hf0 ?_
  refine jv_iload (pc' := 134) (k := 4) (x := (iI ((5 * q : Nat) : Int))) rfl rfl hf4 ?_
  refine jv_iconst (pc' := 135) (n := 2) rfl rfl ?_
  refine jv_iadd (pc' := 136) (a := ((5 * q : Nat) : Int)) (b := 2) rfl rfl ?_
  refine jv_sload (pc' := 137) (e := (((5 * q : Nat) : Int) + 2)) (v := (iI a2)) rfl rfl hL (by omega) ((congrArg xs (show (((5 * q : Nat) : Int) + 2 : Int).toNat = 5 * q + 2 by omega)).trans ca2) ?_
  refine jv_i2l (pc' := 138) (a := a2) rfl rfl (by omega) ?_
  refine jv_bipush (pc' := 140) (n := 32) rfl rfl rfl ?_
  refine jv_long (pc' := 141) (y := (lI a2) <<< ((iI 32).toInt64 &&& 63)) rfl rfl ?_
  refine jv_aload_n (pc' := 142) (k := 0) (x := jm_S) rfl rfl rfl hf0 ?_
  refine jv_iload (pc' := 144) (k := 4) (x := (iI ((5 * q : Nat) : Int))) rfl rfl hf4 ?_
  refine jv_iconst (pc' := 145) (n := 3) rfl rfl ?_
  refine jv_iadd (pc' := 146) (a := ((5 * q : Nat) : Int)) (b := 3) rfl rfl ?_
  refine jv_sload (pc' := 147) (e := (((5 * q : Nat) : Int) + 3)) (v := (iI a3)) rfl rfl hL (by omega) ((congrArg xs (show (((5 * q : Nat) : Int) + 3 : Int).toNat = 5 * q + 3 by omega)).trans ca3) ?_
  refine jv_i2l (pc' := 148) (a := a3) rfl rfl (by omega) ?_
  refine jv_long (pc' := 151) (y := lI (4294967295)) rfl (by decide) ?_
  refine jv_long (pc' := 152) (y := (lI a3) &&& (lI 4294967295)) rfl rfl ?_
  refine jv_long (pc' := 153) (y := ((lI a2) <<< ((iI 32).toInt64 &&& 63)) ||| ((lI a3) &&& (lI 4294967295))) rfl rfl ?_
  refine jv_aload_n (pc' := 154) (k := 3) (x := 138) rfl rfl rfl hf3 ?_
  refine jv_call (pc' := 157) rfl (hp_write (d := d) (co_write h6 ha1 _) hR h6) (fun v1 g1 q1 => ?_)
  obtain ⟨e1, I1, M1, p1, A1, t, rv, rfl, he1, r1, m1, rfl, ht, R1, h61, hREF, hRO⟩ := q1
  show jx L xs _ 0 157 _ [.int (iI t)] _ _
  refine jv_istore (pc' := 159) (k := 5) (x := (iI t)) rfl rfl rfl (Or.inr (congrArg jm_lng hf4)) ?_
  refine jv_aload_n (pc' := 160) (k := 2) (x := 103) rfl rfl rfl hf2 ?_
  refine jv_aload_n (pc' := 161) (k := 0) (x := jm_S) rfl rfl rfl hf0 ?_
  refine jv_iload (pc' := 163) (k := 4) (x := (iI ((5 * q : Nat) : Int))) rfl rfl hf4 ?_
  refine jv_iconst (pc' := 164) (n := 1) rfl rfl ?_
  refine jv_iadd (pc' := 165) (a := ((5 * q : Nat) : Int)) (b := 1) rfl rfl ?_
  refine jv_sload (pc' := 166) (e := (((5 * q : Nat) : Int) + 1)) (v := (iI a1)) rfl rfl hL (by omega) ((congrArg xs (show (((5 * q : Nat) : Int) + 1 : Int).toNat = 5 * q + 1 by omega)).trans ca1) ?_
  refine jv_aload_n (pc' := 167) (k := 0) (x := jm_S) rfl rfl rfl hf0 ?_
  refine jv_iload (pc' := 169) (k := 4) (x := (iI ((5 * q : Nat) : Int))) rfl rfl hf4 ?_
  refine jv_iconst (pc' := 170) (n := 2) rfl rfl ?_
  refine jv_iadd (pc' := 171) (a := ((5 * q : Nat) : Int)) (b := 2) rfl rfl ?_
  refine jv_sload (pc' := 172) (e := (((5 * q : Nat) : Int) + 2)) (v := (iI a2)) rfl rfl hL (by omega) ((congrArg xs (show (((5 * q : Nat) : Int) + 2 : Int).toNat = 5 * q + 2 by omega)).trans ca2) ?_
  refine jv_i2l (pc' := 173) (a := a2) rfl rfl (by omega) ?_
  refine jv_bipush (pc' := 175) (n := 32) rfl rfl rfl ?_
  refine jv_long (pc' := 176) (y := (lI a2) <<< ((iI 32).toInt64 &&& 63)) rfl rfl ?_
  refine jv_aload_n (pc' := 177) (k := 0) (x := jm_S) rfl rfl rfl hf0 ?_
  refine jv_iload (pc' := 179) (k := 4) (x := (iI ((5 * q : Nat) : Int))) rfl rfl hf4 ?_
  refine jv_iconst (pc' := 180) (n := 3) rfl rfl ?_
  refine jv_iadd (pc' := 181) (a := ((5 * q : Nat) : Int)) (b := 3) rfl rfl ?_
  refine jv_sload (pc' := 182) (e := (((5 * q : Nat) : Int) + 3)) (v := (iI a3)) rfl rfl hL (by omega) ((congrArg xs (show (((5 * q : Nat) : Int) + 3 : Int).toNat = 5 * q + 3 by omega)).trans ca3) ?_
  refine jv_i2l (pc' := 183) (a := a3) rfl rfl (by omega) ?_
  refine jv_long (pc' := 186) (y := lI (4294967295)) rfl (by decide) ?_
  refine jv_long (pc' := 187) (y := (lI a3) &&& (lI 4294967295)) rfl rfl ?_
  refine jv_long (pc' := 188) (y := ((lI a2) <<< ((iI 32).toInt64 &&& 63)) ||| ((lI a3) &&& (lI 4294967295))) rfl rfl ?_
  refine jv_call (pc' := 191) rfl (jc_rv (hREF L xs (d + 31) (j + e1) I1 M1 p1 (CM_c hM r1 m1))) (fun v2 g2 q2 => ?_)
  obtain ⟨⟨I2, M2, rfl, r2, m2, C2, h0, hv2⟩, hk⟩ := q2
  have R2 := CR_m R1 r2 m2
  obtain ⟨z0, rfl⟩ := hk.2.1 rfl
  obtain ⟨zr, hzr, rfl⟩ := iI_of z0
  show jx L xs _ 0 191 _ [.int (iI zr)] _ _
  refine jv_istore (pc' := 193) (k := 6) (x := (iI zr)) rfl rfl rfl (Or.inr rfl) ?_
  refine jv_aload_n (pc' := 194) (k := 2) (x := 103) rfl rfl rfl hf2 ?_
  refine jv_call (pc' := 197) rfl (ml_thrown (I := I2) (M := M2) (t := t) h0) (fun vq1 gq1 q1 => ?_)
  obtain ⟨rfl, rfl⟩ := q1
  show jx L xs _ 0 197 _ [.int (iI t)] _ _
  refine jv_iload (pc' := 199) (k := 5) (x := (iI t)) rfl rfl rfl ?_
  refine jv_ic_eq (t := 204) (pc' := 202) (a := t) (b := t) rfl rfl rfl (by omega) (fun hz_2 => ?_) (fun hz_2 => ?_)
  · skip
    refine jv_iload (pc' := 206) (k := 5) (x := (iI t)) rfl rfl rfl ?_
    refine jv_if_ne (t := 221) (pc' := 209) (a := t) rfl rfl rfl (by omega) (fun hz_3 => ?_) (fun hz_3 => ?_)
    · skip
      refine jx_step (pc' := 1243) rfl ?_
      exact K _ _ _ _ _ _ hf0 hf1 hf2 hf3 hf4 (by omega) R2 C2 h61
    · skip
      have ht0 : t = 0 := by omega
      obtain ⟨r, hr, hrv, h138⟩ := RO_1 (hRO ht0)
      have hzz : zr = r := RO_i hzr hr ((hv2 ht0).trans hrv)
      refine jv_aload_n (pc' := 210) (k := 3) (x := 138) rfl rfl rfl hf3 ?_
      refine jv_iconst (pc' := 211) (n := 0) rfl rfl ?_
      refine jv_laload (pc' := 212) (n := 1) (e := 0) (v := (lI r)) rfl rfl rfl rfl rfl (by omega) ((m2 138 0 (by unfold mV; omega)).trans h138) ?_
      refine jv_iload (pc' := 214) (k := 6) (x := (iI zr)) rfl rfl rfl ?_
      refine jv_i2l (pc' := 215) (a := zr) rfl rfl (by omega) ?_
      refine jv_lc_eq (t := 221) (pc' := 219) (a := r) (b := zr) rfl rfl rfl rfl rfl (by omega) (fun hz_4 => ?_) (fun hz_4 => ?_)
      · skip
        refine jx_step (pc' := 1243) rfl ?_
        exact K _ _ _ _ _ _ hf0 hf1 hf2 hf3 hf4 (by omega) R2 C2 h61
      · skip
        exfalso; omega
  · skip
    exfalso; omega
set_option maxRecDepth 100000 in
set_option maxHeartbeats 4000000 in
theorem blk_wipe (hL : L ≤ 2560) (hq : 5 * q + 5 ≤ L) (hf0 : f 0 = some (.ref jm_S)) (hf1 : f 1 = some (.ref 0)) (hf2 : f 2 = some (.ref 103)) (hf3 : f 3 = some (.ref 138)) (hf4 : f 4 = some (.int (iI ((5 * q : Nat) : Int)))) (hj : j ≤ q) (hR : CR I M p A) (hM : CM I M A) (h6 : A6 A) (K : ∀ (j' : Nat) (I' : Nat → Nat → Int32) (M' : Nat → Nat → Int64) (p' : Nat → Option Nat) (A' : AB) (f' : jm_F), f' 0 = some (.ref jm_S) → f' 1 = some (.ref 0) → f' 2 = some (.ref 103) → f' 3 = some (.ref 138) → f' 4 = some (.int (iI ((5 * q : Nat) : Int))) → j' ≤ q + 1 → CR I' M' p' A' → CM I' M' A' → A6 A' → jx L xs (d + 40) 0 1243 f' [] (jx_G j' I' M' p') Q) : jx L xs (d + 40) 0 224 f [] (jx_G j I M p) Q := by
  have hv1 := hR.1.1.1
  refine jv_aload_n (pc' := 225) (k := 1) (x := 0) rfl rfl rfl hf1 ?_
  refine jv_call (pc' := 228) rfl (op_wipe_c (d := d + 39) hR) (fun v1 g1 q1 => ?_)
  obtain ⟨I1, rfl, r1, rfl, R1⟩ := q1
  show jx L xs _ 0 228 _ [.int (iI (A 103 2))] _ _
  refine jv_aload_n (pc' := 229) (k := 2) (x := 103) rfl rfl rfl hf2 ?_
  refine jv_call (pc' := 232) rfl (op_wipe_m (d := d + 39) (CM_c hM r1 (fr_r _))) (fun v2 g2 q2 => ?_)
  obtain ⟨I2, rfl, r2, rfl, C2, h0⟩ := q2
  show jx L xs _ 0 232 _ [.int (iI (A 103 2)), .int (iI (A 103 2))] _ _
  refine jv_ic_eq (t := 1243) (pc' := 235) (a := (A 103 2)) (b := (A 103 2)) rfl rfl rfl (by omega) (fun hz_1 => ?_) (fun hz_1 => ?_)
  · skip
    exact K _ _ _ _ _ _ hf0 hf1 hf2 hf3 hf4 (by omega) (CR_m R1 r2 (fr_r _)) C2 (A6_o h6 (fun f => rfl))
  · skip
    exfalso; omega
set_option maxRecDepth 100000 in
set_option maxHeartbeats 4000000 in
theorem blk_layer (hL : L ≤ 2560) (hq : 5 * q + 5 ≤ L) (hf0 : f 0 = some (.ref jm_S)) (hf1 : f 1 = some (.ref 0)) (hf2 : f 2 = some (.ref 103)) (hf3 : f 3 = some (.ref 138)) (hf4 : f 4 = some (.int (iI ((5 * q : Nat) : Int)))) (hj : j ≤ q) (hR : CR I M p A) (hM : CM I M A) (h6 : A6 A) (K : ∀ (j' : Nat) (I' : Nat → Nat → Int32) (M' : Nat → Nat → Int64) (p' : Nat → Option Nat) (A' : AB) (f' : jm_F), f' 0 = some (.ref jm_S) → f' 1 = some (.ref 0) → f' 2 = some (.ref 103) → f' 3 = some (.ref 138) → f' 4 = some (.int (iI ((5 * q : Nat) : Int))) → j' ≤ q + 1 → CR I' M' p' A' → CM I' M' A' → A6 A' → jx L xs (d + 40) 0 1243 f' [] (jx_G j' I' M' p') Q) : jx L xs (d + 40) 0 237 f [] (jx_G j I M p) Q := by
  obtain ⟨a1, ha1, ca1⟩ := iI_of (xs (5 * q + 1))
  refine jv_aload_n (pc' := 238) (k := 1) (x := 0) rfl rfl rfl hf1 ?_
  refine jv_aload_n (pc' := 239) (k := 0) (x := jm_S) rfl rfl rfl hf0 ?_
  refine jv_iload (pc' := 241) (k := 4) (x := (iI ((5 * q : Nat) : Int))) rfl rfl hf4 ?_
  refine jv_iconst (pc' := 242) (n := 1) rfl rfl ?_
  refine jv_iadd (pc' := 243) (a := ((5 * q : Nat) : Int)) (b := 1) rfl rfl ?_
  refine jv_sload (pc' := 244) (e := (((5 * q : Nat) : Int) + 1)) (v := (iI a1)) rfl rfl hL (by omega) ((congrArg xs (show (((5 * q : Nat) : Int) + 1 : Int).toNat = 5 * q + 1 by omega)).trans ca1) ?_
  refine jv_aload_n (pc' := 245) (k := 3) (x := 138) rfl rfl rfl hf3 ?_
  refine jv_call (pc' := 248) rfl (hp_layer (d := d) (co_layer h6 ha1) hR h6) (fun v1 g1 q1 => ?_)
  obtain ⟨e1, I1, M1, p1, A1, t, rv, rfl, he1, r1, m1, rfl, ht, R1, h61, hREF, hRO⟩ := q1
  show jx L xs _ 0 248 _ [.int (iI t)] _ _
  refine jv_istore (pc' := 250) (k := 5) (x := (iI t)) rfl rfl rfl (Or.inr (congrArg jm_lng hf4)) ?_
  refine jv_aload_n (pc' := 251) (k := 2) (x := 103) rfl rfl rfl hf2 ?_
  refine jv_aload_n (pc' := 252) (k := 0) (x := jm_S) rfl rfl rfl hf0 ?_
  refine jv_iload (pc' := 254) (k := 4) (x := (iI ((5 * q : Nat) : Int))) rfl rfl hf4 ?_
  refine jv_iconst (pc' := 255) (n := 1) rfl rfl ?_
  refine jv_iadd (pc' := 256) (a := ((5 * q : Nat) : Int)) (b := 1) rfl rfl ?_
  refine jv_sload (pc' := 257) (e := (((5 * q : Nat) : Int) + 1)) (v := (iI a1)) rfl rfl hL (by omega) ((congrArg xs (show (((5 * q : Nat) : Int) + 1 : Int).toNat = 5 * q + 1 by omega)).trans ca1) ?_
  refine jv_call (pc' := 260) rfl (jc_rv (hREF L xs (d + 31) (j + e1) I1 M1 p1 (CM_c hM r1 m1))) (fun v2 g2 q2 => ?_)
  obtain ⟨⟨I2, M2, rfl, r2, m2, C2, h0, hv2⟩, hk⟩ := q2
  have R2 := CR_m R1 r2 m2
  obtain ⟨z0, rfl⟩ := hk.2.1 rfl
  obtain ⟨zr, hzr, rfl⟩ := iI_of z0
  show jx L xs _ 0 260 _ [.int (iI zr)] _ _
  refine jv_istore (pc' := 262) (k := 6) (x := (iI zr)) rfl rfl rfl (Or.inr rfl) ?_
  refine jv_aload_n (pc' := 263) (k := 2) (x := 103) rfl rfl rfl hf2 ?_
  refine jv_call (pc' := 266) rfl (ml_thrown (I := I2) (M := M2) (t := t) h0) (fun vq1 gq1 q1 => ?_)
  obtain ⟨rfl, rfl⟩ := q1
  show jx L xs _ 0 266 _ [.int (iI t)] _ _
  refine jv_iload (pc' := 268) (k := 5) (x := (iI t)) rfl rfl rfl ?_
  refine jv_ic_eq (t := 273) (pc' := 271) (a := t) (b := t) rfl rfl rfl (by omega) (fun hz_2 => ?_) (fun hz_2 => ?_)
  · skip
    refine jv_iload (pc' := 275) (k := 5) (x := (iI t)) rfl rfl rfl ?_
    refine jv_if_ne (t := 290) (pc' := 278) (a := t) rfl rfl rfl (by omega) (fun hz_3 => ?_) (fun hz_3 => ?_)
    · skip
      refine jx_step (pc' := 1243) rfl ?_
      exact K _ _ _ _ _ _ hf0 hf1 hf2 hf3 hf4 (by omega) R2 C2 h61
    · skip
      have ht0 : t = 0 := by omega
      obtain ⟨r, hr, hrv, h138⟩ := RO_1 (hRO ht0)
      have hzz : zr = r := RO_i hzr hr ((hv2 ht0).trans hrv)
      refine jv_aload_n (pc' := 279) (k := 3) (x := 138) rfl rfl rfl hf3 ?_
      refine jv_iconst (pc' := 280) (n := 0) rfl rfl ?_
      refine jv_laload (pc' := 281) (n := 1) (e := 0) (v := (lI r)) rfl rfl rfl rfl rfl (by omega) ((m2 138 0 (by unfold mV; omega)).trans h138) ?_
      refine jv_iload (pc' := 283) (k := 6) (x := (iI zr)) rfl rfl rfl ?_
      refine jv_i2l (pc' := 284) (a := zr) rfl rfl (by omega) ?_
      refine jv_lc_eq (t := 290) (pc' := 288) (a := r) (b := zr) rfl rfl rfl rfl rfl (by omega) (fun hz_4 => ?_) (fun hz_4 => ?_)
      · skip
        refine jx_step (pc' := 1243) rfl ?_
        exact K _ _ _ _ _ _ hf0 hf1 hf2 hf3 hf4 (by omega) R2 C2 h61
      · skip
        exfalso; omega
  · skip
    exfalso; omega
set_option maxRecDepth 100000 in
set_option maxHeartbeats 4000000 in
theorem blk_root (hL : L ≤ 2560) (hq : 5 * q + 5 ≤ L) (hf0 : f 0 = some (.ref jm_S)) (hf1 : f 1 = some (.ref 0)) (hf2 : f 2 = some (.ref 103)) (hf3 : f 3 = some (.ref 138)) (hf4 : f 4 = some (.int (iI ((5 * q : Nat) : Int)))) (hj : j ≤ q) (hR : CR I M p A) (hM : CM I M A) (h6 : A6 A) (K : ∀ (j' : Nat) (I' : Nat → Nat → Int32) (M' : Nat → Nat → Int64) (p' : Nat → Option Nat) (A' : AB) (f' : jm_F), f' 0 = some (.ref jm_S) → f' 1 = some (.ref 0) → f' 2 = some (.ref 103) → f' 3 = some (.ref 138) → f' 4 = some (.int (iI ((5 * q : Nat) : Int))) → j' ≤ q + 1 → CR I' M' p' A' → CM I' M' A' → A6 A' → jx L xs (d + 40) 0 1243 f' [] (jx_G j' I' M' p') Q) : jx L xs (d + 40) 0 293 f [] (jx_G j I M p) Q := by
  obtain ⟨a1, ha1, ca1⟩ := iI_of (xs (5 * q + 1))
  obtain ⟨a2, ha2, ca2⟩ := iI_of (xs (5 * q + 2))
  refine jv_aload_n (pc' := 294) (k := 1) (x := 0) rfl rfl rfl hf1 ?_
  refine jv_aload_n (pc' := 295) (k := 0) (x := jm_S) rfl rfl rfl hf0 ?_
  refine jv_iload (pc' := 297) (k := 4) (x := (iI ((5 * q : Nat) : Int))) rfl rfl hf4 ?_
  refine jv_iconst (pc' := 298) (n := 1) rfl rfl ?_
  refine jv_iadd (pc' := 299) (a := ((5 * q : Nat) : Int)) (b := 1) rfl rfl ?_
  refine jv_sload (pc' := 300) (e := (((5 * q : Nat) : Int) + 1)) (v := (iI a1)) rfl rfl hL (by omega) ((congrArg xs (show (((5 * q : Nat) : Int) + 1 : Int).toNat = 5 * q + 1 by omega)).trans ca1) ?_
  refine jv_aload_n (pc' := 301) (k := 0) (x := jm_S) rfl rfl rfl hf0 ?_
  refine jv_iload (pc' := 303) (k := 4) (x := (iI ((5 * q : Nat) : Int))) rfl rfl hf4 ?_
  refine jv_iconst (pc' := 304) (n := 2) rfl rfl ?_
  refine jv_iadd (pc' := 305) (a := ((5 * q : Nat) : Int)) (b := 2) rfl rfl ?_
  refine jv_sload (pc' := 306) (e := (((5 * q : Nat) : Int) + 2)) (v := (iI a2)) rfl rfl hL (by omega) ((congrArg xs (show (((5 * q : Nat) : Int) + 2 : Int).toNat = 5 * q + 2 by omega)).trans ca2) ?_
  refine jv_call (pc' := 309) rfl (hp_root (d := d) (co_root h6 ha1 ha2) hR h6) (fun v1 g1 q1 => ?_)
  obtain ⟨e1, I1, M1, p1, A1, t, rv, rfl, he1, r1, m1, rfl, ht, R1, h61, hREF, hRO⟩ := q1
  show jx L xs _ 0 309 _ [.int (iI t)] _ _
  refine jv_istore (pc' := 311) (k := 5) (x := (iI t)) rfl rfl rfl (Or.inr (congrArg jm_lng hf4)) ?_
  refine jv_aload_n (pc' := 312) (k := 2) (x := 103) rfl rfl rfl hf2 ?_
  refine jv_aload_n (pc' := 313) (k := 0) (x := jm_S) rfl rfl rfl hf0 ?_
  refine jv_iload (pc' := 315) (k := 4) (x := (iI ((5 * q : Nat) : Int))) rfl rfl hf4 ?_
  refine jv_iconst (pc' := 316) (n := 1) rfl rfl ?_
  refine jv_iadd (pc' := 317) (a := ((5 * q : Nat) : Int)) (b := 1) rfl rfl ?_
  refine jv_sload (pc' := 318) (e := (((5 * q : Nat) : Int) + 1)) (v := (iI a1)) rfl rfl hL (by omega) ((congrArg xs (show (((5 * q : Nat) : Int) + 1 : Int).toNat = 5 * q + 1 by omega)).trans ca1) ?_
  refine jv_aload_n (pc' := 319) (k := 0) (x := jm_S) rfl rfl rfl hf0 ?_
  refine jv_iload (pc' := 321) (k := 4) (x := (iI ((5 * q : Nat) : Int))) rfl rfl hf4 ?_
  refine jv_iconst (pc' := 322) (n := 2) rfl rfl ?_
  refine jv_iadd (pc' := 323) (a := ((5 * q : Nat) : Int)) (b := 2) rfl rfl ?_
  refine jv_sload (pc' := 324) (e := (((5 * q : Nat) : Int) + 2)) (v := (iI a2)) rfl rfl hL (by omega) ((congrArg xs (show (((5 * q : Nat) : Int) + 2 : Int).toNat = 5 * q + 2 by omega)).trans ca2) ?_
  refine jv_call (pc' := 327) rfl (jc_rv (hREF L xs (d + 31) (j + e1) I1 M1 p1 (CM_c hM r1 m1))) (fun v2 g2 q2 => ?_)
  obtain ⟨⟨I2, M2, rfl, r2, m2, C2, h0, hv2⟩, hk⟩ := q2
  have R2 := CR_m R1 r2 m2
  obtain rfl := hk.1 rfl
  show jx L xs _ 0 327 _ [] _ _
  refine jv_aload_n (pc' := 328) (k := 2) (x := 103) rfl rfl rfl hf2 ?_
  refine jv_call (pc' := 331) rfl (ml_thrown (I := I2) (M := M2) (t := t) h0) (fun vq1 gq1 q1 => ?_)
  obtain ⟨rfl, rfl⟩ := q1
  show jx L xs _ 0 331 _ [.int (iI t)] _ _
  refine jv_iload (pc' := 333) (k := 5) (x := (iI t)) rfl rfl rfl ?_
  refine jv_ic_eq (t := 338) (pc' := 336) (a := t) (b := t) rfl rfl rfl (by omega) (fun hz_2 => ?_) (fun hz_2 => ?_)
  · skip
    refine jx_step (pc' := 1243) rfl ?_
    exact K _ _ _ _ _ _ hf0 hf1 hf2 hf3 hf4 (by omega) R2 C2 h61
  · skip
    exfalso; omega
set_option maxRecDepth 100000 in
set_option maxHeartbeats 4000000 in
theorem blk_follow (hL : L ≤ 2560) (hq : 5 * q + 5 ≤ L) (hf0 : f 0 = some (.ref jm_S)) (hf1 : f 1 = some (.ref 0)) (hf2 : f 2 = some (.ref 103)) (hf3 : f 3 = some (.ref 138)) (hf4 : f 4 = some (.int (iI ((5 * q : Nat) : Int)))) (hj : j ≤ q) (hR : CR I M p A) (hM : CM I M A) (h6 : A6 A) (K : ∀ (j' : Nat) (I' : Nat → Nat → Int32) (M' : Nat → Nat → Int64) (p' : Nat → Option Nat) (A' : AB) (f' : jm_F), f' 0 = some (.ref jm_S) → f' 1 = some (.ref 0) → f' 2 = some (.ref 103) → f' 3 = some (.ref 138) → f' 4 = some (.int (iI ((5 * q : Nat) : Int))) → j' ≤ q + 1 → CR I' M' p' A' → CM I' M' A' → A6 A' → jx L xs (d + 40) 0 1243 f' [] (jx_G j' I' M' p') Q) : jx L xs (d + 40) 0 341 f [] (jx_G j I M p) Q := by
  obtain ⟨a1, ha1, ca1⟩ := iI_of (xs (5 * q + 1))
  obtain ⟨a2, ha2, ca2⟩ := iI_of (xs (5 * q + 2))
  obtain ⟨a3, ha3, ca3⟩ := iI_of (xs (5 * q + 3))
  refine jv_aload_n (pc' := 342) (k := 1) (x := 0) rfl rfl rfl hf1 ?_
  refine jv_aload_n (pc' := 343) (k := 0) (x := jm_S) rfl rfl rfl hf0 ?_
  refine jv_iload (pc' := 345) (k := 4) (x := (iI ((5 * q : Nat) : Int))) rfl rfl hf4 ?_
  refine jv_iconst (pc' := 346) (n := 1) rfl rfl ?_
  refine jv_iadd (pc' := 347) (a := ((5 * q : Nat) : Int)) (b := 1) rfl rfl ?_
  refine jv_sload (pc' := 348) (e := (((5 * q : Nat) : Int) + 1)) (v := (iI a1)) rfl rfl hL (by omega) ((congrArg xs (show (((5 * q : Nat) : Int) + 1 : Int).toNat = 5 * q + 1 by omega)).trans ca1) ?_
  refine jv_aload_n (pc' := 349) (k := 0) (x := jm_S) rfl rfl rfl hf0 ?_
  refine jv_iload (pc' := 351) (k := 4) (x := (iI ((5 * q : Nat) : Int))) rfl rfl hf4 ?_
  refine jv_iconst (pc' := 352) (n := 2) rfl rfl ?_
  refine jv_iadd (pc' := 353) (a := ((5 * q : Nat) : Int)) (b := 2) rfl rfl ?_
  refine jv_sload (pc' := 354) (e := (((5 * q : Nat) : Int) + 2)) (v := (iI a2)) rfl rfl hL (by omega) ((congrArg xs (show (((5 * q : Nat) : Int) + 2 : Int).toNat = 5 * q + 2 by omega)).trans ca2) ?_
  refine jv_aload_n (pc' := 355) (k := 0) (x := jm_S) rfl rfl rfl hf0 ?_
  refine jv_iload (pc' := 357) (k := 4) (x := (iI ((5 * q : Nat) : Int))) rfl rfl hf4 ?_
  refine jv_iconst (pc' := 358) (n := 3) rfl rfl ?_
  refine jv_iadd (pc' := 359) (a := ((5 * q : Nat) : Int)) (b := 3) rfl rfl ?_
  refine jv_sload (pc' := 360) (e := (((5 * q : Nat) : Int) + 3)) (v := (iI a3)) rfl rfl hL (by omega) ((congrArg xs (show (((5 * q : Nat) : Int) + 3 : Int).toNat = 5 * q + 3 by omega)).trans ca3) ?_
  refine jv_call (pc' := 363) rfl (hp_follow (d := d) (co_follow h6 ha1 ha2 ha3) hR h6) (fun v1 g1 q1 => ?_)
  obtain ⟨e1, I1, M1, p1, A1, t, rv, rfl, he1, r1, m1, rfl, ht, R1, h61, hREF, hRO⟩ := q1
  show jx L xs _ 0 363 _ [.int (iI t)] _ _
  refine jv_istore (pc' := 365) (k := 5) (x := (iI t)) rfl rfl rfl (Or.inr (congrArg jm_lng hf4)) ?_
  refine jv_aload_n (pc' := 366) (k := 2) (x := 103) rfl rfl rfl hf2 ?_
  refine jv_aload_n (pc' := 367) (k := 0) (x := jm_S) rfl rfl rfl hf0 ?_
  refine jv_iload (pc' := 369) (k := 4) (x := (iI ((5 * q : Nat) : Int))) rfl rfl hf4 ?_
  refine jv_iconst (pc' := 370) (n := 1) rfl rfl ?_
  refine jv_iadd (pc' := 371) (a := ((5 * q : Nat) : Int)) (b := 1) rfl rfl ?_
  refine jv_sload (pc' := 372) (e := (((5 * q : Nat) : Int) + 1)) (v := (iI a1)) rfl rfl hL (by omega) ((congrArg xs (show (((5 * q : Nat) : Int) + 1 : Int).toNat = 5 * q + 1 by omega)).trans ca1) ?_
  refine jv_aload_n (pc' := 373) (k := 0) (x := jm_S) rfl rfl rfl hf0 ?_
  refine jv_iload (pc' := 375) (k := 4) (x := (iI ((5 * q : Nat) : Int))) rfl rfl hf4 ?_
  refine jv_iconst (pc' := 376) (n := 2) rfl rfl ?_
  refine jv_iadd (pc' := 377) (a := ((5 * q : Nat) : Int)) (b := 2) rfl rfl ?_
  refine jv_sload (pc' := 378) (e := (((5 * q : Nat) : Int) + 2)) (v := (iI a2)) rfl rfl hL (by omega) ((congrArg xs (show (((5 * q : Nat) : Int) + 2 : Int).toNat = 5 * q + 2 by omega)).trans ca2) ?_
  refine jv_aload_n (pc' := 379) (k := 0) (x := jm_S) rfl rfl rfl hf0 ?_
  refine jv_iload (pc' := 381) (k := 4) (x := (iI ((5 * q : Nat) : Int))) rfl rfl hf4 ?_
  refine jv_iconst (pc' := 382) (n := 3) rfl rfl ?_
  refine jv_iadd (pc' := 383) (a := ((5 * q : Nat) : Int)) (b := 3) rfl rfl ?_
  refine jv_sload (pc' := 384) (e := (((5 * q : Nat) : Int) + 3)) (v := (iI a3)) rfl rfl hL (by omega) ((congrArg xs (show (((5 * q : Nat) : Int) + 3 : Int).toNat = 5 * q + 3 by omega)).trans ca3) ?_
  refine jv_call (pc' := 387) rfl (jc_rv (hREF L xs (d + 31) (j + e1) I1 M1 p1 (CM_c hM r1 m1))) (fun v2 g2 q2 => ?_)
  obtain ⟨⟨I2, M2, rfl, r2, m2, C2, h0, hv2⟩, hk⟩ := q2
  have R2 := CR_m R1 r2 m2
  obtain rfl := hk.1 rfl
  show jx L xs _ 0 387 _ [] _ _
  refine jv_aload_n (pc' := 388) (k := 2) (x := 103) rfl rfl rfl hf2 ?_
  refine jv_call (pc' := 391) rfl (ml_thrown (I := I2) (M := M2) (t := t) h0) (fun vq1 gq1 q1 => ?_)
  obtain ⟨rfl, rfl⟩ := q1
  show jx L xs _ 0 391 _ [.int (iI t)] _ _
  refine jv_iload (pc' := 393) (k := 5) (x := (iI t)) rfl rfl rfl ?_
  refine jv_ic_eq (t := 398) (pc' := 396) (a := t) (b := t) rfl rfl rfl (by omega) (fun hz_2 => ?_) (fun hz_2 => ?_)
  · skip
    refine jx_step (pc' := 1243) rfl ?_
    exact K _ _ _ _ _ _ hf0 hf1 hf2 hf3 hf4 (by omega) R2 C2 h61
  · skip
    exfalso; omega
set_option maxRecDepth 100000 in
set_option maxHeartbeats 4000000 in
theorem blk_frame (hL : L ≤ 2560) (hq : 5 * q + 5 ≤ L) (hf0 : f 0 = some (.ref jm_S)) (hf1 : f 1 = some (.ref 0)) (hf2 : f 2 = some (.ref 103)) (hf3 : f 3 = some (.ref 138)) (hf4 : f 4 = some (.int (iI ((5 * q : Nat) : Int)))) (hj : j ≤ q) (hR : CR I M p A) (hM : CM I M A) (h6 : A6 A) (K : ∀ (j' : Nat) (I' : Nat → Nat → Int32) (M' : Nat → Nat → Int64) (p' : Nat → Option Nat) (A' : AB) (f' : jm_F), f' 0 = some (.ref jm_S) → f' 1 = some (.ref 0) → f' 2 = some (.ref 103) → f' 3 = some (.ref 138) → f' 4 = some (.int (iI ((5 * q : Nat) : Int))) → j' ≤ q + 1 → CR I' M' p' A' → CM I' M' A' → A6 A' → jx L xs (d + 40) 0 1243 f' [] (jx_G j' I' M' p') Q) : jx L xs (d + 40) 0 401 f [] (jx_G j I M p) Q := by
  obtain ⟨a1, ha1, ca1⟩ := iI_of (xs (5 * q + 1))
  obtain ⟨a2, ha2, ca2⟩ := iI_of (xs (5 * q + 2))
  refine jv_aload_n (pc' := 402) (k := 1) (x := 0) rfl rfl rfl hf1 ?_
  refine jv_aload_n (pc' := 403) (k := 0) (x := jm_S) rfl rfl rfl hf0 ?_
  refine jv_iload (pc' := 405) (k := 4) (x := (iI ((5 * q : Nat) : Int))) rfl rfl hf4 ?_
  refine jv_iconst (pc' := 406) (n := 1) rfl rfl ?_
  refine jv_iadd (pc' := 407) (a := ((5 * q : Nat) : Int)) (b := 1) rfl rfl ?_
  refine jv_sload (pc' := 408) (e := (((5 * q : Nat) : Int) + 1)) (v := (iI a1)) rfl rfl hL (by omega) ((congrArg xs (show (((5 * q : Nat) : Int) + 1 : Int).toNat = 5 * q + 1 by omega)).trans ca1) ?_
  refine jv_aload_n (pc' := 409) (k := 0) (x := jm_S) rfl rfl rfl hf0 ?_
  refine jv_iload (pc' := 411) (k := 4) (x := (iI ((5 * q : Nat) : Int))) rfl rfl hf4 ?_
  refine jv_iconst (pc' := 412) (n := 2) rfl rfl ?_
  refine jv_iadd (pc' := 413) (a := ((5 * q : Nat) : Int)) (b := 2) rfl rfl ?_
  refine jv_sload (pc' := 414) (e := (((5 * q : Nat) : Int) + 2)) (v := (iI a2)) rfl rfl hL (by omega) ((congrArg xs (show (((5 * q : Nat) : Int) + 2 : Int).toNat = 5 * q + 2 by omega)).trans ca2) ?_
  refine jv_aload_n (pc' := 415) (k := 3) (x := 138) rfl rfl rfl hf3 ?_
  refine jv_call (pc' := 418) rfl (hp_frame (d := d) (co_frame h6 ha1 ha2) hR h6) (fun v1 g1 q1 => ?_)
  obtain ⟨e1, I1, M1, p1, A1, t, rv, rfl, he1, r1, m1, rfl, ht, R1, h61, hREF, hRO⟩ := q1
  show jx L xs _ 0 418 _ [.int (iI t)] _ _
  refine jv_istore (pc' := 420) (k := 5) (x := (iI t)) rfl rfl rfl (Or.inr (congrArg jm_lng hf4)) ?_
  refine jv_aload_n (pc' := 421) (k := 2) (x := 103) rfl rfl rfl hf2 ?_
  refine jv_aload_n (pc' := 422) (k := 0) (x := jm_S) rfl rfl rfl hf0 ?_
  refine jv_iload (pc' := 424) (k := 4) (x := (iI ((5 * q : Nat) : Int))) rfl rfl hf4 ?_
  refine jv_iconst (pc' := 425) (n := 1) rfl rfl ?_
  refine jv_iadd (pc' := 426) (a := ((5 * q : Nat) : Int)) (b := 1) rfl rfl ?_
  refine jv_sload (pc' := 427) (e := (((5 * q : Nat) : Int) + 1)) (v := (iI a1)) rfl rfl hL (by omega) ((congrArg xs (show (((5 * q : Nat) : Int) + 1 : Int).toNat = 5 * q + 1 by omega)).trans ca1) ?_
  refine jv_aload_n (pc' := 428) (k := 0) (x := jm_S) rfl rfl rfl hf0 ?_
  refine jv_iload (pc' := 430) (k := 4) (x := (iI ((5 * q : Nat) : Int))) rfl rfl hf4 ?_
  refine jv_iconst (pc' := 431) (n := 2) rfl rfl ?_
  refine jv_iadd (pc' := 432) (a := ((5 * q : Nat) : Int)) (b := 2) rfl rfl ?_
  refine jv_sload (pc' := 433) (e := (((5 * q : Nat) : Int) + 2)) (v := (iI a2)) rfl rfl hL (by omega) ((congrArg xs (show (((5 * q : Nat) : Int) + 2 : Int).toNat = 5 * q + 2 by omega)).trans ca2) ?_
  refine jv_call (pc' := 436) rfl (jc_rv (hREF L xs (d + 31) (j + e1) I1 M1 p1 (CM_c hM r1 m1))) (fun v2 g2 q2 => ?_)
  obtain ⟨⟨I2, M2, rfl, r2, m2, C2, h0, hv2⟩, hk⟩ := q2
  have R2 := CR_m R1 r2 m2
  obtain ⟨z0, rfl⟩ := hk.2.1 rfl
  obtain ⟨zr, hzr, rfl⟩ := iI_of z0
  show jx L xs _ 0 436 _ [.int (iI zr)] _ _
  refine jv_istore (pc' := 438) (k := 6) (x := (iI zr)) rfl rfl rfl (Or.inr rfl) ?_
  refine jv_aload_n (pc' := 439) (k := 2) (x := 103) rfl rfl rfl hf2 ?_
  refine jv_call (pc' := 442) rfl (ml_thrown (I := I2) (M := M2) (t := t) h0) (fun vq1 gq1 q1 => ?_)
  obtain ⟨rfl, rfl⟩ := q1
  show jx L xs _ 0 442 _ [.int (iI t)] _ _
  refine jv_iload (pc' := 444) (k := 5) (x := (iI t)) rfl rfl rfl ?_
  refine jv_ic_eq (t := 449) (pc' := 447) (a := t) (b := t) rfl rfl rfl (by omega) (fun hz_2 => ?_) (fun hz_2 => ?_)
  · skip
    refine jv_iload (pc' := 451) (k := 5) (x := (iI t)) rfl rfl rfl ?_
    refine jv_if_ne (t := 466) (pc' := 454) (a := t) rfl rfl rfl (by omega) (fun hz_3 => ?_) (fun hz_3 => ?_)
    · skip
      refine jx_step (pc' := 1243) rfl ?_
      exact K _ _ _ _ _ _ hf0 hf1 hf2 hf3 hf4 (by omega) R2 C2 h61
    · skip
      have ht0 : t = 0 := by omega
      obtain ⟨r, hr, hrv, h138⟩ := RO_1 (hRO ht0)
      have hzz : zr = r := RO_i hzr hr ((hv2 ht0).trans hrv)
      refine jv_aload_n (pc' := 455) (k := 3) (x := 138) rfl rfl rfl hf3 ?_
      refine jv_iconst (pc' := 456) (n := 0) rfl rfl ?_
      refine jv_laload (pc' := 457) (n := 1) (e := 0) (v := (lI r)) rfl rfl rfl rfl rfl (by omega) ((m2 138 0 (by unfold mV; omega)).trans h138) ?_
      refine jv_iload (pc' := 459) (k := 6) (x := (iI zr)) rfl rfl rfl ?_
      refine jv_i2l (pc' := 460) (a := zr) rfl rfl (by omega) ?_
      refine jv_lc_eq (t := 466) (pc' := 464) (a := r) (b := zr) rfl rfl rfl rfl rfl (by omega) (fun hz_4 => ?_) (fun hz_4 => ?_)
      · skip
        refine jx_step (pc' := 1243) rfl ?_
        exact K _ _ _ _ _ _ hf0 hf1 hf2 hf3 hf4 (by omega) R2 C2 h61
      · skip
        exfalso; omega
  · skip
    exfalso; omega
set_option maxRecDepth 100000 in
set_option maxHeartbeats 4000000 in
theorem blk_drop (hL : L ≤ 2560) (hq : 5 * q + 5 ≤ L) (hf0 : f 0 = some (.ref jm_S)) (hf1 : f 1 = some (.ref 0)) (hf2 : f 2 = some (.ref 103)) (hf3 : f 3 = some (.ref 138)) (hf4 : f 4 = some (.int (iI ((5 * q : Nat) : Int)))) (hj : j ≤ q) (hR : CR I M p A) (hM : CM I M A) (h6 : A6 A) (K : ∀ (j' : Nat) (I' : Nat → Nat → Int32) (M' : Nat → Nat → Int64) (p' : Nat → Option Nat) (A' : AB) (f' : jm_F), f' 0 = some (.ref jm_S) → f' 1 = some (.ref 0) → f' 2 = some (.ref 103) → f' 3 = some (.ref 138) → f' 4 = some (.int (iI ((5 * q : Nat) : Int))) → j' ≤ q + 1 → CR I' M' p' A' → CM I' M' A' → A6 A' → jx L xs (d + 40) 0 1243 f' [] (jx_G j' I' M' p') Q) : jx L xs (d + 40) 0 469 f [] (jx_G j I M p) Q := by
  obtain ⟨a1, ha1, ca1⟩ := iI_of (xs (5 * q + 1))
  refine jv_aload_n (pc' := 470) (k := 1) (x := 0) rfl rfl rfl hf1 ?_
  refine jv_aload_n (pc' := 471) (k := 0) (x := jm_S) rfl rfl rfl hf0 ?_
  refine jv_iload (pc' := 473) (k := 4) (x := (iI ((5 * q : Nat) : Int))) rfl rfl hf4 ?_
  refine jv_iconst (pc' := 474) (n := 1) rfl rfl ?_
  refine jv_iadd (pc' := 475) (a := ((5 * q : Nat) : Int)) (b := 1) rfl rfl ?_
  refine jv_sload (pc' := 476) (e := (((5 * q : Nat) : Int) + 1)) (v := (iI a1)) rfl rfl hL (by omega) ((congrArg xs (show (((5 * q : Nat) : Int) + 1 : Int).toNat = 5 * q + 1 by omega)).trans ca1) ?_
  refine jv_aload_n (pc' := 477) (k := 3) (x := 138) rfl rfl rfl hf3 ?_
  refine jv_call (pc' := 480) rfl (hp_drop (d := d) (co_drop h6 ha1) hR h6) (fun v1 g1 q1 => ?_)
  obtain ⟨e1, I1, M1, p1, A1, t, rv, rfl, he1, r1, m1, rfl, ht, R1, h61, hREF, hRO⟩ := q1
  show jx L xs _ 0 480 _ [.int (iI t)] _ _
  refine jv_istore (pc' := 482) (k := 5) (x := (iI t)) rfl rfl rfl (Or.inr (congrArg jm_lng hf4)) ?_
  refine jv_aload_n (pc' := 483) (k := 2) (x := 103) rfl rfl rfl hf2 ?_
  refine jv_aload_n (pc' := 484) (k := 0) (x := jm_S) rfl rfl rfl hf0 ?_
  refine jv_iload (pc' := 486) (k := 4) (x := (iI ((5 * q : Nat) : Int))) rfl rfl hf4 ?_
  refine jv_iconst (pc' := 487) (n := 1) rfl rfl ?_
  refine jv_iadd (pc' := 488) (a := ((5 * q : Nat) : Int)) (b := 1) rfl rfl ?_
  refine jv_sload (pc' := 489) (e := (((5 * q : Nat) : Int) + 1)) (v := (iI a1)) rfl rfl hL (by omega) ((congrArg xs (show (((5 * q : Nat) : Int) + 1 : Int).toNat = 5 * q + 1 by omega)).trans ca1) ?_
  refine jv_call (pc' := 492) rfl (jc_rv (hREF L xs (d + 31) (j + e1) I1 M1 p1 (CM_c hM r1 m1))) (fun v2 g2 q2 => ?_)
  obtain ⟨⟨I2, M2, rfl, r2, m2, C2, h0, hv2⟩, hk⟩ := q2
  have R2 := CR_m R1 r2 m2
  obtain ⟨z0, rfl⟩ := hk.2.1 rfl
  obtain ⟨zr, hzr, rfl⟩ := iI_of z0
  show jx L xs _ 0 492 _ [.int (iI zr)] _ _
  refine jv_istore (pc' := 494) (k := 6) (x := (iI zr)) rfl rfl rfl (Or.inr rfl) ?_
  refine jv_aload_n (pc' := 495) (k := 2) (x := 103) rfl rfl rfl hf2 ?_
  refine jv_call (pc' := 498) rfl (ml_thrown (I := I2) (M := M2) (t := t) h0) (fun vq1 gq1 q1 => ?_)
  obtain ⟨rfl, rfl⟩ := q1
  show jx L xs _ 0 498 _ [.int (iI t)] _ _
  refine jv_iload (pc' := 500) (k := 5) (x := (iI t)) rfl rfl rfl ?_
  refine jv_ic_eq (t := 505) (pc' := 503) (a := t) (b := t) rfl rfl rfl (by omega) (fun hz_2 => ?_) (fun hz_2 => ?_)
  · skip
    refine jv_iload (pc' := 507) (k := 5) (x := (iI t)) rfl rfl rfl ?_
    refine jv_if_ne (t := 522) (pc' := 510) (a := t) rfl rfl rfl (by omega) (fun hz_3 => ?_) (fun hz_3 => ?_)
    · skip
      refine jx_step (pc' := 1243) rfl ?_
      exact K _ _ _ _ _ _ hf0 hf1 hf2 hf3 hf4 (by omega) R2 C2 h61
    · skip
      have ht0 : t = 0 := by omega
      obtain ⟨r, hr, hrv, h138⟩ := RO_1 (hRO ht0)
      have hzz : zr = r := RO_i hzr hr ((hv2 ht0).trans hrv)
      refine jv_aload_n (pc' := 511) (k := 3) (x := 138) rfl rfl rfl hf3 ?_
      refine jv_iconst (pc' := 512) (n := 0) rfl rfl ?_
      refine jv_laload (pc' := 513) (n := 1) (e := 0) (v := (lI r)) rfl rfl rfl rfl rfl (by omega) ((m2 138 0 (by unfold mV; omega)).trans h138) ?_
      refine jv_iload (pc' := 515) (k := 6) (x := (iI zr)) rfl rfl rfl ?_
      refine jv_i2l (pc' := 516) (a := zr) rfl rfl (by omega) ?_
      refine jv_lc_eq (t := 522) (pc' := 520) (a := r) (b := zr) rfl rfl rfl rfl rfl (by omega) (fun hz_4 => ?_) (fun hz_4 => ?_)
      · skip
        refine jx_step (pc' := 1243) rfl ?_
        exact K _ _ _ _ _ _ hf0 hf1 hf2 hf3 hf4 (by omega) R2 C2 h61
      · skip
        exfalso; omega
  · skip
    exfalso; omega
set_option maxRecDepth 100000 in
set_option maxHeartbeats 4000000 in
theorem blk_limit (hL : L ≤ 2560) (hq : 5 * q + 5 ≤ L) (hf0 : f 0 = some (.ref jm_S)) (hf1 : f 1 = some (.ref 0)) (hf2 : f 2 = some (.ref 103)) (hf3 : f 3 = some (.ref 138)) (hf4 : f 4 = some (.int (iI ((5 * q : Nat) : Int)))) (hj : j ≤ q) (hR : CR I M p A) (hM : CM I M A) (h6 : A6 A) (K : ∀ (j' : Nat) (I' : Nat → Nat → Int32) (M' : Nat → Nat → Int64) (p' : Nat → Option Nat) (A' : AB) (f' : jm_F), f' 0 = some (.ref jm_S) → f' 1 = some (.ref 0) → f' 2 = some (.ref 103) → f' 3 = some (.ref 138) → f' 4 = some (.int (iI ((5 * q : Nat) : Int))) → j' ≤ q + 1 → CR I' M' p' A' → CM I' M' A' → A6 A' → jx L xs (d + 40) 0 1243 f' [] (jx_G j' I' M' p') Q) : jx L xs (d + 40) 0 525 f [] (jx_G j I M p) Q := by
  obtain ⟨a1, ha1, ca1⟩ := iI_of (xs (5 * q + 1))
  refine jv_aload_n (pc' := 526) (k := 1) (x := 0) rfl rfl rfl hf1 ?_
  refine jv_aload_n (pc' := 527) (k := 0) (x := jm_S) rfl rfl rfl hf0 ?_
  refine jv_iload (pc' := 529) (k := 4) (x := (iI ((5 * q : Nat) : Int))) rfl rfl hf4 ?_
  refine jv_iconst (pc' := 530) (n := 1) rfl rfl ?_
  refine jv_iadd (pc' := 531) (a := ((5 * q : Nat) : Int)) (b := 1) rfl rfl ?_
  refine jv_sload (pc' := 532) (e := (((5 * q : Nat) : Int) + 1)) (v := (iI a1)) rfl rfl hL (by omega) ((congrArg xs (show (((5 * q : Nat) : Int) + 1 : Int).toNat = 5 * q + 1 by omega)).trans ca1) ?_
  refine jv_call (pc' := 535) rfl (hp_limit (d := d) (co_limit h6 ha1) hR h6) (fun v1 g1 q1 => ?_)
  obtain ⟨e1, I1, M1, p1, A1, t, rv, rfl, he1, r1, m1, rfl, ht, R1, h61, hREF, hRO⟩ := q1
  show jx L xs _ 0 535 _ [.int (iI t)] _ _
  refine jv_istore (pc' := 537) (k := 5) (x := (iI t)) rfl rfl rfl (Or.inr (congrArg jm_lng hf4)) ?_
  refine jv_aload_n (pc' := 538) (k := 2) (x := 103) rfl rfl rfl hf2 ?_
  refine jv_aload_n (pc' := 539) (k := 0) (x := jm_S) rfl rfl rfl hf0 ?_
  refine jv_iload (pc' := 541) (k := 4) (x := (iI ((5 * q : Nat) : Int))) rfl rfl hf4 ?_
  refine jv_iconst (pc' := 542) (n := 1) rfl rfl ?_
  refine jv_iadd (pc' := 543) (a := ((5 * q : Nat) : Int)) (b := 1) rfl rfl ?_
  refine jv_sload (pc' := 544) (e := (((5 * q : Nat) : Int) + 1)) (v := (iI a1)) rfl rfl hL (by omega) ((congrArg xs (show (((5 * q : Nat) : Int) + 1 : Int).toNat = 5 * q + 1 by omega)).trans ca1) ?_
  refine jv_call (pc' := 547) rfl (jc_rv (hREF L xs (d + 31) (j + e1) I1 M1 p1 (CM_c hM r1 m1))) (fun v2 g2 q2 => ?_)
  obtain ⟨⟨I2, M2, rfl, r2, m2, C2, h0, hv2⟩, hk⟩ := q2
  have R2 := CR_m R1 r2 m2
  obtain rfl := hk.1 rfl
  show jx L xs _ 0 547 _ [] _ _
  refine jv_aload_n (pc' := 548) (k := 2) (x := 103) rfl rfl rfl hf2 ?_
  refine jv_call (pc' := 551) rfl (ml_thrown (I := I2) (M := M2) (t := t) h0) (fun vq1 gq1 q1 => ?_)
  obtain ⟨rfl, rfl⟩ := q1
  show jx L xs _ 0 551 _ [.int (iI t)] _ _
  refine jv_iload (pc' := 553) (k := 5) (x := (iI t)) rfl rfl rfl ?_
  refine jv_ic_eq (t := 558) (pc' := 556) (a := t) (b := t) rfl rfl rfl (by omega) (fun hz_2 => ?_) (fun hz_2 => ?_)
  · skip
    refine jx_step (pc' := 1243) rfl ?_
    exact K _ _ _ _ _ _ hf0 hf1 hf2 hf3 hf4 (by omega) R2 C2 h61
  · skip
    exfalso; omega
set_option maxRecDepth 100000 in
set_option maxHeartbeats 4000000 in
theorem blk_decode (hL : L ≤ 2560) (hq : 5 * q + 5 ≤ L) (hf0 : f 0 = some (.ref jm_S)) (hf1 : f 1 = some (.ref 0)) (hf2 : f 2 = some (.ref 103)) (hf3 : f 3 = some (.ref 138)) (hf4 : f 4 = some (.int (iI ((5 * q : Nat) : Int)))) (hj : j ≤ q) (hR : CR I M p A) (hM : CM I M A) (h6 : A6 A) (K : ∀ (j' : Nat) (I' : Nat → Nat → Int32) (M' : Nat → Nat → Int64) (p' : Nat → Option Nat) (A' : AB) (f' : jm_F), f' 0 = some (.ref jm_S) → f' 1 = some (.ref 0) → f' 2 = some (.ref 103) → f' 3 = some (.ref 138) → f' 4 = some (.int (iI ((5 * q : Nat) : Int))) → j' ≤ q + 1 → CR I' M' p' A' → CM I' M' A' → A6 A' → jx L xs (d + 40) 0 1243 f' [] (jx_G j' I' M' p') Q) : jx L xs (d + 40) 0 561 f [] (jx_G j I M p) Q := by
  obtain ⟨a1, ha1, ca1⟩ := iI_of (xs (5 * q + 1))
  refine jv_aload_n (pc' := 562) (k := 1) (x := 0) rfl rfl rfl hf1 ?_
  refine jv_aload_n (pc' := 563) (k := 0) (x := jm_S) rfl rfl rfl hf0 ?_
  refine jv_iload (pc' := 565) (k := 4) (x := (iI ((5 * q : Nat) : Int))) rfl rfl hf4 ?_
  refine jv_iconst (pc' := 566) (n := 1) rfl rfl ?_
  refine jv_iadd (pc' := 567) (a := ((5 * q : Nat) : Int)) (b := 1) rfl rfl ?_
  refine jv_sload (pc' := 568) (e := (((5 * q : Nat) : Int) + 1)) (v := (iI a1)) rfl rfl hL (by omega) ((congrArg xs (show (((5 * q : Nat) : Int) + 1 : Int).toNat = 5 * q + 1 by omega)).trans ca1) ?_
  refine jv_aload_n (pc' := 569) (k := 3) (x := 138) rfl rfl rfl hf3 ?_
  refine jv_call (pc' := 572) rfl (hp_decode (d := d) (co_decode h6 ha1) hR h6) (fun v1 g1 q1 => ?_)
  obtain ⟨e1, I1, M1, p1, A1, t, rv, rfl, he1, r1, m1, rfl, ht, R1, h61, hREF, hRO⟩ := q1
  show jx L xs _ 0 572 _ [.int (iI t)] _ _
  refine jv_istore (pc' := 574) (k := 5) (x := (iI t)) rfl rfl rfl (Or.inr (congrArg jm_lng hf4)) ?_
  refine jv_aload_n (pc' := 575) (k := 2) (x := 103) rfl rfl rfl hf2 ?_
  refine jv_aload_n (pc' := 576) (k := 0) (x := jm_S) rfl rfl rfl hf0 ?_
  refine jv_iload (pc' := 578) (k := 4) (x := (iI ((5 * q : Nat) : Int))) rfl rfl hf4 ?_
  refine jv_iconst (pc' := 579) (n := 1) rfl rfl ?_
  refine jv_iadd (pc' := 580) (a := ((5 * q : Nat) : Int)) (b := 1) rfl rfl ?_
  refine jv_sload (pc' := 581) (e := (((5 * q : Nat) : Int) + 1)) (v := (iI a1)) rfl rfl hL (by omega) ((congrArg xs (show (((5 * q : Nat) : Int) + 1 : Int).toNat = 5 * q + 1 by omega)).trans ca1) ?_
  refine jv_call (pc' := 584) rfl (jc_rv (hREF L xs (d + 31) (j + e1) I1 M1 p1 (CM_c hM r1 m1))) (fun v2 g2 q2 => ?_)
  obtain ⟨⟨I2, M2, rfl, r2, m2, C2, h0, hv2⟩, hk⟩ := q2
  have R2 := CR_m R1 r2 m2
  obtain ⟨z0, rfl⟩ := hk.2.1 rfl
  obtain ⟨zr, hzr, rfl⟩ := iI_of z0
  show jx L xs _ 0 584 _ [.int (iI zr)] _ _
  refine jv_istore (pc' := 586) (k := 6) (x := (iI zr)) rfl rfl rfl (Or.inr rfl) ?_
  refine jv_aload_n (pc' := 587) (k := 2) (x := 103) rfl rfl rfl hf2 ?_
  refine jv_call (pc' := 590) rfl (ml_thrown (I := I2) (M := M2) (t := t) h0) (fun vq1 gq1 q1 => ?_)
  obtain ⟨rfl, rfl⟩ := q1
  show jx L xs _ 0 590 _ [.int (iI t)] _ _
  refine jv_iload (pc' := 592) (k := 5) (x := (iI t)) rfl rfl rfl ?_
  refine jv_ic_eq (t := 597) (pc' := 595) (a := t) (b := t) rfl rfl rfl (by omega) (fun hz_2 => ?_) (fun hz_2 => ?_)
  · skip
    refine jv_iload (pc' := 599) (k := 5) (x := (iI t)) rfl rfl rfl ?_
    refine jv_if_ne (t := 614) (pc' := 602) (a := t) rfl rfl rfl (by omega) (fun hz_3 => ?_) (fun hz_3 => ?_)
    · skip
      refine jx_step (pc' := 1243) rfl ?_
      exact K _ _ _ _ _ _ hf0 hf1 hf2 hf3 hf4 (by omega) R2 C2 h61
    · skip
      have ht0 : t = 0 := by omega
      obtain ⟨r, hr, hrv, h138⟩ := RO_1 (hRO ht0)
      have hzz : zr = r := RO_i hzr hr ((hv2 ht0).trans hrv)
      refine jv_aload_n (pc' := 603) (k := 3) (x := 138) rfl rfl rfl hf3 ?_
      refine jv_iconst (pc' := 604) (n := 0) rfl rfl ?_
      refine jv_laload (pc' := 605) (n := 1) (e := 0) (v := (lI r)) rfl rfl rfl rfl rfl (by omega) ((m2 138 0 (by unfold mV; omega)).trans h138) ?_
      refine jv_iload (pc' := 607) (k := 6) (x := (iI zr)) rfl rfl rfl ?_
      refine jv_i2l (pc' := 608) (a := zr) rfl rfl (by omega) ?_
      refine jv_lc_eq (t := 614) (pc' := 612) (a := r) (b := zr) rfl rfl rfl rfl rfl (by omega) (fun hz_4 => ?_) (fun hz_4 => ?_)
      · skip
        refine jx_step (pc' := 1243) rfl ?_
        exact K _ _ _ _ _ _ hf0 hf1 hf2 hf3 hf4 (by omega) R2 C2 h61
      · skip
        exfalso; omega
  · skip
    exfalso; omega
set_option maxRecDepth 100000 in
set_option maxHeartbeats 4000000 in
theorem blk_entry (hL : L ≤ 2560) (hq : 5 * q + 5 ≤ L) (hf0 : f 0 = some (.ref jm_S)) (hf1 : f 1 = some (.ref 0)) (hf2 : f 2 = some (.ref 103)) (hf3 : f 3 = some (.ref 138)) (hf4 : f 4 = some (.int (iI ((5 * q : Nat) : Int)))) (hj : j ≤ q) (hR : CR I M p A) (hM : CM I M A) (h6 : A6 A) (K : ∀ (j' : Nat) (I' : Nat → Nat → Int32) (M' : Nat → Nat → Int64) (p' : Nat → Option Nat) (A' : AB) (f' : jm_F), f' 0 = some (.ref jm_S) → f' 1 = some (.ref 0) → f' 2 = some (.ref 103) → f' 3 = some (.ref 138) → f' 4 = some (.int (iI ((5 * q : Nat) : Int))) → j' ≤ q + 1 → CR I' M' p' A' → CM I' M' A' → A6 A' → jx L xs (d + 40) 0 1243 f' [] (jx_G j' I' M' p') Q) : jx L xs (d + 40) 0 617 f [] (jx_G j I M p) Q := by
  obtain ⟨a1, ha1, ca1⟩ := iI_of (xs (5 * q + 1))
  obtain ⟨a2, ha2, ca2⟩ := iI_of (xs (5 * q + 2))
  obtain ⟨a3, ha3, ca3⟩ := iI_of (xs (5 * q + 3))
  refine jv_aload_n (pc' := 618) (k := 1) (x := 0) rfl rfl rfl hf1 ?_
  refine jv_aload_n (pc' := 619) (k := 0) (x := jm_S) rfl rfl rfl hf0 ?_
  refine jv_iload (pc' := 621) (k := 4) (x := (iI ((5 * q : Nat) : Int))) rfl rfl hf4 ?_
  refine jv_iconst (pc' := 622) (n := 1) rfl rfl ?_
  refine jv_iadd (pc' := 623) (a := ((5 * q : Nat) : Int)) (b := 1) rfl rfl ?_
  refine jv_sload (pc' := 624) (e := (((5 * q : Nat) : Int) + 1)) (v := (iI a1)) rfl rfl hL (by omega) ((congrArg xs (show (((5 * q : Nat) : Int) + 1 : Int).toNat = 5 * q + 1 by omega)).trans ca1) ?_
  refine jv_aload_n (pc' := 625) (k := 0) (x := jm_S) rfl rfl rfl hf0 ?_
  refine jv_iload (pc' := 627) (k := 4) (x := (iI ((5 * q : Nat) : Int))) rfl rfl hf4 ?_
  refine jv_iconst (pc' := 628) (n := 2) rfl rfl ?_
  refine jv_iadd (pc' := 629) (a := ((5 * q : Nat) : Int)) (b := 2) rfl rfl ?_
  refine jv_sload (pc' := 630) (e := (((5 * q : Nat) : Int) + 2)) (v := (iI a2)) rfl rfl hL (by omega) ((congrArg xs (show (((5 * q : Nat) : Int) + 2 : Int).toNat = 5 * q + 2 by omega)).trans ca2) ?_
  refine jv_aload_n (pc' := 631) (k := 0) (x := jm_S) rfl rfl rfl hf0 ?_
  refine jv_iload (pc' := 633) (k := 4) (x := (iI ((5 * q : Nat) : Int))) rfl rfl hf4 ?_
  refine jv_iconst (pc' := 634) (n := 3) rfl rfl ?_
  refine jv_iadd (pc' := 635) (a := ((5 * q : Nat) : Int)) (b := 3) rfl rfl ?_
  refine jv_sload (pc' := 636) (e := (((5 * q : Nat) : Int) + 3)) (v := (iI a3)) rfl rfl hL (by omega) ((congrArg xs (show (((5 * q : Nat) : Int) + 3 : Int).toNat = 5 * q + 3 by omega)).trans ca3) ?_
  refine jv_aload_n (pc' := 637) (k := 3) (x := 138) rfl rfl rfl hf3 ?_
  refine jv_call (pc' := 640) rfl (hp_entry (d := d) (co_entry h6 ha1 ha2 ha3) hR h6) (fun v1 g1 q1 => ?_)
  obtain ⟨e1, I1, M1, p1, A1, t, rv, rfl, he1, r1, m1, rfl, ht, R1, h61, hREF, hRO⟩ := q1
  show jx L xs _ 0 640 _ [.int (iI t)] _ _
  refine jv_istore (pc' := 642) (k := 5) (x := (iI t)) rfl rfl rfl (Or.inr (congrArg jm_lng hf4)) ?_
  refine jv_aload_n (pc' := 643) (k := 2) (x := 103) rfl rfl rfl hf2 ?_
  refine jv_aload_n (pc' := 644) (k := 0) (x := jm_S) rfl rfl rfl hf0 ?_
  refine jv_iload (pc' := 646) (k := 4) (x := (iI ((5 * q : Nat) : Int))) rfl rfl hf4 ?_
  refine jv_iconst (pc' := 647) (n := 1) rfl rfl ?_
  refine jv_iadd (pc' := 648) (a := ((5 * q : Nat) : Int)) (b := 1) rfl rfl ?_
  refine jv_sload (pc' := 649) (e := (((5 * q : Nat) : Int) + 1)) (v := (iI a1)) rfl rfl hL (by omega) ((congrArg xs (show (((5 * q : Nat) : Int) + 1 : Int).toNat = 5 * q + 1 by omega)).trans ca1) ?_
  refine jv_aload_n (pc' := 650) (k := 0) (x := jm_S) rfl rfl rfl hf0 ?_
  refine jv_iload (pc' := 652) (k := 4) (x := (iI ((5 * q : Nat) : Int))) rfl rfl hf4 ?_
  refine jv_iconst (pc' := 653) (n := 2) rfl rfl ?_
  refine jv_iadd (pc' := 654) (a := ((5 * q : Nat) : Int)) (b := 2) rfl rfl ?_
  refine jv_sload (pc' := 655) (e := (((5 * q : Nat) : Int) + 2)) (v := (iI a2)) rfl rfl hL (by omega) ((congrArg xs (show (((5 * q : Nat) : Int) + 2 : Int).toNat = 5 * q + 2 by omega)).trans ca2) ?_
  refine jv_aload_n (pc' := 656) (k := 0) (x := jm_S) rfl rfl rfl hf0 ?_
  refine jv_iload (pc' := 658) (k := 4) (x := (iI ((5 * q : Nat) : Int))) rfl rfl hf4 ?_
  refine jv_iconst (pc' := 659) (n := 3) rfl rfl ?_
  refine jv_iadd (pc' := 660) (a := ((5 * q : Nat) : Int)) (b := 3) rfl rfl ?_
  refine jv_sload (pc' := 661) (e := (((5 * q : Nat) : Int) + 3)) (v := (iI a3)) rfl rfl hL (by omega) ((congrArg xs (show (((5 * q : Nat) : Int) + 3 : Int).toNat = 5 * q + 3 by omega)).trans ca3) ?_
  refine jv_call (pc' := 664) rfl (jc_rv (hREF L xs (d + 31) (j + e1) I1 M1 p1 (CM_c hM r1 m1))) (fun v2 g2 q2 => ?_)
  obtain ⟨⟨I2, M2, rfl, r2, m2, C2, h0, hv2⟩, hk⟩ := q2
  have R2 := CR_m R1 r2 m2
  obtain ⟨z0, rfl⟩ := hk.2.1 rfl
  obtain ⟨zr, hzr, rfl⟩ := iI_of z0
  show jx L xs _ 0 664 _ [.int (iI zr)] _ _
  refine jv_istore (pc' := 666) (k := 6) (x := (iI zr)) rfl rfl rfl (Or.inr rfl) ?_
  refine jv_aload_n (pc' := 667) (k := 2) (x := 103) rfl rfl rfl hf2 ?_
  refine jv_call (pc' := 670) rfl (ml_thrown (I := I2) (M := M2) (t := t) h0) (fun vq1 gq1 q1 => ?_)
  obtain ⟨rfl, rfl⟩ := q1
  show jx L xs _ 0 670 _ [.int (iI t)] _ _
  refine jv_iload (pc' := 672) (k := 5) (x := (iI t)) rfl rfl rfl ?_
  refine jv_ic_eq (t := 677) (pc' := 675) (a := t) (b := t) rfl rfl rfl (by omega) (fun hz_2 => ?_) (fun hz_2 => ?_)
  · skip
    refine jv_iload (pc' := 679) (k := 5) (x := (iI t)) rfl rfl rfl ?_
    refine jv_if_ne (t := 694) (pc' := 682) (a := t) rfl rfl rfl (by omega) (fun hz_3 => ?_) (fun hz_3 => ?_)
    · skip
      refine jx_step (pc' := 1243) rfl ?_
      exact K _ _ _ _ _ _ hf0 hf1 hf2 hf3 hf4 (by omega) R2 C2 h61
    · skip
      have ht0 : t = 0 := by omega
      obtain ⟨r, hr, hrv, h138⟩ := RO_1 (hRO ht0)
      have hzz : zr = r := RO_i hzr hr ((hv2 ht0).trans hrv)
      refine jv_aload_n (pc' := 683) (k := 3) (x := 138) rfl rfl rfl hf3 ?_
      refine jv_iconst (pc' := 684) (n := 0) rfl rfl ?_
      refine jv_laload (pc' := 685) (n := 1) (e := 0) (v := (lI r)) rfl rfl rfl rfl rfl (by omega) ((m2 138 0 (by unfold mV; omega)).trans h138) ?_
      refine jv_iload (pc' := 687) (k := 6) (x := (iI zr)) rfl rfl rfl ?_
      refine jv_i2l (pc' := 688) (a := zr) rfl rfl (by omega) ?_
      refine jv_lc_eq (t := 694) (pc' := 692) (a := r) (b := zr) rfl rfl rfl rfl rfl (by omega) (fun hz_4 => ?_) (fun hz_4 => ?_)
      · skip
        refine jx_step (pc' := 1243) rfl ?_
        exact K _ _ _ _ _ _ hf0 hf1 hf2 hf3 hf4 (by omega) R2 C2 h61
      · skip
        exfalso; omega
  · skip
    exfalso; omega
set_option maxRecDepth 100000 in
set_option maxHeartbeats 4000000 in
theorem blk_value (hL : L ≤ 2560) (hq : 5 * q + 5 ≤ L) (hf0 : f 0 = some (.ref jm_S)) (hf1 : f 1 = some (.ref 0)) (hf2 : f 2 = some (.ref 103)) (hf3 : f 3 = some (.ref 138)) (hf4 : f 4 = some (.int (iI ((5 * q : Nat) : Int)))) (hj : j ≤ q) (hR : CR I M p A) (hM : CM I M A) (h6 : A6 A) (K : ∀ (j' : Nat) (I' : Nat → Nat → Int32) (M' : Nat → Nat → Int64) (p' : Nat → Option Nat) (A' : AB) (f' : jm_F), f' 0 = some (.ref jm_S) → f' 1 = some (.ref 0) → f' 2 = some (.ref 103) → f' 3 = some (.ref 138) → f' 4 = some (.int (iI ((5 * q : Nat) : Int))) → j' ≤ q + 1 → CR I' M' p' A' → CM I' M' A' → A6 A' → jx L xs (d + 40) 0 1243 f' [] (jx_G j' I' M' p') Q) : jx L xs (d + 40) 0 697 f [] (jx_G j I M p) Q := by
  obtain ⟨a1, ha1, ca1⟩ := iI_of (xs (5 * q + 1))
  obtain ⟨a2, ha2, ca2⟩ := iI_of (xs (5 * q + 2))
  refine jv_aload_n (pc' := 698) (k := 1) (x := 0) rfl rfl rfl hf1 ?_
  refine jv_aload_n (pc' := 699) (k := 0) (x := jm_S) rfl rfl rfl hf0 ?_
  refine jv_iload (pc' := 701) (k := 4) (x := (iI ((5 * q : Nat) : Int))) rfl rfl hf4 ?_
  refine jv_iconst (pc' := 702) (n := 1) rfl rfl ?_
  refine jv_iadd (pc' := 703) (a := ((5 * q : Nat) : Int)) (b := 1) rfl rfl ?_
  refine jv_sload (pc' := 704) (e := (((5 * q : Nat) : Int) + 1)) (v := (iI a1)) rfl rfl hL (by omega) ((congrArg xs (show (((5 * q : Nat) : Int) + 1 : Int).toNat = 5 * q + 1 by omega)).trans ca1) ?_
  refine jv_aload_n (pc' := 705) (k := 0) (x := jm_S) rfl rfl rfl hf0 ?_
  refine jv_iload (pc' := 707) (k := 4) (x := (iI ((5 * q : Nat) : Int))) rfl rfl hf4 ?_
  refine jv_iconst (pc' := 708) (n := 2) rfl rfl ?_
  refine jv_iadd (pc' := 709) (a := ((5 * q : Nat) : Int)) (b := 2) rfl rfl ?_
  refine jv_sload (pc' := 710) (e := (((5 * q : Nat) : Int) + 2)) (v := (iI a2)) rfl rfl hL (by omega) ((congrArg xs (show (((5 * q : Nat) : Int) + 2 : Int).toNat = 5 * q + 2 by omega)).trans ca2) ?_
  refine jv_aload_n (pc' := 711) (k := 3) (x := 138) rfl rfl rfl hf3 ?_
  refine jv_call (pc' := 714) rfl (hp_value (d := d) (co_value h6 ha1 ha2) hR h6) (fun v1 g1 q1 => ?_)
  obtain ⟨e1, I1, M1, p1, A1, t, rv, rfl, he1, r1, m1, rfl, ht, R1, h61, hREF, hRO⟩ := q1
  show jx L xs _ 0 714 _ [.int (iI t)] _ _
  refine jv_istore (pc' := 716) (k := 5) (x := (iI t)) rfl rfl rfl (Or.inr (congrArg jm_lng hf4)) ?_
  refine jv_aload_n (pc' := 717) (k := 2) (x := 103) rfl rfl rfl hf2 ?_
  refine jv_aload_n (pc' := 718) (k := 0) (x := jm_S) rfl rfl rfl hf0 ?_
  refine jv_iload (pc' := 720) (k := 4) (x := (iI ((5 * q : Nat) : Int))) rfl rfl hf4 ?_
  refine jv_iconst (pc' := 721) (n := 1) rfl rfl ?_
  refine jv_iadd (pc' := 722) (a := ((5 * q : Nat) : Int)) (b := 1) rfl rfl ?_
  refine jv_sload (pc' := 723) (e := (((5 * q : Nat) : Int) + 1)) (v := (iI a1)) rfl rfl hL (by omega) ((congrArg xs (show (((5 * q : Nat) : Int) + 1 : Int).toNat = 5 * q + 1 by omega)).trans ca1) ?_
  refine jv_aload_n (pc' := 724) (k := 0) (x := jm_S) rfl rfl rfl hf0 ?_
  refine jv_iload (pc' := 726) (k := 4) (x := (iI ((5 * q : Nat) : Int))) rfl rfl hf4 ?_
  refine jv_iconst (pc' := 727) (n := 2) rfl rfl ?_
  refine jv_iadd (pc' := 728) (a := ((5 * q : Nat) : Int)) (b := 2) rfl rfl ?_
  refine jv_sload (pc' := 729) (e := (((5 * q : Nat) : Int) + 2)) (v := (iI a2)) rfl rfl hL (by omega) ((congrArg xs (show (((5 * q : Nat) : Int) + 2 : Int).toNat = 5 * q + 2 by omega)).trans ca2) ?_
  refine jv_call (pc' := 732) rfl (jc_rv (hREF L xs (d + 31) (j + e1) I1 M1 p1 (CM_c hM r1 m1))) (fun v2 g2 q2 => ?_)
  obtain ⟨⟨I2, M2, rfl, r2, m2, C2, h0, hv2⟩, hk⟩ := q2
  have R2 := CR_m R1 r2 m2
  obtain ⟨z0, rfl⟩ := hk.2.2 rfl
  obtain ⟨zr, hzr, rfl⟩ := lI_of z0
  show jx L xs _ 0 732 _ [.long (lI zr)] _ _
  refine jv_lstore (pc' := 734) (k := 6) (x := (lI zr)) rfl rfl rfl (Or.inr rfl) ?_
  refine jv_aload_n (pc' := 735) (k := 2) (x := 103) rfl rfl rfl hf2 ?_
  refine jv_call (pc' := 738) rfl (ml_thrown (I := I2) (M := M2) (t := t) h0) (fun vq1 gq1 q1 => ?_)
  obtain ⟨rfl, rfl⟩ := q1
  show jx L xs _ 0 738 _ [.int (iI t)] _ _
  refine jv_iload (pc' := 740) (k := 5) (x := (iI t)) rfl rfl rfl ?_
  refine jv_ic_eq (t := 745) (pc' := 743) (a := t) (b := t) rfl rfl rfl (by omega) (fun hz_2 => ?_) (fun hz_2 => ?_)
  · skip
    refine jv_iload (pc' := 747) (k := 5) (x := (iI t)) rfl rfl rfl ?_
    refine jv_if_ne (t := 761) (pc' := 750) (a := t) rfl rfl rfl (by omega) (fun hz_3 => ?_) (fun hz_3 => ?_)
    · skip
      refine jx_step (pc' := 1243) rfl ?_
      exact K _ _ _ _ _ _ hf0 hf1 hf2 hf3 hf4 (by omega) R2 C2 h61
    · skip
      have ht0 : t = 0 := by omega
      obtain ⟨r, hr, hrv, h138⟩ := RO_3 (hRO ht0)
      have hzz : zr = r := RO_l hzr hr ((hv2 ht0).trans hrv)
      refine jv_aload_n (pc' := 751) (k := 3) (x := 138) rfl rfl rfl hf3 ?_
      refine jv_iconst (pc' := 752) (n := 0) rfl rfl ?_
      refine jv_laload (pc' := 753) (n := 1) (e := 0) (v := (lI r)) rfl rfl rfl rfl rfl (by omega) ((m2 138 0 (by unfold mV; omega)).trans h138) ?_
      refine jv_lload (pc' := 755) (k := 6) (x := (lI zr)) rfl rfl rfl ?_
      refine jv_lc_eq (t := 761) (pc' := 759) (a := r) (b := zr) rfl rfl rfl rfl rfl (by omega) (fun hz_4 => ?_) (fun hz_4 => ?_)
      · skip
        refine jx_step (pc' := 1243) rfl ?_
        exact K _ _ _ _ _ _ hf0 hf1 hf2 hf3 hf4 (by omega) R2 C2 h61
      · skip
        exfalso; omega
  · skip
    exfalso; omega
set_option maxRecDepth 100000 in
set_option maxHeartbeats 4000000 in
theorem blk_filter (hL : L ≤ 2560) (hq : 5 * q + 5 ≤ L) (hf0 : f 0 = some (.ref jm_S)) (hf1 : f 1 = some (.ref 0)) (hf2 : f 2 = some (.ref 103)) (hf3 : f 3 = some (.ref 138)) (hf4 : f 4 = some (.int (iI ((5 * q : Nat) : Int)))) (hj : j ≤ q) (hR : CR I M p A) (hM : CM I M A) (h6 : A6 A) (K : ∀ (j' : Nat) (I' : Nat → Nat → Int32) (M' : Nat → Nat → Int64) (p' : Nat → Option Nat) (A' : AB) (f' : jm_F), f' 0 = some (.ref jm_S) → f' 1 = some (.ref 0) → f' 2 = some (.ref 103) → f' 3 = some (.ref 138) → f' 4 = some (.int (iI ((5 * q : Nat) : Int))) → j' ≤ q + 1 → CR I' M' p' A' → CM I' M' A' → A6 A' → jx L xs (d + 40) 0 1243 f' [] (jx_G j' I' M' p') Q) : jx L xs (d + 40) 0 764 f [] (jx_G j I M p) Q := by
  obtain ⟨a1, ha1, ca1⟩ := iI_of (xs (5 * q + 1))
  refine jv_aload_n (pc' := 765) (k := 1) (x := 0) rfl rfl rfl hf1 ?_
  refine jv_aload_n (pc' := 766) (k := 0) (x := jm_S) rfl rfl rfl hf0 ?_
  refine jv_iload (pc' := 768) (k := 4) (x := (iI ((5 * q : Nat) : Int))) rfl rfl hf4 ?_
  refine jv_iconst (pc' := 769) (n := 1) rfl rfl ?_
  refine jv_iadd (pc' := 770) (a := ((5 * q : Nat) : Int)) (b := 1) rfl rfl ?_
  refine jv_sload (pc' := 771) (e := (((5 * q : Nat) : Int) + 1)) (v := (iI a1)) rfl rfl hL (by omega) ((congrArg xs (show (((5 * q : Nat) : Int) + 1 : Int).toNat = 5 * q + 1 by omega)).trans ca1) ?_
  refine jv_aload_n (pc' := 772) (k := 3) (x := 138) rfl rfl rfl hf3 ?_
  refine jv_call (pc' := 775) rfl (hp_filter (d := d) (co_filter h6 ha1) hR h6) (fun v1 g1 q1 => ?_)
  obtain ⟨e1, I1, M1, p1, A1, t, rv, rfl, he1, r1, m1, rfl, ht, R1, h61, hREF, hRO⟩ := q1
  show jx L xs _ 0 775 _ [.int (iI t)] _ _
  refine jv_istore (pc' := 777) (k := 5) (x := (iI t)) rfl rfl rfl (Or.inr (congrArg jm_lng hf4)) ?_
  refine jv_aload_n (pc' := 778) (k := 2) (x := 103) rfl rfl rfl hf2 ?_
  refine jv_aload_n (pc' := 779) (k := 0) (x := jm_S) rfl rfl rfl hf0 ?_
  refine jv_iload (pc' := 781) (k := 4) (x := (iI ((5 * q : Nat) : Int))) rfl rfl hf4 ?_
  refine jv_iconst (pc' := 782) (n := 1) rfl rfl ?_
  refine jv_iadd (pc' := 783) (a := ((5 * q : Nat) : Int)) (b := 1) rfl rfl ?_
  refine jv_sload (pc' := 784) (e := (((5 * q : Nat) : Int) + 1)) (v := (iI a1)) rfl rfl hL (by omega) ((congrArg xs (show (((5 * q : Nat) : Int) + 1 : Int).toNat = 5 * q + 1 by omega)).trans ca1) ?_
  refine jv_call (pc' := 787) rfl (jc_rv (hREF L xs (d + 31) (j + e1) I1 M1 p1 (CM_c hM r1 m1))) (fun v2 g2 q2 => ?_)
  obtain ⟨⟨I2, M2, rfl, r2, m2, C2, h0, hv2⟩, hk⟩ := q2
  have R2 := CR_m R1 r2 m2
  obtain ⟨z0, rfl⟩ := hk.2.1 rfl
  obtain ⟨zr, hzr, rfl⟩ := iI_of z0
  show jx L xs _ 0 787 _ [.int (iI zr)] _ _
  refine jv_istore (pc' := 789) (k := 6) (x := (iI zr)) rfl rfl rfl (Or.inr rfl) ?_
  refine jv_aload_n (pc' := 790) (k := 2) (x := 103) rfl rfl rfl hf2 ?_
  refine jv_call (pc' := 793) rfl (ml_thrown (I := I2) (M := M2) (t := t) h0) (fun vq1 gq1 q1 => ?_)
  obtain ⟨rfl, rfl⟩ := q1
  show jx L xs _ 0 793 _ [.int (iI t)] _ _
  refine jv_iload (pc' := 795) (k := 5) (x := (iI t)) rfl rfl rfl ?_
  refine jv_ic_eq (t := 800) (pc' := 798) (a := t) (b := t) rfl rfl rfl (by omega) (fun hz_2 => ?_) (fun hz_2 => ?_)
  · skip
    refine jv_iload (pc' := 802) (k := 5) (x := (iI t)) rfl rfl rfl ?_
    refine jv_if_ne (t := 817) (pc' := 805) (a := t) rfl rfl rfl (by omega) (fun hz_3 => ?_) (fun hz_3 => ?_)
    · skip
      refine jx_step (pc' := 1243) rfl ?_
      exact K _ _ _ _ _ _ hf0 hf1 hf2 hf3 hf4 (by omega) R2 C2 h61
    · skip
      have ht0 : t = 0 := by omega
      obtain ⟨r, hr, hrv, h138⟩ := RO_1 (hRO ht0)
      have hzz : zr = r := RO_i hzr hr ((hv2 ht0).trans hrv)
      refine jv_aload_n (pc' := 806) (k := 3) (x := 138) rfl rfl rfl hf3 ?_
      refine jv_iconst (pc' := 807) (n := 0) rfl rfl ?_
      refine jv_laload (pc' := 808) (n := 1) (e := 0) (v := (lI r)) rfl rfl rfl rfl rfl (by omega) ((m2 138 0 (by unfold mV; omega)).trans h138) ?_
      refine jv_iload (pc' := 810) (k := 6) (x := (iI zr)) rfl rfl rfl ?_
      refine jv_i2l (pc' := 811) (a := zr) rfl rfl (by omega) ?_
      refine jv_lc_eq (t := 817) (pc' := 815) (a := r) (b := zr) rfl rfl rfl rfl rfl (by omega) (fun hz_4 => ?_) (fun hz_4 => ?_)
      · skip
        refine jx_step (pc' := 1243) rfl ?_
        exact K _ _ _ _ _ _ hf0 hf1 hf2 hf3 hf4 (by omega) R2 C2 h61
      · skip
        exfalso; omega
  · skip
    exfalso; omega
set_option maxRecDepth 100000 in
set_option maxHeartbeats 4000000 in
theorem blk_next (hL : L ≤ 2560) (hq : 5 * q + 5 ≤ L) (hf0 : f 0 = some (.ref jm_S)) (hf1 : f 1 = some (.ref 0)) (hf2 : f 2 = some (.ref 103)) (hf3 : f 3 = some (.ref 138)) (hf4 : f 4 = some (.int (iI ((5 * q : Nat) : Int)))) (hj : j ≤ q) (hR : CR I M p A) (hM : CM I M A) (h6 : A6 A) (K : ∀ (j' : Nat) (I' : Nat → Nat → Int32) (M' : Nat → Nat → Int64) (p' : Nat → Option Nat) (A' : AB) (f' : jm_F), f' 0 = some (.ref jm_S) → f' 1 = some (.ref 0) → f' 2 = some (.ref 103) → f' 3 = some (.ref 138) → f' 4 = some (.int (iI ((5 * q : Nat) : Int))) → j' ≤ q + 1 → CR I' M' p' A' → CM I' M' A' → A6 A' → jx L xs (d + 40) 0 1243 f' [] (jx_G j' I' M' p') Q) : jx L xs (d + 40) 0 820 f [] (jx_G j I M p) Q := by
  obtain ⟨a1, ha1, ca1⟩ := iI_of (xs (5 * q + 1))
  obtain ⟨a2, ha2, ca2⟩ := iI_of (xs (5 * q + 2))
  refine jv_aload_n (pc' := 821) (k := 1) (x := 0) rfl rfl rfl hf1 ?_
  refine jv_aload_n (pc' := 822) (k := 0) (x := jm_S) rfl rfl rfl hf0 ?_
  refine jv_iload (pc' := 824) (k := 4) (x := (iI ((5 * q : Nat) : Int))) rfl rfl hf4 ?_
  refine jv_iconst (pc' := 825) (n := 1) rfl rfl ?_
  refine jv_iadd (pc' := 826) (a := ((5 * q : Nat) : Int)) (b := 1) rfl rfl ?_
  refine jv_sload (pc' := 827) (e := (((5 * q : Nat) : Int) + 1)) (v := (iI a1)) rfl rfl hL (by omega) ((congrArg xs (show (((5 * q : Nat) : Int) + 1 : Int).toNat = 5 * q + 1 by omega)).trans ca1) ?_
  refine jv_aload_n (pc' := 828) (k := 0) (x := jm_S) rfl rfl rfl hf0 ?_
  refine jv_iload (pc' := 830) (k := 4) (x := (iI ((5 * q : Nat) : Int))) rfl rfl hf4 ?_
  refine jv_iconst (pc' := 831) (n := 2) rfl rfl ?_
  refine jv_iadd (pc' := 832) (a := ((5 * q : Nat) : Int)) (b := 2) rfl rfl ?_
  refine jv_sload (pc' := 833) (e := (((5 * q : Nat) : Int) + 2)) (v := (iI a2)) rfl rfl hL (by omega) ((congrArg xs (show (((5 * q : Nat) : Int) + 2 : Int).toNat = 5 * q + 2 by omega)).trans ca2) ?_
  refine jv_aload_n (pc' := 834) (k := 3) (x := 138) rfl rfl rfl hf3 ?_
  refine jv_call (pc' := 837) rfl (hp_next (d := d) (co_next h6 ha1 ha2) hR h6) (fun v1 g1 q1 => ?_)
  obtain ⟨e1, I1, M1, p1, A1, t, rv, rfl, he1, r1, m1, rfl, ht, R1, h61, hREF, hRO⟩ := q1
  show jx L xs _ 0 837 _ [.int (iI t)] _ _
  refine jv_istore (pc' := 839) (k := 5) (x := (iI t)) rfl rfl rfl (Or.inr (congrArg jm_lng hf4)) ?_
  refine jv_aload_n (pc' := 840) (k := 2) (x := 103) rfl rfl rfl hf2 ?_
  refine jv_aload_n (pc' := 841) (k := 0) (x := jm_S) rfl rfl rfl hf0 ?_
  refine jv_iload (pc' := 843) (k := 4) (x := (iI ((5 * q : Nat) : Int))) rfl rfl hf4 ?_
  refine jv_iconst (pc' := 844) (n := 1) rfl rfl ?_
  refine jv_iadd (pc' := 845) (a := ((5 * q : Nat) : Int)) (b := 1) rfl rfl ?_
  refine jv_sload (pc' := 846) (e := (((5 * q : Nat) : Int) + 1)) (v := (iI a1)) rfl rfl hL (by omega) ((congrArg xs (show (((5 * q : Nat) : Int) + 1 : Int).toNat = 5 * q + 1 by omega)).trans ca1) ?_
  refine jv_aload_n (pc' := 847) (k := 0) (x := jm_S) rfl rfl rfl hf0 ?_
  refine jv_iload (pc' := 849) (k := 4) (x := (iI ((5 * q : Nat) : Int))) rfl rfl hf4 ?_
  refine jv_iconst (pc' := 850) (n := 2) rfl rfl ?_
  refine jv_iadd (pc' := 851) (a := ((5 * q : Nat) : Int)) (b := 2) rfl rfl ?_
  refine jv_sload (pc' := 852) (e := (((5 * q : Nat) : Int) + 2)) (v := (iI a2)) rfl rfl hL (by omega) ((congrArg xs (show (((5 * q : Nat) : Int) + 2 : Int).toNat = 5 * q + 2 by omega)).trans ca2) ?_
  refine jv_call (pc' := 855) rfl (jc_rv (hREF L xs (d + 31) (j + e1) I1 M1 p1 (CM_c hM r1 m1))) (fun v2 g2 q2 => ?_)
  obtain ⟨⟨I2, M2, rfl, r2, m2, C2, h0, hv2⟩, hk⟩ := q2
  have R2 := CR_m R1 r2 m2
  obtain ⟨z0, rfl⟩ := hk.2.1 rfl
  obtain ⟨zr, hzr, rfl⟩ := iI_of z0
  show jx L xs _ 0 855 _ [.int (iI zr)] _ _
  refine jv_istore (pc' := 857) (k := 6) (x := (iI zr)) rfl rfl rfl (Or.inr rfl) ?_
  refine jv_aload_n (pc' := 858) (k := 2) (x := 103) rfl rfl rfl hf2 ?_
  refine jv_call (pc' := 861) rfl (ml_thrown (I := I2) (M := M2) (t := t) h0) (fun vq1 gq1 q1 => ?_)
  obtain ⟨rfl, rfl⟩ := q1
  show jx L xs _ 0 861 _ [.int (iI t)] _ _
  refine jv_iload (pc' := 863) (k := 5) (x := (iI t)) rfl rfl rfl ?_
  refine jv_ic_eq (t := 868) (pc' := 866) (a := t) (b := t) rfl rfl rfl (by omega) (fun hz_2 => ?_) (fun hz_2 => ?_)
  · skip
    refine jv_iload (pc' := 870) (k := 5) (x := (iI t)) rfl rfl rfl ?_
    refine jv_if_ne (t := 885) (pc' := 873) (a := t) rfl rfl rfl (by omega) (fun hz_3 => ?_) (fun hz_3 => ?_)
    · skip
      refine jx_step (pc' := 1243) rfl ?_
      exact K _ _ _ _ _ _ hf0 hf1 hf2 hf3 hf4 (by omega) R2 C2 h61
    · skip
      have ht0 : t = 0 := by omega
      obtain ⟨r, hr, hrv, h138⟩ := RO_1 (hRO ht0)
      have hzz : zr = r := RO_i hzr hr ((hv2 ht0).trans hrv)
      refine jv_aload_n (pc' := 874) (k := 3) (x := 138) rfl rfl rfl hf3 ?_
      refine jv_iconst (pc' := 875) (n := 0) rfl rfl ?_
      refine jv_laload (pc' := 876) (n := 1) (e := 0) (v := (lI r)) rfl rfl rfl rfl rfl (by omega) ((m2 138 0 (by unfold mV; omega)).trans h138) ?_
      refine jv_iload (pc' := 878) (k := 6) (x := (iI zr)) rfl rfl rfl ?_
      refine jv_i2l (pc' := 879) (a := zr) rfl rfl (by omega) ?_
      refine jv_lc_eq (t := 885) (pc' := 883) (a := r) (b := zr) rfl rfl rfl rfl rfl (by omega) (fun hz_4 => ?_) (fun hz_4 => ?_)
      · skip
        refine jx_step (pc' := 1243) rfl ?_
        exact K _ _ _ _ _ _ hf0 hf1 hf2 hf3 hf4 (by omega) R2 C2 h61
      · skip
        exfalso; omega
  · skip
    exfalso; omega
set_option maxRecDepth 100000 in
set_option maxHeartbeats 4000000 in
theorem blk_total (hL : L ≤ 2560) (hq : 5 * q + 5 ≤ L) (hf0 : f 0 = some (.ref jm_S)) (hf1 : f 1 = some (.ref 0)) (hf2 : f 2 = some (.ref 103)) (hf3 : f 3 = some (.ref 138)) (hf4 : f 4 = some (.int (iI ((5 * q : Nat) : Int)))) (hj : j ≤ q) (hR : CR I M p A) (hM : CM I M A) (h6 : A6 A) (K : ∀ (j' : Nat) (I' : Nat → Nat → Int32) (M' : Nat → Nat → Int64) (p' : Nat → Option Nat) (A' : AB) (f' : jm_F), f' 0 = some (.ref jm_S) → f' 1 = some (.ref 0) → f' 2 = some (.ref 103) → f' 3 = some (.ref 138) → f' 4 = some (.int (iI ((5 * q : Nat) : Int))) → j' ≤ q + 1 → CR I' M' p' A' → CM I' M' A' → A6 A' → jx L xs (d + 40) 0 1243 f' [] (jx_G j' I' M' p') Q) : jx L xs (d + 40) 0 888 f [] (jx_G j I M p) Q := by
  obtain ⟨a1, ha1, ca1⟩ := iI_of (xs (5 * q + 1))
  obtain ⟨a2, ha2, ca2⟩ := iI_of (xs (5 * q + 2))
  obtain ⟨a3, ha3, ca3⟩ := iI_of (xs (5 * q + 3))
  obtain ⟨a4, ha4, ca4⟩ := iI_of (xs (5 * q + 4))
  refine jv_aload_n (pc' := 889) (k := 1) (x := 0) rfl rfl rfl hf1 ?_
  refine jv_aload_n (pc' := 890) (k := 0) (x := jm_S) rfl rfl rfl hf0 ?_
  refine jv_iload (pc' := 892) (k := 4) (x := (iI ((5 * q : Nat) : Int))) rfl rfl hf4 ?_
  refine jv_iconst (pc' := 893) (n := 1) rfl rfl ?_
  refine jv_iadd (pc' := 894) (a := ((5 * q : Nat) : Int)) (b := 1) rfl rfl ?_
  refine jv_sload (pc' := 895) (e := (((5 * q : Nat) : Int) + 1)) (v := (iI a1)) rfl rfl hL (by omega) ((congrArg xs (show (((5 * q : Nat) : Int) + 1 : Int).toNat = 5 * q + 1 by omega)).trans ca1) ?_
  refine jv_aload_n (pc' := 896) (k := 0) (x := jm_S) rfl rfl rfl hf0 ?_
  refine jv_iload (pc' := 898) (k := 4) (x := (iI ((5 * q : Nat) : Int))) rfl rfl hf4 ?_
  refine jv_iconst (pc' := 899) (n := 2) rfl rfl ?_
  refine jv_iadd (pc' := 900) (a := ((5 * q : Nat) : Int)) (b := 2) rfl rfl ?_
  refine jv_sload (pc' := 901) (e := (((5 * q : Nat) : Int) + 2)) (v := (iI a2)) rfl rfl hL (by omega) ((congrArg xs (show (((5 * q : Nat) : Int) + 2 : Int).toNat = 5 * q + 2 by omega)).trans ca2) ?_
  refine jv_aload_n (pc' := 902) (k := 0) (x := jm_S) rfl rfl rfl hf0 ?_
  refine jv_iload (pc' := 904) (k := 4) (x := (iI ((5 * q : Nat) : Int))) rfl rfl hf4 ?_
  refine jv_iconst (pc' := 905) (n := 3) rfl rfl ?_
  refine jv_iadd (pc' := 906) (a := ((5 * q : Nat) : Int)) (b := 3) rfl rfl ?_
  refine jv_sload (pc' := 907) (e := (((5 * q : Nat) : Int) + 3)) (v := (iI a3)) rfl rfl hL (by omega) ((congrArg xs (show (((5 * q : Nat) : Int) + 3 : Int).toNat = 5 * q + 3 by omega)).trans ca3) ?_
  refine jv_aload_n (pc' := 908) (k := 0) (x := jm_S) rfl rfl rfl hf0 ?_
  refine jv_iload (pc' := 910) (k := 4) (x := (iI ((5 * q : Nat) : Int))) rfl rfl hf4 ?_
  refine jv_iconst (pc' := 911) (n := 4) rfl rfl ?_
  refine jv_iadd (pc' := 912) (a := ((5 * q : Nat) : Int)) (b := 4) rfl rfl ?_
  refine jv_sload (pc' := 913) (e := (((5 * q : Nat) : Int) + 4)) (v := (iI a4)) rfl rfl hL (by omega) ((congrArg xs (show (((5 * q : Nat) : Int) + 4 : Int).toNat = 5 * q + 4 by omega)).trans ca4) ?_
  refine jv_aload_n (pc' := 914) (k := 3) (x := 138) rfl rfl rfl hf3 ?_
  refine jv_call (pc' := 917) rfl (hp_total (d := d) (co_total h6 ha1 ha2 ha3 ha4) hR h6) (fun v1 g1 q1 => ?_)
  obtain ⟨e1, I1, M1, p1, A1, t, rv, rfl, he1, r1, m1, rfl, ht, R1, h61, hREF, hRO⟩ := q1
  show jx L xs _ 0 917 _ [.int (iI t)] _ _
  refine jv_istore (pc' := 919) (k := 5) (x := (iI t)) rfl rfl rfl (Or.inr (congrArg jm_lng hf4)) ?_
  refine jv_aload_n (pc' := 920) (k := 2) (x := 103) rfl rfl rfl hf2 ?_
  refine jv_aload_n (pc' := 921) (k := 0) (x := jm_S) rfl rfl rfl hf0 ?_
  refine jv_iload (pc' := 923) (k := 4) (x := (iI ((5 * q : Nat) : Int))) rfl rfl hf4 ?_
  refine jv_iconst (pc' := 924) (n := 1) rfl rfl ?_
  refine jv_iadd (pc' := 925) (a := ((5 * q : Nat) : Int)) (b := 1) rfl rfl ?_
  refine jv_sload (pc' := 926) (e := (((5 * q : Nat) : Int) + 1)) (v := (iI a1)) rfl rfl hL (by omega) ((congrArg xs (show (((5 * q : Nat) : Int) + 1 : Int).toNat = 5 * q + 1 by omega)).trans ca1) ?_
  refine jv_aload_n (pc' := 927) (k := 0) (x := jm_S) rfl rfl rfl hf0 ?_
  refine jv_iload (pc' := 929) (k := 4) (x := (iI ((5 * q : Nat) : Int))) rfl rfl hf4 ?_
  refine jv_iconst (pc' := 930) (n := 2) rfl rfl ?_
  refine jv_iadd (pc' := 931) (a := ((5 * q : Nat) : Int)) (b := 2) rfl rfl ?_
  refine jv_sload (pc' := 932) (e := (((5 * q : Nat) : Int) + 2)) (v := (iI a2)) rfl rfl hL (by omega) ((congrArg xs (show (((5 * q : Nat) : Int) + 2 : Int).toNat = 5 * q + 2 by omega)).trans ca2) ?_
  refine jv_aload_n (pc' := 933) (k := 0) (x := jm_S) rfl rfl rfl hf0 ?_
  refine jv_iload (pc' := 935) (k := 4) (x := (iI ((5 * q : Nat) : Int))) rfl rfl hf4 ?_
  refine jv_iconst (pc' := 936) (n := 3) rfl rfl ?_
  refine jv_iadd (pc' := 937) (a := ((5 * q : Nat) : Int)) (b := 3) rfl rfl ?_
  refine jv_sload (pc' := 938) (e := (((5 * q : Nat) : Int) + 3)) (v := (iI a3)) rfl rfl hL (by omega) ((congrArg xs (show (((5 * q : Nat) : Int) + 3 : Int).toNat = 5 * q + 3 by omega)).trans ca3) ?_
  refine jv_aload_n (pc' := 939) (k := 0) (x := jm_S) rfl rfl rfl hf0 ?_
  refine jv_iload (pc' := 941) (k := 4) (x := (iI ((5 * q : Nat) : Int))) rfl rfl hf4 ?_
  refine jv_iconst (pc' := 942) (n := 4) rfl rfl ?_
  refine jv_iadd (pc' := 943) (a := ((5 * q : Nat) : Int)) (b := 4) rfl rfl ?_
  refine jv_sload (pc' := 944) (e := (((5 * q : Nat) : Int) + 4)) (v := (iI a4)) rfl rfl hL (by omega) ((congrArg xs (show (((5 * q : Nat) : Int) + 4 : Int).toNat = 5 * q + 4 by omega)).trans ca4) ?_
  refine jv_call (pc' := 947) rfl (jc_rv (hREF L xs (d + 31) (j + e1) I1 M1 p1 (CM_c hM r1 m1))) (fun v2 g2 q2 => ?_)
  obtain ⟨⟨I2, M2, rfl, r2, m2, C2, h0, hv2⟩, hk⟩ := q2
  have R2 := CR_m R1 r2 m2
  obtain ⟨z0, rfl⟩ := hk.2.2 rfl
  obtain ⟨zr, hzr, rfl⟩ := lI_of z0
  show jx L xs _ 0 947 _ [.long (lI zr)] _ _
  refine jv_lstore (pc' := 949) (k := 6) (x := (lI zr)) rfl rfl rfl (Or.inr rfl) ?_
  refine jv_aload_n (pc' := 950) (k := 2) (x := 103) rfl rfl rfl hf2 ?_
  refine jv_call (pc' := 953) rfl (ml_thrown (I := I2) (M := M2) (t := t) h0) (fun vq1 gq1 q1 => ?_)
  obtain ⟨rfl, rfl⟩ := q1
  show jx L xs _ 0 953 _ [.int (iI t)] _ _
  refine jv_iload (pc' := 955) (k := 5) (x := (iI t)) rfl rfl rfl ?_
  refine jv_ic_eq (t := 960) (pc' := 958) (a := t) (b := t) rfl rfl rfl (by omega) (fun hz_2 => ?_) (fun hz_2 => ?_)
  · skip
    refine jv_iload (pc' := 962) (k := 5) (x := (iI t)) rfl rfl rfl ?_
    refine jv_if_ne (t := 976) (pc' := 965) (a := t) rfl rfl rfl (by omega) (fun hz_3 => ?_) (fun hz_3 => ?_)
    · skip
      refine jx_step (pc' := 1243) rfl ?_
      exact K _ _ _ _ _ _ hf0 hf1 hf2 hf3 hf4 (by omega) R2 C2 h61
    · skip
      have ht0 : t = 0 := by omega
      obtain ⟨r, hr, hrv, h138⟩ := RO_3 (hRO ht0)
      have hzz : zr = r := RO_l hzr hr ((hv2 ht0).trans hrv)
      refine jv_aload_n (pc' := 966) (k := 3) (x := 138) rfl rfl rfl hf3 ?_
      refine jv_iconst (pc' := 967) (n := 0) rfl rfl ?_
      refine jv_laload (pc' := 968) (n := 1) (e := 0) (v := (lI r)) rfl rfl rfl rfl rfl (by omega) ((m2 138 0 (by unfold mV; omega)).trans h138) ?_
      refine jv_lload (pc' := 970) (k := 6) (x := (lI zr)) rfl rfl rfl ?_
      refine jv_lc_eq (t := 976) (pc' := 974) (a := r) (b := zr) rfl rfl rfl rfl rfl (by omega) (fun hz_4 => ?_) (fun hz_4 => ?_)
      · skip
        refine jx_step (pc' := 1243) rfl ?_
        exact K _ _ _ _ _ _ hf0 hf1 hf2 hf3 hf4 (by omega) R2 C2 h61
      · skip
        exfalso; omega
  · skip
    exfalso; omega
set_option maxRecDepth 100000 in
set_option maxHeartbeats 4000000 in
theorem blk_talks (hL : L ≤ 2560) (hq : 5 * q + 5 ≤ L) (hf0 : f 0 = some (.ref jm_S)) (hf1 : f 1 = some (.ref 0)) (hf2 : f 2 = some (.ref 103)) (hf3 : f 3 = some (.ref 138)) (hf4 : f 4 = some (.int (iI ((5 * q : Nat) : Int)))) (hj : j ≤ q) (hR : CR I M p A) (hM : CM I M A) (h6 : A6 A) (K : ∀ (j' : Nat) (I' : Nat → Nat → Int32) (M' : Nat → Nat → Int64) (p' : Nat → Option Nat) (A' : AB) (f' : jm_F), f' 0 = some (.ref jm_S) → f' 1 = some (.ref 0) → f' 2 = some (.ref 103) → f' 3 = some (.ref 138) → f' 4 = some (.int (iI ((5 * q : Nat) : Int))) → j' ≤ q + 1 → CR I' M' p' A' → CM I' M' A' → A6 A' → jx L xs (d + 40) 0 1243 f' [] (jx_G j' I' M' p') Q) : jx L xs (d + 40) 0 979 f [] (jx_G j I M p) Q := by
  obtain ⟨a1, ha1, ca1⟩ := iI_of (xs (5 * q + 1))
  obtain ⟨a2, ha2, ca2⟩ := iI_of (xs (5 * q + 2))
  obtain ⟨a3, ha3, ca3⟩ := iI_of (xs (5 * q + 3))
  obtain ⟨a4, ha4, ca4⟩ := iI_of (xs (5 * q + 4))
  refine jv_aload_n (pc' := 980) (k := 1) (x := 0) rfl rfl rfl hf1 ?_
  refine jv_aload_n (pc' := 981) (k := 0) (x := jm_S) rfl rfl rfl hf0 ?_
  refine jv_iload (pc' := 983) (k := 4) (x := (iI ((5 * q : Nat) : Int))) rfl rfl hf4 ?_
  refine jv_iconst (pc' := 984) (n := 1) rfl rfl ?_
  refine jv_iadd (pc' := 985) (a := ((5 * q : Nat) : Int)) (b := 1) rfl rfl ?_
  refine jv_sload (pc' := 986) (e := (((5 * q : Nat) : Int) + 1)) (v := (iI a1)) rfl rfl hL (by omega) ((congrArg xs (show (((5 * q : Nat) : Int) + 1 : Int).toNat = 5 * q + 1 by omega)).trans ca1) ?_
  refine jv_aload_n (pc' := 987) (k := 0) (x := jm_S) rfl rfl rfl hf0 ?_
  refine jv_iload (pc' := 989) (k := 4) (x := (iI ((5 * q : Nat) : Int))) rfl rfl hf4 ?_
  refine jv_iconst (pc' := 990) (n := 2) rfl rfl ?_
  refine jv_iadd (pc' := 991) (a := ((5 * q : Nat) : Int)) (b := 2) rfl rfl ?_
  refine jv_sload (pc' := 992) (e := (((5 * q : Nat) : Int) + 2)) (v := (iI a2)) rfl rfl hL (by omega) ((congrArg xs (show (((5 * q : Nat) : Int) + 2 : Int).toNat = 5 * q + 2 by omega)).trans ca2) ?_
  refine jv_aload_n (pc' := 993) (k := 0) (x := jm_S) rfl rfl rfl hf0 ?_
  refine jv_iload (pc' := 995) (k := 4) (x := (iI ((5 * q : Nat) : Int))) rfl rfl hf4 ?_
  refine jv_iconst (pc' := 996) (n := 3) rfl rfl ?_
  refine jv_iadd (pc' := 997) (a := ((5 * q : Nat) : Int)) (b := 3) rfl rfl ?_
  refine jv_sload (pc' := 998) (e := (((5 * q : Nat) : Int) + 3)) (v := (iI a3)) rfl rfl hL (by omega) ((congrArg xs (show (((5 * q : Nat) : Int) + 3 : Int).toNat = 5 * q + 3 by omega)).trans ca3) ?_
  refine jv_aload_n (pc' := 999) (k := 0) (x := jm_S) rfl rfl rfl hf0 ?_
  refine jv_iload (pc' := 1001) (k := 4) (x := (iI ((5 * q : Nat) : Int))) rfl rfl hf4 ?_
  refine jv_iconst (pc' := 1002) (n := 4) rfl rfl ?_
  refine jv_iadd (pc' := 1003) (a := ((5 * q : Nat) : Int)) (b := 4) rfl rfl ?_
  refine jv_sload (pc' := 1004) (e := (((5 * q : Nat) : Int) + 4)) (v := (iI a4)) rfl rfl hL (by omega) ((congrArg xs (show (((5 * q : Nat) : Int) + 4 : Int).toNat = 5 * q + 4 by omega)).trans ca4) ?_
  refine jv_aload_n (pc' := 1005) (k := 3) (x := 138) rfl rfl rfl hf3 ?_
  refine jv_call (pc' := 1008) rfl (hp_talks (d := d) (co_talks h6 ha1 ha2 ha3 ha4) hR h6) (fun v1 g1 q1 => ?_)
  obtain ⟨e1, I1, M1, p1, A1, t, rv, rfl, he1, r1, m1, rfl, ht, R1, h61, hREF, hRO⟩ := q1
  show jx L xs _ 0 1008 _ [.int (iI t)] _ _
  refine jv_istore (pc' := 1010) (k := 5) (x := (iI t)) rfl rfl rfl (Or.inr (congrArg jm_lng hf4)) ?_
  refine jv_aload_n (pc' := 1011) (k := 2) (x := 103) rfl rfl rfl hf2 ?_
  refine jv_aload_n (pc' := 1012) (k := 0) (x := jm_S) rfl rfl rfl hf0 ?_
  refine jv_iload (pc' := 1014) (k := 4) (x := (iI ((5 * q : Nat) : Int))) rfl rfl hf4 ?_
  refine jv_iconst (pc' := 1015) (n := 1) rfl rfl ?_
  refine jv_iadd (pc' := 1016) (a := ((5 * q : Nat) : Int)) (b := 1) rfl rfl ?_
  refine jv_sload (pc' := 1017) (e := (((5 * q : Nat) : Int) + 1)) (v := (iI a1)) rfl rfl hL (by omega) ((congrArg xs (show (((5 * q : Nat) : Int) + 1 : Int).toNat = 5 * q + 1 by omega)).trans ca1) ?_
  refine jv_aload_n (pc' := 1018) (k := 0) (x := jm_S) rfl rfl rfl hf0 ?_
  refine jv_iload (pc' := 1020) (k := 4) (x := (iI ((5 * q : Nat) : Int))) rfl rfl hf4 ?_
  refine jv_iconst (pc' := 1021) (n := 2) rfl rfl ?_
  refine jv_iadd (pc' := 1022) (a := ((5 * q : Nat) : Int)) (b := 2) rfl rfl ?_
  refine jv_sload (pc' := 1023) (e := (((5 * q : Nat) : Int) + 2)) (v := (iI a2)) rfl rfl hL (by omega) ((congrArg xs (show (((5 * q : Nat) : Int) + 2 : Int).toNat = 5 * q + 2 by omega)).trans ca2) ?_
  refine jv_aload_n (pc' := 1024) (k := 0) (x := jm_S) rfl rfl rfl hf0 ?_
  refine jv_iload (pc' := 1026) (k := 4) (x := (iI ((5 * q : Nat) : Int))) rfl rfl hf4 ?_
  refine jv_iconst (pc' := 1027) (n := 3) rfl rfl ?_
  refine jv_iadd (pc' := 1028) (a := ((5 * q : Nat) : Int)) (b := 3) rfl rfl ?_
  refine jv_sload (pc' := 1029) (e := (((5 * q : Nat) : Int) + 3)) (v := (iI a3)) rfl rfl hL (by omega) ((congrArg xs (show (((5 * q : Nat) : Int) + 3 : Int).toNat = 5 * q + 3 by omega)).trans ca3) ?_
  refine jv_aload_n (pc' := 1030) (k := 0) (x := jm_S) rfl rfl rfl hf0 ?_
  refine jv_iload (pc' := 1032) (k := 4) (x := (iI ((5 * q : Nat) : Int))) rfl rfl hf4 ?_
  refine jv_iconst (pc' := 1033) (n := 4) rfl rfl ?_
  refine jv_iadd (pc' := 1034) (a := ((5 * q : Nat) : Int)) (b := 4) rfl rfl ?_
  refine jv_sload (pc' := 1035) (e := (((5 * q : Nat) : Int) + 4)) (v := (iI a4)) rfl rfl hL (by omega) ((congrArg xs (show (((5 * q : Nat) : Int) + 4 : Int).toNat = 5 * q + 4 by omega)).trans ca4) ?_
  refine jv_call (pc' := 1038) rfl (jc_rv (hREF L xs (d + 31) (j + e1) I1 M1 p1 (CM_c hM r1 m1))) (fun v2 g2 q2 => ?_)
  obtain ⟨⟨I2, M2, rfl, r2, m2, C2, h0, hv2⟩, hk⟩ := q2
  have R2 := CR_m R1 r2 m2
  obtain ⟨z0, rfl⟩ := hk.2.1 rfl
  obtain ⟨zr, hzr, rfl⟩ := iI_of z0
  show jx L xs _ 0 1038 _ [.int (iI zr)] _ _
  refine jv_istore (pc' := 1040) (k := 6) (x := (iI zr)) rfl rfl rfl (Or.inr rfl) ?_
  refine jv_aload_n (pc' := 1041) (k := 2) (x := 103) rfl rfl rfl hf2 ?_
  refine jv_call (pc' := 1044) rfl (ml_thrown (I := I2) (M := M2) (t := t) h0) (fun vq1 gq1 q1 => ?_)
  obtain ⟨rfl, rfl⟩ := q1
  show jx L xs _ 0 1044 _ [.int (iI t)] _ _
  refine jv_iload (pc' := 1046) (k := 5) (x := (iI t)) rfl rfl rfl ?_
  refine jv_ic_eq (t := 1051) (pc' := 1049) (a := t) (b := t) rfl rfl rfl (by omega) (fun hz_2 => ?_) (fun hz_2 => ?_)
  · skip
    refine jv_iload (pc' := 1053) (k := 5) (x := (iI t)) rfl rfl rfl ?_
    refine jv_if_ne (t := 1068) (pc' := 1056) (a := t) rfl rfl rfl (by omega) (fun hz_3 => ?_) (fun hz_3 => ?_)
    · skip
      refine jx_step (pc' := 1243) rfl ?_
      exact K _ _ _ _ _ _ hf0 hf1 hf2 hf3 hf4 (by omega) R2 C2 h61
    · skip
      have ht0 : t = 0 := by omega
      obtain ⟨r, hr, hrv, h138⟩ := RO_1 (hRO ht0)
      have hzz : zr = r := RO_i hzr hr ((hv2 ht0).trans hrv)
      refine jv_aload_n (pc' := 1057) (k := 3) (x := 138) rfl rfl rfl hf3 ?_
      refine jv_iconst (pc' := 1058) (n := 0) rfl rfl ?_
      refine jv_laload (pc' := 1059) (n := 1) (e := 0) (v := (lI r)) rfl rfl rfl rfl rfl (by omega) ((m2 138 0 (by unfold mV; omega)).trans h138) ?_
      refine jv_iload (pc' := 1061) (k := 6) (x := (iI zr)) rfl rfl rfl ?_
      refine jv_i2l (pc' := 1062) (a := zr) rfl rfl (by omega) ?_
      refine jv_lc_eq (t := 1068) (pc' := 1066) (a := r) (b := zr) rfl rfl rfl rfl rfl (by omega) (fun hz_4 => ?_) (fun hz_4 => ?_)
      · skip
        refine jx_step (pc' := 1243) rfl ?_
        exact K _ _ _ _ _ _ hf0 hf1 hf2 hf3 hf4 (by omega) R2 C2 h61
      · skip
        exfalso; omega
  · skip
    exfalso; omega
set_option maxRecDepth 100000 in
set_option maxHeartbeats 4000000 in
theorem blk_talk (hL : L ≤ 2560) (hq : 5 * q + 5 ≤ L) (hf0 : f 0 = some (.ref jm_S)) (hf1 : f 1 = some (.ref 0)) (hf2 : f 2 = some (.ref 103)) (hf3 : f 3 = some (.ref 138)) (hf4 : f 4 = some (.int (iI ((5 * q : Nat) : Int)))) (hj : j ≤ q) (hR : CR I M p A) (hM : CM I M A) (h6 : A6 A) (K : ∀ (j' : Nat) (I' : Nat → Nat → Int32) (M' : Nat → Nat → Int64) (p' : Nat → Option Nat) (A' : AB) (f' : jm_F), f' 0 = some (.ref jm_S) → f' 1 = some (.ref 0) → f' 2 = some (.ref 103) → f' 3 = some (.ref 138) → f' 4 = some (.int (iI ((5 * q : Nat) : Int))) → j' ≤ q + 1 → CR I' M' p' A' → CM I' M' A' → A6 A' → jx L xs (d + 40) 0 1243 f' [] (jx_G j' I' M' p') Q) : jx L xs (d + 40) 0 1071 f [] (jx_G j I M p) Q := by
  obtain ⟨a1, ha1, ca1⟩ := iI_of (xs (5 * q + 1))
  obtain ⟨a2, ha2, ca2⟩ := iI_of (xs (5 * q + 2))
  refine jv_aload_n (pc' := 1072) (k := 1) (x := 0) rfl rfl rfl hf1 ?_
  refine jv_aload_n (pc' := 1073) (k := 0) (x := jm_S) rfl rfl rfl hf0 ?_
  refine jv_iload (pc' := 1075) (k := 4) (x := (iI ((5 * q : Nat) : Int))) rfl rfl hf4 ?_
  refine jv_iconst (pc' := 1076) (n := 1) rfl rfl ?_
  refine jv_iadd (pc' := 1077) (a := ((5 * q : Nat) : Int)) (b := 1) rfl rfl ?_
  refine jv_sload (pc' := 1078) (e := (((5 * q : Nat) : Int) + 1)) (v := (iI a1)) rfl rfl hL (by omega) ((congrArg xs (show (((5 * q : Nat) : Int) + 1 : Int).toNat = 5 * q + 1 by omega)).trans ca1) ?_
  refine jv_aload_n (pc' := 1079) (k := 0) (x := jm_S) rfl rfl rfl hf0 ?_
  refine jv_iload (pc' := 1081) (k := 4) (x := (iI ((5 * q : Nat) : Int))) rfl rfl hf4 ?_
  refine jv_iconst (pc' := 1082) (n := 2) rfl rfl ?_
  refine jv_iadd (pc' := 1083) (a := ((5 * q : Nat) : Int)) (b := 2) rfl rfl ?_
  refine jv_sload (pc' := 1084) (e := (((5 * q : Nat) : Int) + 2)) (v := (iI a2)) rfl rfl hL (by omega) ((congrArg xs (show (((5 * q : Nat) : Int) + 2 : Int).toNat = 5 * q + 2 by omega)).trans ca2) ?_
  refine jv_aload_n (pc' := 1085) (k := 3) (x := 138) rfl rfl rfl hf3 ?_
  refine jv_call (pc' := 1088) rfl (hp_talk (d := d) (co_talk h6 ha1 ha2) hR h6) (fun v1 g1 q1 => ?_)
  obtain ⟨e1, I1, M1, p1, A1, t, rv, rfl, he1, r1, m1, rfl, ht, R1, h61, hREF, hRO⟩ := q1
  show jx L xs _ 0 1088 _ [.int (iI t)] _ _
  refine jv_istore (pc' := 1090) (k := 5) (x := (iI t)) rfl rfl rfl (Or.inr (congrArg jm_lng hf4)) ?_
  refine jv_aload_n (pc' := 1091) (k := 2) (x := 103) rfl rfl rfl hf2 ?_
  refine jv_aload_n (pc' := 1092) (k := 0) (x := jm_S) rfl rfl rfl hf0 ?_
  refine jv_iload (pc' := 1094) (k := 4) (x := (iI ((5 * q : Nat) : Int))) rfl rfl hf4 ?_
  refine jv_iconst (pc' := 1095) (n := 1) rfl rfl ?_
  refine jv_iadd (pc' := 1096) (a := ((5 * q : Nat) : Int)) (b := 1) rfl rfl ?_
  refine jv_sload (pc' := 1097) (e := (((5 * q : Nat) : Int) + 1)) (v := (iI a1)) rfl rfl hL (by omega) ((congrArg xs (show (((5 * q : Nat) : Int) + 1 : Int).toNat = 5 * q + 1 by omega)).trans ca1) ?_
  refine jv_aload_n (pc' := 1098) (k := 0) (x := jm_S) rfl rfl rfl hf0 ?_
  refine jv_iload (pc' := 1100) (k := 4) (x := (iI ((5 * q : Nat) : Int))) rfl rfl hf4 ?_
  refine jv_iconst (pc' := 1101) (n := 2) rfl rfl ?_
  refine jv_iadd (pc' := 1102) (a := ((5 * q : Nat) : Int)) (b := 2) rfl rfl ?_
  refine jv_sload (pc' := 1103) (e := (((5 * q : Nat) : Int) + 2)) (v := (iI a2)) rfl rfl hL (by omega) ((congrArg xs (show (((5 * q : Nat) : Int) + 2 : Int).toNat = 5 * q + 2 by omega)).trans ca2) ?_
  refine jv_call (pc' := 1106) rfl (jc_rv (hREF L xs (d + 31) (j + e1) I1 M1 p1 (CM_c hM r1 m1))) (fun v2 g2 q2 => ?_)
  obtain ⟨⟨I2, M2, rfl, r2, m2, C2, h0, hv2⟩, hk⟩ := q2
  have R2 := CR_m R1 r2 m2
  obtain ⟨z0, rfl⟩ := hk.2.2 rfl
  obtain ⟨zr, hzr, rfl⟩ := lI_of z0
  show jx L xs _ 0 1106 _ [.long (lI zr)] _ _
  refine jv_lstore (pc' := 1108) (k := 6) (x := (lI zr)) rfl rfl rfl (Or.inr rfl) ?_
  refine jv_aload_n (pc' := 1109) (k := 2) (x := 103) rfl rfl rfl hf2 ?_
  refine jv_call (pc' := 1112) rfl (ml_thrown (I := I2) (M := M2) (t := t) h0) (fun vq1 gq1 q1 => ?_)
  obtain ⟨rfl, rfl⟩ := q1
  show jx L xs _ 0 1112 _ [.int (iI t)] _ _
  refine jv_iload (pc' := 1114) (k := 5) (x := (iI t)) rfl rfl rfl ?_
  refine jv_ic_eq (t := 1119) (pc' := 1117) (a := t) (b := t) rfl rfl rfl (by omega) (fun hz_2 => ?_) (fun hz_2 => ?_)
  · skip
    refine jv_iload (pc' := 1121) (k := 5) (x := (iI t)) rfl rfl rfl ?_
    refine jv_if_ne (t := 1135) (pc' := 1124) (a := t) rfl rfl rfl (by omega) (fun hz_3 => ?_) (fun hz_3 => ?_)
    · skip
      refine jx_step (pc' := 1243) rfl ?_
      exact K _ _ _ _ _ _ hf0 hf1 hf2 hf3 hf4 (by omega) R2 C2 h61
    · skip
      have ht0 : t = 0 := by omega
      obtain ⟨r, hr, hrv, h138⟩ := RO_3 (hRO ht0)
      have hzz : zr = r := RO_l hzr hr ((hv2 ht0).trans hrv)
      refine jv_aload_n (pc' := 1125) (k := 3) (x := 138) rfl rfl rfl hf3 ?_
      refine jv_iconst (pc' := 1126) (n := 0) rfl rfl ?_
      refine jv_laload (pc' := 1127) (n := 1) (e := 0) (v := (lI r)) rfl rfl rfl rfl rfl (by omega) ((m2 138 0 (by unfold mV; omega)).trans h138) ?_
      refine jv_lload (pc' := 1129) (k := 6) (x := (lI zr)) rfl rfl rfl ?_
      refine jv_lc_eq (t := 1135) (pc' := 1133) (a := r) (b := zr) rfl rfl rfl rfl rfl (by omega) (fun hz_4 => ?_) (fun hz_4 => ?_)
      · skip
        refine jx_step (pc' := 1243) rfl ?_
        exact K _ _ _ _ _ _ hf0 hf1 hf2 hf3 hf4 (by omega) R2 C2 h61
      · skip
        exfalso; omega
  · skip
    exfalso; omega
set_option maxRecDepth 100000 in
set_option maxHeartbeats 4000000 in
theorem blk_stream (hL : L ≤ 2560) (hq : 5 * q + 5 ≤ L) (hf0 : f 0 = some (.ref jm_S)) (hf1 : f 1 = some (.ref 0)) (hf2 : f 2 = some (.ref 103)) (hf3 : f 3 = some (.ref 138)) (hf4 : f 4 = some (.int (iI ((5 * q : Nat) : Int)))) (hj : j ≤ q) (hR : CR I M p A) (hM : CM I M A) (h6 : A6 A) (K : ∀ (j' : Nat) (I' : Nat → Nat → Int32) (M' : Nat → Nat → Int64) (p' : Nat → Option Nat) (A' : AB) (f' : jm_F), f' 0 = some (.ref jm_S) → f' 1 = some (.ref 0) → f' 2 = some (.ref 103) → f' 3 = some (.ref 138) → f' 4 = some (.int (iI ((5 * q : Nat) : Int))) → j' ≤ q + 1 → CR I' M' p' A' → CM I' M' A' → A6 A' → jx L xs (d + 40) 0 1243 f' [] (jx_G j' I' M' p') Q) : jx L xs (d + 40) 0 1138 f [] (jx_G j I M p) Q := by
  obtain ⟨a1, ha1, ca1⟩ := iI_of (xs (5 * q + 1))
  obtain ⟨a2, ha2, ca2⟩ := iI_of (xs (5 * q + 2))
  obtain ⟨a3, ha3, ca3⟩ := iI_of (xs (5 * q + 3))
  refine jv_aload_n (pc' := 1139) (k := 1) (x := 0) rfl rfl rfl hf1 ?_
  refine jv_aload_n (pc' := 1140) (k := 0) (x := jm_S) rfl rfl rfl hf0 ?_
  refine jv_iload (pc' := 1142) (k := 4) (x := (iI ((5 * q : Nat) : Int))) rfl rfl hf4 ?_
  refine jv_iconst (pc' := 1143) (n := 1) rfl rfl ?_
  refine jv_iadd (pc' := 1144) (a := ((5 * q : Nat) : Int)) (b := 1) rfl rfl ?_
  refine jv_sload (pc' := 1145) (e := (((5 * q : Nat) : Int) + 1)) (v := (iI a1)) rfl rfl hL (by omega) ((congrArg xs (show (((5 * q : Nat) : Int) + 1 : Int).toNat = 5 * q + 1 by omega)).trans ca1) ?_
  refine jv_aload_n (pc' := 1146) (k := 0) (x := jm_S) rfl rfl rfl hf0 ?_
  refine jv_iload (pc' := 1148) (k := 4) (x := (iI ((5 * q : Nat) : Int))) rfl rfl hf4 ?_
  refine jv_iconst (pc' := 1149) (n := 2) rfl rfl ?_
  refine jv_iadd (pc' := 1150) (a := ((5 * q : Nat) : Int)) (b := 2) rfl rfl ?_
  refine jv_sload (pc' := 1151) (e := (((5 * q : Nat) : Int) + 2)) (v := (iI a2)) rfl rfl hL (by omega) ((congrArg xs (show (((5 * q : Nat) : Int) + 2 : Int).toNat = 5 * q + 2 by omega)).trans ca2) ?_
  refine jv_aload_n (pc' := 1152) (k := 0) (x := jm_S) rfl rfl rfl hf0 ?_
  refine jv_iload (pc' := 1154) (k := 4) (x := (iI ((5 * q : Nat) : Int))) rfl rfl hf4 ?_
  refine jv_iconst (pc' := 1155) (n := 3) rfl rfl ?_
  refine jv_iadd (pc' := 1156) (a := ((5 * q : Nat) : Int)) (b := 3) rfl rfl ?_
  refine jv_sload (pc' := 1157) (e := (((5 * q : Nat) : Int) + 3)) (v := (iI a3)) rfl rfl hL (by omega) ((congrArg xs (show (((5 * q : Nat) : Int) + 3 : Int).toNat = 5 * q + 3 by omega)).trans ca3) ?_
  refine jv_aload_n (pc' := 1158) (k := 3) (x := 138) rfl rfl rfl hf3 ?_
  refine jv_call (pc' := 1161) rfl (hp_stream (d := d) (co_stream h6 ha1 ha2 ha3) hR h6) (fun v1 g1 q1 => ?_)
  obtain ⟨e1, I1, M1, p1, A1, t, rv, rfl, he1, r1, m1, rfl, ht, R1, h61, hREF, hRO⟩ := q1
  show jx L xs _ 0 1161 _ [.int (iI t)] _ _
  refine jv_istore (pc' := 1163) (k := 5) (x := (iI t)) rfl rfl rfl (Or.inr (congrArg jm_lng hf4)) ?_
  refine jv_aload_n (pc' := 1164) (k := 2) (x := 103) rfl rfl rfl hf2 ?_
  refine jv_aload_n (pc' := 1165) (k := 0) (x := jm_S) rfl rfl rfl hf0 ?_
  refine jv_iload (pc' := 1167) (k := 4) (x := (iI ((5 * q : Nat) : Int))) rfl rfl hf4 ?_
  refine jv_iconst (pc' := 1168) (n := 1) rfl rfl ?_
  refine jv_iadd (pc' := 1169) (a := ((5 * q : Nat) : Int)) (b := 1) rfl rfl ?_
  refine jv_sload (pc' := 1170) (e := (((5 * q : Nat) : Int) + 1)) (v := (iI a1)) rfl rfl hL (by omega) ((congrArg xs (show (((5 * q : Nat) : Int) + 1 : Int).toNat = 5 * q + 1 by omega)).trans ca1) ?_
  refine jv_aload_n (pc' := 1171) (k := 0) (x := jm_S) rfl rfl rfl hf0 ?_
  refine jv_iload (pc' := 1173) (k := 4) (x := (iI ((5 * q : Nat) : Int))) rfl rfl hf4 ?_
  refine jv_iconst (pc' := 1174) (n := 2) rfl rfl ?_
  refine jv_iadd (pc' := 1175) (a := ((5 * q : Nat) : Int)) (b := 2) rfl rfl ?_
  refine jv_sload (pc' := 1176) (e := (((5 * q : Nat) : Int) + 2)) (v := (iI a2)) rfl rfl hL (by omega) ((congrArg xs (show (((5 * q : Nat) : Int) + 2 : Int).toNat = 5 * q + 2 by omega)).trans ca2) ?_
  refine jv_aload_n (pc' := 1177) (k := 0) (x := jm_S) rfl rfl rfl hf0 ?_
  refine jv_iload (pc' := 1179) (k := 4) (x := (iI ((5 * q : Nat) : Int))) rfl rfl hf4 ?_
  refine jv_iconst (pc' := 1180) (n := 3) rfl rfl ?_
  refine jv_iadd (pc' := 1181) (a := ((5 * q : Nat) : Int)) (b := 3) rfl rfl ?_
  refine jv_sload (pc' := 1182) (e := (((5 * q : Nat) : Int) + 3)) (v := (iI a3)) rfl rfl hL (by omega) ((congrArg xs (show (((5 * q : Nat) : Int) + 3 : Int).toNat = 5 * q + 3 by omega)).trans ca3) ?_
  refine jv_call (pc' := 1185) rfl (jc_rv (hREF L xs (d + 31) (j + e1) I1 M1 p1 (CM_c hM r1 m1))) (fun v2 g2 q2 => ?_)
  obtain ⟨⟨I2, M2, rfl, r2, m2, C2, h0, hv2⟩, hk⟩ := q2
  have R2 := CR_m R1 r2 m2
  obtain ⟨z0, rfl⟩ := hk.2.1 rfl
  obtain ⟨zr, hzr, rfl⟩ := iI_of z0
  show jx L xs _ 0 1185 _ [.int (iI zr)] _ _
  refine jv_istore (pc' := 1187) (k := 6) (x := (iI zr)) rfl rfl rfl (Or.inr rfl) ?_
  refine jv_aload_n (pc' := 1188) (k := 2) (x := 103) rfl rfl rfl hf2 ?_
  refine jv_call (pc' := 1191) rfl (ml_thrown (I := I2) (M := M2) (t := t) h0) (fun vq1 gq1 q1 => ?_)
  obtain ⟨rfl, rfl⟩ := q1
  show jx L xs _ 0 1191 _ [.int (iI t)] _ _
  refine jv_iload (pc' := 1193) (k := 5) (x := (iI t)) rfl rfl rfl ?_
  refine jv_ic_eq (t := 1198) (pc' := 1196) (a := t) (b := t) rfl rfl rfl (by omega) (fun hz_2 => ?_) (fun hz_2 => ?_)
  · skip
    refine jv_iload (pc' := 1200) (k := 5) (x := (iI t)) rfl rfl rfl ?_
    refine jv_if_ne (t := 1215) (pc' := 1203) (a := t) rfl rfl rfl (by omega) (fun hz_3 => ?_) (fun hz_3 => ?_)
    · skip
      refine jx_step (pc' := 1243) rfl ?_
      exact K _ _ _ _ _ _ hf0 hf1 hf2 hf3 hf4 (by omega) R2 C2 h61
    · skip
      have ht0 : t = 0 := by omega
      obtain ⟨r, hr, hrv, h138⟩ := RO_1 (hRO ht0)
      have hzz : zr = r := RO_i hzr hr ((hv2 ht0).trans hrv)
      refine jv_aload_n (pc' := 1204) (k := 3) (x := 138) rfl rfl rfl hf3 ?_
      refine jv_iconst (pc' := 1205) (n := 0) rfl rfl ?_
      refine jv_laload (pc' := 1206) (n := 1) (e := 0) (v := (lI r)) rfl rfl rfl rfl rfl (by omega) ((m2 138 0 (by unfold mV; omega)).trans h138) ?_
      refine jv_iload (pc' := 1208) (k := 6) (x := (iI zr)) rfl rfl rfl ?_
      refine jv_i2l (pc' := 1209) (a := zr) rfl rfl (by omega) ?_
      refine jv_lc_eq (t := 1215) (pc' := 1213) (a := r) (b := zr) rfl rfl rfl rfl rfl (by omega) (fun hz_4 => ?_) (fun hz_4 => ?_)
      · skip
        refine jx_step (pc' := 1243) rfl ?_
        exact K _ _ _ _ _ _ hf0 hf1 hf2 hf3 hf4 (by omega) R2 C2 h61
      · skip
        exfalso; omega
  · skip
    exfalso; omega
set_option maxRecDepth 100000 in
set_option maxHeartbeats 4000000 in
theorem blk_streamed (hL : L ≤ 2560) (hq : 5 * q + 5 ≤ L) (hf0 : f 0 = some (.ref jm_S)) (hf1 : f 1 = some (.ref 0)) (hf2 : f 2 = some (.ref 103)) (hf3 : f 3 = some (.ref 138)) (hf4 : f 4 = some (.int (iI ((5 * q : Nat) : Int)))) (hj : j ≤ q) (hR : CR I M p A) (hM : CM I M A) (h6 : A6 A) (K : ∀ (j' : Nat) (I' : Nat → Nat → Int32) (M' : Nat → Nat → Int64) (p' : Nat → Option Nat) (A' : AB) (f' : jm_F), f' 0 = some (.ref jm_S) → f' 1 = some (.ref 0) → f' 2 = some (.ref 103) → f' 3 = some (.ref 138) → f' 4 = some (.int (iI ((5 * q : Nat) : Int))) → j' ≤ q + 1 → CR I' M' p' A' → CM I' M' A' → A6 A' → jx L xs (d + 40) 0 1243 f' [] (jx_G j' I' M' p') Q) : jx L xs (d + 40) 0 1218 f [] (jx_G j I M p) Q := by
  obtain ⟨a1, ha1, ca1⟩ := iI_of (xs (5 * q + 1))
  obtain ⟨sv, hsv⟩ : ∃ sv : Int, sv = (if 0 ≤ a1 ∧ a1 < 64 then A 137 a1.toNat else -1) := ⟨_, rfl⟩
  have hsvr : -1 ≤ sv ∧ sv < 256 := by
    rw [hsv]
    split
    next h => exact (hR.2.2.2.2.2.2.2 a1.toNat (by omega)).2
    · omega
  refine jv_aload_n (pc' := 1219) (k := 1) (x := 0) rfl rfl rfl hf1 ?_
  refine jv_aload_n (pc' := 1220) (k := 0) (x := jm_S) rfl rfl rfl hf0 ?_
  refine jv_iload (pc' := 1222) (k := 4) (x := (iI ((5 * q : Nat) : Int))) rfl rfl hf4 ?_
  refine jv_iconst (pc' := 1223) (n := 1) rfl rfl ?_
  refine jv_iadd (pc' := 1224) (a := ((5 * q : Nat) : Int)) (b := 1) rfl rfl ?_
  refine jv_sload (pc' := 1225) (e := (((5 * q : Nat) : Int) + 1)) (v := (iI a1)) rfl rfl hL (by omega) ((congrArg xs (show (((5 * q : Nat) : Int) + 1 : Int).toNat = 5 * q + 1 by omega)).trans ca1) ?_
  refine jv_call (pc' := 1228) rfl (op_streamed_c (d := d + 39) ha1 hR) (fun v1 g1 q1 => ?_)
  rw [← hsv] at q1
  obtain ⟨rfl, rfl⟩ := q1
  show jx L xs _ 0 1228 _ [.int (iI sv)] _ _
  refine jv_aload_n (pc' := 1229) (k := 2) (x := 103) rfl rfl rfl hf2 ?_
  refine jv_aload_n (pc' := 1230) (k := 0) (x := jm_S) rfl rfl rfl hf0 ?_
  refine jv_iload (pc' := 1232) (k := 4) (x := (iI ((5 * q : Nat) : Int))) rfl rfl hf4 ?_
  refine jv_iconst (pc' := 1233) (n := 1) rfl rfl ?_
  refine jv_iadd (pc' := 1234) (a := ((5 * q : Nat) : Int)) (b := 1) rfl rfl ?_
  refine jv_sload (pc' := 1235) (e := (((5 * q : Nat) : Int) + 1)) (v := (iI a1)) rfl rfl hL (by omega) ((congrArg xs (show (((5 * q : Nat) : Int) + 1 : Int).toNat = 5 * q + 1 by omega)).trans ca1) ?_
  refine jv_call (pc' := 1238) rfl (op_streamed_m (d := d + 39) ha1 hM) (fun v2 g2 q2 => ?_)
  rw [← hsv] at q2
  obtain ⟨I2, rfl, r2, C2, h0, rfl⟩ := q2
  show jx L xs _ 0 1238 _ [.int (iI sv), .int (iI sv)] _ _
  refine jv_ic_eq (t := 1243) (pc' := 1241) (a := sv) (b := sv) rfl rfl rfl (by omega) (fun hz_1 => ?_) (fun hz_1 => ?_)
  · skip
    exact K _ _ _ _ _ _ hf0 hf1 hf2 hf3 hf4 (by omega) (CR_m hR r2 (fr_r _)) C2 h6
  · skip
    exfalso; omega
end H16
