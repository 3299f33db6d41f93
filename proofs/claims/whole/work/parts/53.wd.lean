/-! printed by wip/whole/gen/refs.py: references that the constructors made and nothing changes -/
set_option maxRecDepth 100000 in
theorem jR_0_0 (p : Nat → Option Nat) : jx_R p 0 0 = some 1 := rfl
set_option maxRecDepth 100000 in
theorem jR_0_1 (p : Nat → Option Nat) : jx_R p 0 1 = some 10 := rfl
set_option maxRecDepth 100000 in
theorem jR_0_2 (p : Nat → Option Nat) : jx_R p 0 2 = some 12 := rfl
set_option maxRecDepth 100000 in
theorem jR_0_3 (p : Nat → Option Nat) : jx_R p 0 3 = some 13 := rfl
set_option maxRecDepth 100000 in
theorem jR_0_4 (p : Nat → Option Nat) : jx_R p 0 4 = some 38 := rfl
set_option maxRecDepth 100000 in
theorem jR_0_5 (p : Nat → Option Nat) : jx_R p 0 5 = some 86 := rfl
set_option maxRecDepth 100000 in
theorem jR_0_6 (p : Nat → Option Nat) : jx_R p 0 6 = some 95 := rfl
set_option maxRecDepth 100000 in
theorem jR_0_7 (p : Nat → Option Nat) : jx_R p 0 7 = some 98 := rfl
set_option maxRecDepth 100000 in
theorem jR_0_8 (p : Nat → Option Nat) : jx_R p 0 8 = some 101 := rfl
set_option maxRecDepth 100000 in
theorem jR_1_0 (p : Nat → Option Nat) : jx_R p 1 0 = some 2 := rfl
set_option maxRecDepth 100000 in
theorem jR_3_0 (p : Nat → Option Nat) : jx_R p 3 0 = some 4 := rfl
set_option maxRecDepth 100000 in
theorem jR_3_1 (p : Nat → Option Nat) : jx_R p 3 1 = some 5 := rfl
set_option maxRecDepth 100000 in
theorem jR_3_2 (p : Nat → Option Nat) : jx_R p 3 2 = some 6 := rfl
set_option maxRecDepth 100000 in
theorem jR_3_3 (p : Nat → Option Nat) : jx_R p 3 3 = some 7 := rfl
set_option maxRecDepth 100000 in
theorem jR_3_4 (p : Nat → Option Nat) : jx_R p 3 4 = some 8 := rfl
set_option maxRecDepth 100000 in
theorem jR_3_5 (p : Nat → Option Nat) : jx_R p 3 5 = some 9 := rfl
set_option maxRecDepth 100000 in
theorem jR_10_0 (p : Nat → Option Nat) : jx_R p 10 0 = some 11 := rfl
set_option maxRecDepth 100000 in
theorem jR_14_0 (p : Nat → Option Nat) : jx_R p 14 0 = some 15 := rfl
set_option maxRecDepth 100000 in
theorem jR_16_0 (p : Nat → Option Nat) : jx_R p 16 0 = some 17 := rfl
set_option maxRecDepth 100000 in
theorem jR_18_0 (p : Nat → Option Nat) : jx_R p 18 0 = some 19 := rfl
set_option maxRecDepth 100000 in
theorem jR_20_0 (p : Nat → Option Nat) : jx_R p 20 0 = some 21 := rfl
set_option maxRecDepth 100000 in
theorem jR_22_0 (p : Nat → Option Nat) : jx_R p 22 0 = some 23 := rfl
set_option maxRecDepth 100000 in
theorem jR_24_0 (p : Nat → Option Nat) : jx_R p 24 0 = some 25 := rfl
set_option maxRecDepth 100000 in
theorem jR_26_0 (p : Nat → Option Nat) : jx_R p 26 0 = some 27 := rfl
set_option maxRecDepth 100000 in
theorem jR_28_0 (p : Nat → Option Nat) : jx_R p 28 0 = some 29 := rfl
set_option maxRecDepth 100000 in
theorem jR_30_0 (p : Nat → Option Nat) : jx_R p 30 0 = some 31 := rfl
set_option maxRecDepth 100000 in
theorem jR_32_0 (p : Nat → Option Nat) : jx_R p 32 0 = some 33 := rfl
set_option maxRecDepth 100000 in
theorem jR_34_0 (p : Nat → Option Nat) : jx_R p 34 0 = some 35 := rfl
set_option maxRecDepth 100000 in
theorem jR_36_0 (p : Nat → Option Nat) : jx_R p 36 0 = some 37 := rfl
set_option maxRecDepth 100000 in
theorem jR_38_0 (p : Nat → Option Nat) : jx_R p 38 0 = some 39 := rfl
set_option maxRecDepth 100000 in
theorem jR_38_1 (p : Nat → Option Nat) : jx_R p 38 1 = some 42 := rfl
set_option maxRecDepth 100000 in
theorem jR_38_2 (p : Nat → Option Nat) : jx_R p 38 2 = some 43 := rfl
set_option maxRecDepth 100000 in
theorem jR_38_3 (p : Nat → Option Nat) : jx_R p 38 3 = some 44 := rfl
set_option maxRecDepth 100000 in
theorem jR_38_4 (p : Nat → Option Nat) : jx_R p 38 4 = some 45 := rfl
set_option maxRecDepth 100000 in
theorem jR_39_0 (p : Nat → Option Nat) : jx_R p 39 0 = some 40 := rfl
set_option maxRecDepth 100000 in
theorem jR_39_1 (p : Nat → Option Nat) : jx_R p 39 1 = some 41 := rfl
set_option maxRecDepth 100000 in
theorem jR_43_0 (p : Nat → Option Nat) : jx_R p 43 0 = some 53 := rfl
set_option maxRecDepth 100000 in
theorem jR_43_1 (p : Nat → Option Nat) : jx_R p 43 1 = some 63 := rfl
set_option maxRecDepth 100000 in
theorem jR_43_2 (p : Nat → Option Nat) : jx_R p 43 2 = some 73 := rfl
set_option maxRecDepth 100000 in
theorem jR_43_3 (p : Nat → Option Nat) : jx_R p 43 3 = some 83 := rfl
set_option maxRecDepth 100000 in
theorem jR_46_0 (p : Nat → Option Nat) : jx_R p 46 0 = some 47 := rfl
set_option maxRecDepth 100000 in
theorem jR_46_1 (p : Nat → Option Nat) : jx_R p 46 1 = some 48 := rfl
set_option maxRecDepth 100000 in
theorem jR_46_2 (p : Nat → Option Nat) : jx_R p 46 2 = some 49 := rfl
set_option maxRecDepth 100000 in
theorem jR_46_3 (p : Nat → Option Nat) : jx_R p 46 3 = some 50 := rfl
set_option maxRecDepth 100000 in
theorem jR_46_4 (p : Nat → Option Nat) : jx_R p 46 4 = some 51 := rfl
set_option maxRecDepth 100000 in
theorem jR_46_5 (p : Nat → Option Nat) : jx_R p 46 5 = some 52 := rfl
set_option maxRecDepth 100000 in
theorem jR_53_0 (p : Nat → Option Nat) : jx_R p 53 0 = some 54 := rfl
set_option maxRecDepth 100000 in
theorem jR_53_1 (p : Nat → Option Nat) : jx_R p 53 1 = some 55 := rfl
set_option maxRecDepth 100000 in
theorem jR_56_0 (p : Nat → Option Nat) : jx_R p 56 0 = some 57 := rfl
set_option maxRecDepth 100000 in
theorem jR_56_1 (p : Nat → Option Nat) : jx_R p 56 1 = some 58 := rfl
set_option maxRecDepth 100000 in
theorem jR_56_2 (p : Nat → Option Nat) : jx_R p 56 2 = some 59 := rfl
set_option maxRecDepth 100000 in
theorem jR_56_3 (p : Nat → Option Nat) : jx_R p 56 3 = some 60 := rfl
set_option maxRecDepth 100000 in
theorem jR_56_4 (p : Nat → Option Nat) : jx_R p 56 4 = some 61 := rfl
set_option maxRecDepth 100000 in
theorem jR_56_5 (p : Nat → Option Nat) : jx_R p 56 5 = some 62 := rfl
set_option maxRecDepth 100000 in
theorem jR_63_0 (p : Nat → Option Nat) : jx_R p 63 0 = some 64 := rfl
set_option maxRecDepth 100000 in
theorem jR_63_1 (p : Nat → Option Nat) : jx_R p 63 1 = some 65 := rfl
set_option maxRecDepth 100000 in
theorem jR_66_0 (p : Nat → Option Nat) : jx_R p 66 0 = some 67 := rfl
set_option maxRecDepth 100000 in
theorem jR_66_1 (p : Nat → Option Nat) : jx_R p 66 1 = some 68 := rfl
set_option maxRecDepth 100000 in
theorem jR_66_2 (p : Nat → Option Nat) : jx_R p 66 2 = some 69 := rfl
set_option maxRecDepth 100000 in
theorem jR_66_3 (p : Nat → Option Nat) : jx_R p 66 3 = some 70 := rfl
set_option maxRecDepth 100000 in
theorem jR_66_4 (p : Nat → Option Nat) : jx_R p 66 4 = some 71 := rfl
set_option maxRecDepth 100000 in
theorem jR_66_5 (p : Nat → Option Nat) : jx_R p 66 5 = some 72 := rfl
set_option maxRecDepth 100000 in
theorem jR_73_0 (p : Nat → Option Nat) : jx_R p 73 0 = some 74 := rfl
set_option maxRecDepth 100000 in
theorem jR_73_1 (p : Nat → Option Nat) : jx_R p 73 1 = some 75 := rfl
set_option maxRecDepth 100000 in
theorem jR_76_0 (p : Nat → Option Nat) : jx_R p 76 0 = some 77 := rfl
set_option maxRecDepth 100000 in
theorem jR_76_1 (p : Nat → Option Nat) : jx_R p 76 1 = some 78 := rfl
set_option maxRecDepth 100000 in
theorem jR_76_2 (p : Nat → Option Nat) : jx_R p 76 2 = some 79 := rfl
set_option maxRecDepth 100000 in
theorem jR_76_3 (p : Nat → Option Nat) : jx_R p 76 3 = some 80 := rfl
set_option maxRecDepth 100000 in
theorem jR_76_4 (p : Nat → Option Nat) : jx_R p 76 4 = some 81 := rfl
set_option maxRecDepth 100000 in
theorem jR_76_5 (p : Nat → Option Nat) : jx_R p 76 5 = some 82 := rfl
set_option maxRecDepth 100000 in
theorem jR_83_0 (p : Nat → Option Nat) : jx_R p 83 0 = some 84 := rfl
set_option maxRecDepth 100000 in
theorem jR_83_1 (p : Nat → Option Nat) : jx_R p 83 1 = some 85 := rfl
set_option maxRecDepth 100000 in
theorem jR_86_0 (p : Nat → Option Nat) : jx_R p 86 0 = some 87 := rfl
set_option maxRecDepth 100000 in
theorem jR_86_1 (p : Nat → Option Nat) : jx_R p 86 1 = some 89 := rfl
set_option maxRecDepth 100000 in
theorem jR_86_2 (p : Nat → Option Nat) : jx_R p 86 2 = some 91 := rfl
set_option maxRecDepth 100000 in
theorem jR_86_3 (p : Nat → Option Nat) : jx_R p 86 3 = some 93 := rfl
set_option maxRecDepth 100000 in
theorem jR_87_0 (p : Nat → Option Nat) : jx_R p 87 0 = some 88 := rfl
set_option maxRecDepth 100000 in
theorem jR_89_0 (p : Nat → Option Nat) : jx_R p 89 0 = some 90 := rfl
set_option maxRecDepth 100000 in
theorem jR_91_0 (p : Nat → Option Nat) : jx_R p 91 0 = some 92 := rfl
set_option maxRecDepth 100000 in
theorem jR_93_0 (p : Nat → Option Nat) : jx_R p 93 0 = some 94 := rfl
set_option maxRecDepth 100000 in
theorem jR_95_0 (p : Nat → Option Nat) : jx_R p 95 0 = some 96 := rfl
set_option maxRecDepth 100000 in
theorem jR_95_1 (p : Nat → Option Nat) : jx_R p 95 1 = some 97 := rfl
set_option maxRecDepth 100000 in
theorem jR_98_0 (p : Nat → Option Nat) : jx_R p 98 0 = some 99 := rfl
set_option maxRecDepth 100000 in
theorem jR_98_1 (p : Nat → Option Nat) : jx_R p 98 1 = some 100 := rfl
set_option maxRecDepth 100000 in
theorem jR_101_0 (p : Nat → Option Nat) : jx_R p 101 0 = some 102 := rfl
set_option maxRecDepth 100000 in
theorem jR_103_1 (p : Nat → Option Nat) : jx_R p 103 1 = some 104 := rfl
set_option maxRecDepth 100000 in
theorem jR_103_3 (p : Nat → Option Nat) : jx_R p 103 3 = some 105 := rfl
set_option maxRecDepth 100000 in
theorem jR_103_4 (p : Nat → Option Nat) : jx_R p 103 4 = some 106 := rfl
set_option maxRecDepth 100000 in
theorem jR_103_5 (p : Nat → Option Nat) : jx_R p 103 5 = some 107 := rfl
set_option maxRecDepth 100000 in
theorem jR_103_6 (p : Nat → Option Nat) : jx_R p 103 6 = some 108 := rfl
set_option maxRecDepth 100000 in
theorem jR_103_7 (p : Nat → Option Nat) : jx_R p 103 7 = some 109 := rfl
set_option maxRecDepth 100000 in
theorem jR_103_8 (p : Nat → Option Nat) : jx_R p 103 8 = some 110 := rfl
set_option maxRecDepth 100000 in
theorem jR_103_9 (p : Nat → Option Nat) : jx_R p 103 9 = some 111 := rfl
set_option maxRecDepth 100000 in
theorem jR_103_10 (p : Nat → Option Nat) : jx_R p 103 10 = some 112 := rfl
set_option maxRecDepth 100000 in
theorem jR_103_13 (p : Nat → Option Nat) : jx_R p 103 13 = some 113 := rfl
set_option maxRecDepth 100000 in
theorem jR_103_14 (p : Nat → Option Nat) : jx_R p 103 14 = some 114 := rfl
set_option maxRecDepth 100000 in
theorem jR_103_15 (p : Nat → Option Nat) : jx_R p 103 15 = some 115 := rfl
set_option maxRecDepth 100000 in
theorem jR_103_16 (p : Nat → Option Nat) : jx_R p 103 16 = some 116 := rfl
set_option maxRecDepth 100000 in
theorem jR_103_17 (p : Nat → Option Nat) : jx_R p 103 17 = some 117 := rfl
set_option maxRecDepth 100000 in
theorem jR_103_21 (p : Nat → Option Nat) : jx_R p 103 21 = some 118 := rfl
set_option maxRecDepth 100000 in
theorem jR_103_23 (p : Nat → Option Nat) : jx_R p 103 23 = some 119 := rfl
set_option maxRecDepth 100000 in
theorem jR_103_24 (p : Nat → Option Nat) : jx_R p 103 24 = some 120 := rfl
set_option maxRecDepth 100000 in
theorem jR_103_25 (p : Nat → Option Nat) : jx_R p 103 25 = some 121 := rfl
set_option maxRecDepth 100000 in
theorem jR_103_26 (p : Nat → Option Nat) : jx_R p 103 26 = some 122 := rfl
set_option maxRecDepth 100000 in
theorem jR_103_27 (p : Nat → Option Nat) : jx_R p 103 27 = some 123 := rfl
set_option maxRecDepth 100000 in
theorem jR_103_28 (p : Nat → Option Nat) : jx_R p 103 28 = some 124 := rfl
set_option maxRecDepth 100000 in
theorem jR_103_35 (p : Nat → Option Nat) : jx_R p 103 35 = some 125 := rfl
set_option maxRecDepth 100000 in
theorem jR_103_36 (p : Nat → Option Nat) : jx_R p 103 36 = some 126 := rfl
set_option maxRecDepth 100000 in
theorem jR_103_38 (p : Nat → Option Nat) : jx_R p 103 38 = some 127 := rfl
set_option maxRecDepth 100000 in
theorem jR_103_39 (p : Nat → Option Nat) : jx_R p 103 39 = some 128 := rfl
set_option maxRecDepth 100000 in
theorem jR_103_40 (p : Nat → Option Nat) : jx_R p 103 40 = some 129 := rfl
set_option maxRecDepth 100000 in
theorem jR_103_41 (p : Nat → Option Nat) : jx_R p 103 41 = some 130 := rfl
set_option maxRecDepth 100000 in
theorem jR_103_42 (p : Nat → Option Nat) : jx_R p 103 42 = some 131 := rfl
set_option maxRecDepth 100000 in
theorem jR_103_43 (p : Nat → Option Nat) : jx_R p 103 43 = some 132 := rfl
set_option maxRecDepth 100000 in
theorem jR_103_45 (p : Nat → Option Nat) : jx_R p 103 45 = some 133 := rfl
set_option maxRecDepth 100000 in
theorem jR_103_46 (p : Nat → Option Nat) : jx_R p 103 46 = some 134 := rfl
set_option maxRecDepth 100000 in
theorem jR_103_47 (p : Nat → Option Nat) : jx_R p 103 47 = some 135 := rfl
set_option maxRecDepth 100000 in
theorem jR_103_48 (p : Nat → Option Nat) : jx_R p 103 48 = some 136 := rfl
set_option maxRecDepth 100000 in
theorem jR_103_49 (p : Nat → Option Nat) : jx_R p 103 49 = some 137 := rfl
theorem jv_callv {L : Nat} {xs : Nat → Int32} {d mi pc : Nat} {f : jm_F} {st r : List Value} {g : jm_H} {Q : jm_O → Prop} {x k pc' c b : Nat} {P : Option Value → jm_H → Prop} (ht : jm_tab mi pc = some (.invokevirtual x, 3)) (hp : pc + 3 = pc') (hm : jm_mt (jm_oc mi) x = some k) (hr : jm_rc k = some c) (hA : jm_isA g b c = true) (hd : st.drop (jm_na k) = .ref b :: r)
    (hc : decide (k < 900 ∧ jm_isI k = false ∧ jm_na k ≤ st.length ∧ (r.map fun v => v.category).sum ≤ 8 ∧ 1 + ((st.take (jm_na k)).map fun v => v.category).sum ≤ jm_ml k) = true) (h : jc L xs d k (.ref b :: (st.take (jm_na k)).reverse) g P) (kk : ∀ v g1, P v g1 → jx L xs (d + 1) mi pc' f (v.toList ++ r) g1 Q) : jx L xs (d + 1) mi pc f st g Q := by
  subst hp
  obtain ⟨c1, c2, c3, c4, c5⟩ := of_decide_eq_true hc
  refine jx_call0 (jx_ins ht rfl ?_) h kk
  simp only [jm_ins, jm_p1, jm_p2, jm_p3, jm_p4, jm_p5, jm_p6, jm_p7, jm_p8, hm, hr, hd]
  rw [if_pos ⟨c1, c2, hA, c3, c4, c5⟩]
