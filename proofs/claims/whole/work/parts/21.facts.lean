/-! printed by wip/whole/gen/facts.py: what the tables say -/
def jm_W : List Cond := lw_tbl.filter goodWord
theorem jm_W_of {w : Cond} (h : w ∈ lw_tbl) (hg : goodWord w = true) : w ∈ jm_W := List.mem_filter.mpr ⟨h, hg⟩
theorem jm_W_good {w : Cond} (h : w ∈ jm_W) : goodWord w = true := (List.mem_filter.mp h).2
theorem jm_W_in {w : Cond} (h : w ∈ jm_W) : w ∈ lw_tbl := (List.mem_filter.mp h).1
theorem jm_mem {ws : List Cond} (ps : List Nat) (h : (decide (ws = ps.filterMap (fun i => lw_tbl[i]?)) && ws.all goodWord) = true) {w : Cond} (hw : w ∈ ws) : w ∈ jm_W := by
  rw [Bool.and_eq_true, decide_eq_true_eq] at h
  refine jm_W_of ?_ (List.all_eq_true.mp h.2 w hw)
  rw [h.1] at hw
  obtain ⟨i, -, hi⟩ := List.mem_filterMap.mp hw
  exact List.mem_of_getElem? hi
theorem jm_NC_le : jm_NC ≤ 20 := by decide
theorem jm_SH_S : jm_SH jm_S = (99, 0) := rfl
theorem jm_find2 {α : Type} {l : List (Nat × Nat × α)} {a b : Nat} {v : α} (h : (l.find? (fun r => r.1 == a && r.2.1 == b)).map (fun r => r.2.2) = some v) : (a, b, v) ∈ l := by
  cases hf : l.find? (fun r => r.1 == a && r.2.1 == b) with
  | none => rw [hf] at h; cases h
  | some r =>
    rw [hf] at h
    have h1 := List.mem_of_find?_eq_some hf
    have h2 := List.find?_some hf
    simp only [Bool.and_eq_true, beq_iff_eq] at h2
    obtain ⟨r1, r2, r3⟩ := r
    obtain ⟨e1, e2⟩ := h2
    cases h
    cases e1
    cases e2
    exact h1
def jm_flw (r : Nat × Nat × Nat × Nat) : Cond := .fieldLink (jm_on r.1) r.2.1 (jm_T r.2.2.1 r.2.2.2).1 (jm_T r.2.2.1 r.2.2.2).2.1 (jm_T r.2.2.1 r.2.2.2).2.2.1
theorem jm_flk0 : (decide (((jm_fls.drop 0).take 50).map jm_flw = [395, 404, 396, 397, 398, 406, 399, 407, 400, 401, 402, 403, 123, 119, 288, 290, 405, 227, 256, 252, 286, 223, 362, 149, 380, 378, 225, 117, 121, 137, 139, 141, 143, 146, 150, 156, 153, 203, 204, 192, 157, 155, 145, 194, 148, 152, 189, 190, 124, 193].filterMap (fun i => lw_tbl[i]?)) && (((jm_fls.drop 0).take 50).map jm_flw).all goodWord) = true := by decide +kernel
theorem jm_flk1 : (decide (((jm_fls.drop 50).take 50).map jm_flw = [120, 220, 224, 226, 122, 221, 118, 285, 287, 289, 291, 292, 293, 299, 297, 298, 254, 294, 295, 296, 154, 158, 138, 144, 140, 142, 222, 147, 151, 249, 250, 253, 275, 276, 277, 334, 335, 191, 339, 338, 255, 251, 337, 336, 195, 359, 360, 361, 377, 379].filterMap (fun i => lw_tbl[i]?)) && (((jm_fls.drop 50).take 50).map jm_flw).all goodWord) = true := by decide +kernel
theorem jm_flk2 : (decide (((jm_fls.drop 100).take 50).map jm_flw = [381, 382, 383, 998, 1000, 1001, 1002, 1003, 1004, 1005, 1006, 1007, 1008, 1010, 1011, 1012, 1013, 1014, 1018, 1020, 1021, 1022, 1023, 1024, 1025, 1032, 1033, 1035, 1036, 1037, 1038, 1039, 1040, 1042, 1043, 1044, 1045, 1046, 997, 999, 1041, 1016, 1015, 1017, 1009, 1026, 1027, 1019, 1031, 1029].filterMap (fun i => lw_tbl[i]?)) && (((jm_fls.drop 100).take 50).map jm_flw).all goodWord) = true := by decide +kernel
theorem jm_flk3 : (decide (((jm_fls.drop 150).take 3).map jm_flw = [1030, 1028, 1034].filterMap (fun i => lw_tbl[i]?)) && (((jm_fls.drop 150).take 3).map jm_flw).all goodWord) = true := by decide +kernel
theorem jm_fls_eq : jm_fls = (jm_fls.drop 0).take 50 ++ (jm_fls.drop 50).take 50 ++ (jm_fls.drop 100).take 50 ++ (jm_fls.drop 150).take 3 := by decide +kernel
theorem jm_fl_W : ∀ r ∈ jm_fls, jm_flw r ∈ jm_W := by
  intro r hr
  rw [jm_fls_eq] at hr
  simp only [List.mem_append] at hr
  rcases hr with ((hr | hr) | hr) | hr
  · exact jm_mem _ jm_flk0 (List.mem_map.mpr ⟨r, hr, rfl⟩)
  · exact jm_mem _ jm_flk1 (List.mem_map.mpr ⟨r, hr, rfl⟩)
  · exact jm_mem _ jm_flk2 (List.mem_map.mpr ⟨r, hr, rfl⟩)
  · exact jm_mem _ jm_flk3 (List.mem_map.mpr ⟨r, hr, rfl⟩)
theorem jm_fl_N : ∀ r ∈ jm_fls, r.2.2.1 < jm_NC := by decide +kernel
theorem jm_fl_ok (oc x c k : Nat) (h : jm_fl oc x = some (c, k)) : c < jm_NC ∧ Cond.fieldLink (jm_on oc) x (jm_T c k).1 (jm_T c k).2.1 (jm_T c k).2.2.1 ∈ jm_W := by
  have hm : (oc, x, c, k) ∈ jm_fls := jm_find2 h
  exact ⟨jm_fl_N _ hm, jm_fl_W _ hm⟩
theorem jm_pf_ok (mi x c k : Nat) (h : jm_fl (jm_oc mi) x = some (c, k)) (hp : jm_pf mi x = true) (hf : (jm_T c k).2.2.2 = true) : jm_isI mi = true ∧ (jm_T c k).1 = jm_on (jm_oc mi) := by
  unfold jm_pf at hp
  rw [h] at hp
  dsimp only at hp
  rw [hf] at hp
  simpa using hp
theorem jm_Tk0 : (decide (u_ws (jm_cn 0) (jm_T 0) (jm_nf 0) = [408, 410, 412, 414, 416, 418, 420, 422, 424, 426, 428, 430, 432].filterMap (fun i => lw_tbl[i]?)) && (u_ws (jm_cn 0) (jm_T 0) (jm_nf 0)).all goodWord) = true := by decide +kernel
theorem jm_Tk1 : (decide (u_ws (jm_cn 1) (jm_T 1) (jm_nf 1) = [125, 127].filterMap (fun i => lw_tbl[i]?)) && (u_ws (jm_cn 1) (jm_T 1) (jm_nf 1)).all goodWord) = true := by decide +kernel
theorem jm_Tk2 : (decide (u_ws (jm_cn 2) (jm_T 2) (jm_nf 2) = [159, 161, 163, 165, 167, 169, 171, 173].filterMap (fun i => lw_tbl[i]?)) && (u_ws (jm_cn 2) (jm_T 2) (jm_nf 2)).all goodWord) = true := by decide +kernel
theorem jm_Tk3 : (decide (u_ws (jm_cn 3) (jm_T 3) (jm_nf 3) = [205, 207].filterMap (fun i => lw_tbl[i]?)) && (u_ws (jm_cn 3) (jm_T 3) (jm_nf 3)).all goodWord) = true := by decide +kernel
theorem jm_Tk4 : (decide (u_ws (jm_cn 4) (jm_T 4) (jm_nf 4) = [196, 198, 200].filterMap (fun i => lw_tbl[i]?)) && (u_ws (jm_cn 4) (jm_T 4) (jm_nf 4)).all goodWord) = true := by decide +kernel
theorem jm_Tk5 : (decide (u_ws (jm_cn 5) (jm_T 5) (jm_nf 5) = [228, 230, 232, 234].filterMap (fun i => lw_tbl[i]?)) && (u_ws (jm_cn 5) (jm_T 5) (jm_nf 5)).all goodWord) = true := by decide +kernel
theorem jm_Tk6 : (decide (u_ws (jm_cn 6) (jm_T 6) (jm_nf 6) = [300, 302, 304, 306, 308, 310, 312, 314, 316, 318, 320, 322].filterMap (fun i => lw_tbl[i]?)) && (u_ws (jm_cn 6) (jm_T 6) (jm_nf 6)).all goodWord) = true := by decide +kernel
theorem jm_Tk7 : (decide (u_ws (jm_cn 7) (jm_T 7) (jm_nf 7) = [257, 259, 261].filterMap (fun i => lw_tbl[i]?)) && (u_ws (jm_cn 7) (jm_T 7) (jm_nf 7)).all goodWord) = true := by decide +kernel
theorem jm_Tk8 : (decide (u_ws (jm_cn 8) (jm_T 8) (jm_nf 8) = [278, 280, 282].filterMap (fun i => lw_tbl[i]?)) && (u_ws (jm_cn 8) (jm_T 8) (jm_nf 8)).all goodWord) = true := by decide +kernel
theorem jm_Tk9 : (decide (u_ws (jm_cn 9) (jm_T 9) (jm_nf 9) = [340, 342, 344, 346, 348, 350].filterMap (fun i => lw_tbl[i]?)) && (u_ws (jm_cn 9) (jm_T 9) (jm_nf 9)).all goodWord) = true := by decide +kernel
theorem jm_Tk10 : (decide (u_ws (jm_cn 10) (jm_T 10) (jm_nf 10) = [363, 365, 367].filterMap (fun i => lw_tbl[i]?)) && (u_ws (jm_cn 10) (jm_T 10) (jm_nf 10)).all goodWord) = true := by decide +kernel
theorem jm_Tk11 : (decide (u_ws (jm_cn 11) (jm_T 11) (jm_nf 11) = [384, 386, 388, 390, 392].filterMap (fun i => lw_tbl[i]?)) && (u_ws (jm_cn 11) (jm_T 11) (jm_nf 11)).all goodWord) = true := by decide +kernel
theorem jm_Tk12 : (decide (u_ws (jm_cn 12) (jm_T 12) (jm_nf 12) = [1047, 1049, 1051, 1053, 1055, 1057, 1059, 1061, 1063, 1065, 1067, 1069, 1071, 1073, 1075, 1077, 1079, 1081, 1083, 1085, 1087, 1089, 1091, 1093, 1095, 1097, 1099, 1101, 1103, 1105, 1107, 1109, 1111, 1113, 1115, 1117, 1119, 1121, 1123, 1125, 1127, 1129, 1131, 1133, 1135, 1137, 1139, 1141, 1143, 1145].filterMap (fun i => lw_tbl[i]?)) && (u_ws (jm_cn 12) (jm_T 12) (jm_nf 12)).all goodWord) = true := by decide +kernel
theorem jm_T_in : ∀ c, c < jm_NC → ∀ w ∈ u_ws (jm_cn c) (jm_T c) (jm_nf c), w ∈ jm_W := by
  intro c hc
  match c, hc with
  | 0, _ => exact fun w hw => jm_mem _ jm_Tk0 hw
  | 1, _ => exact fun w hw => jm_mem _ jm_Tk1 hw
  | 2, _ => exact fun w hw => jm_mem _ jm_Tk2 hw
  | 3, _ => exact fun w hw => jm_mem _ jm_Tk3 hw
  | 4, _ => exact fun w hw => jm_mem _ jm_Tk4 hw
  | 5, _ => exact fun w hw => jm_mem _ jm_Tk5 hw
  | 6, _ => exact fun w hw => jm_mem _ jm_Tk6 hw
  | 7, _ => exact fun w hw => jm_mem _ jm_Tk7 hw
  | 8, _ => exact fun w hw => jm_mem _ jm_Tk8 hw
  | 9, _ => exact fun w hw => jm_mem _ jm_Tk9 hw
  | 10, _ => exact fun w hw => jm_mem _ jm_Tk10 hw
  | 11, _ => exact fun w hw => jm_mem _ jm_Tk11 hw
  | 12, _ => exact fun w hw => jm_mem _ jm_Tk12 hw
  | c + 13, h => exact absurd h (by unfold jm_NC; omega)
theorem jm_Tn0 : ∀ a, a < jm_nf 0 → ∀ b, b < jm_nf 0 → a ≠ b → (jm_T 0 a).2.1 ≠ (jm_T 0 b).2.1 := by decide +kernel
theorem jm_Ty0 : ∀ a, a < jm_nf 0 → parseFieldDescriptor (jm_T 0 a).2.2.1 = some (jm_ty 0 a) := by decide +kernel
theorem jm_Tn1 : ∀ a, a < jm_nf 1 → ∀ b, b < jm_nf 1 → a ≠ b → (jm_T 1 a).2.1 ≠ (jm_T 1 b).2.1 := by decide +kernel
theorem jm_Ty1 : ∀ a, a < jm_nf 1 → parseFieldDescriptor (jm_T 1 a).2.2.1 = some (jm_ty 1 a) := by decide +kernel
theorem jm_Tn2 : ∀ a, a < jm_nf 2 → ∀ b, b < jm_nf 2 → a ≠ b → (jm_T 2 a).2.1 ≠ (jm_T 2 b).2.1 := by decide +kernel
theorem jm_Ty2 : ∀ a, a < jm_nf 2 → parseFieldDescriptor (jm_T 2 a).2.2.1 = some (jm_ty 2 a) := by decide +kernel
theorem jm_Tn3 : ∀ a, a < jm_nf 3 → ∀ b, b < jm_nf 3 → a ≠ b → (jm_T 3 a).2.1 ≠ (jm_T 3 b).2.1 := by decide +kernel
theorem jm_Ty3 : ∀ a, a < jm_nf 3 → parseFieldDescriptor (jm_T 3 a).2.2.1 = some (jm_ty 3 a) := by decide +kernel
theorem jm_Tn4 : ∀ a, a < jm_nf 4 → ∀ b, b < jm_nf 4 → a ≠ b → (jm_T 4 a).2.1 ≠ (jm_T 4 b).2.1 := by decide +kernel
theorem jm_Ty4 : ∀ a, a < jm_nf 4 → parseFieldDescriptor (jm_T 4 a).2.2.1 = some (jm_ty 4 a) := by decide +kernel
theorem jm_Tn5 : ∀ a, a < jm_nf 5 → ∀ b, b < jm_nf 5 → a ≠ b → (jm_T 5 a).2.1 ≠ (jm_T 5 b).2.1 := by decide +kernel
theorem jm_Ty5 : ∀ a, a < jm_nf 5 → parseFieldDescriptor (jm_T 5 a).2.2.1 = some (jm_ty 5 a) := by decide +kernel
theorem jm_Tn6 : ∀ a, a < jm_nf 6 → ∀ b, b < jm_nf 6 → a ≠ b → (jm_T 6 a).2.1 ≠ (jm_T 6 b).2.1 := by decide +kernel
theorem jm_Ty6 : ∀ a, a < jm_nf 6 → parseFieldDescriptor (jm_T 6 a).2.2.1 = some (jm_ty 6 a) := by decide +kernel
theorem jm_Tn7 : ∀ a, a < jm_nf 7 → ∀ b, b < jm_nf 7 → a ≠ b → (jm_T 7 a).2.1 ≠ (jm_T 7 b).2.1 := by decide +kernel
theorem jm_Ty7 : ∀ a, a < jm_nf 7 → parseFieldDescriptor (jm_T 7 a).2.2.1 = some (jm_ty 7 a) := by decide +kernel
theorem jm_Tn8 : ∀ a, a < jm_nf 8 → ∀ b, b < jm_nf 8 → a ≠ b → (jm_T 8 a).2.1 ≠ (jm_T 8 b).2.1 := by decide +kernel
theorem jm_Ty8 : ∀ a, a < jm_nf 8 → parseFieldDescriptor (jm_T 8 a).2.2.1 = some (jm_ty 8 a) := by decide +kernel
theorem jm_Tn9 : ∀ a, a < jm_nf 9 → ∀ b, b < jm_nf 9 → a ≠ b → (jm_T 9 a).2.1 ≠ (jm_T 9 b).2.1 := by decide +kernel
theorem jm_Ty9 : ∀ a, a < jm_nf 9 → parseFieldDescriptor (jm_T 9 a).2.2.1 = some (jm_ty 9 a) := by decide +kernel
theorem jm_Tn10 : ∀ a, a < jm_nf 10 → ∀ b, b < jm_nf 10 → a ≠ b → (jm_T 10 a).2.1 ≠ (jm_T 10 b).2.1 := by decide +kernel
theorem jm_Ty10 : ∀ a, a < jm_nf 10 → parseFieldDescriptor (jm_T 10 a).2.2.1 = some (jm_ty 10 a) := by decide +kernel
theorem jm_Tn11 : ∀ a, a < jm_nf 11 → ∀ b, b < jm_nf 11 → a ≠ b → (jm_T 11 a).2.1 ≠ (jm_T 11 b).2.1 := by decide +kernel
theorem jm_Ty11 : ∀ a, a < jm_nf 11 → parseFieldDescriptor (jm_T 11 a).2.2.1 = some (jm_ty 11 a) := by decide +kernel
theorem jm_Tn12 : ∀ a, a < jm_nf 12 → ∀ b, b < jm_nf 12 → a ≠ b → (jm_T 12 a).2.1 ≠ (jm_T 12 b).2.1 := by decide +kernel
theorem jm_Ty12 : ∀ a, a < jm_nf 12 → parseFieldDescriptor (jm_T 12 a).2.2.1 = some (jm_ty 12 a) := by decide +kernel
theorem jm_T_nm : ∀ c, c < jm_NC → ∀ a, a < jm_nf c → ∀ b, b < jm_nf c → a ≠ b → (jm_T c a).2.1 ≠ (jm_T c b).2.1 := by
  intro c hc
  match c, hc with
  | 0, _ => exact jm_Tn0
  | 1, _ => exact jm_Tn1
  | 2, _ => exact jm_Tn2
  | 3, _ => exact jm_Tn3
  | 4, _ => exact jm_Tn4
  | 5, _ => exact jm_Tn5
  | 6, _ => exact jm_Tn6
  | 7, _ => exact jm_Tn7
  | 8, _ => exact jm_Tn8
  | 9, _ => exact jm_Tn9
  | 10, _ => exact jm_Tn10
  | 11, _ => exact jm_Tn11
  | 12, _ => exact jm_Tn12
  | c + 13, h => exact absurd h (by unfold jm_NC; omega)
theorem jm_ty_ok : ∀ c, c < jm_NC → ∀ a, a < jm_nf c → parseFieldDescriptor (jm_T c a).2.2.1 = some (jm_ty c a) := by
  intro c hc
  match c, hc with
  | 0, _ => exact jm_Ty0
  | 1, _ => exact jm_Ty1
  | 2, _ => exact jm_Ty2
  | 3, _ => exact jm_Ty3
  | 4, _ => exact jm_Ty4
  | 5, _ => exact jm_Ty5
  | 6, _ => exact jm_Ty6
  | 7, _ => exact jm_Ty7
  | 8, _ => exact jm_Ty8
  | 9, _ => exact jm_Ty9
  | 10, _ => exact jm_Ty10
  | 11, _ => exact jm_Ty11
  | 12, _ => exact jm_Ty12
  | c + 13, h => exact absurd h (by unfold jm_NC; omega)
def jm_isref (t : FieldType) : Bool := match t with
  | .object _ => true
  | .array _ => true
  | _ => false
theorem jm_ty_0 : ∀ c, c < jm_NC → ∀ k, k < jm_nf c → jm_ft c k = 0 → jm_ty c k = .int := by decide +kernel
theorem jm_ty_1 : ∀ c, c < jm_NC → ∀ k, k < jm_nf c → jm_ft c k = 1 → jm_ty c k = .long := by decide +kernel
theorem jm_ty_2 : ∀ c, c < jm_NC → ∀ k, k < jm_nf c → jm_ft c k = 2 → jm_isref (jm_ty c k) = true := by decide +kernel
theorem jm_ty_3 : ∀ c, c < jm_NC → ∀ k, k < jm_nf c → ¬ jm_ft c k = 0 → ¬ jm_ft c k = 1 → ¬ jm_ft c k = 2 → jm_ty c k = .boolean := by decide +kernel
def jm_dv (t : Nat) : Value := match t with
  | 1 => .long 0
  | 2 => .null
  | _ => .int 0
theorem jm_def : ∀ c, c < jm_NC → ∀ j, j < jm_nf c → ∀ B b : Nat, defaultValue (jm_ty c j) = jm_rz B b (jm_dv (jm_ft c j)) := by
  intro c hc j hj B b
  by_cases h0 : jm_ft c j = 0
  · rw [jm_ty_0 c hc j hj h0, h0]; rfl
  · by_cases h1 : jm_ft c j = 1
    · rw [jm_ty_1 c hc j hj h1, h1]; rfl
    · by_cases h2 : jm_ft c j = 2
      · have h3 := jm_ty_2 c hc j hj h2
        rw [h2]
        cases ht : jm_ty c j <;> rw [ht] at h3 <;> first | rfl | cases h3
      · rw [jm_ty_3 c hc j hj h0 h1 h2]
        unfold jm_dv
        split
        next e => exact absurd e h1
        next e => exact absurd e h2
        next => rfl
theorem jm_tys_at {tc : Nat → ClassId} (t : Nat) (h : t ∈ jm_tags) : (jm_tys tc)[jm_tx t]? = some (tc t, jm_aty t) := by
  simp only [jm_tags, List.mem_cons, List.not_mem_nil, or_false] at h
  rcases h with rfl | rfl | rfl | rfl | rfl | rfl | rfl <;> rfl
theorem jm_SH_or (a : Nat) : jm_SH a ∈ jm_shl ∨ jm_SH a = (99, 0) := by
  unfold jm_SH
  rw [List.getD_eq_getElem?_getD]
  cases h : jm_shl[a]? with
  | none => exact Or.inr rfl
  | some q => exact Or.inl (List.mem_of_getElem? h)
theorem jm_shl_tags : ∀ q ∈ jm_shl, 20 ≤ q.1 → q.1 < 50 → q.1 ∈ jm_tags := by decide +kernel
theorem jm_shl_NC : ∀ q ∈ jm_shl, 30 ≤ q.1 → q.1 < 50 → q.1 - 30 < jm_NC := by decide +kernel
theorem jm_tag_mem (a : Nat) (h1 : 20 ≤ (jm_SH a).1) (h2 : (jm_SH a).1 < 50) : (jm_SH a).1 ∈ jm_tags := by
  rcases jm_SH_or a with h | h
  · exact jm_shl_tags _ h h1 h2
  · rw [h] at h2; exact absurd h2 (by decide)
theorem jm_tys_NC (a : Nat) (h1 : 30 ≤ (jm_SH a).1) (h2 : (jm_SH a).1 < 50) : (jm_SH a).1 - 30 < jm_NC := by
  rcases jm_SH_or a with h | h
  · exact jm_shl_NC _ h h1 h2
  · rw [h] at h2; exact absurd h2 (by decide)
theorem jm_tys_ref {tc : Nat → ClassId} (a : Nat) (h1 : 30 ≤ (jm_SH a).1) (h2 : (jm_SH a).1 < 50) : (jm_tys tc)[jm_tx (jm_SH a).1]? = some (tc (jm_SH a).1, .object (jm_cn ((jm_SH a).1 - 30))) := by
  have h := jm_tys_at (tc := tc) _ (jm_tag_mem a (by omega) h2)
  rw [h]
  unfold jm_aty
  rw [if_neg (by omega), if_neg (by omega), if_neg (by omega)]
def jm_clo : List (Nat × Nat × Nat) := jm_cls.filter (fun r => decide (r.2.2 < 20))
def jm_clw (r : Nat × Nat × Nat) : Cond := .classLink (jm_on r.1) r.2.1 (jm_cn r.2.2)
theorem jm_clk : (decide (jm_clo.map jm_clw = [111, 131, 177, 213, 237, 326, 353, 370, 183, 243, 265, 267, 332, 103, 991].filterMap (fun i => lw_tbl[i]?)) && (jm_clo.map jm_clw).all goodWord) = true := by decide +kernel
theorem jm_cl_N : ∀ r ∈ jm_clo, r.2.2 < jm_NC := by decide +kernel
def jm_insw (c : Nat) : Cond := .instantiable (jm_cn c) (jm_nf c)
def jm_iniw (c : Nat) : Cond := .initialized (jm_on c)
theorem jm_insk : (decide ((List.range jm_NC).map jm_insw = [104, 112, 132, 178, 184, 215, 238, 244, 270, 327, 354, 371, 992].filterMap (fun i => lw_tbl[i]?)) && ((List.range jm_NC).map jm_insw).all goodWord) = true := by decide +kernel
theorem jm_inik : (decide ((List.range 15).map jm_iniw = [80, 81, 82, 83, 84, 86, 87, 88, 89, 90, 91, 92, 93, 79, 85].filterMap (fun i => lw_tbl[i]?)) && ((List.range 15).map jm_iniw).all goodWord) = true := by decide +kernel
theorem jm_ini {c : Nat} (h : c < 15) : Cond.initialized (jm_on c) ∈ jm_W := jm_mem _ jm_inik (List.mem_map.mpr ⟨c, List.mem_range.mpr h, rfl⟩)
theorem jm_cl_mem {oc x c : Nat} (h : jm_cl oc x = some c) (hc : c < 20) : c < jm_NC ∧ Cond.classLink (jm_on oc) x (jm_cn c) ∈ jm_W := by
  have hm : (oc, x, c) ∈ jm_cls := jm_find2 h
  have hm2 : (oc, x, c) ∈ jm_clo := List.mem_filter.mpr ⟨hm, decide_eq_true hc⟩
  exact ⟨jm_cl_N _ hm2, jm_mem _ jm_clk (List.mem_map.mpr ⟨_, hm2, rfl⟩)⟩
theorem jm_cl_ok (oc x c : Nat) (h : jm_cl oc x = some c) (hc : c < 20) : c < jm_NC ∧ Cond.classLink (jm_on oc) x (jm_cn c) ∈ jm_W ∧ Cond.instantiable (jm_cn c) (jm_nf c) ∈ jm_W ∧ Cond.initialized (jm_cn c) ∈ jm_W := by
  obtain ⟨h1, h2⟩ := jm_cl_mem h hc
  exact ⟨h1, h2, jm_mem _ jm_insk (List.mem_map.mpr ⟨c, List.mem_range.mpr h1, rfl⟩), jm_ini (Nat.lt_of_lt_of_le h1 (by decide))⟩
def jm_acs : List Cond := [.arrayClass .int, .arrayClass .long, .arrayClass .boolean]
theorem jm_ack : (decide (jm_acs = [130, 264, 176].filterMap (fun i => lw_tbl[i]?)) && jm_acs.all goodWord) = true := by decide +kernel
theorem jm_ac_ok (t : ArrayType) (h : jm_at t < 99) : Cond.arrayClass (newarray.typeOf t) ∈ jm_W := by
  refine jm_mem _ jm_ack ?_
  cases t <;> first | (exact absurd h (by decide)) | decide
theorem jm_cb_ok (t : ArrayType) (n : Nat) (hn : n ≤ 1000) : n * componentBytes (newarray.typeOf t) ≤ 536870912 := by
  cases t <;> simp only [newarray.typeOf, componentBytes] <;> omega
theorem jm_nat_words : nativeFrameWords "java/lang/System" "arraycopy" 5 + 11 ≤ 192 := by decide +kernel
def jm_s900 : List (Nat × Nat × Nat) := jm_mts.filter (fun r => r.2.2 == 900)
theorem jm_sk900 : (decide (jm_s900.map (fun r => Cond.methodLink (jm_on r.1) r.2.1 objectInit) = [108, 116, 136, 182, 188, 219, 242, 248, 274, 331, 358, 375, 996].filterMap (fun i => lw_tbl[i]?)) && (jm_s900.map (fun r => Cond.methodLink (jm_on r.1) r.2.1 objectInit)).all goodWord) = true := by decide +kernel
def jm_so900 : List Cond := [.instanceMethod objectInit, .code objectInit ⟨#[0xb1]⟩ 1 none]
theorem jm_sok900 : (decide (jm_so900 = [109, 110].filterMap (fun i => lw_tbl[i]?)) && jm_so900.all goodWord) = true := by decide +kernel
theorem jm_mt_900 (oc x : Nat) (h : jm_mt oc x = some 900) : Cond.methodLink (jm_on oc) x objectInit ∈ jm_W ∧ Cond.instanceMethod objectInit ∈ jm_W ∧ Cond.code objectInit ⟨#[0xb1]⟩ 1 none ∈ jm_W := by
  have hm : (oc, x, 900) ∈ jm_mts := jm_find2 h
  have hm2 : (oc, x, 900) ∈ jm_s900 := List.mem_filter.mpr ⟨hm, rfl⟩
  exact ⟨jm_mem _ jm_sk900 (List.mem_map.mpr ⟨_, hm2, rfl⟩), jm_mem _ jm_sok900 (List.mem_of_getElem? (i := 0) rfl), jm_mem _ jm_sok900 (List.mem_of_getElem? (i := 1) rfl)⟩
def jm_s901 : List (Nat × Nat × Nat) := jm_mts.filter (fun r => r.2.2 == 901)
theorem jm_sk901 : (decide (jm_s901.map (fun r => Cond.methodLink (jm_on r.1) r.2.1 arraycopyName) = [880, 680].filterMap (fun i => lw_tbl[i]?)) && (jm_s901.map (fun r => Cond.methodLink (jm_on r.1) r.2.1 arraycopyName)).all goodWord) = true := by decide +kernel
def jm_so901 : List Cond := [.native arraycopyName, .static arraycopyName, .initialized "java/lang/System"]
theorem jm_sok901 : (decide (jm_so901 = [682, 681, 100].filterMap (fun i => lw_tbl[i]?)) && jm_so901.all goodWord) = true := by decide +kernel
theorem jm_mt_901 (oc x : Nat) (h : jm_mt oc x = some 901) : Cond.methodLink (jm_on oc) x arraycopyName ∈ jm_W ∧ Cond.native arraycopyName ∈ jm_W ∧ Cond.static arraycopyName ∈ jm_W ∧ Cond.initialized "java/lang/System" ∈ jm_W := by
  have hm : (oc, x, 901) ∈ jm_mts := jm_find2 h
  have hm2 : (oc, x, 901) ∈ jm_s901 := List.mem_filter.mpr ⟨hm, rfl⟩
  exact ⟨jm_mem _ jm_sk901 (List.mem_map.mpr ⟨_, hm2, rfl⟩), jm_mem _ jm_sok901 (List.mem_of_getElem? (i := 0) rfl), jm_mem _ jm_sok901 (List.mem_of_getElem? (i := 1) rfl), jm_mem _ jm_sok901 (List.mem_of_getElem? (i := 2) rfl)⟩
def jm_s902 : List (Nat × Nat × Nat) := jm_mts.filter (fun r => r.2.2 == 902)
theorem jm_sk902 : (decide (jm_s902.map (fun r => Cond.methodLink (jm_on r.1) r.2.1 Lib.Math.min.name) = [677].filterMap (fun i => lw_tbl[i]?)) && (jm_s902.map (fun r => Cond.methodLink (jm_on r.1) r.2.1 Lib.Math.min.name)).all goodWord) = true := by decide +kernel
def jm_so902 : List Cond := [.static Lib.Math.min.name, .initialized "java/lang/Math", .code Lib.Math.min.name Lib.Math.min.code 2 (some .int)]
theorem jm_sok902 : (decide (jm_so902 = [678, 99, 679].filterMap (fun i => lw_tbl[i]?)) && jm_so902.all goodWord) = true := by decide +kernel
theorem jm_mt_902 (oc x : Nat) (h : jm_mt oc x = some 902) : Cond.methodLink (jm_on oc) x Lib.Math.min.name ∈ jm_W ∧ Cond.static Lib.Math.min.name ∈ jm_W ∧ Cond.initialized "java/lang/Math" ∈ jm_W ∧ Cond.code Lib.Math.min.name Lib.Math.min.code 2 (some .int) ∈ jm_W := by
  have hm : (oc, x, 902) ∈ jm_mts := jm_find2 h
  have hm2 : (oc, x, 902) ∈ jm_s902 := List.mem_filter.mpr ⟨hm, rfl⟩
  exact ⟨jm_mem _ jm_sk902 (List.mem_map.mpr ⟨_, hm2, rfl⟩), jm_mem _ jm_sok902 (List.mem_of_getElem? (i := 0) rfl), jm_mem _ jm_sok902 (List.mem_of_getElem? (i := 1) rfl), jm_mem _ jm_sok902 (List.mem_of_getElem? (i := 2) rfl)⟩
def jm_s903 : List (Nat × Nat × Nat) := jm_mts.filter (fun r => r.2.2 == 903)
theorem jm_sk903 : (decide (jm_s903.map (fun r => Cond.methodLink (jm_on r.1) r.2.1 Lib.MathLoose.min_long.x) = [925].filterMap (fun i => lw_tbl[i]?)) && (jm_s903.map (fun r => Cond.methodLink (jm_on r.1) r.2.1 Lib.MathLoose.min_long.x)).all goodWord) = true := by decide +kernel
def jm_so903 : List Cond := [.static Lib.MathLoose.min_long.x, .initialized "java/lang/Math", .code Lib.MathLoose.min_long.x Lib.MathLoose.min_long.code 4 (some .long)]
theorem jm_sok903 : (decide (jm_so903 = [926, 99, 927].filterMap (fun i => lw_tbl[i]?)) && jm_so903.all goodWord) = true := by decide +kernel
theorem jm_mt_903 (oc x : Nat) (h : jm_mt oc x = some 903) : Cond.methodLink (jm_on oc) x Lib.MathLoose.min_long.x ∈ jm_W ∧ Cond.static Lib.MathLoose.min_long.x ∈ jm_W ∧ Cond.initialized "java/lang/Math" ∈ jm_W ∧ Cond.code Lib.MathLoose.min_long.x Lib.MathLoose.min_long.code 4 (some .long) ∈ jm_W := by
  have hm : (oc, x, 903) ∈ jm_mts := jm_find2 h
  have hm2 : (oc, x, 903) ∈ jm_s903 := List.mem_filter.mpr ⟨hm, rfl⟩
  exact ⟨jm_mem _ jm_sk903 (List.mem_map.mpr ⟨_, hm2, rfl⟩), jm_mem _ jm_sok903 (List.mem_of_getElem? (i := 0) rfl), jm_mem _ jm_sok903 (List.mem_of_getElem? (i := 1) rfl), jm_mem _ jm_sok903 (List.mem_of_getElem? (i := 2) rfl)⟩
def jm_s904 : List (Nat × Nat × Nat) := jm_mts.filter (fun r => r.2.2 == 904)
theorem jm_sk904 : (decide (jm_s904.map (fun r => Cond.methodLink (jm_on r.1) r.2.1 Lib.MathLoose.max_long.x) = [928].filterMap (fun i => lw_tbl[i]?)) && (jm_s904.map (fun r => Cond.methodLink (jm_on r.1) r.2.1 Lib.MathLoose.max_long.x)).all goodWord) = true := by decide +kernel
def jm_so904 : List Cond := [.static Lib.MathLoose.max_long.x, .initialized "java/lang/Math", .code Lib.MathLoose.max_long.x Lib.MathLoose.max_long.code 4 (some .long)]
theorem jm_sok904 : (decide (jm_so904 = [929, 99, 930].filterMap (fun i => lw_tbl[i]?)) && jm_so904.all goodWord) = true := by decide +kernel
theorem jm_mt_904 (oc x : Nat) (h : jm_mt oc x = some 904) : Cond.methodLink (jm_on oc) x Lib.MathLoose.max_long.x ∈ jm_W ∧ Cond.static Lib.MathLoose.max_long.x ∈ jm_W ∧ Cond.initialized "java/lang/Math" ∈ jm_W ∧ Cond.code Lib.MathLoose.max_long.x Lib.MathLoose.max_long.code 4 (some .long) ∈ jm_W := by
  have hm : (oc, x, 904) ∈ jm_mts := jm_find2 h
  have hm2 : (oc, x, 904) ∈ jm_s904 := List.mem_filter.mpr ⟨hm, rfl⟩
  exact ⟨jm_mem _ jm_sk904 (List.mem_map.mpr ⟨_, hm2, rfl⟩), jm_mem _ jm_sok904 (List.mem_of_getElem? (i := 0) rfl), jm_mem _ jm_sok904 (List.mem_of_getElem? (i := 1) rfl), jm_mem _ jm_sok904 (List.mem_of_getElem? (i := 2) rfl)⟩
theorem jm_ld_mem {oc x : Nat} {v : Value} (h : jm_ld oc x = some v) : ∃ z, v = .long z ∧ (oc, x, z) ∈ jm_lds := by
  unfold jm_ld at h
  cases hf : jm_lds.find? (fun r => r.1 == oc && r.2.1 == x) with
  | none => rw [hf] at h; cases h
  | some r =>
    rw [hf] at h
    cases h
    refine ⟨r.2.2, rfl, ?_⟩
    apply jm_find2
    rw [hf]
    rfl
theorem jm_ld_int (oc x : Nat) (v : Int32) (h : jm_ld oc x = some (.int v)) : Cond.constant (jm_on oc) x v ∈ jm_W := by
  obtain ⟨z, hz, -⟩ := jm_ld_mem h
  cases hz
theorem jm_ldk : (decide (jm_lds.map (fun r => Cond.constantLong (jm_on r.1) r.2.1 r.2.2) = [779, 989, 1156, 1325, 1320, 1302, 1307, 1410, 1415].filterMap (fun i => lw_tbl[i]?)) && (jm_lds.map (fun r => Cond.constantLong (jm_on r.1) r.2.1 r.2.2)).all goodWord) = true := by decide +kernel
theorem jm_ld_long (oc x : Nat) (v : Int64) (h : jm_ld oc x = some (.long v)) : Cond.constantLong (jm_on oc) x v ∈ jm_W := by
  obtain ⟨z, hz, hm⟩ := jm_ld_mem h
  cases hz
  exact jm_mem _ jm_ldk (List.mem_map.mpr ⟨_, hm, rfl⟩)
