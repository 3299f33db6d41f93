/-! printed by wip/whole/gen/throws.py: the words of throwing -/
def jm_st1w : Cond := .isRef (.static "java/lang/Throwable" "UNASSIGNED_STACK" "[Ljava/lang/StackTraceElement;")
def jm_st2w : Cond := .isRef (.static "java/lang/Throwable" "SUPPRESSED_SENTINEL" "Ljava/util/List;")
def jm_xl : List Cond := lw_tbl ++ [jm_st1w, jm_st2w]
def jm_ups : List String := ["java/lang/RuntimeException", "java/lang/Exception"]
set_option maxRecDepth 20000 in
theorem jm_own0 : Bundle.ownAtoms0 "CaptureBench" 88 "java/lang/IllegalArgumentException" jm_ups = [94, 473, 482, 487, 490, 492, 474, 475, 109, 110, 476, 481, 488, 504, 463, 505, 465, 506, 467, 477, 478, 479, 480, 469, 494, 495, 496, 497, 454, 497, 498, 499, 500, 456, 500, 501, 502, 474, 458, 493, 452, 453, 460, 461, 462, 464, 466, 468, 1417, 1418, 472, 471, 470].filterMap (fun i => jm_xl[i]?) := rfl
theorem jm_bad0 : (Bundle.ownAtoms0 "CaptureBench" 88 "java/lang/IllegalArgumentException" jm_ups).filter (fun a => !goodWord a) = [.laysStatic "java/lang/Throwable" "UNASSIGNED_STACK" "[Ljava/lang/StackTraceElement;", .laysStatic "java/lang/Throwable" "SUPPRESSED_SENTINEL" "Ljava/util/List;", .declares ⟨"java/lang/RuntimeException", "<init>", "()V"⟩, .declares ⟨"java/lang/Exception", "<init>", "()V"⟩, .declares ⟨"java/lang/Throwable", "<init>", "()V"⟩, .castable "java/lang/IllegalArgumentException" "java/lang/IllegalArgumentException", jm_st1w, jm_st2w] := by decide +kernel
set_option maxRecDepth 20000 in
theorem jm_own1 : Bundle.ownAtoms0 "CaptureBench" 128 "java/lang/IllegalStateException" jm_ups = [94, 473, 482, 487, 490, 492, 474, 475, 109, 110, 476, 481, 488, 504, 463, 505, 465, 506, 467, 477, 478, 479, 480, 469, 661, 662, 663, 497, 454, 497, 498, 499, 500, 456, 500, 501, 502, 474, 458, 660, 652, 653, 654, 484, 655, 656, 657, 658, 1417, 1418, 472, 471, 659].filterMap (fun i => jm_xl[i]?) := rfl
theorem jm_bad1 : (Bundle.ownAtoms0 "CaptureBench" 128 "java/lang/IllegalStateException" jm_ups).filter (fun a => !goodWord a) = [.laysStatic "java/lang/Throwable" "UNASSIGNED_STACK" "[Ljava/lang/StackTraceElement;", .laysStatic "java/lang/Throwable" "SUPPRESSED_SENTINEL" "Ljava/util/List;", .declares ⟨"java/lang/RuntimeException", "<init>", "()V"⟩, .declares ⟨"java/lang/Exception", "<init>", "()V"⟩, .declares ⟨"java/lang/Throwable", "<init>", "()V"⟩, .castable "java/lang/IllegalStateException" "java/lang/IllegalStateException", jm_st1w, jm_st2w] := by decide +kernel
set_option maxRecDepth 20000 in
theorem jm_own2 : Bundle.ownAtoms0 "CaptureBench" 143 "java/lang/IndexOutOfBoundsException" jm_ups = [94, 473, 482, 487, 490, 492, 474, 475, 109, 110, 476, 481, 488, 504, 463, 505, 465, 506, 467, 477, 478, 479, 480, 469, 705, 706, 707, 497, 454, 497, 498, 499, 500, 456, 500, 501, 502, 474, 458, 704, 696, 697, 698, 485, 699, 700, 701, 702, 1417, 1418, 472, 471, 703].filterMap (fun i => jm_xl[i]?) := rfl
theorem jm_bad2 : (Bundle.ownAtoms0 "CaptureBench" 143 "java/lang/IndexOutOfBoundsException" jm_ups).filter (fun a => !goodWord a) = [.laysStatic "java/lang/Throwable" "UNASSIGNED_STACK" "[Ljava/lang/StackTraceElement;", .laysStatic "java/lang/Throwable" "SUPPRESSED_SENTINEL" "Ljava/util/List;", .declares ⟨"java/lang/RuntimeException", "<init>", "()V"⟩, .declares ⟨"java/lang/Exception", "<init>", "()V"⟩, .declares ⟨"java/lang/Throwable", "<init>", "()V"⟩, .castable "java/lang/IndexOutOfBoundsException" "java/lang/IndexOutOfBoundsException", jm_st1w, jm_st2w] := by decide +kernel
set_option maxRecDepth 20000 in
theorem jm_own3 : Bundle.ownAtoms0 "CaptureBench" 182 "java/util/NoSuchElementException" jm_ups = [94, 473, 482, 487, 490, 492, 474, 475, 109, 110, 476, 481, 488, 504, 463, 505, 465, 506, 467, 477, 478, 479, 480, 469, 903, 904, 905, 497, 454, 497, 498, 499, 500, 456, 500, 501, 502, 474, 458, 902, 894, 895, 896, 486, 897, 898, 899, 900, 1417, 1418, 472, 471, 901].filterMap (fun i => jm_xl[i]?) := rfl
theorem jm_bad3 : (Bundle.ownAtoms0 "CaptureBench" 182 "java/util/NoSuchElementException" jm_ups).filter (fun a => !goodWord a) = [.laysStatic "java/lang/Throwable" "UNASSIGNED_STACK" "[Ljava/lang/StackTraceElement;", .laysStatic "java/lang/Throwable" "SUPPRESSED_SENTINEL" "Ljava/util/List;", .declares ⟨"java/lang/RuntimeException", "<init>", "()V"⟩, .declares ⟨"java/lang/Exception", "<init>", "()V"⟩, .declares ⟨"java/lang/Throwable", "<init>", "()V"⟩, .castable "java/util/NoSuchElementException" "java/util/NoSuchElementException", jm_st1w, jm_st2w] := by decide +kernel
def jm_ic (x : Nat) : Nat := match x with
  | 50 => 88
  | 51 => 128
  | 52 => 143
  | 53 => 182
  | _ => 0
def jm_clx : List (Nat × Nat × Nat) := jm_cls.filter (fun r => decide (50 ≤ r.2.2))
theorem jm_clx_eq : ∀ r ∈ jm_cls, 50 ≤ r.2.2 → r.1 = 0 ∧ (r.2.2 = 50 ∨ r.2.2 = 51 ∨ r.2.2 = 52 ∨ r.2.2 = 53) := by decide +kernel
def jm_clxw (r : Nat × Nat × Nat) : Cond := .classLink (jm_on r.1) r.2.1 (jm_xn r.2.2)
theorem jm_clxk : (decide (jm_clx.map jm_clxw = [451, 651, 695, 893].filterMap (fun i => lw_tbl[i]?)) && (jm_clx.map jm_clxw).all goodWord) = true := by decide +kernel
theorem jm_xik : (decide (([50, 51, 52, 53] : List Nat).map (fun x => Cond.instantiable (jm_xn x) 6) = [452, 652, 696, 894].filterMap (fun i => lw_tbl[i]?)) && (([50, 51, 52, 53] : List Nat).map (fun x => Cond.instantiable (jm_xn x) 6)).all goodWord) = true := by decide +kernel
theorem jm_xjk : (decide (([50, 51, 52, 53] : List Nat).map (fun x => Cond.initialized (jm_xn x)) = [97, 98, 101, 102].filterMap (fun i => lw_tbl[i]?)) && (([50, 51, 52, 53] : List Nat).map (fun x => Cond.initialized (jm_xn x))).all goodWord) = true := by decide +kernel
/-- behind each such new stand dup, the constructor's call, athrow -/
def jm_thb (mi : Nat) (r : Nat × Instr × Nat) : Bool := match r.2.1 with
  | .new x => match jm_cl (jm_oc mi) x with
    | some c => decide (c < 50) || (decide (jm_tab mi (r.1 + 3) = some (.dup, 1)) && (decide (jm_tab mi (r.1 + 4) = some (.invokespecial (jm_ic c), 3)) && decide (jm_tab mi (r.1 + 7) = some (.athrow, 1))))
    | none => true
  | _ => true
theorem jm_thk0 : (List.range' 0 19).all (fun k => (jm_code k).all (jm_thb k)) = true := by decide +kernel
theorem jm_thk1 : (List.range' 19 19).all (fun k => (jm_code k).all (jm_thb k)) = true := by decide +kernel
theorem jm_thk2 : (List.range' 38 19).all (fun k => (jm_code k).all (jm_thb k)) = true := by decide +kernel
theorem jm_thk3 : (List.range' 57 19).all (fun k => (jm_code k).all (jm_thb k)) = true := by decide +kernel
theorem jm_thk4 : (List.range' 76 19).all (fun k => (jm_code k).all (jm_thb k)) = true := by decide +kernel
theorem jm_thk5 : (List.range' 95 19).all (fun k => (jm_code k).all (jm_thb k)) = true := by decide +kernel
theorem jm_thk6 : (List.range' 114 19).all (fun k => (jm_code k).all (jm_thb k)) = true := by decide +kernel
theorem jm_thk7 : (List.range' 133 19).all (fun k => (jm_code k).all (jm_thb k)) = true := by decide +kernel
theorem jm_thk8 : (List.range' 152 19).all (fun k => (jm_code k).all (jm_thb k)) = true := by decide +kernel
theorem jm_thk9 : (List.range' 171 19).all (fun k => (jm_code k).all (jm_thb k)) = true := by decide +kernel
theorem jm_th_ok (k : Nat) (hk : k < 190) : (jm_code k).all (jm_thb k) = true := by
  by_cases q0 : k < 19
  · exact List.all_eq_true.mp jm_thk0 k (List.mem_range'_1.mpr ⟨by omega, by omega⟩)
  by_cases q19 : k < 38
  · exact List.all_eq_true.mp jm_thk1 k (List.mem_range'_1.mpr ⟨by omega, by omega⟩)
  by_cases q38 : k < 57
  · exact List.all_eq_true.mp jm_thk2 k (List.mem_range'_1.mpr ⟨by omega, by omega⟩)
  by_cases q57 : k < 76
  · exact List.all_eq_true.mp jm_thk3 k (List.mem_range'_1.mpr ⟨by omega, by omega⟩)
  by_cases q76 : k < 95
  · exact List.all_eq_true.mp jm_thk4 k (List.mem_range'_1.mpr ⟨by omega, by omega⟩)
  by_cases q95 : k < 114
  · exact List.all_eq_true.mp jm_thk5 k (List.mem_range'_1.mpr ⟨by omega, by omega⟩)
  by_cases q114 : k < 133
  · exact List.all_eq_true.mp jm_thk6 k (List.mem_range'_1.mpr ⟨by omega, by omega⟩)
  by_cases q133 : k < 152
  · exact List.all_eq_true.mp jm_thk7 k (List.mem_range'_1.mpr ⟨by omega, by omega⟩)
  by_cases q152 : k < 171
  · exact List.all_eq_true.mp jm_thk8 k (List.mem_range'_1.mpr ⟨by omega, by omega⟩)
  exact List.all_eq_true.mp jm_thk9 k (List.mem_range'_1.mpr ⟨by omega, by omega⟩)
