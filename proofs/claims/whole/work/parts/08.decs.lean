theorem jm_chunk {l : List (Nat × Instr × Nat)} {P : Nat × Instr × Nat → Bool} : ∀ (n : Nat), (∀ j, j < n → ((l.drop (j * 40)).take 40).all P = true) → l.length ≤ n * 40 → ∀ r ∈ l, P r = true := by
  intro n h hn r hr
  obtain ⟨i, hi, rfl⟩ := List.mem_iff_getElem.mp hr
  have h1 := h (i / 40) (by omega)
  rw [List.all_eq_true] at h1
  apply h1
  rw [List.mem_iff_getElem?]
  refine ⟨i % 40, ?_⟩
  rw [List.getElem?_take, if_pos (by omega), List.getElem?_drop]
  rw [show i / 40 * 40 + i % 40 = i by omega, List.getElem?_eq_getElem hi]
theorem jm_D0 : ∀ r ∈ jm_c0, decode (jm_b 0) r.1 = .ok r.2 := by
  intro r hr
  have h := jm_chunk 20 (fun j hj => by
    match j, hj with
    | 0, _ => exact jm_d0_0
    | 1, _ => exact jm_d0_1
    | 2, _ => exact jm_d0_2
    | 3, _ => exact jm_d0_3
    | 4, _ => exact jm_d0_4
    | 5, _ => exact jm_d0_5
    | 6, _ => exact jm_d0_6
    | 7, _ => exact jm_d0_7
    | 8, _ => exact jm_d0_8
    | 9, _ => exact jm_d0_9
    | 10, _ => exact jm_d0_10
    | 11, _ => exact jm_d0_11
    | 12, _ => exact jm_d0_12
    | 13, _ => exact jm_d0_13
    | 14, _ => exact jm_d0_14
    | 15, _ => exact jm_d0_15
    | 16, _ => exact jm_d0_16
    | 17, _ => exact jm_d0_17
    | 18, _ => exact jm_d0_18
    | 19, _ => exact jm_d0_19
    | j + 20, h => exact absurd h (by omega)) (by decide +kernel) r hr
  exact of_decide_eq_true h
theorem jm_D1 : ∀ r ∈ jm_c1, decode (jm_b 1) r.1 = .ok r.2 := by
  intro r hr
  have h := jm_chunk 3 (fun j hj => by
    match j, hj with
    | 0, _ => exact jm_d1_0
    | 1, _ => exact jm_d1_1
    | 2, _ => exact jm_d1_2
    | j + 3, h => exact absurd h (by omega)) (by decide +kernel) r hr
  exact of_decide_eq_true h
theorem jm_D2 : ∀ r ∈ jm_c2, decode (jm_b 2) r.1 = .ok r.2 := by
  intro r hr
  have h := jm_chunk 2 (fun j hj => by
    match j, hj with
    | 0, _ => exact jm_d2_0
    | 1, _ => exact jm_d2_1
    | j + 2, h => exact absurd h (by omega)) (by decide +kernel) r hr
  exact of_decide_eq_true h
theorem jm_D3 : ∀ r ∈ jm_c3, decode (jm_b 3) r.1 = .ok r.2 := by
  intro r hr
  have h := jm_chunk 1 (fun j hj => by
    match j, hj with
    | 0, _ => exact jm_d3_0
    | j + 1, h => exact absurd h (by omega)) (by decide +kernel) r hr
  exact of_decide_eq_true h
theorem jm_D4 : ∀ r ∈ jm_c4, decode (jm_b 4) r.1 = .ok r.2 := by
  intro r hr
  have h := jm_chunk 2 (fun j hj => by
    match j, hj with
    | 0, _ => exact jm_d4_0
    | 1, _ => exact jm_d4_1
    | j + 2, h => exact absurd h (by omega)) (by decide +kernel) r hr
  exact of_decide_eq_true h
theorem jm_D5 : ∀ r ∈ jm_c5, decode (jm_b 5) r.1 = .ok r.2 := by
  intro r hr
  have h := jm_chunk 1 (fun j hj => by
    match j, hj with
    | 0, _ => exact jm_d5_0
    | j + 1, h => exact absurd h (by omega)) (by decide +kernel) r hr
  exact of_decide_eq_true h
theorem jm_D6 : ∀ r ∈ jm_c6, decode (jm_b 6) r.1 = .ok r.2 := by
  intro r hr
  have h := jm_chunk 1 (fun j hj => by
    match j, hj with
    | 0, _ => exact jm_d6_0
    | j + 1, h => exact absurd h (by omega)) (by decide +kernel) r hr
  exact of_decide_eq_true h
theorem jm_D7 : ∀ r ∈ jm_c7, decode (jm_b 7) r.1 = .ok r.2 := by
  intro r hr
  have h := jm_chunk 3 (fun j hj => by
    match j, hj with
    | 0, _ => exact jm_d7_0
    | 1, _ => exact jm_d7_1
    | 2, _ => exact jm_d7_2
    | j + 3, h => exact absurd h (by omega)) (by decide +kernel) r hr
  exact of_decide_eq_true h
theorem jm_D8 : ∀ r ∈ jm_c8, decode (jm_b 8) r.1 = .ok r.2 := by
  intro r hr
  have h := jm_chunk 2 (fun j hj => by
    match j, hj with
    | 0, _ => exact jm_d8_0
    | 1, _ => exact jm_d8_1
    | j + 2, h => exact absurd h (by omega)) (by decide +kernel) r hr
  exact of_decide_eq_true h
theorem jm_D9 : ∀ r ∈ jm_c9, decode (jm_b 9) r.1 = .ok r.2 := by
  intro r hr
  have h := jm_chunk 1 (fun j hj => by
    match j, hj with
    | 0, _ => exact jm_d9_0
    | j + 1, h => exact absurd h (by omega)) (by decide +kernel) r hr
  exact of_decide_eq_true h
theorem jm_D10 : ∀ r ∈ jm_c10, decode (jm_b 10) r.1 = .ok r.2 := by
  intro r hr
  have h := jm_chunk 1 (fun j hj => by
    match j, hj with
    | 0, _ => exact jm_d10_0
    | j + 1, h => exact absurd h (by omega)) (by decide +kernel) r hr
  exact of_decide_eq_true h
theorem jm_D11 : ∀ r ∈ jm_c11, decode (jm_b 11) r.1 = .ok r.2 := by
  intro r hr
  have h := jm_chunk 1 (fun j hj => by
    match j, hj with
    | 0, _ => exact jm_d11_0
    | j + 1, h => exact absurd h (by omega)) (by decide +kernel) r hr
  exact of_decide_eq_true h
theorem jm_D12 : ∀ r ∈ jm_c12, decode (jm_b 12) r.1 = .ok r.2 := by
  intro r hr
  have h := jm_chunk 1 (fun j hj => by
    match j, hj with
    | 0, _ => exact jm_d12_0
    | j + 1, h => exact absurd h (by omega)) (by decide +kernel) r hr
  exact of_decide_eq_true h
theorem jm_D13 : ∀ r ∈ jm_c13, decode (jm_b 13) r.1 = .ok r.2 := by
  intro r hr
  have h := jm_chunk 1 (fun j hj => by
    match j, hj with
    | 0, _ => exact jm_d13_0
    | j + 1, h => exact absurd h (by omega)) (by decide +kernel) r hr
  exact of_decide_eq_true h
theorem jm_D14 : ∀ r ∈ jm_c14, decode (jm_b 14) r.1 = .ok r.2 := by
  intro r hr
  have h := jm_chunk 1 (fun j hj => by
    match j, hj with
    | 0, _ => exact jm_d14_0
    | j + 1, h => exact absurd h (by omega)) (by decide +kernel) r hr
  exact of_decide_eq_true h
theorem jm_D15 : ∀ r ∈ jm_c15, decode (jm_b 15) r.1 = .ok r.2 := by
  intro r hr
  have h := jm_chunk 3 (fun j hj => by
    match j, hj with
    | 0, _ => exact jm_d15_0
    | 1, _ => exact jm_d15_1
    | 2, _ => exact jm_d15_2
    | j + 3, h => exact absurd h (by omega)) (by decide +kernel) r hr
  exact of_decide_eq_true h
theorem jm_D16 : ∀ r ∈ jm_c16, decode (jm_b 16) r.1 = .ok r.2 := by
  intro r hr
  have h := jm_chunk 2 (fun j hj => by
    match j, hj with
    | 0, _ => exact jm_d16_0
    | 1, _ => exact jm_d16_1
    | j + 2, h => exact absurd h (by omega)) (by decide +kernel) r hr
  exact of_decide_eq_true h
theorem jm_D17 : ∀ r ∈ jm_c17, decode (jm_b 17) r.1 = .ok r.2 := by
  intro r hr
  have h := jm_chunk 1 (fun j hj => by
    match j, hj with
    | 0, _ => exact jm_d17_0
    | j + 1, h => exact absurd h (by omega)) (by decide +kernel) r hr
  exact of_decide_eq_true h
theorem jm_D18 : ∀ r ∈ jm_c18, decode (jm_b 18) r.1 = .ok r.2 := by
  intro r hr
  have h := jm_chunk 3 (fun j hj => by
    match j, hj with
    | 0, _ => exact jm_d18_0
    | 1, _ => exact jm_d18_1
    | 2, _ => exact jm_d18_2
    | j + 3, h => exact absurd h (by omega)) (by decide +kernel) r hr
  exact of_decide_eq_true h
theorem jm_D19 : ∀ r ∈ jm_c19, decode (jm_b 19) r.1 = .ok r.2 := by
  intro r hr
  have h := jm_chunk 1 (fun j hj => by
    match j, hj with
    | 0, _ => exact jm_d19_0
    | j + 1, h => exact absurd h (by omega)) (by decide +kernel) r hr
  exact of_decide_eq_true h
theorem jm_D20 : ∀ r ∈ jm_c20, decode (jm_b 20) r.1 = .ok r.2 := by
  intro r hr
  have h := jm_chunk 1 (fun j hj => by
    match j, hj with
    | 0, _ => exact jm_d20_0
    | j + 1, h => exact absurd h (by omega)) (by decide +kernel) r hr
  exact of_decide_eq_true h
theorem jm_D21 : ∀ r ∈ jm_c21, decode (jm_b 21) r.1 = .ok r.2 := by
  intro r hr
  have h := jm_chunk 1 (fun j hj => by
    match j, hj with
    | 0, _ => exact jm_d21_0
    | j + 1, h => exact absurd h (by omega)) (by decide +kernel) r hr
  exact of_decide_eq_true h
theorem jm_D22 : ∀ r ∈ jm_c22, decode (jm_b 22) r.1 = .ok r.2 := by
  intro r hr
  have h := jm_chunk 1 (fun j hj => by
    match j, hj with
    | 0, _ => exact jm_d22_0
    | j + 1, h => exact absurd h (by omega)) (by decide +kernel) r hr
  exact of_decide_eq_true h
theorem jm_D23 : ∀ r ∈ jm_c23, decode (jm_b 23) r.1 = .ok r.2 := by
  intro r hr
  have h := jm_chunk 1 (fun j hj => by
    match j, hj with
    | 0, _ => exact jm_d23_0
    | j + 1, h => exact absurd h (by omega)) (by decide +kernel) r hr
  exact of_decide_eq_true h
theorem jm_D24 : ∀ r ∈ jm_c24, decode (jm_b 24) r.1 = .ok r.2 := by
  intro r hr
  have h := jm_chunk 1 (fun j hj => by
    match j, hj with
    | 0, _ => exact jm_d24_0
    | j + 1, h => exact absurd h (by omega)) (by decide +kernel) r hr
  exact of_decide_eq_true h
theorem jm_D25 : ∀ r ∈ jm_c25, decode (jm_b 25) r.1 = .ok r.2 := by
  intro r hr
  have h := jm_chunk 1 (fun j hj => by
    match j, hj with
    | 0, _ => exact jm_d25_0
    | j + 1, h => exact absurd h (by omega)) (by decide +kernel) r hr
  exact of_decide_eq_true h
theorem jm_D26 : ∀ r ∈ jm_c26, decode (jm_b 26) r.1 = .ok r.2 := by
  intro r hr
  have h := jm_chunk 1 (fun j hj => by
    match j, hj with
    | 0, _ => exact jm_d26_0
    | j + 1, h => exact absurd h (by omega)) (by decide +kernel) r hr
  exact of_decide_eq_true h
theorem jm_D27 : ∀ r ∈ jm_c27, decode (jm_b 27) r.1 = .ok r.2 := by
  intro r hr
  have h := jm_chunk 1 (fun j hj => by
    match j, hj with
    | 0, _ => exact jm_d27_0
    | j + 1, h => exact absurd h (by omega)) (by decide +kernel) r hr
  exact of_decide_eq_true h
theorem jm_D28 : ∀ r ∈ jm_c28, decode (jm_b 28) r.1 = .ok r.2 := by
  intro r hr
  have h := jm_chunk 1 (fun j hj => by
    match j, hj with
    | 0, _ => exact jm_d28_0
    | j + 1, h => exact absurd h (by omega)) (by decide +kernel) r hr
  exact of_decide_eq_true h
theorem jm_D29 : ∀ r ∈ jm_c29, decode (jm_b 29) r.1 = .ok r.2 := by
  intro r hr
  have h := jm_chunk 1 (fun j hj => by
    match j, hj with
    | 0, _ => exact jm_d29_0
    | j + 1, h => exact absurd h (by omega)) (by decide +kernel) r hr
  exact of_decide_eq_true h
theorem jm_D30 : ∀ r ∈ jm_c30, decode (jm_b 30) r.1 = .ok r.2 := by
  intro r hr
  have h := jm_chunk 1 (fun j hj => by
    match j, hj with
    | 0, _ => exact jm_d30_0
    | j + 1, h => exact absurd h (by omega)) (by decide +kernel) r hr
  exact of_decide_eq_true h
theorem jm_D31 : ∀ r ∈ jm_c31, decode (jm_b 31) r.1 = .ok r.2 := by
  intro r hr
  have h := jm_chunk 1 (fun j hj => by
    match j, hj with
    | 0, _ => exact jm_d31_0
    | j + 1, h => exact absurd h (by omega)) (by decide +kernel) r hr
  exact of_decide_eq_true h
theorem jm_D32 : ∀ r ∈ jm_c32, decode (jm_b 32) r.1 = .ok r.2 := by
  intro r hr
  have h := jm_chunk 1 (fun j hj => by
    match j, hj with
    | 0, _ => exact jm_d32_0
    | j + 1, h => exact absurd h (by omega)) (by decide +kernel) r hr
  exact of_decide_eq_true h
theorem jm_D33 : ∀ r ∈ jm_c33, decode (jm_b 33) r.1 = .ok r.2 := by
  intro r hr
  have h := jm_chunk 1 (fun j hj => by
    match j, hj with
    | 0, _ => exact jm_d33_0
    | j + 1, h => exact absurd h (by omega)) (by decide +kernel) r hr
  exact of_decide_eq_true h
theorem jm_D34 : ∀ r ∈ jm_c34, decode (jm_b 34) r.1 = .ok r.2 := by
  intro r hr
  have h := jm_chunk 1 (fun j hj => by
    match j, hj with
    | 0, _ => exact jm_d34_0
    | j + 1, h => exact absurd h (by omega)) (by decide +kernel) r hr
  exact of_decide_eq_true h
theorem jm_D35 : ∀ r ∈ jm_c35, decode (jm_b 35) r.1 = .ok r.2 := by
  intro r hr
  have h := jm_chunk 1 (fun j hj => by
    match j, hj with
    | 0, _ => exact jm_d35_0
    | j + 1, h => exact absurd h (by omega)) (by decide +kernel) r hr
  exact of_decide_eq_true h
theorem jm_D36 : ∀ r ∈ jm_c36, decode (jm_b 36) r.1 = .ok r.2 := by
  intro r hr
  have h := jm_chunk 1 (fun j hj => by
    match j, hj with
    | 0, _ => exact jm_d36_0
    | j + 1, h => exact absurd h (by omega)) (by decide +kernel) r hr
  exact of_decide_eq_true h
theorem jm_D37 : ∀ r ∈ jm_c37, decode (jm_b 37) r.1 = .ok r.2 := by
  intro r hr
  have h := jm_chunk 1 (fun j hj => by
    match j, hj with
    | 0, _ => exact jm_d37_0
    | j + 1, h => exact absurd h (by omega)) (by decide +kernel) r hr
  exact of_decide_eq_true h
theorem jm_D38 : ∀ r ∈ jm_c38, decode (jm_b 38) r.1 = .ok r.2 := by
  intro r hr
  have h := jm_chunk 1 (fun j hj => by
    match j, hj with
    | 0, _ => exact jm_d38_0
    | j + 1, h => exact absurd h (by omega)) (by decide +kernel) r hr
  exact of_decide_eq_true h
theorem jm_D39 : ∀ r ∈ jm_c39, decode (jm_b 39) r.1 = .ok r.2 := by
  intro r hr
  have h := jm_chunk 1 (fun j hj => by
    match j, hj with
    | 0, _ => exact jm_d39_0
    | j + 1, h => exact absurd h (by omega)) (by decide +kernel) r hr
  exact of_decide_eq_true h
theorem jm_D40 : ∀ r ∈ jm_c40, decode (jm_b 40) r.1 = .ok r.2 := by
  intro r hr
  have h := jm_chunk 2 (fun j hj => by
    match j, hj with
    | 0, _ => exact jm_d40_0
    | 1, _ => exact jm_d40_1
    | j + 2, h => exact absurd h (by omega)) (by decide +kernel) r hr
  exact of_decide_eq_true h
theorem jm_D41 : ∀ r ∈ jm_c41, decode (jm_b 41) r.1 = .ok r.2 := by
  intro r hr
  have h := jm_chunk 1 (fun j hj => by
    match j, hj with
    | 0, _ => exact jm_d41_0
    | j + 1, h => exact absurd h (by omega)) (by decide +kernel) r hr
  exact of_decide_eq_true h
theorem jm_D42 : ∀ r ∈ jm_c42, decode (jm_b 42) r.1 = .ok r.2 := by
  intro r hr
  have h := jm_chunk 2 (fun j hj => by
    match j, hj with
    | 0, _ => exact jm_d42_0
    | 1, _ => exact jm_d42_1
    | j + 2, h => exact absurd h (by omega)) (by decide +kernel) r hr
  exact of_decide_eq_true h
theorem jm_D43 : ∀ r ∈ jm_c43, decode (jm_b 43) r.1 = .ok r.2 := by
  intro r hr
  have h := jm_chunk 1 (fun j hj => by
    match j, hj with
    | 0, _ => exact jm_d43_0
    | j + 1, h => exact absurd h (by omega)) (by decide +kernel) r hr
  exact of_decide_eq_true h
theorem jm_D44 : ∀ r ∈ jm_c44, decode (jm_b 44) r.1 = .ok r.2 := by
  intro r hr
  have h := jm_chunk 2 (fun j hj => by
    match j, hj with
    | 0, _ => exact jm_d44_0
    | 1, _ => exact jm_d44_1
    | j + 2, h => exact absurd h (by omega)) (by decide +kernel) r hr
  exact of_decide_eq_true h
theorem jm_D45 : ∀ r ∈ jm_c45, decode (jm_b 45) r.1 = .ok r.2 := by
  intro r hr
  have h := jm_chunk 1 (fun j hj => by
    match j, hj with
    | 0, _ => exact jm_d45_0
    | j + 1, h => exact absurd h (by omega)) (by decide +kernel) r hr
  exact of_decide_eq_true h
theorem jm_D46 : ∀ r ∈ jm_c46, decode (jm_b 46) r.1 = .ok r.2 := by
  intro r hr
  have h := jm_chunk 2 (fun j hj => by
    match j, hj with
    | 0, _ => exact jm_d46_0
    | 1, _ => exact jm_d46_1
    | j + 2, h => exact absurd h (by omega)) (by decide +kernel) r hr
  exact of_decide_eq_true h
theorem jm_D47 : ∀ r ∈ jm_c47, decode (jm_b 47) r.1 = .ok r.2 := by
  intro r hr
  have h := jm_chunk 2 (fun j hj => by
    match j, hj with
    | 0, _ => exact jm_d47_0
    | 1, _ => exact jm_d47_1
    | j + 2, h => exact absurd h (by omega)) (by decide +kernel) r hr
  exact of_decide_eq_true h
theorem jm_D48 : ∀ r ∈ jm_c48, decode (jm_b 48) r.1 = .ok r.2 := by
  intro r hr
  have h := jm_chunk 1 (fun j hj => by
    match j, hj with
    | 0, _ => exact jm_d48_0
    | j + 1, h => exact absurd h (by omega)) (by decide +kernel) r hr
  exact of_decide_eq_true h
theorem jm_D49 : ∀ r ∈ jm_c49, decode (jm_b 49) r.1 = .ok r.2 := by
  intro r hr
  have h := jm_chunk 1 (fun j hj => by
    match j, hj with
    | 0, _ => exact jm_d49_0
    | j + 1, h => exact absurd h (by omega)) (by decide +kernel) r hr
  exact of_decide_eq_true h
theorem jm_D50 : ∀ r ∈ jm_c50, decode (jm_b 50) r.1 = .ok r.2 := by
  intro r hr
  have h := jm_chunk 1 (fun j hj => by
    match j, hj with
    | 0, _ => exact jm_d50_0
    | j + 1, h => exact absurd h (by omega)) (by decide +kernel) r hr
  exact of_decide_eq_true h
theorem jm_D51 : ∀ r ∈ jm_c51, decode (jm_b 51) r.1 = .ok r.2 := by
  intro r hr
  have h := jm_chunk 1 (fun j hj => by
    match j, hj with
    | 0, _ => exact jm_d51_0
    | j + 1, h => exact absurd h (by omega)) (by decide +kernel) r hr
  exact of_decide_eq_true h
theorem jm_D52 : ∀ r ∈ jm_c52, decode (jm_b 52) r.1 = .ok r.2 := by
  intro r hr
  have h := jm_chunk 1 (fun j hj => by
    match j, hj with
    | 0, _ => exact jm_d52_0
    | j + 1, h => exact absurd h (by omega)) (by decide +kernel) r hr
  exact of_decide_eq_true h
theorem jm_D53 : ∀ r ∈ jm_c53, decode (jm_b 53) r.1 = .ok r.2 := by
  intro r hr
  have h := jm_chunk 1 (fun j hj => by
    match j, hj with
    | 0, _ => exact jm_d53_0
    | j + 1, h => exact absurd h (by omega)) (by decide +kernel) r hr
  exact of_decide_eq_true h
theorem jm_D54 : ∀ r ∈ jm_c54, decode (jm_b 54) r.1 = .ok r.2 := by
  intro r hr
  have h := jm_chunk 1 (fun j hj => by
    match j, hj with
    | 0, _ => exact jm_d54_0
    | j + 1, h => exact absurd h (by omega)) (by decide +kernel) r hr
  exact of_decide_eq_true h
theorem jm_D55 : ∀ r ∈ jm_c55, decode (jm_b 55) r.1 = .ok r.2 := by
  intro r hr
  have h := jm_chunk 2 (fun j hj => by
    match j, hj with
    | 0, _ => exact jm_d55_0
    | 1, _ => exact jm_d55_1
    | j + 2, h => exact absurd h (by omega)) (by decide +kernel) r hr
  exact of_decide_eq_true h
theorem jm_D56 : ∀ r ∈ jm_c56, decode (jm_b 56) r.1 = .ok r.2 := by
  intro r hr
  have h := jm_chunk 1 (fun j hj => by
    match j, hj with
    | 0, _ => exact jm_d56_0
    | j + 1, h => exact absurd h (by omega)) (by decide +kernel) r hr
  exact of_decide_eq_true h
theorem jm_D57 : ∀ r ∈ jm_c57, decode (jm_b 57) r.1 = .ok r.2 := by
  intro r hr
  have h := jm_chunk 1 (fun j hj => by
    match j, hj with
    | 0, _ => exact jm_d57_0
    | j + 1, h => exact absurd h (by omega)) (by decide +kernel) r hr
  exact of_decide_eq_true h
theorem jm_D58 : ∀ r ∈ jm_c58, decode (jm_b 58) r.1 = .ok r.2 := by
  intro r hr
  have h := jm_chunk 2 (fun j hj => by
    match j, hj with
    | 0, _ => exact jm_d58_0
    | 1, _ => exact jm_d58_1
    | j + 2, h => exact absurd h (by omega)) (by decide +kernel) r hr
  exact of_decide_eq_true h
theorem jm_D59 : ∀ r ∈ jm_c59, decode (jm_b 59) r.1 = .ok r.2 := by
  intro r hr
  have h := jm_chunk 1 (fun j hj => by
    match j, hj with
    | 0, _ => exact jm_d59_0
    | j + 1, h => exact absurd h (by omega)) (by decide +kernel) r hr
  exact of_decide_eq_true h
theorem jm_D60 : ∀ r ∈ jm_c60, decode (jm_b 60) r.1 = .ok r.2 := by
  intro r hr
  have h := jm_chunk 2 (fun j hj => by
    match j, hj with
    | 0, _ => exact jm_d60_0
    | 1, _ => exact jm_d60_1
    | j + 2, h => exact absurd h (by omega)) (by decide +kernel) r hr
  exact of_decide_eq_true h
theorem jm_D61 : ∀ r ∈ jm_c61, decode (jm_b 61) r.1 = .ok r.2 := by
  intro r hr
  have h := jm_chunk 1 (fun j hj => by
    match j, hj with
    | 0, _ => exact jm_d61_0
    | j + 1, h => exact absurd h (by omega)) (by decide +kernel) r hr
  exact of_decide_eq_true h
theorem jm_D62 : ∀ r ∈ jm_c62, decode (jm_b 62) r.1 = .ok r.2 := by
  intro r hr
  have h := jm_chunk 2 (fun j hj => by
    match j, hj with
    | 0, _ => exact jm_d62_0
    | 1, _ => exact jm_d62_1
    | j + 2, h => exact absurd h (by omega)) (by decide +kernel) r hr
  exact of_decide_eq_true h
theorem jm_D63 : ∀ r ∈ jm_c63, decode (jm_b 63) r.1 = .ok r.2 := by
  intro r hr
  have h := jm_chunk 1 (fun j hj => by
    match j, hj with
    | 0, _ => exact jm_d63_0
    | j + 1, h => exact absurd h (by omega)) (by decide +kernel) r hr
  exact of_decide_eq_true h
theorem jm_D64 : ∀ r ∈ jm_c64, decode (jm_b 64) r.1 = .ok r.2 := by
  intro r hr
  have h := jm_chunk 2 (fun j hj => by
    match j, hj with
    | 0, _ => exact jm_d64_0
    | 1, _ => exact jm_d64_1
    | j + 2, h => exact absurd h (by omega)) (by decide +kernel) r hr
  exact of_decide_eq_true h
theorem jm_D65 : ∀ r ∈ jm_c65, decode (jm_b 65) r.1 = .ok r.2 := by
  intro r hr
  have h := jm_chunk 1 (fun j hj => by
    match j, hj with
    | 0, _ => exact jm_d65_0
    | j + 1, h => exact absurd h (by omega)) (by decide +kernel) r hr
  exact of_decide_eq_true h
theorem jm_D66 : ∀ r ∈ jm_c66, decode (jm_b 66) r.1 = .ok r.2 := by
  intro r hr
  have h := jm_chunk 2 (fun j hj => by
    match j, hj with
    | 0, _ => exact jm_d66_0
    | 1, _ => exact jm_d66_1
    | j + 2, h => exact absurd h (by omega)) (by decide +kernel) r hr
  exact of_decide_eq_true h
theorem jm_D67 : ∀ r ∈ jm_c67, decode (jm_b 67) r.1 = .ok r.2 := by
  intro r hr
  have h := jm_chunk 1 (fun j hj => by
    match j, hj with
    | 0, _ => exact jm_d67_0
    | j + 1, h => exact absurd h (by omega)) (by decide +kernel) r hr
  exact of_decide_eq_true h
theorem jm_D68 : ∀ r ∈ jm_c68, decode (jm_b 68) r.1 = .ok r.2 := by
  intro r hr
  have h := jm_chunk 2 (fun j hj => by
    match j, hj with
    | 0, _ => exact jm_d68_0
    | 1, _ => exact jm_d68_1
    | j + 2, h => exact absurd h (by omega)) (by decide +kernel) r hr
  exact of_decide_eq_true h
theorem jm_D69 : ∀ r ∈ jm_c69, decode (jm_b 69) r.1 = .ok r.2 := by
  intro r hr
  have h := jm_chunk 3 (fun j hj => by
    match j, hj with
    | 0, _ => exact jm_d69_0
    | 1, _ => exact jm_d69_1
    | 2, _ => exact jm_d69_2
    | j + 3, h => exact absurd h (by omega)) (by decide +kernel) r hr
  exact of_decide_eq_true h
theorem jm_D70 : ∀ r ∈ jm_c70, decode (jm_b 70) r.1 = .ok r.2 := by
  intro r hr
  have h := jm_chunk 2 (fun j hj => by
    match j, hj with
    | 0, _ => exact jm_d70_0
    | 1, _ => exact jm_d70_1
    | j + 2, h => exact absurd h (by omega)) (by decide +kernel) r hr
  exact of_decide_eq_true h
theorem jm_D71 : ∀ r ∈ jm_c71, decode (jm_b 71) r.1 = .ok r.2 := by
  intro r hr
  have h := jm_chunk 1 (fun j hj => by
    match j, hj with
    | 0, _ => exact jm_d71_0
    | j + 1, h => exact absurd h (by omega)) (by decide +kernel) r hr
  exact of_decide_eq_true h
theorem jm_D72 : ∀ r ∈ jm_c72, decode (jm_b 72) r.1 = .ok r.2 := by
  intro r hr
  have h := jm_chunk 1 (fun j hj => by
    match j, hj with
    | 0, _ => exact jm_d72_0
    | j + 1, h => exact absurd h (by omega)) (by decide +kernel) r hr
  exact of_decide_eq_true h
theorem jm_D73 : ∀ r ∈ jm_c73, decode (jm_b 73) r.1 = .ok r.2 := by
  intro r hr
  have h := jm_chunk 1 (fun j hj => by
    match j, hj with
    | 0, _ => exact jm_d73_0
    | j + 1, h => exact absurd h (by omega)) (by decide +kernel) r hr
  exact of_decide_eq_true h
theorem jm_D74 : ∀ r ∈ jm_c74, decode (jm_b 74) r.1 = .ok r.2 := by
  intro r hr
  have h := jm_chunk 1 (fun j hj => by
    match j, hj with
    | 0, _ => exact jm_d74_0
    | j + 1, h => exact absurd h (by omega)) (by decide +kernel) r hr
  exact of_decide_eq_true h
theorem jm_D75 : ∀ r ∈ jm_c75, decode (jm_b 75) r.1 = .ok r.2 := by
  intro r hr
  have h := jm_chunk 2 (fun j hj => by
    match j, hj with
    | 0, _ => exact jm_d75_0
    | 1, _ => exact jm_d75_1
    | j + 2, h => exact absurd h (by omega)) (by decide +kernel) r hr
  exact of_decide_eq_true h
theorem jm_D76 : ∀ r ∈ jm_c76, decode (jm_b 76) r.1 = .ok r.2 := by
  intro r hr
  have h := jm_chunk 1 (fun j hj => by
    match j, hj with
    | 0, _ => exact jm_d76_0
    | j + 1, h => exact absurd h (by omega)) (by decide +kernel) r hr
  exact of_decide_eq_true h
theorem jm_D77 : ∀ r ∈ jm_c77, decode (jm_b 77) r.1 = .ok r.2 := by
  intro r hr
  have h := jm_chunk 1 (fun j hj => by
    match j, hj with
    | 0, _ => exact jm_d77_0
    | j + 1, h => exact absurd h (by omega)) (by decide +kernel) r hr
  exact of_decide_eq_true h
theorem jm_D78 : ∀ r ∈ jm_c78, decode (jm_b 78) r.1 = .ok r.2 := by
  intro r hr
  have h := jm_chunk 1 (fun j hj => by
    match j, hj with
    | 0, _ => exact jm_d78_0
    | j + 1, h => exact absurd h (by omega)) (by decide +kernel) r hr
  exact of_decide_eq_true h
theorem jm_D79 : ∀ r ∈ jm_c79, decode (jm_b 79) r.1 = .ok r.2 := by
  intro r hr
  have h := jm_chunk 1 (fun j hj => by
    match j, hj with
    | 0, _ => exact jm_d79_0
    | j + 1, h => exact absurd h (by omega)) (by decide +kernel) r hr
  exact of_decide_eq_true h
theorem jm_D80 : ∀ r ∈ jm_c80, decode (jm_b 80) r.1 = .ok r.2 := by
  intro r hr
  have h := jm_chunk 2 (fun j hj => by
    match j, hj with
    | 0, _ => exact jm_d80_0
    | 1, _ => exact jm_d80_1
    | j + 2, h => exact absurd h (by omega)) (by decide +kernel) r hr
  exact of_decide_eq_true h
theorem jm_D81 : ∀ r ∈ jm_c81, decode (jm_b 81) r.1 = .ok r.2 := by
  intro r hr
  have h := jm_chunk 1 (fun j hj => by
    match j, hj with
    | 0, _ => exact jm_d81_0
    | j + 1, h => exact absurd h (by omega)) (by decide +kernel) r hr
  exact of_decide_eq_true h
theorem jm_D82 : ∀ r ∈ jm_c82, decode (jm_b 82) r.1 = .ok r.2 := by
  intro r hr
  have h := jm_chunk 1 (fun j hj => by
    match j, hj with
    | 0, _ => exact jm_d82_0
    | j + 1, h => exact absurd h (by omega)) (by decide +kernel) r hr
  exact of_decide_eq_true h
theorem jm_D83 : ∀ r ∈ jm_c83, decode (jm_b 83) r.1 = .ok r.2 := by
  intro r hr
  have h := jm_chunk 1 (fun j hj => by
    match j, hj with
    | 0, _ => exact jm_d83_0
    | j + 1, h => exact absurd h (by omega)) (by decide +kernel) r hr
  exact of_decide_eq_true h
theorem jm_D84 : ∀ r ∈ jm_c84, decode (jm_b 84) r.1 = .ok r.2 := by
  intro r hr
  have h := jm_chunk 1 (fun j hj => by
    match j, hj with
    | 0, _ => exact jm_d84_0
    | j + 1, h => exact absurd h (by omega)) (by decide +kernel) r hr
  exact of_decide_eq_true h
theorem jm_D85 : ∀ r ∈ jm_c85, decode (jm_b 85) r.1 = .ok r.2 := by
  intro r hr
  have h := jm_chunk 1 (fun j hj => by
    match j, hj with
    | 0, _ => exact jm_d85_0
    | j + 1, h => exact absurd h (by omega)) (by decide +kernel) r hr
  exact of_decide_eq_true h
theorem jm_D86 : ∀ r ∈ jm_c86, decode (jm_b 86) r.1 = .ok r.2 := by
  intro r hr
  have h := jm_chunk 1 (fun j hj => by
    match j, hj with
    | 0, _ => exact jm_d86_0
    | j + 1, h => exact absurd h (by omega)) (by decide +kernel) r hr
  exact of_decide_eq_true h
theorem jm_D87 : ∀ r ∈ jm_c87, decode (jm_b 87) r.1 = .ok r.2 := by
  intro r hr
  have h := jm_chunk 2 (fun j hj => by
    match j, hj with
    | 0, _ => exact jm_d87_0
    | 1, _ => exact jm_d87_1
    | j + 2, h => exact absurd h (by omega)) (by decide +kernel) r hr
  exact of_decide_eq_true h
theorem jm_D88 : ∀ r ∈ jm_c88, decode (jm_b 88) r.1 = .ok r.2 := by
  intro r hr
  have h := jm_chunk 2 (fun j hj => by
    match j, hj with
    | 0, _ => exact jm_d88_0
    | 1, _ => exact jm_d88_1
    | j + 2, h => exact absurd h (by omega)) (by decide +kernel) r hr
  exact of_decide_eq_true h
theorem jm_D89 : ∀ r ∈ jm_c89, decode (jm_b 89) r.1 = .ok r.2 := by
  intro r hr
  have h := jm_chunk 2 (fun j hj => by
    match j, hj with
    | 0, _ => exact jm_d89_0
    | 1, _ => exact jm_d89_1
    | j + 2, h => exact absurd h (by omega)) (by decide +kernel) r hr
  exact of_decide_eq_true h
theorem jm_D90 : ∀ r ∈ jm_c90, decode (jm_b 90) r.1 = .ok r.2 := by
  intro r hr
  have h := jm_chunk 3 (fun j hj => by
    match j, hj with
    | 0, _ => exact jm_d90_0
    | 1, _ => exact jm_d90_1
    | 2, _ => exact jm_d90_2
    | j + 3, h => exact absurd h (by omega)) (by decide +kernel) r hr
  exact of_decide_eq_true h
theorem jm_D91 : ∀ r ∈ jm_c91, decode (jm_b 91) r.1 = .ok r.2 := by
  intro r hr
  have h := jm_chunk 2 (fun j hj => by
    match j, hj with
    | 0, _ => exact jm_d91_0
    | 1, _ => exact jm_d91_1
    | j + 2, h => exact absurd h (by omega)) (by decide +kernel) r hr
  exact of_decide_eq_true h
theorem jm_D92 : ∀ r ∈ jm_c92, decode (jm_b 92) r.1 = .ok r.2 := by
  intro r hr
  have h := jm_chunk 1 (fun j hj => by
    match j, hj with
    | 0, _ => exact jm_d92_0
    | j + 1, h => exact absurd h (by omega)) (by decide +kernel) r hr
  exact of_decide_eq_true h
theorem jm_D93 : ∀ r ∈ jm_c93, decode (jm_b 93) r.1 = .ok r.2 := by
  intro r hr
  have h := jm_chunk 2 (fun j hj => by
    match j, hj with
    | 0, _ => exact jm_d93_0
    | 1, _ => exact jm_d93_1
    | j + 2, h => exact absurd h (by omega)) (by decide +kernel) r hr
  exact of_decide_eq_true h
theorem jm_D94 : ∀ r ∈ jm_c94, decode (jm_b 94) r.1 = .ok r.2 := by
  intro r hr
  have h := jm_chunk 1 (fun j hj => by
    match j, hj with
    | 0, _ => exact jm_d94_0
    | j + 1, h => exact absurd h (by omega)) (by decide +kernel) r hr
  exact of_decide_eq_true h
theorem jm_D95 : ∀ r ∈ jm_c95, decode (jm_b 95) r.1 = .ok r.2 := by
  intro r hr
  have h := jm_chunk 1 (fun j hj => by
    match j, hj with
    | 0, _ => exact jm_d95_0
    | j + 1, h => exact absurd h (by omega)) (by decide +kernel) r hr
  exact of_decide_eq_true h
theorem jm_D96 : ∀ r ∈ jm_c96, decode (jm_b 96) r.1 = .ok r.2 := by
  intro r hr
  have h := jm_chunk 1 (fun j hj => by
    match j, hj with
    | 0, _ => exact jm_d96_0
    | j + 1, h => exact absurd h (by omega)) (by decide +kernel) r hr
  exact of_decide_eq_true h
theorem jm_D97 : ∀ r ∈ jm_c97, decode (jm_b 97) r.1 = .ok r.2 := by
  intro r hr
  have h := jm_chunk 1 (fun j hj => by
    match j, hj with
    | 0, _ => exact jm_d97_0
    | j + 1, h => exact absurd h (by omega)) (by decide +kernel) r hr
  exact of_decide_eq_true h
theorem jm_D98 : ∀ r ∈ jm_c98, decode (jm_b 98) r.1 = .ok r.2 := by
  intro r hr
  have h := jm_chunk 1 (fun j hj => by
    match j, hj with
    | 0, _ => exact jm_d98_0
    | j + 1, h => exact absurd h (by omega)) (by decide +kernel) r hr
  exact of_decide_eq_true h
theorem jm_D99 : ∀ r ∈ jm_c99, decode (jm_b 99) r.1 = .ok r.2 := by
  intro r hr
  have h := jm_chunk 2 (fun j hj => by
    match j, hj with
    | 0, _ => exact jm_d99_0
    | 1, _ => exact jm_d99_1
    | j + 2, h => exact absurd h (by omega)) (by decide +kernel) r hr
  exact of_decide_eq_true h
theorem jm_D100 : ∀ r ∈ jm_c100, decode (jm_b 100) r.1 = .ok r.2 := by
  intro r hr
  have h := jm_chunk 1 (fun j hj => by
    match j, hj with
    | 0, _ => exact jm_d100_0
    | j + 1, h => exact absurd h (by omega)) (by decide +kernel) r hr
  exact of_decide_eq_true h
theorem jm_D101 : ∀ r ∈ jm_c101, decode (jm_b 101) r.1 = .ok r.2 := by
  intro r hr
  have h := jm_chunk 1 (fun j hj => by
    match j, hj with
    | 0, _ => exact jm_d101_0
    | j + 1, h => exact absurd h (by omega)) (by decide +kernel) r hr
  exact of_decide_eq_true h
theorem jm_D102 : ∀ r ∈ jm_c102, decode (jm_b 102) r.1 = .ok r.2 := by
  intro r hr
  have h := jm_chunk 1 (fun j hj => by
    match j, hj with
    | 0, _ => exact jm_d102_0
    | j + 1, h => exact absurd h (by omega)) (by decide +kernel) r hr
  exact of_decide_eq_true h
theorem jm_D103 : ∀ r ∈ jm_c103, decode (jm_b 103) r.1 = .ok r.2 := by
  intro r hr
  have h := jm_chunk 1 (fun j hj => by
    match j, hj with
    | 0, _ => exact jm_d103_0
    | j + 1, h => exact absurd h (by omega)) (by decide +kernel) r hr
  exact of_decide_eq_true h
theorem jm_D104 : ∀ r ∈ jm_c104, decode (jm_b 104) r.1 = .ok r.2 := by
  intro r hr
  have h := jm_chunk 1 (fun j hj => by
    match j, hj with
    | 0, _ => exact jm_d104_0
    | j + 1, h => exact absurd h (by omega)) (by decide +kernel) r hr
  exact of_decide_eq_true h
theorem jm_D105 : ∀ r ∈ jm_c105, decode (jm_b 105) r.1 = .ok r.2 := by
  intro r hr
  have h := jm_chunk 2 (fun j hj => by
    match j, hj with
    | 0, _ => exact jm_d105_0
    | 1, _ => exact jm_d105_1
    | j + 2, h => exact absurd h (by omega)) (by decide +kernel) r hr
  exact of_decide_eq_true h
theorem jm_D106 : ∀ r ∈ jm_c106, decode (jm_b 106) r.1 = .ok r.2 := by
  intro r hr
  have h := jm_chunk 5 (fun j hj => by
    match j, hj with
    | 0, _ => exact jm_d106_0
    | 1, _ => exact jm_d106_1
    | 2, _ => exact jm_d106_2
    | 3, _ => exact jm_d106_3
    | 4, _ => exact jm_d106_4
    | j + 5, h => exact absurd h (by omega)) (by decide +kernel) r hr
  exact of_decide_eq_true h
theorem jm_D107 : ∀ r ∈ jm_c107, decode (jm_b 107) r.1 = .ok r.2 := by
  intro r hr
  have h := jm_chunk 1 (fun j hj => by
    match j, hj with
    | 0, _ => exact jm_d107_0
    | j + 1, h => exact absurd h (by omega)) (by decide +kernel) r hr
  exact of_decide_eq_true h
theorem jm_D108 : ∀ r ∈ jm_c108, decode (jm_b 108) r.1 = .ok r.2 := by
  intro r hr
  have h := jm_chunk 2 (fun j hj => by
    match j, hj with
    | 0, _ => exact jm_d108_0
    | 1, _ => exact jm_d108_1
    | j + 2, h => exact absurd h (by omega)) (by decide +kernel) r hr
  exact of_decide_eq_true h
theorem jm_D109 : ∀ r ∈ jm_c109, decode (jm_b 109) r.1 = .ok r.2 := by
  intro r hr
  have h := jm_chunk 1 (fun j hj => by
    match j, hj with
    | 0, _ => exact jm_d109_0
    | j + 1, h => exact absurd h (by omega)) (by decide +kernel) r hr
  exact of_decide_eq_true h
theorem jm_D110 : ∀ r ∈ jm_c110, decode (jm_b 110) r.1 = .ok r.2 := by
  intro r hr
  have h := jm_chunk 1 (fun j hj => by
    match j, hj with
    | 0, _ => exact jm_d110_0
    | j + 1, h => exact absurd h (by omega)) (by decide +kernel) r hr
  exact of_decide_eq_true h
theorem jm_D111 : ∀ r ∈ jm_c111, decode (jm_b 111) r.1 = .ok r.2 := by
  intro r hr
  have h := jm_chunk 1 (fun j hj => by
    match j, hj with
    | 0, _ => exact jm_d111_0
    | j + 1, h => exact absurd h (by omega)) (by decide +kernel) r hr
  exact of_decide_eq_true h
theorem jm_D112 : ∀ r ∈ jm_c112, decode (jm_b 112) r.1 = .ok r.2 := by
  intro r hr
  have h := jm_chunk 1 (fun j hj => by
    match j, hj with
    | 0, _ => exact jm_d112_0
    | j + 1, h => exact absurd h (by omega)) (by decide +kernel) r hr
  exact of_decide_eq_true h
theorem jm_D113 : ∀ r ∈ jm_c113, decode (jm_b 113) r.1 = .ok r.2 := by
  intro r hr
  have h := jm_chunk 1 (fun j hj => by
    match j, hj with
    | 0, _ => exact jm_d113_0
    | j + 1, h => exact absurd h (by omega)) (by decide +kernel) r hr
  exact of_decide_eq_true h
theorem jm_D114 : ∀ r ∈ jm_c114, decode (jm_b 114) r.1 = .ok r.2 := by
  intro r hr
  have h := jm_chunk 1 (fun j hj => by
    match j, hj with
    | 0, _ => exact jm_d114_0
    | j + 1, h => exact absurd h (by omega)) (by decide +kernel) r hr
  exact of_decide_eq_true h
theorem jm_D115 : ∀ r ∈ jm_c115, decode (jm_b 115) r.1 = .ok r.2 := by
  intro r hr
  have h := jm_chunk 1 (fun j hj => by
    match j, hj with
    | 0, _ => exact jm_d115_0
    | j + 1, h => exact absurd h (by omega)) (by decide +kernel) r hr
  exact of_decide_eq_true h
theorem jm_D116 : ∀ r ∈ jm_c116, decode (jm_b 116) r.1 = .ok r.2 := by
  intro r hr
  have h := jm_chunk 1 (fun j hj => by
    match j, hj with
    | 0, _ => exact jm_d116_0
    | j + 1, h => exact absurd h (by omega)) (by decide +kernel) r hr
  exact of_decide_eq_true h
theorem jm_D117 : ∀ r ∈ jm_c117, decode (jm_b 117) r.1 = .ok r.2 := by
  intro r hr
  have h := jm_chunk 1 (fun j hj => by
    match j, hj with
    | 0, _ => exact jm_d117_0
    | j + 1, h => exact absurd h (by omega)) (by decide +kernel) r hr
  exact of_decide_eq_true h
theorem jm_D118 : ∀ r ∈ jm_c118, decode (jm_b 118) r.1 = .ok r.2 := by
  intro r hr
  have h := jm_chunk 1 (fun j hj => by
    match j, hj with
    | 0, _ => exact jm_d118_0
    | j + 1, h => exact absurd h (by omega)) (by decide +kernel) r hr
  exact of_decide_eq_true h
theorem jm_D119 : ∀ r ∈ jm_c119, decode (jm_b 119) r.1 = .ok r.2 := by
  intro r hr
  have h := jm_chunk 3 (fun j hj => by
    match j, hj with
    | 0, _ => exact jm_d119_0
    | 1, _ => exact jm_d119_1
    | 2, _ => exact jm_d119_2
    | j + 3, h => exact absurd h (by omega)) (by decide +kernel) r hr
  exact of_decide_eq_true h
theorem jm_D120 : ∀ r ∈ jm_c120, decode (jm_b 120) r.1 = .ok r.2 := by
  intro r hr
  have h := jm_chunk 2 (fun j hj => by
    match j, hj with
    | 0, _ => exact jm_d120_0
    | 1, _ => exact jm_d120_1
    | j + 2, h => exact absurd h (by omega)) (by decide +kernel) r hr
  exact of_decide_eq_true h
theorem jm_D121 : ∀ r ∈ jm_c121, decode (jm_b 121) r.1 = .ok r.2 := by
  intro r hr
  have h := jm_chunk 4 (fun j hj => by
    match j, hj with
    | 0, _ => exact jm_d121_0
    | 1, _ => exact jm_d121_1
    | 2, _ => exact jm_d121_2
    | 3, _ => exact jm_d121_3
    | j + 4, h => exact absurd h (by omega)) (by decide +kernel) r hr
  exact of_decide_eq_true h
theorem jm_D122 : ∀ r ∈ jm_c122, decode (jm_b 122) r.1 = .ok r.2 := by
  intro r hr
  have h := jm_chunk 2 (fun j hj => by
    match j, hj with
    | 0, _ => exact jm_d122_0
    | 1, _ => exact jm_d122_1
    | j + 2, h => exact absurd h (by omega)) (by decide +kernel) r hr
  exact of_decide_eq_true h
theorem jm_D123 : ∀ r ∈ jm_c123, decode (jm_b 123) r.1 = .ok r.2 := by
  intro r hr
  have h := jm_chunk 1 (fun j hj => by
    match j, hj with
    | 0, _ => exact jm_d123_0
    | j + 1, h => exact absurd h (by omega)) (by decide +kernel) r hr
  exact of_decide_eq_true h
theorem jm_D124 : ∀ r ∈ jm_c124, decode (jm_b 124) r.1 = .ok r.2 := by
  intro r hr
  have h := jm_chunk 3 (fun j hj => by
    match j, hj with
    | 0, _ => exact jm_d124_0
    | 1, _ => exact jm_d124_1
    | 2, _ => exact jm_d124_2
    | j + 3, h => exact absurd h (by omega)) (by decide +kernel) r hr
  exact of_decide_eq_true h
theorem jm_D125 : ∀ r ∈ jm_c125, decode (jm_b 125) r.1 = .ok r.2 := by
  intro r hr
  have h := jm_chunk 1 (fun j hj => by
    match j, hj with
    | 0, _ => exact jm_d125_0
    | j + 1, h => exact absurd h (by omega)) (by decide +kernel) r hr
  exact of_decide_eq_true h
theorem jm_D126 : ∀ r ∈ jm_c126, decode (jm_b 126) r.1 = .ok r.2 := by
  intro r hr
  have h := jm_chunk 2 (fun j hj => by
    match j, hj with
    | 0, _ => exact jm_d126_0
    | 1, _ => exact jm_d126_1
    | j + 2, h => exact absurd h (by omega)) (by decide +kernel) r hr
  exact of_decide_eq_true h
theorem jm_D127 : ∀ r ∈ jm_c127, decode (jm_b 127) r.1 = .ok r.2 := by
  intro r hr
  have h := jm_chunk 2 (fun j hj => by
    match j, hj with
    | 0, _ => exact jm_d127_0
    | 1, _ => exact jm_d127_1
    | j + 2, h => exact absurd h (by omega)) (by decide +kernel) r hr
  exact of_decide_eq_true h
theorem jm_D128 : ∀ r ∈ jm_c128, decode (jm_b 128) r.1 = .ok r.2 := by
  intro r hr
  have h := jm_chunk 1 (fun j hj => by
    match j, hj with
    | 0, _ => exact jm_d128_0
    | j + 1, h => exact absurd h (by omega)) (by decide +kernel) r hr
  exact of_decide_eq_true h
theorem jm_D129 : ∀ r ∈ jm_c129, decode (jm_b 129) r.1 = .ok r.2 := by
  intro r hr
  have h := jm_chunk 1 (fun j hj => by
    match j, hj with
    | 0, _ => exact jm_d129_0
    | j + 1, h => exact absurd h (by omega)) (by decide +kernel) r hr
  exact of_decide_eq_true h
theorem jm_D130 : ∀ r ∈ jm_c130, decode (jm_b 130) r.1 = .ok r.2 := by
  intro r hr
  have h := jm_chunk 4 (fun j hj => by
    match j, hj with
    | 0, _ => exact jm_d130_0
    | 1, _ => exact jm_d130_1
    | 2, _ => exact jm_d130_2
    | 3, _ => exact jm_d130_3
    | j + 4, h => exact absurd h (by omega)) (by decide +kernel) r hr
  exact of_decide_eq_true h
theorem jm_D131 : ∀ r ∈ jm_c131, decode (jm_b 131) r.1 = .ok r.2 := by
  intro r hr
  have h := jm_chunk 2 (fun j hj => by
    match j, hj with
    | 0, _ => exact jm_d131_0
    | 1, _ => exact jm_d131_1
    | j + 2, h => exact absurd h (by omega)) (by decide +kernel) r hr
  exact of_decide_eq_true h
theorem jm_D132 : ∀ r ∈ jm_c132, decode (jm_b 132) r.1 = .ok r.2 := by
  intro r hr
  have h := jm_chunk 3 (fun j hj => by
    match j, hj with
    | 0, _ => exact jm_d132_0
    | 1, _ => exact jm_d132_1
    | 2, _ => exact jm_d132_2
    | j + 3, h => exact absurd h (by omega)) (by decide +kernel) r hr
  exact of_decide_eq_true h
theorem jm_D133 : ∀ r ∈ jm_c133, decode (jm_b 133) r.1 = .ok r.2 := by
  intro r hr
  have h := jm_chunk 1 (fun j hj => by
    match j, hj with
    | 0, _ => exact jm_d133_0
    | j + 1, h => exact absurd h (by omega)) (by decide +kernel) r hr
  exact of_decide_eq_true h
theorem jm_D134 : ∀ r ∈ jm_c134, decode (jm_b 134) r.1 = .ok r.2 := by
  intro r hr
  have h := jm_chunk 2 (fun j hj => by
    match j, hj with
    | 0, _ => exact jm_d134_0
    | 1, _ => exact jm_d134_1
    | j + 2, h => exact absurd h (by omega)) (by decide +kernel) r hr
  exact of_decide_eq_true h
theorem jm_D135 : ∀ r ∈ jm_c135, decode (jm_b 135) r.1 = .ok r.2 := by
  intro r hr
  have h := jm_chunk 1 (fun j hj => by
    match j, hj with
    | 0, _ => exact jm_d135_0
    | j + 1, h => exact absurd h (by omega)) (by decide +kernel) r hr
  exact of_decide_eq_true h
theorem jm_D136 : ∀ r ∈ jm_c136, decode (jm_b 136) r.1 = .ok r.2 := by
  intro r hr
  have h := jm_chunk 1 (fun j hj => by
    match j, hj with
    | 0, _ => exact jm_d136_0
    | j + 1, h => exact absurd h (by omega)) (by decide +kernel) r hr
  exact of_decide_eq_true h
theorem jm_D137 : ∀ r ∈ jm_c137, decode (jm_b 137) r.1 = .ok r.2 := by
  intro r hr
  have h := jm_chunk 2 (fun j hj => by
    match j, hj with
    | 0, _ => exact jm_d137_0
    | 1, _ => exact jm_d137_1
    | j + 2, h => exact absurd h (by omega)) (by decide +kernel) r hr
  exact of_decide_eq_true h
theorem jm_D138 : ∀ r ∈ jm_c138, decode (jm_b 138) r.1 = .ok r.2 := by
  intro r hr
  have h := jm_chunk 1 (fun j hj => by
    match j, hj with
    | 0, _ => exact jm_d138_0
    | j + 1, h => exact absurd h (by omega)) (by decide +kernel) r hr
  exact of_decide_eq_true h
theorem jm_D139 : ∀ r ∈ jm_c139, decode (jm_b 139) r.1 = .ok r.2 := by
  intro r hr
  have h := jm_chunk 1 (fun j hj => by
    match j, hj with
    | 0, _ => exact jm_d139_0
    | j + 1, h => exact absurd h (by omega)) (by decide +kernel) r hr
  exact of_decide_eq_true h
theorem jm_D140 : ∀ r ∈ jm_c140, decode (jm_b 140) r.1 = .ok r.2 := by
  intro r hr
  have h := jm_chunk 1 (fun j hj => by
    match j, hj with
    | 0, _ => exact jm_d140_0
    | j + 1, h => exact absurd h (by omega)) (by decide +kernel) r hr
  exact of_decide_eq_true h
theorem jm_D141 : ∀ r ∈ jm_c141, decode (jm_b 141) r.1 = .ok r.2 := by
  intro r hr
  have h := jm_chunk 2 (fun j hj => by
    match j, hj with
    | 0, _ => exact jm_d141_0
    | 1, _ => exact jm_d141_1
    | j + 2, h => exact absurd h (by omega)) (by decide +kernel) r hr
  exact of_decide_eq_true h
theorem jm_D142 : ∀ r ∈ jm_c142, decode (jm_b 142) r.1 = .ok r.2 := by
  intro r hr
  have h := jm_chunk 4 (fun j hj => by
    match j, hj with
    | 0, _ => exact jm_d142_0
    | 1, _ => exact jm_d142_1
    | 2, _ => exact jm_d142_2
    | 3, _ => exact jm_d142_3
    | j + 4, h => exact absurd h (by omega)) (by decide +kernel) r hr
  exact of_decide_eq_true h
theorem jm_D143 : ∀ r ∈ jm_c143, decode (jm_b 143) r.1 = .ok r.2 := by
  intro r hr
  have h := jm_chunk 2 (fun j hj => by
    match j, hj with
    | 0, _ => exact jm_d143_0
    | 1, _ => exact jm_d143_1
    | j + 2, h => exact absurd h (by omega)) (by decide +kernel) r hr
  exact of_decide_eq_true h
theorem jm_D144 : ∀ r ∈ jm_c144, decode (jm_b 144) r.1 = .ok r.2 := by
  intro r hr
  have h := jm_chunk 1 (fun j hj => by
    match j, hj with
    | 0, _ => exact jm_d144_0
    | j + 1, h => exact absurd h (by omega)) (by decide +kernel) r hr
  exact of_decide_eq_true h
theorem jm_D145 : ∀ r ∈ jm_c145, decode (jm_b 145) r.1 = .ok r.2 := by
  intro r hr
  have h := jm_chunk 3 (fun j hj => by
    match j, hj with
    | 0, _ => exact jm_d145_0
    | 1, _ => exact jm_d145_1
    | 2, _ => exact jm_d145_2
    | j + 3, h => exact absurd h (by omega)) (by decide +kernel) r hr
  exact of_decide_eq_true h
theorem jm_D146 : ∀ r ∈ jm_c146, decode (jm_b 146) r.1 = .ok r.2 := by
  intro r hr
  have h := jm_chunk 2 (fun j hj => by
    match j, hj with
    | 0, _ => exact jm_d146_0
    | 1, _ => exact jm_d146_1
    | j + 2, h => exact absurd h (by omega)) (by decide +kernel) r hr
  exact of_decide_eq_true h
theorem jm_D147 : ∀ r ∈ jm_c147, decode (jm_b 147) r.1 = .ok r.2 := by
  intro r hr
  have h := jm_chunk 2 (fun j hj => by
    match j, hj with
    | 0, _ => exact jm_d147_0
    | 1, _ => exact jm_d147_1
    | j + 2, h => exact absurd h (by omega)) (by decide +kernel) r hr
  exact of_decide_eq_true h
theorem jm_D148 : ∀ r ∈ jm_c148, decode (jm_b 148) r.1 = .ok r.2 := by
  intro r hr
  have h := jm_chunk 2 (fun j hj => by
    match j, hj with
    | 0, _ => exact jm_d148_0
    | 1, _ => exact jm_d148_1
    | j + 2, h => exact absurd h (by omega)) (by decide +kernel) r hr
  exact of_decide_eq_true h
theorem jm_D149 : ∀ r ∈ jm_c149, decode (jm_b 149) r.1 = .ok r.2 := by
  intro r hr
  have h := jm_chunk 2 (fun j hj => by
    match j, hj with
    | 0, _ => exact jm_d149_0
    | 1, _ => exact jm_d149_1
    | j + 2, h => exact absurd h (by omega)) (by decide +kernel) r hr
  exact of_decide_eq_true h
theorem jm_D150 : ∀ r ∈ jm_c150, decode (jm_b 150) r.1 = .ok r.2 := by
  intro r hr
  have h := jm_chunk 2 (fun j hj => by
    match j, hj with
    | 0, _ => exact jm_d150_0
    | 1, _ => exact jm_d150_1
    | j + 2, h => exact absurd h (by omega)) (by decide +kernel) r hr
  exact of_decide_eq_true h
theorem jm_D151 : ∀ r ∈ jm_c151, decode (jm_b 151) r.1 = .ok r.2 := by
  intro r hr
  have h := jm_chunk 2 (fun j hj => by
    match j, hj with
    | 0, _ => exact jm_d151_0
    | 1, _ => exact jm_d151_1
    | j + 2, h => exact absurd h (by omega)) (by decide +kernel) r hr
  exact of_decide_eq_true h
theorem jm_D152 : ∀ r ∈ jm_c152, decode (jm_b 152) r.1 = .ok r.2 := by
  intro r hr
  have h := jm_chunk 1 (fun j hj => by
    match j, hj with
    | 0, _ => exact jm_d152_0
    | j + 1, h => exact absurd h (by omega)) (by decide +kernel) r hr
  exact of_decide_eq_true h
theorem jm_D153 : ∀ r ∈ jm_c153, decode (jm_b 153) r.1 = .ok r.2 := by
  intro r hr
  have h := jm_chunk 1 (fun j hj => by
    match j, hj with
    | 0, _ => exact jm_d153_0
    | j + 1, h => exact absurd h (by omega)) (by decide +kernel) r hr
  exact of_decide_eq_true h
theorem jm_D154 : ∀ r ∈ jm_c154, decode (jm_b 154) r.1 = .ok r.2 := by
  intro r hr
  have h := jm_chunk 2 (fun j hj => by
    match j, hj with
    | 0, _ => exact jm_d154_0
    | 1, _ => exact jm_d154_1
    | j + 2, h => exact absurd h (by omega)) (by decide +kernel) r hr
  exact of_decide_eq_true h
theorem jm_D155 : ∀ r ∈ jm_c155, decode (jm_b 155) r.1 = .ok r.2 := by
  intro r hr
  have h := jm_chunk 1 (fun j hj => by
    match j, hj with
    | 0, _ => exact jm_d155_0
    | j + 1, h => exact absurd h (by omega)) (by decide +kernel) r hr
  exact of_decide_eq_true h
theorem jm_D156 : ∀ r ∈ jm_c156, decode (jm_b 156) r.1 = .ok r.2 := by
  intro r hr
  have h := jm_chunk 1 (fun j hj => by
    match j, hj with
    | 0, _ => exact jm_d156_0
    | j + 1, h => exact absurd h (by omega)) (by decide +kernel) r hr
  exact of_decide_eq_true h
theorem jm_D157 : ∀ r ∈ jm_c157, decode (jm_b 157) r.1 = .ok r.2 := by
  intro r hr
  have h := jm_chunk 3 (fun j hj => by
    match j, hj with
    | 0, _ => exact jm_d157_0
    | 1, _ => exact jm_d157_1
    | 2, _ => exact jm_d157_2
    | j + 3, h => exact absurd h (by omega)) (by decide +kernel) r hr
  exact of_decide_eq_true h
theorem jm_D158 : ∀ r ∈ jm_c158, decode (jm_b 158) r.1 = .ok r.2 := by
  intro r hr
  have h := jm_chunk 3 (fun j hj => by
    match j, hj with
    | 0, _ => exact jm_d158_0
    | 1, _ => exact jm_d158_1
    | 2, _ => exact jm_d158_2
    | j + 3, h => exact absurd h (by omega)) (by decide +kernel) r hr
  exact of_decide_eq_true h
theorem jm_D159 : ∀ r ∈ jm_c159, decode (jm_b 159) r.1 = .ok r.2 := by
  intro r hr
  have h := jm_chunk 5 (fun j hj => by
    match j, hj with
    | 0, _ => exact jm_d159_0
    | 1, _ => exact jm_d159_1
    | 2, _ => exact jm_d159_2
    | 3, _ => exact jm_d159_3
    | 4, _ => exact jm_d159_4
    | j + 5, h => exact absurd h (by omega)) (by decide +kernel) r hr
  exact of_decide_eq_true h
theorem jm_D160 : ∀ r ∈ jm_c160, decode (jm_b 160) r.1 = .ok r.2 := by
  intro r hr
  have h := jm_chunk 1 (fun j hj => by
    match j, hj with
    | 0, _ => exact jm_d160_0
    | j + 1, h => exact absurd h (by omega)) (by decide +kernel) r hr
  exact of_decide_eq_true h
theorem jm_D161 : ∀ r ∈ jm_c161, decode (jm_b 161) r.1 = .ok r.2 := by
  intro r hr
  have h := jm_chunk 1 (fun j hj => by
    match j, hj with
    | 0, _ => exact jm_d161_0
    | j + 1, h => exact absurd h (by omega)) (by decide +kernel) r hr
  exact of_decide_eq_true h
theorem jm_D162 : ∀ r ∈ jm_c162, decode (jm_b 162) r.1 = .ok r.2 := by
  intro r hr
  have h := jm_chunk 1 (fun j hj => by
    match j, hj with
    | 0, _ => exact jm_d162_0
    | j + 1, h => exact absurd h (by omega)) (by decide +kernel) r hr
  exact of_decide_eq_true h
theorem jm_D163 : ∀ r ∈ jm_c163, decode (jm_b 163) r.1 = .ok r.2 := by
  intro r hr
  have h := jm_chunk 1 (fun j hj => by
    match j, hj with
    | 0, _ => exact jm_d163_0
    | j + 1, h => exact absurd h (by omega)) (by decide +kernel) r hr
  exact of_decide_eq_true h
theorem jm_D164 : ∀ r ∈ jm_c164, decode (jm_b 164) r.1 = .ok r.2 := by
  intro r hr
  have h := jm_chunk 3 (fun j hj => by
    match j, hj with
    | 0, _ => exact jm_d164_0
    | 1, _ => exact jm_d164_1
    | 2, _ => exact jm_d164_2
    | j + 3, h => exact absurd h (by omega)) (by decide +kernel) r hr
  exact of_decide_eq_true h
theorem jm_D165 : ∀ r ∈ jm_c165, decode (jm_b 165) r.1 = .ok r.2 := by
  intro r hr
  have h := jm_chunk 2 (fun j hj => by
    match j, hj with
    | 0, _ => exact jm_d165_0
    | 1, _ => exact jm_d165_1
    | j + 2, h => exact absurd h (by omega)) (by decide +kernel) r hr
  exact of_decide_eq_true h
theorem jm_D166 : ∀ r ∈ jm_c166, decode (jm_b 166) r.1 = .ok r.2 := by
  intro r hr
  have h := jm_chunk 3 (fun j hj => by
    match j, hj with
    | 0, _ => exact jm_d166_0
    | 1, _ => exact jm_d166_1
    | 2, _ => exact jm_d166_2
    | j + 3, h => exact absurd h (by omega)) (by decide +kernel) r hr
  exact of_decide_eq_true h
theorem jm_D167 : ∀ r ∈ jm_c167, decode (jm_b 167) r.1 = .ok r.2 := by
  intro r hr
  have h := jm_chunk 1 (fun j hj => by
    match j, hj with
    | 0, _ => exact jm_d167_0
    | j + 1, h => exact absurd h (by omega)) (by decide +kernel) r hr
  exact of_decide_eq_true h
theorem jm_D168 : ∀ r ∈ jm_c168, decode (jm_b 168) r.1 = .ok r.2 := by
  intro r hr
  have h := jm_chunk 3 (fun j hj => by
    match j, hj with
    | 0, _ => exact jm_d168_0
    | 1, _ => exact jm_d168_1
    | 2, _ => exact jm_d168_2
    | j + 3, h => exact absurd h (by omega)) (by decide +kernel) r hr
  exact of_decide_eq_true h
theorem jm_D169 : ∀ r ∈ jm_c169, decode (jm_b 169) r.1 = .ok r.2 := by
  intro r hr
  have h := jm_chunk 1 (fun j hj => by
    match j, hj with
    | 0, _ => exact jm_d169_0
    | j + 1, h => exact absurd h (by omega)) (by decide +kernel) r hr
  exact of_decide_eq_true h
theorem jm_D170 : ∀ r ∈ jm_c170, decode (jm_b 170) r.1 = .ok r.2 := by
  intro r hr
  have h := jm_chunk 4 (fun j hj => by
    match j, hj with
    | 0, _ => exact jm_d170_0
    | 1, _ => exact jm_d170_1
    | 2, _ => exact jm_d170_2
    | 3, _ => exact jm_d170_3
    | j + 4, h => exact absurd h (by omega)) (by decide +kernel) r hr
  exact of_decide_eq_true h
theorem jm_D171 : ∀ r ∈ jm_c171, decode (jm_b 171) r.1 = .ok r.2 := by
  intro r hr
  have h := jm_chunk 2 (fun j hj => by
    match j, hj with
    | 0, _ => exact jm_d171_0
    | 1, _ => exact jm_d171_1
    | j + 2, h => exact absurd h (by omega)) (by decide +kernel) r hr
  exact of_decide_eq_true h
theorem jm_D172 : ∀ r ∈ jm_c172, decode (jm_b 172) r.1 = .ok r.2 := by
  intro r hr
  have h := jm_chunk 1 (fun j hj => by
    match j, hj with
    | 0, _ => exact jm_d172_0
    | j + 1, h => exact absurd h (by omega)) (by decide +kernel) r hr
  exact of_decide_eq_true h
theorem jm_D173 : ∀ r ∈ jm_c173, decode (jm_b 173) r.1 = .ok r.2 := by
  intro r hr
  have h := jm_chunk 1 (fun j hj => by
    match j, hj with
    | 0, _ => exact jm_d173_0
    | j + 1, h => exact absurd h (by omega)) (by decide +kernel) r hr
  exact of_decide_eq_true h
theorem jm_D174 : ∀ r ∈ jm_c174, decode (jm_b 174) r.1 = .ok r.2 := by
  intro r hr
  have h := jm_chunk 1 (fun j hj => by
    match j, hj with
    | 0, _ => exact jm_d174_0
    | j + 1, h => exact absurd h (by omega)) (by decide +kernel) r hr
  exact of_decide_eq_true h
theorem jm_D175 : ∀ r ∈ jm_c175, decode (jm_b 175) r.1 = .ok r.2 := by
  intro r hr
  have h := jm_chunk 1 (fun j hj => by
    match j, hj with
    | 0, _ => exact jm_d175_0
    | j + 1, h => exact absurd h (by omega)) (by decide +kernel) r hr
  exact of_decide_eq_true h
theorem jm_D176 : ∀ r ∈ jm_c176, decode (jm_b 176) r.1 = .ok r.2 := by
  intro r hr
  have h := jm_chunk 1 (fun j hj => by
    match j, hj with
    | 0, _ => exact jm_d176_0
    | j + 1, h => exact absurd h (by omega)) (by decide +kernel) r hr
  exact of_decide_eq_true h
theorem jm_D177 : ∀ r ∈ jm_c177, decode (jm_b 177) r.1 = .ok r.2 := by
  intro r hr
  have h := jm_chunk 1 (fun j hj => by
    match j, hj with
    | 0, _ => exact jm_d177_0
    | j + 1, h => exact absurd h (by omega)) (by decide +kernel) r hr
  exact of_decide_eq_true h
theorem jm_D178 : ∀ r ∈ jm_c178, decode (jm_b 178) r.1 = .ok r.2 := by
  intro r hr
  have h := jm_chunk 1 (fun j hj => by
    match j, hj with
    | 0, _ => exact jm_d178_0
    | j + 1, h => exact absurd h (by omega)) (by decide +kernel) r hr
  exact of_decide_eq_true h
theorem jm_D179 : ∀ r ∈ jm_c179, decode (jm_b 179) r.1 = .ok r.2 := by
  intro r hr
  have h := jm_chunk 1 (fun j hj => by
    match j, hj with
    | 0, _ => exact jm_d179_0
    | j + 1, h => exact absurd h (by omega)) (by decide +kernel) r hr
  exact of_decide_eq_true h
theorem jm_D180 : ∀ r ∈ jm_c180, decode (jm_b 180) r.1 = .ok r.2 := by
  intro r hr
  have h := jm_chunk 1 (fun j hj => by
    match j, hj with
    | 0, _ => exact jm_d180_0
    | j + 1, h => exact absurd h (by omega)) (by decide +kernel) r hr
  exact of_decide_eq_true h
theorem jm_D181 : ∀ r ∈ jm_c181, decode (jm_b 181) r.1 = .ok r.2 := by
  intro r hr
  have h := jm_chunk 1 (fun j hj => by
    match j, hj with
    | 0, _ => exact jm_d181_0
    | j + 1, h => exact absurd h (by omega)) (by decide +kernel) r hr
  exact of_decide_eq_true h
theorem jm_D182 : ∀ r ∈ jm_c182, decode (jm_b 182) r.1 = .ok r.2 := by
  intro r hr
  have h := jm_chunk 1 (fun j hj => by
    match j, hj with
    | 0, _ => exact jm_d182_0
    | j + 1, h => exact absurd h (by omega)) (by decide +kernel) r hr
  exact of_decide_eq_true h
theorem jm_D183 : ∀ r ∈ jm_c183, decode (jm_b 183) r.1 = .ok r.2 := by
  intro r hr
  have h := jm_chunk 1 (fun j hj => by
    match j, hj with
    | 0, _ => exact jm_d183_0
    | j + 1, h => exact absurd h (by omega)) (by decide +kernel) r hr
  exact of_decide_eq_true h
theorem jm_D184 : ∀ r ∈ jm_c184, decode (jm_b 184) r.1 = .ok r.2 := by
  intro r hr
  have h := jm_chunk 1 (fun j hj => by
    match j, hj with
    | 0, _ => exact jm_d184_0
    | j + 1, h => exact absurd h (by omega)) (by decide +kernel) r hr
  exact of_decide_eq_true h
theorem jm_D185 : ∀ r ∈ jm_c185, decode (jm_b 185) r.1 = .ok r.2 := by
  intro r hr
  have h := jm_chunk 1 (fun j hj => by
    match j, hj with
    | 0, _ => exact jm_d185_0
    | j + 1, h => exact absurd h (by omega)) (by decide +kernel) r hr
  exact of_decide_eq_true h
theorem jm_D186 : ∀ r ∈ jm_c186, decode (jm_b 186) r.1 = .ok r.2 := by
  intro r hr
  have h := jm_chunk 1 (fun j hj => by
    match j, hj with
    | 0, _ => exact jm_d186_0
    | j + 1, h => exact absurd h (by omega)) (by decide +kernel) r hr
  exact of_decide_eq_true h
theorem jm_D187 : ∀ r ∈ jm_c187, decode (jm_b 187) r.1 = .ok r.2 := by
  intro r hr
  have h := jm_chunk 1 (fun j hj => by
    match j, hj with
    | 0, _ => exact jm_d187_0
    | j + 1, h => exact absurd h (by omega)) (by decide +kernel) r hr
  exact of_decide_eq_true h
theorem jm_D188 : ∀ r ∈ jm_c188, decode (jm_b 188) r.1 = .ok r.2 := by
  intro r hr
  have h := jm_chunk 1 (fun j hj => by
    match j, hj with
    | 0, _ => exact jm_d188_0
    | j + 1, h => exact absurd h (by omega)) (by decide +kernel) r hr
  exact of_decide_eq_true h
theorem jm_D189 : ∀ r ∈ jm_c189, decode (jm_b 189) r.1 = .ok r.2 := by
  intro r hr
  have h := jm_chunk 1 (fun j hj => by
    match j, hj with
    | 0, _ => exact jm_d189_0
    | j + 1, h => exact absurd h (by omega)) (by decide +kernel) r hr
  exact of_decide_eq_true h
theorem jm_De0 (mi : Nat) (h0 : 0 ≤ mi) (h1 : mi < 19) (pc : Nat) (q : Instr × Nat) (hm : (pc, q) ∈ jm_code mi) : decode (jm_b mi) pc = .ok q := by
  have h : mi = 0 ∨ mi = 1 ∨ mi = 2 ∨ mi = 3 ∨ mi = 4 ∨ mi = 5 ∨ mi = 6 ∨ mi = 7 ∨ mi = 8 ∨ mi = 9 ∨ mi = 10 ∨ mi = 11 ∨ mi = 12 ∨ mi = 13 ∨ mi = 14 ∨ mi = 15 ∨ mi = 16 ∨ mi = 17 ∨ mi = 18 := by omega
  rcases h with rfl | rfl | rfl | rfl | rfl | rfl | rfl | rfl | rfl | rfl | rfl | rfl | rfl | rfl | rfl | rfl | rfl | rfl | rfl
  · exact jm_D0 (pc, q) hm
  · exact jm_D1 (pc, q) hm
  · exact jm_D2 (pc, q) hm
  · exact jm_D3 (pc, q) hm
  · exact jm_D4 (pc, q) hm
  · exact jm_D5 (pc, q) hm
  · exact jm_D6 (pc, q) hm
  · exact jm_D7 (pc, q) hm
  · exact jm_D8 (pc, q) hm
  · exact jm_D9 (pc, q) hm
  · exact jm_D10 (pc, q) hm
  · exact jm_D11 (pc, q) hm
  · exact jm_D12 (pc, q) hm
  · exact jm_D13 (pc, q) hm
  · exact jm_D14 (pc, q) hm
  · exact jm_D15 (pc, q) hm
  · exact jm_D16 (pc, q) hm
  · exact jm_D17 (pc, q) hm
  · exact jm_D18 (pc, q) hm
theorem jm_De1 (mi : Nat) (h0 : 19 ≤ mi) (h1 : mi < 38) (pc : Nat) (q : Instr × Nat) (hm : (pc, q) ∈ jm_code mi) : decode (jm_b mi) pc = .ok q := by
  have h : mi = 19 ∨ mi = 20 ∨ mi = 21 ∨ mi = 22 ∨ mi = 23 ∨ mi = 24 ∨ mi = 25 ∨ mi = 26 ∨ mi = 27 ∨ mi = 28 ∨ mi = 29 ∨ mi = 30 ∨ mi = 31 ∨ mi = 32 ∨ mi = 33 ∨ mi = 34 ∨ mi = 35 ∨ mi = 36 ∨ mi = 37 := by omega
  rcases h with rfl | rfl | rfl | rfl | rfl | rfl | rfl | rfl | rfl | rfl | rfl | rfl | rfl | rfl | rfl | rfl | rfl | rfl | rfl
  · exact jm_D19 (pc, q) hm
  · exact jm_D20 (pc, q) hm
  · exact jm_D21 (pc, q) hm
  · exact jm_D22 (pc, q) hm
  · exact jm_D23 (pc, q) hm
  · exact jm_D24 (pc, q) hm
  · exact jm_D25 (pc, q) hm
  · exact jm_D26 (pc, q) hm
  · exact jm_D27 (pc, q) hm
  · exact jm_D28 (pc, q) hm
  · exact jm_D29 (pc, q) hm
  · exact jm_D30 (pc, q) hm
  · exact jm_D31 (pc, q) hm
  · exact jm_D32 (pc, q) hm
  · exact jm_D33 (pc, q) hm
  · exact jm_D34 (pc, q) hm
  · exact jm_D35 (pc, q) hm
  · exact jm_D36 (pc, q) hm
  · exact jm_D37 (pc, q) hm
theorem jm_De2 (mi : Nat) (h0 : 38 ≤ mi) (h1 : mi < 57) (pc : Nat) (q : Instr × Nat) (hm : (pc, q) ∈ jm_code mi) : decode (jm_b mi) pc = .ok q := by
  have h : mi = 38 ∨ mi = 39 ∨ mi = 40 ∨ mi = 41 ∨ mi = 42 ∨ mi = 43 ∨ mi = 44 ∨ mi = 45 ∨ mi = 46 ∨ mi = 47 ∨ mi = 48 ∨ mi = 49 ∨ mi = 50 ∨ mi = 51 ∨ mi = 52 ∨ mi = 53 ∨ mi = 54 ∨ mi = 55 ∨ mi = 56 := by omega
  rcases h with rfl | rfl | rfl | rfl | rfl | rfl | rfl | rfl | rfl | rfl | rfl | rfl | rfl | rfl | rfl | rfl | rfl | rfl | rfl
  · exact jm_D38 (pc, q) hm
  · exact jm_D39 (pc, q) hm
  · exact jm_D40 (pc, q) hm
  · exact jm_D41 (pc, q) hm
  · exact jm_D42 (pc, q) hm
  · exact jm_D43 (pc, q) hm
  · exact jm_D44 (pc, q) hm
  · exact jm_D45 (pc, q) hm
  · exact jm_D46 (pc, q) hm
  · exact jm_D47 (pc, q) hm
  · exact jm_D48 (pc, q) hm
  · exact jm_D49 (pc, q) hm
  · exact jm_D50 (pc, q) hm
  · exact jm_D51 (pc, q) hm
  · exact jm_D52 (pc, q) hm
  · exact jm_D53 (pc, q) hm
  · exact jm_D54 (pc, q) hm
  · exact jm_D55 (pc, q) hm
  · exact jm_D56 (pc, q) hm
theorem jm_De3 (mi : Nat) (h0 : 57 ≤ mi) (h1 : mi < 76) (pc : Nat) (q : Instr × Nat) (hm : (pc, q) ∈ jm_code mi) : decode (jm_b mi) pc = .ok q := by
  have h : mi = 57 ∨ mi = 58 ∨ mi = 59 ∨ mi = 60 ∨ mi = 61 ∨ mi = 62 ∨ mi = 63 ∨ mi = 64 ∨ mi = 65 ∨ mi = 66 ∨ mi = 67 ∨ mi = 68 ∨ mi = 69 ∨ mi = 70 ∨ mi = 71 ∨ mi = 72 ∨ mi = 73 ∨ mi = 74 ∨ mi = 75 := by omega
  rcases h with rfl | rfl | rfl | rfl | rfl | rfl | rfl | rfl | rfl | rfl | rfl | rfl | rfl | rfl | rfl | rfl | rfl | rfl | rfl
  · exact jm_D57 (pc, q) hm
  · exact jm_D58 (pc, q) hm
  · exact jm_D59 (pc, q) hm
  · exact jm_D60 (pc, q) hm
  · exact jm_D61 (pc, q) hm
  · exact jm_D62 (pc, q) hm
  · exact jm_D63 (pc, q) hm
  · exact jm_D64 (pc, q) hm
  · exact jm_D65 (pc, q) hm
  · exact jm_D66 (pc, q) hm
  · exact jm_D67 (pc, q) hm
  · exact jm_D68 (pc, q) hm
  · exact jm_D69 (pc, q) hm
  · exact jm_D70 (pc, q) hm
  · exact jm_D71 (pc, q) hm
  · exact jm_D72 (pc, q) hm
  · exact jm_D73 (pc, q) hm
  · exact jm_D74 (pc, q) hm
  · exact jm_D75 (pc, q) hm
theorem jm_De4 (mi : Nat) (h0 : 76 ≤ mi) (h1 : mi < 95) (pc : Nat) (q : Instr × Nat) (hm : (pc, q) ∈ jm_code mi) : decode (jm_b mi) pc = .ok q := by
  have h : mi = 76 ∨ mi = 77 ∨ mi = 78 ∨ mi = 79 ∨ mi = 80 ∨ mi = 81 ∨ mi = 82 ∨ mi = 83 ∨ mi = 84 ∨ mi = 85 ∨ mi = 86 ∨ mi = 87 ∨ mi = 88 ∨ mi = 89 ∨ mi = 90 ∨ mi = 91 ∨ mi = 92 ∨ mi = 93 ∨ mi = 94 := by omega
  rcases h with rfl | rfl | rfl | rfl | rfl | rfl | rfl | rfl | rfl | rfl | rfl | rfl | rfl | rfl | rfl | rfl | rfl | rfl | rfl
  · exact jm_D76 (pc, q) hm
  · exact jm_D77 (pc, q) hm
  · exact jm_D78 (pc, q) hm
  · exact jm_D79 (pc, q) hm
  · exact jm_D80 (pc, q) hm
  · exact jm_D81 (pc, q) hm
  · exact jm_D82 (pc, q) hm
  · exact jm_D83 (pc, q) hm
  · exact jm_D84 (pc, q) hm
  · exact jm_D85 (pc, q) hm
  · exact jm_D86 (pc, q) hm
  · exact jm_D87 (pc, q) hm
  · exact jm_D88 (pc, q) hm
  · exact jm_D89 (pc, q) hm
  · exact jm_D90 (pc, q) hm
  · exact jm_D91 (pc, q) hm
  · exact jm_D92 (pc, q) hm
  · exact jm_D93 (pc, q) hm
  · exact jm_D94 (pc, q) hm
theorem jm_De5 (mi : Nat) (h0 : 95 ≤ mi) (h1 : mi < 114) (pc : Nat) (q : Instr × Nat) (hm : (pc, q) ∈ jm_code mi) : decode (jm_b mi) pc = .ok q := by
  have h : mi = 95 ∨ mi = 96 ∨ mi = 97 ∨ mi = 98 ∨ mi = 99 ∨ mi = 100 ∨ mi = 101 ∨ mi = 102 ∨ mi = 103 ∨ mi = 104 ∨ mi = 105 ∨ mi = 106 ∨ mi = 107 ∨ mi = 108 ∨ mi = 109 ∨ mi = 110 ∨ mi = 111 ∨ mi = 112 ∨ mi = 113 := by omega
  rcases h with rfl | rfl | rfl | rfl | rfl | rfl | rfl | rfl | rfl | rfl | rfl | rfl | rfl | rfl | rfl | rfl | rfl | rfl | rfl
  · exact jm_D95 (pc, q) hm
  · exact jm_D96 (pc, q) hm
  · exact jm_D97 (pc, q) hm
  · exact jm_D98 (pc, q) hm
  · exact jm_D99 (pc, q) hm
  · exact jm_D100 (pc, q) hm
  · exact jm_D101 (pc, q) hm
  · exact jm_D102 (pc, q) hm
  · exact jm_D103 (pc, q) hm
  · exact jm_D104 (pc, q) hm
  · exact jm_D105 (pc, q) hm
  · exact jm_D106 (pc, q) hm
  · exact jm_D107 (pc, q) hm
  · exact jm_D108 (pc, q) hm
  · exact jm_D109 (pc, q) hm
  · exact jm_D110 (pc, q) hm
  · exact jm_D111 (pc, q) hm
  · exact jm_D112 (pc, q) hm
  · exact jm_D113 (pc, q) hm
theorem jm_De6 (mi : Nat) (h0 : 114 ≤ mi) (h1 : mi < 133) (pc : Nat) (q : Instr × Nat) (hm : (pc, q) ∈ jm_code mi) : decode (jm_b mi) pc = .ok q := by
  have h : mi = 114 ∨ mi = 115 ∨ mi = 116 ∨ mi = 117 ∨ mi = 118 ∨ mi = 119 ∨ mi = 120 ∨ mi = 121 ∨ mi = 122 ∨ mi = 123 ∨ mi = 124 ∨ mi = 125 ∨ mi = 126 ∨ mi = 127 ∨ mi = 128 ∨ mi = 129 ∨ mi = 130 ∨ mi = 131 ∨ mi = 132 := by omega
  rcases h with rfl | rfl | rfl | rfl | rfl | rfl | rfl | rfl | rfl | rfl | rfl | rfl | rfl | rfl | rfl | rfl | rfl | rfl | rfl
  · exact jm_D114 (pc, q) hm
  · exact jm_D115 (pc, q) hm
  · exact jm_D116 (pc, q) hm
  · exact jm_D117 (pc, q) hm
  · exact jm_D118 (pc, q) hm
  · exact jm_D119 (pc, q) hm
  · exact jm_D120 (pc, q) hm
  · exact jm_D121 (pc, q) hm
  · exact jm_D122 (pc, q) hm
  · exact jm_D123 (pc, q) hm
  · exact jm_D124 (pc, q) hm
  · exact jm_D125 (pc, q) hm
  · exact jm_D126 (pc, q) hm
  · exact jm_D127 (pc, q) hm
  · exact jm_D128 (pc, q) hm
  · exact jm_D129 (pc, q) hm
  · exact jm_D130 (pc, q) hm
  · exact jm_D131 (pc, q) hm
  · exact jm_D132 (pc, q) hm
theorem jm_De7 (mi : Nat) (h0 : 133 ≤ mi) (h1 : mi < 152) (pc : Nat) (q : Instr × Nat) (hm : (pc, q) ∈ jm_code mi) : decode (jm_b mi) pc = .ok q := by
  have h : mi = 133 ∨ mi = 134 ∨ mi = 135 ∨ mi = 136 ∨ mi = 137 ∨ mi = 138 ∨ mi = 139 ∨ mi = 140 ∨ mi = 141 ∨ mi = 142 ∨ mi = 143 ∨ mi = 144 ∨ mi = 145 ∨ mi = 146 ∨ mi = 147 ∨ mi = 148 ∨ mi = 149 ∨ mi = 150 ∨ mi = 151 := by omega
  rcases h with rfl | rfl | rfl | rfl | rfl | rfl | rfl | rfl | rfl | rfl | rfl | rfl | rfl | rfl | rfl | rfl | rfl | rfl | rfl
  · exact jm_D133 (pc, q) hm
  · exact jm_D134 (pc, q) hm
  · exact jm_D135 (pc, q) hm
  · exact jm_D136 (pc, q) hm
  · exact jm_D137 (pc, q) hm
  · exact jm_D138 (pc, q) hm
  · exact jm_D139 (pc, q) hm
  · exact jm_D140 (pc, q) hm
  · exact jm_D141 (pc, q) hm
  · exact jm_D142 (pc, q) hm
  · exact jm_D143 (pc, q) hm
  · exact jm_D144 (pc, q) hm
  · exact jm_D145 (pc, q) hm
  · exact jm_D146 (pc, q) hm
  · exact jm_D147 (pc, q) hm
  · exact jm_D148 (pc, q) hm
  · exact jm_D149 (pc, q) hm
  · exact jm_D150 (pc, q) hm
  · exact jm_D151 (pc, q) hm
theorem jm_De8 (mi : Nat) (h0 : 152 ≤ mi) (h1 : mi < 171) (pc : Nat) (q : Instr × Nat) (hm : (pc, q) ∈ jm_code mi) : decode (jm_b mi) pc = .ok q := by
  have h : mi = 152 ∨ mi = 153 ∨ mi = 154 ∨ mi = 155 ∨ mi = 156 ∨ mi = 157 ∨ mi = 158 ∨ mi = 159 ∨ mi = 160 ∨ mi = 161 ∨ mi = 162 ∨ mi = 163 ∨ mi = 164 ∨ mi = 165 ∨ mi = 166 ∨ mi = 167 ∨ mi = 168 ∨ mi = 169 ∨ mi = 170 := by omega
  rcases h with rfl | rfl | rfl | rfl | rfl | rfl | rfl | rfl | rfl | rfl | rfl | rfl | rfl | rfl | rfl | rfl | rfl | rfl | rfl
  · exact jm_D152 (pc, q) hm
  · exact jm_D153 (pc, q) hm
  · exact jm_D154 (pc, q) hm
  · exact jm_D155 (pc, q) hm
  · exact jm_D156 (pc, q) hm
  · exact jm_D157 (pc, q) hm
  · exact jm_D158 (pc, q) hm
  · exact jm_D159 (pc, q) hm
  · exact jm_D160 (pc, q) hm
  · exact jm_D161 (pc, q) hm
  · exact jm_D162 (pc, q) hm
  · exact jm_D163 (pc, q) hm
  · exact jm_D164 (pc, q) hm
  · exact jm_D165 (pc, q) hm
  · exact jm_D166 (pc, q) hm
  · exact jm_D167 (pc, q) hm
  · exact jm_D168 (pc, q) hm
  · exact jm_D169 (pc, q) hm
  · exact jm_D170 (pc, q) hm
theorem jm_De9 (mi : Nat) (h0 : 171 ≤ mi) (h1 : mi < 190) (pc : Nat) (q : Instr × Nat) (hm : (pc, q) ∈ jm_code mi) : decode (jm_b mi) pc = .ok q := by
  have h : mi = 171 ∨ mi = 172 ∨ mi = 173 ∨ mi = 174 ∨ mi = 175 ∨ mi = 176 ∨ mi = 177 ∨ mi = 178 ∨ mi = 179 ∨ mi = 180 ∨ mi = 181 ∨ mi = 182 ∨ mi = 183 ∨ mi = 184 ∨ mi = 185 ∨ mi = 186 ∨ mi = 187 ∨ mi = 188 ∨ mi = 189 := by omega
  rcases h with rfl | rfl | rfl | rfl | rfl | rfl | rfl | rfl | rfl | rfl | rfl | rfl | rfl | rfl | rfl | rfl | rfl | rfl | rfl
  · exact jm_D171 (pc, q) hm
  · exact jm_D172 (pc, q) hm
  · exact jm_D173 (pc, q) hm
  · exact jm_D174 (pc, q) hm
  · exact jm_D175 (pc, q) hm
  · exact jm_D176 (pc, q) hm
  · exact jm_D177 (pc, q) hm
  · exact jm_D178 (pc, q) hm
  · exact jm_D179 (pc, q) hm
  · exact jm_D180 (pc, q) hm
  · exact jm_D181 (pc, q) hm
  · exact jm_D182 (pc, q) hm
  · exact jm_D183 (pc, q) hm
  · exact jm_D184 (pc, q) hm
  · exact jm_D185 (pc, q) hm
  · exact jm_D186 (pc, q) hm
  · exact jm_D187 (pc, q) hm
  · exact jm_D188 (pc, q) hm
  · exact jm_D189 (pc, q) hm
theorem jm_code_ge (n : Nat) : jm_code (n + 190) = [] := rfl
theorem jm_tab_lt {mi pc : Nat} {q : Instr × Nat} (h : jm_tab mi pc = some q) : mi < 190 := by
  by_cases hm : mi < 190
  · exact hm
  · obtain ⟨n, rfl⟩ : ∃ n, mi = n + 190 := ⟨mi - 190, by omega⟩
    unfold jm_tab at h
    rw [jm_code_ge] at h
    cases h
theorem jm_dec {mi pc : Nat} {i : Instr} {len : Nat} (h : jm_tab mi pc = some (i, len)) : decode (jm_b mi) pc = .ok (i, len) := by
  have h1 : (pc, i, len) ∈ jm_code mi := jm_look_mem h
  have hm := jm_tab_lt h
  by_cases q0 : mi < 19
  · exact jm_De0 mi (by omega) q0 pc (i, len) h1
  by_cases q1 : mi < 38
  · exact jm_De1 mi (by omega) q1 pc (i, len) h1
  by_cases q2 : mi < 57
  · exact jm_De2 mi (by omega) q2 pc (i, len) h1
  by_cases q3 : mi < 76
  · exact jm_De3 mi (by omega) q3 pc (i, len) h1
  by_cases q4 : mi < 95
  · exact jm_De4 mi (by omega) q4 pc (i, len) h1
  by_cases q5 : mi < 114
  · exact jm_De5 mi (by omega) q5 pc (i, len) h1
  by_cases q6 : mi < 133
  · exact jm_De6 mi (by omega) q6 pc (i, len) h1
  by_cases q7 : mi < 152
  · exact jm_De7 mi (by omega) q7 pc (i, len) h1
  by_cases q8 : mi < 171
  · exact jm_De8 mi (by omega) q8 pc (i, len) h1
  exact jm_De9 mi (by omega) hm pc (i, len) h1
