theorem jm_ctk : (decide (([13, 27, 36, 59] : List Nat).map (fun ct => Cond.classLink (jm_on 13) ct (jm_xn (jm_ct ct))) = [446, 634, 686, 884].filterMap (fun i => lw_tbl[i]?)) && (([13, 27, 36, 59] : List Nat).map (fun ct => Cond.classLink (jm_on 13) ct (jm_xn (jm_ct ct)))).all goodWord) = true := by decide +kernel
theorem jm_ct_in {ct : Nat} (h : jm_ct ct = 50 ∨ jm_ct ct = 51 ∨ jm_ct ct = 52 ∨ jm_ct ct = 53) : ct ∈ ([13, 27, 36, 59] : List Nat) := by
  unfold jm_ct at h
  split at h <;> first | decide | (exact absurd h (by decide))
theorem jm_ct_W {ct : Nat} (h : jm_ct ct = 50 ∨ jm_ct ct = 51 ∨ jm_ct ct = 52 ∨ jm_ct ct = 53) : Cond.classLink (jm_on 13) ct (jm_xn (jm_ct ct)) ∈ jm_W := jm_mem _ jm_ctk (List.mem_map.mpr ⟨ct, jm_ct_in h, rfl⟩)
