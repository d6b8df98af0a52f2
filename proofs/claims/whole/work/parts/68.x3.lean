set_option maxRecDepth 100000 in
theorem kc_law (n : Nat) (xs : Nat → Int32) : jm_D rL_law 0 0 0 [.ref 8, .null, .null, .null] [] (9, (jT00 n), kP0, (jI00 xs), kL0) = jEL n rL_law 18 [.ref 8, .ref 9, .ref 111, .int (nI 0)] [] (jI0 xs) jL0 := by
  refine (jx_new (cc := cL_law) rfl dL_law_0 (c := 9) (uc' := 1) (us' := 9) (σ' := (10, (kT1 n), kP1, (kI1 xs), kL1)) (pc' := 3) rfl ⟨by decide, by decide⟩ rfl rfl rfl rfl).trans ?_
  refine (jx_dup_ref (cc := cL_law) rfl dL_law_3 (pc' := 4) rfl).trans ?_
  refine (jx_call (cc := cL_law) rfl dL_law_4 (q := rX9_init) (rest := [.ref 9]) (lvq := [.ref 9]) (uc' := 102) (us' := 4949) (pc' := 7) rfl rfl rfl rfl rfl (Nat.le_of_ble_eq_true rfl) rfl rfl (kc_21 n xs) rfl rfl rfl).trans ?_
  refine (jx_astore_n (cc := cL_law) rfl dL_law_7 (lv' := [.ref 8, .ref 9, .null, .null]) (pc' := 8) (Nat.le_of_ble_eq_true rfl) rfl rfl).trans ?_
  refine (jx_new (cc := cL_law) rfl dL_law_8 (c := 10) (uc' := 103) (us' := 4993) (σ' := (112, (kT103 n), kP221, (kI121 xs), kL103)) (pc' := 11) rfl ⟨by decide, by decide⟩ rfl rfl rfl rfl).trans ?_
  refine (jx_dup_ref (cc := cL_law) rfl dL_law_11 (pc' := 12) rfl).trans ?_
  refine (jx_call (cc := cL_law) rfl dL_law_12 (q := rX10_init) (rest := [.ref 111]) (lvq := [.ref 111, .null]) (uc' := 136) (us' := 9352) (pc' := 15) rfl rfl rfl rfl rfl (Nat.le_of_ble_eq_true rfl) rfl rfl (kc_22 n xs) rfl rfl rfl).trans ?_
  refine (jx_astore_n (cc := cL_law) rfl dL_law_15 (lv' := [.ref 8, .ref 9, .ref 111, .null]) (pc' := 16) (Nat.le_of_ble_eq_true rfl) rfl rfl).trans ?_
  refine (jx_iconst (cc := cL_law) rfl dL_law_16 (v := nI 0) (pc' := 17) (by decide) rfl).trans ?_
  refine (jx_istore_n (cc := cL_law) rfl dL_law_17 (lv' := [.ref 8, .ref 9, .ref 111, .int (nI 0)]) (pc' := 18) (Nat.le_of_ble_eq_true rfl) rfl rfl).trans ?_
  rfl
