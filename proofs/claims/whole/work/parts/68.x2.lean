set_option maxRecDepth 100000 in
theorem kc_12 (n : Nat) (xs : Nat → Int32) : jm_D rX0_init 0 0 0 [.ref 79, .ref 10, .ref 74] [] (80, (kT71 n), kP141, (kI89 xs), kL71) = some (none, (83, (kT74 n), kP149, (kI92 xs), kL74)) := by
  refine (jx_aload_n (cc := cX0_init) rfl dX0_init_0 (pc' := 1) rfl rfl).trans ?_
  refine (jx_obji (cc := cX0_init) rfl dX0_init_1 (pc' := 4) rfl rfl rfl).trans ?_
  refine (jx_aload_n (cc := cX0_init) rfl dX0_init_4 (pc' := 5) rfl rfl).trans ?_
  refine (jx_sipush (cc := cX0_init) rfl dX0_init_5 (v := nI 343) (pc' := 8) (by decide) rfl).trans ?_
  refine (jx_newa (cc := cX0_init) rfl dX0_init_8 (g := 1) (m := 343) (uc' := 1) (us' := 343) (σ' := (81, (kT72 n), kP142, (kI90 xs), kL72)) (pc' := 10) rfl (by decide) ⟨by decide, by decide, by decide, by decide⟩ rfl rfl rfl rfl).trans ?_
  refine (jx_putf (cc := cX0_init) rfl dX0_init_10 (c := 0) (f := 2) (σ' := (81, (kT72 n), kP143, (kI90 xs), kL72)) (pc' := 13) rfl rfl rfl ⟨rfl, rfl⟩ rfl rfl).trans ?_
  refine (jx_aload_n (cc := cX0_init) rfl dX0_init_13 (pc' := 14) rfl rfl).trans ?_
  refine (jx_bipush (cc := cX0_init) rfl dX0_init_14 (v := nI 7) (pc' := 16) (by decide) rfl).trans ?_
  refine (jx_newa (cc := cX0_init) rfl dX0_init_16 (g := 0) (m := 7) (uc' := 2) (us' := 350) (σ' := (82, (kT73 n), jP0c8, (kI91 xs), kL73)) (pc' := 18) rfl (by decide) ⟨by decide, by decide, by decide, by decide⟩ rfl rfl rfl rfl).trans ?_
  refine (jx_putf (cc := cX0_init) rfl dX0_init_18 (c := 0) (f := 3) (σ' := (82, (kT73 n), kP145, (kI91 xs), kL73)) (pc' := 21) rfl rfl rfl ⟨rfl, rfl⟩ rfl rfl).trans ?_
  refine (jx_aload_n (cc := cX0_init) rfl dX0_init_21 (pc' := 22) rfl rfl).trans ?_
  refine (jx_iconst (cc := cX0_init) rfl dX0_init_22 (v := nI 3) (pc' := 23) (by decide) rfl).trans ?_
  refine (jx_newa (cc := cX0_init) rfl dX0_init_23 (g := 0) (m := 3) (uc' := 3) (us' := 353) (σ' := (83, (kT74 n), kP146, (kI92 xs), kL74)) (pc' := 25) rfl (by decide) ⟨by decide, by decide, by decide, by decide⟩ rfl rfl rfl rfl).trans ?_
  refine (jx_putf (cc := cX0_init) rfl dX0_init_25 (c := 0) (f := 4) (σ' := (83, (kT74 n), kP147, (kI92 xs), kL74)) (pc' := 28) rfl rfl rfl ⟨rfl, rfl⟩ rfl rfl).trans ?_
  refine (jx_aload_n (cc := cX0_init) rfl dX0_init_28 (pc' := 29) rfl rfl).trans ?_
  refine (jx_aload_n (cc := cX0_init) rfl dX0_init_29 (pc' := 30) rfl rfl).trans ?_
  refine (jx_putf (cc := cX0_init) rfl dX0_init_30 (c := 0) (f := 0) (σ' := (83, (kT74 n), kP148, (kI92 xs), kL74)) (pc' := 33) rfl rfl rfl ⟨rfl, rfl⟩ rfl rfl).trans ?_
  refine (jx_aload_n (cc := cX0_init) rfl dX0_init_33 (pc' := 34) rfl rfl).trans ?_
  refine (jx_aload_n (cc := cX0_init) rfl dX0_init_34 (pc' := 35) rfl rfl).trans ?_
  refine (jx_putf (cc := cX0_init) rfl dX0_init_35 (c := 0) (f := 1) (σ' := (83, (kT74 n), kP149, (kI92 xs), kL74)) (pc' := 38) rfl rfl rfl ⟨rfl, rfl⟩ rfl rfl).trans ?_
  exact jx_ret (cc := cX0_init) rfl dX0_init_38 rfl ⟨by decide, by decide⟩
set_option maxRecDepth 100000 in
theorem kc_13 (n : Nat) (xs : Nat → Int32) : jm_D rX0_init 0 0 0 [.ref 83, .ref 10, .ref 74] [] (84, (kT75 n), kP151, (kI93 xs), kL75) = some (none, (87, (kT78 n), kP159, (jI0c5 xs), kL78)) := by
  refine (jx_aload_n (cc := cX0_init) rfl dX0_init_0 (pc' := 1) rfl rfl).trans ?_
  refine (jx_obji (cc := cX0_init) rfl dX0_init_1 (pc' := 4) rfl rfl rfl).trans ?_
  refine (jx_aload_n (cc := cX0_init) rfl dX0_init_4 (pc' := 5) rfl rfl).trans ?_
  refine (jx_sipush (cc := cX0_init) rfl dX0_init_5 (v := nI 343) (pc' := 8) (by decide) rfl).trans ?_
  refine (jx_newa (cc := cX0_init) rfl dX0_init_8 (g := 1) (m := 343) (uc' := 1) (us' := 343) (σ' := (85, (kT76 n), kP152, (kI94 xs), kL76)) (pc' := 10) rfl (by decide) ⟨by decide, by decide, by decide, by decide⟩ rfl rfl rfl rfl).trans ?_
  refine (jx_putf (cc := cX0_init) rfl dX0_init_10 (c := 0) (f := 2) (σ' := (85, (kT76 n), kP153, (kI94 xs), kL76)) (pc' := 13) rfl rfl rfl ⟨rfl, rfl⟩ rfl rfl).trans ?_
  refine (jx_aload_n (cc := cX0_init) rfl dX0_init_13 (pc' := 14) rfl rfl).trans ?_
  refine (jx_bipush (cc := cX0_init) rfl dX0_init_14 (v := nI 7) (pc' := 16) (by decide) rfl).trans ?_
  refine (jx_newa (cc := cX0_init) rfl dX0_init_16 (g := 0) (m := 7) (uc' := 2) (us' := 350) (σ' := (86, (kT77 n), kP154, (kI95 xs), kL77)) (pc' := 18) rfl (by decide) ⟨by decide, by decide, by decide, by decide⟩ rfl rfl rfl rfl).trans ?_
  refine (jx_putf (cc := cX0_init) rfl dX0_init_18 (c := 0) (f := 3) (σ' := (86, (kT77 n), kP155, (kI95 xs), kL77)) (pc' := 21) rfl rfl rfl ⟨rfl, rfl⟩ rfl rfl).trans ?_
  refine (jx_aload_n (cc := cX0_init) rfl dX0_init_21 (pc' := 22) rfl rfl).trans ?_
  refine (jx_iconst (cc := cX0_init) rfl dX0_init_22 (v := nI 3) (pc' := 23) (by decide) rfl).trans ?_
  refine (jx_newa (cc := cX0_init) rfl dX0_init_23 (g := 0) (m := 3) (uc' := 3) (us' := 353) (σ' := (87, (kT78 n), kP156, (jI0c5 xs), kL78)) (pc' := 25) rfl (by decide) ⟨by decide, by decide, by decide, by decide⟩ rfl rfl rfl rfl).trans ?_
  refine (jx_putf (cc := cX0_init) rfl dX0_init_25 (c := 0) (f := 4) (σ' := (87, (kT78 n), kP157, (jI0c5 xs), kL78)) (pc' := 28) rfl rfl rfl ⟨rfl, rfl⟩ rfl rfl).trans ?_
  refine (jx_aload_n (cc := cX0_init) rfl dX0_init_28 (pc' := 29) rfl rfl).trans ?_
  refine (jx_aload_n (cc := cX0_init) rfl dX0_init_29 (pc' := 30) rfl rfl).trans ?_
  refine (jx_putf (cc := cX0_init) rfl dX0_init_30 (c := 0) (f := 0) (σ' := (87, (kT78 n), kP158, (jI0c5 xs), kL78)) (pc' := 33) rfl rfl rfl ⟨rfl, rfl⟩ rfl rfl).trans ?_
  refine (jx_aload_n (cc := cX0_init) rfl dX0_init_33 (pc' := 34) rfl rfl).trans ?_
  refine (jx_aload_n (cc := cX0_init) rfl dX0_init_34 (pc' := 35) rfl rfl).trans ?_
  refine (jx_putf (cc := cX0_init) rfl dX0_init_35 (c := 0) (f := 1) (σ' := (87, (kT78 n), kP159, (jI0c5 xs), kL78)) (pc' := 38) rfl rfl rfl ⟨rfl, rfl⟩ rfl rfl).trans ?_
  exact jx_ret (cc := cX0_init) rfl dX0_init_38 rfl ⟨by decide, by decide⟩
set_option maxRecDepth 100000 in
theorem kc_14 (n : Nat) (xs : Nat → Int32) : jm_D rX0_init 0 0 0 [.ref 87, .ref 10, .ref 74] [] (88, (kT79 n), kP161, (kI97 xs), kL79) = some (none, (91, (kT82 n), kP169, (kI100 xs), kL82)) := by
  refine (jx_aload_n (cc := cX0_init) rfl dX0_init_0 (pc' := 1) rfl rfl).trans ?_
  refine (jx_obji (cc := cX0_init) rfl dX0_init_1 (pc' := 4) rfl rfl rfl).trans ?_
  refine (jx_aload_n (cc := cX0_init) rfl dX0_init_4 (pc' := 5) rfl rfl).trans ?_
  refine (jx_sipush (cc := cX0_init) rfl dX0_init_5 (v := nI 343) (pc' := 8) (by decide) rfl).trans ?_
  refine (jx_newa (cc := cX0_init) rfl dX0_init_8 (g := 1) (m := 343) (uc' := 1) (us' := 343) (σ' := (89, (jT0c4 n), kP162, (kI98 xs), jL0c4)) (pc' := 10) rfl (by decide) ⟨by decide, by decide, by decide, by decide⟩ rfl rfl rfl rfl).trans ?_
  refine (jx_putf (cc := cX0_init) rfl dX0_init_10 (c := 0) (f := 2) (σ' := (89, (jT0c4 n), kP163, (kI98 xs), jL0c4)) (pc' := 13) rfl rfl rfl ⟨rfl, rfl⟩ rfl rfl).trans ?_
  refine (jx_aload_n (cc := cX0_init) rfl dX0_init_13 (pc' := 14) rfl rfl).trans ?_
  refine (jx_bipush (cc := cX0_init) rfl dX0_init_14 (v := nI 7) (pc' := 16) (by decide) rfl).trans ?_
  refine (jx_newa (cc := cX0_init) rfl dX0_init_16 (g := 0) (m := 7) (uc' := 2) (us' := 350) (σ' := (90, (kT81 n), kP164, (kI99 xs), kL81)) (pc' := 18) rfl (by decide) ⟨by decide, by decide, by decide, by decide⟩ rfl rfl rfl rfl).trans ?_
  refine (jx_putf (cc := cX0_init) rfl dX0_init_18 (c := 0) (f := 3) (σ' := (90, (kT81 n), kP165, (kI99 xs), kL81)) (pc' := 21) rfl rfl rfl ⟨rfl, rfl⟩ rfl rfl).trans ?_
  refine (jx_aload_n (cc := cX0_init) rfl dX0_init_21 (pc' := 22) rfl rfl).trans ?_
  refine (jx_iconst (cc := cX0_init) rfl dX0_init_22 (v := nI 3) (pc' := 23) (by decide) rfl).trans ?_
  refine (jx_newa (cc := cX0_init) rfl dX0_init_23 (g := 0) (m := 3) (uc' := 3) (us' := 353) (σ' := (91, (kT82 n), kP166, (kI100 xs), kL82)) (pc' := 25) rfl (by decide) ⟨by decide, by decide, by decide, by decide⟩ rfl rfl rfl rfl).trans ?_
  refine (jx_putf (cc := cX0_init) rfl dX0_init_25 (c := 0) (f := 4) (σ' := (91, (kT82 n), kP167, (kI100 xs), kL82)) (pc' := 28) rfl rfl rfl ⟨rfl, rfl⟩ rfl rfl).trans ?_
  refine (jx_aload_n (cc := cX0_init) rfl dX0_init_28 (pc' := 29) rfl rfl).trans ?_
  refine (jx_aload_n (cc := cX0_init) rfl dX0_init_29 (pc' := 30) rfl rfl).trans ?_
  refine (jx_putf (cc := cX0_init) rfl dX0_init_30 (c := 0) (f := 0) (σ' := (91, (kT82 n), kP168, (kI100 xs), kL82)) (pc' := 33) rfl rfl rfl ⟨rfl, rfl⟩ rfl rfl).trans ?_
  refine (jx_aload_n (cc := cX0_init) rfl dX0_init_33 (pc' := 34) rfl rfl).trans ?_
  refine (jx_aload_n (cc := cX0_init) rfl dX0_init_34 (pc' := 35) rfl rfl).trans ?_
  refine (jx_putf (cc := cX0_init) rfl dX0_init_35 (c := 0) (f := 1) (σ' := (91, (kT82 n), kP169, (kI100 xs), kL82)) (pc' := 38) rfl rfl rfl ⟨rfl, rfl⟩ rfl rfl).trans ?_
  exact jx_ret (cc := cX0_init) rfl dX0_init_38 rfl ⟨by decide, by decide⟩
set_option maxRecDepth 100000 in
theorem kc_15 (n : Nat) (xs : Nat → Int32) : jm_D rX0_init 0 0 0 [.ref 91, .ref 10, .ref 74] [] (92, (kT83 n), kP171, (kI101 xs), kL83) = some (none, (95, (kT86 n), kP179, (kI104 xs), kL86)) := by
  refine (jx_aload_n (cc := cX0_init) rfl dX0_init_0 (pc' := 1) rfl rfl).trans ?_
  refine (jx_obji (cc := cX0_init) rfl dX0_init_1 (pc' := 4) rfl rfl rfl).trans ?_
  refine (jx_aload_n (cc := cX0_init) rfl dX0_init_4 (pc' := 5) rfl rfl).trans ?_
  refine (jx_sipush (cc := cX0_init) rfl dX0_init_5 (v := nI 343) (pc' := 8) (by decide) rfl).trans ?_
  refine (jx_newa (cc := cX0_init) rfl dX0_init_8 (g := 1) (m := 343) (uc' := 1) (us' := 343) (σ' := (93, (kT84 n), kP172, (kI102 xs), kL84)) (pc' := 10) rfl (by decide) ⟨by decide, by decide, by decide, by decide⟩ rfl rfl rfl rfl).trans ?_
  refine (jx_putf (cc := cX0_init) rfl dX0_init_10 (c := 0) (f := 2) (σ' := (93, (kT84 n), kP173, (kI102 xs), kL84)) (pc' := 13) rfl rfl rfl ⟨rfl, rfl⟩ rfl rfl).trans ?_
  refine (jx_aload_n (cc := cX0_init) rfl dX0_init_13 (pc' := 14) rfl rfl).trans ?_
  refine (jx_bipush (cc := cX0_init) rfl dX0_init_14 (v := nI 7) (pc' := 16) (by decide) rfl).trans ?_
  refine (jx_newa (cc := cX0_init) rfl dX0_init_16 (g := 0) (m := 7) (uc' := 2) (us' := 350) (σ' := (94, (kT85 n), kP174, (kI103 xs), kL85)) (pc' := 18) rfl (by decide) ⟨by decide, by decide, by decide, by decide⟩ rfl rfl rfl rfl).trans ?_
  refine (jx_putf (cc := cX0_init) rfl dX0_init_18 (c := 0) (f := 3) (σ' := (94, (kT85 n), kP175, (kI103 xs), kL85)) (pc' := 21) rfl rfl rfl ⟨rfl, rfl⟩ rfl rfl).trans ?_
  refine (jx_aload_n (cc := cX0_init) rfl dX0_init_21 (pc' := 22) rfl rfl).trans ?_
  refine (jx_iconst (cc := cX0_init) rfl dX0_init_22 (v := nI 3) (pc' := 23) (by decide) rfl).trans ?_
  refine (jx_newa (cc := cX0_init) rfl dX0_init_23 (g := 0) (m := 3) (uc' := 3) (us' := 353) (σ' := (95, (kT86 n), jP0c10, (kI104 xs), kL86)) (pc' := 25) rfl (by decide) ⟨by decide, by decide, by decide, by decide⟩ rfl rfl rfl rfl).trans ?_
  refine (jx_putf (cc := cX0_init) rfl dX0_init_25 (c := 0) (f := 4) (σ' := (95, (kT86 n), kP177, (kI104 xs), kL86)) (pc' := 28) rfl rfl rfl ⟨rfl, rfl⟩ rfl rfl).trans ?_
  refine (jx_aload_n (cc := cX0_init) rfl dX0_init_28 (pc' := 29) rfl rfl).trans ?_
  refine (jx_aload_n (cc := cX0_init) rfl dX0_init_29 (pc' := 30) rfl rfl).trans ?_
  refine (jx_putf (cc := cX0_init) rfl dX0_init_30 (c := 0) (f := 0) (σ' := (95, (kT86 n), kP178, (kI104 xs), kL86)) (pc' := 33) rfl rfl rfl ⟨rfl, rfl⟩ rfl rfl).trans ?_
  refine (jx_aload_n (cc := cX0_init) rfl dX0_init_33 (pc' := 34) rfl rfl).trans ?_
  refine (jx_aload_n (cc := cX0_init) rfl dX0_init_34 (pc' := 35) rfl rfl).trans ?_
  refine (jx_putf (cc := cX0_init) rfl dX0_init_35 (c := 0) (f := 1) (σ' := (95, (kT86 n), kP179, (kI104 xs), kL86)) (pc' := 38) rfl rfl rfl ⟨rfl, rfl⟩ rfl rfl).trans ?_
  exact jx_ret (cc := cX0_init) rfl dX0_init_38 rfl ⟨by decide, by decide⟩
set_option maxRecDepth 100000 in
theorem kc_16 (n : Nat) (xs : Nat → Int32) : jm_D rX0_init 0 0 0 [.ref 95, .ref 10, .ref 74] [] (96, (kT87 n), kP181, (kI105 xs), kL87) = some (none, (99, (kT90 n), kP189, (kI108 xs), kL90)) := by
  refine (jx_aload_n (cc := cX0_init) rfl dX0_init_0 (pc' := 1) rfl rfl).trans ?_
  refine (jx_obji (cc := cX0_init) rfl dX0_init_1 (pc' := 4) rfl rfl rfl).trans ?_
  refine (jx_aload_n (cc := cX0_init) rfl dX0_init_4 (pc' := 5) rfl rfl).trans ?_
  refine (jx_sipush (cc := cX0_init) rfl dX0_init_5 (v := nI 343) (pc' := 8) (by decide) rfl).trans ?_
  refine (jx_newa (cc := cX0_init) rfl dX0_init_8 (g := 1) (m := 343) (uc' := 1) (us' := 343) (σ' := (97, (kT88 n), kP182, (kI106 xs), kL88)) (pc' := 10) rfl (by decide) ⟨by decide, by decide, by decide, by decide⟩ rfl rfl rfl rfl).trans ?_
  refine (jx_putf (cc := cX0_init) rfl dX0_init_10 (c := 0) (f := 2) (σ' := (97, (kT88 n), kP183, (kI106 xs), kL88)) (pc' := 13) rfl rfl rfl ⟨rfl, rfl⟩ rfl rfl).trans ?_
  refine (jx_aload_n (cc := cX0_init) rfl dX0_init_13 (pc' := 14) rfl rfl).trans ?_
  refine (jx_bipush (cc := cX0_init) rfl dX0_init_14 (v := nI 7) (pc' := 16) (by decide) rfl).trans ?_
  refine (jx_newa (cc := cX0_init) rfl dX0_init_16 (g := 0) (m := 7) (uc' := 2) (us' := 350) (σ' := (98, (kT89 n), kP184, (kI107 xs), kL89)) (pc' := 18) rfl (by decide) ⟨by decide, by decide, by decide, by decide⟩ rfl rfl rfl rfl).trans ?_
  refine (jx_putf (cc := cX0_init) rfl dX0_init_18 (c := 0) (f := 3) (σ' := (98, (kT89 n), kP185, (kI107 xs), kL89)) (pc' := 21) rfl rfl rfl ⟨rfl, rfl⟩ rfl rfl).trans ?_
  refine (jx_aload_n (cc := cX0_init) rfl dX0_init_21 (pc' := 22) rfl rfl).trans ?_
  refine (jx_iconst (cc := cX0_init) rfl dX0_init_22 (v := nI 3) (pc' := 23) (by decide) rfl).trans ?_
  refine (jx_newa (cc := cX0_init) rfl dX0_init_23 (g := 0) (m := 3) (uc' := 3) (us' := 353) (σ' := (99, (kT90 n), kP186, (kI108 xs), kL90)) (pc' := 25) rfl (by decide) ⟨by decide, by decide, by decide, by decide⟩ rfl rfl rfl rfl).trans ?_
  refine (jx_putf (cc := cX0_init) rfl dX0_init_25 (c := 0) (f := 4) (σ' := (99, (kT90 n), kP187, (kI108 xs), kL90)) (pc' := 28) rfl rfl rfl ⟨rfl, rfl⟩ rfl rfl).trans ?_
  refine (jx_aload_n (cc := cX0_init) rfl dX0_init_28 (pc' := 29) rfl rfl).trans ?_
  refine (jx_aload_n (cc := cX0_init) rfl dX0_init_29 (pc' := 30) rfl rfl).trans ?_
  refine (jx_putf (cc := cX0_init) rfl dX0_init_30 (c := 0) (f := 0) (σ' := (99, (kT90 n), kP188, (kI108 xs), kL90)) (pc' := 33) rfl rfl rfl ⟨rfl, rfl⟩ rfl rfl).trans ?_
  refine (jx_aload_n (cc := cX0_init) rfl dX0_init_33 (pc' := 34) rfl rfl).trans ?_
  refine (jx_aload_n (cc := cX0_init) rfl dX0_init_34 (pc' := 35) rfl rfl).trans ?_
  refine (jx_putf (cc := cX0_init) rfl dX0_init_35 (c := 0) (f := 1) (σ' := (99, (kT90 n), kP189, (kI108 xs), kL90)) (pc' := 38) rfl rfl rfl ⟨rfl, rfl⟩ rfl rfl).trans ?_
  exact jx_ret (cc := cX0_init) rfl dX0_init_38 rfl ⟨by decide, by decide⟩
set_option maxRecDepth 100000 in
theorem kc_17 (n : Nat) (xs : Nat → Int32) : jm_D rX0_init 0 0 0 [.ref 99, .ref 10, .ref 74] [] (100, (kT91 n), kP191, (kI109 xs), kL91) = some (none, (103, (kT94 n), kP199, (jI0c6 xs), kL94)) := by
  refine (jx_aload_n (cc := cX0_init) rfl dX0_init_0 (pc' := 1) rfl rfl).trans ?_
  refine (jx_obji (cc := cX0_init) rfl dX0_init_1 (pc' := 4) rfl rfl rfl).trans ?_
  refine (jx_aload_n (cc := cX0_init) rfl dX0_init_4 (pc' := 5) rfl rfl).trans ?_
  refine (jx_sipush (cc := cX0_init) rfl dX0_init_5 (v := nI 343) (pc' := 8) (by decide) rfl).trans ?_
  refine (jx_newa (cc := cX0_init) rfl dX0_init_8 (g := 1) (m := 343) (uc' := 1) (us' := 343) (σ' := (101, (kT92 n), jP0c11, (kI110 xs), kL92)) (pc' := 10) rfl (by decide) ⟨by decide, by decide, by decide, by decide⟩ rfl rfl rfl rfl).trans ?_
  refine (jx_putf (cc := cX0_init) rfl dX0_init_10 (c := 0) (f := 2) (σ' := (101, (kT92 n), kP193, (kI110 xs), kL92)) (pc' := 13) rfl rfl rfl ⟨rfl, rfl⟩ rfl rfl).trans ?_
  refine (jx_aload_n (cc := cX0_init) rfl dX0_init_13 (pc' := 14) rfl rfl).trans ?_
  refine (jx_bipush (cc := cX0_init) rfl dX0_init_14 (v := nI 7) (pc' := 16) (by decide) rfl).trans ?_
  refine (jx_newa (cc := cX0_init) rfl dX0_init_16 (g := 0) (m := 7) (uc' := 2) (us' := 350) (σ' := (102, (kT93 n), kP194, (kI111 xs), kL93)) (pc' := 18) rfl (by decide) ⟨by decide, by decide, by decide, by decide⟩ rfl rfl rfl rfl).trans ?_
  refine (jx_putf (cc := cX0_init) rfl dX0_init_18 (c := 0) (f := 3) (σ' := (102, (kT93 n), kP195, (kI111 xs), kL93)) (pc' := 21) rfl rfl rfl ⟨rfl, rfl⟩ rfl rfl).trans ?_
  refine (jx_aload_n (cc := cX0_init) rfl dX0_init_21 (pc' := 22) rfl rfl).trans ?_
  refine (jx_iconst (cc := cX0_init) rfl dX0_init_22 (v := nI 3) (pc' := 23) (by decide) rfl).trans ?_
  refine (jx_newa (cc := cX0_init) rfl dX0_init_23 (g := 0) (m := 3) (uc' := 3) (us' := 353) (σ' := (103, (kT94 n), kP196, (jI0c6 xs), kL94)) (pc' := 25) rfl (by decide) ⟨by decide, by decide, by decide, by decide⟩ rfl rfl rfl rfl).trans ?_
  refine (jx_putf (cc := cX0_init) rfl dX0_init_25 (c := 0) (f := 4) (σ' := (103, (kT94 n), kP197, (jI0c6 xs), kL94)) (pc' := 28) rfl rfl rfl ⟨rfl, rfl⟩ rfl rfl).trans ?_
  refine (jx_aload_n (cc := cX0_init) rfl dX0_init_28 (pc' := 29) rfl rfl).trans ?_
  refine (jx_aload_n (cc := cX0_init) rfl dX0_init_29 (pc' := 30) rfl rfl).trans ?_
  refine (jx_putf (cc := cX0_init) rfl dX0_init_30 (c := 0) (f := 0) (σ' := (103, (kT94 n), kP198, (jI0c6 xs), kL94)) (pc' := 33) rfl rfl rfl ⟨rfl, rfl⟩ rfl rfl).trans ?_
  refine (jx_aload_n (cc := cX0_init) rfl dX0_init_33 (pc' := 34) rfl rfl).trans ?_
  refine (jx_aload_n (cc := cX0_init) rfl dX0_init_34 (pc' := 35) rfl rfl).trans ?_
  refine (jx_putf (cc := cX0_init) rfl dX0_init_35 (c := 0) (f := 1) (σ' := (103, (kT94 n), kP199, (jI0c6 xs), kL94)) (pc' := 38) rfl rfl rfl ⟨rfl, rfl⟩ rfl rfl).trans ?_
  exact jx_ret (cc := cX0_init) rfl dX0_init_38 rfl ⟨by decide, by decide⟩
set_option maxRecDepth 100000 in
theorem kc_18 (n : Nat) (xs : Nat → Int32) : jm_D rX0_init 0 0 0 [.ref 103, .ref 10, .ref 74] [] (104, (kT95 n), kP201, (kI113 xs), kL95) = some (none, (107, (kT98 n), kP209, (kI116 xs), kL98)) := by
  refine (jx_aload_n (cc := cX0_init) rfl dX0_init_0 (pc' := 1) rfl rfl).trans ?_
  refine (jx_obji (cc := cX0_init) rfl dX0_init_1 (pc' := 4) rfl rfl rfl).trans ?_
  refine (jx_aload_n (cc := cX0_init) rfl dX0_init_4 (pc' := 5) rfl rfl).trans ?_
  refine (jx_sipush (cc := cX0_init) rfl dX0_init_5 (v := nI 343) (pc' := 8) (by decide) rfl).trans ?_
  refine (jx_newa (cc := cX0_init) rfl dX0_init_8 (g := 1) (m := 343) (uc' := 1) (us' := 343) (σ' := (105, (jT0c5 n), kP202, (kI114 xs), jL0c5)) (pc' := 10) rfl (by decide) ⟨by decide, by decide, by decide, by decide⟩ rfl rfl rfl rfl).trans ?_
  refine (jx_putf (cc := cX0_init) rfl dX0_init_10 (c := 0) (f := 2) (σ' := (105, (jT0c5 n), kP203, (kI114 xs), jL0c5)) (pc' := 13) rfl rfl rfl ⟨rfl, rfl⟩ rfl rfl).trans ?_
  refine (jx_aload_n (cc := cX0_init) rfl dX0_init_13 (pc' := 14) rfl rfl).trans ?_
  refine (jx_bipush (cc := cX0_init) rfl dX0_init_14 (v := nI 7) (pc' := 16) (by decide) rfl).trans ?_
  refine (jx_newa (cc := cX0_init) rfl dX0_init_16 (g := 0) (m := 7) (uc' := 2) (us' := 350) (σ' := (106, (kT97 n), kP204, (kI115 xs), kL97)) (pc' := 18) rfl (by decide) ⟨by decide, by decide, by decide, by decide⟩ rfl rfl rfl rfl).trans ?_
  refine (jx_putf (cc := cX0_init) rfl dX0_init_18 (c := 0) (f := 3) (σ' := (106, (kT97 n), kP205, (kI115 xs), kL97)) (pc' := 21) rfl rfl rfl ⟨rfl, rfl⟩ rfl rfl).trans ?_
  refine (jx_aload_n (cc := cX0_init) rfl dX0_init_21 (pc' := 22) rfl rfl).trans ?_
  refine (jx_iconst (cc := cX0_init) rfl dX0_init_22 (v := nI 3) (pc' := 23) (by decide) rfl).trans ?_
  refine (jx_newa (cc := cX0_init) rfl dX0_init_23 (g := 0) (m := 3) (uc' := 3) (us' := 353) (σ' := (107, (kT98 n), kP206, (kI116 xs), kL98)) (pc' := 25) rfl (by decide) ⟨by decide, by decide, by decide, by decide⟩ rfl rfl rfl rfl).trans ?_
  refine (jx_putf (cc := cX0_init) rfl dX0_init_25 (c := 0) (f := 4) (σ' := (107, (kT98 n), kP207, (kI116 xs), kL98)) (pc' := 28) rfl rfl rfl ⟨rfl, rfl⟩ rfl rfl).trans ?_
  refine (jx_aload_n (cc := cX0_init) rfl dX0_init_28 (pc' := 29) rfl rfl).trans ?_
  refine (jx_aload_n (cc := cX0_init) rfl dX0_init_29 (pc' := 30) rfl rfl).trans ?_
  refine (jx_putf (cc := cX0_init) rfl dX0_init_30 (c := 0) (f := 0) (σ' := (107, (kT98 n), jP0c12, (kI116 xs), kL98)) (pc' := 33) rfl rfl rfl ⟨rfl, rfl⟩ rfl rfl).trans ?_
  refine (jx_aload_n (cc := cX0_init) rfl dX0_init_33 (pc' := 34) rfl rfl).trans ?_
  refine (jx_aload_n (cc := cX0_init) rfl dX0_init_34 (pc' := 35) rfl rfl).trans ?_
  refine (jx_putf (cc := cX0_init) rfl dX0_init_35 (c := 0) (f := 1) (σ' := (107, (kT98 n), kP209, (kI116 xs), kL98)) (pc' := 38) rfl rfl rfl ⟨rfl, rfl⟩ rfl rfl).trans ?_
  exact jx_ret (cc := cX0_init) rfl dX0_init_38 rfl ⟨by decide, by decide⟩
set_option maxRecDepth 100000 in
theorem kc_19 (n : Nat) (xs : Nat → Int32) : jm_D rX1_init 0 0 0 [.ref 71, .ref 10, .null, .null] [] (72, (kT63 n), kP124, (kI81 xs), kL63) = some (none, (107, (kT98 n), kP210, (kI116 xs), kL98)) := by
  refine (jx_aload_n (cc := cX1_init) rfl dX1_init_0 (pc' := 1) rfl rfl).trans ?_
  refine (jx_obji (cc := cX1_init) rfl dX1_init_1 (pc' := 4) rfl rfl rfl).trans ?_
  refine (jx_aload_n (cc := cX1_init) rfl dX1_init_4 (pc' := 5) rfl rfl).trans ?_
  refine (jx_bipush (cc := cX1_init) rfl dX1_init_5 (v := nI 8) (pc' := 7) (by decide) rfl).trans ?_
  refine (jx_anewa (cc := cX1_init) rfl dX1_init_7 (m := 8) (uc' := 1) (us' := 8) (σ' := (73, (jT0c3 n), kP125, (kI82 xs), jL0c3)) (pc' := 10) rfl (by decide) ⟨by decide, by decide, by decide, by decide⟩ rfl rfl rfl rfl).trans ?_
  refine (jx_putf (cc := cX1_init) rfl dX1_init_10 (c := 1) (f := 1) (σ' := (73, (jT0c3 n), kP126, (kI82 xs), jL0c3)) (pc' := 13) rfl rfl rfl ⟨rfl, rfl⟩ rfl rfl).trans ?_
  refine (jx_aload_n (cc := cX1_init) rfl dX1_init_13 (pc' := 14) rfl rfl).trans ?_
  refine (jx_bipush (cc := cX1_init) rfl dX1_init_14 (v := nI 8) (pc' := 16) (by decide) rfl).trans ?_
  refine (jx_newa (cc := cX1_init) rfl dX1_init_16 (g := 0) (m := 8) (uc' := 2) (us' := 16) (σ' := (74, (kT65 n), kP127, (kI83 xs), kL65)) (pc' := 18) rfl (by decide) ⟨by decide, by decide, by decide, by decide⟩ rfl rfl rfl rfl).trans ?_
  refine (jx_putf (cc := cX1_init) rfl dX1_init_18 (c := 1) (f := 2) (σ' := (74, (kT65 n), jP0c7, (kI83 xs), kL65)) (pc' := 21) rfl rfl rfl ⟨rfl, rfl⟩ rfl rfl).trans ?_
  refine (jx_aload_n (cc := cX1_init) rfl dX1_init_21 (pc' := 22) rfl rfl).trans ?_
  refine (jx_aload_n (cc := cX1_init) rfl dX1_init_22 (pc' := 23) rfl rfl).trans ?_
  refine (jx_putf (cc := cX1_init) rfl dX1_init_23 (c := 1) (f := 0) (σ' := (74, (kT65 n), kP129, (kI83 xs), kL65)) (pc' := 26) rfl rfl rfl ⟨rfl, rfl⟩ rfl rfl).trans ?_
  refine (jx_sipush (cc := cX1_init) rfl dX1_init_26 (v := nI 343) (pc' := 29) (by decide) rfl).trans ?_
  refine (jx_newa (cc := cX1_init) rfl dX1_init_29 (g := 1) (m := 343) (uc' := 3) (us' := 359) (σ' := (75, (kT66 n), kP130, (kI84 xs), kL66)) (pc' := 31) rfl (by decide) ⟨by decide, by decide, by decide, by decide⟩ rfl rfl rfl rfl).trans ?_
  refine (jx_astore_n (cc := cX1_init) rfl dX1_init_31 (lv' := [.ref 71, .ref 10, .ref 74, .null]) (pc' := 32) (Nat.le_of_ble_eq_true rfl) rfl rfl).trans ?_
  refine (jx_iconst (cc := cX1_init) rfl dX1_init_32 (v := nI 0) (pc' := 33) (by decide) rfl).trans ?_
  refine (jx_istore_n (cc := cX1_init) rfl dX1_init_33 (lv' := [.ref 71, .ref 10, .ref 74, .int (nI 0)]) (pc' := 34) (Nat.le_of_ble_eq_true rfl) rfl rfl).trans ?_
  refine (jx_iload_n (cc := cX1_init) rfl dX1_init_34 (pc' := 35) rfl rfl).trans ?_
  refine (jx_bipush (cc := cX1_init) rfl dX1_init_35 (v := nI 8) (pc' := 37) (by decide) rfl).trans ?_
  refine (jx_icmp (cc := cX1_init) rfl dX1_init_37 (t := 61) (b := false) (pc' := 40) rfl (by decide) rfl).trans ?_
  refine (jx_aload_n (cc := cX1_init) rfl dX1_init_40 (pc' := 41) rfl rfl).trans ?_
  refine (jx_getf (cc := cX1_init) rfl dX1_init_41 (c := 1) (f := 1) (v := .ref 72) (pc' := 44) rfl rfl rfl rfl rfl).trans ?_
  refine (jx_iload_n (cc := cX1_init) rfl dX1_init_44 (pc' := 45) rfl rfl).trans ?_
  refine (jx_new (cc := cX1_init) rfl dX1_init_45 (c := 0) (uc' := 4) (us' := 367) (σ' := (76, (kT67 n), kP131, (kI85 xs), kL67)) (pc' := 48) rfl ⟨by decide, by decide⟩ rfl rfl rfl rfl).trans ?_
  refine (jx_dup_ref (cc := cX1_init) rfl dX1_init_48 (pc' := 49) rfl).trans ?_
  refine (jx_aload_n (cc := cX1_init) rfl dX1_init_49 (pc' := 50) rfl rfl).trans ?_
  refine (jx_aload_n (cc := cX1_init) rfl dX1_init_50 (pc' := 51) rfl rfl).trans ?_
  refine (jx_call (cc := cX1_init) rfl dX1_init_51 (q := rX0_init) (rest := [.ref 75, .int (nI 0), .ref 72]) (lvq := [.ref 75, .ref 10, .ref 74]) (uc' := 7) (us' := 720) (pc' := 54) rfl rfl rfl rfl rfl (Nat.le_of_ble_eq_true rfl) rfl rfl (kc_11 n xs) rfl rfl rfl).trans ?_
  refine (jx_aast (cc := cX1_init) rfl dX1_init_54 (k := 0) (m := 8) (σ' := (79, (kT70 n), kP140, (kI88 xs), kL70)) (pc' := 55) rfl rfl (by decide) (by decide) rfl rfl rfl rfl).trans ?_
  refine (jx_iinc (cc := cX1_init) rfl dX1_init_55 (w := nI 1) (lv' := [.ref 71, .ref 10, .ref 74, .int (nI 1)]) (pc' := 58) rfl rfl (by decide) rfl rfl).trans ?_
  refine (jx_goto (cc := cX1_init) rfl dX1_init_58 (pc' := 34) rfl).trans ?_
  refine (jx_iload_n (cc := cX1_init) rfl dX1_init_34 (pc' := 35) rfl rfl).trans ?_
  refine (jx_bipush (cc := cX1_init) rfl dX1_init_35 (v := nI 8) (pc' := 37) (by decide) rfl).trans ?_
  refine (jx_icmp (cc := cX1_init) rfl dX1_init_37 (t := 61) (b := false) (pc' := 40) rfl (by decide) rfl).trans ?_
  refine (jx_aload_n (cc := cX1_init) rfl dX1_init_40 (pc' := 41) rfl rfl).trans ?_
  refine (jx_getf (cc := cX1_init) rfl dX1_init_41 (c := 1) (f := 1) (v := .ref 72) (pc' := 44) rfl rfl rfl rfl rfl).trans ?_
  refine (jx_iload_n (cc := cX1_init) rfl dX1_init_44 (pc' := 45) rfl rfl).trans ?_
  refine (jx_new (cc := cX1_init) rfl dX1_init_45 (c := 0) (uc' := 8) (us' := 728) (σ' := (80, (kT71 n), kP141, (kI89 xs), kL71)) (pc' := 48) rfl ⟨by decide, by decide⟩ rfl rfl rfl rfl).trans ?_
  refine (jx_dup_ref (cc := cX1_init) rfl dX1_init_48 (pc' := 49) rfl).trans ?_
  refine (jx_aload_n (cc := cX1_init) rfl dX1_init_49 (pc' := 50) rfl rfl).trans ?_
  refine (jx_aload_n (cc := cX1_init) rfl dX1_init_50 (pc' := 51) rfl rfl).trans ?_
  refine (jx_call (cc := cX1_init) rfl dX1_init_51 (q := rX0_init) (rest := [.ref 79, .int (nI 1), .ref 72]) (lvq := [.ref 79, .ref 10, .ref 74]) (uc' := 11) (us' := 1081) (pc' := 54) rfl rfl rfl rfl rfl (Nat.le_of_ble_eq_true rfl) rfl rfl (kc_12 n xs) rfl rfl rfl).trans ?_
  refine (jx_aast (cc := cX1_init) rfl dX1_init_54 (k := 1) (m := 8) (σ' := (83, (kT74 n), kP150, (kI92 xs), kL74)) (pc' := 55) rfl rfl (by decide) (by decide) rfl rfl rfl rfl).trans ?_
  refine (jx_iinc (cc := cX1_init) rfl dX1_init_55 (w := nI 2) (lv' := [.ref 71, .ref 10, .ref 74, .int (nI 2)]) (pc' := 58) rfl rfl (by decide) rfl rfl).trans ?_
  refine (jx_goto (cc := cX1_init) rfl dX1_init_58 (pc' := 34) rfl).trans ?_
  refine (jx_iload_n (cc := cX1_init) rfl dX1_init_34 (pc' := 35) rfl rfl).trans ?_
  refine (jx_bipush (cc := cX1_init) rfl dX1_init_35 (v := nI 8) (pc' := 37) (by decide) rfl).trans ?_
  refine (jx_icmp (cc := cX1_init) rfl dX1_init_37 (t := 61) (b := false) (pc' := 40) rfl (by decide) rfl).trans ?_
  refine (jx_aload_n (cc := cX1_init) rfl dX1_init_40 (pc' := 41) rfl rfl).trans ?_
  refine (jx_getf (cc := cX1_init) rfl dX1_init_41 (c := 1) (f := 1) (v := .ref 72) (pc' := 44) rfl rfl rfl rfl rfl).trans ?_
  refine (jx_iload_n (cc := cX1_init) rfl dX1_init_44 (pc' := 45) rfl rfl).trans ?_
  refine (jx_new (cc := cX1_init) rfl dX1_init_45 (c := 0) (uc' := 12) (us' := 1089) (σ' := (84, (kT75 n), kP151, (kI93 xs), kL75)) (pc' := 48) rfl ⟨by decide, by decide⟩ rfl rfl rfl rfl).trans ?_
  refine (jx_dup_ref (cc := cX1_init) rfl dX1_init_48 (pc' := 49) rfl).trans ?_
  refine (jx_aload_n (cc := cX1_init) rfl dX1_init_49 (pc' := 50) rfl rfl).trans ?_
  refine (jx_aload_n (cc := cX1_init) rfl dX1_init_50 (pc' := 51) rfl rfl).trans ?_
  refine (jx_call (cc := cX1_init) rfl dX1_init_51 (q := rX0_init) (rest := [.ref 83, .int (nI 2), .ref 72]) (lvq := [.ref 83, .ref 10, .ref 74]) (uc' := 15) (us' := 1442) (pc' := 54) rfl rfl rfl rfl rfl (Nat.le_of_ble_eq_true rfl) rfl rfl (kc_13 n xs) rfl rfl rfl).trans ?_
  refine (jx_aast (cc := cX1_init) rfl dX1_init_54 (k := 2) (m := 8) (σ' := (87, (kT78 n), jP0c9, (jI0c5 xs), kL78)) (pc' := 55) rfl rfl (by decide) (by decide) rfl rfl rfl rfl).trans ?_
  refine (jx_iinc (cc := cX1_init) rfl dX1_init_55 (w := nI 3) (lv' := [.ref 71, .ref 10, .ref 74, .int (nI 3)]) (pc' := 58) rfl rfl (by decide) rfl rfl).trans ?_
  refine (jx_goto (cc := cX1_init) rfl dX1_init_58 (pc' := 34) rfl).trans ?_
  refine (jx_iload_n (cc := cX1_init) rfl dX1_init_34 (pc' := 35) rfl rfl).trans ?_
  refine (jx_bipush (cc := cX1_init) rfl dX1_init_35 (v := nI 8) (pc' := 37) (by decide) rfl).trans ?_
  refine (jx_icmp (cc := cX1_init) rfl dX1_init_37 (t := 61) (b := false) (pc' := 40) rfl (by decide) rfl).trans ?_
  refine (jx_aload_n (cc := cX1_init) rfl dX1_init_40 (pc' := 41) rfl rfl).trans ?_
  refine (jx_getf (cc := cX1_init) rfl dX1_init_41 (c := 1) (f := 1) (v := .ref 72) (pc' := 44) rfl rfl rfl rfl rfl).trans ?_
  refine (jx_iload_n (cc := cX1_init) rfl dX1_init_44 (pc' := 45) rfl rfl).trans ?_
  refine (jx_new (cc := cX1_init) rfl dX1_init_45 (c := 0) (uc' := 16) (us' := 1450) (σ' := (88, (kT79 n), kP161, (kI97 xs), kL79)) (pc' := 48) rfl ⟨by decide, by decide⟩ rfl rfl rfl rfl).trans ?_
  refine (jx_dup_ref (cc := cX1_init) rfl dX1_init_48 (pc' := 49) rfl).trans ?_
  refine (jx_aload_n (cc := cX1_init) rfl dX1_init_49 (pc' := 50) rfl rfl).trans ?_
  refine (jx_aload_n (cc := cX1_init) rfl dX1_init_50 (pc' := 51) rfl rfl).trans ?_
  refine (jx_call (cc := cX1_init) rfl dX1_init_51 (q := rX0_init) (rest := [.ref 87, .int (nI 3), .ref 72]) (lvq := [.ref 87, .ref 10, .ref 74]) (uc' := 19) (us' := 1803) (pc' := 54) rfl rfl rfl rfl rfl (Nat.le_of_ble_eq_true rfl) rfl rfl (kc_14 n xs) rfl rfl rfl).trans ?_
  refine (jx_aast (cc := cX1_init) rfl dX1_init_54 (k := 3) (m := 8) (σ' := (91, (kT82 n), kP170, (kI100 xs), kL82)) (pc' := 55) rfl rfl (by decide) (by decide) rfl rfl rfl rfl).trans ?_
  refine (jx_iinc (cc := cX1_init) rfl dX1_init_55 (w := nI 4) (lv' := [.ref 71, .ref 10, .ref 74, .int (nI 4)]) (pc' := 58) rfl rfl (by decide) rfl rfl).trans ?_
  refine (jx_goto (cc := cX1_init) rfl dX1_init_58 (pc' := 34) rfl).trans ?_
  refine (jx_iload_n (cc := cX1_init) rfl dX1_init_34 (pc' := 35) rfl rfl).trans ?_
  refine (jx_bipush (cc := cX1_init) rfl dX1_init_35 (v := nI 8) (pc' := 37) (by decide) rfl).trans ?_
  refine (jx_icmp (cc := cX1_init) rfl dX1_init_37 (t := 61) (b := false) (pc' := 40) rfl (by decide) rfl).trans ?_
  refine (jx_aload_n (cc := cX1_init) rfl dX1_init_40 (pc' := 41) rfl rfl).trans ?_
  refine (jx_getf (cc := cX1_init) rfl dX1_init_41 (c := 1) (f := 1) (v := .ref 72) (pc' := 44) rfl rfl rfl rfl rfl).trans ?_
  refine (jx_iload_n (cc := cX1_init) rfl dX1_init_44 (pc' := 45) rfl rfl).trans ?_
  refine (jx_new (cc := cX1_init) rfl dX1_init_45 (c := 0) (uc' := 20) (us' := 1811) (σ' := (92, (kT83 n), kP171, (kI101 xs), kL83)) (pc' := 48) rfl ⟨by decide, by decide⟩ rfl rfl rfl rfl).trans ?_
  refine (jx_dup_ref (cc := cX1_init) rfl dX1_init_48 (pc' := 49) rfl).trans ?_
  refine (jx_aload_n (cc := cX1_init) rfl dX1_init_49 (pc' := 50) rfl rfl).trans ?_
  refine (jx_aload_n (cc := cX1_init) rfl dX1_init_50 (pc' := 51) rfl rfl).trans ?_
  refine (jx_call (cc := cX1_init) rfl dX1_init_51 (q := rX0_init) (rest := [.ref 91, .int (nI 4), .ref 72]) (lvq := [.ref 91, .ref 10, .ref 74]) (uc' := 23) (us' := 2164) (pc' := 54) rfl rfl rfl rfl rfl (Nat.le_of_ble_eq_true rfl) rfl rfl (kc_15 n xs) rfl rfl rfl).trans ?_
  refine (jx_aast (cc := cX1_init) rfl dX1_init_54 (k := 4) (m := 8) (σ' := (95, (kT86 n), kP180, (kI104 xs), kL86)) (pc' := 55) rfl rfl (by decide) (by decide) rfl rfl rfl rfl).trans ?_
  refine (jx_iinc (cc := cX1_init) rfl dX1_init_55 (w := nI 5) (lv' := [.ref 71, .ref 10, .ref 74, .int (nI 5)]) (pc' := 58) rfl rfl (by decide) rfl rfl).trans ?_
  refine (jx_goto (cc := cX1_init) rfl dX1_init_58 (pc' := 34) rfl).trans ?_
  refine (jx_iload_n (cc := cX1_init) rfl dX1_init_34 (pc' := 35) rfl rfl).trans ?_
  refine (jx_bipush (cc := cX1_init) rfl dX1_init_35 (v := nI 8) (pc' := 37) (by decide) rfl).trans ?_
  refine (jx_icmp (cc := cX1_init) rfl dX1_init_37 (t := 61) (b := false) (pc' := 40) rfl (by decide) rfl).trans ?_
  refine (jx_aload_n (cc := cX1_init) rfl dX1_init_40 (pc' := 41) rfl rfl).trans ?_
  refine (jx_getf (cc := cX1_init) rfl dX1_init_41 (c := 1) (f := 1) (v := .ref 72) (pc' := 44) rfl rfl rfl rfl rfl).trans ?_
  refine (jx_iload_n (cc := cX1_init) rfl dX1_init_44 (pc' := 45) rfl rfl).trans ?_
  refine (jx_new (cc := cX1_init) rfl dX1_init_45 (c := 0) (uc' := 24) (us' := 2172) (σ' := (96, (kT87 n), kP181, (kI105 xs), kL87)) (pc' := 48) rfl ⟨by decide, by decide⟩ rfl rfl rfl rfl).trans ?_
  refine (jx_dup_ref (cc := cX1_init) rfl dX1_init_48 (pc' := 49) rfl).trans ?_
  refine (jx_aload_n (cc := cX1_init) rfl dX1_init_49 (pc' := 50) rfl rfl).trans ?_
  refine (jx_aload_n (cc := cX1_init) rfl dX1_init_50 (pc' := 51) rfl rfl).trans ?_
  refine (jx_call (cc := cX1_init) rfl dX1_init_51 (q := rX0_init) (rest := [.ref 95, .int (nI 5), .ref 72]) (lvq := [.ref 95, .ref 10, .ref 74]) (uc' := 27) (us' := 2525) (pc' := 54) rfl rfl rfl rfl rfl (Nat.le_of_ble_eq_true rfl) rfl rfl (kc_16 n xs) rfl rfl rfl).trans ?_
  refine (jx_aast (cc := cX1_init) rfl dX1_init_54 (k := 5) (m := 8) (σ' := (99, (kT90 n), kP190, (kI108 xs), kL90)) (pc' := 55) rfl rfl (by decide) (by decide) rfl rfl rfl rfl).trans ?_
  refine (jx_iinc (cc := cX1_init) rfl dX1_init_55 (w := nI 6) (lv' := [.ref 71, .ref 10, .ref 74, .int (nI 6)]) (pc' := 58) rfl rfl (by decide) rfl rfl).trans ?_
  refine (jx_goto (cc := cX1_init) rfl dX1_init_58 (pc' := 34) rfl).trans ?_
  refine (jx_iload_n (cc := cX1_init) rfl dX1_init_34 (pc' := 35) rfl rfl).trans ?_
  refine (jx_bipush (cc := cX1_init) rfl dX1_init_35 (v := nI 8) (pc' := 37) (by decide) rfl).trans ?_
  refine (jx_icmp (cc := cX1_init) rfl dX1_init_37 (t := 61) (b := false) (pc' := 40) rfl (by decide) rfl).trans ?_
  refine (jx_aload_n (cc := cX1_init) rfl dX1_init_40 (pc' := 41) rfl rfl).trans ?_
  refine (jx_getf (cc := cX1_init) rfl dX1_init_41 (c := 1) (f := 1) (v := .ref 72) (pc' := 44) rfl rfl rfl rfl rfl).trans ?_
  refine (jx_iload_n (cc := cX1_init) rfl dX1_init_44 (pc' := 45) rfl rfl).trans ?_
  refine (jx_new (cc := cX1_init) rfl dX1_init_45 (c := 0) (uc' := 28) (us' := 2533) (σ' := (100, (kT91 n), kP191, (kI109 xs), kL91)) (pc' := 48) rfl ⟨by decide, by decide⟩ rfl rfl rfl rfl).trans ?_
  refine (jx_dup_ref (cc := cX1_init) rfl dX1_init_48 (pc' := 49) rfl).trans ?_
  refine (jx_aload_n (cc := cX1_init) rfl dX1_init_49 (pc' := 50) rfl rfl).trans ?_
  refine (jx_aload_n (cc := cX1_init) rfl dX1_init_50 (pc' := 51) rfl rfl).trans ?_
  refine (jx_call (cc := cX1_init) rfl dX1_init_51 (q := rX0_init) (rest := [.ref 99, .int (nI 6), .ref 72]) (lvq := [.ref 99, .ref 10, .ref 74]) (uc' := 31) (us' := 2886) (pc' := 54) rfl rfl rfl rfl rfl (Nat.le_of_ble_eq_true rfl) rfl rfl (kc_17 n xs) rfl rfl rfl).trans ?_
  refine (jx_aast (cc := cX1_init) rfl dX1_init_54 (k := 6) (m := 8) (σ' := (103, (kT94 n), kP200, (jI0c6 xs), kL94)) (pc' := 55) rfl rfl (by decide) (by decide) rfl rfl rfl rfl).trans ?_
  refine (jx_iinc (cc := cX1_init) rfl dX1_init_55 (w := nI 7) (lv' := [.ref 71, .ref 10, .ref 74, .int (nI 7)]) (pc' := 58) rfl rfl (by decide) rfl rfl).trans ?_
  refine (jx_goto (cc := cX1_init) rfl dX1_init_58 (pc' := 34) rfl).trans ?_
  refine (jx_iload_n (cc := cX1_init) rfl dX1_init_34 (pc' := 35) rfl rfl).trans ?_
  refine (jx_bipush (cc := cX1_init) rfl dX1_init_35 (v := nI 8) (pc' := 37) (by decide) rfl).trans ?_
  refine (jx_icmp (cc := cX1_init) rfl dX1_init_37 (t := 61) (b := false) (pc' := 40) rfl (by decide) rfl).trans ?_
  refine (jx_aload_n (cc := cX1_init) rfl dX1_init_40 (pc' := 41) rfl rfl).trans ?_
  refine (jx_getf (cc := cX1_init) rfl dX1_init_41 (c := 1) (f := 1) (v := .ref 72) (pc' := 44) rfl rfl rfl rfl rfl).trans ?_
  refine (jx_iload_n (cc := cX1_init) rfl dX1_init_44 (pc' := 45) rfl rfl).trans ?_
  refine (jx_new (cc := cX1_init) rfl dX1_init_45 (c := 0) (uc' := 32) (us' := 2894) (σ' := (104, (kT95 n), kP201, (kI113 xs), kL95)) (pc' := 48) rfl ⟨by decide, by decide⟩ rfl rfl rfl rfl).trans ?_
  refine (jx_dup_ref (cc := cX1_init) rfl dX1_init_48 (pc' := 49) rfl).trans ?_
  refine (jx_aload_n (cc := cX1_init) rfl dX1_init_49 (pc' := 50) rfl rfl).trans ?_
  refine (jx_aload_n (cc := cX1_init) rfl dX1_init_50 (pc' := 51) rfl rfl).trans ?_
  refine (jx_call (cc := cX1_init) rfl dX1_init_51 (q := rX0_init) (rest := [.ref 103, .int (nI 7), .ref 72]) (lvq := [.ref 103, .ref 10, .ref 74]) (uc' := 35) (us' := 3247) (pc' := 54) rfl rfl rfl rfl rfl (Nat.le_of_ble_eq_true rfl) rfl rfl (kc_18 n xs) rfl rfl rfl).trans ?_
  refine (jx_aast (cc := cX1_init) rfl dX1_init_54 (k := 7) (m := 8) (σ' := (107, (kT98 n), kP210, (kI116 xs), kL98)) (pc' := 55) rfl rfl (by decide) (by decide) rfl rfl rfl rfl).trans ?_
  refine (jx_iinc (cc := cX1_init) rfl dX1_init_55 (w := nI 8) (lv' := [.ref 71, .ref 10, .ref 74, .int (nI 8)]) (pc' := 58) rfl rfl (by decide) rfl rfl).trans ?_
  refine (jx_goto (cc := cX1_init) rfl dX1_init_58 (pc' := 34) rfl).trans ?_
  refine (jx_iload_n (cc := cX1_init) rfl dX1_init_34 (pc' := 35) rfl rfl).trans ?_
  refine (jx_bipush (cc := cX1_init) rfl dX1_init_35 (v := nI 8) (pc' := 37) (by decide) rfl).trans ?_
  refine (jx_icmp (cc := cX1_init) rfl dX1_init_37 (t := 61) (b := true) (pc' := 61) rfl (by decide) rfl).trans ?_
  exact jx_ret (cc := cX1_init) rfl dX1_init_61 rfl ⟨by decide, by decide⟩
set_option maxRecDepth 100000 in
theorem kc_20 (n : Nat) (xs : Nat → Int32) : jm_D rX7_init 0 0 0 [.ref 107, .ref 10] [] (108, (kT99 n), kP212, (kI117 xs), kL99) = some (none, (111, (kT102 n), kP219, (kI120 xs), kL102)) := by
  refine (jx_aload_n (cc := cX7_init) rfl dX7_init_0 (pc' := 1) rfl rfl).trans ?_
  refine (jx_obji (cc := cX7_init) rfl dX7_init_1 (pc' := 4) rfl rfl rfl).trans ?_
  refine (jx_aload_n (cc := cX7_init) rfl dX7_init_4 (pc' := 5) rfl rfl).trans ?_
  refine (jx_bipush (cc := cX7_init) rfl dX7_init_5 (v := nI 96) (pc' := 7) (by decide) rfl).trans ?_
  refine (jx_newa (cc := cX7_init) rfl dX7_init_7 (g := 1) (m := 96) (uc' := 1) (us' := 96) (σ' := (109, (kT100 n), kP213, (kI118 xs), kL100)) (pc' := 9) rfl (by decide) ⟨by decide, by decide, by decide, by decide⟩ rfl rfl rfl rfl).trans ?_
  refine (jx_putf (cc := cX7_init) rfl dX7_init_9 (c := 7) (f := 1) (σ' := (109, (kT100 n), kP214, (kI118 xs), kL100)) (pc' := 12) rfl rfl rfl ⟨rfl, rfl⟩ rfl rfl).trans ?_
  refine (jx_aload_n (cc := cX7_init) rfl dX7_init_12 (pc' := 13) rfl rfl).trans ?_
  refine (jx_sipush (cc := cX7_init) rfl dX7_init_13 (v := nI 336) (pc' := 16) (by decide) rfl).trans ?_
  refine (jx_newa (cc := cX7_init) rfl dX7_init_16 (g := 1) (m := 336) (uc' := 2) (us' := 432) (σ' := (110, (kT101 n), kP215, (kI119 xs), kL101)) (pc' := 18) rfl (by decide) ⟨by decide, by decide, by decide, by decide⟩ rfl rfl rfl rfl).trans ?_
  refine (jx_putf (cc := cX7_init) rfl dX7_init_18 (c := 7) (f := 2) (σ' := (110, (kT101 n), kP216, (kI119 xs), kL101)) (pc' := 21) rfl rfl rfl ⟨rfl, rfl⟩ rfl rfl).trans ?_
  refine (jx_aload_n (cc := cX7_init) rfl dX7_init_21 (pc' := 22) rfl rfl).trans ?_
  refine (jx_iconst (cc := cX7_init) rfl dX7_init_22 (v := nI 4) (pc' := 23) (by decide) rfl).trans ?_
  refine (jx_newa (cc := cX7_init) rfl dX7_init_23 (g := 0) (m := 4) (uc' := 3) (us' := 436) (σ' := (111, (kT102 n), kP217, (kI120 xs), kL102)) (pc' := 25) rfl (by decide) ⟨by decide, by decide, by decide, by decide⟩ rfl rfl rfl rfl).trans ?_
  refine (jx_putf (cc := cX7_init) rfl dX7_init_25 (c := 7) (f := 3) (σ' := (111, (kT102 n), kP218, (kI120 xs), kL102)) (pc' := 28) rfl rfl rfl ⟨rfl, rfl⟩ rfl rfl).trans ?_
  refine (jx_aload_n (cc := cX7_init) rfl dX7_init_28 (pc' := 29) rfl rfl).trans ?_
  refine (jx_aload_n (cc := cX7_init) rfl dX7_init_29 (pc' := 30) rfl rfl).trans ?_
  refine (jx_putf (cc := cX7_init) rfl dX7_init_30 (c := 7) (f := 0) (σ' := (111, (kT102 n), kP219, (kI120 xs), kL102)) (pc' := 33) rfl rfl rfl ⟨rfl, rfl⟩ rfl rfl).trans ?_
  exact jx_ret (cc := cX7_init) rfl dX7_init_33 rfl ⟨by decide, by decide⟩
set_option maxRecDepth 100000 in
theorem kc_21 (n : Nat) (xs : Nat → Int32) : jm_D rX9_init 0 0 0 [.ref 9] [] (10, (kT1 n), kP1, (kI1 xs), kL1) = some (none, (111, (kT102 n), kP220, (kI120 xs), kL102)) := by
  refine (jx_aload_n (cc := cX9_init) rfl dX9_init_0 (pc' := 1) rfl rfl).trans ?_
  refine (jx_obji (cc := cX9_init) rfl dX9_init_1 (pc' := 4) rfl rfl rfl).trans ?_
  refine (jx_aload_n (cc := cX9_init) rfl dX9_init_4 (pc' := 5) rfl rfl).trans ?_
  refine (jx_new (cc := cX9_init) rfl dX9_init_5 (c := 8) (uc' := 1) (us' := 5) (σ' := (11, (kT2 n), kP2, (kI2 xs), kL2)) (pc' := 8) rfl ⟨by decide, by decide⟩ rfl rfl rfl rfl).trans ?_
  refine (jx_dup_ref (cc := cX9_init) rfl dX9_init_8 (pc' := 9) rfl).trans ?_
  refine (jx_call (cc := cX9_init) rfl dX9_init_9 (q := rX8_init) (rest := [.ref 10, .ref 9]) (lvq := [.ref 10]) (uc' := 28) (us' := 568) (pc' := 12) rfl rfl rfl rfl rfl (Nat.le_of_ble_eq_true rfl) rfl rfl (kc_4 n xs) rfl rfl rfl).trans ?_
  refine (jx_putf (cc := cX9_init) rfl dX9_init_12 (c := 9) (f := 0) (σ' := (38, (kT29 n), kP57, (kI38 xs), kL29)) (pc' := 15) rfl rfl rfl ⟨rfl, rfl⟩ rfl rfl).trans ?_
  refine (jx_aload_n (cc := cX9_init) rfl dX9_init_15 (pc' := 16) rfl rfl).trans ?_
  refine (jx_new (cc := cX9_init) rfl dX9_init_16 (c := 8) (uc' := 29) (us' := 573) (σ' := (39, (kT30 n), kP58, (kI39 xs), kL30)) (pc' := 19) rfl ⟨by decide, by decide⟩ rfl rfl rfl rfl).trans ?_
  refine (jx_dup_ref (cc := cX9_init) rfl dX9_init_19 (pc' := 20) rfl).trans ?_
  refine (jx_call (cc := cX9_init) rfl dX9_init_20 (q := rX8_init) (rest := [.ref 38, .ref 9]) (lvq := [.ref 38]) (uc' := 56) (us' := 1136) (pc' := 23) rfl rfl rfl rfl rfl (Nat.le_of_ble_eq_true rfl) rfl rfl (kc_9 n xs) rfl rfl rfl).trans ?_
  refine (jx_putf (cc := cX9_init) rfl dX9_init_23 (c := 9) (f := 1) (σ' := (66, (kT57 n), kP113, (kI75 xs), kL57)) (pc' := 26) rfl rfl rfl ⟨rfl, rfl⟩ rfl rfl).trans ?_
  refine (jx_aload_n (cc := cX9_init) rfl dX9_init_26 (pc' := 27) rfl rfl).trans ?_
  refine (jx_new (cc := cX9_init) rfl dX9_init_27 (c := 5) (uc' := 57) (us' := 1140) (σ' := (67, (kT58 n), kP114, (kI76 xs), kL58)) (pc' := 30) rfl ⟨by decide, by decide⟩ rfl rfl rfl rfl).trans ?_
  refine (jx_dup_ref (cc := cX9_init) rfl dX9_init_30 (pc' := 31) rfl).trans ?_
  refine (jx_call (cc := cX9_init) rfl dX9_init_31 (q := rX5_init) (rest := [.ref 66, .ref 9]) (lvq := [.ref 66]) (uc' := 59) (us' := 1163) (pc' := 34) rfl rfl rfl rfl rfl (Nat.le_of_ble_eq_true rfl) rfl rfl (kc_10 n xs) rfl rfl rfl).trans ?_
  refine (jx_putf (cc := cX9_init) rfl dX9_init_34 (c := 9) (f := 3) (σ' := (69, (kT60 n), kP119, (kI78 xs), kL60)) (pc' := 37) rfl rfl rfl ⟨rfl, rfl⟩ rfl rfl).trans ?_
  refine (jx_aload_n (cc := cX9_init) rfl dX9_init_37 (pc' := 38) rfl rfl).trans ?_
  refine (jx_bipush (cc := cX9_init) rfl dX9_init_38 (v := nI 80) (pc' := 40) (by decide) rfl).trans ?_
  refine (jx_newa (cc := cX9_init) rfl dX9_init_40 (g := 0) (m := 80) (uc' := 60) (us' := 1243) (σ' := (70, (kT61 n), kP120, (kI79 xs), kL61)) (pc' := 42) rfl (by decide) ⟨by decide, by decide, by decide, by decide⟩ rfl rfl rfl rfl).trans ?_
  refine (jx_putf (cc := cX9_init) rfl dX9_init_42 (c := 9) (f := 4) (σ' := (70, (kT61 n), kP121, (kI79 xs), kL61)) (pc' := 45) rfl rfl rfl ⟨rfl, rfl⟩ rfl rfl).trans ?_
  refine (jx_aload_n (cc := cX9_init) rfl dX9_init_45 (pc' := 46) rfl rfl).trans ?_
  refine (jx_bipush (cc := cX9_init) rfl dX9_init_46 (v := nI 6) (pc' := 48) (by decide) rfl).trans ?_
  refine (jx_newa (cc := cX9_init) rfl dX9_init_48 (g := 0) (m := 6) (uc' := 61) (us' := 1249) (σ' := (71, (kT62 n), kP122, (jI0c4 xs), kL62)) (pc' := 50) rfl (by decide) ⟨by decide, by decide, by decide, by decide⟩ rfl rfl rfl rfl).trans ?_
  refine (jx_putf (cc := cX9_init) rfl dX9_init_50 (c := 9) (f := 6) (σ' := (71, (kT62 n), kP123, (jI0c4 xs), kL62)) (pc' := 53) rfl rfl rfl ⟨rfl, rfl⟩ rfl rfl).trans ?_
  refine (jx_aload_n (cc := cX9_init) rfl dX9_init_53 (pc' := 54) rfl rfl).trans ?_
  refine (jx_new (cc := cX9_init) rfl dX9_init_54 (c := 1) (uc' := 62) (us' := 1252) (σ' := (72, (kT63 n), kP124, (kI81 xs), kL63)) (pc' := 57) rfl ⟨by decide, by decide⟩ rfl rfl rfl rfl).trans ?_
  refine (jx_dup_ref (cc := cX9_init) rfl dX9_init_57 (pc' := 58) rfl).trans ?_
  refine (jx_aload_n (cc := cX9_init) rfl dX9_init_58 (pc' := 59) rfl rfl).trans ?_
  refine (jx_getf (cc := cX9_init) rfl dX9_init_59 (c := 9) (f := 0) (v := .ref 10) (pc' := 62) rfl rfl rfl rfl rfl).trans ?_
  refine (jx_call (cc := cX9_init) rfl dX9_init_62 (q := rX1_init) (rest := [.ref 71, .ref 9]) (lvq := [.ref 71, .ref 10, .null, .null]) (uc' := 97) (us' := 4499) (pc' := 65) rfl rfl rfl rfl rfl (Nat.le_of_ble_eq_true rfl) rfl rfl (kc_19 n xs) rfl rfl rfl).trans ?_
  refine (jx_putf (cc := cX9_init) rfl dX9_init_65 (c := 9) (f := 7) (σ' := (107, (kT98 n), kP211, (kI116 xs), kL98)) (pc' := 68) rfl rfl rfl ⟨rfl, rfl⟩ rfl rfl).trans ?_
  refine (jx_aload_n (cc := cX9_init) rfl dX9_init_68 (pc' := 69) rfl rfl).trans ?_
  refine (jx_new (cc := cX9_init) rfl dX9_init_69 (c := 7) (uc' := 98) (us' := 4504) (σ' := (108, (kT99 n), kP212, (kI117 xs), kL99)) (pc' := 72) rfl ⟨by decide, by decide⟩ rfl rfl rfl rfl).trans ?_
  refine (jx_dup_ref (cc := cX9_init) rfl dX9_init_72 (pc' := 73) rfl).trans ?_
  refine (jx_aload_n (cc := cX9_init) rfl dX9_init_73 (pc' := 74) rfl rfl).trans ?_
  refine (jx_getf (cc := cX9_init) rfl dX9_init_74 (c := 9) (f := 0) (v := .ref 10) (pc' := 77) rfl rfl rfl rfl rfl).trans ?_
  refine (jx_call (cc := cX9_init) rfl dX9_init_77 (q := rX7_init) (rest := [.ref 107, .ref 9]) (lvq := [.ref 107, .ref 10]) (uc' := 101) (us' := 4940) (pc' := 80) rfl rfl rfl rfl rfl (Nat.le_of_ble_eq_true rfl) rfl rfl (kc_20 n xs) rfl rfl rfl).trans ?_
  refine (jx_putf (cc := cX9_init) rfl dX9_init_80 (c := 9) (f := 8) (σ' := (111, (kT102 n), kP220, (kI120 xs), kL102)) (pc' := 83) rfl rfl rfl ⟨rfl, rfl⟩ rfl rfl).trans ?_
  exact jx_ret (cc := cX9_init) rfl dX9_init_83 rfl ⟨by decide, by decide⟩
set_option maxRecDepth 100000 in
theorem kc_22 (n : Nat) (xs : Nat → Int32) : jm_D rX10_init 0 0 0 [.ref 111, .null] [] (112, (kT103 n), kP221, (kI121 xs), kL103) = some (none, (145, (jT0 n), jP0, (jI0 xs), jL0)) := by
  refine (jx_aload_n (cc := cX10_init) rfl dX10_init_0 (pc' := 1) rfl rfl).trans ?_
  refine (jx_obji (cc := cX10_init) rfl dX10_init_1 (pc' := 4) rfl rfl rfl).trans ?_
  refine (jx_aload_n (cc := cX10_init) rfl dX10_init_4 (pc' := 5) rfl rfl).trans ?_
  refine (jx_bipush (cc := cX10_init) rfl dX10_init_5 (v := nI 7) (pc' := 7) (by decide) rfl).trans ?_
  refine (jx_newa (cc := cX10_init) rfl dX10_init_7 (g := 0) (m := 7) (uc' := 1) (us' := 7) (σ' := (113, (kT104 n), kP222, (kI122 xs), kL104)) (pc' := 9) rfl (by decide) ⟨by decide, by decide, by decide, by decide⟩ rfl rfl rfl rfl).trans ?_
  refine (jx_putf (cc := cX10_init) rfl dX10_init_9 (c := 10) (f := 0) (σ' := (113, (kT104 n), kP223, (kI122 xs), kL104)) (pc' := 12) rfl rfl rfl ⟨rfl, rfl⟩ rfl rfl).trans ?_
  refine (jx_aload_n (cc := cX10_init) rfl dX10_init_12 (pc' := 13) rfl rfl).trans ?_
  refine (jx_iconst (cc := cX10_init) rfl dX10_init_13 (v := nI 4) (pc' := 14) (by decide) rfl).trans ?_
  refine (jx_newa (cc := cX10_init) rfl dX10_init_14 (g := 0) (m := 4) (uc' := 2) (us' := 11) (σ' := (114, (kT105 n), jP0c13, (kI123 xs), kL105)) (pc' := 16) rfl (by decide) ⟨by decide, by decide, by decide, by decide⟩ rfl rfl rfl rfl).trans ?_
  refine (jx_putf (cc := cX10_init) rfl dX10_init_16 (c := 10) (f := 1) (σ' := (114, (kT105 n), kP225, (kI123 xs), kL105)) (pc' := 19) rfl rfl rfl ⟨rfl, rfl⟩ rfl rfl).trans ?_
  refine (jx_aload_n (cc := cX10_init) rfl dX10_init_19 (pc' := 20) rfl rfl).trans ?_
  refine (jx_iconst (cc := cX10_init) rfl dX10_init_20 (v := nI 4) (pc' := 21) (by decide) rfl).trans ?_
  refine (jx_newa (cc := cX10_init) rfl dX10_init_21 (g := 0) (m := 4) (uc' := 3) (us' := 15) (σ' := (115, (kT106 n), kP226, (kI124 xs), kL106)) (pc' := 23) rfl (by decide) ⟨by decide, by decide, by decide, by decide⟩ rfl rfl rfl rfl).trans ?_
  refine (jx_putf (cc := cX10_init) rfl dX10_init_23 (c := 10) (f := 2) (σ' := (115, (kT106 n), kP227, (kI124 xs), kL106)) (pc' := 26) rfl rfl rfl ⟨rfl, rfl⟩ rfl rfl).trans ?_
  refine (jx_aload_n (cc := cX10_init) rfl dX10_init_26 (pc' := 27) rfl rfl).trans ?_
  refine (jx_iconst (cc := cX10_init) rfl dX10_init_27 (v := nI 4) (pc' := 28) (by decide) rfl).trans ?_
  refine (jx_newa (cc := cX10_init) rfl dX10_init_28 (g := 0) (m := 4) (uc' := 4) (us' := 19) (σ' := (116, (kT107 n), kP228, (kI125 xs), kL107)) (pc' := 30) rfl (by decide) ⟨by decide, by decide, by decide, by decide⟩ rfl rfl rfl rfl).trans ?_
  refine (jx_putf (cc := cX10_init) rfl dX10_init_30 (c := 10) (f := 3) (σ' := (116, (kT107 n), kP229, (kI125 xs), kL107)) (pc' := 33) rfl rfl rfl ⟨rfl, rfl⟩ rfl rfl).trans ?_
  refine (jx_aload_n (cc := cX10_init) rfl dX10_init_33 (pc' := 34) rfl rfl).trans ?_
  refine (jx_iconst (cc := cX10_init) rfl dX10_init_34 (v := nI 4) (pc' := 35) (by decide) rfl).trans ?_
  refine (jx_newa (cc := cX10_init) rfl dX10_init_35 (g := 0) (m := 4) (uc' := 5) (us' := 23) (σ' := (117, (kT108 n), kP230, (kI126 xs), kL108)) (pc' := 37) rfl (by decide) ⟨by decide, by decide, by decide, by decide⟩ rfl rfl rfl rfl).trans ?_
  refine (jx_putf (cc := cX10_init) rfl dX10_init_37 (c := 10) (f := 4) (σ' := (117, (kT108 n), kP231, (kI126 xs), kL108)) (pc' := 40) rfl rfl rfl ⟨rfl, rfl⟩ rfl rfl).trans ?_
  refine (jx_aload_n (cc := cX10_init) rfl dX10_init_40 (pc' := 41) rfl rfl).trans ?_
  refine (jx_bipush (cc := cX10_init) rfl dX10_init_41 (v := nI 16) (pc' := 43) (by decide) rfl).trans ?_
  refine (jx_newa (cc := cX10_init) rfl dX10_init_43 (g := 0) (m := 16) (uc' := 6) (us' := 39) (σ' := (118, (kT109 n), kP232, (kI127 xs), kL109)) (pc' := 45) rfl (by decide) ⟨by decide, by decide, by decide, by decide⟩ rfl rfl rfl rfl).trans ?_
  refine (jx_putf (cc := cX10_init) rfl dX10_init_45 (c := 10) (f := 5) (σ' := (118, (kT109 n), kP233, (kI127 xs), kL109)) (pc' := 48) rfl rfl rfl ⟨rfl, rfl⟩ rfl rfl).trans ?_
  refine (jx_aload_n (cc := cX10_init) rfl dX10_init_48 (pc' := 49) rfl rfl).trans ?_
  refine (jx_iconst (cc := cX10_init) rfl dX10_init_49 (v := nI 5) (pc' := 50) (by decide) rfl).trans ?_
  refine (jx_newa (cc := cX10_init) rfl dX10_init_50 (g := 0) (m := 5) (uc' := 7) (us' := 44) (σ' := (119, (kT110 n), kP234, (jI0c7 xs), kL110)) (pc' := 52) rfl (by decide) ⟨by decide, by decide, by decide, by decide⟩ rfl rfl rfl rfl).trans ?_
  refine (jx_putf (cc := cX10_init) rfl dX10_init_52 (c := 10) (f := 6) (σ' := (119, (kT110 n), kP235, (jI0c7 xs), kL110)) (pc' := 55) rfl rfl rfl ⟨rfl, rfl⟩ rfl rfl).trans ?_
  refine (jx_aload_n (cc := cX10_init) rfl dX10_init_55 (pc' := 56) rfl rfl).trans ?_
  refine (jx_iconst (cc := cX10_init) rfl dX10_init_56 (v := nI 4) (pc' := 57) (by decide) rfl).trans ?_
  refine (jx_newa (cc := cX10_init) rfl dX10_init_57 (g := 2) (m := 4) (uc' := 8) (us' := 48) (σ' := (120, (kT111 n), kP236, (kI129 xs), kL111)) (pc' := 59) rfl (by decide) ⟨by decide, by decide, by decide, by decide⟩ rfl rfl rfl rfl).trans ?_
  refine (jx_putf (cc := cX10_init) rfl dX10_init_59 (c := 10) (f := 7) (σ' := (120, (kT111 n), kP237, (kI129 xs), kL111)) (pc' := 62) rfl rfl rfl ⟨rfl, rfl⟩ rfl rfl).trans ?_
  refine (jx_aload_n (cc := cX10_init) rfl dX10_init_62 (pc' := 63) rfl rfl).trans ?_
  refine (jx_bipush (cc := cX10_init) rfl dX10_init_63 (v := nI 8) (pc' := 65) (by decide) rfl).trans ?_
  refine (jx_newa (cc := cX10_init) rfl dX10_init_65 (g := 0) (m := 8) (uc' := 9) (us' := 56) (σ' := (121, (jT0c6 n), kP238, (kI130 xs), jL0c6)) (pc' := 67) rfl (by decide) ⟨by decide, by decide, by decide, by decide⟩ rfl rfl rfl rfl).trans ?_
  refine (jx_dup_ref (cc := cX10_init) rfl dX10_init_67 (pc' := 68) rfl).trans ?_
  refine (jx_iconst (cc := cX10_init) rfl dX10_init_68 (v := nI 0) (pc' := 69) (by decide) rfl).trans ?_
  refine (jx_iconst (cc := cX10_init) rfl dX10_init_69 (v := nI 0) (pc' := 70) (by decide) rfl).trans ?_
  refine (jx_iast (cc := cX10_init) rfl dX10_init_70 (k := 0) (m := 8) (σ' := (121, (jT0c6 n), kP238, (kI131 xs), jL0c6)) (pc' := 71) rfl rfl (by decide) (by decide) rfl rfl).trans ?_
  refine (jx_dup_ref (cc := cX10_init) rfl dX10_init_71 (pc' := 72) rfl).trans ?_
  refine (jx_iconst (cc := cX10_init) rfl dX10_init_72 (v := nI 1) (pc' := 73) (by decide) rfl).trans ?_
  refine (jx_iconst (cc := cX10_init) rfl dX10_init_73 (v := nI 3) (pc' := 74) (by decide) rfl).trans ?_
  refine (jx_iast (cc := cX10_init) rfl dX10_init_74 (k := 1) (m := 8) (σ' := (121, (jT0c6 n), kP238, (kI132 xs), jL0c6)) (pc' := 75) rfl rfl (by decide) (by decide) rfl rfl).trans ?_
  refine (jx_dup_ref (cc := cX10_init) rfl dX10_init_75 (pc' := 76) rfl).trans ?_
  refine (jx_iconst (cc := cX10_init) rfl dX10_init_76 (v := nI 2) (pc' := 77) (by decide) rfl).trans ?_
  refine (jx_iconst (cc := cX10_init) rfl dX10_init_77 (v := nI 4) (pc' := 78) (by decide) rfl).trans ?_
  refine (jx_iast (cc := cX10_init) rfl dX10_init_78 (k := 2) (m := 8) (σ' := (121, (jT0c6 n), kP238, (kI133 xs), jL0c6)) (pc' := 79) rfl rfl (by decide) (by decide) rfl rfl).trans ?_
  refine (jx_dup_ref (cc := cX10_init) rfl dX10_init_79 (pc' := 80) rfl).trans ?_
  refine (jx_iconst (cc := cX10_init) rfl dX10_init_80 (v := nI 3) (pc' := 81) (by decide) rfl).trans ?_
  refine (jx_iconst (cc := cX10_init) rfl dX10_init_81 (v := nI 3) (pc' := 82) (by decide) rfl).trans ?_
  refine (jx_iast (cc := cX10_init) rfl dX10_init_82 (k := 3) (m := 8) (σ' := (121, (jT0c6 n), kP238, (kI134 xs), jL0c6)) (pc' := 83) rfl rfl (by decide) (by decide) rfl rfl).trans ?_
  refine (jx_dup_ref (cc := cX10_init) rfl dX10_init_83 (pc' := 84) rfl).trans ?_
  refine (jx_iconst (cc := cX10_init) rfl dX10_init_84 (v := nI 4) (pc' := 85) (by decide) rfl).trans ?_
  refine (jx_iconst (cc := cX10_init) rfl dX10_init_85 (v := nI 0) (pc' := 86) (by decide) rfl).trans ?_
  refine (jx_iast (cc := cX10_init) rfl dX10_init_86 (k := 4) (m := 8) (σ' := (121, (jT0c6 n), kP238, (kI135 xs), jL0c6)) (pc' := 87) rfl rfl (by decide) (by decide) rfl rfl).trans ?_
  refine (jx_dup_ref (cc := cX10_init) rfl dX10_init_87 (pc' := 88) rfl).trans ?_
  refine (jx_iconst (cc := cX10_init) rfl dX10_init_88 (v := nI 5) (pc' := 89) (by decide) rfl).trans ?_
  refine (jx_bipush (cc := cX10_init) rfl dX10_init_89 (v := -3) (pc' := 91) (by decide) rfl).trans ?_
  refine (jx_iast (cc := cX10_init) rfl dX10_init_91 (k := 5) (m := 8) (σ' := (121, (jT0c6 n), kP238, (kI136 xs), jL0c6)) (pc' := 92) rfl rfl (by decide) (by decide) rfl rfl).trans ?_
  refine (jx_dup_ref (cc := cX10_init) rfl dX10_init_92 (pc' := 93) rfl).trans ?_
  refine (jx_bipush (cc := cX10_init) rfl dX10_init_93 (v := nI 6) (pc' := 95) (by decide) rfl).trans ?_
  refine (jx_bipush (cc := cX10_init) rfl dX10_init_95 (v := -4) (pc' := 97) (by decide) rfl).trans ?_
  refine (jx_iast (cc := cX10_init) rfl dX10_init_97 (k := 6) (m := 8) (σ' := (121, (jT0c6 n), kP238, (kI137 xs), jL0c6)) (pc' := 98) rfl rfl (by decide) (by decide) rfl rfl).trans ?_
  refine (jx_dup_ref (cc := cX10_init) rfl dX10_init_98 (pc' := 99) rfl).trans ?_
  refine (jx_bipush (cc := cX10_init) rfl dX10_init_99 (v := nI 7) (pc' := 101) (by decide) rfl).trans ?_
  refine (jx_bipush (cc := cX10_init) rfl dX10_init_101 (v := -3) (pc' := 103) (by decide) rfl).trans ?_
  refine (jx_iast (cc := cX10_init) rfl dX10_init_103 (k := 7) (m := 8) (σ' := (121, (jT0c6 n), kP238, (kI138 xs), jL0c6)) (pc' := 104) rfl rfl (by decide) (by decide) rfl rfl).trans ?_
  refine (jx_putf (cc := cX10_init) rfl dX10_init_104 (c := 10) (f := 8) (σ' := (121, (jT0c6 n), kP239, (kI138 xs), jL0c6)) (pc' := 107) rfl rfl rfl ⟨rfl, rfl⟩ rfl rfl).trans ?_
  refine (jx_aload_n (cc := cX10_init) rfl dX10_init_107 (pc' := 108) rfl rfl).trans ?_
  refine (jx_bipush (cc := cX10_init) rfl dX10_init_108 (v := nI 6) (pc' := 110) (by decide) rfl).trans ?_
  refine (jx_newa (cc := cX10_init) rfl dX10_init_110 (g := 0) (m := 6) (uc' := 10) (us' := 62) (σ' := (122, (kT113 n), jP0c14, (kI139 xs), kL113)) (pc' := 112) rfl (by decide) ⟨by decide, by decide, by decide, by decide⟩ rfl rfl rfl rfl).trans ?_
  refine (jx_putf (cc := cX10_init) rfl dX10_init_112 (c := 10) (f := 9) (σ' := (122, (kT113 n), kP241, (kI139 xs), kL113)) (pc' := 115) rfl rfl rfl ⟨rfl, rfl⟩ rfl rfl).trans ?_
  refine (jx_aload_n (cc := cX10_init) rfl dX10_init_115 (pc' := 116) rfl rfl).trans ?_
  refine (jx_iconst (cc := cX10_init) rfl dX10_init_116 (v := nI 4) (pc' := 117) (by decide) rfl).trans ?_
  refine (jx_newa (cc := cX10_init) rfl dX10_init_117 (g := 0) (m := 4) (uc' := 11) (us' := 66) (σ' := (123, (kT114 n), kP242, (kI140 xs), kL114)) (pc' := 119) rfl (by decide) ⟨by decide, by decide, by decide, by decide⟩ rfl rfl rfl rfl).trans ?_
  refine (jx_putf (cc := cX10_init) rfl dX10_init_119 (c := 10) (f := 10) (σ' := (123, (kT114 n), kP243, (kI140 xs), kL114)) (pc' := 122) rfl rfl rfl ⟨rfl, rfl⟩ rfl rfl).trans ?_
  refine (jx_aload_n (cc := cX10_init) rfl dX10_init_122 (pc' := 123) rfl rfl).trans ?_
  refine (jx_iconst (cc := cX10_init) rfl dX10_init_123 (v := nI 4) (pc' := 124) (by decide) rfl).trans ?_
  refine (jx_newa (cc := cX10_init) rfl dX10_init_124 (g := 0) (m := 4) (uc' := 12) (us' := 70) (σ' := (124, (kT115 n), kP244, (kI141 xs), kL115)) (pc' := 126) rfl (by decide) ⟨by decide, by decide, by decide, by decide⟩ rfl rfl rfl rfl).trans ?_
  refine (jx_putf (cc := cX10_init) rfl dX10_init_126 (c := 10) (f := 11) (σ' := (124, (kT115 n), kP245, (kI141 xs), kL115)) (pc' := 129) rfl rfl rfl ⟨rfl, rfl⟩ rfl rfl).trans ?_
  refine (jx_aload_n (cc := cX10_init) rfl dX10_init_129 (pc' := 130) rfl rfl).trans ?_
  refine (jx_iconst (cc := cX10_init) rfl dX10_init_130 (v := nI 4) (pc' := 131) (by decide) rfl).trans ?_
  refine (jx_newa (cc := cX10_init) rfl dX10_init_131 (g := 0) (m := 4) (uc' := 13) (us' := 74) (σ' := (125, (kT116 n), kP246, (kI142 xs), kL116)) (pc' := 133) rfl (by decide) ⟨by decide, by decide, by decide, by decide⟩ rfl rfl rfl rfl).trans ?_
  refine (jx_putf (cc := cX10_init) rfl dX10_init_133 (c := 10) (f := 12) (σ' := (125, (kT116 n), kP247, (kI142 xs), kL116)) (pc' := 136) rfl rfl rfl ⟨rfl, rfl⟩ rfl rfl).trans ?_
  refine (jx_aload_n (cc := cX10_init) rfl dX10_init_136 (pc' := 137) rfl rfl).trans ?_
  refine (jx_bipush (cc := cX10_init) rfl dX10_init_137 (v := nI 40) (pc' := 139) (by decide) rfl).trans ?_
  refine (jx_newa (cc := cX10_init) rfl dX10_init_139 (g := 0) (m := 40) (uc' := 14) (us' := 114) (σ' := (126, (kT117 n), kP248, (kI143 xs), kL117)) (pc' := 141) rfl (by decide) ⟨by decide, by decide, by decide, by decide⟩ rfl rfl rfl rfl).trans ?_
  refine (jx_putf (cc := cX10_init) rfl dX10_init_141 (c := 10) (f := 13) (σ' := (126, (kT117 n), kP249, (kI143 xs), kL117)) (pc' := 144) rfl rfl rfl ⟨rfl, rfl⟩ rfl rfl).trans ?_
  refine (jx_aload_n (cc := cX10_init) rfl dX10_init_144 (pc' := 145) rfl rfl).trans ?_
  refine (jx_bipush (cc := cX10_init) rfl dX10_init_145 (v := nI 40) (pc' := 147) (by decide) rfl).trans ?_
  refine (jx_newa (cc := cX10_init) rfl dX10_init_147 (g := 0) (m := 40) (uc' := 15) (us' := 154) (σ' := (127, (kT118 n), kP250, (jI0c8 xs), kL118)) (pc' := 149) rfl (by decide) ⟨by decide, by decide, by decide, by decide⟩ rfl rfl rfl rfl).trans ?_
  refine (jx_putf (cc := cX10_init) rfl dX10_init_149 (c := 10) (f := 14) (σ' := (127, (kT118 n), kP251, (jI0c8 xs), kL118)) (pc' := 152) rfl rfl rfl ⟨rfl, rfl⟩ rfl rfl).trans ?_
  refine (jx_aload_n (cc := cX10_init) rfl dX10_init_152 (pc' := 153) rfl rfl).trans ?_
  refine (jx_bipush (cc := cX10_init) rfl dX10_init_153 (v := nI 40) (pc' := 155) (by decide) rfl).trans ?_
  refine (jx_newa (cc := cX10_init) rfl dX10_init_155 (g := 0) (m := 40) (uc' := 16) (us' := 194) (σ' := (128, (kT119 n), kP252, (kI145 xs), kL119)) (pc' := 157) rfl (by decide) ⟨by decide, by decide, by decide, by decide⟩ rfl rfl rfl rfl).trans ?_
  refine (jx_putf (cc := cX10_init) rfl dX10_init_157 (c := 10) (f := 15) (σ' := (128, (kT119 n), kP253, (kI145 xs), kL119)) (pc' := 160) rfl rfl rfl ⟨rfl, rfl⟩ rfl rfl).trans ?_
  refine (jx_aload_n (cc := cX10_init) rfl dX10_init_160 (pc' := 161) rfl rfl).trans ?_
  refine (jx_bipush (cc := cX10_init) rfl dX10_init_161 (v := nI 40) (pc' := 163) (by decide) rfl).trans ?_
  refine (jx_newa (cc := cX10_init) rfl dX10_init_163 (g := 0) (m := 40) (uc' := 17) (us' := 234) (σ' := (129, (kT120 n), kP254, (kI146 xs), kL120)) (pc' := 165) rfl (by decide) ⟨by decide, by decide, by decide, by decide⟩ rfl rfl rfl rfl).trans ?_
  refine (jx_putf (cc := cX10_init) rfl dX10_init_165 (c := 10) (f := 16) (σ' := (129, (kT120 n), kP255, (kI146 xs), kL120)) (pc' := 168) rfl rfl rfl ⟨rfl, rfl⟩ rfl rfl).trans ?_
  refine (jx_aload_n (cc := cX10_init) rfl dX10_init_168 (pc' := 169) rfl rfl).trans ?_
  refine (jx_bipush (cc := cX10_init) rfl dX10_init_169 (v := nI 40) (pc' := 171) (by decide) rfl).trans ?_
  refine (jx_newa (cc := cX10_init) rfl dX10_init_171 (g := 0) (m := 40) (uc' := 18) (us' := 274) (σ' := (130, (kT121 n), jP0c15, (kI147 xs), kL121)) (pc' := 173) rfl (by decide) ⟨by decide, by decide, by decide, by decide⟩ rfl rfl rfl rfl).trans ?_
  refine (jx_putf (cc := cX10_init) rfl dX10_init_173 (c := 10) (f := 17) (σ' := (130, (kT121 n), kP257, (kI147 xs), kL121)) (pc' := 176) rfl rfl rfl ⟨rfl, rfl⟩ rfl rfl).trans ?_
  refine (jx_aload_n (cc := cX10_init) rfl dX10_init_176 (pc' := 177) rfl rfl).trans ?_
  refine (jx_bipush (cc := cX10_init) rfl dX10_init_177 (v := nI 40) (pc' := 179) (by decide) rfl).trans ?_
  refine (jx_newa (cc := cX10_init) rfl dX10_init_179 (g := 0) (m := 40) (uc' := 19) (us' := 314) (σ' := (131, (kT122 n), kP258, (kI148 xs), kL122)) (pc' := 181) rfl (by decide) ⟨by decide, by decide, by decide, by decide⟩ rfl rfl rfl rfl).trans ?_
  refine (jx_putf (cc := cX10_init) rfl dX10_init_181 (c := 10) (f := 18) (σ' := (131, (kT122 n), kP259, (kI148 xs), kL122)) (pc' := 184) rfl rfl rfl ⟨rfl, rfl⟩ rfl rfl).trans ?_
  refine (jx_aload_n (cc := cX10_init) rfl dX10_init_184 (pc' := 185) rfl rfl).trans ?_
  refine (jx_bipush (cc := cX10_init) rfl dX10_init_185 (v := nI 40) (pc' := 187) (by decide) rfl).trans ?_
  refine (jx_newa (cc := cX10_init) rfl dX10_init_187 (g := 0) (m := 40) (uc' := 20) (us' := 354) (σ' := (132, (kT123 n), kP260, (kI149 xs), kL123)) (pc' := 189) rfl (by decide) ⟨by decide, by decide, by decide, by decide⟩ rfl rfl rfl rfl).trans ?_
  refine (jx_putf (cc := cX10_init) rfl dX10_init_189 (c := 10) (f := 19) (σ' := (132, (kT123 n), kP261, (kI149 xs), kL123)) (pc' := 192) rfl rfl rfl ⟨rfl, rfl⟩ rfl rfl).trans ?_
  refine (jx_aload_n (cc := cX10_init) rfl dX10_init_192 (pc' := 193) rfl rfl).trans ?_
  refine (jx_bipush (cc := cX10_init) rfl dX10_init_193 (v := nI 80) (pc' := 195) (by decide) rfl).trans ?_
  refine (jx_newa (cc := cX10_init) rfl dX10_init_195 (g := 0) (m := 80) (uc' := 21) (us' := 434) (σ' := (133, (kT124 n), kP262, (kI150 xs), kL124)) (pc' := 197) rfl (by decide) ⟨by decide, by decide, by decide, by decide⟩ rfl rfl rfl rfl).trans ?_
  refine (jx_putf (cc := cX10_init) rfl dX10_init_197 (c := 10) (f := 21) (σ' := (133, (kT124 n), kP263, (kI150 xs), kL124)) (pc' := 200) rfl rfl rfl ⟨rfl, rfl⟩ rfl rfl).trans ?_
  refine (jx_aload_n (cc := cX10_init) rfl dX10_init_200 (pc' := 201) rfl rfl).trans ?_
  refine (jx_bipush (cc := cX10_init) rfl dX10_init_201 (v := nI 20) (pc' := 203) (by decide) rfl).trans ?_
  refine (jx_newa (cc := cX10_init) rfl dX10_init_203 (g := 0) (m := 20) (uc' := 22) (us' := 454) (σ' := (134, (kT125 n), kP264, (kI151 xs), kL125)) (pc' := 205) rfl (by decide) ⟨by decide, by decide, by decide, by decide⟩ rfl rfl rfl rfl).trans ?_
  refine (jx_putf (cc := cX10_init) rfl dX10_init_205 (c := 10) (f := 23) (σ' := (134, (kT125 n), kP265, (kI151 xs), kL125)) (pc' := 208) rfl rfl rfl ⟨rfl, rfl⟩ rfl rfl).trans ?_
  refine (jx_aload_n (cc := cX10_init) rfl dX10_init_208 (pc' := 209) rfl rfl).trans ?_
  refine (jx_bipush (cc := cX10_init) rfl dX10_init_209 (v := nI 72) (pc' := 211) (by decide) rfl).trans ?_
  refine (jx_newa (cc := cX10_init) rfl dX10_init_211 (g := 0) (m := 72) (uc' := 23) (us' := 526) (σ' := (135, (kT126 n), kP266, (kI152 xs), kL126)) (pc' := 213) rfl (by decide) ⟨by decide, by decide, by decide, by decide⟩ rfl rfl rfl rfl).trans ?_
  refine (jx_putf (cc := cX10_init) rfl dX10_init_213 (c := 10) (f := 24) (σ' := (135, (kT126 n), kP267, (kI152 xs), kL126)) (pc' := 216) rfl rfl rfl ⟨rfl, rfl⟩ rfl rfl).trans ?_
  refine (jx_aload_n (cc := cX10_init) rfl dX10_init_216 (pc' := 217) rfl rfl).trans ?_
  refine (jx_bipush (cc := cX10_init) rfl dX10_init_217 (v := nI 9) (pc' := 219) (by decide) rfl).trans ?_
  refine (jx_newa (cc := cX10_init) rfl dX10_init_219 (g := 0) (m := 9) (uc' := 24) (us' := 535) (σ' := (136, (kT127 n), kP268, (kI153 xs), kL127)) (pc' := 221) rfl (by decide) ⟨by decide, by decide, by decide, by decide⟩ rfl rfl rfl rfl).trans ?_
  refine (jx_putf (cc := cX10_init) rfl dX10_init_221 (c := 10) (f := 25) (σ' := (136, (kT127 n), kP269, (kI153 xs), kL127)) (pc' := 224) rfl rfl rfl ⟨rfl, rfl⟩ rfl rfl).trans ?_
  refine (jx_aload_n (cc := cX10_init) rfl dX10_init_224 (pc' := 225) rfl rfl).trans ?_
  refine (jx_iconst (cc := cX10_init) rfl dX10_init_225 (v := nI 4) (pc' := 226) (by decide) rfl).trans ?_
  refine (jx_newa (cc := cX10_init) rfl dX10_init_226 (g := 0) (m := 4) (uc' := 25) (us' := 539) (σ' := (137, (jT0c7 n), kP270, (kI154 xs), jL0c7)) (pc' := 228) rfl (by decide) ⟨by decide, by decide, by decide, by decide⟩ rfl rfl rfl rfl).trans ?_
  refine (jx_putf (cc := cX10_init) rfl dX10_init_228 (c := 10) (f := 26) (σ' := (137, (jT0c7 n), kP271, (kI154 xs), jL0c7)) (pc' := 231) rfl rfl rfl ⟨rfl, rfl⟩ rfl rfl).trans ?_
  refine (jx_aload_n (cc := cX10_init) rfl dX10_init_231 (pc' := 232) rfl rfl).trans ?_
  refine (jx_iconst (cc := cX10_init) rfl dX10_init_232 (v := nI 4) (pc' := 233) (by decide) rfl).trans ?_
  refine (jx_newa (cc := cX10_init) rfl dX10_init_233 (g := 0) (m := 4) (uc' := 26) (us' := 543) (σ' := (138, (kT129 n), jP0c16, (kI155 xs), kL129)) (pc' := 235) rfl (by decide) ⟨by decide, by decide, by decide, by decide⟩ rfl rfl rfl rfl).trans ?_
  refine (jx_putf (cc := cX10_init) rfl dX10_init_235 (c := 10) (f := 27) (σ' := (138, (kT129 n), kP273, (kI155 xs), kL129)) (pc' := 238) rfl rfl rfl ⟨rfl, rfl⟩ rfl rfl).trans ?_
  refine (jx_aload_n (cc := cX10_init) rfl dX10_init_238 (pc' := 239) rfl rfl).trans ?_
  refine (jx_bipush (cc := cX10_init) rfl dX10_init_239 (v := nI 40) (pc' := 241) (by decide) rfl).trans ?_
  refine (jx_newa (cc := cX10_init) rfl dX10_init_241 (g := 0) (m := 40) (uc' := 27) (us' := 583) (σ' := (139, (kT130 n), kP274, (kI156 xs), kL130)) (pc' := 243) rfl (by decide) ⟨by decide, by decide, by decide, by decide⟩ rfl rfl rfl rfl).trans ?_
  refine (jx_putf (cc := cX10_init) rfl dX10_init_243 (c := 10) (f := 31) (σ' := (139, (kT130 n), kP275, (kI156 xs), kL130)) (pc' := 246) rfl rfl rfl ⟨rfl, rfl⟩ rfl rfl).trans ?_
  refine (jx_aload_n (cc := cX10_init) rfl dX10_init_246 (pc' := 247) rfl rfl).trans ?_
  refine (jx_bipush (cc := cX10_init) rfl dX10_init_247 (v := nI 8) (pc' := 249) (by decide) rfl).trans ?_
  refine (jx_newa (cc := cX10_init) rfl dX10_init_249 (g := 0) (m := 8) (uc' := 28) (us' := 591) (σ' := (140, (kT131 n), kP276, (kI157 xs), kL131)) (pc' := 251) rfl (by decide) ⟨by decide, by decide, by decide, by decide⟩ rfl rfl rfl rfl).trans ?_
  refine (jx_putf (cc := cX10_init) rfl dX10_init_251 (c := 10) (f := 32) (σ' := (140, (kT131 n), kP277, (kI157 xs), kL131)) (pc' := 254) rfl rfl rfl ⟨rfl, rfl⟩ rfl rfl).trans ?_
  refine (jx_aload_n (cc := cX10_init) rfl dX10_init_254 (pc' := 255) rfl rfl).trans ?_
  refine (jx_sipush (cc := cX10_init) rfl dX10_init_255 (v := nI 360) (pc' := 258) (by decide) rfl).trans ?_
  refine (jx_newa (cc := cX10_init) rfl dX10_init_258 (g := 1) (m := 360) (uc' := 29) (us' := 951) (σ' := (141, (kT132 n), kP278, (kI158 xs), kL132)) (pc' := 260) rfl (by decide) ⟨by decide, by decide, by decide, by decide⟩ rfl rfl rfl rfl).trans ?_
  refine (jx_putf (cc := cX10_init) rfl dX10_init_260 (c := 10) (f := 33) (σ' := (141, (kT132 n), kP279, (kI158 xs), kL132)) (pc' := 263) rfl rfl rfl ⟨rfl, rfl⟩ rfl rfl).trans ?_
  refine (jx_aload_n (cc := cX10_init) rfl dX10_init_263 (pc' := 264) rfl rfl).trans ?_
  refine (jx_sipush (cc := cX10_init) rfl dX10_init_264 (v := nI 2240) (pc' := 267) (by decide) rfl).trans ?_
  refine (jx_newa (cc := cX10_init) rfl dX10_init_267 (g := 1) (m := 2240) (uc' := 30) (us' := 3191) (σ' := (142, (kT133 n), kP280, (kI159 xs), kL133)) (pc' := 269) rfl (by decide) ⟨by decide, by decide, by decide, by decide⟩ rfl rfl rfl rfl).trans ?_
  refine (jx_putf (cc := cX10_init) rfl dX10_init_269 (c := 10) (f := 34) (σ' := (142, (kT133 n), kP281, (kI159 xs), kL133)) (pc' := 272) rfl rfl rfl ⟨rfl, rfl⟩ rfl rfl).trans ?_
  refine (jx_aload_n (cc := cX10_init) rfl dX10_init_272 (pc' := 273) rfl rfl).trans ?_
  refine (jx_bipush (cc := cX10_init) rfl dX10_init_273 (v := nI 8) (pc' := 275) (by decide) rfl).trans ?_
  refine (jx_newa (cc := cX10_init) rfl dX10_init_275 (g := 0) (m := 8) (uc' := 31) (us' := 3199) (σ' := (143, (kT134 n), kP282, (jI0c9 xs), kL134)) (pc' := 277) rfl (by decide) ⟨by decide, by decide, by decide, by decide⟩ rfl rfl rfl rfl).trans ?_
  refine (jx_putf (cc := cX10_init) rfl dX10_init_277 (c := 10) (f := 38) (σ' := (143, (kT134 n), kP283, (jI0c9 xs), kL134)) (pc' := 280) rfl rfl rfl ⟨rfl, rfl⟩ rfl rfl).trans ?_
  refine (jx_aload_n (cc := cX10_init) rfl dX10_init_280 (pc' := 281) rfl rfl).trans ?_
  refine (jx_sipush (cc := cX10_init) rfl dX10_init_281 (v := nI 160) (pc' := 284) (by decide) rfl).trans ?_
  refine (jx_newa (cc := cX10_init) rfl dX10_init_284 (g := 0) (m := 160) (uc' := 32) (us' := 3359) (σ' := (144, (kT135 n), kP284, (kI161 xs), kL135)) (pc' := 286) rfl (by decide) ⟨by decide, by decide, by decide, by decide⟩ rfl rfl rfl rfl).trans ?_
  refine (jx_putf (cc := cX10_init) rfl dX10_init_286 (c := 10) (f := 39) (σ' := (144, (kT135 n), kP285, (kI161 xs), kL135)) (pc' := 289) rfl rfl rfl ⟨rfl, rfl⟩ rfl rfl).trans ?_
  refine (jx_aload_n (cc := cX10_init) rfl dX10_init_289 (pc' := 290) rfl rfl).trans ?_
  refine (jx_sipush (cc := cX10_init) rfl dX10_init_290 (v := nI 1000) (pc' := 293) (by decide) rfl).trans ?_
  refine (jx_newa (cc := cX10_init) rfl dX10_init_293 (g := 0) (m := 1000) (uc' := 33) (us' := 4359) (σ' := (145, (jT0 n), kP286, (kI162 xs), jL0)) (pc' := 295) rfl (by decide) ⟨by decide, by decide, by decide, by decide⟩ rfl rfl rfl rfl).trans ?_
  refine (jx_putf (cc := cX10_init) rfl dX10_init_295 (c := 10) (f := 40) (σ' := (145, (jT0 n), jP0, (kI162 xs), jL0)) (pc' := 298) rfl rfl rfl ⟨rfl, rfl⟩ rfl rfl).trans ?_
  refine (jx_aload_n (cc := cX10_init) rfl dX10_init_298 (pc' := 299) rfl rfl).trans ?_
  refine (jx_getf (cc := cX10_init) rfl dX10_init_299 (c := 10) (f := 6) (v := .ref 118) (pc' := 302) rfl rfl rfl rfl rfl).trans ?_
  refine (jx_iconst (cc := cX10_init) rfl dX10_init_302 (v := nI 1) (pc' := 303) (by decide) rfl).trans ?_
  refine (jx_ldc (cc := cX10_init) rfl dX10_init_303 (w := nI 31556952) (pc' := 305) rfl (by decide) rfl).trans ?_
  refine (jx_iast (cc := cX10_init) rfl dX10_init_305 (k := 1) (m := 5) (σ' := (145, (jT0 n), jP0, (kI163 xs), jL0)) (pc' := 306) rfl rfl (by decide) (by decide) rfl rfl).trans ?_
  refine (jx_aload_n (cc := cX10_init) rfl dX10_init_306 (pc' := 307) rfl rfl).trans ?_
  refine (jx_getf (cc := cX10_init) rfl dX10_init_307 (c := 10) (f := 6) (v := .ref 118) (pc' := 310) rfl rfl rfl rfl rfl).trans ?_
  refine (jx_iconst (cc := cX10_init) rfl dX10_init_310 (v := nI 2) (pc' := 311) (by decide) rfl).trans ?_
  refine (jx_bipush (cc := cX10_init) rfl dX10_init_311 (v := nI 10) (pc' := 313) (by decide) rfl).trans ?_
  refine (jx_iast (cc := cX10_init) rfl dX10_init_313 (k := 2) (m := 5) (σ' := (145, (jT0 n), jP0, (kI164 xs), jL0)) (pc' := 314) rfl rfl (by decide) (by decide) rfl rfl).trans ?_
  refine (jx_aload_n (cc := cX10_init) rfl dX10_init_314 (pc' := 315) rfl rfl).trans ?_
  refine (jx_getf (cc := cX10_init) rfl dX10_init_315 (c := 10) (f := 6) (v := .ref 118) (pc' := 318) rfl rfl rfl rfl rfl).trans ?_
  refine (jx_iconst (cc := cX10_init) rfl dX10_init_318 (v := nI 3) (pc' := 319) (by decide) rfl).trans ?_
  refine (jx_bipush (cc := cX10_init) rfl dX10_init_319 (v := nI 50) (pc' := 321) (by decide) rfl).trans ?_
  refine (jx_iast (cc := cX10_init) rfl dX10_init_321 (k := 3) (m := 5) (σ' := (145, (jT0 n), jP0, (kI165 xs), jL0)) (pc' := 322) rfl rfl (by decide) (by decide) rfl rfl).trans ?_
  refine (jx_aload_n (cc := cX10_init) rfl dX10_init_322 (pc' := 323) rfl rfl).trans ?_
  refine (jx_getf (cc := cX10_init) rfl dX10_init_323 (c := 10) (f := 6) (v := .ref 118) (pc' := 326) rfl rfl rfl rfl rfl).trans ?_
  refine (jx_iconst (cc := cX10_init) rfl dX10_init_326 (v := nI 4) (pc' := 327) (by decide) rfl).trans ?_
  refine (jx_bipush (cc := cX10_init) rfl dX10_init_327 (v := nI 60) (pc' := 329) (by decide) rfl).trans ?_
  refine (jx_iast (cc := cX10_init) rfl dX10_init_329 (k := 4) (m := 5) (σ' := (145, (jT0 n), jP0, (kI166 xs), jL0)) (pc' := 330) rfl rfl (by decide) (by decide) rfl rfl).trans ?_
  refine (jx_iconst (cc := cX10_init) rfl dX10_init_330 (v := nI 0) (pc' := 331) (by decide) rfl).trans ?_
  refine (jx_istore_n (cc := cX10_init) rfl dX10_init_331 (lv' := [.ref 111, .int (nI 0)]) (pc' := 332) (Nat.le_of_ble_eq_true rfl) rfl rfl).trans ?_
  refine (jx_iload_n (cc := cX10_init) rfl dX10_init_332 (pc' := 333) rfl rfl).trans ?_
  refine (jx_iconst (cc := cX10_init) rfl dX10_init_333 (v := nI 4) (pc' := 334) (by decide) rfl).trans ?_
  refine (jx_icmp (cc := cX10_init) rfl dX10_init_334 (t := 352) (b := false) (pc' := 337) rfl (by decide) rfl).trans ?_
  refine (jx_aload_n (cc := cX10_init) rfl dX10_init_337 (pc' := 338) rfl rfl).trans ?_
  refine (jx_getf (cc := cX10_init) rfl dX10_init_338 (c := 10) (f := 27) (v := .ref 137) (pc' := 341) rfl rfl rfl rfl rfl).trans ?_
  refine (jx_iload_n (cc := cX10_init) rfl dX10_init_341 (pc' := 342) rfl rfl).trans ?_
  refine (jx_sipush (cc := cX10_init) rfl dX10_init_342 (v := nI 1000) (pc' := 345) (by decide) rfl).trans ?_
  refine (jx_iast (cc := cX10_init) rfl dX10_init_345 (k := 0) (m := 4) (σ' := (145, (jT0 n), jP0, (kI167 xs), jL0)) (pc' := 346) rfl rfl (by decide) (by decide) rfl rfl).trans ?_
  refine (jx_iinc (cc := cX10_init) rfl dX10_init_346 (w := nI 1) (lv' := [.ref 111, .int (nI 1)]) (pc' := 349) rfl rfl (by decide) rfl rfl).trans ?_
  refine (jx_goto (cc := cX10_init) rfl dX10_init_349 (pc' := 332) rfl).trans ?_
  refine (jx_iload_n (cc := cX10_init) rfl dX10_init_332 (pc' := 333) rfl rfl).trans ?_
  refine (jx_iconst (cc := cX10_init) rfl dX10_init_333 (v := nI 4) (pc' := 334) (by decide) rfl).trans ?_
  refine (jx_icmp (cc := cX10_init) rfl dX10_init_334 (t := 352) (b := false) (pc' := 337) rfl (by decide) rfl).trans ?_
  refine (jx_aload_n (cc := cX10_init) rfl dX10_init_337 (pc' := 338) rfl rfl).trans ?_
  refine (jx_getf (cc := cX10_init) rfl dX10_init_338 (c := 10) (f := 27) (v := .ref 137) (pc' := 341) rfl rfl rfl rfl rfl).trans ?_
  refine (jx_iload_n (cc := cX10_init) rfl dX10_init_341 (pc' := 342) rfl rfl).trans ?_
  refine (jx_sipush (cc := cX10_init) rfl dX10_init_342 (v := nI 1000) (pc' := 345) (by decide) rfl).trans ?_
  refine (jx_iast (cc := cX10_init) rfl dX10_init_345 (k := 1) (m := 4) (σ' := (145, (jT0 n), jP0, (kI168 xs), jL0)) (pc' := 346) rfl rfl (by decide) (by decide) rfl rfl).trans ?_
  refine (jx_iinc (cc := cX10_init) rfl dX10_init_346 (w := nI 2) (lv' := [.ref 111, .int (nI 2)]) (pc' := 349) rfl rfl (by decide) rfl rfl).trans ?_
  refine (jx_goto (cc := cX10_init) rfl dX10_init_349 (pc' := 332) rfl).trans ?_
  refine (jx_iload_n (cc := cX10_init) rfl dX10_init_332 (pc' := 333) rfl rfl).trans ?_
  refine (jx_iconst (cc := cX10_init) rfl dX10_init_333 (v := nI 4) (pc' := 334) (by decide) rfl).trans ?_
  refine (jx_icmp (cc := cX10_init) rfl dX10_init_334 (t := 352) (b := false) (pc' := 337) rfl (by decide) rfl).trans ?_
  refine (jx_aload_n (cc := cX10_init) rfl dX10_init_337 (pc' := 338) rfl rfl).trans ?_
  refine (jx_getf (cc := cX10_init) rfl dX10_init_338 (c := 10) (f := 27) (v := .ref 137) (pc' := 341) rfl rfl rfl rfl rfl).trans ?_
  refine (jx_iload_n (cc := cX10_init) rfl dX10_init_341 (pc' := 342) rfl rfl).trans ?_
  refine (jx_sipush (cc := cX10_init) rfl dX10_init_342 (v := nI 1000) (pc' := 345) (by decide) rfl).trans ?_
  refine (jx_iast (cc := cX10_init) rfl dX10_init_345 (k := 2) (m := 4) (σ' := (145, (jT0 n), jP0, (kI169 xs), jL0)) (pc' := 346) rfl rfl (by decide) (by decide) rfl rfl).trans ?_
  refine (jx_iinc (cc := cX10_init) rfl dX10_init_346 (w := nI 3) (lv' := [.ref 111, .int (nI 3)]) (pc' := 349) rfl rfl (by decide) rfl rfl).trans ?_
  refine (jx_goto (cc := cX10_init) rfl dX10_init_349 (pc' := 332) rfl).trans ?_
  refine (jx_iload_n (cc := cX10_init) rfl dX10_init_332 (pc' := 333) rfl rfl).trans ?_
  refine (jx_iconst (cc := cX10_init) rfl dX10_init_333 (v := nI 4) (pc' := 334) (by decide) rfl).trans ?_
  refine (jx_icmp (cc := cX10_init) rfl dX10_init_334 (t := 352) (b := false) (pc' := 337) rfl (by decide) rfl).trans ?_
  refine (jx_aload_n (cc := cX10_init) rfl dX10_init_337 (pc' := 338) rfl rfl).trans ?_
  refine (jx_getf (cc := cX10_init) rfl dX10_init_338 (c := 10) (f := 27) (v := .ref 137) (pc' := 341) rfl rfl rfl rfl rfl).trans ?_
  refine (jx_iload_n (cc := cX10_init) rfl dX10_init_341 (pc' := 342) rfl rfl).trans ?_
  refine (jx_sipush (cc := cX10_init) rfl dX10_init_342 (v := nI 1000) (pc' := 345) (by decide) rfl).trans ?_
  refine (jx_iast (cc := cX10_init) rfl dX10_init_345 (k := 3) (m := 4) (σ' := (145, (jT0 n), jP0, (jI0 xs), jL0)) (pc' := 346) rfl rfl (by decide) (by decide) rfl rfl).trans ?_
  refine (jx_iinc (cc := cX10_init) rfl dX10_init_346 (w := nI 4) (lv' := [.ref 111, .int (nI 4)]) (pc' := 349) rfl rfl (by decide) rfl rfl).trans ?_
  refine (jx_goto (cc := cX10_init) rfl dX10_init_349 (pc' := 332) rfl).trans ?_
  refine (jx_iload_n (cc := cX10_init) rfl dX10_init_332 (pc' := 333) rfl rfl).trans ?_
  refine (jx_iconst (cc := cX10_init) rfl dX10_init_333 (v := nI 4) (pc' := 334) (by decide) rfl).trans ?_
  refine (jx_icmp (cc := cX10_init) rfl dX10_init_334 (t := 352) (b := true) (pc' := 352) rfl (by decide) rfl).trans ?_
  exact jx_ret (cc := cX10_init) rfl dX10_init_352 rfl ⟨by decide, by decide⟩
