set_option maxRecDepth 100000 in
theorem kc_0 (n : Nat) (xs : Nat → Int32) : jm_D rX2_init 0 0 0 [.ref 12] [] (13, (kT4 n), kP5, (kI9 xs), kL4) = some (none, (21, (kT12 n), kP21, (kI21 xs), kL12)) := by
  refine (jx_aload_n (cc := cX2_init) rfl dX2_init_0 (pc' := 1) rfl rfl).trans ?_
  refine (jx_obji (cc := cX2_init) rfl dX2_init_1 (pc' := 4) rfl rfl rfl).trans ?_
  refine (jx_aload_n (cc := cX2_init) rfl dX2_init_4 (pc' := 5) rfl rfl).trans ?_
  refine (jx_iconst (cc := cX2_init) rfl dX2_init_5 (v := nI 4) (pc' := 6) (by decide) rfl).trans ?_
  refine (jx_newa (cc := cX2_init) rfl dX2_init_6 (g := 2) (m := 4) (uc' := 1) (us' := 4) (σ' := (14, (kT5 n), kP6, (kI10 xs), kL5)) (pc' := 8) rfl (by decide) ⟨by decide, by decide, by decide, by decide⟩ rfl rfl rfl rfl).trans ?_
  refine (jx_putf (cc := cX2_init) rfl dX2_init_8 (c := 2) (f := 0) (σ' := (14, (kT5 n), kP7, (kI10 xs), kL5)) (pc' := 11) rfl rfl rfl ⟨rfl, rfl⟩ rfl rfl).trans ?_
  refine (jx_aload_n (cc := cX2_init) rfl dX2_init_11 (pc' := 12) rfl rfl).trans ?_
  refine (jx_iconst (cc := cX2_init) rfl dX2_init_12 (v := nI 4) (pc' := 13) (by decide) rfl).trans ?_
  refine (jx_newa (cc := cX2_init) rfl dX2_init_13 (g := 0) (m := 4) (uc' := 2) (us' := 8) (σ' := (15, (kT6 n), kP8, (kI11 xs), kL6)) (pc' := 15) rfl (by decide) ⟨by decide, by decide, by decide, by decide⟩ rfl rfl rfl rfl).trans ?_
  refine (jx_putf (cc := cX2_init) rfl dX2_init_15 (c := 2) (f := 1) (σ' := (15, (kT6 n), kP9, (kI11 xs), kL6)) (pc' := 18) rfl rfl rfl ⟨rfl, rfl⟩ rfl rfl).trans ?_
  refine (jx_aload_n (cc := cX2_init) rfl dX2_init_18 (pc' := 19) rfl rfl).trans ?_
  refine (jx_iconst (cc := cX2_init) rfl dX2_init_19 (v := nI 4) (pc' := 20) (by decide) rfl).trans ?_
  refine (jx_newa (cc := cX2_init) rfl dX2_init_20 (g := 0) (m := 4) (uc' := 3) (us' := 12) (σ' := (16, (kT7 n), kP10, (kI12 xs), kL7)) (pc' := 22) rfl (by decide) ⟨by decide, by decide, by decide, by decide⟩ rfl rfl rfl rfl).trans ?_
  refine (jx_putf (cc := cX2_init) rfl dX2_init_22 (c := 2) (f := 2) (σ' := (16, (kT7 n), kP11, (kI12 xs), kL7)) (pc' := 25) rfl rfl rfl ⟨rfl, rfl⟩ rfl rfl).trans ?_
  refine (jx_aload_n (cc := cX2_init) rfl dX2_init_25 (pc' := 26) rfl rfl).trans ?_
  refine (jx_iconst (cc := cX2_init) rfl dX2_init_26 (v := nI 4) (pc' := 27) (by decide) rfl).trans ?_
  refine (jx_newa (cc := cX2_init) rfl dX2_init_27 (g := 0) (m := 4) (uc' := 4) (us' := 16) (σ' := (17, (kT8 n), kP12, (kI13 xs), kL8)) (pc' := 29) rfl (by decide) ⟨by decide, by decide, by decide, by decide⟩ rfl rfl rfl rfl).trans ?_
  refine (jx_putf (cc := cX2_init) rfl dX2_init_29 (c := 2) (f := 3) (σ' := (17, (kT8 n), kP13, (kI13 xs), kL8)) (pc' := 32) rfl rfl rfl ⟨rfl, rfl⟩ rfl rfl).trans ?_
  refine (jx_aload_n (cc := cX2_init) rfl dX2_init_32 (pc' := 33) rfl rfl).trans ?_
  refine (jx_iconst (cc := cX2_init) rfl dX2_init_33 (v := nI 4) (pc' := 34) (by decide) rfl).trans ?_
  refine (jx_newa (cc := cX2_init) rfl dX2_init_34 (g := 0) (m := 4) (uc' := 5) (us' := 20) (σ' := (18, (kT9 n), kP14, (kI14 xs), kL9)) (pc' := 36) rfl (by decide) ⟨by decide, by decide, by decide, by decide⟩ rfl rfl rfl rfl).trans ?_
  refine (jx_putf (cc := cX2_init) rfl dX2_init_36 (c := 2) (f := 4) (σ' := (18, (kT9 n), kP15, (kI14 xs), kL9)) (pc' := 39) rfl rfl rfl ⟨rfl, rfl⟩ rfl rfl).trans ?_
  refine (jx_aload_n (cc := cX2_init) rfl dX2_init_39 (pc' := 40) rfl rfl).trans ?_
  refine (jx_bipush (cc := cX2_init) rfl dX2_init_40 (v := nI 16) (pc' := 42) (by decide) rfl).trans ?_
  refine (jx_newa (cc := cX2_init) rfl dX2_init_42 (g := 0) (m := 16) (uc' := 6) (us' := 36) (σ' := (19, (kT10 n), jP0c0, (kI15 xs), kL10)) (pc' := 44) rfl (by decide) ⟨by decide, by decide, by decide, by decide⟩ rfl rfl rfl rfl).trans ?_
  refine (jx_putf (cc := cX2_init) rfl dX2_init_44 (c := 2) (f := 5) (σ' := (19, (kT10 n), kP17, (kI15 xs), kL10)) (pc' := 47) rfl rfl rfl ⟨rfl, rfl⟩ rfl rfl).trans ?_
  refine (jx_aload_n (cc := cX2_init) rfl dX2_init_47 (pc' := 48) rfl rfl).trans ?_
  refine (jx_iconst (cc := cX2_init) rfl dX2_init_48 (v := nI 4) (pc' := 49) (by decide) rfl).trans ?_
  refine (jx_newa (cc := cX2_init) rfl dX2_init_49 (g := 0) (m := 4) (uc' := 7) (us' := 40) (σ' := (20, (kT11 n), kP18, (jI0c0 xs), kL11)) (pc' := 51) rfl (by decide) ⟨by decide, by decide, by decide, by decide⟩ rfl rfl rfl rfl).trans ?_
  refine (jx_putf (cc := cX2_init) rfl dX2_init_51 (c := 2) (f := 6) (σ' := (20, (kT11 n), kP19, (jI0c0 xs), kL11)) (pc' := 54) rfl rfl rfl ⟨rfl, rfl⟩ rfl rfl).trans ?_
  refine (jx_aload_n (cc := cX2_init) rfl dX2_init_54 (pc' := 55) rfl rfl).trans ?_
  refine (jx_iconst (cc := cX2_init) rfl dX2_init_55 (v := nI 4) (pc' := 56) (by decide) rfl).trans ?_
  refine (jx_newa (cc := cX2_init) rfl dX2_init_56 (g := 0) (m := 4) (uc' := 8) (us' := 44) (σ' := (21, (kT12 n), kP20, (kI17 xs), kL12)) (pc' := 58) rfl (by decide) ⟨by decide, by decide, by decide, by decide⟩ rfl rfl rfl rfl).trans ?_
  refine (jx_dup_ref (cc := cX2_init) rfl dX2_init_58 (pc' := 59) rfl).trans ?_
  refine (jx_iconst (cc := cX2_init) rfl dX2_init_59 (v := nI 0) (pc' := 60) (by decide) rfl).trans ?_
  refine (jx_sipush (cc := cX2_init) rfl dX2_init_60 (v := nI 1000) (pc' := 63) (by decide) rfl).trans ?_
  refine (jx_iast (cc := cX2_init) rfl dX2_init_63 (k := 0) (m := 4) (σ' := (21, (kT12 n), kP20, (kI18 xs), kL12)) (pc' := 64) rfl rfl (by decide) (by decide) rfl rfl).trans ?_
  refine (jx_dup_ref (cc := cX2_init) rfl dX2_init_64 (pc' := 65) rfl).trans ?_
  refine (jx_iconst (cc := cX2_init) rfl dX2_init_65 (v := nI 1) (pc' := 66) (by decide) rfl).trans ?_
  refine (jx_sipush (cc := cX2_init) rfl dX2_init_66 (v := nI 1000) (pc' := 69) (by decide) rfl).trans ?_
  refine (jx_iast (cc := cX2_init) rfl dX2_init_69 (k := 1) (m := 4) (σ' := (21, (kT12 n), kP20, (kI19 xs), kL12)) (pc' := 70) rfl rfl (by decide) (by decide) rfl rfl).trans ?_
  refine (jx_dup_ref (cc := cX2_init) rfl dX2_init_70 (pc' := 71) rfl).trans ?_
  refine (jx_iconst (cc := cX2_init) rfl dX2_init_71 (v := nI 2) (pc' := 72) (by decide) rfl).trans ?_
  refine (jx_sipush (cc := cX2_init) rfl dX2_init_72 (v := nI 1000) (pc' := 75) (by decide) rfl).trans ?_
  refine (jx_iast (cc := cX2_init) rfl dX2_init_75 (k := 2) (m := 4) (σ' := (21, (kT12 n), kP20, (kI20 xs), kL12)) (pc' := 76) rfl rfl (by decide) (by decide) rfl rfl).trans ?_
  refine (jx_dup_ref (cc := cX2_init) rfl dX2_init_76 (pc' := 77) rfl).trans ?_
  refine (jx_iconst (cc := cX2_init) rfl dX2_init_77 (v := nI 3) (pc' := 78) (by decide) rfl).trans ?_
  refine (jx_sipush (cc := cX2_init) rfl dX2_init_78 (v := nI 1000) (pc' := 81) (by decide) rfl).trans ?_
  refine (jx_iast (cc := cX2_init) rfl dX2_init_81 (k := 3) (m := 4) (σ' := (21, (kT12 n), kP20, (kI21 xs), kL12)) (pc' := 82) rfl rfl (by decide) (by decide) rfl rfl).trans ?_
  refine (jx_putf (cc := cX2_init) rfl dX2_init_82 (c := 2) (f := 7) (σ' := (21, (kT12 n), kP21, (kI21 xs), kL12)) (pc' := 85) rfl rfl rfl ⟨rfl, rfl⟩ rfl rfl).trans ?_
  exact jx_ret (cc := cX2_init) rfl dX2_init_85 rfl ⟨by decide, by decide⟩
set_option maxRecDepth 100000 in
theorem kc_1 (n : Nat) (xs : Nat → Int32) : jm_D rX6_init 0 0 0 [.ref 21] [] (22, (kT13 n), kP23, (kI22 xs), kL13) = some (none, (26, (kT17 n), kP31, (kI26 xs), kL17)) := by
  refine (jx_aload_n (cc := cX6_init) rfl dX6_init_0 (pc' := 1) rfl rfl).trans ?_
  refine (jx_obji (cc := cX6_init) rfl dX6_init_1 (pc' := 4) rfl rfl rfl).trans ?_
  refine (jx_aload_n (cc := cX6_init) rfl dX6_init_4 (pc' := 5) rfl rfl).trans ?_
  refine (jx_bipush (cc := cX6_init) rfl dX6_init_5 (v := nI 6) (pc' := 7) (by decide) rfl).trans ?_
  refine (jx_newa (cc := cX6_init) rfl dX6_init_7 (g := 0) (m := 6) (uc' := 1) (us' := 6) (σ' := (23, (kT14 n), kP24, (kI23 xs), kL14)) (pc' := 9) rfl (by decide) ⟨by decide, by decide, by decide, by decide⟩ rfl rfl rfl rfl).trans ?_
  refine (jx_putf (cc := cX6_init) rfl dX6_init_9 (c := 6) (f := 0) (σ' := (23, (kT14 n), kP25, (kI23 xs), kL14)) (pc' := 12) rfl rfl rfl ⟨rfl, rfl⟩ rfl rfl).trans ?_
  refine (jx_aload_n (cc := cX6_init) rfl dX6_init_12 (pc' := 13) rfl rfl).trans ?_
  refine (jx_iconst (cc := cX6_init) rfl dX6_init_13 (v := nI 4) (pc' := 14) (by decide) rfl).trans ?_
  refine (jx_newa (cc := cX6_init) rfl dX6_init_14 (g := 0) (m := 4) (uc' := 2) (us' := 10) (σ' := (24, (kT15 n), kP26, (kI24 xs), kL15)) (pc' := 16) rfl (by decide) ⟨by decide, by decide, by decide, by decide⟩ rfl rfl rfl rfl).trans ?_
  refine (jx_putf (cc := cX6_init) rfl dX6_init_16 (c := 6) (f := 1) (σ' := (24, (kT15 n), kP27, (kI24 xs), kL15)) (pc' := 19) rfl rfl rfl ⟨rfl, rfl⟩ rfl rfl).trans ?_
  refine (jx_aload_n (cc := cX6_init) rfl dX6_init_19 (pc' := 20) rfl rfl).trans ?_
  refine (jx_iconst (cc := cX6_init) rfl dX6_init_20 (v := nI 4) (pc' := 21) (by decide) rfl).trans ?_
  refine (jx_newa (cc := cX6_init) rfl dX6_init_21 (g := 0) (m := 4) (uc' := 3) (us' := 14) (σ' := (25, (jT0c0 n), kP28, (kI25 xs), jL0c0)) (pc' := 23) rfl (by decide) ⟨by decide, by decide, by decide, by decide⟩ rfl rfl rfl rfl).trans ?_
  refine (jx_putf (cc := cX6_init) rfl dX6_init_23 (c := 6) (f := 2) (σ' := (25, (jT0c0 n), kP29, (kI25 xs), jL0c0)) (pc' := 26) rfl rfl rfl ⟨rfl, rfl⟩ rfl rfl).trans ?_
  refine (jx_aload_n (cc := cX6_init) rfl dX6_init_26 (pc' := 27) rfl rfl).trans ?_
  refine (jx_iconst (cc := cX6_init) rfl dX6_init_27 (v := nI 4) (pc' := 28) (by decide) rfl).trans ?_
  refine (jx_newa (cc := cX6_init) rfl dX6_init_28 (g := 0) (m := 4) (uc' := 4) (us' := 18) (σ' := (26, (kT17 n), kP30, (kI26 xs), kL17)) (pc' := 30) rfl (by decide) ⟨by decide, by decide, by decide, by decide⟩ rfl rfl rfl rfl).trans ?_
  refine (jx_putf (cc := cX6_init) rfl dX6_init_30 (c := 6) (f := 3) (σ' := (26, (kT17 n), kP31, (kI26 xs), kL17)) (pc' := 33) rfl rfl rfl ⟨rfl, rfl⟩ rfl rfl).trans ?_
  exact jx_ret (cc := cX6_init) rfl dX6_init_33 rfl ⟨by decide, by decide⟩
set_option maxRecDepth 100000 in
theorem kc_2 (n : Nat) (xs : Nat → Int32) : jm_D rX3_init 0 0 0 [.ref 26] [] (27, (kT18 n), kP33, (kI27 xs), kL18) = some (none, (35, (kT26 n), kP49, (kI35 xs), kL26)) := by
  refine (jx_aload_n (cc := cX3_init) rfl dX3_init_0 (pc' := 1) rfl rfl).trans ?_
  refine (jx_obji (cc := cX3_init) rfl dX3_init_1 (pc' := 4) rfl rfl rfl).trans ?_
  refine (jx_aload_n (cc := cX3_init) rfl dX3_init_4 (pc' := 5) rfl rfl).trans ?_
  refine (jx_bipush (cc := cX3_init) rfl dX3_init_5 (v := nI 40) (pc' := 7) (by decide) rfl).trans ?_
  refine (jx_newa (cc := cX3_init) rfl dX3_init_7 (g := 0) (m := 40) (uc' := 1) (us' := 40) (σ' := (28, (kT19 n), kP34, (kI28 xs), kL19)) (pc' := 9) rfl (by decide) ⟨by decide, by decide, by decide, by decide⟩ rfl rfl rfl rfl).trans ?_
  refine (jx_putf (cc := cX3_init) rfl dX3_init_9 (c := 3) (f := 0) (σ' := (28, (kT19 n), kP35, (kI28 xs), kL19)) (pc' := 12) rfl rfl rfl ⟨rfl, rfl⟩ rfl rfl).trans ?_
  refine (jx_aload_n (cc := cX3_init) rfl dX3_init_12 (pc' := 13) rfl rfl).trans ?_
  refine (jx_bipush (cc := cX3_init) rfl dX3_init_13 (v := nI 40) (pc' := 15) (by decide) rfl).trans ?_
  refine (jx_newa (cc := cX3_init) rfl dX3_init_15 (g := 0) (m := 40) (uc' := 2) (us' := 80) (σ' := (29, (kT20 n), kP36, (kI29 xs), kL20)) (pc' := 17) rfl (by decide) ⟨by decide, by decide, by decide, by decide⟩ rfl rfl rfl rfl).trans ?_
  refine (jx_putf (cc := cX3_init) rfl dX3_init_17 (c := 3) (f := 1) (σ' := (29, (kT20 n), kP37, (kI29 xs), kL20)) (pc' := 20) rfl rfl rfl ⟨rfl, rfl⟩ rfl rfl).trans ?_
  refine (jx_aload_n (cc := cX3_init) rfl dX3_init_20 (pc' := 21) rfl rfl).trans ?_
  refine (jx_bipush (cc := cX3_init) rfl dX3_init_21 (v := nI 40) (pc' := 23) (by decide) rfl).trans ?_
  refine (jx_newa (cc := cX3_init) rfl dX3_init_23 (g := 0) (m := 40) (uc' := 3) (us' := 120) (σ' := (30, (kT21 n), kP38, (kI30 xs), kL21)) (pc' := 25) rfl (by decide) ⟨by decide, by decide, by decide, by decide⟩ rfl rfl rfl rfl).trans ?_
  refine (jx_putf (cc := cX3_init) rfl dX3_init_25 (c := 3) (f := 2) (σ' := (30, (kT21 n), kP39, (kI30 xs), kL21)) (pc' := 28) rfl rfl rfl ⟨rfl, rfl⟩ rfl rfl).trans ?_
  refine (jx_aload_n (cc := cX3_init) rfl dX3_init_28 (pc' := 29) rfl rfl).trans ?_
  refine (jx_bipush (cc := cX3_init) rfl dX3_init_29 (v := nI 40) (pc' := 31) (by decide) rfl).trans ?_
  refine (jx_newa (cc := cX3_init) rfl dX3_init_31 (g := 0) (m := 40) (uc' := 4) (us' := 160) (σ' := (31, (kT22 n), kP40, (kI31 xs), kL22)) (pc' := 33) rfl (by decide) ⟨by decide, by decide, by decide, by decide⟩ rfl rfl rfl rfl).trans ?_
  refine (jx_putf (cc := cX3_init) rfl dX3_init_33 (c := 3) (f := 3) (σ' := (31, (kT22 n), kP41, (kI31 xs), kL22)) (pc' := 36) rfl rfl rfl ⟨rfl, rfl⟩ rfl rfl).trans ?_
  refine (jx_aload_n (cc := cX3_init) rfl dX3_init_36 (pc' := 37) rfl rfl).trans ?_
  refine (jx_bipush (cc := cX3_init) rfl dX3_init_37 (v := nI 40) (pc' := 39) (by decide) rfl).trans ?_
  refine (jx_newa (cc := cX3_init) rfl dX3_init_39 (g := 0) (m := 40) (uc' := 5) (us' := 200) (σ' := (32, (kT23 n), kP42, (jI0c1 xs), kL23)) (pc' := 41) rfl (by decide) ⟨by decide, by decide, by decide, by decide⟩ rfl rfl rfl rfl).trans ?_
  refine (jx_putf (cc := cX3_init) rfl dX3_init_41 (c := 3) (f := 4) (σ' := (32, (kT23 n), kP43, (jI0c1 xs), kL23)) (pc' := 44) rfl rfl rfl ⟨rfl, rfl⟩ rfl rfl).trans ?_
  refine (jx_aload_n (cc := cX3_init) rfl dX3_init_44 (pc' := 45) rfl rfl).trans ?_
  refine (jx_bipush (cc := cX3_init) rfl dX3_init_45 (v := nI 40) (pc' := 47) (by decide) rfl).trans ?_
  refine (jx_newa (cc := cX3_init) rfl dX3_init_47 (g := 0) (m := 40) (uc' := 6) (us' := 240) (σ' := (33, (kT24 n), kP44, (kI33 xs), kL24)) (pc' := 49) rfl (by decide) ⟨by decide, by decide, by decide, by decide⟩ rfl rfl rfl rfl).trans ?_
  refine (jx_putf (cc := cX3_init) rfl dX3_init_49 (c := 3) (f := 5) (σ' := (33, (kT24 n), kP45, (kI33 xs), kL24)) (pc' := 52) rfl rfl rfl ⟨rfl, rfl⟩ rfl rfl).trans ?_
  refine (jx_aload_n (cc := cX3_init) rfl dX3_init_52 (pc' := 53) rfl rfl).trans ?_
  refine (jx_bipush (cc := cX3_init) rfl dX3_init_53 (v := nI 40) (pc' := 55) (by decide) rfl).trans ?_
  refine (jx_newa (cc := cX3_init) rfl dX3_init_55 (g := 0) (m := 40) (uc' := 7) (us' := 280) (σ' := (34, (kT25 n), kP46, (kI34 xs), kL25)) (pc' := 57) rfl (by decide) ⟨by decide, by decide, by decide, by decide⟩ rfl rfl rfl rfl).trans ?_
  refine (jx_putf (cc := cX3_init) rfl dX3_init_57 (c := 3) (f := 6) (σ' := (34, (kT25 n), kP47, (kI34 xs), kL25)) (pc' := 60) rfl rfl rfl ⟨rfl, rfl⟩ rfl rfl).trans ?_
  refine (jx_aload_n (cc := cX3_init) rfl dX3_init_60 (pc' := 61) rfl rfl).trans ?_
  refine (jx_sipush (cc := cX3_init) rfl dX3_init_61 (v := nI 160) (pc' := 64) (by decide) rfl).trans ?_
  refine (jx_newa (cc := cX3_init) rfl dX3_init_64 (g := 0) (m := 160) (uc' := 8) (us' := 440) (σ' := (35, (kT26 n), jP0c2, (kI35 xs), kL26)) (pc' := 66) rfl (by decide) ⟨by decide, by decide, by decide, by decide⟩ rfl rfl rfl rfl).trans ?_
  refine (jx_putf (cc := cX3_init) rfl dX3_init_66 (c := 3) (f := 7) (σ' := (35, (kT26 n), kP49, (kI35 xs), kL26)) (pc' := 69) rfl rfl rfl ⟨rfl, rfl⟩ rfl rfl).trans ?_
  exact jx_ret (cc := cX3_init) rfl dX3_init_69 rfl ⟨by decide, by decide⟩
set_option maxRecDepth 100000 in
theorem kc_3 (n : Nat) (xs : Nat → Int32) : jm_D rX4_init 0 0 0 [.ref 35] [] (36, (kT27 n), kP51, (kI36 xs), kL27) = some (none, (38, (kT29 n), kP55, (kI38 xs), kL29)) := by
  refine (jx_aload_n (cc := cX4_init) rfl dX4_init_0 (pc' := 1) rfl rfl).trans ?_
  refine (jx_obji (cc := cX4_init) rfl dX4_init_1 (pc' := 4) rfl rfl rfl).trans ?_
  refine (jx_aload_n (cc := cX4_init) rfl dX4_init_4 (pc' := 5) rfl rfl).trans ?_
  refine (jx_bipush (cc := cX4_init) rfl dX4_init_5 (v := nI 24) (pc' := 7) (by decide) rfl).trans ?_
  refine (jx_newa (cc := cX4_init) rfl dX4_init_7 (g := 0) (m := 24) (uc' := 1) (us' := 24) (σ' := (37, (kT28 n), kP52, (kI37 xs), kL28)) (pc' := 9) rfl (by decide) ⟨by decide, by decide, by decide, by decide⟩ rfl rfl rfl rfl).trans ?_
  refine (jx_putf (cc := cX4_init) rfl dX4_init_9 (c := 4) (f := 0) (σ' := (37, (kT28 n), kP53, (kI37 xs), kL28)) (pc' := 12) rfl rfl rfl ⟨rfl, rfl⟩ rfl rfl).trans ?_
  refine (jx_aload_n (cc := cX4_init) rfl dX4_init_12 (pc' := 13) rfl rfl).trans ?_
  refine (jx_bipush (cc := cX4_init) rfl dX4_init_13 (v := nI 8) (pc' := 15) (by decide) rfl).trans ?_
  refine (jx_newa (cc := cX4_init) rfl dX4_init_15 (g := 0) (m := 8) (uc' := 2) (us' := 32) (σ' := (38, (kT29 n), kP54, (kI38 xs), kL29)) (pc' := 17) rfl (by decide) ⟨by decide, by decide, by decide, by decide⟩ rfl rfl rfl rfl).trans ?_
  refine (jx_putf (cc := cX4_init) rfl dX4_init_17 (c := 4) (f := 1) (σ' := (38, (kT29 n), kP55, (kI38 xs), kL29)) (pc' := 20) rfl rfl rfl ⟨rfl, rfl⟩ rfl rfl).trans ?_
  exact jx_ret (cc := cX4_init) rfl dX4_init_20 rfl ⟨by decide, by decide⟩
set_option maxRecDepth 100000 in
theorem kc_4 (n : Nat) (xs : Nat → Int32) : jm_D rX8_init 0 0 0 [.ref 10] [] (11, (kT2 n), kP2, (kI2 xs), kL2) = some (none, (38, (kT29 n), kP56, (kI38 xs), kL29)) := by
  refine (jx_aload_n (cc := cX8_init) rfl dX8_init_0 (pc' := 1) rfl rfl).trans ?_
  refine (jx_obji (cc := cX8_init) rfl dX8_init_1 (pc' := 4) rfl rfl rfl).trans ?_
  refine (jx_aload_n (cc := cX8_init) rfl dX8_init_4 (pc' := 5) rfl rfl).trans ?_
  refine (jx_iconst (cc := cX8_init) rfl dX8_init_5 (v := nI 5) (pc' := 6) (by decide) rfl).trans ?_
  refine (jx_newa (cc := cX8_init) rfl dX8_init_6 (g := 0) (m := 5) (uc' := 1) (us' := 5) (σ' := (12, (kT3 n), kP3, (kI3 xs), kL3)) (pc' := 8) rfl (by decide) ⟨by decide, by decide, by decide, by decide⟩ rfl rfl rfl rfl).trans ?_
  refine (jx_dup_ref (cc := cX8_init) rfl dX8_init_8 (pc' := 9) rfl).trans ?_
  refine (jx_iconst (cc := cX8_init) rfl dX8_init_9 (v := nI 0) (pc' := 10) (by decide) rfl).trans ?_
  refine (jx_iconst (cc := cX8_init) rfl dX8_init_10 (v := nI 0) (pc' := 11) (by decide) rfl).trans ?_
  refine (jx_iast (cc := cX8_init) rfl dX8_init_11 (k := 0) (m := 5) (σ' := (12, (kT3 n), kP3, (kI4 xs), kL3)) (pc' := 12) rfl rfl (by decide) (by decide) rfl rfl).trans ?_
  refine (jx_dup_ref (cc := cX8_init) rfl dX8_init_12 (pc' := 13) rfl).trans ?_
  refine (jx_iconst (cc := cX8_init) rfl dX8_init_13 (v := nI 1) (pc' := 14) (by decide) rfl).trans ?_
  refine (jx_ldc (cc := cX8_init) rfl dX8_init_14 (w := nI 31556952) (pc' := 16) rfl (by decide) rfl).trans ?_
  refine (jx_iast (cc := cX8_init) rfl dX8_init_16 (k := 1) (m := 5) (σ' := (12, (kT3 n), kP3, (kI5 xs), kL3)) (pc' := 17) rfl rfl (by decide) (by decide) rfl rfl).trans ?_
  refine (jx_dup_ref (cc := cX8_init) rfl dX8_init_17 (pc' := 18) rfl).trans ?_
  refine (jx_iconst (cc := cX8_init) rfl dX8_init_18 (v := nI 2) (pc' := 19) (by decide) rfl).trans ?_
  refine (jx_bipush (cc := cX8_init) rfl dX8_init_19 (v := nI 10) (pc' := 21) (by decide) rfl).trans ?_
  refine (jx_iast (cc := cX8_init) rfl dX8_init_21 (k := 2) (m := 5) (σ' := (12, (kT3 n), kP3, (kI6 xs), kL3)) (pc' := 22) rfl rfl (by decide) (by decide) rfl rfl).trans ?_
  refine (jx_dup_ref (cc := cX8_init) rfl dX8_init_22 (pc' := 23) rfl).trans ?_
  refine (jx_iconst (cc := cX8_init) rfl dX8_init_23 (v := nI 3) (pc' := 24) (by decide) rfl).trans ?_
  refine (jx_bipush (cc := cX8_init) rfl dX8_init_24 (v := nI 50) (pc' := 26) (by decide) rfl).trans ?_
  refine (jx_iast (cc := cX8_init) rfl dX8_init_26 (k := 3) (m := 5) (σ' := (12, (kT3 n), kP3, (kI7 xs), kL3)) (pc' := 27) rfl rfl (by decide) (by decide) rfl rfl).trans ?_
  refine (jx_dup_ref (cc := cX8_init) rfl dX8_init_27 (pc' := 28) rfl).trans ?_
  refine (jx_iconst (cc := cX8_init) rfl dX8_init_28 (v := nI 4) (pc' := 29) (by decide) rfl).trans ?_
  refine (jx_bipush (cc := cX8_init) rfl dX8_init_29 (v := nI 60) (pc' := 31) (by decide) rfl).trans ?_
  refine (jx_iast (cc := cX8_init) rfl dX8_init_31 (k := 4) (m := 5) (σ' := (12, (kT3 n), kP3, (kI8 xs), kL3)) (pc' := 32) rfl rfl (by decide) (by decide) rfl rfl).trans ?_
  refine (jx_putf (cc := cX8_init) rfl dX8_init_32 (c := 8) (f := 0) (σ' := (12, (kT3 n), kP4, (kI8 xs), kL3)) (pc' := 35) rfl rfl rfl ⟨rfl, rfl⟩ rfl rfl).trans ?_
  refine (jx_aload_n (cc := cX8_init) rfl dX8_init_35 (pc' := 36) rfl rfl).trans ?_
  refine (jx_new (cc := cX8_init) rfl dX8_init_36 (c := 2) (uc' := 2) (us' := 13) (σ' := (13, (kT4 n), kP5, (kI9 xs), kL4)) (pc' := 39) rfl ⟨by decide, by decide⟩ rfl rfl rfl rfl).trans ?_
  refine (jx_dup_ref (cc := cX8_init) rfl dX8_init_39 (pc' := 40) rfl).trans ?_
  refine (jx_call (cc := cX8_init) rfl dX8_init_40 (q := rX2_init) (rest := [.ref 12, .ref 10]) (lvq := [.ref 12]) (uc' := 10) (us' := 57) (pc' := 43) rfl rfl rfl rfl rfl (Nat.le_of_ble_eq_true rfl) rfl rfl (kc_0 n xs) rfl rfl rfl).trans ?_
  refine (jx_putf (cc := cX8_init) rfl dX8_init_43 (c := 8) (f := 1) (σ' := (21, (kT12 n), kP22, (kI21 xs), kL12)) (pc' := 46) rfl rfl rfl ⟨rfl, rfl⟩ rfl rfl).trans ?_
  refine (jx_aload_n (cc := cX8_init) rfl dX8_init_46 (pc' := 47) rfl rfl).trans ?_
  refine (jx_new (cc := cX8_init) rfl dX8_init_47 (c := 6) (uc' := 11) (us' := 61) (σ' := (22, (kT13 n), kP23, (kI22 xs), kL13)) (pc' := 50) rfl ⟨by decide, by decide⟩ rfl rfl rfl rfl).trans ?_
  refine (jx_dup_ref (cc := cX8_init) rfl dX8_init_50 (pc' := 51) rfl).trans ?_
  refine (jx_call (cc := cX8_init) rfl dX8_init_51 (q := rX6_init) (rest := [.ref 21, .ref 10]) (lvq := [.ref 21]) (uc' := 15) (us' := 79) (pc' := 54) rfl rfl rfl rfl rfl (Nat.le_of_ble_eq_true rfl) rfl rfl (kc_1 n xs) rfl rfl rfl).trans ?_
  refine (jx_putf (cc := cX8_init) rfl dX8_init_54 (c := 8) (f := 2) (σ' := (26, (kT17 n), jP0c1, (kI26 xs), kL17)) (pc' := 57) rfl rfl rfl ⟨rfl, rfl⟩ rfl rfl).trans ?_
  refine (jx_aload_n (cc := cX8_init) rfl dX8_init_57 (pc' := 58) rfl rfl).trans ?_
  refine (jx_new (cc := cX8_init) rfl dX8_init_58 (c := 3) (uc' := 16) (us' := 88) (σ' := (27, (kT18 n), kP33, (kI27 xs), kL18)) (pc' := 61) rfl ⟨by decide, by decide⟩ rfl rfl rfl rfl).trans ?_
  refine (jx_dup_ref (cc := cX8_init) rfl dX8_init_61 (pc' := 62) rfl).trans ?_
  refine (jx_call (cc := cX8_init) rfl dX8_init_62 (q := rX3_init) (rest := [.ref 26, .ref 10]) (lvq := [.ref 26]) (uc' := 24) (us' := 528) (pc' := 65) rfl rfl rfl rfl rfl (Nat.le_of_ble_eq_true rfl) rfl rfl (kc_2 n xs) rfl rfl rfl).trans ?_
  refine (jx_putf (cc := cX8_init) rfl dX8_init_65 (c := 8) (f := 3) (σ' := (35, (kT26 n), kP50, (kI35 xs), kL26)) (pc' := 68) rfl rfl rfl ⟨rfl, rfl⟩ rfl rfl).trans ?_
  refine (jx_aload_n (cc := cX8_init) rfl dX8_init_68 (pc' := 69) rfl rfl).trans ?_
  refine (jx_new (cc := cX8_init) rfl dX8_init_69 (c := 4) (uc' := 25) (us' := 531) (σ' := (36, (kT27 n), kP51, (kI36 xs), kL27)) (pc' := 72) rfl ⟨by decide, by decide⟩ rfl rfl rfl rfl).trans ?_
  refine (jx_dup_ref (cc := cX8_init) rfl dX8_init_72 (pc' := 73) rfl).trans ?_
  refine (jx_call (cc := cX8_init) rfl dX8_init_73 (q := rX4_init) (rest := [.ref 35, .ref 10]) (lvq := [.ref 35]) (uc' := 27) (us' := 563) (pc' := 76) rfl rfl rfl rfl rfl (Nat.le_of_ble_eq_true rfl) rfl rfl (kc_3 n xs) rfl rfl rfl).trans ?_
  refine (jx_putf (cc := cX8_init) rfl dX8_init_76 (c := 8) (f := 4) (σ' := (38, (kT29 n), kP56, (kI38 xs), kL29)) (pc' := 79) rfl rfl rfl ⟨rfl, rfl⟩ rfl rfl).trans ?_
  exact jx_ret (cc := cX8_init) rfl dX8_init_79 rfl ⟨by decide, by decide⟩
set_option maxRecDepth 100000 in
theorem kc_5 (n : Nat) (xs : Nat → Int32) : jm_D rX2_init 0 0 0 [.ref 40] [] (41, (jT0c1 n), kP61, (kI46 xs), jL0c1) = some (none, (49, (kT40 n), kP77, (kI58 xs), kL40)) := by
  refine (jx_aload_n (cc := cX2_init) rfl dX2_init_0 (pc' := 1) rfl rfl).trans ?_
  refine (jx_obji (cc := cX2_init) rfl dX2_init_1 (pc' := 4) rfl rfl rfl).trans ?_
  refine (jx_aload_n (cc := cX2_init) rfl dX2_init_4 (pc' := 5) rfl rfl).trans ?_
  refine (jx_iconst (cc := cX2_init) rfl dX2_init_5 (v := nI 4) (pc' := 6) (by decide) rfl).trans ?_
  refine (jx_newa (cc := cX2_init) rfl dX2_init_6 (g := 2) (m := 4) (uc' := 1) (us' := 4) (σ' := (42, (kT33 n), kP62, (kI47 xs), kL33)) (pc' := 8) rfl (by decide) ⟨by decide, by decide, by decide, by decide⟩ rfl rfl rfl rfl).trans ?_
  refine (jx_putf (cc := cX2_init) rfl dX2_init_8 (c := 2) (f := 0) (σ' := (42, (kT33 n), kP63, (kI47 xs), kL33)) (pc' := 11) rfl rfl rfl ⟨rfl, rfl⟩ rfl rfl).trans ?_
  refine (jx_aload_n (cc := cX2_init) rfl dX2_init_11 (pc' := 12) rfl rfl).trans ?_
  refine (jx_iconst (cc := cX2_init) rfl dX2_init_12 (v := nI 4) (pc' := 13) (by decide) rfl).trans ?_
  refine (jx_newa (cc := cX2_init) rfl dX2_init_13 (g := 0) (m := 4) (uc' := 2) (us' := 8) (σ' := (43, (kT34 n), jP0c3, (jI0c2 xs), kL34)) (pc' := 15) rfl (by decide) ⟨by decide, by decide, by decide, by decide⟩ rfl rfl rfl rfl).trans ?_
  refine (jx_putf (cc := cX2_init) rfl dX2_init_15 (c := 2) (f := 1) (σ' := (43, (kT34 n), kP65, (jI0c2 xs), kL34)) (pc' := 18) rfl rfl rfl ⟨rfl, rfl⟩ rfl rfl).trans ?_
  refine (jx_aload_n (cc := cX2_init) rfl dX2_init_18 (pc' := 19) rfl rfl).trans ?_
  refine (jx_iconst (cc := cX2_init) rfl dX2_init_19 (v := nI 4) (pc' := 20) (by decide) rfl).trans ?_
  refine (jx_newa (cc := cX2_init) rfl dX2_init_20 (g := 0) (m := 4) (uc' := 3) (us' := 12) (σ' := (44, (kT35 n), kP66, (kI49 xs), kL35)) (pc' := 22) rfl (by decide) ⟨by decide, by decide, by decide, by decide⟩ rfl rfl rfl rfl).trans ?_
  refine (jx_putf (cc := cX2_init) rfl dX2_init_22 (c := 2) (f := 2) (σ' := (44, (kT35 n), kP67, (kI49 xs), kL35)) (pc' := 25) rfl rfl rfl ⟨rfl, rfl⟩ rfl rfl).trans ?_
  refine (jx_aload_n (cc := cX2_init) rfl dX2_init_25 (pc' := 26) rfl rfl).trans ?_
  refine (jx_iconst (cc := cX2_init) rfl dX2_init_26 (v := nI 4) (pc' := 27) (by decide) rfl).trans ?_
  refine (jx_newa (cc := cX2_init) rfl dX2_init_27 (g := 0) (m := 4) (uc' := 4) (us' := 16) (σ' := (45, (kT36 n), kP68, (kI50 xs), kL36)) (pc' := 29) rfl (by decide) ⟨by decide, by decide, by decide, by decide⟩ rfl rfl rfl rfl).trans ?_
  refine (jx_putf (cc := cX2_init) rfl dX2_init_29 (c := 2) (f := 3) (σ' := (45, (kT36 n), kP69, (kI50 xs), kL36)) (pc' := 32) rfl rfl rfl ⟨rfl, rfl⟩ rfl rfl).trans ?_
  refine (jx_aload_n (cc := cX2_init) rfl dX2_init_32 (pc' := 33) rfl rfl).trans ?_
  refine (jx_iconst (cc := cX2_init) rfl dX2_init_33 (v := nI 4) (pc' := 34) (by decide) rfl).trans ?_
  refine (jx_newa (cc := cX2_init) rfl dX2_init_34 (g := 0) (m := 4) (uc' := 5) (us' := 20) (σ' := (46, (kT37 n), kP70, (kI51 xs), kL37)) (pc' := 36) rfl (by decide) ⟨by decide, by decide, by decide, by decide⟩ rfl rfl rfl rfl).trans ?_
  refine (jx_putf (cc := cX2_init) rfl dX2_init_36 (c := 2) (f := 4) (σ' := (46, (kT37 n), kP71, (kI51 xs), kL37)) (pc' := 39) rfl rfl rfl ⟨rfl, rfl⟩ rfl rfl).trans ?_
  refine (jx_aload_n (cc := cX2_init) rfl dX2_init_39 (pc' := 40) rfl rfl).trans ?_
  refine (jx_bipush (cc := cX2_init) rfl dX2_init_40 (v := nI 16) (pc' := 42) (by decide) rfl).trans ?_
  refine (jx_newa (cc := cX2_init) rfl dX2_init_42 (g := 0) (m := 16) (uc' := 6) (us' := 36) (σ' := (47, (kT38 n), kP72, (kI52 xs), kL38)) (pc' := 44) rfl (by decide) ⟨by decide, by decide, by decide, by decide⟩ rfl rfl rfl rfl).trans ?_
  refine (jx_putf (cc := cX2_init) rfl dX2_init_44 (c := 2) (f := 5) (σ' := (47, (kT38 n), kP73, (kI52 xs), kL38)) (pc' := 47) rfl rfl rfl ⟨rfl, rfl⟩ rfl rfl).trans ?_
  refine (jx_aload_n (cc := cX2_init) rfl dX2_init_47 (pc' := 48) rfl rfl).trans ?_
  refine (jx_iconst (cc := cX2_init) rfl dX2_init_48 (v := nI 4) (pc' := 49) (by decide) rfl).trans ?_
  refine (jx_newa (cc := cX2_init) rfl dX2_init_49 (g := 0) (m := 4) (uc' := 7) (us' := 40) (σ' := (48, (kT39 n), kP74, (kI53 xs), kL39)) (pc' := 51) rfl (by decide) ⟨by decide, by decide, by decide, by decide⟩ rfl rfl rfl rfl).trans ?_
  refine (jx_putf (cc := cX2_init) rfl dX2_init_51 (c := 2) (f := 6) (σ' := (48, (kT39 n), kP75, (kI53 xs), kL39)) (pc' := 54) rfl rfl rfl ⟨rfl, rfl⟩ rfl rfl).trans ?_
  refine (jx_aload_n (cc := cX2_init) rfl dX2_init_54 (pc' := 55) rfl rfl).trans ?_
  refine (jx_iconst (cc := cX2_init) rfl dX2_init_55 (v := nI 4) (pc' := 56) (by decide) rfl).trans ?_
  refine (jx_newa (cc := cX2_init) rfl dX2_init_56 (g := 0) (m := 4) (uc' := 8) (us' := 44) (σ' := (49, (kT40 n), kP76, (kI54 xs), kL40)) (pc' := 58) rfl (by decide) ⟨by decide, by decide, by decide, by decide⟩ rfl rfl rfl rfl).trans ?_
  refine (jx_dup_ref (cc := cX2_init) rfl dX2_init_58 (pc' := 59) rfl).trans ?_
  refine (jx_iconst (cc := cX2_init) rfl dX2_init_59 (v := nI 0) (pc' := 60) (by decide) rfl).trans ?_
  refine (jx_sipush (cc := cX2_init) rfl dX2_init_60 (v := nI 1000) (pc' := 63) (by decide) rfl).trans ?_
  refine (jx_iast (cc := cX2_init) rfl dX2_init_63 (k := 0) (m := 4) (σ' := (49, (kT40 n), kP76, (kI55 xs), kL40)) (pc' := 64) rfl rfl (by decide) (by decide) rfl rfl).trans ?_
  refine (jx_dup_ref (cc := cX2_init) rfl dX2_init_64 (pc' := 65) rfl).trans ?_
  refine (jx_iconst (cc := cX2_init) rfl dX2_init_65 (v := nI 1) (pc' := 66) (by decide) rfl).trans ?_
  refine (jx_sipush (cc := cX2_init) rfl dX2_init_66 (v := nI 1000) (pc' := 69) (by decide) rfl).trans ?_
  refine (jx_iast (cc := cX2_init) rfl dX2_init_69 (k := 1) (m := 4) (σ' := (49, (kT40 n), kP76, (kI56 xs), kL40)) (pc' := 70) rfl rfl (by decide) (by decide) rfl rfl).trans ?_
  refine (jx_dup_ref (cc := cX2_init) rfl dX2_init_70 (pc' := 71) rfl).trans ?_
  refine (jx_iconst (cc := cX2_init) rfl dX2_init_71 (v := nI 2) (pc' := 72) (by decide) rfl).trans ?_
  refine (jx_sipush (cc := cX2_init) rfl dX2_init_72 (v := nI 1000) (pc' := 75) (by decide) rfl).trans ?_
  refine (jx_iast (cc := cX2_init) rfl dX2_init_75 (k := 2) (m := 4) (σ' := (49, (kT40 n), kP76, (kI57 xs), kL40)) (pc' := 76) rfl rfl (by decide) (by decide) rfl rfl).trans ?_
  refine (jx_dup_ref (cc := cX2_init) rfl dX2_init_76 (pc' := 77) rfl).trans ?_
  refine (jx_iconst (cc := cX2_init) rfl dX2_init_77 (v := nI 3) (pc' := 78) (by decide) rfl).trans ?_
  refine (jx_sipush (cc := cX2_init) rfl dX2_init_78 (v := nI 1000) (pc' := 81) (by decide) rfl).trans ?_
  refine (jx_iast (cc := cX2_init) rfl dX2_init_81 (k := 3) (m := 4) (σ' := (49, (kT40 n), kP76, (kI58 xs), kL40)) (pc' := 82) rfl rfl (by decide) (by decide) rfl rfl).trans ?_
  refine (jx_putf (cc := cX2_init) rfl dX2_init_82 (c := 2) (f := 7) (σ' := (49, (kT40 n), kP77, (kI58 xs), kL40)) (pc' := 85) rfl rfl rfl ⟨rfl, rfl⟩ rfl rfl).trans ?_
  exact jx_ret (cc := cX2_init) rfl dX2_init_85 rfl ⟨by decide, by decide⟩
set_option maxRecDepth 100000 in
theorem kc_6 (n : Nat) (xs : Nat → Int32) : jm_D rX6_init 0 0 0 [.ref 49] [] (50, (kT41 n), kP79, (kI59 xs), kL41) = some (none, (54, (kT45 n), kP87, (kI63 xs), kL45)) := by
  refine (jx_aload_n (cc := cX6_init) rfl dX6_init_0 (pc' := 1) rfl rfl).trans ?_
  refine (jx_obji (cc := cX6_init) rfl dX6_init_1 (pc' := 4) rfl rfl rfl).trans ?_
  refine (jx_aload_n (cc := cX6_init) rfl dX6_init_4 (pc' := 5) rfl rfl).trans ?_
  refine (jx_bipush (cc := cX6_init) rfl dX6_init_5 (v := nI 6) (pc' := 7) (by decide) rfl).trans ?_
  refine (jx_newa (cc := cX6_init) rfl dX6_init_7 (g := 0) (m := 6) (uc' := 1) (us' := 6) (σ' := (51, (kT42 n), jP0c4, (kI60 xs), kL42)) (pc' := 9) rfl (by decide) ⟨by decide, by decide, by decide, by decide⟩ rfl rfl rfl rfl).trans ?_
  refine (jx_putf (cc := cX6_init) rfl dX6_init_9 (c := 6) (f := 0) (σ' := (51, (kT42 n), kP81, (kI60 xs), kL42)) (pc' := 12) rfl rfl rfl ⟨rfl, rfl⟩ rfl rfl).trans ?_
  refine (jx_aload_n (cc := cX6_init) rfl dX6_init_12 (pc' := 13) rfl rfl).trans ?_
  refine (jx_iconst (cc := cX6_init) rfl dX6_init_13 (v := nI 4) (pc' := 14) (by decide) rfl).trans ?_
  refine (jx_newa (cc := cX6_init) rfl dX6_init_14 (g := 0) (m := 4) (uc' := 2) (us' := 10) (σ' := (52, (kT43 n), kP82, (kI61 xs), kL43)) (pc' := 16) rfl (by decide) ⟨by decide, by decide, by decide, by decide⟩ rfl rfl rfl rfl).trans ?_
  refine (jx_putf (cc := cX6_init) rfl dX6_init_16 (c := 6) (f := 1) (σ' := (52, (kT43 n), kP83, (kI61 xs), kL43)) (pc' := 19) rfl rfl rfl ⟨rfl, rfl⟩ rfl rfl).trans ?_
  refine (jx_aload_n (cc := cX6_init) rfl dX6_init_19 (pc' := 20) rfl rfl).trans ?_
  refine (jx_iconst (cc := cX6_init) rfl dX6_init_20 (v := nI 4) (pc' := 21) (by decide) rfl).trans ?_
  refine (jx_newa (cc := cX6_init) rfl dX6_init_21 (g := 0) (m := 4) (uc' := 3) (us' := 14) (σ' := (53, (kT44 n), kP84, (kI62 xs), kL44)) (pc' := 23) rfl (by decide) ⟨by decide, by decide, by decide, by decide⟩ rfl rfl rfl rfl).trans ?_
  refine (jx_putf (cc := cX6_init) rfl dX6_init_23 (c := 6) (f := 2) (σ' := (53, (kT44 n), kP85, (kI62 xs), kL44)) (pc' := 26) rfl rfl rfl ⟨rfl, rfl⟩ rfl rfl).trans ?_
  refine (jx_aload_n (cc := cX6_init) rfl dX6_init_26 (pc' := 27) rfl rfl).trans ?_
  refine (jx_iconst (cc := cX6_init) rfl dX6_init_27 (v := nI 4) (pc' := 28) (by decide) rfl).trans ?_
  refine (jx_newa (cc := cX6_init) rfl dX6_init_28 (g := 0) (m := 4) (uc' := 4) (us' := 18) (σ' := (54, (kT45 n), kP86, (kI63 xs), kL45)) (pc' := 30) rfl (by decide) ⟨by decide, by decide, by decide, by decide⟩ rfl rfl rfl rfl).trans ?_
  refine (jx_putf (cc := cX6_init) rfl dX6_init_30 (c := 6) (f := 3) (σ' := (54, (kT45 n), kP87, (kI63 xs), kL45)) (pc' := 33) rfl rfl rfl ⟨rfl, rfl⟩ rfl rfl).trans ?_
  exact jx_ret (cc := cX6_init) rfl dX6_init_33 rfl ⟨by decide, by decide⟩
set_option maxRecDepth 100000 in
theorem kc_7 (n : Nat) (xs : Nat → Int32) : jm_D rX3_init 0 0 0 [.ref 54] [] (55, (kT46 n), kP89, (jI0c3 xs), kL46) = some (none, (63, (kT54 n), kP105, (kI72 xs), kL54)) := by
  refine (jx_aload_n (cc := cX3_init) rfl dX3_init_0 (pc' := 1) rfl rfl).trans ?_
  refine (jx_obji (cc := cX3_init) rfl dX3_init_1 (pc' := 4) rfl rfl rfl).trans ?_
  refine (jx_aload_n (cc := cX3_init) rfl dX3_init_4 (pc' := 5) rfl rfl).trans ?_
  refine (jx_bipush (cc := cX3_init) rfl dX3_init_5 (v := nI 40) (pc' := 7) (by decide) rfl).trans ?_
  refine (jx_newa (cc := cX3_init) rfl dX3_init_7 (g := 0) (m := 40) (uc' := 1) (us' := 40) (σ' := (56, (kT47 n), kP90, (kI65 xs), kL47)) (pc' := 9) rfl (by decide) ⟨by decide, by decide, by decide, by decide⟩ rfl rfl rfl rfl).trans ?_
  refine (jx_putf (cc := cX3_init) rfl dX3_init_9 (c := 3) (f := 0) (σ' := (56, (kT47 n), kP91, (kI65 xs), kL47)) (pc' := 12) rfl rfl rfl ⟨rfl, rfl⟩ rfl rfl).trans ?_
  refine (jx_aload_n (cc := cX3_init) rfl dX3_init_12 (pc' := 13) rfl rfl).trans ?_
  refine (jx_bipush (cc := cX3_init) rfl dX3_init_13 (v := nI 40) (pc' := 15) (by decide) rfl).trans ?_
  refine (jx_newa (cc := cX3_init) rfl dX3_init_15 (g := 0) (m := 40) (uc' := 2) (us' := 80) (σ' := (57, (jT0c2 n), kP92, (kI66 xs), jL0c2)) (pc' := 17) rfl (by decide) ⟨by decide, by decide, by decide, by decide⟩ rfl rfl rfl rfl).trans ?_
  refine (jx_putf (cc := cX3_init) rfl dX3_init_17 (c := 3) (f := 1) (σ' := (57, (jT0c2 n), kP93, (kI66 xs), jL0c2)) (pc' := 20) rfl rfl rfl ⟨rfl, rfl⟩ rfl rfl).trans ?_
  refine (jx_aload_n (cc := cX3_init) rfl dX3_init_20 (pc' := 21) rfl rfl).trans ?_
  refine (jx_bipush (cc := cX3_init) rfl dX3_init_21 (v := nI 40) (pc' := 23) (by decide) rfl).trans ?_
  refine (jx_newa (cc := cX3_init) rfl dX3_init_23 (g := 0) (m := 40) (uc' := 3) (us' := 120) (σ' := (58, (kT49 n), kP94, (kI67 xs), kL49)) (pc' := 25) rfl (by decide) ⟨by decide, by decide, by decide, by decide⟩ rfl rfl rfl rfl).trans ?_
  refine (jx_putf (cc := cX3_init) rfl dX3_init_25 (c := 3) (f := 2) (σ' := (58, (kT49 n), kP95, (kI67 xs), kL49)) (pc' := 28) rfl rfl rfl ⟨rfl, rfl⟩ rfl rfl).trans ?_
  refine (jx_aload_n (cc := cX3_init) rfl dX3_init_28 (pc' := 29) rfl rfl).trans ?_
  refine (jx_bipush (cc := cX3_init) rfl dX3_init_29 (v := nI 40) (pc' := 31) (by decide) rfl).trans ?_
  refine (jx_newa (cc := cX3_init) rfl dX3_init_31 (g := 0) (m := 40) (uc' := 4) (us' := 160) (σ' := (59, (kT50 n), jP0c5, (kI68 xs), kL50)) (pc' := 33) rfl (by decide) ⟨by decide, by decide, by decide, by decide⟩ rfl rfl rfl rfl).trans ?_
  refine (jx_putf (cc := cX3_init) rfl dX3_init_33 (c := 3) (f := 3) (σ' := (59, (kT50 n), kP97, (kI68 xs), kL50)) (pc' := 36) rfl rfl rfl ⟨rfl, rfl⟩ rfl rfl).trans ?_
  refine (jx_aload_n (cc := cX3_init) rfl dX3_init_36 (pc' := 37) rfl rfl).trans ?_
  refine (jx_bipush (cc := cX3_init) rfl dX3_init_37 (v := nI 40) (pc' := 39) (by decide) rfl).trans ?_
  refine (jx_newa (cc := cX3_init) rfl dX3_init_39 (g := 0) (m := 40) (uc' := 5) (us' := 200) (σ' := (60, (kT51 n), kP98, (kI69 xs), kL51)) (pc' := 41) rfl (by decide) ⟨by decide, by decide, by decide, by decide⟩ rfl rfl rfl rfl).trans ?_
  refine (jx_putf (cc := cX3_init) rfl dX3_init_41 (c := 3) (f := 4) (σ' := (60, (kT51 n), kP99, (kI69 xs), kL51)) (pc' := 44) rfl rfl rfl ⟨rfl, rfl⟩ rfl rfl).trans ?_
  refine (jx_aload_n (cc := cX3_init) rfl dX3_init_44 (pc' := 45) rfl rfl).trans ?_
  refine (jx_bipush (cc := cX3_init) rfl dX3_init_45 (v := nI 40) (pc' := 47) (by decide) rfl).trans ?_
  refine (jx_newa (cc := cX3_init) rfl dX3_init_47 (g := 0) (m := 40) (uc' := 6) (us' := 240) (σ' := (61, (kT52 n), kP100, (kI70 xs), kL52)) (pc' := 49) rfl (by decide) ⟨by decide, by decide, by decide, by decide⟩ rfl rfl rfl rfl).trans ?_
  refine (jx_putf (cc := cX3_init) rfl dX3_init_49 (c := 3) (f := 5) (σ' := (61, (kT52 n), kP101, (kI70 xs), kL52)) (pc' := 52) rfl rfl rfl ⟨rfl, rfl⟩ rfl rfl).trans ?_
  refine (jx_aload_n (cc := cX3_init) rfl dX3_init_52 (pc' := 53) rfl rfl).trans ?_
  refine (jx_bipush (cc := cX3_init) rfl dX3_init_53 (v := nI 40) (pc' := 55) (by decide) rfl).trans ?_
  refine (jx_newa (cc := cX3_init) rfl dX3_init_55 (g := 0) (m := 40) (uc' := 7) (us' := 280) (σ' := (62, (kT53 n), kP102, (kI71 xs), kL53)) (pc' := 57) rfl (by decide) ⟨by decide, by decide, by decide, by decide⟩ rfl rfl rfl rfl).trans ?_
  refine (jx_putf (cc := cX3_init) rfl dX3_init_57 (c := 3) (f := 6) (σ' := (62, (kT53 n), kP103, (kI71 xs), kL53)) (pc' := 60) rfl rfl rfl ⟨rfl, rfl⟩ rfl rfl).trans ?_
  refine (jx_aload_n (cc := cX3_init) rfl dX3_init_60 (pc' := 61) rfl rfl).trans ?_
  refine (jx_sipush (cc := cX3_init) rfl dX3_init_61 (v := nI 160) (pc' := 64) (by decide) rfl).trans ?_
  refine (jx_newa (cc := cX3_init) rfl dX3_init_64 (g := 0) (m := 160) (uc' := 8) (us' := 440) (σ' := (63, (kT54 n), kP104, (kI72 xs), kL54)) (pc' := 66) rfl (by decide) ⟨by decide, by decide, by decide, by decide⟩ rfl rfl rfl rfl).trans ?_
  refine (jx_putf (cc := cX3_init) rfl dX3_init_66 (c := 3) (f := 7) (σ' := (63, (kT54 n), kP105, (kI72 xs), kL54)) (pc' := 69) rfl rfl rfl ⟨rfl, rfl⟩ rfl rfl).trans ?_
  exact jx_ret (cc := cX3_init) rfl dX3_init_69 rfl ⟨by decide, by decide⟩
set_option maxRecDepth 100000 in
theorem kc_8 (n : Nat) (xs : Nat → Int32) : jm_D rX4_init 0 0 0 [.ref 63] [] (64, (kT55 n), kP107, (kI73 xs), kL55) = some (none, (66, (kT57 n), kP111, (kI75 xs), kL57)) := by
  refine (jx_aload_n (cc := cX4_init) rfl dX4_init_0 (pc' := 1) rfl rfl).trans ?_
  refine (jx_obji (cc := cX4_init) rfl dX4_init_1 (pc' := 4) rfl rfl rfl).trans ?_
  refine (jx_aload_n (cc := cX4_init) rfl dX4_init_4 (pc' := 5) rfl rfl).trans ?_
  refine (jx_bipush (cc := cX4_init) rfl dX4_init_5 (v := nI 24) (pc' := 7) (by decide) rfl).trans ?_
  refine (jx_newa (cc := cX4_init) rfl dX4_init_7 (g := 0) (m := 24) (uc' := 1) (us' := 24) (σ' := (65, (kT56 n), kP108, (kI74 xs), kL56)) (pc' := 9) rfl (by decide) ⟨by decide, by decide, by decide, by decide⟩ rfl rfl rfl rfl).trans ?_
  refine (jx_putf (cc := cX4_init) rfl dX4_init_9 (c := 4) (f := 0) (σ' := (65, (kT56 n), kP109, (kI74 xs), kL56)) (pc' := 12) rfl rfl rfl ⟨rfl, rfl⟩ rfl rfl).trans ?_
  refine (jx_aload_n (cc := cX4_init) rfl dX4_init_12 (pc' := 13) rfl rfl).trans ?_
  refine (jx_bipush (cc := cX4_init) rfl dX4_init_13 (v := nI 8) (pc' := 15) (by decide) rfl).trans ?_
  refine (jx_newa (cc := cX4_init) rfl dX4_init_15 (g := 0) (m := 8) (uc' := 2) (us' := 32) (σ' := (66, (kT57 n), kP110, (kI75 xs), kL57)) (pc' := 17) rfl (by decide) ⟨by decide, by decide, by decide, by decide⟩ rfl rfl rfl rfl).trans ?_
  refine (jx_putf (cc := cX4_init) rfl dX4_init_17 (c := 4) (f := 1) (σ' := (66, (kT57 n), kP111, (kI75 xs), kL57)) (pc' := 20) rfl rfl rfl ⟨rfl, rfl⟩ rfl rfl).trans ?_
  exact jx_ret (cc := cX4_init) rfl dX4_init_20 rfl ⟨by decide, by decide⟩
set_option maxRecDepth 100000 in
theorem kc_9 (n : Nat) (xs : Nat → Int32) : jm_D rX8_init 0 0 0 [.ref 38] [] (39, (kT30 n), kP58, (kI39 xs), kL30) = some (none, (66, (kT57 n), jP0c6, (kI75 xs), kL57)) := by
  refine (jx_aload_n (cc := cX8_init) rfl dX8_init_0 (pc' := 1) rfl rfl).trans ?_
  refine (jx_obji (cc := cX8_init) rfl dX8_init_1 (pc' := 4) rfl rfl rfl).trans ?_
  refine (jx_aload_n (cc := cX8_init) rfl dX8_init_4 (pc' := 5) rfl rfl).trans ?_
  refine (jx_iconst (cc := cX8_init) rfl dX8_init_5 (v := nI 5) (pc' := 6) (by decide) rfl).trans ?_
  refine (jx_newa (cc := cX8_init) rfl dX8_init_6 (g := 0) (m := 5) (uc' := 1) (us' := 5) (σ' := (40, (kT31 n), kP59, (kI40 xs), kL31)) (pc' := 8) rfl (by decide) ⟨by decide, by decide, by decide, by decide⟩ rfl rfl rfl rfl).trans ?_
  refine (jx_dup_ref (cc := cX8_init) rfl dX8_init_8 (pc' := 9) rfl).trans ?_
  refine (jx_iconst (cc := cX8_init) rfl dX8_init_9 (v := nI 0) (pc' := 10) (by decide) rfl).trans ?_
  refine (jx_iconst (cc := cX8_init) rfl dX8_init_10 (v := nI 0) (pc' := 11) (by decide) rfl).trans ?_
  refine (jx_iast (cc := cX8_init) rfl dX8_init_11 (k := 0) (m := 5) (σ' := (40, (kT31 n), kP59, (kI41 xs), kL31)) (pc' := 12) rfl rfl (by decide) (by decide) rfl rfl).trans ?_
  refine (jx_dup_ref (cc := cX8_init) rfl dX8_init_12 (pc' := 13) rfl).trans ?_
  refine (jx_iconst (cc := cX8_init) rfl dX8_init_13 (v := nI 1) (pc' := 14) (by decide) rfl).trans ?_
  refine (jx_ldc (cc := cX8_init) rfl dX8_init_14 (w := nI 31556952) (pc' := 16) rfl (by decide) rfl).trans ?_
  refine (jx_iast (cc := cX8_init) rfl dX8_init_16 (k := 1) (m := 5) (σ' := (40, (kT31 n), kP59, (kI42 xs), kL31)) (pc' := 17) rfl rfl (by decide) (by decide) rfl rfl).trans ?_
  refine (jx_dup_ref (cc := cX8_init) rfl dX8_init_17 (pc' := 18) rfl).trans ?_
  refine (jx_iconst (cc := cX8_init) rfl dX8_init_18 (v := nI 2) (pc' := 19) (by decide) rfl).trans ?_
  refine (jx_bipush (cc := cX8_init) rfl dX8_init_19 (v := nI 10) (pc' := 21) (by decide) rfl).trans ?_
  refine (jx_iast (cc := cX8_init) rfl dX8_init_21 (k := 2) (m := 5) (σ' := (40, (kT31 n), kP59, (kI43 xs), kL31)) (pc' := 22) rfl rfl (by decide) (by decide) rfl rfl).trans ?_
  refine (jx_dup_ref (cc := cX8_init) rfl dX8_init_22 (pc' := 23) rfl).trans ?_
  refine (jx_iconst (cc := cX8_init) rfl dX8_init_23 (v := nI 3) (pc' := 24) (by decide) rfl).trans ?_
  refine (jx_bipush (cc := cX8_init) rfl dX8_init_24 (v := nI 50) (pc' := 26) (by decide) rfl).trans ?_
  refine (jx_iast (cc := cX8_init) rfl dX8_init_26 (k := 3) (m := 5) (σ' := (40, (kT31 n), kP59, (kI44 xs), kL31)) (pc' := 27) rfl rfl (by decide) (by decide) rfl rfl).trans ?_
  refine (jx_dup_ref (cc := cX8_init) rfl dX8_init_27 (pc' := 28) rfl).trans ?_
  refine (jx_iconst (cc := cX8_init) rfl dX8_init_28 (v := nI 4) (pc' := 29) (by decide) rfl).trans ?_
  refine (jx_bipush (cc := cX8_init) rfl dX8_init_29 (v := nI 60) (pc' := 31) (by decide) rfl).trans ?_
  refine (jx_iast (cc := cX8_init) rfl dX8_init_31 (k := 4) (m := 5) (σ' := (40, (kT31 n), kP59, (kI45 xs), kL31)) (pc' := 32) rfl rfl (by decide) (by decide) rfl rfl).trans ?_
  refine (jx_putf (cc := cX8_init) rfl dX8_init_32 (c := 8) (f := 0) (σ' := (40, (kT31 n), kP60, (kI45 xs), kL31)) (pc' := 35) rfl rfl rfl ⟨rfl, rfl⟩ rfl rfl).trans ?_
  refine (jx_aload_n (cc := cX8_init) rfl dX8_init_35 (pc' := 36) rfl rfl).trans ?_
  refine (jx_new (cc := cX8_init) rfl dX8_init_36 (c := 2) (uc' := 2) (us' := 13) (σ' := (41, (jT0c1 n), kP61, (kI46 xs), jL0c1)) (pc' := 39) rfl ⟨by decide, by decide⟩ rfl rfl rfl rfl).trans ?_
  refine (jx_dup_ref (cc := cX8_init) rfl dX8_init_39 (pc' := 40) rfl).trans ?_
  refine (jx_call (cc := cX8_init) rfl dX8_init_40 (q := rX2_init) (rest := [.ref 40, .ref 38]) (lvq := [.ref 40]) (uc' := 10) (us' := 57) (pc' := 43) rfl rfl rfl rfl rfl (Nat.le_of_ble_eq_true rfl) rfl rfl (kc_5 n xs) rfl rfl rfl).trans ?_
  refine (jx_putf (cc := cX8_init) rfl dX8_init_43 (c := 8) (f := 1) (σ' := (49, (kT40 n), kP78, (kI58 xs), kL40)) (pc' := 46) rfl rfl rfl ⟨rfl, rfl⟩ rfl rfl).trans ?_
  refine (jx_aload_n (cc := cX8_init) rfl dX8_init_46 (pc' := 47) rfl rfl).trans ?_
  refine (jx_new (cc := cX8_init) rfl dX8_init_47 (c := 6) (uc' := 11) (us' := 61) (σ' := (50, (kT41 n), kP79, (kI59 xs), kL41)) (pc' := 50) rfl ⟨by decide, by decide⟩ rfl rfl rfl rfl).trans ?_
  refine (jx_dup_ref (cc := cX8_init) rfl dX8_init_50 (pc' := 51) rfl).trans ?_
  refine (jx_call (cc := cX8_init) rfl dX8_init_51 (q := rX6_init) (rest := [.ref 49, .ref 38]) (lvq := [.ref 49]) (uc' := 15) (us' := 79) (pc' := 54) rfl rfl rfl rfl rfl (Nat.le_of_ble_eq_true rfl) rfl rfl (kc_6 n xs) rfl rfl rfl).trans ?_
  refine (jx_putf (cc := cX8_init) rfl dX8_init_54 (c := 8) (f := 2) (σ' := (54, (kT45 n), kP88, (kI63 xs), kL45)) (pc' := 57) rfl rfl rfl ⟨rfl, rfl⟩ rfl rfl).trans ?_
  refine (jx_aload_n (cc := cX8_init) rfl dX8_init_57 (pc' := 58) rfl rfl).trans ?_
  refine (jx_new (cc := cX8_init) rfl dX8_init_58 (c := 3) (uc' := 16) (us' := 88) (σ' := (55, (kT46 n), kP89, (jI0c3 xs), kL46)) (pc' := 61) rfl ⟨by decide, by decide⟩ rfl rfl rfl rfl).trans ?_
  refine (jx_dup_ref (cc := cX8_init) rfl dX8_init_61 (pc' := 62) rfl).trans ?_
  refine (jx_call (cc := cX8_init) rfl dX8_init_62 (q := rX3_init) (rest := [.ref 54, .ref 38]) (lvq := [.ref 54]) (uc' := 24) (us' := 528) (pc' := 65) rfl rfl rfl rfl rfl (Nat.le_of_ble_eq_true rfl) rfl rfl (kc_7 n xs) rfl rfl rfl).trans ?_
  refine (jx_putf (cc := cX8_init) rfl dX8_init_65 (c := 8) (f := 3) (σ' := (63, (kT54 n), kP106, (kI72 xs), kL54)) (pc' := 68) rfl rfl rfl ⟨rfl, rfl⟩ rfl rfl).trans ?_
  refine (jx_aload_n (cc := cX8_init) rfl dX8_init_68 (pc' := 69) rfl rfl).trans ?_
  refine (jx_new (cc := cX8_init) rfl dX8_init_69 (c := 4) (uc' := 25) (us' := 531) (σ' := (64, (kT55 n), kP107, (kI73 xs), kL55)) (pc' := 72) rfl ⟨by decide, by decide⟩ rfl rfl rfl rfl).trans ?_
  refine (jx_dup_ref (cc := cX8_init) rfl dX8_init_72 (pc' := 73) rfl).trans ?_
  refine (jx_call (cc := cX8_init) rfl dX8_init_73 (q := rX4_init) (rest := [.ref 63, .ref 38]) (lvq := [.ref 63]) (uc' := 27) (us' := 563) (pc' := 76) rfl rfl rfl rfl rfl (Nat.le_of_ble_eq_true rfl) rfl rfl (kc_8 n xs) rfl rfl rfl).trans ?_
  refine (jx_putf (cc := cX8_init) rfl dX8_init_76 (c := 8) (f := 4) (σ' := (66, (kT57 n), jP0c6, (kI75 xs), kL57)) (pc' := 79) rfl rfl rfl ⟨rfl, rfl⟩ rfl rfl).trans ?_
  exact jx_ret (cc := cX8_init) rfl dX8_init_79 rfl ⟨by decide, by decide⟩
set_option maxRecDepth 100000 in
theorem kc_10 (n : Nat) (xs : Nat → Int32) : jm_D rX5_init 0 0 0 [.ref 66] [] (67, (kT58 n), kP114, (kI76 xs), kL58) = some (none, (69, (kT60 n), kP118, (kI78 xs), kL60)) := by
  refine (jx_aload_n (cc := cX5_init) rfl dX5_init_0 (pc' := 1) rfl rfl).trans ?_
  refine (jx_obji (cc := cX5_init) rfl dX5_init_1 (pc' := 4) rfl rfl rfl).trans ?_
  refine (jx_aload_n (cc := cX5_init) rfl dX5_init_4 (pc' := 5) rfl rfl).trans ?_
  refine (jx_bipush (cc := cX5_init) rfl dX5_init_5 (v := nI 20) (pc' := 7) (by decide) rfl).trans ?_
  refine (jx_newa (cc := cX5_init) rfl dX5_init_7 (g := 0) (m := 20) (uc' := 1) (us' := 20) (σ' := (68, (kT59 n), kP115, (kI77 xs), kL59)) (pc' := 9) rfl (by decide) ⟨by decide, by decide, by decide, by decide⟩ rfl rfl rfl rfl).trans ?_
  refine (jx_putf (cc := cX5_init) rfl dX5_init_9 (c := 5) (f := 0) (σ' := (68, (kT59 n), kP116, (kI77 xs), kL59)) (pc' := 12) rfl rfl rfl ⟨rfl, rfl⟩ rfl rfl).trans ?_
  refine (jx_aload_n (cc := cX5_init) rfl dX5_init_12 (pc' := 13) rfl rfl).trans ?_
  refine (jx_iconst (cc := cX5_init) rfl dX5_init_13 (v := nI 3) (pc' := 14) (by decide) rfl).trans ?_
  refine (jx_newa (cc := cX5_init) rfl dX5_init_14 (g := 0) (m := 3) (uc' := 2) (us' := 23) (σ' := (69, (kT60 n), kP117, (kI78 xs), kL60)) (pc' := 16) rfl (by decide) ⟨by decide, by decide, by decide, by decide⟩ rfl rfl rfl rfl).trans ?_
  refine (jx_putf (cc := cX5_init) rfl dX5_init_16 (c := 5) (f := 2) (σ' := (69, (kT60 n), kP118, (kI78 xs), kL60)) (pc' := 19) rfl rfl rfl ⟨rfl, rfl⟩ rfl rfl).trans ?_
  exact jx_ret (cc := cX5_init) rfl dX5_init_19 rfl ⟨by decide, by decide⟩
set_option maxRecDepth 100000 in
theorem kc_11 (n : Nat) (xs : Nat → Int32) : jm_D rX0_init 0 0 0 [.ref 75, .ref 10, .ref 74] [] (76, (kT67 n), kP131, (kI85 xs), kL67) = some (none, (79, (kT70 n), kP139, (kI88 xs), kL70)) := by
  refine (jx_aload_n (cc := cX0_init) rfl dX0_init_0 (pc' := 1) rfl rfl).trans ?_
  refine (jx_obji (cc := cX0_init) rfl dX0_init_1 (pc' := 4) rfl rfl rfl).trans ?_
  refine (jx_aload_n (cc := cX0_init) rfl dX0_init_4 (pc' := 5) rfl rfl).trans ?_
  refine (jx_sipush (cc := cX0_init) rfl dX0_init_5 (v := nI 343) (pc' := 8) (by decide) rfl).trans ?_
  refine (jx_newa (cc := cX0_init) rfl dX0_init_8 (g := 1) (m := 343) (uc' := 1) (us' := 343) (σ' := (77, (kT68 n), kP132, (kI86 xs), kL68)) (pc' := 10) rfl (by decide) ⟨by decide, by decide, by decide, by decide⟩ rfl rfl rfl rfl).trans ?_
  refine (jx_putf (cc := cX0_init) rfl dX0_init_10 (c := 0) (f := 2) (σ' := (77, (kT68 n), kP133, (kI86 xs), kL68)) (pc' := 13) rfl rfl rfl ⟨rfl, rfl⟩ rfl rfl).trans ?_
  refine (jx_aload_n (cc := cX0_init) rfl dX0_init_13 (pc' := 14) rfl rfl).trans ?_
  refine (jx_bipush (cc := cX0_init) rfl dX0_init_14 (v := nI 7) (pc' := 16) (by decide) rfl).trans ?_
  refine (jx_newa (cc := cX0_init) rfl dX0_init_16 (g := 0) (m := 7) (uc' := 2) (us' := 350) (σ' := (78, (kT69 n), kP134, (kI87 xs), kL69)) (pc' := 18) rfl (by decide) ⟨by decide, by decide, by decide, by decide⟩ rfl rfl rfl rfl).trans ?_
  refine (jx_putf (cc := cX0_init) rfl dX0_init_18 (c := 0) (f := 3) (σ' := (78, (kT69 n), kP135, (kI87 xs), kL69)) (pc' := 21) rfl rfl rfl ⟨rfl, rfl⟩ rfl rfl).trans ?_
  refine (jx_aload_n (cc := cX0_init) rfl dX0_init_21 (pc' := 22) rfl rfl).trans ?_
  refine (jx_iconst (cc := cX0_init) rfl dX0_init_22 (v := nI 3) (pc' := 23) (by decide) rfl).trans ?_
  refine (jx_newa (cc := cX0_init) rfl dX0_init_23 (g := 0) (m := 3) (uc' := 3) (us' := 353) (σ' := (79, (kT70 n), kP136, (kI88 xs), kL70)) (pc' := 25) rfl (by decide) ⟨by decide, by decide, by decide, by decide⟩ rfl rfl rfl rfl).trans ?_
  refine (jx_putf (cc := cX0_init) rfl dX0_init_25 (c := 0) (f := 4) (σ' := (79, (kT70 n), kP137, (kI88 xs), kL70)) (pc' := 28) rfl rfl rfl ⟨rfl, rfl⟩ rfl rfl).trans ?_
  refine (jx_aload_n (cc := cX0_init) rfl dX0_init_28 (pc' := 29) rfl rfl).trans ?_
  refine (jx_aload_n (cc := cX0_init) rfl dX0_init_29 (pc' := 30) rfl rfl).trans ?_
  refine (jx_putf (cc := cX0_init) rfl dX0_init_30 (c := 0) (f := 0) (σ' := (79, (kT70 n), kP138, (kI88 xs), kL70)) (pc' := 33) rfl rfl rfl ⟨rfl, rfl⟩ rfl rfl).trans ?_
  refine (jx_aload_n (cc := cX0_init) rfl dX0_init_33 (pc' := 34) rfl rfl).trans ?_
  refine (jx_aload_n (cc := cX0_init) rfl dX0_init_34 (pc' := 35) rfl rfl).trans ?_
  refine (jx_putf (cc := cX0_init) rfl dX0_init_35 (c := 0) (f := 1) (σ' := (79, (kT70 n), kP139, (kI88 xs), kL70)) (pc' := 38) rfl rfl rfl ⟨rfl, rfl⟩ rfl rfl).trans ?_
  exact jx_ret (cc := cX0_init) rfl dX0_init_38 rfl ⟨by decide, by decide⟩
