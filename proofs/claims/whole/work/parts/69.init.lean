/-! The store behind the constructors keeps the invariant, and the model is beside the class. -/
theorem invW0 (a j : Nat) (h : a ≠ 11) (h2 : a ≠ 20) : invW a j 0 := by
  unfold invW
  split
  all_goals first
    | exact absurd rfl h
    | exact absurd rfl h2
    | exact trivial
    | exact fun _ => ⟨by decide, by decide⟩
    | exact fun _ => Or.inl rfl
    | exact fun _ => Or.inr ⟨by decide, by decide⟩
set_option maxRecDepth 100000 in
theorem jz_9 (xs : Nat → Int32) (j : Nat) : jI0 xs 9 j = 0 := rfl
set_option maxRecDepth 100000 in
theorem jz_10 (xs : Nat → Int32) (j : Nat) : jI0 xs 10 j = 0 := rfl
set_option maxRecDepth 100000 in
theorem jz_12 (xs : Nat → Int32) (j : Nat) : jI0 xs 12 j = 0 := rfl
set_option maxRecDepth 100000 in
theorem jz_13 (xs : Nat → Int32) (j : Nat) : jI0 xs 13 j = 0 := rfl
set_option maxRecDepth 100000 in
theorem jz_14 (xs : Nat → Int32) (j : Nat) : jI0 xs 14 j = 0 := rfl
set_option maxRecDepth 100000 in
theorem jz_15 (xs : Nat → Int32) (j : Nat) : jI0 xs 15 j = 0 := rfl
set_option maxRecDepth 100000 in
theorem jz_16 (xs : Nat → Int32) (j : Nat) : jI0 xs 16 j = 0 := rfl
set_option maxRecDepth 100000 in
theorem jz_17 (xs : Nat → Int32) (j : Nat) : jI0 xs 17 j = 0 := rfl
set_option maxRecDepth 100000 in
theorem jz_18 (xs : Nat → Int32) (j : Nat) : jI0 xs 18 j = 0 := rfl
set_option maxRecDepth 100000 in
theorem jz_19 (xs : Nat → Int32) (j : Nat) : jI0 xs 19 j = 0 := rfl
set_option maxRecDepth 100000 in
theorem jz_21 (xs : Nat → Int32) (j : Nat) : jI0 xs 21 j = 0 := rfl
set_option maxRecDepth 100000 in
theorem jz_22 (xs : Nat → Int32) (j : Nat) : jI0 xs 22 j = 0 := rfl
set_option maxRecDepth 100000 in
theorem jz_23 (xs : Nat → Int32) (j : Nat) : jI0 xs 23 j = 0 := rfl
set_option maxRecDepth 100000 in
theorem jz_24 (xs : Nat → Int32) (j : Nat) : jI0 xs 24 j = 0 := rfl
set_option maxRecDepth 100000 in
theorem jz_25 (xs : Nat → Int32) (j : Nat) : jI0 xs 25 j = 0 := rfl
set_option maxRecDepth 100000 in
theorem jz_26 (xs : Nat → Int32) (j : Nat) : jI0 xs 26 j = 0 := rfl
set_option maxRecDepth 100000 in
theorem jz_27 (xs : Nat → Int32) (j : Nat) : jI0 xs 27 j = 0 := rfl
set_option maxRecDepth 100000 in
theorem jz_28 (xs : Nat → Int32) (j : Nat) : jI0 xs 28 j = 0 := rfl
set_option maxRecDepth 100000 in
theorem jz_29 (xs : Nat → Int32) (j : Nat) : jI0 xs 29 j = 0 := rfl
set_option maxRecDepth 100000 in
theorem jz_30 (xs : Nat → Int32) (j : Nat) : jI0 xs 30 j = 0 := rfl
set_option maxRecDepth 100000 in
theorem jz_31 (xs : Nat → Int32) (j : Nat) : jI0 xs 31 j = 0 := rfl
set_option maxRecDepth 100000 in
theorem jz_32 (xs : Nat → Int32) (j : Nat) : jI0 xs 32 j = 0 := rfl
set_option maxRecDepth 100000 in
theorem jz_33 (xs : Nat → Int32) (j : Nat) : jI0 xs 33 j = 0 := rfl
set_option maxRecDepth 100000 in
theorem jz_34 (xs : Nat → Int32) (j : Nat) : jI0 xs 34 j = 0 := rfl
set_option maxRecDepth 100000 in
theorem jz_35 (xs : Nat → Int32) (j : Nat) : jI0 xs 35 j = 0 := rfl
set_option maxRecDepth 100000 in
theorem jz_36 (xs : Nat → Int32) (j : Nat) : jI0 xs 36 j = 0 := rfl
set_option maxRecDepth 100000 in
theorem jz_37 (xs : Nat → Int32) (j : Nat) : jI0 xs 37 j = 0 := rfl
set_option maxRecDepth 100000 in
theorem jz_38 (xs : Nat → Int32) (j : Nat) : jI0 xs 38 j = 0 := rfl
set_option maxRecDepth 100000 in
theorem jz_40 (xs : Nat → Int32) (j : Nat) : jI0 xs 40 j = 0 := rfl
set_option maxRecDepth 100000 in
theorem jz_41 (xs : Nat → Int32) (j : Nat) : jI0 xs 41 j = 0 := rfl
set_option maxRecDepth 100000 in
theorem jz_42 (xs : Nat → Int32) (j : Nat) : jI0 xs 42 j = 0 := rfl
set_option maxRecDepth 100000 in
theorem jz_43 (xs : Nat → Int32) (j : Nat) : jI0 xs 43 j = 0 := rfl
set_option maxRecDepth 100000 in
theorem jz_44 (xs : Nat → Int32) (j : Nat) : jI0 xs 44 j = 0 := rfl
set_option maxRecDepth 100000 in
theorem jz_45 (xs : Nat → Int32) (j : Nat) : jI0 xs 45 j = 0 := rfl
set_option maxRecDepth 100000 in
theorem jz_46 (xs : Nat → Int32) (j : Nat) : jI0 xs 46 j = 0 := rfl
set_option maxRecDepth 100000 in
theorem jz_47 (xs : Nat → Int32) (j : Nat) : jI0 xs 47 j = 0 := rfl
set_option maxRecDepth 100000 in
theorem jz_49 (xs : Nat → Int32) (j : Nat) : jI0 xs 49 j = 0 := rfl
set_option maxRecDepth 100000 in
theorem jz_50 (xs : Nat → Int32) (j : Nat) : jI0 xs 50 j = 0 := rfl
set_option maxRecDepth 100000 in
theorem jz_51 (xs : Nat → Int32) (j : Nat) : jI0 xs 51 j = 0 := rfl
set_option maxRecDepth 100000 in
theorem jz_52 (xs : Nat → Int32) (j : Nat) : jI0 xs 52 j = 0 := rfl
set_option maxRecDepth 100000 in
theorem jz_53 (xs : Nat → Int32) (j : Nat) : jI0 xs 53 j = 0 := rfl
set_option maxRecDepth 100000 in
theorem jz_54 (xs : Nat → Int32) (j : Nat) : jI0 xs 54 j = 0 := rfl
set_option maxRecDepth 100000 in
theorem jz_55 (xs : Nat → Int32) (j : Nat) : jI0 xs 55 j = 0 := rfl
set_option maxRecDepth 100000 in
theorem jz_56 (xs : Nat → Int32) (j : Nat) : jI0 xs 56 j = 0 := rfl
set_option maxRecDepth 100000 in
theorem jz_57 (xs : Nat → Int32) (j : Nat) : jI0 xs 57 j = 0 := rfl
set_option maxRecDepth 100000 in
theorem jz_58 (xs : Nat → Int32) (j : Nat) : jI0 xs 58 j = 0 := rfl
set_option maxRecDepth 100000 in
theorem jz_59 (xs : Nat → Int32) (j : Nat) : jI0 xs 59 j = 0 := rfl
set_option maxRecDepth 100000 in
theorem jz_60 (xs : Nat → Int32) (j : Nat) : jI0 xs 60 j = 0 := rfl
set_option maxRecDepth 100000 in
theorem jz_61 (xs : Nat → Int32) (j : Nat) : jI0 xs 61 j = 0 := rfl
set_option maxRecDepth 100000 in
theorem jz_62 (xs : Nat → Int32) (j : Nat) : jI0 xs 62 j = 0 := rfl
set_option maxRecDepth 100000 in
theorem jz_63 (xs : Nat → Int32) (j : Nat) : jI0 xs 63 j = 0 := rfl
set_option maxRecDepth 100000 in
theorem jz_64 (xs : Nat → Int32) (j : Nat) : jI0 xs 64 j = 0 := rfl
set_option maxRecDepth 100000 in
theorem jz_65 (xs : Nat → Int32) (j : Nat) : jI0 xs 65 j = 0 := rfl
set_option maxRecDepth 100000 in
theorem jz_66 (xs : Nat → Int32) (j : Nat) : jI0 xs 66 j = 0 := rfl
set_option maxRecDepth 100000 in
theorem jz_67 (xs : Nat → Int32) (j : Nat) : jI0 xs 67 j = 0 := rfl
set_option maxRecDepth 100000 in
theorem jz_68 (xs : Nat → Int32) (j : Nat) : jI0 xs 68 j = 0 := rfl
set_option maxRecDepth 100000 in
theorem jz_69 (xs : Nat → Int32) (j : Nat) : jI0 xs 69 j = 0 := rfl
set_option maxRecDepth 100000 in
theorem jz_70 (xs : Nat → Int32) (j : Nat) : jI0 xs 70 j = 0 := rfl
set_option maxRecDepth 100000 in
theorem jz_111 (xs : Nat → Int32) (j : Nat) : jI0 xs 111 j = 0 := rfl
set_option maxRecDepth 100000 in
theorem jz_112 (xs : Nat → Int32) (j : Nat) : jI0 xs 112 j = 0 := rfl
set_option maxRecDepth 100000 in
theorem jz_113 (xs : Nat → Int32) (j : Nat) : jI0 xs 113 j = 0 := rfl
set_option maxRecDepth 100000 in
theorem jz_114 (xs : Nat → Int32) (j : Nat) : jI0 xs 114 j = 0 := rfl
set_option maxRecDepth 100000 in
theorem jz_115 (xs : Nat → Int32) (j : Nat) : jI0 xs 115 j = 0 := rfl
set_option maxRecDepth 100000 in
theorem jz_116 (xs : Nat → Int32) (j : Nat) : jI0 xs 116 j = 0 := rfl
set_option maxRecDepth 100000 in
theorem jz_117 (xs : Nat → Int32) (j : Nat) : jI0 xs 117 j = 0 := rfl
set_option maxRecDepth 100000 in
theorem jz_119 (xs : Nat → Int32) (j : Nat) : jI0 xs 119 j = 0 := rfl
set_option maxRecDepth 100000 in
theorem jz_121 (xs : Nat → Int32) (j : Nat) : jI0 xs 121 j = 0 := rfl
set_option maxRecDepth 100000 in
theorem jz_122 (xs : Nat → Int32) (j : Nat) : jI0 xs 122 j = 0 := rfl
set_option maxRecDepth 100000 in
theorem jz_123 (xs : Nat → Int32) (j : Nat) : jI0 xs 123 j = 0 := rfl
set_option maxRecDepth 100000 in
theorem jz_124 (xs : Nat → Int32) (j : Nat) : jI0 xs 124 j = 0 := rfl
set_option maxRecDepth 100000 in
theorem jz_125 (xs : Nat → Int32) (j : Nat) : jI0 xs 125 j = 0 := rfl
set_option maxRecDepth 100000 in
theorem jz_126 (xs : Nat → Int32) (j : Nat) : jI0 xs 126 j = 0 := rfl
set_option maxRecDepth 100000 in
theorem jz_127 (xs : Nat → Int32) (j : Nat) : jI0 xs 127 j = 0 := rfl
set_option maxRecDepth 100000 in
theorem jz_128 (xs : Nat → Int32) (j : Nat) : jI0 xs 128 j = 0 := rfl
set_option maxRecDepth 100000 in
theorem jz_129 (xs : Nat → Int32) (j : Nat) : jI0 xs 129 j = 0 := rfl
set_option maxRecDepth 100000 in
theorem jz_130 (xs : Nat → Int32) (j : Nat) : jI0 xs 130 j = 0 := rfl
set_option maxRecDepth 100000 in
theorem jz_131 (xs : Nat → Int32) (j : Nat) : jI0 xs 131 j = 0 := rfl
set_option maxRecDepth 100000 in
theorem jz_132 (xs : Nat → Int32) (j : Nat) : jI0 xs 132 j = 0 := rfl
set_option maxRecDepth 100000 in
theorem jz_133 (xs : Nat → Int32) (j : Nat) : jI0 xs 133 j = 0 := rfl
set_option maxRecDepth 100000 in
theorem jz_134 (xs : Nat → Int32) (j : Nat) : jI0 xs 134 j = 0 := rfl
set_option maxRecDepth 100000 in
theorem jz_135 (xs : Nat → Int32) (j : Nat) : jI0 xs 135 j = 0 := rfl
set_option maxRecDepth 100000 in
theorem jz_136 (xs : Nat → Int32) (j : Nat) : jI0 xs 136 j = 0 := rfl
set_option maxRecDepth 100000 in
theorem jz_143 (xs : Nat → Int32) (j : Nat) : jI0 xs 143 j = 0 := rfl
set_option maxRecDepth 100000 in
theorem jv_11_0 (xs : Nat → Int32) : jI0 xs 11 0 = (0) := rfl
set_option maxRecDepth 100000 in
theorem jv_11_1 (xs : Nat → Int32) : jI0 xs 11 1 = (31556952) := rfl
set_option maxRecDepth 100000 in
theorem jv_11_2 (xs : Nat → Int32) : jI0 xs 11 2 = (10) := rfl
set_option maxRecDepth 100000 in
theorem jv_11_3 (xs : Nat → Int32) : jI0 xs 11 3 = (50) := rfl
set_option maxRecDepth 100000 in
theorem jv_11_4 (xs : Nat → Int32) : jI0 xs 11 4 = (60) := rfl
set_option maxRecDepth 100000 in
theorem jv_20_0 (xs : Nat → Int32) : jI0 xs 20 0 = (1000) := rfl
set_option maxRecDepth 100000 in
theorem jv_20_1 (xs : Nat → Int32) : jI0 xs 20 1 = (1000) := rfl
set_option maxRecDepth 100000 in
theorem jv_20_2 (xs : Nat → Int32) : jI0 xs 20 2 = (1000) := rfl
set_option maxRecDepth 100000 in
theorem jv_20_3 (xs : Nat → Int32) : jI0 xs 20 3 = (1000) := rfl
set_option maxRecDepth 100000 in
theorem jv_39_0 (xs : Nat → Int32) : jI0 xs 39 0 = (0) := rfl
set_option maxRecDepth 100000 in
theorem jv_39_1 (xs : Nat → Int32) : jI0 xs 39 1 = (31556952) := rfl
set_option maxRecDepth 100000 in
theorem jv_39_2 (xs : Nat → Int32) : jI0 xs 39 2 = (10) := rfl
set_option maxRecDepth 100000 in
theorem jv_39_3 (xs : Nat → Int32) : jI0 xs 39 3 = (50) := rfl
set_option maxRecDepth 100000 in
theorem jv_39_4 (xs : Nat → Int32) : jI0 xs 39 4 = (60) := rfl
set_option maxRecDepth 100000 in
theorem jv_48_0 (xs : Nat → Int32) : jI0 xs 48 0 = (1000) := rfl
set_option maxRecDepth 100000 in
theorem jv_48_1 (xs : Nat → Int32) : jI0 xs 48 1 = (1000) := rfl
set_option maxRecDepth 100000 in
theorem jv_48_2 (xs : Nat → Int32) : jI0 xs 48 2 = (1000) := rfl
set_option maxRecDepth 100000 in
theorem jv_48_3 (xs : Nat → Int32) : jI0 xs 48 3 = (1000) := rfl
set_option maxRecDepth 100000 in
theorem jv_118_0 (xs : Nat → Int32) : jI0 xs 118 0 = (0) := rfl
set_option maxRecDepth 100000 in
theorem jv_118_1 (xs : Nat → Int32) : jI0 xs 118 1 = (31556952) := rfl
set_option maxRecDepth 100000 in
theorem jv_118_2 (xs : Nat → Int32) : jI0 xs 118 2 = (10) := rfl
set_option maxRecDepth 100000 in
theorem jv_118_3 (xs : Nat → Int32) : jI0 xs 118 3 = (50) := rfl
set_option maxRecDepth 100000 in
theorem jv_118_4 (xs : Nat → Int32) : jI0 xs 118 4 = (60) := rfl
set_option maxRecDepth 100000 in
theorem jv_120_0 (xs : Nat → Int32) : jI0 xs 120 0 = (0) := rfl
set_option maxRecDepth 100000 in
theorem jv_120_1 (xs : Nat → Int32) : jI0 xs 120 1 = (3) := rfl
set_option maxRecDepth 100000 in
theorem jv_120_2 (xs : Nat → Int32) : jI0 xs 120 2 = (4) := rfl
set_option maxRecDepth 100000 in
theorem jv_120_3 (xs : Nat → Int32) : jI0 xs 120 3 = (3) := rfl
set_option maxRecDepth 100000 in
theorem jv_120_4 (xs : Nat → Int32) : jI0 xs 120 4 = (0) := rfl
set_option maxRecDepth 100000 in
theorem jv_120_5 (xs : Nat → Int32) : jI0 xs 120 5 = (-3) := rfl
set_option maxRecDepth 100000 in
theorem jv_120_6 (xs : Nat → Int32) : jI0 xs 120 6 = (-4) := rfl
set_option maxRecDepth 100000 in
theorem jv_120_7 (xs : Nat → Int32) : jI0 xs 120 7 = (-3) := rfl
set_option maxRecDepth 100000 in
theorem jv_137_0 (xs : Nat → Int32) : jI0 xs 137 0 = (1000) := rfl
set_option maxRecDepth 100000 in
theorem jv_137_1 (xs : Nat → Int32) : jI0 xs 137 1 = (1000) := rfl
set_option maxRecDepth 100000 in
theorem jv_137_2 (xs : Nat → Int32) : jI0 xs 137 2 = (1000) := rfl
set_option maxRecDepth 100000 in
theorem jv_137_3 (xs : Nat → Int32) : jI0 xs 137 3 = (1000) := rfl
set_option maxRecDepth 100000 in
theorem iv_0 (xs : Nat → Int32) (j : Nat) : invP 0 j (jI0 xs 0 j) := (rfl : jI0 xs 0 j = jI00 (fun _ => 0) 0 j)
set_option maxRecDepth 100000 in
theorem iv_1 (xs : Nat → Int32) (j : Nat) : invP 1 j (jI0 xs 1 j) := (rfl : jI0 xs 1 j = jI00 (fun _ => 0) 1 j)
set_option maxRecDepth 100000 in
theorem iv_2 (xs : Nat → Int32) (j : Nat) : invP 2 j (jI0 xs 2 j) := (rfl : jI0 xs 2 j = jI00 (fun _ => 0) 2 j)
set_option maxRecDepth 100000 in
theorem iv_3 (xs : Nat → Int32) (j : Nat) : invP 3 j (jI0 xs 3 j) := (rfl : jI0 xs 3 j = jI00 (fun _ => 0) 3 j)
set_option maxRecDepth 100000 in
theorem iv_4 (xs : Nat → Int32) (j : Nat) : invP 4 j (jI0 xs 4 j) := (rfl : jI0 xs 4 j = jI00 (fun _ => 0) 4 j)
set_option maxRecDepth 100000 in
theorem iv_5 (xs : Nat → Int32) (j : Nat) : invP 5 j (jI0 xs 5 j) := (rfl : jI0 xs 5 j = jI00 (fun _ => 0) 5 j)
set_option maxRecDepth 100000 in
theorem iv_6 (xs : Nat → Int32) (j : Nat) : invP 6 j (jI0 xs 6 j) := (rfl : jI0 xs 6 j = jI00 (fun _ => 0) 6 j)
set_option maxRecDepth 100000 in
theorem iv_7 (xs : Nat → Int32) (j : Nat) : invP 7 j (jI0 xs 7 j) := (rfl : jI0 xs 7 j = jI00 (fun _ => 0) 7 j)
theorem iv_8 (xs : Nat → Int32) (j : Nat) : invP 8 j (jI0 xs 8 j) := trivial
theorem iv_9 (xs : Nat → Int32) (j : Nat) : invP 9 j (jI0 xs 9 j) := by rw [jz_9]; exact ⟨fun _ => Or.inl rfl, fun _ => ⟨by decide, by decide⟩⟩
theorem iv_66 (xs : Nat → Int32) (j : Nat) : invP 66 j (jI0 xs 66 j) := by rw [jz_66]; exact fun _ => ⟨by decide, by decide⟩
theorem iv_11 (xs : Nat → Int32) (j : Nat) : invP 11 j (jI0 xs 11 j) := ⟨fun h => by rw [h, jv_11_0]; exact ⟨by decide, by decide⟩, fun h => by rw [h, jv_11_1]; exact ⟨by decide, by decide⟩, fun h => by rw [h, jv_11_2]; exact ⟨by decide, by decide⟩, fun h => by rw [h, jv_11_3]; exact ⟨by decide, by decide⟩, fun h => by rw [h, jv_11_4]; exact ⟨by decide, by decide⟩⟩
theorem iv_39 (xs : Nat → Int32) (j : Nat) : invP 39 j (jI0 xs 39 j) := ⟨fun h => by rw [h, jv_39_0]; exact ⟨by decide, by decide⟩, fun h => by rw [h, jv_39_1]; exact ⟨by decide, by decide⟩, fun h => by rw [h, jv_39_2]; exact ⟨by decide, by decide⟩, fun h => by rw [h, jv_39_3]; exact ⟨by decide, by decide⟩, fun h => by rw [h, jv_39_4]; exact ⟨by decide, by decide⟩⟩
theorem iv_20 (xs : Nat → Int32) (j : Nat) : invP 20 j (jI0 xs 20 j) := by
  have q : j < 4 → rg (jI0 xs 20 j) 1000 999999 := by
    intro h
    match j, h with
    | 0, _ => rw [jv_20_0]; exact ⟨by decide, by decide⟩
    | 1, _ => rw [jv_20_1]; exact ⟨by decide, by decide⟩
    | 2, _ => rw [jv_20_2]; exact ⟨by decide, by decide⟩
    | 3, _ => rw [jv_20_3]; exact ⟨by decide, by decide⟩
  exact q
theorem iv_48 (xs : Nat → Int32) (j : Nat) : invP 48 j (jI0 xs 48 j) := by
  have q : j < 4 → rg (jI0 xs 48 j) 1000 999999 := by
    intro h
    match j, h with
    | 0, _ => rw [jv_48_0]; exact ⟨by decide, by decide⟩
    | 1, _ => rw [jv_48_1]; exact ⟨by decide, by decide⟩
    | 2, _ => rw [jv_48_2]; exact ⟨by decide, by decide⟩
    | 3, _ => rw [jv_48_3]; exact ⟨by decide, by decide⟩
  exact q
theorem iv_10 (xs : Nat → Int32) (j : Nat) : invP 10 j (jI0 xs 10 j) := by rw [jz_10]; exact invW0 10 j (by decide) (by decide)
theorem iv_12 (xs : Nat → Int32) (j : Nat) : invP 12 j (jI0 xs 12 j) := by rw [jz_12]; exact invW0 12 j (by decide) (by decide)
theorem iv_13 (xs : Nat → Int32) (j : Nat) : invP 13 j (jI0 xs 13 j) := by rw [jz_13]; exact invW0 13 j (by decide) (by decide)
theorem iv_14 (xs : Nat → Int32) (j : Nat) : invP 14 j (jI0 xs 14 j) := by rw [jz_14]; exact invW0 14 j (by decide) (by decide)
theorem iv_15 (xs : Nat → Int32) (j : Nat) : invP 15 j (jI0 xs 15 j) := by rw [jz_15]; exact invW0 15 j (by decide) (by decide)
theorem iv_16 (xs : Nat → Int32) (j : Nat) : invP 16 j (jI0 xs 16 j) := by rw [jz_16]; exact invW0 16 j (by decide) (by decide)
theorem iv_17 (xs : Nat → Int32) (j : Nat) : invP 17 j (jI0 xs 17 j) := by rw [jz_17]; exact invW0 17 j (by decide) (by decide)
theorem iv_18 (xs : Nat → Int32) (j : Nat) : invP 18 j (jI0 xs 18 j) := by rw [jz_18]; exact invW0 18 j (by decide) (by decide)
theorem iv_19 (xs : Nat → Int32) (j : Nat) : invP 19 j (jI0 xs 19 j) := by rw [jz_19]; exact invW0 19 j (by decide) (by decide)
theorem iv_21 (xs : Nat → Int32) (j : Nat) : invP 21 j (jI0 xs 21 j) := by rw [jz_21]; exact invW0 21 j (by decide) (by decide)
theorem iv_22 (xs : Nat → Int32) (j : Nat) : invP 22 j (jI0 xs 22 j) := by rw [jz_22]; exact invW0 22 j (by decide) (by decide)
theorem iv_23 (xs : Nat → Int32) (j : Nat) : invP 23 j (jI0 xs 23 j) := by rw [jz_23]; exact invW0 23 j (by decide) (by decide)
theorem iv_24 (xs : Nat → Int32) (j : Nat) : invP 24 j (jI0 xs 24 j) := by rw [jz_24]; exact invW0 24 j (by decide) (by decide)
theorem iv_25 (xs : Nat → Int32) (j : Nat) : invP 25 j (jI0 xs 25 j) := by rw [jz_25]; exact invW0 25 j (by decide) (by decide)
theorem iv_26 (xs : Nat → Int32) (j : Nat) : invP 26 j (jI0 xs 26 j) := by rw [jz_26]; exact invW0 26 j (by decide) (by decide)
theorem iv_27 (xs : Nat → Int32) (j : Nat) : invP 27 j (jI0 xs 27 j) := by rw [jz_27]; exact invW0 27 j (by decide) (by decide)
theorem iv_28 (xs : Nat → Int32) (j : Nat) : invP 28 j (jI0 xs 28 j) := by rw [jz_28]; exact invW0 28 j (by decide) (by decide)
theorem iv_29 (xs : Nat → Int32) (j : Nat) : invP 29 j (jI0 xs 29 j) := by rw [jz_29]; exact invW0 29 j (by decide) (by decide)
theorem iv_30 (xs : Nat → Int32) (j : Nat) : invP 30 j (jI0 xs 30 j) := by rw [jz_30]; exact invW0 30 j (by decide) (by decide)
theorem iv_31 (xs : Nat → Int32) (j : Nat) : invP 31 j (jI0 xs 31 j) := by rw [jz_31]; exact invW0 31 j (by decide) (by decide)
theorem iv_32 (xs : Nat → Int32) (j : Nat) : invP 32 j (jI0 xs 32 j) := by rw [jz_32]; exact invW0 32 j (by decide) (by decide)
theorem iv_33 (xs : Nat → Int32) (j : Nat) : invP 33 j (jI0 xs 33 j) := by rw [jz_33]; exact invW0 33 j (by decide) (by decide)
theorem iv_34 (xs : Nat → Int32) (j : Nat) : invP 34 j (jI0 xs 34 j) := by rw [jz_34]; exact invW0 34 j (by decide) (by decide)
theorem iv_35 (xs : Nat → Int32) (j : Nat) : invP 35 j (jI0 xs 35 j) := by rw [jz_35]; exact invW0 35 j (by decide) (by decide)
theorem iv_36 (xs : Nat → Int32) (j : Nat) : invP 36 j (jI0 xs 36 j) := by rw [jz_36]; exact invW0 36 j (by decide) (by decide)
theorem iv_37 (xs : Nat → Int32) (j : Nat) : invP 37 j (jI0 xs 37 j) := by rw [jz_37]; exact invW0 37 j (by decide) (by decide)
theorem iv_38 (xs : Nat → Int32) (j : Nat) : invP 38 j (jI0 xs 38 j) := by rw [jz_38]; exact invW0 38 j (by decide) (by decide)
theorem iv_40 (xs : Nat → Int32) (j : Nat) : invP 40 j (jI0 xs 40 j) := by rw [jz_40]; exact invW0 12 j (by decide) (by decide)
theorem iv_41 (xs : Nat → Int32) (j : Nat) : invP 41 j (jI0 xs 41 j) := by rw [jz_41]; exact invW0 13 j (by decide) (by decide)
theorem iv_42 (xs : Nat → Int32) (j : Nat) : invP 42 j (jI0 xs 42 j) := by rw [jz_42]; exact invW0 14 j (by decide) (by decide)
theorem iv_43 (xs : Nat → Int32) (j : Nat) : invP 43 j (jI0 xs 43 j) := by rw [jz_43]; exact invW0 15 j (by decide) (by decide)
theorem iv_44 (xs : Nat → Int32) (j : Nat) : invP 44 j (jI0 xs 44 j) := by rw [jz_44]; exact invW0 16 j (by decide) (by decide)
theorem iv_45 (xs : Nat → Int32) (j : Nat) : invP 45 j (jI0 xs 45 j) := by rw [jz_45]; exact invW0 17 j (by decide) (by decide)
theorem iv_46 (xs : Nat → Int32) (j : Nat) : invP 46 j (jI0 xs 46 j) := by rw [jz_46]; exact invW0 18 j (by decide) (by decide)
theorem iv_47 (xs : Nat → Int32) (j : Nat) : invP 47 j (jI0 xs 47 j) := by rw [jz_47]; exact invW0 19 j (by decide) (by decide)
theorem iv_49 (xs : Nat → Int32) (j : Nat) : invP 49 j (jI0 xs 49 j) := by rw [jz_49]; exact invW0 21 j (by decide) (by decide)
theorem iv_50 (xs : Nat → Int32) (j : Nat) : invP 50 j (jI0 xs 50 j) := by rw [jz_50]; exact invW0 22 j (by decide) (by decide)
theorem iv_51 (xs : Nat → Int32) (j : Nat) : invP 51 j (jI0 xs 51 j) := by rw [jz_51]; exact invW0 23 j (by decide) (by decide)
theorem iv_52 (xs : Nat → Int32) (j : Nat) : invP 52 j (jI0 xs 52 j) := by rw [jz_52]; exact invW0 24 j (by decide) (by decide)
theorem iv_53 (xs : Nat → Int32) (j : Nat) : invP 53 j (jI0 xs 53 j) := by rw [jz_53]; exact invW0 25 j (by decide) (by decide)
theorem iv_54 (xs : Nat → Int32) (j : Nat) : invP 54 j (jI0 xs 54 j) := by rw [jz_54]; exact invW0 26 j (by decide) (by decide)
theorem iv_55 (xs : Nat → Int32) (j : Nat) : invP 55 j (jI0 xs 55 j) := by rw [jz_55]; exact invW0 27 j (by decide) (by decide)
theorem iv_56 (xs : Nat → Int32) (j : Nat) : invP 56 j (jI0 xs 56 j) := by rw [jz_56]; exact invW0 28 j (by decide) (by decide)
theorem iv_57 (xs : Nat → Int32) (j : Nat) : invP 57 j (jI0 xs 57 j) := by rw [jz_57]; exact invW0 29 j (by decide) (by decide)
theorem iv_58 (xs : Nat → Int32) (j : Nat) : invP 58 j (jI0 xs 58 j) := by rw [jz_58]; exact invW0 30 j (by decide) (by decide)
theorem iv_59 (xs : Nat → Int32) (j : Nat) : invP 59 j (jI0 xs 59 j) := by rw [jz_59]; exact invW0 31 j (by decide) (by decide)
theorem iv_60 (xs : Nat → Int32) (j : Nat) : invP 60 j (jI0 xs 60 j) := by rw [jz_60]; exact invW0 32 j (by decide) (by decide)
theorem iv_61 (xs : Nat → Int32) (j : Nat) : invP 61 j (jI0 xs 61 j) := by rw [jz_61]; exact invW0 33 j (by decide) (by decide)
theorem iv_62 (xs : Nat → Int32) (j : Nat) : invP 62 j (jI0 xs 62 j) := by rw [jz_62]; exact invW0 34 j (by decide) (by decide)
theorem iv_63 (xs : Nat → Int32) (j : Nat) : invP 63 j (jI0 xs 63 j) := by rw [jz_63]; exact invW0 35 j (by decide) (by decide)
theorem iv_64 (xs : Nat → Int32) (j : Nat) : invP 64 j (jI0 xs 64 j) := by rw [jz_64]; exact invW0 36 j (by decide) (by decide)
theorem iv_65 (xs : Nat → Int32) (j : Nat) : invP 65 j (jI0 xs 65 j) := by rw [jz_65]; exact invW0 37 j (by decide) (by decide)
theorem iv_67 (xs : Nat → Int32) (j : Nat) : invP 67 j (jI0 xs 67 j) := by rw [jz_67]; exact invW0 39 j (by decide) (by decide)
theorem iv_68 (xs : Nat → Int32) (j : Nat) : invP 68 j (jI0 xs 68 j) := by rw [jz_68]; exact invW0 40 j (by decide) (by decide)
theorem iv_69 (xs : Nat → Int32) (j : Nat) : invP 69 j (jI0 xs 69 j) := by rw [jz_69]; exact invW0 41 j (by decide) (by decide)
theorem iv_70 (xs : Nat → Int32) (j : Nat) : invP 70 j (jI0 xs 70 j) := by rw [jz_70]; exact invW0 42 j (by decide) (by decide)
theorem init_inv (xs : Nat → Int32) : Inv (jI0 xs) := fun a j h => match a, h with
  | 0, _ => iv_0 xs j
  | 1, _ => iv_1 xs j
  | 2, _ => iv_2 xs j
  | 3, _ => iv_3 xs j
  | 4, _ => iv_4 xs j
  | 5, _ => iv_5 xs j
  | 6, _ => iv_6 xs j
  | 7, _ => iv_7 xs j
  | 8, _ => iv_8 xs j
  | 9, _ => iv_9 xs j
  | 10, _ => iv_10 xs j
  | 11, _ => iv_11 xs j
  | 12, _ => iv_12 xs j
  | 13, _ => iv_13 xs j
  | 14, _ => iv_14 xs j
  | 15, _ => iv_15 xs j
  | 16, _ => iv_16 xs j
  | 17, _ => iv_17 xs j
  | 18, _ => iv_18 xs j
  | 19, _ => iv_19 xs j
  | 20, _ => iv_20 xs j
  | 21, _ => iv_21 xs j
  | 22, _ => iv_22 xs j
  | 23, _ => iv_23 xs j
  | 24, _ => iv_24 xs j
  | 25, _ => iv_25 xs j
  | 26, _ => iv_26 xs j
  | 27, _ => iv_27 xs j
  | 28, _ => iv_28 xs j
  | 29, _ => iv_29 xs j
  | 30, _ => iv_30 xs j
  | 31, _ => iv_31 xs j
  | 32, _ => iv_32 xs j
  | 33, _ => iv_33 xs j
  | 34, _ => iv_34 xs j
  | 35, _ => iv_35 xs j
  | 36, _ => iv_36 xs j
  | 37, _ => iv_37 xs j
  | 38, _ => iv_38 xs j
  | 39, _ => iv_39 xs j
  | 40, _ => iv_40 xs j
  | 41, _ => iv_41 xs j
  | 42, _ => iv_42 xs j
  | 43, _ => iv_43 xs j
  | 44, _ => iv_44 xs j
  | 45, _ => iv_45 xs j
  | 46, _ => iv_46 xs j
  | 47, _ => iv_47 xs j
  | 48, _ => iv_48 xs j
  | 49, _ => iv_49 xs j
  | 50, _ => iv_50 xs j
  | 51, _ => iv_51 xs j
  | 52, _ => iv_52 xs j
  | 53, _ => iv_53 xs j
  | 54, _ => iv_54 xs j
  | 55, _ => iv_55 xs j
  | 56, _ => iv_56 xs j
  | 57, _ => iv_57 xs j
  | 58, _ => iv_58 xs j
  | 59, _ => iv_59 xs j
  | 60, _ => iv_60 xs j
  | 61, _ => iv_61 xs j
  | 62, _ => iv_62 xs j
  | 63, _ => iv_63 xs j
  | 64, _ => iv_64 xs j
  | 65, _ => iv_65 xs j
  | 66, _ => iv_66 xs j
  | 67, _ => iv_67 xs j
  | 68, _ => iv_68 xs j
  | 69, _ => iv_69 xs j
  | 70, _ => iv_70 xs j
  | n + 71, h => absurd h (by omega)
theorem init_zT (xs : Nat → Int32) : zT (jI0 xs) = 0 := by unfold zT; rw [jz_35]; decide
theorem init_zN (xs : Nat → Int32) : zN (jI0 xs) = 0 := by unfold zN; rw [jz_26]; decide
theorem init_modW (xs : Nat → Int32) : ∀ a j, modW (jI0 xs) a j (jI0 xs a j) := by
  intro a j
  unfold modW
  split
  · exact ⟨fun _ => (jz_111 xs _).trans (jz_26 xs 8).symm, fun _ => (jz_111 xs _).trans (jz_35 xs 2).symm⟩
  · exact fun _ => (jz_113 xs _).trans (jz_14 xs _).symm
  · exact fun _ => (jz_114 xs _).trans (jz_15 xs _).symm
  · exact fun _ => (jz_115 xs _).trans (jz_16 xs _).symm
  · exact fun _ => (jz_116 xs _).trans (jz_17 xs _).symm
  · exact fun _ => (jz_117 xs _).trans (jz_18 xs _).symm
  · intro h
    match j, h with
    | 0, _ => exact (jv_118_0 xs).trans (jv_11_0 xs).symm
    | 1, _ => exact (jv_118_1 xs).trans (jv_11_1 xs).symm
    | 2, _ => exact (jv_118_2 xs).trans (jv_11_2 xs).symm
    | 3, _ => exact (jv_118_3 xs).trans (jv_11_3 xs).symm
    | 4, _ => exact (jv_118_4 xs).trans (jv_11_4 xs).symm
  · exact fun _ => (jz_119 xs _).trans (jz_13 xs _).symm
  · exact fun _ => (jz_121 xs _).trans (jz_22 xs _).symm
  · exact fun _ => (jz_122 xs _).trans (jz_23 xs _).symm
  · exact fun _ => (jz_123 xs _).trans (jz_24 xs _).symm
  · exact fun _ => (jz_124 xs _).trans (jz_25 xs _).symm
  · exact fun _ => (jz_125 xs _).trans (jz_27 xs _).symm
  · exact fun _ => (jz_126 xs _).trans (jz_28 xs _).symm
  · exact fun _ => (jz_127 xs _).trans (jz_29 xs _).symm
  · exact fun _ => (jz_128 xs _).trans (jz_30 xs _).symm
  · exact fun _ => (jz_129 xs _).trans (jz_31 xs _).symm
  · exact fun _ => (jz_130 xs _).trans (jz_32 xs _).symm
  · exact fun _ => (jz_131 xs _).trans (jz_33 xs _).symm
  · exact fun t i e h => absurd h (by rw [init_zT]; omega)
  · exact fun h => absurd h (by rw [init_zT]; omega)
  · exact fun _ => (jz_136 xs _).trans (jz_19 xs _).symm
  · intro h
    match j, h with
    | 0, _ => exact (jv_137_0 xs).trans (jv_20_0 xs).symm
    | 1, _ => exact (jv_137_1 xs).trans (jv_20_1 xs).symm
    | 2, _ => exact (jv_137_2 xs).trans (jv_20_2 xs).symm
    | 3, _ => exact (jv_137_3 xs).trans (jv_20_3 xs).symm
  · exact fun h s e h1 h2 => absurd h2 (by rw [init_zN]; omega)
  · exact trivial
theorem init_modX (xs : Nat → Int32) : ∀ a j, modX (jI0 xs) a j (jI0 xs a j) := by
  intro a j
  unfold modX
  split
  · exact ⟨fun _ => (jz_111 xs _).trans (jz_9 xs 5).symm, fun _ => (jz_111 xs _).trans (jz_66 xs 1).symm, fun _ => (jz_111 xs _).trans (jz_9 xs 2).symm⟩
  · exact fun c _ _ => (jz_112 xs _).trans (jz_70 xs _).symm
  · intro h
    match j, h with
    | 0, _ => exact jv_120_0 xs
    | 1, _ => exact jv_120_1 xs
    | 2, _ => exact jv_120_2 xs
    | 3, _ => exact jv_120_3 xs
    | 4, _ => exact jv_120_4 xs
    | 5, _ => exact jv_120_5 xs
    | 6, _ => exact jv_120_6 xs
    | 7, _ => exact jv_120_7 xs
  · exact fun _ => (jz_132 xs _).trans (jz_69 xs _).symm
  · exact fun _ => (jz_133 xs _).trans (jz_67 xs _).symm
  · exact trivial
theorem init_mod (xs : Nat → Int32) : Mod (jI0 xs) (jI0 xs) := ⟨init_modW xs, init_modX xs, fun h => by rw [jz_9] at h; exact absurd h (by decide)⟩
