theorem jT0_le_uA {T : jm_T} {z : Nat} {t : Nat × Nat} (h : ∀ a, (T a).2 ≤ 3584) (ht : t.2 ≤ 3584) : ∀ a, (jm_uA T z t a).2 ≤ 3584 := by
  intro a
  unfold jm_uA
  split
  · exact ht
  · exact h a
theorem jT00_le (n : Nat) : ∀ a, (jT00 n a).2 ≤ 3584 := by
  intro a
  show (([5, 5, 8, 4, 4, 4, 8, 4] : List Nat).getD a (min n 3584)) ≤ 3584
  match a with
  | 0 => exact Nat.le_of_ble_eq_true rfl
  | 1 => exact Nat.le_of_ble_eq_true rfl
  | 2 => exact Nat.le_of_ble_eq_true rfl
  | 3 => exact Nat.le_of_ble_eq_true rfl
  | 4 => exact Nat.le_of_ble_eq_true rfl
  | 5 => exact Nat.le_of_ble_eq_true rfl
  | 6 => exact Nat.le_of_ble_eq_true rfl
  | 7 => exact Nat.le_of_ble_eq_true rfl
  | a + 8 => exact Nat.min_le_right n 3584
theorem jT0c0_le (n : Nat) : ∀ a, (jT0c0 n a).2 ≤ 3584 := jT0_le_uA (jT0_le_uA (jT0_le_uA (jT0_le_uA (jT0_le_uA (jT0_le_uA (jT0_le_uA (jT0_le_uA (jT0_le_uA (jT0_le_uA (jT0_le_uA (jT0_le_uA (jT0_le_uA (jT0_le_uA (jT0_le_uA (jT0_le_uA (jT00_le n) (Nat.le_of_ble_eq_true rfl)) (Nat.le_of_ble_eq_true rfl)) (Nat.le_of_ble_eq_true rfl)) (Nat.le_of_ble_eq_true rfl)) (Nat.le_of_ble_eq_true rfl)) (Nat.le_of_ble_eq_true rfl)) (Nat.le_of_ble_eq_true rfl)) (Nat.le_of_ble_eq_true rfl)) (Nat.le_of_ble_eq_true rfl)) (Nat.le_of_ble_eq_true rfl)) (Nat.le_of_ble_eq_true rfl)) (Nat.le_of_ble_eq_true rfl)) (Nat.le_of_ble_eq_true rfl)) (Nat.le_of_ble_eq_true rfl)) (Nat.le_of_ble_eq_true rfl)) (Nat.le_of_ble_eq_true rfl)
theorem jT0c1_le (n : Nat) : ∀ a, (jT0c1 n a).2 ≤ 3584 := jT0_le_uA (jT0_le_uA (jT0_le_uA (jT0_le_uA (jT0_le_uA (jT0_le_uA (jT0_le_uA (jT0_le_uA (jT0_le_uA (jT0_le_uA (jT0_le_uA (jT0_le_uA (jT0_le_uA (jT0_le_uA (jT0_le_uA (jT0_le_uA (jT0c0_le n) (Nat.le_of_ble_eq_true rfl)) (Nat.le_of_ble_eq_true rfl)) (Nat.le_of_ble_eq_true rfl)) (Nat.le_of_ble_eq_true rfl)) (Nat.le_of_ble_eq_true rfl)) (Nat.le_of_ble_eq_true rfl)) (Nat.le_of_ble_eq_true rfl)) (Nat.le_of_ble_eq_true rfl)) (Nat.le_of_ble_eq_true rfl)) (Nat.le_of_ble_eq_true rfl)) (Nat.le_of_ble_eq_true rfl)) (Nat.le_of_ble_eq_true rfl)) (Nat.le_of_ble_eq_true rfl)) (Nat.le_of_ble_eq_true rfl)) (Nat.le_of_ble_eq_true rfl)) (Nat.le_of_ble_eq_true rfl)
theorem jT0c2_le (n : Nat) : ∀ a, (jT0c2 n a).2 ≤ 3584 := jT0_le_uA (jT0_le_uA (jT0_le_uA (jT0_le_uA (jT0_le_uA (jT0_le_uA (jT0_le_uA (jT0_le_uA (jT0_le_uA (jT0_le_uA (jT0_le_uA (jT0_le_uA (jT0_le_uA (jT0_le_uA (jT0_le_uA (jT0_le_uA (jT0c1_le n) (Nat.le_of_ble_eq_true rfl)) (Nat.le_of_ble_eq_true rfl)) (Nat.le_of_ble_eq_true rfl)) (Nat.le_of_ble_eq_true rfl)) (Nat.le_of_ble_eq_true rfl)) (Nat.le_of_ble_eq_true rfl)) (Nat.le_of_ble_eq_true rfl)) (Nat.le_of_ble_eq_true rfl)) (Nat.le_of_ble_eq_true rfl)) (Nat.le_of_ble_eq_true rfl)) (Nat.le_of_ble_eq_true rfl)) (Nat.le_of_ble_eq_true rfl)) (Nat.le_of_ble_eq_true rfl)) (Nat.le_of_ble_eq_true rfl)) (Nat.le_of_ble_eq_true rfl)) (Nat.le_of_ble_eq_true rfl)
theorem jT0c3_le (n : Nat) : ∀ a, (jT0c3 n a).2 ≤ 3584 := jT0_le_uA (jT0_le_uA (jT0_le_uA (jT0_le_uA (jT0_le_uA (jT0_le_uA (jT0_le_uA (jT0_le_uA (jT0_le_uA (jT0_le_uA (jT0_le_uA (jT0_le_uA (jT0_le_uA (jT0_le_uA (jT0_le_uA (jT0_le_uA (jT0c2_le n) (Nat.le_of_ble_eq_true rfl)) (Nat.le_of_ble_eq_true rfl)) (Nat.le_of_ble_eq_true rfl)) (Nat.le_of_ble_eq_true rfl)) (Nat.le_of_ble_eq_true rfl)) (Nat.le_of_ble_eq_true rfl)) (Nat.le_of_ble_eq_true rfl)) (Nat.le_of_ble_eq_true rfl)) (Nat.le_of_ble_eq_true rfl)) (Nat.le_of_ble_eq_true rfl)) (Nat.le_of_ble_eq_true rfl)) (Nat.le_of_ble_eq_true rfl)) (Nat.le_of_ble_eq_true rfl)) (Nat.le_of_ble_eq_true rfl)) (Nat.le_of_ble_eq_true rfl)) (Nat.le_of_ble_eq_true rfl)
theorem jT0c4_le (n : Nat) : ∀ a, (jT0c4 n a).2 ≤ 3584 := jT0_le_uA (jT0_le_uA (jT0_le_uA (jT0_le_uA (jT0_le_uA (jT0_le_uA (jT0_le_uA (jT0_le_uA (jT0_le_uA (jT0_le_uA (jT0_le_uA (jT0_le_uA (jT0_le_uA (jT0_le_uA (jT0_le_uA (jT0_le_uA (jT0c3_le n) (Nat.le_of_ble_eq_true rfl)) (Nat.le_of_ble_eq_true rfl)) (Nat.le_of_ble_eq_true rfl)) (Nat.le_of_ble_eq_true rfl)) (Nat.le_of_ble_eq_true rfl)) (Nat.le_of_ble_eq_true rfl)) (Nat.le_of_ble_eq_true rfl)) (Nat.le_of_ble_eq_true rfl)) (Nat.le_of_ble_eq_true rfl)) (Nat.le_of_ble_eq_true rfl)) (Nat.le_of_ble_eq_true rfl)) (Nat.le_of_ble_eq_true rfl)) (Nat.le_of_ble_eq_true rfl)) (Nat.le_of_ble_eq_true rfl)) (Nat.le_of_ble_eq_true rfl)) (Nat.le_of_ble_eq_true rfl)
theorem jT0c5_le (n : Nat) : ∀ a, (jT0c5 n a).2 ≤ 3584 := jT0_le_uA (jT0_le_uA (jT0_le_uA (jT0_le_uA (jT0_le_uA (jT0_le_uA (jT0_le_uA (jT0_le_uA (jT0_le_uA (jT0_le_uA (jT0_le_uA (jT0_le_uA (jT0_le_uA (jT0_le_uA (jT0_le_uA (jT0_le_uA (jT0c4_le n) (Nat.le_of_ble_eq_true rfl)) (Nat.le_of_ble_eq_true rfl)) (Nat.le_of_ble_eq_true rfl)) (Nat.le_of_ble_eq_true rfl)) (Nat.le_of_ble_eq_true rfl)) (Nat.le_of_ble_eq_true rfl)) (Nat.le_of_ble_eq_true rfl)) (Nat.le_of_ble_eq_true rfl)) (Nat.le_of_ble_eq_true rfl)) (Nat.le_of_ble_eq_true rfl)) (Nat.le_of_ble_eq_true rfl)) (Nat.le_of_ble_eq_true rfl)) (Nat.le_of_ble_eq_true rfl)) (Nat.le_of_ble_eq_true rfl)) (Nat.le_of_ble_eq_true rfl)) (Nat.le_of_ble_eq_true rfl)
theorem jT0c6_le (n : Nat) : ∀ a, (jT0c6 n a).2 ≤ 3584 := jT0_le_uA (jT0_le_uA (jT0_le_uA (jT0_le_uA (jT0_le_uA (jT0_le_uA (jT0_le_uA (jT0_le_uA (jT0_le_uA (jT0_le_uA (jT0_le_uA (jT0_le_uA (jT0_le_uA (jT0_le_uA (jT0_le_uA (jT0_le_uA (jT0c5_le n) (Nat.le_of_ble_eq_true rfl)) (Nat.le_of_ble_eq_true rfl)) (Nat.le_of_ble_eq_true rfl)) (Nat.le_of_ble_eq_true rfl)) (Nat.le_of_ble_eq_true rfl)) (Nat.le_of_ble_eq_true rfl)) (Nat.le_of_ble_eq_true rfl)) (Nat.le_of_ble_eq_true rfl)) (Nat.le_of_ble_eq_true rfl)) (Nat.le_of_ble_eq_true rfl)) (Nat.le_of_ble_eq_true rfl)) (Nat.le_of_ble_eq_true rfl)) (Nat.le_of_ble_eq_true rfl)) (Nat.le_of_ble_eq_true rfl)) (Nat.le_of_ble_eq_true rfl)) (Nat.le_of_ble_eq_true rfl)
theorem jT0c7_le (n : Nat) : ∀ a, (jT0c7 n a).2 ≤ 3584 := jT0_le_uA (jT0_le_uA (jT0_le_uA (jT0_le_uA (jT0_le_uA (jT0_le_uA (jT0_le_uA (jT0_le_uA (jT0_le_uA (jT0_le_uA (jT0_le_uA (jT0_le_uA (jT0_le_uA (jT0_le_uA (jT0_le_uA (jT0_le_uA (jT0c6_le n) (Nat.le_of_ble_eq_true rfl)) (Nat.le_of_ble_eq_true rfl)) (Nat.le_of_ble_eq_true rfl)) (Nat.le_of_ble_eq_true rfl)) (Nat.le_of_ble_eq_true rfl)) (Nat.le_of_ble_eq_true rfl)) (Nat.le_of_ble_eq_true rfl)) (Nat.le_of_ble_eq_true rfl)) (Nat.le_of_ble_eq_true rfl)) (Nat.le_of_ble_eq_true rfl)) (Nat.le_of_ble_eq_true rfl)) (Nat.le_of_ble_eq_true rfl)) (Nat.le_of_ble_eq_true rfl)) (Nat.le_of_ble_eq_true rfl)) (Nat.le_of_ble_eq_true rfl)) (Nat.le_of_ble_eq_true rfl)
theorem jT0c8_le (n : Nat) : ∀ a, (jT0c8 n a).2 ≤ 3584 := jT0_le_uA (jT0_le_uA (jT0_le_uA (jT0_le_uA (jT0_le_uA (jT0_le_uA (jT0_le_uA (jT0_le_uA (jT0c7_le n) (Nat.le_of_ble_eq_true rfl)) (Nat.le_of_ble_eq_true rfl)) (Nat.le_of_ble_eq_true rfl)) (Nat.le_of_ble_eq_true rfl)) (Nat.le_of_ble_eq_true rfl)) (Nat.le_of_ble_eq_true rfl)) (Nat.le_of_ble_eq_true rfl)) (Nat.le_of_ble_eq_true rfl)
theorem jT0_le (n : Nat) : ∀ a, (jT0 n a).2 ≤ 3584 := jT0c8_le n
theorem jLI_lt (n a : Nat) : jLI n a < 2 ^ 31 := by
  have := jT0_le n a
  unfold jLI
  split <;> omega
theorem jLW_lt (n a : Nat) : jLW n a < 2 ^ 31 := by
  have := jT0_le n a
  unfold jLW
  split <;> omega
theorem jLL_lt (n a : Nat) : jLL n a < 2 ^ 31 := by
  have := jT0_le n a
  unfold jLL
  split <;> omega
theorem jLZ_lt (n a : Nat) : jLZ n a < 2 ^ 31 := by
  have := jT0_le n a
  unfold jLZ
  split <;> omega
theorem jLA_lt (n a : Nat) : jLA n a < 2 ^ 31 := by
  have := jT0_le n a
  unfold jLA
  split <;> omega
theorem jq_alenA {n : Nat} {r : jm_Row} {pc pc' : Nat} {lv st : List Value} {I : jm_I} {L : jm_L} {cc : ByteArray} {a : Nat} (hc : jr_cd r = cc) (hd : decode cc pc = .ok (.arraylength, 1)) (hp : pc + 1 = pc') (h : 0 < jLA n a) : jE n r pc lv (.ref a :: st) I L = jE n r pc' lv (.int (nI (jLA n a)) :: st) I L := by
  have hc2 : a < 145 ∧ (jT0 n a).1 ≤ 3 := by
    unfold jLA at h
    split at h
    · assumption
    · omega
  refine jq_alen hc hd hp hc2 ?_
  unfold jLA
  rw [if_pos hc2]
def jisR : FieldType → Bool
  | .object _ => true
  | .array _ => true
  | _ => false
theorem jP0_v {n : Nat} {I : jm_I} {L : jm_L} {a c k b : Nat} (h : jP0 a k = some b) (ht : jisR (jm_ft c k) = true) : jm_gv (jS n I L) a c k = some (.ref b) := by
  unfold jm_gv
  have h1 : (jS n I L).2.2.1 a k = some b := h
  generalize jm_ft c k = t at ht
  cases t <;> simp [jisR] at ht <;> simp [h1]
set_option maxRecDepth 100000 in
theorem jP0_9_0 : jP0 9 0 = some 10 := rfl
set_option maxRecDepth 100000 in
theorem jP0_9_1 : jP0 9 1 = some 38 := rfl
set_option maxRecDepth 100000 in
theorem jP0_9_3 : jP0 9 3 = some 66 := rfl
set_option maxRecDepth 100000 in
theorem jP0_9_4 : jP0 9 4 = some 69 := rfl
set_option maxRecDepth 100000 in
theorem jP0_9_6 : jP0 9 6 = some 70 := rfl
set_option maxRecDepth 100000 in
theorem jP0_9_7 : jP0 9 7 = some 71 := rfl
set_option maxRecDepth 100000 in
theorem jP0_9_8 : jP0 9 8 = some 107 := rfl
set_option maxRecDepth 100000 in
theorem jP0_10_0 : jP0 10 0 = some 11 := rfl
set_option maxRecDepth 100000 in
theorem jP0_10_1 : jP0 10 1 = some 12 := rfl
set_option maxRecDepth 100000 in
theorem jP0_10_2 : jP0 10 2 = some 21 := rfl
set_option maxRecDepth 100000 in
theorem jP0_10_3 : jP0 10 3 = some 26 := rfl
set_option maxRecDepth 100000 in
theorem jP0_10_4 : jP0 10 4 = some 35 := rfl
set_option maxRecDepth 100000 in
theorem jP0_12_0 : jP0 12 0 = some 13 := rfl
set_option maxRecDepth 100000 in
theorem jP0_12_1 : jP0 12 1 = some 14 := rfl
set_option maxRecDepth 100000 in
theorem jP0_12_2 : jP0 12 2 = some 15 := rfl
set_option maxRecDepth 100000 in
theorem jP0_12_3 : jP0 12 3 = some 16 := rfl
set_option maxRecDepth 100000 in
theorem jP0_12_4 : jP0 12 4 = some 17 := rfl
set_option maxRecDepth 100000 in
theorem jP0_12_5 : jP0 12 5 = some 18 := rfl
set_option maxRecDepth 100000 in
theorem jP0_12_6 : jP0 12 6 = some 19 := rfl
set_option maxRecDepth 100000 in
theorem jP0_12_7 : jP0 12 7 = some 20 := rfl
set_option maxRecDepth 100000 in
theorem jP0_21_0 : jP0 21 0 = some 22 := rfl
set_option maxRecDepth 100000 in
theorem jP0_21_1 : jP0 21 1 = some 23 := rfl
set_option maxRecDepth 100000 in
theorem jP0_21_2 : jP0 21 2 = some 24 := rfl
set_option maxRecDepth 100000 in
theorem jP0_21_3 : jP0 21 3 = some 25 := rfl
set_option maxRecDepth 100000 in
theorem jP0_26_0 : jP0 26 0 = some 27 := rfl
set_option maxRecDepth 100000 in
theorem jP0_26_1 : jP0 26 1 = some 28 := rfl
set_option maxRecDepth 100000 in
theorem jP0_26_2 : jP0 26 2 = some 29 := rfl
set_option maxRecDepth 100000 in
theorem jP0_26_3 : jP0 26 3 = some 30 := rfl
set_option maxRecDepth 100000 in
theorem jP0_26_4 : jP0 26 4 = some 31 := rfl
set_option maxRecDepth 100000 in
theorem jP0_26_5 : jP0 26 5 = some 32 := rfl
set_option maxRecDepth 100000 in
theorem jP0_26_6 : jP0 26 6 = some 33 := rfl
set_option maxRecDepth 100000 in
theorem jP0_26_7 : jP0 26 7 = some 34 := rfl
set_option maxRecDepth 100000 in
theorem jP0_35_0 : jP0 35 0 = some 36 := rfl
set_option maxRecDepth 100000 in
theorem jP0_35_1 : jP0 35 1 = some 37 := rfl
set_option maxRecDepth 100000 in
theorem jP0_38_0 : jP0 38 0 = some 39 := rfl
set_option maxRecDepth 100000 in
theorem jP0_38_1 : jP0 38 1 = some 40 := rfl
set_option maxRecDepth 100000 in
theorem jP0_38_2 : jP0 38 2 = some 49 := rfl
set_option maxRecDepth 100000 in
theorem jP0_38_3 : jP0 38 3 = some 54 := rfl
set_option maxRecDepth 100000 in
theorem jP0_38_4 : jP0 38 4 = some 63 := rfl
set_option maxRecDepth 100000 in
theorem jP0_40_0 : jP0 40 0 = some 41 := rfl
set_option maxRecDepth 100000 in
theorem jP0_40_1 : jP0 40 1 = some 42 := rfl
set_option maxRecDepth 100000 in
theorem jP0_40_2 : jP0 40 2 = some 43 := rfl
set_option maxRecDepth 100000 in
theorem jP0_40_3 : jP0 40 3 = some 44 := rfl
set_option maxRecDepth 100000 in
theorem jP0_40_4 : jP0 40 4 = some 45 := rfl
set_option maxRecDepth 100000 in
theorem jP0_40_5 : jP0 40 5 = some 46 := rfl
set_option maxRecDepth 100000 in
theorem jP0_40_6 : jP0 40 6 = some 47 := rfl
set_option maxRecDepth 100000 in
theorem jP0_40_7 : jP0 40 7 = some 48 := rfl
set_option maxRecDepth 100000 in
theorem jP0_49_0 : jP0 49 0 = some 50 := rfl
set_option maxRecDepth 100000 in
theorem jP0_49_1 : jP0 49 1 = some 51 := rfl
set_option maxRecDepth 100000 in
theorem jP0_49_2 : jP0 49 2 = some 52 := rfl
set_option maxRecDepth 100000 in
theorem jP0_49_3 : jP0 49 3 = some 53 := rfl
set_option maxRecDepth 100000 in
theorem jP0_54_0 : jP0 54 0 = some 55 := rfl
set_option maxRecDepth 100000 in
theorem jP0_54_1 : jP0 54 1 = some 56 := rfl
set_option maxRecDepth 100000 in
theorem jP0_54_2 : jP0 54 2 = some 57 := rfl
set_option maxRecDepth 100000 in
theorem jP0_54_3 : jP0 54 3 = some 58 := rfl
set_option maxRecDepth 100000 in
theorem jP0_54_4 : jP0 54 4 = some 59 := rfl
set_option maxRecDepth 100000 in
theorem jP0_54_5 : jP0 54 5 = some 60 := rfl
set_option maxRecDepth 100000 in
theorem jP0_54_6 : jP0 54 6 = some 61 := rfl
set_option maxRecDepth 100000 in
theorem jP0_54_7 : jP0 54 7 = some 62 := rfl
set_option maxRecDepth 100000 in
theorem jP0_63_0 : jP0 63 0 = some 64 := rfl
set_option maxRecDepth 100000 in
theorem jP0_63_1 : jP0 63 1 = some 65 := rfl
set_option maxRecDepth 100000 in
theorem jP0_66_0 : jP0 66 0 = some 67 := rfl
set_option maxRecDepth 100000 in
theorem jP0_66_2 : jP0 66 2 = some 68 := rfl
set_option maxRecDepth 100000 in
theorem jP0_71_0 : jP0 71 0 = some 10 := rfl
set_option maxRecDepth 100000 in
theorem jP0_71_1 : jP0 71 1 = some 72 := rfl
set_option maxRecDepth 100000 in
theorem jP0_71_2 : jP0 71 2 = some 73 := rfl
set_option maxRecDepth 100000 in
theorem jP0_75_0 : jP0 75 0 = some 10 := rfl
set_option maxRecDepth 100000 in
theorem jP0_75_1 : jP0 75 1 = some 74 := rfl
set_option maxRecDepth 100000 in
theorem jP0_75_2 : jP0 75 2 = some 76 := rfl
set_option maxRecDepth 100000 in
theorem jP0_75_3 : jP0 75 3 = some 77 := rfl
set_option maxRecDepth 100000 in
theorem jP0_75_4 : jP0 75 4 = some 78 := rfl
set_option maxRecDepth 100000 in
theorem jP0_79_0 : jP0 79 0 = some 10 := rfl
set_option maxRecDepth 100000 in
theorem jP0_79_1 : jP0 79 1 = some 74 := rfl
set_option maxRecDepth 100000 in
theorem jP0_79_2 : jP0 79 2 = some 80 := rfl
set_option maxRecDepth 100000 in
theorem jP0_79_3 : jP0 79 3 = some 81 := rfl
set_option maxRecDepth 100000 in
theorem jP0_79_4 : jP0 79 4 = some 82 := rfl
set_option maxRecDepth 100000 in
theorem jP0_83_0 : jP0 83 0 = some 10 := rfl
set_option maxRecDepth 100000 in
theorem jP0_83_1 : jP0 83 1 = some 74 := rfl
set_option maxRecDepth 100000 in
theorem jP0_83_2 : jP0 83 2 = some 84 := rfl
set_option maxRecDepth 100000 in
theorem jP0_83_3 : jP0 83 3 = some 85 := rfl
set_option maxRecDepth 100000 in
theorem jP0_83_4 : jP0 83 4 = some 86 := rfl
set_option maxRecDepth 100000 in
theorem jP0_87_0 : jP0 87 0 = some 10 := rfl
set_option maxRecDepth 100000 in
theorem jP0_87_1 : jP0 87 1 = some 74 := rfl
set_option maxRecDepth 100000 in
theorem jP0_87_2 : jP0 87 2 = some 88 := rfl
set_option maxRecDepth 100000 in
theorem jP0_87_3 : jP0 87 3 = some 89 := rfl
set_option maxRecDepth 100000 in
theorem jP0_87_4 : jP0 87 4 = some 90 := rfl
set_option maxRecDepth 100000 in
theorem jP0_91_0 : jP0 91 0 = some 10 := rfl
set_option maxRecDepth 100000 in
theorem jP0_91_1 : jP0 91 1 = some 74 := rfl
set_option maxRecDepth 100000 in
theorem jP0_91_2 : jP0 91 2 = some 92 := rfl
set_option maxRecDepth 100000 in
theorem jP0_91_3 : jP0 91 3 = some 93 := rfl
set_option maxRecDepth 100000 in
theorem jP0_91_4 : jP0 91 4 = some 94 := rfl
set_option maxRecDepth 100000 in
theorem jP0_95_0 : jP0 95 0 = some 10 := rfl
set_option maxRecDepth 100000 in
theorem jP0_95_1 : jP0 95 1 = some 74 := rfl
set_option maxRecDepth 100000 in
theorem jP0_95_2 : jP0 95 2 = some 96 := rfl
set_option maxRecDepth 100000 in
theorem jP0_95_3 : jP0 95 3 = some 97 := rfl
set_option maxRecDepth 100000 in
theorem jP0_95_4 : jP0 95 4 = some 98 := rfl
set_option maxRecDepth 100000 in
theorem jP0_99_0 : jP0 99 0 = some 10 := rfl
set_option maxRecDepth 100000 in
theorem jP0_99_1 : jP0 99 1 = some 74 := rfl
set_option maxRecDepth 100000 in
theorem jP0_99_2 : jP0 99 2 = some 100 := rfl
set_option maxRecDepth 100000 in
theorem jP0_99_3 : jP0 99 3 = some 101 := rfl
set_option maxRecDepth 100000 in
theorem jP0_99_4 : jP0 99 4 = some 102 := rfl
set_option maxRecDepth 100000 in
theorem jP0_103_0 : jP0 103 0 = some 10 := rfl
set_option maxRecDepth 100000 in
theorem jP0_103_1 : jP0 103 1 = some 74 := rfl
set_option maxRecDepth 100000 in
theorem jP0_103_2 : jP0 103 2 = some 104 := rfl
set_option maxRecDepth 100000 in
theorem jP0_103_3 : jP0 103 3 = some 105 := rfl
set_option maxRecDepth 100000 in
theorem jP0_103_4 : jP0 103 4 = some 106 := rfl
set_option maxRecDepth 100000 in
theorem jP0_107_0 : jP0 107 0 = some 10 := rfl
set_option maxRecDepth 100000 in
theorem jP0_107_1 : jP0 107 1 = some 108 := rfl
set_option maxRecDepth 100000 in
theorem jP0_107_2 : jP0 107 2 = some 109 := rfl
set_option maxRecDepth 100000 in
theorem jP0_107_3 : jP0 107 3 = some 110 := rfl
set_option maxRecDepth 100000 in
theorem jP0_111_0 : jP0 111 0 = some 112 := rfl
set_option maxRecDepth 100000 in
theorem jP0_111_1 : jP0 111 1 = some 113 := rfl
set_option maxRecDepth 100000 in
theorem jP0_111_2 : jP0 111 2 = some 114 := rfl
set_option maxRecDepth 100000 in
theorem jP0_111_3 : jP0 111 3 = some 115 := rfl
set_option maxRecDepth 100000 in
theorem jP0_111_4 : jP0 111 4 = some 116 := rfl
set_option maxRecDepth 100000 in
theorem jP0_111_5 : jP0 111 5 = some 117 := rfl
set_option maxRecDepth 100000 in
theorem jP0_111_6 : jP0 111 6 = some 118 := rfl
set_option maxRecDepth 100000 in
theorem jP0_111_7 : jP0 111 7 = some 119 := rfl
set_option maxRecDepth 100000 in
theorem jP0_111_8 : jP0 111 8 = some 120 := rfl
set_option maxRecDepth 100000 in
theorem jP0_111_9 : jP0 111 9 = some 121 := rfl
set_option maxRecDepth 100000 in
theorem jP0_111_10 : jP0 111 10 = some 122 := rfl
set_option maxRecDepth 100000 in
theorem jP0_111_11 : jP0 111 11 = some 123 := rfl
set_option maxRecDepth 100000 in
theorem jP0_111_12 : jP0 111 12 = some 124 := rfl
set_option maxRecDepth 100000 in
theorem jP0_111_13 : jP0 111 13 = some 125 := rfl
set_option maxRecDepth 100000 in
theorem jP0_111_14 : jP0 111 14 = some 126 := rfl
set_option maxRecDepth 100000 in
theorem jP0_111_15 : jP0 111 15 = some 127 := rfl
set_option maxRecDepth 100000 in
theorem jP0_111_16 : jP0 111 16 = some 128 := rfl
set_option maxRecDepth 100000 in
theorem jP0_111_17 : jP0 111 17 = some 129 := rfl
set_option maxRecDepth 100000 in
theorem jP0_111_18 : jP0 111 18 = some 130 := rfl
set_option maxRecDepth 100000 in
theorem jP0_111_19 : jP0 111 19 = some 131 := rfl
set_option maxRecDepth 100000 in
theorem jP0_111_21 : jP0 111 21 = some 132 := rfl
set_option maxRecDepth 100000 in
theorem jP0_111_23 : jP0 111 23 = some 133 := rfl
set_option maxRecDepth 100000 in
theorem jP0_111_24 : jP0 111 24 = some 134 := rfl
set_option maxRecDepth 100000 in
theorem jP0_111_25 : jP0 111 25 = some 135 := rfl
set_option maxRecDepth 100000 in
theorem jP0_111_26 : jP0 111 26 = some 136 := rfl
set_option maxRecDepth 100000 in
theorem jP0_111_27 : jP0 111 27 = some 137 := rfl
set_option maxRecDepth 100000 in
theorem jP0_111_31 : jP0 111 31 = some 138 := rfl
set_option maxRecDepth 100000 in
theorem jP0_111_32 : jP0 111 32 = some 139 := rfl
set_option maxRecDepth 100000 in
theorem jP0_111_33 : jP0 111 33 = some 140 := rfl
set_option maxRecDepth 100000 in
theorem jP0_111_34 : jP0 111 34 = some 141 := rfl
set_option maxRecDepth 100000 in
theorem jP0_111_38 : jP0 111 38 = some 142 := rfl
set_option maxRecDepth 100000 in
theorem jP0_111_39 : jP0 111 39 = some 143 := rfl
set_option maxRecDepth 100000 in
theorem jP0_111_40 : jP0 111 40 = some 144 := rfl
