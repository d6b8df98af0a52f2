/-! bits -/
def tb (x : Int64) (s : Nat) : Bool := x.toBitVec.getLsbD s
theorem sh_s : ∀ k : Fin 64, (((nI k.val).toInt64 &&& 63).toBitVec.smod 64).toNat = k.val := by decide
theorem sh_u : ∀ k : Fin 64, (((nI k.val).toInt64.toUInt64 &&& Int64.toUInt64 63).toBitVec % 64).toNat = k.val := by decide
theorem shr_b (x : Int64) {k : Nat} (hk : k < 64) : (x >>> ((nI k).toInt64 &&& 63)).toBitVec = x.toBitVec.sshiftRight k := by
  rw [Int64.toBitVec_shiftRight, BitVec.sshiftRight_eq', sh_s ⟨k, hk⟩]
theorem shl_b (x : Int64) {k : Nat} (hk : k < 64) : (x <<< ((nI k).toInt64 &&& 63)).toBitVec = x.toBitVec <<< k := by
  rw [Int64.toBitVec_shiftLeft, BitVec.shiftLeft_eq', sh_s ⟨k, hk⟩]
theorem ushr_b (x : Int64) {k : Nat} (hk : k < 64) : ((x.toUInt64 >>> ((nI k).toInt64.toUInt64 &&& Int64.toUInt64 63)).toInt64).toBitVec = x.toBitVec >>> k := by
  rw [UInt64.toBitVec_toInt64, UInt64.toBitVec_shiftRight, BitVec.ushiftRight_eq', sh_u ⟨k, hk⟩, Int64.toBitVec_toUInt64]
theorem one_b (b : BitVec 64) : b &&& 1#64 = if b.getLsbD 0 then 1#64 else 0#64 := by
  rw [BitVec.and_one_eq_setWidth_ofBool_getLsbD]
  cases b.getLsbD 0 <;> rfl
theorem bit_s (x : Int64) {k : Nat} (hk : k < 64) : (x >>> ((nI k).toInt64 &&& 63)) &&& lN 1 = if tb x k then lN 1 else lN 0 := by
  rw [← Int64.toBitVec_inj, Int64.toBitVec_and, shr_b x hk, show (lN 1).toBitVec = 1#64 from rfl, one_b, BitVec.getLsbD_sshiftRight]
  have h0 : k + 0 < 64 := hk
  rw [if_pos h0]
  show (if (true && tb x k) = true then _ else _) = _
  rw [Bool.true_and]
  cases tb x k <;> rfl
theorem bit_u (x : Int64) {k : Nat} (hk : k < 64) : ((x.toUInt64 >>> ((nI k).toInt64.toUInt64 &&& Int64.toUInt64 63)).toInt64) &&& lN 1 = if tb x k then lN 1 else lN 0 := by
  rw [← Int64.toBitVec_inj, Int64.toBitVec_and, ushr_b x hk, show (lN 1).toBitVec = 1#64 from rfl, one_b, BitVec.getLsbD_ushiftRight]
  show (if tb x (k + 0) = true then _ else _) = _
  rw [Nat.add_zero]
  cases tb x k <;> rfl
theorem byte_e (x : Int64) {k : Nat} (hk : k < 57) : ((x.toUInt64 >>> ((nI k).toInt64.toUInt64 &&& Int64.toUInt64 63)).toInt64).toInt32 &&& nI 255 = ((x >>> ((nI k).toInt64 &&& 63)) &&& lN 255).toInt32 := by
  rw [← Int32.toBitVec_inj, Int32.toBitVec_and, Int64.toBitVec_toInt32, Int64.toBitVec_toInt32, ushr_b x (by omega), Int64.toBitVec_and, shr_b x (by omega)]
  rw [show (nI 255).toBitVec = 255#32 from rfl, show (lN 255).toBitVec = 255#64 from rfl]
  apply BitVec.eq_of_getLsbD_eq
  intro i hi
  rw [BitVec.getLsbD_and, BitVec.getLsbD_signExtend, BitVec.getLsbD_signExtend, BitVec.getLsbD_and, BitVec.getLsbD_ushiftRight, BitVec.getLsbD_sshiftRight]
  have i64 : i < 64 := by omega
  simp only [hi, i64, decide_true, Bool.true_and, if_true]
  by_cases h8 : i < 8
  · have : k + i < 64 := by omega
    have e1 : (255#32).getLsbD i = (255#64).getLsbD i := by
      rw [BitVec.getLsbD_ofNat, BitVec.getLsbD_ofNat]
      simp [hi, i64]
    rw [e1, if_pos this]
    have : ¬ 64 ≤ i := by omega
    simp [this]
  · have e1 : (255#32).getLsbD i = false := by
      rw [BitVec.getLsbD_ofNat, show (255 : Nat) = 2 ^ 8 - 1 from rfl, Nat.testBit_two_pow_sub_one]
      simp [h8]
    have e2 : (255#64).getLsbD i = false := by
      rw [BitVec.getLsbD_ofNat, show (255 : Nat) = 2 ^ 8 - 1 from rfl, Nat.testBit_two_pow_sub_one]
      simp [h8]
    rw [e1, e2, Bool.and_false, Bool.and_false]
/-! all sights, and sets that are none -/
def zall (N : Nat) : Int64 := (lN 1 <<< ((nI N).toInt64 &&& 63)) - lN 1
theorem zall_41 : ∀ k : Fin 41, zall k.val = lN (2 ^ k.val - 1) := by decide
theorem zall_e {N : Nat} (h : N ≤ 40) : zall N = lN (2 ^ N - 1) := zall_41 ⟨N, by omega⟩
theorem p2_le {N : Nat} (h : N ≤ 40) : 2 ^ N ≤ 2 ^ 40 := Nat.pow_le_pow_right (by decide) h
theorem tb_all {N s : Nat} (h : N ≤ 40) (hs : s < N) : tb (zall N) s = true := by
  rw [zall_e h]
  show (BitVec.ofNat 64 (2 ^ N - 1)).getLsbD s = true
  rw [BitVec.getLsbD_ofNat, Nat.testBit_two_pow_sub_one]
  simp [hs]
  omega
theorem tb_m1 {s : Nat} (hs : s < 40) : tb (-1) s = true := by
  show (BitVec.allOnes 64).getLsbD s = true
  rw [BitVec.getLsbD_allOnes]
  simp
  omega
theorem zall_rg {N : Nat} (h : N ≤ 40) : (zall N).toInt = 2 ^ N - 1 := by
  have := p2_le h
  rw [zall_e h, lN_lZ]
  have h1 : 1 ≤ 2 ^ N := Nat.one_le_two_pow
  have e : ((2 ^ N - 1 : Nat) : Int) = 2 ^ N - 1 := by
    rw [Int.natCast_sub h1]; simp
  rw [e, lZ_i]
  · have : (1 : Int) ≤ 2 ^ N := by exact_mod_cast h1
    omega
  · have : (2 : Int) ^ N ≤ 2 ^ 40 := by exact_mod_cast p2_le h
    omega
def wset (N : Nat) (x : Int64) : Int32 := if x < 0 then -4 else if zall N < x then -6 else 0
theorem isZ_wset (N : Nat) (x : Int64) : isZ (wset N x) := isZ_c isZ_4 (isZ_c isZ_6 isZ_0)
theorem shr_0 {N : Nat} (h : N ≤ 40) {x : Int64} (h0 : ¬ x < 0) : (x >>> ((nI N).toInt64 &&& 63) = lN 0) ↔ ¬ zall N < x := by
  have hx : 0 ≤ x.toInt := by
    rw [Int64.lt_iff_toInt_lt, show (0 : Int64).toInt = 0 from rfl] at h0
    omega
  have e : (x >>> ((nI N).toInt64 &&& 63)).toInt = x.toInt / 2 ^ N := by
    show (x >>> ((nI N).toInt64 &&& 63)).toBitVec.toInt = _
    rw [shr_b x (by omega), BitVec.toInt_sshiftRight, Int.shiftRight_eq_div_pow]
    simp
  rw [← Int64.toInt_inj, e, Int64.lt_iff_toInt_lt, zall_rg h, show (lN 0).toInt = 0 from rfl]
  have hp : (0 : Int) < 2 ^ N := by exact_mod_cast Nat.two_pow_pos N
  constructor
  · intro q
    have := Int.lt_mul_of_ediv_lt hp (show x.toInt / 2 ^ N < 1 by omega)
    omega
  · intro q
    exact Int.ediv_eq_zero_of_lt hx (by omega)
theorem c_allSights (n : Nat) (I : jm_I) (L : jm_L) (hI : Inv I) : jE n rX9_allSights 0 [.ref 9] [] I L = some (some (.long (zall (zN I))), jS n I L) := by
  obtain ⟨e8, hN⟩ := Inv_N hI
  simp only [eX9_allSights_0, e8, zall]
theorem m_allSights (n : Nat) (J A : jm_I) (L : jm_L) (hA : Inv A) (hM : Mod J A) : jE n rX10_allSights 0 [.ref 111] [] J L = some (some (.long (zall (zN A))), jS n J L) := by
  obtain ⟨e8, hN⟩ := Inv_N hA
  have e20 : J 111 20 = nI (zN A) := by rw [← e8]; exact (hM.1 111 20).1 rfl
  simp only [eX10_allSights_0, e20, zall]
theorem c_wrongSet (n : Nat) (I : jm_I) (L : jm_L) (hI : Inv I) (x : Int64) : jE n rX9_wrongSet 0 [.ref 9, .long x, .null] [] I L = some (some (.int (wset (zN I) x)), jS n I L) := by
  unfold wset
  have l0 : lN 0 = 0 := rfl
  by_cases h : x < 0
  · have h2 : ¬ 0 ≤ x := Int64.not_le.mpr h
    simp only [eX9_wrongSet_0, eX9_wrongSet_6, eX9_wrongSet_9, eX9_wrongSet_18, eX9_wrongSet_23, eX9_wrongSet_24, l0, h, h2, if_true, if_false]
  · have h2 : 0 ≤ x := Int64.not_lt.mp h
    by_cases h3 : zall (zN I) < x
    · have h4 : ¬ x ≤ zall (zN I) := Int64.not_le.mpr h3
      simp only [eX9_wrongSet_0, eX9_wrongSet_6, eX9_wrongSet_9, eX9_wrongSet_18, eX9_wrongSet_23, eX9_wrongSet_24, l0, h, h2, h3, h4, if_true, if_false, c_allSights n I L hI, jB_s]
    · have h4 : x ≤ zall (zN I) := Int64.not_lt.mp h3
      simp only [eX9_wrongSet_0, eX9_wrongSet_6, eX9_wrongSet_9, eX9_wrongSet_18, eX9_wrongSet_23, eX9_wrongSet_24, l0, h, h2, h3, h4, if_true, if_false, c_allSights n I L hI, jB_s, n00]
theorem m_notSet (n : Nat) (J A : jm_I) (L : jm_L) (hA : Inv A) (hM : Mod J A) (x : Int64) : jE n rX10_notSet 0 [.ref 111, .long x, .null] [] J L = some (some (.int (wset (zN A) x)), jS n J L) := by
  obtain ⟨e8, hN⟩ := Inv_N hA
  have e20 : J 111 20 = nI (zN A) := by rw [← e8]; exact (hM.1 111 20).1 rfl
  have l0 : lN 0 = 0 := rfl
  unfold wset
  by_cases h : x < 0
  · have h2 : ¬ 0 ≤ x := Int64.not_le.mpr h
    simp only [eX10_notSet_0, eX10_notSet_6, eX10_notSet_11, eX10_notSet_22, eX10_notSet_27, eX10_notSet_28, l0, h, h2, if_true, if_false]
  · have h2 : 0 ≤ x := Int64.not_lt.mp h
    have hs := shr_0 hN h
    by_cases h3 : zall (zN A) < x
    · have h4 : ¬ (x >>> ((nI (zN A)).toInt64 &&& 63) = 0) := fun q => hs.mp q h3
      simp only [eX10_notSet_0, eX10_notSet_6, eX10_notSet_11, eX10_notSet_22, eX10_notSet_27, eX10_notSet_28, l0, h, h2, h3, h4, if_true, if_false, e20]
    · have h4 : x >>> ((nI (zN A)).toInt64 &&& 63) = 0 := hs.mpr h3
      simp only [eX10_notSet_0, eX10_notSet_6, eX10_notSet_11, eX10_notSet_22, eX10_notSet_27, eX10_notSet_28, l0, h, h2, h3, h4, if_true, if_false, e20, n00]
theorem tb_or (x y : Int64) (s : Nat) : tb (x ||| y) s = (tb x s || tb y s) := by
  unfold tb
  rw [Int64.toBitVec_or, BitVec.getLsbD_or]
theorem tb_not (x : Int64) {s : Nat} (hs : s < 64) : tb (~~~ x) s = !tb x s := by
  unfold tb
  rw [Int64.toBitVec_not, BitVec.getLsbD_not]
  simp [hs]
def bt (s : Nat) : Int64 := lN 1 <<< ((nI s).toInt64 &&& 63)
theorem tb_bt {s k : Nat} (hs : s < 64) : tb (bt s) k = decide (k = s) := by
  unfold tb bt
  rw [shl_b _ hs, show (lN 1).toBitVec = 1#64 from rfl, BitVec.getLsbD_shiftLeft, BitVec.getLsbD_ofNat]
  by_cases h : k = s
  · subst h; simp [hs]
  · by_cases h2 : k < s
    · simp [h, h2]
    · have : ¬ k - s = 0 := by omega
      simp [h, h2]
      intro _ _
      rw [show (1 : Nat) = 2 ^ 0 from rfl, Nat.testBit_two_pow]
      simp
      omega
