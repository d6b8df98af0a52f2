/-! watch: sets of nights -/
def cnt (S : Nat) : Nat → Nat
  | 0 => 0
  | k + 1 => cnt S k + (if S.testBit k = true then 1 else 0)
theorem cnt_t {S k : Nat} (h : S.testBit k = true) : cnt S (k + 1) = cnt S k + 1 := by show cnt S k + _ = _; rw [if_pos h]
theorem cnt_f {S k : Nat} (h : ¬ S.testBit k = true) : cnt S (k + 1) = cnt S k := by show cnt S k + _ = _; rw [if_neg h]; rfl
theorem cnt_le (S : Nat) : ∀ k, cnt S k ≤ k := by
  intro k
  induction k with
  | zero => exact Nat.le_refl _
  | succ k ih =>
    by_cases h : S.testBit k = true
    · rw [cnt_t h]; omega
    · rw [cnt_f h]; omega
theorem cnt_mono (S : Nat) : ∀ d k, cnt S k ≤ cnt S (k + d) := by
  intro d
  induction d with
  | zero => intro k; exact Nat.le_refl _
  | succ d ih =>
    intro k
    have := ih k
    by_cases h : S.testBit (k + d) = true
    · rw [show k + (d + 1) = k + d + 1 from rfl, cnt_t h]; omega
    · rw [show k + (d + 1) = k + d + 1 from rfl, cnt_f h]; omega
theorem cnt_lt {S b k : Nat} (h : S.testBit b = true) (hb : b < k) : cnt S b < cnt S k := by
  have h1 := cnt_mono S (k - (b + 1)) (b + 1)
  rw [show b + 1 + (k - (b + 1)) = k by omega, cnt_t h] at h1
  omega
theorem cnt_surj (S : Nat) : ∀ k i, i < cnt S k → ∃ b, b < k ∧ S.testBit b = true ∧ cnt S b = i := by
  intro k
  induction k with
  | zero => intro i h; exact absurd h (by simp [cnt])
  | succ k ih =>
    intro i h
    by_cases q : S.testBit k = true
    · rw [cnt_t q] at h
      by_cases e : i = cnt S k
      · exact ⟨k, by omega, q, e.symm⟩
      · obtain ⟨s, h1, h2, h3⟩ := ih i (by omega)
        exact ⟨s, by omega, h2, h3⟩
    · rw [cnt_f q] at h
      obtain ⟨s, h1, h2, h3⟩ := ih i h
      exact ⟨s, by omega, h2, h3⟩
theorem tB_hi {S N k : Nat} (hS : S < 2 ^ N) (hk : N ≤ k) : ¬ S.testBit k = true := by
  have : S < 2 ^ k := Nat.lt_of_lt_of_le hS (Nat.pow_le_pow_right (by decide) hk)
  rw [Nat.testBit_lt_two_pow this]
  decide
theorem cnt_hi {S N : Nat} (hS : S < 2 ^ N) : ∀ d, cnt S (N + d) = cnt S N := by
  intro d
  induction d with
  | zero => rfl
  | succ d ih => rw [show N + (d + 1) = N + d + 1 from rfl, cnt_f (tB_hi hS (by omega)), ih]
def wmx (g : Nat → Int) (S : Nat) : Nat → Int
  | 0 => 0
  | k + 1 => if S.testBit k = true then (if wmx g S k < g k then g k else wmx g S k) else wmx g S k
theorem wmx_t {g : Nat → Int} {S k : Nat} (h : S.testBit k = true) : wmx g S (k + 1) = if wmx g S k < g k then g k else wmx g S k := by show (if _ then _ else _) = _; rw [if_pos h]
theorem wmx_f {g : Nat → Int} {S k : Nat} (h : ¬ S.testBit k = true) : wmx g S (k + 1) = wmx g S k := by show (if _ then _ else _) = _; rw [if_neg h]
theorem wmx_rg {g : Nat → Int} {N : Nat} (hg : ∀ k, k < N → 0 ≤ g k ∧ g k ≤ 2006000000) (S : Nat) : ∀ k, k ≤ N → 0 ≤ wmx g S k ∧ wmx g S k ≤ 2006000000 := by
  intro k
  induction k with
  | zero => intro _; exact ⟨Int.le_refl _, by show (0 : Int) ≤ _; omega⟩
  | succ k ih =>
    intro hk
    have h1 := ih (by omega)
    have h2 := hg k (by omega)
    by_cases h : S.testBit k = true
    · rw [wmx_t h]; split <;> omega
    · rw [wmx_f h]; exact h1
theorem wmx_c {g : Nat → Int} {S : Nat} : ∀ d k, cnt S k = cnt S (k + d) → wmx g S k = wmx g S (k + d) := by
  intro d
  induction d with
  | zero => intro k _; rfl
  | succ d ih =>
    intro k h
    have h1 := cnt_mono S d k
    have hn : ¬ S.testBit (k + d) = true := fun q => by
      rw [show k + (d + 1) = k + d + 1 from rfl, cnt_t q] at h
      omega
    rw [show k + (d + 1) = k + d + 1 from rfl, cnt_f hn] at h
    rw [show k + (d + 1) = k + d + 1 from rfl, wmx_f hn]
    exact ih k h
theorem wmx_e {g : Nat → Int} {S k k' : Nat} (h : cnt S k = cnt S k') : wmx g S k = wmx g S k' := by
  rcases Nat.le_total k k' with q | q
  · have := wmx_c (g := g) (S := S) (k' - k) k
    rw [show k + (k' - k) = k' by omega] at this
    exact this h
  · have := wmx_c (g := g) (S := S) (k - k') k'
    rw [show k' + (k - k') = k by omega] at this
    exact (this h.symm).symm
theorem wmx_hi {g : Nat → Int} {S N k : Nat} (hS : S < 2 ^ N) (hk : N ≤ k) : wmx g S k = wmx g S N := by
  have := cnt_hi hS (k - N)
  rw [show N + (k - N) = k by omega] at this
  exact wmx_e this
def pij : Nat → Nat
  | 0 => 0
  | t + 1 => pij t + t
theorem pij_mono : ∀ d t, pij t ≤ pij (t + d) := by
  intro d
  induction d with
  | zero => intro t; exact Nat.le_refl _
  | succ d ih =>
    intro t
    have := ih t
    show _ ≤ pij (t + d) + (t + d)
    omega
theorem pij_lt {t u t' : Nat} (hu : u < t) (ht : t < t') : pij t + u < pij t' := by
  have h := pij_mono (t' - (t + 1)) (t + 1)
  rw [show t + 1 + (t' - (t + 1)) = t' by omega] at h
  have : pij (t + 1) = pij t + t := rfl
  omega
theorem pij_28 {t : Nat} (h : t ≤ 8) : pij t ≤ 28 := by
  have := pij_mono (8 - t) t
  rw [show t + (8 - t) = 8 by omega] at this
  exact this
def wsu (A : jm_I) (m a S t : Nat) : Nat → Int
  | 0 => 0
  | u + 1 => wsu A m a S t u + wmx (fun k => zgp A t u m (a + k)) S 12
def wst (A : jm_I) (m a S : Nat) : Nat → Int
  | 0 => 0
  | t + 1 => wst A m a S t + wsu A m a S t t
theorem gN_rg {A : jm_I} (h : Inv A) {t u m a N : Nat} (ht : t < 8) (hu : u < 8) (hm : m < 4) (ha : a + N ≤ 1000) : ∀ k, k < N → 0 ≤ zgp A t u m (a + k) ∧ zgp A t u m (a + k) ≤ 2006000000 := fun k hk => zgp_rg h ht hu hm (by omega)
theorem w12_rg {A : jm_I} (h : Inv A) {t u m a N S : Nat} (ht : t < 8) (hu : u < 8) (hm : m < 4) (ha : a + N ≤ 1000) (hN : N ≤ 12) (hS : S < 2 ^ N) : 0 ≤ wmx (fun k => zgp A t u m (a + k)) S 12 ∧ wmx (fun k => zgp A t u m (a + k)) S 12 ≤ 2006000000 := by
  rw [wmx_hi hS hN]
  exact wmx_rg (gN_rg h ht hu hm ha) S N (Nat.le_refl _)
theorem wsu_rg {A : jm_I} (h : Inv A) {t m a N S : Nat} (ht : t < 8) (hm : m < 4) (ha : a + N ≤ 1000) (hN : N ≤ 12) (hS : S < 2 ^ N) : ∀ u, u ≤ t → 0 ≤ wsu A m a S t u ∧ wsu A m a S t u ≤ 2006000000 * u := by
  intro u
  induction u with
  | zero => intro _; exact ⟨Int.le_refl _, by show (0 : Int) ≤ _; omega⟩
  | succ u ih =>
    intro hu
    have h1 := ih (by omega)
    have h2 := w12_rg h ht (show u < 8 by omega) hm ha hN hS
    show 0 ≤ wsu A m a S t u + wmx (fun k => zgp A t u m (a + k)) S 12 ∧ _
    constructor
    · omega
    · show wsu A m a S t u + wmx (fun k => zgp A t u m (a + k)) S 12 ≤ _
      omega
theorem wst_rg {A : jm_I} (h : Inv A) {m a N S : Nat} (hm : m < 4) (ha : a + N ≤ 1000) (hN : N ≤ 12) (hS : S < 2 ^ N) : ∀ t, t ≤ 8 → 0 ≤ wst A m a S t ∧ wst A m a S t ≤ 20000000000 * t := by
  intro t
  induction t with
  | zero => intro _; exact ⟨Int.le_refl _, by show (0 : Int) ≤ _; omega⟩
  | succ t ih =>
    intro ht
    have h1 := ih (by omega)
    have h2 := wsu_rg h (show t < 8 by omega) hm ha hN hS t (Nat.le_refl _)
    have e : wst A m a S (t + 1) = wst A m a S t + wsu A m a S t t := rfl
    rw [e]
    omega
def wv (A : jm_I) (m a S : Nat) : Int := wst A m a S (zT A)
/-! bits of ints -/
theorem si_s : ∀ k : Fin 32, ((nI k.val &&& 31).toBitVec.smod 32).toNat = k.val := by decide
theorem one_i (b : BitVec 32) : b &&& 1#32 = if b.getLsbD 0 then 1#32 else 0#32 := by
  rw [BitVec.and_one_eq_setWidth_ofBool_getLsbD]
  cases b.getLsbD 0 <;> rfl
theorem ib {S k : Nat} (hk : k < 32) : (nI S >>> (nI k &&& 31)) &&& nI 1 = if S.testBit k = true then nI 1 else nI 0 := by
  rw [← Int32.toBitVec_inj, Int32.toBitVec_and, Int32.toBitVec_shiftRight, BitVec.sshiftRight_eq', si_s ⟨k, hk⟩, show (nI 1).toBitVec = 1#32 from rfl, one_i, BitVec.getLsbD_sshiftRight]
  have h0 : k + 0 < 32 := hk
  have e : (nI S).toBitVec.getLsbD k = S.testBit k := by
    show (BitVec.ofNat 32 S).getLsbD k = _
    rw [BitVec.getLsbD_ofNat]
    simp [hk]
  rw [if_pos h0]
  show (if (true && (nI S).toBitVec.getLsbD k) = true then _ else _) = _
  rw [Bool.true_and, e]
  cases S.testBit k <;> rfl
theorem shl_13 : ∀ k : Fin 13, nI 1 <<< (nI k.val &&& 31) = nI (2 ^ k.val) := by decide
theorem shl_N {N : Nat} (h : N ≤ 12) : nI 1 <<< (nI N &&& 31) = nI (2 ^ N) := shl_13 ⟨N, by omega⟩
theorem p12 {N : Nat} (h : N ≤ 12) : 2 ^ N ≤ 4096 := Nat.pow_le_pow_right (by decide) h
def bcF (x : Int32) : Int32 :=
  let y := x - ((x.toUInt32 >>> ((nI 1).toUInt32 &&& Int32.toUInt32 31)).toInt32 &&& nI 1431655765)
  let z := (y &&& nI 858993459) + ((y.toUInt32 >>> ((nI 2).toUInt32 &&& Int32.toUInt32 31)).toInt32 &&& nI 858993459)
  let w := (z + (z.toUInt32 >>> ((nI 4).toUInt32 &&& Int32.toUInt32 31)).toInt32) &&& nI 252645135
  let v := w + (w.toUInt32 >>> ((nI 8).toUInt32 &&& Int32.toUInt32 31)).toInt32
  (v + (v.toUInt32 >>> ((nI 16).toUInt32 &&& Int32.toUInt32 31)).toInt32) &&& nI 63
theorem bc_64 : ∀ p q : Fin 64, bcF (nI (64 * p.val + q.val)) = nI (cnt (64 * p.val + q.val) 12) := by decide +kernel
theorem bc_4096 {S : Nat} (hS : S < 4096) : bcF (nI S) = nI (cnt S 12) := by
  have h := bc_64 ⟨S / 64, by omega⟩ ⟨S % 64, by omega⟩
  have e : 64 * (S / 64) + S % 64 = S := by omega
  dsimp only at h
  rw [e] at h
  exact h
theorem c_bitCount (n : Nat) (I : jm_I) (L : jm_L) {S : Nat} (hS : S < 4096) : jE n rJ6_bitCount_0f7a4 0 [.int (nI S)] [] I L = some (some (.int (nI (cnt S 12))), jS n I L) := by
  rw [← bc_4096 hS]
  simp only [eJ6_bitCount_0f7a4_0, bcF]
