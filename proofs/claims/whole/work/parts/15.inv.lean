def rg (x : Int32) (lo hi : Int) : Prop := lo ≤ x.toInt ∧ x.toInt ≤ hi
theorem rg_nI {x : Int32} {k : Nat} (hk : k < 2147483648) (h : rg x 0 (k : Int)) : ∃ j : Nat, j ≤ k ∧ x = nI j := by
  refine ⟨x.toInt.toNat, ?_, ?_⟩
  · have := h.2; have := h.1; omega
  · rw [nI_iZ, show ((x.toInt.toNat : Nat) : Int) = x.toInt from Int.toNat_of_nonneg h.1, iZ_toInt]
theorem nI_rg {j k : Nat} (h : j ≤ k) (hk : k < 2147483648) : rg (nI j) 0 (k : Int) := by
  unfold rg
  rw [nI_toInt (by omega)]
  omega
/-- what a cell of the World holds -/
def invW (a j : Nat) (x : Int32) : Prop := match a with
  | 11 => (j = 0 → rg x 0 2000) ∧ (j = 1 → rg x 1000 99999999) ∧ (j = 2 → rg x 1 60) ∧ (j = 3 → rg x 0 9999) ∧ (j = 4 → rg x 0 999)
  | 13 => j < 4 → x = 0 ∨ x = 1
  | 14 => j < 4 → rg x 0 999999
  | 15 => j < 4 → rg x 0 999999
  | 16 => j < 4 → rg x 0 99
  | 17 => j < 4 → rg x 0 9999
  | 18 => j < 16 → rg x (-9) 9
  | 19 => j < 4 → rg x 0 999999
  | 20 => j < 4 → rg x 1000 999999
  | 22 => j < 6 → rg x (-99) 99
  | 23 => j < 4 → rg x (-99) 99
  | 24 => j < 4 → rg x 0 999999999
  | 25 => j < 4 → rg x (-43200) 43200
  | 26 => j = 8 → rg x 0 40
  | 27 => j < 40 → rg x 0 3
  | 28 => j < 40 → rg x 0 999
  | 29 => j < 40 → rg x 0 7
  | 30 => j < 40 → rg x 0 5
  | 31 => j < 40 → rg x 0 3
  | 32 => j < 40 → rg x 0 3
  | 33 => j < 40 → rg x 0 1999999999
  | 34 => j < 160 → x = -9 ∨ rg x 0 999
  | 35 => j = 2 → rg x 0 8
  | 36 => j < 24 → rg x 0 6
  | 37 => j < 8 → rg x 0 3
  | _ => True
def invP (a j : Nat) (x : Int32) : Prop :=
  if a < 8 then x = jI00 (fun _ => 0) a j
  else if a = 9 then (j = 2 → x = 0 ∨ x = 1) ∧ (j = 5 → rg x 0 80)
  else if a = 66 then (j = 1 → rg x 0 20)
  else if 39 ≤ a then invW (a - 28) j x
  else invW a j x
/-- the invariant of the class -/
def Inv (A : jm_I) : Prop := ∀ a j, a < 71 → invP a j (A a j)
theorem Inv_u {A : jm_I} {a k : Nat} {x : Int32} (h : Inv A) (hx : invP a k x) : Inv (jm_u A a k x) := by
  intro b j hb
  unfold jm_u upd
  split
  · rename_i e
    subst e
    dsimp only
    split
    · rename_i e2
      subst e2
      exact hx
    · exact h b j hb
  · exact h b j hb
/-- sizes -/
def zN (A : jm_I) : Nat := (A 26 8).toInt.toNat
def zT (A : jm_I) : Nat := (A 35 2).toInt.toNat
def zR (A : jm_I) : Nat := (A 9 5).toInt.toNat
def zX (A : jm_I) : Nat := (A 66 1).toInt.toNat
theorem nI_of_rg {x : Int32} {hi : Int} (h : rg x 0 hi) : x = nI x.toInt.toNat := by
  rw [nI_iZ, show ((x.toInt.toNat : Nat) : Int) = x.toInt from Int.toNat_of_nonneg h.1, iZ_toInt]
theorem Inv_N {A : jm_I} (h : Inv A) : A 26 8 = nI (zN A) ∧ zN A ≤ 40 := by
  have q : rg (A 26 8) 0 40 := h 26 8 (by decide) rfl
  exact ⟨nI_of_rg q, by unfold zN; have := q.2; omega⟩
theorem Inv_T {A : jm_I} (h : Inv A) : A 35 2 = nI (zT A) ∧ zT A ≤ 8 := by
  have q : rg (A 35 2) 0 8 := h 35 2 (by decide) rfl
  exact ⟨nI_of_rg q, by unfold zT; have := q.2; omega⟩
theorem Inv_R {A : jm_I} (h : Inv A) : A 9 5 = nI (zR A) ∧ zR A ≤ 80 := by
  have q : rg (A 9 5) 0 80 := (h 9 5 (by decide)).2 rfl
  exact ⟨nI_of_rg q, by unfold zR; have := q.2; omega⟩
theorem Inv_X {A : jm_I} (h : Inv A) : A 66 1 = nI (zX A) ∧ zX A ≤ 20 := by
  have q : rg (A 66 1) 0 20 := (h 66 1 (by decide)) rfl
  exact ⟨nI_of_rg q, by unfold zX; have := q.2; omega⟩
theorem nI_inj {a b : Nat} (ha : a < 2147483648) (hb : b < 2147483648) : nI a = nI b ↔ a = b := nI_eq ha hb
/-- the model's cells beside the class's: the World's part, the model's cells read by M -/
def modW (A : jm_I) (a j : Nat) (x : Int32) : Prop := match a with
  | 111 => (j = 20 → x = A 26 8) ∧ (j = 29 → x = A 35 2)
  | 113 => j < 4 → x = A 14 j
  | 114 => j < 4 → x = A 15 j
  | 115 => j < 4 → x = A 16 j
  | 116 => j < 4 → x = A 17 j
  | 117 => j < 16 → x = A 18 j
  | 118 => j < 5 → x = A 11 j
  | 119 => j < 4 → x = A 13 j
  | 121 => j < 6 → x = A 22 j
  | 122 => j < 4 → x = A 23 j
  | 123 => j < 4 → x = A 24 j
  | 124 => j < 4 → x = A 25 j
  | 125 => j < 40 → x = A 27 j
  | 126 => j < 40 → x = A 28 j
  | 127 => j < 40 → x = A 29 j
  | 128 => j < 40 → x = A 30 j
  | 129 => j < 40 → x = A 31 j
  | 130 => j < 40 → x = A 32 j
  | 131 => j < 40 → x = A 33 j
  | 134 => ∀ t i, j = 8 * t + i → t < zT A → i < (A 37 t).toInt.toNat → x = A 36 (3 * t + i)
  | 135 => j < zT A → x = A 37 j
  | 136 => j < 4 → x = A 19 j
  | 137 => j < 4 → x = A 20 j
  | 143 => ∀ h s, j = 40 * h + s → h < 4 → s < zN A → x = (if A 34 (4 * s + h) = -9 then 0 else A 34 (4 * s + h) + 1)
  | _ => True
/-- where the image keeps a cell -/
def kO (a : Nat) : Nat := match a with
  | 113 => 0
  | 114 => 4
  | 115 => 8
  | 116 => 12
  | 117 => 16
  | 118 => 32
  | 121 => 37
  | 122 => 43
  | 123 => 47
  | 124 => 51
  | 125 => 55
  | 126 => 95
  | 127 => 135
  | 128 => 175
  | 129 => 215
  | 130 => 255
  | 131 => 295
  | 134 => 335
  | 135 => 407
  | 136 => 416
  | 137 => 420
  | 143 => 424
  | 119 => 586
  | _ => 0
def kV (I : jm_I) : jm_I := fun a j => if a = 111 then (if j = 20 then I 144 584 else I 144 585) else I 144 (kO a + j)
def wvL (j : Nat) : Int32 := ([0, 3, 4, 3, 0, -3, -4, -3] : List Int32).getD j 0
def modX (A : jm_I) (a j : Nat) (x : Int32) : Prop := match a with
  | 111 => (j = 22 → x = A 9 5) ∧ (j = 28 → x = A 66 1) ∧ (j = 41 → x = A 9 2)
  | 112 => ∀ c, j = c + 1 → c < 6 → x = A 70 c
  | 120 => j < 8 → x = wvL j
  | 132 => j < 80 → x = A 69 j
  | 133 => j < 20 → x = A 67 j
  | _ => True
def Mod (I A : jm_I) : Prop := (∀ a j, modW A a j (I a j)) ∧ (∀ a j, modX A a j (I a j)) ∧ (A 9 2 = 1 → ∀ a j, modW (fun a => A (a + 28)) a j (kV I a j))
/-- a model's cell that the relation doesn't speak of, or that the image keeps -/
def mFree (a j : Nat) : Prop := a = 138 ∨ a = 139 ∨ a = 142 ∨ (a = 111 ∧ (j = 30 ∨ j = 35 ∨ j = 36 ∨ j = 42 ∨ j = 43)) ∨ (a = 135 ∧ j = 8) ∨ (a = 134 ∧ 64 ≤ j)
