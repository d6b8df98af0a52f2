/-! apart -/
def omn (o : Option Int) (x : Int) : Option Int := match o with
  | none => some x
  | some y => some (if x < y then x else y)
noncomputable def fI (p : Nat → Prop) (v : Nat → Int) (o : Option Int) : Nat → Option Int
  | 0 => o
  | r + 1 => @ite _ (p r) (Classical.propDecidable _) (omn (fI p v o r) (v r)) (fI p v o r)
noncomputable def fO (N : Nat) (p : Nat → Nat → Prop) (v : Nat → Nat → Int) : Nat → Option Int
  | 0 => none
  | s + 1 => fI (p s) (v s) (fO N p v s) N
theorem fI_t {p : Nat → Prop} {v : Nat → Int} {o : Option Int} {r : Nat} (h : p r) : fI p v o (r + 1) = omn (fI p v o r) (v r) := by simp only [fI, h, if_true]
theorem fI_f {p : Nat → Prop} {v : Nat → Int} {o : Option Int} {r : Nat} (h : ¬ p r) : fI p v o (r + 1) = fI p v o r := by simp only [fI, h, if_false]
/-- o is the least of what the pairs of D give -/
def isL (D : Nat → Nat → Prop) (v : Nat → Nat → Int) : Option Int → Prop
  | none => ∀ s r, ¬ D s r
  | some m => (∃ s r, D s r ∧ v s r = m) ∧ ∀ s r, D s r → m ≤ v s r
theorem isL_u {D : Nat → Nat → Prop} {v : Nat → Nat → Int} {o o' : Option Int} (h : isL D v o) (h' : isL D v o') : o = o' := by
  cases o with
  | none =>
    cases o' with
    | none => rfl
    | some m => obtain ⟨⟨s, r, q, -⟩, -⟩ := h'; exact absurd q (h s r)
  | some m =>
    cases o' with
    | none => obtain ⟨⟨s, r, q, -⟩, -⟩ := h; exact absurd q (h' s r)
    | some m' =>
      obtain ⟨⟨s, r, q, e⟩, l⟩ := h
      obtain ⟨⟨s', r', q', e'⟩, l'⟩ := h'
      have a := l s' r' q'
      have b := l' s r q
      congr 1
      omega
theorem isL_s {D E : Nat → Nat → Prop} {v : Nat → Nat → Int} {o : Option Int} {s0 r0 : Nat} (h : isL D v o) (hE : ∀ s r, E s r ↔ D s r ∨ (s = s0 ∧ r = r0)) : isL E v (omn o (v s0 r0)) := by
  cases o with
  | none =>
    refine ⟨⟨s0, r0, (hE _ _).mpr (Or.inr ⟨rfl, rfl⟩), rfl⟩, fun s r q => ?_⟩
    rcases (hE s r).mp q with q | ⟨e1, e2⟩
    · exact absurd q (h s r)
    · subst e1; subst e2; exact Int.le_refl _
  | some m =>
    obtain ⟨⟨s, r, q, e⟩, l⟩ := h
    refine ⟨?_, fun s' r' q' => ?_⟩
    · by_cases hl : v s0 r0 < m
      · exact ⟨s0, r0, (hE _ _).mpr (Or.inr ⟨rfl, rfl⟩), by rw [if_pos hl]⟩
      · exact ⟨s, r, (hE _ _).mpr (Or.inl q), by rw [if_neg hl]; exact e⟩
    · rcases (hE s' r').mp q' with q | ⟨e1, e2⟩
      · have := l s' r' q
        split <;> omega
      · subst e1; subst e2
        split <;> omega
theorem isL_c {D E : Nat → Nat → Prop} {v : Nat → Nat → Int} {o : Option Int} (h : isL D v o) (hE : ∀ s r, E s r ↔ D s r) : isL E v o := by
  cases o with
  | none => exact fun s r q => h s r ((hE s r).mp q)
  | some m =>
    obtain ⟨⟨s, r, q, e⟩, l⟩ := h
    exact ⟨⟨s, r, (hE s r).mpr q, e⟩, fun s r q => l s r ((hE s r).mp q)⟩
theorem fO_L (N : Nat) (p : Nat → Nat → Prop) (v : Nat → Nat → Int) : ∀ s, isL (fun s' r' => s' < s ∧ r' < N ∧ p s' r') v (fO N p v s) := by
  intro s
  induction s with
  | zero => exact fun s r q => absurd q.1 (by omega)
  | succ s ih =>
    have key : ∀ r, isL (fun s' r' => (s' < s ∧ r' < N ∧ p s' r') ∨ (s' = s ∧ r' < r ∧ p s' r')) v (fI (p s) (v s) (fO N p v s) r) := by
      intro r
      induction r with
      | zero => exact isL_c ih (fun s' r' => ⟨fun q => q.resolve_right (fun w => absurd w.2.1 (by omega)), Or.inl⟩)
      | succ r ihr =>
        by_cases h : p s r
        · rw [fI_t h]
          refine isL_s (v := v) ihr (fun s' r' => ?_)
          constructor
          · rintro (q | ⟨e, h1, h2⟩)
            · exact Or.inl (Or.inl q)
            · by_cases e2 : r' = r
              · exact Or.inr ⟨e, e2⟩
              · exact Or.inl (Or.inr ⟨e, by omega, h2⟩)
          · rintro ((q | ⟨e, h1, h2⟩) | ⟨e1, e2⟩)
            · exact Or.inl q
            · exact Or.inr ⟨e, by omega, h2⟩
            · subst e1; subst e2; exact Or.inr ⟨rfl, by omega, h⟩
        · rw [fI_f h]
          refine isL_c ihr (fun s' r' => ?_)
          constructor
          · rintro (q | ⟨e, h1, h2⟩)
            · exact Or.inl q
            · by_cases e2 : r' = r
              · subst e; subst e2; exact absurd h2 h
              · exact Or.inr ⟨e, by omega, h2⟩
          · rintro (q | ⟨e, h1, h2⟩)
            · exact Or.inl q
            · exact Or.inr ⟨e, by omega, h2⟩
    refine isL_c (key N) (fun s' r' => ?_)
    constructor
    · rintro ⟨h1, h2, h3⟩
      by_cases e : s' = s
      · exact Or.inr ⟨e, h2, h3⟩
      · exact Or.inl ⟨by omega, h2, h3⟩
    · rintro (⟨h1, h2, h3⟩ | ⟨e, h2, h3⟩)
      · exact ⟨by omega, h2, h3⟩
      · exact ⟨by omega, h2, h3⟩
/-- turned round -/
theorem fO_T (N : Nat) (p p' : Nat → Nat → Prop) (v v' : Nat → Nat → Int) (hp : ∀ s r, p' s r ↔ p r s) (hv : ∀ s r, v' s r = v r s) : fO N p' v' N = fO N p v N := by
  refine isL_u (fO_L N p' v' N) ?_
  have h := fO_L N p v N
  cases e : fO N p v N with
  | none =>
    rw [e] at h
    exact fun s r q => h r s ⟨q.2.1, q.1, (hp s r).mp q.2.2⟩
  | some m =>
    rw [e] at h
    obtain ⟨⟨s, r, q, e2⟩, l⟩ := h
    exact ⟨⟨r, s, ⟨q.2.1, q.1, (hp r s).mpr q.2.2⟩, by rw [hv]; exact e2⟩, fun s r q => by rw [hv]; exact l r s ⟨q.2.1, q.1, (hp s r).mp q.2.2⟩⟩
def tq (tw : Int32) : Nat := if tw = 0 then 30 else 32
def pr (A : jm_I) (tw a b : Int32) (s r : Nat) : Prop := (A (tq tw) s = a ∧ A (tq tw) r = b) ∧ A 27 s = A 27 r ∧ A 28 s = A 28 r ∧ ¬ A 29 s = nI 5 ∧ ¬ A 29 r = nI 5
theorem pr_T (A : jm_I) (tw a b : Int32) (s r : Nat) : pr A tw b a s r ↔ pr A tw a b r s := by
  unfold pr
  constructor
  · rintro ⟨⟨h1, h2⟩, h3, h4, h5, h6⟩; exact ⟨⟨h2, h1⟩, h3.symm, h4.symm, h6, h5⟩
  · rintro ⟨⟨h1, h2⟩, h3, h4, h5, h6⟩; exact ⟨⟨h2, h1⟩, h3.symm, h4.symm, h6, h5⟩
def raw (A : jm_I) (tw : Int32) (s : Nat) : Int := zrightb A s tw (if tw = 0 then nI 1 else nI 0)
def pv (A : jm_I) (tw : Int32) (s r : Nat) : Int := raw A tw s - raw A tw r
theorem raw_rg {A : jm_I} (h : Inv A) (tw : Int32) {s : Nat} (hs : s < 40) : (raw A tw s).natAbs ≤ 2010000000 := by
  have := zlean_rg h hs; have := zoff_rg h hs; have := zkind_rg h hs
  have r3 := zsec_rg h hs
  have := r3.1; have := r3.2
  unfold raw zrightb
  by_cases e : tw = 0
  · simp only [e, if_true, n10, if_false]; omega
  · simp only [e, if_false, n00t, if_true]; omega
theorem c_raw (n : Nat) (I : jm_I) (L : jm_L) (hI : Inv I) (tw : Int32) {s : Nat} (hs : s < 40) : jE n rX8_rawRight 0 [.ref 10, .int (nI s), .int tw] [] I L = some (some (.long (lZ (raw I tw s))), jS n I L) := by
  have q1 := zlean_rg hI hs
  have q2 := zoff_rg hI hs
  unfold raw zrightb
  by_cases e : tw = 0
  · simp only [eX8_rawRight_0, eX8_rawRight_9, eX8_rawRight_17, eX8_rawRight_22, c_putRight n I L hI hs, jB_s, e, if_true, n10, if_false, c_leanOf n I L hI hs, iZ_l (show -2147483648 ≤ zlean I s by omega) (by omega), lZ_add, zright]
    rw [show (I 33 s).toInt - zlean I s - zoff I s + zkind I s + zlean I s = (I 33 s).toInt - 0 + zkind I s - zoff I s by omega]
  · simp only [eX8_rawRight_0, eX8_rawRight_9, eX8_rawRight_17, eX8_rawRight_22, c_putRight n I L hI hs, jB_s, e, if_false, n00t, if_true, c_offsetOf n I L hI hs, iZ_l (show -2147483648 ≤ zoff I s by omega) (by omega), lZ_add, zright]
    rw [show (I 33 s).toInt - zlean I s - zoff I s + zkind I s + zoff I s = (I 33 s).toInt - zlean I s + zkind I s - 0 by omega]
theorem c_isPair (n : Nat) (I : jm_I) (L : jm_L) (tw a b : Int32) {s r : Nat} (hs : s < 40) (hr : r < 40) : jE n rX8_isPair 0 [.ref 10, .int (nI s), .int (nI r), .int a, .int b, .int tw, .null] [] I L = some (some (.int (@ite _ (pr I tw a b s r) (Classical.propDecidable _) (nI 1) (nI 0))), jS n I L) := by
  have e1 : jE n rX8_isPair 0 [.ref 10, .int (nI s), .int (nI r), .int a, .int b, .int tw, .null] [] I L = jE n rX8_isPair 72 [.ref 10, .int (nI s), .int (nI r), .int a, .int b, .int tw, .null] [.int (if I (tq tw) s = a ∧ I (tq tw) r = b then nI 1 else nI 0)] I L := by
    by_cases e : tw = 0
    · have et : tq tw = 30 := by rw [tq, if_pos e]
      rw [et]
      by_cases h1 : I 30 s = a
      · by_cases h2 : I 30 r = b
        · simp only [eX8_isPair_0, eX8_isPair_5, eX8_isPair_18, eX8_isPair_32, eX8_isPair_36, eX8_isPair_40, eX8_isPair_53, eX8_isPair_67, eX8_isPair_71, e, if_true, jLI_t, jLW_t, jLL_t, jLZ_t, jLA_t, hs, hr, h1, h2, not_true, if_false, and_self]
        · simp only [eX8_isPair_0, eX8_isPair_5, eX8_isPair_18, eX8_isPair_32, eX8_isPair_36, eX8_isPair_40, eX8_isPair_53, eX8_isPair_67, eX8_isPair_71, e, if_true, jLI_t, jLW_t, jLL_t, jLZ_t, jLA_t, hs, hr, h1, h2, not_true, not_false_eq_true, if_false, and_false]
      · simp only [eX8_isPair_0, eX8_isPair_5, eX8_isPair_18, eX8_isPair_32, eX8_isPair_36, eX8_isPair_40, eX8_isPair_53, eX8_isPair_67, eX8_isPair_71, e, if_true, jLI_t, jLW_t, jLL_t, jLZ_t, jLA_t, hs, hr, h1, not_false_eq_true, if_false, false_and]
    · have et : tq tw = 32 := by rw [tq, if_neg e]
      rw [et]
      by_cases h1 : I 32 s = a
      · by_cases h2 : I 32 r = b
        · simp only [eX8_isPair_0, eX8_isPair_5, eX8_isPair_18, eX8_isPair_32, eX8_isPair_36, eX8_isPair_40, eX8_isPair_53, eX8_isPair_67, eX8_isPair_71, e, if_true, jLI_t, jLW_t, jLL_t, jLZ_t, jLA_t, hs, hr, h1, h2, not_true, if_false, and_self]
        · simp only [eX8_isPair_0, eX8_isPair_5, eX8_isPair_18, eX8_isPair_32, eX8_isPair_36, eX8_isPair_40, eX8_isPair_53, eX8_isPair_67, eX8_isPair_71, e, if_true, jLI_t, jLW_t, jLL_t, jLZ_t, jLA_t, hs, hr, h1, h2, not_true, not_false_eq_true, if_false, and_false]
      · simp only [eX8_isPair_0, eX8_isPair_5, eX8_isPair_18, eX8_isPair_32, eX8_isPair_36, eX8_isPair_40, eX8_isPair_53, eX8_isPair_67, eX8_isPair_71, e, if_true, jLI_t, jLW_t, jLL_t, jLZ_t, jLA_t, hs, hr, h1, not_false_eq_true, if_false, false_and]
  rw [e1]
  unfold pr
  by_cases h0 : I (tq tw) s = a ∧ I (tq tw) r = b
  · by_cases h1 : I 27 s = I 27 r
    · by_cases h2 : I 28 s = I 28 r
      · by_cases h3 : I 29 s = nI 5
        · simp only [eX8_isPair_72, eX8_isPair_79, eX8_isPair_100, eX8_isPair_121, eX8_isPair_134, eX8_isPair_147, eX8_isPair_151, eX8_isPair_152, h0, h1, h2, h3, if_true, n10, if_false, jLI_t, jLW_t, jLL_t, jLZ_t, jLA_t, hs, hr, not_true, and_self, and_false, false_and]
        · by_cases h4 : I 29 r = nI 5
          · simp only [eX8_isPair_72, eX8_isPair_79, eX8_isPair_100, eX8_isPair_121, eX8_isPair_134, eX8_isPair_147, eX8_isPair_151, eX8_isPair_152, h0, h1, h2, h3, h4, if_true, n10, if_false, jLI_t, jLW_t, jLL_t, jLZ_t, jLA_t, hs, hr, not_true, and_self, and_false, not_false_eq_true]
          · simp only [eX8_isPair_72, eX8_isPair_79, eX8_isPair_100, eX8_isPair_121, eX8_isPair_134, eX8_isPair_147, eX8_isPair_151, eX8_isPair_152, h0, h1, h2, h3, h4, if_true, n10, if_false, jLI_t, jLW_t, jLL_t, jLZ_t, jLA_t, hs, hr, not_true, and_self, not_false_eq_true]
      · simp only [eX8_isPair_72, eX8_isPair_79, eX8_isPair_100, eX8_isPair_121, eX8_isPair_134, eX8_isPair_147, eX8_isPair_151, eX8_isPair_152, h0, h1, h2, if_true, n10, if_false, jLI_t, jLW_t, jLL_t, jLZ_t, jLA_t, hs, hr, not_true, not_false_eq_true, and_self, and_false, false_and]
    · simp only [eX8_isPair_72, eX8_isPair_79, eX8_isPair_100, eX8_isPair_121, eX8_isPair_134, eX8_isPair_147, eX8_isPair_151, eX8_isPair_152, h0, h1, if_true, n10, if_false, jLI_t, jLW_t, jLL_t, jLZ_t, jLA_t, hs, hr, not_false_eq_true, and_self, and_false, false_and]
  · simp only [eX8_isPair_72, eX8_isPair_79, eX8_isPair_100, eX8_isPair_121, eX8_isPair_134, eX8_isPair_147, eX8_isPair_151, eX8_isPair_152, h0, if_false, n00t, if_true, false_and]
def mL : Option Int → Int64
  | none => lN 9223372036854775807
  | some y => lZ y
/-- small -/
def oS : Option Int → Prop
  | none => True
  | some y => y.natAbs ≤ 5000000000
theorem oS_n {o : Option Int} {x : Int} (h : oS o) (hx : x.natAbs ≤ 5000000000) : oS (omn o x) := by
  cases o with
  | none => exact hx
  | some y => show (if x < y then x else y).natAbs ≤ _; split; exact hx; exact h
theorem mL_n {o : Option Int} {x : Int} (h : oS o) (hx : x.natAbs ≤ 5000000000) : (if lZ x < mL o then lZ x else mL o) = mL (omn o x) := by
  cases o with
  | none =>
    have : lZ x < lN 9223372036854775807 := by
      rw [lN_lZ, lZ_lt ⟨by omega, by omega⟩ ⟨by decide, by decide⟩]
      omega
    simp only [mL, this, if_true, omn]
  | some y =>
    have hy : y.natAbs ≤ 5000000000 := h
    have c : lZ x < lZ y ↔ x < y := lZ_lt ⟨by omega, by omega⟩ ⟨by omega, by omega⟩
    show (if lZ x < lZ y then lZ x else lZ y) = lZ (if x < y then x else y)
    by_cases q : x < y
    · rw [if_pos q, if_pos (c.mpr q)]
    · rw [if_neg q, if_neg (fun w => q (c.mp w))]
theorem pv_rg {A : jm_I} (h : Inv A) (tw : Int32) {s r : Nat} (hs : s < 40) (hr : r < 40) : (pv A tw s r).natAbs ≤ 5000000000 := by
  have := raw_rg h tw hs; have := raw_rg h tw hr
  unfold pv
  omega
theorem oS_I {A : jm_I} (h : Inv A) (tw a b : Int32) {s : Nat} (hs : s < 40) {o : Option Int} (ho : oS o) : ∀ r, r ≤ 40 → oS (fI (pr A tw a b s) (pv A tw s) o r) := by
  intro r
  induction r with
  | zero => exact fun _ => ho
  | succ r ih =>
    intro hr
    by_cases q : pr A tw a b s r
    · rw [fI_t q]; exact oS_n (ih (by omega)) (pv_rg h tw hs (by omega))
    · rw [fI_f q]; exact ih (by omega)
theorem oS_O {A : jm_I} (h : Inv A) (tw a b : Int32) {N : Nat} (hN : N ≤ 40) : ∀ s, s ≤ 40 → oS (fO N (pr A tw a b) (pv A tw) s) := by
  intro s
  induction s with
  | zero => exact fun _ => trivial
  | succ s ih => exact fun hs => oS_I h tw a b (by omega) (ih (by omega)) N hN
theorem c_least_i (n : Nat) (I : jm_I) (L : jm_L) (hI : Inv I) (tw a b : Int32) {s : Nat} (hs : s < zN I) {o : Option Int} (ho : oS o) : ∀ (d r : Nat), r + d = zN I → jE n rX8_leastApart 23 [.ref 10, .int a, .int b, .int tw, .long (mL (fI (pr I tw a b s) (pv I tw s) o r)), .null, .int (nI s), .int (nI r)] [] I L = jE n rX8_leastApart 8 [.ref 10, .int a, .int b, .int tw, .long (mL (fI (pr I tw a b s) (pv I tw s) o (zN I))), .null, .int (nI (s + 1)), .int (nI (zN I))] [] I L := by
  obtain ⟨e8, hN⟩ := Inv_N hI
  intro d
  induction d with
  | zero =>
    intro r hr
    have : r = zN I := by omega
    subst this
    have c : nI (zN I) ≤ nI (zN I) := Int32.le_refl _
    simp only [eX8_leastApart_23, eX8_leastApart_77, e8, c, if_true, nI_add]
  | succ d ih =>
    intro r hr
    have c : ¬ nI (zN I) ≤ nI r := nI_ge (by omega) (by omega)
    have hs4 : s < 40 := by omega
    have hr4 : r < 40 := by omega
    have ih2 := ih (r + 1) (by omega)
    have hd0 : ∀ x, jE n rX8_leastApart 23 [.ref 10, .int a, .int b, .int tw, .long x, .null, .int (nI s), .int (nI r)] [] I L = jE n rX8_leastApart 35 [.ref 10, .int a, .int b, .int tw, .long x, .null, .int (nI s), .int (nI r)] [] I L := by
      intro x
      simp only [eX8_leastApart_23, e8, c, if_false]
    rw [hd0]
    by_cases q : pr I tw a b s r
    · rw [fI_t q, ← mL_n (oS_I hI tw a b hs4 ho r (by omega)) (pv_rg hI tw hs4 hr4)] at ih2
      have ev : lZ (raw I tw s - raw I tw r) = lZ (pv I tw s r) := rfl
      simp only [eX8_leastApart_35, eX8_leastApart_49, eX8_leastApart_71, c_isPair n I L tw a b hs4 hr4, q, if_true, jB_s, n10, if_false, c_raw n I L hI tw hs4, c_raw n I L hI tw hr4, lZ_sub, ev, nI_add]
      exact ih2
    · rw [fI_f q] at ih2
      simp only [eX8_leastApart_35, eX8_leastApart_49, eX8_leastApart_71, c_isPair n I L tw a b hs4 hr4, q, if_false, jB_s, n00t, if_true, nI_add]
      exact ih2
theorem c_least (n : Nat) (I : jm_I) (L : jm_L) (hI : Inv I) (tw a b : Int32) : jE n rX8_leastApart 0 [.ref 10, .int a, .int b, .int tw, .null, .null, .null, .null] [] I L = some (some (.long (mL (fO (zN I) (pr I tw a b) (pv I tw) (zN I)))), jS n I L) := by
  obtain ⟨e8, hN⟩ := Inv_N hI
  have key : ∀ (d s : Nat) (v : Value), s + d = zN I → jE n rX8_leastApart 8 [.ref 10, .int a, .int b, .int tw, .long (mL (fO (zN I) (pr I tw a b) (pv I tw) s)), .null, .int (nI s), v] [] I L = some (some (.long (mL (fO (zN I) (pr I tw a b) (pv I tw) (zN I)))), jS n I L) := by
    intro d
    induction d with
    | zero =>
      intro s v hs
      have : s = zN I := by omega
      subst this
      have c : nI (zN I) ≤ nI (zN I) := Int32.le_refl _
      simp only [eX8_leastApart_8, eX8_leastApart_83, e8, c, if_true]
    | succ d ih =>
      intro s v hs
      have c : ¬ nI (zN I) ≤ nI s := nI_ge (by omega) (by omega)
      have hd0 : ∀ x, jE n rX8_leastApart 8 [.ref 10, .int a, .int b, .int tw, .long x, .null, .int (nI s), v] [] I L = jE n rX8_leastApart 23 [.ref 10, .int a, .int b, .int tw, .long x, .null, .int (nI s), .int (nI 0)] [] I L := by
        intro x
        simp only [eX8_leastApart_8, eX8_leastApart_20, e8, c, if_false]
      rw [hd0]
      have := c_least_i n I L hI tw a b (show s < zN I by omega) (oS_O hI tw a b hN s (by omega)) (zN I) 0 (Nat.zero_add _)
      rw [show fI (pr I tw a b s) (pv I tw s) (fO (zN I) (pr I tw a b) (pv I tw) s) 0 = fO (zN I) (pr I tw a b) (pv I tw) s from rfl] at this
      rw [this]
      exact ih (s + 1) _ (by omega)
  simp only [eX8_leastApart_0]
  exact key (zN I) 0 .null (Nat.zero_add _)
theorem c_hasPair (n : Nat) (I : jm_I) (L : jm_L) (hI : Inv I) (tw a b : Int32) : jE n rX8_hasPair 0 [.ref 10, .int a, .int b, .int tw, .null, .null] [] I L = some (some (.int (if fO (zN I) (pr I tw a b) (pv I tw) (zN I) = none then nI 0 else nI 1)), jS n I L) := by
  obtain ⟨e8, hN⟩ := Inv_N hI
  have hL := fO_L (zN I) (pr I tw a b) (pv I tw) (zN I)
  generalize hF : fO (zN I) (pr I tw a b) (pv I tw) (zN I) = F at *
  have hyes : ∀ s r, s < zN I → r < zN I → pr I tw a b s r → ¬ F = none := fun s r h1 h2 h3 e => by
    rw [e] at hL
    exact hL s r ⟨h1, h2, h3⟩
  have inner : ∀ s, s < zN I → ∀ (d r : Nat), r + d = zN I → ¬ F = none ∧ jE n rX8_hasPair 18 [.ref 10, .int a, .int b, .int tw, .int (nI s), .int (nI r)] [] I L = some (some (.int (nI 1)), jS n I L) ∨ (∀ r', r ≤ r' → r' < zN I → ¬ pr I tw a b s r') ∧ jE n rX8_hasPair 18 [.ref 10, .int a, .int b, .int tw, .int (nI s), .int (nI r)] [] I L = jE n rX8_hasPair 3 [.ref 10, .int a, .int b, .int tw, .int (nI (s + 1)), .int (nI (zN I))] [] I L := by
    intro s hs d
    induction d with
    | zero =>
      intro r hr
      have : r = zN I := by omega
      subst this
      have c : nI (zN I) ≤ nI (zN I) := Int32.le_refl _
      refine Or.inr ⟨fun r' h1 h2 => absurd h2 (by omega), ?_⟩
      simp only [eX8_hasPair_18, eX8_hasPair_52, e8, c, if_true, nI_add]
    | succ d ih =>
      intro r hr
      have c : ¬ nI (zN I) ≤ nI r := nI_ge (by omega) (by omega)
      have hd0 : jE n rX8_hasPair 18 [.ref 10, .int a, .int b, .int tw, .int (nI s), .int (nI r)] [] I L = jE n rX8_hasPair 30 [.ref 10, .int a, .int b, .int tw, .int (nI s), .int (nI r)] [] I L := by
        simp only [eX8_hasPair_18, e8, c, if_false]
      rw [hd0]
      have cp := c_isPair n I L tw a b (show s < 40 by omega) (show r < 40 by omega)
      by_cases q : pr I tw a b s r
      · refine Or.inl ⟨hyes s r hs (by omega) q, ?_⟩
        simp only [eX8_hasPair_30, eX8_hasPair_44, cp, q, if_true, jB_s, n10, if_false]
      · have e : jE n rX8_hasPair 30 [.ref 10, .int a, .int b, .int tw, .int (nI s), .int (nI r)] [] I L = jE n rX8_hasPair 18 [.ref 10, .int a, .int b, .int tw, .int (nI s), .int (nI (r + 1))] [] I L := by
          simp only [eX8_hasPair_30, eX8_hasPair_46, cp, q, if_false, jB_s, n00t, if_true, nI_add]
        rw [e]
        rcases ih (r + 1) (by omega) with h | ⟨h1, h2⟩
        · exact Or.inl h
        · refine Or.inr ⟨fun r' p1 p2 => ?_, h2⟩
          by_cases e3 : r' = r
          · rw [e3]; exact q
          · exact h1 r' (by omega) p2
  have outer : ∀ (d s : Nat) (v : Value), s + d = zN I → (∀ s' r', s' < s → r' < zN I → ¬ pr I tw a b s' r') → jE n rX8_hasPair 3 [.ref 10, .int a, .int b, .int tw, .int (nI s), v] [] I L = some (some (.int (if F = none then nI 0 else nI 1)), jS n I L) := by
    intro d
    induction d with
    | zero =>
      intro s v hs hno
      have : s = zN I := by omega
      subst this
      have c : nI (zN I) ≤ nI (zN I) := Int32.le_refl _
      have hn : F = none := by
        cases F with
        | none => rfl
        | some m =>
          obtain ⟨⟨s, r, q, -⟩, -⟩ := hL
          exact absurd q.2.2 (hno s r q.1 q.2.1)
      simp only [eX8_hasPair_3, eX8_hasPair_58, e8, c, if_true, hn]
    | succ d ih =>
      intro s v hs hno
      have c : ¬ nI (zN I) ≤ nI s := nI_ge (by omega) (by omega)
      have hd0 : jE n rX8_hasPair 3 [.ref 10, .int a, .int b, .int tw, .int (nI s), v] [] I L = jE n rX8_hasPair 18 [.ref 10, .int a, .int b, .int tw, .int (nI s), .int (nI 0)] [] I L := by
        simp only [eX8_hasPair_3, eX8_hasPair_15, e8, c, if_false]
      rw [hd0]
      rcases inner s (by omega) (zN I) 0 (Nat.zero_add _) with ⟨h1, h2⟩ | ⟨h1, h2⟩
      · rw [h2, if_neg h1]
      · rw [h2]
        refine ih (s + 1) _ (by omega) (fun s' r' p1 p2 => ?_)
        by_cases e : s' = s
        · rw [e]; exact h1 r' (Nat.zero_le _) p2
        · exact hno s' r' (by omega) p2
  simp only [eX8_hasPair_0]
  exact outer (zN I) 0 .null (Nat.zero_add _) (fun s' r' h => absurd h (by omega))
