/-! turn: sets with one sight more -/
theorem bt_e (s : Nat) : lN 1 <<< ((nI s).toInt64 &&& 63) = bt s := rfl
theorem tb_x (x : Int64) {s : Nat} (hs : s < 40) : tb (x ^^^ (-1)) s = !tb x s := by
  have h1 := tb_m1 hs
  unfold tb at h1 ⊢
  rw [Int64.toBitVec_xor, BitVec.getLsbD_xor, h1]
  simp
def fre (A : jm_I) (m : Nat) (set : Int64) (s : Nat) : Prop := tb set s = false ∧ A 27 s = nI m ∧ ¬ A 29 s = nI 5
theorem fre_n {A : jm_I} {m : Nat} {set : Int64} {s : Nat} (h : fre A m set s) : ¬ zin A m set s := fun q => by
  have := q.1
  rw [h.1] at this
  exact absurd this (by decide)
theorem zin_o {A : jm_I} {m : Nat} {set : Int64} {s0 : Nat} (h : fre A m set s0) (hs0 : s0 < 40) : zin A m (set ||| bt s0) s0 := by
  refine ⟨?_, h.2.1, h.2.2⟩
  rw [tb_or, tb_bt (by omega)]
  simp
theorem zin_or {A : jm_I} {m : Nat} {set : Int64} {s0 : Nat} (hs0 : s0 < 40) {s : Nat} (e : s ≠ s0) : zin A m (set ||| bt s0) s ↔ zin A m set s := by
  unfold zin
  rw [tb_or, tb_bt (by omega)]
  simp [e]
theorem zs_or {A : jm_I} {m : Nat} {set : Int64} {s0 : Nat} (h : fre A m set s0) (hs0 : s0 < 40) (τ : Nat → Nat) (c x : Nat) : ∀ k, zs A τ c m (set ||| bt s0) x k = zs A τ c m set x k + (if s0 < k then zab (zl A τ m s0 c x) else 0) := by
  intro k
  induction k with
  | zero => rw [if_neg (by omega)]; rfl
  | succ k ih =>
    by_cases e : k = s0
    · subst e
      rw [zs_t (zin_o h hs0), zs_f (fre_n h), ih, if_neg (by omega), if_pos (by omega)]
      omega
    · have hi : (if s0 < k + 1 then zab (zl A τ m s0 c x) else 0) = (if s0 < k then zab (zl A τ m s0 c x) else 0) := by
        by_cases q : s0 < k
        · rw [if_pos q, if_pos (by omega)]
        · rw [if_neg q, if_neg (by omega)]
      rw [hi]
      by_cases q : zin A m set k
      · rw [zs_t ((zin_or hs0 e).mpr q), zs_t q, ih]
        omega
      · rw [zs_f (fun w => q ((zin_or hs0 e).mp w)), zs_f q, ih]
theorem fG_or {A : jm_I} (hA : Inv A) {m : Nat} {set : Int64} {s0 : Nat} (h : fre A m set s0) (hs0 : s0 < zN A) (t x : Nat) : fG A t m (set ||| bt s0) x = fG A t m set x + zab (zl A (fτ A t) m s0 (fc A t) x) := by
  have hN := (Inv_N hA).2
  unfold fG zG
  rw [zs_or h (by omega), if_pos hs0]
theorem Fitt_b {I : jm_I} {L : jm_L} {t c m : Nat} {τ : Nat → Nat} {G : Nat → Int} (h : Fitt I L t c τ m G) (H : Nat → Int32) (f : Nat → Int64) : Fitt (jm_uA I (fH t) H) (jm_uA L 74 f) t c τ m G := by
  refine ⟨?_, ?_, ?_, ?_, ?_⟩
  · rw [jm_uA_ne _ _ fBH]; exact h.k5
  · rw [jm_uA_ne _ _ fBH]; exact h.k6
  · rw [jm_uA_ne _ _ fBH]; exact h.k7
  · intro i hi; rw [jm_uA_ne _ _ fTH]; exact h.kT i hi
  · intro x hx; rw [lA_ne _ _ fS74]; exact h.kS x hx
theorem Fr_b (t : Nat) (I : jm_I) (L : jm_L) (H : Nat → Int32) (f : Nat → Int64) : Fr t (jm_uA I (fH t) H) I (jm_uA L 74 f) L := ⟨fun a _ p _ => jm_uA_ne _ _ p, fun a p q => by rw [lA_ne _ _ p]⟩
theorem rl1_s {G : Nat → Int} {i : Nat} (hG : ∀ x, x ≤ i → (G x).natAbs < 1000000000100000) : (if lZ (G i) < rl1 G (amin G tru i) then lZ (G i) else rl1 G (amin G tru i)) = rl1 G (amin G tru (i + 1)) := by
  have hi := hG i (Nat.le_refl _)
  cases e : amin G tru i with
  | none =>
    have q : lZ (G i) < rl1 G none := Int64.not_le.mp (mx_le hi)
    rw [amin_0 trivial e, if_pos q]
    rfl
  | some j =>
    have hj := hG j (by have := (amin_s e).1; omega)
    have hc : lZ (G i) < rl1 G (some j) ↔ G i < G j := lZ_lt ⟨by omega, by omega⟩ ⟨by omega, by omega⟩
    by_cases hlt : G i < G j
    · rw [amin_l trivial e hlt, if_pos (hc.mpr hlt)]
      rfl
    · rw [amin_g trivial e hlt, if_neg (fun w => hlt (hc.mp w))]
theorem c_scoreWith (n : Nat) (I A : jm_I) (L : jm_L) (hA : Inv A) (hE : E71 I A) {t c m s : Nat} {τ : Nat → Nat} {G G' : Nat → Int} (ht : t < 8) (hc : c ≤ 3) (hτ : ∀ i, i < c → τ i ≤ 6) (hm : m < 4) (hs : s < 40) (hG : ∀ x, G' x = G x + zab (zl A τ m s c x)) (hb : ∀ x, (G' x).natAbs < 1000000000100000) (hF : Fitt I L t c τ m G) : ∃ (H : Nat → Int32) (f : Nat → Int64), jE n rX0_scoreWith 0 [.ref (fB t), .int (nI s), .null, .null, .null] [] I L = some (some (.long (lZ (G' (afit G' c) + zpr A c))), jS n (jm_uA I (fH t) H) (jm_uA L 74 f)) := by
  obtain ⟨H, f, hf, hsp⟩ := c_spread n I A L hA hE ht hc hτ hm hs hF
  obtain ⟨p1, p2⟩ := p7 hc
  have hz := zl_rg hA τ hm hs c
  have hF2 := Fitt_b hF H f
  have hE2 : E71 (jm_uA I (fH t) H) A := Fr_E (Fr_b t I L H f) hE
  have key : ∀ (d i : Nat), i + d = 7 ^ c → jE n rX0_scoreWith 12 [.ref (fB t), .int (nI s), .long (rl1 G' (amin G' tru i)), .null, .int (nI i)] [] (jm_uA I (fH t) H) (jm_uA L 74 f) = some (some (.long (lZ (G' (afit G' c) + zpr A c))), jS n (jm_uA I (fH t) H) (jm_uA L 74 f)) := by
    intro d
    induction d with
    | zero =>
      intro i hi
      have : i = 7 ^ c := by omega
      subst this
      have cc : nI (7 ^ c) ≤ nI (7 ^ c) := Int32.le_refl _
      have cp := c_price n (jm_uA I (fH t) H) A (jm_uA L 74 f) hE2 ht hc hF2.k5
      have er : rl1 G' (some (afit G' c)) = lZ (G' (afit G' c)) := rfl
      rw [(afit_e G' hc).1, er]
      simp only [eX0_scoreWith_12, eX0_scoreWith_50, ht, hF2.k6, cc, if_true, cp, jB_s, lZ_add]
    | succ d ih =>
      intro i hi
      have hi2 : i < 7 ^ c := by omega
      have cc : ¬ nI (7 ^ c) ≤ nI i := nI_ge hi2 (by omega)
      have hi3 : i < 343 := by omega
      have hd0 : ∀ x, jE n rX0_scoreWith 12 [.ref (fB t), .int (nI s), x, .null, .int (nI i)] [] (jm_uA I (fH t) H) (jm_uA L 74 f) = jE n rX0_scoreWith 21 [.ref (fB t), .int (nI s), x, .null, .int (nI i)] [] (jm_uA I (fH t) H) (jm_uA L 74 f) := by
        intro x
        simp only [eX0_scoreWith_12, ht, hF2.k6, cc, if_false]
      rw [hd0]
      have q1 := hF2.kS i hi2
      have q2 : jm_uA L 74 f 74 i = lZ (zl A τ m s c i) := by rw [lA_eq]; exact hf i hi2
      have ea : (if 0 < lZ (zl A τ m s c i) then lZ (zl A τ m s c i) else -lZ (zl A τ m s c i)) = lZ (zab (zl A τ m s c i)) := labs (by have := hz i; omega)
      have eg : G i + zab (zl A τ m s c i) = G' i := (hG i).symm
      have e2 := rl1_s (G := G') (i := i) (fun x _ => hb x)
      have ih2 := ih (i + 1) (by omega)
      simp only [eX0_scoreWith_21, ht, jLI_t, jLW_t, jLL_t, jLZ_t, jLA_t, hi3, jLL_S ht, q1, q2, ea, lZ_add, eg, e2, nI_add]
      exact ih2
  have k0 := key (7 ^ c) 0 (Nat.zero_add _)
  refine ⟨H, f, ?_⟩
  simp only [eX0_scoreWith_0, ht, hsp, jB_v]
  exact k0
theorem c_bestWith (n : Nat) (A : jm_I) (hA : Inv A) {m s : Nat} (hm : m < 4) (set : Int64) (hs : s < zN A) (hf : fre A m set s) (hT : 0 < zT A) (I : jm_I) (L : jm_L) (hE : E71 I A) (hF : AF I L A m (fun t => fG A t m set)) : ∃ (I' : jm_I) (L' : jm_L), FrJ I' I ∧ AF I' L' A m (fun t => fG A t m set) ∧ jE n rX1_bestWith 0 [.ref 71, .int (nI s), .null, .null, .null, .null, .null, .null] [] I L = some (some (.int (nI (bst A m (set ||| bt s)))), jS n I' L') := by
  obtain ⟨eT, hT8⟩ := Inv_T hA
  have hs4 : s < 40 := by have := (Inv_N hA).2; omega
  have hGb := fG_Gb hA hm (set ||| bt s)
  have key : ∀ (d u : Nat) (I : jm_I) (L : jm_L) (v6 v7 : Value), u + d = zT A → E71 I A → AF I L A m (fun t => fG A t m set) → ∃ (I' : jm_I) (L' : jm_L), FrJ I' I ∧ AF I' L' A m (fun t => fG A t m set) ∧ jE n rX1_bestWith 9 [.ref 71, .int (nI s), .int (rb1 (amin (fun t => fSc A t m (set ||| bt s)) tru u)), .long (rl1 (fun t => fSc A t m (set ||| bt s)) (amin (fun t => fSc A t m (set ||| bt s)) tru u)), .null, .int (nI u), v6, v7] [] I L = some (some (.int (nI (bst A m (set ||| bt s)))), jS n I' L') := by
    intro d
    induction d with
    | zero =>
      intro u I L v6 v7 hu hE hF
      have : u = zT A := by omega
      subst this
      have eI : I 35 2 = nI (zT A) := by rw [hE 35 (by decide)]; exact eT
      have cc : nI (zT A) ≤ nI (zT A) := Int32.le_refl _
      refine ⟨I, L, FrJ_0 I, hF, ?_⟩
      rw [(bst_e hT m (set ||| bt s)).1]
      simp only [eX1_bestWith_9, eX1_bestWith_56, eI, cc, if_true, rb1]
    | succ d ih =>
      intro u I L v6 v7 hu hE hF
      have hu8 : u < 8 := by omega
      have huT : u < zT A := by omega
      have eI : I 35 2 = nI (zT A) := by rw [hE 35 (by decide)]; exact eT
      have cc : ¬ nI (zT A) ≤ nI u := nI_ge huT (by omega)
      have hd0 : ∀ x y, jE n rX1_bestWith 9 [.ref 71, .int (nI s), x, y, .null, .int (nI u), v6, v7] [] I L = jE n rX1_bestWith 24 [.ref 71, .int (nI s), x, y, .null, .int (nI u), v6, v7] [] I L := by
        intro x y
        simp only [eX1_bestWith_9, eI, cc, if_false]
      rw [hd0]
      obtain ⟨H, f, cs⟩ := c_scoreWith n I A L hA hE (G' := fG A u m (set ||| bt s)) hu8 (fc_e hA hu8).2 (fτ_6 hA hu8) hm hs4 (fun x => fG_or hA hf hs u x) (fun x => by have : (fG A u m (set ||| bt s) x).natAbs < 1000000000000000 := hGb u x huT; omega) (hF u huT)
      have cs' : jE n rX0_scoreWith 0 [.ref (fB u), .int (nI s), .null, .null, .null] [] I L = some (some (.long (lZ (fSc A u m (set ||| bt s)))), jS n (jm_uA I (fH u) H) (jm_uA L 74 f)) := cs
      have fr := Fr_b u I L H f
      have hE2 := Fr_E fr hE
      have hF2 : AF (jm_uA I (fH u) H) (jm_uA L 74 f) A m (fun t => fG A t m set) := fun t ht => by
        by_cases e : t = u
        · subst e; exact Fitt_b (hF t ht) H f
        · exact Fitt_o e fr (hF t ht)
      have hb : ∀ t, t < zT A → (fSc A t m (set ||| bt s)).natAbs < 1000000000100000 := fun t ht => fsc_rg hA hGb ht
      have hsu := hb u huT
      obtain ⟨I', L', r1, r2, r3⟩ := ih (u + 1) (jm_uA I (fH u) H) (jm_uA L 74 f) (.long (lZ (fSc A u m (set ||| bt s)))) .null (by omega) hE2 hF2
      refine ⟨I', L', FrJ_t (FrJ_F hu8 fr) r1, r2, ?_⟩
      cases e : amin (fun t => fSc A t m (set ||| bt s)) tru u with
      | none =>
        rw [amin_0 trivial e] at r3
        have hc : ¬ rl1 (fun t => fSc A t m (set ||| bt s)) none ≤ lZ (fSc A u m (set ||| bt s)) := mx_le hsu
        simp only [eX1_bestWith_24, eX1_bestWith_44, eX1_bestWith_50, hu8, cs', jB_s, hc, if_false, nI_add]
        exact r3
      | some j =>
        have hj := (amin_s e).1
        have hsj := hb j (by omega)
        have hc : rl1 (fun t => fSc A t m (set ||| bt s)) (some j) ≤ lZ (fSc A u m (set ||| bt s)) ↔ fSc A j m (set ||| bt s) ≤ fSc A u m (set ||| bt s) := lZ_le (a := fSc A j m (set ||| bt s)) (b := fSc A u m (set ||| bt s)) ⟨by omega, by omega⟩ ⟨by omega, by omega⟩
        by_cases hlt : fSc A u m (set ||| bt s) < fSc A j m (set ||| bt s)
        · rw [amin_l trivial e hlt] at r3
          have hc2 : ¬ rl1 (fun t => fSc A t m (set ||| bt s)) (some j) ≤ lZ (fSc A u m (set ||| bt s)) := fun w => by have := hc.mp w; omega
          simp only [eX1_bestWith_24, eX1_bestWith_44, eX1_bestWith_50, hu8, cs', jB_s, hc2, if_false, nI_add]
          exact r3
        · rw [amin_g trivial e hlt] at r3
          have hc2 : rl1 (fun t => fSc A t m (set ||| bt s)) (some j) ≤ lZ (fSc A u m (set ||| bt s)) := hc.mpr (by omega)
          simp only [eX1_bestWith_24, eX1_bestWith_50, hu8, cs', jB_s, hc2, if_true, nI_add]
          exact r3
  obtain ⟨I', L', r1, r2, r3⟩ := key (zT A) 0 I L .null .null (Nat.zero_add _) hE hF
  refine ⟨I', L', r1, r2, ?_⟩
  simp only [eX1_bestWith_0]
  exact r3
theorem c_addToAll (n : Nat) (A : jm_I) (hA : Inv A) {m s : Nat} (hm : m < 4) (set : Int64) (hs : s < zN A) (hf : fre A m set s) : ∀ (d u : Nat) (I : jm_I) (L : jm_L), u + d = zT A → E71 I A → (∀ t, t < u → Fitt I L t (fc A t) (fτ A t) m (fG A t m (set ||| bt s))) → (∀ t, u ≤ t → t < zT A → Fitt I L t (fc A t) (fτ A t) m (fG A t m set)) → ∃ (I' : jm_I) (L' : jm_L), FrJ I' I ∧ AF I' L' A m (fun t => fG A t m (set ||| bt s)) ∧ jE n rX1_addToAll 2 [.ref 71, .int (nI s), .int (nI u)] [] I L = some (none, jS n I' L') := by
  obtain ⟨eT, hT8⟩ := Inv_T hA
  have hs4 : s < 40 := by have := (Inv_N hA).2; omega
  intro d
  induction d with
  | zero =>
    intro u I L hu hE hF1 hF2
    have : u = zT A := by omega
    subst this
    have eI : I 35 2 = nI (zT A) := by rw [hE 35 (by decide)]; exact eT
    have cc : nI (zT A) ≤ nI (zT A) := Int32.le_refl _
    refine ⟨I, L, FrJ_0 I, hF1, ?_⟩
    simp only [eX1_addToAll_2, eX1_addToAll_32, eI, cc, if_true]
  | succ d ih =>
    intro u I L hu hE hF1 hF2
    have hu8 : u < 8 := by omega
    have huT : u < zT A := by omega
    have eI : I 35 2 = nI (zT A) := by rw [hE 35 (by decide)]; exact eT
    have cc : ¬ nI (zT A) ≤ nI u := nI_ge huT (by omega)
    obtain ⟨H, f, g, hg, ca⟩ := c_addSight n I A L hA hE hu8 (fc_e hA hu8).2 (fτ_6 hA hu8) hm hs4 (hF2 u (Nat.le_refl _) huT)
    have fr := Fr_a u I L H f g
    have hFu : Fitt (jm_uA I (fH u) H) (jm_uA (jm_uA L 74 f) (fS u) g) u (fc A u) (fτ A u) m (fG A u m (set ||| bt s)) := Fitt_a (hF2 u (Nat.le_refl _) huT) H f g (fun x hx => by rw [hg x hx, fG_or hA hf hs])
    obtain ⟨I', L', r1, r2, r3⟩ := ih (u + 1) _ _ (by omega) (Fr_E fr hE) (fun t ht => by
      by_cases e : t = u
      · subst e; exact hFu
      · exact Fitt_o e fr (hF1 t (by omega))) (fun t h1 h2 => Fitt_o (by omega) fr (hF2 t (by omega) h2))
    refine ⟨I', L', FrJ_t (FrJ_F hu8 fr) r1, r2, ?_⟩
    have hd0 : jE n rX1_addToAll 2 [.ref 71, .int (nI s), .int (nI u)] [] I L = jE n rX1_addToAll 16 [.ref 71, .int (nI s), .int (nI u)] [] I L := by
      simp only [eX1_addToAll_2, eI, cc, if_false]
    rw [hd0]
    simp only [eX1_addToAll_16, hu8, ca, jB_v, nI_add]
    exact r3
theorem c_dropAll (n : Nat) (A : jm_I) (hA : Inv A) {m s : Nat} (hm : m < 4) (set : Int64) (hs : s < zN A) (hf : fre A m set s) : ∀ (d u : Nat) (I : jm_I) (L : jm_L), u + d = zT A → E71 I A → (∀ t, t < u → Fitt I L t (fc A t) (fτ A t) m (fG A t m set)) → (∀ t, u ≤ t → t < zT A → Fitt I L t (fc A t) (fτ A t) m (fG A t m (set ||| bt s))) → ∃ (I' : jm_I) (L' : jm_L), FrJ I' I ∧ AF I' L' A m (fun t => fG A t m set) ∧ jE n rX1_dropFromAll 2 [.ref 71, .int (nI s), .int (nI u)] [] I L = some (none, jS n I' L') := by
  obtain ⟨eT, hT8⟩ := Inv_T hA
  have hs4 : s < 40 := by have := (Inv_N hA).2; omega
  intro d
  induction d with
  | zero =>
    intro u I L hu hE hF1 hF2
    have : u = zT A := by omega
    subst this
    have eI : I 35 2 = nI (zT A) := by rw [hE 35 (by decide)]; exact eT
    have cc : nI (zT A) ≤ nI (zT A) := Int32.le_refl _
    refine ⟨I, L, FrJ_0 I, hF1, ?_⟩
    simp only [eX1_dropFromAll_2, eX1_dropFromAll_32, eI, cc, if_true]
  | succ d ih =>
    intro u I L hu hE hF1 hF2
    have hu8 : u < 8 := by omega
    have huT : u < zT A := by omega
    have eI : I 35 2 = nI (zT A) := by rw [hE 35 (by decide)]; exact eT
    have cc : ¬ nI (zT A) ≤ nI u := nI_ge huT (by omega)
    obtain ⟨H, f, g, hg, ca⟩ := c_dropSight n I A L hA hE hu8 (fc_e hA hu8).2 (fτ_6 hA hu8) hm hs4 (hF2 u (Nat.le_refl _) huT)
    have fr := Fr_a u I L H f g
    have hFu : Fitt (jm_uA I (fH u) H) (jm_uA (jm_uA L 74 f) (fS u) g) u (fc A u) (fτ A u) m (fG A u m set) := Fitt_a (hF2 u (Nat.le_refl _) huT) H f g (fun x hx => by
      rw [hg x hx, fG_or hA hf hs]
      congr 1
      omega)
    obtain ⟨I', L', r1, r2, r3⟩ := ih (u + 1) _ _ (by omega) (Fr_E fr hE) (fun t ht => by
      by_cases e : t = u
      · subst e; exact hFu
      · exact Fitt_o e fr (hF1 t (by omega))) (fun t h1 h2 => Fitt_o (by omega) fr (hF2 t (by omega) h2))
    refine ⟨I', L', FrJ_t (FrJ_F hu8 fr) r1, r2, ?_⟩
    have hd0 : jE n rX1_dropFromAll 2 [.ref 71, .int (nI s), .int (nI u)] [] I L = jE n rX1_dropFromAll 16 [.ref 71, .int (nI s), .int (nI u)] [] I L := by
      simp only [eX1_dropFromAll_2, eI, cc, if_false]
    rw [hd0]
    simp only [eX1_dropFromAll_16, hu8, ca, jB_v, nI_add]
    exact r3
