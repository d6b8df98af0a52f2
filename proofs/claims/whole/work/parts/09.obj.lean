section JOBJ
variable {b : Nat} {sa : Nat → Nat} {D : va_G} {cs : jm_cs} {rn : Nat → Nat} {rf : Nat → Nat → Int32} {r : jm_Row} {x : Option Value × jm_S} {uc us pc : Nat} {lv st : List Value} {σ : jm_S}
theorem jm_gv_fv {α : Nat → Nat} {a c k : Nat} {v : Value} (h : jm_gv σ a c k = some v) : jm_fv α σ a c k = jm_tv α v := by
  unfold jm_gv at h
  unfold jm_fv
  split at h <;> rename_i hf
  · cases h; rw [hf]; rfl
  · cases h; rw [hf]; rfl
  · cases h; rw [hf]; rfl
  · rw [hf]
    cases hp : σ.2.2.1 a k with
    | none => rw [hp] at h; cases h
    | some q => rw [hp] at h; cases h; rfl
  · rw [hf]
    cases hp : σ.2.2.1 a k with
    | none => rw [hp] at h; cases h
    | some q => rw [hp] at h; cases h; rfl
  · cases h
theorem jm_fs_get {α : Nat → Nat} {a c k : Nat} (hk : k < jm_fn c) : ((List.range (jm_fn c)).map (jm_fv α σ a c))[k]? = some (jm_fv α σ a c k) := by simp [hk]
theorem jm_lkp {k : Nat} {q : Nat × Nat × Nat} {c : Nat} (h : jm_pool c k = some q) : jm_pok c (k, q) := jm_pall c _ (jm_lk_mem h)
theorem jg_getfield {k c f a n : Nat} {v : Value} (hl : n = 3) (hd : decode (jr_cd r) pc = .ok (.getfield k, n)) (hp : jm_pool (jr_ow r) k = some (3, c, f)) (h1 : jm_rw σ a = true) (h2 : σ.2.1 a = (c + 4, jm_fn c)) (hv : jm_gv σ a c f = some v) (hG : jm_G b sa D cs rn rf r x uc us (pc + n) lv (v :: st) σ) : jm_G b sa D cs rn rf r x uc us pc lv (.ref a :: st) σ := by
  subst hl
  intro p l e R s m args below meth cd Q C H locs ls hR hS hL
  have hg := hG p l e R s m args below meth cd Q C H locs ls hR hS hL
  obtain ⟨hx, hb, hml, hown, hts, hW0, hbs, hin, hfr, hlo, hmc, hms, hQ⟩ := C
  obtain ⟨hc, hf, hlk⟩ := jm_lkp hp
  obtain ⟨k1, k2, k3, k4, k5, k6, k7⟩ := jm_call_ok c hc
  refine va_get hx hb hts k2 hown hW0.1 hR.2.2.2 (a - 9) (jm_at_ws h1 (jm_en_4 (by rw [h2]))) k1 f hf (hts _ hlk) (fun y hy => by rw [k7 f hf] at hy; exact hy) (jm_fs_get hf) hd ?_
  rw [jm_gv_fv hv]
  exact hg
/-- what a put does -/
theorem jm_pv_spec {a c k : Nat} {v : Value} {τ : jm_S} (h : jm_pv σ a c k v = some τ) : τ.1 = σ.1 ∧ τ.2.1 = σ.2.1 ∧ (∀ i, i ≠ a → τ.2.2.1 i = σ.2.2.1 i) ∧ (∀ i, i ≠ a → τ.2.2.2.1 i = σ.2.2.2.1 i) ∧ (∀ i, i ≠ a → τ.2.2.2.2 i = σ.2.2.2.2 i) ∧
    (∀ α : Nat → Nat, jm_fv α τ a c k = jm_tv α v ∧ (∀ j, j ≠ k → jm_fv α τ a c j = jm_fv α σ a c j) ∧ narrow (jm_ft c k) (jm_tv α v) = jm_tv α v ∧ fits (jm_ft c k) (jm_tv α v) = true) := by
  unfold jm_pv at h
  split at h <;> rename_i hf
  · cases h
    refine ⟨rfl, rfl, fun i hi => rfl, fun i hi => by simp [jm_u, hi], fun i hi => rfl, fun α => ⟨by simp [jm_fv, hf, jm_u, upd, jm_tv], fun j hj => by simp [jm_fv, jm_u, upd, hj], by rw [hf]; rfl, by rw [hf]; rfl⟩⟩
  · split at h
    · rename_i hx
      cases h
      refine ⟨rfl, rfl, fun i hi => rfl, fun i hi => by simp [jm_u, hi], fun i hi => rfl, fun α => ⟨by simp [jm_fv, hf, jm_u, upd, jm_tv], fun j hj => by simp [jm_fv, jm_u, upd, hj], ?_, ?_⟩⟩
      · rw [hf]; rcases hx with rfl | rfl <;> rfl
      · rw [hf]; rcases hx with rfl | rfl <;> rfl
    · cases h
  · cases h
    refine ⟨rfl, rfl, fun i hi => rfl, fun i hi => rfl, fun i hi => by simp [jm_uL, hi], fun α => ⟨by simp [jm_fv, hf, jm_uL, vp_updL, jm_tv], fun j hj => by simp [jm_fv, jm_uL, vp_updL, hj], by rw [hf]; rfl, by rw [hf]; rfl⟩⟩
  · cases h
    refine ⟨rfl, rfl, fun i hi => by simp [jm_uP, hi], fun i hi => rfl, fun i hi => rfl, fun α => ⟨by simp [jm_fv, hf, jm_uP, va_up, jm_tv, va_rf], fun j hj => by simp [jm_fv, jm_uP, va_up, hj], by rw [hf]; rfl, by rw [hf]; rfl⟩⟩
  · cases h
    refine ⟨rfl, rfl, fun i hi => by simp [jm_uP, hi], fun i hi => rfl, fun i hi => rfl, fun α => ⟨by simp [jm_fv, hf, jm_uP, va_up, jm_tv, va_rf], fun j hj => by simp [jm_fv, jm_uP, va_up, hj], by rw [hf]; rfl, by rw [hf]; rfl⟩⟩
  · cases h
theorem jm_fs_set {α : Nat → Nat} {a c k : Nat} {τ : jm_S} {w : Value} (h1 : jm_fv α τ a c k = w) (h2 : ∀ j, j ≠ k → jm_fv α τ a c j = jm_fv α σ a c j) : (List.range (jm_fn c)).map (jm_fv α τ a c) = ((List.range (jm_fn c)).map (jm_fv α σ a c)).set k w := by
  apply List.ext_getElem?
  intro j
  rw [List.getElem?_set]
  by_cases hj : j < jm_fn c
  · rw [jm_fs_get hj]
    by_cases e : k = j
    · subst e
      rw [if_pos rfl, if_pos (by simpa using hj), h1]
    · rw [if_neg e, jm_fs_get hj, h2 j (fun q => e q.symm)]
  · have e1 : ((List.range (jm_fn c)).map (jm_fv α τ a c))[j]? = none := List.getElem?_eq_none (by simp; omega)
    have e2 : ((List.range (jm_fn c)).map (jm_fv α σ a c))[j]? = none := List.getElem?_eq_none (by simp; omega)
    rw [e1, e2]
    split
    · rename_i e
      rw [if_neg (by simp; omega)]
    · rfl
theorem jg_putfield {k c f a n : Nat} {v : Value} {τ : jm_S} (hl : n = 3) (hd : decode (jr_cd r) pc = .ok (.putfield k, n)) (hp : jm_pool (jr_ow r) k = some (3, c, f)) (h1 : jm_rw σ a = true) (h2 : σ.2.1 a = (c + 4, jm_fn c)) (h3 : (jm_fT c f).2.2.2 = true → jr_kd r = 2 ∧ jr_ow r = c) (hv : jm_pv σ a c f v = some τ) (hG : jm_G b sa D cs rn rf r x uc us (pc + n) lv st τ) : jm_G b sa D cs rn rf r x uc us pc lv (v :: .ref a :: st) σ := by
  subst hl
  intro p l e R s m args below meth cd Q C H locs ls hR hS hL
  have hg := hG p l e R s m args below meth cd Q C
  obtain ⟨hx, hb, hml, hown, hts, hW0, hbs, hin, hfr, hlo, hmc, hms, hQ⟩ := C
  obtain ⟨hc, hf, hlk⟩ := jm_lkp hp
  obtain ⟨k1, k2, k3, k4, k5, k6, k7⟩ := jm_call_ok c hc
  obtain ⟨p1, p2, p3, p4, p5, p6⟩ := jm_pv_spec hv
  obtain ⟨p6, p7, p8, p9⟩ := p6 (jm_al b sa)
  have he := jm_at_ws (α := jm_al b sa) (cs := cs) h1 (jm_en_4 (by rw [h2]))
  have hK := hW0.1
  have hap := va_apart (own := jm_cn (jr_ow r)) hts k2 (jm_ft c) k3 k4 hK k1
  obtain ⟨r', g1, cell, q1, q2, q3, q4⟩ := hR.2.2.2 (a - 9) _ he
  have hr : r' = (jm_cn c, jm_fT c, jm_fn c) := Option.some.inj (g1.symm.trans k1)
  subst hr
  obtain ⟨hSl, hfc, kC, hkC, hkind⟩ := hK.1 c _ k1
  obtain ⟨cf, kf, fi, fd, hi, hsl⟩ := hSl f hf
  have hi2 : s.fieldFound? (jm_cn c) (jm_fT c f).2.1 (jm_fT c f).2.2.1 = some (cf, kf, fi, fd) := by rw [← k7 f hf]; exact hi
  have hlay := hts _ (k2 _ (u_in_lay hf))
  have hst := (u_facts hfc hkC (u_lays hts k2 hf) hi).1
  have fin : ∀ H1 : Heap, H1[jm_al b sa a]? = some (cell.setSlot (D.2 c f) (jm_tv (jm_al b sa) v)) → H1.size = H.size → (∀ q, q ≠ jm_al b sa a → H1[q]? = H[q]?) → ∀ j, W p l e R s m args below meth cd H1 (locs ++ [⟨jm_al b sa a, j⟩]) uc us Q (F0 m (pc + 3) ls (st.map (jm_tv (jm_al b sa)))) := by
    intro H1 e1 z oq j
    refine hg H1 _ ls (jm_R_upd hR h1 p1 p2 p3 p4 p5 ?_ z oq) (jm_put_S hS z oq (jm_rw2 h1).1) hL
    rw [jm_en_4 (σ := τ) (k := c) (by rw [p2, h2]), jm_fs_set p6 p7]
    exact ⟨_, k1, t_OB.to (V := updV (vp_V ((List.range (jm_fn c)).map (jm_fv (jm_al b sa) σ a c))) f (jm_tv (jm_al b sa) v)) ⟨_, e1, q2, q3, t_set q4 hap hf _⟩ (fun j _ => vp_updV_set (by simpa using hf) _ j)⟩
  unfold u_lay at hlay
  by_cases hfin : (jm_fT c f).2.2.2 = true
  · rw [if_pos hfin] at hlay
    obtain ⟨hkd, how⟩ := h3 hfin
    have hcf : m.cls = cf := by
      obtain ⟨_, _, c', _, _, _, -, -, hf', -, -, -, hown2, -⟩ := Cond.laysFinal_spec hlay
      have e1 : c' = cf := by have := hi.symm.trans hf'; simp at this; exact this.1.symm
      rw [k7 f hf, ← how] at hown2
      rw [← e1]; exact Option.some.inj (hown.symm.trans hown2)
    have h6 := u_fits hfc hkC hkind (Or.inr hlay) hi (k3 f hf) p8 p9
    refine W.putFinK hx hb hown (hts _ hlk) hi2 hst hcf (hin hkd) (by rw [q2]; exact h6) q1 q3 (by rw [hsl]; exact k2_hasslot (q4 f hf)) rfl rfl hd fun H' e1 e2 e3 => ?_
    rw [hsl] at e1 ⊢
    exact fin H' e1 e2 e3 _
  · rw [if_neg hfin] at hlay
    have h6 := u_store hfc hkC hkind hlay hi (k3 f hf) p8 p9
    refine W.putK hx hb (f := fd) ⟨hown, hts _ hlk, ⟨_, _, _, hi2⟩, hst⟩ (by rw [q2]; exact h6) q1 q3 (by rw [hsl]; exact k2_hasslot (q4 f hf)) rfl rfl hd fun H' e1 e2 e3 => ?_
    rw [hsl] at e1 ⊢
    exact fin H' e1 e2 e3 _
theorem jg_getstatic {k a z n : Nat} (hl : n = 3) (hd : decode (jr_cd r) pc = .ok (.getstatic k, n)) (hp : jm_pool (jr_ow r) k = some (4, a, z)) (hG : jm_G b sa D cs rn rf r x uc us (pc + n) lv (.ref a :: st) σ) : jm_G b sa D cs rn rf r x uc us pc lv st σ := by
  subst hl
  intro p l e R s m args below meth cd Q C H locs ls hR hS hL
  have hg := hG p l e R s m args below meth cd Q C H locs ls hR hS hL
  obtain ⟨hx, hb, hml, hown, hts, hW0, hbs, hin, hfr, hlo, hmc, hms, hQ⟩ := C
  obtain ⟨ha, hlk⟩ := jm_lkp hp
  have ha : a < 8 := ha
  have hZ := hW0.2.2.2 a ha
  have hal : jm_al b sa a = sa a := by unfold jm_al; rw [if_pos (by omega)]
  have hg : W p l e R s m args below meth cd H locs uc us Q (F0 m (pc + 3) ls (.ref (jm_al b sa a) :: st.map (jm_tv (jm_al b sa)))) := hg
  rw [hal] at hg
  rcases hlk with hlk | ⟨host, hlk⟩
  · exact va_gets hx hb hZ hS hown (hts _ hlk) (fun _ h => h) hd hg
  · exact va_getsN hx hb hZ hS hown (va_Nw.use rfl (hW0.2.1 _ hlk)) (fun _ h => h) hd hg
theorem jg_ldc {k n : Nat} {v : Int32} (hl : n = 2) (hd : decode (jr_cd r) pc = .ok (.ldc k, n)) (hp : jm_lk (jm_ki (jr_ow r)) k = some v) (hG : jm_G b sa D cs rn rf r x uc us (pc + n) lv (.int v :: st) σ) : jm_G b sa D cs rn rf r x uc us pc lv st σ := by
  subst hl
  intro p l e R s m args below meth cd Q C H locs ls hR hS hL
  exact lv_ldc C.1 C.2.1 C.2.2.2.1 (C.2.2.2.2.1 _ (jm_kiall _ _ (jm_lk_mem hp))) hd (hG p l e R s m args below meth cd Q C H locs ls hR hS hL)
theorem jg_ldcw {k n : Nat} {v : Int32} (hl : n = 3) (hd : decode (jr_cd r) pc = .ok (.ldc_w k, n)) (hp : jm_lk (jm_ki (jr_ow r)) k = some v) (hG : jm_G b sa D cs rn rf r x uc us (pc + n) lv (.int v :: st) σ) : jm_G b sa D cs rn rf r x uc us pc lv st σ := by
  subst hl
  intro p l e R s m args below meth cd Q C H locs ls hR hS hL
  exact lv_ldcw C.1 C.2.1 C.2.2.2.1 (C.2.2.2.2.1 _ (jm_kiall _ _ (jm_lk_mem hp))) hd (hG p l e R s m args below meth cd Q C H locs ls hR hS hL)
theorem jg_ldc2 {k n : Nat} {v : Int64} (hl : n = 3) (hd : decode (jr_cd r) pc = .ok (.ldc2_w k, n)) (hp : jm_lk (jm_kl (jr_ow r)) k = some v) (hG : jm_G b sa D cs rn rf r x uc us (pc + n) lv (.long v :: st) σ) : jm_G b sa D cs rn rf r x uc us pc lv st σ := by
  subst hl
  intro p l e R s m args below meth cd Q C H locs ls hR hS hL
  exact lv_ldc2 C.1 C.2.1 C.2.2.2.1 (C.2.2.2.2.1 _ (jm_klall _ _ (jm_lk_mem hp))) hd (hG p l e R s m args below meth cd Q C H locs ls hR hS hL)
theorem jm_new_S {H0 H H1 : Heap} {locs : List Loc} (hS : va_S (jm_A b) H0 H locs) (z : H1.size = H.size + 1) (oq : ∀ q : Nat, q < H.size → H1[q]? = H[q]?) : va_S (jm_A b) H0 H1 locs :=
  ⟨Nat.le_trans hS.1 (by omega), fun q h1 h2 => (oq q (Nat.lt_of_lt_of_le h1 hS.1)).trans (hS.2.1 q h1 h2), hS.2.2⟩
theorem jg_new {k c z n : Nat} (hl : n = 3) (hd : decode (jr_cd r) pc = .ok (.new k, n)) (hp : jm_pool (jr_ow r) k = some (5, c, z)) (h : uc + 1 ≤ jr_mc r ∧ us + jm_fn c ≤ jr_ms r) (hG : jm_G b sa D cs rn rf r x (uc + 1) (us + jm_fn c) (pc + n) lv (.ref σ.1 :: st) (jm_nw σ (c + 4, jm_fn c))) : jm_G b sa D cs rn rf r x uc us pc lv st σ := by
  subst hl
  intro p l e R s m args below meth cd Q C H locs ls hR hS hL
  have hg := hG p l e R s m args below meth cd Q C
  obtain ⟨hx, hb, hml, hown, hts, hW0, hbs, hin, hfr, hlo, hmc, hms, hQ⟩ := C
  obtain ⟨hc, hlk⟩ := jm_lkp hp
  obtain ⟨k1, k2, k3, k4, k5, k6, k7⟩ := jm_call_ok c hc
  have hKn := hW0.1.1 c _ k1
  have hal : jm_al b sa σ.1 = H.size := by rw [jm_al_9 hR.1]; have := hR.2.1; have := hR.1; omega
  refine W.newcK hx hb hown (hts _ hlk) (hts _ k5) (hts _ k6) rfl hd (by rw [hmc]; exact h.1) (by rw [hms]; exact h.2) hKn.2.1 rfl fun H1 kC hkC e1 z1 o1 => ?_
  rw [← hal]
  refine hg H1 locs ls (jm_R_new hR ?_ z1 o1) (jm_new_S hS z1 o1) hL
  rw [jm_en_4 (σ := jm_nw σ (c + 4, jm_fn c)) (k := c) (by simp [jm_nw, jm_uA])]
  refine ⟨_, k1, (u_born (jm_ft c) hts k2 hKn hkC e1 k3).to fun j hj => ?_⟩
  show defaultValue (jm_ft c j) = vp_V ((List.range (jm_fn c)).map _) j
  unfold vp_V
  rw [List.getD_eq_getElem?_getD, jm_fs_get hj]
  show defaultValue (jm_ft c j) = jm_fv _ _ _ _ _
  unfold jm_fv
  have e1 : (jm_nw σ (c + 4, jm_fn c)).2.2.2.1 σ.1 j = 0 := by simp [jm_nw, jm_uA]
  have e2 : (jm_nw σ (c + 4, jm_fn c)).2.2.2.2 σ.1 j = 0 := by simp [jm_nw, jm_uA]
  have e3 : (jm_nw σ (c + 4, jm_fn c)).2.2.1 σ.1 j = none := by simp [jm_nw, jm_uA]
  rw [e1, e2, e3]
  have hok : jm_ft c j = .int ∨ jm_ft c j = .boolean ∨ jm_ft c j = .long ∨ (∃ q, jm_ft c j = .object q) ∨ ∃ q, jm_ft c j = .array q := jm_ft_ok c hc j hj
  rcases hok with q | q | q | ⟨_, q⟩ | ⟨_, q⟩ <;> rw [q] <;> rfl
theorem jm_cA {ty : FieldType} {cA cB : ClassId} {s : State} (h1 : s.vm.findClass ("[" ++ ty.toString) = some cA) (h2 : s.vm.findClass ("[" ++ ty.toString) = some cB) : cA = cB := Option.some.inj (h1.symm.trans h2)
theorem jg_newarray {t : ArrayType} {g n : Nat} {y : Int32} (hl : n = 2) (hd : decode (jr_cd r) pc = .ok (.newarray t, n)) (ht : jm_at t = some g) (h : ¬ y < 0 ∧ y.toNatClampNeg ≤ 60000 ∧ uc + 1 ≤ jr_mc r ∧ us + y.toNatClampNeg ≤ jr_ms r) (hG : jm_G b sa D cs rn rf r x (uc + 1) (us + y.toNatClampNeg) (pc + n) lv (.ref σ.1 :: st) (jm_nw σ (g, y.toNatClampNeg))) : jm_G b sa D cs rn rf r x uc us pc lv (.int y :: st) σ := by
  subst hl
  intro p l e R s m args below meth cd Q C H locs ls hR hS hL
  have hg := hG p l e R s m args below meth cd Q C
  obtain ⟨hx, hb, hml, hown, hts, hW0, hbs, hin, hfr, hlo, hmc, hms, hQ⟩ := C
  have hal : jm_al b sa σ.1 = H.size := by rw [jm_al_9 hR.1]; have := hR.2.1; have := hR.1; omega
  have harr : (Cond.arrayClass (newarray.typeOf t)).before args s = true := by
    cases t <;> first | exact hts _ jm_arrI | exact hts _ jm_arrL | exact hts _ jm_arrZ | cases ht
  have hby : y.toNatClampNeg * componentBytes (newarray.typeOf t) ≤ 536870912 := by
    have h2 := h.2.1
    cases t <;> first | (cases ht; done) | (simp only [newarray.typeOf, componentBytes]; omega)
  refine va_newaK hx hb harr rfl hd rfl h.1 rfl hby (by rw [hmc]; exact h.2.2.1) (by rw [hms]; exact h.2.2.2) rfl fun H1 cA e1 z1 o1 hAr hNm => ?_
  rw [← hal]
  refine hg H1 locs ls (jm_R_new hR ?_ z1 o1) (jm_new_S hS z1 o1) hL
  cases t <;> simp only [jm_at] at ht <;> first | (cases ht; done) | cases ht
  · rw [jm_en_2 (σ := jm_nw σ (2, y.toNatClampNeg)) (by simp [jm_nw, jm_uA])]
    have hc := jm_cA (ty := .boolean) hNm (hW0.1.2 2 _ jm_tys2).2
    subst hc
    show H1[H.size]? = some (vp_cell _ _)
    rw [e1, vp_cell_i]
    simp only [jm_nw, jm_uA, if_true]
    rfl
  · rw [jm_en_0 (σ := jm_nw σ (0, y.toNatClampNeg)) (by simp [jm_nw, jm_uA])]
    have hc := jm_cA (ty := .int) hNm (hW0.1.2 0 _ jm_tys0).2
    subst hc
    show H1[H.size]? = some (vp_cell _ _)
    rw [e1, vp_cell_i]
    simp only [jm_nw, jm_uA, if_true]
    rfl
  · rw [jm_en_1 (σ := jm_nw σ (1, y.toNatClampNeg)) (by simp [jm_nw, jm_uA])]
    have hc := jm_cA (ty := .long) hNm (hW0.1.2 1 _ jm_tys1).2
    subst hc
    show H1[H.size]? = some (vp_cell _ _)
    rw [e1, vp_cell_l]
    simp only [jm_nw, jm_uA, if_true]
    rfl
theorem jg_anewarray {k z n : Nat} {y : Int32} (hl : n = 3) (hd : decode (jr_cd r) pc = .ok (.anewarray k, n)) (hp : jm_pool (jr_ow r) k = some (5, 0, z)) (h : ¬ y < 0 ∧ y.toNatClampNeg ≤ 60000 ∧ uc + 1 ≤ jr_mc r ∧ us + y.toNatClampNeg ≤ jr_ms r) (hG : jm_G b sa D cs rn rf r x (uc + 1) (us + y.toNatClampNeg) (pc + n) lv (.ref σ.1 :: st) (jm_nw σ (3, y.toNatClampNeg))) : jm_G b sa D cs rn rf r x uc us pc lv (.int y :: st) σ := by
  subst hl
  intro p l e R s m args below meth cd Q C H locs ls hR hS hL
  have hg := hG p l e R s m args below meth cd Q C
  obtain ⟨hx, hb, hml, hown, hts, hW0, hbs, hin, hfr, hlo, hmc, hms, hQ⟩ := C
  obtain ⟨hc, hlk⟩ := jm_lkp hp
  have hal : jm_al b sa σ.1 = H.size := by rw [jm_al_9 hR.1]; have := hR.2.1; have := hR.1; omega
  refine W.anew hx hb hown (hts _ hlk) (va_AO.use (hW0.2.1 _ jm_arrF)) rfl hd rfl h.1 (by have := h.2.1; omega) (by rw [hmc]; exact h.2.2.1) (by rw [hms]; exact h.2.2.2) fun cA kA comp f1 f2 f3 f4 => ?_
  have e1 := fun q => Array.getElem?_push (xs := H) (i := q) (x := ({ cls := cA, slots := Array.replicate y.toNatClampNeg .null, vm := .none } : Cell))
  rw [← hal]
  refine hg _ locs ls (jm_R_new hR ?_ (by simp) (fun q hq => by rw [e1, if_neg (Nat.ne_of_lt hq)])) (jm_new_S hS (by simp) (fun q hq => by rw [e1, if_neg (Nat.ne_of_lt hq)])) hL
  rw [jm_en_3 (σ := jm_nw σ (3, y.toNatClampNeg)) (by simp [jm_nw, jm_uA])]
  obtain ⟨kA', comp', k1, k2, k3, k4⟩ := (hW0.1.2 3 _ jm_tys3).2
  have hcA : cA = cs.2.2.2 := Option.some.inj (f1.symm.trans k4)
  subst hcA
  show (H.push _)[H.size]? = some (vp_cell _ _)
  rw [e1, if_pos rfl, vp_cell_q, arrV_new]
  simp only [jm_nw, jm_uA, if_true]
  rfl
theorem jg_objinit {k y z a n : Nat} (hl : n = 3) (hr : r ∈ jm_rows) (hkd : jr_kd r = 2) (hd : decode (jr_cd r) pc = .ok (.invokespecial k, n)) (hp : jm_pool (jr_ow r) k = some (1, y, z)) (hG : jm_G b sa D cs rn rf r x uc us (pc + n) lv [] σ) : jm_G b sa D cs rn rf r x uc us pc lv [.ref a] σ := by
  subst hl
  intro p l e R s m args below meth cd Q C H locs ls hR hS hL
  have hg := hG p l e R s m args below meth cd Q C H locs ls hR hS hL
  obtain ⟨hx, hb, hml, hown, hts, hW0, hbs, hin, hfr, hlo, hmc, hms, hQ⟩ := C
  have hlk : Cond.methodLink (jm_cn (jr_ow r)) k Lib.objectInit ∈ lw_good := jm_lkp hp
  have hmk := (jm_mall r hr).2.2.2.2.2.2
  rw [hkd] at hmk
  have h5 : 1 ≤ jr_fr r ∧ 12 ≤ jr_lo r := ⟨hmk.2.2.2.2.1, hmk.2.2.2.2.2⟩
  exact W.objInit hx hb hown (hts _ hlk) (hts _ jm_oi) (hts _ jm_oc) rfl (by rw [hml]; exact hL.2.1) rfl hd (by rw [hfr]; exact h5.1) (by rw [hlo]; exact h5.2) hg
theorem jm_rtok_w {v : Option Value} {pc : Nat} {p : Program} {l : Launch} {e : Env} {R : Room} {s : State} {m : MethodId} {args : Array Value} {below : List Frame} {meth : Method} {c : Code} {Qc : Array Value → State → Outcome → State → Prop} {free : Addr → Prop} {H : Heap} {locs : List Loc} {cells slots : Nat} {ls : Array Slot} {α : Nat → Nat} (h : jm_rtok r v pc)
    (hx : p.tables.exec = Jvm.exec) (hb : c.code = jr_cd r) (hr : meth.sig.returnType = jr_rt r) (hlocks : meth.locks = false) (hq : ∀ t : State, t.heap = H → s.WarmedH t.vm → Qc args s (.returned (v.map (jm_tv α))) t) (hf : ∀ q ∈ locs, free q.base) :
    W p l e R s m args below meth c H locs cells slots (MQ below Qc args s cells slots free) (F0 m pc ls (v.toList.map (jm_tv α))) := by
  match v, h with
  | none, h => exact W.vret hx hb (hr.trans h.2) hq hf h.1 hlocks
  | some (.int y), h =>
    rcases h.2 with q | ⟨q, hy⟩
    · exact W.iret hx hb (hr.trans q) hq hf h.1 hlocks
    · exact W.zret hx hb (hr.trans q) (by rcases hy with rfl | rfl <;> rfl) hq hf h.1 hlocks
  | some (.long y), h => exact W.lret hx hb (hr.trans h.2) hq hf h.1 hlocks
  | some (.ref y), h =>
    rcases h.2 with ⟨n, q⟩ | ⟨n, q⟩
    · exact W.aret hx hb (hr.trans q) (Or.inl ⟨_, rfl⟩) (Or.inr ⟨_, rfl⟩) hq hf h.1 hlocks
    · exact W.aret hx hb (hr.trans q) (Or.inr ⟨_, rfl⟩) (Or.inr ⟨_, rfl⟩) hq hf h.1 hlocks
end JOBJ
