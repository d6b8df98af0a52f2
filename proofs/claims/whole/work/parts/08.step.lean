/-- the return's instruction fits what is returned -/
def jm_rtok (r : jm_Row) (v : Option Value) (pc : Nat) : Prop := match v with
  | none => decode (jr_cd r) pc = .ok (.return_, 1) ∧ jr_rt r = none
  | some (.int x) => decode (jr_cd r) pc = .ok (.ireturn, 1) ∧ (jr_rt r = some .int ∨ (jr_rt r = some .boolean ∧ (x = 0 ∨ x = 1)))
  | some (.long _) => decode (jr_cd r) pc = .ok (.lreturn, 1) ∧ jr_rt r = some .long
  | some (.ref _) => decode (jr_cd r) pc = .ok (.areturn, 1) ∧ ((∃ n, jr_rt r = some (.object n)) ∨ ∃ t, jr_rt r = some (.array t))
  | _ => False
section JSTEP
variable (b : Nat) (sa : Nat → Nat) (D : va_G) (cs : jm_cs) (rn : Nat → Nat) (rf : Nat → Nat → Int32)
/-- where a frame of the method r stands, and that its end is enough -/
def jm_C (r : jm_Row) (x : Option Value × jm_S) (p : Program) (l : Launch) (e : Env) (R : Room) (s : State) (m : MethodId) (args : Array Value) (below : List Frame) (meth : Method) (c : Code) (Q : State → Prop) : Prop :=
  p.tables.exec = Jvm.exec ∧ c.code = jr_cd r ∧ c.maxLocals = jr_ml r ∧ s.vm.findClass (jm_cn (jr_ow r)) = some m.cls ∧ (∀ w ∈ lw_good, w.before args s = true) ∧ jm_W0 b sa D cs rn rf s s.heap ∧ b ≤ s.heap.size ∧ (jr_kd r = 2 → meth.name = "<init>") ∧ R.frames = jr_fr r ∧ R.locals = jr_lo r ∧ R.cells = jr_mc r ∧ R.slots = jr_ms r ∧
  ∀ (H : Heap) (locs : List Loc) (ls : Array Slot) (pc uc us : Nat), uc ≤ jr_mc r → us ≤ jr_ms r → jm_R b sa D cs rn rf x.2 H → va_S (jm_A b) s.heap H locs → jm_rtok r x.1 pc → W p l e R s m args below meth c H locs uc us Q (F0 m pc ls (x.1.toList.map (jm_tv (jm_al b sa))))
/-- from here the machine comes to the end that is wanted -/
def jm_G (r : jm_Row) (x : Option Value × jm_S) (uc us pc : Nat) (lv st : List Value) (σ : jm_S) : Prop :=
  ∀ (p : Program) (l : Launch) (e : Env) (R : Room) (s : State) (m : MethodId) (args : Array Value) (below : List Frame) (meth : Method) (c : Code) (Q : State → Prop), jm_C b sa D cs rn rf r x p l e R s m args below meth c Q →
    ∀ (H : Heap) (locs : List Loc) (ls : Array Slot), jm_R b sa D cs rn rf σ H → va_S (jm_A b) s.heap H locs → jm_hl (jm_al b sa) ls (jr_ml r) lv → W p l e R s m args below meth c H locs uc us Q (F0 m pc ls (st.map (jm_tv (jm_al b sa))))
end JSTEP
section JROWS
variable {b : Nat} {sa : Nat → Nat} {D : va_G} {cs : jm_cs} {rn : Nat → Nat} {rf : Nat → Nat → Int32} {r : jm_Row} {x : Option Value × jm_S} {uc us pc : Nat} {lv st : List Value} {σ : jm_S}
theorem jm_tg_eq {pc : Nat} {off : Int} {t : Nat} (h : jm_tg pc off = some t) : (pc : Int) + off = (t : Int) := by
  unfold jm_tg at h
  split at h
  · cases h; omega
  · cases h
theorem jm_hin {j : Int32} {n : Nat} (h : jm_in j n = true) : vp_in j n := of_decide_eq_true (p := ¬ (j < 0 ∨ n ≤ j.toNatClampNeg)) h
theorem jg_ld_i {k : Nat} {y : Int32} (hv : lv[k]? = some (.int y)) {ls : Array Slot} {α : Nat → Nat} {nL : Nat} (h : jm_hl α ls nL lv) : ls[k]? = some (.val (.int y)) := h.2.2.2 k (.int y) hv (by simp)
theorem jg_ld_l {k : Nat} {y : Int64} (hv : lv[k]? = some (.long y)) {ls : Array Slot} {α : Nat → Nat} {nL : Nat} (h : jm_hl α ls nL lv) : ls[k]? = some (.val (.long y)) := h.2.2.2 k (.long y) hv (by simp)
theorem jg_ld_a {k : Nat} {y : Nat} (hv : lv[k]? = some (.ref y)) {ls : Array Slot} {α : Nat → Nat} {nL : Nat} (h : jm_hl α ls nL lv) : ls[k]? = some (.val (.ref (α y))) := h.2.2.2 k (.ref y) hv (by simp)
theorem jg_istore {k : Nat} {y : Int32} {n : Nat} (hl : n = 2) (hd : decode (jr_cd r) pc = .ok (.istore k, n)) (hk : k < lv.length) (hG : jm_G b sa D cs rn rf r x uc us (pc + n) (jm_s1 lv k (.int y)) st σ) : jm_G b sa D cs rn rf r x uc us pc lv (.int y :: st) σ := by
  subst hl
  intro p l e R s m args below meth c Q C H locs ls hR hS hL
  exact lv_istore C.1 C.2.1 hd (jm_hl_has hL) (by rw [← hL.1]; exact hk) rfl (fun ls' h' => hG p l e R s m args below meth c Q C H locs ls' hR hS (jm_hl_s1 (v := .int y) hL h'))
theorem jg_istore_n {k : Fin 4} {y : Int32} {n : Nat} (hl : n = 1) (hd : decode (jr_cd r) pc = .ok (.istore_n k, n)) (hk : (k : Nat) < lv.length) (hG : jm_G b sa D cs rn rf r x uc us (pc + n) (jm_s1 lv k (.int y)) st σ) : jm_G b sa D cs rn rf r x uc us pc lv (.int y :: st) σ := by
  subst hl
  intro p l e R s m args below meth c Q C H locs ls hR hS hL
  exact lv_istore_n C.1 C.2.1 hd rfl (jm_hl_has hL) (by rw [← hL.1]; exact hk) rfl (fun ls' h' => hG p l e R s m args below meth c Q C H locs ls' hR hS (jm_hl_s1 (v := .int y) hL h'))
theorem jg_astore {k y : Nat} {n : Nat} (hl : n = 2) (hd : decode (jr_cd r) pc = .ok (.astore k, n)) (hk : k < lv.length) (hG : jm_G b sa D cs rn rf r x uc us (pc + n) (jm_s1 lv k (.ref y)) st σ) : jm_G b sa D cs rn rf r x uc us pc lv (.ref y :: st) σ := by
  subst hl
  intro p l e R s m args below meth c Q C H locs ls hR hS hL
  exact lv_astore C.1 C.2.1 hd (jm_hl_has hL) (by rw [← hL.1]; exact hk) rfl (fun ls' h' => hG p l e R s m args below meth c Q C H locs ls' hR hS (jm_hl_s1 (v := .ref y) hL h'))
theorem jg_astore_n {k : Fin 4} {y : Nat} {n : Nat} (hl : n = 1) (hd : decode (jr_cd r) pc = .ok (.astore_n k, n)) (hk : (k : Nat) < lv.length) (hG : jm_G b sa D cs rn rf r x uc us (pc + n) (jm_s1 lv k (.ref y)) st σ) : jm_G b sa D cs rn rf r x uc us pc lv (.ref y :: st) σ := by
  subst hl
  intro p l e R s m args below meth c Q C H locs ls hR hS hL
  exact lv_astore_n C.1 C.2.1 hd rfl (jm_hl_has hL) (by rw [← hL.1]; exact hk) rfl (fun ls' h' => hG p l e R s m args below meth c Q C H locs ls' hR hS (jm_hl_s1 (v := .ref y) hL h'))
theorem jg_lstore {k : Nat} {y : Int64} {n : Nat} (hl : n = 2) (hd : decode (jr_cd r) pc = .ok (.lstore k, n)) (hk : k + 1 < lv.length) (hG : jm_G b sa D cs rn rf r x uc us (pc + n) (jm_s2 lv k (.long y)) st σ) : jm_G b sa D cs rn rf r x uc us pc lv (.long y :: st) σ := by
  subst hl
  intro p l e R s m args below meth c Q C H locs ls hR hS hL
  exact lv_lstore C.1 C.2.1 hd (jm_hl_has hL) (by rw [← hL.1]; exact hk) rfl (fun ls' h' => hG p l e R s m args below meth c Q C H locs ls' hR hS (jm_hl_s2 (v := .long y) hL h'))
theorem jg_lstore_n {k : Fin 4} {y : Int64} {n : Nat} (hl : n = 1) (hd : decode (jr_cd r) pc = .ok (.lstore_n k, n)) (hk : (k : Nat) + 1 < lv.length) (hG : jm_G b sa D cs rn rf r x uc us (pc + n) (jm_s2 lv k (.long y)) st σ) : jm_G b sa D cs rn rf r x uc us pc lv (.long y :: st) σ := by
  subst hl
  intro p l e R s m args below meth c Q C H locs ls hR hS hL
  exact lv_lstore_n C.1 C.2.1 hd rfl (jm_hl_has hL) (by rw [← hL.1]; exact hk) rfl (fun ls' h' => hG p l e R s m args below meth c Q C H locs ls' hR hS (jm_hl_s2 (v := .long y) hL h'))
theorem jg_iinc {k : Nat} {y : Int32} {i : Int} {n : Nat} (hl : n = 3) (hd : decode (jr_cd r) pc = .ok (.iinc k i, n)) (hv : lv[k]? = some (.int y)) (hG : jm_G b sa D cs rn rf r x uc us (pc + n) (jm_s1 lv k (.int (y + Int32.ofInt i))) st σ) : jm_G b sa D cs rn rf r x uc us pc lv st σ := by
  subst hl
  intro p l e R s m args below meth c Q C H locs ls hR hS hL
  obtain ⟨j, hj⟩ := List.getElem?_of_mem (jm_ps_mem (α := jm_al b sa) (lv := lv) (q := (k, .int y)) |>.mpr ⟨.int y, hv, by simp, rfl⟩)
  exact lv_iinc C.1 C.2.1 hd (jm_hl_has hL) hj rfl (by rw [← hL.1]; exact (List.getElem?_eq_some_iff.mp hv).1) rfl (fun ls' h' => hG p l e R s m args below meth c Q C H locs ls' hR hS (jm_hl_s1 (v := .int (y + Int32.ofInt i)) hL h'))
theorem jg_if {cd : ClassFile.Cond} {off : Int} {t : Nat} {y : Int32} {n : Nat} (hl : n = 3) (hd : decode (jr_cd r) pc = .ok (.ifCond cd off, n)) (ht : jm_tg pc off = some t) (hG : jm_G b sa D cs rn rf r x uc us (if jm_cnd cd y 0 then t else pc + 3) lv st σ) : jm_G b sa D cs rn rf r x uc us pc lv (.int y :: st) σ := by
  subst hl
  intro p l e R s m args below meth c Q C H locs ls hR hS hL
  have hg := hG p l e R s m args below meth c Q C H locs ls hR hS hL
  have ht := jm_tg_eq ht
  cases cd
  · exact lv_if_eq C.1 C.2.1 hd ht (fun h => by rw [if_pos (show jm_cnd ClassFile.Cond.eq y 0 = true from decide_eq_true h)] at hg; exact hg) (fun h => by rw [if_neg (show ¬ jm_cnd ClassFile.Cond.eq y 0 = true from fun q => h (of_decide_eq_true q))] at hg; exact hg)
  · exact lv_if_ne C.1 C.2.1 hd ht (fun h => by rw [if_pos (show jm_cnd ClassFile.Cond.ne y 0 = true from decide_eq_true h)] at hg; exact hg) (fun h => by rw [if_neg (show ¬ jm_cnd ClassFile.Cond.ne y 0 = true from fun q => (of_decide_eq_true q) h)] at hg; exact hg)
  · exact lv_if_lt C.1 C.2.1 hd ht (fun h => by rw [if_pos (show jm_cnd ClassFile.Cond.lt y 0 = true from decide_eq_true h)] at hg; exact hg) (fun h => by rw [if_neg (show ¬ jm_cnd ClassFile.Cond.lt y 0 = true from fun q => h (of_decide_eq_true q))] at hg; exact hg)
  · exact lv_if_ge C.1 C.2.1 hd ht (fun h => by rw [if_pos (show jm_cnd ClassFile.Cond.ge y 0 = true from decide_eq_true h)] at hg; exact hg) (fun h => by rw [if_neg (show ¬ jm_cnd ClassFile.Cond.ge y 0 = true from fun q => h (of_decide_eq_true q))] at hg; exact hg)
  · exact lv_if_gt C.1 C.2.1 hd ht (fun h => by rw [if_pos (show jm_cnd ClassFile.Cond.gt y 0 = true from decide_eq_true h)] at hg; exact hg) (fun h => by rw [if_neg (show ¬ jm_cnd ClassFile.Cond.gt y 0 = true from fun q => h (of_decide_eq_true q))] at hg; exact hg)
  · exact lv_if_le C.1 C.2.1 hd ht (fun h => by rw [if_pos (show jm_cnd ClassFile.Cond.le y 0 = true from decide_eq_true h)] at hg; exact hg) (fun h => by rw [if_neg (show ¬ jm_cnd ClassFile.Cond.le y 0 = true from fun q => h (of_decide_eq_true q))] at hg; exact hg)
theorem jg_icmp {cd : ClassFile.Cond} {off : Int} {t : Nat} {y z : Int32} {n : Nat} (hl : n = 3) (hd : decode (jr_cd r) pc = .ok (.if_icmp cd off, n)) (ht : jm_tg pc off = some t) (hG : jm_G b sa D cs rn rf r x uc us (if jm_cnd cd y z then t else pc + 3) lv st σ) : jm_G b sa D cs rn rf r x uc us pc lv (.int z :: .int y :: st) σ := by
  subst hl
  intro p l e R s m args below meth c Q C H locs ls hR hS hL
  have hg := hG p l e R s m args below meth c Q C H locs ls hR hS hL
  have ht := jm_tg_eq ht
  cases cd
  · exact lv_icmp_eq C.1 C.2.1 hd ht (fun h => by rw [if_pos (show jm_cnd ClassFile.Cond.eq y z = true from decide_eq_true h)] at hg; exact hg) (fun h => by rw [if_neg (show ¬ jm_cnd ClassFile.Cond.eq y z = true from fun q => h (of_decide_eq_true q))] at hg; exact hg)
  · exact lv_icmp_ne C.1 C.2.1 hd ht (fun h => by rw [if_pos (show jm_cnd ClassFile.Cond.ne y z = true from decide_eq_true h)] at hg; exact hg) (fun h => by rw [if_neg (show ¬ jm_cnd ClassFile.Cond.ne y z = true from fun q => (of_decide_eq_true q) h)] at hg; exact hg)
  · exact lv_icmp_lt C.1 C.2.1 hd ht (fun h => by rw [if_pos (show jm_cnd ClassFile.Cond.lt y z = true from decide_eq_true h)] at hg; exact hg) (fun h => by rw [if_neg (show ¬ jm_cnd ClassFile.Cond.lt y z = true from fun q => h (of_decide_eq_true q))] at hg; exact hg)
  · exact lv_icmp_ge C.1 C.2.1 hd ht (fun h => by rw [if_pos (show jm_cnd ClassFile.Cond.ge y z = true from decide_eq_true h)] at hg; exact hg) (fun h => by rw [if_neg (show ¬ jm_cnd ClassFile.Cond.ge y z = true from fun q => h (of_decide_eq_true q))] at hg; exact hg)
  · exact lv_icmp_gt C.1 C.2.1 hd ht (fun h => by rw [if_pos (show jm_cnd ClassFile.Cond.gt y z = true from decide_eq_true h)] at hg; exact hg) (fun h => by rw [if_neg (show ¬ jm_cnd ClassFile.Cond.gt y z = true from fun q => h (of_decide_eq_true q))] at hg; exact hg)
  · exact lv_icmp_le C.1 C.2.1 hd ht (fun h => by rw [if_pos (show jm_cnd ClassFile.Cond.le y z = true from decide_eq_true h)] at hg; exact hg) (fun h => by rw [if_neg (show ¬ jm_cnd ClassFile.Cond.le y z = true from fun q => h (of_decide_eq_true q))] at hg; exact hg)
theorem jg_table {d lo hi : Int} {offs : Array Int} {off : Int} {t : Nat} {y : Int32} {n : Nat} (hd : decode (jr_cd r) pc = .ok (.tableswitch d lo hi offs, n)) (ho : jm_sw d lo hi offs y.toInt = some off) (ht : jm_tg pc off = some t) (hG : jm_G b sa D cs rn rf r x uc us t lv st σ) : jm_G b sa D cs rn rf r x uc us pc lv (.int y :: st) σ := by
  intro p l e R s m args below meth c Q C H locs ls hR hS hL
  have hg := hG p l e R s m args below meth c Q C H locs ls hR hS hL
  have ht := jm_tg_eq ht
  unfold jm_sw at ho
  split at ho
  · rename_i h
    cases ho
    exact lv_tableOut C.1 C.2.1 hd h ht hg
  · rename_i h
    exact lv_tableIn C.1 C.2.1 hd (fun q => h (Or.inl q)) (fun q => h (Or.inr q)) ho ht hg
theorem jg_lookup {d : Int} {ps : Array (Int × Int)} {off : Int} {t : Nat} {y : Int32} {n : Nat} (hd : decode (jr_cd r) pc = .ok (.lookupswitch d ps, n)) (ho : jm_lup d ps y.toInt = some off) (ht : jm_tg pc off = some t) (hG : jm_G b sa D cs rn rf r x uc us t lv st σ) : jm_G b sa D cs rn rf r x uc us pc lv (.int y :: st) σ := by
  intro p l e R s m args below meth c Q C H locs ls hR hS hL
  have hg := hG p l e R s m args below meth c Q C H locs ls hR hS hL
  have ht := jm_tg_eq ht
  unfold jm_lup at ho
  split at ho
  · rename_i h
    cases ho
    exact lv_lookup C.1 C.2.1 hd h rfl ht hg
  · cases ho
/-- the entry of a cell by its kind -/
theorem jm_en_0 {α : Nat → Nat} {a : Nat} (h : (σ.2.1 a).1 = 0) : jm_en α cs σ a = .inl (cs.1, (σ.2.1 a).2, .inl (σ.2.2.2.1 a)) := by unfold jm_en; rw [h]
theorem jm_en_1 {α : Nat → Nat} {a : Nat} (h : (σ.2.1 a).1 = 1) : jm_en α cs σ a = .inl (cs.2.1, (σ.2.1 a).2, .inr (.inl (σ.2.2.2.2 a))) := by unfold jm_en; rw [h]
theorem jm_en_2 {α : Nat → Nat} {a : Nat} (h : (σ.2.1 a).1 = 2) : jm_en α cs σ a = .inl (cs.2.2.1, (σ.2.1 a).2, .inl (σ.2.2.2.1 a)) := by unfold jm_en; rw [h]
theorem jm_en_3 {α : Nat → Nat} {a : Nat} (h : (σ.2.1 a).1 = 3) : jm_en α cs σ a = .inl (cs.2.2.2, (σ.2.1 a).2, .inr (.inr (.inr (.inr (fun j => (σ.2.2.1 a j).map α))))) := by unfold jm_en; rw [h]
theorem jm_en_4 {α : Nat → Nat} {a k : Nat} (h : (σ.2.1 a).1 = k + 4) : jm_en α cs σ a = .inr (k, (List.range (jm_fn k)).map (jm_fv α σ a k)) := by unfold jm_en; rw [h]
theorem jm_rw2 {a : Nat} (h : jm_rw σ a = true) : 9 ≤ a ∧ a < σ.1 := of_decide_eq_true h
theorem jm_at_ws {α : Nat → Nat} {a : Nat} {E : va_E} (h : jm_rw σ a = true) (he : jm_en α cs σ a = E) : (jm_ws α cs σ)[a - 9]? = some (α a, E) := by
  have := jm_ws_at (α := α) (cs := cs) (jm_rw2 h).1 (jm_rw2 h).2
  rw [he] at this
  exact this
theorem jm_tys0 : (jm_ty cs)[0]? = some (cs.1, .int) := rfl
theorem jm_tys1 : (jm_ty cs)[1]? = some (cs.2.1, .long) := rfl
theorem jm_tys2 : (jm_ty cs)[2]? = some (cs.2.2.1, .boolean) := rfl
theorem jm_tys3 : (jm_ty cs)[3]? = some (cs.2.2.2, .object RX0) := rfl
theorem jg_iaload {j : Int32} {a n : Nat} (hl : n = 1) (hd : decode (jr_cd r) pc = .ok (.iaload, n)) (h : a < σ.1 ∧ (σ.2.1 a).1 = 0 ∧ jm_in j (σ.2.1 a).2 = true) (hG : jm_G b sa D cs rn rf r x uc us (pc + n) lv (.int (σ.2.2.2.1 a j.toNatClampNeg) :: st) σ) : jm_G b sa D cs rn rf r x uc us pc lv (.int j :: .ref a :: st) σ := by
  subst hl
  intro p l e R s m args below meth c Q C H locs ls hR hS hL
  have hg := hG p l e R s m args below meth c Q C H locs ls hR hS hL
  obtain ⟨hx, hb, hml, hown, hts, hW0, hbs, hin, hfr, hlo, hmc, hms, hQ⟩ := C
  obtain ⟨h1, h2, h3⟩ := h
  by_cases h9 : 9 ≤ a
  · exact va_iald hx hb hW0.1 hR.2.2.2 (a - 9) 0 (jm_at_ws (decide_eq_true ⟨h9, h1⟩) (jm_en_0 h2)) jm_tys0 (jm_hin h3) hd hg
  · have h9 : a < 9 := by omega
    obtain ⟨q1, q2⟩ := hW0.2.2.1 a h9
    obtain ⟨q3, q4⟩ := hR.2.2.1 a h9
    have hal : jm_al b sa a = sa a := by unfold jm_al; rw [if_pos h9]
    show W p l e R s m args below meth c H locs uc us Q (F0 m pc ls (.int j :: .ref (jm_al b sa a) :: st.map (jm_tv (jm_al b sa))))
    rw [hal]
    rw [q3] at h3
    rw [q4] at hg
    exact va_sld hx hb q2 (by omega) (show ¬ jm_A b (sa a) from fun q => by unfold jm_A at q; omega) hS (jm_hin h3) hd hg
theorem jg_baload {j : Int32} {a n : Nat} (hl : n = 1) (hd : decode (jr_cd r) pc = .ok (.baload, n)) (h : jm_rw σ a = true ∧ (σ.2.1 a).1 = 2 ∧ jm_in j (σ.2.1 a).2 = true) (hG : jm_G b sa D cs rn rf r x uc us (pc + n) lv (.int (σ.2.2.2.1 a j.toNatClampNeg) :: st) σ) : jm_G b sa D cs rn rf r x uc us pc lv (.int j :: .ref a :: st) σ := by
  subst hl
  intro p l e R s m args below meth c Q C H locs ls hR hS hL
  have hg := hG p l e R s m args below meth c Q C H locs ls hR hS hL
  exact va_zald C.1 C.2.1 C.2.2.2.2.2.1.1 hR.2.2.2 (a - 9) 2 (jm_at_ws h.1 (jm_en_2 h.2.1)) jm_tys2 (jm_hin h.2.2) hd hg
theorem jg_laload {j : Int32} {a n : Nat} (hl : n = 1) (hd : decode (jr_cd r) pc = .ok (.laload, n)) (h : jm_rw σ a = true ∧ (σ.2.1 a).1 = 1 ∧ jm_in j (σ.2.1 a).2 = true) (hG : jm_G b sa D cs rn rf r x uc us (pc + n) lv (.long (σ.2.2.2.2 a j.toNatClampNeg) :: st) σ) : jm_G b sa D cs rn rf r x uc us pc lv (.int j :: .ref a :: st) σ := by
  subst hl
  intro p l e R s m args below meth c Q C H locs ls hR hS hL
  have hg := hG p l e R s m args below meth c Q C H locs ls hR hS hL
  exact va_lald C.1 C.2.1 C.2.2.2.2.2.1.1 hR.2.2.2 (a - 9) 1 (jm_at_ws h.1 (jm_en_1 h.2.1)) jm_tys1 (jm_hin h.2.2) hd hg
theorem jg_aaload {j : Int32} {a n q : Nat} (hl : n = 1) (hd : decode (jr_cd r) pc = .ok (.aaload, n)) (h : jm_rw σ a = true ∧ (σ.2.1 a).1 = 3 ∧ jm_in j (σ.2.1 a).2 = true) (hq : σ.2.2.1 a j.toNatClampNeg = some q) (hG : jm_G b sa D cs rn rf r x uc us (pc + n) lv (.ref q :: st) σ) : jm_G b sa D cs rn rf r x uc us pc lv (.int j :: .ref a :: st) σ := by
  subst hl
  intro p l e R s m args below meth c Q C H locs ls hR hS hL
  have hg := hG p l e R s m args below meth c Q C H locs ls hR hS hL
  refine va_aldq C.1 C.2.1 C.2.2.2.2.2.1.1 hR.2.2.2 (a - 9) 3 (jm_at_ws h.1 (jm_en_3 h.2.1)) jm_tys3 (jm_hin h.2.2) hd ?_
  simp only [hq]
  exact hg
theorem jg_alen {a n : Nat} (hl : n = 1) (hd : decode (jr_cd r) pc = .ok (.arraylength, n)) (h : a < σ.1 ∧ (σ.2.1 a).1 ≤ 3) (hG : jm_G b sa D cs rn rf r x uc us (pc + n) lv (.int (Int32.ofNat (σ.2.1 a).2) :: st) σ) : jm_G b sa D cs rn rf r x uc us pc lv (.ref a :: st) σ := by
  subst hl
  intro p l e R s m args below meth c Q C H locs ls hR hS hL
  have hg := hG p l e R s m args below meth c Q C H locs ls hR hS hL
  obtain ⟨hx, hb, hml, hown, hts, hW0, hbs, hin, hfr, hlo, hmc, hms, hQ⟩ := C
  obtain ⟨h1, h2⟩ := h
  by_cases h9 : 9 ≤ a
  · have hrw : jm_rw σ a = true := decide_eq_true ⟨h9, h1⟩
    rcases (show (σ.2.1 a).1 = 0 ∨ (σ.2.1 a).1 = 1 ∨ (σ.2.1 a).1 = 2 ∨ (σ.2.1 a).1 = 3 by omega) with q | q | q | q
    · exact va_alen hx hb hW0.1 hR.2.2.2 (a - 9) 0 (jm_at_ws hrw (jm_en_0 q)) jm_tys0 rfl hd hg
    · exact va_alen hx hb hW0.1 hR.2.2.2 (a - 9) 1 (jm_at_ws hrw (jm_en_1 q)) jm_tys1 rfl hd hg
    · exact va_alen hx hb hW0.1 hR.2.2.2 (a - 9) 2 (jm_at_ws hrw (jm_en_2 q)) jm_tys2 rfl hd hg
    · exact va_alen hx hb hW0.1 hR.2.2.2 (a - 9) 3 (jm_at_ws hrw (jm_en_3 q)) jm_tys3 rfl hd hg
  · have h9 : a < 9 := by omega
    obtain ⟨q1, q2⟩ := hW0.2.2.1 a h9
    obtain ⟨q3, q4⟩ := hR.2.2.1 a h9
    have hal : jm_al b sa a = sa a := by unfold jm_al; rw [if_pos h9]
    show W p l e R s m args below meth c H locs uc us Q (F0 m pc ls (.ref (jm_al b sa a) :: st.map (jm_tv (jm_al b sa))))
    rw [hal]
    rw [q3] at hg
    exact va_slen hx hb q2 (by omega) (show ¬ jm_A b (sa a) from fun q => by unfold jm_A at q; omega) hS hd hg
theorem jm_put_S {H0 H H1 : Heap} {locs : List Loc} {a k : Nat} (hS : va_S (jm_A b) H0 H locs) (z : H1.size = H.size) (oq : ∀ q : Nat, q ≠ jm_al b sa a → H1[q]? = H[q]?) (h9 : 9 ≤ a) : va_S (jm_A b) H0 H1 (locs ++ [⟨jm_al b sa a, k⟩]) :=
  hS.put z oq (by show b ≤ jm_al b sa a; rw [jm_al_9 h9]; omega)
theorem jg_iastore {j y : Int32} {a n : Nat} (hl : n = 1) (hd : decode (jr_cd r) pc = .ok (.iastore, n)) (h : jm_rw σ a = true ∧ (σ.2.1 a).1 = 0 ∧ jm_in j (σ.2.1 a).2 = true) (hG : jm_G b sa D cs rn rf r x uc us (pc + n) lv st (σ.1, σ.2.1, σ.2.2.1, jm_u σ.2.2.2.1 a j.toNatClampNeg y, σ.2.2.2.2)) : jm_G b sa D cs rn rf r x uc us pc lv (.int y :: .int j :: .ref a :: st) σ := by
  subst hl
  intro p l e R s m args below meth c Q C H locs ls hR hS hL
  have hK := C.2.2.2.2.2.1.1
  have hP := hR.2.2.2 (a - 9) _ (jm_at_ws h.1 (jm_en_0 h.2.1))
  refine W.iast C.1 C.2.1 hP ((hK.2 0 _ jm_tys0).1 _ _) (fun q => by cases q) (by show ¬ (j < 0 ∨ (arrV _ _ _).slots.size ≤ _); rw [arrV_size]; exact jm_hin h.2.2) rfl rfl hd fun H1 e1 z oq => ?_
  refine hG p l e R s m args below meth c Q C H1 _ ls (jm_R_upd hR h.1 rfl rfl (fun k _ => rfl) (fun k hk => by simp [jm_u, hk]) (fun k _ => rfl) ?_ z oq) (jm_put_S hS z oq (jm_rw2 h.1).1) hL
  rw [jm_en_0 (σ := (σ.1, σ.2.1, σ.2.2.1, jm_u σ.2.2.2.1 a j.toNatClampNeg y, σ.2.2.2.2)) h.2.1]
  show H1[jm_al b sa a]? = some (vp_cell _ _)
  rw [e1]
  show some ((vp_cell _ _).setSlot _ _) = _
  rw [vp_cell_i, vp_cell_i, arrV_store]
  congr 2
  funext q
  by_cases hq : q = j.toNatClampNeg
  · subst hq
    simp [updV, upd, jm_u]
  · simp [updV, upd, jm_u, hq]
theorem jg_bastore {j y : Int32} {a n : Nat} (hl : n = 1) (hd : decode (jr_cd r) pc = .ok (.bastore, n)) (h : jm_rw σ a = true ∧ (σ.2.1 a).1 = 2 ∧ jm_in j (σ.2.1 a).2 = true) (hG : jm_G b sa D cs rn rf r x uc us (pc + n) lv st (σ.1, σ.2.1, σ.2.2.1, jm_u σ.2.2.2.1 a j.toNatClampNeg (y &&& 1), σ.2.2.2.2)) : jm_G b sa D cs rn rf r x uc us pc lv (.int y :: .int j :: .ref a :: st) σ := by
  subst hl
  intro p l e R s m args below meth c Q C H locs ls hR hS hL
  have hK := C.2.2.2.2.2.1.1
  have hP := hR.2.2.2 (a - 9) _ (jm_at_ws h.1 (jm_en_2 h.2.1))
  refine W.zast C.1 C.2.1 hP ((hK.2 2 _ jm_tys2).1 _ _) (fun q => by cases q) (by show ¬ (j < 0 ∨ (arrV _ _ _).slots.size ≤ _); rw [arrV_size]; exact jm_hin h.2.2) rfl rfl hd fun H1 e1 z oq => ?_
  refine hG p l e R s m args below meth c Q C H1 _ ls (jm_R_upd hR h.1 rfl rfl (fun k _ => rfl) (fun k hk => by simp [jm_u, hk]) (fun k _ => rfl) ?_ z oq) (jm_put_S hS z oq (jm_rw2 h.1).1) hL
  rw [jm_en_2 (σ := (σ.1, σ.2.1, σ.2.2.1, jm_u σ.2.2.2.1 a j.toNatClampNeg (y &&& 1), σ.2.2.2.2)) h.2.1]
  show H1[jm_al b sa a]? = some (vp_cell _ _)
  rw [e1]
  show some ((vp_cell _ _).setSlot _ _) = _
  rw [vp_cell_i, vp_cell_i, arrV_store]
  congr 2
  funext q
  by_cases hq : q = j.toNatClampNeg
  · subst hq
    simp [updV, upd, jm_u, narrow]
  · simp [updV, upd, jm_u, hq]
theorem jg_lastore {j : Int32} {y : Int64} {a n : Nat} (hl : n = 1) (hd : decode (jr_cd r) pc = .ok (.lastore, n)) (h : jm_rw σ a = true ∧ (σ.2.1 a).1 = 1 ∧ jm_in j (σ.2.1 a).2 = true) (hG : jm_G b sa D cs rn rf r x uc us (pc + n) lv st (σ.1, σ.2.1, σ.2.2.1, σ.2.2.2.1, jm_uL σ.2.2.2.2 a j.toNatClampNeg y)) : jm_G b sa D cs rn rf r x uc us pc lv (.long y :: .int j :: .ref a :: st) σ := by
  subst hl
  intro p l e R s m args below meth c Q C H locs ls hR hS hL
  have hK := C.2.2.2.2.2.1.1
  have hP := hR.2.2.2 (a - 9) _ (jm_at_ws h.1 (jm_en_1 h.2.1))
  refine W.last C.1 C.2.1 hP ((hK.2 1 _ jm_tys1).1 _ _) (fun q => by cases q) (by show ¬ (j < 0 ∨ (arrV _ _ _).slots.size ≤ _); rw [arrV_size]; exact jm_hin h.2.2) rfl rfl hd fun H1 e1 z oq => ?_
  refine hG p l e R s m args below meth c Q C H1 _ ls (jm_R_upd hR h.1 rfl rfl (fun k _ => rfl) (fun k _ => rfl) (fun k hk => by simp [jm_uL, hk]) ?_ z oq) (jm_put_S hS z oq (jm_rw2 h.1).1) hL
  rw [jm_en_1 (σ := (σ.1, σ.2.1, σ.2.2.1, σ.2.2.2.1, jm_uL σ.2.2.2.2 a j.toNatClampNeg y)) h.2.1]
  show H1[jm_al b sa a]? = some (vp_cell _ _)
  rw [e1]
  show some ((vp_cell _ _).setSlot _ _) = _
  rw [vp_cell_l, vp_cell_l, arrV_store]
  congr 2
  funext q
  by_cases hq : q = j.toNatClampNeg
  · subst hq
    simp [updV, vp_updL, jm_uL]
  · simp [updV, vp_updL, jm_uL, hq]
theorem jg_aastore {j : Int32} {a n v : Nat} (hl : n = 1) (hd : decode (jr_cd r) pc = .ok (.aastore, n)) (h : jm_rw σ a = true ∧ (σ.2.1 a).1 = 3 ∧ jm_in j (σ.2.1 a).2 = true ∧ jm_rw σ v = true ∧ σ.2.1 v = (4, 8)) (hG : jm_G b sa D cs rn rf r x uc us (pc + n) lv st (σ.1, σ.2.1, jm_uP σ.2.2.1 a j.toNatClampNeg (some v), σ.2.2.2.1, σ.2.2.2.2)) : jm_G b sa D cs rn rf r x uc us pc lv (.ref v :: .int j :: .ref a :: st) σ := by
  subst hl
  intro p l e R s m args below meth c Q C H locs ls hR hS hL
  obtain ⟨h1, h2, h3, h4, h5⟩ := h
  have hK := C.2.2.2.2.2.1.1
  have hP := hR.2.2.2 (a - 9) _ (jm_at_ws h1 (jm_en_3 h2))
  have hin := jm_hin h3
  have hlt : j.toNatClampNeg < (σ.2.1 a).2 := Nat.not_le.mp fun q => hin (Or.inr q)
  have h0 : ¬ j < 0 := fun q => hin (Or.inl q)
  obtain ⟨r', hr', cellV, g1, g2, g3, -⟩ := hR.2.2.2 (v - 9) _ (jm_at_ws h4 (jm_en_4 (k := 0) (by rw [h5])))
  have hcls := (hK.1 0 _ rfl).2
  obtain ⟨kA, comp, k1, k2, k3, -⟩ := (hK.2 3 _ jm_tys3).2
  have hcomp : comp = D.1 0 := Option.some.inj (k3.symm.trans hcls.1)
  subst hcomp
  obtain ⟨kC, hkC, hkK⟩ := id hcls.2
  refine W.aast C.1 C.2.1 hP (fun q h => by cases h) (fun h => by cases h) k1 k2 rfl hkC ⟨h0, by show _ < (arrV _ _ _).slots.size; rw [arrV_size]; exact hlt⟩ g1 (fun q h => by rw [g3] at h; cases h) (by rw [g2]; exact hkC) (by rw [g2]; exact va_assign hcls) rfl rfl hd fun H1 e1 z oq => ?_
  refine hG p l e R s m args below meth c Q C H1 _ ls (jm_R_upd hR h1 rfl rfl (fun k hk => by simp [jm_uP, hk]) (fun k _ => rfl) (fun k _ => rfl) ?_ z oq) (jm_put_S hS z oq (jm_rw2 h1).1) hL
  rw [jm_en_3 (σ := (σ.1, σ.2.1, jm_uP σ.2.2.1 a j.toNatClampNeg (some v), σ.2.2.2.1, σ.2.2.2.2)) h2]
  show H1[jm_al b sa a]? = some (vp_cell _ _)
  rw [e1]
  show some ((vp_cell _ _).setSlot _ _) = _
  rw [vp_cell_q, vp_cell_q, arrV_store]
  congr 2
  funext q
  by_cases hq : q = j.toNatClampNeg
  · subst hq
    simp [updV, va_up, va_rf, jm_uP]
  · simp [updV, va_up, jm_uP, hq]
end JROWS
