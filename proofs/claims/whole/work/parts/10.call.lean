section JCALL
variable {b : Nat} {sa : Nat → Nat} {D : va_G} {cs : jm_cs} {rn : Nat → Nat} {rf : Nat → Nat → Int32} {r : jm_Row} {x : Option Value × jm_S} {uc us pc : Nat} {lv st : List Value} {σ : jm_S}
def jm_mv (y : Nat) (v : List Value) (w : Value) : Prop := match y with
  | 0 => ∃ a c : Int32, v = [.int c, .int a] ∧ w = .int (if a < c then c else a)
  | 1 => ∃ a c : Int32, v = [.int c, .int a] ∧ w = .int (if c < a then c else a)
  | 2 => ∃ a c : Int64, v = [.long c, .long a] ∧ w = .long (if c < a then a else c)
  | 3 => ∃ a c : Int64, v = [.long c, .long a] ∧ w = .long (if c < a then c else a)
  | 4 => ∃ a : Int64, v = [.long a] ∧ w = .long (if 0 < a then a else -a)
  | _ => False
theorem jg_math {k y z n : Nat} {v : List Value} {w : Value} (hl : n = 3) (hd : decode (jr_cd r) pc = .ok (.invokestatic k, n)) (hp : jm_pool (jr_ow r) k = some (6, y, z)) (h : 1 ≤ jr_fr r ∧ 23 ≤ jr_lo r ∧ uc ≤ jr_mc r ∧ us ≤ jr_ms r) (hc : jm_cat st ≤ 8)
    (hv : jm_mv y v w)
    (hG : jm_G b sa D cs rn rf r x uc us (pc + n) lv (w :: st) σ) : jm_G b sa D cs rn rf r x uc us pc lv (v ++ st) σ := by
  subst hl
  intro p l e R s m args below meth cd Q C H locs ls hR hS hL
  have hg := hG p l e R s m args below meth cd Q C H locs ls hR hS hL
  obtain ⟨hx, hb, hml, hown, hts, hW0, hbs, hin, hfr, hlo, hmc, hms, hQ⟩ := C
  have hlk := jm_lkp hp
  have hml2 : cd.maxLocals = ls.size := by rw [hml, hL.2.1]
  have hcat : ((st.map (jm_tv (jm_al b sa))).map fun v => v.category).sum ≤ 8 := by
    rw [List.map_map, show ((fun v : Value => v.category) ∘ jm_tv (jm_al b sa)) = (fun v : Value => v.category) from funext fun v => jm_tv_cat _ v]
    exact hc
  have hf1 : 1 ≤ R.frames := by rw [hfr]; exact h.1
  have hc1 : uc ≤ R.cells := by rw [hmc]; exact h.2.2.1
  have hs1 : us ≤ R.slots := by rw [hms]; exact h.2.2.2
  have hl1 : ((st.map (jm_tv (jm_al b sa))).map fun v => v.category).sum + 13 ≤ R.locals := by rw [hlo]; have := h.2.1; omega
  have hl2 : ((st.map (jm_tv (jm_al b sa))).map fun v => v.category).sum + 15 ≤ R.locals := by rw [hlo]; have := h.2.1; omega
  clear hp
  match y, hv, hlk with
  | 0, hv, hlk =>
    obtain ⟨a, c, rfl, rfl⟩ := hv
    exact va_mmax hx hb hml2 hown (hts _ hlk) (hts _ jm_ms0) (hts _ jm_mi) (hts _ jm_mc0) hf1 hl1 hc1 hs1 hd hg
  | 1, hv, hlk =>
    obtain ⟨a, c, rfl, rfl⟩ := hv
    exact va_mmin hx hb hml2 hown (hts _ hlk) (hts _ jm_ms1) (hts _ jm_mi) (hts _ jm_mc1) hf1 hl1 hc1 hs1 hd hg
  | 2, hv, hlk =>
    obtain ⟨a, c, rfl, rfl⟩ := hv
    exact va_mmax_long hx hb hml2 hown (hts _ hlk) (hts _ jm_ms2) (hts _ jm_mi) (hts _ jm_mc2) hf1 hl2 hc1 hs1 hd hg
  | 3, hv, hlk =>
    obtain ⟨a, c, rfl, rfl⟩ := hv
    exact va_mmin_long hx hb hml2 hown (hts _ hlk) (hts _ jm_ms3) (hts _ jm_mi) (hts _ jm_mc3) hf1 hl2 hc1 hs1 hd hg
  | 4, hv, hlk =>
    obtain ⟨a, rfl, rfl⟩ := hv
    exact va_mabs_long hx hb hml2 hown (hts _ hlk) (hts _ jm_ms4) (hts _ jm_mi) (hts _ jm_mc4) hf1 hl1 hc1 hs1 hd hg
theorem jg_acopy {k y z n' a a0 : Nat} {sp dp n : Int32} (hl : n' = 3) (hd : decode (jr_cd r) pc = .ok (.invokestatic k, n')) (hp : jm_pool (jr_ow r) k = some (2, y, z)) (h : jm_rw σ a = true ∧ jm_rw σ a0 = true ∧ (σ.2.1 a).1 = 0 ∧ (σ.2.1 a0).1 = 0 ∧ ¬ sp < 0 ∧ ¬ dp < 0 ∧ ¬ n < 0 ∧ sp.toNatClampNeg + n.toNatClampNeg ≤ (σ.2.1 a0).2 ∧ dp.toNatClampNeg + n.toNatClampNeg ≤ (σ.2.1 a).2 ∧ 1 ≤ jr_fr r ∧ 40 ≤ jr_lo r)
    (hG : jm_G b sa D cs rn rf r x uc us (pc + n') lv [] (σ.1, σ.2.1, σ.2.2.1, jm_uA σ.2.2.2.1 a (va_cpy (σ.2.2.2.1 a0) (σ.2.2.2.1 a) sp.toNatClampNeg dp.toNatClampNeg n.toNatClampNeg), σ.2.2.2.2)) : jm_G b sa D cs rn rf r x uc us pc lv [.int n, .int dp, .ref a, .int sp, .ref a0] σ := by
  subst hl
  intro p l e R s m args below meth cd Q C H locs ls hR hS hL
  have hg := hG p l e R s m args below meth cd Q C
  obtain ⟨hx, hb, hml, hown, hts, hW0, hbs, hin, hfr, hlo, hmc, hms, hQ⟩ := C
  have hlk : Cond.methodLink (jm_cn (jr_ow r)) k arraycopyName ∈ lw_good := jm_lkp hp
  obtain ⟨w1, w2, w3, w4, h1, h2, h3, h4, h5, h6, h7⟩ := h
  have nn : ∀ z : Int32, ¬ z < 0 → z.toInt = (z.toNatClampNeg : Int) := by
    intro z hz
    have hz0 : (0 : Int) ≤ z.toInt := by
      have := Int32.not_lt.mp hz
      simpa using Int32.le_iff_toInt_le.mp this
    show z.toInt = ((z.toInt.toNat : Nat) : Int)
    omega
  have hK := hW0.1
  have hc0 : H[jm_al b sa a0]? = some (vp_cell cs.1 ((σ.2.1 a0).2, .inl (σ.2.2.2.1 a0))) := hR.2.2.2 (a0 - 9) _ (jm_at_ws w2 (jm_en_0 w4))
  have hc1 : H[jm_al b sa a]? = some (vp_cell cs.1 ((σ.2.1 a).2, .inl (σ.2.2.2.1 a))) := hR.2.2.2 (a - 9) _ (jm_at_ws w1 (jm_en_0 w3))
  intro T hT X
  obtain ⟨-, k0, hk0, cm0, hkk0⟩ := (hK.2 0 _ jm_tys0).1 (σ.2.1 a0).2 (fun j => .int (σ.2.2.2.1 a0 j))
  obtain ⟨-, k1, hk1, cm1, hkk1⟩ := (hK.2 0 _ jm_tys0).1 (σ.2.1 a).2 (fun j => .int (σ.2.2.2.1 a j))
  have hat : (Cond.static arraycopyName).before args s = true := hts _ jm_acs
  obtain ⟨vm', X', step⟩ := X.arraycopy hx hown (hts _ hlk) (hts _ jm_acn) hat (hts _ jm_aci) (src := jm_al b sa a0) (dst := jm_al b sa a) (cs := vp_cell cs.1 ((σ.2.1 a0).2, .inl (σ.2.2.2.1 a0))) (cd := vp_cell cs.1 ((σ.2.1 a).2, .inl (σ.2.2.2.1 a))) (srcPos := sp) (destPos := dp) (n := n) (by rw [hT]; exact hc0) (by rw [hT]; exact hc1)
    (fun _ h => by cases h) (fun _ h => by cases h) (fun h => by cases h) (fun h => by cases h) hk0 hk1 hkk0 hkk1 (by simp [refKind]) h1 h2 h3
    (by rw [nn sp h1, nn n h3]; show ¬ _ > ((arrV cs.1 (σ.2.1 a0).2 (fun j => .int (σ.2.2.2.1 a0 j))).slots.size : Int); rw [arrV_size]; omega)
    (by rw [nn dp h2, nn n h3]; show ¬ _ > ((arrV cs.1 (σ.2.1 a).2 (fun j => .int (σ.2.2.2.1 a j))).slots.size : Int); rw [arrV_size]; omega)
    (fun vm₁ _ i hi => by
      have e : (vp_cell cs.1 ((σ.2.1 a0).2, .inl (σ.2.2.2.1 a0))).slots.getD (sp.toNatClampNeg + i) .null = .int (σ.2.2.2.1 a0 (sp.toNatClampNeg + i)) := by
        show (arrV cs.1 (σ.2.1 a0).2 (fun j => .int (σ.2.2.2.1 a0 j))).slots.getD _ _ = _
        rw [Array.getD_eq_getD_getElem?, arrV_read _ _ (by omega)]
        rfl
      refine ⟨?_, ?_⟩
      · rw [e]; rfl
      · rw [e]
        exact trivial)
    (g := F0 m pc ls [.int n, .int dp, .ref (jm_al b sa a), .int sp, .ref (jm_al b sa a0)]) rfl (by rw [hml, ← hL.2.1]) (rest := []) rfl (by rw [hb]; exact hd) (by rw [hfr]; exact h6) (by rw [hlo]; exact Nat.le_trans (show 2 * 0 + 0 + (nativeFrameWords "java/lang/System" "arraycopy" 5 + 11) ≤ 40 from by decide) h7)
  have e1 : copied (vp_cell cs.1 ((σ.2.1 a0).2, .inl (σ.2.2.2.1 a0))) (vp_cell cs.1 ((σ.2.1 a).2, .inl (σ.2.2.2.1 a))) sp dp n = vp_cell cs.1 ((σ.2.1 a).2, .inl (va_cpy (σ.2.2.2.1 a0) (σ.2.2.2.1 a) sp.toNatClampNeg dp.toNatClampNeg n.toNatClampNeg)) := va_copied (fun z => .int z) cs.1 cs.1 _ _ h4
  rw [e1] at X' step
  have hl : jm_al b sa a < H.size := (Array.getElem?_eq_some_iff.mp hc1).1
  have hheap : ((T.setVm vm').setCell (jm_al b sa a) (vp_cell cs.1 ((σ.2.1 a).2, .inl (va_cpy (σ.2.2.2.1 a0) (σ.2.2.2.1 a) sp.toNatClampNeg dp.toNatClampNeg n.toNatClampNeg)))).heap = H.setIfInBounds (jm_al b sa a) (vp_cell cs.1 ((σ.2.1 a).2, .inl (va_cpy (σ.2.2.2.1 a0) (σ.2.2.2.1 a) sp.toNatClampNeg dp.toNatClampNeg n.toNatClampNeg))) := by rw [← hT]; rfl
  have oq : ∀ q : Nat, q ≠ jm_al b sa a → (H.setIfInBounds (jm_al b sa a) (vp_cell cs.1 ((σ.2.1 a).2, .inl (va_cpy (σ.2.2.2.1 a0) (σ.2.2.2.1 a) sp.toNatClampNeg dp.toNatClampNeg n.toNatClampNeg))))[q]? = H[q]? := fun q hq => by simp [Array.getElem?_setIfInBounds, Ne.symm hq]
  have hAa : jm_A b (jm_al b sa a) := by show b ≤ jm_al b sa a; rw [jm_al_9 (jm_rw2 w1).1]; omega
  obtain ⟨t, a1, b1⟩ := hg _ _ ls (jm_R_upd (H1 := H.setIfInBounds (jm_al b sa a) (vp_cell cs.1 ((σ.2.1 a).2, .inl (va_cpy (σ.2.2.2.1 a0) (σ.2.2.2.1 a) sp.toNatClampNeg dp.toNatClampNeg n.toNatClampNeg)))) hR w1 rfl rfl (fun k _ => rfl) (fun k hk => by simp [jm_uA, hk]) (fun k _ => rfl) (by
      rw [jm_en_0 (σ := (σ.1, σ.2.1, σ.2.2.1, jm_uA σ.2.2.2.1 a (va_cpy (σ.2.2.2.1 a0) (σ.2.2.2.1 a) sp.toNatClampNeg dp.toNatClampNeg n.toNatClampNeg), σ.2.2.2.2)) w3]
      show (H.setIfInBounds (jm_al b sa a) _)[jm_al b sa a]? = some (vp_cell _ _)
      simp [Array.getElem?_setIfInBounds, hl, jm_uA]) (by simp) oq) ⟨by simp; exact hS.1, fun q g1 g2 => by
      rw [oq q (fun e => g2 (by rw [e]; exact hAa))]
      exact hS.2.1 q g1 g2, fun q hq => by
      rcases List.mem_append.mp hq with h | h
      · exact hS.2.2 q h
      · obtain ⟨z, -, hz⟩ := List.mem_map.mp h
        rw [← hz]
        exact hAa⟩ hL _ hheap X'
  exact ⟨t, step t a1, b1⟩
/-- a method's contract, out of what the small machine says of it -/
theorem jm_met (l : Launch) {q : jm_Row} {y : Option Value × jm_S} {As : List Value} (hq : q ∈ jm_rows) (hfl : (jm_fl As).length ≤ jr_ml q) (hG : jm_G b sa D cs rn rf q y 0 0 0 (jm_ini As (jr_ml q)) [] σ) :
    Met l (jr_nm q) (Cond.code (jr_nm q) (jr_cd q) (jr_ml q) (jr_rt q) :: lw_good) ({ frames := jr_fr q, cells := jr_mc q, slots := jr_ms q, locals := jr_lo q }) (va_Pc (As.map (jm_tv (jm_al b sa))) (fun U => jm_R b sa D cs rn rf σ U.heap ∧ jm_W0 b sa D cs rn rf U U.heap))
      (fun _ st oc t => (oc = .returned (y.1.map (jm_tv (jm_al b sa))) ∧ jm_R b sa D cs rn rf y.2 t.heap) ∧ va_F (jm_A b) st t) (jr_mc q) (jr_ms q) (jm_A b) := by
  obtain ⟨m1, m2, m3, m4, m5, m6, m7⟩ := jm_mall q hq
  refine Met.ofW (cc := jr_cd q) (maxL := jr_ml q) (ret := jr_rt q) m2 rfl ?_
  intro p e s m args below meth c s₁ B hml hv
  obtain ⟨rfl, hR, hW0⟩ := hv
  have hts := atoms_spec (ws := Cond.code (jr_nm q) (jr_cd q) (jr_ml q) (jr_rt q) :: lw_good) B.pre
  have hown : s.vm.findClass (jm_cn (jr_ow q)) = some m.cls := by rw [← m6]; exact findClass_of_methodNamed B.named
  have hlocks := B.notSynchronized
  rw [lg_entry_eq]
  refine hG p l e _ s m _ below meth c _ ⟨B.exec, B.bytes, hml, hown, fun w hw => hts w (List.mem_cons_of_mem _ hw), hW0, by have h1 := hR.1; have h2 := hR.2.1; omega, fun hkd => ?_, rfl, rfl, rfl, rfl, fun H locs ls pc uc us h1 h2 hR' hS' hrt => ?_⟩ s.heap [] _ hR va_S.rf (jm_entry hfl)
  · rw [hkd] at m7
    exact (name_of_methodNamed B.named B.method).1.trans m7.2.1
  · refine W.widen h1 h2 ?_
    exact jm_rtok_w hrt B.exec B.bytes B.returns hlocks (fun t ht hW => ⟨⟨rfl, by rw [ht]; exact hR'⟩, hS'.F ht⟩) hS'.2.2
theorem jm_after {p : Program} {l : Launch} {e : Env} {R : Room} {s : State} {m : MethodId} {args : Array Value} {below : List Frame} {meth : Method} {c : Code} {H : Heap} {locs : List Loc} {cells slots mc ms : Nat} {Q : State → Prop} {ls : Array Slot} {st0 rest : List Value} {v : Option Value} {P : Heap → Prop}
    (hr : va_Run p l e R s m args below meth c H locs cells slots mc ms (F0 m pc ls st0) rest (fun st oc t => (oc = .returned v ∧ P t.heap) ∧ va_F (jm_A b) st t) (jm_A b)) (hS : va_S (jm_A b) s.heap H locs)
    (kk : ∀ (H1 : Heap) (locs1 : List Loc), P H1 → va_S (jm_A b) s.heap H1 locs1 → W p l e R s m args below meth c H1 locs1 (cells + mc) (slots + ms) Q (F0 m (pc + 3) ls (v.toList ++ rest))) : W p l e R s m args below meth c H locs cells slots Q (F0 m pc ls st0) := by
  intro T hT X
  obtain ⟨v', st₀, t, T', L, h0, X', hL, e1, e2, ⟨⟨hv, hb⟩, hz, hk⟩, stp⟩ := hr T hT X
  cases hv
  rw [h0] at hz hk
  obtain ⟨t2, a1, b1⟩ := kk T'.heap (locs ++ L) (by rw [e1]; exact hb)
    ⟨Nat.le_trans hS.1 (by rw [e1]; exact hz), fun q h1 h2 => by rw [e1, hk q (Nat.lt_of_lt_of_le h1 hS.1) h2]; exact hS.2.1 q h1 h2, fun q hq => by
      rcases List.mem_append.mp hq with h | h
      · exact hS.2.2 q h
      · exact hL q h⟩ T' rfl X'
  exact ⟨t2, stp t2 a1, b1⟩
theorem jm_goodIn {q : jm_Row} (hc : Cond.code (jr_nm q) (jr_cd q) (jr_ml q) (jr_rt q) ∈ lw_good) : GoodIn lw_good (Cond.code (jr_nm q) (jr_cd q) (jr_ml q) (jr_rt q) :: lw_good) := by
  intro w hw
  have h1 : w ∈ lw_good := by
    rcases List.mem_cons.mp hw with h | h
    · rw [h]; exact hc
    · exact h
  exact ⟨h1, good_of_word (List.mem_filter.mp h1).2⟩
theorem jm_tv_toList (α : Nat → Nat) (v : Option Value) (rest : List Value) : (v.map (jm_tv α)).toList ++ rest.map (jm_tv α) = (v.toList ++ rest).map (jm_tv α) := by cases v <;> simp
/-- what a call of q needs of the caller's frame: its contract's start -/
theorem jm_pre {s : State} {H : Heap} {locs : List Loc} {As : List Value} (hW0 : jm_W0 b sa D cs rn rf s s.heap) (hbs : b ≤ s.heap.size) (hR : jm_R b sa D cs rn rf σ H) (hS : va_S (jm_A b) s.heap H locs) :
    FrameBlind (va_Pc (As.map (jm_tv (jm_al b sa))) (fun U => jm_R b sa D cs rn rf σ U.heap ∧ jm_W0 b sa D cs rn rf U U.heap)) ∧ ∀ U : State, U.heap = H → s.WarmedH U.vm → va_Pc (As.map (jm_tv (jm_al b sa))) (fun U => jm_R b sa D cs rn rf σ U.heap ∧ jm_W0 b sa D cs rn rf U U.heap) (As.map (jm_tv (jm_al b sa))).toArray U := by
  refine ⟨fun a U g mk h => ⟨h.1, h.2.1, jm_W0_blind h.2.2⟩, fun U hU hW => ⟨rfl, by rw [hU]; exact hR, by rw [hU]; exact jm_W0_moved hW hbs hS.2.1 hW0⟩⟩
theorem jm_cok2_spec {q : jm_Row} {args rest : List Value} (h : jm_cok2 r q uc us args rest = true) : jr_fr q + 1 ≤ jr_fr r ∧ 8 + (jr_ml q + 11) + jr_lo q ≤ jr_lo r ∧ uc + jr_mc q ≤ jr_mc r ∧ us + jr_ms q ≤ jr_ms r ∧ jm_cat rest ≤ 8 ∧ (jm_fl args).length ≤ jr_ml q := by
  simp only [jm_cok2, Bool.and_eq_true, decide_eq_true_eq] at h
  exact ⟨h.1, h.2.1, h.2.2.1, h.2.2.2.1, h.2.2.2.2.1, h.2.2.2.2.2⟩
theorem jm_catm {α : Nat → Nat} {rest : List Value} (h : jm_cat rest ≤ 8) : ((rest.map (jm_tv α)).map fun v => v.category).sum ≤ 8 := by
  rw [List.map_map, show ((fun v : Value => v.category) ∘ jm_tv α) = (fun v : Value => v.category) from funext fun v => jm_tv_cat _ v]
  exact h
theorem jm_cok3_spec {q : jm_Row} {args rest : List Value} (h : jm_cok3 r q uc us args rest = true) : jr_fr q + 1 ≤ jr_fr r ∧ 12 + (jr_ml q + 11) + jr_lo q ≤ jr_lo r ∧ uc + jr_mc q ≤ jr_mc r ∧ us + jr_ms q ≤ jr_ms r ∧ jm_cat rest ≤ 12 ∧ (jm_fl args).length ≤ jr_ml q := by
  simp only [jm_cok3, Bool.and_eq_true, decide_eq_true_eq] at h
  exact ⟨h.1, h.2.1, h.2.2.1, h.2.2.2.1, h.2.2.2.2.1, h.2.2.2.2.2⟩
theorem jm_catm12 {α : Nat → Nat} {rest : List Value} (h : jm_cat rest ≤ 12) : ((rest.map (jm_tv α)).map fun v => v.category).sum ≤ 12 := by
  rw [List.map_map, show ((fun v : Value => v.category) ∘ jm_tv α) = (fun v : Value => v.category) from funext fun v => jm_tv_cat _ v]
  exact h
theorem jm_room12 {m : MethodId} {ls : Array Slot} {st0 st : List Value} (h : (st.map fun v => v.category).sum ≤ 12) : 2 * (F0 m pc ls st0).monitorRoom + (st.map fun v => v.category).sum ≤ 12 := by
  have e : (F0 m pc ls st0).monitorRoom = 0 := rfl
  rw [e]
  omega
/-- a call with up to 12 words below its arguments -/
theorem jm_runV {p : Program} {l : Launch} {e : Env} {R : Room} {s : State} {m : MethodId} {args : Array Value} {below : List Frame} {meth : Method} {c : Code} {H : Heap} {locs : List Loc} {cells slots : Nat} {y : MethodName} {bytes cc : ByteArray} {maxL nL mc ms n index : Nat} {ret : Option FieldType} {ws ws' : List Cond} {rm : Room} {Pc : Array Value → State → Prop} {Qc : Array Value → State → Outcome → State → Prop} {free : Addr → Prop} {Ts : List Cond} {own C : String} {b : Addr} {As rest : List Value} {g : JFrame}
    (S : CallFix p m c cc nL s args Ts own) (hM : Met l y ws rm Pc Qc mc ms free) (hrc : rm.cells = mc) (hrs : rm.slots = ms) (hfr : rm.frames + 1 ≤ R.frames) (hlo : 12 + (maxL + 11) + rm.locals ≤ R.locals) (hG : GoodIn Ts ws) (hw : ws = Cond.code y bytes maxL ret :: ws') (hini : (Cond.initialized y.cls).before args s = true) (hl : (Cond.methodLink own index y).before args s = true)
    (hd : y.cls ≠ "java/lang/invoke/MethodHandle" ∧ y.cls ≠ "java/lang/invoke/VarHandle" ∧ (parseMethodDescriptor y.desc).map (fun d => d.parameters.length) = some n) (hx1 : (Cond.instanceMethod y).before args s = true) (hx2 : (Cond.selects C y y).before args s = true) (hp : PreV s H C b Pc As)
    (hg : g.method = m) (hn : As.length = n) (hsize : g.locals.size = nL) (hstack : g.stack = As.reverse ++ .ref b :: rest) (hW : 2 * g.monitorRoom + (rest.map fun v => v.category).sum ≤ 12) (hdg : decode cc g.pc = .ok (.invokevirtual index, 3)) (hf : cells + mc ≤ R.cells ∧ slots + ms ≤ R.slots) :
    va_Run p l e R s m args below meth c H locs cells slots mc ms g rest (Qc (Value.ref b :: As).toArray) (free) := by
  obtain ⟨hx, hb, hml, ho, ht⟩ := S
  have hcw : Cond.code y bytes maxL ret ∈ ws := by rw [hw]; exact List.mem_cons_self
  have hcode := ht _ (hG _ hcw).1
  have hK : Back l R p e below s args y 3 12 (PreOf R mc ms Pc) (PostOf Qc mc ms free) := back_of (bytes := bytes) (maxL := maxL) (ret := ret) hM hp.1 hrc hrs hfr hlo (pay_in ht hG) hcw (fun a' U hW => word_at hW (Or.inl (by first | rfl | simp [Cond.onTables, Cond.keeps, Cond.steady])) hini)
  obtain ⟨-, ⟨cellB, hcB, hoB, hclB⟩, hPc⟩ := hp
  intro T hT X
  obtain ⟨v, vm₁, ⟨U', l2, c2, s2⟩, hW₁, X', ⟨g', mk, t, L, e1, e2, hq, h1, hL, h2, h3⟩, st⟩ := callV X hx (C := C) (bytes := bytes) (maxL := maxL) (ret := ret) ho hl hx1 hx2 hcode ⟨hd.1, hd.2.1⟩ hK (by rw [hT]; exact hcB) hoB hclB hg (hsize.trans hml.symm) (argsL := As) (rest := rest) (fun sig h => by have h2 := hd.2.2; rw [h] at h2; exact hn.trans (Option.some.inj h2).symm) hstack hW (by rw [hb]; exact hdg)
    (fun vm₁ hW₁ => ⟨hf.1, hf.2, hPc (T.setVm vm₁) hT hW₁⟩)
  dsimp only [Pt.U, Pt.locs, Pt.cells, Pt.slots] at X' e1 e2 h1 h2 h3 st
  subst h1; subst h2; subst h3
  exact ⟨v, (T.setVm vm₁).calling g' mk (Value.ref b :: As).toArray, t, U', L, hT, X', hL, e1, e2, hq, st⟩
theorem jg_callV {k yi z n a : Nat} {q : jm_Row} {y : Option Value × jm_S} {As rest : List Value} (hl : n = 3) (hd : decode (jr_cd r) pc = .ok (.invokevirtual k, n)) (hp : jm_pool (jr_ow r) k = some (0, yi, z)) (hqi : jm_rows[yi]? = some q) (hkd : jr_kd q = 0) (hn : As.length = jr_ar q) (hrw : jm_rw σ a = true) (hTa : σ.2.1 a = (jr_ow q + 4, jm_fn (jr_ow q))) (hok : jm_cok3 r q uc us (.ref a :: As) rest = true)
    (hq : jm_G b sa D cs rn rf q y 0 0 0 (jm_ini (.ref a :: As) (jr_ml q)) [] σ) (hG : jm_G b sa D cs rn rf r x (uc + jr_mc q) (us + jr_ms q) (pc + 3) lv (y.1.toList ++ rest) y.2) : jm_G b sa D cs rn rf r x uc us pc lv (As.reverse ++ .ref a :: rest) σ := by
  subst hl
  intro p l e R s m args below meth cd Q C H locs ls hR hS hL
  have hg := hG p l e R s m args below meth cd Q C
  obtain ⟨hx, hb, hml, hown, hts, hW0, hbs, hin, hfr, hlo, hmc, hms, hQ⟩ := C
  obtain ⟨q', e1, hne, hlk⟩ : ∃ q', jm_rows[yi]? = some q' ∧ q' ≠ rL_law ∧ _ := jm_lkp hp
  cases hqi.symm.trans e1
  have hqm : q ∈ jm_rows := List.mem_of_getElem? hqi
  obtain ⟨m1, m2, m3, m4, m5, m6, m7⟩ := jm_mall q hqm
  have m1 := m1.resolve_left hne
  rw [hkd] at m7
  obtain ⟨n1, n2, n3, n4, n5, n6⟩ := jm_cok3_spec hok
  obtain ⟨k1, -⟩ := jm_call_ok (jr_ow q) m7.2.2
  have hM := jm_met l hqm n6 hq
  have hpre := jm_pre (As := .ref a :: As) hW0 hbs hR hS
  have hrecv := va_recv (q := (jm_cn (jr_ow q), jm_fT (jr_ow q), jm_fn (jr_ow q))) hW0.1 hR.2.2.2 k1 (jm_at_ws hrw (jm_en_4 (by rw [hTa])))
  have hrecv : ∃ cell : Cell, H[jm_al b sa a]? = some cell ∧ cell.vm.isStatics = false ∧ s.vm.findClass (jr_nm q).cls = some cell.cls := by rw [m6]; exact hrecv
  have hrm : ({ frames := jr_fr q, cells := jr_mc q, slots := jr_ms q, locals := jr_lo q } : Room).frames + 1 ≤ R.frames ∧ 12 + (jr_ml q + 11) + ({ frames := jr_fr q, cells := jr_mc q, slots := jr_ms q, locals := jr_lo q } : Room).locals ≤ R.locals := ⟨by rw [hfr]; exact n1, by rw [hlo]; exact n2⟩
  have hstk : (As.reverse ++ .ref a :: rest).map (jm_tv (jm_al b sa)) = (As.map (jm_tv (jm_al b sa))).reverse ++ .ref (jm_al b sa a) :: rest.map (jm_tv (jm_al b sa)) := by
    rw [List.map_append, List.map_reverse]; rfl
  rw [hstk]
  have hroom : uc + jr_mc q ≤ R.cells ∧ us + jr_ms q ≤ R.slots := ⟨by rw [hmc]; exact n3, by rw [hms]; exact n4⟩
  have hlen : (As.map (jm_tv (jm_al b sa))).length = jr_ar q := by simp [hn]
  have hcat : 2 * (F0 m pc ls ((As.map (jm_tv (jm_al b sa))).reverse ++ .ref (jm_al b sa a) :: rest.map (jm_tv (jm_al b sa)))).monitorRoom + ((rest.map (jm_tv (jm_al b sa))).map fun v => v.category).sum ≤ 12 := jm_room12 (jm_catm12 n5)
  have hlk := hlk.resolve_right (fun h => h.1 hkd)
  refine jm_after (v := y.1.map (jm_tv (jm_al b sa))) (P := jm_R b sa D cs rn rf y.2) (rest := rest.map (jm_tv (jm_al b sa))) (jm_runV (As := As.map (jm_tv (jm_al b sa))) (b := jm_al b sa a) (C := (jr_nm q).cls) ⟨hx, hb, hml, hown, hts⟩ hM rfl rfl hrm.1 hrm.2 (jm_goodIn m1) rfl (hts _ m4) (hts _ hlk) ⟨m3.1, m3.2, m5⟩ (hts _ m7.1) (hts _ m7.2.1) ⟨hpre.1, hrecv, hpre.2⟩ rfl hlen (hL.2.1) rfl hcat hd hroom) hS (fun H1 locs1 hR1 hS1 => ?_)
  rw [jm_tv_toList]
  exact hg H1 locs1 ls hR1 hS1 hL
theorem jg_callI {k yi z n a : Nat} {q : jm_Row} {y : Option Value × jm_S} {As rest : List Value} (hl : n = 3) (hd : decode (jr_cd r) pc = .ok (.invokespecial k, n)) (hp : jm_pool (jr_ow r) k = some (0, yi, z)) (hqi : jm_rows[yi]? = some q) (hkd : jr_kd q = 2) (hn : As.length = jr_ar q) (hok : jm_cok2 r q uc us (.ref a :: As) rest = true)
    (hq : jm_G b sa D cs rn rf q y 0 0 0 (jm_ini (.ref a :: As) (jr_ml q)) [] σ) (hG : jm_G b sa D cs rn rf r x (uc + jr_mc q) (us + jr_ms q) (pc + 3) lv (y.1.toList ++ rest) y.2) : jm_G b sa D cs rn rf r x uc us pc lv (As.reverse ++ .ref a :: rest) σ := by
  subst hl
  intro p l e R s m args below meth cd Q C H locs ls hR hS hL
  have hg := hG p l e R s m args below meth cd Q C
  obtain ⟨hx, hb, hml, hown, hts, hW0, hbs, hin, hfr, hlo, hmc, hms, hQ⟩ := C
  obtain ⟨q', e1, hne, hlk⟩ : ∃ q', jm_rows[yi]? = some q' ∧ q' ≠ rL_law ∧ _ := jm_lkp hp
  cases hqi.symm.trans e1
  have hqm : q ∈ jm_rows := List.mem_of_getElem? hqi
  obtain ⟨m1, m2, m3, m4, m5, m6, m7⟩ := jm_mall q hqm
  have m1 := m1.resolve_left hne
  rw [hkd] at m7
  obtain ⟨n1, n2, n3, n4, n5, n6⟩ := jm_cok2_spec hok
  have hM := jm_met l hqm n6 hq
  have hrt : jr_rt q = none := m7.2.2.2.1
  have hpre := jm_pre (As := .ref a :: As) hW0 hbs hR hS
  have hrm : ({ frames := jr_fr q, cells := jr_mc q, slots := jr_ms q, locals := jr_lo q } : Room).frames + 1 ≤ R.frames ∧ 8 + (jr_ml q + 11) + ({ frames := jr_fr q, cells := jr_mc q, slots := jr_ms q, locals := jr_lo q } : Room).locals ≤ R.locals := ⟨by rw [hfr]; exact n1, by rw [hlo]; exact n2⟩
  have hstk : (As.reverse ++ .ref a :: rest).map (jm_tv (jm_al b sa)) = (As.map (jm_tv (jm_al b sa))).reverse ++ .ref (jm_al b sa a) :: rest.map (jm_tv (jm_al b sa)) := by
    rw [List.map_append, List.map_reverse]; rfl
  rw [hstk]
  have hroom : uc + jr_mc q ≤ R.cells ∧ us + jr_ms q ≤ R.slots := ⟨by rw [hmc]; exact n3, by rw [hms]; exact n4⟩
  have hlen : (As.map (jm_tv (jm_al b sa))).length = jr_ar q := by simp [hn]
  have hcat : 2 * (F0 m pc ls ((As.map (jm_tv (jm_al b sa))).reverse ++ .ref (jm_al b sa a) :: rest.map (jm_tv (jm_al b sa)))).monitorRoom + ((rest.map (jm_tv (jm_al b sa))).map fun v => v.category).sum ≤ 8 := lv_room (jm_catm n5)
  have hgi := jm_goodIn m1
  rw [hrt] at hM hgi
  rcases hlk with hlk | ⟨-, host, hlk⟩
  · refine jm_after (v := y.1.map (jm_tv (jm_al b sa))) (P := jm_R b sa D cs rn rf y.2) (rest := rest.map (jm_tv (jm_al b sa))) (va_runI (As := As.map (jm_tv (jm_al b sa))) (b := jm_al b sa a) ⟨hx, hb, hml, hown, hts⟩ hM ⟨callB_of (jr_ar q) hts hgi rfl rfl rfl (hts _ m4) (hts _ hlk) ⟨m3.1, m3.2, m5⟩ hrm, m7.2.1, hts _ m7.1⟩ hpre rfl hlen (hL.2.1) rfl hcat hd hroom) hS (fun H1 locs1 hR1 hS1 => ?_)
    rw [jm_tv_toList]
    exact hg H1 locs1 ls hR1 hS1 hL
  · refine jm_after (v := y.1.map (jm_tv (jm_al b sa))) (P := jm_R b sa D cs rn rf y.2) (rest := rest.map (jm_tv (jm_al b sa))) (va_runIN (As := As.map (jm_tv (jm_al b sa))) (b := jm_al b sa a) ⟨hx, hb, hml, hown, hts⟩ hM ⟨va_cnB (jr_ar q) hts hgi rfl rfl rfl (hW0.2.1 _ hlk) (hts _ m4) ⟨m3.1, m3.2, m5⟩ hrm, m7.2.1, hts _ m7.1⟩ hpre rfl hlen (hL.2.1) rfl hcat hd hroom) hS (fun H1 locs1 hR1 hS1 => ?_)
    rw [jm_tv_toList]
    exact hg H1 locs1 ls hR1 hS1 hL
theorem jg_callS {k yi z n : Nat} {q : jm_Row} {y : Option Value × jm_S} {As rest : List Value} (hl : n = 3) (hd : decode (jr_cd r) pc = .ok (.invokestatic k, n)) (hp : jm_pool (jr_ow r) k = some (0, yi, z)) (hqi : jm_rows[yi]? = some q) (hkd : jr_kd q = 1) (hn : As.length = jr_ar q) (hok : jm_cok2 r q uc us As rest = true)
    (hq : jm_G b sa D cs rn rf q y 0 0 0 (jm_ini As (jr_ml q)) [] σ) (hG : jm_G b sa D cs rn rf r x (uc + jr_mc q) (us + jr_ms q) (pc + 3) lv (y.1.toList ++ rest) y.2) : jm_G b sa D cs rn rf r x uc us pc lv (As.reverse ++ rest) σ := by
  subst hl
  intro p l e R s m args below meth cd Q C H locs ls hR hS hL
  have hg := hG p l e R s m args below meth cd Q C
  obtain ⟨hx, hb, hml, hown, hts, hW0, hbs, hin, hfr, hlo, hmc, hms, hQ⟩ := C
  obtain ⟨q', e1, hne, hlk⟩ : ∃ q', jm_rows[yi]? = some q' ∧ q' ≠ rL_law ∧ _ := jm_lkp hp
  cases hqi.symm.trans e1
  have hqm : q ∈ jm_rows := List.mem_of_getElem? hqi
  obtain ⟨m1, m2, m3, m4, m5, m6, m7⟩ := jm_mall q hqm
  have m1 := m1.resolve_left hne
  rw [hkd] at m7
  have m7 := m7.resolve_left hne
  obtain ⟨n1, n2, n3, n4, n5, n6⟩ := jm_cok2_spec hok
  have hM := jm_met l hqm n6 hq
  have hpre := jm_pre (As := As) hW0 hbs hR hS
  have hrm : ({ frames := jr_fr q, cells := jr_mc q, slots := jr_ms q, locals := jr_lo q } : Room).frames + 1 ≤ R.frames ∧ 8 + (jr_ml q + 11) + ({ frames := jr_fr q, cells := jr_mc q, slots := jr_ms q, locals := jr_lo q } : Room).locals ≤ R.locals := ⟨by rw [hfr]; exact n1, by rw [hlo]; exact n2⟩
  have hstk : (As.reverse ++ rest).map (jm_tv (jm_al b sa)) = (As.map (jm_tv (jm_al b sa))).reverse ++ rest.map (jm_tv (jm_al b sa)) := by
    rw [List.map_append, List.map_reverse]
  rw [hstk]
  have hroom : uc + jr_mc q ≤ R.cells ∧ us + jr_ms q ≤ R.slots := ⟨by rw [hmc]; exact n3, by rw [hms]; exact n4⟩
  have hlen : (As.map (jm_tv (jm_al b sa))).length = jr_ar q := by simp [hn]
  have hcat : 2 * (F0 m pc ls ((As.map (jm_tv (jm_al b sa))).reverse ++ rest.map (jm_tv (jm_al b sa)))).monitorRoom + ((rest.map (jm_tv (jm_al b sa))).map fun v => v.category).sum ≤ 8 := lv_room (jm_catm n5)
  rcases hlk with hlk | ⟨-, host, hlk⟩
  · refine jm_after (v := y.1.map (jm_tv (jm_al b sa))) (P := jm_R b sa D cs rn rf y.2) (rest := rest.map (jm_tv (jm_al b sa))) (va_runS (As := As.map (jm_tv (jm_al b sa))) ⟨hx, hb, hml, hown, hts⟩ hM ⟨callB_of (jr_ar q) hts (jm_goodIn m1) rfl rfl rfl (hts _ m4) (hts _ hlk) ⟨m3.1, m3.2, m5⟩ hrm, hts _ m7⟩ hpre rfl hlen (hL.2.1) rfl hcat hd hroom) hS (fun H1 locs1 hR1 hS1 => ?_)
    rw [jm_tv_toList]
    exact hg H1 locs1 ls hR1 hS1 hL
  · refine jm_after (v := y.1.map (jm_tv (jm_al b sa))) (P := jm_R b sa D cs rn rf y.2) (rest := rest.map (jm_tv (jm_al b sa))) (va_runSN (As := As.map (jm_tv (jm_al b sa))) ⟨hx, hb, hml, hown, hts⟩ hM ⟨va_cnB (jr_ar q) hts (jm_goodIn m1) rfl rfl rfl (hW0.2.1 _ hlk) (hts _ m4) ⟨m3.1, m3.2, m5⟩ hrm, hts _ m7, trivial⟩ hpre rfl hlen (hL.2.1) rfl hcat hd hroom) hS (fun H1 locs1 hR1 hS1 => ?_)
    rw [jm_tv_toList]
    exact hg H1 locs1 ls hR1 hS1 hL
end JCALL
