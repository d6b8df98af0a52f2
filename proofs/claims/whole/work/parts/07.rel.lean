/-! The small machine's store, laid over the heap: cell i from 9 on lies at b + (i - 9); the read-only ones where sa says. -/
def jm_al (b : Nat) (sa : Nat → Nat) (i : Nat) : Nat := if i < 9 then sa i else b + (i - 9)
def jm_tv (α : Nat → Nat) : Value → Value
  | .ref i => .ref (α i)
  | v => v
theorem jm_tv_cat (α : Nat → Nat) (v : Value) : (jm_tv α v).category = v.category := by cases v <;> rfl
abbrev jm_cs : Type := ClassId × ClassId × ClassId × ClassId
def jm_ty (cs : jm_cs) : List (ClassId × FieldType) := [(cs.1, .int), (cs.2.1, .long), (cs.2.2.1, .boolean), (cs.2.2.2, .object RX0)]
def jm_fv (α : Nat → Nat) (σ : jm_S) (i c k : Nat) : Value := match jm_ft c k with
  | .int => .int (σ.2.2.2.1 i k)
  | .boolean => .int (σ.2.2.2.1 i k)
  | .long => .long (σ.2.2.2.2 i k)
  | _ => va_rf ((σ.2.2.1 i k).map α)
def jm_en (α : Nat → Nat) (cs : jm_cs) (σ : jm_S) (i : Nat) : va_E := match (σ.2.1 i).1 with
  | 0 => .inl (cs.1, (σ.2.1 i).2, .inl (σ.2.2.2.1 i))
  | 1 => .inl (cs.2.1, (σ.2.1 i).2, .inr (.inl (σ.2.2.2.2 i)))
  | 2 => .inl (cs.2.2.1, (σ.2.1 i).2, .inl (σ.2.2.2.1 i))
  | 3 => .inl (cs.2.2.2, (σ.2.1 i).2, .inr (.inr (.inr (.inr (fun j => (σ.2.2.1 i j).map α)))))
  | c + 4 => .inr (c, (List.range (jm_fn c)).map (jm_fv α σ i c))
def jm_ws (α : Nat → Nat) (cs : jm_cs) (σ : jm_S) : va_W := (List.range (σ.1 - 9)).map (fun k => (α (k + 9), jm_en α cs σ (k + 9)))
theorem jm_ws_len (α : Nat → Nat) (cs : jm_cs) (σ : jm_S) : (jm_ws α cs σ).length = σ.1 - 9 := by simp [jm_ws]
theorem jm_ws_k {α : Nat → Nat} {cs : jm_cs} {σ : jm_S} {k : Nat} (h : k < σ.1 - 9) : (jm_ws α cs σ)[k]? = some (α (k + 9), jm_en α cs σ (k + 9)) := by
  simp [jm_ws, h]
theorem jm_ws_at {α : Nat → Nat} {cs : jm_cs} {σ : jm_S} {a : Nat} (h9 : 9 ≤ a) (h : a < σ.1) : (jm_ws α cs σ)[a - 9]? = some (α a, jm_en α cs σ a) := by
  have h1 : a - 9 < σ.1 - 9 := by omega
  rw [jm_ws_k h1, show a - 9 + 9 = a by omega]
theorem jm_ws_of {α : Nat → Nat} {cs : jm_cs} {σ : jm_S} {k : Nat} {q : Nat × va_E} (h : (jm_ws α cs σ)[k]? = some q) : k < σ.1 - 9 ∧ q = (α (k + 9), jm_en α cs σ (k + 9)) := by
  have h1 : k < (jm_ws α cs σ).length := (List.getElem?_eq_some_iff.mp h).1
  rw [jm_ws_len] at h1
  rw [jm_ws_k h1] at h
  exact ⟨h1, (Option.some.inj h).symm⟩
theorem jm_en_eq {α : Nat → Nat} {cs : jm_cs} {σ τ : jm_S} {i : Nat} (h1 : τ.2.1 i = σ.2.1 i) (h2 : τ.2.2.1 i = σ.2.2.1 i) (h3 : τ.2.2.2.1 i = σ.2.2.2.1 i) (h4 : τ.2.2.2.2 i = σ.2.2.2.2 i) : jm_en α cs τ i = jm_en α cs σ i := by
  have hf : ∀ c, jm_fv α τ i c = jm_fv α σ i c := by
    intro c
    funext k
    unfold jm_fv
    rw [h2, h3, h4]
  unfold jm_en
  rw [h1, h2, h3, h4]
  simp only [hf]
theorem jm_ws_set {α : Nat → Nat} {cs : jm_cs} {σ τ : jm_S} {a : Nat} (h9 : 9 ≤ a) (hz : τ.1 = σ.1) (h : ∀ k, k ≠ a → jm_en α cs τ k = jm_en α cs σ k) : jm_ws α cs τ = (jm_ws α cs σ).set (a - 9) (α a, jm_en α cs τ a) := by
  apply List.ext_getElem?
  intro k
  by_cases hk : k < σ.1 - 9
  · rw [jm_ws_k (by rw [hz]; exact hk), List.getElem?_set]
    by_cases e : a - 9 = k
    · rw [if_pos e, jm_ws_len, if_pos (by omega), show k + 9 = a by omega]
    · rw [if_neg e, jm_ws_k hk, h (k + 9) (by omega)]
  · have h1 : (jm_ws α cs τ).length ≤ k := by rw [jm_ws_len]; omega
    have h2 : ((jm_ws α cs σ).set (a - 9) (α a, jm_en α cs τ a)).length ≤ k := by rw [List.length_set, jm_ws_len]; omega
    rw [List.getElem?_eq_none h1, List.getElem?_eq_none h2]
theorem jm_ws_push {α : Nat → Nat} {cs : jm_cs} {σ τ : jm_S} (h9 : 9 ≤ σ.1) (hz : τ.1 = σ.1 + 1) (h : ∀ k, k < σ.1 → jm_en α cs τ k = jm_en α cs σ k) : jm_ws α cs τ = jm_ws α cs σ ++ [(α σ.1, jm_en α cs τ σ.1)] := by
  unfold jm_ws
  rw [hz, show σ.1 + 1 - 9 = (σ.1 - 9) + 1 by omega, List.range_succ, List.map_append]
  congr 1
  · apply List.map_congr_left
    intro k hk
    have := List.mem_range.mp hk
    rw [h (k + 9) (by omega)]
  · simp only [List.map_cons, List.map_nil]
    rw [show σ.1 - 9 + 9 = σ.1 by omega]
section JREL
variable (b : Nat) (sa : Nat → Nat) (D : va_G) (cs : jm_cs) (rn : Nat → Nat) (rf : Nat → Nat → Int32)
/-- what a method may change -/
def jm_A (q : Nat) : Prop := b ≤ q
def jm_R (σ : jm_S) (H : Heap) : Prop := 9 ≤ σ.1 ∧ H.size + 9 = b + σ.1 ∧ (∀ i, i < 9 → σ.2.1 i = (0, rn i) ∧ σ.2.2.2.1 i = rf i) ∧ va_P D vwCl (jm_ws (jm_al b sa) cs σ) H
/-- what holds of the tables, of the static rows and of the script -/
def jm_W0 (U : State) (H : Heap) : Prop := va_K D vwCl (jm_ty cs) U ∧ (∀ w ∈ lw_nest, w.before #[] U = true) ∧ (∀ i, i < 9 → sa i < b ∧ va_X (sa i) (rn i) (rf i) U H) ∧ ∀ i, i < 8 → va_Z "LateMoons" (jm_sn i) "[I" (.ref (sa i)) (jm_A b) U H
end JREL
theorem jm_al_9 {b : Nat} {sa : Nat → Nat} {a : Nat} (h : 9 ≤ a) : jm_al b sa a = b + (a - 9) := by
  unfold jm_al
  rw [if_neg (by omega)]
theorem jm_dis {b : Nat} {sa : Nat → Nat} {cs : jm_cs} {σ : jm_S} : va_D (jm_A b) (jm_ws (jm_al b sa) cs σ) := by
  refine ⟨fun i j p q hp hq e => ?_, fun k q hq => ?_⟩
  · obtain ⟨-, rfl⟩ := jm_ws_of hp
    obtain ⟨-, rfl⟩ := jm_ws_of hq
    have e : jm_al b sa (i + 9) = jm_al b sa (j + 9) := e
    rw [jm_al_9 (by omega), jm_al_9 (by omega)] at e
    omega
  · obtain ⟨-, rfl⟩ := jm_ws_of hq
    show b ≤ jm_al b sa (k + 9)
    rw [jm_al_9 (by omega)]
    omega
theorem jm_nest_moved {s U : State} (hW : s.WarmedH U.vm) (h : ∀ w ∈ lw_nest, w.before #[] s = true) : ∀ w ∈ lw_nest, w.before #[] U = true := by
  intro w hw
  have h1 := h w hw
  have h2 : jm_nst w = true := (List.mem_filter.mp hw).2
  match w, h1, h2 with
  | .methodLinkNest .., h1, _ => exact va_Nw.warmM hW h1
  | .fieldLinkNest .., h1, _ => exact va_Nw.warmF hW h1
  | .arrayOver (.object C), h1, _ => exact va_AO.moved hW.alike h1
theorem jm_W0_moved {b : Nat} {sa : Nat → Nat} {D : va_G} {cs : jm_cs} {rn : Nat → Nat} {rf : Nat → Nat → Int32} {s U : State} {H0 H : Heap} (hW : s.WarmedH U.vm) (hb : b ≤ H0.size) (hk : ∀ q : Nat, q < H0.size → ¬ jm_A b q → H[q]? = H0[q]?) (h : jm_W0 b sa D cs rn rf s H0) : jm_W0 b sa D cs rn rf U H := by
  obtain ⟨h1, h2, h3, h4⟩ := h
  refine ⟨va_K.moved hW.alike h1, jm_nest_moved hW h2, fun i hi => ?_, fun i hi => ?_⟩
  · obtain ⟨g1, g2⟩ := h3 i hi
    exact ⟨g1, (g2.moved hW.alike).kept (hk _ (by omega) (show ¬ b ≤ sa i by omega))⟩
  · exact ((h4 i hi).moved hW.alike).kept hk
theorem jm_W0_blind {b : Nat} {sa : Nat → Nat} {D : va_G} {cs : jm_cs} {rn : Nat → Nat} {rf : Nat → Nat → Int32} {U : State} {H : Heap} {g : JFrame} {mk : MethodId} {a : Array Value} (h : jm_W0 b sa D cs rn rf U H) : jm_W0 b sa D cs rn rf (U.calling g mk a) H := by
  obtain ⟨h1, h2, h3, h4⟩ := h
  have hvm : U.vm.Alike (U.calling g mk a).vm := Vm.Alike.refl U.vm
  refine ⟨va_K.moved hvm h1, fun w hw => ?_, fun i hi => ⟨(h3 i hi).1, (h3 i hi).2.moved hvm⟩, fun i hi => (h4 i hi).moved hvm⟩
  have g1 := h2 w hw
  have g2 : jm_nst w = true := (List.mem_filter.mp hw).2
  match w, g1, g2 with
  | .methodLinkNest .., g1, _ => exact va_Nw.same (u := U) rfl rfl g1
  | .fieldLinkNest .., g1, _ => exact va_Nw.same (u := U) rfl rfl g1
  | .arrayOver (.object C), g1, _ => exact va_AO.moved hvm g1
/-- one cell changes -/
theorem jm_R_upd {b : Nat} {sa : Nat → Nat} {D : va_G} {cs : jm_cs} {rn : Nat → Nat} {rf : Nat → Nat → Int32} {σ τ : jm_S} {H H1 : Heap} {a : Nat} (hR : jm_R b sa D cs rn rf σ H) (ha : jm_rw σ a = true) (hz : τ.1 = σ.1) (hT : τ.2.1 = σ.2.1)
    (h2 : ∀ k, k ≠ a → τ.2.2.1 k = σ.2.2.1 k) (h3 : ∀ k, k ≠ a → τ.2.2.2.1 k = σ.2.2.2.1 k) (h4 : ∀ k, k ≠ a → τ.2.2.2.2 k = σ.2.2.2.2 k)
    (he : va_at D vwCl (jm_al b sa a, jm_en (jm_al b sa) cs τ a) H1) (z : H1.size = H.size) (oq : ∀ q : Nat, q ≠ jm_al b sa a → H1[q]? = H[q]?) : jm_R b sa D cs rn rf τ H1 := by
  obtain ⟨r1, r2, r3, r4⟩ := hR
  have ha2 : 9 ≤ a ∧ a < σ.1 := of_decide_eq_true ha
  refine ⟨by rw [hz]; exact r1, by rw [z, hz]; exact r2, fun i hi => ?_, ?_⟩
  · rw [hT, h3 i (by omega)]
    exact r3 i hi
  · rw [jm_ws_set (a := a) ha2.1 hz (fun k hk => jm_en_eq (by rw [hT]) (h2 k hk) (h3 k hk) (h4 k hk))]
    exact r4.set jm_dis (jm_ws_at ha2.1 ha2.2) he oq
/-- one cell more -/
theorem jm_R_new {b : Nat} {sa : Nat → Nat} {D : va_G} {cs : jm_cs} {rn : Nat → Nat} {rf : Nat → Nat → Int32} {σ : jm_S} {t : Nat × Nat} {H H1 : Heap} (hR : jm_R b sa D cs rn rf σ H)
    (he : va_at D vwCl (H.size, jm_en (jm_al b sa) cs (jm_nw σ t) σ.1) H1) (z : H1.size = H.size + 1) (oq : ∀ q : Nat, q < H.size → H1[q]? = H[q]?) : jm_R b sa D cs rn rf (jm_nw σ t) H1 := by
  obtain ⟨r1, r2, r3, r4⟩ := hR
  have hne : ∀ k, k < σ.1 → jm_en (jm_al b sa) cs (jm_nw σ t) k = jm_en (jm_al b sa) cs σ k := by
    intro k hk
    have hk2 : ¬ k = σ.1 := by omega
    exact jm_en_eq (by simp [jm_nw, jm_uA, hk2]) (by simp [jm_nw, jm_uA, hk2]) (by simp [jm_nw, jm_uA, hk2]) (by simp [jm_nw, jm_uA, hk2])
  have hal : jm_al b sa σ.1 = H.size := by rw [jm_al_9 r1]; omega
  refine ⟨by show 9 ≤ σ.1 + 1; omega, by show H1.size + 9 = b + (σ.1 + 1); omega, fun i hi => ?_, ?_⟩
  · have hi2 : ¬ i = σ.1 := by omega
    have := r3 i hi
    simpa [jm_nw, jm_uA, hi2] using this
  · rw [jm_ws_push r1 rfl hne, hal]
    refine va_P.app (r4.kept fun k q hq => oq q.1 ((r4 k q hq).lt)) (fun k q hq => ?_)
    have hz2 : k < 1 := (List.getElem?_eq_some_iff.mp hq).1
    rw [show k = 0 by omega] at hq
    cases hq
    exact he
/-- the locals -/
def jm_hl (α : Nat → Nat) (ls : Array Slot) (nL : Nat) (lv : List Value) : Prop := lv.length = nL ∧ ls.size = nL ∧ lv_wf ls ∧ ∀ (k : Nat) (u : Value), lv[k]? = some u → u ≠ .null → ls[k]? = some (.val (jm_tv α u))
def jm_ps (α : Nat → Nat) (lv : List Value) : List (Nat × Value) := (List.range lv.length).filterMap fun k => if lv.getD k .null = .null then none else some (k, jm_tv α (lv.getD k .null))
theorem jm_ps_mem {α : Nat → Nat} {lv : List Value} {q : Nat × Value} : q ∈ jm_ps α lv ↔ ∃ u, lv[q.1]? = some u ∧ u ≠ .null ∧ q.2 = jm_tv α u := by
  unfold jm_ps
  rw [List.mem_filterMap]
  constructor
  · rintro ⟨k, hk, h⟩
    have hk := List.mem_range.mp hk
    split at h
    · cases h
    · rename_i hn
      cases h
      refine ⟨lv.getD k .null, ?_, hn, rfl⟩
      simp [List.getD_eq_getElem?_getD, hk]
  · rintro ⟨u, h1, h2, h3⟩
    have hk : q.1 < lv.length := (List.getElem?_eq_some_iff.mp h1).1
    have hu : lv.getD q.1 .null = u := by simp [List.getD_eq_getElem?_getD, h1]
    refine ⟨q.1, List.mem_range.mpr hk, ?_⟩
    rw [hu, if_neg h2, ← h3]
theorem jm_hl_has {α : Nat → Nat} {ls : Array Slot} {nL : Nat} {lv : List Value} (h : jm_hl α ls nL lv) : lv_has ls nL (jm_ps α lv) := by
  refine ⟨h.2.1, h.2.2.1, fun q hq => ?_⟩
  obtain ⟨u, h1, h2, h3⟩ := jm_ps_mem.mp hq
  rw [h3]
  exact h.2.2.2 _ _ h1 h2
theorem jm_cl_len (lv : List Value) (i : Nat) : (jm_cl lv i).length = lv.length := by
  cases i with
  | zero => rfl
  | succ j => simp only [jm_cl]; split <;> simp
theorem jm_cl_get {lv : List Value} {i k : Nat} {u : Value} (h : (jm_cl lv i)[k]? = some u) (hu : u ≠ .null) : lv[k]? = some u ∧ ¬ (k + 1 = i ∧ u.category = 2) := by
  cases i with
  | zero => exact ⟨h, fun q => by omega⟩
  | succ j =>
    simp only [jm_cl] at h
    split at h
    · rename_i hL
      rw [List.getElem?_set] at h
      split at h
      · split at h
        · cases h; exact absurd rfl hu
        · cases h
      · rename_i hne
        exact ⟨h, fun q => hne (by omega)⟩
    · rename_i hL
      refine ⟨h, fun q => ?_⟩
      have e : k = j := by omega
      subst e
      have : lv.getD k .null = u := by simp [List.getD_eq_getElem?_getD, h]
      rw [this] at hL
      exact hL (by simp [jm_isL, q.2])
theorem jm_hl_s1 {α : Nat → Nat} {ls ls' : Array Slot} {nL i : Nat} {lv : List Value} {v : Value} (h : jm_hl α ls nL lv)
    (h' : lv_has ls' nL ((i, jm_tv α v) :: (jm_ps α lv).filter (fun q => !(q.1 == i) && !(q.1 + 1 == i && q.2.category == 2)))) : jm_hl α ls' nL (jm_s1 lv i v) := by
  refine ⟨by rw [← h.1]; simp [jm_s1, jm_cl_len], h'.1, h'.2.1, fun k u hk hu => ?_⟩
  unfold jm_s1 at hk
  rw [List.getElem?_set] at hk
  split at hk
  · rename_i e
    split at hk
    · cases hk
      subst e
      exact h'.2.2 _ List.mem_cons_self
    · cases hk
  · rename_i e
    obtain ⟨g1, g2⟩ := jm_cl_get hk hu
    refine h'.2.2 (k, jm_tv α u) (List.mem_cons_of_mem _ (List.mem_filter.mpr ⟨jm_ps_mem.mpr ⟨u, g1, hu, rfl⟩, ?_⟩))
    have e1 : (k == i) = false := by simp; omega
    simp only [e1, jm_tv_cat, Bool.not_false, Bool.true_and, Bool.not_eq_true', Bool.and_eq_false_iff, beq_eq_false_iff_ne]
    by_cases q : k + 1 = i
    · exact Or.inr fun c => g2 ⟨q, c⟩
    · exact Or.inl q
theorem jm_hl_s2 {α : Nat → Nat} {ls ls' : Array Slot} {nL i : Nat} {lv : List Value} {v : Value} (h : jm_hl α ls nL lv)
    (h' : lv_has ls' nL ((i, jm_tv α v) :: (jm_ps α lv).filter (fun q => !(q.1 == i) && (!(q.1 == i + 1) && !(q.1 + 1 == i && q.2.category == 2))))) : jm_hl α ls' nL (jm_s2 lv i v) := by
  refine ⟨by rw [← h.1]; simp [jm_s2, jm_cl_len], h'.1, h'.2.1, fun k u hk hu => ?_⟩
  unfold jm_s2 at hk
  rw [List.getElem?_set] at hk
  split at hk
  · split at hk
    · cases hk; exact absurd rfl hu
    · cases hk
  · rename_i e2
    rw [List.getElem?_set] at hk
    split at hk
    · rename_i e
      split at hk
      · cases hk
        subst e
        exact h'.2.2 _ List.mem_cons_self
      · cases hk
    · rename_i e
      obtain ⟨g1, g2⟩ := jm_cl_get hk hu
      refine h'.2.2 (k, jm_tv α u) (List.mem_cons_of_mem _ (List.mem_filter.mpr ⟨jm_ps_mem.mpr ⟨u, g1, hu, rfl⟩, ?_⟩))
      have e1 : (k == i) = false := by simp; omega
      have e3 : (k == i + 1) = false := by simp; omega
      simp only [e1, e3, jm_tv_cat, Bool.not_false, Bool.true_and, Bool.not_eq_true', Bool.and_eq_false_iff, beq_eq_false_iff_ne]
      by_cases q : k + 1 = i
      · exact Or.inr fun c => g2 ⟨q, c⟩
      · exact Or.inl q
theorem jm_fl_len (α : Nat → Nat) (args : List Value) : (lg_sl (args.map (jm_tv α))).length = (jm_fl args).length := by
  induction args with
  | nil => rfl
  | cons v t ih =>
    simp only [lg_sl, jm_fl, List.map_cons, List.flatMap_cons, List.length_append] at ih ⊢
    rw [ih, jm_tv_cat]
    congr 1
    by_cases h : v.category = 2 <;> simp [jm_isL, h]
theorem jm_fl_get (α : Nat → Nat) : ∀ (args : List Value) (k : Nat) (u : Value), (jm_fl args)[k]? = some u → u ≠ .null → (lg_sl (args.map (jm_tv α)))[k]? = some (.val (jm_tv α u)) := by
  intro args
  induction args with
  | nil => intro k u h; simp [jm_fl] at h
  | cons v t ih =>
    intro k u h hu
    have e1 : jm_fl (v :: t) = (if jm_isL v then [v, .null] else [v]) ++ jm_fl t := rfl
    have e2 : lg_sl ((v :: t).map (jm_tv α)) = (if (jm_tv α v).category = 2 then [.val (jm_tv α v), .second] else [.val (jm_tv α v)]) ++ lg_sl (t.map (jm_tv α)) := rfl
    rw [e1] at h
    rw [e2, jm_tv_cat]
    by_cases hc : v.category = 2
    · have hL : jm_isL v = true := by simp [jm_isL, hc]
      rw [if_pos hL] at h
      rw [if_pos hc]
      match k, h with
      | 0, h => cases h; rfl
      | 1, h => cases h; exact absurd rfl hu
      | k + 2, h => exact ih k u h hu
    · have hL : ¬ jm_isL v = true := by simp [jm_isL, hc]
      rw [if_neg hL] at h
      rw [if_neg hc]
      match k, h with
      | 0, h => cases h; rfl
      | k + 1, h => exact ih k u h hu
theorem jm_entry {α : Nat → Nat} {args : List Value} {n : Nat} (h : (jm_fl args).length ≤ n) : jm_hl α ((lg_sl (args.map (jm_tv α)) ++ List.replicate (n - (lg_sl (args.map (jm_tv α))).length) Slot.unset).toArray) n (jm_ini args n) := by
  have h0 := lv_entry (args.map (jm_tv α)) (n := n) (by rw [jm_fl_len]; exact h)
  refine ⟨by simp [jm_ini]; omega, h0.1, h0.2.1, fun k u hk hu => ?_⟩
  unfold jm_ini at hk
  rw [List.getElem?_append] at hk
  split at hk
  · rename_i hl
    have := jm_fl_get α args k u hk hu
    rw [List.getElem?_toArray, List.getElem?_append_left (by rw [jm_fl_len]; exact hl)]
    exact this
  · rw [List.getElem?_replicate] at hk
    split at hk
    · cases hk; exact absurd rfl hu
    · cases hk
