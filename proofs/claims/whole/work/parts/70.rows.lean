/-! The class's rows that never change, at the law's entry. -/
theorem st_eqi {args : Array Value} {s : State} {t : Term} {z : Int32} (h : (Cond.eq t (.int z)).before args s = true) : t.eval args s none [] s = some (.int z) := by
  cases hv : t.eval args s none [] s with
  | none => simp [Cond.before, Cond.holds, Cond.value, hv] at h
  | some w =>
    have hz : (Term.int z).eval args s none [] s = some (.int z) := rfl
    simp only [Cond.before, Cond.holds, Cond.value, hv, hz] at h
    cases w <;> simp_all
theorem st_small {args : Array Value} {s : State} {t : Term} {v : Value} {a : Nat} {cell : Cell} (h : (Term.length t).eval args s none [] s = some v) (ht : t.eval args s none [] s = some (.ref a)) (hc : s.arrayAt? a = some cell) : cell.slots.size < 2147483648 := by
  simp only [Term.eval, ht, hc, Option.bind_eq_bind, Option.bind_some] at h
  by_cases hlt : cell.slots.size < 2147483648
  · exact hlt
  · simp [hlt] at h
theorem st_row {args : Array Value} {s : State} {C n d : String} {N : Nat} {f : Nat → Int32} {A : Nat → Prop} (hN : N < 100) (hl : (Cond.laysStatic C n d).before args s = true) (hini : (Cond.initialized C).before args s = true) (hof : (Cond.arrayOf (.static C n d) .int).before args s = true) (hlen : (Cond.eq (.length (.static C n d)) (.int (nI N))).before args s = true) (hel : ∀ j, j < N → (Cond.eq (.elem (.static C n d) (.int (nI j))) (.int (f j))).before args s = true) (hA : ∀ a : Nat, a < s.heap.size → ¬ A a) : ∃ t : Nat, t < s.heap.size ∧ va_X t N f s s.heap ∧ va_Z C n d (.ref t) A s s.heap := by
  have hlen := st_eqi hlen
  obtain ⟨a, cell, ht, harr, hv⟩ := Term.length_spec hlen
  have hsm := st_small hlen ht harr
  obtain ⟨hcell, hun, -, -⟩ := State.arrayAt?_spec harr
  have hsz : N = cell.slots.size := (nI_inj (by omega) hsm).mp (Value.int.inj hv)
  refine ⟨a, (Array.getElem?_eq_some_iff.mp hcell).1, ⟨cell, hcell, (Cond.arrayOf_spec hof ht hcell).1, hun, hsz.symm, fun j hj => ?_⟩, va_Zof hl hini ht hA⟩
  obtain ⟨a', j', cell', ht', hi, harr', -, hs⟩ := Term.elem_spec (st_eqi (hel j hj))
  cases ht.symm.trans ht'
  cases harr.symm.trans harr'
  have hi : (some (.int (nI j)) : Option Value) = some (.int j') := hi
  cases hi
  rw [show (nI j).toNatClampNeg = j from by
    show (nI j).toInt.toNat = j
    rw [nI_toInt (by omega)]
    omega] at hs
  exact hs
set_option maxRecDepth 100000 in
theorem stR_0 (args : Array Value) {s : State} (hs : ∀ w ∈ flatC (Jvm.Cond.and given_1 narrow_1), w.before args s = true) (hts : ∀ w ∈ tables_1, w.before args s = true) (xs : Nat → Int32) : ∃ t : Nat, t < s.heap.size ∧ va_X t 5 (jI00 xs 0) s s.heap ∧ va_Z "LateMoons" (jm_sn 0) "[I" (.ref t) (jm_A s.heap.size) s s.heap := by
  have h0 : (Cond.arrayOf (.static "LateMoons" "SETTING_LEAST" "[I") .int).before args s = true := hs _ (by decide +kernel)
  have h1 : (Cond.eq (.length (.static "LateMoons" "SETTING_LEAST" "[I")) (.int 5)).before args s = true := hs _ (by decide +kernel)
  have e0 : (Cond.eq (.elem (.static "LateMoons" "SETTING_LEAST" "[I") (.int 0)) (.int (0))).before args s = true := hs _ (by decide +kernel)
  have e1 : (Cond.eq (.elem (.static "LateMoons" "SETTING_LEAST" "[I") (.int 1)) (.int (1000))).before args s = true := hs _ (by decide +kernel)
  have e2 : (Cond.eq (.elem (.static "LateMoons" "SETTING_LEAST" "[I") (.int 2)) (.int (1))).before args s = true := hs _ (by decide +kernel)
  have e3 : (Cond.eq (.elem (.static "LateMoons" "SETTING_LEAST" "[I") (.int 3)) (.int (0))).before args s = true := hs _ (by decide +kernel)
  have e4 : (Cond.eq (.elem (.static "LateMoons" "SETTING_LEAST" "[I") (.int 4)) (.int (0))).before args s = true := hs _ (by decide +kernel)
  refine st_row (by omega) (hts _ jm_ls0) (hts (.initialized "LateMoons") (jm_t1 1 rfl)) h0 h1 (fun j hj => ?_) (fun a ha => Nat.not_le.mpr ha)
  match j, hj with
  | 0, _ => exact e0
  | 1, _ => exact e1
  | 2, _ => exact e2
  | 3, _ => exact e3
  | 4, _ => exact e4
set_option maxRecDepth 100000 in
theorem stR_1 (args : Array Value) {s : State} (hs : ∀ w ∈ flatC (Jvm.Cond.and given_1 narrow_1), w.before args s = true) (hts : ∀ w ∈ tables_1, w.before args s = true) (xs : Nat → Int32) : ∃ t : Nat, t < s.heap.size ∧ va_X t 5 (jI00 xs 1) s s.heap ∧ va_Z "LateMoons" (jm_sn 1) "[I" (.ref t) (jm_A s.heap.size) s s.heap := by
  have h0 : (Cond.arrayOf (.static "LateMoons" "SETTING_GREATEST" "[I") .int).before args s = true := hs _ (by decide +kernel)
  have h1 : (Cond.eq (.length (.static "LateMoons" "SETTING_GREATEST" "[I")) (.int 5)).before args s = true := hs _ (by decide +kernel)
  have e0 : (Cond.eq (.elem (.static "LateMoons" "SETTING_GREATEST" "[I") (.int 0)) (.int (2000))).before args s = true := hs _ (by decide +kernel)
  have e1 : (Cond.eq (.elem (.static "LateMoons" "SETTING_GREATEST" "[I") (.int 1)) (.int (99999999))).before args s = true := hs _ (by decide +kernel)
  have e2 : (Cond.eq (.elem (.static "LateMoons" "SETTING_GREATEST" "[I") (.int 2)) (.int (60))).before args s = true := hs _ (by decide +kernel)
  have e3 : (Cond.eq (.elem (.static "LateMoons" "SETTING_GREATEST" "[I") (.int 3)) (.int (9999))).before args s = true := hs _ (by decide +kernel)
  have e4 : (Cond.eq (.elem (.static "LateMoons" "SETTING_GREATEST" "[I") (.int 4)) (.int (999))).before args s = true := hs _ (by decide +kernel)
  refine st_row (by omega) (hts _ jm_ls1) (hts (.initialized "LateMoons") (jm_t1 1 rfl)) h0 h1 (fun j hj => ?_) (fun a ha => Nat.not_le.mpr ha)
  match j, hj with
  | 0, _ => exact e0
  | 1, _ => exact e1
  | 2, _ => exact e2
  | 3, _ => exact e3
  | 4, _ => exact e4
set_option maxRecDepth 100000 in
theorem stR_2 (args : Array Value) {s : State} (hs : ∀ w ∈ flatC (Jvm.Cond.and given_1 narrow_1), w.before args s = true) (hts : ∀ w ∈ tables_1, w.before args s = true) (xs : Nat → Int32) : ∃ t : Nat, t < s.heap.size ∧ va_X t 8 (jI00 xs 2) s s.heap ∧ va_Z "LateMoons" (jm_sn 2) "[I" (.ref t) (jm_A s.heap.size) s s.heap := by
  have h0 : (Cond.arrayOf (.static "LateMoons" "WAVE" "[I") .int).before args s = true := hs _ (by decide +kernel)
  have h1 : (Cond.eq (.length (.static "LateMoons" "WAVE" "[I")) (.int 8)).before args s = true := hs _ (by decide +kernel)
  have e0 : (Cond.eq (.elem (.static "LateMoons" "WAVE" "[I") (.int 0)) (.int (0))).before args s = true := hs _ (by decide +kernel)
  have e1 : (Cond.eq (.elem (.static "LateMoons" "WAVE" "[I") (.int 1)) (.int (3))).before args s = true := hs _ (by decide +kernel)
  have e2 : (Cond.eq (.elem (.static "LateMoons" "WAVE" "[I") (.int 2)) (.int (4))).before args s = true := hs _ (by decide +kernel)
  have e3 : (Cond.eq (.elem (.static "LateMoons" "WAVE" "[I") (.int 3)) (.int (3))).before args s = true := hs _ (by decide +kernel)
  have e4 : (Cond.eq (.elem (.static "LateMoons" "WAVE" "[I") (.int 4)) (.int (0))).before args s = true := hs _ (by decide +kernel)
  have e5 : (Cond.eq (.elem (.static "LateMoons" "WAVE" "[I") (.int 5)) (.int (-3))).before args s = true := hs _ (by decide +kernel)
  have e6 : (Cond.eq (.elem (.static "LateMoons" "WAVE" "[I") (.int 6)) (.int (-4))).before args s = true := hs _ (by decide +kernel)
  have e7 : (Cond.eq (.elem (.static "LateMoons" "WAVE" "[I") (.int 7)) (.int (-3))).before args s = true := hs _ (by decide +kernel)
  refine st_row (by omega) (hts _ jm_ls2) (hts (.initialized "LateMoons") (jm_t1 1 rfl)) h0 h1 (fun j hj => ?_) (fun a ha => Nat.not_le.mpr ha)
  match j, hj with
  | 0, _ => exact e0
  | 1, _ => exact e1
  | 2, _ => exact e2
  | 3, _ => exact e3
  | 4, _ => exact e4
  | 5, _ => exact e5
  | 6, _ => exact e6
  | 7, _ => exact e7
set_option maxRecDepth 100000 in
theorem stR_3 (args : Array Value) {s : State} (hs : ∀ w ∈ flatC (Jvm.Cond.and given_1 narrow_1), w.before args s = true) (hts : ∀ w ∈ tables_1, w.before args s = true) (xs : Nat → Int32) : ∃ t : Nat, t < s.heap.size ∧ va_X t 4 (jI00 xs 3) s s.heap ∧ va_Z "LateMoons" (jm_sn 3) "[I" (.ref t) (jm_A s.heap.size) s s.heap := by
  have h0 : (Cond.arrayOf (.static "LateMoons" "TOOL_HOLDERS" "[I") .int).before args s = true := hs _ (by decide +kernel)
  have h1 : (Cond.eq (.length (.static "LateMoons" "TOOL_HOLDERS" "[I")) (.int 4)).before args s = true := hs _ (by decide +kernel)
  have e0 : (Cond.eq (.elem (.static "LateMoons" "TOOL_HOLDERS" "[I") (.int 0)) (.int (6))).before args s = true := hs _ (by decide +kernel)
  have e1 : (Cond.eq (.elem (.static "LateMoons" "TOOL_HOLDERS" "[I") (.int 1)) (.int (4))).before args s = true := hs _ (by decide +kernel)
  have e2 : (Cond.eq (.elem (.static "LateMoons" "TOOL_HOLDERS" "[I") (.int 2)) (.int (4))).before args s = true := hs _ (by decide +kernel)
  have e3 : (Cond.eq (.elem (.static "LateMoons" "TOOL_HOLDERS" "[I") (.int 3)) (.int (4))).before args s = true := hs _ (by decide +kernel)
  refine st_row (by omega) (hts _ jm_ls3) (hts (.initialized "LateMoons") (jm_t1 1 rfl)) h0 h1 (fun j hj => ?_) (fun a ha => Nat.not_le.mpr ha)
  match j, hj with
  | 0, _ => exact e0
  | 1, _ => exact e1
  | 2, _ => exact e2
  | 3, _ => exact e3
set_option maxRecDepth 100000 in
theorem stR_4 (args : Array Value) {s : State} (hs : ∀ w ∈ flatC (Jvm.Cond.and given_1 narrow_1), w.before args s = true) (hts : ∀ w ∈ tables_1, w.before args s = true) (xs : Nat → Int32) : ∃ t : Nat, t < s.heap.size ∧ va_X t 4 (jI00 xs 4) s s.heap ∧ va_Z "LateMoons" (jm_sn 4) "[I" (.ref t) (jm_A s.heap.size) s s.heap := by
  have h0 : (Cond.arrayOf (.static "LateMoons" "TOOL_LEAST" "[I") .int).before args s = true := hs _ (by decide +kernel)
  have h1 : (Cond.eq (.length (.static "LateMoons" "TOOL_LEAST" "[I")) (.int 4)).before args s = true := hs _ (by decide +kernel)
  have e0 : (Cond.eq (.elem (.static "LateMoons" "TOOL_LEAST" "[I") (.int 0)) (.int (-99))).before args s = true := hs _ (by decide +kernel)
  have e1 : (Cond.eq (.elem (.static "LateMoons" "TOOL_LEAST" "[I") (.int 1)) (.int (-99))).before args s = true := hs _ (by decide +kernel)
  have e2 : (Cond.eq (.elem (.static "LateMoons" "TOOL_LEAST" "[I") (.int 2)) (.int (0))).before args s = true := hs _ (by decide +kernel)
  have e3 : (Cond.eq (.elem (.static "LateMoons" "TOOL_LEAST" "[I") (.int 3)) (.int (-43200))).before args s = true := hs _ (by decide +kernel)
  refine st_row (by omega) (hts _ jm_ls4) (hts (.initialized "LateMoons") (jm_t1 1 rfl)) h0 h1 (fun j hj => ?_) (fun a ha => Nat.not_le.mpr ha)
  match j, hj with
  | 0, _ => exact e0
  | 1, _ => exact e1
  | 2, _ => exact e2
  | 3, _ => exact e3
set_option maxRecDepth 100000 in
theorem stR_5 (args : Array Value) {s : State} (hs : ∀ w ∈ flatC (Jvm.Cond.and given_1 narrow_1), w.before args s = true) (hts : ∀ w ∈ tables_1, w.before args s = true) (xs : Nat → Int32) : ∃ t : Nat, t < s.heap.size ∧ va_X t 4 (jI00 xs 5) s s.heap ∧ va_Z "LateMoons" (jm_sn 5) "[I" (.ref t) (jm_A s.heap.size) s s.heap := by
  have h0 : (Cond.arrayOf (.static "LateMoons" "TOOL_GREATEST" "[I") .int).before args s = true := hs _ (by decide +kernel)
  have h1 : (Cond.eq (.length (.static "LateMoons" "TOOL_GREATEST" "[I")) (.int 4)).before args s = true := hs _ (by decide +kernel)
  have e0 : (Cond.eq (.elem (.static "LateMoons" "TOOL_GREATEST" "[I") (.int 0)) (.int (99))).before args s = true := hs _ (by decide +kernel)
  have e1 : (Cond.eq (.elem (.static "LateMoons" "TOOL_GREATEST" "[I") (.int 1)) (.int (99))).before args s = true := hs _ (by decide +kernel)
  have e2 : (Cond.eq (.elem (.static "LateMoons" "TOOL_GREATEST" "[I") (.int 2)) (.int (999999999))).before args s = true := hs _ (by decide +kernel)
  have e3 : (Cond.eq (.elem (.static "LateMoons" "TOOL_GREATEST" "[I") (.int 3)) (.int (43200))).before args s = true := hs _ (by decide +kernel)
  refine st_row (by omega) (hts _ jm_ls5) (hts (.initialized "LateMoons") (jm_t1 1 rfl)) h0 h1 (fun j hj => ?_) (fun a ha => Nat.not_le.mpr ha)
  match j, hj with
  | 0, _ => exact e0
  | 1, _ => exact e1
  | 2, _ => exact e2
  | 3, _ => exact e3
set_option maxRecDepth 100000 in
theorem stR_6 (args : Array Value) {s : State} (hs : ∀ w ∈ flatC (Jvm.Cond.and given_1 narrow_1), w.before args s = true) (hts : ∀ w ∈ tables_1, w.before args s = true) (xs : Nat → Int32) : ∃ t : Nat, t < s.heap.size ∧ va_X t 8 (jI00 xs 6) s s.heap ∧ va_Z "LateMoons" (jm_sn 6) "[I" (.ref t) (jm_A s.heap.size) s s.heap := by
  have h0 : (Cond.arrayOf (.static "LateMoons" "ROW_GREATEST" "[I") .int).before args s = true := hs _ (by decide +kernel)
  have h1 : (Cond.eq (.length (.static "LateMoons" "ROW_GREATEST" "[I")) (.int 8)).before args s = true := hs _ (by decide +kernel)
  have e0 : (Cond.eq (.elem (.static "LateMoons" "ROW_GREATEST" "[I") (.int 0)) (.int (3))).before args s = true := hs _ (by decide +kernel)
  have e1 : (Cond.eq (.elem (.static "LateMoons" "ROW_GREATEST" "[I") (.int 1)) (.int (999))).before args s = true := hs _ (by decide +kernel)
  have e2 : (Cond.eq (.elem (.static "LateMoons" "ROW_GREATEST" "[I") (.int 2)) (.int (7))).before args s = true := hs _ (by decide +kernel)
  have e3 : (Cond.eq (.elem (.static "LateMoons" "ROW_GREATEST" "[I") (.int 3)) (.int (5))).before args s = true := hs _ (by decide +kernel)
  have e4 : (Cond.eq (.elem (.static "LateMoons" "ROW_GREATEST" "[I") (.int 4)) (.int (3))).before args s = true := hs _ (by decide +kernel)
  have e5 : (Cond.eq (.elem (.static "LateMoons" "ROW_GREATEST" "[I") (.int 5)) (.int (3))).before args s = true := hs _ (by decide +kernel)
  have e6 : (Cond.eq (.elem (.static "LateMoons" "ROW_GREATEST" "[I") (.int 6)) (.int (19999))).before args s = true := hs _ (by decide +kernel)
  have e7 : (Cond.eq (.elem (.static "LateMoons" "ROW_GREATEST" "[I") (.int 7)) (.int (99999))).before args s = true := hs _ (by decide +kernel)
  refine st_row (by omega) (hts _ jm_ls6) (hts (.initialized "LateMoons") (jm_t1 1 rfl)) h0 h1 (fun j hj => ?_) (fun a ha => Nat.not_le.mpr ha)
  match j, hj with
  | 0, _ => exact e0
  | 1, _ => exact e1
  | 2, _ => exact e2
  | 3, _ => exact e3
  | 4, _ => exact e4
  | 5, _ => exact e5
  | 6, _ => exact e6
  | 7, _ => exact e7
set_option maxRecDepth 100000 in
theorem stR_7 (args : Array Value) {s : State} (hs : ∀ w ∈ flatC (Jvm.Cond.and given_1 narrow_1), w.before args s = true) (hts : ∀ w ∈ tables_1, w.before args s = true) (xs : Nat → Int32) : ∃ t : Nat, t < s.heap.size ∧ va_X t 4 (jI00 xs 7) s s.heap ∧ va_Z "LateMoons" (jm_sn 7) "[I" (.ref t) (jm_A s.heap.size) s s.heap := by
  have h0 : (Cond.arrayOf (.static "LateMoons" "NUMBERS_TO" "[I") .int).before args s = true := hs _ (by decide +kernel)
  have h1 : (Cond.eq (.length (.static "LateMoons" "NUMBERS_TO" "[I")) (.int 4)).before args s = true := hs _ (by decide +kernel)
  have e0 : (Cond.eq (.elem (.static "LateMoons" "NUMBERS_TO" "[I") (.int 0)) (.int (1))).before args s = true := hs _ (by decide +kernel)
  have e1 : (Cond.eq (.elem (.static "LateMoons" "NUMBERS_TO" "[I") (.int 1)) (.int (7))).before args s = true := hs _ (by decide +kernel)
  have e2 : (Cond.eq (.elem (.static "LateMoons" "NUMBERS_TO" "[I") (.int 2)) (.int (49))).before args s = true := hs _ (by decide +kernel)
  have e3 : (Cond.eq (.elem (.static "LateMoons" "NUMBERS_TO" "[I") (.int 3)) (.int (343))).before args s = true := hs _ (by decide +kernel)
  refine st_row (by omega) (hts _ jm_ls7) (hts (.initialized "LateMoons") (jm_t1 1 rfl)) h0 h1 (fun j hj => ?_) (fun a ha => Nat.not_le.mpr ha)
  match j, hj with
  | 0, _ => exact e0
  | 1, _ => exact e1
  | 2, _ => exact e2
  | 3, _ => exact e3
