/-! From the entry, for every script, the law comes to its end with true. -/
theorem lw_nest_at {b : Nat} {s : State} (hts : ∀ w ∈ lw_tbl, w.before #[Value.ref b] s = true) : ∀ w ∈ lw_nest, w.before #[] s = true := by
  intro w hw
  have h1 := hts w (List.mem_filter.mp hw).1
  have h2 : jm_nst w = true := (List.mem_filter.mp hw).2
  match w, h1, h2 with
  | .methodLinkNest .., h1, _ => exact h1
  | .fieldLinkNest .., h1, _ => exact h1
  | .arrayOver (.object C), h1, _ => exact h1
theorem start_K {args : Array Value} {s : State} (hts : ∀ w ∈ lw_good, w.before args s = true) (hq : (Cond.arrayOver (.object RX0)).before #[] s = true) : ∃ (D : va_G) (cs : jm_cs), va_K D vwCl (jm_ty cs) s := by
  have h : ∀ c : Nat, ∃ q : ClassId × (Nat → Nat), c < 11 → u_Kn s (jm_cn c) (jm_fT c) (jm_fn c) q.1 q.2 := by
    intro c
    by_cases hc : c < 11
    · obtain ⟨g1, g2, -, -, g3, -, -⟩ := jm_call_ok c hc
      obtain ⟨cC, iS, hk⟩ := u_known hts g2 (hts _ g3)
      exact ⟨(cC, iS), fun _ => hk⟩
    · exact ⟨(0, fun _ => 0), fun q => absurd q hc⟩
  obtain ⟨F, hF⟩ := Classical.axiomOfChoice h
  obtain ⟨c0, k0, p0, a0, b0, d0⟩ := Cond.arrayClass_spec (hts _ jm_arrI)
  obtain ⟨c1, k1, p1, a1, b1, d1⟩ := Cond.arrayClass_spec (hts _ jm_arrL)
  obtain ⟨c2, k2, p2, a2, b2, d2⟩ := Cond.arrayClass_spec (hts _ jm_arrZ)
  obtain ⟨p3, c3, k3, a3, -, b3, d3, e3⟩ := Cond.arrayOver_spec hq
  refine ⟨(fun c => (F c).1, fun c => (F c).2), (c0, c1, c2, c3), fun c q hc => ?_, fun k q hk => ?_⟩
  · have hlt : c < 11 := (List.getElem?_eq_some_iff.mp hc).1
    have e := (jm_call_ok c hlt).1
    cases e.symm.trans hc
    exact hF c hlt
  · match k, hk with
    | 0, hk => cases hk; exact ⟨fun n z => ⟨fun k h => (by cases h), k0, b0, p0, d0⟩, a0⟩
    | 1, hk => cases hk; exact ⟨fun n z => ⟨fun k h => (by cases h), k1, b1, p1, d1⟩, a1⟩
    | 2, hk => cases hk; exact ⟨fun n z => ⟨fun k h => (by cases h), k2, b2, p2, d2⟩, a2⟩
    | 3, hk => cases hk; exact ⟨fun n z => ⟨fun k h => (by cases h), k3, b3, p3, d3⟩, k3, p3, b3, d3, a3, e3⟩
theorem start_S (args : Array Value) {s : State} (hs : ∀ w ∈ flatC (Jvm.Cond.and given_1 narrow_1), w.before args s = true) (hts : ∀ w ∈ tables_1, w.before args s = true) {b L : Nat} (xs : Nat → Int32) (hL : L ≤ 3584) (hX : va_X b L xs s s.heap) (hb : b < s.heap.size) : ∃ sa : Nat → Nat, sa 8 = b ∧ (∀ i, i < 9 → sa i < s.heap.size ∧ va_X (sa i) (jT00 L i).2 (jI00 xs i) s s.heap) ∧ ∀ i, i < 8 → va_Z "LateMoons" (jm_sn i) "[I" (.ref (sa i)) (jm_A s.heap.size) s s.heap := by
  obtain ⟨t0, a0, b0, c0⟩ := stR_0 args hs hts xs
  obtain ⟨t1, a1, b1, c1⟩ := stR_1 args hs hts xs
  obtain ⟨t2, a2, b2, c2⟩ := stR_2 args hs hts xs
  obtain ⟨t3, a3, b3, c3⟩ := stR_3 args hs hts xs
  obtain ⟨t4, a4, b4, c4⟩ := stR_4 args hs hts xs
  obtain ⟨t5, a5, b5, c5⟩ := stR_5 args hs hts xs
  obtain ⟨t6, a6, b6, c6⟩ := stR_6 args hs hts xs
  obtain ⟨t7, a7, b7, c7⟩ := stR_7 args hs hts xs
  refine ⟨fun i => ([t0, t1, t2, t3, t4, t5, t6, t7] : List Nat).getD i b, rfl, fun i hi => ?_, fun i hi => ?_⟩
  · match i, hi with
    | 0, _ => exact ⟨a0, b0⟩
    | 1, _ => exact ⟨a1, b1⟩
    | 2, _ => exact ⟨a2, b2⟩
    | 3, _ => exact ⟨a3, b3⟩
    | 4, _ => exact ⟨a4, b4⟩
    | 5, _ => exact ⟨a5, b5⟩
    | 6, _ => exact ⟨a6, b6⟩
    | 7, _ => exact ⟨a7, b7⟩
    | 8, _ =>
      refine ⟨hb, ?_⟩
      show va_X b (min L 3584) xs s s.heap
      rw [Nat.min_eq_left hL]
      exact hX
  · match i, hi with
    | 0, _ => exact c0
    | 1, _ => exact c1
    | 2, _ => exact c2
    | 3, _ => exact c3
    | 4, _ => exact c4
    | 5, _ => exact c5
    | 6, _ => exact c6
    | 7, _ => exact c7
theorem law_runs (n : Nat) (xs : Nat → Int32) : ∃ I2 L2, jm_D rL_law 0 0 0 [.ref 8, .null, .null, .null] [] (9, (jT00 n), kP0, (jI00 xs), kL0) = some (some (.int (nI 1)), jS n I2 L2) := by
  obtain ⟨I2, L2, h⟩ := law_loop n (min n 3584) 0 (jI0 xs) jL0 (Nat.zero_le _) (by omega) (init_inv xs) (init_mod xs)
  exact ⟨I2, L2, (kc_law n xs).trans h⟩
theorem law_in : rL_law ∈ jm_rows := List.mem_of_getElem? (i := 0) rfl
theorem whole_start {p : Program} {e : Env} {s : State} {m : MethodId} {below : List Frame} {meth : Method} {c : Code} (l : Launch) {b L : Nat} {xs : Nat → Int32} (hL : L ≤ 3584) (C0 : lw_At p s m meth c b L xs) : W p l e room_1 s m #[Value.ref b] below meth c s.heap [] 0 0 (lw_Z below #[Value.ref b] s) (entryFrame m ([Value.ref b] : List Value).toArray 4) := by
  obtain ⟨hx, hb, hr, hml, hown, hts, hX, hbl, hlocks, hgv⟩ := id C0
  have hgood : ∀ w ∈ lw_good, w.before #[Value.ref b] s = true := fun w hw => hts w (List.mem_filter.mp hw).1
  have hnest := lw_nest_at hts
  obtain ⟨D, cs, hK⟩ := start_K hgood (hnest _ jm_arrF)
  obtain ⟨sa, h8, hs1, hs2⟩ := start_S #[Value.ref b] (flat_of_before _ hgv) (fun w hw => hts w (List.mem_append_right _ hw)) xs hL hX hbl
  obtain ⟨I2, L2, hrun⟩ := law_runs L xs
  have hG := jm_sound_D (b := s.heap.size) (sa := sa) (D := D) (cs := cs) (rn := fun i => (jT00 L i).2) (rf := jI00 xs) law_in hrun
  have hW0 : jm_W0 s.heap.size sa D cs (fun i => (jT00 L i).2) (jI00 xs) s s.heap := ⟨hK, hnest, hs1, hs2⟩
  have hC : jm_C s.heap.size sa D cs (fun i => (jT00 L i).2) (jI00 xs) rL_law (some (.int (nI 1)), jS L I2 L2) p l e room_1 s m #[Value.ref b] below meth c (lw_Z below #[Value.ref b] s) := by
    refine ⟨hx, hb, hml, hown, hgood, hW0, Nat.le_refl _, fun h => absurd h (by decide), rfl, rfl, rfl, rfl, fun H locs ls pc uc us h1 h2 _ hS hrt => ?_⟩
    refine va_forget hS.2.2 (W.widen h1 h2 ?_)
    exact lw_ret hx hb hr hlocks hrt.1
  have hR : jm_R s.heap.size sa D cs (fun i => (jT00 L i).2) (jI00 xs) (9, (jT00 L), kP0, (jI00 xs), kL0) s.heap := ⟨Nat.le_refl _, rfl, fun i _ => ⟨rfl, rfl⟩, fun k q h => by simp [jm_ws] at h⟩
  have hl := jm_entry (α := jm_al s.heap.size sa) (args := [Value.ref 8]) (n := 4) (by decide)
  have hv : ([Value.ref 8] : List Value).map (jm_tv (jm_al s.heap.size sa)) = [Value.ref b] := by
    show [Value.ref (jm_al s.heap.size sa 8)] = _
    rw [show jm_al s.heap.size sa 8 = b from h8]
  rw [hv] at hl
  rw [lg_entry_eq]
  exact hG p l e room_1 s m #[Value.ref b] below meth c _ hC s.heap [] _ hR va_S.rf hl
