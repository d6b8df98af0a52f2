/-! A small machine: the same instructions over a plain store. Cells are numbers: 0..7 the static rows, 8 the script (both read only), from 9 on what is made, in the order of the making. -/
abbrev jm_T : Type := Nat → Nat × Nat
abbrev jm_P : Type := Nat → Nat → Option Nat
abbrev jm_I : Type := Nat → Nat → Int32
abbrev jm_L : Type := Nat → Nat → Int64
/-- how many cells; the kind of each (0 ints, 1 longs, 2 booleans, 3 Fitters, c + 4 an object of class c) and its length; references; ints; longs -/
abbrev jm_S : Type := Nat × jm_T × jm_P × jm_I × jm_L
abbrev jm_F : Type := Nat × Nat × Nat × List Value × List Value × jm_S
abbrev jm_X : Type := (jm_F ⊕ (Option Value × jm_S)) ⊕ (jm_Row × List Value × List Value)
def jm_u (I : jm_I) (a k : Nat) (x : Int32) : jm_I := fun i => if i = a then upd (I i) k x else I i
def jm_uL (L : jm_L) (a k : Nat) (x : Int64) : jm_L := fun i => if i = a then vp_updL (L i) k x else L i
def jm_uP (P : jm_P) (a k : Nat) (x : Option Nat) : jm_P := fun i => if i = a then va_up (P i) k x else P i
def jm_uA {α : Type} (F : Nat → α) (a : Nat) (f : α) : Nat → α := fun i => if i = a then f else F i
def jm_isL (v : Value) : Bool := v.category == 2
/-- a store to local i takes away a long at i - 1 -/
def jm_cl (lv : List Value) : Nat → List Value
  | 0 => lv
  | j + 1 => if jm_isL (lv.getD j .null) then lv.set j .null else lv
def jm_s1 (lv : List Value) (i : Nat) (v : Value) : List Value := (jm_cl lv i).set i v
def jm_s2 (lv : List Value) (i : Nat) (v : Value) : List Value := ((jm_cl lv i).set i v).set (i + 1) .null
def jm_fl (args : List Value) : List Value := args.flatMap fun v => if jm_isL v then [v, .null] else [v]
def jm_ini (args : List Value) (ml : Nat) : List Value := jm_fl args ++ List.replicate (ml - (jm_fl args).length) .null
def jm_in (j : Int32) (n : Nat) : Bool := decide (¬ (j < 0 ∨ n ≤ j.toNatClampNeg))
def jm_cnd (c : ClassFile.Cond) (x y : Int32) : Bool := match c with
  | .eq => decide (x = y)
  | .ne => decide (¬ x = y)
  | .lt => decide (x < y)
  | .ge => decide (y ≤ x)
  | .gt => decide (y < x)
  | .le => decide (x ≤ y)
def jm_tg (pc : Nat) (off : Int) : Option Nat := if 0 ≤ (pc : Int) + off then some ((pc : Int) + off).toNat else none
def jm_len : Instr → Nat
  | .bipush _ => 2
  | .sipush _ => 3
  | .ldc _ => 2
  | .ldc_w _ => 3
  | .ldc2_w _ => 3
  | .iload _ => 2
  | .lload _ => 2
  | .aload _ => 2
  | .istore _ => 2
  | .lstore _ => 2
  | .astore _ => 2
  | .iinc _ _ => 3
  | .goto _ => 3
  | .if_icmp _ _ => 3
  | .ifCond _ _ => 3
  | .getfield _ => 3
  | .putfield _ => 3
  | .getstatic _ => 3
  | .new _ => 3
  | .newarray _ => 2
  | .anewarray _ => 3
  | .invokevirtual _ => 3
  | .invokespecial _ => 3
  | .invokestatic _ => 3
  | _ => 1
def jm_lok : Instr → Nat → Bool
  | .tableswitch .., _ => true
  | .lookupswitch .., _ => true
  | i, n => n == jm_len i
def jm_sw (d lo hi : Int) (offs : Array Int) (x : Int) : Option Int := if x < lo ∨ hi < x then some d else offs[(x - lo).toNat]?
def jm_lup (d : Int) (ps : Array (Int × Int)) (x : Int) : Option Int := if (ps.toList.zip (ps.toList.drop 1)).all (fun (a, next) => a.1 < next.1) = true then some (Op.lookupswitch.offset ps.toList d x) else none
def jm_cat (st : List Value) : Nat := (st.map fun v => v.category).sum
/-- may r call q with these arguments, and this below them on the stack -/
def jm_cok2 (r q : jm_Row) (uc us : Nat) (args rest : List Value) : Bool := decide (jr_fr q + 1 ≤ jr_fr r) && (decide (8 + (jr_ml q + 11) + jr_lo q ≤ jr_lo r) && (decide (uc + jr_mc q ≤ jr_mc r) && (decide (us + jr_ms q ≤ jr_ms r) && (decide (jm_cat rest ≤ 8) && decide ((jm_fl args).length ≤ jr_ml q)))))
def jm_cok3 (r q : jm_Row) (uc us : Nat) (args rest : List Value) : Bool := decide (jr_fr q + 1 ≤ jr_fr r) && (decide (12 + (jr_ml q + 11) + jr_lo q ≤ jr_lo r) && (decide (uc + jr_mc q ≤ jr_mc r) && (decide (us + jr_ms q ≤ jr_ms r) && (decide (jm_cat rest ≤ 12) && decide ((jm_fl args).length ≤ jr_ml q)))))
def jm_gv (σ : jm_S) (a c k : Nat) : Option Value := match jm_ft c k with
  | .int => some (.int (σ.2.2.2.1 a k))
  | .boolean => some (.int (σ.2.2.2.1 a k))
  | .long => some (.long (σ.2.2.2.2 a k))
  | .object _ => (σ.2.2.1 a k).map .ref
  | .array _ => (σ.2.2.1 a k).map .ref
  | _ => none
def jm_pv (σ : jm_S) (a c k : Nat) (v : Value) : Option jm_S := match jm_ft c k, v with
  | .int, .int x => some (σ.1, σ.2.1, σ.2.2.1, jm_u σ.2.2.2.1 a k x, σ.2.2.2.2)
  | .boolean, .int x => if x = 0 ∨ x = 1 then some (σ.1, σ.2.1, σ.2.2.1, jm_u σ.2.2.2.1 a k x, σ.2.2.2.2) else none
  | .long, .long x => some (σ.1, σ.2.1, σ.2.2.1, σ.2.2.2.1, jm_uL σ.2.2.2.2 a k x)
  | .object _, .ref b => some (σ.1, σ.2.1, jm_uP σ.2.2.1 a k (some b), σ.2.2.2.1, σ.2.2.2.2)
  | .array _, .ref b => some (σ.1, σ.2.1, jm_uP σ.2.2.1 a k (some b), σ.2.2.2.1, σ.2.2.2.2)
  | _, _ => none
/-- a new cell -/
def jm_nw (σ : jm_S) (t : Nat × Nat) : jm_S := (σ.1 + 1, jm_uA σ.2.1 σ.1 t, jm_uA σ.2.2.1 σ.1 (fun _ => none), jm_uA σ.2.2.2.1 σ.1 (fun _ => 0), jm_uA σ.2.2.2.2 σ.1 (fun _ => 0))
def jm_at (t : ArrayType) : Option Nat := match t with
  | .int => some 0
  | .long => some 1
  | .boolean => some 2
  | _ => none
def jm_rw (σ : jm_S) (a : Nat) : Bool := decide (9 ≤ a ∧ a < σ.1)
def jm_nx (r : jm_Row) (uc us pc : Nat) (lv st : List Value) (σ : jm_S) : Option jm_X :=
  match decode (jr_cd r) pc with
  | .error _ => none
  | .ok (i, len) =>
    if jm_lok i len = false then none else
    let go := fun (s : List Value) => (some (.inl (.inl (uc, us, pc + len, lv, s, σ))) : Option jm_X)
    let gl := fun (l s : List Value) => (some (.inl (.inl (uc, us, pc + len, l, s, σ))) : Option jm_X)
    let gs := fun (s : List Value) (τ : jm_S) => (some (.inl (.inl (uc, us, pc + len, lv, s, τ))) : Option jm_X)
    let ld := fun (k : Nat) => match lv[k]? with
      | some (.int x) => (go (.int x :: st))
      | some (.long x) => (go (.long x :: st))
      | some (.ref x) => (go (.ref x :: st))
      | _ => none
    match i with
    | .iconst n => go (.int (Int32.ofInt n) :: st)
    | .bipush n => go (.int (Int8.ofInt n).toInt32 :: st)
    | .sipush n => go (.int (Int16.ofInt n).toInt32 :: st)
    | .lconst n => go (.long (Int64.ofNat (n : Nat)) :: st)
    | .ldc k => match jm_lk (jm_ki (jr_ow r)) k with
      | some v => go (.int v :: st)
      | none => none
    | .ldc_w k => match jm_lk (jm_ki (jr_ow r)) k with
      | some v => go (.int v :: st)
      | none => none
    | .ldc2_w k => match jm_lk (jm_kl (jr_ow r)) k with
      | some v => go (.long v :: st)
      | none => none
    | .iload_n k => match lv[(k : Nat)]? with
      | some (.int x) => go (.int x :: st)
      | _ => none
    | .iload k => match lv[k]? with
      | some (.int x) => go (.int x :: st)
      | _ => none
    | .lload_n k => match lv[(k : Nat)]? with
      | some (.long x) => go (.long x :: st)
      | _ => none
    | .lload k => match lv[k]? with
      | some (.long x) => go (.long x :: st)
      | _ => none
    | .aload_n k => match lv[(k : Nat)]? with
      | some (.ref x) => go (.ref x :: st)
      | _ => none
    | .aload k => match lv[k]? with
      | some (.ref x) => go (.ref x :: st)
      | _ => none
    | .istore_n k => match st with
      | .int x :: s => if (k : Nat) < lv.length then gl (jm_s1 lv k (.int x)) s else none
      | _ => none
    | .istore k => match st with
      | .int x :: s => if k < lv.length then gl (jm_s1 lv k (.int x)) s else none
      | _ => none
    | .lstore_n k => match st with
      | .long x :: s => if (k : Nat) + 1 < lv.length then gl (jm_s2 lv k (.long x)) s else none
      | _ => none
    | .lstore k => match st with
      | .long x :: s => if k + 1 < lv.length then gl (jm_s2 lv k (.long x)) s else none
      | _ => none
    | .astore_n k => match st with
      | .ref x :: s => if (k : Nat) < lv.length then gl (jm_s1 lv k (.ref x)) s else none
      | _ => none
    | .astore k => match st with
      | .ref x :: s => if k < lv.length then gl (jm_s1 lv k (.ref x)) s else none
      | _ => none
    | .iinc k n => match lv[k]? with
      | some (.int x) => gl (jm_s1 lv k (.int (x + Int32.ofInt n))) st
      | _ => none
    | .iadd => match st with
      | .int y :: .int x :: s => go (.int (x + y) :: s)
      | _ => none
    | .isub => match st with
      | .int y :: .int x :: s => go (.int (x - y) :: s)
      | _ => none
    | .imul => match st with
      | .int y :: .int x :: s => go (.int (x * y) :: s)
      | _ => none
    | .iand => match st with
      | .int y :: .int x :: s => go (.int (x &&& y) :: s)
      | _ => none
    | .ior => match st with
      | .int y :: .int x :: s => go (.int (x ||| y) :: s)
      | _ => none
    | .idiv => match st with
      | .int y :: .int x :: s => if y = 0 then none else go (.int (x / y) :: s)
      | _ => none
    | .irem => match st with
      | .int y :: .int x :: s => if y = 0 then none else go (.int (x - x / y * y) :: s)
      | _ => none
    | .ineg => match st with
      | .int x :: s => go (.int (-x) :: s)
      | _ => none
    | .ishl => match st with
      | .int y :: .int x :: s => go (.int (x <<< (y &&& 31)) :: s)
      | _ => none
    | .ishr => match st with
      | .int y :: .int x :: s => go (.int (x >>> (y &&& 31)) :: s)
      | _ => none
    | .iushr => match st with
      | .int y :: .int x :: s => go (.int (x.toUInt32 >>> (y.toUInt32 &&& Int32.toUInt32 31)).toInt32 :: s)
      | _ => none
    | .ladd => match st with
      | .long y :: .long x :: s => go (.long (x + y) :: s)
      | _ => none
    | .lsub => match st with
      | .long y :: .long x :: s => go (.long (x - y) :: s)
      | _ => none
    | .lmul => match st with
      | .long y :: .long x :: s => go (.long (x * y) :: s)
      | _ => none
    | .land => match st with
      | .long y :: .long x :: s => go (.long (x &&& y) :: s)
      | _ => none
    | .lor => match st with
      | .long y :: .long x :: s => go (.long (x ||| y) :: s)
      | _ => none
    | .lxor => match st with
      | .long y :: .long x :: s => go (.long (x ^^^ y) :: s)
      | _ => none
    | .ldiv => match st with
      | .long y :: .long x :: s => if y = 0 then none else go (.long (x / y) :: s)
      | _ => none
    | .lrem => match st with
      | .long y :: .long x :: s => if y = 0 then none else go (.long (x - x / y * y) :: s)
      | _ => none
    | .lneg => match st with
      | .long x :: s => go (.long (-x) :: s)
      | _ => none
    | .lshl => match st with
      | .int y :: .long x :: s => go (.long (x <<< (y.toInt64 &&& 63)) :: s)
      | _ => none
    | .lshr => match st with
      | .int y :: .long x :: s => go (.long (x >>> (y.toInt64 &&& 63)) :: s)
      | _ => none
    | .lushr => match st with
      | .int y :: .long x :: s => go (.long (x.toUInt64 >>> (y.toInt64.toUInt64 &&& Int64.toUInt64 63)).toInt64 :: s)
      | _ => none
    | .i2l => match st with
      | .int x :: s => go (.long x.toInt64 :: s)
      | _ => none
    | .l2i => match st with
      | .long x :: s => go (.int x.toInt32 :: s)
      | _ => none
    | .lcmp => match st with
      | .long y :: .long x :: s => go (.int (lg_cmp x y) :: s)
      | _ => none
    | .dup => match st with
      | v :: s => if v.category = 1 then go (v :: v :: s) else none
      | _ => none
    | .dup2 => match st with
      | v :: w :: s => if v.category = 1 ∧ w.category = 1 then go (v :: w :: v :: w :: s) else none
      | _ => none
    | .goto off => match jm_tg pc off with
      | some t => some (.inl (.inl (uc, us, t, lv, st, σ)))
      | none => none
    | .if_icmp c off => match st, jm_tg pc off with
      | .int y :: .int x :: s, some t => some (.inl (.inl (uc, us, if jm_cnd c x y then t else pc + 3, lv, s, σ)))
      | _, _ => none
    | .ifCond c off => match st, jm_tg pc off with
      | .int x :: s, some t => some (.inl (.inl (uc, us, if jm_cnd c x 0 then t else pc + 3, lv, s, σ)))
      | _, _ => none
    | .tableswitch d lo hi offs => match st with
      | .int x :: s => match jm_sw d lo hi offs x.toInt with
        | some off => match jm_tg pc off with
          | some t => some (.inl (.inl (uc, us, t, lv, s, σ)))
          | none => none
        | none => none
      | _ => none
    | .lookupswitch d ps => match st with
      | .int x :: s => match jm_lup d ps x.toInt with
        | some off => match jm_tg pc off with
          | some t => some (.inl (.inl (uc, us, t, lv, s, σ)))
          | none => none
        | none => none
      | _ => none
    | .getfield k => match jm_pool (jr_ow r) k, st with
      | some (3, c, f), .ref a :: s => if jm_rw σ a ∧ σ.2.1 a = (c + 4, jm_fn c) then (match jm_gv σ a c f with
          | some v => go (v :: s)
          | none => none) else none
      | _, _ => none
    | .putfield k => match jm_pool (jr_ow r) k, st with
      | some (3, c, f), v :: .ref a :: s => if jm_rw σ a ∧ σ.2.1 a = (c + 4, jm_fn c) ∧ ((jm_fT c f).2.2.2 = true → jr_kd r = 2 ∧ jr_ow r = c) then (match jm_pv σ a c f v with
          | some τ => gs s τ
          | none => none) else none
      | _, _ => none
    | .getstatic k => match jm_pool (jr_ow r) k with
      | some (4, a, _) => go (.ref a :: st)
      | _ => none
    | .iaload => match st with
      | .int j :: .ref a :: s => if a < σ.1 ∧ (σ.2.1 a).1 = 0 ∧ jm_in j (σ.2.1 a).2 then go (.int (σ.2.2.2.1 a j.toNatClampNeg) :: s) else none
      | _ => none
    | .baload => match st with
      | .int j :: .ref a :: s => if jm_rw σ a ∧ (σ.2.1 a).1 = 2 ∧ jm_in j (σ.2.1 a).2 then go (.int (σ.2.2.2.1 a j.toNatClampNeg) :: s) else none
      | _ => none
    | .laload => match st with
      | .int j :: .ref a :: s => if jm_rw σ a ∧ (σ.2.1 a).1 = 1 ∧ jm_in j (σ.2.1 a).2 then go (.long (σ.2.2.2.2 a j.toNatClampNeg) :: s) else none
      | _ => none
    | .aaload => match st with
      | .int j :: .ref a :: s => if jm_rw σ a ∧ (σ.2.1 a).1 = 3 ∧ jm_in j (σ.2.1 a).2 then (match σ.2.2.1 a j.toNatClampNeg with
          | some b => go (.ref b :: s)
          | none => none) else none
      | _ => none
    | .iastore => match st with
      | .int x :: .int j :: .ref a :: s => if jm_rw σ a ∧ (σ.2.1 a).1 = 0 ∧ jm_in j (σ.2.1 a).2 then gs s (σ.1, σ.2.1, σ.2.2.1, jm_u σ.2.2.2.1 a j.toNatClampNeg x, σ.2.2.2.2) else none
      | _ => none
    | .bastore => match st with
      | .int x :: .int j :: .ref a :: s => if jm_rw σ a ∧ (σ.2.1 a).1 = 2 ∧ jm_in j (σ.2.1 a).2 then gs s (σ.1, σ.2.1, σ.2.2.1, jm_u σ.2.2.2.1 a j.toNatClampNeg (x &&& 1), σ.2.2.2.2) else none
      | _ => none
    | .lastore => match st with
      | .long x :: .int j :: .ref a :: s => if jm_rw σ a ∧ (σ.2.1 a).1 = 1 ∧ jm_in j (σ.2.1 a).2 then gs s (σ.1, σ.2.1, σ.2.2.1, σ.2.2.2.1, jm_uL σ.2.2.2.2 a j.toNatClampNeg x) else none
      | _ => none
    | .aastore => match st with
      | .ref b :: .int j :: .ref a :: s => if jm_rw σ a ∧ (σ.2.1 a).1 = 3 ∧ jm_in j (σ.2.1 a).2 ∧ jm_rw σ b ∧ σ.2.1 b = (4, 8) then gs s (σ.1, σ.2.1, jm_uP σ.2.2.1 a j.toNatClampNeg (some b), σ.2.2.2.1, σ.2.2.2.2) else none
      | _ => none
    | .arraylength => match st with
      | .ref a :: s => if a < σ.1 ∧ (σ.2.1 a).1 ≤ 3 then go (.int (Int32.ofNat (σ.2.1 a).2) :: s) else none
      | _ => none
    | .new k => match jm_pool (jr_ow r) k with
      | some (5, c, _) => if uc + 1 ≤ jr_mc r ∧ us + jm_fn c ≤ jr_ms r then some (.inl (.inl (uc + 1, us + jm_fn c, pc + len, lv, .ref σ.1 :: st, jm_nw σ (c + 4, jm_fn c)))) else none
      | _ => none
    | .newarray t => match st, jm_at t with
      | .int n :: s, some g => if ¬ n < 0 ∧ n.toNatClampNeg ≤ 60000 ∧ uc + 1 ≤ jr_mc r ∧ us + n.toNatClampNeg ≤ jr_ms r then some (.inl (.inl (uc + 1, us + n.toNatClampNeg, pc + len, lv, .ref σ.1 :: s, jm_nw σ (g, n.toNatClampNeg)))) else none
      | _, _ => none
    | .anewarray k => match jm_pool (jr_ow r) k, st with
      | some (5, 0, _), .int n :: s => if ¬ n < 0 ∧ n.toNatClampNeg ≤ 60000 ∧ uc + 1 ≤ jr_mc r ∧ us + n.toNatClampNeg ≤ jr_ms r then some (.inl (.inl (uc + 1, us + n.toNatClampNeg, pc + len, lv, .ref σ.1 :: s, jm_nw σ (3, n.toNatClampNeg)))) else none
      | _, _ => none
    | .invokevirtual k => match jm_pool (jr_ow r) k with
      | some (0, y, _) => match jm_rows[y]? with
        | some q => match st.drop (jr_ar q) with
          | .ref b :: s => if jr_kd q = 0 ∧ jr_ar q ≤ st.length ∧ jm_rw σ b ∧ σ.2.1 b = (jr_ow q + 4, jm_fn (jr_ow q)) ∧ jm_cok3 r q uc us (.ref b :: (st.take (jr_ar q)).reverse) s then some (.inr (q, .ref b :: (st.take (jr_ar q)).reverse, s)) else none
          | _ => none
        | none => none
      | _ => none
    | .invokespecial k => match jm_pool (jr_ow r) k with
      | some (0, y, _) => match jm_rows[y]? with
        | some q => match st.drop (jr_ar q) with
          | .ref b :: s => if jr_kd q = 2 ∧ jr_ar q ≤ st.length ∧ jm_cok2 r q uc us (.ref b :: (st.take (jr_ar q)).reverse) s then some (.inr (q, .ref b :: (st.take (jr_ar q)).reverse, s)) else none
          | _ => none
        | none => none
      | some (1, _, _) => match st with
        | [.ref _] => if jr_kd r = 2 then go [] else none
        | _ => none
      | _ => none
    | .invokestatic k => match jm_pool (jr_ow r) k with
      | some (0, y, _) => match jm_rows[y]? with
        | some q => if jr_kd q = 1 ∧ jr_ar q ≤ st.length ∧ jm_cok2 r q uc us (st.take (jr_ar q)).reverse (st.drop (jr_ar q)) then some (.inr (q, (st.take (jr_ar q)).reverse, st.drop (jr_ar q))) else none
        | none => none
      | some (6, y, _) => if 1 ≤ jr_fr r ∧ 23 ≤ jr_lo r ∧ uc ≤ jr_mc r ∧ us ≤ jr_ms r then (match y, st with
        | 0, .int y :: .int x :: s => if jm_cat s ≤ 8 then go (.int (if x < y then y else x) :: s) else none
        | 1, .int y :: .int x :: s => if jm_cat s ≤ 8 then go (.int (if y < x then y else x) :: s) else none
        | 2, .long y :: .long x :: s => if jm_cat s ≤ 8 then go (.long (if y < x then x else y) :: s) else none
        | 3, .long y :: .long x :: s => if jm_cat s ≤ 8 then go (.long (if y < x then y else x) :: s) else none
        | 4, .long x :: s => if jm_cat s ≤ 8 then go (.long (if 0 < x then x else -x) :: s) else none
        | _, _ => none) else none
      | some (2, _, _) => match st with
        | [.int n, .int dp, .ref a, .int sp, .ref b] => if jm_rw σ a ∧ jm_rw σ b ∧ (σ.2.1 a).1 = 0 ∧ (σ.2.1 b).1 = 0 ∧ ¬ sp < 0 ∧ ¬ dp < 0 ∧ ¬ n < 0 ∧ sp.toNatClampNeg + n.toNatClampNeg ≤ (σ.2.1 b).2 ∧ dp.toNatClampNeg + n.toNatClampNeg ≤ (σ.2.1 a).2 ∧ 1 ≤ jr_fr r ∧ 40 ≤ jr_lo r then gs [] (σ.1, σ.2.1, σ.2.2.1, jm_uA σ.2.2.2.1 a (va_cpy (σ.2.2.2.1 b) (σ.2.2.2.1 a) sp.toNatClampNeg dp.toNatClampNeg n.toNatClampNeg), σ.2.2.2.2) else none
        | _ => none
      | _ => none
    | .ireturn => match st, jr_rt r with
      | [.int x], some .int => if uc ≤ jr_mc r ∧ us ≤ jr_ms r then some (.inl (.inr (some (.int x), σ))) else none
      | [.int x], some .boolean => if (x = 0 ∨ x = 1) ∧ uc ≤ jr_mc r ∧ us ≤ jr_ms r then some (.inl (.inr (some (.int x), σ))) else none
      | _, _ => none
    | .lreturn => match st, jr_rt r with
      | [.long x], some .long => if uc ≤ jr_mc r ∧ us ≤ jr_ms r then some (.inl (.inr (some (.long x), σ))) else none
      | _, _ => none
    | .areturn => match st, jr_rt r with
      | [.ref x], some (.object _) => if uc ≤ jr_mc r ∧ us ≤ jr_ms r then some (.inl (.inr (some (.ref x), σ))) else none
      | [.ref x], some (.array _) => if uc ≤ jr_mc r ∧ us ≤ jr_ms r then some (.inl (.inr (some (.ref x), σ))) else none
      | _, _ => none
    | .return_ => match st, jr_rt r with
      | [], none => if uc ≤ jr_mc r ∧ us ≤ jr_ms r then some (.inl (.inr (none, σ))) else none
      | _, _ => none
    | _ => none
def jm_go : Nat → jm_Row → Nat → Nat → Nat → List Value → List Value → jm_S → Option (Option Value × jm_S)
  | 0, _, _, _, _, _, _, _ => none
  | n + 1, r, uc, us, pc, lv, st, σ => match jm_nx r uc us pc lv st σ with
    | none => none
    | some (.inl (.inl f)) => jm_go n r f.1 f.2.1 f.2.2.1 f.2.2.2.1 f.2.2.2.2.1 f.2.2.2.2.2
    | some (.inl (.inr q)) => some q
    | some (.inr c) => (jm_go n c.1 0 0 0 (jm_ini c.2.1 (jr_ml c.1)) [] σ).bind fun x => jm_go n r (uc + jr_mc c.1) (us + jr_ms c.1) (pc + 3) lv (x.1.toList ++ c.2.2) x.2
theorem jm_go_succ (n : Nat) (r : jm_Row) (uc us pc : Nat) (lv st : List Value) (σ : jm_S) : jm_go (n + 1) r uc us pc lv st σ = (match jm_nx r uc us pc lv st σ with
    | none => none
    | some (.inl (.inl f)) => jm_go n r f.1 f.2.1 f.2.2.1 f.2.2.2.1 f.2.2.2.2.1 f.2.2.2.2.2
    | some (.inl (.inr q)) => some q
    | some (.inr c) => (jm_go n c.1 0 0 0 (jm_ini c.2.1 (jr_ml c.1)) [] σ).bind fun x => jm_go n r (uc + jr_mc c.1) (us + jr_ms c.1) (pc + 3) lv (x.1.toList ++ c.2.2) x.2) := rfl
theorem jm_go_mono : ∀ (n : Nat) (r : jm_Row) (uc us pc : Nat) (lv st : List Value) (σ : jm_S) (x : Option Value × jm_S), jm_go n r uc us pc lv st σ = some x → jm_go (n + 1) r uc us pc lv st σ = some x := by
  intro n
  induction n with
  | zero => intro r uc us pc lv st σ x h; cases h
  | succ n ih =>
    intro r uc us pc lv st σ x h
    rw [jm_go_succ] at h ⊢
    generalize jm_nx r uc us pc lv st σ = o at h ⊢
    match o, h with
    | some (.inl (.inl f)), h => exact ih _ _ _ _ _ _ _ _ h
    | some (.inl (.inr q)), h => exact h
    | some (.inr c), h =>
      dsimp only at h ⊢
      cases h1 : jm_go n c.1 0 0 0 (jm_ini c.2.1 (jr_ml c.1)) [] σ with
      | none => rw [h1] at h; cases h
      | some y =>
        rw [h1] at h
        rw [ih _ _ _ _ _ _ _ _ h1]
        exact ih _ _ _ _ _ _ _ _ h
theorem jm_go_le {n k : Nat} (hk : n ≤ k) {r : jm_Row} {uc us pc : Nat} {lv st : List Value} {σ : jm_S} {x : Option Value × jm_S} (h : jm_go n r uc us pc lv st σ = some x) : jm_go k r uc us pc lv st σ = some x := by
  induction hk with
  | refl => exact h
  | step _ ih => exact jm_go_mono _ _ _ _ _ _ _ _ _ ih
/-- what the small machine comes to from here, if it comes to an end -/
noncomputable def jm_D (r : jm_Row) (uc us pc : Nat) (lv st : List Value) (σ : jm_S) : Option (Option Value × jm_S) :=
  @dite (Option (Option Value × jm_S)) (∃ n x, jm_go n r uc us pc lv st σ = some x) (Classical.propDecidable _) (fun h => some (Classical.choose (Classical.choose_spec h))) (fun _ => none)
theorem jm_D_of {n : Nat} {r : jm_Row} {uc us pc : Nat} {lv st : List Value} {σ : jm_S} {x : Option Value × jm_S} (h : jm_go n r uc us pc lv st σ = some x) : jm_D r uc us pc lv st σ = some x := by
  have hE : ∃ n x, jm_go n r uc us pc lv st σ = some x := ⟨n, x, h⟩
  unfold jm_D
  rw [dif_pos hE]
  have h2 := Classical.choose_spec (Classical.choose_spec hE)
  have a := jm_go_le (Nat.le_max_left n (Classical.choose hE)) h
  have b := jm_go_le (Nat.le_max_right n (Classical.choose hE)) h2
  rw [a] at b
  exact b.symm
theorem jm_D_go {r : jm_Row} {uc us pc : Nat} {lv st : List Value} {σ : jm_S} {x : Option Value × jm_S} (h : jm_D r uc us pc lv st σ = some x) : ∃ n, jm_go n r uc us pc lv st σ = some x := by
  unfold jm_D at h
  split at h
  · rename_i hE
    have h2 := Classical.choose_spec (Classical.choose_spec hE)
    exact ⟨_, by rw [h2, ← h]⟩
  · cases h
theorem jm_D_none {r : jm_Row} {uc us pc : Nat} {lv st : List Value} {σ : jm_S} (h : ∀ n, jm_go n r uc us pc lv st σ = none) : jm_D r uc us pc lv st σ = none := by
  cases hd : jm_D r uc us pc lv st σ with
  | none => rfl
  | some x => obtain ⟨n, hn⟩ := jm_D_go hd; rw [h n] at hn; cases hn
theorem jm_D_eq (r : jm_Row) (uc us pc : Nat) (lv st : List Value) (σ : jm_S) : jm_D r uc us pc lv st σ = (match jm_nx r uc us pc lv st σ with
    | none => none
    | some (.inl (.inl f)) => jm_D r f.1 f.2.1 f.2.2.1 f.2.2.2.1 f.2.2.2.2.1 f.2.2.2.2.2
    | some (.inl (.inr q)) => some q
    | some (.inr c) => (jm_D c.1 0 0 0 (jm_ini c.2.1 (jr_ml c.1)) [] σ).bind fun x => jm_D r (uc + jr_mc c.1) (us + jr_ms c.1) (pc + 3) lv (x.1.toList ++ c.2.2) x.2) := by
  have hs := fun n => jm_go_succ n r uc us pc lv st σ
  generalize jm_nx r uc us pc lv st σ = o at hs ⊢
  match o, hs with
  | none, hs =>
    refine jm_D_none fun n => ?_
    cases n with
    | zero => rfl
    | succ n => exact hs n
  | some (.inl (.inl f)), hs =>
    dsimp only at hs ⊢
    cases hd : jm_D r f.1 f.2.1 f.2.2.1 f.2.2.2.1 f.2.2.2.2.1 f.2.2.2.2.2 with
    | some x =>
      obtain ⟨n, hn⟩ := jm_D_go hd
      exact jm_D_of (n := n + 1) (by rw [hs]; exact hn)
    | none =>
      refine jm_D_none fun n => ?_
      cases n with
      | zero => rfl
      | succ n =>
        rw [hs]
        cases hg : jm_go n r f.1 f.2.1 f.2.2.1 f.2.2.2.1 f.2.2.2.2.1 f.2.2.2.2.2 with
        | none => rfl
        | some x => rw [jm_D_of hg] at hd; cases hd
  | some (.inl (.inr q)), hs => exact jm_D_of (n := 1) (hs 0)
  | some (.inr c), hs =>
    dsimp only at hs ⊢
    cases h1 : jm_D c.1 0 0 0 (jm_ini c.2.1 (jr_ml c.1)) [] σ with
    | none =>
      refine jm_D_none fun n => ?_
      cases n with
      | zero => rfl
      | succ n =>
        rw [hs]
        cases hg : jm_go n c.1 0 0 0 (jm_ini c.2.1 (jr_ml c.1)) [] σ with
        | none => rfl
        | some x => rw [jm_D_of hg] at h1; cases h1
    | some y =>
      rw [Option.bind_some]
      cases h2 : jm_D r (uc + jr_mc c.1) (us + jr_ms c.1) (pc + 3) lv (y.1.toList ++ c.2.2) y.2 with
      | some x =>
        obtain ⟨n1, hn1⟩ := jm_D_go h1
        obtain ⟨n2, hn2⟩ := jm_D_go h2
        refine jm_D_of (n := max n1 n2 + 1) ?_
        rw [hs, jm_go_le (Nat.le_max_left n1 n2) hn1, Option.bind_some]
        exact jm_go_le (Nat.le_max_right n1 n2) hn2
      | none =>
        refine jm_D_none fun n => ?_
        cases n with
        | zero => rfl
        | succ n =>
          rw [hs]
          cases hg : jm_go n c.1 0 0 0 (jm_ini c.2.1 (jr_ml c.1)) [] σ with
          | none => rfl
          | some x =>
            have := jm_D_of hg
            rw [h1] at this
            cases this
            rw [Option.bind_some]
            cases hg2 : jm_go n r (uc + jr_mc c.1) (us + jr_ms c.1) (pc + 3) lv (y.1.toList ++ c.2.2) y.2 with
            | none => rfl
            | some x => rw [jm_D_of hg2] at h2; cases h2
