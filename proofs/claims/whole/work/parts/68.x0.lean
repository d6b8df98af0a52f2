section JX
variable {r : jm_Row} {uc us uc' us' pc pc' : Nat} {lv lv' st st' rest : List Value} {σ σ' : jm_S} {cc : ByteArray}
theorem jx_go (h : jm_nx r uc us pc lv st σ = some (.inl (.inl (uc', us', pc', lv', st', σ')))) : jm_D r uc us pc lv st σ = jm_D r uc' us' pc' lv' st' σ' := by
  rw [jm_D_eq, h]
theorem jx_iconst {k : Int} {v : Int32} (hc : jr_cd r = cc) (hd : decode cc pc = .ok (.iconst k, 1)) (hv : Int32.ofInt k = v) (hp : pc + 1 = pc') : jm_D r uc us pc lv st σ = jm_D r uc us pc' lv (.int v :: st) σ := by
  subst hp
  refine jx_go ?_
  unfold jm_nx
  rw [hc, hd]
  subst hv; rfl
theorem jx_bipush {k : Int} {v : Int32} (hc : jr_cd r = cc) (hd : decode cc pc = .ok (.bipush k, 2)) (hv : (Int8.ofInt k).toInt32 = v) (hp : pc + 2 = pc') : jm_D r uc us pc lv st σ = jm_D r uc us pc' lv (.int v :: st) σ := by
  subst hp
  refine jx_go ?_
  unfold jm_nx
  rw [hc, hd]
  subst hv; rfl
theorem jx_sipush {k : Int} {v : Int32} (hc : jr_cd r = cc) (hd : decode cc pc = .ok (.sipush k, 3)) (hv : (Int16.ofInt k).toInt32 = v) (hp : pc + 3 = pc') : jm_D r uc us pc lv st σ = jm_D r uc us pc' lv (.int v :: st) σ := by
  subst hp
  refine jx_go ?_
  unfold jm_nx
  rw [hc, hd]
  subst hv; rfl
theorem jx_ldc {k : Nat} {v w : Int32} (hc : jr_cd r = cc) (hd : decode cc pc = .ok (.ldc k, 2)) (hk : jm_lk (jm_ki (jr_ow r)) k = some v) (hv : v = w) (hp : pc + 2 = pc') : jm_D r uc us pc lv st σ = jm_D r uc us pc' lv (.int w :: st) σ := by
  subst hp
  refine jx_go ?_
  unfold jm_nx
  rw [hc, hd]
  subst hv; simp only [hk]; rfl
theorem jx_iload {k : Nat} {x : Int32} (hc : jr_cd r = cc) (hd : decode cc pc = .ok (.iload k, 2)) (hk : lv[k]? = some (.int x)) (hp : pc + 2 = pc') : jm_D r uc us pc lv st σ = jm_D r uc us pc' lv (.int x :: st) σ := by
  subst hp
  refine jx_go ?_
  unfold jm_nx
  rw [hc, hd]
  simp only [hk]; rfl
theorem jx_iload_n {k : Fin 4} {x : Int32} (hc : jr_cd r = cc) (hd : decode cc pc = .ok (.iload_n k, 1)) (hk : lv[(k : Nat)]? = some (.int x)) (hp : pc + 1 = pc') : jm_D r uc us pc lv st σ = jm_D r uc us pc' lv (.int x :: st) σ := by
  subst hp
  refine jx_go ?_
  unfold jm_nx
  rw [hc, hd]
  simp only [hk]; rfl
theorem jx_aload {k : Nat} {x : Nat} (hc : jr_cd r = cc) (hd : decode cc pc = .ok (.aload k, 2)) (hk : lv[k]? = some (.ref x)) (hp : pc + 2 = pc') : jm_D r uc us pc lv st σ = jm_D r uc us pc' lv (.ref x :: st) σ := by
  subst hp
  refine jx_go ?_
  unfold jm_nx
  rw [hc, hd]
  simp only [hk]; rfl
theorem jx_aload_n {k : Fin 4} {x : Nat} (hc : jr_cd r = cc) (hd : decode cc pc = .ok (.aload_n k, 1)) (hk : lv[(k : Nat)]? = some (.ref x)) (hp : pc + 1 = pc') : jm_D r uc us pc lv st σ = jm_D r uc us pc' lv (.ref x :: st) σ := by
  subst hp
  refine jx_go ?_
  unfold jm_nx
  rw [hc, hd]
  simp only [hk]; rfl
theorem jx_istore {k : Nat} {x : Int32} (hc : jr_cd r = cc) (hd : decode cc pc = .ok (.istore k, 2)) (hk : k < lv.length) (hv : jm_s1 lv k (.int x) = lv') (hp : pc + 2 = pc') : jm_D r uc us pc lv (.int x :: st) σ = jm_D r uc us pc' lv' st σ := by
  subst hp
  refine jx_go ?_
  unfold jm_nx
  rw [hc, hd]
  subst hv; simp only [if_pos hk]; rfl
theorem jx_istore_n {k : Fin 4} {x : Int32} (hc : jr_cd r = cc) (hd : decode cc pc = .ok (.istore_n k, 1)) (hk : (k : Nat) < lv.length) (hv : jm_s1 lv k (.int x) = lv') (hp : pc + 1 = pc') : jm_D r uc us pc lv (.int x :: st) σ = jm_D r uc us pc' lv' st σ := by
  subst hp
  refine jx_go ?_
  unfold jm_nx
  rw [hc, hd]
  subst hv; simp only [if_pos hk]; rfl
theorem jx_astore {k : Nat} {x : Nat} (hc : jr_cd r = cc) (hd : decode cc pc = .ok (.astore k, 2)) (hk : k < lv.length) (hv : jm_s1 lv k (.ref x) = lv') (hp : pc + 2 = pc') : jm_D r uc us pc lv (.ref x :: st) σ = jm_D r uc us pc' lv' st σ := by
  subst hp
  refine jx_go ?_
  unfold jm_nx
  rw [hc, hd]
  subst hv; simp only [if_pos hk]; rfl
theorem jx_astore_n {k : Fin 4} {x : Nat} (hc : jr_cd r = cc) (hd : decode cc pc = .ok (.astore_n k, 1)) (hk : (k : Nat) < lv.length) (hv : jm_s1 lv k (.ref x) = lv') (hp : pc + 1 = pc') : jm_D r uc us pc lv (.ref x :: st) σ = jm_D r uc us pc' lv' st σ := by
  subst hp
  refine jx_go ?_
  unfold jm_nx
  rw [hc, hd]
  subst hv; simp only [if_pos hk]; rfl
theorem jx_dup_ref {x : Nat} (hc : jr_cd r = cc) (hd : decode cc pc = .ok (.dup, 1)) (hp : pc + 1 = pc') : jm_D r uc us pc lv (.ref x :: st) σ = jm_D r uc us pc' lv (.ref x :: .ref x :: st) σ := by
  subst hp
  refine jx_go ?_
  unfold jm_nx
  rw [hc, hd]
  rfl
theorem jx_goto {off : Int} (hc : jr_cd r = cc) (hd : decode cc pc = .ok (.goto off, 3)) (hp : jm_tg pc off = some pc') : jm_D r uc us pc lv st σ = jm_D r uc us pc' lv st σ := by
  refine jx_go ?_
  unfold jm_nx
  rw [hc, hd]
  simp only [hp]
  rfl
theorem jx_iinc {k : Nat} {i : Int} {x y w : Int32} (hc : jr_cd r = cc) (hd : decode cc pc = .ok (.iinc k i, 3)) (hk : lv[k]? = some (.int x)) (hy : Int32.ofInt i = y) (hw : x + y = w) (hv : jm_s1 lv k (.int w) = lv') (hp : pc + 3 = pc') : jm_D r uc us pc lv st σ = jm_D r uc us pc' lv' st σ := by
  subst hp; subst hw; subst hy; subst hv
  refine jx_go ?_
  unfold jm_nx
  rw [hc, hd]
  simp only [hk]; rfl
theorem jx_icmp {cd : ClassFile.Cond} {off : Int} {x y : Int32} {t : Nat} {b : Bool} (hc : jr_cd r = cc) (hd : decode cc pc = .ok (.if_icmp cd off, 3)) (ht : jm_tg pc off = some t) (hb : jm_cnd cd x y = b) (hp : (if b = true then t else pc + 3) = pc') : jm_D r uc us pc lv (.int y :: .int x :: st) σ = jm_D r uc us pc' lv st σ := by
  subst hb; subst hp
  refine jx_go ?_
  unfold jm_nx
  rw [hc, hd]
  simp only [ht]
  rfl
theorem jx_new {k c z : Nat} (hc : jr_cd r = cc) (hd : decode cc pc = .ok (.new k, 3)) (hk : jm_pool (jr_ow r) k = some (5, c, z)) (hu : uc + 1 ≤ jr_mc r ∧ us + jm_fn c ≤ jr_ms r) (h1 : uc + 1 = uc') (h2 : us + jm_fn c = us') (hz : jm_nw σ (c + 4, jm_fn c) = σ') (hp : pc + 3 = pc') : jm_D r uc us pc lv st σ = jm_D r uc' us' pc' lv (.ref σ.1 :: st) σ' := by
  subst hp; subst h1; subst h2; subst hz
  refine jx_go ?_
  unfold jm_nx
  rw [hc, hd]
  simp only [hk, if_pos hu]
  rfl
theorem jx_newa {t : ArrayType} {g m : Nat} {x : Int32} (hc : jr_cd r = cc) (hd : decode cc pc = .ok (.newarray t, 2)) (hg : jm_at t = some g) (hm : x.toNatClampNeg = m) (hu : ¬ x < 0 ∧ x.toNatClampNeg ≤ 60000 ∧ uc + 1 ≤ jr_mc r ∧ us + x.toNatClampNeg ≤ jr_ms r) (h1 : uc + 1 = uc') (h2 : us + m = us') (hz : jm_nw σ (g, m) = σ') (hp : pc + 2 = pc') : jm_D r uc us pc lv (.int x :: st) σ = jm_D r uc' us' pc' lv (.ref σ.1 :: st) σ' := by
  subst hm; subst hp; subst h1; subst h2; subst hz
  refine jx_go ?_
  unfold jm_nx
  rw [hc, hd]
  simp only [hg, if_pos hu]
  rfl
theorem jx_anewa {k z m : Nat} {x : Int32} (hc : jr_cd r = cc) (hd : decode cc pc = .ok (.anewarray k, 3)) (hk : jm_pool (jr_ow r) k = some (5, 0, z)) (hm : x.toNatClampNeg = m) (hu : ¬ x < 0 ∧ x.toNatClampNeg ≤ 60000 ∧ uc + 1 ≤ jr_mc r ∧ us + x.toNatClampNeg ≤ jr_ms r) (h1 : uc + 1 = uc') (h2 : us + m = us') (hz : jm_nw σ (3, m) = σ') (hp : pc + 3 = pc') : jm_D r uc us pc lv (.int x :: st) σ = jm_D r uc' us' pc' lv (.ref σ.1 :: st) σ' := by
  subst hm; subst hp; subst h1; subst h2; subst hz
  refine jx_go ?_
  unfold jm_nx
  rw [hc, hd]
  simp only [hk, if_pos hu]
  rfl
theorem jx_putf {k c f a : Nat} {v : Value} (hc : jr_cd r = cc) (hd : decode cc pc = .ok (.putfield k, 3)) (hk : jm_pool (jr_ow r) k = some (3, c, f)) (h1 : jm_rw σ a = true) (h2 : σ.2.1 a = (c + 4, jm_fn c)) (h3 : jr_kd r = 2 ∧ jr_ow r = c) (hv : jm_pv σ a c f v = some σ') (hp : pc + 3 = pc') : jm_D r uc us pc lv (v :: .ref a :: st) σ = jm_D r uc us pc' lv st σ' := by
  subst hp
  refine jx_go ?_
  unfold jm_nx
  rw [hc, hd]
  have h4 : jm_rw σ a = true ∧ σ.2.1 a = (c + 4, jm_fn c) ∧ ((jm_fT c f).2.2.2 = true → jr_kd r = 2 ∧ jr_ow r = c) := ⟨h1, h2, fun _ => h3⟩
  simp only [hk, if_pos h4, hv]
  rfl
theorem jx_getf {k c f a : Nat} {v : Value} (hc : jr_cd r = cc) (hd : decode cc pc = .ok (.getfield k, 3)) (hk : jm_pool (jr_ow r) k = some (3, c, f)) (h1 : jm_rw σ a = true) (h2 : σ.2.1 a = (c + 4, jm_fn c)) (hv : jm_gv σ a c f = some v) (hp : pc + 3 = pc') : jm_D r uc us pc lv (.ref a :: st) σ = jm_D r uc us pc' lv (v :: st) σ := by
  subst hp
  refine jx_go ?_
  unfold jm_nx
  rw [hc, hd]
  have h4 : jm_rw σ a = true ∧ σ.2.1 a = (c + 4, jm_fn c) := ⟨h1, h2⟩
  simp only [hk, if_pos h4, hv]
  rfl
theorem jx_iast {k m a : Nat} {x : Int32} (hc : jr_cd r = cc) (hd : decode cc pc = .ok (.iastore, 1)) (h1 : jm_rw σ a = true) (h2 : σ.2.1 a = (0, m)) (hk : k < m) (h31 : m < 2 ^ 31) (hz : (σ.1, σ.2.1, σ.2.2.1, jm_u σ.2.2.2.1 a k x, σ.2.2.2.2) = σ') (hp : pc + 1 = pc') : jm_D r uc us pc lv (.int x :: .int (nI k) :: .ref a :: st) σ = jm_D r uc us pc' lv st σ' := by
  subst hp; subst hz
  refine jx_go ?_
  unfold jm_nx
  rw [hc, hd]
  have hi := jm_in_nI h31 hk
  have h4 : jm_rw σ a = true ∧ (σ.2.1 a).1 = 0 ∧ jm_in (nI k) (σ.2.1 a).2 = true := ⟨h1, by rw [h2], by rw [h2]; exact hi.1⟩
  simp only [if_pos h4, hi.2]
  rfl
theorem jx_aast {k m a b : Nat} (hc : jr_cd r = cc) (hd : decode cc pc = .ok (.aastore, 1)) (h1 : jm_rw σ a = true) (h2 : σ.2.1 a = (3, m)) (hk : k < m) (h31 : m < 2 ^ 31) (h3 : jm_rw σ b = true) (h5 : σ.2.1 b = (4, 8)) (hz : (σ.1, σ.2.1, jm_uP σ.2.2.1 a k (some b), σ.2.2.2.1, σ.2.2.2.2) = σ') (hp : pc + 1 = pc') : jm_D r uc us pc lv (.ref b :: .int (nI k) :: .ref a :: st) σ = jm_D r uc us pc' lv st σ' := by
  subst hp; subst hz
  refine jx_go ?_
  unfold jm_nx
  rw [hc, hd]
  have hi := jm_in_nI h31 hk
  have h4 : jm_rw σ a = true ∧ (σ.2.1 a).1 = 3 ∧ jm_in (nI k) (σ.2.1 a).2 = true ∧ jm_rw σ b = true ∧ σ.2.1 b = (4, 8) := ⟨h1, by rw [h2], by rw [h2]; exact hi.1, h3, h5⟩
  simp only [if_pos h4, hi.2]
  rfl
theorem jx_obji {k y z a : Nat} (hc : jr_cd r = cc) (hd : decode cc pc = .ok (.invokespecial k, 3)) (hk : jm_pool (jr_ow r) k = some (1, y, z)) (hkd : jr_kd r = 2) (hp : pc + 3 = pc') : jm_D r uc us pc lv [.ref a] σ = jm_D r uc us pc' lv [] σ := by
  subst hp
  refine jx_go ?_
  unfold jm_nx
  rw [hc, hd]
  simp only [hk, if_pos hkd]
  rfl
theorem jx_ret (hc : jr_cd r = cc) (hd : decode cc pc = .ok (.return_, 1)) (hr : jr_rt r = none) (hu : uc ≤ jr_mc r ∧ us ≤ jr_ms r) : jm_D r uc us pc lv [] σ = some (none, σ) := by
  rw [jm_D_eq]
  unfold jm_nx
  rw [hc, hd]
  simp only [hr, if_pos hu]
  rfl
theorem jx_call {k y z b : Nat} {q : jm_Row} {As lvq : List Value} (hc : jr_cd r = cc) (hd : decode cc pc = .ok (.invokespecial k, 3)) (hk : jm_pool (jr_ow r) k = some (0, y, z)) (hq : jm_rows[y]? = some q) (hkd : jr_kd q = 2) (hst : st.drop (jr_ar q) = .ref b :: rest) (hAs : (st.take (jr_ar q)).reverse = As) (hl : jr_ar q ≤ st.length) (hok : jm_cok2 r q uc us (.ref b :: As) rest = true) (hi : jm_ini (.ref b :: As) (jr_ml q) = lvq) (hrun : jm_D q 0 0 0 lvq [] σ = some (none, σ')) (h1 : uc + jr_mc q = uc') (h2 : us + jr_ms q = us') (hp : pc + 3 = pc') : jm_D r uc us pc lv st σ = jm_D r uc' us' pc' lv rest σ' := by
  subst hp; subst hi; subst hAs; subst h1; subst h2
  have h : jm_nx r uc us pc lv st σ = some (.inr (q, .ref b :: (st.take (jr_ar q)).reverse, rest)) := by
    unfold jm_nx
    rw [hc, hd]
    have h4 : jr_kd q = 2 ∧ jr_ar q ≤ st.length ∧ jm_cok2 r q uc us (.ref b :: (st.take (jr_ar q)).reverse) rest = true := ⟨hkd, hl, hok⟩
    simp only [hk, hq, hst, if_pos h4]
    rfl
  rw [jm_D_eq, h]
  dsimp only
  rw [hrun]
  rfl
end JX
def kP0 : jm_P := fun _ _ => none
def kL0 : jm_L := fun _ _ => 0
def kT1 (n : Nat) : jm_T := jm_uA (jT00 n) 9 (13, 9)
def kP1 : jm_P := jm_uA kP0 9 (fun _ => none)
def kI1 (xs : Nat → Int32) : jm_I := jm_uA (jI00 xs) 9 (fun _ => 0)
def kL1 : jm_L := jm_uA kL0 9 (fun _ => 0)
def kT2 (n : Nat) : jm_T := jm_uA (kT1 n) 10 (12, 5)
def kP2 : jm_P := jm_uA kP1 10 (fun _ => none)
def kI2 (xs : Nat → Int32) : jm_I := jm_uA (kI1 xs) 10 (fun _ => 0)
def kL2 : jm_L := jm_uA kL1 10 (fun _ => 0)
def kT3 (n : Nat) : jm_T := jm_uA (kT2 n) 11 (0, 5)
def kP3 : jm_P := jm_uA kP2 11 (fun _ => none)
def kI3 (xs : Nat → Int32) : jm_I := jm_uA (kI2 xs) 11 (fun _ => 0)
def kL3 : jm_L := jm_uA kL2 11 (fun _ => 0)
def kI4 (xs : Nat → Int32) : jm_I := jm_u (kI3 xs) 11 0 (0)
def kI5 (xs : Nat → Int32) : jm_I := jm_u (kI4 xs) 11 1 (31556952)
def kI6 (xs : Nat → Int32) : jm_I := jm_u (kI5 xs) 11 2 (10)
def kI7 (xs : Nat → Int32) : jm_I := jm_u (kI6 xs) 11 3 (50)
def kI8 (xs : Nat → Int32) : jm_I := jm_u (kI7 xs) 11 4 (60)
def kP4 : jm_P := jm_uP kP3 10 0 (some 11)
def kT4 (n : Nat) : jm_T := jm_uA (kT3 n) 12 (6, 8)
def kP5 : jm_P := jm_uA kP4 12 (fun _ => none)
def kI9 (xs : Nat → Int32) : jm_I := jm_uA (kI8 xs) 12 (fun _ => 0)
def kL4 : jm_L := jm_uA kL3 12 (fun _ => 0)
def kT5 (n : Nat) : jm_T := jm_uA (kT4 n) 13 (2, 4)
def kP6 : jm_P := jm_uA kP5 13 (fun _ => none)
def kI10 (xs : Nat → Int32) : jm_I := jm_uA (kI9 xs) 13 (fun _ => 0)
def kL5 : jm_L := jm_uA kL4 13 (fun _ => 0)
def kP7 : jm_P := jm_uP kP6 12 0 (some 13)
def kT6 (n : Nat) : jm_T := jm_uA (kT5 n) 14 (0, 4)
def kP8 : jm_P := jm_uA kP7 14 (fun _ => none)
def kI11 (xs : Nat → Int32) : jm_I := jm_uA (kI10 xs) 14 (fun _ => 0)
def kL6 : jm_L := jm_uA kL5 14 (fun _ => 0)
def kP9 : jm_P := jm_uP kP8 12 1 (some 14)
def kT7 (n : Nat) : jm_T := jm_uA (kT6 n) 15 (0, 4)
def kP10 : jm_P := jm_uA kP9 15 (fun _ => none)
def kI12 (xs : Nat → Int32) : jm_I := jm_uA (kI11 xs) 15 (fun _ => 0)
def kL7 : jm_L := jm_uA kL6 15 (fun _ => 0)
def kP11 : jm_P := jm_uP kP10 12 2 (some 15)
def kT8 (n : Nat) : jm_T := jm_uA (kT7 n) 16 (0, 4)
def kP12 : jm_P := jm_uA kP11 16 (fun _ => none)
def kI13 (xs : Nat → Int32) : jm_I := jm_uA (kI12 xs) 16 (fun _ => 0)
def kL8 : jm_L := jm_uA kL7 16 (fun _ => 0)
def kP13 : jm_P := jm_uP kP12 12 3 (some 16)
def kT9 (n : Nat) : jm_T := jm_uA (kT8 n) 17 (0, 4)
def kP14 : jm_P := jm_uA kP13 17 (fun _ => none)
def kI14 (xs : Nat → Int32) : jm_I := jm_uA (kI13 xs) 17 (fun _ => 0)
def kL9 : jm_L := jm_uA kL8 17 (fun _ => 0)
def kP15 : jm_P := jm_uP kP14 12 4 (some 17)
def kT10 (n : Nat) : jm_T := jm_uA (kT9 n) 18 (0, 16)
def kI15 (xs : Nat → Int32) : jm_I := jm_uA (kI14 xs) 18 (fun _ => 0)
def kL10 : jm_L := jm_uA kL9 18 (fun _ => 0)
def kP17 : jm_P := jm_uP jP0c0 12 5 (some 18)
def kT11 (n : Nat) : jm_T := jm_uA (kT10 n) 19 (0, 4)
def kP18 : jm_P := jm_uA kP17 19 (fun _ => none)
def kL11 : jm_L := jm_uA kL10 19 (fun _ => 0)
def kP19 : jm_P := jm_uP kP18 12 6 (some 19)
def kT12 (n : Nat) : jm_T := jm_uA (kT11 n) 20 (0, 4)
def kP20 : jm_P := jm_uA kP19 20 (fun _ => none)
def kI17 (xs : Nat → Int32) : jm_I := jm_uA (jI0c0 xs) 20 (fun _ => 0)
def kL12 : jm_L := jm_uA kL11 20 (fun _ => 0)
def kI18 (xs : Nat → Int32) : jm_I := jm_u (kI17 xs) 20 0 (1000)
def kI19 (xs : Nat → Int32) : jm_I := jm_u (kI18 xs) 20 1 (1000)
def kI20 (xs : Nat → Int32) : jm_I := jm_u (kI19 xs) 20 2 (1000)
def kI21 (xs : Nat → Int32) : jm_I := jm_u (kI20 xs) 20 3 (1000)
def kP21 : jm_P := jm_uP kP20 12 7 (some 20)
def kP22 : jm_P := jm_uP kP21 10 1 (some 12)
def kT13 (n : Nat) : jm_T := jm_uA (kT12 n) 21 (10, 4)
def kP23 : jm_P := jm_uA kP22 21 (fun _ => none)
def kI22 (xs : Nat → Int32) : jm_I := jm_uA (kI21 xs) 21 (fun _ => 0)
def kL13 : jm_L := jm_uA kL12 21 (fun _ => 0)
def kT14 (n : Nat) : jm_T := jm_uA (kT13 n) 22 (0, 6)
def kP24 : jm_P := jm_uA kP23 22 (fun _ => none)
def kI23 (xs : Nat → Int32) : jm_I := jm_uA (kI22 xs) 22 (fun _ => 0)
def kL14 : jm_L := jm_uA kL13 22 (fun _ => 0)
def kP25 : jm_P := jm_uP kP24 21 0 (some 22)
def kT15 (n : Nat) : jm_T := jm_uA (kT14 n) 23 (0, 4)
def kP26 : jm_P := jm_uA kP25 23 (fun _ => none)
def kI24 (xs : Nat → Int32) : jm_I := jm_uA (kI23 xs) 23 (fun _ => 0)
def kL15 : jm_L := jm_uA kL14 23 (fun _ => 0)
def kP27 : jm_P := jm_uP kP26 21 1 (some 23)
def kP28 : jm_P := jm_uA kP27 24 (fun _ => none)
def kI25 (xs : Nat → Int32) : jm_I := jm_uA (kI24 xs) 24 (fun _ => 0)
def kP29 : jm_P := jm_uP kP28 21 2 (some 24)
def kT17 (n : Nat) : jm_T := jm_uA (jT0c0 n) 25 (0, 4)
def kP30 : jm_P := jm_uA kP29 25 (fun _ => none)
def kI26 (xs : Nat → Int32) : jm_I := jm_uA (kI25 xs) 25 (fun _ => 0)
def kL17 : jm_L := jm_uA jL0c0 25 (fun _ => 0)
def kP31 : jm_P := jm_uP kP30 21 3 (some 25)
def kT18 (n : Nat) : jm_T := jm_uA (kT17 n) 26 (7, 9)
def kP33 : jm_P := jm_uA jP0c1 26 (fun _ => none)
def kI27 (xs : Nat → Int32) : jm_I := jm_uA (kI26 xs) 26 (fun _ => 0)
def kL18 : jm_L := jm_uA kL17 26 (fun _ => 0)
def kT19 (n : Nat) : jm_T := jm_uA (kT18 n) 27 (0, 40)
def kP34 : jm_P := jm_uA kP33 27 (fun _ => none)
def kI28 (xs : Nat → Int32) : jm_I := jm_uA (kI27 xs) 27 (fun _ => 0)
def kL19 : jm_L := jm_uA kL18 27 (fun _ => 0)
def kP35 : jm_P := jm_uP kP34 26 0 (some 27)
def kT20 (n : Nat) : jm_T := jm_uA (kT19 n) 28 (0, 40)
def kP36 : jm_P := jm_uA kP35 28 (fun _ => none)
def kI29 (xs : Nat → Int32) : jm_I := jm_uA (kI28 xs) 28 (fun _ => 0)
def kL20 : jm_L := jm_uA kL19 28 (fun _ => 0)
def kP37 : jm_P := jm_uP kP36 26 1 (some 28)
def kT21 (n : Nat) : jm_T := jm_uA (kT20 n) 29 (0, 40)
def kP38 : jm_P := jm_uA kP37 29 (fun _ => none)
def kI30 (xs : Nat → Int32) : jm_I := jm_uA (kI29 xs) 29 (fun _ => 0)
def kL21 : jm_L := jm_uA kL20 29 (fun _ => 0)
def kP39 : jm_P := jm_uP kP38 26 2 (some 29)
def kT22 (n : Nat) : jm_T := jm_uA (kT21 n) 30 (0, 40)
def kP40 : jm_P := jm_uA kP39 30 (fun _ => none)
def kI31 (xs : Nat → Int32) : jm_I := jm_uA (kI30 xs) 30 (fun _ => 0)
def kL22 : jm_L := jm_uA kL21 30 (fun _ => 0)
def kP41 : jm_P := jm_uP kP40 26 3 (some 30)
def kT23 (n : Nat) : jm_T := jm_uA (kT22 n) 31 (0, 40)
def kP42 : jm_P := jm_uA kP41 31 (fun _ => none)
def kL23 : jm_L := jm_uA kL22 31 (fun _ => 0)
def kP43 : jm_P := jm_uP kP42 26 4 (some 31)
def kT24 (n : Nat) : jm_T := jm_uA (kT23 n) 32 (0, 40)
def kP44 : jm_P := jm_uA kP43 32 (fun _ => none)
def kI33 (xs : Nat → Int32) : jm_I := jm_uA (jI0c1 xs) 32 (fun _ => 0)
def kL24 : jm_L := jm_uA kL23 32 (fun _ => 0)
def kP45 : jm_P := jm_uP kP44 26 5 (some 32)
def kT25 (n : Nat) : jm_T := jm_uA (kT24 n) 33 (0, 40)
def kP46 : jm_P := jm_uA kP45 33 (fun _ => none)
def kI34 (xs : Nat → Int32) : jm_I := jm_uA (kI33 xs) 33 (fun _ => 0)
def kL25 : jm_L := jm_uA kL24 33 (fun _ => 0)
def kP47 : jm_P := jm_uP kP46 26 6 (some 33)
def kT26 (n : Nat) : jm_T := jm_uA (kT25 n) 34 (0, 160)
def kI35 (xs : Nat → Int32) : jm_I := jm_uA (kI34 xs) 34 (fun _ => 0)
def kL26 : jm_L := jm_uA kL25 34 (fun _ => 0)
def kP49 : jm_P := jm_uP jP0c2 26 7 (some 34)
def kP50 : jm_P := jm_uP kP49 10 3 (some 26)
def kT27 (n : Nat) : jm_T := jm_uA (kT26 n) 35 (8, 3)
def kP51 : jm_P := jm_uA kP50 35 (fun _ => none)
def kI36 (xs : Nat → Int32) : jm_I := jm_uA (kI35 xs) 35 (fun _ => 0)
def kL27 : jm_L := jm_uA kL26 35 (fun _ => 0)
def kT28 (n : Nat) : jm_T := jm_uA (kT27 n) 36 (0, 24)
def kP52 : jm_P := jm_uA kP51 36 (fun _ => none)
def kI37 (xs : Nat → Int32) : jm_I := jm_uA (kI36 xs) 36 (fun _ => 0)
def kL28 : jm_L := jm_uA kL27 36 (fun _ => 0)
def kP53 : jm_P := jm_uP kP52 35 0 (some 36)
def kT29 (n : Nat) : jm_T := jm_uA (kT28 n) 37 (0, 8)
def kP54 : jm_P := jm_uA kP53 37 (fun _ => none)
def kI38 (xs : Nat → Int32) : jm_I := jm_uA (kI37 xs) 37 (fun _ => 0)
def kL29 : jm_L := jm_uA kL28 37 (fun _ => 0)
def kP55 : jm_P := jm_uP kP54 35 1 (some 37)
def kP56 : jm_P := jm_uP kP55 10 4 (some 35)
def kP57 : jm_P := jm_uP kP56 9 0 (some 10)
def kT30 (n : Nat) : jm_T := jm_uA (kT29 n) 38 (12, 5)
def kP58 : jm_P := jm_uA kP57 38 (fun _ => none)
def kI39 (xs : Nat → Int32) : jm_I := jm_uA (kI38 xs) 38 (fun _ => 0)
def kL30 : jm_L := jm_uA kL29 38 (fun _ => 0)
def kT31 (n : Nat) : jm_T := jm_uA (kT30 n) 39 (0, 5)
def kP59 : jm_P := jm_uA kP58 39 (fun _ => none)
def kI40 (xs : Nat → Int32) : jm_I := jm_uA (kI39 xs) 39 (fun _ => 0)
def kL31 : jm_L := jm_uA kL30 39 (fun _ => 0)
def kI41 (xs : Nat → Int32) : jm_I := jm_u (kI40 xs) 39 0 (0)
def kI42 (xs : Nat → Int32) : jm_I := jm_u (kI41 xs) 39 1 (31556952)
def kI43 (xs : Nat → Int32) : jm_I := jm_u (kI42 xs) 39 2 (10)
def kI44 (xs : Nat → Int32) : jm_I := jm_u (kI43 xs) 39 3 (50)
def kI45 (xs : Nat → Int32) : jm_I := jm_u (kI44 xs) 39 4 (60)
def kP60 : jm_P := jm_uP kP59 38 0 (some 39)
def kP61 : jm_P := jm_uA kP60 40 (fun _ => none)
def kI46 (xs : Nat → Int32) : jm_I := jm_uA (kI45 xs) 40 (fun _ => 0)
def kT33 (n : Nat) : jm_T := jm_uA (jT0c1 n) 41 (2, 4)
def kP62 : jm_P := jm_uA kP61 41 (fun _ => none)
def kI47 (xs : Nat → Int32) : jm_I := jm_uA (kI46 xs) 41 (fun _ => 0)
def kL33 : jm_L := jm_uA jL0c1 41 (fun _ => 0)
def kP63 : jm_P := jm_uP kP62 40 0 (some 41)
def kT34 (n : Nat) : jm_T := jm_uA (kT33 n) 42 (0, 4)
def kL34 : jm_L := jm_uA kL33 42 (fun _ => 0)
def kP65 : jm_P := jm_uP jP0c3 40 1 (some 42)
def kT35 (n : Nat) : jm_T := jm_uA (kT34 n) 43 (0, 4)
def kP66 : jm_P := jm_uA kP65 43 (fun _ => none)
def kI49 (xs : Nat → Int32) : jm_I := jm_uA (jI0c2 xs) 43 (fun _ => 0)
def kL35 : jm_L := jm_uA kL34 43 (fun _ => 0)
def kP67 : jm_P := jm_uP kP66 40 2 (some 43)
def kT36 (n : Nat) : jm_T := jm_uA (kT35 n) 44 (0, 4)
def kP68 : jm_P := jm_uA kP67 44 (fun _ => none)
def kI50 (xs : Nat → Int32) : jm_I := jm_uA (kI49 xs) 44 (fun _ => 0)
def kL36 : jm_L := jm_uA kL35 44 (fun _ => 0)
def kP69 : jm_P := jm_uP kP68 40 3 (some 44)
def kT37 (n : Nat) : jm_T := jm_uA (kT36 n) 45 (0, 4)
def kP70 : jm_P := jm_uA kP69 45 (fun _ => none)
def kI51 (xs : Nat → Int32) : jm_I := jm_uA (kI50 xs) 45 (fun _ => 0)
def kL37 : jm_L := jm_uA kL36 45 (fun _ => 0)
def kP71 : jm_P := jm_uP kP70 40 4 (some 45)
def kT38 (n : Nat) : jm_T := jm_uA (kT37 n) 46 (0, 16)
def kP72 : jm_P := jm_uA kP71 46 (fun _ => none)
def kI52 (xs : Nat → Int32) : jm_I := jm_uA (kI51 xs) 46 (fun _ => 0)
def kL38 : jm_L := jm_uA kL37 46 (fun _ => 0)
def kP73 : jm_P := jm_uP kP72 40 5 (some 46)
def kT39 (n : Nat) : jm_T := jm_uA (kT38 n) 47 (0, 4)
def kP74 : jm_P := jm_uA kP73 47 (fun _ => none)
def kI53 (xs : Nat → Int32) : jm_I := jm_uA (kI52 xs) 47 (fun _ => 0)
def kL39 : jm_L := jm_uA kL38 47 (fun _ => 0)
def kP75 : jm_P := jm_uP kP74 40 6 (some 47)
def kT40 (n : Nat) : jm_T := jm_uA (kT39 n) 48 (0, 4)
def kP76 : jm_P := jm_uA kP75 48 (fun _ => none)
def kI54 (xs : Nat → Int32) : jm_I := jm_uA (kI53 xs) 48 (fun _ => 0)
def kL40 : jm_L := jm_uA kL39 48 (fun _ => 0)
def kI55 (xs : Nat → Int32) : jm_I := jm_u (kI54 xs) 48 0 (1000)
def kI56 (xs : Nat → Int32) : jm_I := jm_u (kI55 xs) 48 1 (1000)
def kI57 (xs : Nat → Int32) : jm_I := jm_u (kI56 xs) 48 2 (1000)
def kI58 (xs : Nat → Int32) : jm_I := jm_u (kI57 xs) 48 3 (1000)
def kP77 : jm_P := jm_uP kP76 40 7 (some 48)
def kP78 : jm_P := jm_uP kP77 38 1 (some 40)
def kT41 (n : Nat) : jm_T := jm_uA (kT40 n) 49 (10, 4)
def kP79 : jm_P := jm_uA kP78 49 (fun _ => none)
def kI59 (xs : Nat → Int32) : jm_I := jm_uA (kI58 xs) 49 (fun _ => 0)
def kL41 : jm_L := jm_uA kL40 49 (fun _ => 0)
def kT42 (n : Nat) : jm_T := jm_uA (kT41 n) 50 (0, 6)
def kI60 (xs : Nat → Int32) : jm_I := jm_uA (kI59 xs) 50 (fun _ => 0)
def kL42 : jm_L := jm_uA kL41 50 (fun _ => 0)
def kP81 : jm_P := jm_uP jP0c4 49 0 (some 50)
def kT43 (n : Nat) : jm_T := jm_uA (kT42 n) 51 (0, 4)
def kP82 : jm_P := jm_uA kP81 51 (fun _ => none)
def kI61 (xs : Nat → Int32) : jm_I := jm_uA (kI60 xs) 51 (fun _ => 0)
def kL43 : jm_L := jm_uA kL42 51 (fun _ => 0)
def kP83 : jm_P := jm_uP kP82 49 1 (some 51)
def kT44 (n : Nat) : jm_T := jm_uA (kT43 n) 52 (0, 4)
def kP84 : jm_P := jm_uA kP83 52 (fun _ => none)
def kI62 (xs : Nat → Int32) : jm_I := jm_uA (kI61 xs) 52 (fun _ => 0)
def kL44 : jm_L := jm_uA kL43 52 (fun _ => 0)
def kP85 : jm_P := jm_uP kP84 49 2 (some 52)
def kT45 (n : Nat) : jm_T := jm_uA (kT44 n) 53 (0, 4)
def kP86 : jm_P := jm_uA kP85 53 (fun _ => none)
def kI63 (xs : Nat → Int32) : jm_I := jm_uA (kI62 xs) 53 (fun _ => 0)
def kL45 : jm_L := jm_uA kL44 53 (fun _ => 0)
def kP87 : jm_P := jm_uP kP86 49 3 (some 53)
def kP88 : jm_P := jm_uP kP87 38 2 (some 49)
def kT46 (n : Nat) : jm_T := jm_uA (kT45 n) 54 (7, 9)
def kP89 : jm_P := jm_uA kP88 54 (fun _ => none)
def kL46 : jm_L := jm_uA kL45 54 (fun _ => 0)
def kT47 (n : Nat) : jm_T := jm_uA (kT46 n) 55 (0, 40)
def kP90 : jm_P := jm_uA kP89 55 (fun _ => none)
def kI65 (xs : Nat → Int32) : jm_I := jm_uA (jI0c3 xs) 55 (fun _ => 0)
def kL47 : jm_L := jm_uA kL46 55 (fun _ => 0)
def kP91 : jm_P := jm_uP kP90 54 0 (some 55)
def kP92 : jm_P := jm_uA kP91 56 (fun _ => none)
def kI66 (xs : Nat → Int32) : jm_I := jm_uA (kI65 xs) 56 (fun _ => 0)
def kP93 : jm_P := jm_uP kP92 54 1 (some 56)
def kT49 (n : Nat) : jm_T := jm_uA (jT0c2 n) 57 (0, 40)
def kP94 : jm_P := jm_uA kP93 57 (fun _ => none)
def kI67 (xs : Nat → Int32) : jm_I := jm_uA (kI66 xs) 57 (fun _ => 0)
def kL49 : jm_L := jm_uA jL0c2 57 (fun _ => 0)
def kP95 : jm_P := jm_uP kP94 54 2 (some 57)
def kT50 (n : Nat) : jm_T := jm_uA (kT49 n) 58 (0, 40)
def kI68 (xs : Nat → Int32) : jm_I := jm_uA (kI67 xs) 58 (fun _ => 0)
def kL50 : jm_L := jm_uA kL49 58 (fun _ => 0)
def kP97 : jm_P := jm_uP jP0c5 54 3 (some 58)
def kT51 (n : Nat) : jm_T := jm_uA (kT50 n) 59 (0, 40)
def kP98 : jm_P := jm_uA kP97 59 (fun _ => none)
def kI69 (xs : Nat → Int32) : jm_I := jm_uA (kI68 xs) 59 (fun _ => 0)
def kL51 : jm_L := jm_uA kL50 59 (fun _ => 0)
def kP99 : jm_P := jm_uP kP98 54 4 (some 59)
def kT52 (n : Nat) : jm_T := jm_uA (kT51 n) 60 (0, 40)
def kP100 : jm_P := jm_uA kP99 60 (fun _ => none)
def kI70 (xs : Nat → Int32) : jm_I := jm_uA (kI69 xs) 60 (fun _ => 0)
def kL52 : jm_L := jm_uA kL51 60 (fun _ => 0)
def kP101 : jm_P := jm_uP kP100 54 5 (some 60)
def kT53 (n : Nat) : jm_T := jm_uA (kT52 n) 61 (0, 40)
def kP102 : jm_P := jm_uA kP101 61 (fun _ => none)
def kI71 (xs : Nat → Int32) : jm_I := jm_uA (kI70 xs) 61 (fun _ => 0)
def kL53 : jm_L := jm_uA kL52 61 (fun _ => 0)
def kP103 : jm_P := jm_uP kP102 54 6 (some 61)
def kT54 (n : Nat) : jm_T := jm_uA (kT53 n) 62 (0, 160)
def kP104 : jm_P := jm_uA kP103 62 (fun _ => none)
def kI72 (xs : Nat → Int32) : jm_I := jm_uA (kI71 xs) 62 (fun _ => 0)
def kL54 : jm_L := jm_uA kL53 62 (fun _ => 0)
def kP105 : jm_P := jm_uP kP104 54 7 (some 62)
def kP106 : jm_P := jm_uP kP105 38 3 (some 54)
def kT55 (n : Nat) : jm_T := jm_uA (kT54 n) 63 (8, 3)
def kP107 : jm_P := jm_uA kP106 63 (fun _ => none)
def kI73 (xs : Nat → Int32) : jm_I := jm_uA (kI72 xs) 63 (fun _ => 0)
def kL55 : jm_L := jm_uA kL54 63 (fun _ => 0)
def kT56 (n : Nat) : jm_T := jm_uA (kT55 n) 64 (0, 24)
def kP108 : jm_P := jm_uA kP107 64 (fun _ => none)
def kI74 (xs : Nat → Int32) : jm_I := jm_uA (kI73 xs) 64 (fun _ => 0)
def kL56 : jm_L := jm_uA kL55 64 (fun _ => 0)
def kP109 : jm_P := jm_uP kP108 63 0 (some 64)
def kT57 (n : Nat) : jm_T := jm_uA (kT56 n) 65 (0, 8)
def kP110 : jm_P := jm_uA kP109 65 (fun _ => none)
def kI75 (xs : Nat → Int32) : jm_I := jm_uA (kI74 xs) 65 (fun _ => 0)
def kL57 : jm_L := jm_uA kL56 65 (fun _ => 0)
def kP111 : jm_P := jm_uP kP110 63 1 (some 65)
def kP113 : jm_P := jm_uP jP0c6 9 1 (some 38)
def kT58 (n : Nat) : jm_T := jm_uA (kT57 n) 66 (9, 4)
def kP114 : jm_P := jm_uA kP113 66 (fun _ => none)
def kI76 (xs : Nat → Int32) : jm_I := jm_uA (kI75 xs) 66 (fun _ => 0)
def kL58 : jm_L := jm_uA kL57 66 (fun _ => 0)
def kT59 (n : Nat) : jm_T := jm_uA (kT58 n) 67 (0, 20)
def kP115 : jm_P := jm_uA kP114 67 (fun _ => none)
def kI77 (xs : Nat → Int32) : jm_I := jm_uA (kI76 xs) 67 (fun _ => 0)
def kL59 : jm_L := jm_uA kL58 67 (fun _ => 0)
def kP116 : jm_P := jm_uP kP115 66 0 (some 67)
def kT60 (n : Nat) : jm_T := jm_uA (kT59 n) 68 (0, 3)
def kP117 : jm_P := jm_uA kP116 68 (fun _ => none)
def kI78 (xs : Nat → Int32) : jm_I := jm_uA (kI77 xs) 68 (fun _ => 0)
def kL60 : jm_L := jm_uA kL59 68 (fun _ => 0)
def kP118 : jm_P := jm_uP kP117 66 2 (some 68)
def kP119 : jm_P := jm_uP kP118 9 3 (some 66)
def kT61 (n : Nat) : jm_T := jm_uA (kT60 n) 69 (0, 80)
def kP120 : jm_P := jm_uA kP119 69 (fun _ => none)
def kI79 (xs : Nat → Int32) : jm_I := jm_uA (kI78 xs) 69 (fun _ => 0)
def kL61 : jm_L := jm_uA kL60 69 (fun _ => 0)
def kP121 : jm_P := jm_uP kP120 9 4 (some 69)
def kT62 (n : Nat) : jm_T := jm_uA (kT61 n) 70 (0, 6)
def kP122 : jm_P := jm_uA kP121 70 (fun _ => none)
def kL62 : jm_L := jm_uA kL61 70 (fun _ => 0)
def kP123 : jm_P := jm_uP kP122 9 6 (some 70)
def kT63 (n : Nat) : jm_T := jm_uA (kT62 n) 71 (5, 3)
def kP124 : jm_P := jm_uA kP123 71 (fun _ => none)
def kI81 (xs : Nat → Int32) : jm_I := jm_uA (jI0c4 xs) 71 (fun _ => 0)
def kL63 : jm_L := jm_uA kL62 71 (fun _ => 0)
def kP125 : jm_P := jm_uA kP124 72 (fun _ => none)
def kI82 (xs : Nat → Int32) : jm_I := jm_uA (kI81 xs) 72 (fun _ => 0)
def kP126 : jm_P := jm_uP kP125 71 1 (some 72)
def kT65 (n : Nat) : jm_T := jm_uA (jT0c3 n) 73 (0, 8)
def kP127 : jm_P := jm_uA kP126 73 (fun _ => none)
def kI83 (xs : Nat → Int32) : jm_I := jm_uA (kI82 xs) 73 (fun _ => 0)
def kL65 : jm_L := jm_uA jL0c3 73 (fun _ => 0)
def kP129 : jm_P := jm_uP jP0c7 71 0 (some 10)
def kT66 (n : Nat) : jm_T := jm_uA (kT65 n) 74 (1, 343)
def kP130 : jm_P := jm_uA kP129 74 (fun _ => none)
def kI84 (xs : Nat → Int32) : jm_I := jm_uA (kI83 xs) 74 (fun _ => 0)
def kL66 : jm_L := jm_uA kL65 74 (fun _ => 0)
def kT67 (n : Nat) : jm_T := jm_uA (kT66 n) 75 (4, 8)
def kP131 : jm_P := jm_uA kP130 75 (fun _ => none)
def kI85 (xs : Nat → Int32) : jm_I := jm_uA (kI84 xs) 75 (fun _ => 0)
def kL67 : jm_L := jm_uA kL66 75 (fun _ => 0)
def kT68 (n : Nat) : jm_T := jm_uA (kT67 n) 76 (1, 343)
def kP132 : jm_P := jm_uA kP131 76 (fun _ => none)
def kI86 (xs : Nat → Int32) : jm_I := jm_uA (kI85 xs) 76 (fun _ => 0)
def kL68 : jm_L := jm_uA kL67 76 (fun _ => 0)
def kP133 : jm_P := jm_uP kP132 75 2 (some 76)
def kT69 (n : Nat) : jm_T := jm_uA (kT68 n) 77 (0, 7)
def kP134 : jm_P := jm_uA kP133 77 (fun _ => none)
def kI87 (xs : Nat → Int32) : jm_I := jm_uA (kI86 xs) 77 (fun _ => 0)
def kL69 : jm_L := jm_uA kL68 77 (fun _ => 0)
def kP135 : jm_P := jm_uP kP134 75 3 (some 77)
def kT70 (n : Nat) : jm_T := jm_uA (kT69 n) 78 (0, 3)
def kP136 : jm_P := jm_uA kP135 78 (fun _ => none)
def kI88 (xs : Nat → Int32) : jm_I := jm_uA (kI87 xs) 78 (fun _ => 0)
def kL70 : jm_L := jm_uA kL69 78 (fun _ => 0)
def kP137 : jm_P := jm_uP kP136 75 4 (some 78)
def kP138 : jm_P := jm_uP kP137 75 0 (some 10)
def kP139 : jm_P := jm_uP kP138 75 1 (some 74)
def kP140 : jm_P := jm_uP kP139 72 0 (some 75)
def kT71 (n : Nat) : jm_T := jm_uA (kT70 n) 79 (4, 8)
def kP141 : jm_P := jm_uA kP140 79 (fun _ => none)
def kI89 (xs : Nat → Int32) : jm_I := jm_uA (kI88 xs) 79 (fun _ => 0)
def kL71 : jm_L := jm_uA kL70 79 (fun _ => 0)
def kT72 (n : Nat) : jm_T := jm_uA (kT71 n) 80 (1, 343)
def kP142 : jm_P := jm_uA kP141 80 (fun _ => none)
def kI90 (xs : Nat → Int32) : jm_I := jm_uA (kI89 xs) 80 (fun _ => 0)
def kL72 : jm_L := jm_uA kL71 80 (fun _ => 0)
def kP143 : jm_P := jm_uP kP142 79 2 (some 80)
def kT73 (n : Nat) : jm_T := jm_uA (kT72 n) 81 (0, 7)
def kI91 (xs : Nat → Int32) : jm_I := jm_uA (kI90 xs) 81 (fun _ => 0)
def kL73 : jm_L := jm_uA kL72 81 (fun _ => 0)
def kP145 : jm_P := jm_uP jP0c8 79 3 (some 81)
def kT74 (n : Nat) : jm_T := jm_uA (kT73 n) 82 (0, 3)
def kP146 : jm_P := jm_uA kP145 82 (fun _ => none)
def kI92 (xs : Nat → Int32) : jm_I := jm_uA (kI91 xs) 82 (fun _ => 0)
def kL74 : jm_L := jm_uA kL73 82 (fun _ => 0)
def kP147 : jm_P := jm_uP kP146 79 4 (some 82)
def kP148 : jm_P := jm_uP kP147 79 0 (some 10)
def kP149 : jm_P := jm_uP kP148 79 1 (some 74)
def kP150 : jm_P := jm_uP kP149 72 1 (some 79)
def kT75 (n : Nat) : jm_T := jm_uA (kT74 n) 83 (4, 8)
def kP151 : jm_P := jm_uA kP150 83 (fun _ => none)
def kI93 (xs : Nat → Int32) : jm_I := jm_uA (kI92 xs) 83 (fun _ => 0)
def kL75 : jm_L := jm_uA kL74 83 (fun _ => 0)
def kT76 (n : Nat) : jm_T := jm_uA (kT75 n) 84 (1, 343)
def kP152 : jm_P := jm_uA kP151 84 (fun _ => none)
def kI94 (xs : Nat → Int32) : jm_I := jm_uA (kI93 xs) 84 (fun _ => 0)
def kL76 : jm_L := jm_uA kL75 84 (fun _ => 0)
def kP153 : jm_P := jm_uP kP152 83 2 (some 84)
def kT77 (n : Nat) : jm_T := jm_uA (kT76 n) 85 (0, 7)
def kP154 : jm_P := jm_uA kP153 85 (fun _ => none)
def kI95 (xs : Nat → Int32) : jm_I := jm_uA (kI94 xs) 85 (fun _ => 0)
def kL77 : jm_L := jm_uA kL76 85 (fun _ => 0)
def kP155 : jm_P := jm_uP kP154 83 3 (some 85)
def kT78 (n : Nat) : jm_T := jm_uA (kT77 n) 86 (0, 3)
def kP156 : jm_P := jm_uA kP155 86 (fun _ => none)
def kL78 : jm_L := jm_uA kL77 86 (fun _ => 0)
def kP157 : jm_P := jm_uP kP156 83 4 (some 86)
def kP158 : jm_P := jm_uP kP157 83 0 (some 10)
def kP159 : jm_P := jm_uP kP158 83 1 (some 74)
def kT79 (n : Nat) : jm_T := jm_uA (kT78 n) 87 (4, 8)
def kP161 : jm_P := jm_uA jP0c9 87 (fun _ => none)
def kI97 (xs : Nat → Int32) : jm_I := jm_uA (jI0c5 xs) 87 (fun _ => 0)
def kL79 : jm_L := jm_uA kL78 87 (fun _ => 0)
def kP162 : jm_P := jm_uA kP161 88 (fun _ => none)
def kI98 (xs : Nat → Int32) : jm_I := jm_uA (kI97 xs) 88 (fun _ => 0)
def kP163 : jm_P := jm_uP kP162 87 2 (some 88)
def kT81 (n : Nat) : jm_T := jm_uA (jT0c4 n) 89 (0, 7)
def kP164 : jm_P := jm_uA kP163 89 (fun _ => none)
def kI99 (xs : Nat → Int32) : jm_I := jm_uA (kI98 xs) 89 (fun _ => 0)
def kL81 : jm_L := jm_uA jL0c4 89 (fun _ => 0)
def kP165 : jm_P := jm_uP kP164 87 3 (some 89)
def kT82 (n : Nat) : jm_T := jm_uA (kT81 n) 90 (0, 3)
def kP166 : jm_P := jm_uA kP165 90 (fun _ => none)
def kI100 (xs : Nat → Int32) : jm_I := jm_uA (kI99 xs) 90 (fun _ => 0)
def kL82 : jm_L := jm_uA kL81 90 (fun _ => 0)
def kP167 : jm_P := jm_uP kP166 87 4 (some 90)
def kP168 : jm_P := jm_uP kP167 87 0 (some 10)
def kP169 : jm_P := jm_uP kP168 87 1 (some 74)
def kP170 : jm_P := jm_uP kP169 72 3 (some 87)
def kT83 (n : Nat) : jm_T := jm_uA (kT82 n) 91 (4, 8)
def kP171 : jm_P := jm_uA kP170 91 (fun _ => none)
def kI101 (xs : Nat → Int32) : jm_I := jm_uA (kI100 xs) 91 (fun _ => 0)
def kL83 : jm_L := jm_uA kL82 91 (fun _ => 0)
def kT84 (n : Nat) : jm_T := jm_uA (kT83 n) 92 (1, 343)
def kP172 : jm_P := jm_uA kP171 92 (fun _ => none)
def kI102 (xs : Nat → Int32) : jm_I := jm_uA (kI101 xs) 92 (fun _ => 0)
def kL84 : jm_L := jm_uA kL83 92 (fun _ => 0)
def kP173 : jm_P := jm_uP kP172 91 2 (some 92)
def kT85 (n : Nat) : jm_T := jm_uA (kT84 n) 93 (0, 7)
def kP174 : jm_P := jm_uA kP173 93 (fun _ => none)
def kI103 (xs : Nat → Int32) : jm_I := jm_uA (kI102 xs) 93 (fun _ => 0)
def kL85 : jm_L := jm_uA kL84 93 (fun _ => 0)
def kP175 : jm_P := jm_uP kP174 91 3 (some 93)
def kT86 (n : Nat) : jm_T := jm_uA (kT85 n) 94 (0, 3)
def kI104 (xs : Nat → Int32) : jm_I := jm_uA (kI103 xs) 94 (fun _ => 0)
def kL86 : jm_L := jm_uA kL85 94 (fun _ => 0)
def kP177 : jm_P := jm_uP jP0c10 91 4 (some 94)
def kP178 : jm_P := jm_uP kP177 91 0 (some 10)
def kP179 : jm_P := jm_uP kP178 91 1 (some 74)
def kP180 : jm_P := jm_uP kP179 72 4 (some 91)
def kT87 (n : Nat) : jm_T := jm_uA (kT86 n) 95 (4, 8)
def kP181 : jm_P := jm_uA kP180 95 (fun _ => none)
def kI105 (xs : Nat → Int32) : jm_I := jm_uA (kI104 xs) 95 (fun _ => 0)
def kL87 : jm_L := jm_uA kL86 95 (fun _ => 0)
def kT88 (n : Nat) : jm_T := jm_uA (kT87 n) 96 (1, 343)
def kP182 : jm_P := jm_uA kP181 96 (fun _ => none)
def kI106 (xs : Nat → Int32) : jm_I := jm_uA (kI105 xs) 96 (fun _ => 0)
def kL88 : jm_L := jm_uA kL87 96 (fun _ => 0)
def kP183 : jm_P := jm_uP kP182 95 2 (some 96)
def kT89 (n : Nat) : jm_T := jm_uA (kT88 n) 97 (0, 7)
def kP184 : jm_P := jm_uA kP183 97 (fun _ => none)
def kI107 (xs : Nat → Int32) : jm_I := jm_uA (kI106 xs) 97 (fun _ => 0)
def kL89 : jm_L := jm_uA kL88 97 (fun _ => 0)
def kP185 : jm_P := jm_uP kP184 95 3 (some 97)
def kT90 (n : Nat) : jm_T := jm_uA (kT89 n) 98 (0, 3)
def kP186 : jm_P := jm_uA kP185 98 (fun _ => none)
def kI108 (xs : Nat → Int32) : jm_I := jm_uA (kI107 xs) 98 (fun _ => 0)
def kL90 : jm_L := jm_uA kL89 98 (fun _ => 0)
def kP187 : jm_P := jm_uP kP186 95 4 (some 98)
def kP188 : jm_P := jm_uP kP187 95 0 (some 10)
def kP189 : jm_P := jm_uP kP188 95 1 (some 74)
def kP190 : jm_P := jm_uP kP189 72 5 (some 95)
def kT91 (n : Nat) : jm_T := jm_uA (kT90 n) 99 (4, 8)
def kP191 : jm_P := jm_uA kP190 99 (fun _ => none)
def kI109 (xs : Nat → Int32) : jm_I := jm_uA (kI108 xs) 99 (fun _ => 0)
def kL91 : jm_L := jm_uA kL90 99 (fun _ => 0)
def kT92 (n : Nat) : jm_T := jm_uA (kT91 n) 100 (1, 343)
def kI110 (xs : Nat → Int32) : jm_I := jm_uA (kI109 xs) 100 (fun _ => 0)
def kL92 : jm_L := jm_uA kL91 100 (fun _ => 0)
def kP193 : jm_P := jm_uP jP0c11 99 2 (some 100)
def kT93 (n : Nat) : jm_T := jm_uA (kT92 n) 101 (0, 7)
def kP194 : jm_P := jm_uA kP193 101 (fun _ => none)
def kI111 (xs : Nat → Int32) : jm_I := jm_uA (kI110 xs) 101 (fun _ => 0)
def kL93 : jm_L := jm_uA kL92 101 (fun _ => 0)
def kP195 : jm_P := jm_uP kP194 99 3 (some 101)
def kT94 (n : Nat) : jm_T := jm_uA (kT93 n) 102 (0, 3)
def kP196 : jm_P := jm_uA kP195 102 (fun _ => none)
def kL94 : jm_L := jm_uA kL93 102 (fun _ => 0)
def kP197 : jm_P := jm_uP kP196 99 4 (some 102)
def kP198 : jm_P := jm_uP kP197 99 0 (some 10)
def kP199 : jm_P := jm_uP kP198 99 1 (some 74)
def kP200 : jm_P := jm_uP kP199 72 6 (some 99)
def kT95 (n : Nat) : jm_T := jm_uA (kT94 n) 103 (4, 8)
def kP201 : jm_P := jm_uA kP200 103 (fun _ => none)
def kI113 (xs : Nat → Int32) : jm_I := jm_uA (jI0c6 xs) 103 (fun _ => 0)
def kL95 : jm_L := jm_uA kL94 103 (fun _ => 0)
def kP202 : jm_P := jm_uA kP201 104 (fun _ => none)
def kI114 (xs : Nat → Int32) : jm_I := jm_uA (kI113 xs) 104 (fun _ => 0)
def kP203 : jm_P := jm_uP kP202 103 2 (some 104)
def kT97 (n : Nat) : jm_T := jm_uA (jT0c5 n) 105 (0, 7)
def kP204 : jm_P := jm_uA kP203 105 (fun _ => none)
def kI115 (xs : Nat → Int32) : jm_I := jm_uA (kI114 xs) 105 (fun _ => 0)
def kL97 : jm_L := jm_uA jL0c5 105 (fun _ => 0)
def kP205 : jm_P := jm_uP kP204 103 3 (some 105)
def kT98 (n : Nat) : jm_T := jm_uA (kT97 n) 106 (0, 3)
def kP206 : jm_P := jm_uA kP205 106 (fun _ => none)
def kI116 (xs : Nat → Int32) : jm_I := jm_uA (kI115 xs) 106 (fun _ => 0)
def kL98 : jm_L := jm_uA kL97 106 (fun _ => 0)
def kP207 : jm_P := jm_uP kP206 103 4 (some 106)
def kP209 : jm_P := jm_uP jP0c12 103 1 (some 74)
def kP210 : jm_P := jm_uP kP209 72 7 (some 103)
def kP211 : jm_P := jm_uP kP210 9 7 (some 71)
def kT99 (n : Nat) : jm_T := jm_uA (kT98 n) 107 (11, 5)
def kP212 : jm_P := jm_uA kP211 107 (fun _ => none)
def kI117 (xs : Nat → Int32) : jm_I := jm_uA (kI116 xs) 107 (fun _ => 0)
def kL99 : jm_L := jm_uA kL98 107 (fun _ => 0)
def kT100 (n : Nat) : jm_T := jm_uA (kT99 n) 108 (1, 96)
def kP213 : jm_P := jm_uA kP212 108 (fun _ => none)
def kI118 (xs : Nat → Int32) : jm_I := jm_uA (kI117 xs) 108 (fun _ => 0)
def kL100 : jm_L := jm_uA kL99 108 (fun _ => 0)
def kP214 : jm_P := jm_uP kP213 107 1 (some 108)
def kT101 (n : Nat) : jm_T := jm_uA (kT100 n) 109 (1, 336)
def kP215 : jm_P := jm_uA kP214 109 (fun _ => none)
def kI119 (xs : Nat → Int32) : jm_I := jm_uA (kI118 xs) 109 (fun _ => 0)
def kL101 : jm_L := jm_uA kL100 109 (fun _ => 0)
def kP216 : jm_P := jm_uP kP215 107 2 (some 109)
def kT102 (n : Nat) : jm_T := jm_uA (kT101 n) 110 (0, 4)
def kP217 : jm_P := jm_uA kP216 110 (fun _ => none)
def kI120 (xs : Nat → Int32) : jm_I := jm_uA (kI119 xs) 110 (fun _ => 0)
def kL102 : jm_L := jm_uA kL101 110 (fun _ => 0)
def kP218 : jm_P := jm_uP kP217 107 3 (some 110)
def kP219 : jm_P := jm_uP kP218 107 0 (some 10)
def kP220 : jm_P := jm_uP kP219 9 8 (some 107)
def kT103 (n : Nat) : jm_T := jm_uA (kT102 n) 111 (14, 44)
def kP221 : jm_P := jm_uA kP220 111 (fun _ => none)
def kI121 (xs : Nat → Int32) : jm_I := jm_uA (kI120 xs) 111 (fun _ => 0)
def kL103 : jm_L := jm_uA kL102 111 (fun _ => 0)
def kT104 (n : Nat) : jm_T := jm_uA (kT103 n) 112 (0, 7)
def kP222 : jm_P := jm_uA kP221 112 (fun _ => none)
def kI122 (xs : Nat → Int32) : jm_I := jm_uA (kI121 xs) 112 (fun _ => 0)
def kL104 : jm_L := jm_uA kL103 112 (fun _ => 0)
def kP223 : jm_P := jm_uP kP222 111 0 (some 112)
def kT105 (n : Nat) : jm_T := jm_uA (kT104 n) 113 (0, 4)
def kI123 (xs : Nat → Int32) : jm_I := jm_uA (kI122 xs) 113 (fun _ => 0)
def kL105 : jm_L := jm_uA kL104 113 (fun _ => 0)
def kP225 : jm_P := jm_uP jP0c13 111 1 (some 113)
def kT106 (n : Nat) : jm_T := jm_uA (kT105 n) 114 (0, 4)
def kP226 : jm_P := jm_uA kP225 114 (fun _ => none)
def kI124 (xs : Nat → Int32) : jm_I := jm_uA (kI123 xs) 114 (fun _ => 0)
def kL106 : jm_L := jm_uA kL105 114 (fun _ => 0)
def kP227 : jm_P := jm_uP kP226 111 2 (some 114)
def kT107 (n : Nat) : jm_T := jm_uA (kT106 n) 115 (0, 4)
def kP228 : jm_P := jm_uA kP227 115 (fun _ => none)
def kI125 (xs : Nat → Int32) : jm_I := jm_uA (kI124 xs) 115 (fun _ => 0)
def kL107 : jm_L := jm_uA kL106 115 (fun _ => 0)
def kP229 : jm_P := jm_uP kP228 111 3 (some 115)
def kT108 (n : Nat) : jm_T := jm_uA (kT107 n) 116 (0, 4)
def kP230 : jm_P := jm_uA kP229 116 (fun _ => none)
def kI126 (xs : Nat → Int32) : jm_I := jm_uA (kI125 xs) 116 (fun _ => 0)
def kL108 : jm_L := jm_uA kL107 116 (fun _ => 0)
def kP231 : jm_P := jm_uP kP230 111 4 (some 116)
def kT109 (n : Nat) : jm_T := jm_uA (kT108 n) 117 (0, 16)
def kP232 : jm_P := jm_uA kP231 117 (fun _ => none)
def kI127 (xs : Nat → Int32) : jm_I := jm_uA (kI126 xs) 117 (fun _ => 0)
def kL109 : jm_L := jm_uA kL108 117 (fun _ => 0)
def kP233 : jm_P := jm_uP kP232 111 5 (some 117)
def kT110 (n : Nat) : jm_T := jm_uA (kT109 n) 118 (0, 5)
def kP234 : jm_P := jm_uA kP233 118 (fun _ => none)
def kL110 : jm_L := jm_uA kL109 118 (fun _ => 0)
def kP235 : jm_P := jm_uP kP234 111 6 (some 118)
def kT111 (n : Nat) : jm_T := jm_uA (kT110 n) 119 (2, 4)
def kP236 : jm_P := jm_uA kP235 119 (fun _ => none)
def kI129 (xs : Nat → Int32) : jm_I := jm_uA (jI0c7 xs) 119 (fun _ => 0)
def kL111 : jm_L := jm_uA kL110 119 (fun _ => 0)
def kP237 : jm_P := jm_uP kP236 111 7 (some 119)
def kP238 : jm_P := jm_uA kP237 120 (fun _ => none)
def kI130 (xs : Nat → Int32) : jm_I := jm_uA (kI129 xs) 120 (fun _ => 0)
def kI131 (xs : Nat → Int32) : jm_I := jm_u (kI130 xs) 120 0 (0)
def kI132 (xs : Nat → Int32) : jm_I := jm_u (kI131 xs) 120 1 (3)
def kI133 (xs : Nat → Int32) : jm_I := jm_u (kI132 xs) 120 2 (4)
def kI134 (xs : Nat → Int32) : jm_I := jm_u (kI133 xs) 120 3 (3)
def kI135 (xs : Nat → Int32) : jm_I := jm_u (kI134 xs) 120 4 (0)
def kI136 (xs : Nat → Int32) : jm_I := jm_u (kI135 xs) 120 5 (-3)
def kI137 (xs : Nat → Int32) : jm_I := jm_u (kI136 xs) 120 6 (-4)
def kI138 (xs : Nat → Int32) : jm_I := jm_u (kI137 xs) 120 7 (-3)
def kP239 : jm_P := jm_uP kP238 111 8 (some 120)
def kT113 (n : Nat) : jm_T := jm_uA (jT0c6 n) 121 (0, 6)
def kI139 (xs : Nat → Int32) : jm_I := jm_uA (kI138 xs) 121 (fun _ => 0)
def kL113 : jm_L := jm_uA jL0c6 121 (fun _ => 0)
def kP241 : jm_P := jm_uP jP0c14 111 9 (some 121)
def kT114 (n : Nat) : jm_T := jm_uA (kT113 n) 122 (0, 4)
def kP242 : jm_P := jm_uA kP241 122 (fun _ => none)
def kI140 (xs : Nat → Int32) : jm_I := jm_uA (kI139 xs) 122 (fun _ => 0)
def kL114 : jm_L := jm_uA kL113 122 (fun _ => 0)
def kP243 : jm_P := jm_uP kP242 111 10 (some 122)
def kT115 (n : Nat) : jm_T := jm_uA (kT114 n) 123 (0, 4)
def kP244 : jm_P := jm_uA kP243 123 (fun _ => none)
def kI141 (xs : Nat → Int32) : jm_I := jm_uA (kI140 xs) 123 (fun _ => 0)
def kL115 : jm_L := jm_uA kL114 123 (fun _ => 0)
def kP245 : jm_P := jm_uP kP244 111 11 (some 123)
def kT116 (n : Nat) : jm_T := jm_uA (kT115 n) 124 (0, 4)
def kP246 : jm_P := jm_uA kP245 124 (fun _ => none)
def kI142 (xs : Nat → Int32) : jm_I := jm_uA (kI141 xs) 124 (fun _ => 0)
def kL116 : jm_L := jm_uA kL115 124 (fun _ => 0)
def kP247 : jm_P := jm_uP kP246 111 12 (some 124)
def kT117 (n : Nat) : jm_T := jm_uA (kT116 n) 125 (0, 40)
def kP248 : jm_P := jm_uA kP247 125 (fun _ => none)
def kI143 (xs : Nat → Int32) : jm_I := jm_uA (kI142 xs) 125 (fun _ => 0)
def kL117 : jm_L := jm_uA kL116 125 (fun _ => 0)
def kP249 : jm_P := jm_uP kP248 111 13 (some 125)
def kT118 (n : Nat) : jm_T := jm_uA (kT117 n) 126 (0, 40)
def kP250 : jm_P := jm_uA kP249 126 (fun _ => none)
def kL118 : jm_L := jm_uA kL117 126 (fun _ => 0)
def kP251 : jm_P := jm_uP kP250 111 14 (some 126)
def kT119 (n : Nat) : jm_T := jm_uA (kT118 n) 127 (0, 40)
def kP252 : jm_P := jm_uA kP251 127 (fun _ => none)
def kI145 (xs : Nat → Int32) : jm_I := jm_uA (jI0c8 xs) 127 (fun _ => 0)
def kL119 : jm_L := jm_uA kL118 127 (fun _ => 0)
def kP253 : jm_P := jm_uP kP252 111 15 (some 127)
def kT120 (n : Nat) : jm_T := jm_uA (kT119 n) 128 (0, 40)
def kP254 : jm_P := jm_uA kP253 128 (fun _ => none)
def kI146 (xs : Nat → Int32) : jm_I := jm_uA (kI145 xs) 128 (fun _ => 0)
def kL120 : jm_L := jm_uA kL119 128 (fun _ => 0)
def kP255 : jm_P := jm_uP kP254 111 16 (some 128)
def kT121 (n : Nat) : jm_T := jm_uA (kT120 n) 129 (0, 40)
def kI147 (xs : Nat → Int32) : jm_I := jm_uA (kI146 xs) 129 (fun _ => 0)
def kL121 : jm_L := jm_uA kL120 129 (fun _ => 0)
def kP257 : jm_P := jm_uP jP0c15 111 17 (some 129)
def kT122 (n : Nat) : jm_T := jm_uA (kT121 n) 130 (0, 40)
def kP258 : jm_P := jm_uA kP257 130 (fun _ => none)
def kI148 (xs : Nat → Int32) : jm_I := jm_uA (kI147 xs) 130 (fun _ => 0)
def kL122 : jm_L := jm_uA kL121 130 (fun _ => 0)
def kP259 : jm_P := jm_uP kP258 111 18 (some 130)
def kT123 (n : Nat) : jm_T := jm_uA (kT122 n) 131 (0, 40)
def kP260 : jm_P := jm_uA kP259 131 (fun _ => none)
def kI149 (xs : Nat → Int32) : jm_I := jm_uA (kI148 xs) 131 (fun _ => 0)
def kL123 : jm_L := jm_uA kL122 131 (fun _ => 0)
def kP261 : jm_P := jm_uP kP260 111 19 (some 131)
def kT124 (n : Nat) : jm_T := jm_uA (kT123 n) 132 (0, 80)
def kP262 : jm_P := jm_uA kP261 132 (fun _ => none)
def kI150 (xs : Nat → Int32) : jm_I := jm_uA (kI149 xs) 132 (fun _ => 0)
def kL124 : jm_L := jm_uA kL123 132 (fun _ => 0)
def kP263 : jm_P := jm_uP kP262 111 21 (some 132)
def kT125 (n : Nat) : jm_T := jm_uA (kT124 n) 133 (0, 20)
def kP264 : jm_P := jm_uA kP263 133 (fun _ => none)
def kI151 (xs : Nat → Int32) : jm_I := jm_uA (kI150 xs) 133 (fun _ => 0)
def kL125 : jm_L := jm_uA kL124 133 (fun _ => 0)
def kP265 : jm_P := jm_uP kP264 111 23 (some 133)
def kT126 (n : Nat) : jm_T := jm_uA (kT125 n) 134 (0, 72)
def kP266 : jm_P := jm_uA kP265 134 (fun _ => none)
def kI152 (xs : Nat → Int32) : jm_I := jm_uA (kI151 xs) 134 (fun _ => 0)
def kL126 : jm_L := jm_uA kL125 134 (fun _ => 0)
def kP267 : jm_P := jm_uP kP266 111 24 (some 134)
def kT127 (n : Nat) : jm_T := jm_uA (kT126 n) 135 (0, 9)
def kP268 : jm_P := jm_uA kP267 135 (fun _ => none)
def kI153 (xs : Nat → Int32) : jm_I := jm_uA (kI152 xs) 135 (fun _ => 0)
def kL127 : jm_L := jm_uA kL126 135 (fun _ => 0)
def kP269 : jm_P := jm_uP kP268 111 25 (some 135)
def kP270 : jm_P := jm_uA kP269 136 (fun _ => none)
def kI154 (xs : Nat → Int32) : jm_I := jm_uA (kI153 xs) 136 (fun _ => 0)
def kP271 : jm_P := jm_uP kP270 111 26 (some 136)
def kT129 (n : Nat) : jm_T := jm_uA (jT0c7 n) 137 (0, 4)
def kI155 (xs : Nat → Int32) : jm_I := jm_uA (kI154 xs) 137 (fun _ => 0)
def kL129 : jm_L := jm_uA jL0c7 137 (fun _ => 0)
def kP273 : jm_P := jm_uP jP0c16 111 27 (some 137)
def kT130 (n : Nat) : jm_T := jm_uA (kT129 n) 138 (0, 40)
def kP274 : jm_P := jm_uA kP273 138 (fun _ => none)
def kI156 (xs : Nat → Int32) : jm_I := jm_uA (kI155 xs) 138 (fun _ => 0)
def kL130 : jm_L := jm_uA kL129 138 (fun _ => 0)
def kP275 : jm_P := jm_uP kP274 111 31 (some 138)
def kT131 (n : Nat) : jm_T := jm_uA (kT130 n) 139 (0, 8)
def kP276 : jm_P := jm_uA kP275 139 (fun _ => none)
def kI157 (xs : Nat → Int32) : jm_I := jm_uA (kI156 xs) 139 (fun _ => 0)
def kL131 : jm_L := jm_uA kL130 139 (fun _ => 0)
def kP277 : jm_P := jm_uP kP276 111 32 (some 139)
def kT132 (n : Nat) : jm_T := jm_uA (kT131 n) 140 (1, 360)
def kP278 : jm_P := jm_uA kP277 140 (fun _ => none)
def kI158 (xs : Nat → Int32) : jm_I := jm_uA (kI157 xs) 140 (fun _ => 0)
def kL132 : jm_L := jm_uA kL131 140 (fun _ => 0)
def kP279 : jm_P := jm_uP kP278 111 33 (some 140)
def kT133 (n : Nat) : jm_T := jm_uA (kT132 n) 141 (1, 2240)
def kP280 : jm_P := jm_uA kP279 141 (fun _ => none)
def kI159 (xs : Nat → Int32) : jm_I := jm_uA (kI158 xs) 141 (fun _ => 0)
def kL133 : jm_L := jm_uA kL132 141 (fun _ => 0)
def kP281 : jm_P := jm_uP kP280 111 34 (some 141)
def kT134 (n : Nat) : jm_T := jm_uA (kT133 n) 142 (0, 8)
def kP282 : jm_P := jm_uA kP281 142 (fun _ => none)
def kL134 : jm_L := jm_uA kL133 142 (fun _ => 0)
def kP283 : jm_P := jm_uP kP282 111 38 (some 142)
def kT135 (n : Nat) : jm_T := jm_uA (kT134 n) 143 (0, 160)
def kP284 : jm_P := jm_uA kP283 143 (fun _ => none)
def kI161 (xs : Nat → Int32) : jm_I := jm_uA (jI0c9 xs) 143 (fun _ => 0)
def kL135 : jm_L := jm_uA kL134 143 (fun _ => 0)
def kP285 : jm_P := jm_uP kP284 111 39 (some 143)
def kP286 : jm_P := jm_uA kP285 144 (fun _ => none)
def kI162 (xs : Nat → Int32) : jm_I := jm_uA (kI161 xs) 144 (fun _ => 0)
def kI163 (xs : Nat → Int32) : jm_I := jm_u (kI162 xs) 118 1 (31556952)
def kI164 (xs : Nat → Int32) : jm_I := jm_u (kI163 xs) 118 2 (10)
def kI165 (xs : Nat → Int32) : jm_I := jm_u (kI164 xs) 118 3 (50)
def kI166 (xs : Nat → Int32) : jm_I := jm_u (kI165 xs) 118 4 (60)
def kI167 (xs : Nat → Int32) : jm_I := jm_u (kI166 xs) 137 0 (1000)
def kI168 (xs : Nat → Int32) : jm_I := jm_u (kI167 xs) 137 1 (1000)
def kI169 (xs : Nat → Int32) : jm_I := jm_u (kI168 xs) 137 2 (1000)
