section JSOUND
variable {b : Nat} {sa : Nat → Nat} {D : va_G} {cs : jm_cs} {rn : Nat → Nat} {rf : Nat → Nat → Int32} {r : jm_Row} {x : Option Value × jm_S} {uc us pc : Nat} {lv st : List Value} {σ : jm_S}
set_option maxHeartbeats 4000000 in
set_option maxRecDepth 100000 in
theorem jm_step_sound {f : jm_F} (hr : r ∈ jm_rows) (h : jm_nx r uc us pc lv st σ = some (.inl (.inl f))) (hG : jm_G b sa D cs rn rf r x f.1 f.2.1 f.2.2.1 f.2.2.2.1 f.2.2.2.2.1 f.2.2.2.2.2) : jm_G b sa D cs rn rf r x uc us pc lv st σ := by
  unfold jm_nx at h
  split at h
  · cases h
  · rename_i i len hd
    split at h
    · cases h
    · rename_i hlk
      have hlk : jm_lok i len = true := by simpa using hlk
      cases i
      case iconst n =>
        cases h
        have hl : len = 1 := by simpa [jm_lok, jm_len] using hlk
        subst hl
        exact fun p l e R s m args below meth c Q C H locs ls hR hS hL => lv_iconst C.1 C.2.1 hd rfl (hG p l e R s m args below meth c Q C H locs ls hR hS hL)
      case bipush n =>
        cases h
        have hl : len = 2 := by simpa [jm_lok, jm_len] using hlk
        subst hl
        exact fun p l e R s m args below meth c Q C H locs ls hR hS hL => lv_bipush C.1 C.2.1 hd rfl (hG p l e R s m args below meth c Q C H locs ls hR hS hL)
      case sipush n =>
        cases h
        have hl : len = 3 := by simpa [jm_lok, jm_len] using hlk
        subst hl
        exact fun p l e R s m args below meth c Q C H locs ls hR hS hL => lv_sipush C.1 C.2.1 hd rfl (hG p l e R s m args below meth c Q C H locs ls hR hS hL)
      case lconst n =>
        cases h
        have hl : len = 1 := by simpa [jm_lok, jm_len] using hlk
        subst hl
        exact fun p l e R s m args below meth c Q C H locs ls hR hS hL => lv_lconst C.1 C.2.1 hd rfl (hG p l e R s m args below meth c Q C H locs ls hR hS hL)
      case ldc k =>
        dsimp only at h
        split at h
        · rename_i v hv
          cases h
          exact jg_ldc (by simpa [jm_lok, jm_len] using hlk) hd hv hG
        · cases h
      case ldc_w k =>
        dsimp only at h
        split at h
        · rename_i v hv
          cases h
          exact jg_ldcw (by simpa [jm_lok, jm_len] using hlk) hd hv hG
        · cases h
      case ldc2_w k =>
        dsimp only at h
        split at h
        · rename_i v hv
          cases h
          exact jg_ldc2 (by simpa [jm_lok, jm_len] using hlk) hd hv hG
        · cases h
      case iload_n k =>
        dsimp only at h
        split at h
        · rename_i y hv
          cases h
          have hl : len = 1 := by simpa [jm_lok, jm_len] using hlk
          subst hl
          exact fun p l e R s m args below meth c Q C H locs ls hR hS hL => lv_iload_n C.1 C.2.1 hd rfl (jg_ld_i hv hL) (hG p l e R s m args below meth c Q C H locs ls hR hS hL)
        · cases h
      case iload k =>
        dsimp only at h
        split at h
        · rename_i y hv
          cases h
          have hl : len = 2 := by simpa [jm_lok, jm_len] using hlk
          subst hl
          exact fun p l e R s m args below meth c Q C H locs ls hR hS hL => lv_iload C.1 C.2.1 hd (jg_ld_i hv hL) (hG p l e R s m args below meth c Q C H locs ls hR hS hL)
        · cases h
      case lload_n k =>
        dsimp only at h
        split at h
        · rename_i y hv
          cases h
          have hl : len = 1 := by simpa [jm_lok, jm_len] using hlk
          subst hl
          exact fun p l e R s m args below meth c Q C H locs ls hR hS hL => lv_lload_n C.1 C.2.1 hd rfl (jg_ld_l hv hL) (hG p l e R s m args below meth c Q C H locs ls hR hS hL)
        · cases h
      case lload k =>
        dsimp only at h
        split at h
        · rename_i y hv
          cases h
          have hl : len = 2 := by simpa [jm_lok, jm_len] using hlk
          subst hl
          exact fun p l e R s m args below meth c Q C H locs ls hR hS hL => lv_lload C.1 C.2.1 hd (jg_ld_l hv hL) (hG p l e R s m args below meth c Q C H locs ls hR hS hL)
        · cases h
      case aload_n k =>
        dsimp only at h
        split at h
        · rename_i y hv
          cases h
          have hl : len = 1 := by simpa [jm_lok, jm_len] using hlk
          subst hl
          exact fun p l e R s m args below meth c Q C H locs ls hR hS hL => lv_aload_n C.1 C.2.1 hd rfl (jg_ld_a hv hL) (hG p l e R s m args below meth c Q C H locs ls hR hS hL)
        · cases h
      case aload k =>
        dsimp only at h
        split at h
        · rename_i y hv
          cases h
          have hl : len = 2 := by simpa [jm_lok, jm_len] using hlk
          subst hl
          exact fun p l e R s m args below meth c Q C H locs ls hR hS hL => lv_aload C.1 C.2.1 hd (jg_ld_a hv hL) (hG p l e R s m args below meth c Q C H locs ls hR hS hL)
        · cases h
      case istore_n k =>
        dsimp only at h
        split at h
        · split at h
          · rename_i hk
            cases h
            exact jg_istore_n (by simpa [jm_lok, jm_len] using hlk) hd hk hG
          · cases h
        · cases h
      case istore k =>
        dsimp only at h
        split at h
        · split at h
          · rename_i hk
            cases h
            exact jg_istore (by simpa [jm_lok, jm_len] using hlk) hd hk hG
          · cases h
        · cases h
      case lstore_n k =>
        dsimp only at h
        split at h
        · split at h
          · rename_i hk
            cases h
            exact jg_lstore_n (by simpa [jm_lok, jm_len] using hlk) hd hk hG
          · cases h
        · cases h
      case lstore k =>
        dsimp only at h
        split at h
        · split at h
          · rename_i hk
            cases h
            exact jg_lstore (by simpa [jm_lok, jm_len] using hlk) hd hk hG
          · cases h
        · cases h
      case astore_n k =>
        dsimp only at h
        split at h
        · split at h
          · rename_i hk
            cases h
            exact jg_astore_n (by simpa [jm_lok, jm_len] using hlk) hd hk hG
          · cases h
        · cases h
      case astore k =>
        dsimp only at h
        split at h
        · split at h
          · rename_i hk
            cases h
            exact jg_astore (by simpa [jm_lok, jm_len] using hlk) hd hk hG
          · cases h
        · cases h
      case iinc k i =>
        dsimp only at h
        split at h
        · rename_i y hv
          cases h
          exact jg_iinc (by simpa [jm_lok, jm_len] using hlk) hd hv hG
        · cases h
      case iadd =>
        dsimp only at h
        split at h
        · cases h
          have hl : len = 1 := by simpa [jm_lok, jm_len] using hlk
          subst hl
          exact fun p l e R s m args below meth c Q C H locs ls hR hS hL => lv_iadd C.1 C.2.1 hd (hG p l e R s m args below meth c Q C H locs ls hR hS hL)
        · cases h
      case isub =>
        dsimp only at h
        split at h
        · cases h
          have hl : len = 1 := by simpa [jm_lok, jm_len] using hlk
          subst hl
          exact fun p l e R s m args below meth c Q C H locs ls hR hS hL => lv_isub C.1 C.2.1 hd (hG p l e R s m args below meth c Q C H locs ls hR hS hL)
        · cases h
      case imul =>
        dsimp only at h
        split at h
        · cases h
          have hl : len = 1 := by simpa [jm_lok, jm_len] using hlk
          subst hl
          exact fun p l e R s m args below meth c Q C H locs ls hR hS hL => lv_imul C.1 C.2.1 hd (hG p l e R s m args below meth c Q C H locs ls hR hS hL)
        · cases h
      case iand =>
        dsimp only at h
        split at h
        · cases h
          have hl : len = 1 := by simpa [jm_lok, jm_len] using hlk
          subst hl
          exact fun p l e R s m args below meth c Q C H locs ls hR hS hL => lv_iand C.1 C.2.1 hd (hG p l e R s m args below meth c Q C H locs ls hR hS hL)
        · cases h
      case ior =>
        dsimp only at h
        split at h
        · cases h
          have hl : len = 1 := by simpa [jm_lok, jm_len] using hlk
          subst hl
          exact fun p l e R s m args below meth c Q C H locs ls hR hS hL => lv_ior C.1 C.2.1 hd (hG p l e R s m args below meth c Q C H locs ls hR hS hL)
        · cases h
      case ineg =>
        dsimp only at h
        split at h
        · cases h
          have hl : len = 1 := by simpa [jm_lok, jm_len] using hlk
          subst hl
          exact fun p l e R s m args below meth c Q C H locs ls hR hS hL => lv_ineg C.1 C.2.1 hd (hG p l e R s m args below meth c Q C H locs ls hR hS hL)
        · cases h
      case ishl =>
        dsimp only at h
        split at h
        · cases h
          have hl : len = 1 := by simpa [jm_lok, jm_len] using hlk
          subst hl
          exact fun p l e R s m args below meth c Q C H locs ls hR hS hL => lv_ishl C.1 C.2.1 hd (hG p l e R s m args below meth c Q C H locs ls hR hS hL)
        · cases h
      case ishr =>
        dsimp only at h
        split at h
        · cases h
          have hl : len = 1 := by simpa [jm_lok, jm_len] using hlk
          subst hl
          exact fun p l e R s m args below meth c Q C H locs ls hR hS hL => lv_ishr C.1 C.2.1 hd (hG p l e R s m args below meth c Q C H locs ls hR hS hL)
        · cases h
      case ladd =>
        dsimp only at h
        split at h
        · cases h
          have hl : len = 1 := by simpa [jm_lok, jm_len] using hlk
          subst hl
          exact fun p l e R s m args below meth c Q C H locs ls hR hS hL => lv_ladd C.1 C.2.1 hd (hG p l e R s m args below meth c Q C H locs ls hR hS hL)
        · cases h
      case lsub =>
        dsimp only at h
        split at h
        · cases h
          have hl : len = 1 := by simpa [jm_lok, jm_len] using hlk
          subst hl
          exact fun p l e R s m args below meth c Q C H locs ls hR hS hL => lv_lsub C.1 C.2.1 hd (hG p l e R s m args below meth c Q C H locs ls hR hS hL)
        · cases h
      case lmul =>
        dsimp only at h
        split at h
        · cases h
          have hl : len = 1 := by simpa [jm_lok, jm_len] using hlk
          subst hl
          exact fun p l e R s m args below meth c Q C H locs ls hR hS hL => lv_lmul C.1 C.2.1 hd (hG p l e R s m args below meth c Q C H locs ls hR hS hL)
        · cases h
      case land =>
        dsimp only at h
        split at h
        · cases h
          have hl : len = 1 := by simpa [jm_lok, jm_len] using hlk
          subst hl
          exact fun p l e R s m args below meth c Q C H locs ls hR hS hL => lv_land C.1 C.2.1 hd (hG p l e R s m args below meth c Q C H locs ls hR hS hL)
        · cases h
      case lor =>
        dsimp only at h
        split at h
        · cases h
          have hl : len = 1 := by simpa [jm_lok, jm_len] using hlk
          subst hl
          exact fun p l e R s m args below meth c Q C H locs ls hR hS hL => lv_lor C.1 C.2.1 hd (hG p l e R s m args below meth c Q C H locs ls hR hS hL)
        · cases h
      case lxor =>
        dsimp only at h
        split at h
        · cases h
          have hl : len = 1 := by simpa [jm_lok, jm_len] using hlk
          subst hl
          exact fun p l e R s m args below meth c Q C H locs ls hR hS hL => lv_lxor C.1 C.2.1 hd (hG p l e R s m args below meth c Q C H locs ls hR hS hL)
        · cases h
      case lneg =>
        dsimp only at h
        split at h
        · cases h
          have hl : len = 1 := by simpa [jm_lok, jm_len] using hlk
          subst hl
          exact fun p l e R s m args below meth c Q C H locs ls hR hS hL => lv_lneg C.1 C.2.1 hd (hG p l e R s m args below meth c Q C H locs ls hR hS hL)
        · cases h
      case iushr =>
        dsimp only at h
        split at h
        · cases h
          have hl : len = 1 := by simpa [jm_lok, jm_len] using hlk
          subst hl
          exact fun p l e R s m args below meth c Q C H locs ls hR hS hL => lv_iushr C.1 C.2.1 hd rfl (hG p l e R s m args below meth c Q C H locs ls hR hS hL)
        · cases h
      case lshl =>
        dsimp only at h
        split at h
        · cases h
          have hl : len = 1 := by simpa [jm_lok, jm_len] using hlk
          subst hl
          exact fun p l e R s m args below meth c Q C H locs ls hR hS hL => lv_lshl C.1 C.2.1 hd rfl (hG p l e R s m args below meth c Q C H locs ls hR hS hL)
        · cases h
      case lshr =>
        dsimp only at h
        split at h
        · cases h
          have hl : len = 1 := by simpa [jm_lok, jm_len] using hlk
          subst hl
          exact fun p l e R s m args below meth c Q C H locs ls hR hS hL => lv_lshr C.1 C.2.1 hd rfl (hG p l e R s m args below meth c Q C H locs ls hR hS hL)
        · cases h
      case lushr =>
        dsimp only at h
        split at h
        · cases h
          have hl : len = 1 := by simpa [jm_lok, jm_len] using hlk
          subst hl
          exact fun p l e R s m args below meth c Q C H locs ls hR hS hL => lv_lushr C.1 C.2.1 hd rfl (hG p l e R s m args below meth c Q C H locs ls hR hS hL)
        · cases h
      case i2l =>
        dsimp only at h
        split at h
        · cases h
          have hl : len = 1 := by simpa [jm_lok, jm_len] using hlk
          subst hl
          exact fun p l e R s m args below meth c Q C H locs ls hR hS hL => lv_i2l C.1 C.2.1 hd rfl (hG p l e R s m args below meth c Q C H locs ls hR hS hL)
        · cases h
      case l2i =>
        dsimp only at h
        split at h
        · cases h
          have hl : len = 1 := by simpa [jm_lok, jm_len] using hlk
          subst hl
          exact fun p l e R s m args below meth c Q C H locs ls hR hS hL => lv_l2i C.1 C.2.1 hd rfl (hG p l e R s m args below meth c Q C H locs ls hR hS hL)
        · cases h
      case lcmp =>
        dsimp only at h
        split at h
        · cases h
          have hl : len = 1 := by simpa [jm_lok, jm_len] using hlk
          subst hl
          exact fun p l e R s m args below meth c Q C H locs ls hR hS hL => W.lcmp C.1 C.2.1 hd (hG p l e R s m args below meth c Q C H locs ls hR hS hL)
        · cases h
      case idiv =>
        dsimp only at h
        split at h
        · split at h
          · cases h
          · rename_i hy
            cases h
            have hl : len = 1 := by simpa [jm_lok, jm_len] using hlk
            subst hl
            exact fun p l e R s m args below meth c Q C H locs ls hR hS hL => lv_idiv C.1 C.2.1 hd hy (hG p l e R s m args below meth c Q C H locs ls hR hS hL)
        · cases h
      case irem =>
        dsimp only at h
        split at h
        · split at h
          · cases h
          · rename_i hy
            cases h
            have hl : len = 1 := by simpa [jm_lok, jm_len] using hlk
            subst hl
            exact fun p l e R s m args below meth c Q C H locs ls hR hS hL => lv_irem C.1 C.2.1 hd hy (hG p l e R s m args below meth c Q C H locs ls hR hS hL)
        · cases h
      case ldiv =>
        dsimp only at h
        split at h
        · split at h
          · cases h
          · rename_i hy
            cases h
            have hl : len = 1 := by simpa [jm_lok, jm_len] using hlk
            subst hl
            exact fun p l e R s m args below meth c Q C H locs ls hR hS hL => lv_ldiv C.1 C.2.1 hd hy (hG p l e R s m args below meth c Q C H locs ls hR hS hL)
        · cases h
      case lrem =>
        dsimp only at h
        split at h
        · split at h
          · cases h
          · rename_i hy
            cases h
            have hl : len = 1 := by simpa [jm_lok, jm_len] using hlk
            subst hl
            exact fun p l e R s m args below meth c Q C H locs ls hR hS hL => lv_lrem C.1 C.2.1 hd hy (hG p l e R s m args below meth c Q C H locs ls hR hS hL)
        · cases h
      case dup =>
        dsimp only at h
        split at h
        · split at h
          · rename_i hy
            cases h
            have hl : len = 1 := by simpa [jm_lok, jm_len] using hlk
            subst hl
            exact fun p l e R s m args below meth c Q C H locs ls hR hS hL => lv_dup C.1 C.2.1 hd (by rw [jm_tv_cat]; exact hy) (hG p l e R s m args below meth c Q C H locs ls hR hS hL)
          · cases h
        · cases h
      case dup2 =>
        dsimp only at h
        split at h
        · split at h
          · rename_i hy
            cases h
            have hl : len = 1 := by simpa [jm_lok, jm_len] using hlk
            subst hl
            exact fun p l e R s m args below meth c Q C H locs ls hR hS hL => lv_dup2_11 C.1 C.2.1 hd (by rw [jm_tv_cat]; exact hy.1) (by rw [jm_tv_cat]; exact hy.2) (hG p l e R s m args below meth c Q C H locs ls hR hS hL)
          · cases h
        · cases h
      case goto off =>
        dsimp only at h
        split at h
        · rename_i t ht
          cases h
          have hl : len = 3 := by simpa [jm_lok, jm_len] using hlk
          subst hl
          exact fun p l e R s m args below meth c Q C H locs ls hR hS hL => lv_goto C.1 C.2.1 hd (jm_tg_eq ht) (hG p l e R s m args below meth c Q C H locs ls hR hS hL)
        · cases h
      case if_icmp cd off =>
        dsimp only at h
        split at h
        · rename_i ht
          cases h
          exact jg_icmp (by simpa [jm_lok, jm_len] using hlk) hd ht hG
        · cases h
      case ifCond cd off =>
        dsimp only at h
        split at h
        · rename_i ht
          cases h
          exact jg_if (by simpa [jm_lok, jm_len] using hlk) hd ht hG
        · cases h
      case tableswitch d lo hi offs =>
        dsimp only at h
        split at h
        · split at h
          · rename_i off ho
            split at h
            · rename_i t ht
              cases h
              exact jg_table hd ho ht hG
            · cases h
          · cases h
        · cases h
      case lookupswitch d ps =>
        dsimp only at h
        split at h
        · split at h
          · rename_i off ho
            split at h
            · rename_i t ht
              cases h
              exact jg_lookup hd ho ht hG
            · cases h
          · cases h
        · cases h
      case getfield k =>
        dsimp only at h
        split at h
        · rename_i hp
          split at h
          · rename_i hc
            split at h
            · rename_i v hv
              cases h
              exact jg_getfield (by simpa [jm_lok, jm_len] using hlk) hd hp hc.1 hc.2 hv hG
            · cases h
          · cases h
        · cases h
      case putfield k =>
        dsimp only at h
        split at h
        · rename_i hp
          split at h
          · rename_i hc
            split at h
            · rename_i τ hv
              cases h
              exact jg_putfield (by simpa [jm_lok, jm_len] using hlk) hd hp hc.1 hc.2.1 hc.2.2 hv hG
            · cases h
          · cases h
        · cases h
      case getstatic k =>
        dsimp only at h
        split at h
        · rename_i hp
          cases h
          exact jg_getstatic (by simpa [jm_lok, jm_len] using hlk) hd hp hG
        · cases h
      case iaload =>
        dsimp only at h
        split at h
        · split at h
          · rename_i hc
            cases h
            exact jg_iaload (by simpa [jm_lok, jm_len] using hlk) hd hc hG
          · cases h
        · cases h
      case baload =>
        dsimp only at h
        split at h
        · split at h
          · rename_i hc
            cases h
            exact jg_baload (by simpa [jm_lok, jm_len] using hlk) hd hc hG
          · cases h
        · cases h
      case laload =>
        dsimp only at h
        split at h
        · split at h
          · rename_i hc
            cases h
            exact jg_laload (by simpa [jm_lok, jm_len] using hlk) hd hc hG
          · cases h
        · cases h
      case aaload =>
        dsimp only at h
        split at h
        · split at h
          · rename_i hc
            split at h
            · rename_i q hq
              cases h
              exact jg_aaload (by simpa [jm_lok, jm_len] using hlk) hd hc hq hG
            · cases h
          · cases h
        · cases h
      case iastore =>
        dsimp only at h
        split at h
        · split at h
          · rename_i hc
            cases h
            exact jg_iastore (by simpa [jm_lok, jm_len] using hlk) hd hc hG
          · cases h
        · cases h
      case bastore =>
        dsimp only at h
        split at h
        · split at h
          · rename_i hc
            cases h
            exact jg_bastore (by simpa [jm_lok, jm_len] using hlk) hd hc hG
          · cases h
        · cases h
      case lastore =>
        dsimp only at h
        split at h
        · split at h
          · rename_i hc
            cases h
            exact jg_lastore (by simpa [jm_lok, jm_len] using hlk) hd hc hG
          · cases h
        · cases h
      case aastore =>
        dsimp only at h
        split at h
        · split at h
          · rename_i hc
            cases h
            exact jg_aastore (by simpa [jm_lok, jm_len] using hlk) hd hc hG
          · cases h
        · cases h
      case arraylength =>
        dsimp only at h
        split at h
        · split at h
          · rename_i hc
            cases h
            exact jg_alen (by simpa [jm_lok, jm_len] using hlk) hd hc hG
          · cases h
        · cases h
      case new k =>
        dsimp only at h
        split at h
        · rename_i hp
          split at h
          · rename_i hc
            cases h
            exact jg_new (by simpa [jm_lok, jm_len] using hlk) hd hp hc hG
          · cases h
        · cases h
      case newarray t =>
        dsimp only at h
        split at h
        · rename_i hp
          split at h
          · rename_i hc
            cases h
            exact jg_newarray (by simpa [jm_lok, jm_len] using hlk) hd hp hc hG
          · cases h
        · cases h
      case anewarray k =>
        dsimp only at h
        split at h
        · rename_i hp
          split at h
          · rename_i hc
            cases h
            exact jg_anewarray (by simpa [jm_lok, jm_len] using hlk) hd hp hc hG
          · cases h
        · cases h
      case invokevirtual k =>
        dsimp only at h
        split at h
        · split at h
          · split at h
            · split at h <;> cases h
            · cases h
          · cases h
        · cases h
      case invokespecial k =>
        dsimp only at h
        split at h
        · split at h
          · split at h
            · split at h <;> cases h
            · cases h
          · cases h
        · rename_i hp
          split at h
          · split at h
            · rename_i hkd
              cases h
              exact jg_objinit (by simpa [jm_lok, jm_len] using hlk) hr hkd hd hp hG
            · cases h
          · cases h
        · cases h
      case invokestatic k =>
        dsimp only at h
        split at h
        · split at h
          · split at h <;> cases h
          · cases h
        · rename_i hp
          split at h
          · rename_i hc
            split at h
            · split at h
              · rename_i hs
                cases h
                exact jg_math (by simpa [jm_lok, jm_len] using hlk) hd hp hc hs (v := [_, _]) ⟨_, _, rfl, rfl⟩ hG
              · cases h
            · split at h
              · rename_i hs
                cases h
                exact jg_math (by simpa [jm_lok, jm_len] using hlk) hd hp hc hs (v := [_, _]) ⟨_, _, rfl, rfl⟩ hG
              · cases h
            · split at h
              · rename_i hs
                cases h
                exact jg_math (by simpa [jm_lok, jm_len] using hlk) hd hp hc hs (v := [_, _]) ⟨_, _, rfl, rfl⟩ hG
              · cases h
            · split at h
              · rename_i hs
                cases h
                exact jg_math (by simpa [jm_lok, jm_len] using hlk) hd hp hc hs (v := [_, _]) ⟨_, _, rfl, rfl⟩ hG
              · cases h
            · split at h
              · rename_i hs
                cases h
                exact jg_math (by simpa [jm_lok, jm_len] using hlk) hd hp hc hs (v := [_]) ⟨_, rfl, rfl⟩ hG
              · cases h
            · cases h
          · cases h
        · rename_i hp
          split at h
          · split at h
            · rename_i hc
              cases h
              exact jg_acopy (by simpa [jm_lok, jm_len] using hlk) hd hp hc hG
            · cases h
          · cases h
        · cases h
      case ireturn =>
        dsimp only at h
        split at h <;> first | (cases h; done) | (split at h <;> cases h)
      case lreturn =>
        dsimp only at h
        split at h <;> first | (cases h; done) | (split at h <;> cases h)
      case areturn =>
        dsimp only at h
        split at h <;> first | (cases h; done) | (split at h <;> cases h)
      case return_ =>
        dsimp only at h
        split at h <;> first | (cases h; done) | (split at h <;> cases h)
      all_goals exact absurd h (by simp)
set_option maxHeartbeats 4000000 in
set_option maxRecDepth 100000 in
theorem jm_ret_sound {y : Option Value × jm_S} (h : jm_nx r uc us pc lv st σ = some (.inl (.inr y))) : jm_G b sa D cs rn rf r y uc us pc lv st σ := by
  unfold jm_nx at h
  split at h
  · cases h
  · rename_i i len hd
    split at h
    · cases h
    · rename_i hlk
      have hlk : jm_lok i len = true := by simpa using hlk
      cases i
      case ireturn =>
        have hl : len = 1 := by simpa [jm_lok, jm_len] using hlk
        subst hl
        dsimp only at h
        split at h
        · rename_i hrt
          split at h
          · rename_i hc
            cases h
            intro p l e R s m args below meth c Q C H locs ls hR hS hL
            exact C.2.2.2.2.2.2.2.2.2.2.2.2 H locs ls pc uc us hc.1 hc.2 hR hS ⟨hd, Or.inl hrt⟩
          · cases h
        · rename_i hrt
          split at h
          · rename_i hc
            cases h
            intro p l e R s m args below meth c Q C H locs ls hR hS hL
            exact C.2.2.2.2.2.2.2.2.2.2.2.2 H locs ls pc uc us hc.2.1 hc.2.2 hR hS ⟨hd, Or.inr ⟨hrt, hc.1⟩⟩
          · cases h
        · cases h
      case lreturn =>
        have hl : len = 1 := by simpa [jm_lok, jm_len] using hlk
        subst hl
        dsimp only at h
        split at h
        · rename_i hrt
          split at h
          · rename_i hc
            cases h
            intro p l e R s m args below meth c Q C H locs ls hR hS hL
            exact C.2.2.2.2.2.2.2.2.2.2.2.2 H locs ls pc uc us hc.1 hc.2 hR hS ⟨hd, hrt⟩
          · cases h
        · cases h
      case areturn =>
        have hl : len = 1 := by simpa [jm_lok, jm_len] using hlk
        subst hl
        dsimp only at h
        split at h
        · rename_i hrt
          split at h
          · rename_i hc
            cases h
            intro p l e R s m args below meth c Q C H locs ls hR hS hL
            exact C.2.2.2.2.2.2.2.2.2.2.2.2 H locs ls pc uc us hc.1 hc.2 hR hS ⟨hd, Or.inl ⟨_, hrt⟩⟩
          · cases h
        · rename_i hrt
          split at h
          · rename_i hc
            cases h
            intro p l e R s m args below meth c Q C H locs ls hR hS hL
            exact C.2.2.2.2.2.2.2.2.2.2.2.2 H locs ls pc uc us hc.1 hc.2 hR hS ⟨hd, Or.inr ⟨_, hrt⟩⟩
          · cases h
        · cases h
      case return_ =>
        have hl : len = 1 := by simpa [jm_lok, jm_len] using hlk
        subst hl
        dsimp only at h
        split at h
        · rename_i hrt
          split at h
          · rename_i hc
            cases h
            intro p l e R s m args below meth c Q C H locs ls hR hS hL
            exact C.2.2.2.2.2.2.2.2.2.2.2.2 H locs ls pc uc us hc.1 hc.2 hR hS ⟨hd, hrt⟩
          · cases h
        · cases h
      all_goals (revert h; dsimp only; (repeat' split) <;> (intro h; cases h))
set_option maxHeartbeats 4000000 in
set_option maxRecDepth 100000 in
theorem jm_call_sound {c : jm_Row × List Value × List Value} (h : jm_nx r uc us pc lv st σ = some (.inr c)) : c.1 ∈ jm_rows ∧ ∀ y : Option Value × jm_S, jm_G b sa D cs rn rf c.1 y 0 0 0 (jm_ini c.2.1 (jr_ml c.1)) [] σ → jm_G b sa D cs rn rf r x (uc + jr_mc c.1) (us + jr_ms c.1) (pc + 3) lv (y.1.toList ++ c.2.2) y.2 → jm_G b sa D cs rn rf r x uc us pc lv st σ := by
  unfold jm_nx at h
  split at h
  · cases h
  · rename_i i len hd
    split at h
    · cases h
    · rename_i hlk
      have hlk : jm_lok i len = true := by simpa using hlk
      cases i
      case invokevirtual k =>
        dsimp only at h
        split at h
        · rename_i hp
          split at h
          · rename_i q hq
            split at h
            · rename_i b1 s1 hs
              split at h
              · rename_i hc
                cases h
                refine ⟨List.mem_of_getElem? hq, fun y h1 h2 => ?_⟩
                have hst : st = ((st.take (jr_ar q)).reverse).reverse ++ .ref b1 :: s1 := by rw [List.reverse_reverse, ← hs, List.take_append_drop]
                rw [hst]
                exact jg_callV (by simpa [jm_lok, jm_len] using hlk) hd hp hq hc.1 (by simp; exact Nat.min_eq_left hc.2.1) hc.2.2.1 hc.2.2.2.1 hc.2.2.2.2 h1 h2
              · cases h
            · cases h
          · cases h
        · cases h
      case invokespecial k =>
        dsimp only at h
        split at h
        · rename_i hp
          split at h
          · rename_i q hq
            split at h
            · rename_i b1 s1 hs
              split at h
              · rename_i hc
                cases h
                refine ⟨List.mem_of_getElem? hq, fun y h1 h2 => ?_⟩
                have hst : st = ((st.take (jr_ar q)).reverse).reverse ++ .ref b1 :: s1 := by rw [List.reverse_reverse, ← hs, List.take_append_drop]
                rw [hst]
                exact jg_callI (by simpa [jm_lok, jm_len] using hlk) hd hp hq hc.1 (by simp; exact Nat.min_eq_left hc.2.1) hc.2.2 h1 h2
              · cases h
            · cases h
          · cases h
        · split at h
          · split at h <;> cases h
          · cases h
        · cases h
      case invokestatic k =>
        dsimp only at h
        split at h
        · rename_i hp
          split at h
          · rename_i q hq
            split at h
            · rename_i hc
              cases h
              refine ⟨List.mem_of_getElem? hq, fun y h1 h2 => ?_⟩
              have hst : st = ((st.take (jr_ar q)).reverse).reverse ++ st.drop (jr_ar q) := by rw [List.reverse_reverse, List.take_append_drop]
              rw [hst]
              exact jg_callS (by simpa [jm_lok, jm_len] using hlk) hd hp hq hc.1 (by simp; exact Nat.min_eq_left hc.2.1) hc.2.2 h1 h2
            · cases h
          · cases h
        · split at h
          · split at h
            all_goals first | (cases h; done) | (split at h <;> cases h)
          · cases h
        · split at h
          · split at h <;> cases h
          · cases h
        · cases h
      all_goals (revert h; dsimp only; (repeat' split) <;> (intro h; cases h))
theorem jm_sound : ∀ (n : Nat) (r : jm_Row), r ∈ jm_rows → ∀ (uc us pc : Nat) (lv st : List Value) (σ : jm_S) (x : Option Value × jm_S), jm_go n r uc us pc lv st σ = some x → jm_G b sa D cs rn rf r x uc us pc lv st σ := by
  intro n
  induction n with
  | zero => intro r hr uc us pc lv st σ x h; cases h
  | succ n ih =>
    intro r hr uc us pc lv st σ x h
    rw [jm_go_succ] at h
    cases ho : jm_nx r uc us pc lv st σ with
    | none => rw [ho] at h; cases h
    | some o =>
      rw [ho] at h
      match o, ho, h with
      | .inl (.inl f), ho, h => exact jm_step_sound hr ho (ih r hr _ _ _ _ _ _ _ h)
      | .inl (.inr q), ho, h => cases h; exact jm_ret_sound ho
      | .inr c, ho, h =>
        dsimp only at h
        obtain ⟨hc, hk⟩ := jm_call_sound (b := b) (sa := sa) (D := D) (cs := cs) (rn := rn) (rf := rf) (x := x) ho
        cases h1 : jm_go n c.1 0 0 0 (jm_ini c.2.1 (jr_ml c.1)) [] σ with
        | none => rw [h1] at h; cases h
        | some y =>
          rw [h1] at h
          exact hk y (ih c.1 hc _ _ _ _ _ _ _ h1) (ih r hr _ _ _ _ _ _ _ h)
theorem jm_sound_D {r : jm_Row} (hr : r ∈ jm_rows) {uc us pc : Nat} {lv st : List Value} {σ : jm_S} {x : Option Value × jm_S} (h : jm_D r uc us pc lv st σ = some x) : jm_G b sa D cs rn rf r x uc us pc lv st σ := by
  obtain ⟨n, hn⟩ := jm_D_go h
  exact jm_sound n r hr _ _ _ _ _ _ _ hn
end JSOUND
