/-- what the tables say of a method -/
def jm_mok (r : jm_Row) : Prop := (r = rL_law ∨ Cond.code (jr_nm r) (jr_cd r) (jr_ml r) (jr_rt r) ∈ lw_good) ∧ plainName (jr_nm r).cls = true ∧ ((jr_nm r).cls ≠ "java/lang/invoke/MethodHandle" ∧ (jr_nm r).cls ≠ "java/lang/invoke/VarHandle") ∧ Cond.initialized (jr_nm r).cls ∈ lw_good ∧ (parseMethodDescriptor (jr_nm r).desc).map (fun d => d.parameters.length) = some (jr_ar r) ∧ (jr_nm r).cls = jm_cn (jr_ow r) ∧
  match jr_kd r with
  | 0 => Cond.instanceMethod (jr_nm r) ∈ lw_good ∧ Cond.selects (jr_nm r).cls (jr_nm r) (jr_nm r) ∈ lw_good ∧ jr_ow r < 11
  | 1 => r = rL_law ∨ Cond.static (jr_nm r) ∈ lw_good
  | _ => Cond.instanceMethod (jr_nm r) ∈ lw_good ∧ (jr_nm r).name = "<init>" ∧ jr_ow r < 11 ∧ jr_rt r = none ∧ 1 ≤ jr_fr r ∧ 12 ≤ jr_lo r
theorem jm_sels_eq : k2_sels lw_privs = lw_privs.map (fun q => Cond.selects q.1.cls q.1 q.1) := rfl
theorem mkL_law : jm_mok rL_law := ⟨Or.inl rfl, by decide +kernel, ⟨by decide, by decide⟩, (jm_gt (jm_t1 0 rfl) rfl), by decide +kernel, rfl, Or.inl rfl⟩
theorem mkX9_init : jm_mok rX9_init := ⟨Or.inr (jm_gt (jm_t1 19 rfl) rfl), by decide +kernel, ⟨by decide, by decide⟩, (jm_gt (jm_t1 1 rfl) rfl), by decide +kernel, rfl, ⟨jm_gt (jm_t1 18 rfl) rfl, rfl, by decide, rfl, by decide, by decide⟩⟩
theorem mkX8_init : jm_mok rX8_init := ⟨Or.inr (jm_gt (jm_t1 27 rfl) rfl), by decide +kernel, ⟨by decide, by decide⟩, (jm_gt (jm_t1 2 rfl) rfl), by decide +kernel, rfl, ⟨jm_gt (jm_t1 26 rfl) rfl, rfl, by decide, rfl, by decide, by decide⟩⟩
theorem mkX2_init : jm_mok rX2_init := ⟨Or.inr (jm_gt (jm_t1 34 rfl) rfl), by decide +kernel, ⟨by decide, by decide⟩, (jm_gt (jm_t1 3 rfl) rfl), by decide +kernel, rfl, ⟨jm_gt (jm_t1 33 rfl) rfl, rfl, by decide, rfl, by decide, by decide⟩⟩
theorem mkX6_init : jm_mok rX6_init := ⟨Or.inr (jm_gt (jm_t1 80 rfl) rfl), by decide +kernel, ⟨by decide, by decide⟩, (jm_gt (jm_t1 4 rfl) rfl), by decide +kernel, rfl, ⟨jm_gt (jm_t1 79 rfl) rfl, rfl, by decide, rfl, by decide, by decide⟩⟩
theorem mkX3_init : jm_mok rX3_init := ⟨Or.inr (jm_gt (jm_t1 103 rfl) rfl), by decide +kernel, ⟨by decide, by decide⟩, (jm_gt (jm_t1 5 rfl) rfl), by decide +kernel, rfl, ⟨jm_gt (jm_t1 102 rfl) rfl, rfl, by decide, rfl, by decide, by decide⟩⟩
theorem mkX4_init : jm_mok rX4_init := ⟨Or.inr (jm_gt (jm_t1 151 rfl) rfl), by decide +kernel, ⟨by decide, by decide⟩, (jm_gt (jm_t1 6 rfl) rfl), by decide +kernel, rfl, ⟨jm_gt (jm_t1 150 rfl) rfl, rfl, by decide, rfl, by decide, by decide⟩⟩
theorem mkX5_init : jm_mok rX5_init := ⟨Or.inr (jm_gt (jm_t1 202 rfl) rfl), by decide +kernel, ⟨by decide, by decide⟩, (jm_gt (jm_t1 7 rfl) rfl), by decide +kernel, rfl, ⟨jm_gt (jm_t1 201 rfl) rfl, rfl, by decide, rfl, by decide, by decide⟩⟩
theorem mkX1_init : jm_mok rX1_init := ⟨Or.inr (jm_gt (jm_t1 224 rfl) rfl), by decide +kernel, ⟨by decide, by decide⟩, (jm_gt (jm_t1 8 rfl) rfl), by decide +kernel, rfl, ⟨jm_gt (jm_t1 223 rfl) rfl, rfl, by decide, rfl, by decide, by decide⟩⟩
theorem mkX0_init : jm_mok rX0_init := ⟨Or.inr (jm_gt (jm_t1 231 rfl) rfl), by decide +kernel, ⟨by decide, by decide⟩, (jm_gt (jm_t1 9 rfl) rfl), by decide +kernel, rfl, ⟨jm_gt (jm_t1 230 rfl) rfl, rfl, by decide, rfl, by decide, by decide⟩⟩
theorem mkX7_init : jm_mok rX7_init := ⟨Or.inr (jm_gt (jm_t2 33 rfl) rfl), by decide +kernel, ⟨by decide, by decide⟩, (jm_gt (jm_t1 10 rfl) rfl), by decide +kernel, rfl, ⟨jm_gt (jm_t2 32 rfl) rfl, rfl, by decide, rfl, by decide, by decide⟩⟩
theorem mkX9_moon : jm_mok rX9_moon := ⟨Or.inr (jm_gt (jm_t2 82 rfl) rfl), by decide +kernel, ⟨by decide, by decide⟩, (jm_gt (jm_t1 1 rfl) rfl), by decide +kernel, rfl, ⟨jm_gt (jm_t2 80 rfl) rfl, (jm_gt (jm_t2 81 rfl) rfl), by decide⟩⟩
theorem mkX9_isWithin : jm_mok rX9_isWithin := ⟨Or.inr (jm_gt (jm_t2 85 rfl) rfl), by decide +kernel, ⟨by decide, by decide⟩, (jm_gt (jm_t1 1 rfl) rfl), by decide +kernel, rfl, Or.inr (jm_gt (jm_t2 84 rfl) rfl)⟩
theorem mkX9_outside : jm_mok rX9_outside := ⟨Or.inr (jm_gt (jm_t2 89 rfl) rfl), by decide +kernel, ⟨by decide, by decide⟩, (jm_gt (jm_t1 1 rfl) rfl), by decide +kernel, rfl, Or.inr (jm_gt (jm_t2 88 rfl) rfl)⟩
theorem mkX9_then : jm_mok rX9_then := ⟨Or.inr (jm_gt (jm_t2 92 rfl) rfl), by decide +kernel, ⟨by decide, by decide⟩, (jm_gt (jm_t1 1 rfl) rfl), by decide +kernel, rfl, Or.inr (jm_gt (jm_t2 91 rfl) rfl)⟩
theorem mkX9_refuse : jm_mok rX9_refuse := ⟨Or.inr (jm_gt (jm_t2 96 rfl) rfl), by decide +kernel, ⟨by decide, by decide⟩, (jm_gt (jm_t1 1 rfl) rfl), by decide +kernel, rfl, ⟨jm_gt (jm_t2 95 rfl) rfl, (jm_g0 (List.mem_of_getElem? (i := 0) rfl) rfl jm_sels_eq), by decide⟩⟩
theorem mkX2_tell : jm_mok rX2_tell := ⟨Or.inr (jm_gt (jm_t2 100 rfl) rfl), by decide +kernel, ⟨by decide, by decide⟩, (jm_gt (jm_t1 3 rfl) rfl), by decide +kernel, rfl, ⟨jm_gt (jm_t2 98 rfl) rfl, (jm_gt (jm_t2 99 rfl) rfl), by decide⟩⟩
theorem mkX9_pull : jm_mok rX9_pull := ⟨Or.inr (jm_gt (jm_t2 104 rfl) rfl), by decide +kernel, ⟨by decide, by decide⟩, (jm_gt (jm_t1 1 rfl) rfl), by decide +kernel, rfl, ⟨jm_gt (jm_t2 102 rfl) rfl, (jm_gt (jm_t2 103 rfl) rfl), by decide⟩⟩
theorem mkX9_noMoon : jm_mok rX9_noMoon := ⟨Or.inr (jm_gt (jm_t2 108 rfl) rfl), by decide +kernel, ⟨by decide, by decide⟩, (jm_gt (jm_t1 1 rfl) rfl), by decide +kernel, rfl, ⟨jm_gt (jm_t2 107 rfl) rfl, (jm_g0 (List.mem_of_getElem? (i := 1) rfl) rfl jm_sels_eq), by decide⟩⟩
theorem mkX9_set : jm_mok rX9_set := ⟨Or.inr (jm_gt (jm_t2 112 rfl) rfl), by decide +kernel, ⟨by decide, by decide⟩, (jm_gt (jm_t1 1 rfl) rfl), by decide +kernel, rfl, ⟨jm_gt (jm_t2 110 rfl) rfl, (jm_gt (jm_t2 111 rfl) rfl), by decide⟩⟩
theorem mkX9_fading : jm_mok rX9_fading := ⟨Or.inr (jm_gt (jm_t2 120 rfl) rfl), by decide +kernel, ⟨by decide, by decide⟩, (jm_gt (jm_t1 1 rfl) rfl), by decide +kernel, rfl, ⟨jm_gt (jm_t2 118 rfl) rfl, (jm_gt (jm_t2 119 rfl) rfl), by decide⟩⟩
theorem mkX9_refuseLong : jm_mok rX9_refuseLong := ⟨Or.inr (jm_gt (jm_t2 124 rfl) rfl), by decide +kernel, ⟨by decide, by decide⟩, (jm_gt (jm_t1 1 rfl) rfl), by decide +kernel, rfl, ⟨jm_gt (jm_t2 123 rfl) rfl, (jm_g0 (List.mem_of_getElem? (i := 2) rfl) rfl jm_sels_eq), by decide⟩⟩
theorem mkX8_seenAt : jm_mok rX8_seenAt := ⟨Or.inr (jm_gt (jm_t2 129 rfl) rfl), by decide +kernel, ⟨by decide, by decide⟩, (jm_gt (jm_t1 2 rfl) rfl), by decide +kernel, rfl, ⟨jm_gt (jm_t2 127 rfl) rfl, (jm_gt (jm_t2 128 rfl) rfl), by decide⟩⟩
theorem mkX8_fadesAt : jm_mok rX8_fadesAt := ⟨Or.inr (jm_gt (jm_t2 133 rfl) rfl), by decide +kernel, ⟨by decide, by decide⟩, (jm_gt (jm_t1 2 rfl) rfl), by decide +kernel, rfl, ⟨jm_gt (jm_t2 131 rfl) rfl, (jm_gt (jm_t2 132 rfl) rfl), by decide⟩⟩
theorem mkX9_waveOf : jm_mok rX9_waveOf := ⟨Or.inr (jm_gt (jm_t2 136 rfl) rfl), by decide +kernel, ⟨by decide, by decide⟩, (jm_gt (jm_t1 1 rfl) rfl), by decide +kernel, rfl, Or.inr (jm_gt (jm_t2 135 rfl) rfl)⟩
theorem mkX8_farOf : jm_mok rX8_farOf := ⟨Or.inr (jm_gt (jm_t2 142 rfl) rfl), by decide +kernel, ⟨by decide, by decide⟩, (jm_gt (jm_t1 2 rfl) rfl), by decide +kernel, rfl, ⟨jm_gt (jm_t2 140 rfl) rfl, (jm_gt (jm_t2 141 rfl) rfl), by decide⟩⟩
theorem mkX9_far : jm_mok rX9_far := ⟨Or.inr (jm_gt (jm_t2 155 rfl) rfl), by decide +kernel, ⟨by decide, by decide⟩, (jm_gt (jm_t1 1 rfl) rfl), by decide +kernel, rfl, ⟨jm_gt (jm_t2 153 rfl) rfl, (jm_gt (jm_t2 154 rfl) rfl), by decide⟩⟩
theorem mkX9_tool : jm_mok rX9_tool := ⟨Or.inr (jm_gt (jm_t2 161 rfl) rfl), by decide +kernel, ⟨by decide, by decide⟩, (jm_gt (jm_t1 1 rfl) rfl), by decide +kernel, rfl, ⟨jm_gt (jm_t2 159 rfl) rfl, (jm_gt (jm_t2 160 rfl) rfl), by decide⟩⟩
theorem mkX6_rowOf : jm_mok rX6_rowOf := ⟨Or.inr (jm_gt (jm_t2 171 rfl) rfl), by decide +kernel, ⟨by decide, by decide⟩, (jm_gt (jm_t1 4 rfl) rfl), by decide +kernel, rfl, ⟨jm_gt (jm_t2 169 rfl) rfl, (jm_gt (jm_t2 170 rfl) rfl), by decide⟩⟩
theorem mkX9_sight : jm_mok rX9_sight := ⟨Or.inr (jm_gt (jm_t2 175 rfl) rfl), by decide +kernel, ⟨by decide, by decide⟩, (jm_gt (jm_t1 1 rfl) rfl), by decide +kernel, rfl, ⟨jm_gt (jm_t2 173 rfl) rfl, (jm_gt (jm_t2 174 rfl) rfl), by decide⟩⟩
theorem mkX3_add : jm_mok rX3_add := ⟨Or.inr (jm_gt (jm_t2 179 rfl) rfl), by decide +kernel, ⟨by decide, by decide⟩, (jm_gt (jm_t1 5 rfl) rfl), by decide +kernel, rfl, ⟨jm_gt (jm_t2 177 rfl) rfl, (jm_gt (jm_t2 178 rfl) rfl), by decide⟩⟩
theorem mkX9_right : jm_mok rX9_right := ⟨Or.inr (jm_gt (jm_t2 183 rfl) rfl), by decide +kernel, ⟨by decide, by decide⟩, (jm_gt (jm_t1 1 rfl) rfl), by decide +kernel, rfl, ⟨jm_gt (jm_t2 181 rfl) rfl, (jm_gt (jm_t2 182 rfl) rfl), by decide⟩⟩
theorem mkX9_noSight : jm_mok rX9_noSight := ⟨Or.inr (jm_gt (jm_t2 187 rfl) rfl), by decide +kernel, ⟨by decide, by decide⟩, (jm_gt (jm_t1 1 rfl) rfl), by decide +kernel, rfl, ⟨jm_gt (jm_t2 186 rfl) rfl, (jm_g0 (List.mem_of_getElem? (i := 3) rfl) rfl jm_sels_eq), by decide⟩⟩
theorem mkX9_cloudedSight : jm_mok rX9_cloudedSight := ⟨Or.inr (jm_gt (jm_t2 191 rfl) rfl), by decide +kernel, ⟨by decide, by decide⟩, (jm_gt (jm_t1 1 rfl) rfl), by decide +kernel, rfl, ⟨jm_gt (jm_t2 190 rfl) rfl, (jm_g0 (List.mem_of_getElem? (i := 4) rfl) rfl jm_sels_eq), by decide⟩⟩
theorem mkX8_putRight : jm_mok rX8_putRight := ⟨Or.inr (jm_gt (jm_t2 195 rfl) rfl), by decide +kernel, ⟨by decide, by decide⟩, (jm_gt (jm_t1 2 rfl) rfl), by decide +kernel, rfl, ⟨jm_gt (jm_t2 193 rfl) rfl, (jm_gt (jm_t2 194 rfl) rfl), by decide⟩⟩
theorem mkX8_leanOf : jm_mok rX8_leanOf := ⟨Or.inr (jm_gt (jm_t2 199 rfl) rfl), by decide +kernel, ⟨by decide, by decide⟩, (jm_gt (jm_t1 2 rfl) rfl), by decide +kernel, rfl, ⟨jm_gt (jm_t2 198 rfl) rfl, (jm_g0 (List.mem_of_getElem? (i := 5) rfl) rfl jm_sels_eq), by decide⟩⟩
theorem mkX8_offsetOf : jm_mok rX8_offsetOf := ⟨Or.inr (jm_gt (jm_t2 203 rfl) rfl), by decide +kernel, ⟨by decide, by decide⟩, (jm_gt (jm_t1 2 rfl) rfl), by decide +kernel, rfl, ⟨jm_gt (jm_t2 202 rfl) rfl, (jm_g0 (List.mem_of_getElem? (i := 6) rfl) rfl jm_sels_eq), by decide⟩⟩
theorem mkX8_kindOf : jm_mok rX8_kindOf := ⟨Or.inr (jm_gt (jm_t2 207 rfl) rfl), by decide +kernel, ⟨by decide, by decide⟩, (jm_gt (jm_t1 2 rfl) rfl), by decide +kernel, rfl, ⟨jm_gt (jm_t2 206 rfl) rfl, (jm_g0 (List.mem_of_getElem? (i := 7) rfl) rfl jm_sels_eq), by decide⟩⟩
theorem mkX9_put : jm_mok rX9_put := ⟨Or.inr (jm_gt (jm_t2 214 rfl) rfl), by decide +kernel, ⟨by decide, by decide⟩, (jm_gt (jm_t1 1 rfl) rfl), by decide +kernel, rfl, ⟨jm_gt (jm_t2 212 rfl) rfl, (jm_gt (jm_t2 213 rfl) rfl), by decide⟩⟩
theorem mkX9_read : jm_mok rX9_read := ⟨Or.inr (jm_gt (jm_t2 218 rfl) rfl), by decide +kernel, ⟨by decide, by decide⟩, (jm_gt (jm_t1 1 rfl) rfl), by decide +kernel, rfl, ⟨jm_gt (jm_t2 216 rfl) rfl, (jm_gt (jm_t2 217 rfl) rfl), by decide⟩⟩
theorem mkX9_isRowAsTold : jm_mok rX9_isRowAsTold := ⟨Or.inr (jm_gt (jm_t2 222 rfl) rfl), by decide +kernel, ⟨by decide, by decide⟩, (jm_gt (jm_t1 1 rfl) rfl), by decide +kernel, rfl, ⟨jm_gt (jm_t2 221 rfl) rfl, (jm_g0 (List.mem_of_getElem? (i := 8) rfl) rfl jm_sels_eq), by decide⟩⟩
theorem mkX9_takeBack : jm_mok rX9_takeBack := ⟨Or.inr (jm_gt (jm_t2 229 rfl) rfl), by decide +kernel, ⟨by decide, by decide⟩, (jm_gt (jm_t1 1 rfl) rfl), by decide +kernel, rfl, ⟨jm_gt (jm_t2 227 rfl) rfl, (jm_gt (jm_t2 228 rfl) rfl), by decide⟩⟩
theorem mkX3_sentOf : jm_mok rX3_sentOf := ⟨Or.inr (jm_gt (jm_t2 233 rfl) rfl), by decide +kernel, ⟨by decide, by decide⟩, (jm_gt (jm_t1 5 rfl) rfl), by decide +kernel, rfl, ⟨jm_gt (jm_t2 231 rfl) rfl, (jm_gt (jm_t2 232 rfl) rfl), by decide⟩⟩
theorem mkX9_feed : jm_mok rX9_feed := ⟨Or.inr (jm_gt (jm_t2 237 rfl) rfl), by decide +kernel, ⟨by decide, by decide⟩, (jm_gt (jm_t1 1 rfl) rfl), by decide +kernel, rfl, ⟨jm_gt (jm_t2 235 rfl) rfl, (jm_gt (jm_t2 236 rfl) rfl), by decide⟩⟩
theorem mkX5_add : jm_mok rX5_add := ⟨Or.inr (jm_gt (jm_t3 1 rfl) rfl), by decide +kernel, ⟨by decide, by decide⟩, (jm_gt (jm_t1 7 rfl) rfl), by decide +kernel, rfl, ⟨jm_gt (jm_t2 239 rfl) rfl, (jm_gt (jm_t3 0 rfl) rfl), by decide⟩⟩
theorem mkX9_table : jm_mok rX9_table := ⟨Or.inr (jm_gt (jm_t3 5 rfl) rfl), by decide +kernel, ⟨by decide, by decide⟩, (jm_gt (jm_t1 1 rfl) rfl), by decide +kernel, rfl, ⟨jm_gt (jm_t3 3 rfl) rfl, (jm_gt (jm_t3 4 rfl) rfl), by decide⟩⟩
theorem mkX5_faultPlace : jm_mok rX5_faultPlace := ⟨Or.inr (jm_gt (jm_t3 9 rfl) rfl), by decide +kernel, ⟨by decide, by decide⟩, (jm_gt (jm_t1 7 rfl) rfl), by decide +kernel, rfl, ⟨jm_gt (jm_t3 7 rfl) rfl, (jm_gt (jm_t3 8 rfl) rfl), by decide⟩⟩
theorem mkX5_readTerm : jm_mok rX5_readTerm := ⟨Or.inr (jm_gt (jm_t3 13 rfl) rfl), by decide +kernel, ⟨by decide, by decide⟩, (jm_gt (jm_t1 7 rfl) rfl), by decide +kernel, rfl, ⟨jm_gt (jm_t3 12 rfl) rfl, (jm_g0 (List.mem_of_getElem? (i := 9) rfl) rfl jm_sels_eq), by decide⟩⟩
theorem mkX5_termAt : jm_mok rX5_termAt := ⟨Or.inr (jm_gt (jm_t3 17 rfl) rfl), by decide +kernel, ⟨by decide, by decide⟩, (jm_gt (jm_t1 7 rfl) rfl), by decide +kernel, rfl, ⟨jm_gt (jm_t3 16 rfl) rfl, (jm_g0 (List.mem_of_getElem? (i := 10) rfl) rfl jm_sels_eq), by decide⟩⟩
theorem mkX4_add : jm_mok rX4_add := ⟨Or.inr (jm_gt (jm_t3 22 rfl) rfl), by decide +kernel, ⟨by decide, by decide⟩, (jm_gt (jm_t1 6 rfl) rfl), by decide +kernel, rfl, ⟨jm_gt (jm_t3 20 rfl) rfl, (jm_gt (jm_t3 21 rfl) rfl), by decide⟩⟩
theorem mkX9_guess : jm_mok rX9_guess := ⟨Or.inr (jm_gt (jm_t3 26 rfl) rfl), by decide +kernel, ⟨by decide, by decide⟩, (jm_gt (jm_t1 1 rfl) rfl), by decide +kernel, rfl, ⟨jm_gt (jm_t3 24 rfl) rfl, (jm_gt (jm_t3 25 rfl) rfl), by decide⟩⟩
theorem mkX9_says : jm_mok rX9_says := ⟨Or.inr (jm_gt (jm_t3 30 rfl) rfl), by decide +kernel, ⟨by decide, by decide⟩, (jm_gt (jm_t1 1 rfl) rfl), by decide +kernel, rfl, ⟨jm_gt (jm_t3 28 rfl) rfl, (jm_gt (jm_t3 29 rfl) rfl), by decide⟩⟩
theorem mkX9_noTable : jm_mok rX9_noTable := ⟨Or.inr (jm_gt (jm_t3 34 rfl) rfl), by decide +kernel, ⟨by decide, by decide⟩, (jm_gt (jm_t1 1 rfl) rfl), by decide +kernel, rfl, ⟨jm_gt (jm_t3 33 rfl) rfl, (jm_g0 (List.mem_of_getElem? (i := 11) rfl) rfl jm_sels_eq), by decide⟩⟩
theorem mkX8_said : jm_mok rX8_said := ⟨Or.inr (jm_gt (jm_t3 40 rfl) rfl), by decide +kernel, ⟨by decide, by decide⟩, (jm_gt (jm_t1 2 rfl) rfl), by decide +kernel, rfl, ⟨jm_gt (jm_t3 38 rfl) rfl, (jm_gt (jm_t3 39 rfl) rfl), by decide⟩⟩
theorem mkX8_guessedAt : jm_mok rX8_guessedAt := ⟨Or.inr (jm_gt (jm_t3 44 rfl) rfl), by decide +kernel, ⟨by decide, by decide⟩, (jm_gt (jm_t1 2 rfl) rfl), by decide +kernel, rfl, ⟨jm_gt (jm_t3 42 rfl) rfl, (jm_gt (jm_t3 43 rfl) rfl), by decide⟩⟩
theorem mkX4_termOf : jm_mok rX4_termOf := ⟨Or.inr (jm_gt (jm_t3 48 rfl) rfl), by decide +kernel, ⟨by decide, by decide⟩, (jm_gt (jm_t1 6 rfl) rfl), by decide +kernel, rfl, ⟨jm_gt (jm_t3 46 rfl) rfl, (jm_gt (jm_t3 47 rfl) rfl), by decide⟩⟩
theorem mkX8_share : jm_mok rX8_share := ⟨Or.inr (jm_gt (jm_t3 52 rfl) rfl), by decide +kernel, ⟨by decide, by decide⟩, (jm_gt (jm_t1 2 rfl) rfl), by decide +kernel, rfl, ⟨jm_gt (jm_t3 50 rfl) rfl, (jm_gt (jm_t3 51 rfl) rfl), by decide⟩⟩
theorem mkX9_fit : jm_mok rX9_fit := ⟨Or.inr (jm_gt (jm_t3 56 rfl) rfl), by decide +kernel, ⟨by decide, by decide⟩, (jm_gt (jm_t1 1 rfl) rfl), by decide +kernel, rfl, ⟨jm_gt (jm_t3 54 rfl) rfl, (jm_gt (jm_t3 55 rfl) rfl), by decide⟩⟩
theorem mkX9_wrongSet : jm_mok rX9_wrongSet := ⟨Or.inr (jm_gt (jm_t3 60 rfl) rfl), by decide +kernel, ⟨by decide, by decide⟩, (jm_gt (jm_t1 1 rfl) rfl), by decide +kernel, rfl, ⟨jm_gt (jm_t3 59 rfl) rfl, (jm_g0 (List.mem_of_getElem? (i := 12) rfl) rfl jm_sels_eq), by decide⟩⟩
theorem mkX9_allSights : jm_mok rX9_allSights := ⟨Or.inr (jm_gt (jm_t3 64 rfl) rfl), by decide +kernel, ⟨by decide, by decide⟩, (jm_gt (jm_t1 1 rfl) rfl), by decide +kernel, rfl, ⟨jm_gt (jm_t3 63 rfl) rfl, (jm_g0 (List.mem_of_getElem? (i := 13) rfl) rfl jm_sels_eq), by decide⟩⟩
theorem mkX1_fitted : jm_mok rX1_fitted := ⟨Or.inr (jm_gt (jm_t3 68 rfl) rfl), by decide +kernel, ⟨by decide, by decide⟩, (jm_gt (jm_t1 8 rfl) rfl), by decide +kernel, rfl, ⟨jm_gt (jm_t3 66 rfl) rfl, (jm_gt (jm_t3 67 rfl) rfl), by decide⟩⟩
theorem mkX0_start : jm_mok rX0_start := ⟨Or.inr (jm_gt (jm_t3 72 rfl) rfl), by decide +kernel, ⟨by decide, by decide⟩, (jm_gt (jm_t1 9 rfl) rfl), by decide +kernel, rfl, ⟨jm_gt (jm_t3 70 rfl) rfl, (jm_gt (jm_t3 71 rfl) rfl), by decide⟩⟩
theorem mkX0_addSet : jm_mok rX0_addSet := ⟨Or.inr (jm_gt (jm_t3 78 rfl) rfl), by decide +kernel, ⟨by decide, by decide⟩, (jm_gt (jm_t1 9 rfl) rfl), by decide +kernel, rfl, ⟨jm_gt (jm_t3 76 rfl) rfl, (jm_gt (jm_t3 77 rfl) rfl), by decide⟩⟩
theorem mkX3_isIn : jm_mok rX3_isIn := ⟨Or.inr (jm_gt (jm_t3 82 rfl) rfl), by decide +kernel, ⟨by decide, by decide⟩, (jm_gt (jm_t1 5 rfl) rfl), by decide +kernel, rfl, ⟨jm_gt (jm_t3 80 rfl) rfl, (jm_gt (jm_t3 81 rfl) rfl), by decide⟩⟩
theorem mkX0_addSight : jm_mok rX0_addSight := ⟨Or.inr (jm_gt (jm_t3 86 rfl) rfl), by decide +kernel, ⟨by decide, by decide⟩, (jm_gt (jm_t1 9 rfl) rfl), by decide +kernel, rfl, ⟨jm_gt (jm_t3 84 rfl) rfl, (jm_gt (jm_t3 85 rfl) rfl), by decide⟩⟩
theorem mkX0_spread : jm_mok rX0_spread := ⟨Or.inr (jm_gt (jm_t3 90 rfl) rfl), by decide +kernel, ⟨by decide, by decide⟩, (jm_gt (jm_t1 9 rfl) rfl), by decide +kernel, rfl, ⟨jm_gt (jm_t3 89 rfl) rfl, (jm_g0 (List.mem_of_getElem? (i := 14) rfl) rfl jm_sels_eq), by decide⟩⟩
theorem mkX0_widen : jm_mok rX0_widen := ⟨Or.inr (jm_gt (jm_t3 98 rfl) rfl), by decide +kernel, ⟨by decide, by decide⟩, (jm_gt (jm_t1 9 rfl) rfl), by decide +kernel, rfl, ⟨jm_gt (jm_t3 97 rfl) rfl, (jm_g0 (List.mem_of_getElem? (i := 15) rfl) rfl jm_sels_eq), by decide⟩⟩
theorem mkX0_fitNumbers : jm_mok rX0_fitNumbers := ⟨Or.inr (jm_gt (jm_t3 105 rfl) rfl), by decide +kernel, ⟨by decide, by decide⟩, (jm_gt (jm_t1 9 rfl) rfl), by decide +kernel, rfl, ⟨jm_gt (jm_t3 103 rfl) rfl, (jm_gt (jm_t3 104 rfl) rfl), by decide⟩⟩
theorem mkX0_fitTry : jm_mok rX0_fitTry := ⟨Or.inr (jm_gt (jm_t3 109 rfl) rfl), by decide +kernel, ⟨by decide, by decide⟩, (jm_gt (jm_t1 9 rfl) rfl), by decide +kernel, rfl, ⟨jm_gt (jm_t3 108 rfl) rfl, (jm_g0 (List.mem_of_getElem? (i := 16) rfl) rfl jm_sels_eq), by decide⟩⟩
theorem mkX0_digitOf : jm_mok rX0_digitOf := ⟨Or.inr (jm_gt (jm_t3 113 rfl) rfl), by decide +kernel, ⟨by decide, by decide⟩, (jm_gt (jm_t1 9 rfl) rfl), by decide +kernel, rfl, ⟨jm_gt (jm_t3 112 rfl) rfl, (jm_g0 (List.mem_of_getElem? (i := 17) rfl) rfl jm_sels_eq), by decide⟩⟩
theorem mkX0_score : jm_mok rX0_score := ⟨Or.inr (jm_gt (jm_t3 117 rfl) rfl), by decide +kernel, ⟨by decide, by decide⟩, (jm_gt (jm_t1 9 rfl) rfl), by decide +kernel, rfl, ⟨jm_gt (jm_t3 115 rfl) rfl, (jm_gt (jm_t3 116 rfl) rfl), by decide⟩⟩
theorem mkX0_leastSum : jm_mok rX0_leastSum := ⟨Or.inr (jm_gt (jm_t3 121 rfl) rfl), by decide +kernel, ⟨by decide, by decide⟩, (jm_gt (jm_t1 9 rfl) rfl), by decide +kernel, rfl, ⟨jm_gt (jm_t3 119 rfl) rfl, (jm_gt (jm_t3 120 rfl) rfl), by decide⟩⟩
theorem mkX0_price : jm_mok rX0_price := ⟨Or.inr (jm_gt (jm_t3 125 rfl) rfl), by decide +kernel, ⟨by decide, by decide⟩, (jm_gt (jm_t1 9 rfl) rfl), by decide +kernel, rfl, ⟨jm_gt (jm_t3 124 rfl) rfl, (jm_g0 (List.mem_of_getElem? (i := 18) rfl) rfl jm_sels_eq), by decide⟩⟩
theorem mkX9_left : jm_mok rX9_left := ⟨Or.inr (jm_gt (jm_t3 130 rfl) rfl), by decide +kernel, ⟨by decide, by decide⟩, (jm_gt (jm_t1 1 rfl) rfl), by decide +kernel, rfl, ⟨jm_gt (jm_t3 128 rfl) rfl, (jm_gt (jm_t3 129 rfl) rfl), by decide⟩⟩
theorem mkX8_leftOf : jm_mok rX8_leftOf := ⟨Or.inr (jm_gt (jm_t3 134 rfl) rfl), by decide +kernel, ⟨by decide, by decide⟩, (jm_gt (jm_t1 2 rfl) rfl), by decide +kernel, rfl, ⟨jm_gt (jm_t3 132 rfl) rfl, (jm_gt (jm_t3 133 rfl) rfl), by decide⟩⟩
theorem mkX9_season : jm_mok rX9_season := ⟨Or.inr (jm_gt (jm_t3 140 rfl) rfl), by decide +kernel, ⟨by decide, by decide⟩, (jm_gt (jm_t1 1 rfl) rfl), by decide +kernel, rfl, ⟨jm_gt (jm_t3 138 rfl) rfl, (jm_gt (jm_t3 139 rfl) rfl), by decide⟩⟩
theorem mkX8_seasonOf : jm_mok rX8_seasonOf := ⟨Or.inr (jm_gt (jm_t3 144 rfl) rfl), by decide +kernel, ⟨by decide, by decide⟩, (jm_gt (jm_t1 2 rfl) rfl), by decide +kernel, rfl, ⟨jm_gt (jm_t3 142 rfl) rfl, (jm_gt (jm_t3 143 rfl) rfl), by decide⟩⟩
theorem mkX9_worth : jm_mok rX9_worth := ⟨Or.inr (jm_gt (jm_t3 150 rfl) rfl), by decide +kernel, ⟨by decide, by decide⟩, (jm_gt (jm_t1 1 rfl) rfl), by decide +kernel, rfl, ⟨jm_gt (jm_t3 148 rfl) rfl, (jm_gt (jm_t3 149 rfl) rfl), by decide⟩⟩
theorem mkX9_best : jm_mok rX9_best := ⟨Or.inr (jm_gt (jm_t3 154 rfl) rfl), by decide +kernel, ⟨by decide, by decide⟩, (jm_gt (jm_t1 1 rfl) rfl), by decide +kernel, rfl, ⟨jm_gt (jm_t3 152 rfl) rfl, (jm_gt (jm_t3 153 rfl) rfl), by decide⟩⟩
theorem mkX9_noTables : jm_mok rX9_noTables := ⟨Or.inr (jm_gt (jm_t3 158 rfl) rfl), by decide +kernel, ⟨by decide, by decide⟩, (jm_gt (jm_t1 1 rfl) rfl), by decide +kernel, rfl, ⟨jm_gt (jm_t3 157 rfl) rfl, (jm_g0 (List.mem_of_getElem? (i := 19) rfl) rfl jm_sels_eq), by decide⟩⟩
theorem mkX1_gather : jm_mok rX1_gather := ⟨Or.inr (jm_gt (jm_t3 162 rfl) rfl), by decide +kernel, ⟨by decide, by decide⟩, (jm_gt (jm_t1 8 rfl) rfl), by decide +kernel, rfl, ⟨jm_gt (jm_t3 160 rfl) rfl, (jm_gt (jm_t3 161 rfl) rfl), by decide⟩⟩
theorem mkX1_bestNow : jm_mok rX1_bestNow := ⟨Or.inr (jm_gt (jm_t3 166 rfl) rfl), by decide +kernel, ⟨by decide, by decide⟩, (jm_gt (jm_t1 8 rfl) rfl), by decide +kernel, rfl, ⟨jm_gt (jm_t3 164 rfl) rfl, (jm_gt (jm_t3 165 rfl) rfl), by decide⟩⟩
theorem mkX9_allMoons : jm_mok rX9_allMoons := ⟨Or.inr (jm_gt (jm_t3 172 rfl) rfl), by decide +kernel, ⟨by decide, by decide⟩, (jm_gt (jm_t1 1 rfl) rfl), by decide +kernel, rfl, ⟨jm_gt (jm_t3 170 rfl) rfl, (jm_gt (jm_t3 171 rfl) rfl), by decide⟩⟩
theorem mkX4_placeOf : jm_mok rX4_placeOf := ⟨Or.inr (jm_gt (jm_t3 176 rfl) rfl), by decide +kernel, ⟨by decide, by decide⟩, (jm_gt (jm_t1 6 rfl) rfl), by decide +kernel, rfl, ⟨jm_gt (jm_t3 174 rfl) rfl, (jm_gt (jm_t3 175 rfl) rfl), by decide⟩⟩
theorem mkX1_lightOfAll : jm_mok rX1_lightOfAll := ⟨Or.inr (jm_gt (jm_t3 181 rfl) rfl), by decide +kernel, ⟨by decide, by decide⟩, (jm_gt (jm_t1 8 rfl) rfl), by decide +kernel, rfl, ⟨jm_gt (jm_t3 179 rfl) rfl, (jm_gt (jm_t3 180 rfl) rfl), by decide⟩⟩
theorem mkX0_bitsWithin : jm_mok rX0_bitsWithin := ⟨Or.inr (jm_gt (jm_t3 186 rfl) rfl), by decide +kernel, ⟨by decide, by decide⟩, (jm_gt (jm_t1 9 rfl) rfl), by decide +kernel, rfl, ⟨jm_gt (jm_t3 184 rfl) rfl, (jm_gt (jm_t3 185 rfl) rfl), by decide⟩⟩
theorem mkX9_foretold : jm_mok rX9_foretold := ⟨Or.inr (jm_gt (jm_t3 194 rfl) rfl), by decide +kernel, ⟨by decide, by decide⟩, (jm_gt (jm_t1 1 rfl) rfl), by decide +kernel, rfl, ⟨jm_gt (jm_t3 192 rfl) rfl, (jm_gt (jm_t3 193 rfl) rfl), by decide⟩⟩
theorem mkX9_parts : jm_mok rX9_parts := ⟨Or.inr (jm_gt (jm_t3 198 rfl) rfl), by decide +kernel, ⟨by decide, by decide⟩, (jm_gt (jm_t1 1 rfl) rfl), by decide +kernel, rfl, ⟨jm_gt (jm_t3 196 rfl) rfl, (jm_gt (jm_t3 197 rfl) rfl), by decide⟩⟩
theorem mkX8_furthestApart : jm_mok rX8_furthestApart := ⟨Or.inr (jm_gt (jm_t3 202 rfl) rfl), by decide +kernel, ⟨by decide, by decide⟩, (jm_gt (jm_t1 2 rfl) rfl), by decide +kernel, rfl, ⟨jm_gt (jm_t3 200 rfl) rfl, (jm_gt (jm_t3 201 rfl) rfl), by decide⟩⟩
theorem mkX9_rhythm : jm_mok rX9_rhythm := ⟨Or.inr (jm_gt (jm_t3 208 rfl) rfl), by decide +kernel, ⟨by decide, by decide⟩, (jm_gt (jm_t1 1 rfl) rfl), by decide +kernel, rfl, ⟨jm_gt (jm_t3 206 rfl) rfl, (jm_gt (jm_t3 207 rfl) rfl), by decide⟩⟩
theorem mkX2_rhythmOf : jm_mok rX2_rhythmOf := ⟨Or.inr (jm_gt (jm_t3 212 rfl) rfl), by decide +kernel, ⟨by decide, by decide⟩, (jm_gt (jm_t1 3 rfl) rfl), by decide +kernel, rfl, ⟨jm_gt (jm_t3 210 rfl) rfl, (jm_gt (jm_t3 211 rfl) rfl), by decide⟩⟩
theorem mkX9_apart : jm_mok rX9_apart := ⟨Or.inr (jm_gt (jm_t3 218 rfl) rfl), by decide +kernel, ⟨by decide, by decide⟩, (jm_gt (jm_t1 1 rfl) rfl), by decide +kernel, rfl, ⟨jm_gt (jm_t3 216 rfl) rfl, (jm_gt (jm_t3 217 rfl) rfl), by decide⟩⟩
theorem mkX8_hasPair : jm_mok rX8_hasPair := ⟨Or.inr (jm_gt (jm_t3 222 rfl) rfl), by decide +kernel, ⟨by decide, by decide⟩, (jm_gt (jm_t1 2 rfl) rfl), by decide +kernel, rfl, ⟨jm_gt (jm_t3 220 rfl) rfl, (jm_gt (jm_t3 221 rfl) rfl), by decide⟩⟩
theorem mkX8_isPair : jm_mok rX8_isPair := ⟨Or.inr (jm_gt (jm_t3 226 rfl) rfl), by decide +kernel, ⟨by decide, by decide⟩, (jm_gt (jm_t1 2 rfl) rfl), by decide +kernel, rfl, ⟨jm_gt (jm_t3 225 rfl) rfl, (jm_g0 (List.mem_of_getElem? (i := 20) rfl) rfl jm_sels_eq), by decide⟩⟩
theorem mkX8_leastApart : jm_mok rX8_leastApart := ⟨Or.inr (jm_gt (jm_t3 230 rfl) rfl), by decide +kernel, ⟨by decide, by decide⟩, (jm_gt (jm_t1 2 rfl) rfl), by decide +kernel, rfl, ⟨jm_gt (jm_t3 228 rfl) rfl, (jm_gt (jm_t3 229 rfl) rfl), by decide⟩⟩
theorem mkX8_rawRight : jm_mok rX8_rawRight := ⟨Or.inr (jm_gt (jm_t3 235 rfl) rfl), by decide +kernel, ⟨by decide, by decide⟩, (jm_gt (jm_t1 2 rfl) rfl), by decide +kernel, rfl, ⟨jm_gt (jm_t3 234 rfl) rfl, (jm_g0 (List.mem_of_getElem? (i := 21) rfl) rfl jm_sels_eq), by decide⟩⟩
theorem mkX9_send : jm_mok rX9_send := ⟨Or.inr (jm_gt (jm_t3 239 rfl) rfl), by decide +kernel, ⟨by decide, by decide⟩, (jm_gt (jm_t1 1 rfl) rfl), by decide +kernel, rfl, ⟨jm_gt (jm_t3 237 rfl) rfl, (jm_gt (jm_t3 238 rfl) rfl), by decide⟩⟩
theorem mkX3_post : jm_mok rX3_post := ⟨Or.inr (jm_gt (jm_t4 3 rfl) rfl), by decide +kernel, ⟨by decide, by decide⟩, (jm_gt (jm_t1 5 rfl) rfl), by decide +kernel, rfl, ⟨jm_gt (jm_t4 1 rfl) rfl, (jm_gt (jm_t4 2 rfl) rfl), by decide⟩⟩
theorem mkX9_has : jm_mok rX9_has := ⟨Or.inr (jm_gt (jm_t4 7 rfl) rfl), by decide +kernel, ⟨by decide, by decide⟩, (jm_gt (jm_t1 1 rfl) rfl), by decide +kernel, rfl, ⟨jm_gt (jm_t4 5 rfl) rfl, (jm_gt (jm_t4 6 rfl) rfl), by decide⟩⟩
theorem mkX3_cameTo : jm_mok rX3_cameTo := ⟨Or.inr (jm_gt (jm_t4 11 rfl) rfl), by decide +kernel, ⟨by decide, by decide⟩, (jm_gt (jm_t1 5 rfl) rfl), by decide +kernel, rfl, ⟨jm_gt (jm_t4 9 rfl) rfl, (jm_gt (jm_t4 10 rfl) rfl), by decide⟩⟩
theorem mkX9_believes : jm_mok rX9_believes := ⟨Or.inr (jm_gt (jm_t4 15 rfl) rfl), by decide +kernel, ⟨by decide, by decide⟩, (jm_gt (jm_t1 1 rfl) rfl), by decide +kernel, rfl, ⟨jm_gt (jm_t4 13 rfl) rfl, (jm_gt (jm_t4 14 rfl) rfl), by decide⟩⟩
theorem mkX9_wrongHolding : jm_mok rX9_wrongHolding := ⟨Or.inr (jm_gt (jm_t4 19 rfl) rfl), by decide +kernel, ⟨by decide, by decide⟩, (jm_gt (jm_t1 1 rfl) rfl), by decide +kernel, rfl, ⟨jm_gt (jm_t4 18 rfl) rfl, (jm_g0 (List.mem_of_getElem? (i := 22) rfl) rfl jm_sels_eq), by decide⟩⟩
theorem mkX9_turn : jm_mok rX9_turn := ⟨Or.inr (jm_gt (jm_t4 23 rfl) rfl), by decide +kernel, ⟨by decide, by decide⟩, (jm_gt (jm_t1 1 rfl) rfl), by decide +kernel, rfl, ⟨jm_gt (jm_t4 21 rfl) rfl, (jm_gt (jm_t4 22 rfl) rfl), by decide⟩⟩
theorem mkX1_turningSights : jm_mok rX1_turningSights := ⟨Or.inr (jm_gt (jm_t4 27 rfl) rfl), by decide +kernel, ⟨by decide, by decide⟩, (jm_gt (jm_t1 8 rfl) rfl), by decide +kernel, rfl, ⟨jm_gt (jm_t4 25 rfl) rfl, (jm_gt (jm_t4 26 rfl) rfl), by decide⟩⟩
theorem mkX1_findOthers : jm_mok rX1_findOthers := ⟨Or.inr (jm_gt (jm_t4 32 rfl) rfl), by decide +kernel, ⟨by decide, by decide⟩, (jm_gt (jm_t1 8 rfl) rfl), by decide +kernel, rfl, ⟨jm_gt (jm_t4 31 rfl) rfl, (jm_g0 (List.mem_of_getElem? (i := 23) rfl) rfl jm_sels_eq), by decide⟩⟩
theorem mkX1_bestWith : jm_mok rX1_bestWith := ⟨Or.inr (jm_gt (jm_t4 38 rfl) rfl), by decide +kernel, ⟨by decide, by decide⟩, (jm_gt (jm_t1 8 rfl) rfl), by decide +kernel, rfl, ⟨jm_gt (jm_t4 37 rfl) rfl, (jm_g0 (List.mem_of_getElem? (i := 24) rfl) rfl jm_sels_eq), by decide⟩⟩
theorem mkX0_scoreWith : jm_mok rX0_scoreWith := ⟨Or.inr (jm_gt (jm_t4 42 rfl) rfl), by decide +kernel, ⟨by decide, by decide⟩, (jm_gt (jm_t1 9 rfl) rfl), by decide +kernel, rfl, ⟨jm_gt (jm_t4 40 rfl) rfl, (jm_gt (jm_t4 41 rfl) rfl), by decide⟩⟩
theorem mkX1_addToAll : jm_mok rX1_addToAll := ⟨Or.inr (jm_gt (jm_t4 48 rfl) rfl), by decide +kernel, ⟨by decide, by decide⟩, (jm_gt (jm_t1 8 rfl) rfl), by decide +kernel, rfl, ⟨jm_gt (jm_t4 47 rfl) rfl, (jm_g0 (List.mem_of_getElem? (i := 25) rfl) rfl jm_sels_eq), by decide⟩⟩
theorem mkX1_dropFromAll : jm_mok rX1_dropFromAll := ⟨Or.inr (jm_gt (jm_t4 53 rfl) rfl), by decide +kernel, ⟨by decide, by decide⟩, (jm_gt (jm_t1 8 rfl) rfl), by decide +kernel, rfl, ⟨jm_gt (jm_t4 52 rfl) rfl, (jm_g0 (List.mem_of_getElem? (i := 26) rfl) rfl jm_sels_eq), by decide⟩⟩
theorem mkX0_dropSight : jm_mok rX0_dropSight := ⟨Or.inr (jm_gt (jm_t4 57 rfl) rfl), by decide +kernel, ⟨by decide, by decide⟩, (jm_gt (jm_t1 9 rfl) rfl), by decide +kernel, rfl, ⟨jm_gt (jm_t4 55 rfl) rfl, (jm_gt (jm_t4 56 rfl) rfl), by decide⟩⟩
theorem mkX9_watch : jm_mok rX9_watch := ⟨Or.inr (jm_gt (jm_t4 62 rfl) rfl), by decide +kernel, ⟨by decide, by decide⟩, (jm_gt (jm_t1 1 rfl) rfl), by decide +kernel, rfl, ⟨jm_gt (jm_t4 60 rfl) rfl, (jm_gt (jm_t4 61 rfl) rfl), by decide⟩⟩
theorem mkX7_hear : jm_mok rX7_hear := ⟨Or.inr (jm_gt (jm_t4 66 rfl) rfl), by decide +kernel, ⟨by decide, by decide⟩, (jm_gt (jm_t1 10 rfl) rfl), by decide +kernel, rfl, ⟨jm_gt (jm_t4 64 rfl) rfl, (jm_gt (jm_t4 65 rfl) rfl), by decide⟩⟩
theorem mkX7_compareTables : jm_mok rX7_compareTables := ⟨Or.inr (jm_gt (jm_t4 71 rfl) rfl), by decide +kernel, ⟨by decide, by decide⟩, (jm_gt (jm_t1 10 rfl) rfl), by decide +kernel, rfl, ⟨jm_gt (jm_t4 69 rfl) rfl, (jm_gt (jm_t4 70 rfl) rfl), by decide⟩⟩
theorem mkX7_bestNights : jm_mok rX7_bestNights := ⟨Or.inr (jm_gt (jm_t4 76 rfl) rfl), by decide +kernel, ⟨by decide, by decide⟩, (jm_gt (jm_t1 10 rfl) rfl), by decide +kernel, rfl, ⟨jm_gt (jm_t4 74 rfl) rfl, (jm_gt (jm_t4 75 rfl) rfl), by decide⟩⟩
theorem mkJ6_bitCount_0f7a4 : jm_mok rJ6_bitCount_0f7a4 := ⟨Or.inr (jm_gt (jm_t4 80 rfl) rfl), by decide +kernel, ⟨by decide, by decide⟩, (jm_gt (jm_t1 13 rfl) rfl), by decide +kernel, rfl, Or.inr (jm_gt (jm_t4 79 rfl) rfl)⟩
theorem mkX7_pick : jm_mok rX7_pick := ⟨Or.inr (jm_gt (jm_t4 87 rfl) rfl), by decide +kernel, ⟨by decide, by decide⟩, (jm_gt (jm_t1 10 rfl) rfl), by decide +kernel, rfl, ⟨jm_gt (jm_t4 86 rfl) rfl, (jm_g0 (List.mem_of_getElem? (i := 27) rfl) rfl jm_sels_eq), by decide⟩⟩
theorem mkX7_gapsOfPicked : jm_mok rX7_gapsOfPicked := ⟨Or.inr (jm_gt (jm_t4 91 rfl) rfl), by decide +kernel, ⟨by decide, by decide⟩, (jm_gt (jm_t1 10 rfl) rfl), by decide +kernel, rfl, ⟨jm_gt (jm_t4 90 rfl) rfl, (jm_g0 (List.mem_of_getElem? (i := 28) rfl) rfl jm_sels_eq), by decide⟩⟩
theorem mkX9_image : jm_mok rX9_image := ⟨Or.inr (jm_gt (jm_t4 96 rfl) rfl), by decide +kernel, ⟨by decide, by decide⟩, (jm_gt (jm_t1 1 rfl) rfl), by decide +kernel, rfl, ⟨jm_gt (jm_t4 94 rfl) rfl, (jm_gt (jm_t4 95 rfl) rfl), by decide⟩⟩
theorem mkX8_copyFrom : jm_mok rX8_copyFrom := ⟨Or.inr (jm_gt (jm_t4 100 rfl) rfl), by decide +kernel, ⟨by decide, by decide⟩, (jm_gt (jm_t1 2 rfl) rfl), by decide +kernel, rfl, ⟨jm_gt (jm_t4 98 rfl) rfl, (jm_gt (jm_t4 99 rfl) rfl), by decide⟩⟩
theorem mkX9_copy : jm_mok rX9_copy := ⟨Or.inr (jm_gt (jm_t4 103 rfl) rfl), by decide +kernel, ⟨by decide, by decide⟩, (jm_gt (jm_t1 1 rfl) rfl), by decide +kernel, rfl, Or.inr (jm_gt (jm_t4 102 rfl) rfl)⟩
theorem mkX2_copyFrom : jm_mok rX2_copyFrom := ⟨Or.inr (jm_gt (jm_t4 113 rfl) rfl), by decide +kernel, ⟨by decide, by decide⟩, (jm_gt (jm_t1 3 rfl) rfl), by decide +kernel, rfl, ⟨jm_gt (jm_t4 111 rfl) rfl, (jm_gt (jm_t4 112 rfl) rfl), by decide⟩⟩
theorem mkX6_copyFrom : jm_mok rX6_copyFrom := ⟨Or.inr (jm_gt (jm_t4 118 rfl) rfl), by decide +kernel, ⟨by decide, by decide⟩, (jm_gt (jm_t1 4 rfl) rfl), by decide +kernel, rfl, ⟨jm_gt (jm_t4 116 rfl) rfl, (jm_gt (jm_t4 117 rfl) rfl), by decide⟩⟩
theorem mkX3_copyFrom : jm_mok rX3_copyFrom := ⟨Or.inr (jm_gt (jm_t4 124 rfl) rfl), by decide +kernel, ⟨by decide, by decide⟩, (jm_gt (jm_t1 5 rfl) rfl), by decide +kernel, rfl, ⟨jm_gt (jm_t4 122 rfl) rfl, (jm_gt (jm_t4 123 rfl) rfl), by decide⟩⟩
theorem mkX4_copyFrom : jm_mok rX4_copyFrom := ⟨Or.inr (jm_gt (jm_t4 129 rfl) rfl), by decide +kernel, ⟨by decide, by decide⟩, (jm_gt (jm_t1 6 rfl) rfl), by decide +kernel, rfl, ⟨jm_gt (jm_t4 127 rfl) rfl, (jm_gt (jm_t4 128 rfl) rfl), by decide⟩⟩
theorem mkX9_restore : jm_mok rX9_restore := ⟨Or.inr (jm_gt (jm_t4 134 rfl) rfl), by decide +kernel, ⟨by decide, by decide⟩, (jm_gt (jm_t1 1 rfl) rfl), by decide +kernel, rfl, ⟨jm_gt (jm_t4 132 rfl) rfl, (jm_gt (jm_t4 133 rfl) rfl), by decide⟩⟩
theorem mkX9_count : jm_mok rX9_count := ⟨Or.inr (jm_gt (jm_t4 138 rfl) rfl), by decide +kernel, ⟨by decide, by decide⟩, (jm_gt (jm_t1 1 rfl) rfl), by decide +kernel, rfl, ⟨jm_gt (jm_t4 136 rfl) rfl, (jm_gt (jm_t4 137 rfl) rfl), by decide⟩⟩
theorem mkX2_size : jm_mok rX2_size := ⟨Or.inr (jm_gt (jm_t4 142 rfl) rfl), by decide +kernel, ⟨by decide, by decide⟩, (jm_gt (jm_t1 3 rfl) rfl), by decide +kernel, rfl, ⟨jm_gt (jm_t4 140 rfl) rfl, (jm_gt (jm_t4 141 rfl) rfl), by decide⟩⟩
theorem mkX3_clouded : jm_mok rX3_clouded := ⟨Or.inr (jm_gt (jm_t4 146 rfl) rfl), by decide +kernel, ⟨by decide, by decide⟩, (jm_gt (jm_t1 5 rfl) rfl), by decide +kernel, rfl, ⟨jm_gt (jm_t4 144 rfl) rfl, (jm_gt (jm_t4 145 rfl) rfl), by decide⟩⟩
theorem mkX3_sent : jm_mok rX3_sent := ⟨Or.inr (jm_gt (jm_t4 150 rfl) rfl), by decide +kernel, ⟨by decide, by decide⟩, (jm_gt (jm_t1 5 rfl) rfl), by decide +kernel, rfl, ⟨jm_gt (jm_t4 148 rfl) rfl, (jm_gt (jm_t4 149 rfl) rfl), by decide⟩⟩
theorem mkX10_init : jm_mok rX10_init := ⟨Or.inr (jm_gt (jm_t4 156 rfl) rfl), by decide +kernel, ⟨by decide, by decide⟩, (jm_gt (jm_t1 11 rfl) rfl), by decide +kernel, rfl, ⟨jm_gt (jm_t4 155 rfl) rfl, rfl, by decide, rfl, by decide, by decide⟩⟩
theorem mkX10_moon : jm_mok rX10_moon := ⟨Or.inr (jm_gt (jm_t5 55 rfl) rfl), by decide +kernel, ⟨by decide, by decide⟩, (jm_gt (jm_t1 11 rfl) rfl), by decide +kernel, rfl, ⟨jm_gt (jm_t5 53 rfl) rfl, (jm_gt (jm_t5 54 rfl) rfl), by decide⟩⟩
theorem mkX10_isIn : jm_mok rX10_isIn := ⟨Or.inr (jm_gt (jm_t5 59 rfl) rfl), by decide +kernel, ⟨by decide, by decide⟩, (jm_gt (jm_t1 11 rfl) rfl), by decide +kernel, rfl, Or.inr (jm_gt (jm_t5 58 rfl) rfl)⟩
theorem mkX10_no : jm_mok rX10_no := ⟨Or.inr (jm_gt (jm_t5 63 rfl) rfl), by decide +kernel, ⟨by decide, by decide⟩, (jm_gt (jm_t1 11 rfl) rfl), by decide +kernel, rfl, ⟨jm_gt (jm_t5 62 rfl) rfl, (jm_g0 (List.mem_of_getElem? (i := 29) rfl) rfl jm_sels_eq), by decide⟩⟩
theorem mkX10_out : jm_mok rX10_out := ⟨Or.inr (jm_gt (jm_t5 67 rfl) rfl), by decide +kernel, ⟨by decide, by decide⟩, (jm_gt (jm_t1 11 rfl) rfl), by decide +kernel, rfl, Or.inr (jm_gt (jm_t5 66 rfl) rfl)⟩
theorem mkX10_pull : jm_mok rX10_pull := ⟨Or.inr (jm_gt (jm_t5 74 rfl) rfl), by decide +kernel, ⟨by decide, by decide⟩, (jm_gt (jm_t1 11 rfl) rfl), by decide +kernel, rfl, ⟨jm_gt (jm_t5 72 rfl) rfl, (jm_gt (jm_t5 73 rfl) rfl), by decide⟩⟩
theorem mkX10_isMoon : jm_mok rX10_isMoon := ⟨Or.inr (jm_gt (jm_t5 78 rfl) rfl), by decide +kernel, ⟨by decide, by decide⟩, (jm_gt (jm_t1 11 rfl) rfl), by decide +kernel, rfl, ⟨jm_gt (jm_t5 77 rfl) rfl, (jm_g0 (List.mem_of_getElem? (i := 30) rfl) rfl jm_sels_eq), by decide⟩⟩
theorem mkX10_set : jm_mok rX10_set := ⟨Or.inr (jm_gt (jm_t5 84 rfl) rfl), by decide +kernel, ⟨by decide, by decide⟩, (jm_gt (jm_t1 11 rfl) rfl), by decide +kernel, rfl, ⟨jm_gt (jm_t5 82 rfl) rfl, (jm_gt (jm_t5 83 rfl) rfl), by decide⟩⟩
theorem mkX10_fading : jm_mok rX10_fading := ⟨Or.inr (jm_gt (jm_t5 93 rfl) rfl), by decide +kernel, ⟨by decide, by decide⟩, (jm_gt (jm_t1 11 rfl) rfl), by decide +kernel, rfl, ⟨jm_gt (jm_t5 91 rfl) rfl, (jm_gt (jm_t5 92 rfl) rfl), by decide⟩⟩
theorem mkX10_noLong : jm_mok rX10_noLong := ⟨Or.inr (jm_gt (jm_t5 97 rfl) rfl), by decide +kernel, ⟨by decide, by decide⟩, (jm_gt (jm_t1 11 rfl) rfl), by decide +kernel, rfl, ⟨jm_gt (jm_t5 96 rfl) rfl, (jm_g0 (List.mem_of_getElem? (i := 31) rfl) rfl jm_sels_eq), by decide⟩⟩
theorem mkX10_fadingOf : jm_mok rX10_fadingOf := ⟨Or.inr (jm_gt (jm_t5 102 rfl) rfl), by decide +kernel, ⟨by decide, by decide⟩, (jm_gt (jm_t1 11 rfl) rfl), by decide +kernel, rfl, ⟨jm_gt (jm_t5 101 rfl) rfl, (jm_g0 (List.mem_of_getElem? (i := 32) rfl) rfl jm_sels_eq), by decide⟩⟩
theorem mkX10_waveOf : jm_mok rX10_waveOf := ⟨Or.inr (jm_gt (jm_t5 106 rfl) rfl), by decide +kernel, ⟨by decide, by decide⟩, (jm_gt (jm_t1 11 rfl) rfl), by decide +kernel, rfl, ⟨jm_gt (jm_t5 105 rfl) rfl, (jm_g0 (List.mem_of_getElem? (i := 33) rfl) rfl jm_sels_eq), by decide⟩⟩
theorem mkX10_farOf : jm_mok rX10_farOf := ⟨Or.inr (jm_gt (jm_t5 110 rfl) rfl), by decide +kernel, ⟨by decide, by decide⟩, (jm_gt (jm_t1 11 rfl) rfl), by decide +kernel, rfl, ⟨jm_gt (jm_t5 109 rfl) rfl, (jm_g0 (List.mem_of_getElem? (i := 34) rfl) rfl jm_sels_eq), by decide⟩⟩
theorem mkX10_far : jm_mok rX10_far := ⟨Or.inr (jm_gt (jm_t5 114 rfl) rfl), by decide +kernel, ⟨by decide, by decide⟩, (jm_gt (jm_t1 11 rfl) rfl), by decide +kernel, rfl, ⟨jm_gt (jm_t5 112 rfl) rfl, (jm_gt (jm_t5 113 rfl) rfl), by decide⟩⟩
theorem mkX10_tool : jm_mok rX10_tool := ⟨Or.inr (jm_gt (jm_t5 119 rfl) rfl), by decide +kernel, ⟨by decide, by decide⟩, (jm_gt (jm_t1 11 rfl) rfl), by decide +kernel, rfl, ⟨jm_gt (jm_t5 117 rfl) rfl, (jm_gt (jm_t5 118 rfl) rfl), by decide⟩⟩
theorem mkX10_sight : jm_mok rX10_sight := ⟨Or.inr (jm_gt (jm_t5 128 rfl) rfl), by decide +kernel, ⟨by decide, by decide⟩, (jm_gt (jm_t1 11 rfl) rfl), by decide +kernel, rfl, ⟨jm_gt (jm_t5 126 rfl) rfl, (jm_gt (jm_t5 127 rfl) rfl), by decide⟩⟩
theorem mkX10_tells : jm_mok rX10_tells := ⟨Or.inr (jm_gt (jm_t5 133 rfl) rfl), by decide +kernel, ⟨by decide, by decide⟩, (jm_gt (jm_t1 11 rfl) rfl), by decide +kernel, rfl, ⟨jm_gt (jm_t5 132 rfl) rfl, (jm_g0 (List.mem_of_getElem? (i := 35) rfl) rfl jm_sels_eq), by decide⟩⟩
theorem mkX10_right : jm_mok rX10_right := ⟨Or.inr (jm_gt (jm_t5 137 rfl) rfl), by decide +kernel, ⟨by decide, by decide⟩, (jm_gt (jm_t1 11 rfl) rfl), by decide +kernel, rfl, ⟨jm_gt (jm_t5 135 rfl) rfl, (jm_gt (jm_t5 136 rfl) rfl), by decide⟩⟩
theorem mkX10_isSight : jm_mok rX10_isSight := ⟨Or.inr (jm_gt (jm_t5 141 rfl) rfl), by decide +kernel, ⟨by decide, by decide⟩, (jm_gt (jm_t1 11 rfl) rfl), by decide +kernel, rfl, ⟨jm_gt (jm_t5 140 rfl) rfl, (jm_g0 (List.mem_of_getElem? (i := 36) rfl) rfl jm_sels_eq), by decide⟩⟩
theorem mkX10_rightOf : jm_mok rX10_rightOf := ⟨Or.inr (jm_gt (jm_t5 145 rfl) rfl), by decide +kernel, ⟨by decide, by decide⟩, (jm_gt (jm_t1 11 rfl) rfl), by decide +kernel, rfl, ⟨jm_gt (jm_t5 144 rfl) rfl, (jm_g0 (List.mem_of_getElem? (i := 37) rfl) rfl jm_sels_eq), by decide⟩⟩
theorem mkX10_put : jm_mok rX10_put := ⟨Or.inr (jm_gt (jm_t5 152 rfl) rfl), by decide +kernel, ⟨by decide, by decide⟩, (jm_gt (jm_t1 11 rfl) rfl), by decide +kernel, rfl, ⟨jm_gt (jm_t5 150 rfl) rfl, (jm_gt (jm_t5 151 rfl) rfl), by decide⟩⟩
theorem mkX10_read : jm_mok rX10_read := ⟨Or.inr (jm_gt (jm_t5 156 rfl) rfl), by decide +kernel, ⟨by decide, by decide⟩, (jm_gt (jm_t1 11 rfl) rfl), by decide +kernel, rfl, ⟨jm_gt (jm_t5 154 rfl) rfl, (jm_gt (jm_t5 155 rfl) rfl), by decide⟩⟩
theorem mkX10_takeBack : jm_mok rX10_takeBack := ⟨Or.inr (jm_gt (jm_t5 164 rfl) rfl), by decide +kernel, ⟨by decide, by decide⟩, (jm_gt (jm_t1 11 rfl) rfl), by decide +kernel, rfl, ⟨jm_gt (jm_t5 162 rfl) rfl, (jm_gt (jm_t5 163 rfl) rfl), by decide⟩⟩
theorem mkX10_isSent : jm_mok rX10_isSent := ⟨Or.inr (jm_gt (jm_t5 168 rfl) rfl), by decide +kernel, ⟨by decide, by decide⟩, (jm_gt (jm_t1 11 rfl) rfl), by decide +kernel, rfl, ⟨jm_gt (jm_t5 167 rfl) rfl, (jm_g0 (List.mem_of_getElem? (i := 38) rfl) rfl jm_sels_eq), by decide⟩⟩
theorem mkX10_feed : jm_mok rX10_feed := ⟨Or.inr (jm_gt (jm_t5 172 rfl) rfl), by decide +kernel, ⟨by decide, by decide⟩, (jm_gt (jm_t1 11 rfl) rfl), by decide +kernel, rfl, ⟨jm_gt (jm_t5 170 rfl) rfl, (jm_gt (jm_t5 171 rfl) rfl), by decide⟩⟩
theorem mkX10_table : jm_mok rX10_table := ⟨Or.inr (jm_gt (jm_t5 178 rfl) rfl), by decide +kernel, ⟨by decide, by decide⟩, (jm_gt (jm_t1 11 rfl) rfl), by decide +kernel, rfl, ⟨jm_gt (jm_t5 176 rfl) rfl, (jm_gt (jm_t5 177 rfl) rfl), by decide⟩⟩
theorem mkX10_reads : jm_mok rX10_reads := ⟨Or.inr (jm_gt (jm_t5 182 rfl) rfl), by decide +kernel, ⟨by decide, by decide⟩, (jm_gt (jm_t1 11 rfl) rfl), by decide +kernel, rfl, ⟨jm_gt (jm_t5 181 rfl) rfl, (jm_g0 (List.mem_of_getElem? (i := 39) rfl) rfl jm_sels_eq), by decide⟩⟩
theorem mkX10_oneTerm : jm_mok rX10_oneTerm := ⟨Or.inr (jm_gt (jm_t5 186 rfl) rfl), by decide +kernel, ⟨by decide, by decide⟩, (jm_gt (jm_t1 11 rfl) rfl), by decide +kernel, rfl, ⟨jm_gt (jm_t5 185 rfl) rfl, (jm_g0 (List.mem_of_getElem? (i := 40) rfl) rfl jm_sels_eq), by decide⟩⟩
theorem mkX10_sign : jm_mok rX10_sign := ⟨Or.inr (jm_gt (jm_t5 190 rfl) rfl), by decide +kernel, ⟨by decide, by decide⟩, (jm_gt (jm_t1 11 rfl) rfl), by decide +kernel, rfl, ⟨jm_gt (jm_t5 189 rfl) rfl, (jm_g0 (List.mem_of_getElem? (i := 41) rfl) rfl jm_sels_eq), by decide⟩⟩
theorem mkX10_guess : jm_mok rX10_guess := ⟨Or.inr (jm_gt (jm_t5 196 rfl) rfl), by decide +kernel, ⟨by decide, by decide⟩, (jm_gt (jm_t1 11 rfl) rfl), by decide +kernel, rfl, ⟨jm_gt (jm_t5 194 rfl) rfl, (jm_gt (jm_t5 195 rfl) rfl), by decide⟩⟩
theorem mkX10_says : jm_mok rX10_says := ⟨Or.inr (jm_gt (jm_t5 201 rfl) rfl), by decide +kernel, ⟨by decide, by decide⟩, (jm_gt (jm_t1 11 rfl) rfl), by decide +kernel, rfl, ⟨jm_gt (jm_t5 199 rfl) rfl, (jm_gt (jm_t5 200 rfl) rfl), by decide⟩⟩
theorem mkX10_isTable : jm_mok rX10_isTable := ⟨Or.inr (jm_gt (jm_t5 205 rfl) rfl), by decide +kernel, ⟨by decide, by decide⟩, (jm_gt (jm_t1 11 rfl) rfl), by decide +kernel, rfl, ⟨jm_gt (jm_t5 204 rfl) rfl, (jm_g0 (List.mem_of_getElem? (i := 42) rfl) rfl jm_sels_eq), by decide⟩⟩
theorem mkX10_power : jm_mok rX10_power := ⟨Or.inr (jm_gt (jm_t5 208 rfl) rfl), by decide +kernel, ⟨by decide, by decide⟩, (jm_gt (jm_t1 11 rfl) rfl), by decide +kernel, rfl, Or.inr (jm_gt (jm_t5 207 rfl) rfl)⟩
theorem mkX10_saysOf : jm_mok rX10_saysOf := ⟨Or.inr (jm_gt (jm_t5 212 rfl) rfl), by decide +kernel, ⟨by decide, by decide⟩, (jm_gt (jm_t1 11 rfl) rfl), by decide +kernel, rfl, ⟨jm_gt (jm_t5 211 rfl) rfl, (jm_g0 (List.mem_of_getElem? (i := 43) rfl) rfl jm_sels_eq), by decide⟩⟩
theorem mkX10_guessed : jm_mok rX10_guessed := ⟨Or.inr (jm_gt (jm_t5 216 rfl) rfl), by decide +kernel, ⟨by decide, by decide⟩, (jm_gt (jm_t1 11 rfl) rfl), by decide +kernel, rfl, ⟨jm_gt (jm_t5 215 rfl) rfl, (jm_g0 (List.mem_of_getElem? (i := 44) rfl) rfl jm_sels_eq), by decide⟩⟩
theorem mkX10_digit : jm_mok rX10_digit := ⟨Or.inr (jm_gt (jm_t5 219 rfl) rfl), by decide +kernel, ⟨by decide, by decide⟩, (jm_gt (jm_t1 11 rfl) rfl), by decide +kernel, rfl, Or.inr (jm_gt (jm_t5 218 rfl) rfl)⟩
theorem mkX10_adds : jm_mok rX10_adds := ⟨Or.inr (jm_gt (jm_t5 223 rfl) rfl), by decide +kernel, ⟨by decide, by decide⟩, (jm_gt (jm_t1 11 rfl) rfl), by decide +kernel, rfl, ⟨jm_gt (jm_t5 222 rfl) rfl, (jm_g0 (List.mem_of_getElem? (i := 45) rfl) rfl jm_sels_eq), by decide⟩⟩
theorem mkX10_fit : jm_mok rX10_fit := ⟨Or.inr (jm_gt (jm_t5 228 rfl) rfl), by decide +kernel, ⟨by decide, by decide⟩, (jm_gt (jm_t1 11 rfl) rfl), by decide +kernel, rfl, ⟨jm_gt (jm_t5 226 rfl) rfl, (jm_gt (jm_t5 227 rfl) rfl), by decide⟩⟩
theorem mkX10_notSet : jm_mok rX10_notSet := ⟨Or.inr (jm_gt (jm_t5 233 rfl) rfl), by decide +kernel, ⟨by decide, by decide⟩, (jm_gt (jm_t1 11 rfl) rfl), by decide +kernel, rfl, ⟨jm_gt (jm_t5 232 rfl) rfl, (jm_g0 (List.mem_of_getElem? (i := 46) rfl) rfl jm_sels_eq), by decide⟩⟩
theorem mkX10_score : jm_mok rX10_score := ⟨Or.inr (jm_gt (jm_t5 237 rfl) rfl), by decide +kernel, ⟨by decide, by decide⟩, (jm_gt (jm_t1 11 rfl) rfl), by decide +kernel, rfl, ⟨jm_gt (jm_t5 236 rfl) rfl, (jm_g0 (List.mem_of_getElem? (i := 47) rfl) rfl jm_sels_eq), by decide⟩⟩
theorem mkX10_findFit : jm_mok rX10_findFit := ⟨Or.inr (jm_gt (jm_t6 1 rfl) rfl), by decide +kernel, ⟨by decide, by decide⟩, (jm_gt (jm_t1 11 rfl) rfl), by decide +kernel, rfl, ⟨jm_gt (jm_t6 0 rfl) rfl, (jm_g0 (List.mem_of_getElem? (i := 48) rfl) rfl jm_sels_eq), by decide⟩⟩
theorem mkX10_findMine : jm_mok rX10_findMine := ⟨Or.inr (jm_gt (jm_t6 5 rfl) rfl), by decide +kernel, ⟨by decide, by decide⟩, (jm_gt (jm_t1 11 rfl) rfl), by decide +kernel, rfl, ⟨jm_gt (jm_t6 4 rfl) rfl, (jm_g0 (List.mem_of_getElem? (i := 49) rfl) rfl jm_sels_eq), by decide⟩⟩
theorem mkX10_findAdds : jm_mok rX10_findAdds := ⟨Or.inr (jm_gt (jm_t6 9 rfl) rfl), by decide +kernel, ⟨by decide, by decide⟩, (jm_gt (jm_t1 11 rfl) rfl), by decide +kernel, rfl, ⟨jm_gt (jm_t6 8 rfl) rfl, (jm_g0 (List.mem_of_getElem? (i := 50) rfl) rfl jm_sels_eq), by decide⟩⟩
theorem mkX10_goesOn : jm_mok rX10_goesOn := ⟨Or.inr (jm_gt (jm_t6 14 rfl) rfl), by decide +kernel, ⟨by decide, by decide⟩, (jm_gt (jm_t1 11 rfl) rfl), by decide +kernel, rfl, ⟨jm_gt (jm_t6 13 rfl) rfl, (jm_g0 (List.mem_of_getElem? (i := 51) rfl) rfl jm_sels_eq), by decide⟩⟩
theorem mkX10_counts : jm_mok rX10_counts := ⟨Or.inr (jm_gt (jm_t6 18 rfl) rfl), by decide +kernel, ⟨by decide, by decide⟩, (jm_gt (jm_t1 11 rfl) rfl), by decide +kernel, rfl, ⟨jm_gt (jm_t6 17 rfl) rfl, (jm_g0 (List.mem_of_getElem? (i := 52) rfl) rfl jm_sels_eq), by decide⟩⟩
theorem mkX10_left : jm_mok rX10_left := ⟨Or.inr (jm_gt (jm_t6 22 rfl) rfl), by decide +kernel, ⟨by decide, by decide⟩, (jm_gt (jm_t1 11 rfl) rfl), by decide +kernel, rfl, ⟨jm_gt (jm_t6 20 rfl) rfl, (jm_gt (jm_t6 21 rfl) rfl), by decide⟩⟩
theorem mkX10_leftOf : jm_mok rX10_leftOf := ⟨Or.inr (jm_gt (jm_t6 26 rfl) rfl), by decide +kernel, ⟨by decide, by decide⟩, (jm_gt (jm_t1 11 rfl) rfl), by decide +kernel, rfl, ⟨jm_gt (jm_t6 25 rfl) rfl, (jm_g0 (List.mem_of_getElem? (i := 53) rfl) rfl jm_sels_eq), by decide⟩⟩
theorem mkX10_season : jm_mok rX10_season := ⟨Or.inr (jm_gt (jm_t6 30 rfl) rfl), by decide +kernel, ⟨by decide, by decide⟩, (jm_gt (jm_t1 11 rfl) rfl), by decide +kernel, rfl, ⟨jm_gt (jm_t6 28 rfl) rfl, (jm_gt (jm_t6 29 rfl) rfl), by decide⟩⟩
theorem mkX10_worth : jm_mok rX10_worth := ⟨Or.inr (jm_gt (jm_t6 35 rfl) rfl), by decide +kernel, ⟨by decide, by decide⟩, (jm_gt (jm_t1 11 rfl) rfl), by decide +kernel, rfl, ⟨jm_gt (jm_t6 33 rfl) rfl, (jm_gt (jm_t6 34 rfl) rfl), by decide⟩⟩
theorem mkX10_best : jm_mok rX10_best := ⟨Or.inr (jm_gt (jm_t6 39 rfl) rfl), by decide +kernel, ⟨by decide, by decide⟩, (jm_gt (jm_t1 11 rfl) rfl), by decide +kernel, rfl, ⟨jm_gt (jm_t6 37 rfl) rfl, (jm_gt (jm_t6 38 rfl) rfl), by decide⟩⟩
theorem mkX10_bestOf : jm_mok rX10_bestOf := ⟨Or.inr (jm_gt (jm_t6 43 rfl) rfl), by decide +kernel, ⟨by decide, by decide⟩, (jm_gt (jm_t1 11 rfl) rfl), by decide +kernel, rfl, ⟨jm_gt (jm_t6 42 rfl) rfl, (jm_g0 (List.mem_of_getElem? (i := 54) rfl) rfl jm_sels_eq), by decide⟩⟩
theorem mkX10_allMoons : jm_mok rX10_allMoons := ⟨Or.inr (jm_gt (jm_t6 47 rfl) rfl), by decide +kernel, ⟨by decide, by decide⟩, (jm_gt (jm_t1 11 rfl) rfl), by decide +kernel, rfl, ⟨jm_gt (jm_t6 45 rfl) rfl, (jm_gt (jm_t6 46 rfl) rfl), by decide⟩⟩
theorem mkX10_allSights : jm_mok rX10_allSights := ⟨Or.inr (jm_gt (jm_t6 51 rfl) rfl), by decide +kernel, ⟨by decide, by decide⟩, (jm_gt (jm_t1 11 rfl) rfl), by decide +kernel, rfl, ⟨jm_gt (jm_t6 50 rfl) rfl, (jm_g0 (List.mem_of_getElem? (i := 55) rfl) rfl jm_sels_eq), by decide⟩⟩
theorem mkX10_isSlack : jm_mok rX10_isSlack := ⟨Or.inr (jm_gt (jm_t6 55 rfl) rfl), by decide +kernel, ⟨by decide, by decide⟩, (jm_gt (jm_t1 11 rfl) rfl), by decide +kernel, rfl, ⟨jm_gt (jm_t6 54 rfl) rfl, (jm_g0 (List.mem_of_getElem? (i := 56) rfl) rfl jm_sels_eq), by decide⟩⟩
theorem mkX10_foretold : jm_mok rX10_foretold := ⟨Or.inr (jm_gt (jm_t6 59 rfl) rfl), by decide +kernel, ⟨by decide, by decide⟩, (jm_gt (jm_t1 11 rfl) rfl), by decide +kernel, rfl, ⟨jm_gt (jm_t6 57 rfl) rfl, (jm_gt (jm_t6 58 rfl) rfl), by decide⟩⟩
theorem mkX10_parts : jm_mok rX10_parts := ⟨Or.inr (jm_gt (jm_t6 63 rfl) rfl), by decide +kernel, ⟨by decide, by decide⟩, (jm_gt (jm_t1 11 rfl) rfl), by decide +kernel, rfl, ⟨jm_gt (jm_t6 61 rfl) rfl, (jm_gt (jm_t6 62 rfl) rfl), by decide⟩⟩
theorem mkX10_findFits : jm_mok rX10_findFits := ⟨Or.inr (jm_gt (jm_t6 67 rfl) rfl), by decide +kernel, ⟨by decide, by decide⟩, (jm_gt (jm_t1 11 rfl) rfl), by decide +kernel, rfl, ⟨jm_gt (jm_t6 66 rfl) rfl, (jm_g0 (List.mem_of_getElem? (i := 57) rfl) rfl jm_sels_eq), by decide⟩⟩
theorem mkX10_apartAt : jm_mok rX10_apartAt := ⟨Or.inr (jm_gt (jm_t6 71 rfl) rfl), by decide +kernel, ⟨by decide, by decide⟩, (jm_gt (jm_t1 11 rfl) rfl), by decide +kernel, rfl, ⟨jm_gt (jm_t6 70 rfl) rfl, (jm_g0 (List.mem_of_getElem? (i := 58) rfl) rfl jm_sels_eq), by decide⟩⟩
theorem mkX10_rhythm : jm_mok rX10_rhythm := ⟨Or.inr (jm_gt (jm_t6 75 rfl) rfl), by decide +kernel, ⟨by decide, by decide⟩, (jm_gt (jm_t1 11 rfl) rfl), by decide +kernel, rfl, ⟨jm_gt (jm_t6 73 rfl) rfl, (jm_gt (jm_t6 74 rfl) rfl), by decide⟩⟩
theorem mkX10_apart : jm_mok rX10_apart := ⟨Or.inr (jm_gt (jm_t6 79 rfl) rfl), by decide +kernel, ⟨by decide, by decide⟩, (jm_gt (jm_t1 11 rfl) rfl), by decide +kernel, rfl, ⟨jm_gt (jm_t6 77 rfl) rfl, (jm_gt (jm_t6 78 rfl) rfl), by decide⟩⟩
theorem mkX10_send : jm_mok rX10_send := ⟨Or.inr (jm_gt (jm_t6 83 rfl) rfl), by decide +kernel, ⟨by decide, by decide⟩, (jm_gt (jm_t1 11 rfl) rfl), by decide +kernel, rfl, ⟨jm_gt (jm_t6 81 rfl) rfl, (jm_gt (jm_t6 82 rfl) rfl), by decide⟩⟩
theorem mkX10_isHolder : jm_mok rX10_isHolder := ⟨Or.inr (jm_gt (jm_t6 86 rfl) rfl), by decide +kernel, ⟨by decide, by decide⟩, (jm_gt (jm_t1 11 rfl) rfl), by decide +kernel, rfl, Or.inr (jm_gt (jm_t6 85 rfl) rfl)⟩
theorem mkX10_has : jm_mok rX10_has := ⟨Or.inr (jm_gt (jm_t6 90 rfl) rfl), by decide +kernel, ⟨by decide, by decide⟩, (jm_gt (jm_t1 11 rfl) rfl), by decide +kernel, rfl, ⟨jm_gt (jm_t6 88 rfl) rfl, (jm_gt (jm_t6 89 rfl) rfl), by decide⟩⟩
theorem mkX10_hasOf : jm_mok rX10_hasOf := ⟨Or.inr (jm_gt (jm_t6 94 rfl) rfl), by decide +kernel, ⟨by decide, by decide⟩, (jm_gt (jm_t1 11 rfl) rfl), by decide +kernel, rfl, ⟨jm_gt (jm_t6 93 rfl) rfl, (jm_g0 (List.mem_of_getElem? (i := 59) rfl) rfl jm_sels_eq), by decide⟩⟩
theorem mkX10_believes : jm_mok rX10_believes := ⟨Or.inr (jm_gt (jm_t6 98 rfl) rfl), by decide +kernel, ⟨by decide, by decide⟩, (jm_gt (jm_t1 11 rfl) rfl), by decide +kernel, rfl, ⟨jm_gt (jm_t6 96 rfl) rfl, (jm_gt (jm_t6 97 rfl) rfl), by decide⟩⟩
theorem mkX10_turn : jm_mok rX10_turn := ⟨Or.inr (jm_gt (jm_t6 102 rfl) rfl), by decide +kernel, ⟨by decide, by decide⟩, (jm_gt (jm_t1 11 rfl) rfl), by decide +kernel, rfl, ⟨jm_gt (jm_t6 100 rfl) rfl, (jm_gt (jm_t6 101 rfl) rfl), by decide⟩⟩
theorem mkX10_turnOf : jm_mok rX10_turnOf := ⟨Or.inr (jm_gt (jm_t6 106 rfl) rfl), by decide +kernel, ⟨by decide, by decide⟩, (jm_gt (jm_t1 11 rfl) rfl), by decide +kernel, rfl, ⟨jm_gt (jm_t6 105 rfl) rfl, (jm_g0 (List.mem_of_getElem? (i := 60) rfl) rfl jm_sels_eq), by decide⟩⟩
theorem mkX10_othersOf : jm_mok rX10_othersOf := ⟨Or.inr (jm_gt (jm_t6 110 rfl) rfl), by decide +kernel, ⟨by decide, by decide⟩, (jm_gt (jm_t1 11 rfl) rfl), by decide +kernel, rfl, ⟨jm_gt (jm_t6 109 rfl) rfl, (jm_g0 (List.mem_of_getElem? (i := 61) rfl) rfl jm_sels_eq), by decide⟩⟩
theorem mkX10_watch : jm_mok rX10_watch := ⟨Or.inr (jm_gt (jm_t6 114 rfl) rfl), by decide +kernel, ⟨by decide, by decide⟩, (jm_gt (jm_t1 11 rfl) rfl), by decide +kernel, rfl, ⟨jm_gt (jm_t6 112 rfl) rfl, (jm_gt (jm_t6 113 rfl) rfl), by decide⟩⟩
theorem mkX10_bits : jm_mok rX10_bits := ⟨Or.inr (jm_gt (jm_t6 117 rfl) rfl), by decide +kernel, ⟨by decide, by decide⟩, (jm_gt (jm_t1 11 rfl) rfl), by decide +kernel, rfl, Or.inr (jm_gt (jm_t6 116 rfl) rfl)⟩
theorem mkX10_watched : jm_mok rX10_watched := ⟨Or.inr (jm_gt (jm_t6 121 rfl) rfl), by decide +kernel, ⟨by decide, by decide⟩, (jm_gt (jm_t1 11 rfl) rfl), by decide +kernel, rfl, ⟨jm_gt (jm_t6 120 rfl) rfl, (jm_g0 (List.mem_of_getElem? (i := 62) rfl) rfl jm_sels_eq), by decide⟩⟩
theorem mkX10_image : jm_mok rX10_image := ⟨Or.inr (jm_gt (jm_t6 125 rfl) rfl), by decide +kernel, ⟨by decide, by decide⟩, (jm_gt (jm_t1 11 rfl) rfl), by decide +kernel, rfl, ⟨jm_gt (jm_t6 123 rfl) rfl, (jm_gt (jm_t6 124 rfl) rfl), by decide⟩⟩
theorem mkX10_passesAll : jm_mok rX10_passesAll := ⟨Or.inr (jm_gt (jm_t6 129 rfl) rfl), by decide +kernel, ⟨by decide, by decide⟩, (jm_gt (jm_t1 11 rfl) rfl), by decide +kernel, rfl, ⟨jm_gt (jm_t6 128 rfl) rfl, (jm_g0 (List.mem_of_getElem? (i := 63) rfl) rfl jm_sels_eq), by decide⟩⟩
theorem mkX10_passes : jm_mok rX10_passes := ⟨Or.inr (jm_gt (jm_t6 133 rfl) rfl), by decide +kernel, ⟨by decide, by decide⟩, (jm_gt (jm_t1 11 rfl) rfl), by decide +kernel, rfl, ⟨jm_gt (jm_t6 132 rfl) rfl, (jm_g0 (List.mem_of_getElem? (i := 64) rfl) rfl jm_sels_eq), by decide⟩⟩
theorem mkX10_passOne : jm_mok rX10_passOne := ⟨Or.inr (jm_gt (jm_t6 137 rfl) rfl), by decide +kernel, ⟨by decide, by decide⟩, (jm_gt (jm_t1 11 rfl) rfl), by decide +kernel, rfl, ⟨jm_gt (jm_t6 136 rfl) rfl, (jm_g0 (List.mem_of_getElem? (i := 65) rfl) rfl jm_sels_eq), by decide⟩⟩
theorem mkX10_restore : jm_mok rX10_restore := ⟨Or.inr (jm_gt (jm_t6 141 rfl) rfl), by decide +kernel, ⟨by decide, by decide⟩, (jm_gt (jm_t1 11 rfl) rfl), by decide +kernel, rfl, ⟨jm_gt (jm_t6 139 rfl) rfl, (jm_gt (jm_t6 140 rfl) rfl), by decide⟩⟩
theorem mkX10_count : jm_mok rX10_count := ⟨Or.inr (jm_gt (jm_t6 145 rfl) rfl), by decide +kernel, ⟨by decide, by decide⟩, (jm_gt (jm_t1 11 rfl) rfl), by decide +kernel, rfl, ⟨jm_gt (jm_t6 143 rfl) rfl, (jm_gt (jm_t6 144 rfl) rfl), by decide⟩⟩
theorem jm_mall0 : ∀ r ∈ jm_rows0, jm_mok r := List.forall_mem_cons.mpr ⟨mkL_law, List.forall_mem_cons.mpr ⟨mkX9_init, List.forall_mem_cons.mpr ⟨mkX8_init, List.forall_mem_cons.mpr ⟨mkX2_init, List.forall_mem_cons.mpr ⟨mkX6_init, List.forall_mem_cons.mpr ⟨mkX3_init, List.forall_mem_cons.mpr ⟨mkX4_init, List.forall_mem_cons.mpr ⟨mkX5_init, List.forall_mem_cons.mpr ⟨mkX1_init, List.forall_mem_cons.mpr ⟨mkX0_init, List.forall_mem_cons.mpr ⟨mkX7_init, List.forall_mem_cons.mpr ⟨mkX9_moon, List.forall_mem_cons.mpr ⟨mkX9_isWithin, List.forall_mem_cons.mpr ⟨mkX9_outside, List.forall_mem_cons.mpr ⟨mkX9_then, List.forall_mem_cons.mpr ⟨mkX9_refuse, fun _ h => absurd h List.not_mem_nil⟩⟩⟩⟩⟩⟩⟩⟩⟩⟩⟩⟩⟩⟩⟩⟩
theorem jm_mall1 : ∀ r ∈ jm_rows1, jm_mok r := List.forall_mem_cons.mpr ⟨mkX2_tell, List.forall_mem_cons.mpr ⟨mkX9_pull, List.forall_mem_cons.mpr ⟨mkX9_noMoon, List.forall_mem_cons.mpr ⟨mkX9_set, List.forall_mem_cons.mpr ⟨mkX9_fading, List.forall_mem_cons.mpr ⟨mkX9_refuseLong, List.forall_mem_cons.mpr ⟨mkX8_seenAt, List.forall_mem_cons.mpr ⟨mkX8_fadesAt, List.forall_mem_cons.mpr ⟨mkX9_waveOf, List.forall_mem_cons.mpr ⟨mkX8_farOf, List.forall_mem_cons.mpr ⟨mkX9_far, List.forall_mem_cons.mpr ⟨mkX9_tool, List.forall_mem_cons.mpr ⟨mkX6_rowOf, List.forall_mem_cons.mpr ⟨mkX9_sight, List.forall_mem_cons.mpr ⟨mkX3_add, List.forall_mem_cons.mpr ⟨mkX9_right, fun _ h => absurd h List.not_mem_nil⟩⟩⟩⟩⟩⟩⟩⟩⟩⟩⟩⟩⟩⟩⟩⟩
theorem jm_mall2 : ∀ r ∈ jm_rows2, jm_mok r := List.forall_mem_cons.mpr ⟨mkX9_noSight, List.forall_mem_cons.mpr ⟨mkX9_cloudedSight, List.forall_mem_cons.mpr ⟨mkX8_putRight, List.forall_mem_cons.mpr ⟨mkX8_leanOf, List.forall_mem_cons.mpr ⟨mkX8_offsetOf, List.forall_mem_cons.mpr ⟨mkX8_kindOf, List.forall_mem_cons.mpr ⟨mkX9_put, List.forall_mem_cons.mpr ⟨mkX9_read, List.forall_mem_cons.mpr ⟨mkX9_isRowAsTold, List.forall_mem_cons.mpr ⟨mkX9_takeBack, List.forall_mem_cons.mpr ⟨mkX3_sentOf, List.forall_mem_cons.mpr ⟨mkX9_feed, List.forall_mem_cons.mpr ⟨mkX5_add, List.forall_mem_cons.mpr ⟨mkX9_table, List.forall_mem_cons.mpr ⟨mkX5_faultPlace, List.forall_mem_cons.mpr ⟨mkX5_readTerm, fun _ h => absurd h List.not_mem_nil⟩⟩⟩⟩⟩⟩⟩⟩⟩⟩⟩⟩⟩⟩⟩⟩
theorem jm_mall3 : ∀ r ∈ jm_rows3, jm_mok r := List.forall_mem_cons.mpr ⟨mkX5_termAt, List.forall_mem_cons.mpr ⟨mkX4_add, List.forall_mem_cons.mpr ⟨mkX9_guess, List.forall_mem_cons.mpr ⟨mkX9_says, List.forall_mem_cons.mpr ⟨mkX9_noTable, List.forall_mem_cons.mpr ⟨mkX8_said, List.forall_mem_cons.mpr ⟨mkX8_guessedAt, List.forall_mem_cons.mpr ⟨mkX4_termOf, List.forall_mem_cons.mpr ⟨mkX8_share, List.forall_mem_cons.mpr ⟨mkX9_fit, List.forall_mem_cons.mpr ⟨mkX9_wrongSet, List.forall_mem_cons.mpr ⟨mkX9_allSights, List.forall_mem_cons.mpr ⟨mkX1_fitted, List.forall_mem_cons.mpr ⟨mkX0_start, List.forall_mem_cons.mpr ⟨mkX0_addSet, List.forall_mem_cons.mpr ⟨mkX3_isIn, fun _ h => absurd h List.not_mem_nil⟩⟩⟩⟩⟩⟩⟩⟩⟩⟩⟩⟩⟩⟩⟩⟩
theorem jm_mall4 : ∀ r ∈ jm_rows4, jm_mok r := List.forall_mem_cons.mpr ⟨mkX0_addSight, List.forall_mem_cons.mpr ⟨mkX0_spread, List.forall_mem_cons.mpr ⟨mkX0_widen, List.forall_mem_cons.mpr ⟨mkX0_fitNumbers, List.forall_mem_cons.mpr ⟨mkX0_fitTry, List.forall_mem_cons.mpr ⟨mkX0_digitOf, List.forall_mem_cons.mpr ⟨mkX0_score, List.forall_mem_cons.mpr ⟨mkX0_leastSum, List.forall_mem_cons.mpr ⟨mkX0_price, List.forall_mem_cons.mpr ⟨mkX9_left, List.forall_mem_cons.mpr ⟨mkX8_leftOf, List.forall_mem_cons.mpr ⟨mkX9_season, List.forall_mem_cons.mpr ⟨mkX8_seasonOf, List.forall_mem_cons.mpr ⟨mkX9_worth, List.forall_mem_cons.mpr ⟨mkX9_best, List.forall_mem_cons.mpr ⟨mkX9_noTables, fun _ h => absurd h List.not_mem_nil⟩⟩⟩⟩⟩⟩⟩⟩⟩⟩⟩⟩⟩⟩⟩⟩
theorem jm_mall5 : ∀ r ∈ jm_rows5, jm_mok r := List.forall_mem_cons.mpr ⟨mkX1_gather, List.forall_mem_cons.mpr ⟨mkX1_bestNow, List.forall_mem_cons.mpr ⟨mkX9_allMoons, List.forall_mem_cons.mpr ⟨mkX4_placeOf, List.forall_mem_cons.mpr ⟨mkX1_lightOfAll, List.forall_mem_cons.mpr ⟨mkX0_bitsWithin, List.forall_mem_cons.mpr ⟨mkX9_foretold, List.forall_mem_cons.mpr ⟨mkX9_parts, List.forall_mem_cons.mpr ⟨mkX8_furthestApart, List.forall_mem_cons.mpr ⟨mkX9_rhythm, List.forall_mem_cons.mpr ⟨mkX2_rhythmOf, List.forall_mem_cons.mpr ⟨mkX9_apart, List.forall_mem_cons.mpr ⟨mkX8_hasPair, List.forall_mem_cons.mpr ⟨mkX8_isPair, List.forall_mem_cons.mpr ⟨mkX8_leastApart, List.forall_mem_cons.mpr ⟨mkX8_rawRight, fun _ h => absurd h List.not_mem_nil⟩⟩⟩⟩⟩⟩⟩⟩⟩⟩⟩⟩⟩⟩⟩⟩
theorem jm_mall6 : ∀ r ∈ jm_rows6, jm_mok r := List.forall_mem_cons.mpr ⟨mkX9_send, List.forall_mem_cons.mpr ⟨mkX3_post, List.forall_mem_cons.mpr ⟨mkX9_has, List.forall_mem_cons.mpr ⟨mkX3_cameTo, List.forall_mem_cons.mpr ⟨mkX9_believes, List.forall_mem_cons.mpr ⟨mkX9_wrongHolding, List.forall_mem_cons.mpr ⟨mkX9_turn, List.forall_mem_cons.mpr ⟨mkX1_turningSights, List.forall_mem_cons.mpr ⟨mkX1_findOthers, List.forall_mem_cons.mpr ⟨mkX1_bestWith, List.forall_mem_cons.mpr ⟨mkX0_scoreWith, List.forall_mem_cons.mpr ⟨mkX1_addToAll, List.forall_mem_cons.mpr ⟨mkX1_dropFromAll, List.forall_mem_cons.mpr ⟨mkX0_dropSight, List.forall_mem_cons.mpr ⟨mkX9_watch, List.forall_mem_cons.mpr ⟨mkX7_hear, fun _ h => absurd h List.not_mem_nil⟩⟩⟩⟩⟩⟩⟩⟩⟩⟩⟩⟩⟩⟩⟩⟩
theorem jm_mall7 : ∀ r ∈ jm_rows7, jm_mok r := List.forall_mem_cons.mpr ⟨mkX7_compareTables, List.forall_mem_cons.mpr ⟨mkX7_bestNights, List.forall_mem_cons.mpr ⟨mkJ6_bitCount_0f7a4, List.forall_mem_cons.mpr ⟨mkX7_pick, List.forall_mem_cons.mpr ⟨mkX7_gapsOfPicked, List.forall_mem_cons.mpr ⟨mkX9_image, List.forall_mem_cons.mpr ⟨mkX8_copyFrom, List.forall_mem_cons.mpr ⟨mkX9_copy, List.forall_mem_cons.mpr ⟨mkX2_copyFrom, List.forall_mem_cons.mpr ⟨mkX6_copyFrom, List.forall_mem_cons.mpr ⟨mkX3_copyFrom, List.forall_mem_cons.mpr ⟨mkX4_copyFrom, List.forall_mem_cons.mpr ⟨mkX9_restore, List.forall_mem_cons.mpr ⟨mkX9_count, List.forall_mem_cons.mpr ⟨mkX2_size, List.forall_mem_cons.mpr ⟨mkX3_clouded, fun _ h => absurd h List.not_mem_nil⟩⟩⟩⟩⟩⟩⟩⟩⟩⟩⟩⟩⟩⟩⟩⟩
theorem jm_mall8 : ∀ r ∈ jm_rows8, jm_mok r := List.forall_mem_cons.mpr ⟨mkX3_sent, List.forall_mem_cons.mpr ⟨mkX10_init, List.forall_mem_cons.mpr ⟨mkX10_moon, List.forall_mem_cons.mpr ⟨mkX10_isIn, List.forall_mem_cons.mpr ⟨mkX10_no, List.forall_mem_cons.mpr ⟨mkX10_out, List.forall_mem_cons.mpr ⟨mkX10_pull, List.forall_mem_cons.mpr ⟨mkX10_isMoon, List.forall_mem_cons.mpr ⟨mkX10_set, List.forall_mem_cons.mpr ⟨mkX10_fading, List.forall_mem_cons.mpr ⟨mkX10_noLong, List.forall_mem_cons.mpr ⟨mkX10_fadingOf, List.forall_mem_cons.mpr ⟨mkX10_waveOf, List.forall_mem_cons.mpr ⟨mkX10_farOf, List.forall_mem_cons.mpr ⟨mkX10_far, List.forall_mem_cons.mpr ⟨mkX10_tool, fun _ h => absurd h List.not_mem_nil⟩⟩⟩⟩⟩⟩⟩⟩⟩⟩⟩⟩⟩⟩⟩⟩
theorem jm_mall9 : ∀ r ∈ jm_rows9, jm_mok r := List.forall_mem_cons.mpr ⟨mkX10_sight, List.forall_mem_cons.mpr ⟨mkX10_tells, List.forall_mem_cons.mpr ⟨mkX10_right, List.forall_mem_cons.mpr ⟨mkX10_isSight, List.forall_mem_cons.mpr ⟨mkX10_rightOf, List.forall_mem_cons.mpr ⟨mkX10_put, List.forall_mem_cons.mpr ⟨mkX10_read, List.forall_mem_cons.mpr ⟨mkX10_takeBack, List.forall_mem_cons.mpr ⟨mkX10_isSent, List.forall_mem_cons.mpr ⟨mkX10_feed, List.forall_mem_cons.mpr ⟨mkX10_table, List.forall_mem_cons.mpr ⟨mkX10_reads, List.forall_mem_cons.mpr ⟨mkX10_oneTerm, List.forall_mem_cons.mpr ⟨mkX10_sign, List.forall_mem_cons.mpr ⟨mkX10_guess, List.forall_mem_cons.mpr ⟨mkX10_says, fun _ h => absurd h List.not_mem_nil⟩⟩⟩⟩⟩⟩⟩⟩⟩⟩⟩⟩⟩⟩⟩⟩
theorem jm_mall10 : ∀ r ∈ jm_rows10, jm_mok r := List.forall_mem_cons.mpr ⟨mkX10_isTable, List.forall_mem_cons.mpr ⟨mkX10_power, List.forall_mem_cons.mpr ⟨mkX10_saysOf, List.forall_mem_cons.mpr ⟨mkX10_guessed, List.forall_mem_cons.mpr ⟨mkX10_digit, List.forall_mem_cons.mpr ⟨mkX10_adds, List.forall_mem_cons.mpr ⟨mkX10_fit, List.forall_mem_cons.mpr ⟨mkX10_notSet, List.forall_mem_cons.mpr ⟨mkX10_score, List.forall_mem_cons.mpr ⟨mkX10_findFit, List.forall_mem_cons.mpr ⟨mkX10_findMine, List.forall_mem_cons.mpr ⟨mkX10_findAdds, List.forall_mem_cons.mpr ⟨mkX10_goesOn, List.forall_mem_cons.mpr ⟨mkX10_counts, List.forall_mem_cons.mpr ⟨mkX10_left, List.forall_mem_cons.mpr ⟨mkX10_leftOf, fun _ h => absurd h List.not_mem_nil⟩⟩⟩⟩⟩⟩⟩⟩⟩⟩⟩⟩⟩⟩⟩⟩
theorem jm_mall11 : ∀ r ∈ jm_rows11, jm_mok r := List.forall_mem_cons.mpr ⟨mkX10_season, List.forall_mem_cons.mpr ⟨mkX10_worth, List.forall_mem_cons.mpr ⟨mkX10_best, List.forall_mem_cons.mpr ⟨mkX10_bestOf, List.forall_mem_cons.mpr ⟨mkX10_allMoons, List.forall_mem_cons.mpr ⟨mkX10_allSights, List.forall_mem_cons.mpr ⟨mkX10_isSlack, List.forall_mem_cons.mpr ⟨mkX10_foretold, List.forall_mem_cons.mpr ⟨mkX10_parts, List.forall_mem_cons.mpr ⟨mkX10_findFits, List.forall_mem_cons.mpr ⟨mkX10_apartAt, List.forall_mem_cons.mpr ⟨mkX10_rhythm, List.forall_mem_cons.mpr ⟨mkX10_apart, List.forall_mem_cons.mpr ⟨mkX10_send, List.forall_mem_cons.mpr ⟨mkX10_isHolder, List.forall_mem_cons.mpr ⟨mkX10_has, fun _ h => absurd h List.not_mem_nil⟩⟩⟩⟩⟩⟩⟩⟩⟩⟩⟩⟩⟩⟩⟩⟩
theorem jm_mall12 : ∀ r ∈ jm_rows12, jm_mok r := List.forall_mem_cons.mpr ⟨mkX10_hasOf, List.forall_mem_cons.mpr ⟨mkX10_believes, List.forall_mem_cons.mpr ⟨mkX10_turn, List.forall_mem_cons.mpr ⟨mkX10_turnOf, List.forall_mem_cons.mpr ⟨mkX10_othersOf, List.forall_mem_cons.mpr ⟨mkX10_watch, List.forall_mem_cons.mpr ⟨mkX10_bits, List.forall_mem_cons.mpr ⟨mkX10_watched, List.forall_mem_cons.mpr ⟨mkX10_image, List.forall_mem_cons.mpr ⟨mkX10_passesAll, List.forall_mem_cons.mpr ⟨mkX10_passes, List.forall_mem_cons.mpr ⟨mkX10_passOne, List.forall_mem_cons.mpr ⟨mkX10_restore, List.forall_mem_cons.mpr ⟨mkX10_count, fun _ h => absurd h List.not_mem_nil⟩⟩⟩⟩⟩⟩⟩⟩⟩⟩⟩⟩⟩⟩
theorem jm_mall : ∀ r ∈ jm_rows, jm_mok r := List.forall_mem_append.mpr ⟨jm_mall0, List.forall_mem_append.mpr ⟨jm_mall1, List.forall_mem_append.mpr ⟨jm_mall2, List.forall_mem_append.mpr ⟨jm_mall3, List.forall_mem_append.mpr ⟨jm_mall4, List.forall_mem_append.mpr ⟨jm_mall5, List.forall_mem_append.mpr ⟨jm_mall6, List.forall_mem_append.mpr ⟨jm_mall7, List.forall_mem_append.mpr ⟨jm_mall8, List.forall_mem_append.mpr ⟨jm_mall9, List.forall_mem_append.mpr ⟨jm_mall10, List.forall_mem_append.mpr ⟨jm_mall11, jm_mall12⟩⟩⟩⟩⟩⟩⟩⟩⟩⟩⟩⟩
/-- what the tables say of a pool's entry -/
def jm_pok (c : Nat) (q : Nat × Nat × Nat × Nat) : Prop := match q.2.1 with
  | 0 => ∃ r, jm_rows[q.2.2.1]? = some r ∧ r ≠ rL_law ∧ (Cond.methodLink (jm_cn c) q.1 (jr_nm r) ∈ lw_good ∨ (jr_kd r ≠ 0 ∧ ∃ host, Cond.methodLinkNest (jm_cn c) q.1 (jr_nm r) host ∈ lw_nest))
  | 1 => Cond.methodLink (jm_cn c) q.1 Lib.objectInit ∈ lw_good
  | 2 => Cond.methodLink (jm_cn c) q.1 arraycopyName ∈ lw_good
  | 3 => q.2.2.1 < 11 ∧ q.2.2.2 < jm_fn q.2.2.1 ∧ Cond.fieldLink (jm_cn c) q.1 (jm_cn q.2.2.1) (jm_fT q.2.2.1 q.2.2.2).2.1 (jm_fT q.2.2.1 q.2.2.2).2.2.1 ∈ lw_good
  | 4 => q.2.2.1 < 8 ∧ (Cond.fieldLink (jm_cn c) q.1 "LateMoons" (jm_sn q.2.2.1) "[I" ∈ lw_good ∨ ∃ host, Cond.fieldLinkNest (jm_cn c) q.1 "LateMoons" (jm_sn q.2.2.1) "[I" host ∈ lw_nest)
  | 5 => q.2.2.1 < 11 ∧ Cond.classLink (jm_cn c) q.1 (jm_cn q.2.2.1) ∈ lw_good
  | 6 => match q.2.2.1 with
    | 0 => Cond.methodLink (jm_cn c) q.1 Lib.Math.max.name ∈ lw_good
    | 1 => Cond.methodLink (jm_cn c) q.1 Lib.Math.min.name ∈ lw_good
    | 2 => Cond.methodLink (jm_cn c) q.1 Lib.MathLoose.max_long.x ∈ lw_good
    | 3 => Cond.methodLink (jm_cn c) q.1 Lib.MathLoose.min_long.x ∈ lw_good
    | 4 => Cond.methodLink (jm_cn c) q.1 Lib.MathLoose.abs_long.x ∈ lw_good
    | _ => False
  | _ => False
theorem pk_0_3 : jm_pok 0 (3, 1, 0, 0) := jm_gt (jm_t1 232 rfl) rfl
theorem pk_0_9 : jm_pok 0 (9, 3, 0, 2) := ⟨by decide, by decide, jm_gt (jm_t1 235 rfl) rfl⟩
theorem pk_0_15 : jm_pok 0 (15, 3, 0, 3) := ⟨by decide, by decide, jm_gt (jm_t1 236 rfl) rfl⟩
theorem pk_0_19 : jm_pok 0 (19, 3, 0, 4) := ⟨by decide, by decide, jm_gt (jm_t1 237 rfl) rfl⟩
theorem pk_0_22 : jm_pok 0 (22, 3, 0, 0) := ⟨by decide, by decide, jm_gt (jm_t1 233 rfl) rfl⟩
theorem pk_0_26 : jm_pok 0 (26, 3, 0, 1) := ⟨by decide, by decide, jm_gt (jm_t1 234 rfl) rfl⟩
theorem pk_0_29 : jm_pok 0 (29, 3, 0, 7) := ⟨by decide, by decide, jm_gt (jm_t2 0 rfl) rfl⟩
theorem pk_0_33 : jm_pok 0 (33, 3, 0, 5) := ⟨by decide, by decide, jm_gt (jm_t1 238 rfl) rfl⟩
theorem pk_0_36 : jm_pok 0 (36, 3, 8, 4) := ⟨by decide, by decide, jm_gt (jm_t1 183 rfl) rfl⟩
theorem pk_0_42 : jm_pok 0 (42, 3, 4, 1) := ⟨by decide, by decide, jm_gt (jm_t1 155 rfl) rfl⟩
theorem pk_0_47 : jm_pok 0 (47, 0, 55, 0) := ⟨rX4_termOf, rfl, fun h => absurd (congrArg (fun r => (jr_nm r).name) h) (by decide), Or.inl (jm_gt (jm_t3 73 rfl) rfl)⟩
theorem pk_0_51 : jm_pok 0 (51, 4, 7, 0) := ⟨by decide, Or.inr ⟨_, jm_nt (jm_t3 74 rfl) rfl⟩⟩
theorem pk_0_54 : jm_pok 0 (54, 3, 0, 6) := ⟨by decide, by decide, jm_gt (jm_t1 239 rfl) rfl⟩
theorem pk_0_57 : jm_pok 0 (57, 3, 8, 3) := ⟨by decide, by decide, jm_gt (jm_t1 179 rfl) rfl⟩
theorem pk_0_61 : jm_pok 0 (61, 3, 3, 8) := ⟨by decide, by decide, jm_gt (jm_t1 124 rfl) rfl⟩
theorem pk_0_66 : jm_pok 0 (66, 0, 63, 0) := ⟨rX3_isIn, rfl, fun h => absurd (congrArg (fun r => (jr_nm r).name) h) (by decide), Or.inl (jm_gt (jm_t3 79 rfl) rfl)⟩
theorem pk_0_70 : jm_pok 0 (70, 0, 64, 0) := ⟨rX0_addSight, rfl, fun h => absurd (congrArg (fun r => (jr_nm r).name) h) (by decide), Or.inl (jm_gt (jm_t3 83 rfl) rfl)⟩
theorem pk_0_74 : jm_pok 0 (74, 0, 65, 0) := ⟨rX0_spread, rfl, fun h => absurd (congrArg (fun r => (jr_nm r).name) h) (by decide), Or.inl (jm_gt (jm_t3 87 rfl) rfl)⟩
theorem pk_0_77 : jm_pok 0 (77, 6, 4, 0) := jm_gt (jm_t3 99 rfl) rfl
theorem pk_0_83 : jm_pok 0 (83, 0, 68, 0) := ⟨rX0_fitTry, rfl, fun h => absurd (congrArg (fun r => (jr_nm r).name) h) (by decide), Or.inl (jm_gt (jm_t3 106 rfl) rfl)⟩
theorem pk_0_87 : jm_pok 0 (87, 0, 69, 0) := ⟨rX0_digitOf, rfl, fun h => absurd (congrArg (fun r => (jr_nm r).name) h) (by decide), Or.inl (jm_gt (jm_t3 110 rfl) rfl)⟩
theorem pk_0_90 : jm_pok 0 (90, 0, 71, 0) := ⟨rX0_leastSum, rfl, fun h => absurd (congrArg (fun r => (jr_nm r).name) h) (by decide), Or.inl (jm_gt (jm_t3 118 rfl) rfl)⟩
theorem pk_0_94 : jm_pok 0 (94, 0, 72, 0) := ⟨rX0_price, rfl, fun h => absurd (congrArg (fun r => (jr_nm r).name) h) (by decide), Or.inl (jm_gt (jm_t3 122 rfl) rfl)⟩
theorem pk_0_99 : jm_pok 0 (99, 6, 3, 0) := jm_gt (jm_t4 44 rfl) rfl
theorem pk_0_105 : jm_pok 0 (105, 6, 2, 0) := jm_gt (jm_t3 188 rfl) rfl
theorem pk_0_108 : jm_pok 0 (108, 3, 8, 0) := ⟨by decide, by decide, jm_gt (jm_t1 172 rfl) rfl⟩
theorem pk_0_111 : jm_pok 0 (111, 3, 3, 1) := ⟨by decide, by decide, jm_gt (jm_t1 110 rfl) rfl⟩
theorem pk_0_114 : jm_pok 0 (114, 0, 54, 0) := ⟨rX8_guessedAt, rfl, fun h => absurd (congrArg (fun r => (jr_nm r).name) h) (by decide), Or.inl (jm_gt (jm_t3 91 rfl) rfl)⟩
theorem pk_0_118 : jm_pok 0 (118, 0, 25, 0) := ⟨rX8_farOf, rfl, fun h => absurd (congrArg (fun r => (jr_nm r).name) h) (by decide), Or.inl (jm_gt (jm_t3 92 rfl) rfl)⟩
theorem pk_0_122 : jm_pok 0 (122, 0, 34, 0) := ⟨rX8_putRight, rfl, fun h => absurd (congrArg (fun r => (jr_nm r).name) h) (by decide), Or.inl (jm_gt (jm_t3 93 rfl) rfl)⟩
theorem pk_0_126 : jm_pok 0 (126, 0, 56, 0) := ⟨rX8_share, rfl, fun h => absurd (congrArg (fun r => (jr_nm r).name) h) (by decide), Or.inl (jm_gt (jm_t3 94 rfl) rfl)⟩
theorem pk_0_130 : jm_pok 0 (130, 0, 66, 0) := ⟨rX0_widen, rfl, fun h => absurd (congrArg (fun r => (jr_nm r).name) h) (by decide), Or.inl (jm_gt (jm_t3 95 rfl) rfl)⟩
theorem jm_pall0 : ∀ q ∈ jm_pl0, jm_pok 0 q := List.forall_mem_cons.mpr ⟨pk_0_3, List.forall_mem_cons.mpr ⟨pk_0_9, List.forall_mem_cons.mpr ⟨pk_0_15, List.forall_mem_cons.mpr ⟨pk_0_19, List.forall_mem_cons.mpr ⟨pk_0_22, List.forall_mem_cons.mpr ⟨pk_0_26, List.forall_mem_cons.mpr ⟨pk_0_29, List.forall_mem_cons.mpr ⟨pk_0_33, List.forall_mem_cons.mpr ⟨pk_0_36, List.forall_mem_cons.mpr ⟨pk_0_42, List.forall_mem_cons.mpr ⟨pk_0_47, List.forall_mem_cons.mpr ⟨pk_0_51, List.forall_mem_cons.mpr ⟨pk_0_54, List.forall_mem_cons.mpr ⟨pk_0_57, List.forall_mem_cons.mpr ⟨pk_0_61, List.forall_mem_cons.mpr ⟨pk_0_66, List.forall_mem_cons.mpr ⟨pk_0_70, List.forall_mem_cons.mpr ⟨pk_0_74, List.forall_mem_cons.mpr ⟨pk_0_77, List.forall_mem_cons.mpr ⟨pk_0_83, List.forall_mem_cons.mpr ⟨pk_0_87, List.forall_mem_cons.mpr ⟨pk_0_90, List.forall_mem_cons.mpr ⟨pk_0_94, List.forall_mem_cons.mpr ⟨pk_0_99, List.forall_mem_cons.mpr ⟨pk_0_105, List.forall_mem_cons.mpr ⟨pk_0_108, List.forall_mem_cons.mpr ⟨pk_0_111, List.forall_mem_cons.mpr ⟨pk_0_114, List.forall_mem_cons.mpr ⟨pk_0_118, List.forall_mem_cons.mpr ⟨pk_0_122, List.forall_mem_cons.mpr ⟨pk_0_126, List.forall_mem_cons.mpr ⟨pk_0_130, fun _ h => absurd h List.not_mem_nil⟩⟩⟩⟩⟩⟩⟩⟩⟩⟩⟩⟩⟩⟩⟩⟩⟩⟩⟩⟩⟩⟩⟩⟩⟩⟩⟩⟩⟩⟩⟩⟩
theorem jm_kiall0 : ∀ q ∈ jm_ki0, Cond.constant (jm_cn 0) q.1 q.2 ∈ lw_good := fun _ h => absurd h List.not_mem_nil
theorem pkl_0_97 : Cond.constantLong (jm_cn 0) 97 (9223372036854775807) ∈ lw_good := jm_gt (jm_t4 43 rfl) rfl
theorem pkl_0_103 : Cond.constantLong (jm_cn 0) 103 (-1) ∈ lw_good := jm_gt (jm_t3 187 rfl) rfl
theorem jm_klall0 : ∀ q ∈ jm_kl0, Cond.constantLong (jm_cn 0) q.1 q.2 ∈ lw_good := List.forall_mem_cons.mpr ⟨pkl_0_97, List.forall_mem_cons.mpr ⟨pkl_0_103, fun _ h => absurd h List.not_mem_nil⟩⟩
theorem pk_1_3 : jm_pok 1 (3, 1, 0, 0) := jm_gt (jm_t1 225 rfl) rfl
theorem pk_1_9 : jm_pok 1 (9, 5, 0, 0) := ⟨by decide, jm_gt (jm_t1 226 rfl) rfl⟩
theorem pk_1_11 : jm_pok 1 (11, 3, 1, 1) := ⟨by decide, by decide, jm_gt (jm_t2 20 rfl) rfl⟩
theorem pk_1_17 : jm_pok 1 (17, 3, 1, 2) := ⟨by decide, by decide, jm_gt (jm_t2 21 rfl) rfl⟩
theorem pk_1_21 : jm_pok 1 (21, 3, 1, 0) := ⟨by decide, by decide, jm_gt (jm_t2 19 rfl) rfl⟩
theorem pk_1_25 : jm_pok 1 (25, 0, 9, 0) := ⟨rX0_init, rfl, fun h => absurd (congrArg (fun r => (jr_nm r).name) h) (by decide), Or.inl (jm_gt (jm_t1 229 rfl) rfl)⟩
theorem pk_1_28 : jm_pok 1 (28, 0, 61, 0) := ⟨rX0_start, rfl, fun h => absurd (congrArg (fun r => (jr_nm r).name) h) (by decide), Or.inl (jm_gt (jm_t3 69 rfl) rfl)⟩
theorem pk_1_32 : jm_pok 1 (32, 0, 62, 0) := ⟨rX0_addSet, rfl, fun h => absurd (congrArg (fun r => (jr_nm r).name) h) (by decide), Or.inl (jm_gt (jm_t3 75 rfl) rfl)⟩
theorem pk_1_36 : jm_pok 1 (36, 3, 8, 4) := ⟨by decide, by decide, jm_gt (jm_t1 184 rfl) rfl⟩
theorem pk_1_42 : jm_pok 1 (42, 3, 4, 2) := ⟨by decide, by decide, jm_gt (jm_t1 159 rfl) rfl⟩
theorem pk_1_50 : jm_pok 1 (50, 0, 70, 0) := ⟨rX0_score, rfl, fun h => absurd (congrArg (fun r => (jr_nm r).name) h) (by decide), Or.inl (jm_gt (jm_t3 168 rfl) rfl)⟩
theorem pk_1_54 : jm_pok 1 (54, 0, 83, 0) := ⟨rX4_placeOf, rfl, fun h => absurd (congrArg (fun r => (jr_nm r).name) h) (by decide), Or.inl (jm_gt (jm_t3 182 rfl) rfl)⟩
theorem pk_1_58 : jm_pok 1 (58, 3, 8, 1) := ⟨by decide, by decide, jm_gt (jm_t1 175 rfl) rfl⟩
theorem pk_1_62 : jm_pok 1 (62, 3, 2, 0) := ⟨by decide, by decide, jm_gt (jm_t1 38 rfl) rfl⟩
theorem pk_1_68 : jm_pok 1 (68, 3, 8, 0) := ⟨by decide, by decide, jm_gt (jm_t1 171 rfl) rfl⟩
theorem pk_1_71 : jm_pok 1 (71, 0, 85, 0) := ⟨rX0_bitsWithin, rfl, fun h => absurd (congrArg (fun r => (jr_nm r).name) h) (by decide), Or.inl (jm_gt (jm_t3 183 rfl) rfl)⟩
theorem pk_1_74 : jm_pok 1 (74, 0, 81, 0) := ⟨rX1_bestNow, rfl, fun h => absurd (congrArg (fun r => (jr_nm r).name) h) (by decide), Or.inl (jm_gt (jm_t4 28 rfl) rfl)⟩
theorem pk_1_78 : jm_pok 1 (78, 0, 104, 0) := ⟨rX1_findOthers, rfl, fun h => absurd (congrArg (fun r => (jr_nm r).name) h) (by decide), Or.inl (jm_gt (jm_t4 29 rfl) rfl)⟩
theorem pk_1_82 : jm_pok 1 (82, 0, 105, 0) := ⟨rX1_bestWith, rfl, fun h => absurd (congrArg (fun r => (jr_nm r).name) h) (by decide), Or.inl (jm_gt (jm_t4 35 rfl) rfl)⟩
theorem pk_1_86 : jm_pok 1 (86, 0, 107, 0) := ⟨rX1_addToAll, rfl, fun h => absurd (congrArg (fun r => (jr_nm r).name) h) (by decide), Or.inl (jm_gt (jm_t4 45 rfl) rfl)⟩
theorem pk_1_90 : jm_pok 1 (90, 0, 108, 0) := ⟨rX1_dropFromAll, rfl, fun h => absurd (congrArg (fun r => (jr_nm r).name) h) (by decide), Or.inl (jm_gt (jm_t4 50 rfl) rfl)⟩
theorem pk_1_95 : jm_pok 1 (95, 3, 8, 3) := ⟨by decide, by decide, jm_gt (jm_t1 180 rfl) rfl⟩
theorem pk_1_99 : jm_pok 1 (99, 3, 3, 8) := ⟨by decide, by decide, jm_gt (jm_t1 125 rfl) rfl⟩
theorem pk_1_104 : jm_pok 1 (104, 0, 63, 0) := ⟨rX3_isIn, rfl, fun h => absurd (congrArg (fun r => (jr_nm r).name) h) (by decide), Or.inl (jm_gt (jm_t4 34 rfl) rfl)⟩
theorem pk_1_108 : jm_pok 1 (108, 0, 106, 0) := ⟨rX0_scoreWith, rfl, fun h => absurd (congrArg (fun r => (jr_nm r).name) h) (by decide), Or.inl (jm_gt (jm_t4 39 rfl) rfl)⟩
theorem pk_1_112 : jm_pok 1 (112, 0, 64, 0) := ⟨rX0_addSight, rfl, fun h => absurd (congrArg (fun r => (jr_nm r).name) h) (by decide), Or.inl (jm_gt (jm_t4 49 rfl) rfl)⟩
theorem pk_1_115 : jm_pok 1 (115, 0, 109, 0) := ⟨rX0_dropSight, rfl, fun h => absurd (congrArg (fun r => (jr_nm r).name) h) (by decide), Or.inl (jm_gt (jm_t4 54 rfl) rfl)⟩
theorem jm_pall1 : ∀ q ∈ jm_pl1, jm_pok 1 q := List.forall_mem_cons.mpr ⟨pk_1_3, List.forall_mem_cons.mpr ⟨pk_1_9, List.forall_mem_cons.mpr ⟨pk_1_11, List.forall_mem_cons.mpr ⟨pk_1_17, List.forall_mem_cons.mpr ⟨pk_1_21, List.forall_mem_cons.mpr ⟨pk_1_25, List.forall_mem_cons.mpr ⟨pk_1_28, List.forall_mem_cons.mpr ⟨pk_1_32, List.forall_mem_cons.mpr ⟨pk_1_36, List.forall_mem_cons.mpr ⟨pk_1_42, List.forall_mem_cons.mpr ⟨pk_1_50, List.forall_mem_cons.mpr ⟨pk_1_54, List.forall_mem_cons.mpr ⟨pk_1_58, List.forall_mem_cons.mpr ⟨pk_1_62, List.forall_mem_cons.mpr ⟨pk_1_68, List.forall_mem_cons.mpr ⟨pk_1_71, List.forall_mem_cons.mpr ⟨pk_1_74, List.forall_mem_cons.mpr ⟨pk_1_78, List.forall_mem_cons.mpr ⟨pk_1_82, List.forall_mem_cons.mpr ⟨pk_1_86, List.forall_mem_cons.mpr ⟨pk_1_90, List.forall_mem_cons.mpr ⟨pk_1_95, List.forall_mem_cons.mpr ⟨pk_1_99, List.forall_mem_cons.mpr ⟨pk_1_104, List.forall_mem_cons.mpr ⟨pk_1_108, List.forall_mem_cons.mpr ⟨pk_1_112, List.forall_mem_cons.mpr ⟨pk_1_115, fun _ h => absurd h List.not_mem_nil⟩⟩⟩⟩⟩⟩⟩⟩⟩⟩⟩⟩⟩⟩⟩⟩⟩⟩⟩⟩⟩⟩⟩⟩⟩⟩⟩
theorem jm_kiall1 : ∀ q ∈ jm_ki1, Cond.constant (jm_cn 1) q.1 q.2 ∈ lw_good := fun _ h => absurd h List.not_mem_nil
theorem pkl_1_48 : Cond.constantLong (jm_cn 1) 48 (9223372036854775807) ∈ lw_good := jm_gt (jm_t3 167 rfl) rfl
theorem pkl_1_93 : Cond.constantLong (jm_cn 1) 93 (-9) ∈ lw_good := jm_gt (jm_t4 58 rfl) rfl
theorem pkl_1_102 : Cond.constantLong (jm_cn 1) 102 (-1) ∈ lw_good := jm_gt (jm_t4 33 rfl) rfl
theorem jm_klall1 : ∀ q ∈ jm_kl1, Cond.constantLong (jm_cn 1) q.1 q.2 ∈ lw_good := List.forall_mem_cons.mpr ⟨pkl_1_48, List.forall_mem_cons.mpr ⟨pkl_1_93, List.forall_mem_cons.mpr ⟨pkl_1_102, fun _ h => absurd h List.not_mem_nil⟩⟩⟩
theorem pk_2_3 : jm_pok 2 (3, 1, 0, 0) := jm_gt (jm_t1 35 rfl) rfl
theorem pk_2_9 : jm_pok 2 (9, 3, 2, 0) := ⟨by decide, by decide, jm_gt (jm_t1 36 rfl) rfl⟩
theorem pk_2_15 : jm_pok 2 (15, 3, 2, 1) := ⟨by decide, by decide, jm_gt (jm_t1 40 rfl) rfl⟩
theorem pk_2_19 : jm_pok 2 (19, 3, 2, 2) := ⟨by decide, by decide, jm_gt (jm_t1 42 rfl) rfl⟩
theorem pk_2_22 : jm_pok 2 (22, 3, 2, 3) := ⟨by decide, by decide, jm_gt (jm_t1 44 rfl) rfl⟩
theorem pk_2_25 : jm_pok 2 (25, 3, 2, 4) := ⟨by decide, by decide, jm_gt (jm_t1 46 rfl) rfl⟩
theorem pk_2_28 : jm_pok 2 (28, 3, 2, 5) := ⟨by decide, by decide, jm_gt (jm_t1 48 rfl) rfl⟩
theorem pk_2_31 : jm_pok 2 (31, 3, 2, 6) := ⟨by decide, by decide, jm_gt (jm_t1 51 rfl) rfl⟩
theorem pk_2_34 : jm_pok 2 (34, 3, 2, 7) := ⟨by decide, by decide, jm_gt (jm_t1 54 rfl) rfl⟩
theorem pk_2_39 : jm_pok 2 (39, 6, 4, 0) := jm_gt (jm_t3 214 rfl) rfl
theorem pk_2_45 : jm_pok 2 (45, 0, 119, 0) := ⟨rX9_copy, rfl, fun h => absurd (congrArg (fun r => (jr_nm r).name) h) (by decide), Or.inr ⟨by decide, _, jm_nt (jm_t4 114 rfl) rfl⟩⟩
theorem jm_pall2 : ∀ q ∈ jm_pl2, jm_pok 2 q := List.forall_mem_cons.mpr ⟨pk_2_3, List.forall_mem_cons.mpr ⟨pk_2_9, List.forall_mem_cons.mpr ⟨pk_2_15, List.forall_mem_cons.mpr ⟨pk_2_19, List.forall_mem_cons.mpr ⟨pk_2_22, List.forall_mem_cons.mpr ⟨pk_2_25, List.forall_mem_cons.mpr ⟨pk_2_28, List.forall_mem_cons.mpr ⟨pk_2_31, List.forall_mem_cons.mpr ⟨pk_2_34, List.forall_mem_cons.mpr ⟨pk_2_39, List.forall_mem_cons.mpr ⟨pk_2_45, fun _ h => absurd h List.not_mem_nil⟩⟩⟩⟩⟩⟩⟩⟩⟩⟩⟩
theorem jm_kiall2 : ∀ q ∈ jm_ki2, Cond.constant (jm_cn 2) q.1 q.2 ∈ lw_good := fun _ h => absurd h List.not_mem_nil
theorem pkl_2_37 : Cond.constantLong (jm_cn 2) 37 (9223372036854775807) ∈ lw_good := jm_gt (jm_t3 213 rfl) rfl
theorem jm_klall2 : ∀ q ∈ jm_kl2, Cond.constantLong (jm_cn 2) q.1 q.2 ∈ lw_good := List.forall_mem_cons.mpr ⟨pkl_2_37, fun _ h => absurd h List.not_mem_nil⟩
theorem pk_3_3 : jm_pok 3 (3, 1, 0, 0) := jm_gt (jm_t1 104 rfl) rfl
theorem pk_3_9 : jm_pok 3 (9, 3, 3, 0) := ⟨by decide, by decide, jm_gt (jm_t1 105 rfl) rfl⟩
theorem pk_3_15 : jm_pok 3 (15, 3, 3, 1) := ⟨by decide, by decide, jm_gt (jm_t1 108 rfl) rfl⟩
theorem pk_3_18 : jm_pok 3 (18, 3, 3, 2) := ⟨by decide, by decide, jm_gt (jm_t1 111 rfl) rfl⟩
theorem pk_3_21 : jm_pok 3 (21, 3, 3, 3) := ⟨by decide, by decide, jm_gt (jm_t1 114 rfl) rfl⟩
theorem pk_3_24 : jm_pok 3 (24, 3, 3, 4) := ⟨by decide, by decide, jm_gt (jm_t1 116 rfl) rfl⟩
theorem pk_3_27 : jm_pok 3 (27, 3, 3, 5) := ⟨by decide, by decide, jm_gt (jm_t1 118 rfl) rfl⟩
theorem pk_3_30 : jm_pok 3 (30, 3, 3, 6) := ⟨by decide, by decide, jm_gt (jm_t1 120 rfl) rfl⟩
theorem pk_3_33 : jm_pok 3 (33, 3, 3, 7) := ⟨by decide, by decide, jm_gt (jm_t1 122 rfl) rfl⟩
theorem pk_3_36 : jm_pok 3 (36, 3, 3, 8) := ⟨by decide, by decide, jm_gt (jm_t1 123 rfl) rfl⟩
theorem pk_3_40 : jm_pok 3 (40, 0, 42, 0) := ⟨rX3_sentOf, rfl, fun h => absurd (congrArg (fun r => (jr_nm r).name) h) (by decide), Or.inl (jm_gt (jm_t4 151 rfl) rfl)⟩
theorem pk_3_44 : jm_pok 3 (44, 0, 119, 0) := ⟨rX9_copy, rfl, fun h => absurd (congrArg (fun r => (jr_nm r).name) h) (by decide), Or.inr ⟨by decide, _, jm_nt (jm_t4 125 rfl) rfl⟩⟩
theorem jm_pall3 : ∀ q ∈ jm_pl3, jm_pok 3 q := List.forall_mem_cons.mpr ⟨pk_3_3, List.forall_mem_cons.mpr ⟨pk_3_9, List.forall_mem_cons.mpr ⟨pk_3_15, List.forall_mem_cons.mpr ⟨pk_3_18, List.forall_mem_cons.mpr ⟨pk_3_21, List.forall_mem_cons.mpr ⟨pk_3_24, List.forall_mem_cons.mpr ⟨pk_3_27, List.forall_mem_cons.mpr ⟨pk_3_30, List.forall_mem_cons.mpr ⟨pk_3_33, List.forall_mem_cons.mpr ⟨pk_3_36, List.forall_mem_cons.mpr ⟨pk_3_40, List.forall_mem_cons.mpr ⟨pk_3_44, fun _ h => absurd h List.not_mem_nil⟩⟩⟩⟩⟩⟩⟩⟩⟩⟩⟩⟩
theorem jm_kiall3 : ∀ q ∈ jm_ki3, Cond.constant (jm_cn 3) q.1 q.2 ∈ lw_good := fun _ h => absurd h List.not_mem_nil
theorem jm_klall3 : ∀ q ∈ jm_kl3, Cond.constantLong (jm_cn 3) q.1 q.2 ∈ lw_good := fun _ h => absurd h List.not_mem_nil
theorem pk_4_3 : jm_pok 4 (3, 1, 0, 0) := jm_gt (jm_t1 152 rfl) rfl
theorem pk_4_9 : jm_pok 4 (9, 3, 4, 0) := ⟨by decide, by decide, jm_gt (jm_t1 153 rfl) rfl⟩
theorem pk_4_15 : jm_pok 4 (15, 3, 4, 1) := ⟨by decide, by decide, jm_gt (jm_t1 154 rfl) rfl⟩
theorem pk_4_18 : jm_pok 4 (18, 3, 4, 2) := ⟨by decide, by decide, jm_gt (jm_t1 158 rfl) rfl⟩
theorem pk_4_22 : jm_pok 4 (22, 3, 5, 3) := ⟨by decide, by decide, jm_gt (jm_t1 209 rfl) rfl⟩
theorem pk_4_27 : jm_pok 4 (27, 3, 5, 2) := ⟨by decide, by decide, jm_gt (jm_t1 208 rfl) rfl⟩
theorem pk_4_28 : jm_pok 4 (28, 0, 55, 0) := ⟨rX4_termOf, rfl, fun h => absurd (congrArg (fun r => (jr_nm r).name) h) (by decide), Or.inl (jm_gt (jm_t3 177 rfl) rfl)⟩
theorem pk_4_32 : jm_pok 4 (32, 0, 119, 0) := ⟨rX9_copy, rfl, fun h => absurd (congrArg (fun r => (jr_nm r).name) h) (by decide), Or.inr ⟨by decide, _, jm_nt (jm_t4 130 rfl) rfl⟩⟩
theorem jm_pall4 : ∀ q ∈ jm_pl4, jm_pok 4 q := List.forall_mem_cons.mpr ⟨pk_4_3, List.forall_mem_cons.mpr ⟨pk_4_9, List.forall_mem_cons.mpr ⟨pk_4_15, List.forall_mem_cons.mpr ⟨pk_4_18, List.forall_mem_cons.mpr ⟨pk_4_22, List.forall_mem_cons.mpr ⟨pk_4_27, List.forall_mem_cons.mpr ⟨pk_4_28, List.forall_mem_cons.mpr ⟨pk_4_32, fun _ h => absurd h List.not_mem_nil⟩⟩⟩⟩⟩⟩⟩⟩
theorem jm_kiall4 : ∀ q ∈ jm_ki4, Cond.constant (jm_cn 4) q.1 q.2 ∈ lw_good := fun _ h => absurd h List.not_mem_nil
theorem jm_klall4 : ∀ q ∈ jm_kl4, Cond.constantLong (jm_cn 4) q.1 q.2 ∈ lw_good := fun _ h => absurd h List.not_mem_nil
theorem pk_5_3 : jm_pok 5 (3, 1, 0, 0) := jm_gt (jm_t1 203 rfl) rfl
theorem pk_5_9 : jm_pok 5 (9, 3, 5, 0) := ⟨by decide, by decide, jm_gt (jm_t1 204 rfl) rfl⟩
theorem pk_5_15 : jm_pok 5 (15, 3, 5, 2) := ⟨by decide, by decide, jm_gt (jm_t1 207 rfl) rfl⟩
theorem pk_5_18 : jm_pok 5 (18, 3, 5, 1) := ⟨by decide, by decide, jm_gt (jm_t1 205 rfl) rfl⟩
theorem pk_5_22 : jm_pok 5 (22, 3, 5, 3) := ⟨by decide, by decide, jm_gt (jm_t1 210 rfl) rfl⟩
theorem pk_5_25 : jm_pok 5 (25, 0, 47, 0) := ⟨rX5_readTerm, rfl, fun h => absurd (congrArg (fun r => (jr_nm r).name) h) (by decide), Or.inl (jm_gt (jm_t3 10 rfl) rfl)⟩
theorem pk_5_29 : jm_pok 5 (29, 0, 48, 0) := ⟨rX5_termAt, rfl, fun h => absurd (congrArg (fun r => (jr_nm r).name) h) (by decide), Or.inl (jm_gt (jm_t3 14 rfl) rfl)⟩
theorem pk_5_32 : jm_pok 5 (32, 0, 12, 0) := ⟨rX9_isWithin, rfl, fun h => absurd (congrArg (fun r => (jr_nm r).name) h) (by decide), Or.inr ⟨by decide, _, jm_nt (jm_t3 18 rfl) rfl⟩⟩
theorem jm_pall5 : ∀ q ∈ jm_pl5, jm_pok 5 q := List.forall_mem_cons.mpr ⟨pk_5_3, List.forall_mem_cons.mpr ⟨pk_5_9, List.forall_mem_cons.mpr ⟨pk_5_15, List.forall_mem_cons.mpr ⟨pk_5_18, List.forall_mem_cons.mpr ⟨pk_5_22, List.forall_mem_cons.mpr ⟨pk_5_25, List.forall_mem_cons.mpr ⟨pk_5_29, List.forall_mem_cons.mpr ⟨pk_5_32, fun _ h => absurd h List.not_mem_nil⟩⟩⟩⟩⟩⟩⟩⟩
theorem jm_kiall5 : ∀ q ∈ jm_ki5, Cond.constant (jm_cn 5) q.1 q.2 ∈ lw_good := fun _ h => absurd h List.not_mem_nil
theorem jm_klall5 : ∀ q ∈ jm_kl5, Cond.constantLong (jm_cn 5) q.1 q.2 ∈ lw_good := fun _ h => absurd h List.not_mem_nil
theorem pk_6_3 : jm_pok 6 (3, 1, 0, 0) := jm_gt (jm_t1 81 rfl) rfl
theorem pk_6_9 : jm_pok 6 (9, 3, 6, 0) := ⟨by decide, by decide, jm_gt (jm_t1 82 rfl) rfl⟩
theorem pk_6_15 : jm_pok 6 (15, 3, 6, 1) := ⟨by decide, by decide, jm_gt (jm_t1 84 rfl) rfl⟩
theorem pk_6_18 : jm_pok 6 (18, 3, 6, 2) := ⟨by decide, by decide, jm_gt (jm_t1 86 rfl) rfl⟩
theorem pk_6_21 : jm_pok 6 (21, 3, 6, 3) := ⟨by decide, by decide, jm_gt (jm_t1 88 rfl) rfl⟩
theorem pk_6_24 : jm_pok 6 (24, 0, 28, 0) := ⟨rX6_rowOf, rfl, fun h => absurd (congrArg (fun r => (jr_nm r).name) h) (by decide), Or.inl (jm_gt (jm_t4 119 rfl) rfl)⟩
theorem pk_6_28 : jm_pok 6 (28, 0, 119, 0) := ⟨rX9_copy, rfl, fun h => absurd (congrArg (fun r => (jr_nm r).name) h) (by decide), Or.inr ⟨by decide, _, jm_nt (jm_t4 120 rfl) rfl⟩⟩
theorem jm_pall6 : ∀ q ∈ jm_pl6, jm_pok 6 q := List.forall_mem_cons.mpr ⟨pk_6_3, List.forall_mem_cons.mpr ⟨pk_6_9, List.forall_mem_cons.mpr ⟨pk_6_15, List.forall_mem_cons.mpr ⟨pk_6_18, List.forall_mem_cons.mpr ⟨pk_6_21, List.forall_mem_cons.mpr ⟨pk_6_24, List.forall_mem_cons.mpr ⟨pk_6_28, fun _ h => absurd h List.not_mem_nil⟩⟩⟩⟩⟩⟩⟩
theorem jm_kiall6 : ∀ q ∈ jm_ki6, Cond.constant (jm_cn 6) q.1 q.2 ∈ lw_good := fun _ h => absurd h List.not_mem_nil
theorem jm_klall6 : ∀ q ∈ jm_kl6, Cond.constantLong (jm_cn 6) q.1 q.2 ∈ lw_good := fun _ h => absurd h List.not_mem_nil
theorem pk_7_3 : jm_pok 7 (3, 1, 0, 0) := jm_gt (jm_t2 34 rfl) rfl
theorem pk_7_9 : jm_pok 7 (9, 3, 7, 1) := ⟨by decide, by decide, jm_gt (jm_t2 36 rfl) rfl⟩
theorem pk_7_15 : jm_pok 7 (15, 3, 7, 2) := ⟨by decide, by decide, jm_gt (jm_t2 37 rfl) rfl⟩
theorem pk_7_18 : jm_pok 7 (18, 3, 7, 3) := ⟨by decide, by decide, jm_gt (jm_t2 38 rfl) rfl⟩
theorem pk_7_22 : jm_pok 7 (22, 3, 7, 0) := ⟨by decide, by decide, jm_gt (jm_t2 35 rfl) rfl⟩
theorem pk_7_26 : jm_pok 7 (26, 0, 53, 0) := ⟨rX8_said, rfl, fun h => absurd (congrArg (fun r => (jr_nm r).name) h) (by decide), Or.inl (jm_gt (jm_t4 67 rfl) rfl)⟩
theorem pk_7_32 : jm_pok 7 (32, 3, 7, 4) := ⟨by decide, by decide, jm_gt (jm_t2 39 rfl) rfl⟩
theorem pk_7_36 : jm_pok 7 (36, 3, 8, 4) := ⟨by decide, by decide, jm_gt (jm_t1 185 rfl) rfl⟩
theorem pk_7_40 : jm_pok 7 (40, 3, 4, 2) := ⟨by decide, by decide, jm_gt (jm_t1 160 rfl) rfl⟩
theorem pk_7_45 : jm_pok 7 (45, 6, 4, 0) := jm_gt (jm_t4 72 rfl) rfl
theorem pk_7_53 : jm_pok 7 (53, 0, 114, 0) := ⟨rJ6_bitCount_0f7a4, rfl, fun h => absurd (congrArg (fun r => (jr_nm r).name) h) (by decide), Or.inl (jm_gt (jm_t4 78 rfl) rfl)⟩
theorem pk_7_59 : jm_pok 7 (59, 0, 115, 0) := ⟨rX7_pick, rfl, fun h => absurd (congrArg (fun r => (jr_nm r).name) h) (by decide), Or.inl (jm_gt (jm_t4 84 rfl) rfl)⟩
theorem pk_7_63 : jm_pok 7 (63, 0, 116, 0) := ⟨rX7_gapsOfPicked, rfl, fun h => absurd (congrArg (fun r => (jr_nm r).name) h) (by decide), Or.inl (jm_gt (jm_t4 88 rfl) rfl)⟩
theorem pk_7_67 : jm_pok 7 (67, 6, 2, 0) := jm_gt (jm_t4 92 rfl) rfl
theorem jm_pall7 : ∀ q ∈ jm_pl7, jm_pok 7 q := List.forall_mem_cons.mpr ⟨pk_7_3, List.forall_mem_cons.mpr ⟨pk_7_9, List.forall_mem_cons.mpr ⟨pk_7_15, List.forall_mem_cons.mpr ⟨pk_7_18, List.forall_mem_cons.mpr ⟨pk_7_22, List.forall_mem_cons.mpr ⟨pk_7_26, List.forall_mem_cons.mpr ⟨pk_7_32, List.forall_mem_cons.mpr ⟨pk_7_36, List.forall_mem_cons.mpr ⟨pk_7_40, List.forall_mem_cons.mpr ⟨pk_7_45, List.forall_mem_cons.mpr ⟨pk_7_53, List.forall_mem_cons.mpr ⟨pk_7_59, List.forall_mem_cons.mpr ⟨pk_7_63, List.forall_mem_cons.mpr ⟨pk_7_67, fun _ h => absurd h List.not_mem_nil⟩⟩⟩⟩⟩⟩⟩⟩⟩⟩⟩⟩⟩⟩
theorem jm_kiall7 : ∀ q ∈ jm_ki7, Cond.constant (jm_cn 7) q.1 q.2 ∈ lw_good := fun _ h => absurd h List.not_mem_nil
theorem pkl_7_51 : Cond.constantLong (jm_cn 7) 51 (-1) ∈ lw_good := jm_gt (jm_t4 77 rfl) rfl
theorem jm_klall7 : ∀ q ∈ jm_kl7, Cond.constantLong (jm_cn 7) q.1 q.2 ∈ lw_good := List.forall_mem_cons.mpr ⟨pkl_7_51, fun _ h => absurd h List.not_mem_nil⟩
theorem pk_8_3 : jm_pok 8 (3, 1, 0, 0) := jm_gt (jm_t1 28 rfl) rfl
theorem pk_8_10 : jm_pok 8 (10, 3, 8, 0) := ⟨by decide, by decide, jm_gt (jm_t1 169 rfl) rfl⟩
theorem pk_8_16 : jm_pok 8 (16, 5, 2, 0) := ⟨by decide, jm_gt (jm_t1 30 rfl) rfl⟩
theorem pk_8_18 : jm_pok 8 (18, 0, 3, 0) := ⟨rX2_init, rfl, fun h => absurd (congrArg (fun r => (jr_nm r).name) h) (by decide), Or.inr ⟨by decide, _, jm_nt (jm_t1 32 rfl) rfl⟩⟩
theorem pk_8_19 : jm_pok 8 (19, 3, 8, 1) := ⟨by decide, by decide, jm_gt (jm_t1 173 rfl) rfl⟩
theorem pk_8_23 : jm_pok 8 (23, 5, 6, 0) := ⟨by decide, jm_gt (jm_t1 76 rfl) rfl⟩
theorem pk_8_25 : jm_pok 8 (25, 0, 4, 0) := ⟨rX6_init, rfl, fun h => absurd (congrArg (fun r => (jr_nm r).name) h) (by decide), Or.inr ⟨by decide, _, jm_nt (jm_t1 78 rfl) rfl⟩⟩
theorem pk_8_26 : jm_pok 8 (26, 3, 8, 2) := ⟨by decide, by decide, jm_gt (jm_t1 176 rfl) rfl⟩
theorem pk_8_30 : jm_pok 8 (30, 5, 3, 0) := ⟨by decide, jm_gt (jm_t1 99 rfl) rfl⟩
theorem pk_8_32 : jm_pok 8 (32, 0, 5, 0) := ⟨rX3_init, rfl, fun h => absurd (congrArg (fun r => (jr_nm r).name) h) (by decide), Or.inr ⟨by decide, _, jm_nt (jm_t1 101 rfl) rfl⟩⟩
theorem pk_8_33 : jm_pok 8 (33, 3, 8, 3) := ⟨by decide, by decide, jm_gt (jm_t1 178 rfl) rfl⟩
theorem pk_8_37 : jm_pok 8 (37, 5, 4, 0) := ⟨by decide, jm_gt (jm_t1 147 rfl) rfl⟩
theorem pk_8_39 : jm_pok 8 (39, 0, 6, 0) := ⟨rX4_init, rfl, fun h => absurd (congrArg (fun r => (jr_nm r).name) h) (by decide), Or.inr ⟨by decide, _, jm_nt (jm_t1 149 rfl) rfl⟩⟩
theorem pk_8_40 : jm_pok 8 (40, 3, 8, 4) := ⟨by decide, by decide, jm_gt (jm_t1 182 rfl) rfl⟩
theorem pk_8_44 : jm_pok 8 (44, 0, 119, 0) := ⟨rX9_copy, rfl, fun h => absurd (congrArg (fun r => (jr_nm r).name) h) (by decide), Or.inr ⟨by decide, _, jm_nt (jm_t4 101 rfl) rfl⟩⟩
theorem pk_8_48 : jm_pok 8 (48, 0, 120, 0) := ⟨rX2_copyFrom, rfl, fun h => absurd (congrArg (fun r => (jr_nm r).name) h) (by decide), Or.inl (jm_gt (jm_t4 110 rfl) rfl)⟩
theorem pk_8_52 : jm_pok 8 (52, 0, 121, 0) := ⟨rX6_copyFrom, rfl, fun h => absurd (congrArg (fun r => (jr_nm r).name) h) (by decide), Or.inl (jm_gt (jm_t4 115 rfl) rfl)⟩
theorem pk_8_55 : jm_pok 8 (55, 0, 122, 0) := ⟨rX3_copyFrom, rfl, fun h => absurd (congrArg (fun r => (jr_nm r).name) h) (by decide), Or.inl (jm_gt (jm_t4 121 rfl) rfl)⟩
theorem pk_8_58 : jm_pok 8 (58, 0, 123, 0) := ⟨rX4_copyFrom, rfl, fun h => absurd (congrArg (fun r => (jr_nm r).name) h) (by decide), Or.inl (jm_gt (jm_t4 126 rfl) rfl)⟩
theorem pk_8_61 : jm_pok 8 (61, 4, 0, 0) := ⟨by decide, Or.inr ⟨_, jm_nt (jm_t2 143 rfl) rfl⟩⟩
theorem pk_8_64 : jm_pok 8 (64, 6, 0, 0) := jm_gt (jm_t2 144 rfl) rfl
theorem pk_8_72 : jm_pok 8 (72, 6, 3, 0) := jm_gt (jm_t2 148 rfl) rfl
theorem pk_8_76 : jm_pok 8 (76, 3, 2, 1) := ⟨by decide, by decide, jm_gt (jm_t1 41 rfl) rfl⟩
theorem pk_8_79 : jm_pok 8 (79, 3, 2, 2) := ⟨by decide, by decide, jm_gt (jm_t1 43 rfl) rfl⟩
theorem pk_8_82 : jm_pok 8 (82, 3, 2, 3) := ⟨by decide, by decide, jm_gt (jm_t1 45 rfl) rfl⟩
theorem pk_8_85 : jm_pok 8 (85, 0, 24, 0) := ⟨rX9_waveOf, rfl, fun h => absurd (congrArg (fun r => (jr_nm r).name) h) (by decide), Or.inr ⟨by decide, _, jm_nt (jm_t2 134 rfl) rfl⟩⟩
theorem pk_8_89 : jm_pok 8 (89, 3, 2, 0) := ⟨by decide, by decide, jm_gt (jm_t1 37 rfl) rfl⟩
theorem pk_8_93 : jm_pok 8 (93, 3, 2, 5) := ⟨by decide, by decide, jm_gt (jm_t1 50 rfl) rfl⟩
theorem pk_8_96 : jm_pok 8 (96, 0, 23, 0) := ⟨rX8_fadesAt, rfl, fun h => absurd (congrArg (fun r => (jr_nm r).name) h) (by decide), Or.inl (jm_gt (jm_t2 130 rfl) rfl)⟩
theorem pk_8_100 : jm_pok 8 (100, 0, 25, 0) := ⟨rX8_farOf, rfl, fun h => absurd (congrArg (fun r => (jr_nm r).name) h) (by decide), Or.inl (jm_gt (jm_t2 139 rfl) rfl)⟩
theorem pk_8_104 : jm_pok 8 (104, 3, 3, 6) := ⟨by decide, by decide, jm_gt (jm_t1 121 rfl) rfl⟩
theorem pk_8_107 : jm_pok 8 (107, 0, 35, 0) := ⟨rX8_leanOf, rfl, fun h => absurd (congrArg (fun r => (jr_nm r).name) h) (by decide), Or.inl (jm_gt (jm_t2 196 rfl) rfl)⟩
theorem pk_8_110 : jm_pok 8 (110, 0, 36, 0) := ⟨rX8_offsetOf, rfl, fun h => absurd (congrArg (fun r => (jr_nm r).name) h) (by decide), Or.inl (jm_gt (jm_t2 200 rfl) rfl)⟩
theorem pk_8_113 : jm_pok 8 (113, 0, 37, 0) := ⟨rX8_kindOf, rfl, fun h => absurd (congrArg (fun r => (jr_nm r).name) h) (by decide), Or.inl (jm_gt (jm_t2 204 rfl) rfl)⟩
theorem pk_8_117 : jm_pok 8 (117, 3, 6, 0) := ⟨by decide, by decide, jm_gt (jm_t1 83 rfl) rfl⟩
theorem pk_8_120 : jm_pok 8 (120, 3, 3, 3) := ⟨by decide, by decide, jm_gt (jm_t1 115 rfl) rfl⟩
theorem pk_8_123 : jm_pok 8 (123, 3, 3, 2) := ⟨by decide, by decide, jm_gt (jm_t1 112 rfl) rfl⟩
theorem pk_8_126 : jm_pok 8 (126, 3, 6, 3) := ⟨by decide, by decide, jm_gt (jm_t1 89 rfl) rfl⟩
theorem pk_8_129 : jm_pok 8 (129, 3, 3, 5) := ⟨by decide, by decide, jm_gt (jm_t1 119 rfl) rfl⟩
theorem pk_8_132 : jm_pok 8 (132, 3, 2, 4) := ⟨by decide, by decide, jm_gt (jm_t1 47 rfl) rfl⟩
theorem pk_8_135 : jm_pok 8 (135, 3, 3, 0) := ⟨by decide, by decide, jm_gt (jm_t1 106 rfl) rfl⟩
theorem pk_8_142 : jm_pok 8 (142, 3, 3, 4) := ⟨by decide, by decide, jm_gt (jm_t1 117 rfl) rfl⟩
theorem pk_8_145 : jm_pok 8 (145, 3, 6, 1) := ⟨by decide, by decide, jm_gt (jm_t1 85 rfl) rfl⟩
theorem pk_8_148 : jm_pok 8 (148, 3, 6, 2) := ⟨by decide, by decide, jm_gt (jm_t1 87 rfl) rfl⟩
theorem pk_8_153 : jm_pok 8 (153, 3, 2, 6) := ⟨by decide, by decide, jm_gt (jm_t1 52 rfl) rfl⟩
theorem pk_8_156 : jm_pok 8 (156, 3, 2, 7) := ⟨by decide, by decide, jm_gt (jm_t1 55 rfl) rfl⟩
theorem pk_8_159 : jm_pok 8 (159, 0, 54, 0) := ⟨rX8_guessedAt, rfl, fun h => absurd (congrArg (fun r => (jr_nm r).name) h) (by decide), Or.inl (jm_gt (jm_t3 41 rfl) rfl)⟩
theorem pk_8_162 : jm_pok 8 (162, 3, 4, 1) := ⟨by decide, by decide, jm_gt (jm_t1 156 rfl) rfl⟩
theorem pk_8_165 : jm_pok 8 (165, 0, 55, 0) := ⟨rX4_termOf, rfl, fun h => absurd (congrArg (fun r => (jr_nm r).name) h) (by decide), Or.inl (jm_gt (jm_t3 45 rfl) rfl)⟩
theorem pk_8_168 : jm_pok 8 (168, 0, 56, 0) := ⟨rX8_share, rfl, fun h => absurd (congrArg (fun r => (jr_nm r).name) h) (by decide), Or.inl (jm_gt (jm_t3 49 rfl) rfl)⟩
theorem pk_8_172 : jm_pok 8 (172, 0, 34, 0) := ⟨rX8_putRight, rfl, fun h => absurd (congrArg (fun r => (jr_nm r).name) h) (by decide), Or.inl (jm_gt (jm_t3 135 rfl) rfl)⟩
theorem pk_8_175 : jm_pok 8 (175, 3, 3, 1) := ⟨by decide, by decide, jm_gt (jm_t1 109 rfl) rfl⟩
theorem pk_8_178 : jm_pok 8 (178, 0, 53, 0) := ⟨rX8_said, rfl, fun h => absurd (congrArg (fun r => (jr_nm r).name) h) (by decide), Or.inl (jm_gt (jm_t3 136 rfl) rfl)⟩
theorem pk_8_182 : jm_pok 8 (182, 3, 3, 8) := ⟨by decide, by decide, jm_gt (jm_t1 127 rfl) rfl⟩
theorem pk_8_186 : jm_pok 8 (186, 0, 63, 0) := ⟨rX3_isIn, rfl, fun h => absurd (congrArg (fun r => (jr_nm r).name) h) (by decide), Or.inl (jm_gt (jm_t3 145 rfl) rfl)⟩
theorem pk_8_190 : jm_pok 8 (190, 0, 74, 0) := ⟨rX8_leftOf, rfl, fun h => absurd (congrArg (fun r => (jr_nm r).name) h) (by decide), Or.inl (jm_gt (jm_t3 146 rfl) rfl)⟩
theorem pk_8_196 : jm_pok 8 (196, 6, 4, 0) := jm_gt (jm_t3 204 rfl) rfl
theorem pk_8_200 : jm_pok 8 (200, 0, 93, 0) := ⟨rX8_isPair, rfl, fun h => absurd (congrArg (fun r => (jr_nm r).name) h) (by decide), Or.inl (jm_gt (jm_t3 223 rfl) rfl)⟩
theorem pk_8_206 : jm_pok 8 (206, 0, 95, 0) := ⟨rX8_rawRight, rfl, fun h => absurd (congrArg (fun r => (jr_nm r).name) h) (by decide), Or.inl (jm_gt (jm_t3 232 rfl) rfl)⟩
theorem jm_pall8 : ∀ q ∈ jm_pl8, jm_pok 8 q := List.forall_mem_cons.mpr ⟨pk_8_3, List.forall_mem_cons.mpr ⟨pk_8_10, List.forall_mem_cons.mpr ⟨pk_8_16, List.forall_mem_cons.mpr ⟨pk_8_18, List.forall_mem_cons.mpr ⟨pk_8_19, List.forall_mem_cons.mpr ⟨pk_8_23, List.forall_mem_cons.mpr ⟨pk_8_25, List.forall_mem_cons.mpr ⟨pk_8_26, List.forall_mem_cons.mpr ⟨pk_8_30, List.forall_mem_cons.mpr ⟨pk_8_32, List.forall_mem_cons.mpr ⟨pk_8_33, List.forall_mem_cons.mpr ⟨pk_8_37, List.forall_mem_cons.mpr ⟨pk_8_39, List.forall_mem_cons.mpr ⟨pk_8_40, List.forall_mem_cons.mpr ⟨pk_8_44, List.forall_mem_cons.mpr ⟨pk_8_48, List.forall_mem_cons.mpr ⟨pk_8_52, List.forall_mem_cons.mpr ⟨pk_8_55, List.forall_mem_cons.mpr ⟨pk_8_58, List.forall_mem_cons.mpr ⟨pk_8_61, List.forall_mem_cons.mpr ⟨pk_8_64, List.forall_mem_cons.mpr ⟨pk_8_72, List.forall_mem_cons.mpr ⟨pk_8_76, List.forall_mem_cons.mpr ⟨pk_8_79, List.forall_mem_cons.mpr ⟨pk_8_82, List.forall_mem_cons.mpr ⟨pk_8_85, List.forall_mem_cons.mpr ⟨pk_8_89, List.forall_mem_cons.mpr ⟨pk_8_93, List.forall_mem_cons.mpr ⟨pk_8_96, List.forall_mem_cons.mpr ⟨pk_8_100, List.forall_mem_cons.mpr ⟨pk_8_104, List.forall_mem_cons.mpr ⟨pk_8_107, List.forall_mem_cons.mpr ⟨pk_8_110, List.forall_mem_cons.mpr ⟨pk_8_113, List.forall_mem_cons.mpr ⟨pk_8_117, List.forall_mem_cons.mpr ⟨pk_8_120, List.forall_mem_cons.mpr ⟨pk_8_123, List.forall_mem_cons.mpr ⟨pk_8_126, List.forall_mem_cons.mpr ⟨pk_8_129, List.forall_mem_cons.mpr ⟨pk_8_132, List.forall_mem_cons.mpr ⟨pk_8_135, List.forall_mem_cons.mpr ⟨pk_8_142, List.forall_mem_cons.mpr ⟨pk_8_145, List.forall_mem_cons.mpr ⟨pk_8_148, List.forall_mem_cons.mpr ⟨pk_8_153, List.forall_mem_cons.mpr ⟨pk_8_156, List.forall_mem_cons.mpr ⟨pk_8_159, List.forall_mem_cons.mpr ⟨pk_8_162, List.forall_mem_cons.mpr ⟨pk_8_165, List.forall_mem_cons.mpr ⟨pk_8_168, List.forall_mem_cons.mpr ⟨pk_8_172, List.forall_mem_cons.mpr ⟨pk_8_175, List.forall_mem_cons.mpr ⟨pk_8_178, List.forall_mem_cons.mpr ⟨pk_8_182, List.forall_mem_cons.mpr ⟨pk_8_186, List.forall_mem_cons.mpr ⟨pk_8_190, List.forall_mem_cons.mpr ⟨pk_8_196, List.forall_mem_cons.mpr ⟨pk_8_200, List.forall_mem_cons.mpr ⟨pk_8_206, fun _ h => absurd h List.not_mem_nil⟩⟩⟩⟩⟩⟩⟩⟩⟩⟩⟩⟩⟩⟩⟩⟩⟩⟩⟩⟩⟩⟩⟩⟩⟩⟩⟩⟩⟩⟩⟩⟩⟩⟩⟩⟩⟩⟩⟩⟩⟩⟩⟩⟩⟩⟩⟩⟩⟩⟩⟩⟩⟩⟩⟩⟩⟩⟩⟩
theorem pki_8_9 : Cond.constant (jm_cn 8) 9 (31556952) ∈ lw_good := jm_gt (jm_t1 29 rfl) rfl
theorem jm_kiall8 : ∀ q ∈ jm_ki8, Cond.constant (jm_cn 8) q.1 q.2 ∈ lw_good := List.forall_mem_cons.mpr ⟨pki_8_9, fun _ h => absurd h List.not_mem_nil⟩
theorem pkl_8_70 : Cond.constantLong (jm_cn 8) 70 (2000) ∈ lw_good := jm_gt (jm_t2 147 rfl) rfl
theorem pkl_8_138 : Cond.constantLong (jm_cn 8) 138 (-20) ∈ lw_good := jm_gt (jm_t2 208 rfl) rfl
theorem pkl_8_140 : Cond.constantLong (jm_cn 8) 140 (30) ∈ lw_good := jm_gt (jm_t2 209 rfl) rfl
theorem pkl_8_151 : Cond.constantLong (jm_cn 8) 151 (86400) ∈ lw_good := jm_gt (jm_t2 210 rfl) rfl
theorem pkl_8_194 : Cond.constantLong (jm_cn 8) 194 (-1) ∈ lw_good := jm_gt (jm_t3 203 rfl) rfl
theorem pkl_8_204 : Cond.constantLong (jm_cn 8) 204 (9223372036854775807) ∈ lw_good := jm_gt (jm_t3 231 rfl) rfl
theorem jm_klall8 : ∀ q ∈ jm_kl8, Cond.constantLong (jm_cn 8) q.1 q.2 ∈ lw_good := List.forall_mem_cons.mpr ⟨pkl_8_70, List.forall_mem_cons.mpr ⟨pkl_8_138, List.forall_mem_cons.mpr ⟨pkl_8_140, List.forall_mem_cons.mpr ⟨pkl_8_151, List.forall_mem_cons.mpr ⟨pkl_8_194, List.forall_mem_cons.mpr ⟨pkl_8_204, fun _ h => absurd h List.not_mem_nil⟩⟩⟩⟩⟩⟩
theorem pk_9_1 : jm_pok 9 (1, 1, 0, 0) := jm_gt (jm_t1 20 rfl) rfl
theorem pk_9_7 : jm_pok 9 (7, 5, 8, 0) := ⟨by decide, jm_gt (jm_t1 23 rfl) rfl⟩
theorem pk_9_9 : jm_pok 9 (9, 0, 2, 0) := ⟨rX8_init, rfl, fun h => absurd (congrArg (fun r => (jr_nm r).name) h) (by decide), Or.inr ⟨by decide, _, jm_nt (jm_t1 25 rfl) rfl⟩⟩
theorem pk_9_10 : jm_pok 9 (10, 3, 9, 0) := ⟨by decide, by decide, jm_gt (jm_t2 51 rfl) rfl⟩
theorem pk_9_16 : jm_pok 9 (16, 3, 9, 1) := ⟨by decide, by decide, jm_gt (jm_t2 52 rfl) rfl⟩
theorem pk_9_19 : jm_pok 9 (19, 5, 5, 0) := ⟨by decide, jm_gt (jm_t1 198 rfl) rfl⟩
theorem pk_9_21 : jm_pok 9 (21, 0, 7, 0) := ⟨rX5_init, rfl, fun h => absurd (congrArg (fun r => (jr_nm r).name) h) (by decide), Or.inr ⟨by decide, _, jm_nt (jm_t1 200 rfl) rfl⟩⟩
theorem pk_9_22 : jm_pok 9 (22, 3, 9, 3) := ⟨by decide, by decide, jm_gt (jm_t2 54 rfl) rfl⟩
theorem pk_9_26 : jm_pok 9 (26, 3, 9, 4) := ⟨by decide, by decide, jm_gt (jm_t2 55 rfl) rfl⟩
theorem pk_9_30 : jm_pok 9 (30, 3, 9, 6) := ⟨by decide, by decide, jm_gt (jm_t2 57 rfl) rfl⟩
theorem pk_9_33 : jm_pok 9 (33, 5, 1, 0) := ⟨by decide, jm_gt (jm_t1 220 rfl) rfl⟩
theorem pk_9_35 : jm_pok 9 (35, 0, 8, 0) := ⟨rX1_init, rfl, fun h => absurd (congrArg (fun r => (jr_nm r).name) h) (by decide), Or.inl (jm_gt (jm_t1 222 rfl) rfl)⟩
theorem pk_9_38 : jm_pok 9 (38, 3, 9, 7) := ⟨by decide, by decide, jm_gt (jm_t2 58 rfl) rfl⟩
theorem pk_9_42 : jm_pok 9 (42, 5, 7, 0) := ⟨by decide, jm_gt (jm_t2 29 rfl) rfl⟩
theorem pk_9_44 : jm_pok 9 (44, 0, 10, 0) := ⟨rX7_init, rfl, fun h => absurd (congrArg (fun r => (jr_nm r).name) h) (by decide), Or.inl (jm_gt (jm_t2 31 rfl) rfl)⟩
theorem pk_9_45 : jm_pok 9 (45, 3, 9, 8) := ⟨by decide, by decide, jm_gt (jm_t2 59 rfl) rfl⟩
theorem pk_9_49 : jm_pok 9 (49, 0, 12, 0) := ⟨rX9_isWithin, rfl, fun h => absurd (congrArg (fun r => (jr_nm r).name) h) (by decide), Or.inl (jm_gt (jm_t2 83 rfl) rfl)⟩
theorem pk_9_54 : jm_pok 9 (54, 0, 13, 0) := ⟨rX9_outside, rfl, fun h => absurd (congrArg (fun r => (jr_nm r).name) h) (by decide), Or.inl (jm_gt (jm_t2 87 rfl) rfl)⟩
theorem pk_9_58 : jm_pok 9 (58, 0, 14, 0) := ⟨rX9_then, rfl, fun h => absurd (congrArg (fun r => (jr_nm r).name) h) (by decide), Or.inl (jm_gt (jm_t2 90 rfl) rfl)⟩
theorem pk_9_62 : jm_pok 9 (62, 0, 15, 0) := ⟨rX9_refuse, rfl, fun h => absurd (congrArg (fun r => (jr_nm r).name) h) (by decide), Or.inl (jm_gt (jm_t2 93 rfl) rfl)⟩
theorem pk_9_66 : jm_pok 9 (66, 3, 8, 1) := ⟨by decide, by decide, jm_gt (jm_t1 174 rfl) rfl⟩
theorem pk_9_70 : jm_pok 9 (70, 0, 16, 0) := ⟨rX2_tell, rfl, fun h => absurd (congrArg (fun r => (jr_nm r).name) h) (by decide), Or.inl (jm_gt (jm_t2 97 rfl) rfl)⟩
theorem pk_9_76 : jm_pok 9 (76, 0, 18, 0) := ⟨rX9_noMoon, rfl, fun h => absurd (congrArg (fun r => (jr_nm r).name) h) (by decide), Or.inl (jm_gt (jm_t2 105 rfl) rfl)⟩
theorem pk_9_79 : jm_pok 9 (79, 3, 2, 5) := ⟨by decide, by decide, jm_gt (jm_t1 49 rfl) rfl⟩
theorem pk_9_82 : jm_pok 9 (82, 4, 0, 0) := ⟨by decide, Or.inl (jm_gt (jm_t2 113 rfl) rfl)⟩
theorem pk_9_85 : jm_pok 9 (85, 4, 1, 0) := ⟨by decide, Or.inl (jm_gt (jm_t2 115 rfl) rfl)⟩
theorem pk_9_88 : jm_pok 9 (88, 3, 8, 0) := ⟨by decide, by decide, jm_gt (jm_t1 170 rfl) rfl⟩
theorem pk_9_91 : jm_pok 9 (91, 0, 21, 0) := ⟨rX9_refuseLong, rfl, fun h => absurd (congrArg (fun r => (jr_nm r).name) h) (by decide), Or.inl (jm_gt (jm_t2 121 rfl) rfl)⟩
theorem pk_9_95 : jm_pok 9 (95, 0, 22, 0) := ⟨rX8_seenAt, rfl, fun h => absurd (congrArg (fun r => (jr_nm r).name) h) (by decide), Or.inl (jm_gt (jm_t2 126 rfl) rfl)⟩
theorem pk_9_99 : jm_pok 9 (99, 0, 23, 0) := ⟨rX8_fadesAt, rfl, fun h => absurd (congrArg (fun r => (jr_nm r).name) h) (by decide), Or.inl (jm_gt (jm_t2 151 rfl) rfl)⟩
theorem pk_9_103 : jm_pok 9 (103, 0, 25, 0) := ⟨rX8_farOf, rfl, fun h => absurd (congrArg (fun r => (jr_nm r).name) h) (by decide), Or.inl (jm_gt (jm_t2 157 rfl) rfl)⟩
theorem pk_9_107 : jm_pok 9 (107, 4, 3, 0) := ⟨by decide, Or.inl (jm_gt (jm_t2 162 rfl) rfl)⟩
theorem pk_9_110 : jm_pok 9 (110, 4, 4, 0) := ⟨by decide, Or.inl (jm_gt (jm_t2 164 rfl) rfl)⟩
theorem pk_9_113 : jm_pok 9 (113, 4, 5, 0) := ⟨by decide, Or.inl (jm_gt (jm_t2 166 rfl) rfl)⟩
theorem pk_9_116 : jm_pok 9 (116, 3, 8, 2) := ⟨by decide, by decide, jm_gt (jm_t1 177 rfl) rfl⟩
theorem pk_9_120 : jm_pok 9 (120, 0, 28, 0) := ⟨rX6_rowOf, rfl, fun h => absurd (congrArg (fun r => (jr_nm r).name) h) (by decide), Or.inl (jm_gt (jm_t2 168 rfl) rfl)⟩
theorem pk_9_126 : jm_pok 9 (126, 3, 8, 3) := ⟨by decide, by decide, jm_gt (jm_t1 181 rfl) rfl⟩
theorem pk_9_130 : jm_pok 9 (130, 3, 3, 8) := ⟨by decide, by decide, jm_gt (jm_t1 126 rfl) rfl⟩
theorem pk_9_136 : jm_pok 9 (136, 0, 30, 0) := ⟨rX3_add, rfl, fun h => absurd (congrArg (fun r => (jr_nm r).name) h) (by decide), Or.inl (jm_gt (jm_t2 176 rfl) rfl)⟩
theorem pk_9_140 : jm_pok 9 (140, 0, 32, 0) := ⟨rX9_noSight, rfl, fun h => absurd (congrArg (fun r => (jr_nm r).name) h) (by decide), Or.inl (jm_gt (jm_t2 184 rfl) rfl)⟩
theorem pk_9_143 : jm_pok 9 (143, 0, 33, 0) := ⟨rX9_cloudedSight, rfl, fun h => absurd (congrArg (fun r => (jr_nm r).name) h) (by decide), Or.inl (jm_gt (jm_t2 188 rfl) rfl)⟩
theorem pk_9_146 : jm_pok 9 (146, 0, 34, 0) := ⟨rX8_putRight, rfl, fun h => absurd (congrArg (fun r => (jr_nm r).name) h) (by decide), Or.inl (jm_gt (jm_t2 192 rfl) rfl)⟩
theorem pk_9_149 : jm_pok 9 (149, 3, 9, 5) := ⟨by decide, by decide, jm_gt (jm_t2 56 rfl) rfl⟩
theorem pk_9_152 : jm_pok 9 (152, 0, 40, 0) := ⟨rX9_isRowAsTold, rfl, fun h => absurd (congrArg (fun r => (jr_nm r).name) h) (by decide), Or.inl (jm_gt (jm_t2 219 rfl) rfl)⟩
theorem pk_9_157 : jm_pok 9 (157, 0, 42, 0) := ⟨rX3_sentOf, rfl, fun h => absurd (congrArg (fun r => (jr_nm r).name) h) (by decide), Or.inl (jm_gt (jm_t2 230 rfl) rfl)⟩
theorem pk_9_160 : jm_pok 9 (160, 3, 5, 1) := ⟨by decide, by decide, jm_gt (jm_t1 206 rfl) rfl⟩
theorem pk_9_161 : jm_pok 9 (161, 0, 44, 0) := ⟨rX5_add, rfl, fun h => absurd (congrArg (fun r => (jr_nm r).name) h) (by decide), Or.inl (jm_gt (jm_t2 238 rfl) rfl)⟩
theorem pk_9_164 : jm_pok 9 (164, 3, 8, 4) := ⟨by decide, by decide, jm_gt (jm_t1 186 rfl) rfl⟩
theorem pk_9_168 : jm_pok 9 (168, 3, 4, 2) := ⟨by decide, by decide, jm_gt (jm_t1 161 rfl) rfl⟩
theorem pk_9_171 : jm_pok 9 (171, 0, 46, 0) := ⟨rX5_faultPlace, rfl, fun h => absurd (congrArg (fun r => (jr_nm r).name) h) (by decide), Or.inl (jm_gt (jm_t3 6 rfl) rfl)⟩
theorem pk_9_175 : jm_pok 9 (175, 0, 49, 0) := ⟨rX4_add, rfl, fun h => absurd (congrArg (fun r => (jr_nm r).name) h) (by decide), Or.inl (jm_gt (jm_t3 19 rfl) rfl)⟩
theorem pk_9_178 : jm_pok 9 (178, 3, 2, 6) := ⟨by decide, by decide, jm_gt (jm_t1 53 rfl) rfl⟩
theorem pk_9_181 : jm_pok 9 (181, 3, 2, 7) := ⟨by decide, by decide, jm_gt (jm_t1 56 rfl) rfl⟩
theorem pk_9_184 : jm_pok 9 (184, 0, 52, 0) := ⟨rX9_noTable, rfl, fun h => absurd (congrArg (fun r => (jr_nm r).name) h) (by decide), Or.inl (jm_gt (jm_t3 31 rfl) rfl)⟩
theorem pk_9_187 : jm_pok 9 (187, 4, 7, 0) := ⟨by decide, Or.inl (jm_gt (jm_t3 35 rfl) rfl)⟩
theorem pk_9_190 : jm_pok 9 (190, 3, 4, 1) := ⟨by decide, by decide, jm_gt (jm_t1 157 rfl) rfl⟩
theorem pk_9_193 : jm_pok 9 (193, 0, 53, 0) := ⟨rX8_said, rfl, fun h => absurd (congrArg (fun r => (jr_nm r).name) h) (by decide), Or.inl (jm_gt (jm_t3 37 rfl) rfl)⟩
theorem pk_9_197 : jm_pok 9 (197, 0, 58, 0) := ⟨rX9_wrongSet, rfl, fun h => absurd (congrArg (fun r => (jr_nm r).name) h) (by decide), Or.inl (jm_gt (jm_t3 57 rfl) rfl)⟩
theorem pk_9_200 : jm_pok 9 (200, 0, 60, 0) := ⟨rX1_fitted, rfl, fun h => absurd (congrArg (fun r => (jr_nm r).name) h) (by decide), Or.inl (jm_gt (jm_t3 65 rfl) rfl)⟩
theorem pk_9_204 : jm_pok 9 (204, 0, 67, 0) := ⟨rX0_fitNumbers, rfl, fun h => absurd (congrArg (fun r => (jr_nm r).name) h) (by decide), Or.inl (jm_gt (jm_t3 102 rfl) rfl)⟩
theorem pk_9_209 : jm_pok 9 (209, 0, 70, 0) := ⟨rX0_score, rfl, fun h => absurd (congrArg (fun r => (jr_nm r).name) h) (by decide), Or.inl (jm_gt (jm_t3 114 rfl) rfl)⟩
theorem pk_9_213 : jm_pok 9 (213, 0, 71, 0) := ⟨rX0_leastSum, rfl, fun h => absurd (congrArg (fun r => (jr_nm r).name) h) (by decide), Or.inl (jm_gt (jm_t3 126 rfl) rfl)⟩
theorem pk_9_216 : jm_pok 9 (216, 3, 3, 0) := ⟨by decide, by decide, jm_gt (jm_t1 107 rfl) rfl⟩
theorem pk_9_219 : jm_pok 9 (219, 0, 74, 0) := ⟨rX8_leftOf, rfl, fun h => absurd (congrArg (fun r => (jr_nm r).name) h) (by decide), Or.inl (jm_gt (jm_t3 131 rfl) rfl)⟩
theorem pk_9_223 : jm_pok 9 (223, 0, 76, 0) := ⟨rX8_seasonOf, rfl, fun h => absurd (congrArg (fun r => (jr_nm r).name) h) (by decide), Or.inl (jm_gt (jm_t3 141 rfl) rfl)⟩
theorem pk_9_227 : jm_pok 9 (227, 0, 79, 0) := ⟨rX9_noTables, rfl, fun h => absurd (congrArg (fun r => (jr_nm r).name) h) (by decide), Or.inl (jm_gt (jm_t3 155 rfl) rfl)⟩
theorem pk_9_230 : jm_pok 9 (230, 0, 80, 0) := ⟨rX1_gather, rfl, fun h => absurd (congrArg (fun r => (jr_nm r).name) h) (by decide), Or.inl (jm_gt (jm_t3 159 rfl) rfl)⟩
theorem pk_9_234 : jm_pok 9 (234, 0, 81, 0) := ⟨rX1_bestNow, rfl, fun h => absurd (congrArg (fun r => (jr_nm r).name) h) (by decide), Or.inl (jm_gt (jm_t3 163 rfl) rfl)⟩
theorem pk_9_237 : jm_pok 9 (237, 0, 83, 0) := ⟨rX4_placeOf, rfl, fun h => absurd (congrArg (fun r => (jr_nm r).name) h) (by decide), Or.inl (jm_gt (jm_t3 173 rfl) rfl)⟩
theorem pk_9_240 : jm_pok 9 (240, 0, 84, 0) := ⟨rX1_lightOfAll, rfl, fun h => absurd (congrArg (fun r => (jr_nm r).name) h) (by decide), Or.inl (jm_gt (jm_t3 178 rfl) rfl)⟩
theorem pk_9_243 : jm_pok 9 (243, 0, 59, 0) := ⟨rX9_allSights, rfl, fun h => absurd (congrArg (fun r => (jr_nm r).name) h) (by decide), Or.inl (jm_gt (jm_t3 61 rfl) rfl)⟩
theorem pk_9_246 : jm_pok 9 (246, 0, 88, 0) := ⟨rX8_furthestApart, rfl, fun h => absurd (congrArg (fun r => (jr_nm r).name) h) (by decide), Or.inl (jm_gt (jm_t3 199 rfl) rfl)⟩
theorem pk_9_250 : jm_pok 9 (250, 0, 90, 0) := ⟨rX2_rhythmOf, rfl, fun h => absurd (congrArg (fun r => (jr_nm r).name) h) (by decide), Or.inl (jm_gt (jm_t3 209 rfl) rfl)⟩
theorem pk_9_253 : jm_pok 9 (253, 0, 92, 0) := ⟨rX8_hasPair, rfl, fun h => absurd (congrArg (fun r => (jr_nm r).name) h) (by decide), Or.inl (jm_gt (jm_t3 219 rfl) rfl)⟩
theorem pk_9_257 : jm_pok 9 (257, 0, 94, 0) := ⟨rX8_leastApart, rfl, fun h => absurd (congrArg (fun r => (jr_nm r).name) h) (by decide), Or.inl (jm_gt (jm_t3 227 rfl) rfl)⟩
theorem pk_9_261 : jm_pok 9 (261, 0, 97, 0) := ⟨rX3_post, rfl, fun h => absurd (congrArg (fun r => (jr_nm r).name) h) (by decide), Or.inl (jm_gt (jm_t4 0 rfl) rfl)⟩
theorem pk_9_264 : jm_pok 9 (264, 0, 99, 0) := ⟨rX3_cameTo, rfl, fun h => absurd (congrArg (fun r => (jr_nm r).name) h) (by decide), Or.inl (jm_gt (jm_t4 8 rfl) rfl)⟩
theorem pk_9_267 : jm_pok 9 (267, 0, 101, 0) := ⟨rX9_wrongHolding, rfl, fun h => absurd (congrArg (fun r => (jr_nm r).name) h) (by decide), Or.inl (jm_gt (jm_t4 16 rfl) rfl)⟩
theorem pk_9_270 : jm_pok 9 (270, 0, 103, 0) := ⟨rX1_turningSights, rfl, fun h => absurd (congrArg (fun r => (jr_nm r).name) h) (by decide), Or.inl (jm_gt (jm_t4 24 rfl) rfl)⟩
theorem pk_9_274 : jm_pok 9 (274, 0, 111, 0) := ⟨rX7_hear, rfl, fun h => absurd (congrArg (fun r => (jr_nm r).name) h) (by decide), Or.inl (jm_gt (jm_t4 63 rfl) rfl)⟩
theorem pk_9_278 : jm_pok 9 (278, 0, 112, 0) := ⟨rX7_compareTables, rfl, fun h => absurd (congrArg (fun r => (jr_nm r).name) h) (by decide), Or.inl (jm_gt (jm_t4 68 rfl) rfl)⟩
theorem pk_9_281 : jm_pok 9 (281, 0, 113, 0) := ⟨rX7_bestNights, rfl, fun h => absurd (congrArg (fun r => (jr_nm r).name) h) (by decide), Or.inl (jm_gt (jm_t4 73 rfl) rfl)⟩
theorem pk_9_284 : jm_pok 9 (284, 0, 118, 0) := ⟨rX8_copyFrom, rfl, fun h => absurd (congrArg (fun r => (jr_nm r).name) h) (by decide), Or.inl (jm_gt (jm_t4 97 rfl) rfl)⟩
theorem pk_9_287 : jm_pok 9 (287, 3, 9, 2) := ⟨by decide, by decide, jm_gt (jm_t2 53 rfl) rfl⟩
theorem pk_9_291 : jm_pok 9 (291, 0, 126, 0) := ⟨rX2_size, rfl, fun h => absurd (congrArg (fun r => (jr_nm r).name) h) (by decide), Or.inl (jm_gt (jm_t4 139 rfl) rfl)⟩
theorem pk_9_293 : jm_pok 9 (293, 0, 127, 0) := ⟨rX3_clouded, rfl, fun h => absurd (congrArg (fun r => (jr_nm r).name) h) (by decide), Or.inl (jm_gt (jm_t4 143 rfl) rfl)⟩
theorem pk_9_296 : jm_pok 9 (296, 0, 128, 0) := ⟨rX3_sent, rfl, fun h => absurd (congrArg (fun r => (jr_nm r).name) h) (by decide), Or.inl (jm_gt (jm_t4 147 rfl) rfl)⟩
theorem pk_9_301 : jm_pok 9 (301, 3, 2, 0) := ⟨by decide, by decide, jm_gt (jm_t1 39 rfl) rfl⟩
theorem pk_9_305 : jm_pok 9 (305, 3, 3, 2) := ⟨by decide, by decide, jm_gt (jm_t1 113 rfl) rfl⟩
theorem pk_9_308 : jm_pok 9 (308, 4, 6, 0) := ⟨by decide, Or.inl (jm_gt (jm_t2 223 rfl) rfl)⟩
theorem pk_9_311 : jm_pok 9 (311, 4, 2, 0) := ⟨by decide, Or.inl (jm_gt (jm_t2 137 rfl) rfl)⟩
theorem pk_9_314 : jm_pok 9 (314, 6, 1, 0) := jm_gt (jm_t4 104 rfl) rfl
theorem pk_9_319 : jm_pok 9 (319, 2, 0, 0) := jm_gt (jm_t4 107 rfl) rfl
theorem jm_pall9 : ∀ q ∈ jm_pl9, jm_pok 9 q := List.forall_mem_cons.mpr ⟨pk_9_1, List.forall_mem_cons.mpr ⟨pk_9_7, List.forall_mem_cons.mpr ⟨pk_9_9, List.forall_mem_cons.mpr ⟨pk_9_10, List.forall_mem_cons.mpr ⟨pk_9_16, List.forall_mem_cons.mpr ⟨pk_9_19, List.forall_mem_cons.mpr ⟨pk_9_21, List.forall_mem_cons.mpr ⟨pk_9_22, List.forall_mem_cons.mpr ⟨pk_9_26, List.forall_mem_cons.mpr ⟨pk_9_30, List.forall_mem_cons.mpr ⟨pk_9_33, List.forall_mem_cons.mpr ⟨pk_9_35, List.forall_mem_cons.mpr ⟨pk_9_38, List.forall_mem_cons.mpr ⟨pk_9_42, List.forall_mem_cons.mpr ⟨pk_9_44, List.forall_mem_cons.mpr ⟨pk_9_45, List.forall_mem_cons.mpr ⟨pk_9_49, List.forall_mem_cons.mpr ⟨pk_9_54, List.forall_mem_cons.mpr ⟨pk_9_58, List.forall_mem_cons.mpr ⟨pk_9_62, List.forall_mem_cons.mpr ⟨pk_9_66, List.forall_mem_cons.mpr ⟨pk_9_70, List.forall_mem_cons.mpr ⟨pk_9_76, List.forall_mem_cons.mpr ⟨pk_9_79, List.forall_mem_cons.mpr ⟨pk_9_82, List.forall_mem_cons.mpr ⟨pk_9_85, List.forall_mem_cons.mpr ⟨pk_9_88, List.forall_mem_cons.mpr ⟨pk_9_91, List.forall_mem_cons.mpr ⟨pk_9_95, List.forall_mem_cons.mpr ⟨pk_9_99, List.forall_mem_cons.mpr ⟨pk_9_103, List.forall_mem_cons.mpr ⟨pk_9_107, List.forall_mem_cons.mpr ⟨pk_9_110, List.forall_mem_cons.mpr ⟨pk_9_113, List.forall_mem_cons.mpr ⟨pk_9_116, List.forall_mem_cons.mpr ⟨pk_9_120, List.forall_mem_cons.mpr ⟨pk_9_126, List.forall_mem_cons.mpr ⟨pk_9_130, List.forall_mem_cons.mpr ⟨pk_9_136, List.forall_mem_cons.mpr ⟨pk_9_140, List.forall_mem_cons.mpr ⟨pk_9_143, List.forall_mem_cons.mpr ⟨pk_9_146, List.forall_mem_cons.mpr ⟨pk_9_149, List.forall_mem_cons.mpr ⟨pk_9_152, List.forall_mem_cons.mpr ⟨pk_9_157, List.forall_mem_cons.mpr ⟨pk_9_160, List.forall_mem_cons.mpr ⟨pk_9_161, List.forall_mem_cons.mpr ⟨pk_9_164, List.forall_mem_cons.mpr ⟨pk_9_168, List.forall_mem_cons.mpr ⟨pk_9_171, List.forall_mem_cons.mpr ⟨pk_9_175, List.forall_mem_cons.mpr ⟨pk_9_178, List.forall_mem_cons.mpr ⟨pk_9_181, List.forall_mem_cons.mpr ⟨pk_9_184, List.forall_mem_cons.mpr ⟨pk_9_187, List.forall_mem_cons.mpr ⟨pk_9_190, List.forall_mem_cons.mpr ⟨pk_9_193, List.forall_mem_cons.mpr ⟨pk_9_197, List.forall_mem_cons.mpr ⟨pk_9_200, List.forall_mem_cons.mpr ⟨pk_9_204, List.forall_mem_cons.mpr ⟨pk_9_209, List.forall_mem_cons.mpr ⟨pk_9_213, List.forall_mem_cons.mpr ⟨pk_9_216, List.forall_mem_cons.mpr ⟨pk_9_219, List.forall_mem_cons.mpr ⟨pk_9_223, List.forall_mem_cons.mpr ⟨pk_9_227, List.forall_mem_cons.mpr ⟨pk_9_230, List.forall_mem_cons.mpr ⟨pk_9_234, List.forall_mem_cons.mpr ⟨pk_9_237, List.forall_mem_cons.mpr ⟨pk_9_240, List.forall_mem_cons.mpr ⟨pk_9_243, List.forall_mem_cons.mpr ⟨pk_9_246, List.forall_mem_cons.mpr ⟨pk_9_250, List.forall_mem_cons.mpr ⟨pk_9_253, List.forall_mem_cons.mpr ⟨pk_9_257, List.forall_mem_cons.mpr ⟨pk_9_261, List.forall_mem_cons.mpr ⟨pk_9_264, List.forall_mem_cons.mpr ⟨pk_9_267, List.forall_mem_cons.mpr ⟨pk_9_270, List.forall_mem_cons.mpr ⟨pk_9_274, List.forall_mem_cons.mpr ⟨pk_9_278, List.forall_mem_cons.mpr ⟨pk_9_281, List.forall_mem_cons.mpr ⟨pk_9_284, List.forall_mem_cons.mpr ⟨pk_9_287, List.forall_mem_cons.mpr ⟨pk_9_291, List.forall_mem_cons.mpr ⟨pk_9_293, List.forall_mem_cons.mpr ⟨pk_9_296, List.forall_mem_cons.mpr ⟨pk_9_301, List.forall_mem_cons.mpr ⟨pk_9_305, List.forall_mem_cons.mpr ⟨pk_9_308, List.forall_mem_cons.mpr ⟨pk_9_311, List.forall_mem_cons.mpr ⟨pk_9_314, List.forall_mem_cons.mpr ⟨pk_9_319, fun _ h => absurd h List.not_mem_nil⟩⟩⟩⟩⟩⟩⟩⟩⟩⟩⟩⟩⟩⟩⟩⟩⟩⟩⟩⟩⟩⟩⟩⟩⟩⟩⟩⟩⟩⟩⟩⟩⟩⟩⟩⟩⟩⟩⟩⟩⟩⟩⟩⟩⟩⟩⟩⟩⟩⟩⟩⟩⟩⟩⟩⟩⟩⟩⟩⟩⟩⟩⟩⟩⟩⟩⟩⟩⟩⟩⟩⟩⟩⟩⟩⟩⟩⟩⟩⟩⟩⟩⟩⟩⟩⟩⟩⟩⟩⟩⟩⟩⟩
theorem pki_9_53 : Cond.constant (jm_cn 9) 53 (999999) ∈ lw_good := jm_gt (jm_t2 86 rfl) rfl
theorem pki_9_102 : Cond.constant (jm_cn 9) 102 (1999999999) ∈ lw_good := jm_gt (jm_t2 156 rfl) rfl
theorem pki_9_156 : Cond.constant (jm_cn 9) 156 (100000) ∈ lw_good := jm_gt (jm_t2 225 rfl) rfl
theorem jm_kiall9 : ∀ q ∈ jm_ki9, Cond.constant (jm_cn 9) q.1 q.2 ∈ lw_good := List.forall_mem_cons.mpr ⟨pki_9_53, List.forall_mem_cons.mpr ⟨pki_9_102, List.forall_mem_cons.mpr ⟨pki_9_156, fun _ h => absurd h List.not_mem_nil⟩⟩⟩
theorem pkl_9_299 : Cond.constantLong (jm_cn 9) 299 (-4000000000000000000) ∈ lw_good := jm_gt (jm_t2 125 rfl) rfl
theorem jm_klall9 : ∀ q ∈ jm_kl9, Cond.constantLong (jm_cn 9) q.1 q.2 ∈ lw_good := List.forall_mem_cons.mpr ⟨pkl_9_299, fun _ h => absurd h List.not_mem_nil⟩
theorem pk_10_1 : jm_pok 10 (1, 1, 0, 0) := jm_gt (jm_t4 157 rfl) rfl
theorem pk_10_7 : jm_pok 10 (7, 3, 10, 0) := ⟨by decide, by decide, jm_gt (jm_t4 159 rfl) rfl⟩
theorem pk_10_13 : jm_pok 10 (13, 3, 10, 1) := ⟨by decide, by decide, jm_gt (jm_t4 160 rfl) rfl⟩
theorem pk_10_16 : jm_pok 10 (16, 3, 10, 2) := ⟨by decide, by decide, jm_gt (jm_t4 161 rfl) rfl⟩
theorem pk_10_19 : jm_pok 10 (19, 3, 10, 3) := ⟨by decide, by decide, jm_gt (jm_t4 162 rfl) rfl⟩
theorem pk_10_22 : jm_pok 10 (22, 3, 10, 4) := ⟨by decide, by decide, jm_gt (jm_t4 163 rfl) rfl⟩
theorem pk_10_25 : jm_pok 10 (25, 3, 10, 5) := ⟨by decide, by decide, jm_gt (jm_t4 164 rfl) rfl⟩
theorem pk_10_28 : jm_pok 10 (28, 3, 10, 6) := ⟨by decide, by decide, jm_gt (jm_t4 165 rfl) rfl⟩
theorem pk_10_31 : jm_pok 10 (31, 3, 10, 7) := ⟨by decide, by decide, jm_gt (jm_t4 166 rfl) rfl⟩
theorem pk_10_35 : jm_pok 10 (35, 3, 10, 8) := ⟨by decide, by decide, jm_gt (jm_t4 167 rfl) rfl⟩
theorem pk_10_38 : jm_pok 10 (38, 3, 10, 9) := ⟨by decide, by decide, jm_gt (jm_t4 168 rfl) rfl⟩
theorem pk_10_41 : jm_pok 10 (41, 3, 10, 10) := ⟨by decide, by decide, jm_gt (jm_t4 169 rfl) rfl⟩
theorem pk_10_44 : jm_pok 10 (44, 3, 10, 11) := ⟨by decide, by decide, jm_gt (jm_t4 170 rfl) rfl⟩
theorem pk_10_47 : jm_pok 10 (47, 3, 10, 12) := ⟨by decide, by decide, jm_gt (jm_t4 171 rfl) rfl⟩
theorem pk_10_50 : jm_pok 10 (50, 3, 10, 13) := ⟨by decide, by decide, jm_gt (jm_t4 172 rfl) rfl⟩
theorem pk_10_53 : jm_pok 10 (53, 3, 10, 14) := ⟨by decide, by decide, jm_gt (jm_t4 173 rfl) rfl⟩
theorem pk_10_56 : jm_pok 10 (56, 3, 10, 15) := ⟨by decide, by decide, jm_gt (jm_t4 174 rfl) rfl⟩
theorem pk_10_59 : jm_pok 10 (59, 3, 10, 16) := ⟨by decide, by decide, jm_gt (jm_t4 175 rfl) rfl⟩
theorem pk_10_62 : jm_pok 10 (62, 3, 10, 17) := ⟨by decide, by decide, jm_gt (jm_t4 176 rfl) rfl⟩
theorem pk_10_65 : jm_pok 10 (65, 3, 10, 18) := ⟨by decide, by decide, jm_gt (jm_t4 177 rfl) rfl⟩
theorem pk_10_68 : jm_pok 10 (68, 3, 10, 19) := ⟨by decide, by decide, jm_gt (jm_t4 178 rfl) rfl⟩
theorem pk_10_71 : jm_pok 10 (71, 3, 10, 21) := ⟨by decide, by decide, jm_gt (jm_t4 180 rfl) rfl⟩
theorem pk_10_74 : jm_pok 10 (74, 3, 10, 23) := ⟨by decide, by decide, jm_gt (jm_t4 182 rfl) rfl⟩
theorem pk_10_77 : jm_pok 10 (77, 3, 10, 24) := ⟨by decide, by decide, jm_gt (jm_t4 183 rfl) rfl⟩
theorem pk_10_80 : jm_pok 10 (80, 3, 10, 25) := ⟨by decide, by decide, jm_gt (jm_t4 184 rfl) rfl⟩
theorem pk_10_83 : jm_pok 10 (83, 3, 10, 26) := ⟨by decide, by decide, jm_gt (jm_t4 185 rfl) rfl⟩
theorem pk_10_86 : jm_pok 10 (86, 3, 10, 27) := ⟨by decide, by decide, jm_gt (jm_t4 186 rfl) rfl⟩
theorem pk_10_89 : jm_pok 10 (89, 3, 10, 31) := ⟨by decide, by decide, jm_gt (jm_t4 190 rfl) rfl⟩
theorem pk_10_92 : jm_pok 10 (92, 3, 10, 32) := ⟨by decide, by decide, jm_gt (jm_t4 191 rfl) rfl⟩
theorem pk_10_95 : jm_pok 10 (95, 3, 10, 33) := ⟨by decide, by decide, jm_gt (jm_t4 192 rfl) rfl⟩
theorem pk_10_99 : jm_pok 10 (99, 3, 10, 34) := ⟨by decide, by decide, jm_gt (jm_t4 193 rfl) rfl⟩
theorem pk_10_102 : jm_pok 10 (102, 3, 10, 38) := ⟨by decide, by decide, jm_gt (jm_t4 197 rfl) rfl⟩
theorem pk_10_105 : jm_pok 10 (105, 3, 10, 39) := ⟨by decide, by decide, jm_gt (jm_t4 198 rfl) rfl⟩
theorem pk_10_108 : jm_pok 10 (108, 3, 10, 40) := ⟨by decide, by decide, jm_gt (jm_t4 199 rfl) rfl⟩
theorem pk_10_116 : jm_pok 10 (116, 0, 131, 0) := ⟨rX10_isIn, rfl, fun h => absurd (congrArg (fun r => (jr_nm r).name) h) (by decide), Or.inl (jm_gt (jm_t5 57 rfl) rfl)⟩
theorem pk_10_120 : jm_pok 10 (120, 0, 132, 0) := ⟨rX10_no, rfl, fun h => absurd (congrArg (fun r => (jr_nm r).name) h) (by decide), Or.inl (jm_gt (jm_t5 60 rfl) rfl)⟩
theorem pk_10_126 : jm_pok 10 (126, 0, 133, 0) := ⟨rX10_out, rfl, fun h => absurd (congrArg (fun r => (jr_nm r).name) h) (by decide), Or.inl (jm_gt (jm_t5 65 rfl) rfl)⟩
theorem pk_10_136 : jm_pok 10 (136, 0, 135, 0) := ⟨rX10_isMoon, rfl, fun h => absurd (congrArg (fun r => (jr_nm r).name) h) (by decide), Or.inl (jm_gt (jm_t5 75 rfl) rfl)⟩
theorem pk_10_154 : jm_pok 10 (154, 0, 140, 0) := ⟨rX10_waveOf, rfl, fun h => absurd (congrArg (fun r => (jr_nm r).name) h) (by decide), Or.inl (jm_gt (jm_t5 103 rfl) rfl)⟩
theorem pk_10_157 : jm_pok 10 (157, 0, 141, 0) := ⟨rX10_farOf, rfl, fun h => absurd (congrArg (fun r => (jr_nm r).name) h) (by decide), Or.inl (jm_gt (jm_t5 107 rfl) rfl)⟩
theorem pk_10_161 : jm_pok 10 (161, 0, 138, 0) := ⟨rX10_noLong, rfl, fun h => absurd (congrArg (fun r => (jr_nm r).name) h) (by decide), Or.inl (jm_gt (jm_t5 94 rfl) rfl)⟩
theorem pk_10_165 : jm_pok 10 (165, 0, 139, 0) := ⟨rX10_fadingOf, rfl, fun h => absurd (congrArg (fun r => (jr_nm r).name) h) (by decide), Or.inl (jm_gt (jm_t5 99 rfl) rfl)⟩
theorem pk_10_181 : jm_pok 10 (181, 3, 10, 20) := ⟨by decide, by decide, jm_gt (jm_t4 179 rfl) rfl⟩
theorem pk_10_186 : jm_pok 10 (186, 0, 145, 0) := ⟨rX10_tells, rfl, fun h => absurd (congrArg (fun r => (jr_nm r).name) h) (by decide), Or.inl (jm_gt (jm_t5 130 rfl) rfl)⟩
theorem pk_10_196 : jm_pok 10 (196, 0, 147, 0) := ⟨rX10_isSight, rfl, fun h => absurd (congrArg (fun r => (jr_nm r).name) h) (by decide), Or.inl (jm_gt (jm_t5 138 rfl) rfl)⟩
theorem pk_10_199 : jm_pok 10 (199, 0, 148, 0) := ⟨rX10_rightOf, rfl, fun h => absurd (congrArg (fun r => (jr_nm r).name) h) (by decide), Or.inl (jm_gt (jm_t5 142 rfl) rfl)⟩
theorem pk_10_203 : jm_pok 10 (203, 3, 10, 22) := ⟨by decide, by decide, jm_gt (jm_t4 181 rfl) rfl⟩
theorem pk_10_213 : jm_pok 10 (213, 0, 152, 0) := ⟨rX10_isSent, rfl, fun h => absurd (congrArg (fun r => (jr_nm r).name) h) (by decide), Or.inl (jm_gt (jm_t5 165 rfl) rfl)⟩
theorem pk_10_218 : jm_pok 10 (218, 3, 10, 28) := ⟨by decide, by decide, jm_gt (jm_t4 187 rfl) rfl⟩
theorem pk_10_223 : jm_pok 10 (223, 3, 10, 30) := ⟨by decide, by decide, jm_gt (jm_t4 189 rfl) rfl⟩
theorem pk_10_226 : jm_pok 10 (226, 0, 157, 0) := ⟨rX10_sign, rfl, fun h => absurd (congrArg (fun r => (jr_nm r).name) h) (by decide), Or.inl (jm_gt (jm_t5 187 rfl) rfl)⟩
theorem pk_10_234 : jm_pok 10 (234, 0, 156, 0) := ⟨rX10_oneTerm, rfl, fun h => absurd (congrArg (fun r => (jr_nm r).name) h) (by decide), Or.inl (jm_gt (jm_t5 183 rfl) rfl)⟩
theorem pk_10_237 : jm_pok 10 (237, 3, 10, 29) := ⟨by decide, by decide, jm_gt (jm_t4 188 rfl) rfl⟩
theorem pk_10_240 : jm_pok 10 (240, 0, 155, 0) := ⟨rX10_reads, rfl, fun h => absurd (congrArg (fun r => (jr_nm r).name) h) (by decide), Or.inl (jm_gt (jm_t5 179 rfl) rfl)⟩
theorem pk_10_244 : jm_pok 10 (244, 0, 163, 0) := ⟨rX10_guessed, rfl, fun h => absurd (congrArg (fun r => (jr_nm r).name) h) (by decide), Or.inl (jm_gt (jm_t5 213 rfl) rfl)⟩
theorem pk_10_250 : jm_pok 10 (250, 0, 164, 0) := ⟨rX10_digit, rfl, fun h => absurd (congrArg (fun r => (jr_nm r).name) h) (by decide), Or.inl (jm_gt (jm_t5 217 rfl) rfl)⟩
theorem pk_10_254 : jm_pok 10 (254, 0, 165, 0) := ⟨rX10_adds, rfl, fun h => absurd (congrArg (fun r => (jr_nm r).name) h) (by decide), Or.inl (jm_gt (jm_t5 220 rfl) rfl)⟩
theorem pk_10_258 : jm_pok 10 (258, 0, 160, 0) := ⟨rX10_isTable, rfl, fun h => absurd (congrArg (fun r => (jr_nm r).name) h) (by decide), Or.inl (jm_gt (jm_t5 202 rfl) rfl)⟩
theorem pk_10_261 : jm_pok 10 (261, 0, 161, 0) := ⟨rX10_power, rfl, fun h => absurd (congrArg (fun r => (jr_nm r).name) h) (by decide), Or.inl (jm_gt (jm_t5 206 rfl) rfl)⟩
theorem pk_10_264 : jm_pok 10 (264, 0, 162, 0) := ⟨rX10_saysOf, rfl, fun h => absurd (congrArg (fun r => (jr_nm r).name) h) (by decide), Or.inl (jm_gt (jm_t5 209 rfl) rfl)⟩
theorem pk_10_267 : jm_pok 10 (267, 3, 10, 35) := ⟨by decide, by decide, jm_gt (jm_t4 194 rfl) rfl⟩
theorem pk_10_270 : jm_pok 10 (270, 0, 170, 0) := ⟨rX10_findMine, rfl, fun h => absurd (congrArg (fun r => (jr_nm r).name) h) (by decide), Or.inl (jm_gt (jm_t6 2 rfl) rfl)⟩
theorem pk_10_274 : jm_pok 10 (274, 0, 171, 0) := ⟨rX10_findAdds, rfl, fun h => absurd (congrArg (fun r => (jr_nm r).name) h) (by decide), Or.inl (jm_gt (jm_t6 6 rfl) rfl)⟩
theorem pk_10_280 : jm_pok 10 (280, 3, 10, 37) := ⟨by decide, by decide, jm_gt (jm_t4 196 rfl) rfl⟩
theorem pk_10_284 : jm_pok 10 (284, 0, 172, 0) := ⟨rX10_goesOn, rfl, fun h => absurd (congrArg (fun r => (jr_nm r).name) h) (by decide), Or.inl (jm_gt (jm_t6 11 rfl) rfl)⟩
theorem pk_10_288 : jm_pok 10 (288, 3, 10, 36) := ⟨by decide, by decide, jm_gt (jm_t4 195 rfl) rfl⟩
theorem pk_10_291 : jm_pok 10 (291, 0, 173, 0) := ⟨rX10_counts, rfl, fun h => absurd (congrArg (fun r => (jr_nm r).name) h) (by decide), Or.inl (jm_gt (jm_t6 15 rfl) rfl)⟩
theorem pk_10_294 : jm_pok 10 (294, 0, 169, 0) := ⟨rX10_findFit, rfl, fun h => absurd (congrArg (fun r => (jr_nm r).name) h) (by decide), Or.inl (jm_gt (jm_t5 238 rfl) rfl)⟩
theorem pk_10_300 : jm_pok 10 (300, 0, 167, 0) := ⟨rX10_notSet, rfl, fun h => absurd (congrArg (fun r => (jr_nm r).name) h) (by decide), Or.inl (jm_gt (jm_t5 230 rfl) rfl)⟩
theorem pk_10_304 : jm_pok 10 (304, 0, 168, 0) := ⟨rX10_score, rfl, fun h => absurd (congrArg (fun r => (jr_nm r).name) h) (by decide), Or.inl (jm_gt (jm_t5 234 rfl) rfl)⟩
theorem pk_10_308 : jm_pok 10 (308, 0, 175, 0) := ⟨rX10_leftOf, rfl, fun h => absurd (congrArg (fun r => (jr_nm r).name) h) (by decide), Or.inl (jm_gt (jm_t6 23 rfl) rfl)⟩
theorem pk_10_313 : jm_pok 10 (313, 0, 179, 0) := ⟨rX10_bestOf, rfl, fun h => absurd (congrArg (fun r => (jr_nm r).name) h) (by decide), Or.inl (jm_gt (jm_t6 40 rfl) rfl)⟩
theorem pk_10_317 : jm_pok 10 (317, 0, 181, 0) := ⟨rX10_allSights, rfl, fun h => absurd (congrArg (fun r => (jr_nm r).name) h) (by decide), Or.inl (jm_gt (jm_t6 48 rfl) rfl)⟩
theorem pk_10_321 : jm_pok 10 (321, 0, 182, 0) := ⟨rX10_isSlack, rfl, fun h => absurd (congrArg (fun r => (jr_nm r).name) h) (by decide), Or.inl (jm_gt (jm_t6 52 rfl) rfl)⟩
theorem pk_10_325 : jm_pok 10 (325, 0, 185, 0) := ⟨rX10_findFits, rfl, fun h => absurd (congrArg (fun r => (jr_nm r).name) h) (by decide), Or.inl (jm_gt (jm_t6 64 rfl) rfl)⟩
theorem pk_10_328 : jm_pok 10 (328, 0, 186, 0) := ⟨rX10_apartAt, rfl, fun h => absurd (congrArg (fun r => (jr_nm r).name) h) (by decide), Or.inl (jm_gt (jm_t6 68 rfl) rfl)⟩
theorem pk_10_331 : jm_pok 10 (331, 0, 190, 0) := ⟨rX10_isHolder, rfl, fun h => absurd (congrArg (fun r => (jr_nm r).name) h) (by decide), Or.inl (jm_gt (jm_t6 84 rfl) rfl)⟩
theorem pk_10_334 : jm_pok 10 (334, 0, 192, 0) := ⟨rX10_hasOf, rfl, fun h => absurd (congrArg (fun r => (jr_nm r).name) h) (by decide), Or.inl (jm_gt (jm_t6 91 rfl) rfl)⟩
theorem pk_10_337 : jm_pok 10 (337, 0, 196, 0) := ⟨rX10_othersOf, rfl, fun h => absurd (congrArg (fun r => (jr_nm r).name) h) (by decide), Or.inl (jm_gt (jm_t6 107 rfl) rfl)⟩
theorem pk_10_341 : jm_pok 10 (341, 0, 195, 0) := ⟨rX10_turnOf, rfl, fun h => absurd (congrArg (fun r => (jr_nm r).name) h) (by decide), Or.inl (jm_gt (jm_t6 103 rfl) rfl)⟩
theorem pk_10_344 : jm_pok 10 (344, 0, 198, 0) := ⟨rX10_bits, rfl, fun h => absurd (congrArg (fun r => (jr_nm r).name) h) (by decide), Or.inl (jm_gt (jm_t6 115 rfl) rfl)⟩
theorem pk_10_347 : jm_pok 10 (347, 0, 199, 0) := ⟨rX10_watched, rfl, fun h => absurd (congrArg (fun r => (jr_nm r).name) h) (by decide), Or.inl (jm_gt (jm_t6 118 rfl) rfl)⟩
theorem pk_10_351 : jm_pok 10 (351, 3, 10, 43) := ⟨by decide, by decide, jm_gt (jm_t4 202 rfl) rfl⟩
theorem pk_10_355 : jm_pok 10 (355, 3, 10, 42) := ⟨by decide, by decide, jm_gt (jm_t4 201 rfl) rfl⟩
theorem pk_10_358 : jm_pok 10 (358, 0, 202, 0) := ⟨rX10_passes, rfl, fun h => absurd (congrArg (fun r => (jr_nm r).name) h) (by decide), Or.inl (jm_gt (jm_t6 130 rfl) rfl)⟩
theorem pk_10_362 : jm_pok 10 (362, 0, 203, 0) := ⟨rX10_passOne, rfl, fun h => absurd (congrArg (fun r => (jr_nm r).name) h) (by decide), Or.inl (jm_gt (jm_t6 134 rfl) rfl)⟩
theorem pk_10_365 : jm_pok 10 (365, 3, 10, 41) := ⟨by decide, by decide, jm_gt (jm_t4 200 rfl) rfl⟩
theorem pk_10_368 : jm_pok 10 (368, 0, 201, 0) := ⟨rX10_passesAll, rfl, fun h => absurd (congrArg (fun r => (jr_nm r).name) h) (by decide), Or.inl (jm_gt (jm_t6 126 rfl) rfl)⟩
theorem jm_pall10 : ∀ q ∈ jm_pl10, jm_pok 10 q := List.forall_mem_cons.mpr ⟨pk_10_1, List.forall_mem_cons.mpr ⟨pk_10_7, List.forall_mem_cons.mpr ⟨pk_10_13, List.forall_mem_cons.mpr ⟨pk_10_16, List.forall_mem_cons.mpr ⟨pk_10_19, List.forall_mem_cons.mpr ⟨pk_10_22, List.forall_mem_cons.mpr ⟨pk_10_25, List.forall_mem_cons.mpr ⟨pk_10_28, List.forall_mem_cons.mpr ⟨pk_10_31, List.forall_mem_cons.mpr ⟨pk_10_35, List.forall_mem_cons.mpr ⟨pk_10_38, List.forall_mem_cons.mpr ⟨pk_10_41, List.forall_mem_cons.mpr ⟨pk_10_44, List.forall_mem_cons.mpr ⟨pk_10_47, List.forall_mem_cons.mpr ⟨pk_10_50, List.forall_mem_cons.mpr ⟨pk_10_53, List.forall_mem_cons.mpr ⟨pk_10_56, List.forall_mem_cons.mpr ⟨pk_10_59, List.forall_mem_cons.mpr ⟨pk_10_62, List.forall_mem_cons.mpr ⟨pk_10_65, List.forall_mem_cons.mpr ⟨pk_10_68, List.forall_mem_cons.mpr ⟨pk_10_71, List.forall_mem_cons.mpr ⟨pk_10_74, List.forall_mem_cons.mpr ⟨pk_10_77, List.forall_mem_cons.mpr ⟨pk_10_80, List.forall_mem_cons.mpr ⟨pk_10_83, List.forall_mem_cons.mpr ⟨pk_10_86, List.forall_mem_cons.mpr ⟨pk_10_89, List.forall_mem_cons.mpr ⟨pk_10_92, List.forall_mem_cons.mpr ⟨pk_10_95, List.forall_mem_cons.mpr ⟨pk_10_99, List.forall_mem_cons.mpr ⟨pk_10_102, List.forall_mem_cons.mpr ⟨pk_10_105, List.forall_mem_cons.mpr ⟨pk_10_108, List.forall_mem_cons.mpr ⟨pk_10_116, List.forall_mem_cons.mpr ⟨pk_10_120, List.forall_mem_cons.mpr ⟨pk_10_126, List.forall_mem_cons.mpr ⟨pk_10_136, List.forall_mem_cons.mpr ⟨pk_10_154, List.forall_mem_cons.mpr ⟨pk_10_157, List.forall_mem_cons.mpr ⟨pk_10_161, List.forall_mem_cons.mpr ⟨pk_10_165, List.forall_mem_cons.mpr ⟨pk_10_181, List.forall_mem_cons.mpr ⟨pk_10_186, List.forall_mem_cons.mpr ⟨pk_10_196, List.forall_mem_cons.mpr ⟨pk_10_199, List.forall_mem_cons.mpr ⟨pk_10_203, List.forall_mem_cons.mpr ⟨pk_10_213, List.forall_mem_cons.mpr ⟨pk_10_218, List.forall_mem_cons.mpr ⟨pk_10_223, List.forall_mem_cons.mpr ⟨pk_10_226, List.forall_mem_cons.mpr ⟨pk_10_234, List.forall_mem_cons.mpr ⟨pk_10_237, List.forall_mem_cons.mpr ⟨pk_10_240, List.forall_mem_cons.mpr ⟨pk_10_244, List.forall_mem_cons.mpr ⟨pk_10_250, List.forall_mem_cons.mpr ⟨pk_10_254, List.forall_mem_cons.mpr ⟨pk_10_258, List.forall_mem_cons.mpr ⟨pk_10_261, List.forall_mem_cons.mpr ⟨pk_10_264, List.forall_mem_cons.mpr ⟨pk_10_267, List.forall_mem_cons.mpr ⟨pk_10_270, List.forall_mem_cons.mpr ⟨pk_10_274, List.forall_mem_cons.mpr ⟨pk_10_280, List.forall_mem_cons.mpr ⟨pk_10_284, List.forall_mem_cons.mpr ⟨pk_10_288, List.forall_mem_cons.mpr ⟨pk_10_291, List.forall_mem_cons.mpr ⟨pk_10_294, List.forall_mem_cons.mpr ⟨pk_10_300, List.forall_mem_cons.mpr ⟨pk_10_304, List.forall_mem_cons.mpr ⟨pk_10_308, List.forall_mem_cons.mpr ⟨pk_10_313, List.forall_mem_cons.mpr ⟨pk_10_317, List.forall_mem_cons.mpr ⟨pk_10_321, List.forall_mem_cons.mpr ⟨pk_10_325, List.forall_mem_cons.mpr ⟨pk_10_328, List.forall_mem_cons.mpr ⟨pk_10_331, List.forall_mem_cons.mpr ⟨pk_10_334, List.forall_mem_cons.mpr ⟨pk_10_337, List.forall_mem_cons.mpr ⟨pk_10_341, List.forall_mem_cons.mpr ⟨pk_10_344, List.forall_mem_cons.mpr ⟨pk_10_347, List.forall_mem_cons.mpr ⟨pk_10_351, List.forall_mem_cons.mpr ⟨pk_10_355, List.forall_mem_cons.mpr ⟨pk_10_358, List.forall_mem_cons.mpr ⟨pk_10_362, List.forall_mem_cons.mpr ⟨pk_10_365, List.forall_mem_cons.mpr ⟨pk_10_368, fun _ h => absurd h List.not_mem_nil⟩⟩⟩⟩⟩⟩⟩⟩⟩⟩⟩⟩⟩⟩⟩⟩⟩⟩⟩⟩⟩⟩⟩⟩⟩⟩⟩⟩⟩⟩⟩⟩⟩⟩⟩⟩⟩⟩⟩⟩⟩⟩⟩⟩⟩⟩⟩⟩⟩⟩⟩⟩⟩⟩⟩⟩⟩⟩⟩⟩⟩⟩⟩⟩⟩⟩⟩⟩⟩⟩⟩⟩⟩⟩⟩⟩⟩⟩⟩⟩⟩⟩⟩⟩⟩⟩⟩⟩
theorem pki_10_111 : Cond.constant (jm_cn 10) 111 (31556952) ∈ lw_good := jm_gt (jm_t4 158 rfl) rfl
theorem pki_10_185 : Cond.constant (jm_cn 10) 185 (1999999999) ∈ lw_good := jm_gt (jm_t5 129 rfl) rfl
theorem pki_10_212 : Cond.constant (jm_cn 10) 212 (100000) ∈ lw_good := jm_gt (jm_t5 160 rfl) rfl
theorem pki_10_243 : Cond.constant (jm_cn 10) 243 (999999) ∈ lw_good := jm_gt (jm_t5 197 rfl) rfl
theorem jm_kiall10 : ∀ q ∈ jm_ki10, Cond.constant (jm_cn 10) q.1 q.2 ∈ lw_good := List.forall_mem_cons.mpr ⟨pki_10_111, List.forall_mem_cons.mpr ⟨pki_10_185, List.forall_mem_cons.mpr ⟨pki_10_212, List.forall_mem_cons.mpr ⟨pki_10_243, fun _ h => absurd h List.not_mem_nil⟩⟩⟩⟩
theorem pkl_10_112 : Cond.constantLong (jm_cn 10) 112 (4000000000000000000) ∈ lw_good := jm_gt (jm_t5 98 rfl) rfl
theorem pkl_10_114 : Cond.constantLong (jm_cn 10) 114 (3) ∈ lw_good := jm_gt (jm_t5 56 rfl) rfl
theorem pkl_10_124 : Cond.constantLong (jm_cn 10) 124 (999999) ∈ lw_good := jm_gt (jm_t5 64 rfl) rfl
theorem pkl_10_130 : Cond.constantLong (jm_cn 10) 130 (1000) ∈ lw_good := jm_gt (jm_t5 68 rfl) rfl
theorem pkl_10_132 : Cond.constantLong (jm_cn 10) 132 (99) ∈ lw_good := jm_gt (jm_t5 69 rfl) rfl
theorem pkl_10_134 : Cond.constantLong (jm_cn 10) 134 (9999) ∈ lw_good := jm_gt (jm_t5 70 rfl) rfl
theorem pkl_10_140 : Cond.constantLong (jm_cn 10) 140 (-9) ∈ lw_good := jm_gt (jm_t5 79 rfl) rfl
theorem pkl_10_142 : Cond.constantLong (jm_cn 10) 142 (9) ∈ lw_good := jm_gt (jm_t5 80 rfl) rfl
theorem pkl_10_144 : Cond.constantLong (jm_cn 10) 144 (4) ∈ lw_good := jm_gt (jm_t5 85 rfl) rfl
theorem pkl_10_146 : Cond.constantLong (jm_cn 10) 146 (2000) ∈ lw_good := jm_gt (jm_t5 86 rfl) rfl
theorem pkl_10_148 : Cond.constantLong (jm_cn 10) 148 (99999999) ∈ lw_good := jm_gt (jm_t5 87 rfl) rfl
theorem pkl_10_150 : Cond.constantLong (jm_cn 10) 150 (60) ∈ lw_good := jm_gt (jm_t5 88 rfl) rfl
theorem pkl_10_152 : Cond.constantLong (jm_cn 10) 152 (999) ∈ lw_good := jm_gt (jm_t5 89 rfl) rfl
theorem pkl_10_169 : Cond.constantLong (jm_cn 10) 169 (1999999999) ∈ lw_good := jm_gt (jm_t5 115 rfl) rfl
theorem pkl_10_171 : Cond.constantLong (jm_cn 10) 171 (5) ∈ lw_good := jm_gt (jm_t5 120 rfl) rfl
theorem pkl_10_173 : Cond.constantLong (jm_cn 10) 173 (999999999) ∈ lw_good := jm_gt (jm_t5 121 rfl) rfl
theorem pkl_10_175 : Cond.constantLong (jm_cn 10) 175 (-43200) ∈ lw_good := jm_gt (jm_t5 122 rfl) rfl
theorem pkl_10_177 : Cond.constantLong (jm_cn 10) 177 (43200) ∈ lw_good := jm_gt (jm_t5 123 rfl) rfl
theorem pkl_10_179 : Cond.constantLong (jm_cn 10) 179 (-99) ∈ lw_good := jm_gt (jm_t5 124 rfl) rfl
theorem pkl_10_190 : Cond.constantLong (jm_cn 10) 190 (20) ∈ lw_good := jm_gt (jm_t5 146 rfl) rfl
theorem pkl_10_192 : Cond.constantLong (jm_cn 10) 192 (30) ∈ lw_good := jm_gt (jm_t5 147 rfl) rfl
theorem pkl_10_194 : Cond.constantLong (jm_cn 10) 194 (86400) ∈ lw_good := jm_gt (jm_t5 148 rfl) rfl
theorem pkl_10_206 : Cond.constantLong (jm_cn 10) 206 (7) ∈ lw_good := jm_gt (jm_t5 157 rfl) rfl
theorem pkl_10_208 : Cond.constantLong (jm_cn 10) 208 (19999) ∈ lw_good := jm_gt (jm_t5 158 rfl) rfl
theorem pkl_10_210 : Cond.constantLong (jm_cn 10) 210 (99999) ∈ lw_good := jm_gt (jm_t5 159 rfl) rfl
theorem pkl_10_216 : Cond.constantLong (jm_cn 10) 216 (8) ∈ lw_good := jm_gt (jm_t5 173 rfl) rfl
theorem pkl_10_221 : Cond.constantLong (jm_cn 10) 221 (255) ∈ lw_good := jm_gt (jm_t5 174 rfl) rfl
theorem pkl_10_230 : Cond.constantLong (jm_cn 10) 230 (48) ∈ lw_good := jm_gt (jm_t5 191 rfl) rfl
theorem pkl_10_232 : Cond.constantLong (jm_cn 10) 232 (51) ∈ lw_good := jm_gt (jm_t5 192 rfl) rfl
theorem pkl_10_248 : Cond.constantLong (jm_cn 10) 248 (100) ∈ lw_good := jm_gt (jm_t5 224 rfl) rfl
theorem pkl_10_278 : Cond.constantLong (jm_cn 10) 278 (-1) ∈ lw_good := jm_gt (jm_t6 10 rfl) rfl
theorem pkl_10_298 : Cond.constantLong (jm_cn 10) 298 (2) ∈ lw_good := jm_gt (jm_t5 229 rfl) rfl
theorem pkl_10_311 : Cond.constantLong (jm_cn 10) 311 (500) ∈ lw_good := jm_gt (jm_t6 31 rfl) rfl
theorem pkl_10_371 : Cond.constantLong (jm_cn 10) 371 (11) ∈ lw_good := jm_gt (jm_t6 146 rfl) rfl
theorem pkl_10_373 : Cond.constantLong (jm_cn 10) 373 (16) ∈ lw_good := jm_gt (jm_t6 147 rfl) rfl
theorem jm_klall10 : ∀ q ∈ jm_kl10, Cond.constantLong (jm_cn 10) q.1 q.2 ∈ lw_good := List.forall_mem_cons.mpr ⟨pkl_10_112, List.forall_mem_cons.mpr ⟨pkl_10_114, List.forall_mem_cons.mpr ⟨pkl_10_124, List.forall_mem_cons.mpr ⟨pkl_10_130, List.forall_mem_cons.mpr ⟨pkl_10_132, List.forall_mem_cons.mpr ⟨pkl_10_134, List.forall_mem_cons.mpr ⟨pkl_10_140, List.forall_mem_cons.mpr ⟨pkl_10_142, List.forall_mem_cons.mpr ⟨pkl_10_144, List.forall_mem_cons.mpr ⟨pkl_10_146, List.forall_mem_cons.mpr ⟨pkl_10_148, List.forall_mem_cons.mpr ⟨pkl_10_150, List.forall_mem_cons.mpr ⟨pkl_10_152, List.forall_mem_cons.mpr ⟨pkl_10_169, List.forall_mem_cons.mpr ⟨pkl_10_171, List.forall_mem_cons.mpr ⟨pkl_10_173, List.forall_mem_cons.mpr ⟨pkl_10_175, List.forall_mem_cons.mpr ⟨pkl_10_177, List.forall_mem_cons.mpr ⟨pkl_10_179, List.forall_mem_cons.mpr ⟨pkl_10_190, List.forall_mem_cons.mpr ⟨pkl_10_192, List.forall_mem_cons.mpr ⟨pkl_10_194, List.forall_mem_cons.mpr ⟨pkl_10_206, List.forall_mem_cons.mpr ⟨pkl_10_208, List.forall_mem_cons.mpr ⟨pkl_10_210, List.forall_mem_cons.mpr ⟨pkl_10_216, List.forall_mem_cons.mpr ⟨pkl_10_221, List.forall_mem_cons.mpr ⟨pkl_10_230, List.forall_mem_cons.mpr ⟨pkl_10_232, List.forall_mem_cons.mpr ⟨pkl_10_248, List.forall_mem_cons.mpr ⟨pkl_10_278, List.forall_mem_cons.mpr ⟨pkl_10_298, List.forall_mem_cons.mpr ⟨pkl_10_311, List.forall_mem_cons.mpr ⟨pkl_10_371, List.forall_mem_cons.mpr ⟨pkl_10_373, fun _ h => absurd h List.not_mem_nil⟩⟩⟩⟩⟩⟩⟩⟩⟩⟩⟩⟩⟩⟩⟩⟩⟩⟩⟩⟩⟩⟩⟩⟩⟩⟩⟩⟩⟩⟩⟩⟩⟩⟩⟩
theorem pk_11_7 : jm_pok 11 (7, 5, 9, 0) := ⟨by decide, jm_gt (jm_t1 15 rfl) rfl⟩
theorem pk_11_9 : jm_pok 11 (9, 0, 1, 0) := ⟨rX9_init, rfl, fun h => absurd (congrArg (fun r => (jr_nm r).name) h) (by decide), Or.inl (jm_gt (jm_t1 17 rfl) rfl)⟩
theorem pk_11_10 : jm_pok 11 (10, 5, 10, 0) := ⟨by decide, jm_gt (jm_t4 152 rfl) rfl⟩
theorem pk_11_12 : jm_pok 11 (12, 0, 129, 0) := ⟨rX10_init, rfl, fun h => absurd (congrArg (fun r => (jr_nm r).name) h) (by decide), Or.inl (jm_gt (jm_t4 154 rfl) rfl)⟩
theorem pk_11_13 : jm_pok 11 (13, 0, 11, 0) := ⟨rX9_moon, rfl, fun h => absurd (congrArg (fun r => (jr_nm r).name) h) (by decide), Or.inl (jm_gt (jm_t2 79 rfl) rfl)⟩
theorem pk_11_17 : jm_pok 11 (17, 0, 130, 0) := ⟨rX10_moon, rfl, fun h => absurd (congrArg (fun r => (jr_nm r).name) h) (by decide), Or.inl (jm_gt (jm_t5 52 rfl) rfl)⟩
theorem pk_11_18 : jm_pok 11 (18, 0, 17, 0) := ⟨rX9_pull, rfl, fun h => absurd (congrArg (fun r => (jr_nm r).name) h) (by decide), Or.inl (jm_gt (jm_t2 101 rfl) rfl)⟩
theorem pk_11_22 : jm_pok 11 (22, 0, 134, 0) := ⟨rX10_pull, rfl, fun h => absurd (congrArg (fun r => (jr_nm r).name) h) (by decide), Or.inl (jm_gt (jm_t5 71 rfl) rfl)⟩
theorem pk_11_23 : jm_pok 11 (23, 0, 19, 0) := ⟨rX9_set, rfl, fun h => absurd (congrArg (fun r => (jr_nm r).name) h) (by decide), Or.inl (jm_gt (jm_t2 109 rfl) rfl)⟩
theorem pk_11_27 : jm_pok 11 (27, 0, 136, 0) := ⟨rX10_set, rfl, fun h => absurd (congrArg (fun r => (jr_nm r).name) h) (by decide), Or.inl (jm_gt (jm_t5 81 rfl) rfl)⟩
theorem pk_11_28 : jm_pok 11 (28, 0, 20, 0) := ⟨rX9_fading, rfl, fun h => absurd (congrArg (fun r => (jr_nm r).name) h) (by decide), Or.inl (jm_gt (jm_t2 117 rfl) rfl)⟩
theorem pk_11_32 : jm_pok 11 (32, 0, 137, 0) := ⟨rX10_fading, rfl, fun h => absurd (congrArg (fun r => (jr_nm r).name) h) (by decide), Or.inl (jm_gt (jm_t5 90 rfl) rfl)⟩
theorem pk_11_33 : jm_pok 11 (33, 0, 26, 0) := ⟨rX9_far, rfl, fun h => absurd (congrArg (fun r => (jr_nm r).name) h) (by decide), Or.inl (jm_gt (jm_t2 152 rfl) rfl)⟩
theorem pk_11_37 : jm_pok 11 (37, 0, 142, 0) := ⟨rX10_far, rfl, fun h => absurd (congrArg (fun r => (jr_nm r).name) h) (by decide), Or.inl (jm_gt (jm_t5 111 rfl) rfl)⟩
theorem pk_11_38 : jm_pok 11 (38, 0, 27, 0) := ⟨rX9_tool, rfl, fun h => absurd (congrArg (fun r => (jr_nm r).name) h) (by decide), Or.inl (jm_gt (jm_t2 158 rfl) rfl)⟩
theorem pk_11_41 : jm_pok 11 (41, 0, 143, 0) := ⟨rX10_tool, rfl, fun h => absurd (congrArg (fun r => (jr_nm r).name) h) (by decide), Or.inl (jm_gt (jm_t5 116 rfl) rfl)⟩
theorem pk_11_42 : jm_pok 11 (42, 0, 29, 0) := ⟨rX9_sight, rfl, fun h => absurd (congrArg (fun r => (jr_nm r).name) h) (by decide), Or.inl (jm_gt (jm_t2 172 rfl) rfl)⟩
theorem pk_11_46 : jm_pok 11 (46, 0, 144, 0) := ⟨rX10_sight, rfl, fun h => absurd (congrArg (fun r => (jr_nm r).name) h) (by decide), Or.inl (jm_gt (jm_t5 125 rfl) rfl)⟩
theorem pk_11_47 : jm_pok 11 (47, 0, 31, 0) := ⟨rX9_right, rfl, fun h => absurd (congrArg (fun r => (jr_nm r).name) h) (by decide), Or.inl (jm_gt (jm_t2 180 rfl) rfl)⟩
theorem pk_11_51 : jm_pok 11 (51, 0, 146, 0) := ⟨rX10_right, rfl, fun h => absurd (congrArg (fun r => (jr_nm r).name) h) (by decide), Or.inl (jm_gt (jm_t5 134 rfl) rfl)⟩
theorem pk_11_52 : jm_pok 11 (52, 0, 38, 0) := ⟨rX9_put, rfl, fun h => absurd (congrArg (fun r => (jr_nm r).name) h) (by decide), Or.inl (jm_gt (jm_t2 211 rfl) rfl)⟩
theorem pk_11_55 : jm_pok 11 (55, 0, 149, 0) := ⟨rX10_put, rfl, fun h => absurd (congrArg (fun r => (jr_nm r).name) h) (by decide), Or.inl (jm_gt (jm_t5 149 rfl) rfl)⟩
theorem pk_11_56 : jm_pok 11 (56, 0, 39, 0) := ⟨rX9_read, rfl, fun h => absurd (congrArg (fun r => (jr_nm r).name) h) (by decide), Or.inl (jm_gt (jm_t2 215 rfl) rfl)⟩
theorem pk_11_60 : jm_pok 11 (60, 0, 150, 0) := ⟨rX10_read, rfl, fun h => absurd (congrArg (fun r => (jr_nm r).name) h) (by decide), Or.inl (jm_gt (jm_t5 153 rfl) rfl)⟩
theorem pk_11_61 : jm_pok 11 (61, 0, 41, 0) := ⟨rX9_takeBack, rfl, fun h => absurd (congrArg (fun r => (jr_nm r).name) h) (by decide), Or.inl (jm_gt (jm_t2 226 rfl) rfl)⟩
theorem pk_11_64 : jm_pok 11 (64, 0, 151, 0) := ⟨rX10_takeBack, rfl, fun h => absurd (congrArg (fun r => (jr_nm r).name) h) (by decide), Or.inl (jm_gt (jm_t5 161 rfl) rfl)⟩
theorem pk_11_67 : jm_pok 11 (67, 0, 43, 0) := ⟨rX9_feed, rfl, fun h => absurd (congrArg (fun r => (jr_nm r).name) h) (by decide), Or.inl (jm_gt (jm_t2 234 rfl) rfl)⟩
theorem pk_11_71 : jm_pok 11 (71, 0, 153, 0) := ⟨rX10_feed, rfl, fun h => absurd (congrArg (fun r => (jr_nm r).name) h) (by decide), Or.inl (jm_gt (jm_t5 169 rfl) rfl)⟩
theorem pk_11_72 : jm_pok 11 (72, 0, 45, 0) := ⟨rX9_table, rfl, fun h => absurd (congrArg (fun r => (jr_nm r).name) h) (by decide), Or.inl (jm_gt (jm_t3 2 rfl) rfl)⟩
theorem pk_11_75 : jm_pok 11 (75, 0, 154, 0) := ⟨rX10_table, rfl, fun h => absurd (congrArg (fun r => (jr_nm r).name) h) (by decide), Or.inl (jm_gt (jm_t5 175 rfl) rfl)⟩
theorem pk_11_76 : jm_pok 11 (76, 0, 50, 0) := ⟨rX9_guess, rfl, fun h => absurd (congrArg (fun r => (jr_nm r).name) h) (by decide), Or.inl (jm_gt (jm_t3 23 rfl) rfl)⟩
theorem pk_11_79 : jm_pok 11 (79, 0, 158, 0) := ⟨rX10_guess, rfl, fun h => absurd (congrArg (fun r => (jr_nm r).name) h) (by decide), Or.inl (jm_gt (jm_t5 193 rfl) rfl)⟩
theorem pk_11_80 : jm_pok 11 (80, 0, 51, 0) := ⟨rX9_says, rfl, fun h => absurd (congrArg (fun r => (jr_nm r).name) h) (by decide), Or.inl (jm_gt (jm_t3 27 rfl) rfl)⟩
theorem pk_11_84 : jm_pok 11 (84, 0, 159, 0) := ⟨rX10_says, rfl, fun h => absurd (congrArg (fun r => (jr_nm r).name) h) (by decide), Or.inl (jm_gt (jm_t5 198 rfl) rfl)⟩
theorem pk_11_85 : jm_pok 11 (85, 0, 57, 0) := ⟨rX9_fit, rfl, fun h => absurd (congrArg (fun r => (jr_nm r).name) h) (by decide), Or.inl (jm_gt (jm_t3 53 rfl) rfl)⟩
theorem pk_11_89 : jm_pok 11 (89, 0, 166, 0) := ⟨rX10_fit, rfl, fun h => absurd (congrArg (fun r => (jr_nm r).name) h) (by decide), Or.inl (jm_gt (jm_t5 225 rfl) rfl)⟩
theorem pk_11_90 : jm_pok 11 (90, 0, 73, 0) := ⟨rX9_left, rfl, fun h => absurd (congrArg (fun r => (jr_nm r).name) h) (by decide), Or.inl (jm_gt (jm_t3 127 rfl) rfl)⟩
theorem pk_11_94 : jm_pok 11 (94, 0, 174, 0) := ⟨rX10_left, rfl, fun h => absurd (congrArg (fun r => (jr_nm r).name) h) (by decide), Or.inl (jm_gt (jm_t6 19 rfl) rfl)⟩
theorem pk_11_95 : jm_pok 11 (95, 0, 75, 0) := ⟨rX9_season, rfl, fun h => absurd (congrArg (fun r => (jr_nm r).name) h) (by decide), Or.inl (jm_gt (jm_t3 137 rfl) rfl)⟩
theorem pk_11_98 : jm_pok 11 (98, 0, 176, 0) := ⟨rX10_season, rfl, fun h => absurd (congrArg (fun r => (jr_nm r).name) h) (by decide), Or.inl (jm_gt (jm_t6 27 rfl) rfl)⟩
theorem pk_11_99 : jm_pok 11 (99, 0, 77, 0) := ⟨rX9_worth, rfl, fun h => absurd (congrArg (fun r => (jr_nm r).name) h) (by decide), Or.inl (jm_gt (jm_t3 147 rfl) rfl)⟩
theorem pk_11_103 : jm_pok 11 (103, 0, 177, 0) := ⟨rX10_worth, rfl, fun h => absurd (congrArg (fun r => (jr_nm r).name) h) (by decide), Or.inl (jm_gt (jm_t6 32 rfl) rfl)⟩
theorem pk_11_104 : jm_pok 11 (104, 0, 78, 0) := ⟨rX9_best, rfl, fun h => absurd (congrArg (fun r => (jr_nm r).name) h) (by decide), Or.inl (jm_gt (jm_t3 151 rfl) rfl)⟩
theorem pk_11_107 : jm_pok 11 (107, 0, 178, 0) := ⟨rX10_best, rfl, fun h => absurd (congrArg (fun r => (jr_nm r).name) h) (by decide), Or.inl (jm_gt (jm_t6 36 rfl) rfl)⟩
theorem pk_11_108 : jm_pok 11 (108, 0, 82, 0) := ⟨rX9_allMoons, rfl, fun h => absurd (congrArg (fun r => (jr_nm r).name) h) (by decide), Or.inl (jm_gt (jm_t3 169 rfl) rfl)⟩
theorem pk_11_111 : jm_pok 11 (111, 0, 180, 0) := ⟨rX10_allMoons, rfl, fun h => absurd (congrArg (fun r => (jr_nm r).name) h) (by decide), Or.inl (jm_gt (jm_t6 44 rfl) rfl)⟩
theorem pk_11_112 : jm_pok 11 (112, 0, 86, 0) := ⟨rX9_foretold, rfl, fun h => absurd (congrArg (fun r => (jr_nm r).name) h) (by decide), Or.inl (jm_gt (jm_t3 191 rfl) rfl)⟩
theorem pk_11_116 : jm_pok 11 (116, 0, 183, 0) := ⟨rX10_foretold, rfl, fun h => absurd (congrArg (fun r => (jr_nm r).name) h) (by decide), Or.inl (jm_gt (jm_t6 56 rfl) rfl)⟩
theorem pk_11_117 : jm_pok 11 (117, 0, 87, 0) := ⟨rX9_parts, rfl, fun h => absurd (congrArg (fun r => (jr_nm r).name) h) (by decide), Or.inl (jm_gt (jm_t3 195 rfl) rfl)⟩
theorem pk_11_120 : jm_pok 11 (120, 0, 184, 0) := ⟨rX10_parts, rfl, fun h => absurd (congrArg (fun r => (jr_nm r).name) h) (by decide), Or.inl (jm_gt (jm_t6 60 rfl) rfl)⟩
theorem pk_11_121 : jm_pok 11 (121, 0, 89, 0) := ⟨rX9_rhythm, rfl, fun h => absurd (congrArg (fun r => (jr_nm r).name) h) (by decide), Or.inl (jm_gt (jm_t3 205 rfl) rfl)⟩
theorem pk_11_124 : jm_pok 11 (124, 0, 187, 0) := ⟨rX10_rhythm, rfl, fun h => absurd (congrArg (fun r => (jr_nm r).name) h) (by decide), Or.inl (jm_gt (jm_t6 72 rfl) rfl)⟩
theorem pk_11_125 : jm_pok 11 (125, 0, 91, 0) := ⟨rX9_apart, rfl, fun h => absurd (congrArg (fun r => (jr_nm r).name) h) (by decide), Or.inl (jm_gt (jm_t3 215 rfl) rfl)⟩
theorem pk_11_129 : jm_pok 11 (129, 0, 188, 0) := ⟨rX10_apart, rfl, fun h => absurd (congrArg (fun r => (jr_nm r).name) h) (by decide), Or.inl (jm_gt (jm_t6 76 rfl) rfl)⟩
theorem pk_11_130 : jm_pok 11 (130, 0, 96, 0) := ⟨rX9_send, rfl, fun h => absurd (congrArg (fun r => (jr_nm r).name) h) (by decide), Or.inl (jm_gt (jm_t3 236 rfl) rfl)⟩
theorem pk_11_133 : jm_pok 11 (133, 0, 189, 0) := ⟨rX10_send, rfl, fun h => absurd (congrArg (fun r => (jr_nm r).name) h) (by decide), Or.inl (jm_gt (jm_t6 80 rfl) rfl)⟩
theorem pk_11_134 : jm_pok 11 (134, 0, 98, 0) := ⟨rX9_has, rfl, fun h => absurd (congrArg (fun r => (jr_nm r).name) h) (by decide), Or.inl (jm_gt (jm_t4 4 rfl) rfl)⟩
theorem pk_11_138 : jm_pok 11 (138, 0, 191, 0) := ⟨rX10_has, rfl, fun h => absurd (congrArg (fun r => (jr_nm r).name) h) (by decide), Or.inl (jm_gt (jm_t6 87 rfl) rfl)⟩
theorem pk_11_139 : jm_pok 11 (139, 0, 100, 0) := ⟨rX9_believes, rfl, fun h => absurd (congrArg (fun r => (jr_nm r).name) h) (by decide), Or.inl (jm_gt (jm_t4 12 rfl) rfl)⟩
theorem pk_11_142 : jm_pok 11 (142, 0, 193, 0) := ⟨rX10_believes, rfl, fun h => absurd (congrArg (fun r => (jr_nm r).name) h) (by decide), Or.inl (jm_gt (jm_t6 95 rfl) rfl)⟩
theorem pk_11_143 : jm_pok 11 (143, 0, 102, 0) := ⟨rX9_turn, rfl, fun h => absurd (congrArg (fun r => (jr_nm r).name) h) (by decide), Or.inl (jm_gt (jm_t4 20 rfl) rfl)⟩
theorem pk_11_146 : jm_pok 11 (146, 0, 194, 0) := ⟨rX10_turn, rfl, fun h => absurd (congrArg (fun r => (jr_nm r).name) h) (by decide), Or.inl (jm_gt (jm_t6 99 rfl) rfl)⟩
theorem pk_11_147 : jm_pok 11 (147, 0, 110, 0) := ⟨rX9_watch, rfl, fun h => absurd (congrArg (fun r => (jr_nm r).name) h) (by decide), Or.inl (jm_gt (jm_t4 59 rfl) rfl)⟩
theorem pk_11_150 : jm_pok 11 (150, 0, 197, 0) := ⟨rX10_watch, rfl, fun h => absurd (congrArg (fun r => (jr_nm r).name) h) (by decide), Or.inl (jm_gt (jm_t6 111 rfl) rfl)⟩
theorem pk_11_151 : jm_pok 11 (151, 0, 117, 0) := ⟨rX9_image, rfl, fun h => absurd (congrArg (fun r => (jr_nm r).name) h) (by decide), Or.inl (jm_gt (jm_t4 93 rfl) rfl)⟩
theorem pk_11_154 : jm_pok 11 (154, 0, 200, 0) := ⟨rX10_image, rfl, fun h => absurd (congrArg (fun r => (jr_nm r).name) h) (by decide), Or.inl (jm_gt (jm_t6 122 rfl) rfl)⟩
theorem pk_11_155 : jm_pok 11 (155, 0, 124, 0) := ⟨rX9_restore, rfl, fun h => absurd (congrArg (fun r => (jr_nm r).name) h) (by decide), Or.inl (jm_gt (jm_t4 131 rfl) rfl)⟩
theorem pk_11_158 : jm_pok 11 (158, 0, 204, 0) := ⟨rX10_restore, rfl, fun h => absurd (congrArg (fun r => (jr_nm r).name) h) (by decide), Or.inl (jm_gt (jm_t6 138 rfl) rfl)⟩
theorem pk_11_159 : jm_pok 11 (159, 0, 125, 0) := ⟨rX9_count, rfl, fun h => absurd (congrArg (fun r => (jr_nm r).name) h) (by decide), Or.inl (jm_gt (jm_t4 135 rfl) rfl)⟩
theorem pk_11_162 : jm_pok 11 (162, 0, 205, 0) := ⟨rX10_count, rfl, fun h => absurd (congrArg (fun r => (jr_nm r).name) h) (by decide), Or.inl (jm_gt (jm_t6 142 rfl) rfl)⟩
theorem jm_pall11 : ∀ q ∈ jm_pl11, jm_pok 11 q := List.forall_mem_cons.mpr ⟨pk_11_7, List.forall_mem_cons.mpr ⟨pk_11_9, List.forall_mem_cons.mpr ⟨pk_11_10, List.forall_mem_cons.mpr ⟨pk_11_12, List.forall_mem_cons.mpr ⟨pk_11_13, List.forall_mem_cons.mpr ⟨pk_11_17, List.forall_mem_cons.mpr ⟨pk_11_18, List.forall_mem_cons.mpr ⟨pk_11_22, List.forall_mem_cons.mpr ⟨pk_11_23, List.forall_mem_cons.mpr ⟨pk_11_27, List.forall_mem_cons.mpr ⟨pk_11_28, List.forall_mem_cons.mpr ⟨pk_11_32, List.forall_mem_cons.mpr ⟨pk_11_33, List.forall_mem_cons.mpr ⟨pk_11_37, List.forall_mem_cons.mpr ⟨pk_11_38, List.forall_mem_cons.mpr ⟨pk_11_41, List.forall_mem_cons.mpr ⟨pk_11_42, List.forall_mem_cons.mpr ⟨pk_11_46, List.forall_mem_cons.mpr ⟨pk_11_47, List.forall_mem_cons.mpr ⟨pk_11_51, List.forall_mem_cons.mpr ⟨pk_11_52, List.forall_mem_cons.mpr ⟨pk_11_55, List.forall_mem_cons.mpr ⟨pk_11_56, List.forall_mem_cons.mpr ⟨pk_11_60, List.forall_mem_cons.mpr ⟨pk_11_61, List.forall_mem_cons.mpr ⟨pk_11_64, List.forall_mem_cons.mpr ⟨pk_11_67, List.forall_mem_cons.mpr ⟨pk_11_71, List.forall_mem_cons.mpr ⟨pk_11_72, List.forall_mem_cons.mpr ⟨pk_11_75, List.forall_mem_cons.mpr ⟨pk_11_76, List.forall_mem_cons.mpr ⟨pk_11_79, List.forall_mem_cons.mpr ⟨pk_11_80, List.forall_mem_cons.mpr ⟨pk_11_84, List.forall_mem_cons.mpr ⟨pk_11_85, List.forall_mem_cons.mpr ⟨pk_11_89, List.forall_mem_cons.mpr ⟨pk_11_90, List.forall_mem_cons.mpr ⟨pk_11_94, List.forall_mem_cons.mpr ⟨pk_11_95, List.forall_mem_cons.mpr ⟨pk_11_98, List.forall_mem_cons.mpr ⟨pk_11_99, List.forall_mem_cons.mpr ⟨pk_11_103, List.forall_mem_cons.mpr ⟨pk_11_104, List.forall_mem_cons.mpr ⟨pk_11_107, List.forall_mem_cons.mpr ⟨pk_11_108, List.forall_mem_cons.mpr ⟨pk_11_111, List.forall_mem_cons.mpr ⟨pk_11_112, List.forall_mem_cons.mpr ⟨pk_11_116, List.forall_mem_cons.mpr ⟨pk_11_117, List.forall_mem_cons.mpr ⟨pk_11_120, List.forall_mem_cons.mpr ⟨pk_11_121, List.forall_mem_cons.mpr ⟨pk_11_124, List.forall_mem_cons.mpr ⟨pk_11_125, List.forall_mem_cons.mpr ⟨pk_11_129, List.forall_mem_cons.mpr ⟨pk_11_130, List.forall_mem_cons.mpr ⟨pk_11_133, List.forall_mem_cons.mpr ⟨pk_11_134, List.forall_mem_cons.mpr ⟨pk_11_138, List.forall_mem_cons.mpr ⟨pk_11_139, List.forall_mem_cons.mpr ⟨pk_11_142, List.forall_mem_cons.mpr ⟨pk_11_143, List.forall_mem_cons.mpr ⟨pk_11_146, List.forall_mem_cons.mpr ⟨pk_11_147, List.forall_mem_cons.mpr ⟨pk_11_150, List.forall_mem_cons.mpr ⟨pk_11_151, List.forall_mem_cons.mpr ⟨pk_11_154, List.forall_mem_cons.mpr ⟨pk_11_155, List.forall_mem_cons.mpr ⟨pk_11_158, List.forall_mem_cons.mpr ⟨pk_11_159, List.forall_mem_cons.mpr ⟨pk_11_162, fun _ h => absurd h List.not_mem_nil⟩⟩⟩⟩⟩⟩⟩⟩⟩⟩⟩⟩⟩⟩⟩⟩⟩⟩⟩⟩⟩⟩⟩⟩⟩⟩⟩⟩⟩⟩⟩⟩⟩⟩⟩⟩⟩⟩⟩⟩⟩⟩⟩⟩⟩⟩⟩⟩⟩⟩⟩⟩⟩⟩⟩⟩⟩⟩⟩⟩⟩⟩⟩⟩⟩⟩⟩⟩⟩⟩
theorem jm_kiall11 : ∀ q ∈ jm_ki11, Cond.constant (jm_cn 11) q.1 q.2 ∈ lw_good := fun _ h => absurd h List.not_mem_nil
theorem pkl_11_65 : Cond.constantLong (jm_cn 11) 65 (4294967295) ∈ lw_good := jm_gt (jm_t6 148 rfl) rfl
theorem jm_klall11 : ∀ q ∈ jm_kl11, Cond.constantLong (jm_cn 11) q.1 q.2 ∈ lw_good := List.forall_mem_cons.mpr ⟨pkl_11_65, fun _ h => absurd h List.not_mem_nil⟩
theorem jm_pall12 : ∀ q ∈ jm_pl12, jm_pok 12 q := fun _ h => absurd h List.not_mem_nil
theorem pki_12_265 : Cond.constant (jm_cn 12) 265 (1431655765) ∈ lw_good := jm_gt (jm_t4 81 rfl) rfl
theorem pki_12_266 : Cond.constant (jm_cn 12) 266 (858993459) ∈ lw_good := jm_gt (jm_t4 82 rfl) rfl
theorem pki_12_267 : Cond.constant (jm_cn 12) 267 (252645135) ∈ lw_good := jm_gt (jm_t4 83 rfl) rfl
theorem jm_kiall12 : ∀ q ∈ jm_ki12, Cond.constant (jm_cn 12) q.1 q.2 ∈ lw_good := List.forall_mem_cons.mpr ⟨pki_12_265, List.forall_mem_cons.mpr ⟨pki_12_266, List.forall_mem_cons.mpr ⟨pki_12_267, fun _ h => absurd h List.not_mem_nil⟩⟩⟩
theorem jm_klall12 : ∀ q ∈ jm_kl12, Cond.constantLong (jm_cn 12) q.1 q.2 ∈ lw_good := fun _ h => absurd h List.not_mem_nil
theorem jm_pall13 : ∀ q ∈ jm_pl13, jm_pok 13 q := fun _ h => absurd h List.not_mem_nil
theorem jm_kiall13 : ∀ q ∈ jm_ki13, Cond.constant (jm_cn 13) q.1 q.2 ∈ lw_good := fun _ h => absurd h List.not_mem_nil
theorem jm_klall13 : ∀ q ∈ jm_kl13, Cond.constantLong (jm_cn 13) q.1 q.2 ∈ lw_good := fun _ h => absurd h List.not_mem_nil
theorem jm_pall : ∀ c, ∀ q ∈ jm_pl c, jm_pok c q := by
  intro c
  match c with
  | 0 => exact jm_pall0
  | 1 => exact jm_pall1
  | 2 => exact jm_pall2
  | 3 => exact jm_pall3
  | 4 => exact jm_pall4
  | 5 => exact jm_pall5
  | 6 => exact jm_pall6
  | 7 => exact jm_pall7
  | 8 => exact jm_pall8
  | 9 => exact jm_pall9
  | 10 => exact jm_pall10
  | 11 => exact jm_pall11
  | 12 => exact jm_pall12
  | 13 => exact jm_pall13
  | c + 14 => intro q h; exact absurd h List.not_mem_nil
theorem jm_kiall : ∀ c, ∀ q ∈ jm_ki c, Cond.constant (jm_cn c) q.1 q.2 ∈ lw_good := by
  intro c
  match c with
  | 0 => exact jm_kiall0
  | 1 => exact jm_kiall1
  | 2 => exact jm_kiall2
  | 3 => exact jm_kiall3
  | 4 => exact jm_kiall4
  | 5 => exact jm_kiall5
  | 6 => exact jm_kiall6
  | 7 => exact jm_kiall7
  | 8 => exact jm_kiall8
  | 9 => exact jm_kiall9
  | 10 => exact jm_kiall10
  | 11 => exact jm_kiall11
  | 12 => exact jm_kiall12
  | 13 => exact jm_kiall13
  | c + 14 => intro q h; exact absurd h List.not_mem_nil
theorem jm_klall : ∀ c, ∀ q ∈ jm_kl c, Cond.constantLong (jm_cn c) q.1 q.2 ∈ lw_good := by
  intro c
  match c with
  | 0 => exact jm_klall0
  | 1 => exact jm_klall1
  | 2 => exact jm_klall2
  | 3 => exact jm_klall3
  | 4 => exact jm_klall4
  | 5 => exact jm_klall5
  | 6 => exact jm_klall6
  | 7 => exact jm_klall7
  | 8 => exact jm_klall8
  | 9 => exact jm_klall9
  | 10 => exact jm_klall10
  | 11 => exact jm_klall11
  | 12 => exact jm_klall12
  | 13 => exact jm_klall13
  | c + 14 => intro q h; exact absurd h List.not_mem_nil
def jm_cok (c : Nat) : Prop := vwCl[c]? = some (jm_cn c, jm_fT c, jm_fn c) ∧ (∀ w ∈ u_ws (jm_cn c) (jm_fT c) (jm_fn c), w ∈ lw_good) ∧ (∀ k, k < jm_fn c → parseFieldDescriptor (jm_fT c k).2.2.1 = some (jm_ft c k)) ∧ (∀ a, a < jm_fn c → ∀ b, b < jm_fn c → a ≠ b → (jm_fT c a).2.1 ≠ (jm_fT c b).2.1) ∧ Cond.instantiable (jm_cn c) (jm_fn c) ∈ lw_good ∧ Cond.initialized (jm_cn c) ∈ lw_good ∧ ∀ k, k < jm_fn c → (jm_fT c k).1 = jm_cn c
theorem jm_uws {C : String} {T : u_T} {N : Nat} (l : List Cond) (e : u_ws C T N = l) (h : ∀ w ∈ l, w ∈ lw_good) : ∀ w ∈ u_ws C T N, w ∈ lw_good := e ▸ h
theorem jm_uw0 : ∀ w ∈ u_ws (jm_cn 0) (jm_fT 0) (jm_fn 0), w ∈ lw_good := jm_uws [.laysFinal RX0 RX0 "world" "LLateMoons$World;", .laysFinal RX0 RX0 "lefts" "[J", .laysFinal RX0 RX0 "sums" "[J", .laysFinal RX0 RX0 "shares" "[I", .laysFinal RX0 RX0 "terms" "[I", .lays RX0 RX0 "termCount" "I", .lays RX0 RX0 "tries" "I", .lays RX0 RX0 "ofMoon" "I"] rfl (List.forall_mem_cons.mpr ⟨jm_gt (jm_t2 1 rfl) rfl, List.forall_mem_cons.mpr ⟨jm_gt (jm_t2 3 rfl) rfl, List.forall_mem_cons.mpr ⟨jm_gt (jm_t2 5 rfl) rfl, List.forall_mem_cons.mpr ⟨jm_gt (jm_t2 7 rfl) rfl, List.forall_mem_cons.mpr ⟨jm_gt (jm_t2 9 rfl) rfl, List.forall_mem_cons.mpr ⟨jm_gt (jm_t2 11 rfl) rfl, List.forall_mem_cons.mpr ⟨jm_gt (jm_t2 13 rfl) rfl, List.forall_mem_cons.mpr ⟨jm_gt (jm_t2 15 rfl) rfl, fun _ h => absurd h List.not_mem_nil⟩⟩⟩⟩⟩⟩⟩⟩)
theorem jm_ck0 : jm_cok 0 := ⟨rfl, jm_uw0, tyX0_ok, nmX0, jm_gt (jm_t1 228 rfl) rfl, jm_gt (jm_t1 9 rfl) rfl, by decide +kernel⟩
theorem jm_uw1 : ∀ w ∈ u_ws (jm_cn 1) (jm_fT 1) (jm_fn 1), w ∈ lw_good := jm_uws [.laysFinal RX1 RX1 "world" "LLateMoons$World;", .laysFinal RX1 RX1 "fitters" "[LLateMoons$Fitter;", .laysFinal RX1 RX1 "others" "[I"] rfl (List.forall_mem_cons.mpr ⟨jm_gt (jm_t2 22 rfl) rfl, List.forall_mem_cons.mpr ⟨jm_gt (jm_t2 24 rfl) rfl, List.forall_mem_cons.mpr ⟨jm_gt (jm_t2 26 rfl) rfl, fun _ h => absurd h List.not_mem_nil⟩⟩⟩)
theorem jm_ck1 : jm_cok 1 := ⟨rfl, jm_uw1, tyX1_ok, nmX1, jm_gt (jm_t1 221 rfl) rfl, jm_gt (jm_t1 8 rfl) rfl, by decide +kernel⟩
theorem jm_uw2 : ∀ w ∈ u_ws (jm_cn 2) (jm_fT 2) (jm_fn 2), w ∈ lw_good := jm_uws [.laysFinal RX2 RX2 "there" "[Z", .laysFinal RX2 RX2 "first" "[I", .laysFinal RX2 RX2 "period" "[I", .laysFinal RX2 RX2 "out" "[I", .laysFinal RX2 RX2 "length" "[I", .laysFinal RX2 RX2 "pulls" "[I", .laysFinal RX2 RX2 "guessedFirst" "[I", .laysFinal RX2 RX2 "guessedPeriod" "[I"] rfl (List.forall_mem_cons.mpr ⟨jm_gt (jm_t1 57 rfl) rfl, List.forall_mem_cons.mpr ⟨jm_gt (jm_t1 59 rfl) rfl, List.forall_mem_cons.mpr ⟨jm_gt (jm_t1 61 rfl) rfl, List.forall_mem_cons.mpr ⟨jm_gt (jm_t1 63 rfl) rfl, List.forall_mem_cons.mpr ⟨jm_gt (jm_t1 65 rfl) rfl, List.forall_mem_cons.mpr ⟨jm_gt (jm_t1 67 rfl) rfl, List.forall_mem_cons.mpr ⟨jm_gt (jm_t1 69 rfl) rfl, List.forall_mem_cons.mpr ⟨jm_gt (jm_t1 71 rfl) rfl, fun _ h => absurd h List.not_mem_nil⟩⟩⟩⟩⟩⟩⟩⟩)
theorem jm_ck2 : jm_cok 2 := ⟨rfl, jm_uw2, tyX2_ok, nmX2, jm_gt (jm_t1 31 rfl) rfl, jm_gt (jm_t1 3 rfl) rfl, by decide +kernel⟩
theorem jm_uw3 : ∀ w ∈ u_ws (jm_cn 3) (jm_fT 3) (jm_fn 3), w ∈ lw_good := jm_uws [.laysFinal RX3 RX3 "moon" "[I", .laysFinal RX3 RX3 "fading" "[I", .laysFinal RX3 RX3 "kind" "[I", .laysFinal RX3 RX3 "eye" "[I", .laysFinal RX3 RX3 "clock" "[I", .laysFinal RX3 RX3 "town" "[I", .laysFinal RX3 RX3 "second" "[I", .laysFinal RX3 RX3 "days" "[I", .lays RX3 RX3 "size" "I"] rfl (List.forall_mem_cons.mpr ⟨jm_gt (jm_t1 128 rfl) rfl, List.forall_mem_cons.mpr ⟨jm_gt (jm_t1 130 rfl) rfl, List.forall_mem_cons.mpr ⟨jm_gt (jm_t1 132 rfl) rfl, List.forall_mem_cons.mpr ⟨jm_gt (jm_t1 134 rfl) rfl, List.forall_mem_cons.mpr ⟨jm_gt (jm_t1 136 rfl) rfl, List.forall_mem_cons.mpr ⟨jm_gt (jm_t1 138 rfl) rfl, List.forall_mem_cons.mpr ⟨jm_gt (jm_t1 140 rfl) rfl, List.forall_mem_cons.mpr ⟨jm_gt (jm_t1 142 rfl) rfl, List.forall_mem_cons.mpr ⟨jm_gt (jm_t1 144 rfl) rfl, fun _ h => absurd h List.not_mem_nil⟩⟩⟩⟩⟩⟩⟩⟩⟩)
theorem jm_ck3 : jm_cok 3 := ⟨rfl, jm_uw3, tyX3_ok, nmX3, jm_gt (jm_t1 100 rfl) rfl, jm_gt (jm_t1 5 rfl) rfl, by decide +kernel⟩
theorem jm_uw4 : ∀ w ∈ u_ws (jm_cn 4) (jm_fT 4) (jm_fn 4), w ∈ lw_good := jm_uws [.laysFinal RX4 RX4 "terms" "[I", .laysFinal RX4 RX4 "lengths" "[I", .lays RX4 RX4 "size" "I"] rfl (List.forall_mem_cons.mpr ⟨jm_gt (jm_t1 162 rfl) rfl, List.forall_mem_cons.mpr ⟨jm_gt (jm_t1 164 rfl) rfl, List.forall_mem_cons.mpr ⟨jm_gt (jm_t1 166 rfl) rfl, fun _ h => absurd h List.not_mem_nil⟩⟩⟩)
theorem jm_ck4 : jm_cok 4 := ⟨rfl, jm_uw4, tyX4_ok, nmX4, jm_gt (jm_t1 148 rfl) rfl, jm_gt (jm_t1 6 rfl) rfl, by decide +kernel⟩
theorem jm_uw5 : ∀ w ∈ u_ws (jm_cn 5) (jm_fT 5) (jm_fn 5), w ∈ lw_good := jm_uws [.laysFinal RX5 RX5 "bytes" "[I", .lays RX5 RX5 "size" "I", .laysFinal RX5 RX5 "terms" "[I", .lays RX5 RX5 "termCount" "I"] rfl (List.forall_mem_cons.mpr ⟨jm_gt (jm_t1 211 rfl) rfl, List.forall_mem_cons.mpr ⟨jm_gt (jm_t1 213 rfl) rfl, List.forall_mem_cons.mpr ⟨jm_gt (jm_t1 215 rfl) rfl, List.forall_mem_cons.mpr ⟨jm_gt (jm_t1 217 rfl) rfl, fun _ h => absurd h List.not_mem_nil⟩⟩⟩⟩)
theorem jm_ck5 : jm_cok 5 := ⟨rfl, jm_uw5, tyX5_ok, nmX5, jm_gt (jm_t1 199 rfl) rfl, jm_gt (jm_t1 7 rfl) rfl, by decide +kernel⟩
theorem jm_uw6 : ∀ w ∈ u_ws (jm_cn 6) (jm_fT 6) (jm_fn 6), w ∈ lw_good := jm_uws [.laysFinal RX6 RX6 "lean" "[I", .laysFinal RX6 RX6 "loss" "[I", .laysFinal RX6 RX6 "clockSet" "[I", .laysFinal RX6 RX6 "offset" "[I"] rfl (List.forall_mem_cons.mpr ⟨jm_gt (jm_t1 90 rfl) rfl, List.forall_mem_cons.mpr ⟨jm_gt (jm_t1 92 rfl) rfl, List.forall_mem_cons.mpr ⟨jm_gt (jm_t1 94 rfl) rfl, List.forall_mem_cons.mpr ⟨jm_gt (jm_t1 96 rfl) rfl, fun _ h => absurd h List.not_mem_nil⟩⟩⟩⟩)
theorem jm_ck6 : jm_cok 6 := ⟨rfl, jm_uw6, tyX6_ok, nmX6, jm_gt (jm_t1 77 rfl) rfl, jm_gt (jm_t1 4 rfl) rfl, by decide +kernel⟩
theorem jm_uw7 : ∀ w ∈ u_ws (jm_cn 7) (jm_fT 7) (jm_fn 7), w ∈ lw_good := jm_uws [.laysFinal RX7 RX7 "world" "LLateMoons$World;", .laysFinal RX7 RX7 "heard" "[J", .laysFinal RX7 RX7 "gaps" "[J", .laysFinal RX7 RX7 "picked" "[I", .lays RX7 RX7 "pairs" "I"] rfl (List.forall_mem_cons.mpr ⟨jm_gt (jm_t2 40 rfl) rfl, List.forall_mem_cons.mpr ⟨jm_gt (jm_t2 42 rfl) rfl, List.forall_mem_cons.mpr ⟨jm_gt (jm_t2 44 rfl) rfl, List.forall_mem_cons.mpr ⟨jm_gt (jm_t2 46 rfl) rfl, List.forall_mem_cons.mpr ⟨jm_gt (jm_t2 48 rfl) rfl, fun _ h => absurd h List.not_mem_nil⟩⟩⟩⟩⟩)
theorem jm_ck7 : jm_cok 7 := ⟨rfl, jm_uw7, tyX7_ok, nmX7, jm_gt (jm_t2 30 rfl) rfl, jm_gt (jm_t1 10 rfl) rfl, by decide +kernel⟩
theorem jm_uw8 : ∀ w ∈ u_ws (jm_cn 8) (jm_fT 8) (jm_fn 8), w ∈ lw_good := jm_uws [.laysFinal RX8 RX8 "settings" "[I", .laysFinal RX8 RX8 "moons" "LLateMoons$Moons;", .laysFinal RX8 RX8 "tools" "LLateMoons$Tools;", .laysFinal RX8 RX8 "sights" "LLateMoons$Sights;", .laysFinal RX8 RX8 "tables" "LLateMoons$Tables;"] rfl (List.forall_mem_cons.mpr ⟨jm_gt (jm_t1 187 rfl) rfl, List.forall_mem_cons.mpr ⟨jm_gt (jm_t1 189 rfl) rfl, List.forall_mem_cons.mpr ⟨jm_gt (jm_t1 191 rfl) rfl, List.forall_mem_cons.mpr ⟨jm_gt (jm_t1 193 rfl) rfl, List.forall_mem_cons.mpr ⟨jm_gt (jm_t1 195 rfl) rfl, fun _ h => absurd h List.not_mem_nil⟩⟩⟩⟩⟩)
theorem jm_ck8 : jm_cok 8 := ⟨rfl, jm_uw8, tyX8_ok, nmX8, jm_gt (jm_t1 24 rfl) rfl, jm_gt (jm_t1 2 rfl) rfl, by decide +kernel⟩
theorem jm_uw9 : ∀ w ∈ u_ws (jm_cn 9) (jm_fT 9) (jm_fn 9), w ∈ lw_good := jm_uws [.laysFinal RX9 RX9 "world" "LLateMoons$World;", .laysFinal RX9 RX9 "kept" "LLateMoons$World;", .lays RX9 RX9 "isKept" "Z", .laysFinal RX9 RX9 "text" "LLateMoons$Text;", .laysFinal RX9 RX9 "rows" "[I", .lays RX9 RX9 "rowCount" "I", .laysFinal RX9 RX9 "refusals" "[I", .laysFinal RX9 RX9 "judge" "LLateMoons$Judge;", .laysFinal RX9 RX9 "watcher" "LLateMoons$Watcher;"] rfl (List.forall_mem_cons.mpr ⟨jm_gt (jm_t2 60 rfl) rfl, List.forall_mem_cons.mpr ⟨jm_gt (jm_t2 62 rfl) rfl, List.forall_mem_cons.mpr ⟨jm_gt (jm_t2 64 rfl) rfl, List.forall_mem_cons.mpr ⟨jm_gt (jm_t2 66 rfl) rfl, List.forall_mem_cons.mpr ⟨jm_gt (jm_t2 68 rfl) rfl, List.forall_mem_cons.mpr ⟨jm_gt (jm_t2 70 rfl) rfl, List.forall_mem_cons.mpr ⟨jm_gt (jm_t2 72 rfl) rfl, List.forall_mem_cons.mpr ⟨jm_gt (jm_t2 74 rfl) rfl, List.forall_mem_cons.mpr ⟨jm_gt (jm_t2 76 rfl) rfl, fun _ h => absurd h List.not_mem_nil⟩⟩⟩⟩⟩⟩⟩⟩⟩)
theorem jm_ck9 : jm_cok 9 := ⟨rfl, jm_uw9, tyX9_ok, nmX9, jm_gt (jm_t1 16 rfl) rfl, jm_gt (jm_t1 1 rfl) rfl, by decide +kernel⟩
theorem jm_uw10 : ∀ w ∈ u_ws (jm_cn 10) (jm_fT 10) (jm_fn 10), w ∈ lw_good := jm_uws [.laysFinal RX10 RX10 "refused" "[I", .laysFinal RX10 RX10 "first" "[I", .laysFinal RX10 RX10 "period" "[I", .laysFinal RX10 RX10 "outs" "[I", .laysFinal RX10 RX10 "length" "[I", .laysFinal RX10 RX10 "pulls" "[I", .laysFinal RX10 RX10 "set" "[I", .laysFinal RX10 RX10 "there" "[Z", .laysFinal RX10 RX10 "wave" "[I", .laysFinal RX10 RX10 "lean" "[I", .laysFinal RX10 RX10 "loss" "[I", .laysFinal RX10 RX10 "setAt" "[I", .laysFinal RX10 RX10 "offset" "[I", .laysFinal RX10 RX10 "sightM" "[I", .laysFinal RX10 RX10 "sightK" "[I", .laysFinal RX10 RX10 "kind" "[I", .laysFinal RX10 RX10 "eye" "[I", .laysFinal RX10 RX10 "clock" "[I", .laysFinal RX10 RX10 "town" "[I", .laysFinal RX10 RX10 "second" "[I", .lays RX10 RX10 "sights" "I", .laysFinal RX10 RX10 "row" "[I", .lays RX10 RX10 "rowMany" "I", .laysFinal RX10 RX10 "tape" "[I", .laysFinal RX10 RX10 "term" "[I", .laysFinal RX10 RX10 "terms" "[I", .laysFinal RX10 RX10 "guessFirst" "[I", .laysFinal RX10 RX10 "guessPeriod" "[I", .lays RX10 RX10 "taped" "I", .lays RX10 RX10 "tables" "I", .lays RX10 RX10 "at" "I", .laysFinal RX10 RX10 "mine" "[I", .laysFinal RX10 RX10 "counter" "[I", .laysFinal RX10 RX10 "rest" "[J", .laysFinal RX10 RX10 "add" "[J", .lays RX10 RX10 "mineMany" "I", .lays RX10 RX10 "fitNumbers" "I", .lays RX10 RX10 "fitSum" "J", .laysFinal RX10 RX10 "fits" "[I", .laysFinal RX10 RX10 "sent" "[I", .laysFinal RX10 RX10 "kept" "[I", .lays RX10 RX10 "hasImage" "Z", .lays RX10 RX10 "cursor" "I", .lays RX10 RX10 "isKeeping" "Z"] rfl (List.forall_mem_cons.mpr ⟨jm_gt (jm_t4 203 rfl) rfl, List.forall_mem_cons.mpr ⟨jm_gt (jm_t4 205 rfl) rfl, List.forall_mem_cons.mpr ⟨jm_gt (jm_t4 207 rfl) rfl, List.forall_mem_cons.mpr ⟨jm_gt (jm_t4 209 rfl) rfl, List.forall_mem_cons.mpr ⟨jm_gt (jm_t4 211 rfl) rfl, List.forall_mem_cons.mpr ⟨jm_gt (jm_t4 213 rfl) rfl, List.forall_mem_cons.mpr ⟨jm_gt (jm_t4 215 rfl) rfl, List.forall_mem_cons.mpr ⟨jm_gt (jm_t4 217 rfl) rfl, List.forall_mem_cons.mpr ⟨jm_gt (jm_t4 219 rfl) rfl, List.forall_mem_cons.mpr ⟨jm_gt (jm_t4 221 rfl) rfl, List.forall_mem_cons.mpr ⟨jm_gt (jm_t4 223 rfl) rfl, List.forall_mem_cons.mpr ⟨jm_gt (jm_t4 225 rfl) rfl, List.forall_mem_cons.mpr ⟨jm_gt (jm_t4 227 rfl) rfl, List.forall_mem_cons.mpr ⟨jm_gt (jm_t4 229 rfl) rfl, List.forall_mem_cons.mpr ⟨jm_gt (jm_t4 231 rfl) rfl, List.forall_mem_cons.mpr ⟨jm_gt (jm_t4 233 rfl) rfl, List.forall_mem_cons.mpr ⟨jm_gt (jm_t4 235 rfl) rfl, List.forall_mem_cons.mpr ⟨jm_gt (jm_t4 237 rfl) rfl, List.forall_mem_cons.mpr ⟨jm_gt (jm_t4 239 rfl) rfl, List.forall_mem_cons.mpr ⟨jm_gt (jm_t5 1 rfl) rfl, List.forall_mem_cons.mpr ⟨jm_gt (jm_t5 3 rfl) rfl, List.forall_mem_cons.mpr ⟨jm_gt (jm_t5 5 rfl) rfl, List.forall_mem_cons.mpr ⟨jm_gt (jm_t5 7 rfl) rfl, List.forall_mem_cons.mpr ⟨jm_gt (jm_t5 9 rfl) rfl, List.forall_mem_cons.mpr ⟨jm_gt (jm_t5 11 rfl) rfl, List.forall_mem_cons.mpr ⟨jm_gt (jm_t5 13 rfl) rfl, List.forall_mem_cons.mpr ⟨jm_gt (jm_t5 15 rfl) rfl, List.forall_mem_cons.mpr ⟨jm_gt (jm_t5 17 rfl) rfl, List.forall_mem_cons.mpr ⟨jm_gt (jm_t5 19 rfl) rfl, List.forall_mem_cons.mpr ⟨jm_gt (jm_t5 21 rfl) rfl, List.forall_mem_cons.mpr ⟨jm_gt (jm_t5 23 rfl) rfl, List.forall_mem_cons.mpr ⟨jm_gt (jm_t5 25 rfl) rfl, List.forall_mem_cons.mpr ⟨jm_gt (jm_t5 27 rfl) rfl, List.forall_mem_cons.mpr ⟨jm_gt (jm_t5 29 rfl) rfl, List.forall_mem_cons.mpr ⟨jm_gt (jm_t5 31 rfl) rfl, List.forall_mem_cons.mpr ⟨jm_gt (jm_t5 33 rfl) rfl, List.forall_mem_cons.mpr ⟨jm_gt (jm_t5 35 rfl) rfl, List.forall_mem_cons.mpr ⟨jm_gt (jm_t5 37 rfl) rfl, List.forall_mem_cons.mpr ⟨jm_gt (jm_t5 39 rfl) rfl, List.forall_mem_cons.mpr ⟨jm_gt (jm_t5 41 rfl) rfl, List.forall_mem_cons.mpr ⟨jm_gt (jm_t5 43 rfl) rfl, List.forall_mem_cons.mpr ⟨jm_gt (jm_t5 45 rfl) rfl, List.forall_mem_cons.mpr ⟨jm_gt (jm_t5 47 rfl) rfl, List.forall_mem_cons.mpr ⟨jm_gt (jm_t5 49 rfl) rfl, fun _ h => absurd h List.not_mem_nil⟩⟩⟩⟩⟩⟩⟩⟩⟩⟩⟩⟩⟩⟩⟩⟩⟩⟩⟩⟩⟩⟩⟩⟩⟩⟩⟩⟩⟩⟩⟩⟩⟩⟩⟩⟩⟩⟩⟩⟩⟩⟩⟩⟩)
theorem jm_ck10 : jm_cok 10 := ⟨rfl, jm_uw10, tyX10_ok, nmX10, jm_gt (jm_t4 153 rfl) rfl, jm_gt (jm_t1 11 rfl) rfl, by decide +kernel⟩
theorem jm_call_ok : ∀ c, c < 11 → jm_cok c := by
  intro c h
  match c, h with
  | 0, _ => exact jm_ck0
  | 1, _ => exact jm_ck1
  | 2, _ => exact jm_ck2
  | 3, _ => exact jm_ck3
  | 4, _ => exact jm_ck4
  | 5, _ => exact jm_ck5
  | 6, _ => exact jm_ck6
  | 7, _ => exact jm_ck7
  | 8, _ => exact jm_ck8
  | 9, _ => exact jm_ck9
  | 10, _ => exact jm_ck10
  | c + 11, h => exact absurd h (by omega)
theorem jm_arrI : Cond.arrayClass .int ∈ lw_good := jm_gt (jm_t1 74 rfl) rfl
theorem jm_arrL : Cond.arrayClass .long ∈ lw_good := jm_gt (jm_t2 18 rfl) rfl
theorem jm_arrZ : Cond.arrayClass .boolean ∈ lw_good := jm_gt (jm_t1 75 rfl) rfl
theorem jm_arrF : Cond.arrayOver (.object RX0) ∈ lw_nest := jm_nt (jm_t1 227 rfl) rfl
theorem jm_acn : Cond.native arraycopyName ∈ lw_good := jm_gt (jm_t4 109 rfl) rfl
theorem jm_acs : Cond.static arraycopyName ∈ lw_good := jm_gt (jm_t4 108 rfl) rfl
theorem jm_aci : Cond.initialized "java/lang/System" ∈ lw_good := jm_gt (jm_t1 14 rfl) rfl
theorem jm_ms0 : Cond.static Lib.Math.max.name ∈ lw_good := jm_gt (jm_t2 145 rfl) rfl
theorem jm_mc0 : Cond.code Lib.Math.max.name Lib.Math.max.code 2 (some .int) ∈ lw_good := jm_gt (jm_t2 146 rfl) rfl
theorem jm_ms1 : Cond.static Lib.Math.min.name ∈ lw_good := jm_gt (jm_t4 105 rfl) rfl
theorem jm_mc1 : Cond.code Lib.Math.min.name Lib.Math.min.code 2 (some .int) ∈ lw_good := jm_gt (jm_t4 106 rfl) rfl
theorem jm_ms2 : Cond.static Lib.MathLoose.max_long.x ∈ lw_good := jm_gt (jm_t3 189 rfl) rfl
theorem jm_mc2 : Cond.code Lib.MathLoose.max_long.x Lib.MathLoose.max_long.code 4 (some .long) ∈ lw_good := jm_gt (jm_t3 190 rfl) rfl
theorem jm_ms3 : Cond.static Lib.MathLoose.min_long.x ∈ lw_good := jm_gt (jm_t2 149 rfl) rfl
theorem jm_mc3 : Cond.code Lib.MathLoose.min_long.x Lib.MathLoose.min_long.code 4 (some .long) ∈ lw_good := jm_gt (jm_t2 150 rfl) rfl
theorem jm_ms4 : Cond.static Lib.MathLoose.abs_long.x ∈ lw_good := jm_gt (jm_t3 100 rfl) rfl
theorem jm_mc4 : Cond.code Lib.MathLoose.abs_long.x Lib.MathLoose.abs_long.code 2 (some .long) ∈ lw_good := jm_gt (jm_t3 101 rfl) rfl
theorem jm_mi : Cond.initialized "java/lang/Math" ∈ lw_good := jm_gt (jm_t1 12 rfl) rfl
theorem jm_oi : Cond.instanceMethod Lib.objectInit ∈ lw_good := jm_gt (jm_t1 21 rfl) rfl
theorem jm_oc : Cond.code Lib.objectInit ⟨#[0xb1]⟩ 1 none ∈ lw_good := jm_gt (jm_t1 22 rfl) rfl
theorem jm_ls0 : Cond.laysStatic "LateMoons" (jm_sn 0) "[I" ∈ tables_1 := (jm_t2 114 rfl)
theorem jm_ls1 : Cond.laysStatic "LateMoons" (jm_sn 1) "[I" ∈ tables_1 := (jm_t2 116 rfl)
theorem jm_ls2 : Cond.laysStatic "LateMoons" (jm_sn 2) "[I" ∈ tables_1 := (jm_t2 138 rfl)
theorem jm_ls3 : Cond.laysStatic "LateMoons" (jm_sn 3) "[I" ∈ tables_1 := (jm_t2 163 rfl)
theorem jm_ls4 : Cond.laysStatic "LateMoons" (jm_sn 4) "[I" ∈ tables_1 := (jm_t2 165 rfl)
theorem jm_ls5 : Cond.laysStatic "LateMoons" (jm_sn 5) "[I" ∈ tables_1 := (jm_t2 167 rfl)
theorem jm_ls6 : Cond.laysStatic "LateMoons" (jm_sn 6) "[I" ∈ tables_1 := (jm_t2 224 rfl)
theorem jm_ls7 : Cond.laysStatic "LateMoons" (jm_sn 7) "[I" ∈ tables_1 := (jm_t3 36 rfl)
def jm_fko (t : FieldType) : Bool := match t with
  | .int => true
  | .boolean => true
  | .long => true
  | .object _ => true
  | .array _ => true
  | _ => false
theorem jm_fko_ok {t : FieldType} (h : jm_fko t = true) : t = .int ∨ t = .boolean ∨ t = .long ∨ (∃ q, t = .object q) ∨ ∃ q, t = .array q := by
  cases t <;> simp [jm_fko] at h ⊢
theorem jm_ft_ok : ∀ c, c < 11 → ∀ j, j < jm_fn c → jm_ft c j = .int ∨ jm_ft c j = .boolean ∨ jm_ft c j = .long ∨ (∃ q, jm_ft c j = .object q) ∨ ∃ q, jm_ft c j = .array q := by
  have h : ∀ c, c < 11 → ∀ j, j < jm_fn c → jm_fko (jm_ft c j) = true := by decide +kernel
  exact fun c hc j hj => jm_fko_ok (h c hc j hj)
