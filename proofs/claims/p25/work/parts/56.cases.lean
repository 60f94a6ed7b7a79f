set_option maxHeartbeats 4000000 in
set_option maxRecDepth 100000 in
theorem law_c0 {p : Program} {e : Env} {s : State} {m : MethodId} {below : List Frame} {meth : Method} {c : Code} (l : Launch) {b L : Nat} {xs : Nat → Int32} (C0 : lw_At p s m meth c b L xs) {D : va_G} {ca : Nat → ClassId} (hC : Cx D ca s) {A : Nat → Prop} (hA : ∀ q : Nat, s.heap.size ≤ q → A q) (hbA : ¬ A b) {K : (Nat × Nat × Option Nat) × (Nat → Int32)} (hK : SK K A s s.heap) {x0 m0 : Nat} {tm : Int32} {w v : va_W} (hIx : XV ca x0 tm w) (hIm : MV ca m0 tm v) {i : Nat} (hi : i + 6 ≤ L) (hL : L ≤ 3072) {H : Heap} {locs : List Loc} {ls : Array Slot} {Q : State → Prop} (hP : va_P D vwCl (ap w v) H) (hD : va_D A (ap w v)) (hS : va_S A s.heap H locs) (hl : lv_has ls 4 [(3, .int (nI i)), (2, .ref m0), (1, .ref x0), (0, .ref b)]) (kk : ∀ (tm : Int32) (w v : va_W) (H : Heap) (locs : List Loc) (ls : Array Slot), XV ca x0 tm w → MV ca m0 tm v → va_P D vwCl (ap w v) H → va_D A (ap w v) → va_S A s.heap H locs → lv_has ls 4 [(3, .int (nI i)), (2, .ref m0), (1, .ref x0), (0, .ref b)] → W p l e room_1 s m #[Value.ref b] below meth c H locs 212 50162 Q (F0 m 930 ls [])) : W p l e room_1 s m #[Value.ref b] below meth c H locs 212 50162 Q (F0 m 160 ls []) := by
  obtain ⟨hx, hb, hr, hml, hown, hts, hX, hbl, hlocks, hgv⟩ := id C0
  refine lv_aload_n hx hb dL_law_160 rfl (lv_at hl 2 rfl) ?_
  refine lv_aload_n hx hb dL_law_161 rfl (lv_at hl 3 rfl) ?_
  refine lv_iload_n hx hb dL_law_162 rfl (lv_at hl 0 rfl) ?_
  refine lv_iconst (v := 1) hx hb dL_law_163 (by decide +kernel) ?_
  refine lv_iadd hx hb dL_law_164 ?_
  refine nt_i (nI (i + 1)) (nI_add i 1) ?_
  refine va_sld hx hb hX hbl hbA hS (vp_in_nI (n := (i + 1)) (by omega) (by omega)) dL_law_165 ?_
  refine nt_i (xs (i + 1)) (congrArg xs (nI_clamp (by omega))) ?_
  refine lv_aload_n hx hb dL_law_166 rfl (lv_at hl 3 rfl) ?_
  refine lv_iload_n hx hb dL_law_167 rfl (lv_at hl 0 rfl) ?_
  refine lv_iconst (v := 2) hx hb dL_law_168 (by decide +kernel) ?_
  refine lv_iadd hx hb dL_law_169 ?_
  refine nt_i (nI (i + 2)) (nI_add i 2) ?_
  refine va_sld hx hb hX hbl hbA hS (vp_in_nI (n := (i + 2)) (by omega) (by omega)) dL_law_170 ?_
  refine nt_i (xs (i + 2)) (congrArg xs (nI_clamp (by omega))) ?_
  refine lv_aload_n hx hb dL_law_171 rfl (lv_at hl 3 rfl) ?_
  refine lv_iload_n hx hb dL_law_172 rfl (lv_at hl 0 rfl) ?_
  refine lv_iconst (v := 3) hx hb dL_law_173 (by decide +kernel) ?_
  refine lv_iadd hx hb dL_law_174 ?_
  refine nt_i (nI (i + 3)) (nI_add i 3) ?_
  refine va_sld hx hb hX hbl hbA hS (vp_in_nI (n := (i + 3)) (by omega) (by omega)) dL_law_175 ?_
  refine nt_i (xs (i + 3)) (congrArg xs (nI_clamp (by omega))) ?_
  refine lv_aload_n hx hb dL_law_176 rfl (lv_at hl 3 rfl) ?_
  refine lv_iload_n hx hb dL_law_177 rfl (lv_at hl 0 rfl) ?_
  refine lv_iconst (v := 4) hx hb dL_law_178 (by decide +kernel) ?_
  refine lv_iadd hx hb dL_law_179 ?_
  refine nt_i (nI (i + 4)) (nI_add i 4) ?_
  refine va_sld hx hb hX hbl hbA hS (vp_in_nI (n := (i + 4)) (by omega) (by omega)) dL_law_180 ?_
  refine nt_i (xs (i + 4)) (congrArg xs (nI_clamp (by omega))) ?_
  refine lv_aload_n hx hb dL_law_181 rfl (lv_at hl 3 rfl) ?_
  refine lv_iload_n hx hb dL_law_182 rfl (lv_at hl 0 rfl) ?_
  refine lv_iconst (v := 5) hx hb dL_law_183 (by decide +kernel) ?_
  refine lv_iadd hx hb dL_law_184 ?_
  refine nt_i (nI (i + 5)) (nI_add i 5) ?_
  refine va_sld hx hb hX hbl hbA hS (vp_in_nI (n := (i + 5)) (by omega) (by omega)) dL_law_185 ?_
  refine nt_i (xs (i + 5)) (congrArg xs (nI_clamp (by omega))) ?_
  refine lx_feed l C0 hC hA hK hIx (xs (i + 1)) (xs (i + 2)) (xs (i + 3)) (xs (i + 4)) (xs (i + 5)) hl hP hD hS (fun r_1 w H locs hIx hP hD hS => ?_)
  refine lv_pop hx hb dL_law_189 rfl ?_
  refine lv_aload_n hx hb dL_law_190 rfl (lv_at hl 1 rfl) ?_
  refine lv_aload_n hx hb dL_law_191 rfl (lv_at hl 3 rfl) ?_
  refine lv_iload_n hx hb dL_law_192 rfl (lv_at hl 0 rfl) ?_
  refine lv_iconst (v := 1) hx hb dL_law_193 (by decide +kernel) ?_
  refine lv_iadd hx hb dL_law_194 ?_
  refine nt_i (nI (i + 1)) (nI_add i 1) ?_
  refine va_sld hx hb hX hbl hbA hS (vp_in_nI (n := (i + 1)) (by omega) (by omega)) dL_law_195 ?_
  refine nt_i (xs (i + 1)) (congrArg xs (nI_clamp (by omega))) ?_
  refine lv_aload_n hx hb dL_law_196 rfl (lv_at hl 3 rfl) ?_
  refine lv_iload_n hx hb dL_law_197 rfl (lv_at hl 0 rfl) ?_
  refine lv_iconst (v := 2) hx hb dL_law_198 (by decide +kernel) ?_
  refine lv_iadd hx hb dL_law_199 ?_
  refine nt_i (nI (i + 2)) (nI_add i 2) ?_
  refine va_sld hx hb hX hbl hbA hS (vp_in_nI (n := (i + 2)) (by omega) (by omega)) dL_law_200 ?_
  refine nt_i (xs (i + 2)) (congrArg xs (nI_clamp (by omega))) ?_
  refine lv_aload_n hx hb dL_law_201 rfl (lv_at hl 3 rfl) ?_
  refine lv_iload_n hx hb dL_law_202 rfl (lv_at hl 0 rfl) ?_
  refine lv_iconst (v := 3) hx hb dL_law_203 (by decide +kernel) ?_
  refine lv_iadd hx hb dL_law_204 ?_
  refine nt_i (nI (i + 3)) (nI_add i 3) ?_
  refine va_sld hx hb hX hbl hbA hS (vp_in_nI (n := (i + 3)) (by omega) (by omega)) dL_law_205 ?_
  refine nt_i (xs (i + 3)) (congrArg xs (nI_clamp (by omega))) ?_
  refine lv_aload_n hx hb dL_law_206 rfl (lv_at hl 3 rfl) ?_
  refine lv_iload_n hx hb dL_law_207 rfl (lv_at hl 0 rfl) ?_
  refine lv_iconst (v := 4) hx hb dL_law_208 (by decide +kernel) ?_
  refine lv_iadd hx hb dL_law_209 ?_
  refine nt_i (nI (i + 4)) (nI_add i 4) ?_
  refine va_sld hx hb hX hbl hbA hS (vp_in_nI (n := (i + 4)) (by omega) (by omega)) dL_law_210 ?_
  refine nt_i (xs (i + 4)) (congrArg xs (nI_clamp (by omega))) ?_
  refine lv_aload_n hx hb dL_law_211 rfl (lv_at hl 3 rfl) ?_
  refine lv_iload_n hx hb dL_law_212 rfl (lv_at hl 0 rfl) ?_
  refine lv_iconst (v := 5) hx hb dL_law_213 (by decide +kernel) ?_
  refine lv_iadd hx hb dL_law_214 ?_
  refine nt_i (nI (i + 5)) (nI_add i 5) ?_
  refine va_sld hx hb hX hbl hbA hS (vp_in_nI (n := (i + 5)) (by omega) (by omega)) dL_law_215 ?_
  refine nt_i (xs (i + 5)) (congrArg xs (nI_clamp (by omega))) ?_
  refine lm_feed l C0 hC hA hIm (xs (i + 1)) (xs (i + 2)) (xs (i + 3)) (xs (i + 4)) (xs (i + 5)) hl (hP.perm List.perm_append_comm) (hD.perm List.perm_append_comm) hS (fun r_2 v H locs hIm hP hD hS => ?_)
  have hP := hP.perm List.perm_append_comm
  have hD := hD.perm List.perm_append_comm
  refine lv_pop hx hb dL_law_219 rfl ?_
  refine lv_goto (tgt := 930) hx hb dL_law_220 (by decide +kernel) ?_
  exact kk _ _ _ H locs ls hIx hIm hP hD hS hl
set_option maxHeartbeats 4000000 in
set_option maxRecDepth 100000 in
theorem law_c1 {p : Program} {e : Env} {s : State} {m : MethodId} {below : List Frame} {meth : Method} {c : Code} (l : Launch) {b L : Nat} {xs : Nat → Int32} (C0 : lw_At p s m meth c b L xs) {D : va_G} {ca : Nat → ClassId} (hC : Cx D ca s) {A : Nat → Prop} (hA : ∀ q : Nat, s.heap.size ≤ q → A q) (hbA : ¬ A b) {K : (Nat × Nat × Option Nat) × (Nat → Int32)} (hK : SK K A s s.heap) {x0 m0 : Nat} {tm : Int32} {w v : va_W} (hIx : XV ca x0 tm w) (hIm : MV ca m0 tm v) {i : Nat} (hi : i + 6 ≤ L) (hL : L ≤ 3072) {H : Heap} {locs : List Loc} {ls : Array Slot} {Q : State → Prop} (hP : va_P D vwCl (ap w v) H) (hD : va_D A (ap w v)) (hS : va_S A s.heap H locs) (hl : lv_has ls 4 [(3, .int (nI i)), (2, .ref m0), (1, .ref x0), (0, .ref b)]) (kk : ∀ (tm : Int32) (w v : va_W) (H : Heap) (locs : List Loc) (ls : Array Slot), XV ca x0 tm w → MV ca m0 tm v → va_P D vwCl (ap w v) H → va_D A (ap w v) → va_S A s.heap H locs → lv_has ls 4 [(3, .int (nI i)), (2, .ref m0), (1, .ref x0), (0, .ref b)] → W p l e room_1 s m #[Value.ref b] below meth c H locs 212 50162 Q (F0 m 930 ls [])) : W p l e room_1 s m #[Value.ref b] below meth c H locs 212 50162 Q (F0 m 223 ls []) := by
  obtain ⟨hx, hb, hr, hml, hown, hts, hX, hbl, hlocks, hgv⟩ := id C0
  refine lv_aload_n hx hb dL_law_223 rfl (lv_at hl 2 rfl) ?_
  refine lv_aload_n hx hb dL_law_224 rfl (lv_at hl 3 rfl) ?_
  refine lv_iload_n hx hb dL_law_225 rfl (lv_at hl 0 rfl) ?_
  refine lv_iconst (v := 1) hx hb dL_law_226 (by decide +kernel) ?_
  refine lv_iadd hx hb dL_law_227 ?_
  refine nt_i (nI (i + 1)) (nI_add i 1) ?_
  refine va_sld hx hb hX hbl hbA hS (vp_in_nI (n := (i + 1)) (by omega) (by omega)) dL_law_228 ?_
  refine nt_i (xs (i + 1)) (congrArg xs (nI_clamp (by omega))) ?_
  refine lx_end l C0 hC hA hK hIx (xs (i + 1)) hl hP hD hS (fun r_1 w H locs hIx hP hD hS => ?_)
  refine lv_pop hx hb dL_law_232 rfl ?_
  refine lv_aload_n hx hb dL_law_233 rfl (lv_at hl 1 rfl) ?_
  refine lv_aload_n hx hb dL_law_234 rfl (lv_at hl 3 rfl) ?_
  refine lv_iload_n hx hb dL_law_235 rfl (lv_at hl 0 rfl) ?_
  refine lv_iconst (v := 1) hx hb dL_law_236 (by decide +kernel) ?_
  refine lv_iadd hx hb dL_law_237 ?_
  refine nt_i (nI (i + 1)) (nI_add i 1) ?_
  refine va_sld hx hb hX hbl hbA hS (vp_in_nI (n := (i + 1)) (by omega) (by omega)) dL_law_238 ?_
  refine nt_i (xs (i + 1)) (congrArg xs (nI_clamp (by omega))) ?_
  refine lm_end l C0 hC hA hIm (xs (i + 1)) hl (hP.perm List.perm_append_comm) (hD.perm List.perm_append_comm) hS (fun r_2 v H locs hIm hP hD hS => ?_)
  have hP := hP.perm List.perm_append_comm
  have hD := hD.perm List.perm_append_comm
  refine lv_pop hx hb dL_law_242 rfl ?_
  refine lv_goto (tgt := 930) hx hb dL_law_243 (by decide +kernel) ?_
  exact kk _ _ _ H locs ls hIx hIm hP hD hS hl
set_option maxHeartbeats 4000000 in
set_option maxRecDepth 100000 in
theorem law_c2 {p : Program} {e : Env} {s : State} {m : MethodId} {below : List Frame} {meth : Method} {c : Code} (l : Launch) {b L : Nat} {xs : Nat → Int32} (C0 : lw_At p s m meth c b L xs) {D : va_G} {ca : Nat → ClassId} (hC : Cx D ca s) {A : Nat → Prop} (hA : ∀ q : Nat, s.heap.size ≤ q → A q) (hbA : ¬ A b) {K : (Nat × Nat × Option Nat) × (Nat → Int32)} (hK : SK K A s s.heap) {x0 m0 : Nat} {tm : Int32} {w v : va_W} (hIx : XV ca x0 tm w) (hIm : MV ca m0 tm v) {i : Nat} (hi : i + 6 ≤ L) (hL : L ≤ 3072) {H : Heap} {locs : List Loc} {ls : Array Slot} {Q : State → Prop} (hP : va_P D vwCl (ap w v) H) (hD : va_D A (ap w v)) (hS : va_S A s.heap H locs) (hl : lv_has ls 4 [(3, .int (nI i)), (2, .ref m0), (1, .ref x0), (0, .ref b)]) (kk : ∀ (tm : Int32) (w v : va_W) (H : Heap) (locs : List Loc) (ls : Array Slot), XV ca x0 tm w → MV ca m0 tm v → va_P D vwCl (ap w v) H → va_D A (ap w v) → va_S A s.heap H locs → lv_has ls 4 [(3, .int (nI i)), (2, .ref m0), (1, .ref x0), (0, .ref b)] → W p l e room_1 s m #[Value.ref b] below meth c H locs 212 50162 Q (F0 m 930 ls [])) : W p l e room_1 s m #[Value.ref b] below meth c H locs 212 50162 Q (F0 m 246 ls []) := by
  obtain ⟨hx, hb, hr, hml, hown, hts, hX, hbl, hlocks, hgv⟩ := id C0
  refine lv_aload_n hx hb dL_law_246 rfl (lv_at hl 2 rfl) ?_
  refine lx_kernel l C0 hC hA hK hIx  hl hP hD hS (fun r_1 w H locs hIx hP hD hS => ?_)
  refine lv_pop hx hb dL_law_250 rfl ?_
  refine lv_aload_n hx hb dL_law_251 rfl (lv_at hl 1 rfl) ?_
  refine lm_kernel l C0 hC hA hIm  hl (hP.perm List.perm_append_comm) (hD.perm List.perm_append_comm) hS (fun r_2 v H locs hIm hP hD hS => ?_)
  have hP := hP.perm List.perm_append_comm
  have hD := hD.perm List.perm_append_comm
  refine lv_pop hx hb dL_law_255 rfl ?_
  refine lv_goto (tgt := 930) hx hb dL_law_256 (by decide +kernel) ?_
  exact kk _ _ _ H locs ls hIx hIm hP hD hS hl
set_option maxHeartbeats 4000000 in
set_option maxRecDepth 100000 in
theorem law_c3 {p : Program} {e : Env} {s : State} {m : MethodId} {below : List Frame} {meth : Method} {c : Code} (l : Launch) {b L : Nat} {xs : Nat → Int32} (C0 : lw_At p s m meth c b L xs) {D : va_G} {ca : Nat → ClassId} (hC : Cx D ca s) {A : Nat → Prop} (hA : ∀ q : Nat, s.heap.size ≤ q → A q) (hbA : ¬ A b) {K : (Nat × Nat × Option Nat) × (Nat → Int32)} (hK : SK K A s s.heap) {x0 m0 : Nat} {tm : Int32} {w v : va_W} (hIx : XV ca x0 tm w) (hIm : MV ca m0 tm v) {i : Nat} (hi : i + 6 ≤ L) (hL : L ≤ 3072) {H : Heap} {locs : List Loc} {ls : Array Slot} {Q : State → Prop} (hP : va_P D vwCl (ap w v) H) (hD : va_D A (ap w v)) (hS : va_S A s.heap H locs) (hl : lv_has ls 4 [(3, .int (nI i)), (2, .ref m0), (1, .ref x0), (0, .ref b)]) (kk : ∀ (tm : Int32) (w v : va_W) (H : Heap) (locs : List Loc) (ls : Array Slot), XV ca x0 tm w → MV ca m0 tm v → va_P D vwCl (ap w v) H → va_D A (ap w v) → va_S A s.heap H locs → lv_has ls 4 [(3, .int (nI i)), (2, .ref m0), (1, .ref x0), (0, .ref b)] → W p l e room_1 s m #[Value.ref b] below meth c H locs 212 50162 Q (F0 m 930 ls [])) : W p l e room_1 s m #[Value.ref b] below meth c H locs 212 50162 Q (F0 m 259 ls []) := by
  obtain ⟨hx, hb, hr, hml, hown, hts, hX, hbl, hlocks, hgv⟩ := id C0
  refine lv_aload_n hx hb dL_law_259 rfl (lv_at hl 2 rfl) ?_
  refine lv_aload_n hx hb dL_law_260 rfl (lv_at hl 3 rfl) ?_
  refine lv_iload_n hx hb dL_law_261 rfl (lv_at hl 0 rfl) ?_
  refine lv_iconst (v := 1) hx hb dL_law_262 (by decide +kernel) ?_
  refine lv_iadd hx hb dL_law_263 ?_
  refine nt_i (nI (i + 1)) (nI_add i 1) ?_
  refine va_sld hx hb hX hbl hbA hS (vp_in_nI (n := (i + 1)) (by omega) (by omega)) dL_law_264 ?_
  refine nt_i (xs (i + 1)) (congrArg xs (nI_clamp (by omega))) ?_
  refine lx_fault l C0 hC hA hK hIx (xs (i + 1)) hl hP hD hS (fun r_1 w H locs hIx hP hD hS => ?_)
  refine lv_pop hx hb dL_law_268 rfl ?_
  refine lv_aload_n hx hb dL_law_269 rfl (lv_at hl 1 rfl) ?_
  refine lv_aload_n hx hb dL_law_270 rfl (lv_at hl 3 rfl) ?_
  refine lv_iload_n hx hb dL_law_271 rfl (lv_at hl 0 rfl) ?_
  refine lv_iconst (v := 1) hx hb dL_law_272 (by decide +kernel) ?_
  refine lv_iadd hx hb dL_law_273 ?_
  refine nt_i (nI (i + 1)) (nI_add i 1) ?_
  refine va_sld hx hb hX hbl hbA hS (vp_in_nI (n := (i + 1)) (by omega) (by omega)) dL_law_274 ?_
  refine nt_i (xs (i + 1)) (congrArg xs (nI_clamp (by omega))) ?_
  refine lm_fault l C0 hC hA hIm (xs (i + 1)) hl (hP.perm List.perm_append_comm) (hD.perm List.perm_append_comm) hS (fun r_2 v H locs hIm hP hD hS => ?_)
  have hP := hP.perm List.perm_append_comm
  have hD := hD.perm List.perm_append_comm
  refine lv_pop hx hb dL_law_278 rfl ?_
  refine lv_goto (tgt := 930) hx hb dL_law_279 (by decide +kernel) ?_
  exact kk _ _ _ H locs ls hIx hIm hP hD hS hl
set_option maxHeartbeats 4000000 in
set_option maxRecDepth 100000 in
theorem law_c4 {p : Program} {e : Env} {s : State} {m : MethodId} {below : List Frame} {meth : Method} {c : Code} (l : Launch) {b L : Nat} {xs : Nat → Int32} (C0 : lw_At p s m meth c b L xs) {D : va_G} {ca : Nat → ClassId} (hC : Cx D ca s) {A : Nat → Prop} (hA : ∀ q : Nat, s.heap.size ≤ q → A q) (hbA : ¬ A b) {K : (Nat × Nat × Option Nat) × (Nat → Int32)} (hK : SK K A s s.heap) {x0 m0 : Nat} {tm : Int32} {w v : va_W} (hIx : XV ca x0 tm w) (hIm : MV ca m0 tm v) {i : Nat} (hi : i + 6 ≤ L) (hL : L ≤ 3072) {H : Heap} {locs : List Loc} {ls : Array Slot} {Q : State → Prop} (hP : va_P D vwCl (ap w v) H) (hD : va_D A (ap w v)) (hS : va_S A s.heap H locs) (hl : lv_has ls 4 [(3, .int (nI i)), (2, .ref m0), (1, .ref x0), (0, .ref b)]) (kk : ∀ (tm : Int32) (w v : va_W) (H : Heap) (locs : List Loc) (ls : Array Slot), XV ca x0 tm w → MV ca m0 tm v → va_P D vwCl (ap w v) H → va_D A (ap w v) → va_S A s.heap H locs → lv_has ls 4 [(3, .int (nI i)), (2, .ref m0), (1, .ref x0), (0, .ref b)] → W p l e room_1 s m #[Value.ref b] below meth c H locs 212 50162 Q (F0 m 930 ls [])) : W p l e room_1 s m #[Value.ref b] below meth c H locs 212 50162 Q (F0 m 282 ls []) := by
  obtain ⟨hx, hb, hr, hml, hown, hts, hX, hbl, hlocks, hgv⟩ := id C0
  refine lv_aload_n hx hb dL_law_282 rfl (lv_at hl 2 rfl) ?_
  refine lv_aload_n hx hb dL_law_283 rfl (lv_at hl 3 rfl) ?_
  refine lv_iload_n hx hb dL_law_284 rfl (lv_at hl 0 rfl) ?_
  refine lv_iconst (v := 1) hx hb dL_law_285 (by decide +kernel) ?_
  refine lv_iadd hx hb dL_law_286 ?_
  refine nt_i (nI (i + 1)) (nI_add i 1) ?_
  refine va_sld hx hb hX hbl hbA hS (vp_in_nI (n := (i + 1)) (by omega) (by omega)) dL_law_287 ?_
  refine nt_i (xs (i + 1)) (congrArg xs (nI_clamp (by omega))) ?_
  refine lx_run l C0 hC hA hK hIx (xs (i + 1)) hl hP hD hS (fun r_1 w H locs hIx hP hD hS => ?_)
  refine lv_pop hx hb dL_law_291 rfl ?_
  refine lv_aload_n hx hb dL_law_292 rfl (lv_at hl 1 rfl) ?_
  refine lv_aload_n hx hb dL_law_293 rfl (lv_at hl 3 rfl) ?_
  refine lv_iload_n hx hb dL_law_294 rfl (lv_at hl 0 rfl) ?_
  refine lv_iconst (v := 1) hx hb dL_law_295 (by decide +kernel) ?_
  refine lv_iadd hx hb dL_law_296 ?_
  refine nt_i (nI (i + 1)) (nI_add i 1) ?_
  refine va_sld hx hb hX hbl hbA hS (vp_in_nI (n := (i + 1)) (by omega) (by omega)) dL_law_297 ?_
  refine nt_i (xs (i + 1)) (congrArg xs (nI_clamp (by omega))) ?_
  refine lm_run l C0 hC hA hIm (xs (i + 1)) hl (hP.perm List.perm_append_comm) (hD.perm List.perm_append_comm) hS (fun r_2 v H locs hIm hP hD hS => ?_)
  have hP := hP.perm List.perm_append_comm
  have hD := hD.perm List.perm_append_comm
  refine lv_pop hx hb dL_law_301 rfl ?_
  refine lv_goto (tgt := 930) hx hb dL_law_302 (by decide +kernel) ?_
  exact kk _ _ _ H locs ls hIx hIm hP hD hS hl
set_option maxHeartbeats 4000000 in
set_option maxRecDepth 100000 in
theorem law_c5 {p : Program} {e : Env} {s : State} {m : MethodId} {below : List Frame} {meth : Method} {c : Code} (l : Launch) {b L : Nat} {xs : Nat → Int32} (C0 : lw_At p s m meth c b L xs) {D : va_G} {ca : Nat → ClassId} (hC : Cx D ca s) {A : Nat → Prop} (hA : ∀ q : Nat, s.heap.size ≤ q → A q) (hbA : ¬ A b) {K : (Nat × Nat × Option Nat) × (Nat → Int32)} (hK : SK K A s s.heap) {x0 m0 : Nat} {tm : Int32} {w v : va_W} (hIx : XV ca x0 tm w) (hIm : MV ca m0 tm v) {i : Nat} (hi : i + 6 ≤ L) (hL : L ≤ 3072) {H : Heap} {locs : List Loc} {ls : Array Slot} {Q : State → Prop} (hP : va_P D vwCl (ap w v) H) (hD : va_D A (ap w v)) (hS : va_S A s.heap H locs) (hl : lv_has ls 4 [(3, .int (nI i)), (2, .ref m0), (1, .ref x0), (0, .ref b)]) (kk : ∀ (tm : Int32) (w v : va_W) (H : Heap) (locs : List Loc) (ls : Array Slot), XV ca x0 tm w → MV ca m0 tm v → va_P D vwCl (ap w v) H → va_D A (ap w v) → va_S A s.heap H locs → lv_has ls 4 [(3, .int (nI i)), (2, .ref m0), (1, .ref x0), (0, .ref b)] → W p l e room_1 s m #[Value.ref b] below meth c H locs 212 50162 Q (F0 m 930 ls [])) : W p l e room_1 s m #[Value.ref b] below meth c H locs 212 50162 Q (F0 m 305 ls []) := by
  obtain ⟨hx, hb, hr, hml, hown, hts, hX, hbl, hlocks, hgv⟩ := id C0
  refine lv_aload_n hx hb dL_law_305 rfl (lv_at hl 2 rfl) ?_
  refine lv_aload_n hx hb dL_law_306 rfl (lv_at hl 3 rfl) ?_
  refine lv_iload_n hx hb dL_law_307 rfl (lv_at hl 0 rfl) ?_
  refine lv_iconst (v := 1) hx hb dL_law_308 (by decide +kernel) ?_
  refine lv_iadd hx hb dL_law_309 ?_
  refine nt_i (nI (i + 1)) (nI_add i 1) ?_
  refine va_sld hx hb hX hbl hbA hS (vp_in_nI (n := (i + 1)) (by omega) (by omega)) dL_law_310 ?_
  refine nt_i (xs (i + 1)) (congrArg xs (nI_clamp (by omega))) ?_
  refine lv_aload_n hx hb dL_law_311 rfl (lv_at hl 3 rfl) ?_
  refine lv_iload_n hx hb dL_law_312 rfl (lv_at hl 0 rfl) ?_
  refine lv_iconst (v := 2) hx hb dL_law_313 (by decide +kernel) ?_
  refine lv_iadd hx hb dL_law_314 ?_
  refine nt_i (nI (i + 2)) (nI_add i 2) ?_
  refine va_sld hx hb hX hbl hbA hS (vp_in_nI (n := (i + 2)) (by omega) (by omega)) dL_law_315 ?_
  refine nt_i (xs (i + 2)) (congrArg xs (nI_clamp (by omega))) ?_
  refine lx_chosen l C0 hC hA hK hIx (xs (i + 1)) (xs (i + 2)) hl hP hD hS (fun r_1 w H locs hIx hP hD hS => ?_)
  refine lv_pop hx hb dL_law_319 rfl ?_
  refine lv_aload_n hx hb dL_law_320 rfl (lv_at hl 1 rfl) ?_
  refine lv_aload_n hx hb dL_law_321 rfl (lv_at hl 3 rfl) ?_
  refine lv_iload_n hx hb dL_law_322 rfl (lv_at hl 0 rfl) ?_
  refine lv_iconst (v := 1) hx hb dL_law_323 (by decide +kernel) ?_
  refine lv_iadd hx hb dL_law_324 ?_
  refine nt_i (nI (i + 1)) (nI_add i 1) ?_
  refine va_sld hx hb hX hbl hbA hS (vp_in_nI (n := (i + 1)) (by omega) (by omega)) dL_law_325 ?_
  refine nt_i (xs (i + 1)) (congrArg xs (nI_clamp (by omega))) ?_
  refine lv_aload_n hx hb dL_law_326 rfl (lv_at hl 3 rfl) ?_
  refine lv_iload_n hx hb dL_law_327 rfl (lv_at hl 0 rfl) ?_
  refine lv_iconst (v := 2) hx hb dL_law_328 (by decide +kernel) ?_
  refine lv_iadd hx hb dL_law_329 ?_
  refine nt_i (nI (i + 2)) (nI_add i 2) ?_
  refine va_sld hx hb hX hbl hbA hS (vp_in_nI (n := (i + 2)) (by omega) (by omega)) dL_law_330 ?_
  refine nt_i (xs (i + 2)) (congrArg xs (nI_clamp (by omega))) ?_
  refine lm_chosen l C0 hC hA hIm (xs (i + 1)) (xs (i + 2)) hl (hP.perm List.perm_append_comm) (hD.perm List.perm_append_comm) hS (fun r_2 v H locs hIm hP hD hS => ?_)
  have hP := hP.perm List.perm_append_comm
  have hD := hD.perm List.perm_append_comm
  refine lv_pop hx hb dL_law_334 rfl ?_
  refine lv_goto (tgt := 930) hx hb dL_law_335 (by decide +kernel) ?_
  exact kk _ _ _ H locs ls hIx hIm hP hD hS hl
set_option maxHeartbeats 4000000 in
set_option maxRecDepth 100000 in
theorem law_c6 {p : Program} {e : Env} {s : State} {m : MethodId} {below : List Frame} {meth : Method} {c : Code} (l : Launch) {b L : Nat} {xs : Nat → Int32} (C0 : lw_At p s m meth c b L xs) {D : va_G} {ca : Nat → ClassId} (hC : Cx D ca s) {A : Nat → Prop} (hA : ∀ q : Nat, s.heap.size ≤ q → A q) (hbA : ¬ A b) {K : (Nat × Nat × Option Nat) × (Nat → Int32)} (hK : SK K A s s.heap) {x0 m0 : Nat} {tm : Int32} {w v : va_W} (hIx : XV ca x0 tm w) (hIm : MV ca m0 tm v) {i : Nat} (hi : i + 6 ≤ L) (hL : L ≤ 3072) {H : Heap} {locs : List Loc} {ls : Array Slot} {Q : State → Prop} (hP : va_P D vwCl (ap w v) H) (hD : va_D A (ap w v)) (hS : va_S A s.heap H locs) (hl : lv_has ls 4 [(3, .int (nI i)), (2, .ref m0), (1, .ref x0), (0, .ref b)]) (kk : ∀ (tm : Int32) (w v : va_W) (H : Heap) (locs : List Loc) (ls : Array Slot), XV ca x0 tm w → MV ca m0 tm v → va_P D vwCl (ap w v) H → va_D A (ap w v) → va_S A s.heap H locs → lv_has ls 4 [(3, .int (nI i)), (2, .ref m0), (1, .ref x0), (0, .ref b)] → W p l e room_1 s m #[Value.ref b] below meth c H locs 212 50162 Q (F0 m 930 ls [])) : W p l e room_1 s m #[Value.ref b] below meth c H locs 212 50162 Q (F0 m 338 ls []) := by
  obtain ⟨hx, hb, hr, hml, hown, hts, hX, hbl, hlocks, hgv⟩ := id C0
  refine lv_aload_n hx hb dL_law_338 rfl (lv_at hl 2 rfl) ?_
  refine lv_aload_n hx hb dL_law_339 rfl (lv_at hl 3 rfl) ?_
  refine lv_iload_n hx hb dL_law_340 rfl (lv_at hl 0 rfl) ?_
  refine lv_iconst (v := 1) hx hb dL_law_341 (by decide +kernel) ?_
  refine lv_iadd hx hb dL_law_342 ?_
  refine nt_i (nI (i + 1)) (nI_add i 1) ?_
  refine va_sld hx hb hX hbl hbA hS (vp_in_nI (n := (i + 1)) (by omega) (by omega)) dL_law_343 ?_
  refine nt_i (xs (i + 1)) (congrArg xs (nI_clamp (by omega))) ?_
  refine lv_aload_n hx hb dL_law_344 rfl (lv_at hl 3 rfl) ?_
  refine lv_iload_n hx hb dL_law_345 rfl (lv_at hl 0 rfl) ?_
  refine lv_iconst (v := 2) hx hb dL_law_346 (by decide +kernel) ?_
  refine lv_iadd hx hb dL_law_347 ?_
  refine nt_i (nI (i + 2)) (nI_add i 2) ?_
  refine va_sld hx hb hX hbl hbA hS (vp_in_nI (n := (i + 2)) (by omega) (by omega)) dL_law_348 ?_
  refine nt_i (xs (i + 2)) (congrArg xs (nI_clamp (by omega))) ?_
  refine lx_task l C0 hC hA hK hIx (xs (i + 1)) (xs (i + 2)) hl hP hD hS (fun r_1 w H locs hIx hP hD hS => ?_)
  refine lv_pop hx hb dL_law_352 rfl ?_
  refine lv_aload_n hx hb dL_law_353 rfl (lv_at hl 1 rfl) ?_
  refine lv_aload_n hx hb dL_law_354 rfl (lv_at hl 3 rfl) ?_
  refine lv_iload_n hx hb dL_law_355 rfl (lv_at hl 0 rfl) ?_
  refine lv_iconst (v := 1) hx hb dL_law_356 (by decide +kernel) ?_
  refine lv_iadd hx hb dL_law_357 ?_
  refine nt_i (nI (i + 1)) (nI_add i 1) ?_
  refine va_sld hx hb hX hbl hbA hS (vp_in_nI (n := (i + 1)) (by omega) (by omega)) dL_law_358 ?_
  refine nt_i (xs (i + 1)) (congrArg xs (nI_clamp (by omega))) ?_
  refine lv_aload_n hx hb dL_law_359 rfl (lv_at hl 3 rfl) ?_
  refine lv_iload_n hx hb dL_law_360 rfl (lv_at hl 0 rfl) ?_
  refine lv_iconst (v := 2) hx hb dL_law_361 (by decide +kernel) ?_
  refine lv_iadd hx hb dL_law_362 ?_
  refine nt_i (nI (i + 2)) (nI_add i 2) ?_
  refine va_sld hx hb hX hbl hbA hS (vp_in_nI (n := (i + 2)) (by omega) (by omega)) dL_law_363 ?_
  refine nt_i (xs (i + 2)) (congrArg xs (nI_clamp (by omega))) ?_
  refine lm_task l C0 hC hA hIm (xs (i + 1)) (xs (i + 2)) hl (hP.perm List.perm_append_comm) (hD.perm List.perm_append_comm) hS (fun r_2 v H locs hIm hP hD hS => ?_)
  have hP := hP.perm List.perm_append_comm
  have hD := hD.perm List.perm_append_comm
  refine lv_pop hx hb dL_law_367 rfl ?_
  refine lv_goto (tgt := 930) hx hb dL_law_368 (by decide +kernel) ?_
  exact kk _ _ _ H locs ls hIx hIm hP hD hS hl
set_option maxHeartbeats 4000000 in
set_option maxRecDepth 100000 in
theorem law_c7 {p : Program} {e : Env} {s : State} {m : MethodId} {below : List Frame} {meth : Method} {c : Code} (l : Launch) {b L : Nat} {xs : Nat → Int32} (C0 : lw_At p s m meth c b L xs) {D : va_G} {ca : Nat → ClassId} (hC : Cx D ca s) {A : Nat → Prop} (hA : ∀ q : Nat, s.heap.size ≤ q → A q) (hbA : ¬ A b) {K : (Nat × Nat × Option Nat) × (Nat → Int32)} (hK : SK K A s s.heap) {x0 m0 : Nat} {tm : Int32} {w v : va_W} (hIx : XV ca x0 tm w) (hIm : MV ca m0 tm v) {i : Nat} (hi : i + 6 ≤ L) (hL : L ≤ 3072) {H : Heap} {locs : List Loc} {ls : Array Slot} {Q : State → Prop} (hP : va_P D vwCl (ap w v) H) (hD : va_D A (ap w v)) (hS : va_S A s.heap H locs) (hl : lv_has ls 4 [(3, .int (nI i)), (2, .ref m0), (1, .ref x0), (0, .ref b)]) (kk : ∀ (tm : Int32) (w v : va_W) (H : Heap) (locs : List Loc) (ls : Array Slot), XV ca x0 tm w → MV ca m0 tm v → va_P D vwCl (ap w v) H → va_D A (ap w v) → va_S A s.heap H locs → lv_has ls 4 [(3, .int (nI i)), (2, .ref m0), (1, .ref x0), (0, .ref b)] → W p l e room_1 s m #[Value.ref b] below meth c H locs 212 50162 Q (F0 m 930 ls [])) : W p l e room_1 s m #[Value.ref b] below meth c H locs 212 50162 Q (F0 m 371 ls []) := by
  obtain ⟨hx, hb, hr, hml, hown, hts, hX, hbl, hlocks, hgv⟩ := id C0
  refine lv_aload_n hx hb dL_law_371 rfl (lv_at hl 2 rfl) ?_
  refine lv_aload_n hx hb dL_law_372 rfl (lv_at hl 3 rfl) ?_
  refine lv_iload_n hx hb dL_law_373 rfl (lv_at hl 0 rfl) ?_
  refine lv_iconst (v := 1) hx hb dL_law_374 (by decide +kernel) ?_
  refine lv_iadd hx hb dL_law_375 ?_
  refine nt_i (nI (i + 1)) (nI_add i 1) ?_
  refine va_sld hx hb hX hbl hbA hS (vp_in_nI (n := (i + 1)) (by omega) (by omega)) dL_law_376 ?_
  refine nt_i (xs (i + 1)) (congrArg xs (nI_clamp (by omega))) ?_
  refine lx_place l C0 hC hA hK hIx (xs (i + 1)) hl hP hD hS (fun r_1 w H locs hIx hP hD hS => ?_)
  refine lv_pop hx hb dL_law_380 rfl ?_
  refine lv_aload_n hx hb dL_law_381 rfl (lv_at hl 1 rfl) ?_
  refine lv_aload_n hx hb dL_law_382 rfl (lv_at hl 3 rfl) ?_
  refine lv_iload_n hx hb dL_law_383 rfl (lv_at hl 0 rfl) ?_
  refine lv_iconst (v := 1) hx hb dL_law_384 (by decide +kernel) ?_
  refine lv_iadd hx hb dL_law_385 ?_
  refine nt_i (nI (i + 1)) (nI_add i 1) ?_
  refine va_sld hx hb hX hbl hbA hS (vp_in_nI (n := (i + 1)) (by omega) (by omega)) dL_law_386 ?_
  refine nt_i (xs (i + 1)) (congrArg xs (nI_clamp (by omega))) ?_
  refine lm_place l C0 hC hA hIm (xs (i + 1)) hl (hP.perm List.perm_append_comm) (hD.perm List.perm_append_comm) hS (fun r_2 v H locs hIm hP hD hS => ?_)
  have hP := hP.perm List.perm_append_comm
  have hD := hD.perm List.perm_append_comm
  refine lv_pop hx hb dL_law_390 rfl ?_
  refine lv_goto (tgt := 930) hx hb dL_law_391 (by decide +kernel) ?_
  exact kk _ _ _ H locs ls hIx hIm hP hD hS hl
set_option maxHeartbeats 4000000 in
set_option maxRecDepth 100000 in
theorem law_c8 {p : Program} {e : Env} {s : State} {m : MethodId} {below : List Frame} {meth : Method} {c : Code} (l : Launch) {b L : Nat} {xs : Nat → Int32} (C0 : lw_At p s m meth c b L xs) {D : va_G} {ca : Nat → ClassId} (hC : Cx D ca s) {A : Nat → Prop} (hA : ∀ q : Nat, s.heap.size ≤ q → A q) (hbA : ¬ A b) {K : (Nat × Nat × Option Nat) × (Nat → Int32)} (hK : SK K A s s.heap) {x0 m0 : Nat} {tm : Int32} {w v : va_W} (hIx : XV ca x0 tm w) (hIm : MV ca m0 tm v) {i : Nat} (hi : i + 6 ≤ L) (hL : L ≤ 3072) {H : Heap} {locs : List Loc} {ls : Array Slot} {Q : State → Prop} (hP : va_P D vwCl (ap w v) H) (hD : va_D A (ap w v)) (hS : va_S A s.heap H locs) (hl : lv_has ls 4 [(3, .int (nI i)), (2, .ref m0), (1, .ref x0), (0, .ref b)]) (kk : ∀ (tm : Int32) (w v : va_W) (H : Heap) (locs : List Loc) (ls : Array Slot), XV ca x0 tm w → MV ca m0 tm v → va_P D vwCl (ap w v) H → va_D A (ap w v) → va_S A s.heap H locs → lv_has ls 4 [(3, .int (nI i)), (2, .ref m0), (1, .ref x0), (0, .ref b)] → W p l e room_1 s m #[Value.ref b] below meth c H locs 212 50162 Q (F0 m 930 ls [])) : W p l e room_1 s m #[Value.ref b] below meth c H locs 212 50162 Q (F0 m 394 ls []) := by
  obtain ⟨hx, hb, hr, hml, hown, hts, hX, hbl, hlocks, hgv⟩ := id C0
  refine lv_aload_n hx hb dL_law_394 rfl (lv_at hl 2 rfl) ?_
  refine lv_aload_n hx hb dL_law_395 rfl (lv_at hl 3 rfl) ?_
  refine lv_iload_n hx hb dL_law_396 rfl (lv_at hl 0 rfl) ?_
  refine lv_iconst (v := 1) hx hb dL_law_397 (by decide +kernel) ?_
  refine lv_iadd hx hb dL_law_398 ?_
  refine nt_i (nI (i + 1)) (nI_add i 1) ?_
  refine va_sld hx hb hX hbl hbA hS (vp_in_nI (n := (i + 1)) (by omega) (by omega)) dL_law_399 ?_
  refine nt_i (xs (i + 1)) (congrArg xs (nI_clamp (by omega))) ?_
  refine lx_holder l C0 hC hA hK hIx (xs (i + 1)) hl hP hD hS (fun r_1 w H locs hIx hP hD hS => ?_)
  refine lv_pop hx hb dL_law_403 rfl ?_
  refine lv_aload_n hx hb dL_law_404 rfl (lv_at hl 1 rfl) ?_
  refine lv_aload_n hx hb dL_law_405 rfl (lv_at hl 3 rfl) ?_
  refine lv_iload_n hx hb dL_law_406 rfl (lv_at hl 0 rfl) ?_
  refine lv_iconst (v := 1) hx hb dL_law_407 (by decide +kernel) ?_
  refine lv_iadd hx hb dL_law_408 ?_
  refine nt_i (nI (i + 1)) (nI_add i 1) ?_
  refine va_sld hx hb hX hbl hbA hS (vp_in_nI (n := (i + 1)) (by omega) (by omega)) dL_law_409 ?_
  refine nt_i (xs (i + 1)) (congrArg xs (nI_clamp (by omega))) ?_
  refine lm_holder l C0 hC hA hIm (xs (i + 1)) hl (hP.perm List.perm_append_comm) (hD.perm List.perm_append_comm) hS (fun r_2 v H locs hIm hP hD hS => ?_)
  have hP := hP.perm List.perm_append_comm
  have hD := hD.perm List.perm_append_comm
  refine lv_pop hx hb dL_law_413 rfl ?_
  refine lv_goto (tgt := 930) hx hb dL_law_414 (by decide +kernel) ?_
  exact kk _ _ _ H locs ls hIx hIm hP hD hS hl
set_option maxHeartbeats 4000000 in
set_option maxRecDepth 100000 in
theorem law_c9 {p : Program} {e : Env} {s : State} {m : MethodId} {below : List Frame} {meth : Method} {c : Code} (l : Launch) {b L : Nat} {xs : Nat → Int32} (C0 : lw_At p s m meth c b L xs) {D : va_G} {ca : Nat → ClassId} (hC : Cx D ca s) {A : Nat → Prop} (hA : ∀ q : Nat, s.heap.size ≤ q → A q) (hbA : ¬ A b) {K : (Nat × Nat × Option Nat) × (Nat → Int32)} (hK : SK K A s s.heap) {x0 m0 : Nat} {tm : Int32} {w v : va_W} (hIx : XV ca x0 tm w) (hIm : MV ca m0 tm v) {i : Nat} (hi : i + 6 ≤ L) (hL : L ≤ 3072) {H : Heap} {locs : List Loc} {ls : Array Slot} {Q : State → Prop} (hP : va_P D vwCl (ap w v) H) (hD : va_D A (ap w v)) (hS : va_S A s.heap H locs) (hl : lv_has ls 4 [(3, .int (nI i)), (2, .ref m0), (1, .ref x0), (0, .ref b)]) (kk : ∀ (tm : Int32) (w v : va_W) (H : Heap) (locs : List Loc) (ls : Array Slot), XV ca x0 tm w → MV ca m0 tm v → va_P D vwCl (ap w v) H → va_D A (ap w v) → va_S A s.heap H locs → lv_has ls 4 [(3, .int (nI i)), (2, .ref m0), (1, .ref x0), (0, .ref b)] → W p l e room_1 s m #[Value.ref b] below meth c H locs 212 50162 Q (F0 m 930 ls [])) : W p l e room_1 s m #[Value.ref b] below meth c H locs 212 50162 Q (F0 m 417 ls []) := by
  obtain ⟨hx, hb, hr, hml, hown, hts, hX, hbl, hlocks, hgv⟩ := id C0
  refine lv_aload_n hx hb dL_law_417 rfl (lv_at hl 2 rfl) ?_
  refine lv_aload_n hx hb dL_law_418 rfl (lv_at hl 3 rfl) ?_
  refine lv_iload_n hx hb dL_law_419 rfl (lv_at hl 0 rfl) ?_
  refine lv_iconst (v := 1) hx hb dL_law_420 (by decide +kernel) ?_
  refine lv_iadd hx hb dL_law_421 ?_
  refine nt_i (nI (i + 1)) (nI_add i 1) ?_
  refine va_sld hx hb hX hbl hbA hS (vp_in_nI (n := (i + 1)) (by omega) (by omega)) dL_law_422 ?_
  refine nt_i (xs (i + 1)) (congrArg xs (nI_clamp (by omega))) ?_
  refine lx_waits l C0 hC hA hK hIx (xs (i + 1)) hl hP hD hS (fun r_1 w H locs hIx hP hD hS => ?_)
  refine lv_pop hx hb dL_law_426 rfl ?_
  refine lv_aload_n hx hb dL_law_427 rfl (lv_at hl 1 rfl) ?_
  refine lv_aload_n hx hb dL_law_428 rfl (lv_at hl 3 rfl) ?_
  refine lv_iload_n hx hb dL_law_429 rfl (lv_at hl 0 rfl) ?_
  refine lv_iconst (v := 1) hx hb dL_law_430 (by decide +kernel) ?_
  refine lv_iadd hx hb dL_law_431 ?_
  refine nt_i (nI (i + 1)) (nI_add i 1) ?_
  refine va_sld hx hb hX hbl hbA hS (vp_in_nI (n := (i + 1)) (by omega) (by omega)) dL_law_432 ?_
  refine nt_i (xs (i + 1)) (congrArg xs (nI_clamp (by omega))) ?_
  refine lm_waits l C0 hC hA hIm (xs (i + 1)) hl (hP.perm List.perm_append_comm) (hD.perm List.perm_append_comm) hS (fun r_2 v H locs hIm hP hD hS => ?_)
  have hP := hP.perm List.perm_append_comm
  have hD := hD.perm List.perm_append_comm
  refine lv_pop hx hb dL_law_436 rfl ?_
  refine lv_goto (tgt := 930) hx hb dL_law_437 (by decide +kernel) ?_
  exact kk _ _ _ H locs ls hIx hIm hP hD hS hl
set_option maxHeartbeats 4000000 in
set_option maxRecDepth 100000 in
theorem law_c10 {p : Program} {e : Env} {s : State} {m : MethodId} {below : List Frame} {meth : Method} {c : Code} (l : Launch) {b L : Nat} {xs : Nat → Int32} (C0 : lw_At p s m meth c b L xs) {D : va_G} {ca : Nat → ClassId} (hC : Cx D ca s) {A : Nat → Prop} (hA : ∀ q : Nat, s.heap.size ≤ q → A q) (hbA : ¬ A b) {K : (Nat × Nat × Option Nat) × (Nat → Int32)} (hK : SK K A s s.heap) {x0 m0 : Nat} {tm : Int32} {w v : va_W} (hIx : XV ca x0 tm w) (hIm : MV ca m0 tm v) {i : Nat} (hi : i + 6 ≤ L) (hL : L ≤ 3072) {H : Heap} {locs : List Loc} {ls : Array Slot} {Q : State → Prop} (hP : va_P D vwCl (ap w v) H) (hD : va_D A (ap w v)) (hS : va_S A s.heap H locs) (hl : lv_has ls 4 [(3, .int (nI i)), (2, .ref m0), (1, .ref x0), (0, .ref b)]) (kk : ∀ (tm : Int32) (w v : va_W) (H : Heap) (locs : List Loc) (ls : Array Slot), XV ca x0 tm w → MV ca m0 tm v → va_P D vwCl (ap w v) H → va_D A (ap w v) → va_S A s.heap H locs → lv_has ls 4 [(3, .int (nI i)), (2, .ref m0), (1, .ref x0), (0, .ref b)] → W p l e room_1 s m #[Value.ref b] below meth c H locs 212 50162 Q (F0 m 930 ls [])) : W p l e room_1 s m #[Value.ref b] below meth c H locs 212 50162 Q (F0 m 440 ls []) := by
  obtain ⟨hx, hb, hr, hml, hown, hts, hX, hbl, hlocks, hgv⟩ := id C0
  refine lv_aload_n hx hb dL_law_440 rfl (lv_at hl 2 rfl) ?_
  refine lv_aload_n hx hb dL_law_441 rfl (lv_at hl 3 rfl) ?_
  refine lv_iload_n hx hb dL_law_442 rfl (lv_at hl 0 rfl) ?_
  refine lv_iconst (v := 1) hx hb dL_law_443 (by decide +kernel) ?_
  refine lv_iadd hx hb dL_law_444 ?_
  refine nt_i (nI (i + 1)) (nI_add i 1) ?_
  refine va_sld hx hb hX hbl hbA hS (vp_in_nI (n := (i + 1)) (by omega) (by omega)) dL_law_445 ?_
  refine nt_i (xs (i + 1)) (congrArg xs (nI_clamp (by omega))) ?_
  refine lv_aload_n hx hb dL_law_446 rfl (lv_at hl 3 rfl) ?_
  refine lv_iload_n hx hb dL_law_447 rfl (lv_at hl 0 rfl) ?_
  refine lv_iconst (v := 2) hx hb dL_law_448 (by decide +kernel) ?_
  refine lv_iadd hx hb dL_law_449 ?_
  refine nt_i (nI (i + 2)) (nI_add i 2) ?_
  refine va_sld hx hb hX hbl hbA hS (vp_in_nI (n := (i + 2)) (by omega) (by omega)) dL_law_450 ?_
  refine nt_i (xs (i + 2)) (congrArg xs (nI_clamp (by omega))) ?_
  refine lx_ring l C0 hC hA hK hIx (xs (i + 1)) (xs (i + 2)) hl hP hD hS (fun r_1 w H locs hIx hP hD hS => ?_)
  refine lv_pop hx hb dL_law_454 rfl ?_
  refine lv_aload_n hx hb dL_law_455 rfl (lv_at hl 1 rfl) ?_
  refine lv_aload_n hx hb dL_law_456 rfl (lv_at hl 3 rfl) ?_
  refine lv_iload_n hx hb dL_law_457 rfl (lv_at hl 0 rfl) ?_
  refine lv_iconst (v := 1) hx hb dL_law_458 (by decide +kernel) ?_
  refine lv_iadd hx hb dL_law_459 ?_
  refine nt_i (nI (i + 1)) (nI_add i 1) ?_
  refine va_sld hx hb hX hbl hbA hS (vp_in_nI (n := (i + 1)) (by omega) (by omega)) dL_law_460 ?_
  refine nt_i (xs (i + 1)) (congrArg xs (nI_clamp (by omega))) ?_
  refine lv_aload_n hx hb dL_law_461 rfl (lv_at hl 3 rfl) ?_
  refine lv_iload_n hx hb dL_law_462 rfl (lv_at hl 0 rfl) ?_
  refine lv_iconst (v := 2) hx hb dL_law_463 (by decide +kernel) ?_
  refine lv_iadd hx hb dL_law_464 ?_
  refine nt_i (nI (i + 2)) (nI_add i 2) ?_
  refine va_sld hx hb hX hbl hbA hS (vp_in_nI (n := (i + 2)) (by omega) (by omega)) dL_law_465 ?_
  refine nt_i (xs (i + 2)) (congrArg xs (nI_clamp (by omega))) ?_
  refine lm_ring l C0 hC hA hIm (xs (i + 1)) (xs (i + 2)) hl (hP.perm List.perm_append_comm) (hD.perm List.perm_append_comm) hS (fun r_2 v H locs hIm hP hD hS => ?_)
  have hP := hP.perm List.perm_append_comm
  have hD := hD.perm List.perm_append_comm
  refine lv_pop hx hb dL_law_469 rfl ?_
  refine lv_goto (tgt := 930) hx hb dL_law_470 (by decide +kernel) ?_
  exact kk _ _ _ H locs ls hIx hIm hP hD hS hl
set_option maxHeartbeats 4000000 in
set_option maxRecDepth 100000 in
theorem law_c11 {p : Program} {e : Env} {s : State} {m : MethodId} {below : List Frame} {meth : Method} {c : Code} (l : Launch) {b L : Nat} {xs : Nat → Int32} (C0 : lw_At p s m meth c b L xs) {D : va_G} {ca : Nat → ClassId} (hC : Cx D ca s) {A : Nat → Prop} (hA : ∀ q : Nat, s.heap.size ≤ q → A q) (hbA : ¬ A b) {K : (Nat × Nat × Option Nat) × (Nat → Int32)} (hK : SK K A s s.heap) {x0 m0 : Nat} {tm : Int32} {w v : va_W} (hIx : XV ca x0 tm w) (hIm : MV ca m0 tm v) {i : Nat} (hi : i + 6 ≤ L) (hL : L ≤ 3072) {H : Heap} {locs : List Loc} {ls : Array Slot} {Q : State → Prop} (hP : va_P D vwCl (ap w v) H) (hD : va_D A (ap w v)) (hS : va_S A s.heap H locs) (hl : lv_has ls 4 [(3, .int (nI i)), (2, .ref m0), (1, .ref x0), (0, .ref b)]) (kk : ∀ (tm : Int32) (w v : va_W) (H : Heap) (locs : List Loc) (ls : Array Slot), XV ca x0 tm w → MV ca m0 tm v → va_P D vwCl (ap w v) H → va_D A (ap w v) → va_S A s.heap H locs → lv_has ls 4 [(3, .int (nI i)), (2, .ref m0), (1, .ref x0), (0, .ref b)] → W p l e room_1 s m #[Value.ref b] below meth c H locs 212 50162 Q (F0 m 930 ls [])) : W p l e room_1 s m #[Value.ref b] below meth c H locs 212 50162 Q (F0 m 473 ls []) := by
  obtain ⟨hx, hb, hr, hml, hown, hts, hX, hbl, hlocks, hgv⟩ := id C0
  refine lv_aload_n hx hb dL_law_473 rfl (lv_at hl 2 rfl) ?_
  refine lv_aload_n hx hb dL_law_474 rfl (lv_at hl 3 rfl) ?_
  refine lv_iload_n hx hb dL_law_475 rfl (lv_at hl 0 rfl) ?_
  refine lv_iconst (v := 1) hx hb dL_law_476 (by decide +kernel) ?_
  refine lv_iadd hx hb dL_law_477 ?_
  refine nt_i (nI (i + 1)) (nI_add i 1) ?_
  refine va_sld hx hb hX hbl hbA hS (vp_in_nI (n := (i + 1)) (by omega) (by omega)) dL_law_478 ?_
  refine nt_i (xs (i + 1)) (congrArg xs (nI_clamp (by omega))) ?_
  refine lv_aload_n hx hb dL_law_479 rfl (lv_at hl 3 rfl) ?_
  refine lv_iload_n hx hb dL_law_480 rfl (lv_at hl 0 rfl) ?_
  refine lv_iconst (v := 2) hx hb dL_law_481 (by decide +kernel) ?_
  refine lv_iadd hx hb dL_law_482 ?_
  refine nt_i (nI (i + 2)) (nI_add i 2) ?_
  refine va_sld hx hb hX hbl hbA hS (vp_in_nI (n := (i + 2)) (by omega) (by omega)) dL_law_483 ?_
  refine nt_i (xs (i + 2)) (congrArg xs (nI_clamp (by omega))) ?_
  refine lx_share l C0 hC hA hK hIx (xs (i + 1)) (xs (i + 2)) hl hP hD hS (fun r_1 w H locs hIx hP hD hS => ?_)
  refine lv_pop hx hb dL_law_487 rfl ?_
  refine lv_aload_n hx hb dL_law_488 rfl (lv_at hl 1 rfl) ?_
  refine lv_aload_n hx hb dL_law_489 rfl (lv_at hl 3 rfl) ?_
  refine lv_iload_n hx hb dL_law_490 rfl (lv_at hl 0 rfl) ?_
  refine lv_iconst (v := 1) hx hb dL_law_491 (by decide +kernel) ?_
  refine lv_iadd hx hb dL_law_492 ?_
  refine nt_i (nI (i + 1)) (nI_add i 1) ?_
  refine va_sld hx hb hX hbl hbA hS (vp_in_nI (n := (i + 1)) (by omega) (by omega)) dL_law_493 ?_
  refine nt_i (xs (i + 1)) (congrArg xs (nI_clamp (by omega))) ?_
  refine lv_aload_n hx hb dL_law_494 rfl (lv_at hl 3 rfl) ?_
  refine lv_iload_n hx hb dL_law_495 rfl (lv_at hl 0 rfl) ?_
  refine lv_iconst (v := 2) hx hb dL_law_496 (by decide +kernel) ?_
  refine lv_iadd hx hb dL_law_497 ?_
  refine nt_i (nI (i + 2)) (nI_add i 2) ?_
  refine va_sld hx hb hX hbl hbA hS (vp_in_nI (n := (i + 2)) (by omega) (by omega)) dL_law_498 ?_
  refine nt_i (xs (i + 2)) (congrArg xs (nI_clamp (by omega))) ?_
  refine lm_share l C0 hC hA hIm (xs (i + 1)) (xs (i + 2)) hl (hP.perm List.perm_append_comm) (hD.perm List.perm_append_comm) hS (fun r_2 v H locs hIm hP hD hS => ?_)
  have hP := hP.perm List.perm_append_comm
  have hD := hD.perm List.perm_append_comm
  refine lv_pop hx hb dL_law_502 rfl ?_
  refine lv_goto (tgt := 930) hx hb dL_law_503 (by decide +kernel) ?_
  exact kk _ _ _ H locs ls hIx hIm hP hD hS hl
set_option maxHeartbeats 4000000 in
set_option maxRecDepth 100000 in
theorem law_c12 {p : Program} {e : Env} {s : State} {m : MethodId} {below : List Frame} {meth : Method} {c : Code} (l : Launch) {b L : Nat} {xs : Nat → Int32} (C0 : lw_At p s m meth c b L xs) {D : va_G} {ca : Nat → ClassId} (hC : Cx D ca s) {A : Nat → Prop} (hA : ∀ q : Nat, s.heap.size ≤ q → A q) (hbA : ¬ A b) {K : (Nat × Nat × Option Nat) × (Nat → Int32)} (hK : SK K A s s.heap) {x0 m0 : Nat} {tm : Int32} {w v : va_W} (hIx : XV ca x0 tm w) (hIm : MV ca m0 tm v) {i : Nat} (hi : i + 6 ≤ L) (hL : L ≤ 3072) {H : Heap} {locs : List Loc} {ls : Array Slot} {Q : State → Prop} (hP : va_P D vwCl (ap w v) H) (hD : va_D A (ap w v)) (hS : va_S A s.heap H locs) (hl : lv_has ls 4 [(3, .int (nI i)), (2, .ref m0), (1, .ref x0), (0, .ref b)]) (kk : ∀ (tm : Int32) (w v : va_W) (H : Heap) (locs : List Loc) (ls : Array Slot), XV ca x0 tm w → MV ca m0 tm v → va_P D vwCl (ap w v) H → va_D A (ap w v) → va_S A s.heap H locs → lv_has ls 4 [(3, .int (nI i)), (2, .ref m0), (1, .ref x0), (0, .ref b)] → W p l e room_1 s m #[Value.ref b] below meth c H locs 212 50162 Q (F0 m 930 ls [])) : W p l e room_1 s m #[Value.ref b] below meth c H locs 212 50162 Q (F0 m 506 ls []) := by
  obtain ⟨hx, hb, hr, hml, hown, hts, hX, hbl, hlocks, hgv⟩ := id C0
  refine lv_aload_n hx hb dL_law_506 rfl (lv_at hl 2 rfl) ?_
  refine lv_aload_n hx hb dL_law_507 rfl (lv_at hl 3 rfl) ?_
  refine lv_iload_n hx hb dL_law_508 rfl (lv_at hl 0 rfl) ?_
  refine lv_iconst (v := 1) hx hb dL_law_509 (by decide +kernel) ?_
  refine lv_iadd hx hb dL_law_510 ?_
  refine nt_i (nI (i + 1)) (nI_add i 1) ?_
  refine va_sld hx hb hX hbl hbA hS (vp_in_nI (n := (i + 1)) (by omega) (by omega)) dL_law_511 ?_
  refine nt_i (xs (i + 1)) (congrArg xs (nI_clamp (by omega))) ?_
  refine lx_kill l C0 hC hA hK hIx (xs (i + 1)) hl hP hD hS (fun r_1 w H locs hIx hP hD hS => ?_)
  refine lv_pop hx hb dL_law_515 rfl ?_
  refine lv_aload_n hx hb dL_law_516 rfl (lv_at hl 1 rfl) ?_
  refine lv_aload_n hx hb dL_law_517 rfl (lv_at hl 3 rfl) ?_
  refine lv_iload_n hx hb dL_law_518 rfl (lv_at hl 0 rfl) ?_
  refine lv_iconst (v := 1) hx hb dL_law_519 (by decide +kernel) ?_
  refine lv_iadd hx hb dL_law_520 ?_
  refine nt_i (nI (i + 1)) (nI_add i 1) ?_
  refine va_sld hx hb hX hbl hbA hS (vp_in_nI (n := (i + 1)) (by omega) (by omega)) dL_law_521 ?_
  refine nt_i (xs (i + 1)) (congrArg xs (nI_clamp (by omega))) ?_
  refine lm_kill l C0 hC hA hIm (xs (i + 1)) hl (hP.perm List.perm_append_comm) (hD.perm List.perm_append_comm) hS (fun r_2 v H locs hIm hP hD hS => ?_)
  have hP := hP.perm List.perm_append_comm
  have hD := hD.perm List.perm_append_comm
  refine lv_pop hx hb dL_law_525 rfl ?_
  refine lv_goto (tgt := 930) hx hb dL_law_526 (by decide +kernel) ?_
  exact kk _ _ _ H locs ls hIx hIm hP hD hS hl
set_option maxHeartbeats 4000000 in
set_option maxRecDepth 100000 in
theorem law_c13 {p : Program} {e : Env} {s : State} {m : MethodId} {below : List Frame} {meth : Method} {c : Code} (l : Launch) {b L : Nat} {xs : Nat → Int32} (C0 : lw_At p s m meth c b L xs) {D : va_G} {ca : Nat → ClassId} (hC : Cx D ca s) {A : Nat → Prop} (hA : ∀ q : Nat, s.heap.size ≤ q → A q) (hbA : ¬ A b) {K : (Nat × Nat × Option Nat) × (Nat → Int32)} (hK : SK K A s s.heap) {x0 m0 : Nat} {tm : Int32} {w v : va_W} (hIx : XV ca x0 tm w) (hIm : MV ca m0 tm v) {i : Nat} (hi : i + 6 ≤ L) (hL : L ≤ 3072) {H : Heap} {locs : List Loc} {ls : Array Slot} {Q : State → Prop} (hP : va_P D vwCl (ap w v) H) (hD : va_D A (ap w v)) (hS : va_S A s.heap H locs) (hl : lv_has ls 4 [(3, .int (nI i)), (2, .ref m0), (1, .ref x0), (0, .ref b)]) (kk : ∀ (tm : Int32) (w v : va_W) (H : Heap) (locs : List Loc) (ls : Array Slot), XV ca x0 tm w → MV ca m0 tm v → va_P D vwCl (ap w v) H → va_D A (ap w v) → va_S A s.heap H locs → lv_has ls 4 [(3, .int (nI i)), (2, .ref m0), (1, .ref x0), (0, .ref b)] → W p l e room_1 s m #[Value.ref b] below meth c H locs 212 50162 Q (F0 m 930 ls [])) : W p l e room_1 s m #[Value.ref b] below meth c H locs 212 50162 Q (F0 m 529 ls []) := by
  obtain ⟨hx, hb, hr, hml, hown, hts, hX, hbl, hlocks, hgv⟩ := id C0
  refine lv_aload_n hx hb dL_law_529 rfl (lv_at hl 2 rfl) ?_
  refine lv_aload_n hx hb dL_law_530 rfl (lv_at hl 3 rfl) ?_
  refine lv_iload_n hx hb dL_law_531 rfl (lv_at hl 0 rfl) ?_
  refine lv_iconst (v := 1) hx hb dL_law_532 (by decide +kernel) ?_
  refine lv_iadd hx hb dL_law_533 ?_
  refine nt_i (nI (i + 1)) (nI_add i 1) ?_
  refine va_sld hx hb hX hbl hbA hS (vp_in_nI (n := (i + 1)) (by omega) (by omega)) dL_law_534 ?_
  refine nt_i (xs (i + 1)) (congrArg xs (nI_clamp (by omega))) ?_
  refine lx_wake l C0 hC hA hK hIx (xs (i + 1)) hl hP hD hS (fun r_1 w H locs hIx hP hD hS => ?_)
  refine lv_pop hx hb dL_law_538 rfl ?_
  refine lv_aload_n hx hb dL_law_539 rfl (lv_at hl 1 rfl) ?_
  refine lv_aload_n hx hb dL_law_540 rfl (lv_at hl 3 rfl) ?_
  refine lv_iload_n hx hb dL_law_541 rfl (lv_at hl 0 rfl) ?_
  refine lv_iconst (v := 1) hx hb dL_law_542 (by decide +kernel) ?_
  refine lv_iadd hx hb dL_law_543 ?_
  refine nt_i (nI (i + 1)) (nI_add i 1) ?_
  refine va_sld hx hb hX hbl hbA hS (vp_in_nI (n := (i + 1)) (by omega) (by omega)) dL_law_544 ?_
  refine nt_i (xs (i + 1)) (congrArg xs (nI_clamp (by omega))) ?_
  refine lm_wake l C0 hC hA hIm (xs (i + 1)) hl (hP.perm List.perm_append_comm) (hD.perm List.perm_append_comm) hS (fun r_2 v H locs hIm hP hD hS => ?_)
  have hP := hP.perm List.perm_append_comm
  have hD := hD.perm List.perm_append_comm
  refine lv_pop hx hb dL_law_548 rfl ?_
  refine lv_goto (tgt := 930) hx hb dL_law_549 (by decide +kernel) ?_
  exact kk _ _ _ H locs ls hIx hIm hP hD hS hl
set_option maxHeartbeats 4000000 in
set_option maxRecDepth 100000 in
theorem law_c14 {p : Program} {e : Env} {s : State} {m : MethodId} {below : List Frame} {meth : Method} {c : Code} (l : Launch) {b L : Nat} {xs : Nat → Int32} (C0 : lw_At p s m meth c b L xs) {D : va_G} {ca : Nat → ClassId} (hC : Cx D ca s) {A : Nat → Prop} (hA : ∀ q : Nat, s.heap.size ≤ q → A q) (hbA : ¬ A b) {K : (Nat × Nat × Option Nat) × (Nat → Int32)} (hK : SK K A s s.heap) {x0 m0 : Nat} {tm : Int32} {w v : va_W} (hIx : XV ca x0 tm w) (hIm : MV ca m0 tm v) {i : Nat} (hi : i + 6 ≤ L) (hL : L ≤ 3072) {H : Heap} {locs : List Loc} {ls : Array Slot} {Q : State → Prop} (hP : va_P D vwCl (ap w v) H) (hD : va_D A (ap w v)) (hS : va_S A s.heap H locs) (hl : lv_has ls 4 [(3, .int (nI i)), (2, .ref m0), (1, .ref x0), (0, .ref b)]) (kk : ∀ (tm : Int32) (w v : va_W) (H : Heap) (locs : List Loc) (ls : Array Slot), XV ca x0 tm w → MV ca m0 tm v → va_P D vwCl (ap w v) H → va_D A (ap w v) → va_S A s.heap H locs → lv_has ls 4 [(3, .int (nI i)), (2, .ref m0), (1, .ref x0), (0, .ref b)] → W p l e room_1 s m #[Value.ref b] below meth c H locs 212 50162 Q (F0 m 930 ls [])) : W p l e room_1 s m #[Value.ref b] below meth c H locs 212 50162 Q (F0 m 552 ls []) := by
  obtain ⟨hx, hb, hr, hml, hown, hts, hX, hbl, hlocks, hgv⟩ := id C0
  refine lv_aload_n hx hb dL_law_552 rfl (lv_at hl 2 rfl) ?_
  refine lv_aload_n hx hb dL_law_553 rfl (lv_at hl 3 rfl) ?_
  refine lv_iload_n hx hb dL_law_554 rfl (lv_at hl 0 rfl) ?_
  refine lv_iconst (v := 1) hx hb dL_law_555 (by decide +kernel) ?_
  refine lv_iadd hx hb dL_law_556 ?_
  refine nt_i (nI (i + 1)) (nI_add i 1) ?_
  refine va_sld hx hb hX hbl hbA hS (vp_in_nI (n := (i + 1)) (by omega) (by omega)) dL_law_557 ?_
  refine nt_i (xs (i + 1)) (congrArg xs (nI_clamp (by omega))) ?_
  refine lx_soon l C0 hC hA hK hIx (xs (i + 1)) hl hP hD hS (fun r_1 w H locs hIx hP hD hS => ?_)
  refine lv_pop hx hb dL_law_561 rfl ?_
  refine lv_aload_n hx hb dL_law_562 rfl (lv_at hl 1 rfl) ?_
  refine lv_aload_n hx hb dL_law_563 rfl (lv_at hl 3 rfl) ?_
  refine lv_iload_n hx hb dL_law_564 rfl (lv_at hl 0 rfl) ?_
  refine lv_iconst (v := 1) hx hb dL_law_565 (by decide +kernel) ?_
  refine lv_iadd hx hb dL_law_566 ?_
  refine nt_i (nI (i + 1)) (nI_add i 1) ?_
  refine va_sld hx hb hX hbl hbA hS (vp_in_nI (n := (i + 1)) (by omega) (by omega)) dL_law_567 ?_
  refine nt_i (xs (i + 1)) (congrArg xs (nI_clamp (by omega))) ?_
  refine lm_soon l C0 hC hA hIm (xs (i + 1)) hl (hP.perm List.perm_append_comm) (hD.perm List.perm_append_comm) hS (fun r_2 v H locs hIm hP hD hS => ?_)
  have hP := hP.perm List.perm_append_comm
  have hD := hD.perm List.perm_append_comm
  refine lv_pop hx hb dL_law_571 rfl ?_
  refine lv_goto (tgt := 930) hx hb dL_law_572 (by decide +kernel) ?_
  exact kk _ _ _ H locs ls hIx hIm hP hD hS hl
set_option maxHeartbeats 4000000 in
set_option maxRecDepth 100000 in
theorem law_c15 {p : Program} {e : Env} {s : State} {m : MethodId} {below : List Frame} {meth : Method} {c : Code} (l : Launch) {b L : Nat} {xs : Nat → Int32} (C0 : lw_At p s m meth c b L xs) {D : va_G} {ca : Nat → ClassId} (hC : Cx D ca s) {A : Nat → Prop} (hA : ∀ q : Nat, s.heap.size ≤ q → A q) (hbA : ¬ A b) {K : (Nat × Nat × Option Nat) × (Nat → Int32)} (hK : SK K A s s.heap) {x0 m0 : Nat} {tm : Int32} {w v : va_W} (hIx : XV ca x0 tm w) (hIm : MV ca m0 tm v) {i : Nat} (hi : i + 6 ≤ L) (hL : L ≤ 3072) {H : Heap} {locs : List Loc} {ls : Array Slot} {Q : State → Prop} (hP : va_P D vwCl (ap w v) H) (hD : va_D A (ap w v)) (hS : va_S A s.heap H locs) (hl : lv_has ls 4 [(3, .int (nI i)), (2, .ref m0), (1, .ref x0), (0, .ref b)]) (kk : ∀ (tm : Int32) (w v : va_W) (H : Heap) (locs : List Loc) (ls : Array Slot), XV ca x0 tm w → MV ca m0 tm v → va_P D vwCl (ap w v) H → va_D A (ap w v) → va_S A s.heap H locs → lv_has ls 4 [(3, .int (nI i)), (2, .ref m0), (1, .ref x0), (0, .ref b)] → W p l e room_1 s m #[Value.ref b] below meth c H locs 212 50162 Q (F0 m 930 ls [])) : W p l e room_1 s m #[Value.ref b] below meth c H locs 212 50162 Q (F0 m 575 ls []) := by
  obtain ⟨hx, hb, hr, hml, hown, hts, hX, hbl, hlocks, hgv⟩ := id C0
  refine lv_aload_n hx hb dL_law_575 rfl (lv_at hl 2 rfl) ?_
  refine lv_aload_n hx hb dL_law_576 rfl (lv_at hl 3 rfl) ?_
  refine lv_iload_n hx hb dL_law_577 rfl (lv_at hl 0 rfl) ?_
  refine lv_iconst (v := 1) hx hb dL_law_578 (by decide +kernel) ?_
  refine lv_iadd hx hb dL_law_579 ?_
  refine nt_i (nI (i + 1)) (nI_add i 1) ?_
  refine va_sld hx hb hX hbl hbA hS (vp_in_nI (n := (i + 1)) (by omega) (by omega)) dL_law_580 ?_
  refine nt_i (xs (i + 1)) (congrArg xs (nI_clamp (by omega))) ?_
  refine lx_load l C0 hC hA hK hIx (xs (i + 1)) hl hP hD hS (fun r_1 w H locs hIx hP hD hS => ?_)
  refine lv_pop2_2 hx hb dL_law_584 rfl ?_
  refine lv_aload_n hx hb dL_law_585 rfl (lv_at hl 1 rfl) ?_
  refine lv_aload_n hx hb dL_law_586 rfl (lv_at hl 3 rfl) ?_
  refine lv_iload_n hx hb dL_law_587 rfl (lv_at hl 0 rfl) ?_
  refine lv_iconst (v := 1) hx hb dL_law_588 (by decide +kernel) ?_
  refine lv_iadd hx hb dL_law_589 ?_
  refine nt_i (nI (i + 1)) (nI_add i 1) ?_
  refine va_sld hx hb hX hbl hbA hS (vp_in_nI (n := (i + 1)) (by omega) (by omega)) dL_law_590 ?_
  refine nt_i (xs (i + 1)) (congrArg xs (nI_clamp (by omega))) ?_
  refine lm_load l C0 hC hA hIm (xs (i + 1)) hl (hP.perm List.perm_append_comm) (hD.perm List.perm_append_comm) hS (fun r_2 v H locs hIm hP hD hS => ?_)
  have hP := hP.perm List.perm_append_comm
  have hD := hD.perm List.perm_append_comm
  refine lv_pop2_2 hx hb dL_law_594 rfl ?_
  refine lv_goto (tgt := 930) hx hb dL_law_595 (by decide +kernel) ?_
  exact kk _ _ _ H locs ls hIx hIm hP hD hS hl
set_option maxHeartbeats 4000000 in
set_option maxRecDepth 100000 in
theorem law_c16 {p : Program} {e : Env} {s : State} {m : MethodId} {below : List Frame} {meth : Method} {c : Code} (l : Launch) {b L : Nat} {xs : Nat → Int32} (C0 : lw_At p s m meth c b L xs) {D : va_G} {ca : Nat → ClassId} (hC : Cx D ca s) {A : Nat → Prop} (hA : ∀ q : Nat, s.heap.size ≤ q → A q) (hbA : ¬ A b) {K : (Nat × Nat × Option Nat) × (Nat → Int32)} (hK : SK K A s s.heap) {x0 m0 : Nat} {tm : Int32} {w v : va_W} (hIx : XV ca x0 tm w) (hIm : MV ca m0 tm v) {i : Nat} (hi : i + 6 ≤ L) (hL : L ≤ 3072) {H : Heap} {locs : List Loc} {ls : Array Slot} {Q : State → Prop} (hP : va_P D vwCl (ap w v) H) (hD : va_D A (ap w v)) (hS : va_S A s.heap H locs) (hl : lv_has ls 4 [(3, .int (nI i)), (2, .ref m0), (1, .ref x0), (0, .ref b)]) (kk : ∀ (tm : Int32) (w v : va_W) (H : Heap) (locs : List Loc) (ls : Array Slot), XV ca x0 tm w → MV ca m0 tm v → va_P D vwCl (ap w v) H → va_D A (ap w v) → va_S A s.heap H locs → lv_has ls 4 [(3, .int (nI i)), (2, .ref m0), (1, .ref x0), (0, .ref b)] → W p l e room_1 s m #[Value.ref b] below meth c H locs 212 50162 Q (F0 m 930 ls [])) : W p l e room_1 s m #[Value.ref b] below meth c H locs 212 50162 Q (F0 m 598 ls []) := by
  obtain ⟨hx, hb, hr, hml, hown, hts, hX, hbl, hlocks, hgv⟩ := id C0
  refine lv_aload_n hx hb dL_law_598 rfl (lv_at hl 2 rfl) ?_
  refine lv_aload_n hx hb dL_law_599 rfl (lv_at hl 3 rfl) ?_
  refine lv_iload_n hx hb dL_law_600 rfl (lv_at hl 0 rfl) ?_
  refine lv_iconst (v := 1) hx hb dL_law_601 (by decide +kernel) ?_
  refine lv_iadd hx hb dL_law_602 ?_
  refine nt_i (nI (i + 1)) (nI_add i 1) ?_
  refine va_sld hx hb hX hbl hbA hS (vp_in_nI (n := (i + 1)) (by omega) (by omega)) dL_law_603 ?_
  refine nt_i (xs (i + 1)) (congrArg xs (nI_clamp (by omega))) ?_
  refine lx_risk l C0 hC hA hK hIx (xs (i + 1)) hl hP hD hS (fun r_1 w H locs hIx hP hD hS => ?_)
  refine lv_pop hx hb dL_law_607 rfl ?_
  refine lv_aload_n hx hb dL_law_608 rfl (lv_at hl 1 rfl) ?_
  refine lv_aload_n hx hb dL_law_609 rfl (lv_at hl 3 rfl) ?_
  refine lv_iload_n hx hb dL_law_610 rfl (lv_at hl 0 rfl) ?_
  refine lv_iconst (v := 1) hx hb dL_law_611 (by decide +kernel) ?_
  refine lv_iadd hx hb dL_law_612 ?_
  refine nt_i (nI (i + 1)) (nI_add i 1) ?_
  refine va_sld hx hb hX hbl hbA hS (vp_in_nI (n := (i + 1)) (by omega) (by omega)) dL_law_613 ?_
  refine nt_i (xs (i + 1)) (congrArg xs (nI_clamp (by omega))) ?_
  refine lm_risk l C0 hC hA hIm (xs (i + 1)) hl (hP.perm List.perm_append_comm) (hD.perm List.perm_append_comm) hS (fun r_2 v H locs hIm hP hD hS => ?_)
  have hP := hP.perm List.perm_append_comm
  have hD := hD.perm List.perm_append_comm
  refine lv_pop hx hb dL_law_617 rfl ?_
  refine lv_goto (tgt := 930) hx hb dL_law_618 (by decide +kernel) ?_
  exact kk _ _ _ H locs ls hIx hIm hP hD hS hl
set_option maxHeartbeats 4000000 in
set_option maxRecDepth 100000 in
theorem law_c17 {p : Program} {e : Env} {s : State} {m : MethodId} {below : List Frame} {meth : Method} {c : Code} (l : Launch) {b L : Nat} {xs : Nat → Int32} (C0 : lw_At p s m meth c b L xs) {D : va_G} {ca : Nat → ClassId} (hC : Cx D ca s) {A : Nat → Prop} (hA : ∀ q : Nat, s.heap.size ≤ q → A q) (hbA : ¬ A b) {K : (Nat × Nat × Option Nat) × (Nat → Int32)} (hK : SK K A s s.heap) {x0 m0 : Nat} {tm : Int32} {w v : va_W} (hIx : XV ca x0 tm w) (hIm : MV ca m0 tm v) {i : Nat} (hi : i + 6 ≤ L) (hL : L ≤ 3072) {H : Heap} {locs : List Loc} {ls : Array Slot} {Q : State → Prop} (hP : va_P D vwCl (ap w v) H) (hD : va_D A (ap w v)) (hS : va_S A s.heap H locs) (hl : lv_has ls 4 [(3, .int (nI i)), (2, .ref m0), (1, .ref x0), (0, .ref b)]) (kk : ∀ (tm : Int32) (w v : va_W) (H : Heap) (locs : List Loc) (ls : Array Slot), XV ca x0 tm w → MV ca m0 tm v → va_P D vwCl (ap w v) H → va_D A (ap w v) → va_S A s.heap H locs → lv_has ls 4 [(3, .int (nI i)), (2, .ref m0), (1, .ref x0), (0, .ref b)] → W p l e room_1 s m #[Value.ref b] below meth c H locs 212 50162 Q (F0 m 930 ls [])) : W p l e room_1 s m #[Value.ref b] below meth c H locs 212 50162 Q (F0 m 621 ls []) := by
  obtain ⟨hx, hb, hr, hml, hown, hts, hX, hbl, hlocks, hgv⟩ := id C0
  refine lv_aload_n hx hb dL_law_621 rfl (lv_at hl 2 rfl) ?_
  refine lv_aload_n hx hb dL_law_622 rfl (lv_at hl 3 rfl) ?_
  refine lv_iload_n hx hb dL_law_623 rfl (lv_at hl 0 rfl) ?_
  refine lv_iconst (v := 1) hx hb dL_law_624 (by decide +kernel) ?_
  refine lv_iadd hx hb dL_law_625 ?_
  refine nt_i (nI (i + 1)) (nI_add i 1) ?_
  refine va_sld hx hb hX hbl hbA hS (vp_in_nI (n := (i + 1)) (by omega) (by omega)) dL_law_626 ?_
  refine nt_i (xs (i + 1)) (congrArg xs (nI_clamp (by omega))) ?_
  refine lv_aload_n hx hb dL_law_627 rfl (lv_at hl 3 rfl) ?_
  refine lv_iload_n hx hb dL_law_628 rfl (lv_at hl 0 rfl) ?_
  refine lv_iconst (v := 2) hx hb dL_law_629 (by decide +kernel) ?_
  refine lv_iadd hx hb dL_law_630 ?_
  refine nt_i (nI (i + 2)) (nI_add i 2) ?_
  refine va_sld hx hb hX hbl hbA hS (vp_in_nI (n := (i + 2)) (by omega) (by omega)) dL_law_631 ?_
  refine nt_i (xs (i + 2)) (congrArg xs (nI_clamp (by omega))) ?_
  refine lx_enough l C0 hC hA hK hIx (xs (i + 1)) (xs (i + 2)) hl hP hD hS (fun r_1 w H locs hIx hP hD hS => ?_)
  refine lv_pop hx hb dL_law_635 rfl ?_
  refine lv_aload_n hx hb dL_law_636 rfl (lv_at hl 1 rfl) ?_
  refine lv_aload_n hx hb dL_law_637 rfl (lv_at hl 3 rfl) ?_
  refine lv_iload_n hx hb dL_law_638 rfl (lv_at hl 0 rfl) ?_
  refine lv_iconst (v := 1) hx hb dL_law_639 (by decide +kernel) ?_
  refine lv_iadd hx hb dL_law_640 ?_
  refine nt_i (nI (i + 1)) (nI_add i 1) ?_
  refine va_sld hx hb hX hbl hbA hS (vp_in_nI (n := (i + 1)) (by omega) (by omega)) dL_law_641 ?_
  refine nt_i (xs (i + 1)) (congrArg xs (nI_clamp (by omega))) ?_
  refine lv_aload_n hx hb dL_law_642 rfl (lv_at hl 3 rfl) ?_
  refine lv_iload_n hx hb dL_law_643 rfl (lv_at hl 0 rfl) ?_
  refine lv_iconst (v := 2) hx hb dL_law_644 (by decide +kernel) ?_
  refine lv_iadd hx hb dL_law_645 ?_
  refine nt_i (nI (i + 2)) (nI_add i 2) ?_
  refine va_sld hx hb hX hbl hbA hS (vp_in_nI (n := (i + 2)) (by omega) (by omega)) dL_law_646 ?_
  refine nt_i (xs (i + 2)) (congrArg xs (nI_clamp (by omega))) ?_
  refine lm_enough l C0 hC hA hIm (xs (i + 1)) (xs (i + 2)) hl (hP.perm List.perm_append_comm) (hD.perm List.perm_append_comm) hS (fun r_2 v H locs hIm hP hD hS => ?_)
  have hP := hP.perm List.perm_append_comm
  have hD := hD.perm List.perm_append_comm
  refine lv_pop hx hb dL_law_650 rfl ?_
  refine lv_goto (tgt := 930) hx hb dL_law_651 (by decide +kernel) ?_
  exact kk _ _ _ H locs ls hIx hIm hP hD hS hl
set_option maxHeartbeats 4000000 in
set_option maxRecDepth 100000 in
theorem law_c18 {p : Program} {e : Env} {s : State} {m : MethodId} {below : List Frame} {meth : Method} {c : Code} (l : Launch) {b L : Nat} {xs : Nat → Int32} (C0 : lw_At p s m meth c b L xs) {D : va_G} {ca : Nat → ClassId} (hC : Cx D ca s) {A : Nat → Prop} (hA : ∀ q : Nat, s.heap.size ≤ q → A q) (hbA : ¬ A b) {K : (Nat × Nat × Option Nat) × (Nat → Int32)} (hK : SK K A s s.heap) {x0 m0 : Nat} {tm : Int32} {w v : va_W} (hIx : XV ca x0 tm w) (hIm : MV ca m0 tm v) {i : Nat} (hi : i + 6 ≤ L) (hL : L ≤ 3072) {H : Heap} {locs : List Loc} {ls : Array Slot} {Q : State → Prop} (hP : va_P D vwCl (ap w v) H) (hD : va_D A (ap w v)) (hS : va_S A s.heap H locs) (hl : lv_has ls 4 [(3, .int (nI i)), (2, .ref m0), (1, .ref x0), (0, .ref b)]) (kk : ∀ (tm : Int32) (w v : va_W) (H : Heap) (locs : List Loc) (ls : Array Slot), XV ca x0 tm w → MV ca m0 tm v → va_P D vwCl (ap w v) H → va_D A (ap w v) → va_S A s.heap H locs → lv_has ls 4 [(3, .int (nI i)), (2, .ref m0), (1, .ref x0), (0, .ref b)] → W p l e room_1 s m #[Value.ref b] below meth c H locs 212 50162 Q (F0 m 930 ls [])) : W p l e room_1 s m #[Value.ref b] below meth c H locs 212 50162 Q (F0 m 654 ls []) := by
  obtain ⟨hx, hb, hr, hml, hown, hts, hX, hbl, hlocks, hgv⟩ := id C0
  refine lv_aload_n hx hb dL_law_654 rfl (lv_at hl 2 rfl) ?_
  refine lv_aload_n hx hb dL_law_655 rfl (lv_at hl 3 rfl) ?_
  refine lv_iload_n hx hb dL_law_656 rfl (lv_at hl 0 rfl) ?_
  refine lv_iconst (v := 1) hx hb dL_law_657 (by decide +kernel) ?_
  refine lv_iadd hx hb dL_law_658 ?_
  refine nt_i (nI (i + 1)) (nI_add i 1) ?_
  refine va_sld hx hb hX hbl hbA hS (vp_in_nI (n := (i + 1)) (by omega) (by omega)) dL_law_659 ?_
  refine nt_i (xs (i + 1)) (congrArg xs (nI_clamp (by omega))) ?_
  refine lv_aload_n hx hb dL_law_660 rfl (lv_at hl 3 rfl) ?_
  refine lv_iload_n hx hb dL_law_661 rfl (lv_at hl 0 rfl) ?_
  refine lv_iconst (v := 2) hx hb dL_law_662 (by decide +kernel) ?_
  refine lv_iadd hx hb dL_law_663 ?_
  refine nt_i (nI (i + 2)) (nI_add i 2) ?_
  refine va_sld hx hb hX hbl hbA hS (vp_in_nI (n := (i + 2)) (by omega) (by omega)) dL_law_664 ?_
  refine nt_i (xs (i + 2)) (congrArg xs (nI_clamp (by omega))) ?_
  refine lv_aload_n hx hb dL_law_665 rfl (lv_at hl 3 rfl) ?_
  refine lv_iload_n hx hb dL_law_666 rfl (lv_at hl 0 rfl) ?_
  refine lv_iconst (v := 3) hx hb dL_law_667 (by decide +kernel) ?_
  refine lv_iadd hx hb dL_law_668 ?_
  refine nt_i (nI (i + 3)) (nI_add i 3) ?_
  refine va_sld hx hb hX hbl hbA hS (vp_in_nI (n := (i + 3)) (by omega) (by omega)) dL_law_669 ?_
  refine nt_i (xs (i + 3)) (congrArg xs (nI_clamp (by omega))) ?_
  refine lx_tell l C0 hC hA hK hIx (xs (i + 1)) (xs (i + 2)) (xs (i + 3)) hl hP hD hS (fun r_1 w H locs hIx hP hD hS => ?_)
  refine lv_pop hx hb dL_law_673 rfl ?_
  refine lv_aload_n hx hb dL_law_674 rfl (lv_at hl 1 rfl) ?_
  refine lv_aload_n hx hb dL_law_675 rfl (lv_at hl 3 rfl) ?_
  refine lv_iload_n hx hb dL_law_676 rfl (lv_at hl 0 rfl) ?_
  refine lv_iconst (v := 1) hx hb dL_law_677 (by decide +kernel) ?_
  refine lv_iadd hx hb dL_law_678 ?_
  refine nt_i (nI (i + 1)) (nI_add i 1) ?_
  refine va_sld hx hb hX hbl hbA hS (vp_in_nI (n := (i + 1)) (by omega) (by omega)) dL_law_679 ?_
  refine nt_i (xs (i + 1)) (congrArg xs (nI_clamp (by omega))) ?_
  refine lv_aload_n hx hb dL_law_680 rfl (lv_at hl 3 rfl) ?_
  refine lv_iload_n hx hb dL_law_681 rfl (lv_at hl 0 rfl) ?_
  refine lv_iconst (v := 2) hx hb dL_law_682 (by decide +kernel) ?_
  refine lv_iadd hx hb dL_law_683 ?_
  refine nt_i (nI (i + 2)) (nI_add i 2) ?_
  refine va_sld hx hb hX hbl hbA hS (vp_in_nI (n := (i + 2)) (by omega) (by omega)) dL_law_684 ?_
  refine nt_i (xs (i + 2)) (congrArg xs (nI_clamp (by omega))) ?_
  refine lv_aload_n hx hb dL_law_685 rfl (lv_at hl 3 rfl) ?_
  refine lv_iload_n hx hb dL_law_686 rfl (lv_at hl 0 rfl) ?_
  refine lv_iconst (v := 3) hx hb dL_law_687 (by decide +kernel) ?_
  refine lv_iadd hx hb dL_law_688 ?_
  refine nt_i (nI (i + 3)) (nI_add i 3) ?_
  refine va_sld hx hb hX hbl hbA hS (vp_in_nI (n := (i + 3)) (by omega) (by omega)) dL_law_689 ?_
  refine nt_i (xs (i + 3)) (congrArg xs (nI_clamp (by omega))) ?_
  refine lm_tell l C0 hC hA hIm (xs (i + 1)) (xs (i + 2)) (xs (i + 3)) hl (hP.perm List.perm_append_comm) (hD.perm List.perm_append_comm) hS (fun r_2 v H locs hIm hP hD hS => ?_)
  have hP := hP.perm List.perm_append_comm
  have hD := hD.perm List.perm_append_comm
  refine lv_pop hx hb dL_law_693 rfl ?_
  refine lv_goto (tgt := 930) hx hb dL_law_694 (by decide +kernel) ?_
  exact kk _ _ _ H locs ls hIx hIm hP hD hS hl
set_option maxHeartbeats 4000000 in
set_option maxRecDepth 100000 in
theorem law_c19 {p : Program} {e : Env} {s : State} {m : MethodId} {below : List Frame} {meth : Method} {c : Code} (l : Launch) {b L : Nat} {xs : Nat → Int32} (C0 : lw_At p s m meth c b L xs) {D : va_G} {ca : Nat → ClassId} (hC : Cx D ca s) {A : Nat → Prop} (hA : ∀ q : Nat, s.heap.size ≤ q → A q) (hbA : ¬ A b) {K : (Nat × Nat × Option Nat) × (Nat → Int32)} (hK : SK K A s s.heap) {x0 m0 : Nat} {tm : Int32} {w v : va_W} (hIx : XV ca x0 tm w) (hIm : MV ca m0 tm v) {i : Nat} (hi : i + 6 ≤ L) (hL : L ≤ 3072) {H : Heap} {locs : List Loc} {ls : Array Slot} {Q : State → Prop} (hP : va_P D vwCl (ap w v) H) (hD : va_D A (ap w v)) (hS : va_S A s.heap H locs) (hl : lv_has ls 4 [(3, .int (nI i)), (2, .ref m0), (1, .ref x0), (0, .ref b)]) (kk : ∀ (tm : Int32) (w v : va_W) (H : Heap) (locs : List Loc) (ls : Array Slot), XV ca x0 tm w → MV ca m0 tm v → va_P D vwCl (ap w v) H → va_D A (ap w v) → va_S A s.heap H locs → lv_has ls 4 [(3, .int (nI i)), (2, .ref m0), (1, .ref x0), (0, .ref b)] → W p l e room_1 s m #[Value.ref b] below meth c H locs 212 50162 Q (F0 m 930 ls [])) : W p l e room_1 s m #[Value.ref b] below meth c H locs 212 50162 Q (F0 m 697 ls []) := by
  obtain ⟨hx, hb, hr, hml, hown, hts, hX, hbl, hlocks, hgv⟩ := id C0
  refine lv_aload_n hx hb dL_law_697 rfl (lv_at hl 2 rfl) ?_
  refine lx_hush l C0 hC hA hK hIx  hl hP hD hS (fun r_1 w H locs hIx hP hD hS => ?_)
  refine lv_pop hx hb dL_law_701 rfl ?_
  refine lv_aload_n hx hb dL_law_702 rfl (lv_at hl 1 rfl) ?_
  refine lm_hush l C0 hC hA hIm  hl (hP.perm List.perm_append_comm) (hD.perm List.perm_append_comm) hS (fun r_2 v H locs hIm hP hD hS => ?_)
  have hP := hP.perm List.perm_append_comm
  have hD := hD.perm List.perm_append_comm
  refine lv_pop hx hb dL_law_706 rfl ?_
  refine lv_goto (tgt := 930) hx hb dL_law_707 (by decide +kernel) ?_
  exact kk _ _ _ H locs ls hIx hIm hP hD hS hl
set_option maxHeartbeats 4000000 in
set_option maxRecDepth 100000 in
theorem law_c20 {p : Program} {e : Env} {s : State} {m : MethodId} {below : List Frame} {meth : Method} {c : Code} (l : Launch) {b L : Nat} {xs : Nat → Int32} (C0 : lw_At p s m meth c b L xs) {D : va_G} {ca : Nat → ClassId} (hC : Cx D ca s) {A : Nat → Prop} (hA : ∀ q : Nat, s.heap.size ≤ q → A q) (hbA : ¬ A b) {K : (Nat × Nat × Option Nat) × (Nat → Int32)} (hK : SK K A s s.heap) {x0 m0 : Nat} {tm : Int32} {w v : va_W} (hIx : XV ca x0 tm w) (hIm : MV ca m0 tm v) {i : Nat} (hi : i + 6 ≤ L) (hL : L ≤ 3072) {H : Heap} {locs : List Loc} {ls : Array Slot} {Q : State → Prop} (hP : va_P D vwCl (ap w v) H) (hD : va_D A (ap w v)) (hS : va_S A s.heap H locs) (hl : lv_has ls 4 [(3, .int (nI i)), (2, .ref m0), (1, .ref x0), (0, .ref b)]) (kk : ∀ (tm : Int32) (w v : va_W) (H : Heap) (locs : List Loc) (ls : Array Slot), XV ca x0 tm w → MV ca m0 tm v → va_P D vwCl (ap w v) H → va_D A (ap w v) → va_S A s.heap H locs → lv_has ls 4 [(3, .int (nI i)), (2, .ref m0), (1, .ref x0), (0, .ref b)] → W p l e room_1 s m #[Value.ref b] below meth c H locs 212 50162 Q (F0 m 930 ls [])) : W p l e room_1 s m #[Value.ref b] below meth c H locs 212 50162 Q (F0 m 710 ls []) := by
  obtain ⟨hx, hb, hr, hml, hown, hts, hX, hbl, hlocks, hgv⟩ := id C0
  refine lv_aload_n hx hb dL_law_710 rfl (lv_at hl 2 rfl) ?_
  refine lx_check l C0 hC hA hK hIx  hl hP hD hS (fun r_1 w H locs hIx hP hD hS => ?_)
  refine lv_pop hx hb dL_law_714 rfl ?_
  refine lv_aload_n hx hb dL_law_715 rfl (lv_at hl 1 rfl) ?_
  refine lm_check l C0 hC hA hIm  hl (hP.perm List.perm_append_comm) (hD.perm List.perm_append_comm) hS (fun r_2 v H locs hIm hP hD hS => ?_)
  have hP := hP.perm List.perm_append_comm
  have hD := hD.perm List.perm_append_comm
  refine lv_pop hx hb dL_law_719 rfl ?_
  refine lv_goto (tgt := 930) hx hb dL_law_720 (by decide +kernel) ?_
  exact kk _ _ _ H locs ls hIx hIm hP hD hS hl
set_option maxHeartbeats 4000000 in
set_option maxRecDepth 100000 in
theorem law_c21 {p : Program} {e : Env} {s : State} {m : MethodId} {below : List Frame} {meth : Method} {c : Code} (l : Launch) {b L : Nat} {xs : Nat → Int32} (C0 : lw_At p s m meth c b L xs) {D : va_G} {ca : Nat → ClassId} (hC : Cx D ca s) {A : Nat → Prop} (hA : ∀ q : Nat, s.heap.size ≤ q → A q) (hbA : ¬ A b) {K : (Nat × Nat × Option Nat) × (Nat → Int32)} (hK : SK K A s s.heap) {x0 m0 : Nat} {tm : Int32} {w v : va_W} (hIx : XV ca x0 tm w) (hIm : MV ca m0 tm v) {i : Nat} (hi : i + 6 ≤ L) (hL : L ≤ 3072) {H : Heap} {locs : List Loc} {ls : Array Slot} {Q : State → Prop} (hP : va_P D vwCl (ap w v) H) (hD : va_D A (ap w v)) (hS : va_S A s.heap H locs) (hl : lv_has ls 4 [(3, .int (nI i)), (2, .ref m0), (1, .ref x0), (0, .ref b)]) (kk : ∀ (tm : Int32) (w v : va_W) (H : Heap) (locs : List Loc) (ls : Array Slot), XV ca x0 tm w → MV ca m0 tm v → va_P D vwCl (ap w v) H → va_D A (ap w v) → va_S A s.heap H locs → lv_has ls 4 [(3, .int (nI i)), (2, .ref m0), (1, .ref x0), (0, .ref b)] → W p l e room_1 s m #[Value.ref b] below meth c H locs 212 50162 Q (F0 m 930 ls [])) : W p l e room_1 s m #[Value.ref b] below meth c H locs 212 50162 Q (F0 m 723 ls []) := by
  obtain ⟨hx, hb, hr, hml, hown, hts, hX, hbl, hlocks, hgv⟩ := id C0
  refine lv_aload_n hx hb dL_law_723 rfl (lv_at hl 2 rfl) ?_
  refine lv_aload_n hx hb dL_law_724 rfl (lv_at hl 3 rfl) ?_
  refine lv_iload_n hx hb dL_law_725 rfl (lv_at hl 0 rfl) ?_
  refine lv_iconst (v := 1) hx hb dL_law_726 (by decide +kernel) ?_
  refine lv_iadd hx hb dL_law_727 ?_
  refine nt_i (nI (i + 1)) (nI_add i 1) ?_
  refine va_sld hx hb hX hbl hbA hS (vp_in_nI (n := (i + 1)) (by omega) (by omega)) dL_law_728 ?_
  refine nt_i (xs (i + 1)) (congrArg xs (nI_clamp (by omega))) ?_
  refine lv_aload_n hx hb dL_law_729 rfl (lv_at hl 3 rfl) ?_
  refine lv_iload_n hx hb dL_law_730 rfl (lv_at hl 0 rfl) ?_
  refine lv_iconst (v := 2) hx hb dL_law_731 (by decide +kernel) ?_
  refine lv_iadd hx hb dL_law_732 ?_
  refine nt_i (nI (i + 2)) (nI_add i 2) ?_
  refine va_sld hx hb hX hbl hbA hS (vp_in_nI (n := (i + 2)) (by omega) (by omega)) dL_law_733 ?_
  refine nt_i (xs (i + 2)) (congrArg xs (nI_clamp (by omega))) ?_
  refine lv_aload_n hx hb dL_law_734 rfl (lv_at hl 3 rfl) ?_
  refine lv_iload_n hx hb dL_law_735 rfl (lv_at hl 0 rfl) ?_
  refine lv_iconst (v := 3) hx hb dL_law_736 (by decide +kernel) ?_
  refine lv_iadd hx hb dL_law_737 ?_
  refine nt_i (nI (i + 3)) (nI_add i 3) ?_
  refine va_sld hx hb hX hbl hbA hS (vp_in_nI (n := (i + 3)) (by omega) (by omega)) dL_law_738 ?_
  refine nt_i (xs (i + 3)) (congrArg xs (nI_clamp (by omega))) ?_
  refine lv_if_eq (tgt := 746) hx hb dL_law_739 (by decide +kernel) (fun c_1 => ?_) (fun c_1 => ?_)
  · refine lv_iconst (v := 0) hx hb dL_law_746 (by decide +kernel) ?_
    refine lx_sight l C0 hC hA hK hIx (xs (i + 1)) (xs (i + 2)) 0 hl hP hD hS (fun r_2 w H locs hIx hP hD hS => ?_)
    refine lv_pop hx hb dL_law_750 rfl ?_
    refine lv_aload_n hx hb dL_law_751 rfl (lv_at hl 1 rfl) ?_
    refine lv_aload_n hx hb dL_law_752 rfl (lv_at hl 3 rfl) ?_
    refine lv_iload_n hx hb dL_law_753 rfl (lv_at hl 0 rfl) ?_
    refine lv_iconst (v := 1) hx hb dL_law_754 (by decide +kernel) ?_
    refine lv_iadd hx hb dL_law_755 ?_
    refine nt_i (nI (i + 1)) (nI_add i 1) ?_
    refine va_sld hx hb hX hbl hbA hS (vp_in_nI (n := (i + 1)) (by omega) (by omega)) dL_law_756 ?_
    refine nt_i (xs (i + 1)) (congrArg xs (nI_clamp (by omega))) ?_
    refine lv_aload_n hx hb dL_law_757 rfl (lv_at hl 3 rfl) ?_
    refine lv_iload_n hx hb dL_law_758 rfl (lv_at hl 0 rfl) ?_
    refine lv_iconst (v := 2) hx hb dL_law_759 (by decide +kernel) ?_
    refine lv_iadd hx hb dL_law_760 ?_
    refine nt_i (nI (i + 2)) (nI_add i 2) ?_
    refine va_sld hx hb hX hbl hbA hS (vp_in_nI (n := (i + 2)) (by omega) (by omega)) dL_law_761 ?_
    refine nt_i (xs (i + 2)) (congrArg xs (nI_clamp (by omega))) ?_
    refine lv_aload_n hx hb dL_law_762 rfl (lv_at hl 3 rfl) ?_
    refine lv_iload_n hx hb dL_law_763 rfl (lv_at hl 0 rfl) ?_
    refine lv_iconst (v := 3) hx hb dL_law_764 (by decide +kernel) ?_
    refine lv_iadd hx hb dL_law_765 ?_
    refine nt_i (nI (i + 3)) (nI_add i 3) ?_
    refine va_sld hx hb hX hbl hbA hS (vp_in_nI (n := (i + 3)) (by omega) (by omega)) dL_law_766 ?_
    refine nt_i (xs (i + 3)) (congrArg xs (nI_clamp (by omega))) ?_
    refine lv_if_eq (tgt := 774) hx hb dL_law_767 (by decide +kernel) (fun c_3 => ?_) (fun c_3 => absurd c_1 c_3)
    refine lv_iconst (v := 0) hx hb dL_law_774 (by decide +kernel) ?_
    refine lm_sight l C0 hC hA hIm (xs (i + 1)) (xs (i + 2)) 0 hl (hP.perm List.perm_append_comm) (hD.perm List.perm_append_comm) hS (fun r_4 v H locs hIm hP hD hS => ?_)
    have hP := hP.perm List.perm_append_comm
    have hD := hD.perm List.perm_append_comm
    refine lv_pop hx hb dL_law_778 rfl ?_
    refine lv_goto (tgt := 930) hx hb dL_law_779 (by decide +kernel) ?_
    exact kk _ _ _ H locs ls hIx hIm hP hD hS hl
  · refine lv_iconst (v := 1) hx hb dL_law_742 (by decide +kernel) ?_
    refine lv_goto (tgt := 747) hx hb dL_law_743 (by decide +kernel) ?_
    refine lx_sight l C0 hC hA hK hIx (xs (i + 1)) (xs (i + 2)) 1 hl hP hD hS (fun r_5 w H locs hIx hP hD hS => ?_)
    refine lv_pop hx hb dL_law_750 rfl ?_
    refine lv_aload_n hx hb dL_law_751 rfl (lv_at hl 1 rfl) ?_
    refine lv_aload_n hx hb dL_law_752 rfl (lv_at hl 3 rfl) ?_
    refine lv_iload_n hx hb dL_law_753 rfl (lv_at hl 0 rfl) ?_
    refine lv_iconst (v := 1) hx hb dL_law_754 (by decide +kernel) ?_
    refine lv_iadd hx hb dL_law_755 ?_
    refine nt_i (nI (i + 1)) (nI_add i 1) ?_
    refine va_sld hx hb hX hbl hbA hS (vp_in_nI (n := (i + 1)) (by omega) (by omega)) dL_law_756 ?_
    refine nt_i (xs (i + 1)) (congrArg xs (nI_clamp (by omega))) ?_
    refine lv_aload_n hx hb dL_law_757 rfl (lv_at hl 3 rfl) ?_
    refine lv_iload_n hx hb dL_law_758 rfl (lv_at hl 0 rfl) ?_
    refine lv_iconst (v := 2) hx hb dL_law_759 (by decide +kernel) ?_
    refine lv_iadd hx hb dL_law_760 ?_
    refine nt_i (nI (i + 2)) (nI_add i 2) ?_
    refine va_sld hx hb hX hbl hbA hS (vp_in_nI (n := (i + 2)) (by omega) (by omega)) dL_law_761 ?_
    refine nt_i (xs (i + 2)) (congrArg xs (nI_clamp (by omega))) ?_
    refine lv_aload_n hx hb dL_law_762 rfl (lv_at hl 3 rfl) ?_
    refine lv_iload_n hx hb dL_law_763 rfl (lv_at hl 0 rfl) ?_
    refine lv_iconst (v := 3) hx hb dL_law_764 (by decide +kernel) ?_
    refine lv_iadd hx hb dL_law_765 ?_
    refine nt_i (nI (i + 3)) (nI_add i 3) ?_
    refine va_sld hx hb hX hbl hbA hS (vp_in_nI (n := (i + 3)) (by omega) (by omega)) dL_law_766 ?_
    refine nt_i (xs (i + 3)) (congrArg xs (nI_clamp (by omega))) ?_
    refine lv_if_eq (tgt := 774) hx hb dL_law_767 (by decide +kernel) (fun c_6 => absurd c_6 c_1) (fun c_6 => ?_)
    refine lv_iconst (v := 1) hx hb dL_law_770 (by decide +kernel) ?_
    refine lv_goto (tgt := 775) hx hb dL_law_771 (by decide +kernel) ?_
    refine lm_sight l C0 hC hA hIm (xs (i + 1)) (xs (i + 2)) 1 hl (hP.perm List.perm_append_comm) (hD.perm List.perm_append_comm) hS (fun r_7 v H locs hIm hP hD hS => ?_)
    have hP := hP.perm List.perm_append_comm
    have hD := hD.perm List.perm_append_comm
    refine lv_pop hx hb dL_law_778 rfl ?_
    refine lv_goto (tgt := 930) hx hb dL_law_779 (by decide +kernel) ?_
    exact kk _ _ _ H locs ls hIx hIm hP hD hS hl
set_option maxHeartbeats 4000000 in
set_option maxRecDepth 100000 in
theorem law_c22 {p : Program} {e : Env} {s : State} {m : MethodId} {below : List Frame} {meth : Method} {c : Code} (l : Launch) {b L : Nat} {xs : Nat → Int32} (C0 : lw_At p s m meth c b L xs) {D : va_G} {ca : Nat → ClassId} (hC : Cx D ca s) {A : Nat → Prop} (hA : ∀ q : Nat, s.heap.size ≤ q → A q) (hbA : ¬ A b) {K : (Nat × Nat × Option Nat) × (Nat → Int32)} (hK : SK K A s s.heap) {x0 m0 : Nat} {tm : Int32} {w v : va_W} (hIx : XV ca x0 tm w) (hIm : MV ca m0 tm v) {i : Nat} (hi : i + 6 ≤ L) (hL : L ≤ 3072) {H : Heap} {locs : List Loc} {ls : Array Slot} {Q : State → Prop} (hP : va_P D vwCl (ap w v) H) (hD : va_D A (ap w v)) (hS : va_S A s.heap H locs) (hl : lv_has ls 4 [(3, .int (nI i)), (2, .ref m0), (1, .ref x0), (0, .ref b)]) (kk : ∀ (tm : Int32) (w v : va_W) (H : Heap) (locs : List Loc) (ls : Array Slot), XV ca x0 tm w → MV ca m0 tm v → va_P D vwCl (ap w v) H → va_D A (ap w v) → va_S A s.heap H locs → lv_has ls 4 [(3, .int (nI i)), (2, .ref m0), (1, .ref x0), (0, .ref b)] → W p l e room_1 s m #[Value.ref b] below meth c H locs 212 50162 Q (F0 m 930 ls [])) : W p l e room_1 s m #[Value.ref b] below meth c H locs 212 50162 Q (F0 m 782 ls []) := by
  obtain ⟨hx, hb, hr, hml, hown, hts, hX, hbl, hlocks, hgv⟩ := id C0
  refine lv_aload_n hx hb dL_law_782 rfl (lv_at hl 2 rfl) ?_
  refine lv_aload_n hx hb dL_law_783 rfl (lv_at hl 3 rfl) ?_
  refine lv_iload_n hx hb dL_law_784 rfl (lv_at hl 0 rfl) ?_
  refine lv_iconst (v := 1) hx hb dL_law_785 (by decide +kernel) ?_
  refine lv_iadd hx hb dL_law_786 ?_
  refine nt_i (nI (i + 1)) (nI_add i 1) ?_
  refine va_sld hx hb hX hbl hbA hS (vp_in_nI (n := (i + 1)) (by omega) (by omega)) dL_law_787 ?_
  refine nt_i (xs (i + 1)) (congrArg xs (nI_clamp (by omega))) ?_
  refine lx_untell l C0 hC hA hK hIx (xs (i + 1)) hl hP hD hS (fun r_1 w H locs hIx hP hD hS => ?_)
  refine lv_pop hx hb dL_law_791 rfl ?_
  refine lv_aload_n hx hb dL_law_792 rfl (lv_at hl 1 rfl) ?_
  refine lv_aload_n hx hb dL_law_793 rfl (lv_at hl 3 rfl) ?_
  refine lv_iload_n hx hb dL_law_794 rfl (lv_at hl 0 rfl) ?_
  refine lv_iconst (v := 1) hx hb dL_law_795 (by decide +kernel) ?_
  refine lv_iadd hx hb dL_law_796 ?_
  refine nt_i (nI (i + 1)) (nI_add i 1) ?_
  refine va_sld hx hb hX hbl hbA hS (vp_in_nI (n := (i + 1)) (by omega) (by omega)) dL_law_797 ?_
  refine nt_i (xs (i + 1)) (congrArg xs (nI_clamp (by omega))) ?_
  refine lm_untell l C0 hC hA hIm (xs (i + 1)) hl (hP.perm List.perm_append_comm) (hD.perm List.perm_append_comm) hS (fun r_2 v H locs hIm hP hD hS => ?_)
  have hP := hP.perm List.perm_append_comm
  have hD := hD.perm List.perm_append_comm
  refine lv_pop hx hb dL_law_801 rfl ?_
  refine lv_goto (tgt := 930) hx hb dL_law_802 (by decide +kernel) ?_
  exact kk _ _ _ H locs ls hIx hIm hP hD hS hl
set_option maxHeartbeats 4000000 in
set_option maxRecDepth 100000 in
theorem law_c23 {p : Program} {e : Env} {s : State} {m : MethodId} {below : List Frame} {meth : Method} {c : Code} (l : Launch) {b L : Nat} {xs : Nat → Int32} (C0 : lw_At p s m meth c b L xs) {D : va_G} {ca : Nat → ClassId} (hC : Cx D ca s) {A : Nat → Prop} (hA : ∀ q : Nat, s.heap.size ≤ q → A q) (hbA : ¬ A b) {K : (Nat × Nat × Option Nat) × (Nat → Int32)} (hK : SK K A s s.heap) {x0 m0 : Nat} {tm : Int32} {w v : va_W} (hIx : XV ca x0 tm w) (hIm : MV ca m0 tm v) {i : Nat} (hi : i + 6 ≤ L) (hL : L ≤ 3072) {H : Heap} {locs : List Loc} {ls : Array Slot} {Q : State → Prop} (hP : va_P D vwCl (ap w v) H) (hD : va_D A (ap w v)) (hS : va_S A s.heap H locs) (hl : lv_has ls 4 [(3, .int (nI i)), (2, .ref m0), (1, .ref x0), (0, .ref b)]) (kk : ∀ (tm : Int32) (w v : va_W) (H : Heap) (locs : List Loc) (ls : Array Slot), XV ca x0 tm w → MV ca m0 tm v → va_P D vwCl (ap w v) H → va_D A (ap w v) → va_S A s.heap H locs → lv_has ls 4 [(3, .int (nI i)), (2, .ref m0), (1, .ref x0), (0, .ref b)] → W p l e room_1 s m #[Value.ref b] below meth c H locs 212 50162 Q (F0 m 930 ls [])) : W p l e room_1 s m #[Value.ref b] below meth c H locs 212 50162 Q (F0 m 805 ls []) := by
  obtain ⟨hx, hb, hr, hml, hown, hts, hX, hbl, hlocks, hgv⟩ := id C0
  refine lv_aload_n hx hb dL_law_805 rfl (lv_at hl 2 rfl) ?_
  refine lv_aload_n hx hb dL_law_806 rfl (lv_at hl 3 rfl) ?_
  refine lv_iload_n hx hb dL_law_807 rfl (lv_at hl 0 rfl) ?_
  refine lv_iconst (v := 1) hx hb dL_law_808 (by decide +kernel) ?_
  refine lv_iadd hx hb dL_law_809 ?_
  refine nt_i (nI (i + 1)) (nI_add i 1) ?_
  refine va_sld hx hb hX hbl hbA hS (vp_in_nI (n := (i + 1)) (by omega) (by omega)) dL_law_810 ?_
  refine nt_i (xs (i + 1)) (congrArg xs (nI_clamp (by omega))) ?_
  refine lx_later l C0 hC hA hK hIx (xs (i + 1)) hl hP hD hS (fun r_1 w H locs er_2 hIx hP hD hS => ?_)
  refine lv_aload_n hx hb dL_law_814 rfl (lv_at hl 1 rfl) ?_
  refine lv_aload_n hx hb dL_law_815 rfl (lv_at hl 3 rfl) ?_
  refine lv_iload_n hx hb dL_law_816 rfl (lv_at hl 0 rfl) ?_
  refine lv_iconst (v := 1) hx hb dL_law_817 (by decide +kernel) ?_
  refine lv_iadd hx hb dL_law_818 ?_
  refine nt_i (nI (i + 1)) (nI_add i 1) ?_
  refine va_sld hx hb hX hbl hbA hS (vp_in_nI (n := (i + 1)) (by omega) (by omega)) dL_law_819 ?_
  refine nt_i (xs (i + 1)) (congrArg xs (nI_clamp (by omega))) ?_
  refine lm_later l C0 hC hA r_1 hIm (xs (i + 1)) hl (hP.perm List.perm_append_comm) (hD.perm List.perm_append_comm) hS (fun r_3 v H locs er_4 hIm hP hD hS => ?_)
  have hP := hP.perm List.perm_append_comm
  have hD := hD.perm List.perm_append_comm
  refine lv_icmp_eq (tgt := 930) hx hb dL_law_823 (by decide +kernel) (fun _ => ?_) (fun c => absurd (er_2.trans er_4.symm) c)
  exact kk _ _ _ H locs ls hIx hIm hP hD hS hl
set_option maxHeartbeats 4000000 in
set_option maxRecDepth 100000 in
theorem law_c24 {p : Program} {e : Env} {s : State} {m : MethodId} {below : List Frame} {meth : Method} {c : Code} (l : Launch) {b L : Nat} {xs : Nat → Int32} (C0 : lw_At p s m meth c b L xs) {D : va_G} {ca : Nat → ClassId} (hC : Cx D ca s) {A : Nat → Prop} (hA : ∀ q : Nat, s.heap.size ≤ q → A q) (hbA : ¬ A b) {K : (Nat × Nat × Option Nat) × (Nat → Int32)} (hK : SK K A s s.heap) {x0 m0 : Nat} {tm : Int32} {w v : va_W} (hIx : XV ca x0 tm w) (hIm : MV ca m0 tm v) {i : Nat} (hi : i + 6 ≤ L) (hL : L ≤ 3072) {H : Heap} {locs : List Loc} {ls : Array Slot} {Q : State → Prop} (hP : va_P D vwCl (ap w v) H) (hD : va_D A (ap w v)) (hS : va_S A s.heap H locs) (hl : lv_has ls 4 [(3, .int (nI i)), (2, .ref m0), (1, .ref x0), (0, .ref b)]) (kk : ∀ (tm : Int32) (w v : va_W) (H : Heap) (locs : List Loc) (ls : Array Slot), XV ca x0 tm w → MV ca m0 tm v → va_P D vwCl (ap w v) H → va_D A (ap w v) → va_S A s.heap H locs → lv_has ls 4 [(3, .int (nI i)), (2, .ref m0), (1, .ref x0), (0, .ref b)] → W p l e room_1 s m #[Value.ref b] below meth c H locs 212 50162 Q (F0 m 930 ls [])) : W p l e room_1 s m #[Value.ref b] below meth c H locs 212 50162 Q (F0 m 828 ls []) := by
  obtain ⟨hx, hb, hr, hml, hown, hts, hX, hbl, hlocks, hgv⟩ := id C0
  refine lv_aload_n hx hb dL_law_828 rfl (lv_at hl 2 rfl) ?_
  refine lv_aload_n hx hb dL_law_829 rfl (lv_at hl 3 rfl) ?_
  refine lv_iload_n hx hb dL_law_830 rfl (lv_at hl 0 rfl) ?_
  refine lv_iconst (v := 1) hx hb dL_law_831 (by decide +kernel) ?_
  refine lv_iadd hx hb dL_law_832 ?_
  refine nt_i (nI (i + 1)) (nI_add i 1) ?_
  refine va_sld hx hb hX hbl hbA hS (vp_in_nI (n := (i + 1)) (by omega) (by omega)) dL_law_833 ?_
  refine nt_i (xs (i + 1)) (congrArg xs (nI_clamp (by omega))) ?_
  refine lv_aload_n hx hb dL_law_834 rfl (lv_at hl 3 rfl) ?_
  refine lv_iload_n hx hb dL_law_835 rfl (lv_at hl 0 rfl) ?_
  refine lv_iconst (v := 2) hx hb dL_law_836 (by decide +kernel) ?_
  refine lv_iadd hx hb dL_law_837 ?_
  refine nt_i (nI (i + 2)) (nI_add i 2) ?_
  refine va_sld hx hb hX hbl hbA hS (vp_in_nI (n := (i + 2)) (by omega) (by omega)) dL_law_838 ?_
  refine nt_i (xs (i + 2)) (congrArg xs (nI_clamp (by omega))) ?_
  refine lx_fits l C0 hC hA hK hIx (xs (i + 1)) (xs (i + 2)) hl hP hD hS (fun r_1 w H locs hIx hP hD hS => ?_)
  refine lv_pop2_2 hx hb dL_law_842 rfl ?_
  refine lv_aload_n hx hb dL_law_843 rfl (lv_at hl 1 rfl) ?_
  refine lv_aload_n hx hb dL_law_844 rfl (lv_at hl 3 rfl) ?_
  refine lv_iload_n hx hb dL_law_845 rfl (lv_at hl 0 rfl) ?_
  refine lv_iconst (v := 1) hx hb dL_law_846 (by decide +kernel) ?_
  refine lv_iadd hx hb dL_law_847 ?_
  refine nt_i (nI (i + 1)) (nI_add i 1) ?_
  refine va_sld hx hb hX hbl hbA hS (vp_in_nI (n := (i + 1)) (by omega) (by omega)) dL_law_848 ?_
  refine nt_i (xs (i + 1)) (congrArg xs (nI_clamp (by omega))) ?_
  refine lv_aload_n hx hb dL_law_849 rfl (lv_at hl 3 rfl) ?_
  refine lv_iload_n hx hb dL_law_850 rfl (lv_at hl 0 rfl) ?_
  refine lv_iconst (v := 2) hx hb dL_law_851 (by decide +kernel) ?_
  refine lv_iadd hx hb dL_law_852 ?_
  refine nt_i (nI (i + 2)) (nI_add i 2) ?_
  refine va_sld hx hb hX hbl hbA hS (vp_in_nI (n := (i + 2)) (by omega) (by omega)) dL_law_853 ?_
  refine nt_i (xs (i + 2)) (congrArg xs (nI_clamp (by omega))) ?_
  refine lm_fits l C0 hC hA hIm (xs (i + 1)) (xs (i + 2)) hl (hP.perm List.perm_append_comm) (hD.perm List.perm_append_comm) hS (fun r_2 v H locs hIm hP hD hS => ?_)
  have hP := hP.perm List.perm_append_comm
  have hD := hD.perm List.perm_append_comm
  refine lv_pop2_2 hx hb dL_law_857 rfl ?_
  refine lv_goto (tgt := 930) hx hb dL_law_858 (by decide +kernel) ?_
  exact kk _ _ _ H locs ls hIx hIm hP hD hS hl
set_option maxHeartbeats 4000000 in
set_option maxRecDepth 100000 in
theorem law_c25 {p : Program} {e : Env} {s : State} {m : MethodId} {below : List Frame} {meth : Method} {c : Code} (l : Launch) {b L : Nat} {xs : Nat → Int32} (C0 : lw_At p s m meth c b L xs) {D : va_G} {ca : Nat → ClassId} (hC : Cx D ca s) {A : Nat → Prop} (hA : ∀ q : Nat, s.heap.size ≤ q → A q) (hbA : ¬ A b) {K : (Nat × Nat × Option Nat) × (Nat → Int32)} (hK : SK K A s s.heap) {x0 m0 : Nat} {tm : Int32} {w v : va_W} (hIx : XV ca x0 tm w) (hIm : MV ca m0 tm v) {i : Nat} (hi : i + 6 ≤ L) (hL : L ≤ 3072) {H : Heap} {locs : List Loc} {ls : Array Slot} {Q : State → Prop} (hP : va_P D vwCl (ap w v) H) (hD : va_D A (ap w v)) (hS : va_S A s.heap H locs) (hl : lv_has ls 4 [(3, .int (nI i)), (2, .ref m0), (1, .ref x0), (0, .ref b)]) (kk : ∀ (tm : Int32) (w v : va_W) (H : Heap) (locs : List Loc) (ls : Array Slot), XV ca x0 tm w → MV ca m0 tm v → va_P D vwCl (ap w v) H → va_D A (ap w v) → va_S A s.heap H locs → lv_has ls 4 [(3, .int (nI i)), (2, .ref m0), (1, .ref x0), (0, .ref b)] → W p l e room_1 s m #[Value.ref b] below meth c H locs 212 50162 Q (F0 m 930 ls [])) : W p l e room_1 s m #[Value.ref b] below meth c H locs 212 50162 Q (F0 m 861 ls []) := by
  obtain ⟨hx, hb, hr, hml, hown, hts, hX, hbl, hlocks, hgv⟩ := id C0
  refine lv_aload_n hx hb dL_law_861 rfl (lv_at hl 2 rfl) ?_
  refine lv_aload_n hx hb dL_law_862 rfl (lv_at hl 3 rfl) ?_
  refine lv_iload_n hx hb dL_law_863 rfl (lv_at hl 0 rfl) ?_
  refine lv_iconst (v := 1) hx hb dL_law_864 (by decide +kernel) ?_
  refine lv_iadd hx hb dL_law_865 ?_
  refine nt_i (nI (i + 1)) (nI_add i 1) ?_
  refine va_sld hx hb hX hbl hbA hS (vp_in_nI (n := (i + 1)) (by omega) (by omega)) dL_law_866 ?_
  refine nt_i (xs (i + 1)) (congrArg xs (nI_clamp (by omega))) ?_
  refine lx_image l C0 hC hA hK hIx (xs (i + 1)) hl hP hD hS (fun r_1 w H locs hIx hP hD hS => ?_)
  refine lv_pop hx hb dL_law_870 rfl ?_
  refine lv_aload_n hx hb dL_law_871 rfl (lv_at hl 1 rfl) ?_
  refine lv_aload_n hx hb dL_law_872 rfl (lv_at hl 3 rfl) ?_
  refine lv_iload_n hx hb dL_law_873 rfl (lv_at hl 0 rfl) ?_
  refine lv_iconst (v := 1) hx hb dL_law_874 (by decide +kernel) ?_
  refine lv_iadd hx hb dL_law_875 ?_
  refine nt_i (nI (i + 1)) (nI_add i 1) ?_
  refine va_sld hx hb hX hbl hbA hS (vp_in_nI (n := (i + 1)) (by omega) (by omega)) dL_law_876 ?_
  refine nt_i (xs (i + 1)) (congrArg xs (nI_clamp (by omega))) ?_
  refine lm_image l C0 hC hA hIm (xs (i + 1)) hl (hP.perm List.perm_append_comm) (hD.perm List.perm_append_comm) hS (fun r_2 v H locs hIm hP hD hS => ?_)
  have hP := hP.perm List.perm_append_comm
  have hD := hD.perm List.perm_append_comm
  refine lv_pop hx hb dL_law_880 rfl ?_
  refine lv_goto (tgt := 930) hx hb dL_law_881 (by decide +kernel) ?_
  exact kk _ _ _ H locs ls hIx hIm hP hD hS hl
set_option maxHeartbeats 4000000 in
set_option maxRecDepth 100000 in
theorem law_c26 {p : Program} {e : Env} {s : State} {m : MethodId} {below : List Frame} {meth : Method} {c : Code} (l : Launch) {b L : Nat} {xs : Nat → Int32} (C0 : lw_At p s m meth c b L xs) {D : va_G} {ca : Nat → ClassId} (hC : Cx D ca s) {A : Nat → Prop} (hA : ∀ q : Nat, s.heap.size ≤ q → A q) (hbA : ¬ A b) {K : (Nat × Nat × Option Nat) × (Nat → Int32)} (hK : SK K A s s.heap) {x0 m0 : Nat} {tm : Int32} {w v : va_W} (hIx : XV ca x0 tm w) (hIm : MV ca m0 tm v) {i : Nat} (hi : i + 6 ≤ L) (hL : L ≤ 3072) {H : Heap} {locs : List Loc} {ls : Array Slot} {Q : State → Prop} (hP : va_P D vwCl (ap w v) H) (hD : va_D A (ap w v)) (hS : va_S A s.heap H locs) (hl : lv_has ls 4 [(3, .int (nI i)), (2, .ref m0), (1, .ref x0), (0, .ref b)]) (kk : ∀ (tm : Int32) (w v : va_W) (H : Heap) (locs : List Loc) (ls : Array Slot), XV ca x0 tm w → MV ca m0 tm v → va_P D vwCl (ap w v) H → va_D A (ap w v) → va_S A s.heap H locs → lv_has ls 4 [(3, .int (nI i)), (2, .ref m0), (1, .ref x0), (0, .ref b)] → W p l e room_1 s m #[Value.ref b] below meth c H locs 212 50162 Q (F0 m 930 ls [])) : W p l e room_1 s m #[Value.ref b] below meth c H locs 212 50162 Q (F0 m 884 ls []) := by
  obtain ⟨hx, hb, hr, hml, hown, hts, hX, hbl, hlocks, hgv⟩ := id C0
  refine lv_aload_n hx hb dL_law_884 rfl (lv_at hl 2 rfl) ?_
  refine lv_aload_n hx hb dL_law_885 rfl (lv_at hl 3 rfl) ?_
  refine lv_iload_n hx hb dL_law_886 rfl (lv_at hl 0 rfl) ?_
  refine lv_iconst (v := 1) hx hb dL_law_887 (by decide +kernel) ?_
  refine lv_iadd hx hb dL_law_888 ?_
  refine nt_i (nI (i + 1)) (nI_add i 1) ?_
  refine va_sld hx hb hX hbl hbA hS (vp_in_nI (n := (i + 1)) (by omega) (by omega)) dL_law_889 ?_
  refine nt_i (xs (i + 1)) (congrArg xs (nI_clamp (by omega))) ?_
  refine lx_back l C0 hC hA hK hIx (xs (i + 1)) hl hP hD hS (fun r_1 w H locs hIx hP hD hS => ?_)
  refine lv_pop hx hb dL_law_893 rfl ?_
  refine lv_aload_n hx hb dL_law_894 rfl (lv_at hl 1 rfl) ?_
  refine lv_aload_n hx hb dL_law_895 rfl (lv_at hl 3 rfl) ?_
  refine lv_iload_n hx hb dL_law_896 rfl (lv_at hl 0 rfl) ?_
  refine lv_iconst (v := 1) hx hb dL_law_897 (by decide +kernel) ?_
  refine lv_iadd hx hb dL_law_898 ?_
  refine nt_i (nI (i + 1)) (nI_add i 1) ?_
  refine va_sld hx hb hX hbl hbA hS (vp_in_nI (n := (i + 1)) (by omega) (by omega)) dL_law_899 ?_
  refine nt_i (xs (i + 1)) (congrArg xs (nI_clamp (by omega))) ?_
  refine lm_back l C0 hC hA hIm (xs (i + 1)) hl (hP.perm List.perm_append_comm) (hD.perm List.perm_append_comm) hS (fun r_2 v H locs hIm hP hD hS => ?_)
  have hP := hP.perm List.perm_append_comm
  have hD := hD.perm List.perm_append_comm
  refine lv_pop hx hb dL_law_903 rfl ?_
  refine lv_goto (tgt := 930) hx hb dL_law_904 (by decide +kernel) ?_
  exact kk _ _ _ H locs ls hIx hIm hP hD hS hl
set_option maxHeartbeats 4000000 in
set_option maxRecDepth 100000 in
theorem law_c27 {p : Program} {e : Env} {s : State} {m : MethodId} {below : List Frame} {meth : Method} {c : Code} (l : Launch) {b L : Nat} {xs : Nat → Int32} (C0 : lw_At p s m meth c b L xs) {D : va_G} {ca : Nat → ClassId} (hC : Cx D ca s) {A : Nat → Prop} (hA : ∀ q : Nat, s.heap.size ≤ q → A q) (hbA : ¬ A b) {K : (Nat × Nat × Option Nat) × (Nat → Int32)} (hK : SK K A s s.heap) {x0 m0 : Nat} {tm : Int32} {w v : va_W} (hIx : XV ca x0 tm w) (hIm : MV ca m0 tm v) {i : Nat} (hi : i + 6 ≤ L) (hL : L ≤ 3072) {H : Heap} {locs : List Loc} {ls : Array Slot} {Q : State → Prop} (hP : va_P D vwCl (ap w v) H) (hD : va_D A (ap w v)) (hS : va_S A s.heap H locs) (hl : lv_has ls 4 [(3, .int (nI i)), (2, .ref m0), (1, .ref x0), (0, .ref b)]) (kk : ∀ (tm : Int32) (w v : va_W) (H : Heap) (locs : List Loc) (ls : Array Slot), XV ca x0 tm w → MV ca m0 tm v → va_P D vwCl (ap w v) H → va_D A (ap w v) → va_S A s.heap H locs → lv_has ls 4 [(3, .int (nI i)), (2, .ref m0), (1, .ref x0), (0, .ref b)] → W p l e room_1 s m #[Value.ref b] below meth c H locs 212 50162 Q (F0 m 930 ls [])) : W p l e room_1 s m #[Value.ref b] below meth c H locs 212 50162 Q (F0 m 907 ls []) := by
  obtain ⟨hx, hb, hr, hml, hown, hts, hX, hbl, hlocks, hgv⟩ := id C0
  refine lv_aload_n hx hb dL_law_907 rfl (lv_at hl 2 rfl) ?_
  refine lv_aload_n hx hb dL_law_908 rfl (lv_at hl 3 rfl) ?_
  refine lv_iload_n hx hb dL_law_909 rfl (lv_at hl 0 rfl) ?_
  refine lv_iconst (v := 1) hx hb dL_law_910 (by decide +kernel) ?_
  refine lv_iadd hx hb dL_law_911 ?_
  refine nt_i (nI (i + 1)) (nI_add i 1) ?_
  refine va_sld hx hb hX hbl hbA hS (vp_in_nI (n := (i + 1)) (by omega) (by omega)) dL_law_912 ?_
  refine nt_i (xs (i + 1)) (congrArg xs (nI_clamp (by omega))) ?_
  refine lx_about l C0 hC hA hK hIx (xs (i + 1)) hl hP hD hS (fun r_1 w H locs hIx hP hD hS => ?_)
  refine lv_pop hx hb dL_law_916 rfl ?_
  refine lv_aload_n hx hb dL_law_917 rfl (lv_at hl 1 rfl) ?_
  refine lv_aload_n hx hb dL_law_918 rfl (lv_at hl 3 rfl) ?_
  refine lv_iload_n hx hb dL_law_919 rfl (lv_at hl 0 rfl) ?_
  refine lv_iconst (v := 1) hx hb dL_law_920 (by decide +kernel) ?_
  refine lv_iadd hx hb dL_law_921 ?_
  refine nt_i (nI (i + 1)) (nI_add i 1) ?_
  refine va_sld hx hb hX hbl hbA hS (vp_in_nI (n := (i + 1)) (by omega) (by omega)) dL_law_922 ?_
  refine nt_i (xs (i + 1)) (congrArg xs (nI_clamp (by omega))) ?_
  refine lm_about l C0 hC hA hIm (xs (i + 1)) hl (hP.perm List.perm_append_comm) (hD.perm List.perm_append_comm) hS (fun r_2 v H locs hIm hP hD hS => ?_)
  have hP := hP.perm List.perm_append_comm
  have hD := hD.perm List.perm_append_comm
  refine lv_pop hx hb dL_law_926 rfl ?_
  refine lv_goto (tgt := 930) hx hb dL_law_927 (by decide +kernel) ?_
  exact kk _ _ _ H locs ls hIx hIm hP hD hS hl
