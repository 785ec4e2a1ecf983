section LAWCASES
variable {p : Program} {l : Launch} {e : Env} {s : State} {m : MethodId} {args : Array Value} {below : List Frame} {meth : Method} {c : Code} {H : Heap} {locs : List Loc} {cells slots : Nat} {Q : State → Prop}
variable {ls : Array Slot} {D : va_G} {cy : Nat → ClassId} {ad ad' : Nat → Nat} {u w : swU} {o b i L : Nat} {f : Nat → Int64} {xs : Nat → Int32}
set_option maxHeartbeats 1000000 in
set_option maxRecDepth 100000 in
theorem lw_k_branch (E : CallFix p m c cL_law 7 s args wsL_law RL) (hst : l.stackTraces = false) (hF : lwF s D cy ad ad' o) (hX : va_X b L xs s s.heap) (hbl : b < s.heap.size) (hL : L ≤ 3072) (hi : i + 6 ≤ L) (hcs : cells + 6 ≤ room_1.cells ∧ slots + 36 ≤ room_1.slots) (hI : lwI D cy ad ad' o u w f H) (hR : swRl u w) (hS : va_S (lwA s) s.heap H locs) (hl : lv_has ls 7 (lwL b o i ad ad'))
    (kk : ∀ (u w : swU) (f : Nat → Int64) (H : Heap) (locs : List Loc) (ls : Array Slot), lwI D cy ad ad' o u w f H → swRl u w → va_S (lwA s) s.heap H locs → lv_has ls 7 (lwL b o i ad ad') → W p l e room_1 s m args below meth c H locs (cells + 6) (slots + 36) Q (F0 m 1604 ls [])) : W p l e room_1 s m args below meth c H locs cells slots Q (F0 m 140 ls []) := by
  obtain ⟨k, f', u', r, w', eX, eM, ht, hr, hR'⟩ := xq_branch hR (xs (i + 1)) f
  have hx := E.1
  have hb := E.2.1
  have hts := E.2.2.2.2
  refine lv_aload_n hx hb dL_law_140 rfl (lv_at hl 3 rfl) ?_
  refine lw_arg (i := i) (k := 1) (ka := 4) (kb := 0) hx hb hX hbl hS hl rfl rfl (by omega) hL rfl dL_law_141 dL_law_142 dL_law_144 dL_law_145 dL_law_146 ?_
  refine lv_aload_n hx hb dL_law_147 rfl (lv_at hl 1 rfl) ?_
  refine lw_callL (As := [.ref (ad 0), .int (xs (i + 1)), .ref o]) (rest := []) E hF (xlm_branch l hst D cy ad hF.1 o hF.2.2.1 u (xs (i + 1)) f H.size k f' u' eX) (vx_cwSW 3 hts gL_law_L_branch rfl rfl rfl (by decide +kernel) ⟨Nat.le_of_ble_eq_true rfl, Nat.le_of_ble_eq_true rfl⟩) hI hS ⟨by omega, by omega⟩ rfl hl.1 rfl (Nat.le_of_ble_eq_true rfl) dL_law_148 (fun H locs hI hS => ?_)
  refine lv_istore (lv' := (5, .int k) :: lwL b o i ad ad') hx hb dL_law_151 hl (by decide) rfl (fun ls hl => ?_)
  refine lv_aload_n hx hb dL_law_153 rfl (lv_at hl 3 rfl) ?_
  refine lw_arg (i := i) (k := 1) (ka := 5) (kb := 1) hx hb hX hbl hS hl rfl rfl (by omega) hL rfl dL_law_154 dL_law_155 dL_law_157 dL_law_158 dL_law_159 ?_
  refine lw_callM (As := [.int (xs (i + 1))]) (rest := []) E hF (mm_branch l D cy ad' hF.2.1 w (xs (i + 1)) r w' eM) (cwV 1 hts gL_law_X6_branch rfl rfl rfl (by decide +kernel) ⟨Nat.le_of_ble_eq_true rfl, Nat.le_of_ble_eq_true rfl⟩) hI hS ⟨by omega, by omega⟩ rfl hl.1 rfl (Nat.le_of_ble_eq_true rfl) dL_law_160 (fun H locs hI hS => ?_)
  refine W.widen (k := cells + 6) (n := slots + 36) (by omega) (by omega) ?_
  exact lw_tail E hF hcs (off := 1411) ⟨dL_law_163, dL_law_165, dL_law_166, dL_law_169, dL_law_171, dL_law_176, dL_law_178, dL_law_181, dL_law_182, dL_law_183, dL_law_184, dL_law_186, dL_law_187, dL_law_188, dL_law_193⟩ (by decide) hI ht hr hl (fun ls hl => kk u' w' f' H locs ls hI hR' hS hl)
set_option maxHeartbeats 1000000 in
set_option maxRecDepth 100000 in
theorem lw_k_add (E : CallFix p m c cL_law 7 s args wsL_law RL) (hst : l.stackTraces = false) (hF : lwF s D cy ad ad' o) (hX : va_X b L xs s s.heap) (hbl : b < s.heap.size) (hL : L ≤ 3072) (hi : i + 6 ≤ L) (hcs : cells + 6 ≤ room_1.cells ∧ slots + 36 ≤ room_1.slots) (hI : lwI D cy ad ad' o u w f H) (hR : swRl u w) (hS : va_S (lwA s) s.heap H locs) (hl : lv_has ls 7 (lwL b o i ad ad'))
    (kk : ∀ (u w : swU) (f : Nat → Int64) (H : Heap) (locs : List Loc) (ls : Array Slot), lwI D cy ad ad' o u w f H → swRl u w → va_S (lwA s) s.heap H locs → lv_has ls 7 (lwL b o i ad ad') → W p l e room_1 s m args below meth c H locs (cells + 6) (slots + 36) Q (F0 m 1604 ls [])) : W p l e room_1 s m args below meth c H locs cells slots Q (F0 m 196 ls []) := by
  obtain ⟨k, f', u', r, w', eX, eM, ht, hr, hR'⟩ := xq_add hR (xs (i + 1)) (xs (i + 2)) f
  have hx := E.1
  have hb := E.2.1
  have hts := E.2.2.2.2
  refine lv_aload_n hx hb dL_law_196 rfl (lv_at hl 3 rfl) ?_
  refine lw_arg (i := i) (k := 1) (ka := 4) (kb := 0) hx hb hX hbl hS hl rfl rfl (by omega) hL rfl dL_law_197 dL_law_198 dL_law_200 dL_law_201 dL_law_202 ?_
  refine lw_arg (i := i) (k := 2) (ka := 4) (kb := 0) hx hb hX hbl hS hl rfl rfl (by omega) hL rfl dL_law_203 dL_law_204 dL_law_206 dL_law_207 dL_law_208 ?_
  refine lv_aload_n hx hb dL_law_209 rfl (lv_at hl 1 rfl) ?_
  refine lw_callL (As := [.ref (ad 0), .int (xs (i + 1)), .int (xs (i + 2)), .ref o]) (rest := []) E hF (xlm_add l hst D cy ad hF.1 o hF.2.2.1 u (xs (i + 1)) (xs (i + 2)) f H.size k f' u' eX) (vx_cwSW 4 hts gL_law_L_add rfl rfl rfl (by decide +kernel) ⟨Nat.le_of_ble_eq_true rfl, Nat.le_of_ble_eq_true rfl⟩) hI hS ⟨by omega, by omega⟩ rfl hl.1 rfl (Nat.le_of_ble_eq_true rfl) dL_law_210 (fun H locs hI hS => ?_)
  refine lv_istore (lv' := (5, .int k) :: lwL b o i ad ad') hx hb dL_law_213 hl (by decide) rfl (fun ls hl => ?_)
  refine lv_aload_n hx hb dL_law_215 rfl (lv_at hl 3 rfl) ?_
  refine lw_arg (i := i) (k := 1) (ka := 5) (kb := 1) hx hb hX hbl hS hl rfl rfl (by omega) hL rfl dL_law_216 dL_law_217 dL_law_219 dL_law_220 dL_law_221 ?_
  refine lw_arg (i := i) (k := 2) (ka := 5) (kb := 1) hx hb hX hbl hS hl rfl rfl (by omega) hL rfl dL_law_222 dL_law_223 dL_law_225 dL_law_226 dL_law_227 ?_
  refine lw_callM (As := [.int (xs (i + 1)), .int (xs (i + 2))]) (rest := []) E hF (mm_add l D cy ad' hF.2.1 w (xs (i + 1)) (xs (i + 2)) r w' eM) (cwV 2 hts gL_law_X6_add rfl rfl rfl (by decide +kernel) ⟨Nat.le_of_ble_eq_true rfl, Nat.le_of_ble_eq_true rfl⟩) hI hS ⟨by omega, by omega⟩ rfl hl.1 rfl (Nat.le_of_ble_eq_true rfl) dL_law_228 (fun H locs hI hS => ?_)
  refine W.widen (k := cells + 6) (n := slots + 36) (by omega) (by omega) ?_
  exact lw_tail E hF hcs (off := 1343) ⟨dL_law_231, dL_law_233, dL_law_234, dL_law_237, dL_law_239, dL_law_244, dL_law_246, dL_law_249, dL_law_250, dL_law_251, dL_law_252, dL_law_254, dL_law_255, dL_law_256, dL_law_261⟩ (by decide) hI ht hr hl (fun ls hl => kk u' w' f' H locs ls hI hR' hS hl)
set_option maxHeartbeats 1000000 in
set_option maxRecDepth 100000 in
theorem lw_k_set (E : CallFix p m c cL_law 7 s args wsL_law RL) (hst : l.stackTraces = false) (hF : lwF s D cy ad ad' o) (hX : va_X b L xs s s.heap) (hbl : b < s.heap.size) (hL : L ≤ 3072) (hi : i + 6 ≤ L) (hcs : cells + 6 ≤ room_1.cells ∧ slots + 36 ≤ room_1.slots) (hI : lwI D cy ad ad' o u w f H) (hR : swRl u w) (hS : va_S (lwA s) s.heap H locs) (hl : lv_has ls 7 (lwL b o i ad ad'))
    (kk : ∀ (u w : swU) (f : Nat → Int64) (H : Heap) (locs : List Loc) (ls : Array Slot), lwI D cy ad ad' o u w f H → swRl u w → va_S (lwA s) s.heap H locs → lv_has ls 7 (lwL b o i ad ad') → W p l e room_1 s m args below meth c H locs (cells + 6) (slots + 36) Q (F0 m 1604 ls [])) : W p l e room_1 s m args below meth c H locs cells slots Q (F0 m 264 ls []) := by
  obtain ⟨k, f', u', r, w', eX, eM, ht, hr, hR'⟩ := xq_set hR (xs (i + 1)) (xs (i + 2)) (xs (i + 3)) (xs (i + 4)) f
  have hx := E.1
  have hb := E.2.1
  have hts := E.2.2.2.2
  refine lv_aload_n hx hb dL_law_264 rfl (lv_at hl 3 rfl) ?_
  refine lw_arg (i := i) (k := 1) (ka := 4) (kb := 0) hx hb hX hbl hS hl rfl rfl (by omega) hL rfl dL_law_265 dL_law_266 dL_law_268 dL_law_269 dL_law_270 ?_
  refine lw_arg (i := i) (k := 2) (ka := 4) (kb := 0) hx hb hX hbl hS hl rfl rfl (by omega) hL rfl dL_law_271 dL_law_272 dL_law_274 dL_law_275 dL_law_276 ?_
  refine lw_arg (i := i) (k := 3) (ka := 4) (kb := 0) hx hb hX hbl hS hl rfl rfl (by omega) hL rfl dL_law_277 dL_law_278 dL_law_280 dL_law_281 dL_law_282 ?_
  refine lw_arg (i := i) (k := 4) (ka := 4) (kb := 0) hx hb hX hbl hS hl rfl rfl (by omega) hL rfl dL_law_283 dL_law_284 dL_law_286 dL_law_287 dL_law_288 ?_
  refine lv_aload_n hx hb dL_law_289 rfl (lv_at hl 1 rfl) ?_
  refine lw_callL (As := [.ref (ad 0), .int (xs (i + 1)), .int (xs (i + 2)), .int (xs (i + 3)), .int (xs (i + 4)), .ref o]) (rest := []) E hF (xlm_set l hst D cy ad hF.1 o hF.2.2.1 u (xs (i + 1)) (xs (i + 2)) (xs (i + 3)) (xs (i + 4)) f H.size k f' u' eX) (vx_cwSW 6 hts gL_law_L_set rfl rfl rfl (by decide +kernel) ⟨Nat.le_of_ble_eq_true rfl, Nat.le_of_ble_eq_true rfl⟩) hI hS ⟨by omega, by omega⟩ rfl hl.1 rfl (Nat.le_of_ble_eq_true rfl) dL_law_290 (fun H locs hI hS => ?_)
  refine lv_istore (lv' := (5, .int k) :: lwL b o i ad ad') hx hb dL_law_293 hl (by decide) rfl (fun ls hl => ?_)
  refine lv_aload_n hx hb dL_law_295 rfl (lv_at hl 3 rfl) ?_
  refine lw_arg (i := i) (k := 1) (ka := 5) (kb := 1) hx hb hX hbl hS hl rfl rfl (by omega) hL rfl dL_law_296 dL_law_297 dL_law_299 dL_law_300 dL_law_301 ?_
  refine lw_arg (i := i) (k := 2) (ka := 5) (kb := 1) hx hb hX hbl hS hl rfl rfl (by omega) hL rfl dL_law_302 dL_law_303 dL_law_305 dL_law_306 dL_law_307 ?_
  refine lw_arg (i := i) (k := 3) (ka := 5) (kb := 1) hx hb hX hbl hS hl rfl rfl (by omega) hL rfl dL_law_308 dL_law_309 dL_law_311 dL_law_312 dL_law_313 ?_
  refine lw_arg (i := i) (k := 4) (ka := 5) (kb := 1) hx hb hX hbl hS hl rfl rfl (by omega) hL rfl dL_law_314 dL_law_315 dL_law_317 dL_law_318 dL_law_319 ?_
  refine lw_callM (As := [.int (xs (i + 1)), .int (xs (i + 2)), .int (xs (i + 3)), .int (xs (i + 4))]) (rest := []) E hF (mm_set l D cy ad' hF.2.1 w (xs (i + 1)) (xs (i + 2)) (xs (i + 3)) (xs (i + 4)) r w' eM) (cwV 4 hts gL_law_X6_set rfl rfl rfl (by decide +kernel) ⟨Nat.le_of_ble_eq_true rfl, Nat.le_of_ble_eq_true rfl⟩) hI hS ⟨by omega, by omega⟩ rfl hl.1 rfl (Nat.le_of_ble_eq_true rfl) dL_law_320 (fun H locs hI hS => ?_)
  refine W.widen (k := cells + 6) (n := slots + 36) (by omega) (by omega) ?_
  exact lw_tail E hF hcs (off := 1251) ⟨dL_law_323, dL_law_325, dL_law_326, dL_law_329, dL_law_331, dL_law_336, dL_law_338, dL_law_341, dL_law_342, dL_law_343, dL_law_344, dL_law_346, dL_law_347, dL_law_348, dL_law_353⟩ (by decide) hI ht hr hl (fun ls hl => kk u' w' f' H locs ls hI hR' hS hl)
set_option maxHeartbeats 1000000 in
set_option maxRecDepth 100000 in
theorem lw_k_drop (E : CallFix p m c cL_law 7 s args wsL_law RL) (hst : l.stackTraces = false) (hF : lwF s D cy ad ad' o) (hX : va_X b L xs s s.heap) (hbl : b < s.heap.size) (hL : L ≤ 3072) (hi : i + 6 ≤ L) (hcs : cells + 6 ≤ room_1.cells ∧ slots + 36 ≤ room_1.slots) (hI : lwI D cy ad ad' o u w f H) (hR : swRl u w) (hS : va_S (lwA s) s.heap H locs) (hl : lv_has ls 7 (lwL b o i ad ad'))
    (kk : ∀ (u w : swU) (f : Nat → Int64) (H : Heap) (locs : List Loc) (ls : Array Slot), lwI D cy ad ad' o u w f H → swRl u w → va_S (lwA s) s.heap H locs → lv_has ls 7 (lwL b o i ad ad') → W p l e room_1 s m args below meth c H locs (cells + 6) (slots + 36) Q (F0 m 1604 ls [])) : W p l e room_1 s m args below meth c H locs cells slots Q (F0 m 356 ls []) := by
  obtain ⟨k, f', u', r, w', eX, eM, ht, hr, hR'⟩ := xq_drop hR (xs (i + 1)) (xs (i + 2)) f
  have hx := E.1
  have hb := E.2.1
  have hts := E.2.2.2.2
  refine lv_aload_n hx hb dL_law_356 rfl (lv_at hl 3 rfl) ?_
  refine lw_arg (i := i) (k := 1) (ka := 4) (kb := 0) hx hb hX hbl hS hl rfl rfl (by omega) hL rfl dL_law_357 dL_law_358 dL_law_360 dL_law_361 dL_law_362 ?_
  refine lw_arg (i := i) (k := 2) (ka := 4) (kb := 0) hx hb hX hbl hS hl rfl rfl (by omega) hL rfl dL_law_363 dL_law_364 dL_law_366 dL_law_367 dL_law_368 ?_
  refine lv_aload_n hx hb dL_law_369 rfl (lv_at hl 1 rfl) ?_
  refine lw_callL (As := [.ref (ad 0), .int (xs (i + 1)), .int (xs (i + 2)), .ref o]) (rest := []) E hF (xlm_drop l hst D cy ad hF.1 o hF.2.2.1 u (xs (i + 1)) (xs (i + 2)) f H.size k f' u' eX) (vx_cwSW 4 hts gL_law_L_drop rfl rfl rfl (by decide +kernel) ⟨Nat.le_of_ble_eq_true rfl, Nat.le_of_ble_eq_true rfl⟩) hI hS ⟨by omega, by omega⟩ rfl hl.1 rfl (Nat.le_of_ble_eq_true rfl) dL_law_370 (fun H locs hI hS => ?_)
  refine lv_istore (lv' := (5, .int k) :: lwL b o i ad ad') hx hb dL_law_373 hl (by decide) rfl (fun ls hl => ?_)
  refine lv_aload_n hx hb dL_law_375 rfl (lv_at hl 3 rfl) ?_
  refine lw_arg (i := i) (k := 1) (ka := 5) (kb := 1) hx hb hX hbl hS hl rfl rfl (by omega) hL rfl dL_law_376 dL_law_377 dL_law_379 dL_law_380 dL_law_381 ?_
  refine lw_arg (i := i) (k := 2) (ka := 5) (kb := 1) hx hb hX hbl hS hl rfl rfl (by omega) hL rfl dL_law_382 dL_law_383 dL_law_385 dL_law_386 dL_law_387 ?_
  refine lw_callM (As := [.int (xs (i + 1)), .int (xs (i + 2))]) (rest := []) E hF (mm_drop l D cy ad' hF.2.1 w (xs (i + 1)) (xs (i + 2)) r w' eM) (cwV 2 hts gL_law_X6_drop rfl rfl rfl (by decide +kernel) ⟨Nat.le_of_ble_eq_true rfl, Nat.le_of_ble_eq_true rfl⟩) hI hS ⟨by omega, by omega⟩ rfl hl.1 rfl (Nat.le_of_ble_eq_true rfl) dL_law_388 (fun H locs hI hS => ?_)
  refine W.widen (k := cells + 6) (n := slots + 36) (by omega) (by omega) ?_
  exact lw_tail E hF hcs (off := 1183) ⟨dL_law_391, dL_law_393, dL_law_394, dL_law_397, dL_law_399, dL_law_404, dL_law_406, dL_law_409, dL_law_410, dL_law_411, dL_law_412, dL_law_414, dL_law_415, dL_law_416, dL_law_421⟩ (by decide) hI ht hr hl (fun ls hl => kk u' w' f' H locs ls hI hR' hS hl)
set_option maxHeartbeats 1000000 in
set_option maxRecDepth 100000 in
theorem lw_k_head (E : CallFix p m c cL_law 7 s args wsL_law RL) (hst : l.stackTraces = false) (hF : lwF s D cy ad ad' o) (hX : va_X b L xs s s.heap) (hbl : b < s.heap.size) (hL : L ≤ 3072) (hi : i + 6 ≤ L) (hcs : cells + 6 ≤ room_1.cells ∧ slots + 36 ≤ room_1.slots) (hI : lwI D cy ad ad' o u w f H) (hR : swRl u w) (hS : va_S (lwA s) s.heap H locs) (hl : lv_has ls 7 (lwL b o i ad ad'))
    (kk : ∀ (u w : swU) (f : Nat → Int64) (H : Heap) (locs : List Loc) (ls : Array Slot), lwI D cy ad ad' o u w f H → swRl u w → va_S (lwA s) s.heap H locs → lv_has ls 7 (lwL b o i ad ad') → W p l e room_1 s m args below meth c H locs (cells + 6) (slots + 36) Q (F0 m 1604 ls [])) : W p l e room_1 s m args below meth c H locs cells slots Q (F0 m 424 ls []) := by
  obtain ⟨k, f', u', r, w', eX, eM, ht, hr, hR'⟩ := xq_head hR (xs (i + 1)) f
  have hx := E.1
  have hb := E.2.1
  have hts := E.2.2.2.2
  refine lv_aload_n hx hb dL_law_424 rfl (lv_at hl 3 rfl) ?_
  refine lw_arg (i := i) (k := 1) (ka := 4) (kb := 0) hx hb hX hbl hS hl rfl rfl (by omega) hL rfl dL_law_425 dL_law_426 dL_law_428 dL_law_429 dL_law_430 ?_
  refine lv_aload_n hx hb dL_law_431 rfl (lv_at hl 1 rfl) ?_
  refine lw_callL (As := [.ref (ad 0), .int (xs (i + 1)), .ref o]) (rest := []) E hF (xlm_head l hst D cy ad hF.1 o hF.2.2.1 u (xs (i + 1)) f H.size k f' u' eX) (vx_cwSW 3 hts gL_law_L_head rfl rfl rfl (by decide +kernel) ⟨Nat.le_of_ble_eq_true rfl, Nat.le_of_ble_eq_true rfl⟩) hI hS ⟨by omega, by omega⟩ rfl hl.1 rfl (Nat.le_of_ble_eq_true rfl) dL_law_432 (fun H locs hI hS => ?_)
  refine lv_istore (lv' := (5, .int k) :: lwL b o i ad ad') hx hb dL_law_435 hl (by decide) rfl (fun ls hl => ?_)
  refine lv_aload_n hx hb dL_law_437 rfl (lv_at hl 3 rfl) ?_
  refine lw_arg (i := i) (k := 1) (ka := 5) (kb := 1) hx hb hX hbl hS hl rfl rfl (by omega) hL rfl dL_law_438 dL_law_439 dL_law_441 dL_law_442 dL_law_443 ?_
  refine lw_callM (As := [.int (xs (i + 1))]) (rest := []) E hF (mm_head l D cy ad' hF.2.1 w (xs (i + 1)) r w' eM) (cwV 1 hts gL_law_X6_head rfl rfl rfl (by decide +kernel) ⟨Nat.le_of_ble_eq_true rfl, Nat.le_of_ble_eq_true rfl⟩) hI hS ⟨by omega, by omega⟩ rfl hl.1 rfl (Nat.le_of_ble_eq_true rfl) dL_law_444 (fun H locs hI hS => ?_)
  refine W.widen (k := cells + 6) (n := slots + 36) (by omega) (by omega) ?_
  exact lw_tail E hF hcs (off := 1127) ⟨dL_law_447, dL_law_449, dL_law_450, dL_law_453, dL_law_455, dL_law_460, dL_law_462, dL_law_465, dL_law_466, dL_law_467, dL_law_468, dL_law_470, dL_law_471, dL_law_472, dL_law_477⟩ (by decide) hI ht hr hl (fun ls hl => kk u' w' f' H locs ls hI hR' hS hl)
set_option maxHeartbeats 1000000 in
set_option maxRecDepth 100000 in
theorem lw_k_about (E : CallFix p m c cL_law 7 s args wsL_law RL) (hst : l.stackTraces = false) (hF : lwF s D cy ad ad' o) (hX : va_X b L xs s s.heap) (hbl : b < s.heap.size) (hL : L ≤ 3072) (hi : i + 6 ≤ L) (hcs : cells + 6 ≤ room_1.cells ∧ slots + 36 ≤ room_1.slots) (hI : lwI D cy ad ad' o u w f H) (hR : swRl u w) (hS : va_S (lwA s) s.heap H locs) (hl : lv_has ls 7 (lwL b o i ad ad'))
    (kk : ∀ (u w : swU) (f : Nat → Int64) (H : Heap) (locs : List Loc) (ls : Array Slot), lwI D cy ad ad' o u w f H → swRl u w → va_S (lwA s) s.heap H locs → lv_has ls 7 (lwL b o i ad ad') → W p l e room_1 s m args below meth c H locs (cells + 6) (slots + 36) Q (F0 m 1604 ls [])) : W p l e room_1 s m args below meth c H locs cells slots Q (F0 m 480 ls []) := by
  obtain ⟨k, f', u', r, w', eX, eM, ht, hr, hR'⟩ := xq_about hR (xs (i + 1)) (xs (i + 2)) f
  have hx := E.1
  have hb := E.2.1
  have hts := E.2.2.2.2
  refine lv_aload_n hx hb dL_law_480 rfl (lv_at hl 3 rfl) ?_
  refine lw_arg (i := i) (k := 1) (ka := 4) (kb := 0) hx hb hX hbl hS hl rfl rfl (by omega) hL rfl dL_law_481 dL_law_482 dL_law_484 dL_law_485 dL_law_486 ?_
  refine lw_arg (i := i) (k := 2) (ka := 4) (kb := 0) hx hb hX hbl hS hl rfl rfl (by omega) hL rfl dL_law_487 dL_law_488 dL_law_490 dL_law_491 dL_law_492 ?_
  refine lv_aload_n hx hb dL_law_493 rfl (lv_at hl 1 rfl) ?_
  refine lw_callL (As := [.ref (ad 0), .int (xs (i + 1)), .int (xs (i + 2)), .ref o]) (rest := []) E hF (xlm_about l hst D cy ad hF.1 o hF.2.2.1 u (xs (i + 1)) (xs (i + 2)) f H.size k f' u' eX) (vx_cwSW 4 hts gL_law_L_about rfl rfl rfl (by decide +kernel) ⟨Nat.le_of_ble_eq_true rfl, Nat.le_of_ble_eq_true rfl⟩) hI hS ⟨by omega, by omega⟩ rfl hl.1 rfl (Nat.le_of_ble_eq_true rfl) dL_law_494 (fun H locs hI hS => ?_)
  refine lv_istore (lv' := (5, .int k) :: lwL b o i ad ad') hx hb dL_law_497 hl (by decide) rfl (fun ls hl => ?_)
  refine lv_aload_n hx hb dL_law_499 rfl (lv_at hl 3 rfl) ?_
  refine lw_arg (i := i) (k := 1) (ka := 5) (kb := 1) hx hb hX hbl hS hl rfl rfl (by omega) hL rfl dL_law_500 dL_law_501 dL_law_503 dL_law_504 dL_law_505 ?_
  refine lw_arg (i := i) (k := 2) (ka := 5) (kb := 1) hx hb hX hbl hS hl rfl rfl (by omega) hL rfl dL_law_506 dL_law_507 dL_law_509 dL_law_510 dL_law_511 ?_
  refine lw_callM (As := [.int (xs (i + 1)), .int (xs (i + 2))]) (rest := []) E hF (mm_about l D cy ad' hF.2.1 w (xs (i + 1)) (xs (i + 2)) r w' eM) (cwV 2 hts gL_law_X6_about rfl rfl rfl (by decide +kernel) ⟨Nat.le_of_ble_eq_true rfl, Nat.le_of_ble_eq_true rfl⟩) hI hS ⟨by omega, by omega⟩ rfl hl.1 rfl (Nat.le_of_ble_eq_true rfl) dL_law_512 (fun H locs hI hS => ?_)
  refine W.widen (k := cells + 6) (n := slots + 36) (by omega) (by omega) ?_
  exact lw_tail E hF hcs (off := 1059) ⟨dL_law_515, dL_law_517, dL_law_518, dL_law_521, dL_law_523, dL_law_528, dL_law_530, dL_law_533, dL_law_534, dL_law_535, dL_law_536, dL_law_538, dL_law_539, dL_law_540, dL_law_545⟩ (by decide) hI ht hr hl (fun ls hl => kk u' w' f' H locs ls hI hR' hS hl)
set_option maxHeartbeats 1000000 in
set_option maxRecDepth 100000 in
theorem lw_k_value (E : CallFix p m c cL_law 7 s args wsL_law RL) (hst : l.stackTraces = false) (hF : lwF s D cy ad ad' o) (hX : va_X b L xs s s.heap) (hbl : b < s.heap.size) (hL : L ≤ 3072) (hi : i + 6 ≤ L) (hcs : cells + 6 ≤ room_1.cells ∧ slots + 36 ≤ room_1.slots) (hI : lwI D cy ad ad' o u w f H) (hR : swRl u w) (hS : va_S (lwA s) s.heap H locs) (hl : lv_has ls 7 (lwL b o i ad ad'))
    (kk : ∀ (u w : swU) (f : Nat → Int64) (H : Heap) (locs : List Loc) (ls : Array Slot), lwI D cy ad ad' o u w f H → swRl u w → va_S (lwA s) s.heap H locs → lv_has ls 7 (lwL b o i ad ad') → W p l e room_1 s m args below meth c H locs (cells + 6) (slots + 36) Q (F0 m 1604 ls [])) : W p l e room_1 s m args below meth c H locs cells slots Q (F0 m 548 ls []) := by
  obtain ⟨k, f', u', r, w', eX, eM, ht, hr, hR'⟩ := xq_value hR (xs (i + 1)) (xs (i + 2)) (xs (i + 3)) f
  have hx := E.1
  have hb := E.2.1
  have hts := E.2.2.2.2
  refine lv_aload_n hx hb dL_law_548 rfl (lv_at hl 3 rfl) ?_
  refine lw_arg (i := i) (k := 1) (ka := 4) (kb := 0) hx hb hX hbl hS hl rfl rfl (by omega) hL rfl dL_law_549 dL_law_550 dL_law_552 dL_law_553 dL_law_554 ?_
  refine lw_arg (i := i) (k := 2) (ka := 4) (kb := 0) hx hb hX hbl hS hl rfl rfl (by omega) hL rfl dL_law_555 dL_law_556 dL_law_558 dL_law_559 dL_law_560 ?_
  refine lw_arg (i := i) (k := 3) (ka := 4) (kb := 0) hx hb hX hbl hS hl rfl rfl (by omega) hL rfl dL_law_561 dL_law_562 dL_law_564 dL_law_565 dL_law_566 ?_
  refine lv_aload_n hx hb dL_law_567 rfl (lv_at hl 1 rfl) ?_
  refine lw_callL (As := [.ref (ad 0), .int (xs (i + 1)), .int (xs (i + 2)), .int (xs (i + 3)), .ref o]) (rest := []) E hF (xlm_value l hst D cy ad hF.1 o hF.2.2.1 u (xs (i + 1)) (xs (i + 2)) (xs (i + 3)) f H.size k f' u' eX) (vx_cwSW 5 hts gL_law_L_value rfl rfl rfl (by decide +kernel) ⟨Nat.le_of_ble_eq_true rfl, Nat.le_of_ble_eq_true rfl⟩) hI hS ⟨by omega, by omega⟩ rfl hl.1 rfl (Nat.le_of_ble_eq_true rfl) dL_law_568 (fun H locs hI hS => ?_)
  refine lv_istore (lv' := (5, .int k) :: lwL b o i ad ad') hx hb dL_law_571 hl (by decide) rfl (fun ls hl => ?_)
  refine lv_aload_n hx hb dL_law_573 rfl (lv_at hl 3 rfl) ?_
  refine lw_arg (i := i) (k := 1) (ka := 5) (kb := 1) hx hb hX hbl hS hl rfl rfl (by omega) hL rfl dL_law_574 dL_law_575 dL_law_577 dL_law_578 dL_law_579 ?_
  refine lw_arg (i := i) (k := 2) (ka := 5) (kb := 1) hx hb hX hbl hS hl rfl rfl (by omega) hL rfl dL_law_580 dL_law_581 dL_law_583 dL_law_584 dL_law_585 ?_
  refine lw_arg (i := i) (k := 3) (ka := 5) (kb := 1) hx hb hX hbl hS hl rfl rfl (by omega) hL rfl dL_law_586 dL_law_587 dL_law_589 dL_law_590 dL_law_591 ?_
  refine lw_callM (As := [.int (xs (i + 1)), .int (xs (i + 2)), .int (xs (i + 3))]) (rest := []) E hF (mm_value l D cy ad' hF.2.1 w (xs (i + 1)) (xs (i + 2)) (xs (i + 3)) r w' eM) (cwV 3 hts gL_law_X6_value rfl rfl rfl (by decide +kernel) ⟨Nat.le_of_ble_eq_true rfl, Nat.le_of_ble_eq_true rfl⟩) hI hS ⟨by omega, by omega⟩ rfl hl.1 rfl (Nat.le_of_ble_eq_true rfl) dL_law_592 (fun H locs hI hS => ?_)
  refine W.widen (k := cells + 6) (n := slots + 36) (by omega) (by omega) ?_
  exact lw_tail E hF hcs (off := 979) ⟨dL_law_595, dL_law_597, dL_law_598, dL_law_601, dL_law_603, dL_law_608, dL_law_610, dL_law_613, dL_law_614, dL_law_615, dL_law_616, dL_law_618, dL_law_619, dL_law_620, dL_law_625⟩ (by decide) hI ht hr hl (fun ls hl => kk u' w' f' H locs ls hI hR' hS hl)
set_option maxHeartbeats 1000000 in
set_option maxRecDepth 100000 in
theorem lw_k_slideAt (E : CallFix p m c cL_law 7 s args wsL_law RL) (hst : l.stackTraces = false) (hF : lwF s D cy ad ad' o) (hX : va_X b L xs s s.heap) (hbl : b < s.heap.size) (hL : L ≤ 3072) (hi : i + 6 ≤ L) (hcs : cells + 6 ≤ room_1.cells ∧ slots + 36 ≤ room_1.slots) (hI : lwI D cy ad ad' o u w f H) (hR : swRl u w) (hS : va_S (lwA s) s.heap H locs) (hl : lv_has ls 7 (lwL b o i ad ad'))
    (kk : ∀ (u w : swU) (f : Nat → Int64) (H : Heap) (locs : List Loc) (ls : Array Slot), lwI D cy ad ad' o u w f H → swRl u w → va_S (lwA s) s.heap H locs → lv_has ls 7 (lwL b o i ad ad') → W p l e room_1 s m args below meth c H locs (cells + 6) (slots + 36) Q (F0 m 1604 ls [])) : W p l e room_1 s m args below meth c H locs cells slots Q (F0 m 628 ls []) := by
  obtain ⟨k, f', u', r, w', eX, eM, ht, hr, hR'⟩ := xq_slideAt hR (xs (i + 1)) (xs (i + 2)) f
  have hx := E.1
  have hb := E.2.1
  have hts := E.2.2.2.2
  refine lv_aload_n hx hb dL_law_628 rfl (lv_at hl 3 rfl) ?_
  refine lw_arg (i := i) (k := 1) (ka := 4) (kb := 0) hx hb hX hbl hS hl rfl rfl (by omega) hL rfl dL_law_629 dL_law_630 dL_law_632 dL_law_633 dL_law_634 ?_
  refine lw_arg (i := i) (k := 2) (ka := 4) (kb := 0) hx hb hX hbl hS hl rfl rfl (by omega) hL rfl dL_law_635 dL_law_636 dL_law_638 dL_law_639 dL_law_640 ?_
  refine lv_aload_n hx hb dL_law_641 rfl (lv_at hl 1 rfl) ?_
  refine lw_callL (As := [.ref (ad 0), .int (xs (i + 1)), .int (xs (i + 2)), .ref o]) (rest := []) E hF (xlm_slideAt l hst D cy ad hF.1 o hF.2.2.1 u (xs (i + 1)) (xs (i + 2)) f H.size k f' u' eX) (vx_cwSW 4 hts gL_law_L_slideAt rfl rfl rfl (by decide +kernel) ⟨Nat.le_of_ble_eq_true rfl, Nat.le_of_ble_eq_true rfl⟩) hI hS ⟨by omega, by omega⟩ rfl hl.1 rfl (Nat.le_of_ble_eq_true rfl) dL_law_642 (fun H locs hI hS => ?_)
  refine lv_istore (lv' := (5, .int k) :: lwL b o i ad ad') hx hb dL_law_645 hl (by decide) rfl (fun ls hl => ?_)
  refine lv_aload_n hx hb dL_law_647 rfl (lv_at hl 3 rfl) ?_
  refine lw_arg (i := i) (k := 1) (ka := 5) (kb := 1) hx hb hX hbl hS hl rfl rfl (by omega) hL rfl dL_law_648 dL_law_649 dL_law_651 dL_law_652 dL_law_653 ?_
  refine lw_arg (i := i) (k := 2) (ka := 5) (kb := 1) hx hb hX hbl hS hl rfl rfl (by omega) hL rfl dL_law_654 dL_law_655 dL_law_657 dL_law_658 dL_law_659 ?_
  refine lw_callM (As := [.int (xs (i + 1)), .int (xs (i + 2))]) (rest := []) E hF (mm_slideAt l D cy ad' hF.2.1 w (xs (i + 1)) (xs (i + 2)) r w' eM) (cwV 2 hts gL_law_X6_slideAt rfl rfl rfl (by decide +kernel) ⟨Nat.le_of_ble_eq_true rfl, Nat.le_of_ble_eq_true rfl⟩) hI hS ⟨by omega, by omega⟩ rfl hl.1 rfl (Nat.le_of_ble_eq_true rfl) dL_law_660 (fun H locs hI hS => ?_)
  refine W.widen (k := cells + 6) (n := slots + 36) (by omega) (by omega) ?_
  exact lw_tail E hF hcs (off := 911) ⟨dL_law_663, dL_law_665, dL_law_666, dL_law_669, dL_law_671, dL_law_676, dL_law_678, dL_law_681, dL_law_682, dL_law_683, dL_law_684, dL_law_686, dL_law_687, dL_law_688, dL_law_693⟩ (by decide) hI ht hr hl (fun ls hl => kk u' w' f' H locs ls hI hR' hS hl)
set_option maxHeartbeats 1000000 in
set_option maxRecDepth 100000 in
theorem lw_k_base (E : CallFix p m c cL_law 7 s args wsL_law RL) (hst : l.stackTraces = false) (hF : lwF s D cy ad ad' o) (hX : va_X b L xs s s.heap) (hbl : b < s.heap.size) (hL : L ≤ 3072) (hi : i + 6 ≤ L) (hcs : cells + 6 ≤ room_1.cells ∧ slots + 36 ≤ room_1.slots) (hI : lwI D cy ad ad' o u w f H) (hR : swRl u w) (hS : va_S (lwA s) s.heap H locs) (hl : lv_has ls 7 (lwL b o i ad ad'))
    (kk : ∀ (u w : swU) (f : Nat → Int64) (H : Heap) (locs : List Loc) (ls : Array Slot), lwI D cy ad ad' o u w f H → swRl u w → va_S (lwA s) s.heap H locs → lv_has ls 7 (lwL b o i ad ad') → W p l e room_1 s m args below meth c H locs (cells + 6) (slots + 36) Q (F0 m 1604 ls [])) : W p l e room_1 s m args below meth c H locs cells slots Q (F0 m 696 ls []) := by
  obtain ⟨k, f', u', r, w', eX, eM, ht, hr, hR'⟩ := xq_base hR (xs (i + 1)) (xs (i + 2)) f
  have hx := E.1
  have hb := E.2.1
  have hts := E.2.2.2.2
  refine lv_aload_n hx hb dL_law_696 rfl (lv_at hl 3 rfl) ?_
  refine lw_arg (i := i) (k := 1) (ka := 4) (kb := 0) hx hb hX hbl hS hl rfl rfl (by omega) hL rfl dL_law_697 dL_law_698 dL_law_700 dL_law_701 dL_law_702 ?_
  refine lw_arg (i := i) (k := 2) (ka := 4) (kb := 0) hx hb hX hbl hS hl rfl rfl (by omega) hL rfl dL_law_703 dL_law_704 dL_law_706 dL_law_707 dL_law_708 ?_
  refine lv_aload_n hx hb dL_law_709 rfl (lv_at hl 1 rfl) ?_
  refine lw_callL (As := [.ref (ad 0), .int (xs (i + 1)), .int (xs (i + 2)), .ref o]) (rest := []) E hF (xlm_base l hst D cy ad hF.1 o hF.2.2.1 u (xs (i + 1)) (xs (i + 2)) f H.size k f' u' eX) (vx_cwSW 4 hts gL_law_L_base rfl rfl rfl (by decide +kernel) ⟨Nat.le_of_ble_eq_true rfl, Nat.le_of_ble_eq_true rfl⟩) hI hS ⟨by omega, by omega⟩ rfl hl.1 rfl (Nat.le_of_ble_eq_true rfl) dL_law_710 (fun H locs hI hS => ?_)
  refine lv_istore (lv' := (5, .int k) :: lwL b o i ad ad') hx hb dL_law_713 hl (by decide) rfl (fun ls hl => ?_)
  refine lv_aload_n hx hb dL_law_715 rfl (lv_at hl 3 rfl) ?_
  refine lw_arg (i := i) (k := 1) (ka := 5) (kb := 1) hx hb hX hbl hS hl rfl rfl (by omega) hL rfl dL_law_716 dL_law_717 dL_law_719 dL_law_720 dL_law_721 ?_
  refine lw_arg (i := i) (k := 2) (ka := 5) (kb := 1) hx hb hX hbl hS hl rfl rfl (by omega) hL rfl dL_law_722 dL_law_723 dL_law_725 dL_law_726 dL_law_727 ?_
  refine lw_callM (As := [.int (xs (i + 1)), .int (xs (i + 2))]) (rest := []) E hF (mm_base l D cy ad' hF.2.1 w (xs (i + 1)) (xs (i + 2)) r w' eM) (cwV 2 hts gL_law_X6_base rfl rfl rfl (by decide +kernel) ⟨Nat.le_of_ble_eq_true rfl, Nat.le_of_ble_eq_true rfl⟩) hI hS ⟨by omega, by omega⟩ rfl hl.1 rfl (Nat.le_of_ble_eq_true rfl) dL_law_728 (fun H locs hI hS => ?_)
  refine W.widen (k := cells + 6) (n := slots + 36) (by omega) (by omega) ?_
  exact lw_tail E hF hcs (off := 843) ⟨dL_law_731, dL_law_733, dL_law_734, dL_law_737, dL_law_739, dL_law_744, dL_law_746, dL_law_749, dL_law_750, dL_law_751, dL_law_752, dL_law_754, dL_law_755, dL_law_756, dL_law_761⟩ (by decide) hI ht hr hl (fun ls hl => kk u' w' f' H locs ls hI hR' hS hl)
set_option maxHeartbeats 1000000 in
set_option maxRecDepth 100000 in
theorem lw_k_clashes (E : CallFix p m c cL_law 7 s args wsL_law RL) (hst : l.stackTraces = false) (hF : lwF s D cy ad ad' o) (hX : va_X b L xs s s.heap) (hbl : b < s.heap.size) (hL : L ≤ 3072) (hi : i + 6 ≤ L) (hcs : cells + 6 ≤ room_1.cells ∧ slots + 36 ≤ room_1.slots) (hI : lwI D cy ad ad' o u w f H) (hR : swRl u w) (hS : va_S (lwA s) s.heap H locs) (hl : lv_has ls 7 (lwL b o i ad ad'))
    (kk : ∀ (u w : swU) (f : Nat → Int64) (H : Heap) (locs : List Loc) (ls : Array Slot), lwI D cy ad ad' o u w f H → swRl u w → va_S (lwA s) s.heap H locs → lv_has ls 7 (lwL b o i ad ad') → W p l e room_1 s m args below meth c H locs (cells + 6) (slots + 36) Q (F0 m 1604 ls [])) : W p l e room_1 s m args below meth c H locs cells slots Q (F0 m 764 ls []) := by
  obtain ⟨k, f', u', r, w', eX, eM, ht, hr, hR'⟩ := xq_clashes hR (xs (i + 1)) (xs (i + 2)) f
  have hx := E.1
  have hb := E.2.1
  have hts := E.2.2.2.2
  refine lv_aload_n hx hb dL_law_764 rfl (lv_at hl 3 rfl) ?_
  refine lw_arg (i := i) (k := 1) (ka := 4) (kb := 0) hx hb hX hbl hS hl rfl rfl (by omega) hL rfl dL_law_765 dL_law_766 dL_law_768 dL_law_769 dL_law_770 ?_
  refine lw_arg (i := i) (k := 2) (ka := 4) (kb := 0) hx hb hX hbl hS hl rfl rfl (by omega) hL rfl dL_law_771 dL_law_772 dL_law_774 dL_law_775 dL_law_776 ?_
  refine lv_aload_n hx hb dL_law_777 rfl (lv_at hl 1 rfl) ?_
  refine lw_callL (As := [.ref (ad 0), .int (xs (i + 1)), .int (xs (i + 2)), .ref o]) (rest := []) E hF (xlm_clashes l hst D cy ad hF.1 o hF.2.2.1 u (xs (i + 1)) (xs (i + 2)) f H.size k f' u' eX) (vx_cwSW 4 hts gL_law_L_clashes rfl rfl rfl (by decide +kernel) ⟨Nat.le_of_ble_eq_true rfl, Nat.le_of_ble_eq_true rfl⟩) hI hS ⟨by omega, by omega⟩ rfl hl.1 rfl (Nat.le_of_ble_eq_true rfl) dL_law_778 (fun H locs hI hS => ?_)
  refine lv_istore (lv' := (5, .int k) :: lwL b o i ad ad') hx hb dL_law_781 hl (by decide) rfl (fun ls hl => ?_)
  refine lv_aload_n hx hb dL_law_783 rfl (lv_at hl 3 rfl) ?_
  refine lw_arg (i := i) (k := 1) (ka := 5) (kb := 1) hx hb hX hbl hS hl rfl rfl (by omega) hL rfl dL_law_784 dL_law_785 dL_law_787 dL_law_788 dL_law_789 ?_
  refine lw_arg (i := i) (k := 2) (ka := 5) (kb := 1) hx hb hX hbl hS hl rfl rfl (by omega) hL rfl dL_law_790 dL_law_791 dL_law_793 dL_law_794 dL_law_795 ?_
  refine lw_callM (As := [.int (xs (i + 1)), .int (xs (i + 2))]) (rest := []) E hF (mm_clashes l D cy ad' hF.2.1 w (xs (i + 1)) (xs (i + 2)) r w' eM) (cwV 2 hts gL_law_X6_clashes rfl rfl rfl (by decide +kernel) ⟨Nat.le_of_ble_eq_true rfl, Nat.le_of_ble_eq_true rfl⟩) hI hS ⟨by omega, by omega⟩ rfl hl.1 rfl (Nat.le_of_ble_eq_true rfl) dL_law_796 (fun H locs hI hS => ?_)
  refine W.widen (k := cells + 6) (n := slots + 36) (by omega) (by omega) ?_
  exact lw_tail E hF hcs (off := 775) ⟨dL_law_799, dL_law_801, dL_law_802, dL_law_805, dL_law_807, dL_law_812, dL_law_814, dL_law_817, dL_law_818, dL_law_819, dL_law_820, dL_law_822, dL_law_823, dL_law_824, dL_law_829⟩ (by decide) hI ht hr hl (fun ls hl => kk u' w' f' H locs ls hI hR' hS hl)
set_option maxHeartbeats 1000000 in
set_option maxRecDepth 100000 in
theorem lw_k_merged (E : CallFix p m c cL_law 7 s args wsL_law RL) (hst : l.stackTraces = false) (hF : lwF s D cy ad ad' o) (hX : va_X b L xs s s.heap) (hbl : b < s.heap.size) (hL : L ≤ 3072) (hi : i + 6 ≤ L) (hcs : cells + 6 ≤ room_1.cells ∧ slots + 36 ≤ room_1.slots) (hI : lwI D cy ad ad' o u w f H) (hR : swRl u w) (hS : va_S (lwA s) s.heap H locs) (hl : lv_has ls 7 (lwL b o i ad ad'))
    (kk : ∀ (u w : swU) (f : Nat → Int64) (H : Heap) (locs : List Loc) (ls : Array Slot), lwI D cy ad ad' o u w f H → swRl u w → va_S (lwA s) s.heap H locs → lv_has ls 7 (lwL b o i ad ad') → W p l e room_1 s m args below meth c H locs (cells + 6) (slots + 36) Q (F0 m 1604 ls [])) : W p l e room_1 s m args below meth c H locs cells slots Q (F0 m 832 ls []) := by
  obtain ⟨k, f', u', r, w', eX, eM, ht, hr, hR'⟩ := xq_merged hR (xs (i + 1)) (xs (i + 2)) (xs (i + 3)) (xs (i + 4)) (xs (i + 5)) f
  have hx := E.1
  have hb := E.2.1
  have hts := E.2.2.2.2
  refine lv_aload_n hx hb dL_law_832 rfl (lv_at hl 3 rfl) ?_
  refine lw_arg (i := i) (k := 1) (ka := 4) (kb := 0) hx hb hX hbl hS hl rfl rfl (by omega) hL rfl dL_law_833 dL_law_834 dL_law_836 dL_law_837 dL_law_838 ?_
  refine lw_arg (i := i) (k := 2) (ka := 4) (kb := 0) hx hb hX hbl hS hl rfl rfl (by omega) hL rfl dL_law_839 dL_law_840 dL_law_842 dL_law_843 dL_law_844 ?_
  refine lw_arg (i := i) (k := 3) (ka := 4) (kb := 0) hx hb hX hbl hS hl rfl rfl (by omega) hL rfl dL_law_845 dL_law_846 dL_law_848 dL_law_849 dL_law_850 ?_
  refine lw_arg (i := i) (k := 4) (ka := 4) (kb := 0) hx hb hX hbl hS hl rfl rfl (by omega) hL rfl dL_law_851 dL_law_852 dL_law_854 dL_law_855 dL_law_856 ?_
  refine lw_arg (i := i) (k := 5) (ka := 4) (kb := 0) hx hb hX hbl hS hl rfl rfl (by omega) hL rfl dL_law_857 dL_law_858 dL_law_860 dL_law_861 dL_law_862 ?_
  refine lv_aload_n hx hb dL_law_863 rfl (lv_at hl 1 rfl) ?_
  refine lw_callL (As := [.ref (ad 0), .int (xs (i + 1)), .int (xs (i + 2)), .int (xs (i + 3)), .int (xs (i + 4)), .int (xs (i + 5)), .ref o]) (rest := []) E hF (xlm_merged l hst D cy ad hF.1 o hF.2.2.1 u (xs (i + 1)) (xs (i + 2)) (xs (i + 3)) (xs (i + 4)) (xs (i + 5)) f H.size k f' u' eX) (vx_cwSW 7 hts gL_law_L_merged rfl rfl rfl (by decide +kernel) ⟨Nat.le_of_ble_eq_true rfl, Nat.le_of_ble_eq_true rfl⟩) hI hS ⟨by omega, by omega⟩ rfl hl.1 rfl (Nat.le_of_ble_eq_true rfl) dL_law_864 (fun H locs hI hS => ?_)
  refine lv_istore (lv' := (5, .int k) :: lwL b o i ad ad') hx hb dL_law_867 hl (by decide) rfl (fun ls hl => ?_)
  refine lv_aload_n hx hb dL_law_869 rfl (lv_at hl 3 rfl) ?_
  refine lw_arg (i := i) (k := 1) (ka := 5) (kb := 1) hx hb hX hbl hS hl rfl rfl (by omega) hL rfl dL_law_870 dL_law_871 dL_law_873 dL_law_874 dL_law_875 ?_
  refine lw_arg (i := i) (k := 2) (ka := 5) (kb := 1) hx hb hX hbl hS hl rfl rfl (by omega) hL rfl dL_law_876 dL_law_877 dL_law_879 dL_law_880 dL_law_881 ?_
  refine lw_arg (i := i) (k := 3) (ka := 5) (kb := 1) hx hb hX hbl hS hl rfl rfl (by omega) hL rfl dL_law_882 dL_law_883 dL_law_885 dL_law_886 dL_law_887 ?_
  refine lw_arg (i := i) (k := 4) (ka := 5) (kb := 1) hx hb hX hbl hS hl rfl rfl (by omega) hL rfl dL_law_888 dL_law_889 dL_law_891 dL_law_892 dL_law_893 ?_
  refine lw_arg (i := i) (k := 5) (ka := 5) (kb := 1) hx hb hX hbl hS hl rfl rfl (by omega) hL rfl dL_law_894 dL_law_895 dL_law_897 dL_law_898 dL_law_899 ?_
  refine lw_callM (As := [.int (xs (i + 1)), .int (xs (i + 2)), .int (xs (i + 3)), .int (xs (i + 4)), .int (xs (i + 5))]) (rest := []) E hF (mm_merged l D cy ad' hF.2.1 w (xs (i + 1)) (xs (i + 2)) (xs (i + 3)) (xs (i + 4)) (xs (i + 5)) r w' eM) (cwV 5 hts gL_law_X6_merged rfl rfl rfl (by decide +kernel) ⟨Nat.le_of_ble_eq_true rfl, Nat.le_of_ble_eq_true rfl⟩) hI hS ⟨by omega, by omega⟩ rfl hl.1 rfl (Nat.le_of_ble_eq_true rfl) dL_law_900 (fun H locs hI hS => ?_)
  refine W.widen (k := cells + 6) (n := slots + 36) (by omega) (by omega) ?_
  exact lw_tail E hF hcs (off := 671) ⟨dL_law_903, dL_law_905, dL_law_906, dL_law_909, dL_law_911, dL_law_916, dL_law_918, dL_law_921, dL_law_922, dL_law_923, dL_law_924, dL_law_926, dL_law_927, dL_law_928, dL_law_933⟩ (by decide) hI ht hr hl (fun ls hl => kk u' w' f' H locs ls hI hR' hS hl)
set_option maxHeartbeats 1000000 in
set_option maxRecDepth 100000 in
theorem lw_k_merge (E : CallFix p m c cL_law 7 s args wsL_law RL) (hst : l.stackTraces = false) (hF : lwF s D cy ad ad' o) (hX : va_X b L xs s s.heap) (hbl : b < s.heap.size) (hL : L ≤ 3072) (hi : i + 6 ≤ L) (hcs : cells + 6 ≤ room_1.cells ∧ slots + 36 ≤ room_1.slots) (hI : lwI D cy ad ad' o u w f H) (hR : swRl u w) (hS : va_S (lwA s) s.heap H locs) (hl : lv_has ls 7 (lwL b o i ad ad'))
    (kk : ∀ (u w : swU) (f : Nat → Int64) (H : Heap) (locs : List Loc) (ls : Array Slot), lwI D cy ad ad' o u w f H → swRl u w → va_S (lwA s) s.heap H locs → lv_has ls 7 (lwL b o i ad ad') → W p l e room_1 s m args below meth c H locs (cells + 6) (slots + 36) Q (F0 m 1604 ls [])) : W p l e room_1 s m args below meth c H locs cells slots Q (F0 m 936 ls []) := by
  obtain ⟨k, f', u', r, w', eX, eM, ht, hr, hR'⟩ := xq_merge hR (xs (i + 1)) (xs (i + 2)) (xs (i + 3)) f
  have hx := E.1
  have hb := E.2.1
  have hts := E.2.2.2.2
  refine lv_aload_n hx hb dL_law_936 rfl (lv_at hl 3 rfl) ?_
  refine lw_arg (i := i) (k := 1) (ka := 4) (kb := 0) hx hb hX hbl hS hl rfl rfl (by omega) hL rfl dL_law_937 dL_law_938 dL_law_940 dL_law_941 dL_law_942 ?_
  refine lw_arg (i := i) (k := 2) (ka := 4) (kb := 0) hx hb hX hbl hS hl rfl rfl (by omega) hL rfl dL_law_943 dL_law_944 dL_law_946 dL_law_947 dL_law_948 ?_
  refine lw_arg (i := i) (k := 3) (ka := 4) (kb := 0) hx hb hX hbl hS hl rfl rfl (by omega) hL rfl dL_law_949 dL_law_950 dL_law_952 dL_law_953 dL_law_954 ?_
  refine lv_aload_n hx hb dL_law_955 rfl (lv_at hl 1 rfl) ?_
  refine lw_callL (As := [.ref (ad 0), .int (xs (i + 1)), .int (xs (i + 2)), .int (xs (i + 3)), .ref o]) (rest := []) E hF (xlm_merge l hst D cy ad hF.1 o hF.2.2.1 u (xs (i + 1)) (xs (i + 2)) (xs (i + 3)) f H.size k f' u' eX) (vx_cwSW 5 hts gL_law_L_merge rfl rfl rfl (by decide +kernel) ⟨Nat.le_of_ble_eq_true rfl, Nat.le_of_ble_eq_true rfl⟩) hI hS ⟨by omega, by omega⟩ rfl hl.1 rfl (Nat.le_of_ble_eq_true rfl) dL_law_956 (fun H locs hI hS => ?_)
  refine lv_istore (lv' := (5, .int k) :: lwL b o i ad ad') hx hb dL_law_959 hl (by decide) rfl (fun ls hl => ?_)
  refine lv_aload_n hx hb dL_law_961 rfl (lv_at hl 3 rfl) ?_
  refine lw_arg (i := i) (k := 1) (ka := 5) (kb := 1) hx hb hX hbl hS hl rfl rfl (by omega) hL rfl dL_law_962 dL_law_963 dL_law_965 dL_law_966 dL_law_967 ?_
  refine lw_arg (i := i) (k := 2) (ka := 5) (kb := 1) hx hb hX hbl hS hl rfl rfl (by omega) hL rfl dL_law_968 dL_law_969 dL_law_971 dL_law_972 dL_law_973 ?_
  refine lw_arg (i := i) (k := 3) (ka := 5) (kb := 1) hx hb hX hbl hS hl rfl rfl (by omega) hL rfl dL_law_974 dL_law_975 dL_law_977 dL_law_978 dL_law_979 ?_
  refine lw_callM (As := [.int (xs (i + 1)), .int (xs (i + 2)), .int (xs (i + 3))]) (rest := []) E hF (mm_merge l D cy ad' hF.2.1 w (xs (i + 1)) (xs (i + 2)) (xs (i + 3)) r w' eM) (cwV 3 hts gL_law_X6_merge rfl rfl rfl (by decide +kernel) ⟨Nat.le_of_ble_eq_true rfl, Nat.le_of_ble_eq_true rfl⟩) hI hS ⟨by omega, by omega⟩ rfl hl.1 rfl (Nat.le_of_ble_eq_true rfl) dL_law_980 (fun H locs hI hS => ?_)
  refine W.widen (k := cells + 6) (n := slots + 36) (by omega) (by omega) ?_
  exact lw_tail E hF hcs (off := 591) ⟨dL_law_983, dL_law_985, dL_law_986, dL_law_989, dL_law_991, dL_law_996, dL_law_998, dL_law_1001, dL_law_1002, dL_law_1003, dL_law_1004, dL_law_1006, dL_law_1007, dL_law_1008, dL_law_1013⟩ (by decide) hI ht hr hl (fun ls hl => kk u' w' f' H locs ls hI hR' hS hl)
set_option maxHeartbeats 1000000 in
set_option maxRecDepth 100000 in
theorem lw_k_rule (E : CallFix p m c cL_law 7 s args wsL_law RL) (hst : l.stackTraces = false) (hF : lwF s D cy ad ad' o) (hX : va_X b L xs s s.heap) (hbl : b < s.heap.size) (hL : L ≤ 3072) (hi : i + 6 ≤ L) (hcs : cells + 6 ≤ room_1.cells ∧ slots + 36 ≤ room_1.slots) (hI : lwI D cy ad ad' o u w f H) (hR : swRl u w) (hS : va_S (lwA s) s.heap H locs) (hl : lv_has ls 7 (lwL b o i ad ad'))
    (kk : ∀ (u w : swU) (f : Nat → Int64) (H : Heap) (locs : List Loc) (ls : Array Slot), lwI D cy ad ad' o u w f H → swRl u w → va_S (lwA s) s.heap H locs → lv_has ls 7 (lwL b o i ad ad') → W p l e room_1 s m args below meth c H locs (cells + 6) (slots + 36) Q (F0 m 1604 ls [])) : W p l e room_1 s m args below meth c H locs cells slots Q (F0 m 1016 ls []) := by
  obtain ⟨k, f', u', r, w', eX, eM, ht, hr, hR'⟩ := xq_rule hR (xs (i + 1)) (xs (i + 2)) (xs (i + 3)) (xs (i + 4)) f
  have hx := E.1
  have hb := E.2.1
  have hts := E.2.2.2.2
  refine lv_aload_n hx hb dL_law_1016 rfl (lv_at hl 3 rfl) ?_
  refine lw_arg (i := i) (k := 1) (ka := 4) (kb := 0) hx hb hX hbl hS hl rfl rfl (by omega) hL rfl dL_law_1017 dL_law_1018 dL_law_1020 dL_law_1021 dL_law_1022 ?_
  refine lw_arg (i := i) (k := 2) (ka := 4) (kb := 0) hx hb hX hbl hS hl rfl rfl (by omega) hL rfl dL_law_1023 dL_law_1024 dL_law_1026 dL_law_1027 dL_law_1028 ?_
  refine lw_arg (i := i) (k := 3) (ka := 4) (kb := 0) hx hb hX hbl hS hl rfl rfl (by omega) hL rfl dL_law_1029 dL_law_1030 dL_law_1032 dL_law_1033 dL_law_1034 ?_
  refine lw_arg (i := i) (k := 4) (ka := 4) (kb := 0) hx hb hX hbl hS hl rfl rfl (by omega) hL rfl dL_law_1035 dL_law_1036 dL_law_1038 dL_law_1039 dL_law_1040 ?_
  refine lv_aload_n hx hb dL_law_1041 rfl (lv_at hl 1 rfl) ?_
  refine lw_callL (As := [.ref (ad 0), .int (xs (i + 1)), .int (xs (i + 2)), .int (xs (i + 3)), .int (xs (i + 4)), .ref o]) (rest := []) E hF (xlm_rule l hst D cy ad hF.1 o hF.2.2.1 u (xs (i + 1)) (xs (i + 2)) (xs (i + 3)) (xs (i + 4)) f H.size k f' u' eX) (vx_cwSW 6 hts gL_law_L_rule rfl rfl rfl (by decide +kernel) ⟨Nat.le_of_ble_eq_true rfl, Nat.le_of_ble_eq_true rfl⟩) hI hS ⟨by omega, by omega⟩ rfl hl.1 rfl (Nat.le_of_ble_eq_true rfl) dL_law_1042 (fun H locs hI hS => ?_)
  refine lv_istore (lv' := (5, .int k) :: lwL b o i ad ad') hx hb dL_law_1045 hl (by decide) rfl (fun ls hl => ?_)
  refine lv_aload_n hx hb dL_law_1047 rfl (lv_at hl 3 rfl) ?_
  refine lw_arg (i := i) (k := 1) (ka := 5) (kb := 1) hx hb hX hbl hS hl rfl rfl (by omega) hL rfl dL_law_1048 dL_law_1049 dL_law_1051 dL_law_1052 dL_law_1053 ?_
  refine lw_arg (i := i) (k := 2) (ka := 5) (kb := 1) hx hb hX hbl hS hl rfl rfl (by omega) hL rfl dL_law_1054 dL_law_1055 dL_law_1057 dL_law_1058 dL_law_1059 ?_
  refine lw_arg (i := i) (k := 3) (ka := 5) (kb := 1) hx hb hX hbl hS hl rfl rfl (by omega) hL rfl dL_law_1060 dL_law_1061 dL_law_1063 dL_law_1064 dL_law_1065 ?_
  refine lw_arg (i := i) (k := 4) (ka := 5) (kb := 1) hx hb hX hbl hS hl rfl rfl (by omega) hL rfl dL_law_1066 dL_law_1067 dL_law_1069 dL_law_1070 dL_law_1071 ?_
  refine lw_callM (As := [.int (xs (i + 1)), .int (xs (i + 2)), .int (xs (i + 3)), .int (xs (i + 4))]) (rest := []) E hF (mm_rule l D cy ad' hF.2.1 w (xs (i + 1)) (xs (i + 2)) (xs (i + 3)) (xs (i + 4)) r w' eM) (cwV 4 hts gL_law_X6_rule rfl rfl rfl (by decide +kernel) ⟨Nat.le_of_ble_eq_true rfl, Nat.le_of_ble_eq_true rfl⟩) hI hS ⟨by omega, by omega⟩ rfl hl.1 rfl (Nat.le_of_ble_eq_true rfl) dL_law_1072 (fun H locs hI hS => ?_)
  refine W.widen (k := cells + 6) (n := slots + 36) (by omega) (by omega) ?_
  exact lw_tail E hF hcs (off := 499) ⟨dL_law_1075, dL_law_1077, dL_law_1078, dL_law_1081, dL_law_1083, dL_law_1088, dL_law_1090, dL_law_1093, dL_law_1094, dL_law_1095, dL_law_1096, dL_law_1098, dL_law_1099, dL_law_1100, dL_law_1105⟩ (by decide) hI ht hr hl (fun ls hl => kk u' w' f' H locs ls hI hR' hS hl)
set_option maxHeartbeats 1000000 in
set_option maxRecDepth 100000 in
theorem lw_k_tighten (E : CallFix p m c cL_law 7 s args wsL_law RL) (hst : l.stackTraces = false) (hF : lwF s D cy ad ad' o) (hX : va_X b L xs s s.heap) (hbl : b < s.heap.size) (hL : L ≤ 3072) (hi : i + 6 ≤ L) (hcs : cells + 6 ≤ room_1.cells ∧ slots + 36 ≤ room_1.slots) (hI : lwI D cy ad ad' o u w f H) (hR : swRl u w) (hS : va_S (lwA s) s.heap H locs) (hl : lv_has ls 7 (lwL b o i ad ad'))
    (kk : ∀ (u w : swU) (f : Nat → Int64) (H : Heap) (locs : List Loc) (ls : Array Slot), lwI D cy ad ad' o u w f H → swRl u w → va_S (lwA s) s.heap H locs → lv_has ls 7 (lwL b o i ad ad') → W p l e room_1 s m args below meth c H locs (cells + 6) (slots + 36) Q (F0 m 1604 ls [])) : W p l e room_1 s m args below meth c H locs cells slots Q (F0 m 1108 ls []) := by
  obtain ⟨k, f', u', r, w', eX, eM, ht, hr, hR'⟩ := xq_tighten hR (xs (i + 1)) (xs (i + 2)) (xs (i + 3)) f
  have hx := E.1
  have hb := E.2.1
  have hts := E.2.2.2.2
  refine lv_aload_n hx hb dL_law_1108 rfl (lv_at hl 3 rfl) ?_
  refine lw_arg (i := i) (k := 1) (ka := 4) (kb := 0) hx hb hX hbl hS hl rfl rfl (by omega) hL rfl dL_law_1109 dL_law_1110 dL_law_1112 dL_law_1113 dL_law_1114 ?_
  refine lw_arg (i := i) (k := 2) (ka := 4) (kb := 0) hx hb hX hbl hS hl rfl rfl (by omega) hL rfl dL_law_1115 dL_law_1116 dL_law_1118 dL_law_1119 dL_law_1120 ?_
  refine lw_arg (i := i) (k := 3) (ka := 4) (kb := 0) hx hb hX hbl hS hl rfl rfl (by omega) hL rfl dL_law_1121 dL_law_1122 dL_law_1124 dL_law_1125 dL_law_1126 ?_
  refine lv_aload_n hx hb dL_law_1127 rfl (lv_at hl 1 rfl) ?_
  refine lw_callL (As := [.ref (ad 0), .int (xs (i + 1)), .int (xs (i + 2)), .int (xs (i + 3)), .ref o]) (rest := []) E hF (xlm_tighten l hst D cy ad hF.1 o hF.2.2.1 u (xs (i + 1)) (xs (i + 2)) (xs (i + 3)) f H.size k f' u' eX) (vx_cwSW 5 hts gL_law_L_tighten rfl rfl rfl (by decide +kernel) ⟨Nat.le_of_ble_eq_true rfl, Nat.le_of_ble_eq_true rfl⟩) hI hS ⟨by omega, by omega⟩ rfl hl.1 rfl (Nat.le_of_ble_eq_true rfl) dL_law_1128 (fun H locs hI hS => ?_)
  refine lv_istore (lv' := (5, .int k) :: lwL b o i ad ad') hx hb dL_law_1131 hl (by decide) rfl (fun ls hl => ?_)
  refine lv_aload_n hx hb dL_law_1133 rfl (lv_at hl 3 rfl) ?_
  refine lw_arg (i := i) (k := 1) (ka := 5) (kb := 1) hx hb hX hbl hS hl rfl rfl (by omega) hL rfl dL_law_1134 dL_law_1135 dL_law_1137 dL_law_1138 dL_law_1139 ?_
  refine lw_arg (i := i) (k := 2) (ka := 5) (kb := 1) hx hb hX hbl hS hl rfl rfl (by omega) hL rfl dL_law_1140 dL_law_1141 dL_law_1143 dL_law_1144 dL_law_1145 ?_
  refine lw_arg (i := i) (k := 3) (ka := 5) (kb := 1) hx hb hX hbl hS hl rfl rfl (by omega) hL rfl dL_law_1146 dL_law_1147 dL_law_1149 dL_law_1150 dL_law_1151 ?_
  refine lw_callM (As := [.int (xs (i + 1)), .int (xs (i + 2)), .int (xs (i + 3))]) (rest := []) E hF (mm_tighten l D cy ad' hF.2.1 w (xs (i + 1)) (xs (i + 2)) (xs (i + 3)) r w' eM) (cwV 3 hts gL_law_X6_tighten rfl rfl rfl (by decide +kernel) ⟨Nat.le_of_ble_eq_true rfl, Nat.le_of_ble_eq_true rfl⟩) hI hS ⟨by omega, by omega⟩ rfl hl.1 rfl (Nat.le_of_ble_eq_true rfl) dL_law_1152 (fun H locs hI hS => ?_)
  refine W.widen (k := cells + 6) (n := slots + 36) (by omega) (by omega) ?_
  exact lw_tail E hF hcs (off := 419) ⟨dL_law_1155, dL_law_1157, dL_law_1158, dL_law_1161, dL_law_1163, dL_law_1168, dL_law_1170, dL_law_1173, dL_law_1174, dL_law_1175, dL_law_1176, dL_law_1178, dL_law_1179, dL_law_1180, dL_law_1185⟩ (by decide) hI ht hr hl (fun ls hl => kk u' w' f' H locs ls hI hR' hS hl)
set_option maxHeartbeats 1000000 in
set_option maxRecDepth 100000 in
theorem lw_k_waive (E : CallFix p m c cL_law 7 s args wsL_law RL) (hst : l.stackTraces = false) (hF : lwF s D cy ad ad' o) (hX : va_X b L xs s s.heap) (hbl : b < s.heap.size) (hL : L ≤ 3072) (hi : i + 6 ≤ L) (hcs : cells + 6 ≤ room_1.cells ∧ slots + 36 ≤ room_1.slots) (hI : lwI D cy ad ad' o u w f H) (hR : swRl u w) (hS : va_S (lwA s) s.heap H locs) (hl : lv_has ls 7 (lwL b o i ad ad'))
    (kk : ∀ (u w : swU) (f : Nat → Int64) (H : Heap) (locs : List Loc) (ls : Array Slot), lwI D cy ad ad' o u w f H → swRl u w → va_S (lwA s) s.heap H locs → lv_has ls 7 (lwL b o i ad ad') → W p l e room_1 s m args below meth c H locs (cells + 6) (slots + 36) Q (F0 m 1604 ls [])) : W p l e room_1 s m args below meth c H locs cells slots Q (F0 m 1188 ls []) := by
  obtain ⟨k, f', u', r, w', eX, eM, ht, hr, hR'⟩ := xq_waive hR (xs (i + 1)) (xs (i + 2)) (xs (i + 3)) f
  have hx := E.1
  have hb := E.2.1
  have hts := E.2.2.2.2
  refine lv_aload_n hx hb dL_law_1188 rfl (lv_at hl 3 rfl) ?_
  refine lw_arg (i := i) (k := 1) (ka := 4) (kb := 0) hx hb hX hbl hS hl rfl rfl (by omega) hL rfl dL_law_1189 dL_law_1190 dL_law_1192 dL_law_1193 dL_law_1194 ?_
  refine lw_arg (i := i) (k := 2) (ka := 4) (kb := 0) hx hb hX hbl hS hl rfl rfl (by omega) hL rfl dL_law_1195 dL_law_1196 dL_law_1198 dL_law_1199 dL_law_1200 ?_
  refine lw_arg (i := i) (k := 3) (ka := 4) (kb := 0) hx hb hX hbl hS hl rfl rfl (by omega) hL rfl dL_law_1201 dL_law_1202 dL_law_1204 dL_law_1205 dL_law_1206 ?_
  refine lv_aload_n hx hb dL_law_1207 rfl (lv_at hl 1 rfl) ?_
  refine lw_callL (As := [.ref (ad 0), .int (xs (i + 1)), .int (xs (i + 2)), .int (xs (i + 3)), .ref o]) (rest := []) E hF (xlm_waive l hst D cy ad hF.1 o hF.2.2.1 u (xs (i + 1)) (xs (i + 2)) (xs (i + 3)) f H.size k f' u' eX) (vx_cwSW 5 hts gL_law_L_waive rfl rfl rfl (by decide +kernel) ⟨Nat.le_of_ble_eq_true rfl, Nat.le_of_ble_eq_true rfl⟩) hI hS ⟨by omega, by omega⟩ rfl hl.1 rfl (Nat.le_of_ble_eq_true rfl) dL_law_1208 (fun H locs hI hS => ?_)
  refine lv_istore (lv' := (5, .int k) :: lwL b o i ad ad') hx hb dL_law_1211 hl (by decide) rfl (fun ls hl => ?_)
  refine lv_aload_n hx hb dL_law_1213 rfl (lv_at hl 3 rfl) ?_
  refine lw_arg (i := i) (k := 1) (ka := 5) (kb := 1) hx hb hX hbl hS hl rfl rfl (by omega) hL rfl dL_law_1214 dL_law_1215 dL_law_1217 dL_law_1218 dL_law_1219 ?_
  refine lw_arg (i := i) (k := 2) (ka := 5) (kb := 1) hx hb hX hbl hS hl rfl rfl (by omega) hL rfl dL_law_1220 dL_law_1221 dL_law_1223 dL_law_1224 dL_law_1225 ?_
  refine lw_arg (i := i) (k := 3) (ka := 5) (kb := 1) hx hb hX hbl hS hl rfl rfl (by omega) hL rfl dL_law_1226 dL_law_1227 dL_law_1229 dL_law_1230 dL_law_1231 ?_
  refine lw_callM (As := [.int (xs (i + 1)), .int (xs (i + 2)), .int (xs (i + 3))]) (rest := []) E hF (mm_waive l D cy ad' hF.2.1 w (xs (i + 1)) (xs (i + 2)) (xs (i + 3)) r w' eM) (cwV 3 hts gL_law_X6_waive rfl rfl rfl (by decide +kernel) ⟨Nat.le_of_ble_eq_true rfl, Nat.le_of_ble_eq_true rfl⟩) hI hS ⟨by omega, by omega⟩ rfl hl.1 rfl (Nat.le_of_ble_eq_true rfl) dL_law_1232 (fun H locs hI hS => ?_)
  refine W.widen (k := cells + 6) (n := slots + 36) (by omega) (by omega) ?_
  exact lw_tail E hF hcs (off := 339) ⟨dL_law_1235, dL_law_1237, dL_law_1238, dL_law_1241, dL_law_1243, dL_law_1248, dL_law_1250, dL_law_1253, dL_law_1254, dL_law_1255, dL_law_1256, dL_law_1258, dL_law_1259, dL_law_1260, dL_law_1265⟩ (by decide) hI ht hr hl (fun ls hl => kk u' w' f' H locs ls hI hR' hS hl)
set_option maxHeartbeats 1000000 in
set_option maxRecDepth 100000 in
theorem lw_k_blocks (E : CallFix p m c cL_law 7 s args wsL_law RL) (hst : l.stackTraces = false) (hF : lwF s D cy ad ad' o) (hX : va_X b L xs s s.heap) (hbl : b < s.heap.size) (hL : L ≤ 3072) (hi : i + 6 ≤ L) (hcs : cells + 6 ≤ room_1.cells ∧ slots + 36 ≤ room_1.slots) (hI : lwI D cy ad ad' o u w f H) (hR : swRl u w) (hS : va_S (lwA s) s.heap H locs) (hl : lv_has ls 7 (lwL b o i ad ad'))
    (kk : ∀ (u w : swU) (f : Nat → Int64) (H : Heap) (locs : List Loc) (ls : Array Slot), lwI D cy ad ad' o u w f H → swRl u w → va_S (lwA s) s.heap H locs → lv_has ls 7 (lwL b o i ad ad') → W p l e room_1 s m args below meth c H locs (cells + 6) (slots + 36) Q (F0 m 1604 ls [])) : W p l e room_1 s m args below meth c H locs cells slots Q (F0 m 1268 ls []) := by
  obtain ⟨k, f', u', r, w', eX, eM, ht, hr, hR'⟩ := xq_blocks hR (xs (i + 1)) f
  have hx := E.1
  have hb := E.2.1
  have hts := E.2.2.2.2
  refine lv_aload_n hx hb dL_law_1268 rfl (lv_at hl 3 rfl) ?_
  refine lw_arg (i := i) (k := 1) (ka := 4) (kb := 0) hx hb hX hbl hS hl rfl rfl (by omega) hL rfl dL_law_1269 dL_law_1270 dL_law_1272 dL_law_1273 dL_law_1274 ?_
  refine lv_aload_n hx hb dL_law_1275 rfl (lv_at hl 1 rfl) ?_
  refine lw_callL (As := [.ref (ad 0), .int (xs (i + 1)), .ref o]) (rest := []) E hF (xlm_blocks l hst D cy ad hF.1 o hF.2.2.1 u (xs (i + 1)) f H.size k f' u' eX) (vx_cwSW 3 hts gL_law_L_blocks rfl rfl rfl (by decide +kernel) ⟨Nat.le_of_ble_eq_true rfl, Nat.le_of_ble_eq_true rfl⟩) hI hS ⟨by omega, by omega⟩ rfl hl.1 rfl (Nat.le_of_ble_eq_true rfl) dL_law_1276 (fun H locs hI hS => ?_)
  refine lv_istore (lv' := (5, .int k) :: lwL b o i ad ad') hx hb dL_law_1279 hl (by decide) rfl (fun ls hl => ?_)
  refine lv_aload_n hx hb dL_law_1281 rfl (lv_at hl 3 rfl) ?_
  refine lw_arg (i := i) (k := 1) (ka := 5) (kb := 1) hx hb hX hbl hS hl rfl rfl (by omega) hL rfl dL_law_1282 dL_law_1283 dL_law_1285 dL_law_1286 dL_law_1287 ?_
  refine lw_callM (As := [.int (xs (i + 1))]) (rest := []) E hF (mm_blocks l D cy ad' hF.2.1 w (xs (i + 1)) r w' eM) (cwV 1 hts gL_law_X6_blocks rfl rfl rfl (by decide +kernel) ⟨Nat.le_of_ble_eq_true rfl, Nat.le_of_ble_eq_true rfl⟩) hI hS ⟨by omega, by omega⟩ rfl hl.1 rfl (Nat.le_of_ble_eq_true rfl) dL_law_1288 (fun H locs hI hS => ?_)
  refine W.widen (k := cells + 6) (n := slots + 36) (by omega) (by omega) ?_
  exact lw_tail E hF hcs (off := 283) ⟨dL_law_1291, dL_law_1293, dL_law_1294, dL_law_1297, dL_law_1299, dL_law_1304, dL_law_1306, dL_law_1309, dL_law_1310, dL_law_1311, dL_law_1312, dL_law_1314, dL_law_1315, dL_law_1316, dL_law_1321⟩ (by decide) hI ht hr hl (fun ls hl => kk u' w' f' H locs ls hI hR' hS hl)
set_option maxHeartbeats 1000000 in
set_option maxRecDepth 100000 in
theorem lw_k_warnings (E : CallFix p m c cL_law 7 s args wsL_law RL) (hst : l.stackTraces = false) (hF : lwF s D cy ad ad' o) (hX : va_X b L xs s s.heap) (hbl : b < s.heap.size) (hL : L ≤ 3072) (hi : i + 6 ≤ L) (hcs : cells + 6 ≤ room_1.cells ∧ slots + 36 ≤ room_1.slots) (hI : lwI D cy ad ad' o u w f H) (hR : swRl u w) (hS : va_S (lwA s) s.heap H locs) (hl : lv_has ls 7 (lwL b o i ad ad'))
    (kk : ∀ (u w : swU) (f : Nat → Int64) (H : Heap) (locs : List Loc) (ls : Array Slot), lwI D cy ad ad' o u w f H → swRl u w → va_S (lwA s) s.heap H locs → lv_has ls 7 (lwL b o i ad ad') → W p l e room_1 s m args below meth c H locs (cells + 6) (slots + 36) Q (F0 m 1604 ls [])) : W p l e room_1 s m args below meth c H locs cells slots Q (F0 m 1324 ls []) := by
  obtain ⟨k, f', u', r, w', eX, eM, ht, hr, hR'⟩ := xq_warnings hR (xs (i + 1)) f
  have hx := E.1
  have hb := E.2.1
  have hts := E.2.2.2.2
  refine lv_aload_n hx hb dL_law_1324 rfl (lv_at hl 3 rfl) ?_
  refine lw_arg (i := i) (k := 1) (ka := 4) (kb := 0) hx hb hX hbl hS hl rfl rfl (by omega) hL rfl dL_law_1325 dL_law_1326 dL_law_1328 dL_law_1329 dL_law_1330 ?_
  refine lv_aload_n hx hb dL_law_1331 rfl (lv_at hl 1 rfl) ?_
  refine lw_callL (As := [.ref (ad 0), .int (xs (i + 1)), .ref o]) (rest := []) E hF (xlm_warnings l hst D cy ad hF.1 o hF.2.2.1 u (xs (i + 1)) f H.size k f' u' eX) (vx_cwSW 3 hts gL_law_L_warnings rfl rfl rfl (by decide +kernel) ⟨Nat.le_of_ble_eq_true rfl, Nat.le_of_ble_eq_true rfl⟩) hI hS ⟨by omega, by omega⟩ rfl hl.1 rfl (Nat.le_of_ble_eq_true rfl) dL_law_1332 (fun H locs hI hS => ?_)
  refine lv_istore (lv' := (5, .int k) :: lwL b o i ad ad') hx hb dL_law_1335 hl (by decide) rfl (fun ls hl => ?_)
  refine lv_aload_n hx hb dL_law_1337 rfl (lv_at hl 3 rfl) ?_
  refine lw_arg (i := i) (k := 1) (ka := 5) (kb := 1) hx hb hX hbl hS hl rfl rfl (by omega) hL rfl dL_law_1338 dL_law_1339 dL_law_1341 dL_law_1342 dL_law_1343 ?_
  refine lw_callM (As := [.int (xs (i + 1))]) (rest := []) E hF (mm_warnings l D cy ad' hF.2.1 w (xs (i + 1)) r w' eM) (cwV 1 hts gL_law_X6_warnings rfl rfl rfl (by decide +kernel) ⟨Nat.le_of_ble_eq_true rfl, Nat.le_of_ble_eq_true rfl⟩) hI hS ⟨by omega, by omega⟩ rfl hl.1 rfl (Nat.le_of_ble_eq_true rfl) dL_law_1344 (fun H locs hI hS => ?_)
  refine W.widen (k := cells + 6) (n := slots + 36) (by omega) (by omega) ?_
  exact lw_tail E hF hcs (off := 227) ⟨dL_law_1347, dL_law_1349, dL_law_1350, dL_law_1353, dL_law_1355, dL_law_1360, dL_law_1362, dL_law_1365, dL_law_1366, dL_law_1367, dL_law_1368, dL_law_1370, dL_law_1371, dL_law_1372, dL_law_1377⟩ (by decide) hI ht hr hl (fun ls hl => kk u' w' f' H locs ls hI hR' hS hl)
set_option maxHeartbeats 1000000 in
set_option maxRecDepth 100000 in
theorem lw_k_firstBlock (E : CallFix p m c cL_law 7 s args wsL_law RL) (hst : l.stackTraces = false) (hF : lwF s D cy ad ad' o) (hX : va_X b L xs s s.heap) (hbl : b < s.heap.size) (hL : L ≤ 3072) (hi : i + 6 ≤ L) (hcs : cells + 6 ≤ room_1.cells ∧ slots + 36 ≤ room_1.slots) (hI : lwI D cy ad ad' o u w f H) (hR : swRl u w) (hS : va_S (lwA s) s.heap H locs) (hl : lv_has ls 7 (lwL b o i ad ad'))
    (kk : ∀ (u w : swU) (f : Nat → Int64) (H : Heap) (locs : List Loc) (ls : Array Slot), lwI D cy ad ad' o u w f H → swRl u w → va_S (lwA s) s.heap H locs → lv_has ls 7 (lwL b o i ad ad') → W p l e room_1 s m args below meth c H locs (cells + 6) (slots + 36) Q (F0 m 1604 ls [])) : W p l e room_1 s m args below meth c H locs cells slots Q (F0 m 1380 ls []) := by
  obtain ⟨k, f', u', r, w', eX, eM, ht, hr, hR'⟩ := xq_firstBlock hR (xs (i + 1)) f
  have hx := E.1
  have hb := E.2.1
  have hts := E.2.2.2.2
  refine lv_aload_n hx hb dL_law_1380 rfl (lv_at hl 3 rfl) ?_
  refine lw_arg (i := i) (k := 1) (ka := 4) (kb := 0) hx hb hX hbl hS hl rfl rfl (by omega) hL rfl dL_law_1381 dL_law_1382 dL_law_1384 dL_law_1385 dL_law_1386 ?_
  refine lv_aload_n hx hb dL_law_1387 rfl (lv_at hl 1 rfl) ?_
  refine lw_callL (As := [.ref (ad 0), .int (xs (i + 1)), .ref o]) (rest := []) E hF (xlm_firstBlock l hst D cy ad hF.1 o hF.2.2.1 u (xs (i + 1)) f H.size k f' u' eX) (vx_cwSW 3 hts gL_law_L_firstBlock rfl rfl rfl (by decide +kernel) ⟨Nat.le_of_ble_eq_true rfl, Nat.le_of_ble_eq_true rfl⟩) hI hS ⟨by omega, by omega⟩ rfl hl.1 rfl (Nat.le_of_ble_eq_true rfl) dL_law_1388 (fun H locs hI hS => ?_)
  refine lv_istore (lv' := (5, .int k) :: lwL b o i ad ad') hx hb dL_law_1391 hl (by decide) rfl (fun ls hl => ?_)
  refine lv_aload_n hx hb dL_law_1393 rfl (lv_at hl 3 rfl) ?_
  refine lw_arg (i := i) (k := 1) (ka := 5) (kb := 1) hx hb hX hbl hS hl rfl rfl (by omega) hL rfl dL_law_1394 dL_law_1395 dL_law_1397 dL_law_1398 dL_law_1399 ?_
  refine lw_callM (As := [.int (xs (i + 1))]) (rest := []) E hF (mm_firstBlock l D cy ad' hF.2.1 w (xs (i + 1)) r w' eM) (cwV 1 hts gL_law_X6_firstBlock rfl rfl rfl (by decide +kernel) ⟨Nat.le_of_ble_eq_true rfl, Nat.le_of_ble_eq_true rfl⟩) hI hS ⟨by omega, by omega⟩ rfl hl.1 rfl (Nat.le_of_ble_eq_true rfl) dL_law_1400 (fun H locs hI hS => ?_)
  refine W.widen (k := cells + 6) (n := slots + 36) (by omega) (by omega) ?_
  exact lw_tail E hF hcs (off := 171) ⟨dL_law_1403, dL_law_1405, dL_law_1406, dL_law_1409, dL_law_1411, dL_law_1416, dL_law_1418, dL_law_1421, dL_law_1422, dL_law_1423, dL_law_1424, dL_law_1426, dL_law_1427, dL_law_1428, dL_law_1433⟩ (by decide) hI ht hr hl (fun ls hl => kk u' w' f' H locs ls hI hR' hS hl)
set_option maxHeartbeats 1000000 in
set_option maxRecDepth 100000 in
theorem lw_k_show (E : CallFix p m c cL_law 7 s args wsL_law RL) (hst : l.stackTraces = false) (hF : lwF s D cy ad ad' o) (hX : va_X b L xs s s.heap) (hbl : b < s.heap.size) (hL : L ≤ 3072) (hi : i + 6 ≤ L) (hcs : cells + 6 ≤ room_1.cells ∧ slots + 36 ≤ room_1.slots) (hI : lwI D cy ad ad' o u w f H) (hR : swRl u w) (hS : va_S (lwA s) s.heap H locs) (hl : lv_has ls 7 (lwL b o i ad ad'))
    (kk : ∀ (u w : swU) (f : Nat → Int64) (H : Heap) (locs : List Loc) (ls : Array Slot), lwI D cy ad ad' o u w f H → swRl u w → va_S (lwA s) s.heap H locs → lv_has ls 7 (lwL b o i ad ad') → W p l e room_1 s m args below meth c H locs (cells + 6) (slots + 36) Q (F0 m 1604 ls [])) : W p l e room_1 s m args below meth c H locs cells slots Q (F0 m 1436 ls []) := by
  obtain ⟨k, f', u', r, w', eX, eM, ht, hr, hR'⟩ := xq_show hR (xs (i + 1)) f
  have hx := E.1
  have hb := E.2.1
  have hts := E.2.2.2.2
  refine lv_aload_n hx hb dL_law_1436 rfl (lv_at hl 3 rfl) ?_
  refine lw_arg (i := i) (k := 1) (ka := 4) (kb := 0) hx hb hX hbl hS hl rfl rfl (by omega) hL rfl dL_law_1437 dL_law_1438 dL_law_1440 dL_law_1441 dL_law_1442 ?_
  refine lv_aload_n hx hb dL_law_1443 rfl (lv_at hl 1 rfl) ?_
  refine lw_callL (As := [.ref (ad 0), .int (xs (i + 1)), .ref o]) (rest := []) E hF (xlm_show l hst D cy ad hF.1 o hF.2.2.1 u (xs (i + 1)) f H.size k f' u' eX) (vx_cwSW 3 hts gL_law_L_show rfl rfl rfl (by decide +kernel) ⟨Nat.le_of_ble_eq_true rfl, Nat.le_of_ble_eq_true rfl⟩) hI hS ⟨by omega, by omega⟩ rfl hl.1 rfl (Nat.le_of_ble_eq_true rfl) dL_law_1444 (fun H locs hI hS => ?_)
  refine lv_istore (lv' := (5, .int k) :: lwL b o i ad ad') hx hb dL_law_1447 hl (by decide) rfl (fun ls hl => ?_)
  refine lv_aload_n hx hb dL_law_1449 rfl (lv_at hl 3 rfl) ?_
  refine lw_arg (i := i) (k := 1) (ka := 5) (kb := 1) hx hb hX hbl hS hl rfl rfl (by omega) hL rfl dL_law_1450 dL_law_1451 dL_law_1453 dL_law_1454 dL_law_1455 ?_
  refine lw_callM (As := [.int (xs (i + 1))]) (rest := []) E hF (mm_show l D cy ad' hF.2.1 w (xs (i + 1)) r w' eM) (cwV 1 hts gL_law_X6_show rfl rfl rfl (by decide +kernel) ⟨Nat.le_of_ble_eq_true rfl, Nat.le_of_ble_eq_true rfl⟩) hI hS ⟨by omega, by omega⟩ rfl hl.1 rfl (Nat.le_of_ble_eq_true rfl) dL_law_1456 (fun H locs hI hS => ?_)
  refine W.widen (k := cells + 6) (n := slots + 36) (by omega) (by omega) ?_
  exact lw_tail E hF hcs (off := 115) ⟨dL_law_1459, dL_law_1461, dL_law_1462, dL_law_1465, dL_law_1467, dL_law_1472, dL_law_1474, dL_law_1477, dL_law_1478, dL_law_1479, dL_law_1480, dL_law_1482, dL_law_1483, dL_law_1484, dL_law_1489⟩ (by decide) hI ht hr hl (fun ls hl => kk u' w' f' H locs ls hI hR' hS hl)
set_option maxHeartbeats 1000000 in
set_option maxRecDepth 100000 in
theorem lw_k_shown (E : CallFix p m c cL_law 7 s args wsL_law RL) (hst : l.stackTraces = false) (hF : lwF s D cy ad ad' o) (hX : va_X b L xs s s.heap) (hbl : b < s.heap.size) (hL : L ≤ 3072) (hi : i + 6 ≤ L) (hcs : cells + 6 ≤ room_1.cells ∧ slots + 36 ≤ room_1.slots) (hI : lwI D cy ad ad' o u w f H) (hR : swRl u w) (hS : va_S (lwA s) s.heap H locs) (hl : lv_has ls 7 (lwL b o i ad ad'))
    (kk : ∀ (u w : swU) (f : Nat → Int64) (H : Heap) (locs : List Loc) (ls : Array Slot), lwI D cy ad ad' o u w f H → swRl u w → va_S (lwA s) s.heap H locs → lv_has ls 7 (lwL b o i ad ad') → W p l e room_1 s m args below meth c H locs (cells + 6) (slots + 36) Q (F0 m 1604 ls [])) : W p l e room_1 s m args below meth c H locs cells slots Q (F0 m 1492 ls []) := by
  obtain ⟨k, f', u', r, w', eX, eM, ht, hr, hR'⟩ := xq_shown hR (xs (i + 1)) f
  have hx := E.1
  have hb := E.2.1
  have hts := E.2.2.2.2
  refine lv_aload_n hx hb dL_law_1492 rfl (lv_at hl 3 rfl) ?_
  refine lw_arg (i := i) (k := 1) (ka := 4) (kb := 0) hx hb hX hbl hS hl rfl rfl (by omega) hL rfl dL_law_1493 dL_law_1494 dL_law_1496 dL_law_1497 dL_law_1498 ?_
  refine lv_aload_n hx hb dL_law_1499 rfl (lv_at hl 1 rfl) ?_
  refine lw_callL (As := [.ref (ad 0), .int (xs (i + 1)), .ref o]) (rest := []) E hF (xlm_shown l hst D cy ad hF.1 o hF.2.2.1 u (xs (i + 1)) f H.size k f' u' eX) (vx_cwSW 3 hts gL_law_L_shown rfl rfl rfl (by decide +kernel) ⟨Nat.le_of_ble_eq_true rfl, Nat.le_of_ble_eq_true rfl⟩) hI hS ⟨by omega, by omega⟩ rfl hl.1 rfl (Nat.le_of_ble_eq_true rfl) dL_law_1500 (fun H locs hI hS => ?_)
  refine lv_istore (lv' := (5, .int k) :: lwL b o i ad ad') hx hb dL_law_1503 hl (by decide) rfl (fun ls hl => ?_)
  refine lv_aload_n hx hb dL_law_1505 rfl (lv_at hl 3 rfl) ?_
  refine lw_arg (i := i) (k := 1) (ka := 5) (kb := 1) hx hb hX hbl hS hl rfl rfl (by omega) hL rfl dL_law_1506 dL_law_1507 dL_law_1509 dL_law_1510 dL_law_1511 ?_
  refine lw_callM (As := [.int (xs (i + 1))]) (rest := []) E hF (mm_shown l D cy ad' hF.2.1 w (xs (i + 1)) r w' eM) (cwV 1 hts gL_law_X6_shown rfl rfl rfl (by decide +kernel) ⟨Nat.le_of_ble_eq_true rfl, Nat.le_of_ble_eq_true rfl⟩) hI hS ⟨by omega, by omega⟩ rfl hl.1 rfl (Nat.le_of_ble_eq_true rfl) dL_law_1512 (fun H locs hI hS => ?_)
  refine W.widen (k := cells + 6) (n := slots + 36) (by omega) (by omega) ?_
  exact lw_tail E hF hcs (off := 59) ⟨dL_law_1515, dL_law_1517, dL_law_1518, dL_law_1521, dL_law_1523, dL_law_1528, dL_law_1530, dL_law_1533, dL_law_1534, dL_law_1535, dL_law_1536, dL_law_1538, dL_law_1539, dL_law_1540, dL_law_1545⟩ (by decide) hI ht hr hl (fun ls hl => kk u' w' f' H locs ls hI hR' hS hl)
set_option maxHeartbeats 1000000 in
set_option maxRecDepth 100000 in
theorem lw_k_pass (E : CallFix p m c cL_law 7 s args wsL_law RL) (hst : l.stackTraces = false) (hF : lwF s D cy ad ad' o) (hX : va_X b L xs s s.heap) (hbl : b < s.heap.size) (hL : L ≤ 3072) (hi : i + 6 ≤ L) (hcs : cells + 6 ≤ room_1.cells ∧ slots + 36 ≤ room_1.slots) (hI : lwI D cy ad ad' o u w f H) (hR : swRl u w) (hS : va_S (lwA s) s.heap H locs) (hl : lv_has ls 7 (lwL b o i ad ad'))
    (kk : ∀ (u w : swU) (f : Nat → Int64) (H : Heap) (locs : List Loc) (ls : Array Slot), lwI D cy ad ad' o u w f H → swRl u w → va_S (lwA s) s.heap H locs → lv_has ls 7 (lwL b o i ad ad') → W p l e room_1 s m args below meth c H locs (cells + 6) (slots + 36) Q (F0 m 1604 ls [])) : W p l e room_1 s m args below meth c H locs cells slots Q (F0 m 1548 ls []) := by
  obtain ⟨k, f', u', r, w', eX, eM, ht, hr, hR'⟩ := xq_pass hR (xs (i + 1)) f
  have hx := E.1
  have hb := E.2.1
  have hts := E.2.2.2.2
  refine lv_aload_n hx hb dL_law_1548 rfl (lv_at hl 3 rfl) ?_
  refine lw_arg (i := i) (k := 1) (ka := 4) (kb := 0) hx hb hX hbl hS hl rfl rfl (by omega) hL rfl dL_law_1549 dL_law_1550 dL_law_1552 dL_law_1553 dL_law_1554 ?_
  refine lv_aload_n hx hb dL_law_1555 rfl (lv_at hl 1 rfl) ?_
  refine lw_callL (As := [.ref (ad 0), .int (xs (i + 1)), .ref o]) (rest := []) E hF (xlm_pass l hst D cy ad hF.1 o hF.2.2.1 u (xs (i + 1)) f H.size k f' u' eX) (vx_cwSW 3 hts gL_law_L_pass rfl rfl rfl (by decide +kernel) ⟨Nat.le_of_ble_eq_true rfl, Nat.le_of_ble_eq_true rfl⟩) hI hS ⟨by omega, by omega⟩ rfl hl.1 rfl (Nat.le_of_ble_eq_true rfl) dL_law_1556 (fun H locs hI hS => ?_)
  refine lv_istore (lv' := (5, .int k) :: lwL b o i ad ad') hx hb dL_law_1559 hl (by decide) rfl (fun ls hl => ?_)
  refine lv_aload_n hx hb dL_law_1561 rfl (lv_at hl 3 rfl) ?_
  refine lw_arg (i := i) (k := 1) (ka := 5) (kb := 1) hx hb hX hbl hS hl rfl rfl (by omega) hL rfl dL_law_1562 dL_law_1563 dL_law_1565 dL_law_1566 dL_law_1567 ?_
  refine lw_callM (As := [.int (xs (i + 1))]) (rest := []) E hF (mm_pass l D cy ad' hF.2.1 w (xs (i + 1)) r w' eM) (cwV 1 hts gL_law_X6_pass rfl rfl rfl (by decide +kernel) ⟨Nat.le_of_ble_eq_true rfl, Nat.le_of_ble_eq_true rfl⟩) hI hS ⟨by omega, by omega⟩ rfl hl.1 rfl (Nat.le_of_ble_eq_true rfl) dL_law_1568 (fun H locs hI hS => ?_)
  refine W.widen (k := cells + 6) (n := slots + 36) (by omega) (by omega) ?_
  exact lw_tail E hF hcs (off := 3) ⟨dL_law_1571, dL_law_1573, dL_law_1574, dL_law_1577, dL_law_1579, dL_law_1584, dL_law_1586, dL_law_1589, dL_law_1590, dL_law_1591, dL_law_1592, dL_law_1594, dL_law_1595, dL_law_1596, dL_law_1601⟩ (by decide) hI ht hr hl (fun ls hl => kk u' w' f' H locs ls hI hR' hS hl)
end LAWCASES
