def LwGo (p : Program) (l : Launch) (e : Env) (s : State) (m : MethodId) (below : List Frame) (meth : Method) (c : Code) (b : Nat) (D : va_G) (cy : Nat → ClassId) (aC aM : Nat → Nat) (o i k n : Nat) : Prop := ∀ (I : Nat → Int32) (Lg : Nat → Int64) (A : Nat → Nat → Int32) (B : Nat → Nat → Int64) (J : Nat → Int32) (E : Nat → Nat → Int32) (f : Nat → Int64) (H : Heap) (locs : List Loc) (ls : Array Slot), LwP D cy aC aM o I Lg A B J E f H → va_S (sNew s) s.heap H locs → LSt I Lg A B J E → lv_has ls 7 [(0, .ref b), (1, .ref (aC 0)), (2, .ref (aM 0)), (3, .ref o), (4, .int (nI i))] → WL p l e s m b below meth c H locs k n (F0 m 1743 ls [])
theorem dL_law_216 : decode code 216 = .ok (.aload_n 1, 1) := by decide +kernel
theorem dL_law_217 : decode code 217 = .ok (.aload_n 0, 1) := by decide +kernel
theorem dL_law_218 : decode code 218 = .ok (.iload 4, 2) := by decide +kernel
theorem dL_law_220 : decode code 220 = .ok (.iconst 1, 1) := by decide +kernel
theorem dL_law_221 : decode code 221 = .ok (.iadd, 1) := by decide +kernel
theorem dL_law_222 : decode code 222 = .ok (.iaload, 1) := by decide +kernel
theorem dL_law_223 : decode code 223 = .ok (.invokevirtual 26, 3) := by decide +kernel
theorem dL_law_226 : decode code 226 = .ok (.aload_n 2, 1) := by decide +kernel
theorem dL_law_227 : decode code 227 = .ok (.aload_n 0, 1) := by decide +kernel
theorem dL_law_228 : decode code 228 = .ok (.iload 4, 2) := by decide +kernel
theorem dL_law_230 : decode code 230 = .ok (.iconst 1, 1) := by decide +kernel
theorem dL_law_231 : decode code 231 = .ok (.iadd, 1) := by decide +kernel
theorem dL_law_232 : decode code 232 = .ok (.iaload, 1) := by decide +kernel
theorem dL_law_233 : decode code 233 = .ok (.invokevirtual 30, 3) := by decide +kernel
theorem dL_law_236 : decode code 236 = .ok (.if_icmp .eq 1507, 3) := by decide +kernel
set_option maxHeartbeats 4000000 in
set_option maxRecDepth 100000 in
/-- axis -/
theorem law_0 {p : Program} {l : Launch} {e : Env} {s : State} {m : MethodId} {below : List Frame} {meth : Method} {c : Code} {b L : Nat} {xs : Nat → Int32} {D : va_G} {cy : Nat → ClassId} {aC aM : Nat → Nat} {AC AM : Nat → Prop} {o : Nat} (F : LwF p l s m meth c b L xs D cy aC aM AC AM o) {i : Nat} (hi : i + 5 ≤ L) {cells slots : Nat} (hcs : cells + 1 ≤ room_1.cells ∧ slots + 6 ≤ room_1.slots) (hgo : LwGo p l e s m below meth c b D cy aC aM o i (cells + 1) (slots + 6)) {I : Nat → Int32} {Lg : Nat → Int64} {A : Nat → Nat → Int32} {B : Nat → Nat → Int64} {J : Nat → Int32} {E : Nat → Nat → Int32} {f : Nat → Int64} {H : Heap} {locs : List Loc} {ls : Array Slot} (hP : LwP D cy aC aM o I Lg A B J E f H) (hS : va_S (sNew s) s.heap H locs) (hst : LSt I Lg A B J E) (hl : lv_has ls 7 [(0, .ref b), (1, .ref (aC 0)), (2, .ref (aM 0)), (3, .ref o), (4, .int (nI i))]) : WL p l e s m b below meth c H locs cells slots (F0 m 216 ls []) := by
  obtain ⟨S, hC, hM, hW⟩ := hst
  have hx := F.1.1
  have hb := F.1.2.1
  refine lv_aload_n hx hb dL_law_216 rfl (lv_at hl 1 rfl) ?_
  refine law_arg F (k := 1) 0 4 hl rfl rfl (by omega) (by decide) hS dL_law_217 dL_law_218 dL_law_220 dL_law_221 dL_law_222 ?_
  have hk := t_axis hC hM hW (xs (i + 1)) (K := fun r r' I1 B1 J1 E1 => r = r' ∧ LSt I1 Lg A B1 J1 E1) (by intros; exact ⟨rfl, _, by assumption, by assumption, by assumption⟩)
  refine lawCi F (As := [.int (xs (i + 1))]) (rest := []) (n := 1) (c_X9_axis F.2.2.2.2.2.1 I Lg A B (xs (i + 1)) _ hk) hP hS mw_2_32 wd_X9_axis rfl (by decide +kernel) ⟨rfl, rfl⟩ ⟨Nat.le_of_ble_eq_true rfl, Nat.le_of_ble_eq_true rfl⟩ rfl hl.1 rfl (Nat.le_of_ble_eq_true rfl) dL_law_223 ⟨Nat.le_of_succ_le hcs.1, Nat.le_trans (Nat.le_add_right _ 6) hcs.2⟩ (fun r u H locs h hP hS => ?_)
  obtain ⟨I1, L1, A1, B1⟩ := u
  dsimp only at h hP
  obtain ⟨h, rfl, rfl⟩ := h
  try dsimp only at h
  refine lv_aload_n hx hb dL_law_226 rfl (lv_at hl 2 rfl) ?_
  refine law_arg F (k := 1) 0 4 hl rfl rfl (by omega) (by decide) hS dL_law_227 dL_law_228 dL_law_230 dL_law_231 dL_law_232 ?_
  refine lawMi F (As := [.int (xs (i + 1))]) (rest := [.int r]) (n := 1) (c_X10_axis F.2.2.2.2.2.2.1 J E (xs (i + 1)) _ h) hP hS mw_4_209 wd_X10_axis rfl (by decide +kernel) ⟨rfl, rfl⟩ ⟨Nat.le_of_ble_eq_true rfl, Nat.le_of_ble_eq_true rfl⟩ rfl hl.1 rfl (Nat.le_of_ble_eq_true rfl) dL_law_233 ⟨Nat.le_of_succ_le hcs.1, Nat.le_trans (Nat.le_add_right _ 6) hcs.2⟩ (fun r' u H locs h hP hS => ?_)
  obtain ⟨J1, E1⟩ := u
  dsimp only at h hP
  obtain ⟨hrr, hst⟩ := h
  refine lv_icmp_eq (tgt := 1743) hx hb dL_law_236 (by decide) (fun _ => ?_) (fun hc => absurd hrr hc)
  exact W.widen (k := cells + 1) (n := slots + 6) (Nat.le_succ _) (Nat.le_add_right _ _) (hgo _ _ _ _ _ _ _ _ _ _ hP hS hst hl)
theorem dL_law_241 : decode code 241 = .ok (.aload_n 1, 1) := by decide +kernel
theorem dL_law_242 : decode code 242 = .ok (.aload_n 0, 1) := by decide +kernel
theorem dL_law_243 : decode code 243 = .ok (.iload 4, 2) := by decide +kernel
theorem dL_law_245 : decode code 245 = .ok (.iconst 1, 1) := by decide +kernel
theorem dL_law_246 : decode code 246 = .ok (.iadd, 1) := by decide +kernel
theorem dL_law_247 : decode code 247 = .ok (.iaload, 1) := by decide +kernel
theorem dL_law_248 : decode code 248 = .ok (.aload_n 0, 1) := by decide +kernel
theorem dL_law_249 : decode code 249 = .ok (.iload 4, 2) := by decide +kernel
theorem dL_law_251 : decode code 251 = .ok (.iconst 2, 1) := by decide +kernel
theorem dL_law_252 : decode code 252 = .ok (.iadd, 1) := by decide +kernel
theorem dL_law_253 : decode code 253 = .ok (.iaload, 1) := by decide +kernel
theorem dL_law_254 : decode code 254 = .ok (.invokevirtual 31, 3) := by decide +kernel
theorem dL_law_257 : decode code 257 = .ok (.aload_n 2, 1) := by decide +kernel
theorem dL_law_258 : decode code 258 = .ok (.aload_n 0, 1) := by decide +kernel
theorem dL_law_259 : decode code 259 = .ok (.iload 4, 2) := by decide +kernel
theorem dL_law_261 : decode code 261 = .ok (.iconst 1, 1) := by decide +kernel
theorem dL_law_262 : decode code 262 = .ok (.iadd, 1) := by decide +kernel
theorem dL_law_263 : decode code 263 = .ok (.iaload, 1) := by decide +kernel
theorem dL_law_264 : decode code 264 = .ok (.aload_n 0, 1) := by decide +kernel
theorem dL_law_265 : decode code 265 = .ok (.iload 4, 2) := by decide +kernel
theorem dL_law_267 : decode code 267 = .ok (.iconst 2, 1) := by decide +kernel
theorem dL_law_268 : decode code 268 = .ok (.iadd, 1) := by decide +kernel
theorem dL_law_269 : decode code 269 = .ok (.iaload, 1) := by decide +kernel
theorem dL_law_270 : decode code 270 = .ok (.invokevirtual 34, 3) := by decide +kernel
theorem dL_law_273 : decode code 273 = .ok (.if_icmp .eq 1470, 3) := by decide +kernel
set_option maxHeartbeats 4000000 in
set_option maxRecDepth 100000 in
/-- category -/
theorem law_1 {p : Program} {l : Launch} {e : Env} {s : State} {m : MethodId} {below : List Frame} {meth : Method} {c : Code} {b L : Nat} {xs : Nat → Int32} {D : va_G} {cy : Nat → ClassId} {aC aM : Nat → Nat} {AC AM : Nat → Prop} {o : Nat} (F : LwF p l s m meth c b L xs D cy aC aM AC AM o) {i : Nat} (hi : i + 5 ≤ L) {cells slots : Nat} (hcs : cells + 1 ≤ room_1.cells ∧ slots + 6 ≤ room_1.slots) (hgo : LwGo p l e s m below meth c b D cy aC aM o i (cells + 1) (slots + 6)) {I : Nat → Int32} {Lg : Nat → Int64} {A : Nat → Nat → Int32} {B : Nat → Nat → Int64} {J : Nat → Int32} {E : Nat → Nat → Int32} {f : Nat → Int64} {H : Heap} {locs : List Loc} {ls : Array Slot} (hP : LwP D cy aC aM o I Lg A B J E f H) (hS : va_S (sNew s) s.heap H locs) (hst : LSt I Lg A B J E) (hl : lv_has ls 7 [(0, .ref b), (1, .ref (aC 0)), (2, .ref (aM 0)), (3, .ref o), (4, .int (nI i))]) : WL p l e s m b below meth c H locs cells slots (F0 m 241 ls []) := by
  obtain ⟨S, hC, hM, hW⟩ := hst
  have hx := F.1.1
  have hb := F.1.2.1
  refine lv_aload_n hx hb dL_law_241 rfl (lv_at hl 1 rfl) ?_
  refine law_arg F (k := 1) 0 4 hl rfl rfl (by omega) (by decide) hS dL_law_242 dL_law_243 dL_law_245 dL_law_246 dL_law_247 ?_
  refine law_arg F (k := 2) 0 4 hl rfl rfl (by omega) (by decide) hS dL_law_248 dL_law_249 dL_law_251 dL_law_252 dL_law_253 ?_
  have hk := t_category hC hM hW (xs (i + 1)) (xs (i + 2)) (K := fun r r' I1 A1 B1 J1 E1 => r = r' ∧ LSt I1 Lg A1 B1 J1 E1) (by intros; exact ⟨rfl, _, by assumption, by assumption, by assumption⟩)
  refine lawCi F (As := [.int (xs (i + 1)), .int (xs (i + 2))]) (rest := []) (n := 2) (c_X9_category F.2.2.2.2.2.1 I Lg A B (xs (i + 1)) (xs (i + 2)) _ hk) hP hS mw_2_85 wd_X9_category rfl (by decide +kernel) ⟨rfl, rfl⟩ ⟨Nat.le_of_ble_eq_true rfl, Nat.le_of_ble_eq_true rfl⟩ rfl hl.1 rfl (Nat.le_of_ble_eq_true rfl) dL_law_254 ⟨Nat.le_of_succ_le hcs.1, Nat.le_trans (Nat.le_add_right _ 6) hcs.2⟩ (fun r u H locs h hP hS => ?_)
  obtain ⟨I1, L1, A1, B1⟩ := u
  dsimp only at h hP
  obtain ⟨h, rfl⟩ := h
  try dsimp only at h
  refine lv_aload_n hx hb dL_law_257 rfl (lv_at hl 2 rfl) ?_
  refine law_arg F (k := 1) 0 4 hl rfl rfl (by omega) (by decide) hS dL_law_258 dL_law_259 dL_law_261 dL_law_262 dL_law_263 ?_
  refine law_arg F (k := 2) 0 4 hl rfl rfl (by omega) (by decide) hS dL_law_264 dL_law_265 dL_law_267 dL_law_268 dL_law_269 ?_
  refine lawMi F (As := [.int (xs (i + 1)), .int (xs (i + 2))]) (rest := [.int r]) (n := 2) (c_X10_category F.2.2.2.2.2.2.1 J E (xs (i + 1)) (xs (i + 2)) _ h) hP hS mw_4_216 wd_X10_category rfl (by decide +kernel) ⟨rfl, rfl⟩ ⟨Nat.le_of_ble_eq_true rfl, Nat.le_of_ble_eq_true rfl⟩ rfl hl.1 rfl (Nat.le_of_ble_eq_true rfl) dL_law_270 ⟨Nat.le_of_succ_le hcs.1, Nat.le_trans (Nat.le_add_right _ 6) hcs.2⟩ (fun r' u H locs h hP hS => ?_)
  obtain ⟨J1, E1⟩ := u
  dsimp only at h hP
  obtain ⟨hrr, hst⟩ := h
  refine lv_icmp_eq (tgt := 1743) hx hb dL_law_273 (by decide) (fun _ => ?_) (fun hc => absurd hrr hc)
  exact W.widen (k := cells + 1) (n := slots + 6) (Nat.le_succ _) (Nat.le_add_right _ _) (hgo _ _ _ _ _ _ _ _ _ _ hP hS hst hl)
theorem dL_law_278 : decode code 278 = .ok (.aload_n 1, 1) := by decide +kernel
theorem dL_law_279 : decode code 279 = .ok (.aload_n 0, 1) := by decide +kernel
theorem dL_law_280 : decode code 280 = .ok (.iload 4, 2) := by decide +kernel
theorem dL_law_282 : decode code 282 = .ok (.iconst 1, 1) := by decide +kernel
theorem dL_law_283 : decode code 283 = .ok (.iadd, 1) := by decide +kernel
theorem dL_law_284 : decode code 284 = .ok (.iaload, 1) := by decide +kernel
theorem dL_law_285 : decode code 285 = .ok (.aload_n 0, 1) := by decide +kernel
theorem dL_law_286 : decode code 286 = .ok (.iload 4, 2) := by decide +kernel
theorem dL_law_288 : decode code 288 = .ok (.iconst 2, 1) := by decide +kernel
theorem dL_law_289 : decode code 289 = .ok (.iadd, 1) := by decide +kernel
theorem dL_law_290 : decode code 290 = .ok (.iaload, 1) := by decide +kernel
theorem dL_law_291 : decode code 291 = .ok (.invokevirtual 35, 3) := by decide +kernel
theorem dL_law_294 : decode code 294 = .ok (.aload_n 2, 1) := by decide +kernel
theorem dL_law_295 : decode code 295 = .ok (.aload_n 0, 1) := by decide +kernel
theorem dL_law_296 : decode code 296 = .ok (.iload 4, 2) := by decide +kernel
theorem dL_law_298 : decode code 298 = .ok (.iconst 1, 1) := by decide +kernel
theorem dL_law_299 : decode code 299 = .ok (.iadd, 1) := by decide +kernel
theorem dL_law_300 : decode code 300 = .ok (.iaload, 1) := by decide +kernel
theorem dL_law_301 : decode code 301 = .ok (.aload_n 0, 1) := by decide +kernel
theorem dL_law_302 : decode code 302 = .ok (.iload 4, 2) := by decide +kernel
theorem dL_law_304 : decode code 304 = .ok (.iconst 2, 1) := by decide +kernel
theorem dL_law_305 : decode code 305 = .ok (.iadd, 1) := by decide +kernel
theorem dL_law_306 : decode code 306 = .ok (.iaload, 1) := by decide +kernel
theorem dL_law_307 : decode code 307 = .ok (.invokevirtual 39, 3) := by decide +kernel
theorem dL_law_310 : decode code 310 = .ok (.if_icmp .eq 1433, 3) := by decide +kernel
set_option maxHeartbeats 4000000 in
set_option maxRecDepth 100000 in
/-- move -/
theorem law_2 {p : Program} {l : Launch} {e : Env} {s : State} {m : MethodId} {below : List Frame} {meth : Method} {c : Code} {b L : Nat} {xs : Nat → Int32} {D : va_G} {cy : Nat → ClassId} {aC aM : Nat → Nat} {AC AM : Nat → Prop} {o : Nat} (F : LwF p l s m meth c b L xs D cy aC aM AC AM o) {i : Nat} (hi : i + 5 ≤ L) {cells slots : Nat} (hcs : cells + 1 ≤ room_1.cells ∧ slots + 6 ≤ room_1.slots) (hgo : LwGo p l e s m below meth c b D cy aC aM o i (cells + 1) (slots + 6)) {I : Nat → Int32} {Lg : Nat → Int64} {A : Nat → Nat → Int32} {B : Nat → Nat → Int64} {J : Nat → Int32} {E : Nat → Nat → Int32} {f : Nat → Int64} {H : Heap} {locs : List Loc} {ls : Array Slot} (hP : LwP D cy aC aM o I Lg A B J E f H) (hS : va_S (sNew s) s.heap H locs) (hst : LSt I Lg A B J E) (hl : lv_has ls 7 [(0, .ref b), (1, .ref (aC 0)), (2, .ref (aM 0)), (3, .ref o), (4, .int (nI i))]) : WL p l e s m b below meth c H locs cells slots (F0 m 278 ls []) := by
  obtain ⟨S, hC, hM, hW⟩ := hst
  have hx := F.1.1
  have hb := F.1.2.1
  refine lv_aload_n hx hb dL_law_278 rfl (lv_at hl 1 rfl) ?_
  refine law_arg F (k := 1) 0 4 hl rfl rfl (by omega) (by decide) hS dL_law_279 dL_law_280 dL_law_282 dL_law_283 dL_law_284 ?_
  refine law_arg F (k := 2) 0 4 hl rfl rfl (by omega) (by decide) hS dL_law_285 dL_law_286 dL_law_288 dL_law_289 dL_law_290 ?_
  have hk := t_move hC hM hW (xs (i + 1)) (xs (i + 2)) (K := fun r r' A1 B1 J1 E1 => r = r' ∧ LSt I Lg A1 B1 J1 E1) (by intros; exact ⟨rfl, _, by assumption, by assumption, by assumption⟩)
  refine lawCi F (As := [.int (xs (i + 1)), .int (xs (i + 2))]) (rest := []) (n := 2) (c_X9_move F.2.2.2.2.2.1 I Lg A B (xs (i + 1)) (xs (i + 2)) _ hk) hP hS mw_2_119 wd_X9_move rfl (by decide +kernel) ⟨rfl, rfl⟩ ⟨Nat.le_of_ble_eq_true rfl, Nat.le_of_ble_eq_true rfl⟩ rfl hl.1 rfl (Nat.le_of_ble_eq_true rfl) dL_law_291 ⟨Nat.le_of_succ_le hcs.1, Nat.le_trans (Nat.le_add_right _ 6) hcs.2⟩ (fun r u H locs h hP hS => ?_)
  obtain ⟨I1, L1, A1, B1⟩ := u
  dsimp only at h hP
  obtain ⟨h, rfl, rfl⟩ := h
  try dsimp only at h
  refine lv_aload_n hx hb dL_law_294 rfl (lv_at hl 2 rfl) ?_
  refine law_arg F (k := 1) 0 4 hl rfl rfl (by omega) (by decide) hS dL_law_295 dL_law_296 dL_law_298 dL_law_299 dL_law_300 ?_
  refine law_arg F (k := 2) 0 4 hl rfl rfl (by omega) (by decide) hS dL_law_301 dL_law_302 dL_law_304 dL_law_305 dL_law_306 ?_
  refine lawMi F (As := [.int (xs (i + 1)), .int (xs (i + 2))]) (rest := [.int r]) (n := 2) (c_X10_move F.2.2.2.2.2.2.1 J E (xs (i + 1)) (xs (i + 2)) _ h) hP hS mw_5_0 wd_X10_move rfl (by decide +kernel) ⟨rfl, rfl⟩ ⟨Nat.le_of_ble_eq_true rfl, Nat.le_of_ble_eq_true rfl⟩ rfl hl.1 rfl (Nat.le_of_ble_eq_true rfl) dL_law_307 ⟨Nat.le_of_succ_le hcs.1, Nat.le_trans (Nat.le_add_right _ 6) hcs.2⟩ (fun r' u H locs h hP hS => ?_)
  obtain ⟨J1, E1⟩ := u
  dsimp only at h hP
  obtain ⟨hrr, hst⟩ := h
  refine lv_icmp_eq (tgt := 1743) hx hb dL_law_310 (by decide) (fun _ => ?_) (fun hc => absurd hrr hc)
  exact W.widen (k := cells + 1) (n := slots + 6) (Nat.le_succ _) (Nat.le_add_right _ _) (hgo _ _ _ _ _ _ _ _ _ _ hP hS hst hl)
theorem dL_law_315 : decode code 315 = .ok (.aload_n 1, 1) := by decide +kernel
theorem dL_law_316 : decode code 316 = .ok (.aload_n 0, 1) := by decide +kernel
theorem dL_law_317 : decode code 317 = .ok (.iload 4, 2) := by decide +kernel
theorem dL_law_319 : decode code 319 = .ok (.iconst 1, 1) := by decide +kernel
theorem dL_law_320 : decode code 320 = .ok (.iadd, 1) := by decide +kernel
theorem dL_law_321 : decode code 321 = .ok (.iaload, 1) := by decide +kernel
theorem dL_law_322 : decode code 322 = .ok (.invokevirtual 40, 3) := by decide +kernel
theorem dL_law_325 : decode code 325 = .ok (.aload_n 2, 1) := by decide +kernel
theorem dL_law_326 : decode code 326 = .ok (.aload_n 0, 1) := by decide +kernel
theorem dL_law_327 : decode code 327 = .ok (.iload 4, 2) := by decide +kernel
theorem dL_law_329 : decode code 329 = .ok (.iconst 1, 1) := by decide +kernel
theorem dL_law_330 : decode code 330 = .ok (.iadd, 1) := by decide +kernel
theorem dL_law_331 : decode code 331 = .ok (.iaload, 1) := by decide +kernel
theorem dL_law_332 : decode code 332 = .ok (.invokevirtual 43, 3) := by decide +kernel
theorem dL_law_335 : decode code 335 = .ok (.if_icmp .eq 1408, 3) := by decide +kernel
set_option maxHeartbeats 4000000 in
set_option maxRecDepth 100000 in
/-- document -/
theorem law_3 {p : Program} {l : Launch} {e : Env} {s : State} {m : MethodId} {below : List Frame} {meth : Method} {c : Code} {b L : Nat} {xs : Nat → Int32} {D : va_G} {cy : Nat → ClassId} {aC aM : Nat → Nat} {AC AM : Nat → Prop} {o : Nat} (F : LwF p l s m meth c b L xs D cy aC aM AC AM o) {i : Nat} (hi : i + 5 ≤ L) {cells slots : Nat} (hcs : cells + 1 ≤ room_1.cells ∧ slots + 6 ≤ room_1.slots) (hgo : LwGo p l e s m below meth c b D cy aC aM o i (cells + 1) (slots + 6)) {I : Nat → Int32} {Lg : Nat → Int64} {A : Nat → Nat → Int32} {B : Nat → Nat → Int64} {J : Nat → Int32} {E : Nat → Nat → Int32} {f : Nat → Int64} {H : Heap} {locs : List Loc} {ls : Array Slot} (hP : LwP D cy aC aM o I Lg A B J E f H) (hS : va_S (sNew s) s.heap H locs) (hst : LSt I Lg A B J E) (hl : lv_has ls 7 [(0, .ref b), (1, .ref (aC 0)), (2, .ref (aM 0)), (3, .ref o), (4, .int (nI i))]) : WL p l e s m b below meth c H locs cells slots (F0 m 315 ls []) := by
  obtain ⟨S, hC, hM, hW⟩ := hst
  have hx := F.1.1
  have hb := F.1.2.1
  refine lv_aload_n hx hb dL_law_315 rfl (lv_at hl 1 rfl) ?_
  refine law_arg F (k := 1) 0 4 hl rfl rfl (by omega) (by decide) hS dL_law_316 dL_law_317 dL_law_319 dL_law_320 dL_law_321 ?_
  have hk := t_document hC hM hW (xs (i + 1)) (K := fun r r' I1 Lg1 A1 B1 J1 E1 => r = r' ∧ LSt I1 Lg1 A1 B1 J1 E1) (by intros; exact ⟨rfl, _, by assumption, by assumption, by assumption⟩)
  refine lawCi F (As := [.int (xs (i + 1))]) (rest := []) (n := 1) (c_X9_document F.2.2.2.2.2.1 I Lg A B (xs (i + 1)) _ hk) hP hS mw_2_149 wd_X9_document rfl (by decide +kernel) ⟨rfl, rfl⟩ ⟨Nat.le_of_ble_eq_true rfl, Nat.le_of_ble_eq_true rfl⟩ rfl hl.1 rfl (Nat.le_of_ble_eq_true rfl) dL_law_322 ⟨Nat.le_of_succ_le hcs.1, Nat.le_trans (Nat.le_add_right _ 6) hcs.2⟩ (fun r u H locs h hP hS => ?_)
  obtain ⟨I1, L1, A1, B1⟩ := u
  dsimp only at h hP
  try dsimp only at h
  refine lv_aload_n hx hb dL_law_325 rfl (lv_at hl 2 rfl) ?_
  refine law_arg F (k := 1) 0 4 hl rfl rfl (by omega) (by decide) hS dL_law_326 dL_law_327 dL_law_329 dL_law_330 dL_law_331 ?_
  refine lawMi F (As := [.int (xs (i + 1))]) (rest := [.int r]) (n := 1) (c_X10_document F.2.2.2.2.2.2.1 J E (xs (i + 1)) _ h) hP hS mw_5_12 wd_X10_document rfl (by decide +kernel) ⟨rfl, rfl⟩ ⟨Nat.le_of_ble_eq_true rfl, Nat.le_of_ble_eq_true rfl⟩ rfl hl.1 rfl (Nat.le_of_ble_eq_true rfl) dL_law_332 ⟨Nat.le_of_succ_le hcs.1, Nat.le_trans (Nat.le_add_right _ 6) hcs.2⟩ (fun r' u H locs h hP hS => ?_)
  obtain ⟨J1, E1⟩ := u
  dsimp only at h hP
  obtain ⟨hrr, hst⟩ := h
  refine lv_icmp_eq (tgt := 1743) hx hb dL_law_335 (by decide) (fun _ => ?_) (fun hc => absurd hrr hc)
  exact W.widen (k := cells + 1) (n := slots + 6) (Nat.le_succ _) (Nat.le_add_right _ _) (hgo _ _ _ _ _ _ _ _ _ _ hP hS hst hl)
theorem dL_law_340 : decode code 340 = .ok (.aload_n 1, 1) := by decide +kernel
theorem dL_law_341 : decode code 341 = .ok (.aload_n 0, 1) := by decide +kernel
theorem dL_law_342 : decode code 342 = .ok (.iload 4, 2) := by decide +kernel
theorem dL_law_344 : decode code 344 = .ok (.iconst 1, 1) := by decide +kernel
theorem dL_law_345 : decode code 345 = .ok (.iadd, 1) := by decide +kernel
theorem dL_law_346 : decode code 346 = .ok (.iaload, 1) := by decide +kernel
theorem dL_law_347 : decode code 347 = .ok (.aload_n 0, 1) := by decide +kernel
theorem dL_law_348 : decode code 348 = .ok (.iload 4, 2) := by decide +kernel
theorem dL_law_350 : decode code 350 = .ok (.iconst 2, 1) := by decide +kernel
theorem dL_law_351 : decode code 351 = .ok (.iadd, 1) := by decide +kernel
theorem dL_law_352 : decode code 352 = .ok (.iaload, 1) := by decide +kernel
theorem dL_law_353 : decode code 353 = .ok (.aload_n 0, 1) := by decide +kernel
theorem dL_law_354 : decode code 354 = .ok (.iload 4, 2) := by decide +kernel
theorem dL_law_356 : decode code 356 = .ok (.iconst 3, 1) := by decide +kernel
theorem dL_law_357 : decode code 357 = .ok (.iadd, 1) := by decide +kernel
theorem dL_law_358 : decode code 358 = .ok (.iaload, 1) := by decide +kernel
theorem dL_law_359 : decode code 359 = .ok (.ifCond .eq 7, 3) := by decide +kernel
theorem dL_law_362 : decode code 362 = .ok (.iconst 1, 1) := by decide +kernel
theorem dL_law_363 : decode code 363 = .ok (.goto 4, 3) := by decide +kernel
theorem dL_law_366 : decode code 366 = .ok (.iconst 0, 1) := by decide +kernel
theorem dL_law_367 : decode code 367 = .ok (.invokevirtual 44, 3) := by decide +kernel
theorem dL_law_370 : decode code 370 = .ok (.aload_n 2, 1) := by decide +kernel
theorem dL_law_371 : decode code 371 = .ok (.aload_n 0, 1) := by decide +kernel
theorem dL_law_372 : decode code 372 = .ok (.iload 4, 2) := by decide +kernel
theorem dL_law_374 : decode code 374 = .ok (.iconst 1, 1) := by decide +kernel
theorem dL_law_375 : decode code 375 = .ok (.iadd, 1) := by decide +kernel
theorem dL_law_376 : decode code 376 = .ok (.iaload, 1) := by decide +kernel
theorem dL_law_377 : decode code 377 = .ok (.aload_n 0, 1) := by decide +kernel
theorem dL_law_378 : decode code 378 = .ok (.iload 4, 2) := by decide +kernel
theorem dL_law_380 : decode code 380 = .ok (.iconst 2, 1) := by decide +kernel
theorem dL_law_381 : decode code 381 = .ok (.iadd, 1) := by decide +kernel
theorem dL_law_382 : decode code 382 = .ok (.iaload, 1) := by decide +kernel
theorem dL_law_383 : decode code 383 = .ok (.aload_n 0, 1) := by decide +kernel
theorem dL_law_384 : decode code 384 = .ok (.iload 4, 2) := by decide +kernel
theorem dL_law_386 : decode code 386 = .ok (.iconst 3, 1) := by decide +kernel
theorem dL_law_387 : decode code 387 = .ok (.iadd, 1) := by decide +kernel
theorem dL_law_388 : decode code 388 = .ok (.iaload, 1) := by decide +kernel
theorem dL_law_389 : decode code 389 = .ok (.ifCond .eq 7, 3) := by decide +kernel
theorem dL_law_392 : decode code 392 = .ok (.iconst 1, 1) := by decide +kernel
theorem dL_law_393 : decode code 393 = .ok (.goto 4, 3) := by decide +kernel
theorem dL_law_396 : decode code 396 = .ok (.iconst 0, 1) := by decide +kernel
theorem dL_law_397 : decode code 397 = .ok (.invokevirtual 48, 3) := by decide +kernel
theorem dL_law_400 : decode code 400 = .ok (.if_icmp .eq 1343, 3) := by decide +kernel
set_option maxHeartbeats 4000000 in
set_option maxRecDepth 100000 in
/-- tag -/
theorem law_4 {p : Program} {l : Launch} {e : Env} {s : State} {m : MethodId} {below : List Frame} {meth : Method} {c : Code} {b L : Nat} {xs : Nat → Int32} {D : va_G} {cy : Nat → ClassId} {aC aM : Nat → Nat} {AC AM : Nat → Prop} {o : Nat} (F : LwF p l s m meth c b L xs D cy aC aM AC AM o) {i : Nat} (hi : i + 5 ≤ L) {cells slots : Nat} (hcs : cells + 1 ≤ room_1.cells ∧ slots + 6 ≤ room_1.slots) (hgo : LwGo p l e s m below meth c b D cy aC aM o i (cells + 1) (slots + 6)) {I : Nat → Int32} {Lg : Nat → Int64} {A : Nat → Nat → Int32} {B : Nat → Nat → Int64} {J : Nat → Int32} {E : Nat → Nat → Int32} {f : Nat → Int64} {H : Heap} {locs : List Loc} {ls : Array Slot} (hP : LwP D cy aC aM o I Lg A B J E f H) (hS : va_S (sNew s) s.heap H locs) (hst : LSt I Lg A B J E) (hl : lv_has ls 7 [(0, .ref b), (1, .ref (aC 0)), (2, .ref (aM 0)), (3, .ref o), (4, .int (nI i))]) : WL p l e s m b below meth c H locs cells slots (F0 m 340 ls []) := by
  obtain ⟨S, hC, hM, hW⟩ := hst
  have hx := F.1.1
  have hb := F.1.2.1
  by_cases hz : xs (i + 3) = 0
  · refine lv_aload_n hx hb dL_law_340 rfl (lv_at hl 1 rfl) ?_
    refine law_arg F (k := 1) 0 4 hl rfl rfl (by omega) (by decide) hS dL_law_341 dL_law_342 dL_law_344 dL_law_345 dL_law_346 ?_
    refine law_arg F (k := 2) 0 4 hl rfl rfl (by omega) (by decide) hS dL_law_347 dL_law_348 dL_law_350 dL_law_351 dL_law_352 ?_
    refine law_arg F (k := 3) 0 4 hl rfl rfl (by omega) (by decide) hS dL_law_353 dL_law_354 dL_law_356 dL_law_357 dL_law_358 ?_
    refine lv_if_eq (tgt := 366) hx hb dL_law_359 (by decide) (fun _ => ?_) (fun hc => absurd hz hc)
    refine lv_iconst (v := 0) hx hb dL_law_366 (by decide) ?_
    have hk := t_tag hC hM hW (xs (i + 1)) (xs (i + 2)) false (K := fun r r' B1 J1 E1 => r = r' ∧ LSt I Lg A B1 J1 E1) (by intros; exact ⟨rfl, _, by assumption, by assumption, by assumption⟩)
    rw [bi_f] at hk
    refine lawCi F (As := [.int (xs (i + 1)), .int (xs (i + 2)), .int (0)]) (rest := []) (n := 3) (c_X9_tag F.2.2.2.2.2.1 I Lg A B (xs (i + 1)) (xs (i + 2)) 0 _ hk) hP hS mw_2_170 wd_X9_tag rfl (by decide +kernel) ⟨rfl, rfl⟩ ⟨Nat.le_of_ble_eq_true rfl, Nat.le_of_ble_eq_true rfl⟩ rfl hl.1 rfl (Nat.le_of_ble_eq_true rfl) dL_law_367 ⟨Nat.le_of_succ_le hcs.1, Nat.le_trans (Nat.le_add_right _ 6) hcs.2⟩ (fun r u H locs h hP hS => ?_)
    obtain ⟨I1, L1, A1, B1⟩ := u
    dsimp only at h hP
    obtain ⟨h, rfl, rfl, rfl⟩ := h
    try dsimp only at h
    refine lv_aload_n hx hb dL_law_370 rfl (lv_at hl 2 rfl) ?_
    refine law_arg F (k := 1) 0 4 hl rfl rfl (by omega) (by decide) hS dL_law_371 dL_law_372 dL_law_374 dL_law_375 dL_law_376 ?_
    refine law_arg F (k := 2) 0 4 hl rfl rfl (by omega) (by decide) hS dL_law_377 dL_law_378 dL_law_380 dL_law_381 dL_law_382 ?_
    refine law_arg F (k := 3) 0 4 hl rfl rfl (by omega) (by decide) hS dL_law_383 dL_law_384 dL_law_386 dL_law_387 dL_law_388 ?_
    refine lv_if_eq (tgt := 396) hx hb dL_law_389 (by decide) (fun _ => ?_) (fun hc => absurd hz hc)
    refine lv_iconst (v := 0) hx hb dL_law_396 (by decide) ?_
    refine lawMi F (As := [.int (xs (i + 1)), .int (xs (i + 2)), .int (0)]) (rest := [.int r]) (n := 3) (c_X10_tag F.2.2.2.2.2.2.1 J E (xs (i + 1)) (xs (i + 2)) 0 _ h) hP hS mw_5_16 wd_X10_tag rfl (by decide +kernel) ⟨rfl, rfl⟩ ⟨Nat.le_of_ble_eq_true rfl, Nat.le_of_ble_eq_true rfl⟩ rfl hl.1 rfl (Nat.le_of_ble_eq_true rfl) dL_law_397 ⟨Nat.le_of_succ_le hcs.1, Nat.le_trans (Nat.le_add_right _ 6) hcs.2⟩ (fun r' u H locs h hP hS => ?_)
    obtain ⟨J1, E1⟩ := u
    dsimp only at h hP
    obtain ⟨hrr, hst⟩ := h
    refine lv_icmp_eq (tgt := 1743) hx hb dL_law_400 (by decide) (fun _ => ?_) (fun hc => absurd hrr hc)
    exact W.widen (k := cells + 1) (n := slots + 6) (Nat.le_succ _) (Nat.le_add_right _ _) (hgo _ _ _ _ _ _ _ _ _ _ hP hS hst hl)
  · refine lv_aload_n hx hb dL_law_340 rfl (lv_at hl 1 rfl) ?_
    refine law_arg F (k := 1) 0 4 hl rfl rfl (by omega) (by decide) hS dL_law_341 dL_law_342 dL_law_344 dL_law_345 dL_law_346 ?_
    refine law_arg F (k := 2) 0 4 hl rfl rfl (by omega) (by decide) hS dL_law_347 dL_law_348 dL_law_350 dL_law_351 dL_law_352 ?_
    refine law_arg F (k := 3) 0 4 hl rfl rfl (by omega) (by decide) hS dL_law_353 dL_law_354 dL_law_356 dL_law_357 dL_law_358 ?_
    refine lv_if_eq (tgt := 366) hx hb dL_law_359 (by decide) (fun hc => absurd hc hz) (fun _ => ?_)
    refine lv_iconst (v := 1) hx hb dL_law_362 (by decide) ?_
    refine lv_goto (tgt := 367) hx hb dL_law_363 (by decide) ?_
    have hk := t_tag hC hM hW (xs (i + 1)) (xs (i + 2)) true (K := fun r r' B1 J1 E1 => r = r' ∧ LSt I Lg A B1 J1 E1) (by intros; exact ⟨rfl, _, by assumption, by assumption, by assumption⟩)
    rw [bi_t] at hk
    refine lawCi F (As := [.int (xs (i + 1)), .int (xs (i + 2)), .int (1)]) (rest := []) (n := 3) (c_X9_tag F.2.2.2.2.2.1 I Lg A B (xs (i + 1)) (xs (i + 2)) 1 _ hk) hP hS mw_2_170 wd_X9_tag rfl (by decide +kernel) ⟨rfl, rfl⟩ ⟨Nat.le_of_ble_eq_true rfl, Nat.le_of_ble_eq_true rfl⟩ rfl hl.1 rfl (Nat.le_of_ble_eq_true rfl) dL_law_367 ⟨Nat.le_of_succ_le hcs.1, Nat.le_trans (Nat.le_add_right _ 6) hcs.2⟩ (fun r u H locs h hP hS => ?_)
    obtain ⟨I1, L1, A1, B1⟩ := u
    dsimp only at h hP
    obtain ⟨h, rfl, rfl, rfl⟩ := h
    try dsimp only at h
    refine lv_aload_n hx hb dL_law_370 rfl (lv_at hl 2 rfl) ?_
    refine law_arg F (k := 1) 0 4 hl rfl rfl (by omega) (by decide) hS dL_law_371 dL_law_372 dL_law_374 dL_law_375 dL_law_376 ?_
    refine law_arg F (k := 2) 0 4 hl rfl rfl (by omega) (by decide) hS dL_law_377 dL_law_378 dL_law_380 dL_law_381 dL_law_382 ?_
    refine law_arg F (k := 3) 0 4 hl rfl rfl (by omega) (by decide) hS dL_law_383 dL_law_384 dL_law_386 dL_law_387 dL_law_388 ?_
    refine lv_if_eq (tgt := 396) hx hb dL_law_389 (by decide) (fun hc => absurd hc hz) (fun _ => ?_)
    refine lv_iconst (v := 1) hx hb dL_law_392 (by decide) ?_
    refine lv_goto (tgt := 397) hx hb dL_law_393 (by decide) ?_
    refine lawMi F (As := [.int (xs (i + 1)), .int (xs (i + 2)), .int (1)]) (rest := [.int r]) (n := 3) (c_X10_tag F.2.2.2.2.2.2.1 J E (xs (i + 1)) (xs (i + 2)) 1 _ h) hP hS mw_5_16 wd_X10_tag rfl (by decide +kernel) ⟨rfl, rfl⟩ ⟨Nat.le_of_ble_eq_true rfl, Nat.le_of_ble_eq_true rfl⟩ rfl hl.1 rfl (Nat.le_of_ble_eq_true rfl) dL_law_397 ⟨Nat.le_of_succ_le hcs.1, Nat.le_trans (Nat.le_add_right _ 6) hcs.2⟩ (fun r' u H locs h hP hS => ?_)
    obtain ⟨J1, E1⟩ := u
    dsimp only at h hP
    obtain ⟨hrr, hst⟩ := h
    refine lv_icmp_eq (tgt := 1743) hx hb dL_law_400 (by decide) (fun _ => ?_) (fun hc => absurd hrr hc)
    exact W.widen (k := cells + 1) (n := slots + 6) (Nat.le_succ _) (Nat.le_add_right _ _) (hgo _ _ _ _ _ _ _ _ _ _ hP hS hst hl)
theorem dL_law_405 : decode code 405 = .ok (.aload_n 1, 1) := by decide +kernel
theorem dL_law_406 : decode code 406 = .ok (.aload_n 0, 1) := by decide +kernel
theorem dL_law_407 : decode code 407 = .ok (.iload 4, 2) := by decide +kernel
theorem dL_law_409 : decode code 409 = .ok (.iconst 1, 1) := by decide +kernel
theorem dL_law_410 : decode code 410 = .ok (.iadd, 1) := by decide +kernel
theorem dL_law_411 : decode code 411 = .ok (.iaload, 1) := by decide +kernel
theorem dL_law_412 : decode code 412 = .ok (.aload_n 0, 1) := by decide +kernel
theorem dL_law_413 : decode code 413 = .ok (.iload 4, 2) := by decide +kernel
theorem dL_law_415 : decode code 415 = .ok (.iconst 2, 1) := by decide +kernel
theorem dL_law_416 : decode code 416 = .ok (.iadd, 1) := by decide +kernel
theorem dL_law_417 : decode code 417 = .ok (.iaload, 1) := by decide +kernel
theorem dL_law_418 : decode code 418 = .ok (.aload_n 0, 1) := by decide +kernel
theorem dL_law_419 : decode code 419 = .ok (.iload 4, 2) := by decide +kernel
theorem dL_law_421 : decode code 421 = .ok (.iconst 3, 1) := by decide +kernel
theorem dL_law_422 : decode code 422 = .ok (.iadd, 1) := by decide +kernel
theorem dL_law_423 : decode code 423 = .ok (.iaload, 1) := by decide +kernel
theorem dL_law_424 : decode code 424 = .ok (.invokevirtual 49, 3) := by decide +kernel
theorem dL_law_427 : decode code 427 = .ok (.aload_n 2, 1) := by decide +kernel
theorem dL_law_428 : decode code 428 = .ok (.aload_n 0, 1) := by decide +kernel
theorem dL_law_429 : decode code 429 = .ok (.iload 4, 2) := by decide +kernel
theorem dL_law_431 : decode code 431 = .ok (.iconst 1, 1) := by decide +kernel
theorem dL_law_432 : decode code 432 = .ok (.iadd, 1) := by decide +kernel
theorem dL_law_433 : decode code 433 = .ok (.iaload, 1) := by decide +kernel
theorem dL_law_434 : decode code 434 = .ok (.aload_n 0, 1) := by decide +kernel
theorem dL_law_435 : decode code 435 = .ok (.iload 4, 2) := by decide +kernel
theorem dL_law_437 : decode code 437 = .ok (.iconst 2, 1) := by decide +kernel
theorem dL_law_438 : decode code 438 = .ok (.iadd, 1) := by decide +kernel
theorem dL_law_439 : decode code 439 = .ok (.iaload, 1) := by decide +kernel
theorem dL_law_440 : decode code 440 = .ok (.aload_n 0, 1) := by decide +kernel
theorem dL_law_441 : decode code 441 = .ok (.iload 4, 2) := by decide +kernel
theorem dL_law_443 : decode code 443 = .ok (.iconst 3, 1) := by decide +kernel
theorem dL_law_444 : decode code 444 = .ok (.iadd, 1) := by decide +kernel
theorem dL_law_445 : decode code 445 = .ok (.iaload, 1) := by decide +kernel
theorem dL_law_446 : decode code 446 = .ok (.invokevirtual 53, 3) := by decide +kernel
theorem dL_law_449 : decode code 449 = .ok (.if_icmp .eq 1294, 3) := by decide +kernel
set_option maxHeartbeats 4000000 in
set_option maxRecDepth 100000 in
/-- number -/
theorem law_5 {p : Program} {l : Launch} {e : Env} {s : State} {m : MethodId} {below : List Frame} {meth : Method} {c : Code} {b L : Nat} {xs : Nat → Int32} {D : va_G} {cy : Nat → ClassId} {aC aM : Nat → Nat} {AC AM : Nat → Prop} {o : Nat} (F : LwF p l s m meth c b L xs D cy aC aM AC AM o) {i : Nat} (hi : i + 5 ≤ L) {cells slots : Nat} (hcs : cells + 1 ≤ room_1.cells ∧ slots + 6 ≤ room_1.slots) (hgo : LwGo p l e s m below meth c b D cy aC aM o i (cells + 1) (slots + 6)) {I : Nat → Int32} {Lg : Nat → Int64} {A : Nat → Nat → Int32} {B : Nat → Nat → Int64} {J : Nat → Int32} {E : Nat → Nat → Int32} {f : Nat → Int64} {H : Heap} {locs : List Loc} {ls : Array Slot} (hP : LwP D cy aC aM o I Lg A B J E f H) (hS : va_S (sNew s) s.heap H locs) (hst : LSt I Lg A B J E) (hl : lv_has ls 7 [(0, .ref b), (1, .ref (aC 0)), (2, .ref (aM 0)), (3, .ref o), (4, .int (nI i))]) : WL p l e s m b below meth c H locs cells slots (F0 m 405 ls []) := by
  obtain ⟨S, hC, hM, hW⟩ := hst
  have hx := F.1.1
  have hb := F.1.2.1
  refine lv_aload_n hx hb dL_law_405 rfl (lv_at hl 1 rfl) ?_
  refine law_arg F (k := 1) 0 4 hl rfl rfl (by omega) (by decide) hS dL_law_406 dL_law_407 dL_law_409 dL_law_410 dL_law_411 ?_
  refine law_arg F (k := 2) 0 4 hl rfl rfl (by omega) (by decide) hS dL_law_412 dL_law_413 dL_law_415 dL_law_416 dL_law_417 ?_
  refine law_arg F (k := 3) 0 4 hl rfl rfl (by omega) (by decide) hS dL_law_418 dL_law_419 dL_law_421 dL_law_422 dL_law_423 ?_
  have hk := t_number hC hM hW (xs (i + 1)) (xs (i + 2)) (xs (i + 3)) (K := fun r r' Lg1 A1 B1 J1 E1 => r = r' ∧ LSt I Lg1 A1 B1 J1 E1) (by intros; exact ⟨rfl, _, by assumption, by assumption, by assumption⟩)
  refine lawCi F (As := [.int (xs (i + 1)), .int (xs (i + 2)), .int (xs (i + 3))]) (rest := []) (n := 3) (c_X9_number F.2.2.2.2.2.1 I Lg A B (xs (i + 1)) (xs (i + 2)) (xs (i + 3)) _ hk) hP hS mw_2_187 wd_X9_number rfl (by decide +kernel) ⟨rfl, rfl⟩ ⟨Nat.le_of_ble_eq_true rfl, Nat.le_of_ble_eq_true rfl⟩ rfl hl.1 rfl (Nat.le_of_ble_eq_true rfl) dL_law_424 ⟨Nat.le_of_succ_le hcs.1, Nat.le_trans (Nat.le_add_right _ 6) hcs.2⟩ (fun r u H locs h hP hS => ?_)
  obtain ⟨I1, L1, A1, B1⟩ := u
  dsimp only at h hP
  obtain ⟨h, rfl⟩ := h
  try dsimp only at h
  refine lv_aload_n hx hb dL_law_427 rfl (lv_at hl 2 rfl) ?_
  refine law_arg F (k := 1) 0 4 hl rfl rfl (by omega) (by decide) hS dL_law_428 dL_law_429 dL_law_431 dL_law_432 dL_law_433 ?_
  refine law_arg F (k := 2) 0 4 hl rfl rfl (by omega) (by decide) hS dL_law_434 dL_law_435 dL_law_437 dL_law_438 dL_law_439 ?_
  refine law_arg F (k := 3) 0 4 hl rfl rfl (by omega) (by decide) hS dL_law_440 dL_law_441 dL_law_443 dL_law_444 dL_law_445 ?_
  refine lawMi F (As := [.int (xs (i + 1)), .int (xs (i + 2)), .int (xs (i + 3))]) (rest := [.int r]) (n := 3) (c_X10_number F.2.2.2.2.2.2.1 J E (xs (i + 1)) (xs (i + 2)) (xs (i + 3)) _ h) hP hS mw_5_24 wd_X10_number rfl (by decide +kernel) ⟨rfl, rfl⟩ ⟨Nat.le_of_ble_eq_true rfl, Nat.le_of_ble_eq_true rfl⟩ rfl hl.1 rfl (Nat.le_of_ble_eq_true rfl) dL_law_446 ⟨Nat.le_of_succ_le hcs.1, Nat.le_trans (Nat.le_add_right _ 6) hcs.2⟩ (fun r' u H locs h hP hS => ?_)
  obtain ⟨J1, E1⟩ := u
  dsimp only at h hP
  obtain ⟨hrr, hst⟩ := h
  refine lv_icmp_eq (tgt := 1743) hx hb dL_law_449 (by decide) (fun _ => ?_) (fun hc => absurd hrr hc)
  exact W.widen (k := cells + 1) (n := slots + 6) (Nat.le_succ _) (Nat.le_add_right _ _) (hgo _ _ _ _ _ _ _ _ _ _ hP hS hst hl)
theorem dL_law_454 : decode code 454 = .ok (.aload_n 1, 1) := by decide +kernel
theorem dL_law_455 : decode code 455 = .ok (.aload_n 0, 1) := by decide +kernel
theorem dL_law_456 : decode code 456 = .ok (.iload 4, 2) := by decide +kernel
theorem dL_law_458 : decode code 458 = .ok (.iconst 1, 1) := by decide +kernel
theorem dL_law_459 : decode code 459 = .ok (.iadd, 1) := by decide +kernel
theorem dL_law_460 : decode code 460 = .ok (.iaload, 1) := by decide +kernel
theorem dL_law_461 : decode code 461 = .ok (.aload_n 0, 1) := by decide +kernel
theorem dL_law_462 : decode code 462 = .ok (.iload 4, 2) := by decide +kernel
theorem dL_law_464 : decode code 464 = .ok (.iconst 2, 1) := by decide +kernel
theorem dL_law_465 : decode code 465 = .ok (.iadd, 1) := by decide +kernel
theorem dL_law_466 : decode code 466 = .ok (.iaload, 1) := by decide +kernel
theorem dL_law_467 : decode code 467 = .ok (.invokevirtual 54, 3) := by decide +kernel
theorem dL_law_470 : decode code 470 = .ok (.aload_n 2, 1) := by decide +kernel
theorem dL_law_471 : decode code 471 = .ok (.aload_n 0, 1) := by decide +kernel
theorem dL_law_472 : decode code 472 = .ok (.iload 4, 2) := by decide +kernel
theorem dL_law_474 : decode code 474 = .ok (.iconst 1, 1) := by decide +kernel
theorem dL_law_475 : decode code 475 = .ok (.iadd, 1) := by decide +kernel
theorem dL_law_476 : decode code 476 = .ok (.iaload, 1) := by decide +kernel
theorem dL_law_477 : decode code 477 = .ok (.aload_n 0, 1) := by decide +kernel
theorem dL_law_478 : decode code 478 = .ok (.iload 4, 2) := by decide +kernel
theorem dL_law_480 : decode code 480 = .ok (.iconst 2, 1) := by decide +kernel
theorem dL_law_481 : decode code 481 = .ok (.iadd, 1) := by decide +kernel
theorem dL_law_482 : decode code 482 = .ok (.iaload, 1) := by decide +kernel
theorem dL_law_483 : decode code 483 = .ok (.invokevirtual 57, 3) := by decide +kernel
theorem dL_law_486 : decode code 486 = .ok (.if_icmp .eq 1257, 3) := by decide +kernel
set_option maxHeartbeats 4000000 in
set_option maxRecDepth 100000 in
/-- unnumber -/
theorem law_6 {p : Program} {l : Launch} {e : Env} {s : State} {m : MethodId} {below : List Frame} {meth : Method} {c : Code} {b L : Nat} {xs : Nat → Int32} {D : va_G} {cy : Nat → ClassId} {aC aM : Nat → Nat} {AC AM : Nat → Prop} {o : Nat} (F : LwF p l s m meth c b L xs D cy aC aM AC AM o) {i : Nat} (hi : i + 5 ≤ L) {cells slots : Nat} (hcs : cells + 1 ≤ room_1.cells ∧ slots + 6 ≤ room_1.slots) (hgo : LwGo p l e s m below meth c b D cy aC aM o i (cells + 1) (slots + 6)) {I : Nat → Int32} {Lg : Nat → Int64} {A : Nat → Nat → Int32} {B : Nat → Nat → Int64} {J : Nat → Int32} {E : Nat → Nat → Int32} {f : Nat → Int64} {H : Heap} {locs : List Loc} {ls : Array Slot} (hP : LwP D cy aC aM o I Lg A B J E f H) (hS : va_S (sNew s) s.heap H locs) (hst : LSt I Lg A B J E) (hl : lv_has ls 7 [(0, .ref b), (1, .ref (aC 0)), (2, .ref (aM 0)), (3, .ref o), (4, .int (nI i))]) : WL p l e s m b below meth c H locs cells slots (F0 m 454 ls []) := by
  obtain ⟨S, hC, hM, hW⟩ := hst
  have hx := F.1.1
  have hb := F.1.2.1
  refine lv_aload_n hx hb dL_law_454 rfl (lv_at hl 1 rfl) ?_
  refine law_arg F (k := 1) 0 4 hl rfl rfl (by omega) (by decide) hS dL_law_455 dL_law_456 dL_law_458 dL_law_459 dL_law_460 ?_
  refine law_arg F (k := 2) 0 4 hl rfl rfl (by omega) (by decide) hS dL_law_461 dL_law_462 dL_law_464 dL_law_465 dL_law_466 ?_
  have hk := t_unnumber hC hM hW (xs (i + 1)) (xs (i + 2)) (K := fun r r' Lg1 B1 J1 E1 => r = r' ∧ LSt I Lg1 A B1 J1 E1) (by intros; exact ⟨rfl, _, by assumption, by assumption, by assumption⟩)
  refine lawCi F (As := [.int (xs (i + 1)), .int (xs (i + 2))]) (rest := []) (n := 2) (c_X9_unnumber F.2.2.2.2.2.1 I Lg A B (xs (i + 1)) (xs (i + 2)) _ hk) hP hS mw_2_196 wd_X9_unnumber rfl (by decide +kernel) ⟨rfl, rfl⟩ ⟨Nat.le_of_ble_eq_true rfl, Nat.le_of_ble_eq_true rfl⟩ rfl hl.1 rfl (Nat.le_of_ble_eq_true rfl) dL_law_467 ⟨Nat.le_of_succ_le hcs.1, Nat.le_trans (Nat.le_add_right _ 6) hcs.2⟩ (fun r u H locs h hP hS => ?_)
  obtain ⟨I1, L1, A1, B1⟩ := u
  dsimp only at h hP
  obtain ⟨h, rfl, rfl⟩ := h
  try dsimp only at h
  refine lv_aload_n hx hb dL_law_470 rfl (lv_at hl 2 rfl) ?_
  refine law_arg F (k := 1) 0 4 hl rfl rfl (by omega) (by decide) hS dL_law_471 dL_law_472 dL_law_474 dL_law_475 dL_law_476 ?_
  refine law_arg F (k := 2) 0 4 hl rfl rfl (by omega) (by decide) hS dL_law_477 dL_law_478 dL_law_480 dL_law_481 dL_law_482 ?_
  refine lawMi F (As := [.int (xs (i + 1)), .int (xs (i + 2))]) (rest := [.int r]) (n := 2) (c_X10_unnumber F.2.2.2.2.2.2.1 J E (xs (i + 1)) (xs (i + 2)) _ h) hP hS mw_5_32 wd_X10_unnumber rfl (by decide +kernel) ⟨rfl, rfl⟩ ⟨Nat.le_of_ble_eq_true rfl, Nat.le_of_ble_eq_true rfl⟩ rfl hl.1 rfl (Nat.le_of_ble_eq_true rfl) dL_law_483 ⟨Nat.le_of_succ_le hcs.1, Nat.le_trans (Nat.le_add_right _ 6) hcs.2⟩ (fun r' u H locs h hP hS => ?_)
  obtain ⟨J1, E1⟩ := u
  dsimp only at h hP
  obtain ⟨hrr, hst⟩ := h
  refine lv_icmp_eq (tgt := 1743) hx hb dL_law_486 (by decide) (fun _ => ?_) (fun hc => absurd hrr hc)
  exact W.widen (k := cells + 1) (n := slots + 6) (Nat.le_succ _) (Nat.le_add_right _ _) (hgo _ _ _ _ _ _ _ _ _ _ hP hS hst hl)
