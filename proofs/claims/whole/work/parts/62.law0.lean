set_option maxHeartbeats 4000000 in
set_option maxRecDepth 100000 in
theorem law_0 {p : Program} {l : Launch} {e : Env} {s : State} {m : MethodId} {args : Array Value} {below : List Frame} {meth : Method} {c : Code} {H : Heap} {locs : List Loc} {Q : State → Prop} {P : EP} {D : va_G} {A : Nat → Prop} {cells slots : Nat} {rt : Option FieldType} {ls : Array Slot} {a : Nat → Nat} {b : Nat → Nat → Nat} {g : Nat → ClassId} {o : Nat} {al : Nat → Nat} {k : KC} {gm : GM} {t q L i : Nat} {xs : Nat → Int32} (C : CxE P D (tyA g) RL cL_law 4 rt p s m args meth c A) (hX : va_X q L xs s s.heap) (hbl : q < s.heap.size) (hbA : ¬ A q) (hL : L ≤ 384) (hd : Hd D (wC a b g k ++ wM o al g gm) A s H locs) (hr : Rel t k gm) (ht : t < 2000) (hl : lv_has ls 4 [(0, .ref q), (1, .ref (a 0)), (2, .ref o), (3, .int (nI i))]) (hi : i + 6 ≤ L) (hcb : cells + 3 ≤ 600000) (hsb : slots + 166 ≤ 7302250)
    (kk : ∀ (k1 : KC) (g1 : GM) (H : Heap) (locs : List Loc) (c1 s1 : Nat), c1 ≤ cells + 3 → s1 ≤ slots + 166 → Rel (t + 1) k1 g1 → Hd D (wC a b g k1 ++ wM o al g g1) A s H locs → W p l e room_1 s m args below meth c H locs c1 s1 Q (F0 m 1212 ls [])) : W p l e room_1 s m args below meth c H locs cells slots Q (F0 m 168 ls []) := by
  have hx := C.1
  have hb := C.2.1
  have hown := C.2.2.2.1
  have hts := C.2.2.2.2.1
  refine lv_aload_n hx hb dL_law_168 rfl (lv_at hl 1 rfl) ?_
  refine lawArg C hX hbl hbA hd.2.2 (j := 1) (v := 1) (by decide) rfl (by omega) hL hl dL_law_169 dL_law_170 dL_law_171 dL_law_172 dL_law_173 ?_
  refine ev_i (w := fun u => wC a b g u ++ wM o al g gm) (k := k) C hd kwL_X9_sign ((cC_sign _ (op_sign _ hr)).frame _) ⟨rfl, rfl⟩ ⟨Nat.le_of_ble_eq_true rfl, Nat.le_of_ble_eq_true rfl⟩ (rcC9.left _) hl.1 rfl rfl (Nat.le_of_ble_eq_true rfl) ⟨by show cells ≤ 600000; omega, by show slots ≤ 7302250; omega⟩ dL_law_174 (fun r1 k1 H locs h hd => ?_)
  replace hd := hd.swap
  refine lv_aload_n hx hb dL_law_177 rfl (lv_at hl 2 rfl) ?_
  refine lawArg C hX hbl hbA hd.2.2 (j := 1) (v := 1) (by decide) rfl (by omega) hL hl dL_law_178 dL_law_179 dL_law_180 dL_law_181 dL_law_182 ?_
  refine xv_i (w := fun u => wM o al g u ++ wC a b g k1) (k := gm) C.cx hd kwL_X10_sign ((cM_sign _ h).frame _) ⟨rfl, rfl⟩ ⟨Nat.le_of_ble_eq_true rfl, Nat.le_of_ble_eq_true rfl⟩ (wM_rcv.left _) hl.1 rfl rfl (Nat.le_of_ble_eq_true rfl) ⟨by show cells ≤ 600000; omega, by show slots ≤ 7302250; omega⟩ dL_law_183 (fun r2 g1 H locs h hd => ?_)
  obtain ⟨e1, hr⟩ := h
  subst e1
  refine lv_icmp_eq (tgt := 1212) hx hb dL_law_186 (by decide) (fun _ => ?_) (fun c1 => absurd rfl c1)
  exact kk k1 g1 H locs cells slots (by omega) (by omega) hr hd.swap
set_option maxHeartbeats 4000000 in
set_option maxRecDepth 100000 in
theorem law_1 {p : Program} {l : Launch} {e : Env} {s : State} {m : MethodId} {args : Array Value} {below : List Frame} {meth : Method} {c : Code} {H : Heap} {locs : List Loc} {Q : State → Prop} {P : EP} {D : va_G} {A : Nat → Prop} {cells slots : Nat} {rt : Option FieldType} {ls : Array Slot} {a : Nat → Nat} {b : Nat → Nat → Nat} {g : Nat → ClassId} {o : Nat} {al : Nat → Nat} {k : KC} {gm : GM} {t q L i : Nat} {xs : Nat → Int32} (C : CxE P D (tyA g) RL cL_law 4 rt p s m args meth c A) (hX : va_X q L xs s s.heap) (hbl : q < s.heap.size) (hbA : ¬ A q) (hL : L ≤ 384) (hd : Hd D (wC a b g k ++ wM o al g gm) A s H locs) (hr : Rel t k gm) (ht : t < 2000) (hl : lv_has ls 4 [(0, .ref q), (1, .ref (a 0)), (2, .ref o), (3, .int (nI i))]) (hi : i + 6 ≤ L) (hcb : cells + 3 ≤ 600000) (hsb : slots + 166 ≤ 7302250)
    (kk : ∀ (k1 : KC) (g1 : GM) (H : Heap) (locs : List Loc) (c1 s1 : Nat), c1 ≤ cells + 3 → s1 ≤ slots + 166 → Rel (t + 1) k1 g1 → Hd D (wC a b g k1 ++ wM o al g g1) A s H locs → W p l e room_1 s m args below meth c H locs c1 s1 Q (F0 m 1212 ls [])) : W p l e room_1 s m args below meth c H locs cells slots Q (F0 m 191 ls []) := by
  have hx := C.1
  have hb := C.2.1
  have hown := C.2.2.2.1
  have hts := C.2.2.2.2.1
  refine lv_aload_n hx hb dL_law_191 rfl (lv_at hl 1 rfl) ?_
  refine lawArg C hX hbl hbA hd.2.2 (j := 1) (v := 1) (by decide) rfl (by omega) hL hl dL_law_192 dL_law_193 dL_law_194 dL_law_195 dL_law_196 ?_
  refine lawArg C hX hbl hbA hd.2.2 (j := 2) (v := 2) (by decide) rfl (by omega) hL hl dL_law_197 dL_law_198 dL_law_199 dL_law_200 dL_law_201 ?_
  refine ev_l (w := fun u => wC a b g u ++ wM o al g gm) (k := k) C hd kwL_X9_told ((cC_told _ _ (op_told _ _ ht hr)).frame _) ⟨rfl, rfl⟩ ⟨Nat.le_of_ble_eq_true rfl, Nat.le_of_ble_eq_true rfl⟩ (rcC9.left _) hl.1 rfl rfl (Nat.le_of_ble_eq_true rfl) ⟨by show cells ≤ 600000; omega, by show slots ≤ 7302250; omega⟩ dL_law_202 (fun r1 k1 H locs h hd => ?_)
  replace hd := hd.swap
  refine lv_aload_n hx hb dL_law_205 rfl (lv_at hl 2 rfl) ?_
  refine lawArg C hX hbl hbA hd.2.2 (j := 1) (v := 1) (by decide) rfl (by omega) hL hl dL_law_206 dL_law_207 dL_law_208 dL_law_209 dL_law_210 ?_
  refine lawArg C hX hbl hbA hd.2.2 (j := 2) (v := 2) (by decide) rfl (by omega) hL hl dL_law_211 dL_law_212 dL_law_213 dL_law_214 dL_law_215 ?_
  refine xv_l (w := fun u => wM o al g u ++ wC a b g k1) (k := gm) C.cx hd kwL_X10_told ((cM_told _ _ h).frame _) ⟨rfl, rfl⟩ ⟨Nat.le_of_ble_eq_true rfl, Nat.le_of_ble_eq_true rfl⟩ (wM_rcv.left _) hl.1 rfl rfl (Nat.le_of_ble_eq_true rfl) ⟨by show cells ≤ 600000; omega, by show slots ≤ 7302250; omega⟩ dL_law_216 (fun r2 g1 H locs h hd => ?_)
  obtain ⟨e1, hr⟩ := h
  subst e1
  refine W.lcmp hx hb dL_law_219 ?_
  refine lv_if_eq (tgt := 1212) hx hb dL_law_220 (by decide) (fun _ => ?_) (fun c1 => absurd ((lg_cmp_eq _ _).mpr rfl) c1)
  exact kk k1 g1 H locs cells slots (by omega) (by omega) hr hd.swap
set_option maxHeartbeats 4000000 in
set_option maxRecDepth 100000 in
theorem law_2 {p : Program} {l : Launch} {e : Env} {s : State} {m : MethodId} {args : Array Value} {below : List Frame} {meth : Method} {c : Code} {H : Heap} {locs : List Loc} {Q : State → Prop} {P : EP} {D : va_G} {A : Nat → Prop} {cells slots : Nat} {rt : Option FieldType} {ls : Array Slot} {a : Nat → Nat} {b : Nat → Nat → Nat} {g : Nat → ClassId} {o : Nat} {al : Nat → Nat} {k : KC} {gm : GM} {t q L i : Nat} {xs : Nat → Int32} (C : CxE P D (tyA g) RL cL_law 4 rt p s m args meth c A) (hX : va_X q L xs s s.heap) (hbl : q < s.heap.size) (hbA : ¬ A q) (hL : L ≤ 384) (hd : Hd D (wC a b g k ++ wM o al g gm) A s H locs) (hr : Rel t k gm) (ht : t < 2000) (hl : lv_has ls 4 [(0, .ref q), (1, .ref (a 0)), (2, .ref o), (3, .int (nI i))]) (hi : i + 6 ≤ L) (hcb : cells + 3 ≤ 600000) (hsb : slots + 166 ≤ 7302250)
    (kk : ∀ (k1 : KC) (g1 : GM) (H : Heap) (locs : List Loc) (c1 s1 : Nat), c1 ≤ cells + 3 → s1 ≤ slots + 166 → Rel (t + 1) k1 g1 → Hd D (wC a b g k1 ++ wM o al g g1) A s H locs → W p l e room_1 s m args below meth c H locs c1 s1 Q (F0 m 1212 ls [])) : W p l e room_1 s m args below meth c H locs cells slots Q (F0 m 225 ls []) := by
  have hx := C.1
  have hb := C.2.1
  have hown := C.2.2.2.1
  have hts := C.2.2.2.2.1
  refine lv_aload_n hx hb dL_law_225 rfl (lv_at hl 1 rfl) ?_
  refine lawArg C hX hbl hbA hd.2.2 (j := 1) (v := 1) (by decide) rfl (by omega) hL hl dL_law_226 dL_law_227 dL_law_228 dL_law_229 dL_law_230 ?_
  refine lawArg C hX hbl hbA hd.2.2 (j := 2) (v := 2) (by decide) rfl (by omega) hL hl dL_law_231 dL_law_232 dL_law_233 dL_law_234 dL_law_235 ?_
  refine ev_i (w := fun u => wC a b g u ++ wM o al g gm) (k := k) C hd kwL_X9_worth ((cC_worth _ _ (op_worth _ _ hr)).frame _) ⟨rfl, rfl⟩ ⟨Nat.le_of_ble_eq_true rfl, Nat.le_of_ble_eq_true rfl⟩ (rcC9.left _) hl.1 rfl rfl (Nat.le_of_ble_eq_true rfl) ⟨by show cells ≤ 600000; omega, by show slots ≤ 7302250; omega⟩ dL_law_236 (fun r1 k1 H locs h hd => ?_)
  replace hd := hd.swap
  refine lv_aload_n hx hb dL_law_239 rfl (lv_at hl 2 rfl) ?_
  refine lawArg C hX hbl hbA hd.2.2 (j := 1) (v := 1) (by decide) rfl (by omega) hL hl dL_law_240 dL_law_241 dL_law_242 dL_law_243 dL_law_244 ?_
  refine lawArg C hX hbl hbA hd.2.2 (j := 2) (v := 2) (by decide) rfl (by omega) hL hl dL_law_245 dL_law_246 dL_law_247 dL_law_248 dL_law_249 ?_
  refine xv_i (w := fun u => wM o al g u ++ wC a b g k1) (k := gm) C.cx hd kwL_X10_worth ((cM_worth _ _ h).frame _) ⟨rfl, rfl⟩ ⟨Nat.le_of_ble_eq_true rfl, Nat.le_of_ble_eq_true rfl⟩ (wM_rcv.left _) hl.1 rfl rfl (Nat.le_of_ble_eq_true rfl) ⟨by show cells ≤ 600000; omega, by show slots ≤ 7302250; omega⟩ dL_law_250 (fun r2 g1 H locs h hd => ?_)
  obtain ⟨e1, hr⟩ := h
  subst e1
  refine lv_icmp_eq (tgt := 1212) hx hb dL_law_253 (by decide) (fun _ => ?_) (fun c1 => absurd rfl c1)
  exact kk k1 g1 H locs cells slots (by omega) (by omega) hr hd.swap
set_option maxHeartbeats 4000000 in
set_option maxRecDepth 100000 in
theorem law_3 {p : Program} {l : Launch} {e : Env} {s : State} {m : MethodId} {args : Array Value} {below : List Frame} {meth : Method} {c : Code} {H : Heap} {locs : List Loc} {Q : State → Prop} {P : EP} {D : va_G} {A : Nat → Prop} {cells slots : Nat} {rt : Option FieldType} {ls : Array Slot} {a : Nat → Nat} {b : Nat → Nat → Nat} {g : Nat → ClassId} {o : Nat} {al : Nat → Nat} {k : KC} {gm : GM} {t q L i : Nat} {xs : Nat → Int32} (C : CxE P D (tyA g) RL cL_law 4 rt p s m args meth c A) (hX : va_X q L xs s s.heap) (hbl : q < s.heap.size) (hbA : ¬ A q) (hL : L ≤ 384) (hd : Hd D (wC a b g k ++ wM o al g gm) A s H locs) (hr : Rel t k gm) (ht : t < 2000) (hl : lv_has ls 4 [(0, .ref q), (1, .ref (a 0)), (2, .ref o), (3, .int (nI i))]) (hi : i + 6 ≤ L) (hcb : cells + 3 ≤ 600000) (hsb : slots + 166 ≤ 7302250)
    (kk : ∀ (k1 : KC) (g1 : GM) (H : Heap) (locs : List Loc) (c1 s1 : Nat), c1 ≤ cells + 3 → s1 ≤ slots + 166 → Rel (t + 1) k1 g1 → Hd D (wC a b g k1 ++ wM o al g g1) A s H locs → W p l e room_1 s m args below meth c H locs c1 s1 Q (F0 m 1212 ls [])) : W p l e room_1 s m args below meth c H locs cells slots Q (F0 m 258 ls []) := by
  have hx := C.1
  have hb := C.2.1
  have hown := C.2.2.2.1
  have hts := C.2.2.2.2.1
  refine lv_aload_n hx hb dL_law_258 rfl (lv_at hl 1 rfl) ?_
  refine lawArg C hX hbl hbA hd.2.2 (j := 1) (v := 1) (by decide) rfl (by omega) hL hl dL_law_259 dL_law_260 dL_law_261 dL_law_262 dL_law_263 ?_
  refine lawArg C hX hbl hbA hd.2.2 (j := 2) (v := 2) (by decide) rfl (by omega) hL hl dL_law_264 dL_law_265 dL_law_266 dL_law_267 dL_law_268 ?_
  refine lawArg C hX hbl hbA hd.2.2 (j := 3) (v := 3) (by decide) rfl (by omega) hL hl dL_law_269 dL_law_270 dL_law_271 dL_law_272 dL_law_273 ?_
  refine ev_i (w := fun u => wC a b g u ++ wM o al g gm) (k := k) C hd kwL_X9_goes ((cC_goes _ _ _ (op_goes _ _ _ hr)).frame _) ⟨rfl, rfl⟩ ⟨Nat.le_of_ble_eq_true rfl, Nat.le_of_ble_eq_true rfl⟩ (rcC9.left _) hl.1 rfl rfl (Nat.le_of_ble_eq_true rfl) ⟨by show cells ≤ 600000; omega, by show slots ≤ 7302250; omega⟩ dL_law_274 (fun r1 k1 H locs h hd => ?_)
  replace hd := hd.swap
  refine lv_aload_n hx hb dL_law_277 rfl (lv_at hl 2 rfl) ?_
  refine lawArg C hX hbl hbA hd.2.2 (j := 1) (v := 1) (by decide) rfl (by omega) hL hl dL_law_278 dL_law_279 dL_law_280 dL_law_281 dL_law_282 ?_
  refine lawArg C hX hbl hbA hd.2.2 (j := 2) (v := 2) (by decide) rfl (by omega) hL hl dL_law_283 dL_law_284 dL_law_285 dL_law_286 dL_law_287 ?_
  refine lawArg C hX hbl hbA hd.2.2 (j := 3) (v := 3) (by decide) rfl (by omega) hL hl dL_law_288 dL_law_289 dL_law_290 dL_law_291 dL_law_292 ?_
  refine xv_i (w := fun u => wM o al g u ++ wC a b g k1) (k := gm) C.cx hd kwL_X10_goes ((cM_goes _ _ _ h).frame _) ⟨rfl, rfl⟩ ⟨Nat.le_of_ble_eq_true rfl, Nat.le_of_ble_eq_true rfl⟩ (wM_rcv.left _) hl.1 rfl rfl (Nat.le_of_ble_eq_true rfl) ⟨by show cells ≤ 600000; omega, by show slots ≤ 7302250; omega⟩ dL_law_293 (fun r2 g1 H locs h hd => ?_)
  obtain ⟨e1, hr⟩ := h
  subst e1
  refine lv_icmp_eq (tgt := 1212) hx hb dL_law_296 (by decide) (fun _ => ?_) (fun c1 => absurd rfl c1)
  exact kk k1 g1 H locs cells slots (by omega) (by omega) hr hd.swap
set_option maxHeartbeats 4000000 in
set_option maxRecDepth 100000 in
theorem law_4 {p : Program} {l : Launch} {e : Env} {s : State} {m : MethodId} {args : Array Value} {below : List Frame} {meth : Method} {c : Code} {H : Heap} {locs : List Loc} {Q : State → Prop} {P : EP} {D : va_G} {A : Nat → Prop} {cells slots : Nat} {rt : Option FieldType} {ls : Array Slot} {a : Nat → Nat} {b : Nat → Nat → Nat} {g : Nat → ClassId} {o : Nat} {al : Nat → Nat} {k : KC} {gm : GM} {t q L i : Nat} {xs : Nat → Int32} (C : CxE P D (tyA g) RL cL_law 4 rt p s m args meth c A) (hX : va_X q L xs s s.heap) (hbl : q < s.heap.size) (hbA : ¬ A q) (hL : L ≤ 384) (hd : Hd D (wC a b g k ++ wM o al g gm) A s H locs) (hr : Rel t k gm) (ht : t < 2000) (hl : lv_has ls 4 [(0, .ref q), (1, .ref (a 0)), (2, .ref o), (3, .int (nI i))]) (hi : i + 6 ≤ L) (hcb : cells + 3 ≤ 600000) (hsb : slots + 166 ≤ 7302250)
    (kk : ∀ (k1 : KC) (g1 : GM) (H : Heap) (locs : List Loc) (c1 s1 : Nat), c1 ≤ cells + 3 → s1 ≤ slots + 166 → Rel (t + 1) k1 g1 → Hd D (wC a b g k1 ++ wM o al g g1) A s H locs → W p l e room_1 s m args below meth c H locs c1 s1 Q (F0 m 1212 ls [])) : W p l e room_1 s m args below meth c H locs cells slots Q (F0 m 301 ls []) := by
  have hx := C.1
  have hb := C.2.1
  have hown := C.2.2.2.1
  have hts := C.2.2.2.2.1
  refine lv_aload_n hx hb dL_law_301 rfl (lv_at hl 1 rfl) ?_
  refine lawArg C hX hbl hbA hd.2.2 (j := 1) (v := 1) (by decide) rfl (by omega) hL hl dL_law_302 dL_law_303 dL_law_304 dL_law_305 dL_law_306 ?_
  refine lawArg C hX hbl hbA hd.2.2 (j := 2) (v := 2) (by decide) rfl (by omega) hL hl dL_law_307 dL_law_308 dL_law_309 dL_law_310 dL_law_311 ?_
  refine lawArg C hX hbl hbA hd.2.2 (j := 3) (v := 3) (by decide) rfl (by omega) hL hl dL_law_312 dL_law_313 dL_law_314 dL_law_315 dL_law_316 ?_
  refine ev_i (w := fun u => wC a b g u ++ wM o al g gm) (k := k) C hd kwL_X9_like ((cC_like _ _ _ (op_like _ _ _ hr)).frame _) ⟨rfl, rfl⟩ ⟨Nat.le_of_ble_eq_true rfl, Nat.le_of_ble_eq_true rfl⟩ (rcC9.left _) hl.1 rfl rfl (Nat.le_of_ble_eq_true rfl) ⟨by show cells ≤ 600000; omega, by show slots ≤ 7302250; omega⟩ dL_law_317 (fun r1 k1 H locs h hd => ?_)
  replace hd := hd.swap
  refine lv_aload_n hx hb dL_law_320 rfl (lv_at hl 2 rfl) ?_
  refine lawArg C hX hbl hbA hd.2.2 (j := 1) (v := 1) (by decide) rfl (by omega) hL hl dL_law_321 dL_law_322 dL_law_323 dL_law_324 dL_law_325 ?_
  refine lawArg C hX hbl hbA hd.2.2 (j := 2) (v := 2) (by decide) rfl (by omega) hL hl dL_law_326 dL_law_327 dL_law_328 dL_law_329 dL_law_330 ?_
  refine lawArg C hX hbl hbA hd.2.2 (j := 3) (v := 3) (by decide) rfl (by omega) hL hl dL_law_331 dL_law_332 dL_law_333 dL_law_334 dL_law_335 ?_
  refine xv_i (w := fun u => wM o al g u ++ wC a b g k1) (k := gm) C.cx hd kwL_X10_like ((cM_like _ _ _ h).frame _) ⟨rfl, rfl⟩ ⟨Nat.le_of_ble_eq_true rfl, Nat.le_of_ble_eq_true rfl⟩ (wM_rcv.left _) hl.1 rfl rfl (Nat.le_of_ble_eq_true rfl) ⟨by show cells ≤ 600000; omega, by show slots ≤ 7302250; omega⟩ dL_law_336 (fun r2 g1 H locs h hd => ?_)
  obtain ⟨e1, hr⟩ := h
  subst e1
  refine lv_icmp_eq (tgt := 1212) hx hb dL_law_339 (by decide) (fun _ => ?_) (fun c1 => absurd rfl c1)
  exact kk k1 g1 H locs cells slots (by omega) (by omega) hr hd.swap
set_option maxHeartbeats 4000000 in
set_option maxRecDepth 100000 in
theorem law_5 {p : Program} {l : Launch} {e : Env} {s : State} {m : MethodId} {args : Array Value} {below : List Frame} {meth : Method} {c : Code} {H : Heap} {locs : List Loc} {Q : State → Prop} {P : EP} {D : va_G} {A : Nat → Prop} {cells slots : Nat} {rt : Option FieldType} {ls : Array Slot} {a : Nat → Nat} {b : Nat → Nat → Nat} {g : Nat → ClassId} {o : Nat} {al : Nat → Nat} {k : KC} {gm : GM} {t q L i : Nat} {xs : Nat → Int32} (C : CxE P D (tyA g) RL cL_law 4 rt p s m args meth c A) (hX : va_X q L xs s s.heap) (hbl : q < s.heap.size) (hbA : ¬ A q) (hL : L ≤ 384) (hd : Hd D (wC a b g k ++ wM o al g gm) A s H locs) (hr : Rel t k gm) (ht : t < 2000) (hl : lv_has ls 4 [(0, .ref q), (1, .ref (a 0)), (2, .ref o), (3, .int (nI i))]) (hi : i + 6 ≤ L) (hcb : cells + 3 ≤ 600000) (hsb : slots + 166 ≤ 7302250)
    (kk : ∀ (k1 : KC) (g1 : GM) (H : Heap) (locs : List Loc) (c1 s1 : Nat), c1 ≤ cells + 3 → s1 ≤ slots + 166 → Rel (t + 1) k1 g1 → Hd D (wC a b g k1 ++ wM o al g g1) A s H locs → W p l e room_1 s m args below meth c H locs c1 s1 Q (F0 m 1212 ls [])) : W p l e room_1 s m args below meth c H locs cells slots Q (F0 m 344 ls []) := by
  have hx := C.1
  have hb := C.2.1
  have hown := C.2.2.2.1
  have hts := C.2.2.2.2.1
  refine lv_aload_n hx hb dL_law_344 rfl (lv_at hl 1 rfl) ?_
  refine lawArg C hX hbl hbA hd.2.2 (j := 1) (v := 1) (by decide) rfl (by omega) hL hl dL_law_345 dL_law_346 dL_law_347 dL_law_348 dL_law_349 ?_
  refine ev_i (w := fun u => wC a b g u ++ wM o al g gm) (k := k) C hd kwL_X9_pace ((cC_pace _ (op_pace _ hr)).frame _) ⟨rfl, rfl⟩ ⟨Nat.le_of_ble_eq_true rfl, Nat.le_of_ble_eq_true rfl⟩ (rcC9.left _) hl.1 rfl rfl (Nat.le_of_ble_eq_true rfl) ⟨by show cells ≤ 600000; omega, by show slots ≤ 7302250; omega⟩ dL_law_350 (fun r1 k1 H locs h hd => ?_)
  replace hd := hd.swap
  refine lv_aload_n hx hb dL_law_353 rfl (lv_at hl 2 rfl) ?_
  refine lawArg C hX hbl hbA hd.2.2 (j := 1) (v := 1) (by decide) rfl (by omega) hL hl dL_law_354 dL_law_355 dL_law_356 dL_law_357 dL_law_358 ?_
  refine xv_i (w := fun u => wM o al g u ++ wC a b g k1) (k := gm) C.cx hd kwL_X10_pace ((cM_pace _ h).frame _) ⟨rfl, rfl⟩ ⟨Nat.le_of_ble_eq_true rfl, Nat.le_of_ble_eq_true rfl⟩ (wM_rcv.left _) hl.1 rfl rfl (Nat.le_of_ble_eq_true rfl) ⟨by show cells ≤ 600000; omega, by show slots ≤ 7302250; omega⟩ dL_law_359 (fun r2 g1 H locs h hd => ?_)
  obtain ⟨e1, hr⟩ := h
  subst e1
  refine lv_icmp_eq (tgt := 1212) hx hb dL_law_362 (by decide) (fun _ => ?_) (fun c1 => absurd rfl c1)
  exact kk k1 g1 H locs cells slots (by omega) (by omega) hr hd.swap
set_option maxHeartbeats 4000000 in
set_option maxRecDepth 100000 in
theorem law_6 {p : Program} {l : Launch} {e : Env} {s : State} {m : MethodId} {args : Array Value} {below : List Frame} {meth : Method} {c : Code} {H : Heap} {locs : List Loc} {Q : State → Prop} {P : EP} {D : va_G} {A : Nat → Prop} {cells slots : Nat} {rt : Option FieldType} {ls : Array Slot} {a : Nat → Nat} {b : Nat → Nat → Nat} {g : Nat → ClassId} {o : Nat} {al : Nat → Nat} {k : KC} {gm : GM} {t q L i : Nat} {xs : Nat → Int32} (C : CxE P D (tyA g) RL cL_law 4 rt p s m args meth c A) (hX : va_X q L xs s s.heap) (hbl : q < s.heap.size) (hbA : ¬ A q) (hL : L ≤ 384) (hd : Hd D (wC a b g k ++ wM o al g gm) A s H locs) (hr : Rel t k gm) (ht : t < 2000) (hl : lv_has ls 4 [(0, .ref q), (1, .ref (a 0)), (2, .ref o), (3, .int (nI i))]) (hi : i + 6 ≤ L) (hcb : cells + 3 ≤ 600000) (hsb : slots + 166 ≤ 7302250)
    (kk : ∀ (k1 : KC) (g1 : GM) (H : Heap) (locs : List Loc) (c1 s1 : Nat), c1 ≤ cells + 3 → s1 ≤ slots + 166 → Rel (t + 1) k1 g1 → Hd D (wC a b g k1 ++ wM o al g g1) A s H locs → W p l e room_1 s m args below meth c H locs c1 s1 Q (F0 m 1212 ls [])) : W p l e room_1 s m args below meth c H locs cells slots Q (F0 m 367 ls []) := by
  have hx := C.1
  have hb := C.2.1
  have hown := C.2.2.2.1
  have hts := C.2.2.2.2.1
  refine lv_aload_n hx hb dL_law_367 rfl (lv_at hl 1 rfl) ?_
  refine lawArg C hX hbl hbA hd.2.2 (j := 1) (v := 1) (by decide) rfl (by omega) hL hl dL_law_368 dL_law_369 dL_law_370 dL_law_371 dL_law_372 ?_
  refine lawArg C hX hbl hbA hd.2.2 (j := 2) (v := 2) (by decide) rfl (by omega) hL hl dL_law_373 dL_law_374 dL_law_375 dL_law_376 dL_law_377 ?_
  refine lv_i2l hx hb dL_law_378 rfl ?_
  refine lv_bipush (v := 32) hx hb dL_law_379 (by decide) ?_
  refine lv_lshl hx hb dL_law_381 rfl ?_
  refine lawArg C hX hbl hbA hd.2.2 (j := 3) (v := 3) (by decide) rfl (by omega) hL hl dL_law_382 dL_law_383 dL_law_384 dL_law_385 dL_law_386 ?_
  refine lv_i2l hx hb dL_law_387 rfl ?_
  refine lv_ldc2 (v := 4294967295) hx hb hown (hts _ q_1396) dL_law_388 ?_
  refine lv_land hx hb dL_law_391 ?_
  refine lv_lor hx hb dL_law_392 ?_
  refine ev_i (w := fun u => wC a b g u ++ wM o al g gm) (k := k) C hd kwL_X9_feed ((cC_feed _ _ (op_feed hr)).frame _) ⟨rfl, rfl⟩ ⟨Nat.le_of_ble_eq_true rfl, Nat.le_of_ble_eq_true rfl⟩ (rcC9.left _) hl.1 rfl rfl (Nat.le_of_ble_eq_true rfl) ⟨by show cells ≤ 600000; omega, by show slots ≤ 7302250; omega⟩ dL_law_393 (fun r1 k1 H locs h hd => ?_)
  replace hd := hd.swap
  obtain ⟨n2, h⟩ := h
  refine lv_aload_n hx hb dL_law_396 rfl (lv_at hl 2 rfl) ?_
  refine lawArg C hX hbl hbA hd.2.2 (j := 1) (v := 1) (by decide) rfl (by omega) hL hl dL_law_397 dL_law_398 dL_law_399 dL_law_400 dL_law_401 ?_
  refine lawArg C hX hbl hbA hd.2.2 (j := 2) (v := 2) (by decide) rfl (by omega) hL hl dL_law_402 dL_law_403 dL_law_404 dL_law_405 dL_law_406 ?_
  refine lv_i2l hx hb dL_law_407 rfl ?_
  refine lv_bipush (v := 32) hx hb dL_law_408 (by decide) ?_
  refine lv_lshl hx hb dL_law_410 rfl ?_
  refine lawArg C hX hbl hbA hd.2.2 (j := 3) (v := 3) (by decide) rfl (by omega) hL hl dL_law_411 dL_law_412 dL_law_413 dL_law_414 dL_law_415 ?_
  refine lv_i2l hx hb dL_law_416 rfl ?_
  refine lv_ldc2 (v := 4294967295) hx hb hown (hts _ q_1396) dL_law_417 ?_
  refine lv_land hx hb dL_law_420 ?_
  refine lv_lor hx hb dL_law_421 ?_
  refine xv_i (w := fun u => wM o al g u ++ wC a b g k1) (k := gm) C.cx hd kwL_X10_feed ((cM_feed _ _ _ h).frame _) ⟨rfl, rfl⟩ ⟨Nat.le_of_ble_eq_true rfl, Nat.le_of_ble_eq_true rfl⟩ (wM_rcv.left _) hl.1 rfl rfl (Nat.le_of_ble_eq_true rfl) ⟨by show cells ≤ 600000; omega, by show slots ≤ 7302250; omega⟩ dL_law_422 (fun r2 g1 H locs h hd => ?_)
  obtain ⟨e1, hr⟩ := h
  subst e1
  refine lv_icmp_eq (tgt := 1212) hx hb dL_law_425 (by decide) (fun _ => ?_) (fun c1 => absurd rfl c1)
  exact kk k1 g1 H locs cells slots (by omega) (by omega) hr hd.swap
set_option maxHeartbeats 4000000 in
set_option maxRecDepth 100000 in
theorem law_7 {p : Program} {l : Launch} {e : Env} {s : State} {m : MethodId} {args : Array Value} {below : List Frame} {meth : Method} {c : Code} {H : Heap} {locs : List Loc} {Q : State → Prop} {P : EP} {D : va_G} {A : Nat → Prop} {cells slots : Nat} {rt : Option FieldType} {ls : Array Slot} {a : Nat → Nat} {b : Nat → Nat → Nat} {g : Nat → ClassId} {o : Nat} {al : Nat → Nat} {k : KC} {gm : GM} {t q L i : Nat} {xs : Nat → Int32} (C : CxE P D (tyA g) RL cL_law 4 rt p s m args meth c A) (hX : va_X q L xs s s.heap) (hbl : q < s.heap.size) (hbA : ¬ A q) (hL : L ≤ 384) (hd : Hd D (wC a b g k ++ wM o al g gm) A s H locs) (hr : Rel t k gm) (ht : t < 2000) (hl : lv_has ls 4 [(0, .ref q), (1, .ref (a 0)), (2, .ref o), (3, .int (nI i))]) (hi : i + 6 ≤ L) (hcb : cells + 3 ≤ 600000) (hsb : slots + 166 ≤ 7302250)
    (kk : ∀ (k1 : KC) (g1 : GM) (H : Heap) (locs : List Loc) (c1 s1 : Nat), c1 ≤ cells + 3 → s1 ≤ slots + 166 → Rel (t + 1) k1 g1 → Hd D (wC a b g k1 ++ wM o al g g1) A s H locs → W p l e room_1 s m args below meth c H locs c1 s1 Q (F0 m 1212 ls [])) : W p l e room_1 s m args below meth c H locs cells slots Q (F0 m 430 ls []) := by
  have hx := C.1
  have hb := C.2.1
  have hown := C.2.2.2.1
  have hts := C.2.2.2.2.1
  refine lv_aload_n hx hb dL_law_430 rfl (lv_at hl 1 rfl) ?_
  refine ev_iA (w := fun u => wC a b g u ++ wM o al g gm) (k := k) C hd kwL_X9_text ((cC_text_ (op_text a hr)).frame _) rfl rfl ⟨Nat.le_of_ble_eq_true rfl, Nat.le_of_ble_eq_true rfl⟩ (rcC9.left _) hl.1 rfl rfl (Nat.le_of_ble_eq_true rfl) ⟨by show cells + 3 ≤ 600000; omega, by show slots + 166 ≤ 7302250; omega⟩ dL_law_431 (fun r1 k1 H locs h hd => ?_)
  replace hd := hd.swap
  obtain ⟨n2, h⟩ := h
  refine lv_aload_n hx hb dL_law_434 rfl (lv_at hl 2 rfl) ?_
  refine xv_i (w := fun u => wM o al g u ++ wC a b g k1) (k := gm) C.cx hd kwL_X10_text ((cM_text _ h).frame _) ⟨rfl, rfl⟩ ⟨Nat.le_of_ble_eq_true rfl, Nat.le_of_ble_eq_true rfl⟩ (wM_rcv.left _) hl.1 rfl rfl (Nat.le_of_ble_eq_true rfl) ⟨by show cells + 3 ≤ 600000; omega, by show slots + 166 ≤ 7302250; omega⟩ dL_law_435 (fun r2 g1 H locs h hd => ?_)
  obtain ⟨e1, hr⟩ := h
  subst e1
  refine lv_icmp_eq (tgt := 1212) hx hb dL_law_438 (by decide) (fun _ => ?_) (fun c1 => absurd rfl c1)
  exact kk k1 g1 H locs (cells + 3) (slots + 166) (by omega) (by omega) hr hd.swap
set_option maxHeartbeats 4000000 in
set_option maxRecDepth 100000 in
theorem law_8 {p : Program} {l : Launch} {e : Env} {s : State} {m : MethodId} {args : Array Value} {below : List Frame} {meth : Method} {c : Code} {H : Heap} {locs : List Loc} {Q : State → Prop} {P : EP} {D : va_G} {A : Nat → Prop} {cells slots : Nat} {rt : Option FieldType} {ls : Array Slot} {a : Nat → Nat} {b : Nat → Nat → Nat} {g : Nat → ClassId} {o : Nat} {al : Nat → Nat} {k : KC} {gm : GM} {t q L i : Nat} {xs : Nat → Int32} (C : CxE P D (tyA g) RL cL_law 4 rt p s m args meth c A) (hX : va_X q L xs s s.heap) (hbl : q < s.heap.size) (hbA : ¬ A q) (hL : L ≤ 384) (hd : Hd D (wC a b g k ++ wM o al g gm) A s H locs) (hr : Rel t k gm) (ht : t < 2000) (hl : lv_has ls 4 [(0, .ref q), (1, .ref (a 0)), (2, .ref o), (3, .int (nI i))]) (hi : i + 6 ≤ L) (hcb : cells + 3 ≤ 600000) (hsb : slots + 166 ≤ 7302250)
    (kk : ∀ (k1 : KC) (g1 : GM) (H : Heap) (locs : List Loc) (c1 s1 : Nat), c1 ≤ cells + 3 → s1 ≤ slots + 166 → Rel (t + 1) k1 g1 → Hd D (wC a b g k1 ++ wM o al g g1) A s H locs → W p l e room_1 s m args below meth c H locs c1 s1 Q (F0 m 1212 ls [])) : W p l e room_1 s m args below meth c H locs cells slots Q (F0 m 443 ls []) := by
  have hx := C.1
  have hb := C.2.1
  have hown := C.2.2.2.1
  have hts := C.2.2.2.2.1
  refine lv_aload_n hx hb dL_law_443 rfl (lv_at hl 1 rfl) ?_
  refine lawArg C hX hbl hbA hd.2.2 (j := 1) (v := 1) (by decide) rfl (by omega) hL hl dL_law_444 dL_law_445 dL_law_446 dL_law_447 dL_law_448 ?_
  refine ev_i (w := fun u => wC a b g u ++ wM o al g gm) (k := k) C hd kwL_X9_force ((cC_force _ (op_force _ hr)).frame _) ⟨rfl, rfl⟩ ⟨Nat.le_of_ble_eq_true rfl, Nat.le_of_ble_eq_true rfl⟩ (rcC9.left _) hl.1 rfl rfl (Nat.le_of_ble_eq_true rfl) ⟨by show cells ≤ 600000; omega, by show slots ≤ 7302250; omega⟩ dL_law_449 (fun r1 k1 H locs h hd => ?_)
  replace hd := hd.swap
  refine lv_aload_n hx hb dL_law_452 rfl (lv_at hl 2 rfl) ?_
  refine lawArg C hX hbl hbA hd.2.2 (j := 1) (v := 1) (by decide) rfl (by omega) hL hl dL_law_453 dL_law_454 dL_law_455 dL_law_456 dL_law_457 ?_
  refine xv_i (w := fun u => wM o al g u ++ wC a b g k1) (k := gm) C.cx hd kwL_X10_force ((cM_force _ h).frame _) ⟨rfl, rfl⟩ ⟨Nat.le_of_ble_eq_true rfl, Nat.le_of_ble_eq_true rfl⟩ (wM_rcv.left _) hl.1 rfl rfl (Nat.le_of_ble_eq_true rfl) ⟨by show cells ≤ 600000; omega, by show slots ≤ 7302250; omega⟩ dL_law_458 (fun r2 g1 H locs h hd => ?_)
  obtain ⟨e1, hr⟩ := h
  subst e1
  refine lv_icmp_eq (tgt := 1212) hx hb dL_law_461 (by decide) (fun _ => ?_) (fun c1 => absurd rfl c1)
  exact kk k1 g1 H locs cells slots (by omega) (by omega) hr hd.swap
set_option maxHeartbeats 4000000 in
set_option maxRecDepth 100000 in
theorem law_9 {p : Program} {l : Launch} {e : Env} {s : State} {m : MethodId} {args : Array Value} {below : List Frame} {meth : Method} {c : Code} {H : Heap} {locs : List Loc} {Q : State → Prop} {P : EP} {D : va_G} {A : Nat → Prop} {cells slots : Nat} {rt : Option FieldType} {ls : Array Slot} {a : Nat → Nat} {b : Nat → Nat → Nat} {g : Nat → ClassId} {o : Nat} {al : Nat → Nat} {k : KC} {gm : GM} {t q L i : Nat} {xs : Nat → Int32} (C : CxE P D (tyA g) RL cL_law 4 rt p s m args meth c A) (hX : va_X q L xs s s.heap) (hbl : q < s.heap.size) (hbA : ¬ A q) (hL : L ≤ 384) (hd : Hd D (wC a b g k ++ wM o al g gm) A s H locs) (hr : Rel t k gm) (ht : t < 2000) (hl : lv_has ls 4 [(0, .ref q), (1, .ref (a 0)), (2, .ref o), (3, .int (nI i))]) (hi : i + 6 ≤ L) (hcb : cells + 3 ≤ 600000) (hsb : slots + 166 ≤ 7302250)
    (kk : ∀ (k1 : KC) (g1 : GM) (H : Heap) (locs : List Loc) (c1 s1 : Nat), c1 ≤ cells + 3 → s1 ≤ slots + 166 → Rel (t + 1) k1 g1 → Hd D (wC a b g k1 ++ wM o al g g1) A s H locs → W p l e room_1 s m args below meth c H locs c1 s1 Q (F0 m 1212 ls [])) : W p l e room_1 s m args below meth c H locs cells slots Q (F0 m 466 ls []) := by
  have hx := C.1
  have hb := C.2.1
  have hown := C.2.2.2.1
  have hts := C.2.2.2.2.1
  refine lv_aload_n hx hb dL_law_466 rfl (lv_at hl 1 rfl) ?_
  refine ev_iA (w := fun u => wC a b g u ++ wM o al g gm) (k := k) C hd kwL_X9_plan ((cC_plan_ (op_plan hr)).frame _) rfl rfl ⟨Nat.le_of_ble_eq_true rfl, Nat.le_of_ble_eq_true rfl⟩ (rcC9.left _) hl.1 rfl rfl (Nat.le_of_ble_eq_true rfl) ⟨by show cells + 3 ≤ 600000; omega, by show slots + 51 ≤ 7302250; omega⟩ dL_law_467 (fun r1 k1 H locs h hd => ?_)
  replace hd := hd.swap
  obtain ⟨n2, h⟩ := h
  refine lv_aload_n hx hb dL_law_470 rfl (lv_at hl 2 rfl) ?_
  refine xv_i (w := fun u => wM o al g u ++ wC a b g k1) (k := gm) C.cx hd kwL_X10_plan ((cM_plan _ h).frame _) ⟨rfl, rfl⟩ ⟨Nat.le_of_ble_eq_true rfl, Nat.le_of_ble_eq_true rfl⟩ (wM_rcv.left _) hl.1 rfl rfl (Nat.le_of_ble_eq_true rfl) ⟨by show cells + 3 ≤ 600000; omega, by show slots + 51 ≤ 7302250; omega⟩ dL_law_471 (fun r2 g1 H locs h hd => ?_)
  obtain ⟨e1, hr⟩ := h
  subst e1
  refine lv_icmp_eq (tgt := 1212) hx hb dL_law_474 (by decide) (fun _ => ?_) (fun c1 => absurd rfl c1)
  exact kk k1 g1 H locs (cells + 3) (slots + 51) (by omega) (by omega) hr hd.swap
