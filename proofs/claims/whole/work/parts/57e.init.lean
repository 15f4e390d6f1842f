theorem loop12 {p : Program} {l : Launch} {e : Env} {R : Room} {s : State} {m : MethodId} {args : Array Value} {below : List Frame} {meth : Method} {c : Code} {Q : State → Prop} {P : EP} {D : va_G} {A : Nat → Prop} {cells slots : Nat} {o : Nat} {al : Nat → Nat} {g : Nat → ClassId} (C : CxE P D (tyA g) RX10 cX10_init 2 none p s m args meth c A) {k0 : GM} {H0 : Heap} {locs0 : List Loc} {ls0 : Array Slot} (h0 : G0J 0 k0) (hd0 : Hd D (wM o al g k0) A s H0 locs0) (hl0 : lv_has ls0 2 [(0, .ref o), (1, .int (nI 0))]) (kk : ∀ (k : GM) (H : Heap) (locs : List Loc) (ls : Array Slot), G0ok k → Hd D (wM o al g k) A s H locs → W p l e R s m args below meth c H locs cells slots Q (F0 m 338 ls [])) : W p l e R s m args below meth c H0 locs0 cells slots Q (F0 m 318 ls0 []) := by
  have hx := C.1
  have hb := C.2.1
  have L : ∀ (n j : Nat) (k : GM) (H : Heap) (locs : List Loc) (ls : Array Slot), 24 - j = n → j ≤ 24 → G0J j k → Hd D (wM o al g k) A s H locs → lv_has ls 2 [(0, .ref o), (1, .int (nI j))] → W p l e R s m args below meth c H locs cells slots Q (F0 m 318 ls []) := by
    intro n
    induction n with
    | zero =>
      intro j k H locs ls hm hj hg hd hl
      have ej : j = 24 := by omega
      subst ej
      refine lv_iload_n hx hb dX10_init_318 rfl (lv_at hl 1 rfl) ?_
      refine lv_bipush (v := 24) hx hb dX10_init_319 (by decide) ?_
      exact lv_icmp_ge (tgt := 338) hx hb dX10_init_321 (by decide) (fun _ => kk k H locs ls hg hd) (fun c1 => absurd (by decide) c1)
    | succ n ih =>
      intro j k H locs ls hm hj hg hd hl
      refine lv_iload_n hx hb dX10_init_318 rfl (lv_at hl 1 rfl) ?_
      refine lv_bipush (v := 24) hx hb dX10_init_319 (by decide) ?_
      refine lv_icmp_ge (tgt := 338) hx hb dX10_init_321 (by decide) (fun c1 => absurd c1 (nI_ge (a := j) (b := 24) (by omega) (by decide))) (fun _ => ?_)
      refine lv_aload_n hx hb dX10_init_324 rfl (lv_at hl 0 rfl) ?_
      refine gM_12 C.cx hd dX10_init_325 ?_
      refine lv_iload_n hx hb dX10_init_328 rfl (lv_at hl 1 rfl) ?_
      refine lv_bipush (v := 100) hx hb dX10_init_329 (by decide) ?_
      refine stM_12 C.cx hd (vp_in_nI (n := j) (by omega) (by decide)) dX10_init_331 (fun H locs hd => ?_)
      refine lv_iinc (v := nI j + 1) (lv' := [(1, .int (nI j + 1)), (0, .ref o)]) hx hb dX10_init_332 hl (k := 1) rfl rfl (by decide) rfl (fun ls hl => ?_)
      refine lv_goto (tgt := 318) hx hb dX10_init_335 (by decide) ?_
      rw [nI_clamp (n := j) (by omega)] at hd
      rw [nI_1 j] at hl
      exact ih (j + 1) _ _ _ _ (by omega) (by omega) hg.nx hd (lv_sub hl [1, 0] rfl)
  exact L 24 0 k0 H0 locs0 ls0 rfl (Nat.zero_le _) h0 hd0 hl0
set_option maxHeartbeats 4000000 in
set_option maxRecDepth 100000 in
theorem c_X10_init {l : Launch} {P : EP} {D : va_G} {g : Nat → ClassId} {o : Nat} (sz : Nat) : Met l yX10_init (.code yX10_init cX10_init 2 none :: Tw) { frames := 6, cells := 29, slots := 1986, locals := 200 } (va_Pc [.ref o] (ctPreE P D (tyA g) ([(o, .inr (10, [.int 0, .null, .null, .int 0, .int 0, .null, .int 0, .null, .null, .null, .int 0, .null, .null, .null, .int 0, .int 0, .int 0, .int 0, .int 0, .int 0, .int 0, .long 0, .int 0, .int 0, .int 0, .int 0, .int 0, .int 0, .int 0, .int 0, .null, .null, .null, .int 0, .null, .null, .null, .null, .null, .int 0, .int 0, .int 0, .null, .null, .null, .null, .int 0, .int 0, .int 0, .int 0, .int 0, .null, .null, .null, .null, .int 0, .int 0, .int 0, .int 0, .int 0, .int 0, .null, .null, .null, .null]))]) sz)) (va_Qv (fun u : (Nat → Nat) × GM => G0ok u.2) (ctPostE P D (tyA g) (fun u => wM o u.1 g u.2) (va_A ([(o, .inr (10, [.int 0, .null, .null, .int 0, .int 0, .null, .int 0, .null, .null, .null, .int 0, .null, .null, .null, .int 0, .int 0, .int 0, .int 0, .int 0, .int 0, .int 0, .long 0, .int 0, .int 0, .int 0, .int 0, .int 0, .int 0, .int 0, .int 0, .null, .null, .null, .int 0, .null, .null, .null, .null, .null, .int 0, .int 0, .int 0, .null, .null, .null, .null, .int 0, .int 0, .int 0, .int 0, .int 0, .null, .null, .null, .null, .int 0, .int 0, .int 0, .int 0, .int 0, .int 0, .null, .null, .null, .null]))]) sz)) (va_A ([(o, .inr (10, [.int 0, .null, .null, .int 0, .int 0, .null, .int 0, .null, .null, .null, .int 0, .null, .null, .null, .int 0, .int 0, .int 0, .int 0, .int 0, .int 0, .int 0, .long 0, .int 0, .int 0, .int 0, .int 0, .int 0, .int 0, .int 0, .int 0, .null, .null, .null, .int 0, .null, .null, .null, .null, .null, .int 0, .int 0, .int 0, .null, .null, .null, .null, .int 0, .int 0, .int 0, .int 0, .int 0, .null, .null, .null, .null, .int 0, .int 0, .int 0, .int 0, .int 0, .int 0, .null, .null, .null, .null]))]) sz)) 29 1986 (va_A ([(o, .inr (10, [.int 0, .null, .null, .int 0, .int 0, .null, .int 0, .null, .null, .null, .int 0, .null, .null, .null, .int 0, .int 0, .int 0, .int 0, .int 0, .int 0, .int 0, .long 0, .int 0, .int 0, .int 0, .int 0, .int 0, .int 0, .int 0, .int 0, .null, .null, .null, .int 0, .null, .null, .null, .null, .null, .int 0, .int 0, .int 0, .null, .null, .null, .null, .int 0, .int 0, .int 0, .int 0, .int 0, .null, .null, .null, .null, .int 0, .int 0, .int 0, .int 0, .int 0, .int 0, .null, .null, .null, .null]))]) sz) := by
  refine Met.ofW (cc := cX10_init) (maxL := 2) (ret := none) (by decide) rfl ?_
  intro p e s m args below meth c s₁ B hml hv
  obtain ⟨rfl, hsz, hP, hK, hD0, hEC⟩ := hv
  subst hsz
  have hD := hD0.self (sz := s.heap.size)
  have hA : ∀ z : Nat, s.heap.size ≤ z → va_A ([(o, .inr (10, [.int 0, .null, .null, .int 0, .int 0, .null, .int 0, .null, .null, .null, .int 0, .null, .null, .null, .int 0, .int 0, .int 0, .int 0, .int 0, .int 0, .int 0, .long 0, .int 0, .int 0, .int 0, .int 0, .int 0, .int 0, .int 0, .int 0, .null, .null, .null, .int 0, .null, .null, .null, .null, .null, .int 0, .int 0, .int 0, .null, .null, .null, .null, .int 0, .int 0, .int 0, .int 0, .int 0, .null, .null, .null, .null, .int 0, .int 0, .int 0, .int 0, .int 0, .int 0, .null, .null, .null, .null]))]) s.heap.size z := fun z h => Or.inr h
  generalize va_A ([(o, .inr (10, [.int 0, .null, .null, .int 0, .int 0, .null, .int 0, .null, .null, .null, .int 0, .null, .null, .null, .int 0, .int 0, .int 0, .int 0, .int 0, .int 0, .int 0, .long 0, .int 0, .int 0, .int 0, .int 0, .int 0, .int 0, .int 0, .int 0, .null, .null, .null, .int 0, .null, .null, .null, .null, .null, .int 0, .int 0, .int 0, .null, .null, .null, .null, .int 0, .int 0, .int 0, .int 0, .int 0, .null, .null, .null, .null, .int 0, .int 0, .int 0, .int 0, .int 0, .int 0, .null, .null, .null, .null]))]) s.heap.size = A at hD hA hEC ⊢
  have C := CxE_of B hml hK hA hEC
  have hx := C.1
  have hb := C.2.1
  have hown := C.2.2.2.1
  have hts := C.2.2.2.2.1
  have hin : meth.name = "<init>" := (name_of_methodNamed B.named B.method).1
  have hS : va_S A s.heap s.heap [] := va_S.rf
  have hl := lv_entry ([.ref o]) (n := 2) (Nat.le_of_ble_eq_true rfl)
  rw [lg_entry_eq]
  generalize (lg_sl ([.ref o]) ++ List.replicate (2 - (lg_sl ([.ref o])).length) Slot.unset).toArray = ls at hl ⊢
  have hl : lv_has ls 2 [(0, .ref o)] := hl
  have hd : Hd D ([(o, .inr (10, [.int 0, .null, .null, .int 0, .int 0, .null, .int 0, .null, .null, .null, .int 0, .null, .null, .null, .int 0, .int 0, .int 0, .int 0, .int 0, .int 0, .int 0, .long 0, .int 0, .int 0, .int 0, .int 0, .int 0, .int 0, .int 0, .int 0, .null, .null, .null, .int 0, .null, .null, .null, .null, .null, .int 0, .int 0, .int 0, .null, .null, .null, .null, .int 0, .int 0, .int 0, .int 0, .int 0, .null, .null, .null, .null, .int 0, .int 0, .int 0, .int 0, .int 0, .int 0, .null, .null, .null, .null]))]) A s s.heap [] := ⟨hP, hD, hS⟩
  rw [r00_fN] at hd
  clear hP hD hS
  refine lv_aload_n hx hb dX10_init_0 rfl (lv_at hl 0 rfl) ?_
  refine W.objInit hx hb hown (hts (.methodLink RX10 7 objectInit) q_886) (hts (.instanceMethod objectInit) q_26) (hts (.code objectInit ⟨#[0xb1]⟩ 1 none) q_27) rfl (by rw [hml]; exact hl.1) rfl dX10_init_1 (by show _ ≤ 6; omega) (by show _ ≤ 200; exact Nat.le_of_ble_eq_true rfl) ?_
  refine W.eq (g2 := F0 m 4 ls []) rfl ?_
  refine rows_0 C hA hin hd hl (fun q8 q16 q25 q33 q41 H locs r0 a0 er0 ea0 hd => ?_)
  refine rows_1 C hA hin hd hl (fun q49 q56 q64 q72 q80 H locs r1 a1 er1 ea1 hd => ?_)
  refine rows_2 C hA hin hd hl (fun q89 q98 q106 q113 q121 H locs r2 a2 er2 ea2 hd => ?_)
  refine rows_3 C hA hin hd hl (fun q129 q137 q145 q153 q161 H locs r3 a3 er3 ea3 hd => ?_)
  refine rows_4 C hA hin hd hl (fun q169 q177 q185 q192 q200 H locs r4 a4 er4 ea4 hd => ?_)
  refine rows_5 C hA hin hd hl (fun q207 q214 q221 q230 H locs r5 a5 er5 ea5 hd => ?_)
  obtain ⟨al, eal⟩ := rows_end (o := o) er0 ea0 er1 ea1 er2 ea2 er3 ea3 er4 ea4 er5 ea5
  rw [eal] at hd
  clear eal er0 ea0 er1 ea1 er2 ea2 er3 ea3 er4 ea4 er5 ea5
  refine lv_aload_n hx hb dX10_init_235 rfl (lv_at hl 0 rfl) ?_
  refine lv_iconst (v := 0) hx hb dX10_init_236 (by decide) ?_
  refine lv_ldc2 (v := (7449351180354924592 : Int64)) hx hb hown (hts _ q_887) dX10_init_237 ?_
  refine xv_v C.cx hd kwSpell (cM_spell 10 (nI 0) 7449351180354924592 (spellW (z := 0) (by decide))) ⟨rfl, rfl⟩ ⟨by decide, by decide⟩ wM_rcv hl.1 rfl rfl (Nat.le_of_ble_eq_true rfl) ⟨Nat.le_of_ble_eq_true rfl, Nat.le_of_ble_eq_true rfl⟩ dX10_init_240 (fun u1 H locs h1 hd => ?_)
  refine lv_aload_n hx hb dX10_init_243 rfl (lv_at hl 0 rfl) ?_
  refine lv_bipush (v := 8) hx hb dX10_init_244 (by decide) ?_
  refine lv_ldc2 (v := (2322485656932345120 : Int64)) hx hb hown (hts _ q_893) dX10_init_246 ?_
  refine xv_v C.cx hd kwSpell (cM_spell 10 (nI 8) 2322485656932345120 (spellW (z := 8) (by decide))) ⟨rfl, rfl⟩ ⟨by decide, by decide⟩ wM_rcv hl.1 rfl rfl (Nat.le_of_ble_eq_true rfl) ⟨Nat.le_of_ble_eq_true rfl, Nat.le_of_ble_eq_true rfl⟩ dX10_init_249 (fun u2 H locs h2 hd => ?_)
  refine lv_aload_n hx hb dX10_init_252 rfl (lv_at hl 0 rfl) ?_
  refine lv_bipush (v := 16) hx hb dX10_init_253 (by decide) ?_
  refine lv_ldc2 (v := (3756067099537207152 : Int64)) hx hb hown (hts _ q_894) dX10_init_255 ?_
  refine xv_v C.cx hd kwSpell (cM_spell 10 (nI 16) 3756067099537207152 (spellW (z := 16) (by decide))) ⟨rfl, rfl⟩ ⟨by decide, by decide⟩ wM_rcv hl.1 rfl rfl (Nat.le_of_ble_eq_true rfl) ⟨Nat.le_of_ble_eq_true rfl, Nat.le_of_ble_eq_true rfl⟩ dX10_init_258 (fun u3 H locs h3 hd => ?_)
  refine lv_aload_n hx hb dX10_init_261 rfl (lv_at hl 0 rfl) ?_
  refine lv_bipush (v := 24) hx hb dX10_init_262 (by decide) ?_
  refine lv_ldc2 (v := (2338341743088050208 : Int64)) hx hb hown (hts _ q_895) dX10_init_264 ?_
  refine xv_v C.cx hd kwSpell (cM_spell 10 (nI 24) 2338341743088050208 (spellW (z := 24) (by decide))) ⟨rfl, rfl⟩ ⟨by decide, by decide⟩ wM_rcv hl.1 rfl rfl (Nat.le_of_ble_eq_true rfl) ⟨Nat.le_of_ble_eq_true rfl, Nat.le_of_ble_eq_true rfl⟩ dX10_init_267 (fun u4 H locs h4 hd => ?_)
  obtain ⟨fr, by4⟩ := sp_all h1 h2 h3 h4
  clear h1 h2 h3 h4
  refine lv_aload_n hx hb dX10_init_270 rfl (lv_at hl 0 rfl) ?_
  refine gM_2 C.cx hd dX10_init_271 ?_
  refine lv_iconst (v := 0) hx hb dX10_init_274 (by decide) ?_
  refine lv_bipush (v := 32) hx hb dX10_init_275 (by decide) ?_
  refine stM_2 C.cx hd (vp_in_nI (n := 0) (by decide) (by decide)) dX10_init_277 (fun H locs hd => ?_)
  refine lv_aload_n hx hb dX10_init_278 rfl (lv_at hl 0 rfl) ?_
  refine lv_iconst (v := 1) hx hb dX10_init_279 (by decide) ?_
  refine pM_3 C.cx hd dX10_init_280 (fun H locs hd => ?_)
  refine lv_aload_n hx hb dX10_init_283 rfl (lv_at hl 0 rfl) ?_
  refine lv_bipush (v := 30) hx hb dX10_init_284 (by decide) ?_
  refine pM_14 C.cx hd dX10_init_286 (fun H locs hd => ?_)
  refine lv_aload_n hx hb dX10_init_289 rfl (lv_at hl 0 rfl) ?_
  refine gM_11 C.cx hd dX10_init_290 ?_
  refine lv_iconst (v := 1) hx hb dX10_init_293 (by decide) ?_
  refine lv_sipush (v := 1000) hx hb dX10_init_294 (by decide) ?_
  refine stM_11 C.cx hd (vp_in_nI (n := 1) (by decide) (by decide)) dX10_init_297 (fun H locs hd => ?_)
  refine lv_aload_n hx hb dX10_init_298 rfl (lv_at hl 0 rfl) ?_
  refine gM_11 C.cx hd dX10_init_299 ?_
  refine lv_iconst (v := 2) hx hb dX10_init_302 (by decide) ?_
  refine lv_sipush (v := -800) hx hb dX10_init_303 (by decide) ?_
  refine stM_11 C.cx hd (vp_in_nI (n := 2) (by decide) (by decide)) dX10_init_306 (fun H locs hd => ?_)
  refine lv_aload_n hx hb dX10_init_307 rfl (lv_at hl 0 rfl) ?_
  refine gM_11 C.cx hd dX10_init_308 ?_
  refine lv_iconst (v := 3) hx hb dX10_init_311 (by decide) ?_
  refine lv_sipush (v := -600) hx hb dX10_init_312 (by decide) ?_
  refine stM_11 C.cx hd (vp_in_nI (n := 3) (by decide) (by decide)) dX10_init_315 (fun H locs hd => ?_)
  refine lv_iconst (v := 0) hx hb dX10_init_316 (by decide) ?_
  refine lv_istore_n (lv' := [(1, .int (nI 0)), (0, .ref o)]) hx hb dX10_init_317 rfl hl (by decide) rfl (fun ls hl => ?_)
  refine loop12 C ?_ hd (lv_sub hl [1, 0] rfl) (fun k H locs ls hk hd => W.vret hx hb B.returns (fun t ht hW => ⟨⟨(al, k), rfl, hk, by rw [ht]; exact hd.1, va_K.moved hW.alike hK, hd.2.1⟩, hd.2.2.F ht⟩) hd.2.2.2.2 dX10_init_338 C.2.2.2.2.2.2.2.1)
  have z : ∀ j, u4.1 j = 0 := fun j => fr.1 j rfl
  have zz : ∀ j, bor j 1 false = false → u4.2.1 j = fun _ => 0 := fun j e => fr.2 j e
  refine ⟨z 10, rfl, z 33, ⟨z 15, z 16, rfl, z 4⟩, z 55, z 46, z 6, zz 7 rfl, ?_, ?_, zz 13 rfl, ⟨zz 8 rfl, zz 9 rfl, zz 36 rfl, zz 35 rfl⟩, zz 61 rfl, ?_, fun i hi => by4 i hi⟩
  · show upd (upd (upd (u4.2.1 11) 1 1000) 2 (-800)) 3 (-600) = wo0
    rw [zz 11 rfl]; rfl
  · show u4.2.1 12 = _
    rw [zz 12 rfl]
    funext x
    exact (if_neg (Nat.not_lt_zero x)).symm
  · show upd (u4.2.1 2) 0 32 0 = 32
    exact pk_us
