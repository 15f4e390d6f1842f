set_option maxHeartbeats 4000000 in
set_option maxRecDepth 100000 in
theorem law_10 {p : Program} {l : Launch} {e : Env} {s : State} {m : MethodId} {args : Array Value} {below : List Frame} {meth : Method} {c : Code} {H : Heap} {locs : List Loc} {Q : State → Prop} {P : EP} {D : va_G} {A : Nat → Prop} {cells slots : Nat} {rt : Option FieldType} {ls : Array Slot} {a : Nat → Nat} {b : Nat → Nat → Nat} {g : Nat → ClassId} {o : Nat} {al : Nat → Nat} {k : KC} {gm : GM} {t q L i : Nat} {xs : Nat → Int32} (C : CxE P D (tyA g) RL cL_law 4 rt p s m args meth c A) (hX : va_X q L xs s s.heap) (hbl : q < s.heap.size) (hbA : ¬ A q) (hL : L ≤ 384) (hd : Hd D (wC a b g k ++ wM o al g gm) A s H locs) (hr : Rel t k gm) (ht : t < 2000) (hl : lv_has ls 4 [(0, .ref q), (1, .ref (a 0)), (2, .ref o), (3, .int (nI i))]) (hi : i + 6 ≤ L) (hcb : cells + 3 ≤ 600000) (hsb : slots + 166 ≤ 7302250)
    (kk : ∀ (k1 : KC) (g1 : GM) (H : Heap) (locs : List Loc) (c1 s1 : Nat), c1 ≤ cells + 3 → s1 ≤ slots + 166 → Rel (t + 1) k1 g1 → Hd D (wC a b g k1 ++ wM o al g g1) A s H locs → W p l e room_1 s m args below meth c H locs c1 s1 Q (F0 m 1212 ls [])) : W p l e room_1 s m args below meth c H locs cells slots Q (F0 m 479 ls []) := by
  have hx := C.1
  have hb := C.2.1
  have hown := C.2.2.2.1
  have hts := C.2.2.2.2.1
  refine lv_aload_n hx hb dL_law_479 rfl (lv_at hl 1 rfl) ?_
  refine lawArg C hX hbl hbA hd.2.2 (j := 1) (v := 1) (by decide) rfl (by omega) hL hl dL_law_480 dL_law_481 dL_law_482 dL_law_483 dL_law_484 ?_
  refine lawArg C hX hbl hbA hd.2.2 (j := 2) (v := 2) (by decide) rfl (by omega) hL hl dL_law_485 dL_law_486 dL_law_487 dL_law_488 dL_law_489 ?_
  refine lawArg C hX hbl hbA hd.2.2 (j := 3) (v := 3) (by decide) rfl (by omega) hL hl dL_law_490 dL_law_491 dL_law_492 dL_law_493 dL_law_494 ?_
  refine ev_i (w := fun u => wC a b g u ++ wM o al g gm) (k := k) C hd kwL_X9_planned ((cC_planned _ _ _ (op_planned _ _ _ hr)).frame _) ⟨rfl, rfl⟩ ⟨Nat.le_of_ble_eq_true rfl, Nat.le_of_ble_eq_true rfl⟩ (rcC9.left _) hl.1 rfl rfl (Nat.le_of_ble_eq_true rfl) ⟨by show cells ≤ 600000; omega, by show slots ≤ 7302250; omega⟩ dL_law_495 (fun r1 k1 H locs h hd => ?_)
  replace hd := hd.swap
  refine lv_aload_n hx hb dL_law_498 rfl (lv_at hl 2 rfl) ?_
  refine lawArg C hX hbl hbA hd.2.2 (j := 1) (v := 1) (by decide) rfl (by omega) hL hl dL_law_499 dL_law_500 dL_law_501 dL_law_502 dL_law_503 ?_
  refine lawArg C hX hbl hbA hd.2.2 (j := 2) (v := 2) (by decide) rfl (by omega) hL hl dL_law_504 dL_law_505 dL_law_506 dL_law_507 dL_law_508 ?_
  refine lawArg C hX hbl hbA hd.2.2 (j := 3) (v := 3) (by decide) rfl (by omega) hL hl dL_law_509 dL_law_510 dL_law_511 dL_law_512 dL_law_513 ?_
  refine xv_i (w := fun u => wM o al g u ++ wC a b g k1) (k := gm) C.cx hd kwL_X10_planned ((cM_planned _ _ _ h).frame _) ⟨rfl, rfl⟩ ⟨Nat.le_of_ble_eq_true rfl, Nat.le_of_ble_eq_true rfl⟩ (wM_rcv.left _) hl.1 rfl rfl (Nat.le_of_ble_eq_true rfl) ⟨by show cells ≤ 600000; omega, by show slots ≤ 7302250; omega⟩ dL_law_514 (fun r2 g1 H locs h hd => ?_)
  obtain ⟨e1, hr⟩ := h
  subst e1
  refine lv_icmp_eq (tgt := 1212) hx hb dL_law_517 (by decide) (fun _ => ?_) (fun c1 => absurd rfl c1)
  exact kk k1 g1 H locs cells slots (by omega) (by omega) hr hd.swap
set_option maxHeartbeats 4000000 in
set_option maxRecDepth 100000 in
theorem law_11 {p : Program} {l : Launch} {e : Env} {s : State} {m : MethodId} {args : Array Value} {below : List Frame} {meth : Method} {c : Code} {H : Heap} {locs : List Loc} {Q : State → Prop} {P : EP} {D : va_G} {A : Nat → Prop} {cells slots : Nat} {rt : Option FieldType} {ls : Array Slot} {a : Nat → Nat} {b : Nat → Nat → Nat} {g : Nat → ClassId} {o : Nat} {al : Nat → Nat} {k : KC} {gm : GM} {t q L i : Nat} {xs : Nat → Int32} (C : CxE P D (tyA g) RL cL_law 4 rt p s m args meth c A) (hX : va_X q L xs s s.heap) (hbl : q < s.heap.size) (hbA : ¬ A q) (hL : L ≤ 384) (hd : Hd D (wC a b g k ++ wM o al g gm) A s H locs) (hr : Rel t k gm) (ht : t < 2000) (hl : lv_has ls 4 [(0, .ref q), (1, .ref (a 0)), (2, .ref o), (3, .int (nI i))]) (hi : i + 6 ≤ L) (hcb : cells + 3 ≤ 600000) (hsb : slots + 166 ≤ 7302250)
    (kk : ∀ (k1 : KC) (g1 : GM) (H : Heap) (locs : List Loc) (c1 s1 : Nat), c1 ≤ cells + 3 → s1 ≤ slots + 166 → Rel (t + 1) k1 g1 → Hd D (wC a b g k1 ++ wM o al g g1) A s H locs → W p l e room_1 s m args below meth c H locs c1 s1 Q (F0 m 1212 ls [])) : W p l e room_1 s m args below meth c H locs cells slots Q (F0 m 522 ls []) := by
  have hx := C.1
  have hb := C.2.1
  have hown := C.2.2.2.1
  have hts := C.2.2.2.2.1
  refine lv_aload_n hx hb dL_law_522 rfl (lv_at hl 1 rfl) ?_
  refine lawArg C hX hbl hbA hd.2.2 (j := 1) (v := 1) (by decide) rfl (by omega) hL hl dL_law_523 dL_law_524 dL_law_525 dL_law_526 dL_law_527 ?_
  refine lawArg C hX hbl hbA hd.2.2 (j := 2) (v := 2) (by decide) rfl (by omega) hL hl dL_law_528 dL_law_529 dL_law_530 dL_law_531 dL_law_532 ?_
  refine ev_l (w := fun u => wC a b g u ++ wM o al g gm) (k := k) C hd kwL_X9_trial ((cC_trial _ _ (op_trial _ _ ht hr)).frame _) ⟨rfl, rfl⟩ ⟨Nat.le_of_ble_eq_true rfl, Nat.le_of_ble_eq_true rfl⟩ (rcC9.left _) hl.1 rfl rfl (Nat.le_of_ble_eq_true rfl) ⟨by show cells ≤ 600000; omega, by show slots ≤ 7302250; omega⟩ dL_law_533 (fun r1 k1 H locs h hd => ?_)
  replace hd := hd.swap
  refine lv_aload_n hx hb dL_law_536 rfl (lv_at hl 2 rfl) ?_
  refine lawArg C hX hbl hbA hd.2.2 (j := 1) (v := 1) (by decide) rfl (by omega) hL hl dL_law_537 dL_law_538 dL_law_539 dL_law_540 dL_law_541 ?_
  refine lawArg C hX hbl hbA hd.2.2 (j := 2) (v := 2) (by decide) rfl (by omega) hL hl dL_law_542 dL_law_543 dL_law_544 dL_law_545 dL_law_546 ?_
  refine xv_l (w := fun u => wM o al g u ++ wC a b g k1) (k := gm) C.cx hd kwL_X10_trial ((cM_trial _ _ h).frame _) ⟨rfl, rfl⟩ ⟨Nat.le_of_ble_eq_true rfl, Nat.le_of_ble_eq_true rfl⟩ (wM_rcv.left _) hl.1 rfl rfl (Nat.le_of_ble_eq_true rfl) ⟨by show cells ≤ 600000; omega, by show slots ≤ 7302250; omega⟩ dL_law_547 (fun r2 g1 H locs h hd => ?_)
  obtain ⟨e1, hr⟩ := h
  subst e1
  refine W.lcmp hx hb dL_law_550 ?_
  refine lv_if_eq (tgt := 1212) hx hb dL_law_551 (by decide) (fun _ => ?_) (fun c1 => absurd ((lg_cmp_eq _ _).mpr rfl) c1)
  exact kk k1 g1 H locs cells slots (by omega) (by omega) hr hd.swap
set_option maxHeartbeats 4000000 in
set_option maxRecDepth 100000 in
theorem law_12 {p : Program} {l : Launch} {e : Env} {s : State} {m : MethodId} {args : Array Value} {below : List Frame} {meth : Method} {c : Code} {H : Heap} {locs : List Loc} {Q : State → Prop} {P : EP} {D : va_G} {A : Nat → Prop} {cells slots : Nat} {rt : Option FieldType} {ls : Array Slot} {a : Nat → Nat} {b : Nat → Nat → Nat} {g : Nat → ClassId} {o : Nat} {al : Nat → Nat} {k : KC} {gm : GM} {t q L i : Nat} {xs : Nat → Int32} (C : CxE P D (tyA g) RL cL_law 4 rt p s m args meth c A) (hX : va_X q L xs s s.heap) (hbl : q < s.heap.size) (hbA : ¬ A q) (hL : L ≤ 384) (hd : Hd D (wC a b g k ++ wM o al g gm) A s H locs) (hr : Rel t k gm) (ht : t < 2000) (hl : lv_has ls 4 [(0, .ref q), (1, .ref (a 0)), (2, .ref o), (3, .int (nI i))]) (hi : i + 6 ≤ L) (hcb : cells + 3 ≤ 600000) (hsb : slots + 166 ≤ 7302250)
    (kk : ∀ (k1 : KC) (g1 : GM) (H : Heap) (locs : List Loc) (c1 s1 : Nat), c1 ≤ cells + 3 → s1 ≤ slots + 166 → Rel (t + 1) k1 g1 → Hd D (wC a b g k1 ++ wM o al g g1) A s H locs → W p l e room_1 s m args below meth c H locs c1 s1 Q (F0 m 1212 ls [])) : W p l e room_1 s m args below meth c H locs cells slots Q (F0 m 556 ls []) := by
  have hx := C.1
  have hb := C.2.1
  have hown := C.2.2.2.1
  have hts := C.2.2.2.2.1
  refine lv_aload_n hx hb dL_law_556 rfl (lv_at hl 1 rfl) ?_
  refine lawArg C hX hbl hbA hd.2.2 (j := 1) (v := 1) (by decide) rfl (by omega) hL hl dL_law_557 dL_law_558 dL_law_559 dL_law_560 dL_law_561 ?_
  refine lawArg C hX hbl hbA hd.2.2 (j := 2) (v := 2) (by decide) rfl (by omega) hL hl dL_law_562 dL_law_563 dL_law_564 dL_law_565 dL_law_566 ?_
  refine ev_l (w := fun u => wC a b g u ++ wM o al g gm) (k := k) C hd kwL_X9_sum ((cC_sum _ _ (op_sum _ _ hr)).frame _) ⟨rfl, rfl⟩ ⟨Nat.le_of_ble_eq_true rfl, Nat.le_of_ble_eq_true rfl⟩ (rcC9.left _) hl.1 rfl rfl (Nat.le_of_ble_eq_true rfl) ⟨by show cells ≤ 600000; omega, by show slots ≤ 7302250; omega⟩ dL_law_567 (fun r1 k1 H locs h hd => ?_)
  replace hd := hd.swap
  refine lv_aload_n hx hb dL_law_570 rfl (lv_at hl 2 rfl) ?_
  refine lawArg C hX hbl hbA hd.2.2 (j := 1) (v := 1) (by decide) rfl (by omega) hL hl dL_law_571 dL_law_572 dL_law_573 dL_law_574 dL_law_575 ?_
  refine lawArg C hX hbl hbA hd.2.2 (j := 2) (v := 2) (by decide) rfl (by omega) hL hl dL_law_576 dL_law_577 dL_law_578 dL_law_579 dL_law_580 ?_
  refine xv_l (w := fun u => wM o al g u ++ wC a b g k1) (k := gm) C.cx hd kwL_X10_sum ((cM_sum _ _ h).frame _) ⟨rfl, rfl⟩ ⟨Nat.le_of_ble_eq_true rfl, Nat.le_of_ble_eq_true rfl⟩ (wM_rcv.left _) hl.1 rfl rfl (Nat.le_of_ble_eq_true rfl) ⟨by show cells ≤ 600000; omega, by show slots ≤ 7302250; omega⟩ dL_law_581 (fun r2 g1 H locs h hd => ?_)
  obtain ⟨e1, hr⟩ := h
  subst e1
  refine W.lcmp hx hb dL_law_584 ?_
  refine lv_if_eq (tgt := 1212) hx hb dL_law_585 (by decide) (fun _ => ?_) (fun c1 => absurd ((lg_cmp_eq _ _).mpr rfl) c1)
  exact kk k1 g1 H locs cells slots (by omega) (by omega) hr hd.swap
set_option maxHeartbeats 4000000 in
set_option maxRecDepth 100000 in
theorem law_13 {p : Program} {l : Launch} {e : Env} {s : State} {m : MethodId} {args : Array Value} {below : List Frame} {meth : Method} {c : Code} {H : Heap} {locs : List Loc} {Q : State → Prop} {P : EP} {D : va_G} {A : Nat → Prop} {cells slots : Nat} {rt : Option FieldType} {ls : Array Slot} {a : Nat → Nat} {b : Nat → Nat → Nat} {g : Nat → ClassId} {o : Nat} {al : Nat → Nat} {k : KC} {gm : GM} {t q L i : Nat} {xs : Nat → Int32} (C : CxE P D (tyA g) RL cL_law 4 rt p s m args meth c A) (hX : va_X q L xs s s.heap) (hbl : q < s.heap.size) (hbA : ¬ A q) (hL : L ≤ 384) (hd : Hd D (wC a b g k ++ wM o al g gm) A s H locs) (hr : Rel t k gm) (ht : t < 2000) (hl : lv_has ls 4 [(0, .ref q), (1, .ref (a 0)), (2, .ref o), (3, .int (nI i))]) (hi : i + 6 ≤ L) (hcb : cells + 3 ≤ 600000) (hsb : slots + 166 ≤ 7302250)
    (kk : ∀ (k1 : KC) (g1 : GM) (H : Heap) (locs : List Loc) (c1 s1 : Nat), c1 ≤ cells + 3 → s1 ≤ slots + 166 → Rel (t + 1) k1 g1 → Hd D (wC a b g k1 ++ wM o al g g1) A s H locs → W p l e room_1 s m args below meth c H locs c1 s1 Q (F0 m 1212 ls [])) : W p l e room_1 s m args below meth c H locs cells slots Q (F0 m 590 ls []) := by
  have hx := C.1
  have hb := C.2.1
  have hown := C.2.2.2.1
  have hts := C.2.2.2.2.1
  refine lv_aload_n hx hb dL_law_590 rfl (lv_at hl 1 rfl) ?_
  refine lawArg C hX hbl hbA hd.2.2 (j := 1) (v := 1) (by decide) rfl (by omega) hL hl dL_law_591 dL_law_592 dL_law_593 dL_law_594 dL_law_595 ?_
  refine lawArg C hX hbl hbA hd.2.2 (j := 2) (v := 2) (by decide) rfl (by omega) hL hl dL_law_596 dL_law_597 dL_law_598 dL_law_599 dL_law_600 ?_
  obtain ⟨n1, h1⟩ := op_days _ _ ht hr
  refine ev_i (w := fun u => wC a b g u ++ wM o al g gm) (k := k) C hd kwL_X9_days ((cC_days n1 _ _ h1).frame _) ⟨rfl, rfl⟩ ⟨Nat.le_of_ble_eq_true rfl, Nat.le_of_ble_eq_true rfl⟩ (rcC9.left _) hl.1 rfl rfl (Nat.le_of_ble_eq_true rfl) ⟨by show cells ≤ 600000; omega, by show slots ≤ 7302250; omega⟩ dL_law_601 (fun r1 k1 H locs h hd => ?_)
  replace hd := hd.swap
  obtain ⟨n2, h⟩ := h
  refine lv_aload_n hx hb dL_law_604 rfl (lv_at hl 2 rfl) ?_
  refine lawArg C hX hbl hbA hd.2.2 (j := 1) (v := 1) (by decide) rfl (by omega) hL hl dL_law_605 dL_law_606 dL_law_607 dL_law_608 dL_law_609 ?_
  refine lawArg C hX hbl hbA hd.2.2 (j := 2) (v := 2) (by decide) rfl (by omega) hL hl dL_law_610 dL_law_611 dL_law_612 dL_law_613 dL_law_614 ?_
  refine xv_i (w := fun u => wM o al g u ++ wC a b g k1) (k := gm) C.cx hd kwL_X10_days ((cM_days _ _ _ h).frame _) ⟨rfl, rfl⟩ ⟨Nat.le_of_ble_eq_true rfl, Nat.le_of_ble_eq_true rfl⟩ (wM_rcv.left _) hl.1 rfl rfl (Nat.le_of_ble_eq_true rfl) ⟨by show cells ≤ 600000; omega, by show slots ≤ 7302250; omega⟩ dL_law_615 (fun r2 g1 H locs h hd => ?_)
  obtain ⟨e1, hr⟩ := h
  subst e1
  refine lv_icmp_eq (tgt := 1212) hx hb dL_law_618 (by decide) (fun _ => ?_) (fun c1 => absurd rfl c1)
  exact kk k1 g1 H locs cells slots (by omega) (by omega) hr hd.swap
set_option maxHeartbeats 4000000 in
set_option maxRecDepth 100000 in
theorem law_14 {p : Program} {l : Launch} {e : Env} {s : State} {m : MethodId} {args : Array Value} {below : List Frame} {meth : Method} {c : Code} {H : Heap} {locs : List Loc} {Q : State → Prop} {P : EP} {D : va_G} {A : Nat → Prop} {cells slots : Nat} {rt : Option FieldType} {ls : Array Slot} {a : Nat → Nat} {b : Nat → Nat → Nat} {g : Nat → ClassId} {o : Nat} {al : Nat → Nat} {k : KC} {gm : GM} {t q L i : Nat} {xs : Nat → Int32} (C : CxE P D (tyA g) RL cL_law 4 rt p s m args meth c A) (hX : va_X q L xs s s.heap) (hbl : q < s.heap.size) (hbA : ¬ A q) (hL : L ≤ 384) (hd : Hd D (wC a b g k ++ wM o al g gm) A s H locs) (hr : Rel t k gm) (ht : t < 2000) (hl : lv_has ls 4 [(0, .ref q), (1, .ref (a 0)), (2, .ref o), (3, .int (nI i))]) (hi : i + 6 ≤ L) (hcb : cells + 3 ≤ 600000) (hsb : slots + 166 ≤ 7302250)
    (kk : ∀ (k1 : KC) (g1 : GM) (H : Heap) (locs : List Loc) (c1 s1 : Nat), c1 ≤ cells + 3 → s1 ≤ slots + 166 → Rel (t + 1) k1 g1 → Hd D (wC a b g k1 ++ wM o al g g1) A s H locs → W p l e room_1 s m args below meth c H locs c1 s1 Q (F0 m 1212 ls [])) : W p l e room_1 s m args below meth c H locs cells slots Q (F0 m 623 ls []) := by
  have hx := C.1
  have hb := C.2.1
  have hown := C.2.2.2.1
  have hts := C.2.2.2.2.1
  refine lv_aload_n hx hb dL_law_623 rfl (lv_at hl 1 rfl) ?_
  refine lawArg C hX hbl hbA hd.2.2 (j := 1) (v := 1) (by decide) rfl (by omega) hL hl dL_law_624 dL_law_625 dL_law_626 dL_law_627 dL_law_628 ?_
  refine lawArg C hX hbl hbA hd.2.2 (j := 2) (v := 2) (by decide) rfl (by omega) hL hl dL_law_629 dL_law_630 dL_law_631 dL_law_632 dL_law_633 ?_
  obtain ⟨n1, h1⟩ := op_rests _ _ ht hr
  refine ev_i (w := fun u => wC a b g u ++ wM o al g gm) (k := k) C hd kwL_X9_rests ((cC_rests n1 _ _ h1).frame _) ⟨rfl, rfl⟩ ⟨Nat.le_of_ble_eq_true rfl, Nat.le_of_ble_eq_true rfl⟩ (rcC9.left _) hl.1 rfl rfl (Nat.le_of_ble_eq_true rfl) ⟨by show cells ≤ 600000; omega, by show slots ≤ 7302250; omega⟩ dL_law_634 (fun r1 k1 H locs h hd => ?_)
  replace hd := hd.swap
  obtain ⟨n2, h⟩ := h
  refine lv_aload_n hx hb dL_law_637 rfl (lv_at hl 2 rfl) ?_
  refine lawArg C hX hbl hbA hd.2.2 (j := 1) (v := 1) (by decide) rfl (by omega) hL hl dL_law_638 dL_law_639 dL_law_640 dL_law_641 dL_law_642 ?_
  refine lawArg C hX hbl hbA hd.2.2 (j := 2) (v := 2) (by decide) rfl (by omega) hL hl dL_law_643 dL_law_644 dL_law_645 dL_law_646 dL_law_647 ?_
  refine xv_i (w := fun u => wM o al g u ++ wC a b g k1) (k := gm) C.cx hd kwL_X10_rests ((cM_rests _ _ _ h).frame _) ⟨rfl, rfl⟩ ⟨Nat.le_of_ble_eq_true rfl, Nat.le_of_ble_eq_true rfl⟩ (wM_rcv.left _) hl.1 rfl rfl (Nat.le_of_ble_eq_true rfl) ⟨by show cells ≤ 600000; omega, by show slots ≤ 7302250; omega⟩ dL_law_648 (fun r2 g1 H locs h hd => ?_)
  obtain ⟨e1, hr⟩ := h
  subst e1
  refine lv_icmp_eq (tgt := 1212) hx hb dL_law_651 (by decide) (fun _ => ?_) (fun c1 => absurd rfl c1)
  exact kk k1 g1 H locs cells slots (by omega) (by omega) hr hd.swap
set_option maxHeartbeats 4000000 in
set_option maxRecDepth 100000 in
theorem law_15 {p : Program} {l : Launch} {e : Env} {s : State} {m : MethodId} {args : Array Value} {below : List Frame} {meth : Method} {c : Code} {H : Heap} {locs : List Loc} {Q : State → Prop} {P : EP} {D : va_G} {A : Nat → Prop} {cells slots : Nat} {rt : Option FieldType} {ls : Array Slot} {a : Nat → Nat} {b : Nat → Nat → Nat} {g : Nat → ClassId} {o : Nat} {al : Nat → Nat} {k : KC} {gm : GM} {t q L i : Nat} {xs : Nat → Int32} (C : CxE P D (tyA g) RL cL_law 4 rt p s m args meth c A) (hX : va_X q L xs s s.heap) (hbl : q < s.heap.size) (hbA : ¬ A q) (hL : L ≤ 384) (hd : Hd D (wC a b g k ++ wM o al g gm) A s H locs) (hr : Rel t k gm) (ht : t < 2000) (hl : lv_has ls 4 [(0, .ref q), (1, .ref (a 0)), (2, .ref o), (3, .int (nI i))]) (hi : i + 6 ≤ L) (hcb : cells + 3 ≤ 600000) (hsb : slots + 166 ≤ 7302250)
    (kk : ∀ (k1 : KC) (g1 : GM) (H : Heap) (locs : List Loc) (c1 s1 : Nat), c1 ≤ cells + 3 → s1 ≤ slots + 166 → Rel (t + 1) k1 g1 → Hd D (wC a b g k1 ++ wM o al g g1) A s H locs → W p l e room_1 s m args below meth c H locs c1 s1 Q (F0 m 1212 ls [])) : W p l e room_1 s m args below meth c H locs cells slots Q (F0 m 656 ls []) := by
  have hx := C.1
  have hb := C.2.1
  have hown := C.2.2.2.1
  have hts := C.2.2.2.2.1
  refine lv_aload_n hx hb dL_law_656 rfl (lv_at hl 1 rfl) ?_
  refine lawArg C hX hbl hbA hd.2.2 (j := 1) (v := 1) (by decide) rfl (by omega) hL hl dL_law_657 dL_law_658 dL_law_659 dL_law_660 dL_law_661 ?_
  obtain ⟨n1, h1⟩ := op_blocked _ ht hr
  refine ev_i (w := fun u => wC a b g u ++ wM o al g gm) (k := k) C hd kwL_X9_blocked ((cC_blocked n1 _ h1).frame _) ⟨rfl, rfl⟩ ⟨Nat.le_of_ble_eq_true rfl, Nat.le_of_ble_eq_true rfl⟩ (rcC9.left _) hl.1 rfl rfl (Nat.le_of_ble_eq_true rfl) ⟨by show cells ≤ 600000; omega, by show slots ≤ 7302250; omega⟩ dL_law_662 (fun r1 k1 H locs h hd => ?_)
  replace hd := hd.swap
  obtain ⟨n2, h⟩ := h
  refine lv_aload_n hx hb dL_law_665 rfl (lv_at hl 2 rfl) ?_
  refine lawArg C hX hbl hbA hd.2.2 (j := 1) (v := 1) (by decide) rfl (by omega) hL hl dL_law_666 dL_law_667 dL_law_668 dL_law_669 dL_law_670 ?_
  refine xv_i (w := fun u => wM o al g u ++ wC a b g k1) (k := gm) C.cx hd kwL_X10_blocked ((cM_blocked _ _ h).frame _) ⟨rfl, rfl⟩ ⟨Nat.le_of_ble_eq_true rfl, Nat.le_of_ble_eq_true rfl⟩ (wM_rcv.left _) hl.1 rfl rfl (Nat.le_of_ble_eq_true rfl) ⟨by show cells ≤ 600000; omega, by show slots ≤ 7302250; omega⟩ dL_law_671 (fun r2 g1 H locs h hd => ?_)
  obtain ⟨e1, hr⟩ := h
  subst e1
  refine lv_icmp_eq (tgt := 1212) hx hb dL_law_674 (by decide) (fun _ => ?_) (fun c1 => absurd rfl c1)
  exact kk k1 g1 H locs cells slots (by omega) (by omega) hr hd.swap
set_option maxHeartbeats 4000000 in
set_option maxRecDepth 100000 in
theorem law_16 {p : Program} {l : Launch} {e : Env} {s : State} {m : MethodId} {args : Array Value} {below : List Frame} {meth : Method} {c : Code} {H : Heap} {locs : List Loc} {Q : State → Prop} {P : EP} {D : va_G} {A : Nat → Prop} {cells slots : Nat} {rt : Option FieldType} {ls : Array Slot} {a : Nat → Nat} {b : Nat → Nat → Nat} {g : Nat → ClassId} {o : Nat} {al : Nat → Nat} {k : KC} {gm : GM} {t q L i : Nat} {xs : Nat → Int32} (C : CxE P D (tyA g) RL cL_law 4 rt p s m args meth c A) (hX : va_X q L xs s s.heap) (hbl : q < s.heap.size) (hbA : ¬ A q) (hL : L ≤ 384) (hd : Hd D (wC a b g k ++ wM o al g gm) A s H locs) (hr : Rel t k gm) (ht : t < 2000) (hl : lv_has ls 4 [(0, .ref q), (1, .ref (a 0)), (2, .ref o), (3, .int (nI i))]) (hi : i + 6 ≤ L) (hcb : cells + 3 ≤ 600000) (hsb : slots + 166 ≤ 7302250)
    (kk : ∀ (k1 : KC) (g1 : GM) (H : Heap) (locs : List Loc) (c1 s1 : Nat), c1 ≤ cells + 3 → s1 ≤ slots + 166 → Rel (t + 1) k1 g1 → Hd D (wC a b g k1 ++ wM o al g g1) A s H locs → W p l e room_1 s m args below meth c H locs c1 s1 Q (F0 m 1212 ls [])) : W p l e room_1 s m args below meth c H locs cells slots Q (F0 m 679 ls []) := by
  have hx := C.1
  have hb := C.2.1
  have hown := C.2.2.2.1
  have hts := C.2.2.2.2.1
  refine lv_aload_n hx hb dL_law_679 rfl (lv_at hl 1 rfl) ?_
  refine lawArg C hX hbl hbA hd.2.2 (j := 1) (v := 1) (by decide) rfl (by omega) hL hl dL_law_680 dL_law_681 dL_law_682 dL_law_683 dL_law_684 ?_
  refine lawArg C hX hbl hbA hd.2.2 (j := 2) (v := 2) (by decide) rfl (by omega) hL hl dL_law_685 dL_law_686 dL_law_687 dL_law_688 dL_law_689 ?_
  refine lawArg C hX hbl hbA hd.2.2 (j := 3) (v := 3) (by decide) rfl (by omega) hL hl dL_law_690 dL_law_691 dL_law_692 dL_law_693 dL_law_694 ?_
  refine ev_l (w := fun u => wC a b g u ++ wM o al g gm) (k := k) C hd kwL_X9_counted ((cC_counted _ _ _ (op_counted _ _ _ ht hr)).frame _) ⟨rfl, rfl⟩ ⟨Nat.le_of_ble_eq_true rfl, Nat.le_of_ble_eq_true rfl⟩ (rcC9.left _) hl.1 rfl rfl (Nat.le_of_ble_eq_true rfl) ⟨by show cells ≤ 600000; omega, by show slots ≤ 7302250; omega⟩ dL_law_695 (fun r1 k1 H locs h hd => ?_)
  replace hd := hd.swap
  obtain ⟨n2, h⟩ := h
  refine lv_aload_n hx hb dL_law_698 rfl (lv_at hl 2 rfl) ?_
  refine lawArg C hX hbl hbA hd.2.2 (j := 1) (v := 1) (by decide) rfl (by omega) hL hl dL_law_699 dL_law_700 dL_law_701 dL_law_702 dL_law_703 ?_
  refine lawArg C hX hbl hbA hd.2.2 (j := 2) (v := 2) (by decide) rfl (by omega) hL hl dL_law_704 dL_law_705 dL_law_706 dL_law_707 dL_law_708 ?_
  refine lawArg C hX hbl hbA hd.2.2 (j := 3) (v := 3) (by decide) rfl (by omega) hL hl dL_law_709 dL_law_710 dL_law_711 dL_law_712 dL_law_713 ?_
  refine xv_l (w := fun u => wM o al g u ++ wC a b g k1) (k := gm) C.cx hd kwL_X10_counted ((cM_counted _ _ _ _ h).frame _) ⟨rfl, rfl⟩ ⟨Nat.le_of_ble_eq_true rfl, Nat.le_of_ble_eq_true rfl⟩ (wM_rcv.left _) hl.1 rfl rfl (Nat.le_of_ble_eq_true rfl) ⟨by show cells ≤ 600000; omega, by show slots ≤ 7302250; omega⟩ dL_law_714 (fun r2 g1 H locs h hd => ?_)
  obtain ⟨e1, hr⟩ := h
  subst e1
  refine W.lcmp hx hb dL_law_717 ?_
  refine lv_if_eq (tgt := 1212) hx hb dL_law_718 (by decide) (fun _ => ?_) (fun c1 => absurd ((lg_cmp_eq _ _).mpr rfl) c1)
  exact kk k1 g1 H locs cells slots (by omega) (by omega) hr hd.swap
set_option maxHeartbeats 4000000 in
set_option maxRecDepth 100000 in
theorem law_17 {p : Program} {l : Launch} {e : Env} {s : State} {m : MethodId} {args : Array Value} {below : List Frame} {meth : Method} {c : Code} {H : Heap} {locs : List Loc} {Q : State → Prop} {P : EP} {D : va_G} {A : Nat → Prop} {cells slots : Nat} {rt : Option FieldType} {ls : Array Slot} {a : Nat → Nat} {b : Nat → Nat → Nat} {g : Nat → ClassId} {o : Nat} {al : Nat → Nat} {k : KC} {gm : GM} {t q L i : Nat} {xs : Nat → Int32} (C : CxE P D (tyA g) RL cL_law 4 rt p s m args meth c A) (hX : va_X q L xs s s.heap) (hbl : q < s.heap.size) (hbA : ¬ A q) (hL : L ≤ 384) (hd : Hd D (wC a b g k ++ wM o al g gm) A s H locs) (hr : Rel t k gm) (ht : t < 2000) (hl : lv_has ls 4 [(0, .ref q), (1, .ref (a 0)), (2, .ref o), (3, .int (nI i))]) (hi : i + 6 ≤ L) (hcb : cells + 3 ≤ 600000) (hsb : slots + 166 ≤ 7302250)
    (kk : ∀ (k1 : KC) (g1 : GM) (H : Heap) (locs : List Loc) (c1 s1 : Nat), c1 ≤ cells + 3 → s1 ≤ slots + 166 → Rel (t + 1) k1 g1 → Hd D (wC a b g k1 ++ wM o al g g1) A s H locs → W p l e room_1 s m args below meth c H locs c1 s1 Q (F0 m 1212 ls [])) : W p l e room_1 s m args below meth c H locs cells slots Q (F0 m 723 ls []) := by
  have hx := C.1
  have hb := C.2.1
  have hown := C.2.2.2.1
  have hts := C.2.2.2.2.1
  refine lv_aload_n hx hb dL_law_723 rfl (lv_at hl 1 rfl) ?_
  refine lawArg C hX hbl hbA hd.2.2 (j := 1) (v := 1) (by decide) rfl (by omega) hL hl dL_law_724 dL_law_725 dL_law_726 dL_law_727 dL_law_728 ?_
  refine lawArg C hX hbl hbA hd.2.2 (j := 2) (v := 2) (by decide) rfl (by omega) hL hl dL_law_729 dL_law_730 dL_law_731 dL_law_732 dL_law_733 ?_
  refine lawArg C hX hbl hbA hd.2.2 (j := 3) (v := 3) (by decide) rfl (by omega) hL hl dL_law_734 dL_law_735 dL_law_736 dL_law_737 dL_law_738 ?_
  refine ev_i (w := fun u => wC a b g u ++ wM o al g gm) (k := k) C hd kwL_X9_watched ((cC_watched _ _ _ (op_watched _ _ _ hr)).frame _) ⟨rfl, rfl⟩ ⟨Nat.le_of_ble_eq_true rfl, Nat.le_of_ble_eq_true rfl⟩ (rcC9.left _) hl.1 rfl rfl (Nat.le_of_ble_eq_true rfl) ⟨by show cells ≤ 600000; omega, by show slots ≤ 7302250; omega⟩ dL_law_739 (fun r1 k1 H locs h hd => ?_)
  replace hd := hd.swap
  refine lv_aload_n hx hb dL_law_742 rfl (lv_at hl 2 rfl) ?_
  refine lawArg C hX hbl hbA hd.2.2 (j := 1) (v := 1) (by decide) rfl (by omega) hL hl dL_law_743 dL_law_744 dL_law_745 dL_law_746 dL_law_747 ?_
  refine lawArg C hX hbl hbA hd.2.2 (j := 2) (v := 2) (by decide) rfl (by omega) hL hl dL_law_748 dL_law_749 dL_law_750 dL_law_751 dL_law_752 ?_
  refine lawArg C hX hbl hbA hd.2.2 (j := 3) (v := 3) (by decide) rfl (by omega) hL hl dL_law_753 dL_law_754 dL_law_755 dL_law_756 dL_law_757 ?_
  refine xv_i (w := fun u => wM o al g u ++ wC a b g k1) (k := gm) C.cx hd kwL_X10_watched ((cM_watched _ _ _ h).frame _) ⟨rfl, rfl⟩ ⟨Nat.le_of_ble_eq_true rfl, Nat.le_of_ble_eq_true rfl⟩ (wM_rcv.left _) hl.1 rfl rfl (Nat.le_of_ble_eq_true rfl) ⟨by show cells ≤ 600000; omega, by show slots ≤ 7302250; omega⟩ dL_law_758 (fun r2 g1 H locs h hd => ?_)
  obtain ⟨e1, hr⟩ := h
  subst e1
  refine lv_icmp_eq (tgt := 1212) hx hb dL_law_761 (by decide) (fun _ => ?_) (fun c1 => absurd rfl c1)
  exact kk k1 g1 H locs cells slots (by omega) (by omega) hr hd.swap
set_option maxHeartbeats 4000000 in
set_option maxRecDepth 100000 in
theorem law_18 {p : Program} {l : Launch} {e : Env} {s : State} {m : MethodId} {args : Array Value} {below : List Frame} {meth : Method} {c : Code} {H : Heap} {locs : List Loc} {Q : State → Prop} {P : EP} {D : va_G} {A : Nat → Prop} {cells slots : Nat} {rt : Option FieldType} {ls : Array Slot} {a : Nat → Nat} {b : Nat → Nat → Nat} {g : Nat → ClassId} {o : Nat} {al : Nat → Nat} {k : KC} {gm : GM} {t q L i : Nat} {xs : Nat → Int32} (C : CxE P D (tyA g) RL cL_law 4 rt p s m args meth c A) (hX : va_X q L xs s s.heap) (hbl : q < s.heap.size) (hbA : ¬ A q) (hL : L ≤ 384) (hd : Hd D (wC a b g k ++ wM o al g gm) A s H locs) (hr : Rel t k gm) (ht : t < 2000) (hl : lv_has ls 4 [(0, .ref q), (1, .ref (a 0)), (2, .ref o), (3, .int (nI i))]) (hi : i + 6 ≤ L) (hcb : cells + 3 ≤ 600000) (hsb : slots + 166 ≤ 7302250)
    (kk : ∀ (k1 : KC) (g1 : GM) (H : Heap) (locs : List Loc) (c1 s1 : Nat), c1 ≤ cells + 3 → s1 ≤ slots + 166 → Rel (t + 1) k1 g1 → Hd D (wC a b g k1 ++ wM o al g g1) A s H locs → W p l e room_1 s m args below meth c H locs c1 s1 Q (F0 m 1212 ls [])) : W p l e room_1 s m args below meth c H locs cells slots Q (F0 m 766 ls []) := by
  have hx := C.1
  have hb := C.2.1
  have hown := C.2.2.2.1
  have hts := C.2.2.2.2.1
  refine lv_aload_n hx hb dL_law_766 rfl (lv_at hl 1 rfl) ?_
  refine lawArg C hX hbl hbA hd.2.2 (j := 1) (v := 1) (by decide) rfl (by omega) hL hl dL_law_767 dL_law_768 dL_law_769 dL_law_770 dL_law_771 ?_
  refine lawArg C hX hbl hbA hd.2.2 (j := 2) (v := 2) (by decide) rfl (by omega) hL hl dL_law_772 dL_law_773 dL_law_774 dL_law_775 dL_law_776 ?_
  refine ev_i (w := fun u => wC a b g u ++ wM o al g gm) (k := k) C hd kwL_X9_lets ((cC_lets _ _ (op_lets _ _ hr)).frame _) ⟨rfl, rfl⟩ ⟨Nat.le_of_ble_eq_true rfl, Nat.le_of_ble_eq_true rfl⟩ (rcC9.left _) hl.1 rfl rfl (Nat.le_of_ble_eq_true rfl) ⟨by show cells ≤ 600000; omega, by show slots ≤ 7302250; omega⟩ dL_law_777 (fun r1 k1 H locs h hd => ?_)
  replace hd := hd.swap
  refine lv_aload_n hx hb dL_law_780 rfl (lv_at hl 2 rfl) ?_
  refine lawArg C hX hbl hbA hd.2.2 (j := 1) (v := 1) (by decide) rfl (by omega) hL hl dL_law_781 dL_law_782 dL_law_783 dL_law_784 dL_law_785 ?_
  refine lawArg C hX hbl hbA hd.2.2 (j := 2) (v := 2) (by decide) rfl (by omega) hL hl dL_law_786 dL_law_787 dL_law_788 dL_law_789 dL_law_790 ?_
  refine xv_i (w := fun u => wM o al g u ++ wC a b g k1) (k := gm) C.cx hd kwL_X10_lets ((cM_lets _ _ h).frame _) ⟨rfl, rfl⟩ ⟨Nat.le_of_ble_eq_true rfl, Nat.le_of_ble_eq_true rfl⟩ (wM_rcv.left _) hl.1 rfl rfl (Nat.le_of_ble_eq_true rfl) ⟨by show cells ≤ 600000; omega, by show slots ≤ 7302250; omega⟩ dL_law_791 (fun r2 g1 H locs h hd => ?_)
  obtain ⟨e1, hr⟩ := h
  subst e1
  refine lv_icmp_eq (tgt := 1212) hx hb dL_law_794 (by decide) (fun _ => ?_) (fun c1 => absurd rfl c1)
  exact kk k1 g1 H locs cells slots (by omega) (by omega) hr hd.swap
set_option maxHeartbeats 4000000 in
set_option maxRecDepth 100000 in
theorem law_19 {p : Program} {l : Launch} {e : Env} {s : State} {m : MethodId} {args : Array Value} {below : List Frame} {meth : Method} {c : Code} {H : Heap} {locs : List Loc} {Q : State → Prop} {P : EP} {D : va_G} {A : Nat → Prop} {cells slots : Nat} {rt : Option FieldType} {ls : Array Slot} {a : Nat → Nat} {b : Nat → Nat → Nat} {g : Nat → ClassId} {o : Nat} {al : Nat → Nat} {k : KC} {gm : GM} {t q L i : Nat} {xs : Nat → Int32} (C : CxE P D (tyA g) RL cL_law 4 rt p s m args meth c A) (hX : va_X q L xs s s.heap) (hbl : q < s.heap.size) (hbA : ¬ A q) (hL : L ≤ 384) (hd : Hd D (wC a b g k ++ wM o al g gm) A s H locs) (hr : Rel t k gm) (ht : t < 2000) (hl : lv_has ls 4 [(0, .ref q), (1, .ref (a 0)), (2, .ref o), (3, .int (nI i))]) (hi : i + 6 ≤ L) (hcb : cells + 3 ≤ 600000) (hsb : slots + 166 ≤ 7302250)
    (kk : ∀ (k1 : KC) (g1 : GM) (H : Heap) (locs : List Loc) (c1 s1 : Nat), c1 ≤ cells + 3 → s1 ≤ slots + 166 → Rel (t + 1) k1 g1 → Hd D (wC a b g k1 ++ wM o al g g1) A s H locs → W p l e room_1 s m args below meth c H locs c1 s1 Q (F0 m 1212 ls [])) : W p l e room_1 s m args below meth c H locs cells slots Q (F0 m 799 ls []) := by
  have hx := C.1
  have hb := C.2.1
  have hown := C.2.2.2.1
  have hts := C.2.2.2.2.1
  refine lv_aload_n hx hb dL_law_799 rfl (lv_at hl 1 rfl) ?_
  refine lawArg C hX hbl hbA hd.2.2 (j := 1) (v := 1) (by decide) rfl (by omega) hL hl dL_law_800 dL_law_801 dL_law_802 dL_law_803 dL_law_804 ?_
  refine ev_i (w := fun u => wC a b g u ++ wM o al g gm) (k := k) C hd kwL_X9_thrownOut ((cC_thrownOut _ (op_thrownOut _ hr)).frame _) ⟨rfl, rfl⟩ ⟨Nat.le_of_ble_eq_true rfl, Nat.le_of_ble_eq_true rfl⟩ (rcC9.left _) hl.1 rfl rfl (Nat.le_of_ble_eq_true rfl) ⟨by show cells ≤ 600000; omega, by show slots ≤ 7302250; omega⟩ dL_law_805 (fun r1 k1 H locs h hd => ?_)
  replace hd := hd.swap
  refine lv_aload_n hx hb dL_law_808 rfl (lv_at hl 2 rfl) ?_
  refine lawArg C hX hbl hbA hd.2.2 (j := 1) (v := 1) (by decide) rfl (by omega) hL hl dL_law_809 dL_law_810 dL_law_811 dL_law_812 dL_law_813 ?_
  refine xv_i (w := fun u => wM o al g u ++ wC a b g k1) (k := gm) C.cx hd kwL_X10_thrownOut ((cM_thrownOut _ h).frame _) ⟨rfl, rfl⟩ ⟨Nat.le_of_ble_eq_true rfl, Nat.le_of_ble_eq_true rfl⟩ (wM_rcv.left _) hl.1 rfl rfl (Nat.le_of_ble_eq_true rfl) ⟨by show cells ≤ 600000; omega, by show slots ≤ 7302250; omega⟩ dL_law_814 (fun r2 g1 H locs h hd => ?_)
  obtain ⟨e1, hr⟩ := h
  subst e1
  refine lv_icmp_eq (tgt := 1212) hx hb dL_law_817 (by decide) (fun _ => ?_) (fun c1 => absurd rfl c1)
  exact kk k1 g1 H locs cells slots (by omega) (by omega) hr hd.swap
