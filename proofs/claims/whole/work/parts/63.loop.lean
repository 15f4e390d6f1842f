/-! ===== the law: its loop ===== -/
theorem law_sel {p : Program} {l : Launch} {e : Env} {s : State} {m : MethodId} {args : Array Value} {below : List Frame} {meth : Method} {c : Code} {Q : State → Prop} {P : EP} {D : va_G} {A : Nat → Prop} {rt : Option FieldType} {a : Nat → Nat} {b : Nat → Nat → Nat} {g : Nat → ClassId} {o : Nat} {al : Nat → Nat} {q L : Nat} {xs : Nat → Int32} {H : Heap} {locs : List Loc} {cells slots : Nat} {ls : Array Slot} {k : KC} {gm : GM} {t i : Nat} {v : Int32} (hv : ∃ j : Nat, j < 32 ∧ v = nI j) (C : CxE P D (tyA g) RL cL_law 4 rt p s m args meth c A) (hX : va_X q L xs s s.heap) (hbl : q < s.heap.size) (hbA : ¬ A q) (hL : L ≤ 384) (hd : Hd D (wC a b g k ++ wM o al g gm) A s H locs) (hr : Rel t k gm) (ht : t < 2000) (hl : lv_has ls 4 [(0, .ref q), (1, .ref (a 0)), (2, .ref o), (3, .int (nI i))]) (hi : i + 6 ≤ L) (hcb : cells + 3 ≤ 600000) (hsb : slots + 166 ≤ 7302250)
    (kk : ∀ (k1 : KC) (g1 : GM) (H : Heap) (locs : List Loc) (c1 s1 : Nat), c1 ≤ cells + 3 → s1 ≤ slots + 166 → Rel (t + 1) k1 g1 → Hd D (wC a b g k1 ++ wM o al g g1) A s H locs → W p l e room_1 s m args below meth c H locs c1 s1 Q (F0 m 1212 ls [])) : W p l e room_1 s m args below meth c H locs cells slots Q (F0 m 33 ls [.int v]) := by
  obtain ⟨j, hj, ev⟩ := hv
  have ei : v.toInt = (j : Int) := by rw [ev]; exact nI_toInt (by omega)
  have hx := C.1
  have hb := C.2.1
  match j, hj, ei with
  | 0, _, ei => exact lv_tableIn (off := 135) (tgt := 168) hx hb dL_law_33 (by rw [ei]; decide) (by rw [ei]; decide) (by rw [ei]; rfl) (by decide) (law_0 C hX hbl hbA hL hd hr ht hl hi hcb hsb kk)
  | 1, _, ei => exact lv_tableIn (off := 158) (tgt := 191) hx hb dL_law_33 (by rw [ei]; decide) (by rw [ei]; decide) (by rw [ei]; rfl) (by decide) (law_1 C hX hbl hbA hL hd hr ht hl hi hcb hsb kk)
  | 2, _, ei => exact lv_tableIn (off := 192) (tgt := 225) hx hb dL_law_33 (by rw [ei]; decide) (by rw [ei]; decide) (by rw [ei]; rfl) (by decide) (law_2 C hX hbl hbA hL hd hr ht hl hi hcb hsb kk)
  | 3, _, ei => exact lv_tableIn (off := 225) (tgt := 258) hx hb dL_law_33 (by rw [ei]; decide) (by rw [ei]; decide) (by rw [ei]; rfl) (by decide) (law_3 C hX hbl hbA hL hd hr ht hl hi hcb hsb kk)
  | 4, _, ei => exact lv_tableIn (off := 268) (tgt := 301) hx hb dL_law_33 (by rw [ei]; decide) (by rw [ei]; decide) (by rw [ei]; rfl) (by decide) (law_4 C hX hbl hbA hL hd hr ht hl hi hcb hsb kk)
  | 5, _, ei => exact lv_tableIn (off := 311) (tgt := 344) hx hb dL_law_33 (by rw [ei]; decide) (by rw [ei]; decide) (by rw [ei]; rfl) (by decide) (law_5 C hX hbl hbA hL hd hr ht hl hi hcb hsb kk)
  | 6, _, ei => exact lv_tableIn (off := 334) (tgt := 367) hx hb dL_law_33 (by rw [ei]; decide) (by rw [ei]; decide) (by rw [ei]; rfl) (by decide) (law_6 C hX hbl hbA hL hd hr ht hl hi hcb hsb kk)
  | 7, _, ei => exact lv_tableIn (off := 397) (tgt := 430) hx hb dL_law_33 (by rw [ei]; decide) (by rw [ei]; decide) (by rw [ei]; rfl) (by decide) (law_7 C hX hbl hbA hL hd hr ht hl hi hcb hsb kk)
  | 8, _, ei => exact lv_tableIn (off := 410) (tgt := 443) hx hb dL_law_33 (by rw [ei]; decide) (by rw [ei]; decide) (by rw [ei]; rfl) (by decide) (law_8 C hX hbl hbA hL hd hr ht hl hi hcb hsb kk)
  | 9, _, ei => exact lv_tableIn (off := 433) (tgt := 466) hx hb dL_law_33 (by rw [ei]; decide) (by rw [ei]; decide) (by rw [ei]; rfl) (by decide) (law_9 C hX hbl hbA hL hd hr ht hl hi hcb hsb kk)
  | 10, _, ei => exact lv_tableIn (off := 446) (tgt := 479) hx hb dL_law_33 (by rw [ei]; decide) (by rw [ei]; decide) (by rw [ei]; rfl) (by decide) (law_10 C hX hbl hbA hL hd hr ht hl hi hcb hsb kk)
  | 11, _, ei => exact lv_tableIn (off := 489) (tgt := 522) hx hb dL_law_33 (by rw [ei]; decide) (by rw [ei]; decide) (by rw [ei]; rfl) (by decide) (law_11 C hX hbl hbA hL hd hr ht hl hi hcb hsb kk)
  | 12, _, ei => exact lv_tableIn (off := 523) (tgt := 556) hx hb dL_law_33 (by rw [ei]; decide) (by rw [ei]; decide) (by rw [ei]; rfl) (by decide) (law_12 C hX hbl hbA hL hd hr ht hl hi hcb hsb kk)
  | 13, _, ei => exact lv_tableIn (off := 557) (tgt := 590) hx hb dL_law_33 (by rw [ei]; decide) (by rw [ei]; decide) (by rw [ei]; rfl) (by decide) (law_13 C hX hbl hbA hL hd hr ht hl hi hcb hsb kk)
  | 14, _, ei => exact lv_tableIn (off := 590) (tgt := 623) hx hb dL_law_33 (by rw [ei]; decide) (by rw [ei]; decide) (by rw [ei]; rfl) (by decide) (law_14 C hX hbl hbA hL hd hr ht hl hi hcb hsb kk)
  | 15, _, ei => exact lv_tableIn (off := 623) (tgt := 656) hx hb dL_law_33 (by rw [ei]; decide) (by rw [ei]; decide) (by rw [ei]; rfl) (by decide) (law_15 C hX hbl hbA hL hd hr ht hl hi hcb hsb kk)
  | 16, _, ei => exact lv_tableIn (off := 646) (tgt := 679) hx hb dL_law_33 (by rw [ei]; decide) (by rw [ei]; decide) (by rw [ei]; rfl) (by decide) (law_16 C hX hbl hbA hL hd hr ht hl hi hcb hsb kk)
  | 17, _, ei => exact lv_tableIn (off := 690) (tgt := 723) hx hb dL_law_33 (by rw [ei]; decide) (by rw [ei]; decide) (by rw [ei]; rfl) (by decide) (law_17 C hX hbl hbA hL hd hr ht hl hi hcb hsb kk)
  | 18, _, ei => exact lv_tableIn (off := 733) (tgt := 766) hx hb dL_law_33 (by rw [ei]; decide) (by rw [ei]; decide) (by rw [ei]; rfl) (by decide) (law_18 C hX hbl hbA hL hd hr ht hl hi hcb hsb kk)
  | 19, _, ei => exact lv_tableIn (off := 766) (tgt := 799) hx hb dL_law_33 (by rw [ei]; decide) (by rw [ei]; decide) (by rw [ei]; rfl) (by decide) (law_19 C hX hbl hbA hL hd hr ht hl hi hcb hsb kk)
  | 20, _, ei => exact lv_tableIn (off := 789) (tgt := 822) hx hb dL_law_33 (by rw [ei]; decide) (by rw [ei]; decide) (by rw [ei]; rfl) (by decide) (law_20 C hX hbl hbA hL hd hr ht hl hi hcb hsb kk)
  | 21, _, ei => exact lv_tableIn (off := 832) (tgt := 865) hx hb dL_law_33 (by rw [ei]; decide) (by rw [ei]; decide) (by rw [ei]; rfl) (by decide) (law_21 C hX hbl hbA hL hd hr ht hl hi hcb hsb kk)
  | 22, _, ei => exact lv_tableIn (off := 895) (tgt := 928) hx hb dL_law_33 (by rw [ei]; decide) (by rw [ei]; decide) (by rw [ei]; rfl) (by decide) (law_22 C hX hbl hbA hL hd hr ht hl hi hcb hsb kk)
  | 23, _, ei => exact lv_tableIn (off := 908) (tgt := 941) hx hb dL_law_33 (by rw [ei]; decide) (by rw [ei]; decide) (by rw [ei]; rfl) (by decide) (law_23 C hX hbl hbA hL hd hr ht hl hi hcb hsb kk)
  | 24, _, ei => exact lv_tableIn (off := 921) (tgt := 954) hx hb dL_law_33 (by rw [ei]; decide) (by rw [ei]; decide) (by rw [ei]; rfl) (by decide) (law_24 C hX hbl hbA hL hd hr ht hl hi hcb hsb kk)
  | 25, _, ei => exact lv_tableIn (off := 944) (tgt := 977) hx hb dL_law_33 (by rw [ei]; decide) (by rw [ei]; decide) (by rw [ei]; rfl) (by decide) (law_25 C hX hbl hbA hL hd hr ht hl hi hcb hsb kk)
  | 26, _, ei => exact lv_tableIn (off := 987) (tgt := 1020) hx hb dL_law_33 (by rw [ei]; decide) (by rw [ei]; decide) (by rw [ei]; rfl) (by decide) (law_26 C hX hbl hbA hL hd hr ht hl hi hcb hsb kk)
  | 27, _, ei => exact lv_tableIn (off := 1030) (tgt := 1063) hx hb dL_law_33 (by rw [ei]; decide) (by rw [ei]; decide) (by rw [ei]; rfl) (by decide) (law_27 C hX hbl hbA hL hd hr ht hl hi hcb hsb kk)
  | 28, _, ei => exact lv_tableIn (off := 1093) (tgt := 1126) hx hb dL_law_33 (by rw [ei]; decide) (by rw [ei]; decide) (by rw [ei]; rfl) (by decide) (law_28 C hX hbl hbA hL hd hr ht hl hi hcb hsb kk)
  | 29, _, ei => exact lv_tableIn (off := 1146) (tgt := 1179) hx hb dL_law_33 (by rw [ei]; decide) (by rw [ei]; decide) (by rw [ei]; rfl) (by decide) (law_29 C hX hbl hbA hL hd hr ht hl hi hcb hsb kk)
  | 30, _, ei => exact lv_tableOut (tgt := 1212) hx hb dL_law_33 (Or.inr (by rw [ei]; decide)) (by decide) (kk k gm H locs cells slots (by omega) (by omega) (Rel.ups hr (Nat.le_succ t)) hd)
  | 31, _, ei => exact lv_tableOut (tgt := 1212) hx hb dL_law_33 (Or.inr (by rw [ei]; decide)) (by decide) (kk k gm H locs cells slots (by omega) (by omega) (Rel.ups hr (Nat.le_succ t)) hd)
  | j + 32, h, _ => exact absurd h (by omega)
theorem law_loop {p : Program} {l : Launch} {e : Env} {s : State} {m : MethodId} {args : Array Value} {below : List Frame} {meth : Method} {c : Code} {Q : State → Prop} {P : EP} {D : va_G} {A : Nat → Prop} {rt : Option FieldType} {a : Nat → Nat} {b : Nat → Nat → Nat} {g : Nat → ClassId} {o : Nat} {al : Nat → Nat} {q L : Nat} {xs : Nat → Int32} (C : CxE P D (tyA g) RL cL_law 4 rt p s m args meth c A) (hX : va_X q L xs s s.heap) (hbl : q < s.heap.size) (hbA : ¬ A q) (hL : L ≤ 384)
    (kk : ∀ (H : Heap) (locs : List Loc) (c1 s1 : Nat) (ls : Array Slot), c1 ≤ 600000 → s1 ≤ 7302250 → va_S A s.heap H locs → W p l e room_1 s m args below meth c H locs c1 s1 Q (F0 m 1218 ls [])) :
    ∀ (n t i : Nat) (k : KC) (gm : GM) (H : Heap) (locs : List Loc) (cells slots : Nat) (ls : Array Slot), i = 6 * t → i ≤ L → L < i + 6 * n → cells ≤ 200 + 3 * t → slots ≤ 5000 + 166 * t → Rel t k gm → Hd D (wC a b g k ++ wM o al g gm) A s H locs → lv_has ls 4 [(0, .ref q), (1, .ref (a 0)), (2, .ref o), (3, .int (nI i))] → W p l e room_1 s m args below meth c H locs cells slots Q (F0 m 18 ls []) := by
  have hx := C.1
  have hb := C.2.1
  intro n
  induction n with
  | zero =>
    intro t i k gm H locs cells slots ls h1 h2 h3
    exact absurd h3 (by omega)
  | succ n ih =>
    intro t i k gm H locs cells slots ls h1 h2 h3 hc hs hr hd hl
    refine lv_iload_n hx hb dL_law_18 rfl (lv_at hl 3 rfl) ?_
    refine lv_aload_n hx hb dL_law_19 rfl (lv_at hl 0 rfl) ?_
    refine va_slen hx hb hX hbl hbA hd.2.2 dL_law_20 ?_
    refine lv_bipush (v := 6) hx hb dL_law_21 (by decide) ?_
    refine lv_isub hx hb dL_law_23 ?_
    have e6 : (Int32.ofNat L - 6).toInt = (L : Int) - 6 := pk_sub_toInt (a := L) (b := 6) (by omega) (by decide)
    have eI : (nI i).toInt = (i : Int) := nI_toInt (by omega)
    refine lv_icmp_gt (tgt := 1218) hx hb dL_law_24 (by decide) (fun c1 => ?_) (fun c1 => ?_)
    · exact kk H locs cells slots ls (by omega) (by omega) hd.2.2
    · have hi : i + 6 ≤ L := by
        rw [Int32.lt_iff_toInt_lt, e6, eI] at c1
        omega
      refine lv_aload_n hx hb dL_law_27 rfl (lv_at hl 0 rfl) ?_
      refine lv_iload_n hx hb dL_law_28 rfl (lv_at hl 3 rfl) ?_
      refine va_sld hx hb hX hbl hbA hd.2.2 (vp_in_nI (by omega) (by omega)) dL_law_29 ?_
      refine lv_bipush (v := 31) hx hb dL_law_30 (by decide) ?_
      refine lv_iand hx hb dL_law_32 ?_
      refine law_sel (pk_andE _ 5 (by decide)) C hX hbl hbA hL hd hr (by omega) hl hi (by omega) (by omega) (fun k1 g1 H locs c1 s1 hc1 hs1 hr hd => ?_)
      refine lv_iinc (v := nI i + 6) (lv' := [(3, .int (nI i + 6)), (0, .ref q), (1, .ref (a 0)), (2, .ref o)]) hx hb dL_law_1212 hl (k := 3) rfl rfl (by decide) rfl (fun ls hl => ?_)
      refine lv_goto (tgt := 18) hx hb dL_law_1215 (by decide) ?_
      have ea : nI i + 6 = nI (i + 6) := nI_add i 6
      rw [ea] at hl
      exact ih (t + 1) (i + 6) k1 g1 H locs c1 s1 ls (by omega) hi (by omega) (by omega) (by omega) hr hd (lv_sub hl [1, 2, 3, 0] rfl)
