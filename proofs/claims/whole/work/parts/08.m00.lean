def wM_isSign (x1 : Int32) (k : GM) (Q : Int32 → GM → Prop) : Prop := ((¬ (k.1 24) = 0 → Q (0 : Int32) k) ∧ ((k.1 24) = 0 → ((¬ (k.1 19) = (3 : Int32) → Q (0 : Int32) k) ∧ ((k.1 19) = (3 : Int32) → ((¬ (lg_cmp k.2.2 x1.toInt64) = 0 → Q (0 : Int32) k) ∧ ((lg_cmp k.2.2 x1.toInt64) = 0 → Q (1 : Int32) k))))))
set_option maxHeartbeats 4000000 in
set_option maxRecDepth 100000 in
theorem cM_isSign {l : Launch} {D : va_G} {o : Nat} {a : Nat → Nat} {g : Nat → ClassId} {k : GM} {Qp : Int32 → GM → Prop} (x1 : Int32) (h : wM_isSign x1 k Qp) : Cz l D (tyA g) (wM o a g) yX10_isSign cX10_isSign 2 ({ frames := 0, cells := 0, slots := 0, locals := 0 }) [.ref o, .int x1] k Qp := by
  refine Cz_of (by decide) (Nat.le_of_ble_eq_true rfl) ?_
  intro p e s m args below meth c A Z ls C ret hd hl
  have hx := C.1
  have hb := C.2.1
  have hl : lv_has ls 2 [(0, .ref o), (1, .int x1)] := hl
  replace h : ((¬ (k.1 24) = 0 → Qp (0 : Int32) k) ∧ ((k.1 24) = 0 → ((¬ (k.1 19) = (3 : Int32) → Qp (0 : Int32) k) ∧ ((k.1 19) = (3 : Int32) → ((¬ (lg_cmp k.2.2 x1.toInt64) = 0 → Qp (0 : Int32) k) ∧ ((lg_cmp k.2.2 x1.toInt64) = 0 → Qp (1 : Int32) k)))))) := h
  refine lv_aload_n hx hb dX10_isSign_0 rfl (lv_at hl 0 rfl) ?_
  refine gM_24 C hd (v := k.1 24) rfl dX10_isSign_1 ?_
  refine lv_if_ne (tgt := 29) hx hb dX10_isSign_4 (by decide) (fun c_1 => ?_) (fun c_1 => ?_)
  · replace h := h.1 c_1
    refine lv_iconst (v := 0) hx hb dX10_isSign_29 (by decide) ?_
    exact ret hd (by decide) h dX10_isSign_30
  · replace h := h.2 c_1
    refine lv_aload_n hx hb dX10_isSign_7 rfl (lv_at hl 0 rfl) ?_
    refine gM_19 C hd (v := k.1 19) rfl dX10_isSign_8 ?_
    refine lv_iconst (v := 3) hx hb dX10_isSign_11 (by decide) ?_
    refine lv_icmp_ne (tgt := 29) hx hb dX10_isSign_12 (by decide) (fun c_2 => ?_) (fun c_2 => ?_)
    · replace h := h.1 c_2
      refine lv_iconst (v := 0) hx hb dX10_isSign_29 (by decide) ?_
      exact ret hd (by decide) h dX10_isSign_30
    · replace h := h.2 c_2
      refine lv_aload_n hx hb dX10_isSign_15 rfl (lv_at hl 0 rfl) ?_
      refine gM_21 C hd (v := k.2.2) rfl dX10_isSign_16 ?_
      refine lv_iload_n hx hb dX10_isSign_19 rfl (lv_at hl 1 rfl) ?_
      refine lv_i2l (v := x1.toInt64) hx hb dX10_isSign_20 rfl ?_
      refine W.lcmp hx hb dX10_isSign_21 ?_
      refine lv_if_ne (tgt := 29) hx hb dX10_isSign_22 (by decide) (fun c_3 => ?_) (fun c_3 => ?_)
      · replace h := h.1 c_3
        refine lv_iconst (v := 0) hx hb dX10_isSign_29 (by decide) ?_
        exact ret hd (by decide) h dX10_isSign_30
      · replace h := h.2 c_3
        refine lv_iconst (v := 1) hx hb dX10_isSign_25 (by decide) ?_
        refine lv_goto (tgt := 30) hx hb dX10_isSign_26 (by decide) ?_
        exact ret hd (by decide) h dX10_isSign_30
def wM_byteAt (x1 : Int32) (k : GM) (Q : Int32 → GM → Prop) : Prop := (((k.1 18) ≤ x1 → Q (-1 : Int32) k) ∧ (¬ (k.1 18) ≤ x1 → (vp_in ((k.1 17) + x1) 960 ∧ Q (k.2.1 1 ((k.1 17) + x1).toNatClampNeg) k)))
set_option maxHeartbeats 4000000 in
set_option maxRecDepth 100000 in
theorem cM_byteAt {l : Launch} {D : va_G} {o : Nat} {a : Nat → Nat} {g : Nat → ClassId} {k : GM} {Qp : Int32 → GM → Prop} (x1 : Int32) (h : wM_byteAt x1 k Qp) : Ci l D (tyA g) (wM o a g) yX10_byteAt cX10_byteAt 2 ({ frames := 0, cells := 0, slots := 0, locals := 0 }) [.ref o, .int x1] k Qp := by
  refine Ci_of (by decide) (Nat.le_of_ble_eq_true rfl) ?_
  intro p e s m args below meth c A Z ls C ret hd hl
  have hx := C.1
  have hb := C.2.1
  have hl : lv_has ls 2 [(0, .ref o), (1, .int x1)] := hl
  replace h : (((k.1 18) ≤ x1 → Qp (-1 : Int32) k) ∧ (¬ (k.1 18) ≤ x1 → (vp_in ((k.1 17) + x1) 960 ∧ Qp (k.2.1 1 ((k.1 17) + x1).toNatClampNeg) k))) := h
  refine lv_iload_n hx hb dX10_byteAt_0 rfl (lv_at hl 1 rfl) ?_
  refine lv_aload_n hx hb dX10_byteAt_1 rfl (lv_at hl 0 rfl) ?_
  refine gM_18 C hd (v := k.1 18) rfl dX10_byteAt_2 ?_
  refine lv_icmp_ge (tgt := 22) hx hb dX10_byteAt_5 (by decide) (fun c_1 => ?_) (fun c_1 => ?_)
  · replace h := h.1 c_1
    refine lv_iconst (v := -1) hx hb dX10_byteAt_22 (by decide) ?_
    exact ret hd h dX10_byteAt_23
  · replace h := h.2 c_1
    refine lv_aload_n hx hb dX10_byteAt_8 rfl (lv_at hl 0 rfl) ?_
    refine gM_1 C hd dX10_byteAt_9 ?_
    refine lv_aload_n hx hb dX10_byteAt_12 rfl (lv_at hl 0 rfl) ?_
    refine gM_17 C hd (v := k.1 17) rfl dX10_byteAt_13 ?_
    refine lv_iload_n hx hb dX10_byteAt_16 rfl (lv_at hl 1 rfl) ?_
    refine lv_iadd hx hb dX10_byteAt_17 ?_
    refine ldM_1 C hd (v := k.2.1 1 ((k.1 17) + x1).toNatClampNeg) h.1 rfl dX10_byteAt_18 ?_
    replace h := h.2
    refine lv_goto (tgt := 23) hx hb dX10_byteAt_19 (by decide) ?_
    exact ret hd h dX10_byteAt_23
def wM_in (x0l : Int64) (x2l : Int64) (x4l : Int64) (k : GM) (Q : Int32 → GM → Prop) : Prop := (((lg_cmp x0l x2l) < 0 → Q (0 : Int32) k) ∧ (¬ (lg_cmp x0l x2l) < 0 → ((0 < (lg_cmp x0l x4l) → Q (0 : Int32) k) ∧ (¬ 0 < (lg_cmp x0l x4l) → Q (1 : Int32) k))))
set_option maxHeartbeats 4000000 in
set_option maxRecDepth 100000 in
theorem cM_in {l : Launch} {D : va_G} {o : Nat} {a : Nat → Nat} {g : Nat → ClassId} {k : GM} {Qp : Int32 → GM → Prop} (x0l : Int64) (x2l : Int64) (x4l : Int64) (h : wM_in x0l x2l x4l k Qp) : Cz l D (tyA g) (wM o a g) yX10_in cX10_in 6 ({ frames := 0, cells := 0, slots := 0, locals := 0 }) [.long x0l, .long x2l, .long x4l] k Qp := by
  refine Cz_of (by decide) (Nat.le_of_ble_eq_true rfl) ?_
  intro p e s m args below meth c A Z ls C ret hd hl
  have hx := C.1
  have hb := C.2.1
  have hl : lv_has ls 6 [(0, .long x0l), (2, .long x2l), (4, .long x4l)] := hl
  replace h : (((lg_cmp x0l x2l) < 0 → Qp (0 : Int32) k) ∧ (¬ (lg_cmp x0l x2l) < 0 → ((0 < (lg_cmp x0l x4l) → Qp (0 : Int32) k) ∧ (¬ 0 < (lg_cmp x0l x4l) → Qp (1 : Int32) k)))) := h
  refine lv_lload_n hx hb dX10_in_0 rfl (lv_at hl 0 rfl) ?_
  refine lv_lload_n hx hb dX10_in_1 rfl (lv_at hl 1 rfl) ?_
  refine W.lcmp hx hb dX10_in_2 ?_
  refine lv_if_lt (tgt := 17) hx hb dX10_in_3 (by decide) (fun c_1 => ?_) (fun c_1 => ?_)
  · replace h := h.1 c_1
    refine lv_iconst (v := 0) hx hb dX10_in_17 (by decide) ?_
    exact ret hd (by decide) h dX10_in_18
  · replace h := h.2 c_1
    refine lv_lload_n hx hb dX10_in_6 rfl (lv_at hl 0 rfl) ?_
    refine lv_lload hx hb dX10_in_7 (lv_at hl 2 rfl) ?_
    refine W.lcmp hx hb dX10_in_9 ?_
    refine lv_if_gt (tgt := 17) hx hb dX10_in_10 (by decide) (fun c_2 => ?_) (fun c_2 => ?_)
    · replace h := h.1 c_2
      refine lv_iconst (v := 0) hx hb dX10_in_17 (by decide) ?_
      exact ret hd (by decide) h dX10_in_18
    · replace h := h.2 c_2
      refine lv_iconst (v := 1) hx hb dX10_in_13 (by decide) ?_
      refine lv_goto (tgt := 18) hx hb dX10_in_14 (by decide) ?_
      exact ret hd (by decide) h dX10_in_18
def wM_next  : Nat → Nat → Int32 → GM → (GM → Prop) → Prop
  | 0, _, _, _, _ => False
  | n + 1, c, x2, k, Q => match c with
    | 0 => wM_next n 1 0 k Q
    | 1 => (wM_byteAt (k.1 22) k (fun r_1 k_1 => ((r_1 = (32 : Int32) → wM_next n 1 0 (sI k_1 22 ((k_1.1 22) + (1 : Int32))) Q) ∧ (¬ r_1 = (32 : Int32) → (wM_byteAt (k_1.1 22) k_1 (fun r_3 k_3 => ((¬ r_3 = (10 : Int32) → (wM_byteAt (k_3.1 22) (sI k_3 20 (k_3.1 22)) (fun r_5 k_5 => ((0 ≤ r_5 → (wM_in r_5.toInt64 (97 : Int64) (122 : Int64) (sI k_5 19 (4 : Int32)) (fun r_7 k_7 => ((r_7 = 0 → (wM_in r_5.toInt64 (48 : Int64) (57 : Int64) k_7 (fun r_9 k_9 => ((r_9 = 0 → ((r_5 = (40 : Int32) → Q (sI (sL (sI k_9 19 (3 : Int32)) r_5.toInt64) 22 ((k_9.1 22) + (1 : Int32)))) ∧ (¬ r_5 = (40 : Int32) → ((r_5 = (41 : Int32) → Q (sI (sL (sI k_9 19 (3 : Int32)) r_5.toInt64) 22 ((k_9.1 22) + (1 : Int32)))) ∧ (¬ r_5 = (41 : Int32) → ((r_5 = (59 : Int32) → Q (sI (sL (sI k_9 19 (3 : Int32)) r_5.toInt64) 22 ((k_9.1 22) + (1 : Int32)))) ∧ (¬ r_5 = (59 : Int32) → ((r_5 = (43 : Int32) → Q (sI (sL (sI k_9 19 (3 : Int32)) r_5.toInt64) 22 ((k_9.1 22) + (1 : Int32)))) ∧ (¬ r_5 = (43 : Int32) → ((r_5 = (45 : Int32) → Q (sI (sL (sI k_9 19 (3 : Int32)) r_5.toInt64) 22 ((k_9.1 22) + (1 : Int32)))) ∧ (¬ r_5 = (45 : Int32) → ((r_5 = (42 : Int32) → Q (sI (sL (sI k_9 19 (3 : Int32)) r_5.toInt64) 22 ((k_9.1 22) + (1 : Int32)))) ∧ (¬ r_5 = (42 : Int32) → ((r_5 = (60 : Int32) → Q (sI (sL (sI k_9 19 (3 : Int32)) r_5.toInt64) 22 ((k_9.1 22) + (1 : Int32)))) ∧ (¬ r_5 = (60 : Int32) → ((¬ r_5 = (61 : Int32) → Q k_9) ∧ (r_5 = (61 : Int32) → Q (sI (sL (sI k_9 19 (3 : Int32)) r_5.toInt64) 22 ((k_9.1 22) + (1 : Int32)))))))))))))))))))) ∧ (¬ r_9 = 0 → wM_next n 3 (0 : Int32) (sL (sI k_9 19 (2 : Int32)) (0 : Int64)) Q))))) ∧ (¬ r_7 = 0 → wM_next n 2 (0 : Int32) (sL (sI k_7 19 (1 : Int32)) (0 : Int64)) Q))))) ∧ (¬ 0 ≤ r_5 → Q (sI (sI (sI k_5 19 (4 : Int32)) 19 (0 : Int32)) 20 (k_5.1 18))))))) ∧ (r_3 = (10 : Int32) → wM_next n 1 0 (sI k_3 22 ((k_3.1 22) + (1 : Int32))) Q))))))))
    | 2 => (wM_byteAt (k.1 22) k (fun r_19 k_19 => (wM_in r_19.toInt64 (97 : Int64) (122 : Int64) k_19 (fun r_20 k_20 => ((r_20 = 0 → Q k_20) ∧ (¬ r_20 = 0 → (((8 : Int32) ≤ x2 → wM_next n 2 (x2 + (1 : Int32)) (sI (sL k_20 (-1 : Int64)) 22 ((k_20.1 22) + (1 : Int32))) Q) ∧ (¬ (8 : Int32) ≤ x2 → (wM_byteAt (k_20.1 22) k_20 (fun r_23 k_23 => wM_next n 2 (x2 + (1 : Int32)) (sI (sL k_23 ((((27 : Int64) * k_20.2.2) + r_23.toInt64) - (96 : Int64))) 22 ((k_23.1 22) + (1 : Int32))) Q))))))))))
    | _ => (wM_byteAt (k.1 22) k (fun r_24 k_24 => (wM_in r_24.toInt64 (48 : Int64) (57 : Int64) k_24 (fun r_25 k_25 => ((r_25 = 0 → ((x2 ≤ (4 : Int32) → Q (sI k_25 19 (2 : Int32))) ∧ (¬ x2 ≤ (4 : Int32) → Q (sI k_25 19 (4 : Int32))))) ∧ (¬ r_25 = 0 → (((4 : Int32) ≤ x2 → wM_next n 3 (x2 + (1 : Int32)) (sI (sL k_25 k_25.2.2) 22 ((k_25.1 22) + (1 : Int32))) Q) ∧ (¬ (4 : Int32) ≤ x2 → (wM_byteAt (k_25.1 22) k_25 (fun r_29 k_29 => wM_next n 3 (x2 + (1 : Int32)) (sI (sL k_29 ((((10 : Int64) * k_25.2.2) + r_29.toInt64) - (48 : Int64))) 22 ((k_29.1 22) + (1 : Int32))) Q))))))))))
set_option maxHeartbeats 4000000 in
set_option maxRecDepth 100000 in
theorem cM_next {l : Launch} {D : va_G} {o : Nat} {a : Nat → Nat} {g : Nat → ClassId} {k : GM} {Qp : GM → Prop} (n : Nat)  (h : wM_next n 0 0 k Qp) : Cv l D (tyA g) (wM o a g) yX10_next cX10_next 3 ({ frames := 1, cells := 0, slots := 0, locals := 25 }) [.ref o] k Qp := by
  refine Cv_of (by decide) (Nat.le_of_ble_eq_true rfl) ?_
  intro p e s m args below meth c A Z ls C ret hd hl
  have hx := C.1
  have hb := C.2.1
  have hl : lv_has ls 3 [(0, .ref o)] := hl
  have L : ∀ n : Nat, (∀ (k : GM) (H : Heap) (locs : List Loc) (ls : Array Slot), wM_next n 1 0 k Qp → Hd D (wM o a g k) A s H locs → lv_has ls 3 [(0, .ref o)] → W p l e ({ frames := 1, cells := 0, slots := 0, locals := 25 }) s m args below meth c H locs 0 0 Z (F0 m 0 ls [])) ∧ (∀ (x2 : Int32) (k : GM) (H : Heap) (locs : List Loc) (ls : Array Slot), wM_next n 2 x2 k Qp → Hd D (wM o a g k) A s H locs → lv_has ls 3 [(0, .ref o), (2, .int x2)] → W p l e ({ frames := 1, cells := 0, slots := 0, locals := 25 }) s m args below meth c H locs 0 0 Z (F0 m 107 ls [])) ∧ (∀ (x2 : Int32) (k : GM) (H : Heap) (locs : List Loc) (ls : Array Slot), wM_next n 3 x2 k Qp → Hd D (wM o a g k) A s H locs → lv_has ls 3 [(0, .ref o), (2, .int x2)] → W p l e ({ frames := 1, cells := 0, slots := 0, locals := 25 }) s m args below meth c H locs 0 0 Z (F0 m 211 ls [])) := by
    intro n
    induction n with
    | zero => exact ⟨fun _ _ _ _ h => h.elim, fun _ _ _ _ _ h => h.elim, fun _ _ _ _ _ h => h.elim⟩
    | succ n ih =>
      refine ⟨?_, ?_, ?_⟩
      · intro k H locs ls h hd hl
        replace h : (wM_byteAt (k.1 22) k (fun r_1 k_1 => ((r_1 = (32 : Int32) → wM_next n 1 0 (sI k_1 22 ((k_1.1 22) + (1 : Int32))) Qp) ∧ (¬ r_1 = (32 : Int32) → (wM_byteAt (k_1.1 22) k_1 (fun r_3 k_3 => ((¬ r_3 = (10 : Int32) → (wM_byteAt (k_3.1 22) (sI k_3 20 (k_3.1 22)) (fun r_5 k_5 => ((0 ≤ r_5 → (wM_in r_5.toInt64 (97 : Int64) (122 : Int64) (sI k_5 19 (4 : Int32)) (fun r_7 k_7 => ((r_7 = 0 → (wM_in r_5.toInt64 (48 : Int64) (57 : Int64) k_7 (fun r_9 k_9 => ((r_9 = 0 → ((r_5 = (40 : Int32) → Qp (sI (sL (sI k_9 19 (3 : Int32)) r_5.toInt64) 22 ((k_9.1 22) + (1 : Int32)))) ∧ (¬ r_5 = (40 : Int32) → ((r_5 = (41 : Int32) → Qp (sI (sL (sI k_9 19 (3 : Int32)) r_5.toInt64) 22 ((k_9.1 22) + (1 : Int32)))) ∧ (¬ r_5 = (41 : Int32) → ((r_5 = (59 : Int32) → Qp (sI (sL (sI k_9 19 (3 : Int32)) r_5.toInt64) 22 ((k_9.1 22) + (1 : Int32)))) ∧ (¬ r_5 = (59 : Int32) → ((r_5 = (43 : Int32) → Qp (sI (sL (sI k_9 19 (3 : Int32)) r_5.toInt64) 22 ((k_9.1 22) + (1 : Int32)))) ∧ (¬ r_5 = (43 : Int32) → ((r_5 = (45 : Int32) → Qp (sI (sL (sI k_9 19 (3 : Int32)) r_5.toInt64) 22 ((k_9.1 22) + (1 : Int32)))) ∧ (¬ r_5 = (45 : Int32) → ((r_5 = (42 : Int32) → Qp (sI (sL (sI k_9 19 (3 : Int32)) r_5.toInt64) 22 ((k_9.1 22) + (1 : Int32)))) ∧ (¬ r_5 = (42 : Int32) → ((r_5 = (60 : Int32) → Qp (sI (sL (sI k_9 19 (3 : Int32)) r_5.toInt64) 22 ((k_9.1 22) + (1 : Int32)))) ∧ (¬ r_5 = (60 : Int32) → ((¬ r_5 = (61 : Int32) → Qp k_9) ∧ (r_5 = (61 : Int32) → Qp (sI (sL (sI k_9 19 (3 : Int32)) r_5.toInt64) 22 ((k_9.1 22) + (1 : Int32)))))))))))))))))))) ∧ (¬ r_9 = 0 → wM_next n 3 (0 : Int32) (sL (sI k_9 19 (2 : Int32)) (0 : Int64)) Qp))))) ∧ (¬ r_7 = 0 → wM_next n 2 (0 : Int32) (sL (sI k_7 19 (1 : Int32)) (0 : Int64)) Qp))))) ∧ (¬ 0 ≤ r_5 → Qp (sI (sI (sI k_5 19 (4 : Int32)) 19 (0 : Int32)) 20 (k_5.1 18))))))) ∧ (r_3 = (10 : Int32) → wM_next n 1 0 (sI k_3 22 ((k_3.1 22) + (1 : Int32))) Qp)))))))) := h
        refine lv_aload_n hx hb dX10_next_0 rfl (lv_at hl 0 rfl) ?_
        refine lv_aload_n hx hb dX10_next_1 rfl (lv_at hl 0 rfl) ?_
        refine gM_22 C hd (v := k.1 22) rfl dX10_next_2 ?_
        refine xv_i C hd kwRX10_X10_byteAt (cM_byteAt _ h) ⟨rfl, rfl⟩ ⟨by decide, by decide⟩ wM_rcv hl.1 rfl rfl (Nat.le_of_ble_eq_true rfl) ⟨Nat.zero_le _, Nat.zero_le _⟩ dX10_next_5 (fun r_1 k_1 H locs h hd => ?_)
        refine lv_bipush (v := 32) hx hb dX10_next_8 (by decide) ?_
        refine lv_icmp_eq (tgt := 26) hx hb dX10_next_10 (by decide) (fun c_2 => ?_) (fun c_2 => ?_)
        · replace h := h.1 c_2
          refine lv_aload_n hx hb dX10_next_26 rfl (lv_at hl 0 rfl) ?_
          refine lv_dup hx hb dX10_next_27 rfl ?_
          refine gM_22 C hd (v := k_1.1 22) rfl dX10_next_28 ?_
          refine lv_iconst (v := 1) hx hb dX10_next_31 (by decide) ?_
          refine lv_iadd hx hb dX10_next_32 ?_
          refine pM_22 C hd dX10_next_33 (fun H locs hd => ?_)
          refine lv_goto (tgt := 0) hx hb dX10_next_36 (by decide) ?_
          exact (ih).1  _ _ _ _ h hd (lv_sub hl [0] rfl)
        · replace h := h.2 c_2
          refine lv_aload_n hx hb dX10_next_13 rfl (lv_at hl 0 rfl) ?_
          refine lv_aload_n hx hb dX10_next_14 rfl (lv_at hl 0 rfl) ?_
          refine gM_22 C hd (v := k_1.1 22) rfl dX10_next_15 ?_
          refine xv_i C hd kwRX10_X10_byteAt (cM_byteAt _ h) ⟨rfl, rfl⟩ ⟨by decide, by decide⟩ wM_rcv hl.1 rfl rfl (Nat.le_of_ble_eq_true rfl) ⟨Nat.zero_le _, Nat.zero_le _⟩ dX10_next_18 (fun r_3 k_3 H locs h hd => ?_)
          refine lv_bipush (v := 10) hx hb dX10_next_21 (by decide) ?_
          refine lv_icmp_ne (tgt := 39) hx hb dX10_next_23 (by decide) (fun c_4 => ?_) (fun c_4 => ?_)
          · replace h := h.1 c_4
            refine lv_aload_n hx hb dX10_next_39 rfl (lv_at hl 0 rfl) ?_
            refine lv_aload_n hx hb dX10_next_40 rfl (lv_at hl 0 rfl) ?_
            refine gM_22 C hd (v := k_3.1 22) rfl dX10_next_41 ?_
            refine pM_20 C hd dX10_next_44 (fun H locs hd => ?_)
            refine lv_aload_n hx hb dX10_next_47 rfl (lv_at hl 0 rfl) ?_
            refine lv_aload_n hx hb dX10_next_48 rfl (lv_at hl 0 rfl) ?_
            refine gM_22 C hd (v := k_3.1 22) rfl dX10_next_49 ?_
            refine xv_i C hd kwRX10_X10_byteAt (cM_byteAt _ h) ⟨rfl, rfl⟩ ⟨by decide, by decide⟩ wM_rcv hl.1 rfl rfl (Nat.le_of_ble_eq_true rfl) ⟨Nat.zero_le _, Nat.zero_le _⟩ dX10_next_52 (fun r_5 k_5 H locs h hd => ?_)
            refine lv_istore_n (lv' := [(1, .int r_5), (0, .ref o)]) hx hb dX10_next_55 rfl hl (by decide) rfl (fun ls hl => ?_)
            refine lv_aload_n hx hb dX10_next_56 rfl (lv_at hl 1 rfl) ?_
            refine lv_iconst (v := 4) hx hb dX10_next_57 (by decide) ?_
            refine pM_19 C hd dX10_next_58 (fun H locs hd => ?_)
            refine lv_iload_n hx hb dX10_next_61 rfl (lv_at hl 0 rfl) ?_
            refine lv_if_ge (tgt := 81) hx hb dX10_next_62 (by decide) (fun c_6 => ?_) (fun c_6 => ?_)
            · replace h := h.1 c_6
              refine lv_iload_n hx hb dX10_next_81 rfl (lv_at hl 0 rfl) ?_
              refine lv_i2l (v := r_5.toInt64) hx hb dX10_next_82 rfl ?_
              refine lv_ldc2 (v := (97 : Int64)) hx hb C.2.2.2.1 (C.2.2.2.2.1 _ q_1129) dX10_next_83 ?_
              refine lv_ldc2 (v := (122 : Int64)) hx hb C.2.2.2.1 (C.2.2.2.2.1 _ q_1130) dX10_next_86 ?_
              refine xs_z C hd kwRX10_X10_in (cM_in _ _ _ h) ⟨rfl, rfl⟩ ⟨by decide, by decide⟩ hl.1 rfl rfl (Nat.le_of_ble_eq_true rfl) ⟨Nat.zero_le _, Nat.zero_le _⟩ dX10_next_89 (fun r_7 k_7 H locs hz_7 h hd => ?_)
              refine lv_if_eq (tgt := 185) hx hb dX10_next_92 (by decide) (fun c_8 => ?_) (fun c_8 => ?_)
              · replace h := h.1 c_8
                refine lv_iload_n hx hb dX10_next_185 rfl (lv_at hl 0 rfl) ?_
                refine lv_i2l (v := r_5.toInt64) hx hb dX10_next_186 rfl ?_
                refine lv_ldc2 (v := (48 : Int64)) hx hb C.2.2.2.1 (C.2.2.2.2.1 _ q_1134) dX10_next_187 ?_
                refine lv_ldc2 (v := (57 : Int64)) hx hb C.2.2.2.1 (C.2.2.2.2.1 _ q_1135) dX10_next_190 ?_
                refine xs_z C hd kwRX10_X10_in (cM_in _ _ _ h) ⟨rfl, rfl⟩ ⟨by decide, by decide⟩ hl.1 rfl rfl (Nat.le_of_ble_eq_true rfl) ⟨Nat.zero_le _, Nat.zero_le _⟩ dX10_next_193 (fun r_9 k_9 H locs hz_9 h hd => ?_)
                refine lv_if_eq (tgt := 303) hx hb dX10_next_196 (by decide) (fun c_10 => ?_) (fun c_10 => ?_)
                · replace h := h.1 c_10
                  refine lv_iload_n hx hb dX10_next_303 rfl (lv_at hl 0 rfl) ?_
                  refine lv_bipush (v := 40) hx hb dX10_next_304 (by decide) ?_
                  refine lv_icmp_eq (tgt := 351) hx hb dX10_next_306 (by decide) (fun c_11 => ?_) (fun c_11 => ?_)
                  · replace h := h.1 c_11
                    refine lv_aload_n hx hb dX10_next_351 rfl (lv_at hl 1 rfl) ?_
                    refine lv_iconst (v := 3) hx hb dX10_next_352 (by decide) ?_
                    refine pM_19 C hd dX10_next_353 (fun H locs hd => ?_)
                    refine lv_aload_n hx hb dX10_next_356 rfl (lv_at hl 1 rfl) ?_
                    refine lv_iload_n hx hb dX10_next_357 rfl (lv_at hl 0 rfl) ?_
                    refine lv_i2l (v := r_5.toInt64) hx hb dX10_next_358 rfl ?_
                    refine pM_21 C hd dX10_next_359 (fun H locs hd => ?_)
                    refine lv_aload_n hx hb dX10_next_362 rfl (lv_at hl 1 rfl) ?_
                    refine lv_dup hx hb dX10_next_363 rfl ?_
                    refine gM_22 C hd (v := k_9.1 22) rfl dX10_next_364 ?_
                    refine lv_iconst (v := 1) hx hb dX10_next_367 (by decide) ?_
                    refine lv_iadd hx hb dX10_next_368 ?_
                    refine pM_22 C hd dX10_next_369 (fun H locs hd => ?_)
                    exact ret hd h dX10_next_372
                  · replace h := h.2 c_11
                    refine lv_iload_n hx hb dX10_next_309 rfl (lv_at hl 0 rfl) ?_
                    refine lv_bipush (v := 41) hx hb dX10_next_310 (by decide) ?_
                    refine lv_icmp_eq (tgt := 351) hx hb dX10_next_312 (by decide) (fun c_12 => ?_) (fun c_12 => ?_)
                    · replace h := h.1 c_12
                      refine lv_aload_n hx hb dX10_next_351 rfl (lv_at hl 1 rfl) ?_
                      refine lv_iconst (v := 3) hx hb dX10_next_352 (by decide) ?_
                      refine pM_19 C hd dX10_next_353 (fun H locs hd => ?_)
                      refine lv_aload_n hx hb dX10_next_356 rfl (lv_at hl 1 rfl) ?_
                      refine lv_iload_n hx hb dX10_next_357 rfl (lv_at hl 0 rfl) ?_
                      refine lv_i2l (v := r_5.toInt64) hx hb dX10_next_358 rfl ?_
                      refine pM_21 C hd dX10_next_359 (fun H locs hd => ?_)
                      refine lv_aload_n hx hb dX10_next_362 rfl (lv_at hl 1 rfl) ?_
                      refine lv_dup hx hb dX10_next_363 rfl ?_
                      refine gM_22 C hd (v := k_9.1 22) rfl dX10_next_364 ?_
                      refine lv_iconst (v := 1) hx hb dX10_next_367 (by decide) ?_
                      refine lv_iadd hx hb dX10_next_368 ?_
                      refine pM_22 C hd dX10_next_369 (fun H locs hd => ?_)
                      exact ret hd h dX10_next_372
                    · replace h := h.2 c_12
                      refine lv_iload_n hx hb dX10_next_315 rfl (lv_at hl 0 rfl) ?_
                      refine lv_bipush (v := 59) hx hb dX10_next_316 (by decide) ?_
                      refine lv_icmp_eq (tgt := 351) hx hb dX10_next_318 (by decide) (fun c_13 => ?_) (fun c_13 => ?_)
                      · replace h := h.1 c_13
                        refine lv_aload_n hx hb dX10_next_351 rfl (lv_at hl 1 rfl) ?_
                        refine lv_iconst (v := 3) hx hb dX10_next_352 (by decide) ?_
                        refine pM_19 C hd dX10_next_353 (fun H locs hd => ?_)
                        refine lv_aload_n hx hb dX10_next_356 rfl (lv_at hl 1 rfl) ?_
                        refine lv_iload_n hx hb dX10_next_357 rfl (lv_at hl 0 rfl) ?_
                        refine lv_i2l (v := r_5.toInt64) hx hb dX10_next_358 rfl ?_
                        refine pM_21 C hd dX10_next_359 (fun H locs hd => ?_)
                        refine lv_aload_n hx hb dX10_next_362 rfl (lv_at hl 1 rfl) ?_
                        refine lv_dup hx hb dX10_next_363 rfl ?_
                        refine gM_22 C hd (v := k_9.1 22) rfl dX10_next_364 ?_
                        refine lv_iconst (v := 1) hx hb dX10_next_367 (by decide) ?_
                        refine lv_iadd hx hb dX10_next_368 ?_
                        refine pM_22 C hd dX10_next_369 (fun H locs hd => ?_)
                        exact ret hd h dX10_next_372
                      · replace h := h.2 c_13
                        refine lv_iload_n hx hb dX10_next_321 rfl (lv_at hl 0 rfl) ?_
                        refine lv_bipush (v := 43) hx hb dX10_next_322 (by decide) ?_
                        refine lv_icmp_eq (tgt := 351) hx hb dX10_next_324 (by decide) (fun c_14 => ?_) (fun c_14 => ?_)
                        · replace h := h.1 c_14
                          refine lv_aload_n hx hb dX10_next_351 rfl (lv_at hl 1 rfl) ?_
                          refine lv_iconst (v := 3) hx hb dX10_next_352 (by decide) ?_
                          refine pM_19 C hd dX10_next_353 (fun H locs hd => ?_)
                          refine lv_aload_n hx hb dX10_next_356 rfl (lv_at hl 1 rfl) ?_
                          refine lv_iload_n hx hb dX10_next_357 rfl (lv_at hl 0 rfl) ?_
                          refine lv_i2l (v := r_5.toInt64) hx hb dX10_next_358 rfl ?_
                          refine pM_21 C hd dX10_next_359 (fun H locs hd => ?_)
                          refine lv_aload_n hx hb dX10_next_362 rfl (lv_at hl 1 rfl) ?_
                          refine lv_dup hx hb dX10_next_363 rfl ?_
                          refine gM_22 C hd (v := k_9.1 22) rfl dX10_next_364 ?_
                          refine lv_iconst (v := 1) hx hb dX10_next_367 (by decide) ?_
                          refine lv_iadd hx hb dX10_next_368 ?_
                          refine pM_22 C hd dX10_next_369 (fun H locs hd => ?_)
                          exact ret hd h dX10_next_372
                        · replace h := h.2 c_14
                          refine lv_iload_n hx hb dX10_next_327 rfl (lv_at hl 0 rfl) ?_
                          refine lv_bipush (v := 45) hx hb dX10_next_328 (by decide) ?_
                          refine lv_icmp_eq (tgt := 351) hx hb dX10_next_330 (by decide) (fun c_15 => ?_) (fun c_15 => ?_)
                          · replace h := h.1 c_15
                            refine lv_aload_n hx hb dX10_next_351 rfl (lv_at hl 1 rfl) ?_
                            refine lv_iconst (v := 3) hx hb dX10_next_352 (by decide) ?_
                            refine pM_19 C hd dX10_next_353 (fun H locs hd => ?_)
                            refine lv_aload_n hx hb dX10_next_356 rfl (lv_at hl 1 rfl) ?_
                            refine lv_iload_n hx hb dX10_next_357 rfl (lv_at hl 0 rfl) ?_
                            refine lv_i2l (v := r_5.toInt64) hx hb dX10_next_358 rfl ?_
                            refine pM_21 C hd dX10_next_359 (fun H locs hd => ?_)
                            refine lv_aload_n hx hb dX10_next_362 rfl (lv_at hl 1 rfl) ?_
                            refine lv_dup hx hb dX10_next_363 rfl ?_
                            refine gM_22 C hd (v := k_9.1 22) rfl dX10_next_364 ?_
                            refine lv_iconst (v := 1) hx hb dX10_next_367 (by decide) ?_
                            refine lv_iadd hx hb dX10_next_368 ?_
                            refine pM_22 C hd dX10_next_369 (fun H locs hd => ?_)
                            exact ret hd h dX10_next_372
                          · replace h := h.2 c_15
                            refine lv_iload_n hx hb dX10_next_333 rfl (lv_at hl 0 rfl) ?_
                            refine lv_bipush (v := 42) hx hb dX10_next_334 (by decide) ?_
                            refine lv_icmp_eq (tgt := 351) hx hb dX10_next_336 (by decide) (fun c_16 => ?_) (fun c_16 => ?_)
                            · replace h := h.1 c_16
                              refine lv_aload_n hx hb dX10_next_351 rfl (lv_at hl 1 rfl) ?_
                              refine lv_iconst (v := 3) hx hb dX10_next_352 (by decide) ?_
                              refine pM_19 C hd dX10_next_353 (fun H locs hd => ?_)
                              refine lv_aload_n hx hb dX10_next_356 rfl (lv_at hl 1 rfl) ?_
                              refine lv_iload_n hx hb dX10_next_357 rfl (lv_at hl 0 rfl) ?_
                              refine lv_i2l (v := r_5.toInt64) hx hb dX10_next_358 rfl ?_
                              refine pM_21 C hd dX10_next_359 (fun H locs hd => ?_)
                              refine lv_aload_n hx hb dX10_next_362 rfl (lv_at hl 1 rfl) ?_
                              refine lv_dup hx hb dX10_next_363 rfl ?_
                              refine gM_22 C hd (v := k_9.1 22) rfl dX10_next_364 ?_
                              refine lv_iconst (v := 1) hx hb dX10_next_367 (by decide) ?_
                              refine lv_iadd hx hb dX10_next_368 ?_
                              refine pM_22 C hd dX10_next_369 (fun H locs hd => ?_)
                              exact ret hd h dX10_next_372
                            · replace h := h.2 c_16
                              refine lv_iload_n hx hb dX10_next_339 rfl (lv_at hl 0 rfl) ?_
                              refine lv_bipush (v := 60) hx hb dX10_next_340 (by decide) ?_
                              refine lv_icmp_eq (tgt := 351) hx hb dX10_next_342 (by decide) (fun c_17 => ?_) (fun c_17 => ?_)
                              · replace h := h.1 c_17
                                refine lv_aload_n hx hb dX10_next_351 rfl (lv_at hl 1 rfl) ?_
                                refine lv_iconst (v := 3) hx hb dX10_next_352 (by decide) ?_
                                refine pM_19 C hd dX10_next_353 (fun H locs hd => ?_)
                                refine lv_aload_n hx hb dX10_next_356 rfl (lv_at hl 1 rfl) ?_
                                refine lv_iload_n hx hb dX10_next_357 rfl (lv_at hl 0 rfl) ?_
                                refine lv_i2l (v := r_5.toInt64) hx hb dX10_next_358 rfl ?_
                                refine pM_21 C hd dX10_next_359 (fun H locs hd => ?_)
                                refine lv_aload_n hx hb dX10_next_362 rfl (lv_at hl 1 rfl) ?_
                                refine lv_dup hx hb dX10_next_363 rfl ?_
                                refine gM_22 C hd (v := k_9.1 22) rfl dX10_next_364 ?_
                                refine lv_iconst (v := 1) hx hb dX10_next_367 (by decide) ?_
                                refine lv_iadd hx hb dX10_next_368 ?_
                                refine pM_22 C hd dX10_next_369 (fun H locs hd => ?_)
                                exact ret hd h dX10_next_372
                              · replace h := h.2 c_17
                                refine lv_iload_n hx hb dX10_next_345 rfl (lv_at hl 0 rfl) ?_
                                refine lv_bipush (v := 61) hx hb dX10_next_346 (by decide) ?_
                                refine lv_icmp_ne (tgt := 372) hx hb dX10_next_348 (by decide) (fun c_18 => ?_) (fun c_18 => ?_)
                                · replace h := h.1 c_18
                                  exact ret hd h dX10_next_372
                                · replace h := h.2 c_18
                                  refine lv_aload_n hx hb dX10_next_351 rfl (lv_at hl 1 rfl) ?_
                                  refine lv_iconst (v := 3) hx hb dX10_next_352 (by decide) ?_
                                  refine pM_19 C hd dX10_next_353 (fun H locs hd => ?_)
                                  refine lv_aload_n hx hb dX10_next_356 rfl (lv_at hl 1 rfl) ?_
                                  refine lv_iload_n hx hb dX10_next_357 rfl (lv_at hl 0 rfl) ?_
                                  refine lv_i2l (v := r_5.toInt64) hx hb dX10_next_358 rfl ?_
                                  refine pM_21 C hd dX10_next_359 (fun H locs hd => ?_)
                                  refine lv_aload_n hx hb dX10_next_362 rfl (lv_at hl 1 rfl) ?_
                                  refine lv_dup hx hb dX10_next_363 rfl ?_
                                  refine gM_22 C hd (v := k_9.1 22) rfl dX10_next_364 ?_
                                  refine lv_iconst (v := 1) hx hb dX10_next_367 (by decide) ?_
                                  refine lv_iadd hx hb dX10_next_368 ?_
                                  refine pM_22 C hd dX10_next_369 (fun H locs hd => ?_)
                                  exact ret hd h dX10_next_372
                · replace h := h.2 c_10
                  refine lv_aload_n hx hb dX10_next_199 rfl (lv_at hl 1 rfl) ?_
                  refine lv_iconst (v := 2) hx hb dX10_next_200 (by decide) ?_
                  refine pM_19 C hd dX10_next_201 (fun H locs hd => ?_)
                  refine lv_aload_n hx hb dX10_next_204 rfl (lv_at hl 1 rfl) ?_
                  refine lv_lconst (v := 0) hx hb dX10_next_205 (by decide) ?_
                  refine pM_21 C hd dX10_next_206 (fun H locs hd => ?_)
                  refine lv_iconst (v := 0) hx hb dX10_next_209 (by decide) ?_
                  refine lv_istore_n (lv' := [(2, .int (0 : Int32)), (1, .int r_5), (0, .ref o)]) hx hb dX10_next_210 rfl hl (by decide) rfl (fun ls hl => ?_)
                  exact (ih).2.2 (0 : Int32) _ _ _ _ h hd (lv_sub hl [2, 0] rfl)
              · replace h := h.2 c_8
                refine lv_aload_n hx hb dX10_next_95 rfl (lv_at hl 1 rfl) ?_
                refine lv_iconst (v := 1) hx hb dX10_next_96 (by decide) ?_
                refine pM_19 C hd dX10_next_97 (fun H locs hd => ?_)
                refine lv_aload_n hx hb dX10_next_100 rfl (lv_at hl 1 rfl) ?_
                refine lv_lconst (v := 0) hx hb dX10_next_101 (by decide) ?_
                refine pM_21 C hd dX10_next_102 (fun H locs hd => ?_)
                refine lv_iconst (v := 0) hx hb dX10_next_105 (by decide) ?_
                refine lv_istore_n (lv' := [(2, .int (0 : Int32)), (1, .int r_5), (0, .ref o)]) hx hb dX10_next_106 rfl hl (by decide) rfl (fun ls hl => ?_)
                exact (ih).2.1 (0 : Int32) _ _ _ _ h hd (lv_sub hl [2, 0] rfl)
            · replace h := h.2 c_6
              refine lv_aload_n hx hb dX10_next_65 rfl (lv_at hl 1 rfl) ?_
              refine lv_iconst (v := 0) hx hb dX10_next_66 (by decide) ?_
              refine pM_19 C hd dX10_next_67 (fun H locs hd => ?_)
              refine lv_aload_n hx hb dX10_next_70 rfl (lv_at hl 1 rfl) ?_
              refine lv_aload_n hx hb dX10_next_71 rfl (lv_at hl 1 rfl) ?_
              refine gM_18 C hd (v := k_5.1 18) rfl dX10_next_72 ?_
              refine pM_20 C hd dX10_next_75 (fun H locs hd => ?_)
              refine lv_goto (tgt := 372) hx hb dX10_next_78 (by decide) ?_
              exact ret hd h dX10_next_372
          · replace h := h.2 c_4
            refine lv_aload_n hx hb dX10_next_26 rfl (lv_at hl 0 rfl) ?_
            refine lv_dup hx hb dX10_next_27 rfl ?_
            refine gM_22 C hd (v := k_3.1 22) rfl dX10_next_28 ?_
            refine lv_iconst (v := 1) hx hb dX10_next_31 (by decide) ?_
            refine lv_iadd hx hb dX10_next_32 ?_
            refine pM_22 C hd dX10_next_33 (fun H locs hd => ?_)
            refine lv_goto (tgt := 0) hx hb dX10_next_36 (by decide) ?_
            exact (ih).1  _ _ _ _ h hd (lv_sub hl [0] rfl)
      · intro x2 k H locs ls h hd hl
        replace h : (wM_byteAt (k.1 22) k (fun r_19 k_19 => (wM_in r_19.toInt64 (97 : Int64) (122 : Int64) k_19 (fun r_20 k_20 => ((r_20 = 0 → Qp k_20) ∧ (¬ r_20 = 0 → (((8 : Int32) ≤ x2 → wM_next n 2 (x2 + (1 : Int32)) (sI (sL k_20 (-1 : Int64)) 22 ((k_20.1 22) + (1 : Int32))) Qp) ∧ (¬ (8 : Int32) ≤ x2 → (wM_byteAt (k_20.1 22) k_20 (fun r_23 k_23 => wM_next n 2 (x2 + (1 : Int32)) (sI (sL k_23 ((((27 : Int64) * k_20.2.2) + r_23.toInt64) - (96 : Int64))) 22 ((k_23.1 22) + (1 : Int32))) Qp)))))))))) := h
        refine lv_aload_n hx hb dX10_next_107 rfl (lv_at hl 0 rfl) ?_
        refine lv_aload_n hx hb dX10_next_108 rfl (lv_at hl 0 rfl) ?_
        refine gM_22 C hd (v := k.1 22) rfl dX10_next_109 ?_
        refine xv_i C hd kwRX10_X10_byteAt (cM_byteAt _ h) ⟨rfl, rfl⟩ ⟨by decide, by decide⟩ wM_rcv hl.1 rfl rfl (Nat.le_of_ble_eq_true rfl) ⟨Nat.zero_le _, Nat.zero_le _⟩ dX10_next_112 (fun r_19 k_19 H locs h hd => ?_)
        refine lv_i2l (v := r_19.toInt64) hx hb dX10_next_115 rfl ?_
        refine lv_ldc2 (v := (97 : Int64)) hx hb C.2.2.2.1 (C.2.2.2.2.1 _ q_1129) dX10_next_116 ?_
        refine lv_ldc2 (v := (122 : Int64)) hx hb C.2.2.2.1 (C.2.2.2.2.1 _ q_1130) dX10_next_119 ?_
        refine xs_z C hd kwRX10_X10_in (cM_in _ _ _ h) ⟨rfl, rfl⟩ ⟨by decide, by decide⟩ hl.1 rfl rfl (Nat.le_of_ble_eq_true rfl) ⟨Nat.zero_le _, Nat.zero_le _⟩ dX10_next_122 (fun r_20 k_20 H locs hz_20 h hd => ?_)
        refine lv_if_eq (tgt := 182) hx hb dX10_next_125 (by decide) (fun c_21 => ?_) (fun c_21 => ?_)
        · replace h := h.1 c_21
          refine lv_goto (tgt := 372) hx hb dX10_next_182 (by decide) ?_
          exact ret hd h dX10_next_372
        · replace h := h.2 c_21
          refine lv_aload_n hx hb dX10_next_128 rfl (lv_at hl 0 rfl) ?_
          refine lv_iload_n hx hb dX10_next_129 rfl (lv_at hl 1 rfl) ?_
          refine lv_bipush (v := 8) hx hb dX10_next_130 (by decide) ?_
          refine lv_icmp_ge (tgt := 160) hx hb dX10_next_132 (by decide) (fun c_22 => ?_) (fun c_22 => ?_)
          · replace h := h.1 c_22
            refine lv_ldc2 (v := (-1 : Int64)) hx hb C.2.2.2.1 (C.2.2.2.2.1 _ q_1133) dX10_next_160 ?_
            refine pM_21 C hd dX10_next_163 (fun H locs hd => ?_)
            refine lv_iinc (v := (x2 + (1 : Int32))) (lv' := [(2, .int (x2 + (1 : Int32))), (0, .ref o)]) hx hb dX10_next_166 hl (k := 1) rfl rfl (by decide) rfl (fun ls hl => ?_)
            refine lv_aload_n hx hb dX10_next_169 rfl (lv_at hl 1 rfl) ?_
            refine lv_dup hx hb dX10_next_170 rfl ?_
            refine gM_22 C hd (v := k_20.1 22) rfl dX10_next_171 ?_
            refine lv_iconst (v := 1) hx hb dX10_next_174 (by decide) ?_
            refine lv_iadd hx hb dX10_next_175 ?_
            refine pM_22 C hd dX10_next_176 (fun H locs hd => ?_)
            refine lv_goto (tgt := 107) hx hb dX10_next_179 (by decide) ?_
            exact (ih).2.1 (x2 + (1 : Int32)) _ _ _ _ h hd (lv_sub hl [1, 0] rfl)
          · replace h := h.2 c_22
            refine lv_ldc2 (v := (27 : Int64)) hx hb C.2.2.2.1 (C.2.2.2.2.1 _ q_1131) dX10_next_135 ?_
            refine lv_aload_n hx hb dX10_next_138 rfl (lv_at hl 0 rfl) ?_
            refine gM_21 C hd (v := k_20.2.2) rfl dX10_next_139 ?_
            refine lv_lmul hx hb dX10_next_142 ?_
            refine lv_aload_n hx hb dX10_next_143 rfl (lv_at hl 0 rfl) ?_
            refine lv_aload_n hx hb dX10_next_144 rfl (lv_at hl 0 rfl) ?_
            refine gM_22 C hd (v := k_20.1 22) rfl dX10_next_145 ?_
            refine xv_i C hd kwRX10_X10_byteAt (cM_byteAt _ h) ⟨rfl, rfl⟩ ⟨by decide, by decide⟩ wM_rcv hl.1 rfl rfl (Nat.le_of_ble_eq_true rfl) ⟨Nat.zero_le _, Nat.zero_le _⟩ dX10_next_148 (fun r_23 k_23 H locs h hd => ?_)
            refine lv_i2l (v := r_23.toInt64) hx hb dX10_next_151 rfl ?_
            refine lv_ladd hx hb dX10_next_152 ?_
            refine lv_ldc2 (v := (96 : Int64)) hx hb C.2.2.2.1 (C.2.2.2.2.1 _ q_1132) dX10_next_153 ?_
            refine lv_lsub hx hb dX10_next_156 ?_
            refine lv_goto (tgt := 163) hx hb dX10_next_157 (by decide) ?_
            refine pM_21 C hd dX10_next_163 (fun H locs hd => ?_)
            refine lv_iinc (v := (x2 + (1 : Int32))) (lv' := [(2, .int (x2 + (1 : Int32))), (0, .ref o)]) hx hb dX10_next_166 hl (k := 1) rfl rfl (by decide) rfl (fun ls hl => ?_)
            refine lv_aload_n hx hb dX10_next_169 rfl (lv_at hl 1 rfl) ?_
            refine lv_dup hx hb dX10_next_170 rfl ?_
            refine gM_22 C hd (v := k_23.1 22) rfl dX10_next_171 ?_
            refine lv_iconst (v := 1) hx hb dX10_next_174 (by decide) ?_
            refine lv_iadd hx hb dX10_next_175 ?_
            refine pM_22 C hd dX10_next_176 (fun H locs hd => ?_)
            refine lv_goto (tgt := 107) hx hb dX10_next_179 (by decide) ?_
            exact (ih).2.1 (x2 + (1 : Int32)) _ _ _ _ h hd (lv_sub hl [1, 0] rfl)
      · intro x2 k H locs ls h hd hl
        replace h : (wM_byteAt (k.1 22) k (fun r_24 k_24 => (wM_in r_24.toInt64 (48 : Int64) (57 : Int64) k_24 (fun r_25 k_25 => ((r_25 = 0 → ((x2 ≤ (4 : Int32) → Qp (sI k_25 19 (2 : Int32))) ∧ (¬ x2 ≤ (4 : Int32) → Qp (sI k_25 19 (4 : Int32))))) ∧ (¬ r_25 = 0 → (((4 : Int32) ≤ x2 → wM_next n 3 (x2 + (1 : Int32)) (sI (sL k_25 k_25.2.2) 22 ((k_25.1 22) + (1 : Int32))) Qp) ∧ (¬ (4 : Int32) ≤ x2 → (wM_byteAt (k_25.1 22) k_25 (fun r_29 k_29 => wM_next n 3 (x2 + (1 : Int32)) (sI (sL k_29 ((((10 : Int64) * k_25.2.2) + r_29.toInt64) - (48 : Int64))) 22 ((k_29.1 22) + (1 : Int32))) Qp)))))))))) := h
        refine lv_aload_n hx hb dX10_next_211 rfl (lv_at hl 0 rfl) ?_
        refine lv_aload_n hx hb dX10_next_212 rfl (lv_at hl 0 rfl) ?_
        refine gM_22 C hd (v := k.1 22) rfl dX10_next_213 ?_
        refine xv_i C hd kwRX10_X10_byteAt (cM_byteAt _ h) ⟨rfl, rfl⟩ ⟨by decide, by decide⟩ wM_rcv hl.1 rfl rfl (Nat.le_of_ble_eq_true rfl) ⟨Nat.zero_le _, Nat.zero_le _⟩ dX10_next_216 (fun r_24 k_24 H locs h hd => ?_)
        refine lv_i2l (v := r_24.toInt64) hx hb dX10_next_219 rfl ?_
        refine lv_ldc2 (v := (48 : Int64)) hx hb C.2.2.2.1 (C.2.2.2.2.1 _ q_1134) dX10_next_220 ?_
        refine lv_ldc2 (v := (57 : Int64)) hx hb C.2.2.2.1 (C.2.2.2.2.1 _ q_1135) dX10_next_223 ?_
        refine xs_z C hd kwRX10_X10_in (cM_in _ _ _ h) ⟨rfl, rfl⟩ ⟨by decide, by decide⟩ hl.1 rfl rfl (Nat.le_of_ble_eq_true rfl) ⟨Nat.zero_le _, Nat.zero_le _⟩ dX10_next_226 (fun r_25 k_25 H locs hz_25 h hd => ?_)
        refine lv_if_eq (tgt := 286) hx hb dX10_next_229 (by decide) (fun c_26 => ?_) (fun c_26 => ?_)
        · replace h := h.1 c_26
          refine lv_aload_n hx hb dX10_next_286 rfl (lv_at hl 0 rfl) ?_
          refine lv_iload_n hx hb dX10_next_287 rfl (lv_at hl 1 rfl) ?_
          refine lv_iconst (v := 4) hx hb dX10_next_288 (by decide) ?_
          refine lv_icmp_le (tgt := 296) hx hb dX10_next_289 (by decide) (fun c_27 => ?_) (fun c_27 => ?_)
          · replace h := h.1 c_27
            refine lv_iconst (v := 2) hx hb dX10_next_296 (by decide) ?_
            refine pM_19 C hd dX10_next_297 (fun H locs hd => ?_)
            refine lv_goto (tgt := 372) hx hb dX10_next_300 (by decide) ?_
            exact ret hd h dX10_next_372
          · replace h := h.2 c_27
            refine lv_iconst (v := 4) hx hb dX10_next_292 (by decide) ?_
            refine lv_goto (tgt := 297) hx hb dX10_next_293 (by decide) ?_
            refine pM_19 C hd dX10_next_297 (fun H locs hd => ?_)
            refine lv_goto (tgt := 372) hx hb dX10_next_300 (by decide) ?_
            exact ret hd h dX10_next_372
        · replace h := h.2 c_26
          refine lv_aload_n hx hb dX10_next_232 rfl (lv_at hl 0 rfl) ?_
          refine lv_iload_n hx hb dX10_next_233 rfl (lv_at hl 1 rfl) ?_
          refine lv_iconst (v := 4) hx hb dX10_next_234 (by decide) ?_
          refine lv_icmp_ge (tgt := 263) hx hb dX10_next_235 (by decide) (fun c_28 => ?_) (fun c_28 => ?_)
          · replace h := h.1 c_28
            refine lv_aload_n hx hb dX10_next_263 rfl (lv_at hl 0 rfl) ?_
            refine gM_21 C hd (v := k_25.2.2) rfl dX10_next_264 ?_
            refine pM_21 C hd dX10_next_267 (fun H locs hd => ?_)
            refine lv_iinc (v := (x2 + (1 : Int32))) (lv' := [(2, .int (x2 + (1 : Int32))), (0, .ref o)]) hx hb dX10_next_270 hl (k := 1) rfl rfl (by decide) rfl (fun ls hl => ?_)
            refine lv_aload_n hx hb dX10_next_273 rfl (lv_at hl 1 rfl) ?_
            refine lv_dup hx hb dX10_next_274 rfl ?_
            refine gM_22 C hd (v := k_25.1 22) rfl dX10_next_275 ?_
            refine lv_iconst (v := 1) hx hb dX10_next_278 (by decide) ?_
            refine lv_iadd hx hb dX10_next_279 ?_
            refine pM_22 C hd dX10_next_280 (fun H locs hd => ?_)
            refine lv_goto (tgt := 211) hx hb dX10_next_283 (by decide) ?_
            exact (ih).2.2 (x2 + (1 : Int32)) _ _ _ _ h hd (lv_sub hl [1, 0] rfl)
          · replace h := h.2 c_28
            refine lv_ldc2 (v := (10 : Int64)) hx hb C.2.2.2.1 (C.2.2.2.2.1 _ q_1136) dX10_next_238 ?_
            refine lv_aload_n hx hb dX10_next_241 rfl (lv_at hl 0 rfl) ?_
            refine gM_21 C hd (v := k_25.2.2) rfl dX10_next_242 ?_
            refine lv_lmul hx hb dX10_next_245 ?_
            refine lv_aload_n hx hb dX10_next_246 rfl (lv_at hl 0 rfl) ?_
            refine lv_aload_n hx hb dX10_next_247 rfl (lv_at hl 0 rfl) ?_
            refine gM_22 C hd (v := k_25.1 22) rfl dX10_next_248 ?_
            refine xv_i C hd kwRX10_X10_byteAt (cM_byteAt _ h) ⟨rfl, rfl⟩ ⟨by decide, by decide⟩ wM_rcv hl.1 rfl rfl (Nat.le_of_ble_eq_true rfl) ⟨Nat.zero_le _, Nat.zero_le _⟩ dX10_next_251 (fun r_29 k_29 H locs h hd => ?_)
            refine lv_i2l (v := r_29.toInt64) hx hb dX10_next_254 rfl ?_
            refine lv_ladd hx hb dX10_next_255 ?_
            refine lv_ldc2 (v := (48 : Int64)) hx hb C.2.2.2.1 (C.2.2.2.2.1 _ q_1134) dX10_next_256 ?_
            refine lv_lsub hx hb dX10_next_259 ?_
            refine lv_goto (tgt := 267) hx hb dX10_next_260 (by decide) ?_
            refine pM_21 C hd dX10_next_267 (fun H locs hd => ?_)
            refine lv_iinc (v := (x2 + (1 : Int32))) (lv' := [(2, .int (x2 + (1 : Int32))), (0, .ref o)]) hx hb dX10_next_270 hl (k := 1) rfl rfl (by decide) rfl (fun ls hl => ?_)
            refine lv_aload_n hx hb dX10_next_273 rfl (lv_at hl 1 rfl) ?_
            refine lv_dup hx hb dX10_next_274 rfl ?_
            refine gM_22 C hd (v := k_29.1 22) rfl dX10_next_275 ?_
            refine lv_iconst (v := 1) hx hb dX10_next_278 (by decide) ?_
            refine lv_iadd hx hb dX10_next_279 ?_
            refine pM_22 C hd dX10_next_280 (fun H locs hd => ?_)
            refine lv_goto (tgt := 211) hx hb dX10_next_283 (by decide) ?_
            exact (ih).2.2 (x2 + (1 : Int32)) _ _ _ _ h hd (lv_sub hl [1, 0] rfl)
  cases n with
  | zero => exact h.elim
  | succ n =>
    replace h : wM_next n 1 0 k Qp := h
    exact (L n).1  _ _ _ _ h hd (lv_sub hl [0] rfl)
def wM_added (E : Nat → GM → (Int32 → GM → Prop) → Prop)  : Nat → Nat → Int32 → Int32 → GM → (Int32 → GM → Prop) → Prop
  | 0, _, _, _, _, _ => False
  | n + 1, c, x1, s0, k, Q => match c with
    | 0 => (E 1 k (fun r_1 k_1 => wM_added E n 1 r_1 0 k_1 Q))
    | 1 => (wM_isSign (43 : Int32) k (fun r_2 k_2 => ((¬ r_2 = 0 → ((¬ (lg_cmp k_2.2.2 (43 : Int64)) = 0 → wM_added E n 2 x1 (0 : Int32) k_2 Q) ∧ ((lg_cmp k_2.2.2 (43 : Int64)) = 0 → wM_added E n 2 x1 (1 : Int32) k_2 Q))) ∧ (r_2 = 0 → (wM_isSign (45 : Int32) k_2 (fun r_5 k_5 => ((r_5 = 0 → Q x1 k_5) ∧ (¬ r_5 = 0 → ((¬ (lg_cmp k_5.2.2 (43 : Int64)) = 0 → wM_added E n 2 x1 (0 : Int32) k_5 Q) ∧ ((lg_cmp k_5.2.2 (43 : Int64)) = 0 → wM_added E n 2 x1 (1 : Int32) k_5 Q))))))))))
    | _ => (∃ n_8 : Nat, wM_next n_8 0 0 k (fun k_8 => (E 1 k_8 (fun r_9 k_9 => ((s0 = 0 → wM_added E n 1 (x1 - r_9) 0 k_9 Q) ∧ (¬ s0 = 0 → wM_added E n 1 (x1 + r_9) 0 k_9 Q))))))
set_option maxHeartbeats 4000000 in
set_option maxRecDepth 100000 in
theorem cM_added {l : Launch} {D : va_G} {o : Nat} {a : Nat → Nat} {g : Nat → ClassId} (d : Nat) (E : Nat → GM → (Int32 → GM → Prop) → Prop) (hE0 : ∀ (k : GM) (Qp : Int32 → GM → Prop), E 0 k Qp → Ci l D (tyA g) (wM o a g) yX10_one cX10_one 2 (rG d) [.ref o] k Qp) (hE1 : ∀ (k : GM) (Qp : Int32 → GM → Prop), E 1 k Qp → Ci l D (tyA g) (wM o a g) yX10_term cX10_term 2 (rG d) [.ref o] k Qp) (hE2 : ∀ (k : GM) (Qp : Int32 → GM → Prop), E 2 k Qp → Ci l D (tyA g) (wM o a g) yX10_added cX10_added 4 (rG d) [.ref o] k Qp) (hE3 : ∀ (k : GM) (Qp : Int32 → GM → Prop), E 3 k Qp → Ci l D (tyA g) (wM o a g) yX10_not cX10_not 4 (rG d) [.ref o] k Qp) (hE4 : ∀ (k : GM) (Qp : Int32 → GM → Prop), E 4 k Qp → Ci l D (tyA g) (wM o a g) yX10_both cX10_both 3 (rG d) [.ref o] k Qp) (hE5 : ∀ (k : GM) (Qp : Int32 → GM → Prop), E 5 k Qp → Ci l D (tyA g) (wM o a g) yX10_either cX10_either 3 (rG d) [.ref o] k Qp) {k : GM} {Qp : Int32 → GM → Prop} (n : Nat)  (h : wM_added E n 0 0 0 k Qp) : Ci l D (tyA g) (wM o a g) yX10_added cX10_added 4 (rG (d + 1)) [.ref o] k Qp := by
  refine Ci_of (by decide) (Nat.le_of_ble_eq_true rfl) ?_
  intro p e s m args below meth c A Z ls C ret hd hl
  have hx := C.1
  have hb := C.2.1
  have hl : lv_has ls 4 [(0, .ref o)] := hl
  have L : ∀ n : Nat, (∀ (x1 : Int32) (k : GM) (H : Heap) (locs : List Loc) (ls : Array Slot), wM_added E n 1 x1 0 k Qp → Hd D (wM o a g k) A s H locs → lv_has ls 4 [(0, .ref o), (1, .int x1)] → W p l e (rG (d + 1)) s m args below meth c H locs 0 0 Z (F0 m 5 ls [])) ∧ (∀ (x1 : Int32) (s0 : Int32) (k : GM) (H : Heap) (locs : List Loc) (ls : Array Slot), wM_added E n 2 x1 s0 k Qp → Hd D (wM o a g k) A s H locs → lv_has ls 4 [(0, .ref o), (1, .int x1)] → W p l e (rG (d + 1)) s m args below meth c H locs 0 0 Z (F0 m 39 ls [.int s0])) := by
    intro n
    induction n with
    | zero => exact ⟨fun _ _ _ _ _ h => h.elim, fun _ _ _ _ _ _ h => h.elim⟩
    | succ n ih =>
      refine ⟨?_, ?_⟩
      · intro x1 k H locs ls h hd hl
        replace h : (wM_isSign (43 : Int32) k (fun r_2 k_2 => ((¬ r_2 = 0 → ((¬ (lg_cmp k_2.2.2 (43 : Int64)) = 0 → wM_added E n 2 x1 (0 : Int32) k_2 Qp) ∧ ((lg_cmp k_2.2.2 (43 : Int64)) = 0 → wM_added E n 2 x1 (1 : Int32) k_2 Qp))) ∧ (r_2 = 0 → (wM_isSign (45 : Int32) k_2 (fun r_5 k_5 => ((r_5 = 0 → Qp x1 k_5) ∧ (¬ r_5 = 0 → ((¬ (lg_cmp k_5.2.2 (43 : Int64)) = 0 → wM_added E n 2 x1 (0 : Int32) k_5 Qp) ∧ ((lg_cmp k_5.2.2 (43 : Int64)) = 0 → wM_added E n 2 x1 (1 : Int32) k_5 Qp)))))))))) := h
        refine lv_aload_n hx hb dX10_added_5 rfl (lv_at hl 0 rfl) ?_
        refine lv_bipush (v := 43) hx hb dX10_added_6 (by decide) ?_
        refine xv_z C hd kwRX10_X10_isSign (cM_isSign _ h) ⟨rfl, rfl⟩ (rG_lf d (by decide) (by decide)) wM_rcv hl.1 rfl rfl (Nat.le_of_ble_eq_true rfl) ⟨Nat.zero_le _, Nat.zero_le _⟩ dX10_added_8 (fun r_2 k_2 H locs hz_2 h hd => ?_)
        refine lv_if_ne (tgt := 23) hx hb dX10_added_11 (by decide) (fun c_3 => ?_) (fun c_3 => ?_)
        · replace h := h.1 c_3
          refine lv_aload_n hx hb dX10_added_23 rfl (lv_at hl 0 rfl) ?_
          refine gM_21 C hd (v := k_2.2.2) rfl dX10_added_24 ?_
          refine lv_ldc2 (v := (43 : Int64)) hx hb C.2.2.2.1 (C.2.2.2.2.1 _ q_1193) dX10_added_27 ?_
          refine W.lcmp hx hb dX10_added_30 ?_
          refine lv_if_ne (tgt := 38) hx hb dX10_added_31 (by decide) (fun c_4 => ?_) (fun c_4 => ?_)
          · replace h := h.1 c_4
            refine lv_iconst (v := 0) hx hb dX10_added_38 (by decide) ?_
            exact (ih).2 x1 (0 : Int32) _ _ _ _ h hd (lv_sub hl [0, 1] rfl)
          · replace h := h.2 c_4
            refine lv_iconst (v := 1) hx hb dX10_added_34 (by decide) ?_
            refine lv_goto (tgt := 39) hx hb dX10_added_35 (by decide) ?_
            exact (ih).2 x1 (1 : Int32) _ _ _ _ h hd (lv_sub hl [0, 1] rfl)
        · replace h := h.2 c_3
          refine lv_aload_n hx hb dX10_added_14 rfl (lv_at hl 0 rfl) ?_
          refine lv_bipush (v := 45) hx hb dX10_added_15 (by decide) ?_
          refine xv_z C hd kwRX10_X10_isSign (cM_isSign _ h) ⟨rfl, rfl⟩ (rG_lf d (by decide) (by decide)) wM_rcv hl.1 rfl rfl (Nat.le_of_ble_eq_true rfl) ⟨Nat.zero_le _, Nat.zero_le _⟩ dX10_added_17 (fun r_5 k_5 H locs hz_5 h hd => ?_)
          refine lv_if_eq (tgt := 66) hx hb dX10_added_20 (by decide) (fun c_6 => ?_) (fun c_6 => ?_)
          · replace h := h.1 c_6
            refine lv_iload_n hx hb dX10_added_66 rfl (lv_at hl 1 rfl) ?_
            exact ret hd h dX10_added_67
          · replace h := h.2 c_6
            refine lv_aload_n hx hb dX10_added_23 rfl (lv_at hl 0 rfl) ?_
            refine gM_21 C hd (v := k_5.2.2) rfl dX10_added_24 ?_
            refine lv_ldc2 (v := (43 : Int64)) hx hb C.2.2.2.1 (C.2.2.2.2.1 _ q_1193) dX10_added_27 ?_
            refine W.lcmp hx hb dX10_added_30 ?_
            refine lv_if_ne (tgt := 38) hx hb dX10_added_31 (by decide) (fun c_7 => ?_) (fun c_7 => ?_)
            · replace h := h.1 c_7
              refine lv_iconst (v := 0) hx hb dX10_added_38 (by decide) ?_
              exact (ih).2 x1 (0 : Int32) _ _ _ _ h hd (lv_sub hl [0, 1] rfl)
            · replace h := h.2 c_7
              refine lv_iconst (v := 1) hx hb dX10_added_34 (by decide) ?_
              refine lv_goto (tgt := 39) hx hb dX10_added_35 (by decide) ?_
              exact (ih).2 x1 (1 : Int32) _ _ _ _ h hd (lv_sub hl [0, 1] rfl)
      · intro x1 s0 k H locs ls h hd hl
        replace h : (∃ n_8 : Nat, wM_next n_8 0 0 k (fun k_8 => (E 1 k_8 (fun r_9 k_9 => ((s0 = 0 → wM_added E n 1 (x1 - r_9) 0 k_9 Qp) ∧ (¬ s0 = 0 → wM_added E n 1 (x1 + r_9) 0 k_9 Qp)))))) := h
        refine lv_istore_n (lv' := [(2, .int s0), (0, .ref o), (1, .int x1)]) hx hb dX10_added_39 rfl hl (by decide) rfl (fun ls hl => ?_)
        refine lv_aload_n hx hb dX10_added_40 rfl (lv_at hl 1 rfl) ?_
        obtain ⟨n_8, h⟩ := h
        refine xv_v C hd kwRX10_X10_next (cM_next n_8 h) ⟨rfl, rfl⟩ (rG_lf d (by decide) (by decide)) wM_rcv hl.1 rfl rfl (Nat.le_of_ble_eq_true rfl) ⟨Nat.zero_le _, Nat.zero_le _⟩ dX10_added_41 (fun k_8 H locs h hd => ?_)
        refine lv_aload_n hx hb dX10_added_44 rfl (lv_at hl 1 rfl) ?_
        refine xv_i C hd kwRX10_X10_term (hE1 _ _ h) ⟨rfl, rfl⟩ (rG_ok d (by decide)) wM_rcv hl.1 rfl rfl (Nat.le_of_ble_eq_true rfl) ⟨Nat.zero_le _, Nat.zero_le _⟩ dX10_added_45 (fun r_9 k_9 H locs h hd => ?_)
        refine lv_istore_n (lv' := [(3, .int r_9), (2, .int s0), (0, .ref o), (1, .int x1)]) hx hb dX10_added_48 rfl hl (by decide) rfl (fun ls hl => ?_)
        refine lv_iload_n hx hb dX10_added_49 rfl (lv_at hl 1 rfl) ?_
        refine lv_if_eq (tgt := 59) hx hb dX10_added_50 (by decide) (fun c_10 => ?_) (fun c_10 => ?_)
        · replace h := h.1 c_10
          refine lv_iload_n hx hb dX10_added_59 rfl (lv_at hl 3 rfl) ?_
          refine lv_iload_n hx hb dX10_added_60 rfl (lv_at hl 0 rfl) ?_
          refine lv_isub hx hb dX10_added_61 ?_
          refine lv_istore_n (lv' := [(1, .int (x1 - r_9)), (3, .int r_9), (2, .int s0), (0, .ref o)]) hx hb dX10_added_62 rfl hl (by decide) rfl (fun ls hl => ?_)
          refine lv_goto (tgt := 5) hx hb dX10_added_63 (by decide) ?_
          exact (ih).1 (x1 - r_9) _ _ _ _ h hd (lv_sub hl [3, 0] rfl)
        · replace h := h.2 c_10
          refine lv_iload_n hx hb dX10_added_53 rfl (lv_at hl 3 rfl) ?_
          refine lv_iload_n hx hb dX10_added_54 rfl (lv_at hl 0 rfl) ?_
          refine lv_iadd hx hb dX10_added_55 ?_
          refine lv_goto (tgt := 62) hx hb dX10_added_56 (by decide) ?_
          refine lv_istore_n (lv' := [(1, .int (x1 + r_9)), (3, .int r_9), (2, .int s0), (0, .ref o)]) hx hb dX10_added_62 rfl hl (by decide) rfl (fun ls hl => ?_)
          refine lv_goto (tgt := 5) hx hb dX10_added_63 (by decide) ?_
          exact (ih).1 (x1 + r_9) _ _ _ _ h hd (lv_sub hl [3, 0] rfl)
  cases n with
  | zero => exact h.elim
  | succ n =>
    replace h : (E 1 k (fun r_1 k_1 => wM_added E n 1 r_1 0 k_1 Qp)) := h
    refine lv_aload_n hx hb dX10_added_0 rfl (lv_at hl 0 rfl) ?_
    refine xv_i C hd kwRX10_X10_term (hE1 _ _ h) ⟨rfl, rfl⟩ (rG_ok d (by decide)) wM_rcv hl.1 rfl rfl (Nat.le_of_ble_eq_true rfl) ⟨Nat.zero_le _, Nat.zero_le _⟩ dX10_added_1 (fun r_1 k_1 H locs h hd => ?_)
    refine lv_istore_n (lv' := [(1, .int r_1), (0, .ref o)]) hx hb dX10_added_4 rfl hl (by decide) rfl (fun ls hl => ?_)
    exact (L n).1 r_1 _ _ _ _ h hd (lv_sub hl [1, 0] rfl)
def wM_back  : Nat → Nat → Int32 → GM → (Int32 → GM → Prop) → Prop
  | 0, _, _, _, _ => False
  | n + 1, c, x1, k, Q => match c with
    | 0 => ((¬ (k.1 55) = 0 → wM_back n 1 (0 : Int32) (sI (sI (sI (sI k 15 (k.1 57)) 16 (k.1 58)) 14 (k.1 59)) 4 (k.1 60)) Q) ∧ ((k.1 55) = 0 → Q (-3 : Int32) k))
    | 1 => (((k.1 56) ≤ x1 → wM_back n 2 (k.1 56) k Q) ∧ (¬ (k.1 56) ≤ x1 → (vp_in x1 8 ∧ (vp_in x1 8 ∧ (vp_in x1 8 ∧ (vp_in x1 8 ∧ wM_back n 1 (x1 + (1 : Int32)) (sA (sA k 8 (upd (k.2.1 8) x1.toNatClampNeg (k.2.1 51 x1.toNatClampNeg))) 9 (upd (k.2.1 9) x1.toNatClampNeg (k.2.1 52 x1.toNatClampNeg))) Q))))))
    | 2 => (((k.1 10) ≤ x1 → wM_back n 3 (0 : Int32) k Q) ∧ (¬ (k.1 10) ≤ x1 → (vp_in x1 8 ∧ wM_back n 2 (x1 + (1 : Int32)) (sA k 9 (upd (k.2.1 9) x1.toNatClampNeg (0 : Int32))) Q)))
    | 3 => (((4 : Int32) ≤ x1 → wM_back n 4 (0 : Int32) k Q) ∧ (¬ (4 : Int32) ≤ x1 → (vp_in x1 4 ∧ (vp_in x1 4 ∧ wM_back n 3 (x1 + (1 : Int32)) (sA k 35 (upd (k.2.1 35) x1.toNatClampNeg (k.2.1 53 x1.toNatClampNeg))) Q))))
    | _ => (((32 : Int32) ≤ x1 → Q (k.1 15) k) ∧ (¬ (32 : Int32) ≤ x1 → (vp_in x1 32 ∧ (vp_in x1 32 ∧ wM_back n 4 (x1 + (1 : Int32)) (sA k 36 (upd (k.2.1 36) x1.toNatClampNeg (k.2.1 54 x1.toNatClampNeg))) Q))))
set_option maxHeartbeats 4000000 in
set_option maxRecDepth 100000 in
theorem cM_back {l : Launch} {D : va_G} {o : Nat} {a : Nat → Nat} {g : Nat → ClassId} {k : GM} {Qp : Int32 → GM → Prop} (n : Nat)  (h : wM_back n 0 0 k Qp) : Ci l D (tyA g) (wM o a g) yX10_back cX10_back 2 ({ frames := 0, cells := 0, slots := 0, locals := 0 }) [.ref o] k Qp := by
  refine Ci_of (by decide) (Nat.le_of_ble_eq_true rfl) ?_
  intro p e s m args below meth c A Z ls C ret hd hl
  have hx := C.1
  have hb := C.2.1
  have hl : lv_has ls 2 [(0, .ref o)] := hl
  have L : ∀ n : Nat, (∀ (x1 : Int32) (k : GM) (H : Heap) (locs : List Loc) (ls : Array Slot), wM_back n 1 x1 k Qp → Hd D (wM o a g k) A s H locs → lv_has ls 2 [(0, .ref o), (1, .int x1)] → W p l e ({ frames := 0, cells := 0, slots := 0, locals := 0 }) s m args below meth c H locs 0 0 Z (F0 m 44 ls [])) ∧ (∀ (x1 : Int32) (k : GM) (H : Heap) (locs : List Loc) (ls : Array Slot), wM_back n 2 x1 k Qp → Hd D (wM o a g k) A s H locs → lv_has ls 2 [(0, .ref o), (1, .int x1)] → W p l e ({ frames := 0, cells := 0, slots := 0, locals := 0 }) s m args below meth c H locs 0 0 Z (F0 m 87 ls [])) ∧ (∀ (x1 : Int32) (k : GM) (H : Heap) (locs : List Loc) (ls : Array Slot), wM_back n 3 x1 k Qp → Hd D (wM o a g k) A s H locs → lv_has ls 2 [(0, .ref o), (1, .int x1)] → W p l e ({ frames := 0, cells := 0, slots := 0, locals := 0 }) s m args below meth c H locs 0 0 Z (F0 m 110 ls [])) ∧ (∀ (x1 : Int32) (k : GM) (H : Heap) (locs : List Loc) (ls : Array Slot), wM_back n 4 x1 k Qp → Hd D (wM o a g k) A s H locs → lv_has ls 2 [(0, .ref o), (1, .int x1)] → W p l e ({ frames := 0, cells := 0, slots := 0, locals := 0 }) s m args below meth c H locs 0 0 Z (F0 m 135 ls [])) := by
    intro n
    induction n with
    | zero => exact ⟨fun _ _ _ _ _ h => h.elim, fun _ _ _ _ _ h => h.elim, fun _ _ _ _ _ h => h.elim, fun _ _ _ _ _ h => h.elim⟩
    | succ n ih =>
      refine ⟨?_, ?_, ?_, ?_⟩
      · intro x1 k H locs ls h hd hl
        replace h : (((k.1 56) ≤ x1 → wM_back n 2 (k.1 56) k Qp) ∧ (¬ (k.1 56) ≤ x1 → (vp_in x1 8 ∧ (vp_in x1 8 ∧ (vp_in x1 8 ∧ (vp_in x1 8 ∧ wM_back n 1 (x1 + (1 : Int32)) (sA (sA k 8 (upd (k.2.1 8) x1.toNatClampNeg (k.2.1 51 x1.toNatClampNeg))) 9 (upd (k.2.1 9) x1.toNatClampNeg (k.2.1 52 x1.toNatClampNeg))) Qp)))))) := h
        refine lv_iload_n hx hb dX10_back_44 rfl (lv_at hl 1 rfl) ?_
        refine lv_aload_n hx hb dX10_back_45 rfl (lv_at hl 0 rfl) ?_
        refine gM_56 C hd (v := k.1 56) rfl dX10_back_46 ?_
        refine lv_icmp_ge (tgt := 82) hx hb dX10_back_49 (by decide) (fun c_2 => ?_) (fun c_2 => ?_)
        · replace h := h.1 c_2
          refine lv_aload_n hx hb dX10_back_82 rfl (lv_at hl 0 rfl) ?_
          refine gM_56 C hd (v := k.1 56) rfl dX10_back_83 ?_
          refine lv_istore_n (lv' := [(1, .int (k.1 56)), (0, .ref o)]) hx hb dX10_back_86 rfl hl (by decide) rfl (fun ls hl => ?_)
          exact (ih).2.1 (k.1 56) _ _ _ _ h hd (lv_sub hl [1, 0] rfl)
        · replace h := h.2 c_2
          refine lv_aload_n hx hb dX10_back_52 rfl (lv_at hl 0 rfl) ?_
          refine gM_8 C hd dX10_back_53 ?_
          refine lv_iload_n hx hb dX10_back_56 rfl (lv_at hl 1 rfl) ?_
          refine lv_aload_n hx hb dX10_back_57 rfl (lv_at hl 0 rfl) ?_
          refine gM_51 C hd dX10_back_58 ?_
          refine lv_iload_n hx hb dX10_back_61 rfl (lv_at hl 1 rfl) ?_
          refine ldM_51 C hd (v := k.2.1 51 x1.toNatClampNeg) h.1 rfl dX10_back_62 ?_
          replace h := h.2
          refine stM_8 C hd h.1 dX10_back_63 (fun H locs hd => ?_)
          replace h := h.2
          refine lv_aload_n hx hb dX10_back_64 rfl (lv_at hl 0 rfl) ?_
          refine gM_9 C hd dX10_back_65 ?_
          refine lv_iload_n hx hb dX10_back_68 rfl (lv_at hl 1 rfl) ?_
          refine lv_aload_n hx hb dX10_back_69 rfl (lv_at hl 0 rfl) ?_
          refine gM_52 C hd dX10_back_70 ?_
          refine lv_iload_n hx hb dX10_back_73 rfl (lv_at hl 1 rfl) ?_
          refine ldM_52 C hd (v := k.2.1 52 x1.toNatClampNeg) h.1 rfl dX10_back_74 ?_
          replace h := h.2
          refine stM_9 C hd h.1 dX10_back_75 (fun H locs hd => ?_)
          replace h := h.2
          refine lv_iinc (v := (x1 + (1 : Int32))) (lv' := [(1, .int (x1 + (1 : Int32))), (0, .ref o)]) hx hb dX10_back_76 hl (k := 1) rfl rfl (by decide) rfl (fun ls hl => ?_)
          refine lv_goto (tgt := 44) hx hb dX10_back_79 (by decide) ?_
          exact (ih).1 (x1 + (1 : Int32)) _ _ _ _ h hd (lv_sub hl [1, 0] rfl)
      · intro x1 k H locs ls h hd hl
        replace h : (((k.1 10) ≤ x1 → wM_back n 3 (0 : Int32) k Qp) ∧ (¬ (k.1 10) ≤ x1 → (vp_in x1 8 ∧ wM_back n 2 (x1 + (1 : Int32)) (sA k 9 (upd (k.2.1 9) x1.toNatClampNeg (0 : Int32))) Qp))) := h
        refine lv_iload_n hx hb dX10_back_87 rfl (lv_at hl 1 rfl) ?_
        refine lv_aload_n hx hb dX10_back_88 rfl (lv_at hl 0 rfl) ?_
        refine gM_10 C hd (v := k.1 10) rfl dX10_back_89 ?_
        refine lv_icmp_ge (tgt := 108) hx hb dX10_back_92 (by decide) (fun c_3 => ?_) (fun c_3 => ?_)
        · replace h := h.1 c_3
          refine lv_iconst (v := 0) hx hb dX10_back_108 (by decide) ?_
          refine lv_istore_n (lv' := [(1, .int (0 : Int32)), (0, .ref o)]) hx hb dX10_back_109 rfl hl (by decide) rfl (fun ls hl => ?_)
          exact (ih).2.2.1 (0 : Int32) _ _ _ _ h hd (lv_sub hl [1, 0] rfl)
        · replace h := h.2 c_3
          refine lv_aload_n hx hb dX10_back_95 rfl (lv_at hl 0 rfl) ?_
          refine gM_9 C hd dX10_back_96 ?_
          refine lv_iload_n hx hb dX10_back_99 rfl (lv_at hl 1 rfl) ?_
          refine lv_iconst (v := 0) hx hb dX10_back_100 (by decide) ?_
          refine stM_9 C hd h.1 dX10_back_101 (fun H locs hd => ?_)
          replace h := h.2
          refine lv_iinc (v := (x1 + (1 : Int32))) (lv' := [(1, .int (x1 + (1 : Int32))), (0, .ref o)]) hx hb dX10_back_102 hl (k := 1) rfl rfl (by decide) rfl (fun ls hl => ?_)
          refine lv_goto (tgt := 87) hx hb dX10_back_105 (by decide) ?_
          exact (ih).2.1 (x1 + (1 : Int32)) _ _ _ _ h hd (lv_sub hl [1, 0] rfl)
      · intro x1 k H locs ls h hd hl
        replace h : (((4 : Int32) ≤ x1 → wM_back n 4 (0 : Int32) k Qp) ∧ (¬ (4 : Int32) ≤ x1 → (vp_in x1 4 ∧ (vp_in x1 4 ∧ wM_back n 3 (x1 + (1 : Int32)) (sA k 35 (upd (k.2.1 35) x1.toNatClampNeg (k.2.1 53 x1.toNatClampNeg))) Qp)))) := h
        refine lv_iload_n hx hb dX10_back_110 rfl (lv_at hl 1 rfl) ?_
        refine lv_iconst (v := 4) hx hb dX10_back_111 (by decide) ?_
        refine lv_icmp_ge (tgt := 133) hx hb dX10_back_112 (by decide) (fun c_4 => ?_) (fun c_4 => ?_)
        · replace h := h.1 c_4
          refine lv_iconst (v := 0) hx hb dX10_back_133 (by decide) ?_
          refine lv_istore_n (lv' := [(1, .int (0 : Int32)), (0, .ref o)]) hx hb dX10_back_134 rfl hl (by decide) rfl (fun ls hl => ?_)
          exact (ih).2.2.2 (0 : Int32) _ _ _ _ h hd (lv_sub hl [1, 0] rfl)
        · replace h := h.2 c_4
          refine lv_aload_n hx hb dX10_back_115 rfl (lv_at hl 0 rfl) ?_
          refine gM_35 C hd dX10_back_116 ?_
          refine lv_iload_n hx hb dX10_back_119 rfl (lv_at hl 1 rfl) ?_
          refine lv_aload_n hx hb dX10_back_120 rfl (lv_at hl 0 rfl) ?_
          refine gM_53 C hd dX10_back_121 ?_
          refine lv_iload_n hx hb dX10_back_124 rfl (lv_at hl 1 rfl) ?_
          refine ldM_53 C hd (v := k.2.1 53 x1.toNatClampNeg) h.1 rfl dX10_back_125 ?_
          replace h := h.2
          refine stM_35 C hd h.1 dX10_back_126 (fun H locs hd => ?_)
          replace h := h.2
          refine lv_iinc (v := (x1 + (1 : Int32))) (lv' := [(1, .int (x1 + (1 : Int32))), (0, .ref o)]) hx hb dX10_back_127 hl (k := 1) rfl rfl (by decide) rfl (fun ls hl => ?_)
          refine lv_goto (tgt := 110) hx hb dX10_back_130 (by decide) ?_
          exact (ih).2.2.1 (x1 + (1 : Int32)) _ _ _ _ h hd (lv_sub hl [1, 0] rfl)
      · intro x1 k H locs ls h hd hl
        replace h : (((32 : Int32) ≤ x1 → Qp (k.1 15) k) ∧ (¬ (32 : Int32) ≤ x1 → (vp_in x1 32 ∧ (vp_in x1 32 ∧ wM_back n 4 (x1 + (1 : Int32)) (sA k 36 (upd (k.2.1 36) x1.toNatClampNeg (k.2.1 54 x1.toNatClampNeg))) Qp)))) := h
        refine lv_iload_n hx hb dX10_back_135 rfl (lv_at hl 1 rfl) ?_
        refine lv_bipush (v := 32) hx hb dX10_back_136 (by decide) ?_
        refine lv_icmp_ge (tgt := 159) hx hb dX10_back_138 (by decide) (fun c_5 => ?_) (fun c_5 => ?_)
        · replace h := h.1 c_5
          refine lv_aload_n hx hb dX10_back_159 rfl (lv_at hl 0 rfl) ?_
          refine gM_15 C hd (v := k.1 15) rfl dX10_back_160 ?_
          exact ret hd h dX10_back_163
        · replace h := h.2 c_5
          refine lv_aload_n hx hb dX10_back_141 rfl (lv_at hl 0 rfl) ?_
          refine gM_36 C hd dX10_back_142 ?_
          refine lv_iload_n hx hb dX10_back_145 rfl (lv_at hl 1 rfl) ?_
          refine lv_aload_n hx hb dX10_back_146 rfl (lv_at hl 0 rfl) ?_
          refine gM_54 C hd dX10_back_147 ?_
          refine lv_iload_n hx hb dX10_back_150 rfl (lv_at hl 1 rfl) ?_
          refine ldM_54 C hd (v := k.2.1 54 x1.toNatClampNeg) h.1 rfl dX10_back_151 ?_
          replace h := h.2
          refine stM_36 C hd h.1 dX10_back_152 (fun H locs hd => ?_)
          replace h := h.2
          refine lv_iinc (v := (x1 + (1 : Int32))) (lv' := [(1, .int (x1 + (1 : Int32))), (0, .ref o)]) hx hb dX10_back_153 hl (k := 1) rfl rfl (by decide) rfl (fun ls hl => ?_)
          refine lv_goto (tgt := 135) hx hb dX10_back_156 (by decide) ?_
          exact (ih).2.2.2 (x1 + (1 : Int32)) _ _ _ _ h hd (lv_sub hl [1, 0] rfl)
  cases n with
  | zero => exact h.elim
  | succ n =>
    replace h : ((¬ (k.1 55) = 0 → wM_back n 1 (0 : Int32) (sI (sI (sI (sI k 15 (k.1 57)) 16 (k.1 58)) 14 (k.1 59)) 4 (k.1 60)) Qp) ∧ ((k.1 55) = 0 → Qp (-3 : Int32) k)) := h
    refine lv_aload_n hx hb dX10_back_0 rfl (lv_at hl 0 rfl) ?_
    refine gM_55 C hd (v := k.1 55) rfl dX10_back_1 ?_
    refine lv_if_ne (tgt := 10) hx hb dX10_back_4 (by decide) (fun c_1 => ?_) (fun c_1 => ?_)
    · replace h := h.1 c_1
      refine lv_aload_n hx hb dX10_back_10 rfl (lv_at hl 0 rfl) ?_
      refine lv_aload_n hx hb dX10_back_11 rfl (lv_at hl 0 rfl) ?_
      refine gM_57 C hd (v := k.1 57) rfl dX10_back_12 ?_
      refine pM_15 C hd dX10_back_15 (fun H locs hd => ?_)
      refine lv_aload_n hx hb dX10_back_18 rfl (lv_at hl 0 rfl) ?_
      refine lv_aload_n hx hb dX10_back_19 rfl (lv_at hl 0 rfl) ?_
      refine gM_58 C hd (v := k.1 58) rfl dX10_back_20 ?_
      refine pM_16 C hd dX10_back_23 (fun H locs hd => ?_)
      refine lv_aload_n hx hb dX10_back_26 rfl (lv_at hl 0 rfl) ?_
      refine lv_aload_n hx hb dX10_back_27 rfl (lv_at hl 0 rfl) ?_
      refine gM_59 C hd (v := k.1 59) rfl dX10_back_28 ?_
      refine pM_14 C hd dX10_back_31 (fun H locs hd => ?_)
      refine lv_aload_n hx hb dX10_back_34 rfl (lv_at hl 0 rfl) ?_
      refine lv_aload_n hx hb dX10_back_35 rfl (lv_at hl 0 rfl) ?_
      refine gM_60 C hd (v := k.1 60) rfl dX10_back_36 ?_
      refine pM_4 C hd dX10_back_39 (fun H locs hd => ?_)
      refine lv_iconst (v := 0) hx hb dX10_back_42 (by decide) ?_
      refine lv_istore_n (lv' := [(1, .int (0 : Int32)), (0, .ref o)]) hx hb dX10_back_43 rfl hl (by decide) rfl (fun ls hl => ?_)
      exact (L n).1 (0 : Int32) _ _ _ _ h hd (lv_sub hl [1, 0] rfl)
    · replace h := h.2 c_1
      refine lv_bipush (v := -3) hx hb dX10_back_7 (by decide) ?_
      exact ret hd h dX10_back_9
