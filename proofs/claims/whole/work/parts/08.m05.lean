def wM_days  : Nat → Nat → Int32 → Int32 → Int32 → GM → (Int32 → GM → Prop) → Prop
  | 0, _, _, _, _, _, _ => False
  | n + 1, c, x1, x2, x3, k, Q => match c with
    | 0 => (wM_isPlan x1 k (fun r_1 k_1 => ((r_1 = 0 → Q (-2 : Int32) k_1) ∧ (¬ r_1 = 0 → (wM_in x2.toInt64 (1 : Int64) (50 : Int64) k_1 (fun r_3 k_3 => ((¬ r_3 = 0 → ((((k_3.1 15) + x2) ≤ (400 : Int32) → wM_days n 1 x1 x2 (0 : Int32) k_3 Q) ∧ (¬ ((k_3.1 15) + x2) ≤ (400 : Int32) → Q (-4 : Int32) k_3))) ∧ (r_3 = 0 → Q (-2 : Int32) k_3))))))))
    | _ => ((x2 ≤ x3 → Q (k.1 15) k) ∧ (¬ x2 ≤ x3 → (∃ n_7 : Nat, wM_goesBy n_7 0 x1 (1 : Int32) 0 k (fun k_7 => wM_days n 1 x1 x2 (x3 + (1 : Int32)) k_7 Q))))
set_option maxHeartbeats 4000000 in
set_option maxRecDepth 100000 in
theorem cM_days {l : Launch} {D : va_G} {o : Nat} {a : Nat → Nat} {g : Nat → ClassId} {k : GM} {Qp : Int32 → GM → Prop} (n : Nat) (x1 : Int32) (x2 : Int32) (h : wM_days n 0 x1 x2 0 k Qp) : Ci l D (tyA g) (wM o a g) yX10_days cX10_days 4 ({ frames := 62, cells := 0, slots := 0, locals := 2301 }) [.ref o, .int x1, .int x2] k Qp := by
  refine Ci_of (by decide) (Nat.le_of_ble_eq_true rfl) ?_
  intro p e s m args below meth c A Z ls C ret hd hl
  have hx := C.1
  have hb := C.2.1
  have hl : lv_has ls 4 [(0, .ref o), (1, .int x1), (2, .int x2)] := hl
  have L : ∀ n : Nat, (∀ (x1 : Int32) (x2 : Int32) (x3 : Int32) (k : GM) (H : Heap) (locs : List Loc) (ls : Array Slot), wM_days n 1 x1 x2 x3 k Qp → Hd D (wM o a g k) A s H locs → lv_has ls 4 [(0, .ref o), (1, .int x1), (2, .int x2), (3, .int x3)] → W p l e ({ frames := 62, cells := 0, slots := 0, locals := 2301 }) s m args below meth c H locs 0 0 Z (F0 m 40 ls [])) := by
    intro n
    induction n with
    | zero => exact fun _ _ _ _ _ _ _ h => h.elim
    | succ n ih =>
      intro x1 x2 x3 k H locs ls h hd hl
      replace h : ((x2 ≤ x3 → Qp (k.1 15) k) ∧ (¬ x2 ≤ x3 → (∃ n_7 : Nat, wM_goesBy n_7 0 x1 (1 : Int32) 0 k (fun k_7 => wM_days n 1 x1 x2 (x3 + (1 : Int32)) k_7 Qp)))) := h
      refine lv_iload_n hx hb dX10_days_40 rfl (lv_at hl 3 rfl) ?_
      refine lv_iload_n hx hb dX10_days_41 rfl (lv_at hl 2 rfl) ?_
      refine lv_icmp_ge (tgt := 57) hx hb dX10_days_42 (by decide) (fun c_6 => ?_) (fun c_6 => ?_)
      · replace h := h.1 c_6
        refine lv_aload_n hx hb dX10_days_57 rfl (lv_at hl 0 rfl) ?_
        refine gM_15 C hd (v := k.1 15) rfl dX10_days_58 ?_
        exact ret hd h dX10_days_61
      · replace h := h.2 c_6
        refine lv_aload_n hx hb dX10_days_45 rfl (lv_at hl 0 rfl) ?_
        refine lv_iload_n hx hb dX10_days_46 rfl (lv_at hl 1 rfl) ?_
        refine lv_iconst (v := 1) hx hb dX10_days_47 (by decide) ?_
        obtain ⟨n_7, h⟩ := h
        refine xv_v C hd kwRX10_X10_goesBy (cM_goesBy n_7 _ _ h) ⟨rfl, rfl⟩ ⟨by decide, by decide⟩ wM_rcv hl.1 rfl rfl (Nat.le_of_ble_eq_true rfl) ⟨Nat.zero_le _, Nat.zero_le _⟩ dX10_days_48 (fun k_7 H locs h hd => ?_)
        refine lv_iinc (v := (x3 + (1 : Int32))) (lv' := [(3, .int (x3 + (1 : Int32))), (0, .ref o), (1, .int x1), (2, .int x2)]) hx hb dX10_days_51 hl (k := 3) rfl rfl (by decide) rfl (fun ls hl => ?_)
        refine lv_goto (tgt := 40) hx hb dX10_days_54 (by decide) ?_
        exact ih x1 x2 (x3 + (1 : Int32)) _ _ _ _ h hd (lv_sub hl [1, 2, 3, 0] rfl)
  cases n with
  | zero => exact h.elim
  | succ n =>
    replace h : (wM_isPlan x1 k (fun r_1 k_1 => ((r_1 = 0 → Qp (-2 : Int32) k_1) ∧ (¬ r_1 = 0 → (wM_in x2.toInt64 (1 : Int64) (50 : Int64) k_1 (fun r_3 k_3 => ((¬ r_3 = 0 → ((((k_3.1 15) + x2) ≤ (400 : Int32) → wM_days n 1 x1 x2 (0 : Int32) k_3 Qp) ∧ (¬ ((k_3.1 15) + x2) ≤ (400 : Int32) → Qp (-4 : Int32) k_3))) ∧ (r_3 = 0 → Qp (-2 : Int32) k_3)))))))) := h
    refine lv_aload_n hx hb dX10_days_0 rfl (lv_at hl 0 rfl) ?_
    refine lv_iload_n hx hb dX10_days_1 rfl (lv_at hl 1 rfl) ?_
    refine xv_z C hd kwRX10_X10_isPlan (cM_isPlan _ h) ⟨rfl, rfl⟩ ⟨by decide, by decide⟩ wM_rcv hl.1 rfl rfl (Nat.le_of_ble_eq_true rfl) ⟨Nat.zero_le _, Nat.zero_le _⟩ dX10_days_2 (fun r_1 k_1 H locs hz_1 h hd => ?_)
    refine lv_if_eq (tgt := 20) hx hb dX10_days_5 (by decide) (fun c_2 => ?_) (fun c_2 => ?_)
    · replace h := h.1 c_2
      refine lv_bipush (v := -2) hx hb dX10_days_20 (by decide) ?_
      exact ret hd h dX10_days_22
    · replace h := h.2 c_2
      refine lv_iload_n hx hb dX10_days_8 rfl (lv_at hl 2 rfl) ?_
      refine lv_i2l (v := x2.toInt64) hx hb dX10_days_9 rfl ?_
      refine lv_lconst (v := 1) hx hb dX10_days_10 (by decide) ?_
      refine lv_ldc2 (v := (50 : Int64)) hx hb C.2.2.2.1 (C.2.2.2.2.1 _ q_1286) dX10_days_11 ?_
      refine xs_z C hd kwRX10_X10_in (cM_in _ _ _ h) ⟨rfl, rfl⟩ ⟨by decide, by decide⟩ hl.1 rfl rfl (Nat.le_of_ble_eq_true rfl) ⟨Nat.zero_le _, Nat.zero_le _⟩ dX10_days_14 (fun r_3 k_3 H locs hz_3 h hd => ?_)
      refine lv_if_ne (tgt := 23) hx hb dX10_days_17 (by decide) (fun c_4 => ?_) (fun c_4 => ?_)
      · replace h := h.1 c_4
        refine lv_aload_n hx hb dX10_days_23 rfl (lv_at hl 0 rfl) ?_
        refine gM_15 C hd (v := k_3.1 15) rfl dX10_days_24 ?_
        refine lv_iload_n hx hb dX10_days_27 rfl (lv_at hl 2 rfl) ?_
        refine lv_iadd hx hb dX10_days_28 ?_
        refine lv_sipush (v := 400) hx hb dX10_days_29 (by decide) ?_
        refine lv_icmp_le (tgt := 38) hx hb dX10_days_32 (by decide) (fun c_5 => ?_) (fun c_5 => ?_)
        · replace h := h.1 c_5
          refine lv_iconst (v := 0) hx hb dX10_days_38 (by decide) ?_
          refine lv_istore_n (lv' := [(3, .int (0 : Int32)), (0, .ref o), (1, .int x1), (2, .int x2)]) hx hb dX10_days_39 rfl hl (by decide) rfl (fun ls hl => ?_)
          exact L n x1 x2 (0 : Int32) _ _ _ _ h hd (lv_sub hl [1, 2, 3, 0] rfl)
        · replace h := h.2 c_5
          refine lv_bipush (v := -4) hx hb dX10_days_35 (by decide) ?_
          exact ret hd h dX10_days_37
      · replace h := h.2 c_4
        refine lv_bipush (v := -2) hx hb dX10_days_20 (by decide) ?_
        exact ret hd h dX10_days_22
def wM_endOf (x0 : Int32) (k : GM) (Q : Int32 → GM → Prop) : Prop := ((¬ x0 = (45 : Int32) → ((¬ x0 = (43 : Int32) → ((¬ x0 = (33 : Int32) → ((¬ x0 = (63 : Int32) → Q (-1 : Int32) k) ∧ (x0 = (63 : Int32) → Q (3 : Int32) k))) ∧ (x0 = (33 : Int32) → Q (2 : Int32) k))) ∧ (x0 = (43 : Int32) → Q (1 : Int32) k))) ∧ (x0 = (45 : Int32) → Q (0 : Int32) k))
set_option maxHeartbeats 4000000 in
set_option maxRecDepth 100000 in
theorem cM_endOf {l : Launch} {D : va_G} {o : Nat} {a : Nat → Nat} {g : Nat → ClassId} {k : GM} {Qp : Int32 → GM → Prop} (x0 : Int32) (h : wM_endOf x0 k Qp) : Ci l D (tyA g) (wM o a g) yX10_endOf cX10_endOf 1 ({ frames := 0, cells := 0, slots := 0, locals := 0 }) [.int x0] k Qp := by
  refine Ci_of (by decide) (Nat.le_of_ble_eq_true rfl) ?_
  intro p e s m args below meth c A Z ls C ret hd hl
  have hx := C.1
  have hb := C.2.1
  have hl : lv_has ls 1 [(0, .int x0)] := hl
  replace h : ((¬ x0 = (45 : Int32) → ((¬ x0 = (43 : Int32) → ((¬ x0 = (33 : Int32) → ((¬ x0 = (63 : Int32) → Qp (-1 : Int32) k) ∧ (x0 = (63 : Int32) → Qp (3 : Int32) k))) ∧ (x0 = (33 : Int32) → Qp (2 : Int32) k))) ∧ (x0 = (43 : Int32) → Qp (1 : Int32) k))) ∧ (x0 = (45 : Int32) → Qp (0 : Int32) k)) := h
  refine lv_iload_n hx hb dX10_endOf_0 rfl (lv_at hl 0 rfl) ?_
  refine lv_bipush (v := 45) hx hb dX10_endOf_1 (by decide) ?_
  refine lv_icmp_ne (tgt := 10) hx hb dX10_endOf_3 (by decide) (fun c_1 => ?_) (fun c_1 => ?_)
  · replace h := h.1 c_1
    refine lv_iload_n hx hb dX10_endOf_10 rfl (lv_at hl 0 rfl) ?_
    refine lv_bipush (v := 43) hx hb dX10_endOf_11 (by decide) ?_
    refine lv_icmp_ne (tgt := 20) hx hb dX10_endOf_13 (by decide) (fun c_2 => ?_) (fun c_2 => ?_)
    · replace h := h.1 c_2
      refine lv_iload_n hx hb dX10_endOf_20 rfl (lv_at hl 0 rfl) ?_
      refine lv_bipush (v := 33) hx hb dX10_endOf_21 (by decide) ?_
      refine lv_icmp_ne (tgt := 30) hx hb dX10_endOf_23 (by decide) (fun c_3 => ?_) (fun c_3 => ?_)
      · replace h := h.1 c_3
        refine lv_iload_n hx hb dX10_endOf_30 rfl (lv_at hl 0 rfl) ?_
        refine lv_bipush (v := 63) hx hb dX10_endOf_31 (by decide) ?_
        refine lv_icmp_ne (tgt := 40) hx hb dX10_endOf_33 (by decide) (fun c_4 => ?_) (fun c_4 => ?_)
        · replace h := h.1 c_4
          refine lv_iconst (v := -1) hx hb dX10_endOf_40 (by decide) ?_
          exact ret hd h dX10_endOf_41
        · replace h := h.2 c_4
          refine lv_iconst (v := 3) hx hb dX10_endOf_36 (by decide) ?_
          refine lv_goto (tgt := 41) hx hb dX10_endOf_37 (by decide) ?_
          exact ret hd h dX10_endOf_41
      · replace h := h.2 c_3
        refine lv_iconst (v := 2) hx hb dX10_endOf_26 (by decide) ?_
        refine lv_goto (tgt := 41) hx hb dX10_endOf_27 (by decide) ?_
        exact ret hd h dX10_endOf_41
    · replace h := h.2 c_2
      refine lv_iconst (v := 1) hx hb dX10_endOf_16 (by decide) ?_
      refine lv_goto (tgt := 41) hx hb dX10_endOf_17 (by decide) ?_
      exact ret hd h dX10_endOf_41
  · replace h := h.2 c_1
    refine lv_iconst (v := 0) hx hb dX10_endOf_6 (by decide) ?_
    refine lv_goto (tgt := 41) hx hb dX10_endOf_7 (by decide) ?_
    exact ret hd h dX10_endOf_41
def wM_feed  : Nat → Nat → Int32 → Int64 → Int32 → GM → (Int32 → GM → Prop) → Prop
  | 0, _, _, _, _, _, _ => False
  | n + 1, c, x1, x2l, x4, k, Q => match c with
    | 0 => (wM_in x1.toInt64 (1 : Int64) (8 : Int64) k (fun r_1 k_1 => ((¬ r_1 = 0 → ((((k_1.1 6) + x1) ≤ (160 : Int32) → wM_feed n 1 x1 x2l (0 : Int32) k_1 Q) ∧ (¬ ((k_1.1 6) + x1) ≤ (160 : Int32) → Q (-4 : Int32) k_1))) ∧ (r_1 = 0 → Q (-2 : Int32) k_1))))
    | _ => ((x1 ≤ x4 → Q (k.1 6) k) ∧ (¬ x1 ≤ x4 → (vp_in (k.1 6) 160 ∧ wM_feed n 1 x1 x2l (x4 + (1 : Int32)) (sI (sA k 5 (upd (k.2.1 5) (k.1 6).toNatClampNeg (((x2l >>> (((8 : Int32) * x4).toInt64 &&& 63)) &&& (255 : Int64)).toInt32))) 6 ((k.1 6) + (1 : Int32))) Q)))
set_option maxHeartbeats 4000000 in
set_option maxRecDepth 100000 in
theorem cM_feed {l : Launch} {D : va_G} {o : Nat} {a : Nat → Nat} {g : Nat → ClassId} {k : GM} {Qp : Int32 → GM → Prop} (n : Nat) (x1 : Int32) (x2l : Int64) (h : wM_feed n 0 x1 x2l 0 k Qp) : Ci l D (tyA g) (wM o a g) yX10_feed cX10_feed 5 ({ frames := 1, cells := 0, slots := 0, locals := 25 }) [.ref o, .int x1, .long x2l] k Qp := by
  refine Ci_of (by decide) (Nat.le_of_ble_eq_true rfl) ?_
  intro p e s m args below meth c A Z ls C ret hd hl
  have hx := C.1
  have hb := C.2.1
  have hl : lv_has ls 5 [(0, .ref o), (1, .int x1), (2, .long x2l)] := hl
  have L : ∀ n : Nat, (∀ (x1 : Int32) (x2l : Int64) (x4 : Int32) (k : GM) (H : Heap) (locs : List Loc) (ls : Array Slot), wM_feed n 1 x1 x2l x4 k Qp → Hd D (wM o a g k) A s H locs → lv_has ls 5 [(0, .ref o), (1, .int x1), (2, .long x2l), (4, .int x4)] → W p l e ({ frames := 1, cells := 0, slots := 0, locals := 25 }) s m args below meth c H locs 0 0 Z (F0 m 33 ls [])) := by
    intro n
    induction n with
    | zero => exact fun _ _ _ _ _ _ _ h => h.elim
    | succ n ih =>
      intro x1 x2l x4 k H locs ls h hd hl
      replace h : ((x1 ≤ x4 → Qp (k.1 6) k) ∧ (¬ x1 ≤ x4 → (vp_in (k.1 6) 160 ∧ wM_feed n 1 x1 x2l (x4 + (1 : Int32)) (sI (sA k 5 (upd (k.2.1 5) (k.1 6).toNatClampNeg (((x2l >>> (((8 : Int32) * x4).toInt64 &&& 63)) &&& (255 : Int64)).toInt32))) 6 ((k.1 6) + (1 : Int32))) Qp))) := h
      refine lv_iload hx hb dX10_feed_33 (lv_at hl 3 rfl) ?_
      refine lv_iload_n hx hb dX10_feed_35 rfl (lv_at hl 1 rfl) ?_
      refine lv_icmp_ge (tgt := 76) hx hb dX10_feed_36 (by decide) (fun c_4 => ?_) (fun c_4 => ?_)
      · replace h := h.1 c_4
        refine lv_aload_n hx hb dX10_feed_76 rfl (lv_at hl 0 rfl) ?_
        refine gM_6 C hd (v := k.1 6) rfl dX10_feed_77 ?_
        exact ret hd h dX10_feed_80
      · replace h := h.2 c_4
        refine lv_aload_n hx hb dX10_feed_39 rfl (lv_at hl 0 rfl) ?_
        refine gM_5 C hd dX10_feed_40 ?_
        refine lv_aload_n hx hb dX10_feed_43 rfl (lv_at hl 0 rfl) ?_
        refine gM_6 C hd (v := k.1 6) rfl dX10_feed_44 ?_
        refine lv_lload_n hx hb dX10_feed_47 rfl (lv_at hl 2 rfl) ?_
        refine lv_bipush (v := 8) hx hb dX10_feed_48 (by decide) ?_
        refine lv_iload hx hb dX10_feed_50 (lv_at hl 3 rfl) ?_
        refine lv_imul hx hb dX10_feed_52 ?_
        refine lv_lshr hx hb dX10_feed_53 rfl ?_
        refine lv_ldc2 (v := (255 : Int64)) hx hb C.2.2.2.1 (C.2.2.2.2.1 _ q_892) dX10_feed_54 ?_
        refine lv_land hx hb dX10_feed_57 ?_
        refine lv_l2i (v := ((x2l >>> (((8 : Int32) * x4).toInt64 &&& 63)) &&& (255 : Int64)).toInt32) hx hb dX10_feed_58 rfl ?_
        refine stM_5 C hd h.1 dX10_feed_59 (fun H locs hd => ?_)
        replace h := h.2
        refine lv_aload_n hx hb dX10_feed_60 rfl (lv_at hl 0 rfl) ?_
        refine lv_dup hx hb dX10_feed_61 rfl ?_
        refine gM_6 C hd (v := k.1 6) rfl dX10_feed_62 ?_
        refine lv_iconst (v := 1) hx hb dX10_feed_65 (by decide) ?_
        refine lv_iadd hx hb dX10_feed_66 ?_
        refine pM_6 C hd dX10_feed_67 (fun H locs hd => ?_)
        refine lv_iinc (v := (x4 + (1 : Int32))) (lv' := [(4, .int (x4 + (1 : Int32))), (0, .ref o), (1, .int x1), (2, .long x2l)]) hx hb dX10_feed_70 hl (k := 3) rfl rfl (by decide) rfl (fun ls hl => ?_)
        refine lv_goto (tgt := 33) hx hb dX10_feed_73 (by decide) ?_
        exact ih x1 x2l (x4 + (1 : Int32)) _ _ _ _ h hd (lv_sub hl [1, 2, 3, 0] rfl)
  cases n with
  | zero => exact h.elim
  | succ n =>
    replace h : (wM_in x1.toInt64 (1 : Int64) (8 : Int64) k (fun r_1 k_1 => ((¬ r_1 = 0 → ((((k_1.1 6) + x1) ≤ (160 : Int32) → wM_feed n 1 x1 x2l (0 : Int32) k_1 Qp) ∧ (¬ ((k_1.1 6) + x1) ≤ (160 : Int32) → Qp (-4 : Int32) k_1))) ∧ (r_1 = 0 → Qp (-2 : Int32) k_1)))) := h
    refine lv_iload_n hx hb dX10_feed_0 rfl (lv_at hl 1 rfl) ?_
    refine lv_i2l (v := x1.toInt64) hx hb dX10_feed_1 rfl ?_
    refine lv_lconst (v := 1) hx hb dX10_feed_2 (by decide) ?_
    refine lv_ldc2 (v := (8 : Int64)) hx hb C.2.2.2.1 (C.2.2.2.2.1 _ q_1226) dX10_feed_3 ?_
    refine xs_z C hd kwRX10_X10_in (cM_in _ _ _ h) ⟨rfl, rfl⟩ ⟨by decide, by decide⟩ hl.1 rfl rfl (Nat.le_of_ble_eq_true rfl) ⟨Nat.zero_le _, Nat.zero_le _⟩ dX10_feed_6 (fun r_1 k_1 H locs hz_1 h hd => ?_)
    refine lv_if_ne (tgt := 15) hx hb dX10_feed_9 (by decide) (fun c_2 => ?_) (fun c_2 => ?_)
    · replace h := h.1 c_2
      refine lv_aload_n hx hb dX10_feed_15 rfl (lv_at hl 0 rfl) ?_
      refine gM_6 C hd (v := k_1.1 6) rfl dX10_feed_16 ?_
      refine lv_iload_n hx hb dX10_feed_19 rfl (lv_at hl 1 rfl) ?_
      refine lv_iadd hx hb dX10_feed_20 ?_
      refine lv_sipush (v := 160) hx hb dX10_feed_21 (by decide) ?_
      refine lv_icmp_le (tgt := 30) hx hb dX10_feed_24 (by decide) (fun c_3 => ?_) (fun c_3 => ?_)
      · replace h := h.1 c_3
        refine lv_iconst (v := 0) hx hb dX10_feed_30 (by decide) ?_
        refine lv_istore (lv' := [(4, .int (0 : Int32)), (0, .ref o), (1, .int x1), (2, .long x2l)]) hx hb dX10_feed_31 hl (by decide) rfl (fun ls hl => ?_)
        exact L n x1 x2l (0 : Int32) _ _ _ _ h hd (lv_sub hl [1, 2, 3, 0] rfl)
      · replace h := h.2 c_3
        refine lv_bipush (v := -4) hx hb dX10_feed_27 (by decide) ?_
        exact ret hd h dX10_feed_29
    · replace h := h.2 c_2
      refine lv_bipush (v := -2) hx hb dX10_feed_12 (by decide) ?_
      exact ret hd h dX10_feed_14
def wM_force (x1 : Int32) (k : GM) (Q : Int32 → GM → Prop) : Prop := (wM_in x1.toInt64 (0 : Int64) (((k.1 3) - (1 : Int32)).toInt64) k (fun r_1 k_1 => ((¬ r_1 = 0 → Q (k_1.1 4) (sI k_1 4 x1)) ∧ (r_1 = 0 → Q (-2 : Int32) k_1))))
set_option maxHeartbeats 4000000 in
set_option maxRecDepth 100000 in
theorem cM_force {l : Launch} {D : va_G} {o : Nat} {a : Nat → Nat} {g : Nat → ClassId} {k : GM} {Qp : Int32 → GM → Prop} (x1 : Int32) (h : wM_force x1 k Qp) : Ci l D (tyA g) (wM o a g) yX10_force cX10_force 3 ({ frames := 1, cells := 0, slots := 0, locals := 25 }) [.ref o, .int x1] k Qp := by
  refine Ci_of (by decide) (Nat.le_of_ble_eq_true rfl) ?_
  intro p e s m args below meth c A Z ls C ret hd hl
  have hx := C.1
  have hb := C.2.1
  have hl : lv_has ls 3 [(0, .ref o), (1, .int x1)] := hl
  replace h : (wM_in x1.toInt64 (0 : Int64) (((k.1 3) - (1 : Int32)).toInt64) k (fun r_1 k_1 => ((¬ r_1 = 0 → Qp (k_1.1 4) (sI k_1 4 x1)) ∧ (r_1 = 0 → Qp (-2 : Int32) k_1)))) := h
  refine lv_iload_n hx hb dX10_force_0 rfl (lv_at hl 1 rfl) ?_
  refine lv_i2l (v := x1.toInt64) hx hb dX10_force_1 rfl ?_
  refine lv_lconst (v := 0) hx hb dX10_force_2 (by decide) ?_
  refine lv_aload_n hx hb dX10_force_3 rfl (lv_at hl 0 rfl) ?_
  refine gM_3 C hd (v := k.1 3) rfl dX10_force_4 ?_
  refine lv_iconst (v := 1) hx hb dX10_force_7 (by decide) ?_
  refine lv_isub hx hb dX10_force_8 ?_
  refine lv_i2l (v := ((k.1 3) - (1 : Int32)).toInt64) hx hb dX10_force_9 rfl ?_
  refine xs_z C hd kwRX10_X10_in (cM_in _ _ _ h) ⟨rfl, rfl⟩ ⟨by decide, by decide⟩ hl.1 rfl rfl (Nat.le_of_ble_eq_true rfl) ⟨Nat.zero_le _, Nat.zero_le _⟩ dX10_force_10 (fun r_1 k_1 H locs hz_1 h hd => ?_)
  refine lv_if_ne (tgt := 19) hx hb dX10_force_13 (by decide) (fun c_2 => ?_) (fun c_2 => ?_)
  · replace h := h.1 c_2
    refine lv_aload_n hx hb dX10_force_19 rfl (lv_at hl 0 rfl) ?_
    refine gM_4 C hd (v := k_1.1 4) rfl dX10_force_20 ?_
    refine lv_istore_n (lv' := [(2, .int (k_1.1 4)), (0, .ref o), (1, .int x1)]) hx hb dX10_force_23 rfl hl (by decide) rfl (fun ls hl => ?_)
    refine lv_aload_n hx hb dX10_force_24 rfl (lv_at hl 1 rfl) ?_
    refine lv_iload_n hx hb dX10_force_25 rfl (lv_at hl 2 rfl) ?_
    refine pM_4 C hd dX10_force_26 (fun H locs hd => ?_)
    refine lv_iload_n hx hb dX10_force_29 rfl (lv_at hl 0 rfl) ?_
    exact ret hd h dX10_force_30
  · replace h := h.2 c_2
    refine lv_bipush (v := -2) hx hb dX10_force_16 (by decide) ?_
    exact ret hd h dX10_force_18
def wM_goes (x1 : Int32) (x2 : Int32) (x3 : Int32) (k : GM) (Q : Int32 → GM → Prop) : Prop := (wM_in x1.toInt64 (0 : Int64) (5 : Int64) k (fun r_1 k_1 => ((r_1 = 0 → Q (-2 : Int32) k_1) ∧ (¬ r_1 = 0 → (wM_in x2.toInt64 (0 : Int64) (3 : Int64) k_1 (fun r_3 k_3 => ((r_3 = 0 → Q (-2 : Int32) k_3) ∧ (¬ r_3 = 0 → (wM_in x3.toInt64 (0 : Int64) (100 : Int64) k_3 (fun r_5 k_5 => ((¬ r_5 = 0 → (vp_in (((4 : Int32) * x1) + x2) 24 ∧ (vp_in (((4 : Int32) * x1) + x2) 24 ∧ Q (k_5.2.1 12 (((4 : Int32) * x1) + x2).toNatClampNeg) (sA k_5 12 (upd (k_5.2.1 12) (((4 : Int32) * x1) + x2).toNatClampNeg x3))))) ∧ (r_5 = 0 → Q (-2 : Int32) k_5))))))))))))
set_option maxHeartbeats 4000000 in
set_option maxRecDepth 100000 in
theorem cM_goes {l : Launch} {D : va_G} {o : Nat} {a : Nat → Nat} {g : Nat → ClassId} {k : GM} {Qp : Int32 → GM → Prop} (x1 : Int32) (x2 : Int32) (x3 : Int32) (h : wM_goes x1 x2 x3 k Qp) : Ci l D (tyA g) (wM o a g) yX10_goes cX10_goes 5 ({ frames := 1, cells := 0, slots := 0, locals := 25 }) [.ref o, .int x1, .int x2, .int x3] k Qp := by
  refine Ci_of (by decide) (Nat.le_of_ble_eq_true rfl) ?_
  intro p e s m args below meth c A Z ls C ret hd hl
  have hx := C.1
  have hb := C.2.1
  have hl : lv_has ls 5 [(0, .ref o), (1, .int x1), (2, .int x2), (3, .int x3)] := hl
  replace h : (wM_in x1.toInt64 (0 : Int64) (5 : Int64) k (fun r_1 k_1 => ((r_1 = 0 → Qp (-2 : Int32) k_1) ∧ (¬ r_1 = 0 → (wM_in x2.toInt64 (0 : Int64) (3 : Int64) k_1 (fun r_3 k_3 => ((r_3 = 0 → Qp (-2 : Int32) k_3) ∧ (¬ r_3 = 0 → (wM_in x3.toInt64 (0 : Int64) (100 : Int64) k_3 (fun r_5 k_5 => ((¬ r_5 = 0 → (vp_in (((4 : Int32) * x1) + x2) 24 ∧ (vp_in (((4 : Int32) * x1) + x2) 24 ∧ Qp (k_5.2.1 12 (((4 : Int32) * x1) + x2).toNatClampNeg) (sA k_5 12 (upd (k_5.2.1 12) (((4 : Int32) * x1) + x2).toNatClampNeg x3))))) ∧ (r_5 = 0 → Qp (-2 : Int32) k_5)))))))))))) := h
  refine lv_iload_n hx hb dX10_goes_0 rfl (lv_at hl 1 rfl) ?_
  refine lv_i2l (v := x1.toInt64) hx hb dX10_goes_1 rfl ?_
  refine lv_lconst (v := 0) hx hb dX10_goes_2 (by decide) ?_
  refine lv_ldc2 (v := (5 : Int64)) hx hb C.2.2.2.1 (C.2.2.2.2.1 _ q_1096) dX10_goes_3 ?_
  refine xs_z C hd kwRX10_X10_in (cM_in _ _ _ h) ⟨rfl, rfl⟩ ⟨by decide, by decide⟩ hl.1 rfl rfl (Nat.le_of_ble_eq_true rfl) ⟨Nat.zero_le _, Nat.zero_le _⟩ dX10_goes_6 (fun r_1 k_1 H locs hz_1 h hd => ?_)
  refine lv_if_eq (tgt := 36) hx hb dX10_goes_9 (by decide) (fun c_2 => ?_) (fun c_2 => ?_)
  · replace h := h.1 c_2
    refine lv_bipush (v := -2) hx hb dX10_goes_36 (by decide) ?_
    exact ret hd h dX10_goes_38
  · replace h := h.2 c_2
    refine lv_iload_n hx hb dX10_goes_12 rfl (lv_at hl 2 rfl) ?_
    refine lv_i2l (v := x2.toInt64) hx hb dX10_goes_13 rfl ?_
    refine lv_lconst (v := 0) hx hb dX10_goes_14 (by decide) ?_
    refine lv_ldc2 (v := (3 : Int64)) hx hb C.2.2.2.1 (C.2.2.2.2.1 _ q_1206) dX10_goes_15 ?_
    refine xs_z C hd kwRX10_X10_in (cM_in _ _ _ h) ⟨rfl, rfl⟩ ⟨by decide, by decide⟩ hl.1 rfl rfl (Nat.le_of_ble_eq_true rfl) ⟨Nat.zero_le _, Nat.zero_le _⟩ dX10_goes_18 (fun r_3 k_3 H locs hz_3 h hd => ?_)
    refine lv_if_eq (tgt := 36) hx hb dX10_goes_21 (by decide) (fun c_4 => ?_) (fun c_4 => ?_)
    · replace h := h.1 c_4
      refine lv_bipush (v := -2) hx hb dX10_goes_36 (by decide) ?_
      exact ret hd h dX10_goes_38
    · replace h := h.2 c_4
      refine lv_iload_n hx hb dX10_goes_24 rfl (lv_at hl 3 rfl) ?_
      refine lv_i2l (v := x3.toInt64) hx hb dX10_goes_25 rfl ?_
      refine lv_lconst (v := 0) hx hb dX10_goes_26 (by decide) ?_
      refine lv_ldc2 (v := (100 : Int64)) hx hb C.2.2.2.1 (C.2.2.2.2.1 _ q_1213) dX10_goes_27 ?_
      refine xs_z C hd kwRX10_X10_in (cM_in _ _ _ h) ⟨rfl, rfl⟩ ⟨by decide, by decide⟩ hl.1 rfl rfl (Nat.le_of_ble_eq_true rfl) ⟨Nat.zero_le _, Nat.zero_le _⟩ dX10_goes_30 (fun r_5 k_5 H locs hz_5 h hd => ?_)
      refine lv_if_ne (tgt := 39) hx hb dX10_goes_33 (by decide) (fun c_6 => ?_) (fun c_6 => ?_)
      · replace h := h.1 c_6
        refine lv_aload_n hx hb dX10_goes_39 rfl (lv_at hl 0 rfl) ?_
        refine gM_12 C hd dX10_goes_40 ?_
        refine lv_iconst (v := 4) hx hb dX10_goes_43 (by decide) ?_
        refine lv_iload_n hx hb dX10_goes_44 rfl (lv_at hl 1 rfl) ?_
        refine lv_imul hx hb dX10_goes_45 ?_
        refine lv_iload_n hx hb dX10_goes_46 rfl (lv_at hl 2 rfl) ?_
        refine lv_iadd hx hb dX10_goes_47 ?_
        refine ldM_12 C hd (v := k_5.2.1 12 (((4 : Int32) * x1) + x2).toNatClampNeg) h.1 rfl dX10_goes_48 ?_
        replace h := h.2
        refine lv_istore (lv' := [(4, .int (k_5.2.1 12 (((4 : Int32) * x1) + x2).toNatClampNeg)), (0, .ref o), (1, .int x1), (2, .int x2), (3, .int x3)]) hx hb dX10_goes_49 hl (by decide) rfl (fun ls hl => ?_)
        refine lv_aload_n hx hb dX10_goes_51 rfl (lv_at hl 1 rfl) ?_
        refine gM_12 C hd dX10_goes_52 ?_
        refine lv_iconst (v := 4) hx hb dX10_goes_55 (by decide) ?_
        refine lv_iload_n hx hb dX10_goes_56 rfl (lv_at hl 2 rfl) ?_
        refine lv_imul hx hb dX10_goes_57 ?_
        refine lv_iload_n hx hb dX10_goes_58 rfl (lv_at hl 3 rfl) ?_
        refine lv_iadd hx hb dX10_goes_59 ?_
        refine lv_iload_n hx hb dX10_goes_60 rfl (lv_at hl 4 rfl) ?_
        refine stM_12 C hd h.1 dX10_goes_61 (fun H locs hd => ?_)
        replace h := h.2
        refine lv_iload hx hb dX10_goes_62 (lv_at hl 0 rfl) ?_
        exact ret hd h dX10_goes_64
      · replace h := h.2 c_6
        refine lv_bipush (v := -2) hx hb dX10_goes_36 (by decide) ?_
        exact ret hd h dX10_goes_38
def wM_image  : Nat → Nat → Int32 → GM → (Int32 → GM → Prop) → Prop
  | 0, _, _, _, _ => False
  | n + 1, c, x1, k, Q => match c with
    | 0 => wM_image n 1 (0 : Int32) (sI (sI (sI (sI (sI (sI k 55 (1 : Int32)) 56 (k.1 10)) 57 (k.1 15)) 58 (k.1 16)) 59 (k.1 14)) 60 (k.1 4)) Q
    | 1 => (((k.1 10) ≤ x1 → wM_image n 2 (0 : Int32) k Q) ∧ (¬ (k.1 10) ≤ x1 → (vp_in x1 8 ∧ (vp_in x1 8 ∧ (vp_in x1 8 ∧ (vp_in x1 8 ∧ wM_image n 1 (x1 + (1 : Int32)) (sA (sA k 51 (upd (k.2.1 51) x1.toNatClampNeg (k.2.1 8 x1.toNatClampNeg))) 52 (upd (k.2.1 52) x1.toNatClampNeg (k.2.1 9 x1.toNatClampNeg))) Q))))))
    | 2 => (((4 : Int32) ≤ x1 → wM_image n 3 (0 : Int32) k Q) ∧ (¬ (4 : Int32) ≤ x1 → (vp_in x1 4 ∧ (vp_in x1 4 ∧ wM_image n 2 (x1 + (1 : Int32)) (sA k 53 (upd (k.2.1 53) x1.toNatClampNeg (k.2.1 35 x1.toNatClampNeg))) Q))))
    | _ => (((32 : Int32) ≤ x1 → Q (k.1 15) k) ∧ (¬ (32 : Int32) ≤ x1 → (vp_in x1 32 ∧ (vp_in x1 32 ∧ wM_image n 3 (x1 + (1 : Int32)) (sA k 54 (upd (k.2.1 54) x1.toNatClampNeg (k.2.1 36 x1.toNatClampNeg))) Q))))
set_option maxHeartbeats 4000000 in
set_option maxRecDepth 100000 in
theorem cM_image {l : Launch} {D : va_G} {o : Nat} {a : Nat → Nat} {g : Nat → ClassId} {k : GM} {Qp : Int32 → GM → Prop} (n : Nat)  (h : wM_image n 0 0 k Qp) : Ci l D (tyA g) (wM o a g) yX10_image cX10_image 2 ({ frames := 0, cells := 0, slots := 0, locals := 0 }) [.ref o] k Qp := by
  refine Ci_of (by decide) (Nat.le_of_ble_eq_true rfl) ?_
  intro p e s m args below meth c A Z ls C ret hd hl
  have hx := C.1
  have hb := C.2.1
  have hl : lv_has ls 2 [(0, .ref o)] := hl
  have L : ∀ n : Nat, (∀ (x1 : Int32) (k : GM) (H : Heap) (locs : List Loc) (ls : Array Slot), wM_image n 1 x1 k Qp → Hd D (wM o a g k) A s H locs → lv_has ls 2 [(0, .ref o), (1, .int x1)] → W p l e ({ frames := 0, cells := 0, slots := 0, locals := 0 }) s m args below meth c H locs 0 0 Z (F0 m 47 ls [])) ∧ (∀ (x1 : Int32) (k : GM) (H : Heap) (locs : List Loc) (ls : Array Slot), wM_image n 2 x1 k Qp → Hd D (wM o a g k) A s H locs → lv_has ls 2 [(0, .ref o), (1, .int x1)] → W p l e ({ frames := 0, cells := 0, slots := 0, locals := 0 }) s m args below meth c H locs 0 0 Z (F0 m 87 ls [])) ∧ (∀ (x1 : Int32) (k : GM) (H : Heap) (locs : List Loc) (ls : Array Slot), wM_image n 3 x1 k Qp → Hd D (wM o a g k) A s H locs → lv_has ls 2 [(0, .ref o), (1, .int x1)] → W p l e ({ frames := 0, cells := 0, slots := 0, locals := 0 }) s m args below meth c H locs 0 0 Z (F0 m 112 ls [])) := by
    intro n
    induction n with
    | zero => exact ⟨fun _ _ _ _ _ h => h.elim, fun _ _ _ _ _ h => h.elim, fun _ _ _ _ _ h => h.elim⟩
    | succ n ih =>
      refine ⟨?_, ?_, ?_⟩
      · intro x1 k H locs ls h hd hl
        replace h : (((k.1 10) ≤ x1 → wM_image n 2 (0 : Int32) k Qp) ∧ (¬ (k.1 10) ≤ x1 → (vp_in x1 8 ∧ (vp_in x1 8 ∧ (vp_in x1 8 ∧ (vp_in x1 8 ∧ wM_image n 1 (x1 + (1 : Int32)) (sA (sA k 51 (upd (k.2.1 51) x1.toNatClampNeg (k.2.1 8 x1.toNatClampNeg))) 52 (upd (k.2.1 52) x1.toNatClampNeg (k.2.1 9 x1.toNatClampNeg))) Qp)))))) := h
        refine lv_iload_n hx hb dX10_image_47 rfl (lv_at hl 1 rfl) ?_
        refine lv_aload_n hx hb dX10_image_48 rfl (lv_at hl 0 rfl) ?_
        refine gM_10 C hd (v := k.1 10) rfl dX10_image_49 ?_
        refine lv_icmp_ge (tgt := 85) hx hb dX10_image_52 (by decide) (fun c_1 => ?_) (fun c_1 => ?_)
        · replace h := h.1 c_1
          refine lv_iconst (v := 0) hx hb dX10_image_85 (by decide) ?_
          refine lv_istore_n (lv' := [(1, .int (0 : Int32)), (0, .ref o)]) hx hb dX10_image_86 rfl hl (by decide) rfl (fun ls hl => ?_)
          exact (ih).2.1 (0 : Int32) _ _ _ _ h hd (lv_sub hl [1, 0] rfl)
        · replace h := h.2 c_1
          refine lv_aload_n hx hb dX10_image_55 rfl (lv_at hl 0 rfl) ?_
          refine gM_51 C hd dX10_image_56 ?_
          refine lv_iload_n hx hb dX10_image_59 rfl (lv_at hl 1 rfl) ?_
          refine lv_aload_n hx hb dX10_image_60 rfl (lv_at hl 0 rfl) ?_
          refine gM_8 C hd dX10_image_61 ?_
          refine lv_iload_n hx hb dX10_image_64 rfl (lv_at hl 1 rfl) ?_
          refine ldM_8 C hd (v := k.2.1 8 x1.toNatClampNeg) h.1 rfl dX10_image_65 ?_
          replace h := h.2
          refine stM_51 C hd h.1 dX10_image_66 (fun H locs hd => ?_)
          replace h := h.2
          refine lv_aload_n hx hb dX10_image_67 rfl (lv_at hl 0 rfl) ?_
          refine gM_52 C hd dX10_image_68 ?_
          refine lv_iload_n hx hb dX10_image_71 rfl (lv_at hl 1 rfl) ?_
          refine lv_aload_n hx hb dX10_image_72 rfl (lv_at hl 0 rfl) ?_
          refine gM_9 C hd dX10_image_73 ?_
          refine lv_iload_n hx hb dX10_image_76 rfl (lv_at hl 1 rfl) ?_
          refine ldM_9 C hd (v := k.2.1 9 x1.toNatClampNeg) h.1 rfl dX10_image_77 ?_
          replace h := h.2
          refine stM_52 C hd h.1 dX10_image_78 (fun H locs hd => ?_)
          replace h := h.2
          refine lv_iinc (v := (x1 + (1 : Int32))) (lv' := [(1, .int (x1 + (1 : Int32))), (0, .ref o)]) hx hb dX10_image_79 hl (k := 1) rfl rfl (by decide) rfl (fun ls hl => ?_)
          refine lv_goto (tgt := 47) hx hb dX10_image_82 (by decide) ?_
          exact (ih).1 (x1 + (1 : Int32)) _ _ _ _ h hd (lv_sub hl [1, 0] rfl)
      · intro x1 k H locs ls h hd hl
        replace h : (((4 : Int32) ≤ x1 → wM_image n 3 (0 : Int32) k Qp) ∧ (¬ (4 : Int32) ≤ x1 → (vp_in x1 4 ∧ (vp_in x1 4 ∧ wM_image n 2 (x1 + (1 : Int32)) (sA k 53 (upd (k.2.1 53) x1.toNatClampNeg (k.2.1 35 x1.toNatClampNeg))) Qp)))) := h
        refine lv_iload_n hx hb dX10_image_87 rfl (lv_at hl 1 rfl) ?_
        refine lv_iconst (v := 4) hx hb dX10_image_88 (by decide) ?_
        refine lv_icmp_ge (tgt := 110) hx hb dX10_image_89 (by decide) (fun c_2 => ?_) (fun c_2 => ?_)
        · replace h := h.1 c_2
          refine lv_iconst (v := 0) hx hb dX10_image_110 (by decide) ?_
          refine lv_istore_n (lv' := [(1, .int (0 : Int32)), (0, .ref o)]) hx hb dX10_image_111 rfl hl (by decide) rfl (fun ls hl => ?_)
          exact (ih).2.2 (0 : Int32) _ _ _ _ h hd (lv_sub hl [1, 0] rfl)
        · replace h := h.2 c_2
          refine lv_aload_n hx hb dX10_image_92 rfl (lv_at hl 0 rfl) ?_
          refine gM_53 C hd dX10_image_93 ?_
          refine lv_iload_n hx hb dX10_image_96 rfl (lv_at hl 1 rfl) ?_
          refine lv_aload_n hx hb dX10_image_97 rfl (lv_at hl 0 rfl) ?_
          refine gM_35 C hd dX10_image_98 ?_
          refine lv_iload_n hx hb dX10_image_101 rfl (lv_at hl 1 rfl) ?_
          refine ldM_35 C hd (v := k.2.1 35 x1.toNatClampNeg) h.1 rfl dX10_image_102 ?_
          replace h := h.2
          refine stM_53 C hd h.1 dX10_image_103 (fun H locs hd => ?_)
          replace h := h.2
          refine lv_iinc (v := (x1 + (1 : Int32))) (lv' := [(1, .int (x1 + (1 : Int32))), (0, .ref o)]) hx hb dX10_image_104 hl (k := 1) rfl rfl (by decide) rfl (fun ls hl => ?_)
          refine lv_goto (tgt := 87) hx hb dX10_image_107 (by decide) ?_
          exact (ih).2.1 (x1 + (1 : Int32)) _ _ _ _ h hd (lv_sub hl [1, 0] rfl)
      · intro x1 k H locs ls h hd hl
        replace h : (((32 : Int32) ≤ x1 → Qp (k.1 15) k) ∧ (¬ (32 : Int32) ≤ x1 → (vp_in x1 32 ∧ (vp_in x1 32 ∧ wM_image n 3 (x1 + (1 : Int32)) (sA k 54 (upd (k.2.1 54) x1.toNatClampNeg (k.2.1 36 x1.toNatClampNeg))) Qp)))) := h
        refine lv_iload_n hx hb dX10_image_112 rfl (lv_at hl 1 rfl) ?_
        refine lv_bipush (v := 32) hx hb dX10_image_113 (by decide) ?_
        refine lv_icmp_ge (tgt := 136) hx hb dX10_image_115 (by decide) (fun c_3 => ?_) (fun c_3 => ?_)
        · replace h := h.1 c_3
          refine lv_aload_n hx hb dX10_image_136 rfl (lv_at hl 0 rfl) ?_
          refine gM_15 C hd (v := k.1 15) rfl dX10_image_137 ?_
          exact ret hd h dX10_image_140
        · replace h := h.2 c_3
          refine lv_aload_n hx hb dX10_image_118 rfl (lv_at hl 0 rfl) ?_
          refine gM_54 C hd dX10_image_119 ?_
          refine lv_iload_n hx hb dX10_image_122 rfl (lv_at hl 1 rfl) ?_
          refine lv_aload_n hx hb dX10_image_123 rfl (lv_at hl 0 rfl) ?_
          refine gM_36 C hd dX10_image_124 ?_
          refine lv_iload_n hx hb dX10_image_127 rfl (lv_at hl 1 rfl) ?_
          refine ldM_36 C hd (v := k.2.1 36 x1.toNatClampNeg) h.1 rfl dX10_image_128 ?_
          replace h := h.2
          refine stM_54 C hd h.1 dX10_image_129 (fun H locs hd => ?_)
          replace h := h.2
          refine lv_iinc (v := (x1 + (1 : Int32))) (lv' := [(1, .int (x1 + (1 : Int32))), (0, .ref o)]) hx hb dX10_image_130 hl (k := 1) rfl rfl (by decide) rfl (fun ls hl => ?_)
          refine lv_goto (tgt := 112) hx hb dX10_image_133 (by decide) ?_
          exact (ih).2.2 (x1 + (1 : Int32)) _ _ _ _ h hd (lv_sub hl [1, 0] rfl)
  cases n with
  | zero => exact h.elim
  | succ n =>
    replace h : wM_image n 1 (0 : Int32) (sI (sI (sI (sI (sI (sI k 55 (1 : Int32)) 56 (k.1 10)) 57 (k.1 15)) 58 (k.1 16)) 59 (k.1 14)) 60 (k.1 4)) Qp := h
    refine lv_aload_n hx hb dX10_image_0 rfl (lv_at hl 0 rfl) ?_
    refine lv_iconst (v := 1) hx hb dX10_image_1 (by decide) ?_
    refine pM_55 C hd (by decide) (by decide) dX10_image_2 (fun H locs hd => ?_)
    refine lv_aload_n hx hb dX10_image_5 rfl (lv_at hl 0 rfl) ?_
    refine lv_aload_n hx hb dX10_image_6 rfl (lv_at hl 0 rfl) ?_
    refine gM_10 C hd (v := k.1 10) rfl dX10_image_7 ?_
    refine pM_56 C hd dX10_image_10 (fun H locs hd => ?_)
    refine lv_aload_n hx hb dX10_image_13 rfl (lv_at hl 0 rfl) ?_
    refine lv_aload_n hx hb dX10_image_14 rfl (lv_at hl 0 rfl) ?_
    refine gM_15 C hd (v := k.1 15) rfl dX10_image_15 ?_
    refine pM_57 C hd dX10_image_18 (fun H locs hd => ?_)
    refine lv_aload_n hx hb dX10_image_21 rfl (lv_at hl 0 rfl) ?_
    refine lv_aload_n hx hb dX10_image_22 rfl (lv_at hl 0 rfl) ?_
    refine gM_16 C hd (v := k.1 16) rfl dX10_image_23 ?_
    refine pM_58 C hd dX10_image_26 (fun H locs hd => ?_)
    refine lv_aload_n hx hb dX10_image_29 rfl (lv_at hl 0 rfl) ?_
    refine lv_aload_n hx hb dX10_image_30 rfl (lv_at hl 0 rfl) ?_
    refine gM_14 C hd (v := k.1 14) rfl dX10_image_31 ?_
    refine pM_59 C hd dX10_image_34 (fun H locs hd => ?_)
    refine lv_aload_n hx hb dX10_image_37 rfl (lv_at hl 0 rfl) ?_
    refine lv_aload_n hx hb dX10_image_38 rfl (lv_at hl 0 rfl) ?_
    refine gM_4 C hd (v := k.1 4) rfl dX10_image_39 ?_
    refine pM_60 C hd dX10_image_42 (fun H locs hd => ?_)
    refine lv_iconst (v := 0) hx hb dX10_image_45 (by decide) ?_
    refine lv_istore_n (lv' := [(1, .int (0 : Int32)), (0, .ref o)]) hx hb dX10_image_46 rfl hl (by decide) rfl (fun ls hl => ?_)
    exact (L n).1 (0 : Int32) _ _ _ _ h hd (lv_sub hl [1, 0] rfl)
def wM_isSet (x1 : Int32) (k : GM) (Q : Int32 → GM → Prop) : Prop := (wM_in x1.toInt64 (0 : Int64) ((((1 : Int32) <<< ((k.1 10) &&& 31)) - (1 : Int32)).toInt64) k (fun r_1 k_1 => Q r_1 k_1))
set_option maxHeartbeats 4000000 in
set_option maxRecDepth 100000 in
theorem cM_isSet {l : Launch} {D : va_G} {o : Nat} {a : Nat → Nat} {g : Nat → ClassId} {k : GM} {Qp : Int32 → GM → Prop} (x1 : Int32) (h : wM_isSet x1 k Qp) : Cz l D (tyA g) (wM o a g) yX10_isSet cX10_isSet 2 ({ frames := 1, cells := 0, slots := 0, locals := 25 }) [.ref o, .int x1] k Qp := by
  refine Cz_of (by decide) (Nat.le_of_ble_eq_true rfl) ?_
  intro p e s m args below meth c A Z ls C ret hd hl
  have hx := C.1
  have hb := C.2.1
  have hl : lv_has ls 2 [(0, .ref o), (1, .int x1)] := hl
  replace h : (wM_in x1.toInt64 (0 : Int64) ((((1 : Int32) <<< ((k.1 10) &&& 31)) - (1 : Int32)).toInt64) k (fun r_1 k_1 => Qp r_1 k_1)) := h
  refine lv_iload_n hx hb dX10_isSet_0 rfl (lv_at hl 1 rfl) ?_
  refine lv_i2l (v := x1.toInt64) hx hb dX10_isSet_1 rfl ?_
  refine lv_lconst (v := 0) hx hb dX10_isSet_2 (by decide) ?_
  refine lv_iconst (v := 1) hx hb dX10_isSet_3 (by decide) ?_
  refine lv_aload_n hx hb dX10_isSet_4 rfl (lv_at hl 0 rfl) ?_
  refine gM_10 C hd (v := k.1 10) rfl dX10_isSet_5 ?_
  refine lv_ishl hx hb dX10_isSet_8 ?_
  refine lv_iconst (v := 1) hx hb dX10_isSet_9 (by decide) ?_
  refine lv_isub hx hb dX10_isSet_10 ?_
  refine lv_i2l (v := (((1 : Int32) <<< ((k.1 10) &&& 31)) - (1 : Int32)).toInt64) hx hb dX10_isSet_11 rfl ?_
  refine xs_z C hd kwRX10_X10_in (cM_in _ _ _ h) ⟨rfl, rfl⟩ ⟨by decide, by decide⟩ hl.1 rfl rfl (Nat.le_of_ble_eq_true rfl) ⟨Nat.zero_le _, Nat.zero_le _⟩ dX10_isSet_12 (fun r_1 k_1 H locs hz_1 h hd => ?_)
  exact ret hd hz_1 h dX10_isSet_15
def wM_letsTill  : Nat → Nat → Int32 → Int32 → Int32 → Int32 → GM → (Int32 → GM → Prop) → Prop
  | 0, _, _, _, _, _, _, _ => False
  | n + 1, c, x1, x2, x3, x4, k, Q => match c with
    | 0 => (∃ n_1 : Nat, wM_laysAside n_1 0 (1 : Int32) 0 k (fun k_1 => wM_letsTill n 1 0 x2 (k_1.1 46) (0 : Int32) (sI k_1 14 x1) Q))
    | _ => (((k.1 46) ≤ x4 → (∃ n_3 : Nat, wM_laysBack n_3 0 0 k (fun k_3 => Q x3 k_3))) ∧ (¬ (k.1 46) ≤ x4 → ((¬ x3 = (k.1 46) → (∃ n_5 : Nat, wM_laysBack n_5 0 0 k (fun k_5 => Q x3 k_5))) ∧ (x3 = (k.1 46) → (vp_in x4 20 ∧ (∃ n_6 : Nat, wM_goesBy n_6 0 (k.2.1 43 x4.toNatClampNeg) (0 : Int32) 0 k (fun k_6 => (vp_in x4 20 ∧ (wM_dropsOf (k_6.2.1 44 x4.toNatClampNeg) k_6 (fun r_7 k_7 => (vp_in x4 20 ∧ (wM_in ((r_7 - (k_7.2.1 45 x4.toNatClampNeg)).toInt64) ((-x2).toInt64) x2.toInt64 k_7 (fun r_8 k_8 => ((¬ r_8 = 0 → wM_letsTill n 1 0 x2 x3 (x4 + (1 : Int32)) k_8 Q) ∧ (r_8 = 0 → wM_letsTill n 1 0 x2 x4 (x4 + (1 : Int32)) k_8 Q)))))))))))))))
set_option maxHeartbeats 4000000 in
set_option maxRecDepth 100000 in
theorem cM_letsTill {l : Launch} {D : va_G} {o : Nat} {a : Nat → Nat} {g : Nat → ClassId} {k : GM} {Qp : Int32 → GM → Prop} (n : Nat) (x1 : Int32) (x2 : Int32) (h : wM_letsTill n 0 x1 x2 0 0 k Qp) : Ci l D (tyA g) (wM o a g) yX10_letsTill cX10_letsTill 5 ({ frames := 62, cells := 0, slots := 0, locals := 2301 }) [.ref o, .int x1, .int x2] k Qp := by
  refine Ci_of (by decide) (Nat.le_of_ble_eq_true rfl) ?_
  intro p e s m args below meth c A Z ls C ret hd hl
  have hx := C.1
  have hb := C.2.1
  have hl : lv_has ls 5 [(0, .ref o), (1, .int x1), (2, .int x2)] := hl
  have L : ∀ n : Nat, (∀ (x2 : Int32) (x3 : Int32) (x4 : Int32) (k : GM) (H : Heap) (locs : List Loc) (ls : Array Slot), wM_letsTill n 1 0 x2 x3 x4 k Qp → Hd D (wM o a g k) A s H locs → lv_has ls 5 [(0, .ref o), (2, .int x2), (3, .int x3), (4, .int x4)] → W p l e ({ frames := 62, cells := 0, slots := 0, locals := 2301 }) s m args below meth c H locs 0 0 Z (F0 m 18 ls [])) := by
    intro n
    induction n with
    | zero => exact fun _ _ _ _ _ _ _ h => h.elim
    | succ n ih =>
      intro x2 x3 x4 k H locs ls h hd hl
      replace h : (((k.1 46) ≤ x4 → (∃ n_3 : Nat, wM_laysBack n_3 0 0 k (fun k_3 => Qp x3 k_3))) ∧ (¬ (k.1 46) ≤ x4 → ((¬ x3 = (k.1 46) → (∃ n_5 : Nat, wM_laysBack n_5 0 0 k (fun k_5 => Qp x3 k_5))) ∧ (x3 = (k.1 46) → (vp_in x4 20 ∧ (∃ n_6 : Nat, wM_goesBy n_6 0 (k.2.1 43 x4.toNatClampNeg) (0 : Int32) 0 k (fun k_6 => (vp_in x4 20 ∧ (wM_dropsOf (k_6.2.1 44 x4.toNatClampNeg) k_6 (fun r_7 k_7 => (vp_in x4 20 ∧ (wM_in ((r_7 - (k_7.2.1 45 x4.toNatClampNeg)).toInt64) ((-x2).toInt64) x2.toInt64 k_7 (fun r_8 k_8 => ((¬ r_8 = 0 → wM_letsTill n 1 0 x2 x3 (x4 + (1 : Int32)) k_8 Qp) ∧ (r_8 = 0 → wM_letsTill n 1 0 x2 x4 (x4 + (1 : Int32)) k_8 Qp))))))))))))))) := h
      refine lv_iload hx hb dX10_letsTill_18 (lv_at hl 3 rfl) ?_
      refine lv_aload_n hx hb dX10_letsTill_20 rfl (lv_at hl 0 rfl) ?_
      refine gM_46 C hd (v := k.1 46) rfl dX10_letsTill_21 ?_
      refine lv_icmp_ge (tgt := 87) hx hb dX10_letsTill_24 (by decide) (fun c_2 => ?_) (fun c_2 => ?_)
      · replace h := h.1 c_2
        refine lv_aload_n hx hb dX10_letsTill_87 rfl (lv_at hl 0 rfl) ?_
        obtain ⟨n_3, h⟩ := h
        refine xv_v C hd kwRX10_X10_laysBack (cM_laysBack n_3 h) ⟨rfl, rfl⟩ ⟨by decide, by decide⟩ wM_rcv hl.1 rfl rfl (Nat.le_of_ble_eq_true rfl) ⟨Nat.zero_le _, Nat.zero_le _⟩ dX10_letsTill_88 (fun k_3 H locs h hd => ?_)
        refine lv_iload_n hx hb dX10_letsTill_91 rfl (lv_at hl 2 rfl) ?_
        exact ret hd h dX10_letsTill_92
      · replace h := h.2 c_2
        refine lv_iload_n hx hb dX10_letsTill_27 rfl (lv_at hl 2 rfl) ?_
        refine lv_aload_n hx hb dX10_letsTill_28 rfl (lv_at hl 0 rfl) ?_
        refine gM_46 C hd (v := k.1 46) rfl dX10_letsTill_29 ?_
        refine lv_icmp_ne (tgt := 87) hx hb dX10_letsTill_32 (by decide) (fun c_4 => ?_) (fun c_4 => ?_)
        · replace h := h.1 c_4
          refine lv_aload_n hx hb dX10_letsTill_87 rfl (lv_at hl 0 rfl) ?_
          obtain ⟨n_5, h⟩ := h
          refine xv_v C hd kwRX10_X10_laysBack (cM_laysBack n_5 h) ⟨rfl, rfl⟩ ⟨by decide, by decide⟩ wM_rcv hl.1 rfl rfl (Nat.le_of_ble_eq_true rfl) ⟨Nat.zero_le _, Nat.zero_le _⟩ dX10_letsTill_88 (fun k_5 H locs h hd => ?_)
          refine lv_iload_n hx hb dX10_letsTill_91 rfl (lv_at hl 2 rfl) ?_
          exact ret hd h dX10_letsTill_92
        · replace h := h.2 c_4
          refine lv_aload_n hx hb dX10_letsTill_35 rfl (lv_at hl 0 rfl) ?_
          refine lv_aload_n hx hb dX10_letsTill_36 rfl (lv_at hl 0 rfl) ?_
          refine gM_43 C hd dX10_letsTill_37 ?_
          refine lv_iload hx hb dX10_letsTill_40 (lv_at hl 3 rfl) ?_
          refine ldM_43 C hd (v := k.2.1 43 x4.toNatClampNeg) h.1 rfl dX10_letsTill_42 ?_
          replace h := h.2
          refine lv_iconst (v := 0) hx hb dX10_letsTill_43 (by decide) ?_
          obtain ⟨n_6, h⟩ := h
          refine xv_v C hd kwRX10_X10_goesBy (cM_goesBy n_6 _ _ h) ⟨rfl, rfl⟩ ⟨by decide, by decide⟩ wM_rcv hl.1 rfl rfl (Nat.le_of_ble_eq_true rfl) ⟨Nat.zero_le _, Nat.zero_le _⟩ dX10_letsTill_44 (fun k_6 H locs h hd => ?_)
          refine lv_aload_n hx hb dX10_letsTill_47 rfl (lv_at hl 0 rfl) ?_
          refine lv_aload_n hx hb dX10_letsTill_48 rfl (lv_at hl 0 rfl) ?_
          refine gM_44 C hd dX10_letsTill_49 ?_
          refine lv_iload hx hb dX10_letsTill_52 (lv_at hl 3 rfl) ?_
          refine ldM_44 C hd (v := k_6.2.1 44 x4.toNatClampNeg) h.1 rfl dX10_letsTill_54 ?_
          replace h := h.2
          refine xv_i C hd kwRX10_X10_dropsOf (cM_dropsOf _ h) ⟨rfl, rfl⟩ ⟨by decide, by decide⟩ wM_rcv hl.1 rfl rfl (Nat.le_of_ble_eq_true rfl) ⟨Nat.zero_le _, Nat.zero_le _⟩ dX10_letsTill_55 (fun r_7 k_7 H locs h hd => ?_)
          refine lv_aload_n hx hb dX10_letsTill_58 rfl (lv_at hl 0 rfl) ?_
          refine gM_45 C hd dX10_letsTill_59 ?_
          refine lv_iload hx hb dX10_letsTill_62 (lv_at hl 3 rfl) ?_
          refine ldM_45 C hd (v := k_7.2.1 45 x4.toNatClampNeg) h.1 rfl dX10_letsTill_64 ?_
          replace h := h.2
          refine lv_isub hx hb dX10_letsTill_65 ?_
          refine lv_i2l (v := (r_7 - (k_7.2.1 45 x4.toNatClampNeg)).toInt64) hx hb dX10_letsTill_66 rfl ?_
          refine lv_iload_n hx hb dX10_letsTill_67 rfl (lv_at hl 1 rfl) ?_
          refine lv_ineg hx hb dX10_letsTill_68 ?_
          refine lv_i2l (v := (-x2).toInt64) hx hb dX10_letsTill_69 rfl ?_
          refine lv_iload_n hx hb dX10_letsTill_70 rfl (lv_at hl 1 rfl) ?_
          refine lv_i2l (v := x2.toInt64) hx hb dX10_letsTill_71 rfl ?_
          refine xs_z C hd kwRX10_X10_in (cM_in _ _ _ h) ⟨rfl, rfl⟩ ⟨by decide, by decide⟩ hl.1 rfl rfl (Nat.le_of_ble_eq_true rfl) ⟨Nat.zero_le _, Nat.zero_le _⟩ dX10_letsTill_72 (fun r_8 k_8 H locs hz_8 h hd => ?_)
          refine lv_if_ne (tgt := 81) hx hb dX10_letsTill_75 (by decide) (fun c_9 => ?_) (fun c_9 => ?_)
          · replace h := h.1 c_9
            refine lv_iinc (v := (x4 + (1 : Int32))) (lv' := [(4, .int (x4 + (1 : Int32))), (0, .ref o), (2, .int x2), (3, .int x3)]) hx hb dX10_letsTill_81 hl (k := 3) rfl rfl (by decide) rfl (fun ls hl => ?_)
            refine lv_goto (tgt := 18) hx hb dX10_letsTill_84 (by decide) ?_
            exact ih x2 x3 (x4 + (1 : Int32)) _ _ _ _ h hd (lv_sub hl [1, 2, 3, 0] rfl)
          · replace h := h.2 c_9
            refine lv_iload hx hb dX10_letsTill_78 (lv_at hl 3 rfl) ?_
            refine lv_istore_n (lv' := [(3, .int x4), (0, .ref o), (2, .int x2), (4, .int x4)]) hx hb dX10_letsTill_80 rfl hl (by decide) rfl (fun ls hl => ?_)
            refine lv_iinc (v := (x4 + (1 : Int32))) (lv' := [(4, .int (x4 + (1 : Int32))), (3, .int x4), (0, .ref o), (2, .int x2)]) hx hb dX10_letsTill_81 hl (k := 3) rfl rfl (by decide) rfl (fun ls hl => ?_)
            refine lv_goto (tgt := 18) hx hb dX10_letsTill_84 (by decide) ?_
            exact ih x2 x4 (x4 + (1 : Int32)) _ _ _ _ h hd (lv_sub hl [2, 3, 1, 0] rfl)
  cases n with
  | zero => exact h.elim
  | succ n =>
    replace h : (∃ n_1 : Nat, wM_laysAside n_1 0 (1 : Int32) 0 k (fun k_1 => wM_letsTill n 1 0 x2 (k_1.1 46) (0 : Int32) (sI k_1 14 x1) Qp)) := h
    refine lv_aload_n hx hb dX10_letsTill_0 rfl (lv_at hl 0 rfl) ?_
    refine lv_iconst (v := 1) hx hb dX10_letsTill_1 (by decide) ?_
    obtain ⟨n_1, h⟩ := h
    refine xv_v C hd kwRX10_X10_laysAside (cM_laysAside n_1 _ h) ⟨rfl, rfl⟩ ⟨by decide, by decide⟩ wM_rcv hl.1 rfl rfl (Nat.le_of_ble_eq_true rfl) ⟨Nat.zero_le _, Nat.zero_le _⟩ dX10_letsTill_2 (fun k_1 H locs h hd => ?_)
    refine lv_aload_n hx hb dX10_letsTill_5 rfl (lv_at hl 0 rfl) ?_
    refine lv_iload_n hx hb dX10_letsTill_6 rfl (lv_at hl 1 rfl) ?_
    refine pM_14 C hd dX10_letsTill_7 (fun H locs hd => ?_)
    refine lv_aload_n hx hb dX10_letsTill_10 rfl (lv_at hl 0 rfl) ?_
    refine gM_46 C hd (v := k_1.1 46) rfl dX10_letsTill_11 ?_
    refine lv_istore_n (lv' := [(3, .int (k_1.1 46)), (0, .ref o), (1, .int x1), (2, .int x2)]) hx hb dX10_letsTill_14 rfl hl (by decide) rfl (fun ls hl => ?_)
    refine lv_iconst (v := 0) hx hb dX10_letsTill_15 (by decide) ?_
    refine lv_istore (lv' := [(4, .int (0 : Int32)), (3, .int (k_1.1 46)), (0, .ref o), (1, .int x1), (2, .int x2)]) hx hb dX10_letsTill_16 hl (by decide) rfl (fun ls hl => ?_)
    exact L n x2 (k_1.1 46) (0 : Int32) _ _ _ _ h hd (lv_sub hl [2, 4, 1, 0] rfl)
def wM_letsAll  : Nat → Nat → Int32 → Int32 → GM → (GM → Prop) → Prop
  | 0, _, _, _, _, _ => False
  | n + 1, c, x1, x2, k, Q => match c with
    | 0 => wM_letsAll n 1 x1 (5 : Int32) (sI (sI (sI (sI k 47 (0 : Int32)) 48 (-1 : Int32)) 49 (-1 : Int32)) 50 (0 : Int32)) Q
    | _ => (((100 : Int32) < x2 → Q k) ∧ (¬ (100 : Int32) < x2 → (∃ n_2 : Nat, wM_letsTill n_2 0 x2 x1 0 0 k (fun r_2 k_2 => ((r_2 ≤ (k_2.1 50) → (((k_2.1 46) ≤ r_2 → ((¬ (k_2.1 48) = (-1 : Int32) → wM_letsAll n 1 x1 (x2 + (5 : Int32)) (sI (sI (sI (sI k_2 50 (k_2.1 50)) 47 ((k_2.1 47) + (1 : Int32))) 48 (k_2.1 48)) 49 x2) Q) ∧ ((k_2.1 48) = (-1 : Int32) → wM_letsAll n 1 x1 (x2 + (5 : Int32)) (sI (sI (sI (sI k_2 50 (k_2.1 50)) 47 ((k_2.1 47) + (1 : Int32))) 48 x2) 49 x2) Q))) ∧ (¬ (k_2.1 46) ≤ r_2 → wM_letsAll n 1 x1 (x2 + (5 : Int32)) (sI k_2 50 (k_2.1 50)) Q))) ∧ (¬ r_2 ≤ (k_2.1 50) → (((k_2.1 46) ≤ r_2 → ((¬ (k_2.1 48) = (-1 : Int32) → wM_letsAll n 1 x1 (x2 + (5 : Int32)) (sI (sI (sI (sI k_2 50 r_2) 47 ((k_2.1 47) + (1 : Int32))) 48 (k_2.1 48)) 49 x2) Q) ∧ ((k_2.1 48) = (-1 : Int32) → wM_letsAll n 1 x1 (x2 + (5 : Int32)) (sI (sI (sI (sI k_2 50 r_2) 47 ((k_2.1 47) + (1 : Int32))) 48 x2) 49 x2) Q))) ∧ (¬ (k_2.1 46) ≤ r_2 → wM_letsAll n 1 x1 (x2 + (5 : Int32)) (sI k_2 50 r_2) Q))))))))
set_option maxHeartbeats 4000000 in
set_option maxRecDepth 100000 in
theorem cM_letsAll {l : Launch} {D : va_G} {o : Nat} {a : Nat → Nat} {g : Nat → ClassId} {k : GM} {Qp : GM → Prop} (n : Nat) (x1 : Int32) (h : wM_letsAll n 0 x1 0 k Qp) : Cv l D (tyA g) (wM o a g) yX10_letsAll cX10_letsAll 4 ({ frames := 63, cells := 0, slots := 0, locals := 2325 }) [.ref o, .int x1] k Qp := by
  refine Cv_of (by decide) (Nat.le_of_ble_eq_true rfl) ?_
  intro p e s m args below meth c A Z ls C ret hd hl
  have hx := C.1
  have hb := C.2.1
  have hl : lv_has ls 4 [(0, .ref o), (1, .int x1)] := hl
  have L : ∀ n : Nat, (∀ (x1 : Int32) (x2 : Int32) (k : GM) (H : Heap) (locs : List Loc) (ls : Array Slot), wM_letsAll n 1 x1 x2 k Qp → Hd D (wM o a g k) A s H locs → lv_has ls 4 [(0, .ref o), (1, .int x1), (2, .int x2)] → W p l e ({ frames := 63, cells := 0, slots := 0, locals := 2325 }) s m args below meth c H locs 0 0 Z (F0 m 22 ls [])) := by
    intro n
    induction n with
    | zero => exact fun _ _ _ _ _ _ h => h.elim
    | succ n ih =>
      intro x1 x2 k H locs ls h hd hl
      replace h : (((100 : Int32) < x2 → Qp k) ∧ (¬ (100 : Int32) < x2 → (∃ n_2 : Nat, wM_letsTill n_2 0 x2 x1 0 0 k (fun r_2 k_2 => ((r_2 ≤ (k_2.1 50) → (((k_2.1 46) ≤ r_2 → ((¬ (k_2.1 48) = (-1 : Int32) → wM_letsAll n 1 x1 (x2 + (5 : Int32)) (sI (sI (sI (sI k_2 50 (k_2.1 50)) 47 ((k_2.1 47) + (1 : Int32))) 48 (k_2.1 48)) 49 x2) Qp) ∧ ((k_2.1 48) = (-1 : Int32) → wM_letsAll n 1 x1 (x2 + (5 : Int32)) (sI (sI (sI (sI k_2 50 (k_2.1 50)) 47 ((k_2.1 47) + (1 : Int32))) 48 x2) 49 x2) Qp))) ∧ (¬ (k_2.1 46) ≤ r_2 → wM_letsAll n 1 x1 (x2 + (5 : Int32)) (sI k_2 50 (k_2.1 50)) Qp))) ∧ (¬ r_2 ≤ (k_2.1 50) → (((k_2.1 46) ≤ r_2 → ((¬ (k_2.1 48) = (-1 : Int32) → wM_letsAll n 1 x1 (x2 + (5 : Int32)) (sI (sI (sI (sI k_2 50 r_2) 47 ((k_2.1 47) + (1 : Int32))) 48 (k_2.1 48)) 49 x2) Qp) ∧ ((k_2.1 48) = (-1 : Int32) → wM_letsAll n 1 x1 (x2 + (5 : Int32)) (sI (sI (sI (sI k_2 50 r_2) 47 ((k_2.1 47) + (1 : Int32))) 48 x2) 49 x2) Qp))) ∧ (¬ (k_2.1 46) ≤ r_2 → wM_letsAll n 1 x1 (x2 + (5 : Int32)) (sI k_2 50 r_2) Qp)))))))) := h
      refine lv_iload_n hx hb dX10_letsAll_22 rfl (lv_at hl 2 rfl) ?_
      refine lv_bipush (v := 100) hx hb dX10_letsAll_23 (by decide) ?_
      refine lv_icmp_gt (tgt := 107) hx hb dX10_letsAll_25 (by decide) (fun c_1 => ?_) (fun c_1 => ?_)
      · replace h := h.1 c_1
        exact ret hd h dX10_letsAll_107
      · replace h := h.2 c_1
        refine lv_aload_n hx hb dX10_letsAll_28 rfl (lv_at hl 0 rfl) ?_
        refine lv_iload_n hx hb dX10_letsAll_29 rfl (lv_at hl 2 rfl) ?_
        refine lv_iload_n hx hb dX10_letsAll_30 rfl (lv_at hl 1 rfl) ?_
        obtain ⟨n_2, h⟩ := h
        refine xv_i C hd kwRX10_X10_letsTill (cM_letsTill n_2 _ _ h) ⟨rfl, rfl⟩ ⟨by decide, by decide⟩ wM_rcv hl.1 rfl rfl (Nat.le_of_ble_eq_true rfl) ⟨Nat.zero_le _, Nat.zero_le _⟩ dX10_letsAll_31 (fun r_2 k_2 H locs h hd => ?_)
        refine lv_istore_n (lv' := [(3, .int r_2), (0, .ref o), (1, .int x1), (2, .int x2)]) hx hb dX10_letsAll_34 rfl hl (by decide) rfl (fun ls hl => ?_)
        refine lv_aload_n hx hb dX10_letsAll_35 rfl (lv_at hl 1 rfl) ?_
        refine lv_iload_n hx hb dX10_letsAll_36 rfl (lv_at hl 0 rfl) ?_
        refine lv_aload_n hx hb dX10_letsAll_37 rfl (lv_at hl 1 rfl) ?_
        refine gM_50 C hd (v := k_2.1 50) rfl dX10_letsAll_38 ?_
        refine lv_icmp_le (tgt := 48) hx hb dX10_letsAll_41 (by decide) (fun c_3 => ?_) (fun c_3 => ?_)
        · replace h := h.1 c_3
          refine lv_aload_n hx hb dX10_letsAll_48 rfl (lv_at hl 1 rfl) ?_
          refine gM_50 C hd (v := k_2.1 50) rfl dX10_letsAll_49 ?_
          refine pM_50 C hd dX10_letsAll_52 (fun H locs hd => ?_)
          refine lv_iload_n hx hb dX10_letsAll_55 rfl (lv_at hl 0 rfl) ?_
          refine lv_aload_n hx hb dX10_letsAll_56 rfl (lv_at hl 1 rfl) ?_
          refine gM_46 C hd (v := k_2.1 46) rfl dX10_letsAll_57 ?_
          refine lv_icmp_ge (tgt := 66) hx hb dX10_letsAll_60 (by decide) (fun c_4 => ?_) (fun c_4 => ?_)
          · replace h := h.1 c_4
            refine lv_aload_n hx hb dX10_letsAll_66 rfl (lv_at hl 1 rfl) ?_
            refine lv_dup hx hb dX10_letsAll_67 rfl ?_
            refine gM_47 C hd (v := k_2.1 47) rfl dX10_letsAll_68 ?_
            refine lv_iconst (v := 1) hx hb dX10_letsAll_71 (by decide) ?_
            refine lv_iadd hx hb dX10_letsAll_72 ?_
            refine pM_47 C hd dX10_letsAll_73 (fun H locs hd => ?_)
            refine lv_aload_n hx hb dX10_letsAll_76 rfl (lv_at hl 1 rfl) ?_
            refine lv_aload_n hx hb dX10_letsAll_77 rfl (lv_at hl 1 rfl) ?_
            refine gM_48 C hd (v := k_2.1 48) rfl dX10_letsAll_78 ?_
            refine lv_iconst (v := -1) hx hb dX10_letsAll_81 (by decide) ?_
            refine lv_icmp_ne (tgt := 89) hx hb dX10_letsAll_82 (by decide) (fun c_5 => ?_) (fun c_5 => ?_)
            · replace h := h.1 c_5
              refine lv_aload_n hx hb dX10_letsAll_89 rfl (lv_at hl 1 rfl) ?_
              refine gM_48 C hd (v := k_2.1 48) rfl dX10_letsAll_90 ?_
              refine pM_48 C hd dX10_letsAll_93 (fun H locs hd => ?_)
              refine lv_aload_n hx hb dX10_letsAll_96 rfl (lv_at hl 1 rfl) ?_
              refine lv_iload_n hx hb dX10_letsAll_97 rfl (lv_at hl 3 rfl) ?_
              refine pM_49 C hd dX10_letsAll_98 (fun H locs hd => ?_)
              refine lv_iinc (v := (x2 + (5 : Int32))) (lv' := [(2, .int (x2 + (5 : Int32))), (3, .int r_2), (0, .ref o), (1, .int x1)]) hx hb dX10_letsAll_101 hl (k := 3) rfl rfl (by decide) rfl (fun ls hl => ?_)
              refine lv_goto (tgt := 22) hx hb dX10_letsAll_104 (by decide) ?_
              exact ih x1 (x2 + (5 : Int32)) _ _ _ _ h hd (lv_sub hl [2, 3, 0] rfl)
            · replace h := h.2 c_5
              refine lv_iload_n hx hb dX10_letsAll_85 rfl (lv_at hl 3 rfl) ?_
              refine lv_goto (tgt := 93) hx hb dX10_letsAll_86 (by decide) ?_
              refine pM_48 C hd dX10_letsAll_93 (fun H locs hd => ?_)
              refine lv_aload_n hx hb dX10_letsAll_96 rfl (lv_at hl 1 rfl) ?_
              refine lv_iload_n hx hb dX10_letsAll_97 rfl (lv_at hl 3 rfl) ?_
              refine pM_49 C hd dX10_letsAll_98 (fun H locs hd => ?_)
              refine lv_iinc (v := (x2 + (5 : Int32))) (lv' := [(2, .int (x2 + (5 : Int32))), (3, .int r_2), (0, .ref o), (1, .int x1)]) hx hb dX10_letsAll_101 hl (k := 3) rfl rfl (by decide) rfl (fun ls hl => ?_)
              refine lv_goto (tgt := 22) hx hb dX10_letsAll_104 (by decide) ?_
              exact ih x1 (x2 + (5 : Int32)) _ _ _ _ h hd (lv_sub hl [2, 3, 0] rfl)
          · replace h := h.2 c_4
            refine lv_goto (tgt := 101) hx hb dX10_letsAll_63 (by decide) ?_
            refine lv_iinc (v := (x2 + (5 : Int32))) (lv' := [(2, .int (x2 + (5 : Int32))), (3, .int r_2), (0, .ref o), (1, .int x1)]) hx hb dX10_letsAll_101 hl (k := 3) rfl rfl (by decide) rfl (fun ls hl => ?_)
            refine lv_goto (tgt := 22) hx hb dX10_letsAll_104 (by decide) ?_
            exact ih x1 (x2 + (5 : Int32)) _ _ _ _ h hd (lv_sub hl [2, 3, 0] rfl)
        · replace h := h.2 c_3
          refine lv_iload_n hx hb dX10_letsAll_44 rfl (lv_at hl 0 rfl) ?_
          refine lv_goto (tgt := 52) hx hb dX10_letsAll_45 (by decide) ?_
          refine pM_50 C hd dX10_letsAll_52 (fun H locs hd => ?_)
          refine lv_iload_n hx hb dX10_letsAll_55 rfl (lv_at hl 0 rfl) ?_
          refine lv_aload_n hx hb dX10_letsAll_56 rfl (lv_at hl 1 rfl) ?_
          refine gM_46 C hd (v := k_2.1 46) rfl dX10_letsAll_57 ?_
          refine lv_icmp_ge (tgt := 66) hx hb dX10_letsAll_60 (by decide) (fun c_6 => ?_) (fun c_6 => ?_)
          · replace h := h.1 c_6
            refine lv_aload_n hx hb dX10_letsAll_66 rfl (lv_at hl 1 rfl) ?_
            refine lv_dup hx hb dX10_letsAll_67 rfl ?_
            refine gM_47 C hd (v := k_2.1 47) rfl dX10_letsAll_68 ?_
            refine lv_iconst (v := 1) hx hb dX10_letsAll_71 (by decide) ?_
            refine lv_iadd hx hb dX10_letsAll_72 ?_
            refine pM_47 C hd dX10_letsAll_73 (fun H locs hd => ?_)
            refine lv_aload_n hx hb dX10_letsAll_76 rfl (lv_at hl 1 rfl) ?_
            refine lv_aload_n hx hb dX10_letsAll_77 rfl (lv_at hl 1 rfl) ?_
            refine gM_48 C hd (v := k_2.1 48) rfl dX10_letsAll_78 ?_
            refine lv_iconst (v := -1) hx hb dX10_letsAll_81 (by decide) ?_
            refine lv_icmp_ne (tgt := 89) hx hb dX10_letsAll_82 (by decide) (fun c_7 => ?_) (fun c_7 => ?_)
            · replace h := h.1 c_7
              refine lv_aload_n hx hb dX10_letsAll_89 rfl (lv_at hl 1 rfl) ?_
              refine gM_48 C hd (v := k_2.1 48) rfl dX10_letsAll_90 ?_
              refine pM_48 C hd dX10_letsAll_93 (fun H locs hd => ?_)
              refine lv_aload_n hx hb dX10_letsAll_96 rfl (lv_at hl 1 rfl) ?_
              refine lv_iload_n hx hb dX10_letsAll_97 rfl (lv_at hl 3 rfl) ?_
              refine pM_49 C hd dX10_letsAll_98 (fun H locs hd => ?_)
              refine lv_iinc (v := (x2 + (5 : Int32))) (lv' := [(2, .int (x2 + (5 : Int32))), (3, .int r_2), (0, .ref o), (1, .int x1)]) hx hb dX10_letsAll_101 hl (k := 3) rfl rfl (by decide) rfl (fun ls hl => ?_)
              refine lv_goto (tgt := 22) hx hb dX10_letsAll_104 (by decide) ?_
              exact ih x1 (x2 + (5 : Int32)) _ _ _ _ h hd (lv_sub hl [2, 3, 0] rfl)
            · replace h := h.2 c_7
              refine lv_iload_n hx hb dX10_letsAll_85 rfl (lv_at hl 3 rfl) ?_
              refine lv_goto (tgt := 93) hx hb dX10_letsAll_86 (by decide) ?_
              refine pM_48 C hd dX10_letsAll_93 (fun H locs hd => ?_)
              refine lv_aload_n hx hb dX10_letsAll_96 rfl (lv_at hl 1 rfl) ?_
              refine lv_iload_n hx hb dX10_letsAll_97 rfl (lv_at hl 3 rfl) ?_
              refine pM_49 C hd dX10_letsAll_98 (fun H locs hd => ?_)
              refine lv_iinc (v := (x2 + (5 : Int32))) (lv' := [(2, .int (x2 + (5 : Int32))), (3, .int r_2), (0, .ref o), (1, .int x1)]) hx hb dX10_letsAll_101 hl (k := 3) rfl rfl (by decide) rfl (fun ls hl => ?_)
              refine lv_goto (tgt := 22) hx hb dX10_letsAll_104 (by decide) ?_
              exact ih x1 (x2 + (5 : Int32)) _ _ _ _ h hd (lv_sub hl [2, 3, 0] rfl)
          · replace h := h.2 c_6
            refine lv_goto (tgt := 101) hx hb dX10_letsAll_63 (by decide) ?_
            refine lv_iinc (v := (x2 + (5 : Int32))) (lv' := [(2, .int (x2 + (5 : Int32))), (3, .int r_2), (0, .ref o), (1, .int x1)]) hx hb dX10_letsAll_101 hl (k := 3) rfl rfl (by decide) rfl (fun ls hl => ?_)
            refine lv_goto (tgt := 22) hx hb dX10_letsAll_104 (by decide) ?_
            exact ih x1 (x2 + (5 : Int32)) _ _ _ _ h hd (lv_sub hl [2, 3, 0] rfl)
  cases n with
  | zero => exact h.elim
  | succ n =>
    replace h : wM_letsAll n 1 x1 (5 : Int32) (sI (sI (sI (sI k 47 (0 : Int32)) 48 (-1 : Int32)) 49 (-1 : Int32)) 50 (0 : Int32)) Qp := h
    refine lv_aload_n hx hb dX10_letsAll_0 rfl (lv_at hl 0 rfl) ?_
    refine lv_iconst (v := 0) hx hb dX10_letsAll_1 (by decide) ?_
    refine pM_47 C hd dX10_letsAll_2 (fun H locs hd => ?_)
    refine lv_aload_n hx hb dX10_letsAll_5 rfl (lv_at hl 0 rfl) ?_
    refine lv_iconst (v := -1) hx hb dX10_letsAll_6 (by decide) ?_
    refine pM_48 C hd dX10_letsAll_7 (fun H locs hd => ?_)
    refine lv_aload_n hx hb dX10_letsAll_10 rfl (lv_at hl 0 rfl) ?_
    refine lv_iconst (v := -1) hx hb dX10_letsAll_11 (by decide) ?_
    refine pM_49 C hd dX10_letsAll_12 (fun H locs hd => ?_)
    refine lv_aload_n hx hb dX10_letsAll_15 rfl (lv_at hl 0 rfl) ?_
    refine lv_iconst (v := 0) hx hb dX10_letsAll_16 (by decide) ?_
    refine pM_50 C hd dX10_letsAll_17 (fun H locs hd => ?_)
    refine lv_iconst (v := 5) hx hb dX10_letsAll_20 (by decide) ?_
    refine lv_istore_n (lv' := [(2, .int (5 : Int32)), (0, .ref o), (1, .int x1)]) hx hb dX10_letsAll_21 rfl hl (by decide) rfl (fun ls hl => ?_)
    exact L n x1 (5 : Int32) _ _ _ _ h hd (lv_sub hl [1, 2, 0] rfl)
def wM_lets (x1 : Int32) (x2 : Int32) (k : GM) (Q : Int32 → GM → Prop) : Prop := (wM_in x1.toInt64 (0 : Int64) (99 : Int64) k (fun r_1 k_1 => ((r_1 = 0 → Q (-2 : Int32) k_1) ∧ (¬ r_1 = 0 → (wM_in x2.toInt64 (0 : Int64) (2 : Int64) k_1 (fun r_3 k_3 => ((¬ r_3 = 0 → (∃ n_5 : Nat, wM_letsAll n_5 0 x1 0 k_3 (fun k_5 => ((¬ x2 = 0 → ((¬ x2 = (1 : Int32) → Q (k_5.1 49) k_5) ∧ (x2 = (1 : Int32) → Q (k_5.1 48) k_5))) ∧ (x2 = 0 → Q (k_5.1 47) k_5))))) ∧ (r_3 = 0 → Q (-2 : Int32) k_3))))))))
set_option maxHeartbeats 4000000 in
set_option maxRecDepth 100000 in
theorem cM_lets {l : Launch} {D : va_G} {o : Nat} {a : Nat → Nat} {g : Nat → ClassId} {k : GM} {Qp : Int32 → GM → Prop} (x1 : Int32) (x2 : Int32) (h : wM_lets x1 x2 k Qp) : Ci l D (tyA g) (wM o a g) yX10_lets cX10_lets 3 ({ frames := 64, cells := 0, slots := 0, locals := 2348 }) [.ref o, .int x1, .int x2] k Qp := by
  refine Ci_of (by decide) (Nat.le_of_ble_eq_true rfl) ?_
  intro p e s m args below meth c A Z ls C ret hd hl
  have hx := C.1
  have hb := C.2.1
  have hl : lv_has ls 3 [(0, .ref o), (1, .int x1), (2, .int x2)] := hl
  replace h : (wM_in x1.toInt64 (0 : Int64) (99 : Int64) k (fun r_1 k_1 => ((r_1 = 0 → Qp (-2 : Int32) k_1) ∧ (¬ r_1 = 0 → (wM_in x2.toInt64 (0 : Int64) (2 : Int64) k_1 (fun r_3 k_3 => ((¬ r_3 = 0 → (∃ n_5 : Nat, wM_letsAll n_5 0 x1 0 k_3 (fun k_5 => ((¬ x2 = 0 → ((¬ x2 = (1 : Int32) → Qp (k_5.1 49) k_5) ∧ (x2 = (1 : Int32) → Qp (k_5.1 48) k_5))) ∧ (x2 = 0 → Qp (k_5.1 47) k_5))))) ∧ (r_3 = 0 → Qp (-2 : Int32) k_3)))))))) := h
  refine lv_iload_n hx hb dX10_lets_0 rfl (lv_at hl 1 rfl) ?_
  refine lv_i2l (v := x1.toInt64) hx hb dX10_lets_1 rfl ?_
  refine lv_lconst (v := 0) hx hb dX10_lets_2 (by decide) ?_
  refine lv_ldc2 (v := (99 : Int64)) hx hb C.2.2.2.1 (C.2.2.2.2.1 _ q_1326) dX10_lets_3 ?_
  refine xs_z C hd kwRX10_X10_in (cM_in _ _ _ h) ⟨rfl, rfl⟩ ⟨by decide, by decide⟩ hl.1 rfl rfl (Nat.le_of_ble_eq_true rfl) ⟨Nat.zero_le _, Nat.zero_le _⟩ dX10_lets_6 (fun r_1 k_1 H locs hz_1 h hd => ?_)
  refine lv_if_eq (tgt := 24) hx hb dX10_lets_9 (by decide) (fun c_2 => ?_) (fun c_2 => ?_)
  · replace h := h.1 c_2
    refine lv_bipush (v := -2) hx hb dX10_lets_24 (by decide) ?_
    exact ret hd h dX10_lets_26
  · replace h := h.2 c_2
    refine lv_iload_n hx hb dX10_lets_12 rfl (lv_at hl 2 rfl) ?_
    refine lv_i2l (v := x2.toInt64) hx hb dX10_lets_13 rfl ?_
    refine lv_lconst (v := 0) hx hb dX10_lets_14 (by decide) ?_
    refine lv_ldc2 (v := (2 : Int64)) hx hb C.2.2.2.1 (C.2.2.2.2.1 _ q_1331) dX10_lets_15 ?_
    refine xs_z C hd kwRX10_X10_in (cM_in _ _ _ h) ⟨rfl, rfl⟩ ⟨by decide, by decide⟩ hl.1 rfl rfl (Nat.le_of_ble_eq_true rfl) ⟨Nat.zero_le _, Nat.zero_le _⟩ dX10_lets_18 (fun r_3 k_3 H locs hz_3 h hd => ?_)
    refine lv_if_ne (tgt := 27) hx hb dX10_lets_21 (by decide) (fun c_4 => ?_) (fun c_4 => ?_)
    · replace h := h.1 c_4
      refine lv_aload_n hx hb dX10_lets_27 rfl (lv_at hl 0 rfl) ?_
      refine lv_iload_n hx hb dX10_lets_28 rfl (lv_at hl 1 rfl) ?_
      obtain ⟨n_5, h⟩ := h
      refine xv_v C hd kwRX10_X10_letsAll (cM_letsAll n_5 _ h) ⟨rfl, rfl⟩ ⟨by decide, by decide⟩ wM_rcv hl.1 rfl rfl (Nat.le_of_ble_eq_true rfl) ⟨Nat.zero_le _, Nat.zero_le _⟩ dX10_lets_29 (fun k_5 H locs h hd => ?_)
      refine lv_iload_n hx hb dX10_lets_32 rfl (lv_at hl 2 rfl) ?_
      refine lv_if_ne (tgt := 43) hx hb dX10_lets_33 (by decide) (fun c_6 => ?_) (fun c_6 => ?_)
      · replace h := h.1 c_6
        refine lv_iload_n hx hb dX10_lets_43 rfl (lv_at hl 2 rfl) ?_
        refine lv_iconst (v := 1) hx hb dX10_lets_44 (by decide) ?_
        refine lv_icmp_ne (tgt := 55) hx hb dX10_lets_45 (by decide) (fun c_7 => ?_) (fun c_7 => ?_)
        · replace h := h.1 c_7
          refine lv_aload_n hx hb dX10_lets_55 rfl (lv_at hl 0 rfl) ?_
          refine gM_49 C hd (v := k_5.1 49) rfl dX10_lets_56 ?_
          exact ret hd h dX10_lets_59
        · replace h := h.2 c_7
          refine lv_aload_n hx hb dX10_lets_48 rfl (lv_at hl 0 rfl) ?_
          refine gM_48 C hd (v := k_5.1 48) rfl dX10_lets_49 ?_
          refine lv_goto (tgt := 59) hx hb dX10_lets_52 (by decide) ?_
          exact ret hd h dX10_lets_59
      · replace h := h.2 c_6
        refine lv_aload_n hx hb dX10_lets_36 rfl (lv_at hl 0 rfl) ?_
        refine gM_47 C hd (v := k_5.1 47) rfl dX10_lets_37 ?_
        refine lv_goto (tgt := 59) hx hb dX10_lets_40 (by decide) ?_
        exact ret hd h dX10_lets_59
    · replace h := h.2 c_4
      refine lv_bipush (v := -2) hx hb dX10_lets_24 (by decide) ?_
      exact ret hd h dX10_lets_26
