def wC_lets (x1 : Int32) (x2 : Int32) (k : KC) (Q : Int32 → KC → Prop) : Prop := (wC_within x1 (0 : Int32) (99 : Int32) k (fun r_1 k_1 => ((r_1 = 0 → Q (-2 : Int32) k_1) ∧ (¬ r_1 = 0 → (wC_within x2 (0 : Int32) (2 : Int32) k_1 (fun r_3 k_3 => ((¬ r_3 = 0 → (∃ n_5 : Nat, wC_findPaces n_5 0 x1 0 k_3 (fun k_5 => ((¬ x2 = 0 → ((¬ x2 = (1 : Int32) → Q (k_5.1 8 6) k_5) ∧ (x2 = (1 : Int32) → Q (k_5.1 8 5) k_5))) ∧ (x2 = 0 → Q (k_5.1 8 4) k_5))))) ∧ (r_3 = 0 → Q (-2 : Int32) k_3))))))))
set_option maxHeartbeats 4000000 in
set_option maxRecDepth 100000 in
theorem cC_lets {l : Launch} {P : EP} {D : va_G} {a : Nat → Nat} {b : Nat → Nat → Nat} {g : Nat → ClassId} {k : KC} {Qp : Int32 → KC → Prop} (x1 : Int32) (x2 : Int32) (h : wC_lets x1 x2 k Qp) : Di l P D (tyA g) (wC a b g) yX9_lets cX9_lets 3 ({ frames := 7, cells := 0, slots := 0, locals := 169 }) [.ref (a 0), .int x1, .int x2] k Qp := by
  refine Di_of (by decide) (Nat.le_of_ble_eq_true rfl) ?_
  intro p e s m args below meth c A Z ls C ret hd hl
  have hx := C.1
  have hb := C.2.1
  have hl : lv_has ls 3 [(0, .ref (a 0)), (1, .int x1), (2, .int x2)] := hl
  replace h : (wC_within x1 (0 : Int32) (99 : Int32) k (fun r_1 k_1 => ((r_1 = 0 → Qp (-2 : Int32) k_1) ∧ (¬ r_1 = 0 → (wC_within x2 (0 : Int32) (2 : Int32) k_1 (fun r_3 k_3 => ((¬ r_3 = 0 → (∃ n_5 : Nat, wC_findPaces n_5 0 x1 0 k_3 (fun k_5 => ((¬ x2 = 0 → ((¬ x2 = (1 : Int32) → Qp (k_5.1 8 6) k_5) ∧ (x2 = (1 : Int32) → Qp (k_5.1 8 5) k_5))) ∧ (x2 = 0 → Qp (k_5.1 8 4) k_5))))) ∧ (r_3 = 0 → Qp (-2 : Int32) k_3)))))))) := h
  refine lv_iload_n hx hb dX9_lets_0 rfl (lv_at hl 1 rfl) ?_
  refine lv_iconst (v := 0) hx hb dX9_lets_1 (by decide) ?_
  refine lv_bipush (v := 99) hx hb dX9_lets_2 (by decide) ?_
  refine es_z C hd kwRX9_X9_within_70 (cC_within _ _ _ h) ⟨rfl, rfl⟩ ⟨by decide, by decide⟩ hl.1 rfl rfl (Nat.le_of_ble_eq_true rfl) ⟨Nat.zero_le _, Nat.zero_le _⟩ dX9_lets_4 (fun r_1 k_1 H locs hz_1 h hd => ?_)
  refine lv_if_eq (tgt := 19) hx hb dX9_lets_7 (by decide) (fun c_2 => ?_) (fun c_2 => ?_)
  · replace h := h.1 c_2
    refine lv_bipush (v := -2) hx hb dX9_lets_19 (by decide) ?_
    exact ret hd h dX9_lets_21
  · replace h := h.2 c_2
    refine lv_iload_n hx hb dX9_lets_10 rfl (lv_at hl 2 rfl) ?_
    refine lv_iconst (v := 0) hx hb dX9_lets_11 (by decide) ?_
    refine lv_iconst (v := 2) hx hb dX9_lets_12 (by decide) ?_
    refine es_z C hd kwRX9_X9_within_70 (cC_within _ _ _ h) ⟨rfl, rfl⟩ ⟨by decide, by decide⟩ hl.1 rfl rfl (Nat.le_of_ble_eq_true rfl) ⟨Nat.zero_le _, Nat.zero_le _⟩ dX9_lets_13 (fun r_3 k_3 H locs hz_3 h hd => ?_)
    refine lv_if_ne (tgt := 22) hx hb dX9_lets_16 (by decide) (fun c_4 => ?_) (fun c_4 => ?_)
    · replace h := h.1 c_4
      refine lv_aload_n hx hb dX9_lets_22 rfl (lv_at hl 0 rfl) ?_
      refine lv_iload_n hx hb dX9_lets_23 rfl (lv_at hl 1 rfl) ?_
      obtain ⟨n_5, h⟩ := h
      refine ev_v C hd kwRX9_X9_findPaces_232 (cC_findPaces n_5 _ h) ⟨rfl, rfl⟩ ⟨by decide, by decide⟩ rcC9 hl.1 rfl rfl (Nat.le_of_ble_eq_true rfl) ⟨Nat.zero_le _, Nat.zero_le _⟩ dX9_lets_24 (fun k_5 H locs h hd => ?_)
      refine lv_iload_n hx hb dX9_lets_27 rfl (lv_at hl 2 rfl) ?_
      refine lv_if_ne (tgt := 39) hx hb dX9_lets_28 (by decide) (fun c_6 => ?_) (fun c_6 => ?_)
      · replace h := h.1 c_6
        refine lv_iload_n hx hb dX9_lets_39 rfl (lv_at hl 2 rfl) ?_
        refine lv_iconst (v := 1) hx hb dX9_lets_40 (by decide) ?_
        refine lv_icmp_ne (tgt := 54) hx hb dX9_lets_41 (by decide) (fun c_7 => ?_) (fun c_7 => ?_)
        · replace h := h.1 c_7
          refine lv_aload_n hx hb dX9_lets_54 rfl (lv_at hl 0 rfl) ?_
          refine gC9_9_7 C hd dX9_lets_55 ?_
          refine gC9_7_6 C hd (v := k_5.1 8 6) rfl dX9_lets_58 ?_
          exact ret hd h dX9_lets_61
        · replace h := h.2 c_7
          refine lv_aload_n hx hb dX9_lets_44 rfl (lv_at hl 0 rfl) ?_
          refine gC9_9_7 C hd dX9_lets_45 ?_
          refine gC9_7_5 C hd (v := k_5.1 8 5) rfl dX9_lets_48 ?_
          refine lv_goto (tgt := 61) hx hb dX9_lets_51 (by decide) ?_
          exact ret hd h dX9_lets_61
      · replace h := h.2 c_6
        refine lv_aload_n hx hb dX9_lets_31 rfl (lv_at hl 0 rfl) ?_
        refine gC9_9_7 C hd dX9_lets_32 ?_
        refine gC9_7_4 C hd (v := k_5.1 8 4) rfl dX9_lets_35 ?_
        exact ret hd h dX9_lets_38
    · replace h := h.2 c_4
      refine lv_bipush (v := -2) hx hb dX9_lets_19 (by decide) ?_
      exact ret hd h dX9_lets_21
def wC_like (x1 : Int32) (x2 : Int32) (x3 : Int32) (k : KC) (Q : Int32 → KC → Prop) : Prop := (wC_X8_areTwoSigns x1 x2 k (fun r_1 k_1 => ((r_1 = 0 → Q (-2 : Int32) k_1) ∧ (¬ r_1 = 0 → (wC_within x3 (0 : Int32) (100 : Int32) k_1 (fun r_3 k_3 => ((¬ r_3 = 0 → (wC_X8_likeOf x1 x2 k_3 (fun r_5 k_5 => (wC_X8_setLike x1 x2 x3 k_5 (fun k_6 => Q r_5 k_6))))) ∧ (r_3 = 0 → Q (-2 : Int32) k_3))))))))
set_option maxHeartbeats 4000000 in
set_option maxRecDepth 100000 in
theorem cC_like {l : Launch} {P : EP} {D : va_G} {a : Nat → Nat} {b : Nat → Nat → Nat} {g : Nat → ClassId} {k : KC} {Qp : Int32 → KC → Prop} (x1 : Int32) (x2 : Int32) (x3 : Int32) (h : wC_like x1 x2 x3 k Qp) : Di l P D (tyA g) (wC a b g) yX9_like cX9_like 5 ({ frames := 3, cells := 0, slots := 0, locals := 65 }) [.ref (a 0), .int x1, .int x2, .int x3] k Qp := by
  refine Di_of (by decide) (Nat.le_of_ble_eq_true rfl) ?_
  intro p e s m args below meth c A Z ls C ret hd hl
  have hx := C.1
  have hb := C.2.1
  have hl : lv_has ls 5 [(0, .ref (a 0)), (1, .int x1), (2, .int x2), (3, .int x3)] := hl
  replace h : (wC_X8_areTwoSigns x1 x2 k (fun r_1 k_1 => ((r_1 = 0 → Qp (-2 : Int32) k_1) ∧ (¬ r_1 = 0 → (wC_within x3 (0 : Int32) (100 : Int32) k_1 (fun r_3 k_3 => ((¬ r_3 = 0 → (wC_X8_likeOf x1 x2 k_3 (fun r_5 k_5 => (wC_X8_setLike x1 x2 x3 k_5 (fun k_6 => Qp r_5 k_6))))) ∧ (r_3 = 0 → Qp (-2 : Int32) k_3)))))))) := h
  refine lv_aload_n hx hb dX9_like_0 rfl (lv_at hl 0 rfl) ?_
  refine gC9_9_0 C hd dX9_like_1 ?_
  refine lv_iload_n hx hb dX9_like_4 rfl (lv_at hl 1 rfl) ?_
  refine lv_iload_n hx hb dX9_like_5 rfl (lv_at hl 2 rfl) ?_
  refine ev_z C hd kwRX9_X8_areTwoSigns_109 (cC_X8_areTwoSigns _ _ h) ⟨rfl, rfl⟩ ⟨by decide, by decide⟩ rcC8 hl.1 rfl rfl (Nat.le_of_ble_eq_true rfl) ⟨Nat.zero_le _, Nat.zero_le _⟩ dX9_like_6 (fun r_1 k_1 H locs hz_1 h hd => ?_)
  refine lv_if_eq (tgt := 22) hx hb dX9_like_9 (by decide) (fun c_2 => ?_) (fun c_2 => ?_)
  · replace h := h.1 c_2
    refine lv_bipush (v := -2) hx hb dX9_like_22 (by decide) ?_
    exact ret hd h dX9_like_24
  · replace h := h.2 c_2
    refine lv_iload_n hx hb dX9_like_12 rfl (lv_at hl 3 rfl) ?_
    refine lv_iconst (v := 0) hx hb dX9_like_13 (by decide) ?_
    refine lv_bipush (v := 100) hx hb dX9_like_14 (by decide) ?_
    refine es_z C hd kwRX9_X9_within_70 (cC_within _ _ _ h) ⟨rfl, rfl⟩ ⟨by decide, by decide⟩ hl.1 rfl rfl (Nat.le_of_ble_eq_true rfl) ⟨Nat.zero_le _, Nat.zero_le _⟩ dX9_like_16 (fun r_3 k_3 H locs hz_3 h hd => ?_)
    refine lv_if_ne (tgt := 25) hx hb dX9_like_19 (by decide) (fun c_4 => ?_) (fun c_4 => ?_)
    · replace h := h.1 c_4
      refine lv_aload_n hx hb dX9_like_25 rfl (lv_at hl 0 rfl) ?_
      refine gC9_9_0 C hd dX9_like_26 ?_
      refine lv_iload_n hx hb dX9_like_29 rfl (lv_at hl 1 rfl) ?_
      refine lv_iload_n hx hb dX9_like_30 rfl (lv_at hl 2 rfl) ?_
      refine ev_i C hd kwRX9_X8_likeOf_113 (cC_X8_likeOf _ _ h) ⟨rfl, rfl⟩ ⟨by decide, by decide⟩ rcC8 hl.1 rfl rfl (Nat.le_of_ble_eq_true rfl) ⟨Nat.zero_le _, Nat.zero_le _⟩ dX9_like_31 (fun r_5 k_5 H locs h hd => ?_)
      refine lv_istore (lv' := [(4, .int r_5), (0, .ref (a 0)), (1, .int x1), (2, .int x2), (3, .int x3)]) hx hb dX9_like_34 hl (by decide) rfl (fun ls hl => ?_)
      refine lv_aload_n hx hb dX9_like_36 rfl (lv_at hl 1 rfl) ?_
      refine gC9_9_0 C hd dX9_like_37 ?_
      refine lv_iload_n hx hb dX9_like_40 rfl (lv_at hl 2 rfl) ?_
      refine lv_iload_n hx hb dX9_like_41 rfl (lv_at hl 3 rfl) ?_
      refine lv_iload_n hx hb dX9_like_42 rfl (lv_at hl 4 rfl) ?_
      refine ev_v C hd kwRX9_X8_setLike_117 (cC_X8_setLike _ _ _ h) ⟨rfl, rfl⟩ ⟨by decide, by decide⟩ rcC8 hl.1 rfl rfl (Nat.le_of_ble_eq_true rfl) ⟨Nat.zero_le _, Nat.zero_le _⟩ dX9_like_43 (fun k_6 H locs h hd => ?_)
      refine lv_iload hx hb dX9_like_46 (lv_at hl 0 rfl) ?_
      exact ret hd h dX9_like_48
    · replace h := h.2 c_4
      refine lv_bipush (v := -2) hx hb dX9_like_22 (by decide) ?_
      exact ret hd h dX9_like_24
def wC_near : Nat → Nat → Int32 → Int32 → Int32 → Int32 → Int32 → Dn → Int32 → Int32 → Int32 → KC → (Int32 → KC → Prop) → Prop
  | 0, _, _, _, _, _, _, _, _, _, _, _, _ => False
  | n + 1, c, x1, x2, x3, x4, x5, d6, x7, x8, x9, k, Q => match c with
    | 0 => (wC_X8_planAt x3 k (fun r_1 k_1 => ((r_1 = none → (wC_X8_areTwoSigns x1 x2 k_1 (fun r_3 k_3 => ((r_3 = 0 → Q (-2 : Int32) k_3) ∧ (¬ r_3 = 0 → Q (-2 : Int32) k_3))))) ∧ (∀ x_2 : Nat, r_1 = some x_2 → ∃ d_2 : Dn, d_2.1 = x_2 ∧ (wC_X8_areTwoSigns x1 x2 k_1 (fun r_5 k_5 => ((r_5 = 0 → Q (-2 : Int32) k_5) ∧ (¬ r_5 = 0 → (wC_within x4 (1 : Int32) (20 : Int32) k_5 (fun r_7 k_7 => ((r_7 = 0 → Q (-2 : Int32) k_7) ∧ (¬ r_7 = 0 → (wC_within x5 (1 : Int32) (99 : Int32) k_7 (fun r_9 k_9 => ((¬ r_9 = 0 → (wC_X8_likeOf x1 x2 k_9 (fun r_11 k_11 => wC_near n 1 x1 x2 0 x4 x5 d_2 r_11 (-1 : Int32) (100 : Int32) k_11 Q))) ∧ (r_9 = 0 → Q (-2 : Int32) k_9))))))))))))))))
    | _ => ((x9 < 0 → (wC_X8_setLike x1 x2 x7 k (fun k_13 => Q x8 k_13))) ∧ (¬ x9 < 0 → ((¬ x8 = (-1 : Int32) → (wC_X8_setLike x1 x2 x7 k (fun k_15 => Q x8 k_15))) ∧ (x8 = (-1 : Int32) → (wC_X8_setLike x1 x2 x9 k (fun k_16 => (∃ n_17 : Nat, wC_dropsApart d6 n_17 0 x1 x2 x4 0 k_16 (fun r_17 k_17 => ((r_17 < x5 → wC_near n 1 x1 x2 0 x4 x5 d6 x7 x8 (x9 + (-5 : Int32)) k_17 Q) ∧ (¬ r_17 < x5 → wC_near n 1 x1 x2 0 x4 x5 d6 x7 x9 (x9 + (-5 : Int32)) k_17 Q))))))))))
set_option maxHeartbeats 4000000 in
set_option maxRecDepth 100000 in
theorem cC_near {l : Launch} {P : EP} {D : va_G} {a : Nat → Nat} {b : Nat → Nat → Nat} {g : Nat → ClassId} {k : KC} {Qp : Int32 → KC → Prop} (n : Nat) (x1 : Int32) (x2 : Int32) (x3 : Int32) (x4 : Int32) (x5 : Int32) (h : wC_near n 0 x1 x2 x3 x4 x5 dn0 0 0 0 k Qp) : Di l P D (tyA g) (wC a b g) yX9_near cX9_near 10 ({ frames := 6, cells := 0, slots := 0, locals := 148 }) [.ref (a 0), .int x1, .int x2, .int x3, .int x4, .int x5] k Qp := by
  refine Di_of (by decide) (Nat.le_of_ble_eq_true rfl) ?_
  intro p e s m args below meth c A Z ls C ret hd hl
  have hx := C.1
  have hb := C.2.1
  have hl : lv_has ls 10 [(0, .ref (a 0)), (1, .int x1), (2, .int x2), (3, .int x3), (4, .int x4), (5, .int x5)] := hl
  have L : ∀ n : Nat, (∀ (x1 : Int32) (x2 : Int32) (x4 : Int32) (x5 : Int32) (d6 : Dn) (x7 : Int32) (x8 : Int32) (x9 : Int32) (k : KC) (H : Heap) (locs : List Loc) (ls : Array Slot), wC_near n 1 x1 x2 0 x4 x5 d6 x7 x8 x9 k Qp → Hd D (wC a b g k) A s H locs → lv_has ls 10 [(0, .ref (a 0)), (1, .int x1), (2, .int x2), (4, .int x4), (5, .int x5), (6, .ref d6.1), (7, .int x7), (8, .int x8), (9, .int x9)] → W p l e ({ frames := 6, cells := 0, slots := 0, locals := 148 }) s m args below meth c H locs 0 0 Z (F0 m 70 ls [])) := by
    intro n
    induction n with
    | zero => exact fun _ _ _ _ _ _ _ _ _ _ _ _ h => h.elim
    | succ n ih =>
      intro x1 x2 x4 x5 d6 x7 x8 x9 k H locs ls h hd hl
      replace h : ((x9 < 0 → (wC_X8_setLike x1 x2 x7 k (fun k_13 => Qp x8 k_13))) ∧ (¬ x9 < 0 → ((¬ x8 = (-1 : Int32) → (wC_X8_setLike x1 x2 x7 k (fun k_15 => Qp x8 k_15))) ∧ (x8 = (-1 : Int32) → (wC_X8_setLike x1 x2 x9 k (fun k_16 => (∃ n_17 : Nat, wC_dropsApart d6 n_17 0 x1 x2 x4 0 k_16 (fun r_17 k_17 => ((r_17 < x5 → wC_near n 1 x1 x2 0 x4 x5 d6 x7 x8 (x9 + (-5 : Int32)) k_17 Qp) ∧ (¬ r_17 < x5 → wC_near n 1 x1 x2 0 x4 x5 d6 x7 x9 (x9 + (-5 : Int32)) k_17 Qp)))))))))) := h
      refine lv_iload hx hb dX9_near_70 (lv_at hl 8 rfl) ?_
      refine lv_if_lt (tgt := 117) hx hb dX9_near_72 (by decide) (fun c_12 => ?_) (fun c_12 => ?_)
      · replace h := h.1 c_12
        refine lv_aload_n hx hb dX9_near_117 rfl (lv_at hl 0 rfl) ?_
        refine gC9_9_0 C hd dX9_near_118 ?_
        refine lv_iload_n hx hb dX9_near_121 rfl (lv_at hl 1 rfl) ?_
        refine lv_iload_n hx hb dX9_near_122 rfl (lv_at hl 2 rfl) ?_
        refine lv_iload hx hb dX9_near_123 (lv_at hl 6 rfl) ?_
        refine ev_v C hd kwRX9_X8_setLike_117 (cC_X8_setLike _ _ _ h) ⟨rfl, rfl⟩ ⟨by decide, by decide⟩ rcC8 hl.1 rfl rfl (Nat.le_of_ble_eq_true rfl) ⟨Nat.zero_le _, Nat.zero_le _⟩ dX9_near_125 (fun k_13 H locs h hd => ?_)
        refine lv_iload hx hb dX9_near_128 (lv_at hl 7 rfl) ?_
        exact ret hd h dX9_near_130
      · replace h := h.2 c_12
        refine lv_iload hx hb dX9_near_75 (lv_at hl 7 rfl) ?_
        refine lv_iconst (v := -1) hx hb dX9_near_77 (by decide) ?_
        refine lv_icmp_ne (tgt := 117) hx hb dX9_near_78 (by decide) (fun c_14 => ?_) (fun c_14 => ?_)
        · replace h := h.1 c_14
          refine lv_aload_n hx hb dX9_near_117 rfl (lv_at hl 0 rfl) ?_
          refine gC9_9_0 C hd dX9_near_118 ?_
          refine lv_iload_n hx hb dX9_near_121 rfl (lv_at hl 1 rfl) ?_
          refine lv_iload_n hx hb dX9_near_122 rfl (lv_at hl 2 rfl) ?_
          refine lv_iload hx hb dX9_near_123 (lv_at hl 6 rfl) ?_
          refine ev_v C hd kwRX9_X8_setLike_117 (cC_X8_setLike _ _ _ h) ⟨rfl, rfl⟩ ⟨by decide, by decide⟩ rcC8 hl.1 rfl rfl (Nat.le_of_ble_eq_true rfl) ⟨Nat.zero_le _, Nat.zero_le _⟩ dX9_near_125 (fun k_15 H locs h hd => ?_)
          refine lv_iload hx hb dX9_near_128 (lv_at hl 7 rfl) ?_
          exact ret hd h dX9_near_130
        · replace h := h.2 c_14
          refine lv_aload_n hx hb dX9_near_81 rfl (lv_at hl 0 rfl) ?_
          refine gC9_9_0 C hd dX9_near_82 ?_
          refine lv_iload_n hx hb dX9_near_85 rfl (lv_at hl 1 rfl) ?_
          refine lv_iload_n hx hb dX9_near_86 rfl (lv_at hl 2 rfl) ?_
          refine lv_iload hx hb dX9_near_87 (lv_at hl 8 rfl) ?_
          refine ev_v C hd kwRX9_X8_setLike_117 (cC_X8_setLike _ _ _ h) ⟨rfl, rfl⟩ ⟨by decide, by decide⟩ rcC8 hl.1 rfl rfl (Nat.le_of_ble_eq_true rfl) ⟨Nat.zero_le _, Nat.zero_le _⟩ dX9_near_89 (fun k_16 H locs h hd => ?_)
          refine lv_aload_n hx hb dX9_near_92 rfl (lv_at hl 0 rfl) ?_
          refine lv_iload_n hx hb dX9_near_93 rfl (lv_at hl 1 rfl) ?_
          refine lv_iload_n hx hb dX9_near_94 rfl (lv_at hl 2 rfl) ?_
          refine lv_aload hx hb dX9_near_95 (lv_at hl 5 rfl) ?_
          refine lv_iload hx hb dX9_near_97 (lv_at hl 3 rfl) ?_
          obtain ⟨n_17, h⟩ := h
          refine ev_i C hd kwRX9_X9_dropsApart_257 (cC_dropsApart n_17 _ _ _ h) ⟨rfl, rfl⟩ ⟨by decide, by decide⟩ rcC9 hl.1 rfl rfl (Nat.le_of_ble_eq_true rfl) ⟨Nat.zero_le _, Nat.zero_le _⟩ dX9_near_99 (fun r_17 k_17 H locs h hd => ?_)
          refine lv_iload hx hb dX9_near_102 (lv_at hl 4 rfl) ?_
          refine lv_icmp_lt (tgt := 111) hx hb dX9_near_104 (by decide) (fun c_18 => ?_) (fun c_18 => ?_)
          · replace h := h.1 c_18
            refine lv_iinc (v := (x9 + (-5 : Int32))) (lv' := [(9, .int (x9 + (-5 : Int32))), (0, .ref (a 0)), (1, .int x1), (2, .int x2), (4, .int x4), (5, .int x5), (6, .ref d6.1), (7, .int x7), (8, .int x8)]) hx hb dX9_near_111 hl (k := 8) rfl rfl (by decide) rfl (fun ls hl => ?_)
            refine lv_goto (tgt := 70) hx hb dX9_near_114 (by decide) ?_
            exact ih x1 x2 x4 x5 d6 x7 x8 (x9 + (-5 : Int32))  _ _ _ _ h hd (lv_sub hl [1, 2, 3, 4, 5, 6, 7, 8, 0] rfl)
          · replace h := h.2 c_18
            refine lv_iload hx hb dX9_near_107 (lv_at hl 8 rfl) ?_
            refine lv_istore (lv' := [(8, .int x9), (0, .ref (a 0)), (1, .int x1), (2, .int x2), (4, .int x4), (5, .int x5), (6, .ref d6.1), (7, .int x7), (9, .int x9)]) hx hb dX9_near_109 hl (by decide) rfl (fun ls hl => ?_)
            refine lv_iinc (v := (x9 + (-5 : Int32))) (lv' := [(9, .int (x9 + (-5 : Int32))), (8, .int x9), (0, .ref (a 0)), (1, .int x1), (2, .int x2), (4, .int x4), (5, .int x5), (6, .ref d6.1), (7, .int x7)]) hx hb dX9_near_111 hl (k := 8) rfl rfl (by decide) rfl (fun ls hl => ?_)
            refine lv_goto (tgt := 70) hx hb dX9_near_114 (by decide) ?_
            exact ih x1 x2 x4 x5 d6 x7 x9 (x9 + (-5 : Int32))  _ _ _ _ h hd (lv_sub hl [2, 3, 4, 5, 6, 7, 8, 1, 0] rfl)
  cases n with
  | zero => exact h.elim
  | succ n =>
    replace h : (wC_X8_planAt x3 k (fun r_1 k_1 => ((r_1 = none → (wC_X8_areTwoSigns x1 x2 k_1 (fun r_3 k_3 => ((r_3 = 0 → Qp (-2 : Int32) k_3) ∧ (¬ r_3 = 0 → Qp (-2 : Int32) k_3))))) ∧ (∀ x_2 : Nat, r_1 = some x_2 → ∃ d_2 : Dn, d_2.1 = x_2 ∧ (wC_X8_areTwoSigns x1 x2 k_1 (fun r_5 k_5 => ((r_5 = 0 → Qp (-2 : Int32) k_5) ∧ (¬ r_5 = 0 → (wC_within x4 (1 : Int32) (20 : Int32) k_5 (fun r_7 k_7 => ((r_7 = 0 → Qp (-2 : Int32) k_7) ∧ (¬ r_7 = 0 → (wC_within x5 (1 : Int32) (99 : Int32) k_7 (fun r_9 k_9 => ((¬ r_9 = 0 → (wC_X8_likeOf x1 x2 k_9 (fun r_11 k_11 => wC_near n 1 x1 x2 0 x4 x5 d_2 r_11 (-1 : Int32) (100 : Int32) k_11 Qp))) ∧ (r_9 = 0 → Qp (-2 : Int32) k_9)))))))))))))))) := h
    refine lv_aload_n hx hb dX9_near_0 rfl (lv_at hl 0 rfl) ?_
    refine gC9_9_0 C hd dX9_near_1 ?_
    refine lv_iload_n hx hb dX9_near_4 rfl (lv_at hl 3 rfl) ?_
    refine ev_q C hd kwRX9_X8_planAt_159 (cC_X8_planAt _ h) ⟨rfl, rfl⟩ ⟨by decide, by decide⟩ rcC8 hl.1 rfl rfl (Nat.le_of_ble_eq_true rfl) ⟨Nat.zero_le _, Nat.zero_le _⟩ dX9_near_5 (fun r_1 k_1 H locs h hd => ?_)
    refine rf_split (fun e_2 => ?_) (fun x_2 e_2 => ?_)
    · replace h := h.1 e_2
      refine lv_astoreN (lv' := [(6, .null), (0, .ref (a 0)), (1, .int x1), (2, .int x2), (3, .int x3), (4, .int x4), (5, .int x5)]) hx hb dX9_near_8 hl (by decide) rfl (fun ls hl => ?_)
      refine lv_aload_n hx hb dX9_near_10 rfl (lv_at hl 1 rfl) ?_
      refine gC9_9_0 C hd dX9_near_11 ?_
      refine lv_iload_n hx hb dX9_near_14 rfl (lv_at hl 2 rfl) ?_
      refine lv_iload_n hx hb dX9_near_15 rfl (lv_at hl 3 rfl) ?_
      refine ev_z C hd kwRX9_X8_areTwoSigns_109 (cC_X8_areTwoSigns _ _ h) ⟨rfl, rfl⟩ ⟨by decide, by decide⟩ rcC8 hl.1 rfl rfl (Nat.le_of_ble_eq_true rfl) ⟨Nat.zero_le _, Nat.zero_le _⟩ dX9_near_16 (fun r_3 k_3 H locs hz_3 h hd => ?_)
      refine lv_if_eq (tgt := 49) hx hb dX9_near_19 (by decide) (fun c_4 => ?_) (fun c_4 => ?_)
      · replace h := h.1 c_4
        refine lv_bipush (v := -2) hx hb dX9_near_49 (by decide) ?_
        exact ret hd h dX9_near_51
      · replace h := h.2 c_4
        refine lv_aloadN hx hb dX9_near_22 (lv_at hl 0 rfl) ?_
        refine lv_ifnullN (tgt := 49) hx hb dX9_near_24 (by decide) ?_
        refine lv_bipush (v := -2) hx hb dX9_near_49 (by decide) ?_
        exact ret hd h dX9_near_51
    · obtain ⟨d_2, hx_2, h⟩ := h.2 x_2 e_2
      subst hx_2
      refine lv_astore (lv' := [(6, .ref d_2.1), (0, .ref (a 0)), (1, .int x1), (2, .int x2), (3, .int x3), (4, .int x4), (5, .int x5)]) hx hb dX9_near_8 hl (by decide) rfl (fun ls hl => ?_)
      refine lv_aload_n hx hb dX9_near_10 rfl (lv_at hl 1 rfl) ?_
      refine gC9_9_0 C hd dX9_near_11 ?_
      refine lv_iload_n hx hb dX9_near_14 rfl (lv_at hl 2 rfl) ?_
      refine lv_iload_n hx hb dX9_near_15 rfl (lv_at hl 3 rfl) ?_
      refine ev_z C hd kwRX9_X8_areTwoSigns_109 (cC_X8_areTwoSigns _ _ h) ⟨rfl, rfl⟩ ⟨by decide, by decide⟩ rcC8 hl.1 rfl rfl (Nat.le_of_ble_eq_true rfl) ⟨Nat.zero_le _, Nat.zero_le _⟩ dX9_near_16 (fun r_5 k_5 H locs hz_5 h hd => ?_)
      refine lv_if_eq (tgt := 49) hx hb dX9_near_19 (by decide) (fun c_6 => ?_) (fun c_6 => ?_)
      · replace h := h.1 c_6
        refine lv_bipush (v := -2) hx hb dX9_near_49 (by decide) ?_
        exact ret hd h dX9_near_51
      · replace h := h.2 c_6
        refine lv_aload hx hb dX9_near_22 (lv_at hl 0 rfl) ?_
        refine lv_ifnull hx hb dX9_near_24 ?_
        refine lv_iload hx hb dX9_near_27 (lv_at hl 5 rfl) ?_
        refine lv_iconst (v := 1) hx hb dX9_near_29 (by decide) ?_
        refine lv_bipush (v := 20) hx hb dX9_near_30 (by decide) ?_
        refine es_z C hd kwRX9_X9_within_70 (cC_within _ _ _ h) ⟨rfl, rfl⟩ ⟨by decide, by decide⟩ hl.1 rfl rfl (Nat.le_of_ble_eq_true rfl) ⟨Nat.zero_le _, Nat.zero_le _⟩ dX9_near_32 (fun r_7 k_7 H locs hz_7 h hd => ?_)
        refine lv_if_eq (tgt := 49) hx hb dX9_near_35 (by decide) (fun c_8 => ?_) (fun c_8 => ?_)
        · replace h := h.1 c_8
          refine lv_bipush (v := -2) hx hb dX9_near_49 (by decide) ?_
          exact ret hd h dX9_near_51
        · replace h := h.2 c_8
          refine lv_iload hx hb dX9_near_38 (lv_at hl 6 rfl) ?_
          refine lv_iconst (v := 1) hx hb dX9_near_40 (by decide) ?_
          refine lv_bipush (v := 99) hx hb dX9_near_41 (by decide) ?_
          refine es_z C hd kwRX9_X9_within_70 (cC_within _ _ _ h) ⟨rfl, rfl⟩ ⟨by decide, by decide⟩ hl.1 rfl rfl (Nat.le_of_ble_eq_true rfl) ⟨Nat.zero_le _, Nat.zero_le _⟩ dX9_near_43 (fun r_9 k_9 H locs hz_9 h hd => ?_)
          refine lv_if_ne (tgt := 52) hx hb dX9_near_46 (by decide) (fun c_10 => ?_) (fun c_10 => ?_)
          · replace h := h.1 c_10
            refine lv_aload_n hx hb dX9_near_52 rfl (lv_at hl 1 rfl) ?_
            refine gC9_9_0 C hd dX9_near_53 ?_
            refine lv_iload_n hx hb dX9_near_56 rfl (lv_at hl 2 rfl) ?_
            refine lv_iload_n hx hb dX9_near_57 rfl (lv_at hl 3 rfl) ?_
            refine ev_i C hd kwRX9_X8_likeOf_113 (cC_X8_likeOf _ _ h) ⟨rfl, rfl⟩ ⟨by decide, by decide⟩ rcC8 hl.1 rfl rfl (Nat.le_of_ble_eq_true rfl) ⟨Nat.zero_le _, Nat.zero_le _⟩ dX9_near_58 (fun r_11 k_11 H locs h hd => ?_)
            refine lv_istore (lv' := [(7, .int r_11), (6, .ref d_2.1), (0, .ref (a 0)), (1, .int x1), (2, .int x2), (3, .int x3), (4, .int x4), (5, .int x5)]) hx hb dX9_near_61 hl (by decide) rfl (fun ls hl => ?_)
            refine lv_iconst (v := -1) hx hb dX9_near_63 (by decide) ?_
            refine lv_istore (lv' := [(8, .int (-1 : Int32)), (7, .int r_11), (6, .ref d_2.1), (0, .ref (a 0)), (1, .int x1), (2, .int x2), (3, .int x3), (4, .int x4), (5, .int x5)]) hx hb dX9_near_64 hl (by decide) rfl (fun ls hl => ?_)
            refine lv_bipush (v := 100) hx hb dX9_near_66 (by decide) ?_
            refine lv_istore (lv' := [(9, .int (100 : Int32)), (8, .int (-1 : Int32)), (7, .int r_11), (6, .ref d_2.1), (0, .ref (a 0)), (1, .int x1), (2, .int x2), (3, .int x3), (4, .int x4), (5, .int x5)]) hx hb dX9_near_68 hl (by decide) rfl (fun ls hl => ?_)
            exact L n x1 x2 x4 x5 d_2 r_11 (-1 : Int32) (100 : Int32)  _ _ _ _ h hd (lv_sub hl [4, 5, 6, 8, 9, 3, 2, 1, 0] rfl)
          · replace h := h.2 c_10
            refine lv_bipush (v := -2) hx hb dX9_near_49 (by decide) ?_
            exact ret hd h dX9_near_51
def wC_next (x1 : Int32) (x2 : Int32) (x3 : Int32) (k : KC) (Q : Int32 → KC → Prop) : Prop := (wC_within x1 (0 : Int32) (99 : Int32) k (fun r_1 k_1 => ((r_1 = 0 → Q (-2 : Int32) k_1) ∧ (¬ r_1 = 0 → (wC_isSomeSet x2 k_1 (fun r_3 k_3 => ((r_3 = 0 → Q (-2 : Int32) k_3) ∧ (¬ r_3 = 0 → (wC_within x3 (0 : Int32) (1 : Int32) k_3 (fun r_5 k_5 => ((¬ r_5 = 0 → ((¬ (k_5.1 1 2) = 0 → (∃ n_8 : Nat, wC_findPaces n_8 0 x1 0 k_5 (fun k_8 => ((¬ (k_8.1 8 4) = 0 → (∃ n_10 : Nat, wC_findFarthest n_10 0 x2 0 k_8 (fun k_10 => ((¬ x3 = 0 → Q (k_10.1 8 9) k_10) ∧ (x3 = 0 → Q (k_10.1 8 8) k_10))))) ∧ ((k_8.1 8 4) = 0 → Q (-3 : Int32) k_8))))) ∧ ((k_5.1 1 2) = 0 → Q (-3 : Int32) k_5))) ∧ (r_5 = 0 → Q (-2 : Int32) k_5))))))))))))
set_option maxHeartbeats 4000000 in
set_option maxRecDepth 100000 in
theorem cC_next {l : Launch} {P : EP} {D : va_G} {a : Nat → Nat} {b : Nat → Nat → Nat} {g : Nat → ClassId} {k : KC} {Qp : Int32 → KC → Prop} (x1 : Int32) (x2 : Int32) (x3 : Int32) (h : wC_next x1 x2 x3 k Qp) : Di l P D (tyA g) (wC a b g) yX9_next cX9_next 4 ({ frames := 7, cells := 0, slots := 0, locals := 172 }) [.ref (a 0), .int x1, .int x2, .int x3] k Qp := by
  refine Di_of (by decide) (Nat.le_of_ble_eq_true rfl) ?_
  intro p e s m args below meth c A Z ls C ret hd hl
  have hx := C.1
  have hb := C.2.1
  have hl : lv_has ls 4 [(0, .ref (a 0)), (1, .int x1), (2, .int x2), (3, .int x3)] := hl
  replace h : (wC_within x1 (0 : Int32) (99 : Int32) k (fun r_1 k_1 => ((r_1 = 0 → Qp (-2 : Int32) k_1) ∧ (¬ r_1 = 0 → (wC_isSomeSet x2 k_1 (fun r_3 k_3 => ((r_3 = 0 → Qp (-2 : Int32) k_3) ∧ (¬ r_3 = 0 → (wC_within x3 (0 : Int32) (1 : Int32) k_3 (fun r_5 k_5 => ((¬ r_5 = 0 → ((¬ (k_5.1 1 2) = 0 → (∃ n_8 : Nat, wC_findPaces n_8 0 x1 0 k_5 (fun k_8 => ((¬ (k_8.1 8 4) = 0 → (∃ n_10 : Nat, wC_findFarthest n_10 0 x2 0 k_8 (fun k_10 => ((¬ x3 = 0 → Qp (k_10.1 8 9) k_10) ∧ (x3 = 0 → Qp (k_10.1 8 8) k_10))))) ∧ ((k_8.1 8 4) = 0 → Qp (-3 : Int32) k_8))))) ∧ ((k_5.1 1 2) = 0 → Qp (-3 : Int32) k_5))) ∧ (r_5 = 0 → Qp (-2 : Int32) k_5)))))))))))) := h
  refine lv_iload_n hx hb dX9_next_0 rfl (lv_at hl 1 rfl) ?_
  refine lv_iconst (v := 0) hx hb dX9_next_1 (by decide) ?_
  refine lv_bipush (v := 99) hx hb dX9_next_2 (by decide) ?_
  refine es_z C hd kwRX9_X9_within_70 (cC_within _ _ _ h) ⟨rfl, rfl⟩ ⟨by decide, by decide⟩ hl.1 rfl rfl (Nat.le_of_ble_eq_true rfl) ⟨Nat.zero_le _, Nat.zero_le _⟩ dX9_next_4 (fun r_1 k_1 H locs hz_1 h hd => ?_)
  refine lv_if_eq (tgt := 27) hx hb dX9_next_7 (by decide) (fun c_2 => ?_) (fun c_2 => ?_)
  · replace h := h.1 c_2
    refine lv_bipush (v := -2) hx hb dX9_next_27 (by decide) ?_
    exact ret hd h dX9_next_29
  · replace h := h.2 c_2
    refine lv_aload_n hx hb dX9_next_10 rfl (lv_at hl 0 rfl) ?_
    refine lv_iload_n hx hb dX9_next_11 rfl (lv_at hl 2 rfl) ?_
    refine ev_z C hd kwRX9_X9_isSomeSet_225 (cC_isSomeSet _ h) ⟨rfl, rfl⟩ ⟨by decide, by decide⟩ rcC9 hl.1 rfl rfl (Nat.le_of_ble_eq_true rfl) ⟨Nat.zero_le _, Nat.zero_le _⟩ dX9_next_12 (fun r_3 k_3 H locs hz_3 h hd => ?_)
    refine lv_if_eq (tgt := 27) hx hb dX9_next_15 (by decide) (fun c_4 => ?_) (fun c_4 => ?_)
    · replace h := h.1 c_4
      refine lv_bipush (v := -2) hx hb dX9_next_27 (by decide) ?_
      exact ret hd h dX9_next_29
    · replace h := h.2 c_4
      refine lv_iload_n hx hb dX9_next_18 rfl (lv_at hl 3 rfl) ?_
      refine lv_iconst (v := 0) hx hb dX9_next_19 (by decide) ?_
      refine lv_iconst (v := 1) hx hb dX9_next_20 (by decide) ?_
      refine es_z C hd kwRX9_X9_within_70 (cC_within _ _ _ h) ⟨rfl, rfl⟩ ⟨by decide, by decide⟩ hl.1 rfl rfl (Nat.le_of_ble_eq_true rfl) ⟨Nat.zero_le _, Nat.zero_le _⟩ dX9_next_21 (fun r_5 k_5 H locs hz_5 h hd => ?_)
      refine lv_if_ne (tgt := 30) hx hb dX9_next_24 (by decide) (fun c_6 => ?_) (fun c_6 => ?_)
      · replace h := h.1 c_6
        refine lv_aload_n hx hb dX9_next_30 rfl (lv_at hl 0 rfl) ?_
        refine gC9_9_0 C hd dX9_next_31 ?_
        refine gC9_8_2 C hd (v := k_5.1 1 2) rfl dX9_next_34 ?_
        refine lv_if_ne (tgt := 43) hx hb dX9_next_37 (by decide) (fun c_7 => ?_) (fun c_7 => ?_)
        · replace h := h.1 c_7
          refine lv_aload_n hx hb dX9_next_43 rfl (lv_at hl 0 rfl) ?_
          refine lv_iload_n hx hb dX9_next_44 rfl (lv_at hl 1 rfl) ?_
          obtain ⟨n_8, h⟩ := h
          refine ev_v C hd kwRX9_X9_findPaces_232 (cC_findPaces n_8 _ h) ⟨rfl, rfl⟩ ⟨by decide, by decide⟩ rcC9 hl.1 rfl rfl (Nat.le_of_ble_eq_true rfl) ⟨Nat.zero_le _, Nat.zero_le _⟩ dX9_next_45 (fun k_8 H locs h hd => ?_)
          refine lv_aload_n hx hb dX9_next_48 rfl (lv_at hl 0 rfl) ?_
          refine gC9_9_7 C hd dX9_next_49 ?_
          refine gC9_7_4 C hd (v := k_8.1 8 4) rfl dX9_next_52 ?_
          refine lv_if_ne (tgt := 61) hx hb dX9_next_55 (by decide) (fun c_9 => ?_) (fun c_9 => ?_)
          · replace h := h.1 c_9
            refine lv_aload_n hx hb dX9_next_61 rfl (lv_at hl 0 rfl) ?_
            refine lv_iload_n hx hb dX9_next_62 rfl (lv_at hl 2 rfl) ?_
            obtain ⟨n_10, h⟩ := h
            refine ev_v C hd kwRX9_X9_findFarthest_248 (cC_findFarthest n_10 _ h) ⟨rfl, rfl⟩ ⟨by decide, by decide⟩ rcC9 hl.1 rfl rfl (Nat.le_of_ble_eq_true rfl) ⟨Nat.zero_le _, Nat.zero_le _⟩ dX9_next_63 (fun k_10 H locs h hd => ?_)
            refine lv_iload_n hx hb dX9_next_66 rfl (lv_at hl 3 rfl) ?_
            refine lv_if_ne (tgt := 80) hx hb dX9_next_67 (by decide) (fun c_11 => ?_) (fun c_11 => ?_)
            · replace h := h.1 c_11
              refine lv_aload_n hx hb dX9_next_80 rfl (lv_at hl 0 rfl) ?_
              refine gC9_9_7 C hd dX9_next_81 ?_
              refine gC9_7_9 C hd (v := k_10.1 8 9) rfl dX9_next_84 ?_
              exact ret hd h dX9_next_87
            · replace h := h.2 c_11
              refine lv_aload_n hx hb dX9_next_70 rfl (lv_at hl 0 rfl) ?_
              refine gC9_9_7 C hd dX9_next_71 ?_
              refine gC9_7_8 C hd (v := k_10.1 8 8) rfl dX9_next_74 ?_
              refine lv_goto (tgt := 87) hx hb dX9_next_77 (by decide) ?_
              exact ret hd h dX9_next_87
          · replace h := h.2 c_9
            refine lv_bipush (v := -3) hx hb dX9_next_58 (by decide) ?_
            exact ret hd h dX9_next_60
        · replace h := h.2 c_7
          refine lv_bipush (v := -3) hx hb dX9_next_40 (by decide) ?_
          exact ret hd h dX9_next_42
      · replace h := h.2 c_6
        refine lv_bipush (v := -2) hx hb dX9_next_27 (by decide) ?_
        exact ret hd h dX9_next_29
def wC_pace (x1 : Int32) (k : KC) (Q : Int32 → KC → Prop) : Prop := (wC_within x1 (1 : Int32) (100 : Int32) k (fun r_1 k_1 => ((¬ r_1 = 0 → Q (k_1.1 2 9) (cI k_1 2 9 x1)) ∧ (r_1 = 0 → Q (-2 : Int32) k_1))))
set_option maxHeartbeats 4000000 in
set_option maxRecDepth 100000 in
theorem cC_pace {l : Launch} {P : EP} {D : va_G} {a : Nat → Nat} {b : Nat → Nat → Nat} {g : Nat → ClassId} {k : KC} {Qp : Int32 → KC → Prop} (x1 : Int32) (h : wC_pace x1 k Qp) : Di l P D (tyA g) (wC a b g) yX9_pace cX9_pace 3 ({ frames := 1, cells := 0, slots := 0, locals := 22 }) [.ref (a 0), .int x1] k Qp := by
  refine Di_of (by decide) (Nat.le_of_ble_eq_true rfl) ?_
  intro p e s m args below meth c A Z ls C ret hd hl
  have hx := C.1
  have hb := C.2.1
  have hl : lv_has ls 3 [(0, .ref (a 0)), (1, .int x1)] := hl
  replace h : (wC_within x1 (1 : Int32) (100 : Int32) k (fun r_1 k_1 => ((¬ r_1 = 0 → Qp (k_1.1 2 9) (cI k_1 2 9 x1)) ∧ (r_1 = 0 → Qp (-2 : Int32) k_1)))) := h
  refine lv_iload_n hx hb dX9_pace_0 rfl (lv_at hl 1 rfl) ?_
  refine lv_iconst (v := 1) hx hb dX9_pace_1 (by decide) ?_
  refine lv_bipush (v := 100) hx hb dX9_pace_2 (by decide) ?_
  refine es_z C hd kwRX9_X9_within_70 (cC_within _ _ _ h) ⟨rfl, rfl⟩ ⟨by decide, by decide⟩ hl.1 rfl rfl (Nat.le_of_ble_eq_true rfl) ⟨Nat.zero_le _, Nat.zero_le _⟩ dX9_pace_4 (fun r_1 k_1 H locs hz_1 h hd => ?_)
  refine lv_if_ne (tgt := 13) hx hb dX9_pace_7 (by decide) (fun c_2 => ?_) (fun c_2 => ?_)
  · replace h := h.1 c_2
    refine lv_aload_n hx hb dX9_pace_13 rfl (lv_at hl 0 rfl) ?_
    refine gC9_9_1 C hd dX9_pace_14 ?_
    refine gC9_0_9 C hd (Or.inl rfl) (v := k_1.1 2 9) rfl dX9_pace_17 ?_
    refine lv_istore_n (lv' := [(2, .int (k_1.1 2 9)), (0, .ref (a 0)), (1, .int x1)]) hx hb dX9_pace_20 rfl hl (by decide) rfl (fun ls hl => ?_)
    refine lv_aload_n hx hb dX9_pace_21 rfl (lv_at hl 1 rfl) ?_
    refine gC9_9_1 C hd dX9_pace_22 ?_
    refine lv_iload_n hx hb dX9_pace_25 rfl (lv_at hl 2 rfl) ?_
    refine pC9_0_9 C hd (Or.inl rfl) dX9_pace_26 (fun H locs hd => ?_)
    refine lv_iload_n hx hb dX9_pace_29 rfl (lv_at hl 0 rfl) ?_
    exact ret hd h dX9_pace_30
  · replace h := h.2 c_2
    refine lv_bipush (v := -2) hx hb dX9_pace_10 (by decide) ?_
    exact ret hd h dX9_pace_12
def wC_planned (x1 : Int32) (x2 : Int32) (x3 : Int32) (k : KC) (Q : Int32 → KC → Prop) : Prop := (wC_X8_planAt x1 k (fun r_1 k_1 => ((r_1 = none → Q (-1 : Int32) k_1) ∧ (∀ x_2 : Nat, r_1 = some x_2 → ∃ d_2 : Dn, d_2.1 = x_2 ∧ ((¬ x2 = (-1 : Int32) → (d_2 ∈ plC k_1 ∧ (wC_within x2 (0 : Int32) ((nI d_2.2.2.2.1) - (1 : Int32)) k_1 (fun r_5 k_5 => ((r_5 = 0 → Q (-1 : Int32) k_5) ∧ (¬ r_5 = 0 → (wC_within x3 (0 : Int32) (1 : Int32) k_5 (fun r_7 k_7 => ((¬ r_7 = 0 → ((¬ x3 = 0 → (d_2 ∈ plC k_7 ∧ (vp_in x2 d_2.2.2.2.1 ∧ Q (d_2.2.2.2.2.2 x2.toNatClampNeg) k_7))) ∧ (x3 = 0 → (d_2 ∈ plC k_7 ∧ (vp_in x2 d_2.2.2.2.1 ∧ Q (d_2.2.2.2.2.1 x2.toNatClampNeg) k_7))))) ∧ (r_7 = 0 → Q (-1 : Int32) k_7)))))))))) ∧ (x2 = (-1 : Int32) → (d_2 ∈ plC k_1 ∧ Q (nI d_2.2.2.2.1) k_1)))))))
set_option maxHeartbeats 4000000 in
set_option maxRecDepth 100000 in
theorem cC_planned {l : Launch} {P : EP} {D : va_G} {a : Nat → Nat} {b : Nat → Nat → Nat} {g : Nat → ClassId} {k : KC} {Qp : Int32 → KC → Prop} (x1 : Int32) (x2 : Int32) (x3 : Int32) (h : wC_planned x1 x2 x3 k Qp) : Di l P D (tyA g) (wC a b g) yX9_planned cX9_planned 5 ({ frames := 2, cells := 0, slots := 0, locals := 43 }) [.ref (a 0), .int x1, .int x2, .int x3] k Qp := by
  refine Di_of (by decide) (Nat.le_of_ble_eq_true rfl) ?_
  intro p e s m args below meth c A Z ls C ret hd hl
  have hx := C.1
  have hb := C.2.1
  have hl : lv_has ls 5 [(0, .ref (a 0)), (1, .int x1), (2, .int x2), (3, .int x3)] := hl
  replace h : (wC_X8_planAt x1 k (fun r_1 k_1 => ((r_1 = none → Qp (-1 : Int32) k_1) ∧ (∀ x_2 : Nat, r_1 = some x_2 → ∃ d_2 : Dn, d_2.1 = x_2 ∧ ((¬ x2 = (-1 : Int32) → (d_2 ∈ plC k_1 ∧ (wC_within x2 (0 : Int32) ((nI d_2.2.2.2.1) - (1 : Int32)) k_1 (fun r_5 k_5 => ((r_5 = 0 → Qp (-1 : Int32) k_5) ∧ (¬ r_5 = 0 → (wC_within x3 (0 : Int32) (1 : Int32) k_5 (fun r_7 k_7 => ((¬ r_7 = 0 → ((¬ x3 = 0 → (d_2 ∈ plC k_7 ∧ (vp_in x2 d_2.2.2.2.1 ∧ Qp (d_2.2.2.2.2.2 x2.toNatClampNeg) k_7))) ∧ (x3 = 0 → (d_2 ∈ plC k_7 ∧ (vp_in x2 d_2.2.2.2.1 ∧ Qp (d_2.2.2.2.2.1 x2.toNatClampNeg) k_7))))) ∧ (r_7 = 0 → Qp (-1 : Int32) k_7)))))))))) ∧ (x2 = (-1 : Int32) → (d_2 ∈ plC k_1 ∧ Qp (nI d_2.2.2.2.1) k_1))))))) := h
  refine lv_aload_n hx hb dX9_planned_0 rfl (lv_at hl 0 rfl) ?_
  refine gC9_9_0 C hd dX9_planned_1 ?_
  refine lv_iload_n hx hb dX9_planned_4 rfl (lv_at hl 1 rfl) ?_
  refine ev_q C hd kwRX9_X8_planAt_159 (cC_X8_planAt _ h) ⟨rfl, rfl⟩ ⟨by decide, by decide⟩ rcC8 hl.1 rfl rfl (Nat.le_of_ble_eq_true rfl) ⟨Nat.zero_le _, Nat.zero_le _⟩ dX9_planned_5 (fun r_1 k_1 H locs h hd => ?_)
  refine rf_split (fun e_2 => ?_) (fun x_2 e_2 => ?_)
  · replace h := h.1 e_2
    refine lv_astoreN (lv' := [(4, .null), (0, .ref (a 0)), (1, .int x1), (2, .int x2), (3, .int x3)]) hx hb dX9_planned_8 hl (by decide) rfl (fun ls hl => ?_)
    refine lv_aloadN hx hb dX9_planned_10 (lv_at hl 0 rfl) ?_
    refine lv_ifnonnullN hx hb dX9_planned_12 ?_
    refine lv_iconst (v := -1) hx hb dX9_planned_15 (by decide) ?_
    exact ret hd h dX9_planned_16
  · obtain ⟨d_2, hx_2, h⟩ := h.2 x_2 e_2
    subst hx_2
    refine lv_astore (lv' := [(4, .ref d_2.1), (0, .ref (a 0)), (1, .int x1), (2, .int x2), (3, .int x3)]) hx hb dX9_planned_8 hl (by decide) rfl (fun ls hl => ?_)
    refine lv_aload hx hb dX9_planned_10 (lv_at hl 0 rfl) ?_
    refine lv_ifnonnull (tgt := 17) hx hb dX9_planned_12 (by decide) ?_
    refine lv_iload_n hx hb dX9_planned_17 rfl (lv_at hl 3 rfl) ?_
    refine lv_iconst (v := -1) hx hb dX9_planned_18 (by decide) ?_
    refine lv_icmp_ne (tgt := 28) hx hb dX9_planned_19 (by decide) (fun c_3 => ?_) (fun c_3 => ?_)
    · replace h := h.1 c_3
      refine lv_iload_n hx hb dX9_planned_28 rfl (lv_at hl 3 rfl) ?_
      refine lv_iconst (v := 0) hx hb dX9_planned_29 (by decide) ?_
      refine lv_aload hx hb dX9_planned_30 (lv_at hl 0 rfl) ?_
      have hm_4 := h.1
      replace h := h.2
      refine gC9_1_2 C hd hm_4 dX9_planned_32 ?_
      refine lv_iconst (v := 1) hx hb dX9_planned_35 (by decide) ?_
      refine lv_isub hx hb dX9_planned_36 ?_
      refine es_z C hd kwRX9_X9_within_70 (cC_within _ _ _ h) ⟨rfl, rfl⟩ ⟨by decide, by decide⟩ hl.1 rfl rfl (Nat.le_of_ble_eq_true rfl) ⟨Nat.zero_le _, Nat.zero_le _⟩ dX9_planned_37 (fun r_5 k_5 H locs hz_5 h hd => ?_)
      refine lv_if_eq (tgt := 52) hx hb dX9_planned_40 (by decide) (fun c_6 => ?_) (fun c_6 => ?_)
      · replace h := h.1 c_6
        refine lv_iconst (v := -1) hx hb dX9_planned_52 (by decide) ?_
        exact ret hd h dX9_planned_53
      · replace h := h.2 c_6
        refine lv_iload_n hx hb dX9_planned_43 rfl (lv_at hl 4 rfl) ?_
        refine lv_iconst (v := 0) hx hb dX9_planned_44 (by decide) ?_
        refine lv_iconst (v := 1) hx hb dX9_planned_45 (by decide) ?_
        refine es_z C hd kwRX9_X9_within_70 (cC_within _ _ _ h) ⟨rfl, rfl⟩ ⟨by decide, by decide⟩ hl.1 rfl rfl (Nat.le_of_ble_eq_true rfl) ⟨Nat.zero_le _, Nat.zero_le _⟩ dX9_planned_46 (fun r_7 k_7 H locs hz_7 h hd => ?_)
        refine lv_if_ne (tgt := 54) hx hb dX9_planned_49 (by decide) (fun c_8 => ?_) (fun c_8 => ?_)
        · replace h := h.1 c_8
          refine lv_iload_n hx hb dX9_planned_54 rfl (lv_at hl 4 rfl) ?_
          refine lv_if_ne (tgt := 68) hx hb dX9_planned_55 (by decide) (fun c_9 => ?_) (fun c_9 => ?_)
          · replace h := h.1 c_9
            refine lv_aload hx hb dX9_planned_68 (lv_at hl 0 rfl) ?_
            have hm_10 := h.1
            replace h := h.2
            refine gC9_1_1 C hd hm_10 dX9_planned_70 ?_
            refine lv_iload_n hx hb dX9_planned_73 rfl (lv_at hl 3 rfl) ?_
            refine ldC1_1 C hd hm_10 h.1 dX9_planned_74 ?_
            replace h := h.2
            exact ret hd h dX9_planned_75
          · replace h := h.2 c_9
            refine lv_aload hx hb dX9_planned_58 (lv_at hl 0 rfl) ?_
            have hm_11 := h.1
            replace h := h.2
            refine gC9_1_0 C hd hm_11 dX9_planned_60 ?_
            refine lv_iload_n hx hb dX9_planned_63 rfl (lv_at hl 3 rfl) ?_
            refine ldC1_0 C hd hm_11 h.1 dX9_planned_64 ?_
            replace h := h.2
            refine lv_goto (tgt := 75) hx hb dX9_planned_65 (by decide) ?_
            exact ret hd h dX9_planned_75
        · replace h := h.2 c_8
          refine lv_iconst (v := -1) hx hb dX9_planned_52 (by decide) ?_
          exact ret hd h dX9_planned_53
    · replace h := h.2 c_3
      refine lv_aload hx hb dX9_planned_22 (lv_at hl 0 rfl) ?_
      have hm_12 := h.1
      replace h := h.2
      refine gC9_1_2 C hd hm_12 dX9_planned_24 ?_
      exact ret hd h dX9_planned_27
def wC_rests : Nat → Nat → Int32 → Int32 → Dn → Int32 → KC → (Int32 → KC → Prop) → Prop
  | 0, _, _, _, _, _, _, _ => False
  | n + 1, c, x1, x2, d3, x4, k, Q => match c with
    | 0 => (wC_X8_planAt x1 k (fun r_1 k_1 => ((r_1 = none → Q (-2 : Int32) k_1) ∧ (∀ x_2 : Nat, r_1 = some x_2 → ∃ d_2 : Dn, d_2.1 = x_2 ∧ (wC_within x2 (0 : Int32) (100 : Int32) k_1 (fun r_3 k_3 => ((¬ r_3 = 0 → (wC_X0_becomeLike 4 2 (8 : Int32) k_3 (fun k_5 => wC_rests n 1 0 x2 d_2 (0 : Int32) k_5 Q))) ∧ (r_3 = 0 → Q (-2 : Int32) k_3))))))))
    | _ => ((x2 < x4 → Q (-1 : Int32) k) ∧ (¬ x2 < x4 → (∃ n_7 : Nat, wC_X0_staysThroughDay 4 d3 n_7 0 0 k (fun r_7 k_7 => ((r_7 = 0 → wC_rests n 1 0 x2 d3 (x4 + (1 : Int32)) k_7 Q) ∧ (¬ r_7 = 0 → Q x4 k_7))))))
set_option maxHeartbeats 4000000 in
set_option maxRecDepth 100000 in
theorem cC_rests {l : Launch} {P : EP} {D : va_G} {a : Nat → Nat} {b : Nat → Nat → Nat} {g : Nat → ClassId} {k : KC} {Qp : Int32 → KC → Prop} (n : Nat) (x1 : Int32) (x2 : Int32) (h : wC_rests n 0 x1 x2 dn0 0 k Qp) : Di l P D (tyA g) (wC a b g) yX9_rests cX9_rests 5 ({ frames := 6, cells := 0, slots := 0, locals := 145 }) [.ref (a 0), .int x1, .int x2] k Qp := by
  refine Di_of (by decide) (Nat.le_of_ble_eq_true rfl) ?_
  intro p e s m args below meth c A Z ls C ret hd hl
  have hx := C.1
  have hb := C.2.1
  have hl : lv_has ls 5 [(0, .ref (a 0)), (1, .int x1), (2, .int x2)] := hl
  have L : ∀ n : Nat, (∀ (x2 : Int32) (d3 : Dn) (x4 : Int32) (k : KC) (H : Heap) (locs : List Loc) (ls : Array Slot), wC_rests n 1 0 x2 d3 x4 k Qp → Hd D (wC a b g k) A s H locs → lv_has ls 5 [(0, .ref (a 0)), (2, .int x2), (3, .ref d3.1), (4, .int x4)] → W p l e ({ frames := 6, cells := 0, slots := 0, locals := 145 }) s m args below meth c H locs 0 0 Z (F0 m 42 ls [])) := by
    intro n
    induction n with
    | zero => exact fun _ _ _ _ _ _ _ h => h.elim
    | succ n ih =>
      intro x2 d3 x4 k H locs ls h hd hl
      replace h : ((x2 < x4 → Qp (-1 : Int32) k) ∧ (¬ x2 < x4 → (∃ n_7 : Nat, wC_X0_staysThroughDay 4 d3 n_7 0 0 k (fun r_7 k_7 => ((r_7 = 0 → wC_rests n 1 0 x2 d3 (x4 + (1 : Int32)) k_7 Qp) ∧ (¬ r_7 = 0 → Qp x4 k_7)))))) := h
      refine lv_iload hx hb dX9_rests_42 (lv_at hl 3 rfl) ?_
      refine lv_iload_n hx hb dX9_rests_44 rfl (lv_at hl 1 rfl) ?_
      refine lv_icmp_gt (tgt := 68) hx hb dX9_rests_45 (by decide) (fun c_6 => ?_) (fun c_6 => ?_)
      · replace h := h.1 c_6
        refine lv_iconst (v := -1) hx hb dX9_rests_68 (by decide) ?_
        exact ret hd h dX9_rests_69
      · replace h := h.2 c_6
        refine lv_aload_n hx hb dX9_rests_48 rfl (lv_at hl 0 rfl) ?_
        refine gC9_9_3 C hd dX9_rests_49 ?_
        refine lv_aload_n hx hb dX9_rests_52 rfl (lv_at hl 2 rfl) ?_
        obtain ⟨n_7, h⟩ := h
        refine ev_z C hd kwRX9_X0_staysThroughDay_195 (cC_X0_staysThroughDay (Or.inr (Or.inr rfl)) n_7 h) ⟨rfl, rfl⟩ ⟨by decide, by decide⟩ (rcC0 (Or.inr (Or.inr rfl))) hl.1 rfl rfl (Nat.le_of_ble_eq_true rfl) ⟨Nat.zero_le _, Nat.zero_le _⟩ dX9_rests_53 (fun r_7 k_7 H locs hz_7 h hd => ?_)
        refine lv_if_eq (tgt := 62) hx hb dX9_rests_56 (by decide) (fun c_8 => ?_) (fun c_8 => ?_)
        · replace h := h.1 c_8
          refine lv_iinc (v := (x4 + (1 : Int32))) (lv' := [(4, .int (x4 + (1 : Int32))), (0, .ref (a 0)), (2, .int x2), (3, .ref d3.1)]) hx hb dX9_rests_62 hl (k := 3) rfl rfl (by decide) rfl (fun ls hl => ?_)
          refine lv_goto (tgt := 42) hx hb dX9_rests_65 (by decide) ?_
          exact ih x2 d3 (x4 + (1 : Int32))  _ _ _ _ h hd (lv_sub hl [1, 2, 3, 0] rfl)
        · replace h := h.2 c_8
          refine lv_iload hx hb dX9_rests_59 (lv_at hl 3 rfl) ?_
          exact ret hd h dX9_rests_61
  cases n with
  | zero => exact h.elim
  | succ n =>
    replace h : (wC_X8_planAt x1 k (fun r_1 k_1 => ((r_1 = none → Qp (-2 : Int32) k_1) ∧ (∀ x_2 : Nat, r_1 = some x_2 → ∃ d_2 : Dn, d_2.1 = x_2 ∧ (wC_within x2 (0 : Int32) (100 : Int32) k_1 (fun r_3 k_3 => ((¬ r_3 = 0 → (wC_X0_becomeLike 4 2 (8 : Int32) k_3 (fun k_5 => wC_rests n 1 0 x2 d_2 (0 : Int32) k_5 Qp))) ∧ (r_3 = 0 → Qp (-2 : Int32) k_3)))))))) := h
    refine lv_aload_n hx hb dX9_rests_0 rfl (lv_at hl 0 rfl) ?_
    refine gC9_9_0 C hd dX9_rests_1 ?_
    refine lv_iload_n hx hb dX9_rests_4 rfl (lv_at hl 1 rfl) ?_
    refine ev_q C hd kwRX9_X8_planAt_159 (cC_X8_planAt _ h) ⟨rfl, rfl⟩ ⟨by decide, by decide⟩ rcC8 hl.1 rfl rfl (Nat.le_of_ble_eq_true rfl) ⟨Nat.zero_le _, Nat.zero_le _⟩ dX9_rests_5 (fun r_1 k_1 H locs h hd => ?_)
    refine rf_split (fun e_2 => ?_) (fun x_2 e_2 => ?_)
    · replace h := h.1 e_2
      refine lv_astore_nN (lv' := [(3, .null), (0, .ref (a 0)), (1, .int x1), (2, .int x2)]) hx hb dX9_rests_8 rfl hl (by decide) rfl (fun ls hl => ?_)
      refine lv_aload_nN hx hb dX9_rests_9 rfl (lv_at hl 0 rfl) ?_
      refine lv_ifnullN (tgt := 23) hx hb dX9_rests_10 (by decide) ?_
      refine lv_bipush (v := -2) hx hb dX9_rests_23 (by decide) ?_
      exact ret hd h dX9_rests_25
    · obtain ⟨d_2, hx_2, h⟩ := h.2 x_2 e_2
      subst hx_2
      refine lv_astore_n (lv' := [(3, .ref d_2.1), (0, .ref (a 0)), (1, .int x1), (2, .int x2)]) hx hb dX9_rests_8 rfl hl (by decide) rfl (fun ls hl => ?_)
      refine lv_aload_n hx hb dX9_rests_9 rfl (lv_at hl 0 rfl) ?_
      refine lv_ifnull hx hb dX9_rests_10 ?_
      refine lv_iload_n hx hb dX9_rests_13 rfl (lv_at hl 3 rfl) ?_
      refine lv_iconst (v := 0) hx hb dX9_rests_14 (by decide) ?_
      refine lv_bipush (v := 100) hx hb dX9_rests_15 (by decide) ?_
      refine es_z C hd kwRX9_X9_within_70 (cC_within _ _ _ h) ⟨rfl, rfl⟩ ⟨by decide, by decide⟩ hl.1 rfl rfl (Nat.le_of_ble_eq_true rfl) ⟨Nat.zero_le _, Nat.zero_le _⟩ dX9_rests_17 (fun r_3 k_3 H locs hz_3 h hd => ?_)
      refine lv_if_ne (tgt := 26) hx hb dX9_rests_20 (by decide) (fun c_4 => ?_) (fun c_4 => ?_)
      · replace h := h.1 c_4
        refine lv_aload_n hx hb dX9_rests_26 rfl (lv_at hl 1 rfl) ?_
        refine gC9_9_3 C hd dX9_rests_27 ?_
        refine lv_aload_n hx hb dX9_rests_30 rfl (lv_at hl 1 rfl) ?_
        refine gC9_9_1 C hd dX9_rests_31 ?_
        refine lv_bipush (v := 8) hx hb dX9_rests_34 (by decide) ?_
        refine ev_v C hd kwRX9_X0_becomeLike_191 (cC_X0_becomeLike (Or.inr (Or.inr rfl)) (Or.inl rfl) _ h) ⟨rfl, rfl⟩ ⟨by decide, by decide⟩ (rcC0 (Or.inr (Or.inr rfl))) hl.1 rfl rfl (Nat.le_of_ble_eq_true rfl) ⟨Nat.zero_le _, Nat.zero_le _⟩ dX9_rests_36 (fun k_5 H locs h hd => ?_)
        refine lv_iconst (v := 0) hx hb dX9_rests_39 (by decide) ?_
        refine lv_istore (lv' := [(4, .int (0 : Int32)), (3, .ref d_2.1), (0, .ref (a 0)), (1, .int x1), (2, .int x2)]) hx hb dX9_rests_40 hl (by decide) rfl (fun ls hl => ?_)
        exact L n x2 d_2 (0 : Int32)  _ _ _ _ h hd (lv_sub hl [2, 4, 1, 0] rfl)
      · replace h := h.2 c_4
        refine lv_bipush (v := -2) hx hb dX9_rests_23 (by decide) ?_
        exact ret hd h dX9_rests_25
def wC_sheet : Nat → Nat → Int32 → Int32 → Int32 → KC → (Int32 → KC → Prop) → Prop
  | 0, _, _, _, _, _, _ => False
  | n + 1, c, x1, x2, x3, k, Q => match c with
    | 0 => (wC_isSheet x1 k (fun r_1 k_1 => ((r_1 = 0 → Q (-2 : Int32) k_1) ∧ (¬ r_1 = 0 → (wC_within x2 (-1 : Int32) (2 : Int32) k_1 (fun r_3 k_3 => ((¬ r_3 = 0 → ((x2 = (-1 : Int32) → ((x2 = (-1 : Int32) → wC_sheet n 1 x1 x2 x3 k_3 Q) ∧ (¬ x2 = (-1 : Int32) → ((0 ≤ x3 → wC_sheet n 1 x1 x2 x3 k_3 Q) ∧ (¬ 0 ≤ x3 → Q (-14 : Int32) k_3))))) ∧ (¬ x2 = (-1 : Int32) → ((x3 ≤ (40 : Int32) → ((x2 = (-1 : Int32) → wC_sheet n 1 x1 x2 x3 k_3 Q) ∧ (¬ x2 = (-1 : Int32) → ((0 ≤ x3 → wC_sheet n 1 x1 x2 x3 k_3 Q) ∧ (¬ 0 ≤ x3 → Q (-14 : Int32) k_3))))) ∧ (¬ x3 ≤ (40 : Int32) → Q (-2 : Int32) k_3))))) ∧ (r_3 = 0 → Q (-2 : Int32) k_3))))))))
    | _ => (vp_in x1 4 ∧ ∀ i_11 : Nat, i_11 = 9 + x1.toNatClampNeg → ((¬ x2 = (-1 : Int32) → (wC_X3_become i_11 x2 x3 k (fun k_13 => Q (1 : Int32) k_13))) ∧ (x2 = (-1 : Int32) → (wC_X3_become i_11 x2 (0 : Int32) k (fun k_14 => Q (1 : Int32) k_14)))))
set_option maxHeartbeats 4000000 in
set_option maxRecDepth 100000 in
theorem cC_sheet {l : Launch} {P : EP} {D : va_G} {a : Nat → Nat} {b : Nat → Nat → Nat} {g : Nat → ClassId} {k : KC} {Qp : Int32 → KC → Prop} (n : Nat) (x1 : Int32) (x2 : Int32) (x3 : Int32) (h : wC_sheet n 0 x1 x2 x3 k Qp) : Di l P D (tyA g) (wC a b g) yX9_sheet cX9_sheet 4 ({ frames := 2, cells := 0, slots := 0, locals := 45 }) [.ref (a 0), .int x1, .int x2, .int x3] k Qp := by
  refine Di_of (by decide) (Nat.le_of_ble_eq_true rfl) ?_
  intro p e s m args below meth c A Z ls C ret hd hl
  have hx := C.1
  have hb := C.2.1
  have hl : lv_has ls 4 [(0, .ref (a 0)), (1, .int x1), (2, .int x2), (3, .int x3)] := hl
  have L : ∀ n : Nat, (∀ (x1 : Int32) (x2 : Int32) (x3 : Int32) (k : KC) (H : Heap) (locs : List Loc) (ls : Array Slot), wC_sheet n 1 x1 x2 x3 k Qp → Hd D (wC a b g k) A s H locs → lv_has ls 4 [(0, .ref (a 0)), (1, .int x1), (2, .int x2), (3, .int x3)] → W p l e ({ frames := 2, cells := 0, slots := 0, locals := 45 }) s m args below meth c H locs 0 0 Z (F0 m 45 ls [])) := by
    intro n
    induction n with
    | zero => exact fun _ _ _ _ _ _ _ h => h.elim
    | succ n ih =>
      intro x1 x2 x3 k H locs ls h hd hl
      replace h : (vp_in x1 4 ∧ ∀ i_11 : Nat, i_11 = 9 + x1.toNatClampNeg → ((¬ x2 = (-1 : Int32) → (wC_X3_become i_11 x2 x3 k (fun k_13 => Qp (1 : Int32) k_13))) ∧ (x2 = (-1 : Int32) → (wC_X3_become i_11 x2 (0 : Int32) k (fun k_14 => Qp (1 : Int32) k_14))))) := h
      refine lv_aload_n hx hb dX9_sheet_45 rfl (lv_at hl 0 rfl) ?_
      refine gC9_9_8 C hd dX9_sheet_46 ?_
      refine lv_iload_n hx hb dX9_sheet_49 rfl (lv_at hl 1 rfl) ?_
      refine ldC9_8 C hd h.1 dX9_sheet_50 ?_
      have hv_11 := sh_or h.1
      replace h := h.2
      refine top_a (fun i_11 e_11 => ?_)
      rw [← e_11] at hv_11
      have hs_11 : i_11 = 9 ∨ i_11 = 10 ∨ i_11 = 11 ∨ i_11 = 12 := hv_11
      replace h := h i_11 e_11
      refine lv_iload_n hx hb dX9_sheet_51 rfl (lv_at hl 2 rfl) ?_
      refine lv_iload_n hx hb dX9_sheet_52 rfl (lv_at hl 2 rfl) ?_
      refine lv_iconst (v := -1) hx hb dX9_sheet_53 (by decide) ?_
      refine lv_icmp_ne (tgt := 61) hx hb dX9_sheet_54 (by decide) (fun c_12 => ?_) (fun c_12 => ?_)
      · replace h := h.1 c_12
        refine lv_iload_n hx hb dX9_sheet_61 rfl (lv_at hl 3 rfl) ?_
        refine ev_v C hd kwRX9_X3_become_264 (cC_X3_become hs_11 _ _ h) ⟨rfl, rfl⟩ ⟨by decide, by decide⟩ (rcC3 hs_11) hl.1 rfl rfl (Nat.le_of_ble_eq_true rfl) ⟨Nat.zero_le _, Nat.zero_le _⟩ dX9_sheet_62 (fun k_13 H locs h hd => ?_)
        refine lv_iconst (v := 1) hx hb dX9_sheet_65 (by decide) ?_
        exact ret hd h dX9_sheet_66
      · replace h := h.2 c_12
        refine lv_iconst (v := 0) hx hb dX9_sheet_57 (by decide) ?_
        refine lv_goto (tgt := 62) hx hb dX9_sheet_58 (by decide) ?_
        refine ev_v C hd kwRX9_X3_become_264 (cC_X3_become hs_11 _ _ h) ⟨rfl, rfl⟩ ⟨by decide, by decide⟩ (rcC3 hs_11) hl.1 rfl rfl (Nat.le_of_ble_eq_true rfl) ⟨Nat.zero_le _, Nat.zero_le _⟩ dX9_sheet_62 (fun k_14 H locs h hd => ?_)
        refine lv_iconst (v := 1) hx hb dX9_sheet_65 (by decide) ?_
        exact ret hd h dX9_sheet_66
  cases n with
  | zero => exact h.elim
  | succ n =>
    replace h : (wC_isSheet x1 k (fun r_1 k_1 => ((r_1 = 0 → Qp (-2 : Int32) k_1) ∧ (¬ r_1 = 0 → (wC_within x2 (-1 : Int32) (2 : Int32) k_1 (fun r_3 k_3 => ((¬ r_3 = 0 → ((x2 = (-1 : Int32) → ((x2 = (-1 : Int32) → wC_sheet n 1 x1 x2 x3 k_3 Qp) ∧ (¬ x2 = (-1 : Int32) → ((0 ≤ x3 → wC_sheet n 1 x1 x2 x3 k_3 Qp) ∧ (¬ 0 ≤ x3 → Qp (-14 : Int32) k_3))))) ∧ (¬ x2 = (-1 : Int32) → ((x3 ≤ (40 : Int32) → ((x2 = (-1 : Int32) → wC_sheet n 1 x1 x2 x3 k_3 Qp) ∧ (¬ x2 = (-1 : Int32) → ((0 ≤ x3 → wC_sheet n 1 x1 x2 x3 k_3 Qp) ∧ (¬ 0 ≤ x3 → Qp (-14 : Int32) k_3))))) ∧ (¬ x3 ≤ (40 : Int32) → Qp (-2 : Int32) k_3))))) ∧ (r_3 = 0 → Qp (-2 : Int32) k_3)))))))) := h
    refine lv_iload_n hx hb dX9_sheet_0 rfl (lv_at hl 1 rfl) ?_
    refine es_z C hd kwRX9_X9_isSheet_261 (cC_isSheet _ h) ⟨rfl, rfl⟩ ⟨by decide, by decide⟩ hl.1 rfl rfl (Nat.le_of_ble_eq_true rfl) ⟨Nat.zero_le _, Nat.zero_le _⟩ dX9_sheet_1 (fun r_1 k_1 H locs hz_1 h hd => ?_)
    refine lv_if_eq (tgt := 16) hx hb dX9_sheet_4 (by decide) (fun c_2 => ?_) (fun c_2 => ?_)
    · replace h := h.1 c_2
      refine lv_bipush (v := -2) hx hb dX9_sheet_16 (by decide) ?_
      exact ret hd h dX9_sheet_18
    · replace h := h.2 c_2
      refine lv_iload_n hx hb dX9_sheet_7 rfl (lv_at hl 2 rfl) ?_
      refine lv_iconst (v := -1) hx hb dX9_sheet_8 (by decide) ?_
      refine lv_iconst (v := 2) hx hb dX9_sheet_9 (by decide) ?_
      refine es_z C hd kwRX9_X9_within_70 (cC_within _ _ _ h) ⟨rfl, rfl⟩ ⟨by decide, by decide⟩ hl.1 rfl rfl (Nat.le_of_ble_eq_true rfl) ⟨Nat.zero_le _, Nat.zero_le _⟩ dX9_sheet_10 (fun r_3 k_3 H locs hz_3 h hd => ?_)
      refine lv_if_ne (tgt := 19) hx hb dX9_sheet_13 (by decide) (fun c_4 => ?_) (fun c_4 => ?_)
      · replace h := h.1 c_4
        refine lv_iload_n hx hb dX9_sheet_19 rfl (lv_at hl 2 rfl) ?_
        refine lv_iconst (v := -1) hx hb dX9_sheet_20 (by decide) ?_
        refine lv_icmp_eq (tgt := 33) hx hb dX9_sheet_21 (by decide) (fun c_5 => ?_) (fun c_5 => ?_)
        · replace h := h.1 c_5
          refine lv_iload_n hx hb dX9_sheet_33 rfl (lv_at hl 2 rfl) ?_
          refine lv_iconst (v := -1) hx hb dX9_sheet_34 (by decide) ?_
          refine lv_icmp_eq (tgt := 45) hx hb dX9_sheet_35 (by decide) (fun c_6 => ?_) (fun c_6 => ?_)
          · replace h := h.1 c_6
            exact L n x1 x2 x3  _ _ _ _ h hd (lv_sub hl [0, 1, 2, 3] rfl)
          · replace h := h.2 c_6
            refine lv_iload_n hx hb dX9_sheet_38 rfl (lv_at hl 3 rfl) ?_
            refine lv_if_ge (tgt := 45) hx hb dX9_sheet_39 (by decide) (fun c_7 => ?_) (fun c_7 => ?_)
            · replace h := h.1 c_7
              exact L n x1 x2 x3  _ _ _ _ h hd (lv_sub hl [0, 1, 2, 3] rfl)
            · replace h := h.2 c_7
              refine lv_bipush (v := -14) hx hb dX9_sheet_42 (by decide) ?_
              exact ret hd h dX9_sheet_44
        · replace h := h.2 c_5
          refine lv_iload_n hx hb dX9_sheet_24 rfl (lv_at hl 3 rfl) ?_
          refine lv_bipush (v := 40) hx hb dX9_sheet_25 (by decide) ?_
          refine lv_icmp_le (tgt := 33) hx hb dX9_sheet_27 (by decide) (fun c_8 => ?_) (fun c_8 => ?_)
          · replace h := h.1 c_8
            refine lv_iload_n hx hb dX9_sheet_33 rfl (lv_at hl 2 rfl) ?_
            refine lv_iconst (v := -1) hx hb dX9_sheet_34 (by decide) ?_
            refine lv_icmp_eq (tgt := 45) hx hb dX9_sheet_35 (by decide) (fun c_9 => ?_) (fun c_9 => ?_)
            · replace h := h.1 c_9
              exact L n x1 x2 x3  _ _ _ _ h hd (lv_sub hl [0, 1, 2, 3] rfl)
            · replace h := h.2 c_9
              refine lv_iload_n hx hb dX9_sheet_38 rfl (lv_at hl 3 rfl) ?_
              refine lv_if_ge (tgt := 45) hx hb dX9_sheet_39 (by decide) (fun c_10 => ?_) (fun c_10 => ?_)
              · replace h := h.1 c_10
                exact L n x1 x2 x3  _ _ _ _ h hd (lv_sub hl [0, 1, 2, 3] rfl)
              · replace h := h.2 c_10
                refine lv_bipush (v := -14) hx hb dX9_sheet_42 (by decide) ?_
                exact ret hd h dX9_sheet_44
          · replace h := h.2 c_8
            refine lv_bipush (v := -2) hx hb dX9_sheet_30 (by decide) ?_
            exact ret hd h dX9_sheet_32
      · replace h := h.2 c_4
        refine lv_bipush (v := -2) hx hb dX9_sheet_16 (by decide) ?_
        exact ret hd h dX9_sheet_18
def wC_sign (x1 : Int32) (k : KC) (Q : Int32 → KC → Prop) : Prop := (wC_within x1 (0 : Int32) (5 : Int32) k (fun r_1 k_1 => ((¬ r_1 = 0 → (((k_1.1 1 0) < (8 : Int32) → (vp_in (k_1.1 1 0) 8 ∧ Q (((k_1.1 1 0) + (1 : Int32)) - (1 : Int32)) (cI (cA k_1 1 3 (upd (k_1.2.1 1 3) (k_1.1 1 0).toNatClampNeg x1)) 1 0 ((k_1.1 1 0) + (1 : Int32))))) ∧ (¬ (k_1.1 1 0) < (8 : Int32) → Q (-4 : Int32) k_1))) ∧ (r_1 = 0 → Q (-2 : Int32) k_1))))
set_option maxHeartbeats 4000000 in
set_option maxRecDepth 100000 in
theorem cC_sign {l : Launch} {P : EP} {D : va_G} {a : Nat → Nat} {b : Nat → Nat → Nat} {g : Nat → ClassId} {k : KC} {Qp : Int32 → KC → Prop} (x1 : Int32) (h : wC_sign x1 k Qp) : Di l P D (tyA g) (wC a b g) yX9_sign cX9_sign 2 ({ frames := 1, cells := 0, slots := 0, locals := 22 }) [.ref (a 0), .int x1] k Qp := by
  refine Di_of (by decide) (Nat.le_of_ble_eq_true rfl) ?_
  intro p e s m args below meth c A Z ls C ret hd hl
  have hx := C.1
  have hb := C.2.1
  have hl : lv_has ls 2 [(0, .ref (a 0)), (1, .int x1)] := hl
  replace h : (wC_within x1 (0 : Int32) (5 : Int32) k (fun r_1 k_1 => ((¬ r_1 = 0 → (((k_1.1 1 0) < (8 : Int32) → (vp_in (k_1.1 1 0) 8 ∧ Qp (((k_1.1 1 0) + (1 : Int32)) - (1 : Int32)) (cI (cA k_1 1 3 (upd (k_1.2.1 1 3) (k_1.1 1 0).toNatClampNeg x1)) 1 0 ((k_1.1 1 0) + (1 : Int32))))) ∧ (¬ (k_1.1 1 0) < (8 : Int32) → Qp (-4 : Int32) k_1))) ∧ (r_1 = 0 → Qp (-2 : Int32) k_1)))) := h
  refine lv_iload_n hx hb dX9_sign_0 rfl (lv_at hl 1 rfl) ?_
  refine lv_iconst (v := 0) hx hb dX9_sign_1 (by decide) ?_
  refine lv_iconst (v := 5) hx hb dX9_sign_2 (by decide) ?_
  refine es_z C hd kwRX9_X9_within_70 (cC_within _ _ _ h) ⟨rfl, rfl⟩ ⟨by decide, by decide⟩ hl.1 rfl rfl (Nat.le_of_ble_eq_true rfl) ⟨Nat.zero_le _, Nat.zero_le _⟩ dX9_sign_3 (fun r_1 k_1 H locs hz_1 h hd => ?_)
  refine lv_if_ne (tgt := 12) hx hb dX9_sign_6 (by decide) (fun c_2 => ?_) (fun c_2 => ?_)
  · replace h := h.1 c_2
    refine lv_aload_n hx hb dX9_sign_12 rfl (lv_at hl 0 rfl) ?_
    refine gC9_9_0 C hd dX9_sign_13 ?_
    refine gC9_8_0 C hd (v := k_1.1 1 0) rfl dX9_sign_16 ?_
    refine lv_bipush (v := 8) hx hb dX9_sign_19 (by decide) ?_
    refine lv_icmp_lt (tgt := 27) hx hb dX9_sign_21 (by decide) (fun c_3 => ?_) (fun c_3 => ?_)
    · replace h := h.1 c_3
      refine lv_aload_n hx hb dX9_sign_27 rfl (lv_at hl 0 rfl) ?_
      refine gC9_9_0 C hd dX9_sign_28 ?_
      refine gC9_8_3 C hd dX9_sign_31 ?_
      refine lv_aload_n hx hb dX9_sign_34 rfl (lv_at hl 0 rfl) ?_
      refine gC9_9_0 C hd dX9_sign_35 ?_
      refine gC9_8_0 C hd (v := k_1.1 1 0) rfl dX9_sign_38 ?_
      refine lv_iload_n hx hb dX9_sign_41 rfl (lv_at hl 1 rfl) ?_
      refine stC8_3 C hd h.1 dX9_sign_42 (fun H locs hd => ?_)
      replace h := h.2
      refine lv_aload_n hx hb dX9_sign_43 rfl (lv_at hl 0 rfl) ?_
      refine gC9_9_0 C hd dX9_sign_44 ?_
      refine lv_dup hx hb dX9_sign_47 rfl ?_
      refine gC9_8_0 C hd (v := k_1.1 1 0) rfl dX9_sign_48 ?_
      refine lv_iconst (v := 1) hx hb dX9_sign_51 (by decide) ?_
      refine lv_iadd hx hb dX9_sign_52 ?_
      refine pC9_8_0 C hd dX9_sign_53 (fun H locs hd => ?_)
      refine lv_aload_n hx hb dX9_sign_56 rfl (lv_at hl 0 rfl) ?_
      refine gC9_9_0 C hd dX9_sign_57 ?_
      refine gC9_8_0 C hd (v := ((k_1.1 1 0) + (1 : Int32))) rfl dX9_sign_60 ?_
      refine lv_iconst (v := 1) hx hb dX9_sign_63 (by decide) ?_
      refine lv_isub hx hb dX9_sign_64 ?_
      exact ret hd h dX9_sign_65
    · replace h := h.2 c_3
      refine lv_bipush (v := -4) hx hb dX9_sign_24 (by decide) ?_
      exact ret hd h dX9_sign_26
  · replace h := h.2 c_2
    refine lv_bipush (v := -2) hx hb dX9_sign_9 (by decide) ?_
    exact ret hd h dX9_sign_11
def wC_sum (x1 : Int32) (x2 : Int32) (k : KC) (Q : Int64 → KC → Prop) : Prop := (wC_X8_isSet x1 k (fun r_1 k_1 => ((r_1 = 0 → Q (-4611686018427387904 : Int64) k_1) ∧ (¬ r_1 = 0 → (wC_within x2 (0 : Int32) (1 : Int32) k_1 (fun r_3 k_3 => ((¬ r_3 = 0 → ((¬ x2 = 0 → (wC_X0_dropsOf 2 x1 k_3 (fun r_6 k_6 => Q r_6.toInt64 k_6))) ∧ (x2 = 0 → (∃ n_7 : Nat, wC_X0_sumOf 2 n_7 0 x1 0 0 k_3 (fun r_7 k_7 => Q r_7.toInt64 k_7))))) ∧ (r_3 = 0 → Q (-4611686018427387904 : Int64) k_3))))))))
set_option maxHeartbeats 4000000 in
set_option maxRecDepth 100000 in
theorem cC_sum {l : Launch} {P : EP} {D : va_G} {a : Nat → Nat} {b : Nat → Nat → Nat} {g : Nat → ClassId} {k : KC} {Qp : Int64 → KC → Prop} (x1 : Int32) (x2 : Int32) (h : wC_sum x1 x2 k Qp) : Dl l P D (tyA g) (wC a b g) yX9_sum cX9_sum 3 ({ frames := 4, cells := 0, slots := 0, locals := 97 }) [.ref (a 0), .int x1, .int x2] k Qp := by
  refine Dl_of (by decide) (Nat.le_of_ble_eq_true rfl) ?_
  intro p e s m args below meth c A Z ls C ret hd hl
  have hx := C.1
  have hb := C.2.1
  have hl : lv_has ls 3 [(0, .ref (a 0)), (1, .int x1), (2, .int x2)] := hl
  replace h : (wC_X8_isSet x1 k (fun r_1 k_1 => ((r_1 = 0 → Qp (-4611686018427387904 : Int64) k_1) ∧ (¬ r_1 = 0 → (wC_within x2 (0 : Int32) (1 : Int32) k_1 (fun r_3 k_3 => ((¬ r_3 = 0 → ((¬ x2 = 0 → (wC_X0_dropsOf 2 x1 k_3 (fun r_6 k_6 => Qp r_6.toInt64 k_6))) ∧ (x2 = 0 → (∃ n_7 : Nat, wC_X0_sumOf 2 n_7 0 x1 0 0 k_3 (fun r_7 k_7 => Qp r_7.toInt64 k_7))))) ∧ (r_3 = 0 → Qp (-4611686018427387904 : Int64) k_3)))))))) := h
  refine lv_aload_n hx hb dX9_sum_0 rfl (lv_at hl 0 rfl) ?_
  refine gC9_9_0 C hd dX9_sum_1 ?_
  refine lv_iload_n hx hb dX9_sum_4 rfl (lv_at hl 1 rfl) ?_
  refine ev_z C hd kwRX9_X8_isSet_172 (cC_X8_isSet _ h) ⟨rfl, rfl⟩ ⟨by decide, by decide⟩ rcC8 hl.1 rfl rfl (Nat.le_of_ble_eq_true rfl) ⟨Nat.zero_le _, Nat.zero_le _⟩ dX9_sum_5 (fun r_1 k_1 H locs hz_1 h hd => ?_)
  refine lv_if_eq (tgt := 20) hx hb dX9_sum_8 (by decide) (fun c_2 => ?_) (fun c_2 => ?_)
  · replace h := h.1 c_2
    refine lv_ldc2 (v := (-4611686018427387904 : Int64)) hx hb C.2.2.2.1 (C.2.2.2.2.1 _ q_326) dX9_sum_20 ?_
    exact ret hd h dX9_sum_23
  · replace h := h.2 c_2
    refine lv_iload_n hx hb dX9_sum_11 rfl (lv_at hl 2 rfl) ?_
    refine lv_iconst (v := 0) hx hb dX9_sum_12 (by decide) ?_
    refine lv_iconst (v := 1) hx hb dX9_sum_13 (by decide) ?_
    refine es_z C hd kwRX9_X9_within_70 (cC_within _ _ _ h) ⟨rfl, rfl⟩ ⟨by decide, by decide⟩ hl.1 rfl rfl (Nat.le_of_ble_eq_true rfl) ⟨Nat.zero_le _, Nat.zero_le _⟩ dX9_sum_14 (fun r_3 k_3 H locs hz_3 h hd => ?_)
    refine lv_if_ne (tgt := 24) hx hb dX9_sum_17 (by decide) (fun c_4 => ?_) (fun c_4 => ?_)
    · replace h := h.1 c_4
      refine lv_iload_n hx hb dX9_sum_24 rfl (lv_at hl 2 rfl) ?_
      refine lv_if_ne (tgt := 40) hx hb dX9_sum_25 (by decide) (fun c_5 => ?_) (fun c_5 => ?_)
      · replace h := h.1 c_5
        refine lv_aload_n hx hb dX9_sum_40 rfl (lv_at hl 0 rfl) ?_
        refine gC9_9_1 C hd dX9_sum_41 ?_
        refine lv_iload_n hx hb dX9_sum_44 rfl (lv_at hl 1 rfl) ?_
        refine ev_i C hd kwRX9_X0_dropsOf_181 (cC_X0_dropsOf (Or.inl rfl) _ h) ⟨rfl, rfl⟩ ⟨by decide, by decide⟩ (rcC0 (Or.inl rfl)) hl.1 rfl rfl (Nat.le_of_ble_eq_true rfl) ⟨Nat.zero_le _, Nat.zero_le _⟩ dX9_sum_45 (fun r_6 k_6 H locs h hd => ?_)
        refine lv_i2l (v := r_6.toInt64) hx hb dX9_sum_48 rfl ?_
        exact ret hd h dX9_sum_49
      · replace h := h.2 c_5
        refine lv_aload_n hx hb dX9_sum_28 rfl (lv_at hl 0 rfl) ?_
        refine gC9_9_1 C hd dX9_sum_29 ?_
        refine lv_iload_n hx hb dX9_sum_32 rfl (lv_at hl 1 rfl) ?_
        obtain ⟨n_7, h⟩ := h
        refine ev_i C hd kwRX9_X0_sumOf_178 (cC_X0_sumOf (Or.inl rfl) n_7 _ h) ⟨rfl, rfl⟩ ⟨by decide, by decide⟩ (rcC0 (Or.inl rfl)) hl.1 rfl rfl (Nat.le_of_ble_eq_true rfl) ⟨Nat.zero_le _, Nat.zero_le _⟩ dX9_sum_33 (fun r_7 k_7 H locs h hd => ?_)
        refine lv_i2l (v := r_7.toInt64) hx hb dX9_sum_36 rfl ?_
        refine lv_goto (tgt := 49) hx hb dX9_sum_37 (by decide) ?_
        exact ret hd h dX9_sum_49
    · replace h := h.2 c_4
      refine lv_ldc2 (v := (-4611686018427387904 : Int64)) hx hb C.2.2.2.1 (C.2.2.2.2.1 _ q_326) dX9_sum_20 ?_
      exact ret hd h dX9_sum_23
