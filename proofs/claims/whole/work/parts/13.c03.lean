def wC_X8_isSet (x1 : Int32) (k : KC) (Q : Int32 → KC → Prop) : Prop := (wC_within x1 (0 : Int32) (((1 : Int32) <<< ((k.1 1 0) &&& 31)) - (1 : Int32)) k (fun r_1 k_1 => Q r_1 k_1))
set_option maxHeartbeats 4000000 in
set_option maxRecDepth 100000 in
theorem cC_X8_isSet {l : Launch} {P : EP} {D : va_G} {a : Nat → Nat} {b : Nat → Nat → Nat} {g : Nat → ClassId} {k : KC} {Qp : Int32 → KC → Prop} (x1 : Int32) (h : wC_X8_isSet x1 k Qp) : Dz l P D (tyA g) (wC a b g) yX8_isSet cX8_isSet 2 ({ frames := 1, cells := 0, slots := 0, locals := 22 }) [.ref (a 1), .int x1] k Qp := by
  refine Dz_of (by decide) (Nat.le_of_ble_eq_true rfl) ?_
  intro p e s m args below meth c A Z ls C ret hd hl
  have hx := C.1
  have hb := C.2.1
  have hl : lv_has ls 2 [(0, .ref (a 1)), (1, .int x1)] := hl
  replace h : (wC_within x1 (0 : Int32) (((1 : Int32) <<< ((k.1 1 0) &&& 31)) - (1 : Int32)) k (fun r_1 k_1 => Qp r_1 k_1)) := h
  refine lv_iload_n hx hb dX8_isSet_0 rfl (lv_at hl 1 rfl) ?_
  refine lv_iconst (v := 0) hx hb dX8_isSet_1 (by decide) ?_
  refine lv_iconst (v := 1) hx hb dX8_isSet_2 (by decide) ?_
  refine lv_aload_n hx hb dX8_isSet_3 rfl (lv_at hl 0 rfl) ?_
  refine gC8_8_0 C hd (v := k.1 1 0) rfl dX8_isSet_4 ?_
  refine lv_ishl hx hb dX8_isSet_7 ?_
  refine lv_iconst (v := 1) hx hb dX8_isSet_8 (by decide) ?_
  refine lv_isub hx hb dX8_isSet_9 ?_
  refine en_z C hd kwRX8_X9_within_58 (cC_within _ _ _ h) ⟨rfl, rfl⟩ ⟨by decide, by decide⟩ hl.1 rfl rfl (Nat.le_of_ble_eq_true rfl) ⟨Nat.zero_le _, Nat.zero_le _⟩ dX8_isSet_10 (fun r_1 k_1 H locs hz_1 h hd => ?_)
  exact ret hd hz_1 h dX8_isSet_13
def wC_X8_likeOf (x1 : Int32) (x2 : Int32) (k : KC) (Q : Int32 → KC → Prop) : Prop := (vp_in ((x1 * (8 : Int32)) + x2) 64 ∧ Q (k.2.1 1 6 ((x1 * (8 : Int32)) + x2).toNatClampNeg) k)
set_option maxHeartbeats 4000000 in
set_option maxRecDepth 100000 in
theorem cC_X8_likeOf {l : Launch} {P : EP} {D : va_G} {a : Nat → Nat} {b : Nat → Nat → Nat} {g : Nat → ClassId} {k : KC} {Qp : Int32 → KC → Prop} (x1 : Int32) (x2 : Int32) (h : wC_X8_likeOf x1 x2 k Qp) : Di l P D (tyA g) (wC a b g) yX8_likeOf cX8_likeOf 3 ({ frames := 0, cells := 0, slots := 0, locals := 0 }) [.ref (a 1), .int x1, .int x2] k Qp := by
  refine Di_of (by decide) (Nat.le_of_ble_eq_true rfl) ?_
  intro p e s m args below meth c A Z ls C ret hd hl
  have hx := C.1
  have hb := C.2.1
  have hl : lv_has ls 3 [(0, .ref (a 1)), (1, .int x1), (2, .int x2)] := hl
  replace h : (vp_in ((x1 * (8 : Int32)) + x2) 64 ∧ Qp (k.2.1 1 6 ((x1 * (8 : Int32)) + x2).toNatClampNeg) k) := h
  refine lv_aload_n hx hb dX8_likeOf_0 rfl (lv_at hl 0 rfl) ?_
  refine gC8_8_6 C hd dX8_likeOf_1 ?_
  refine lv_iload_n hx hb dX8_likeOf_4 rfl (lv_at hl 1 rfl) ?_
  refine lv_bipush (v := 8) hx hb dX8_likeOf_5 (by decide) ?_
  refine lv_imul hx hb dX8_likeOf_7 ?_
  refine lv_iload_n hx hb dX8_likeOf_8 rfl (lv_at hl 2 rfl) ?_
  refine lv_iadd hx hb dX8_likeOf_9 ?_
  refine ldC8_6 C hd (v := k.2.1 1 6 ((x1 * (8 : Int32)) + x2).toNatClampNeg) h.1 rfl dX8_likeOf_10 ?_
  replace h := h.2
  exact ret hd h dX8_likeOf_11
def wC_X8_planAt (x1 : Int32) (k : KC) (Q : Option Nat → KC → Prop) : Prop := (wC_within x1 (0 : Int32) ((k.1 1 2) - (1 : Int32)) k (fun r_1 k_1 => ((r_1 = 0 → Q none k_1) ∧ (¬ r_1 = 0 → (vp_in x1 8 ∧ Q (k_1.2.2.2.2.1 x1.toNatClampNeg) k_1)))))
set_option maxHeartbeats 4000000 in
set_option maxRecDepth 100000 in
theorem cC_X8_planAt {l : Launch} {P : EP} {D : va_G} {a : Nat → Nat} {b : Nat → Nat → Nat} {g : Nat → ClassId} {k : KC} {Qp : Option Nat → KC → Prop} (x1 : Int32) (h : wC_X8_planAt x1 k Qp) : Dq l P D (tyA g) (wC a b g) yX8_planAt cX8_planAt 2 ({ frames := 1, cells := 0, slots := 0, locals := 22 }) "BellAndDrop$Plan" [.ref (a 1), .int x1] k Qp := by
  refine Dq_of (by decide) (Nat.le_of_ble_eq_true rfl) ?_
  intro p e s m args below meth c A Z ls C ret hd hl
  have hx := C.1
  have hb := C.2.1
  have hl : lv_has ls 2 [(0, .ref (a 1)), (1, .int x1)] := hl
  replace h : (wC_within x1 (0 : Int32) ((k.1 1 2) - (1 : Int32)) k (fun r_1 k_1 => ((r_1 = 0 → Qp none k_1) ∧ (¬ r_1 = 0 → (vp_in x1 8 ∧ Qp (k_1.2.2.2.2.1 x1.toNatClampNeg) k_1))))) := h
  refine lv_iload_n hx hb dX8_planAt_0 rfl (lv_at hl 1 rfl) ?_
  refine lv_iconst (v := 0) hx hb dX8_planAt_1 (by decide) ?_
  refine lv_aload_n hx hb dX8_planAt_2 rfl (lv_at hl 0 rfl) ?_
  refine gC8_8_2 C hd (v := k.1 1 2) rfl dX8_planAt_3 ?_
  refine lv_iconst (v := 1) hx hb dX8_planAt_6 (by decide) ?_
  refine lv_isub hx hb dX8_planAt_7 ?_
  refine en_z C hd kwRX8_X9_within_58 (cC_within _ _ _ h) ⟨rfl, rfl⟩ ⟨by decide, by decide⟩ hl.1 rfl rfl (Nat.le_of_ble_eq_true rfl) ⟨Nat.zero_le _, Nat.zero_le _⟩ dX8_planAt_8 (fun r_1 k_1 H locs hz_1 h hd => ?_)
  refine lv_if_eq (tgt := 23) hx hb dX8_planAt_11 (by decide) (fun c_2 => ?_) (fun c_2 => ?_)
  · replace h := h.1 c_2
    refine lv_null hx hb dX8_planAt_23 ?_
    exact ret (v := none) hd h dX8_planAt_24
  · replace h := h.2 c_2
    refine lv_aload_n hx hb dX8_planAt_14 rfl (lv_at hl 0 rfl) ?_
    refine gC8_8_8 C hd dX8_planAt_15 ?_
    refine lv_iload_n hx hb dX8_planAt_18 rfl (lv_at hl 1 rfl) ?_
    refine ldC8_8 C hd h.1 dX8_planAt_19 ?_
    replace h := h.2
    refine lv_goto (tgt := 24) hx hb dX8_planAt_20 (by decide) ?_
    exact ret (v := (k_1.2.2.2.2.1 x1.toNatClampNeg)) hd h dX8_planAt_24
def wC_X8_setLike (x1 : Int32) (x2 : Int32) (x3 : Int32) (k : KC) (Q : KC → Prop) : Prop := (vp_in ((x1 * (8 : Int32)) + x2) 64 ∧ (vp_in ((x2 * (8 : Int32)) + x1) 64 ∧ Q (cA (cA k 1 6 (upd (k.2.1 1 6) ((x1 * (8 : Int32)) + x2).toNatClampNeg x3)) 1 6 (upd (upd (k.2.1 1 6) ((x1 * (8 : Int32)) + x2).toNatClampNeg x3) ((x2 * (8 : Int32)) + x1).toNatClampNeg x3))))
set_option maxHeartbeats 4000000 in
set_option maxRecDepth 100000 in
theorem cC_X8_setLike {l : Launch} {P : EP} {D : va_G} {a : Nat → Nat} {b : Nat → Nat → Nat} {g : Nat → ClassId} {k : KC} {Qp : KC → Prop} (x1 : Int32) (x2 : Int32) (x3 : Int32) (h : wC_X8_setLike x1 x2 x3 k Qp) : Dv l P D (tyA g) (wC a b g) yX8_setLike cX8_setLike 4 ({ frames := 0, cells := 0, slots := 0, locals := 0 }) [.ref (a 1), .int x1, .int x2, .int x3] k Qp := by
  refine Dv_of (by decide) (Nat.le_of_ble_eq_true rfl) ?_
  intro p e s m args below meth c A Z ls C ret hd hl
  have hx := C.1
  have hb := C.2.1
  have hl : lv_has ls 4 [(0, .ref (a 1)), (1, .int x1), (2, .int x2), (3, .int x3)] := hl
  replace h : (vp_in ((x1 * (8 : Int32)) + x2) 64 ∧ (vp_in ((x2 * (8 : Int32)) + x1) 64 ∧ Qp (cA (cA k 1 6 (upd (k.2.1 1 6) ((x1 * (8 : Int32)) + x2).toNatClampNeg x3)) 1 6 (upd (upd (k.2.1 1 6) ((x1 * (8 : Int32)) + x2).toNatClampNeg x3) ((x2 * (8 : Int32)) + x1).toNatClampNeg x3)))) := h
  refine lv_aload_n hx hb dX8_setLike_0 rfl (lv_at hl 0 rfl) ?_
  refine gC8_8_6 C hd dX8_setLike_1 ?_
  refine lv_iload_n hx hb dX8_setLike_4 rfl (lv_at hl 1 rfl) ?_
  refine lv_bipush (v := 8) hx hb dX8_setLike_5 (by decide) ?_
  refine lv_imul hx hb dX8_setLike_7 ?_
  refine lv_iload_n hx hb dX8_setLike_8 rfl (lv_at hl 2 rfl) ?_
  refine lv_iadd hx hb dX8_setLike_9 ?_
  refine lv_iload_n hx hb dX8_setLike_10 rfl (lv_at hl 3 rfl) ?_
  refine stC8_6 C hd h.1 dX8_setLike_11 (fun H locs hd => ?_)
  replace h := h.2
  refine lv_aload_n hx hb dX8_setLike_12 rfl (lv_at hl 0 rfl) ?_
  refine gC8_8_6 C hd dX8_setLike_13 ?_
  refine lv_iload_n hx hb dX8_setLike_16 rfl (lv_at hl 2 rfl) ?_
  refine lv_bipush (v := 8) hx hb dX8_setLike_17 (by decide) ?_
  refine lv_imul hx hb dX8_setLike_19 ?_
  refine lv_iload_n hx hb dX8_setLike_20 rfl (lv_at hl 1 rfl) ?_
  refine lv_iadd hx hb dX8_setLike_21 ?_
  refine lv_iload_n hx hb dX8_setLike_22 rfl (lv_at hl 3 rfl) ?_
  refine stC8_6 C hd h.1 dX8_setLike_23 (fun H locs hd => ?_)
  replace h := h.2
  exact ret hd h dX8_setLike_24
def wC_back  (k : KC) (Q : Int32 → KC → Prop) : Prop := ((¬ (k.1 0 9) = (-1 : Int32) → (wC_X0_becomeLike 2 3 (k.1 0 9) k (fun k_2 => Q (k_2.1 2 7) k_2))) ∧ ((k.1 0 9) = (-1 : Int32) → Q (-3 : Int32) k))
set_option maxHeartbeats 4000000 in
set_option maxRecDepth 100000 in
theorem cC_back {l : Launch} {P : EP} {D : va_G} {a : Nat → Nat} {b : Nat → Nat → Nat} {g : Nat → ClassId} {k : KC} {Qp : Int32 → KC → Prop}  (h : wC_back k Qp) : Di l P D (tyA g) (wC a b g) yX9_back cX9_back 1 ({ frames := 2, cells := 0, slots := 0, locals := 82 }) [.ref (a 0)] k Qp := by
  refine Di_of (by decide) (Nat.le_of_ble_eq_true rfl) ?_
  intro p e s m args below meth c A Z ls C ret hd hl
  have hx := C.1
  have hb := C.2.1
  have hl : lv_has ls 1 [(0, .ref (a 0))] := hl
  replace h : ((¬ (k.1 0 9) = (-1 : Int32) → (wC_X0_becomeLike 2 3 (k.1 0 9) k (fun k_2 => Qp (k_2.1 2 7) k_2))) ∧ ((k.1 0 9) = (-1 : Int32) → Qp (-3 : Int32) k)) := h
  refine lv_aload_n hx hb dX9_back_0 rfl (lv_at hl 0 rfl) ?_
  refine gC9_9_9 C hd (v := k.1 0 9) rfl dX9_back_1 ?_
  refine lv_iconst (v := -1) hx hb dX9_back_4 (by decide) ?_
  refine lv_icmp_ne (tgt := 11) hx hb dX9_back_5 (by decide) (fun c_1 => ?_) (fun c_1 => ?_)
  · replace h := h.1 c_1
    refine lv_aload_n hx hb dX9_back_11 rfl (lv_at hl 0 rfl) ?_
    refine gC9_9_1 C hd dX9_back_12 ?_
    refine lv_aload_n hx hb dX9_back_15 rfl (lv_at hl 0 rfl) ?_
    refine gC9_9_2 C hd dX9_back_16 ?_
    refine lv_aload_n hx hb dX9_back_19 rfl (lv_at hl 0 rfl) ?_
    refine gC9_9_9 C hd (v := k.1 0 9) rfl dX9_back_20 ?_
    refine ev_v C hd kwRX9_X0_becomeLike_191 (cC_X0_becomeLike (Or.inl rfl) (Or.inr (Or.inl rfl)) _ h) ⟨rfl, rfl⟩ ⟨by decide, by decide⟩ (rcC0 (Or.inl rfl)) hl.1 rfl rfl (Nat.le_of_ble_eq_true rfl) ⟨Nat.zero_le _, Nat.zero_le _⟩ dX9_back_23 (fun k_2 H locs h hd => ?_)
    refine lv_aload_n hx hb dX9_back_26 rfl (lv_at hl 0 rfl) ?_
    refine gC9_9_1 C hd dX9_back_27 ?_
    refine gC9_0_7 C hd (Or.inl rfl) (v := k_2.1 2 7) rfl dX9_back_30 ?_
    exact ret hd h dX9_back_33
  · replace h := h.2 c_1
    refine lv_bipush (v := -3) hx hb dX9_back_8 (by decide) ?_
    exact ret hd h dX9_back_10
def wC_blocked : Nat → Nat → Int32 → Dn → Int32 → Int32 → Int32 → KC → (Int32 → KC → Prop) → Prop
  | 0, _, _, _, _, _, _, _, _ => False
  | n + 1, c, x1, d2, x3, x4, x5, k, Q => match c with
    | 0 => (wC_X8_planAt x1 k (fun r_1 k_1 => ((r_1 = none → Q (-2 : Int32) k_1) ∧ (∀ x_2 : Nat, r_1 = some x_2 → ∃ d_2 : Dn, d_2.1 = x_2 ∧ (wC_X0_becomeLike 4 2 (8 : Int32) k_1 (fun k_3 => wC_blocked n 1 0 d_2 (0 : Int32) (0 : Int32) (0 : Int32) k_3 Q))))))
    | _ => (d2 ∈ plC k ∧ (((nI d2.2.2.2.1) ≤ x5 → Q (x3 &&& (x4 ^^^ (-1 : Int32))) k) ∧ (¬ (nI d2.2.2.2.1) ≤ x5 → (vp_in x5 d2.2.2.2.1 ∧ (vp_in x5 d2.2.2.2.1 ∧ (∃ n_6 : Nat, wC_X0_goThroughTrial 4 n_6 0 (d2.2.2.2.2.1 x5.toNatClampNeg) (d2.2.2.2.2.2 x5.toNatClampNeg) 0 0 0 k (fun r_6 k_6 => (d2 ∈ plC k_6 ∧ (vp_in x5 d2.2.2.2.1 ∧ (((d2.2.2.2.2.2 x5.toNatClampNeg) = 0 → wC_blocked n 1 0 d2 x3 x4 (x5 + (1 : Int32)) k_6 Q) ∧ (¬ (d2.2.2.2.2.2 x5.toNatClampNeg) = 0 → (vp_in x5 d2.2.2.2.1 ∧ (vp_in x5 d2.2.2.2.1 ∧ (∃ n_9 : Nat, wC_X0_gainers 4 n_9 0 (d2.2.2.2.2.1 x5.toNatClampNeg) 0 0 k_6 (fun r_9 k_9 => wC_blocked n 1 0 d2 (x3 ||| (d2.2.2.2.2.1 x5.toNatClampNeg)) (x4 ||| r_9) (x5 + (1 : Int32)) k_9 Q)))))))))))))))
set_option maxHeartbeats 4000000 in
set_option maxRecDepth 100000 in
theorem cC_blocked {l : Launch} {P : EP} {D : va_G} {a : Nat → Nat} {b : Nat → Nat → Nat} {g : Nat → ClassId} {k : KC} {Qp : Int32 → KC → Prop} (n : Nat) (x1 : Int32) (h : wC_blocked n 0 x1 dn0 0 0 0 k Qp) : Di l P D (tyA g) (wC a b g) yX9_blocked cX9_blocked 6 ({ frames := 4, cells := 0, slots := 0, locals := 101 }) [.ref (a 0), .int x1] k Qp := by
  refine Di_of (by decide) (Nat.le_of_ble_eq_true rfl) ?_
  intro p e s m args below meth c A Z ls C ret hd hl
  have hx := C.1
  have hb := C.2.1
  have hl : lv_has ls 6 [(0, .ref (a 0)), (1, .int x1)] := hl
  have L : ∀ n : Nat, (∀ (d2 : Dn) (x3 : Int32) (x4 : Int32) (x5 : Int32) (k : KC) (H : Heap) (locs : List Loc) (ls : Array Slot), wC_blocked n 1 0 d2 x3 x4 x5 k Qp → Hd D (wC a b g k) A s H locs → lv_has ls 6 [(0, .ref (a 0)), (2, .ref d2.1), (3, .int x3), (4, .int x4), (5, .int x5)] → W p l e ({ frames := 4, cells := 0, slots := 0, locals := 101 }) s m args below meth c H locs 0 0 Z (F0 m 37 ls [])) := by
    intro n
    induction n with
    | zero => exact fun _ _ _ _ _ _ _ _ h => h.elim
    | succ n ih =>
      intro d2 x3 x4 x5 k H locs ls h hd hl
      replace h : (d2 ∈ plC k ∧ (((nI d2.2.2.2.1) ≤ x5 → Qp (x3 &&& (x4 ^^^ (-1 : Int32))) k) ∧ (¬ (nI d2.2.2.2.1) ≤ x5 → (vp_in x5 d2.2.2.2.1 ∧ (vp_in x5 d2.2.2.2.1 ∧ (∃ n_6 : Nat, wC_X0_goThroughTrial 4 n_6 0 (d2.2.2.2.2.1 x5.toNatClampNeg) (d2.2.2.2.2.2 x5.toNatClampNeg) 0 0 0 k (fun r_6 k_6 => (d2 ∈ plC k_6 ∧ (vp_in x5 d2.2.2.2.1 ∧ (((d2.2.2.2.2.2 x5.toNatClampNeg) = 0 → wC_blocked n 1 0 d2 x3 x4 (x5 + (1 : Int32)) k_6 Qp) ∧ (¬ (d2.2.2.2.2.2 x5.toNatClampNeg) = 0 → (vp_in x5 d2.2.2.2.1 ∧ (vp_in x5 d2.2.2.2.1 ∧ (∃ n_9 : Nat, wC_X0_gainers 4 n_9 0 (d2.2.2.2.2.1 x5.toNatClampNeg) 0 0 k_6 (fun r_9 k_9 => wC_blocked n 1 0 d2 (x3 ||| (d2.2.2.2.2.1 x5.toNatClampNeg)) (x4 ||| r_9) (x5 + (1 : Int32)) k_9 Qp))))))))))))))) := h
      refine lv_iload hx hb dX9_blocked_37 (lv_at hl 4 rfl) ?_
      refine lv_aload_n hx hb dX9_blocked_39 rfl (lv_at hl 1 rfl) ?_
      have hm_4 := h.1
      replace h := h.2
      refine gC9_1_2 C hd hm_4 dX9_blocked_40 ?_
      refine lv_icmp_ge (tgt := 113) hx hb dX9_blocked_43 (by decide) (fun c_5 => ?_) (fun c_5 => ?_)
      · replace h := h.1 c_5
        refine lv_iload_n hx hb dX9_blocked_113 rfl (lv_at hl 2 rfl) ?_
        refine lv_iload hx hb dX9_blocked_114 (lv_at hl 3 rfl) ?_
        refine lv_iconst (v := -1) hx hb dX9_blocked_116 (by decide) ?_
        refine lv_ixor hx hb dX9_blocked_117 ?_
        refine lv_iand hx hb dX9_blocked_118 ?_
        exact ret hd h dX9_blocked_119
      · replace h := h.2 c_5
        refine lv_aload_n hx hb dX9_blocked_46 rfl (lv_at hl 0 rfl) ?_
        refine gC9_9_3 C hd dX9_blocked_47 ?_
        refine lv_aload_n hx hb dX9_blocked_50 rfl (lv_at hl 1 rfl) ?_
        refine gC9_1_0 C hd hm_4 dX9_blocked_51 ?_
        refine lv_iload hx hb dX9_blocked_54 (lv_at hl 4 rfl) ?_
        refine ldC1_0 C hd hm_4 h.1 dX9_blocked_56 ?_
        replace h := h.2
        refine lv_aload_n hx hb dX9_blocked_57 rfl (lv_at hl 1 rfl) ?_
        refine gC9_1_1 C hd hm_4 dX9_blocked_58 ?_
        refine lv_iload hx hb dX9_blocked_61 (lv_at hl 4 rfl) ?_
        refine ldC1_1 C hd hm_4 h.1 dX9_blocked_63 ?_
        replace h := h.2
        obtain ⟨n_6, h⟩ := h
        refine ev_i C hd kwRX9_X0_goThroughTrial_175 (cC_X0_goThroughTrial (Or.inr (Or.inr rfl)) n_6 _ _ h) ⟨rfl, rfl⟩ ⟨by decide, by decide⟩ (rcC0 (Or.inr (Or.inr rfl))) hl.1 rfl rfl (Nat.le_of_ble_eq_true rfl) ⟨Nat.zero_le _, Nat.zero_le _⟩ dX9_blocked_64 (fun r_6 k_6 H locs h hd => ?_)
        refine lv_pop hx hb dX9_blocked_67 rfl ?_
        refine lv_aload_n hx hb dX9_blocked_68 rfl (lv_at hl 1 rfl) ?_
        have hm_7 := h.1
        replace h := h.2
        refine gC9_1_1 C hd hm_7 dX9_blocked_69 ?_
        refine lv_iload hx hb dX9_blocked_72 (lv_at hl 4 rfl) ?_
        refine ldC1_1 C hd hm_7 h.1 dX9_blocked_74 ?_
        replace h := h.2
        refine lv_if_eq (tgt := 107) hx hb dX9_blocked_75 (by decide) (fun c_8 => ?_) (fun c_8 => ?_)
        · replace h := h.1 c_8
          refine lv_iinc (v := (x5 + (1 : Int32))) (lv' := [(5, .int (x5 + (1 : Int32))), (0, .ref (a 0)), (2, .ref d2.1), (3, .int x3), (4, .int x4)]) hx hb dX9_blocked_107 hl (k := 4) rfl rfl (by decide) rfl (fun ls hl => ?_)
          refine lv_goto (tgt := 37) hx hb dX9_blocked_110 (by decide) ?_
          exact ih d2 x3 x4 (x5 + (1 : Int32))  _ _ _ _ h hd (lv_sub hl [1, 2, 3, 4, 0] rfl)
        · replace h := h.2 c_8
          refine lv_iload_n hx hb dX9_blocked_78 rfl (lv_at hl 2 rfl) ?_
          refine lv_aload_n hx hb dX9_blocked_79 rfl (lv_at hl 1 rfl) ?_
          refine gC9_1_0 C hd hm_7 dX9_blocked_80 ?_
          refine lv_iload hx hb dX9_blocked_83 (lv_at hl 4 rfl) ?_
          refine ldC1_0 C hd hm_7 h.1 dX9_blocked_85 ?_
          replace h := h.2
          refine lv_ior hx hb dX9_blocked_86 ?_
          refine lv_istore_n (lv' := [(3, .int (x3 ||| (d2.2.2.2.2.1 x5.toNatClampNeg))), (0, .ref (a 0)), (2, .ref d2.1), (4, .int x4), (5, .int x5)]) hx hb dX9_blocked_87 rfl hl (by decide) rfl (fun ls hl => ?_)
          refine lv_iload hx hb dX9_blocked_88 (lv_at hl 3 rfl) ?_
          refine lv_aload_n hx hb dX9_blocked_90 rfl (lv_at hl 1 rfl) ?_
          refine gC9_9_3 C hd dX9_blocked_91 ?_
          refine lv_aload_n hx hb dX9_blocked_94 rfl (lv_at hl 2 rfl) ?_
          refine gC9_1_0 C hd hm_7 dX9_blocked_95 ?_
          refine lv_iload hx hb dX9_blocked_98 (lv_at hl 4 rfl) ?_
          refine ldC1_0 C hd hm_7 h.1 dX9_blocked_100 ?_
          replace h := h.2
          obtain ⟨n_9, h⟩ := h
          refine ev_i C hd kwRX9_X0_gainers_199 (cC_X0_gainers (Or.inr (Or.inr rfl)) n_9 _ h) ⟨rfl, rfl⟩ ⟨by decide, by decide⟩ (rcC0 (Or.inr (Or.inr rfl))) hl.1 rfl rfl (Nat.le_of_ble_eq_true rfl) ⟨Nat.zero_le _, Nat.zero_le _⟩ dX9_blocked_101 (fun r_9 k_9 H locs h hd => ?_)
          refine lv_ior hx hb dX9_blocked_104 ?_
          refine lv_istore (lv' := [(4, .int (x4 ||| r_9)), (3, .int (x3 ||| (d2.2.2.2.2.1 x5.toNatClampNeg))), (0, .ref (a 0)), (2, .ref d2.1), (5, .int x5)]) hx hb dX9_blocked_105 hl (by decide) rfl (fun ls hl => ?_)
          refine lv_iinc (v := (x5 + (1 : Int32))) (lv' := [(5, .int (x5 + (1 : Int32))), (4, .int (x4 ||| r_9)), (3, .int (x3 ||| (d2.2.2.2.2.1 x5.toNatClampNeg))), (0, .ref (a 0)), (2, .ref d2.1)]) hx hb dX9_blocked_107 hl (k := 4) rfl rfl (by decide) rfl (fun ls hl => ?_)
          refine lv_goto (tgt := 37) hx hb dX9_blocked_110 (by decide) ?_
          exact ih d2 (x3 ||| (d2.2.2.2.2.1 x5.toNatClampNeg)) (x4 ||| r_9) (x5 + (1 : Int32))  _ _ _ _ h hd (lv_sub hl [3, 4, 2, 1, 0] rfl)
  cases n with
  | zero => exact h.elim
  | succ n =>
    replace h : (wC_X8_planAt x1 k (fun r_1 k_1 => ((r_1 = none → Qp (-2 : Int32) k_1) ∧ (∀ x_2 : Nat, r_1 = some x_2 → ∃ d_2 : Dn, d_2.1 = x_2 ∧ (wC_X0_becomeLike 4 2 (8 : Int32) k_1 (fun k_3 => wC_blocked n 1 0 d_2 (0 : Int32) (0 : Int32) (0 : Int32) k_3 Qp)))))) := h
    refine lv_aload_n hx hb dX9_blocked_0 rfl (lv_at hl 0 rfl) ?_
    refine gC9_9_0 C hd dX9_blocked_1 ?_
    refine lv_iload_n hx hb dX9_blocked_4 rfl (lv_at hl 1 rfl) ?_
    refine ev_q C hd kwRX9_X8_planAt_159 (cC_X8_planAt _ h) ⟨rfl, rfl⟩ ⟨by decide, by decide⟩ rcC8 hl.1 rfl rfl (Nat.le_of_ble_eq_true rfl) ⟨Nat.zero_le _, Nat.zero_le _⟩ dX9_blocked_5 (fun r_1 k_1 H locs h hd => ?_)
    refine rf_split (fun e_2 => ?_) (fun x_2 e_2 => ?_)
    · replace h := h.1 e_2
      refine lv_astore_nN (lv' := [(2, .null), (0, .ref (a 0)), (1, .int x1)]) hx hb dX9_blocked_8 rfl hl (by decide) rfl (fun ls hl => ?_)
      refine lv_aload_nN hx hb dX9_blocked_9 rfl (lv_at hl 0 rfl) ?_
      refine lv_ifnonnullN hx hb dX9_blocked_10 ?_
      refine lv_bipush (v := -2) hx hb dX9_blocked_13 (by decide) ?_
      exact ret hd h dX9_blocked_15
    · obtain ⟨d_2, hx_2, h⟩ := h.2 x_2 e_2
      subst hx_2
      refine lv_astore_n (lv' := [(2, .ref d_2.1), (0, .ref (a 0)), (1, .int x1)]) hx hb dX9_blocked_8 rfl hl (by decide) rfl (fun ls hl => ?_)
      refine lv_aload_n hx hb dX9_blocked_9 rfl (lv_at hl 0 rfl) ?_
      refine lv_ifnonnull (tgt := 16) hx hb dX9_blocked_10 (by decide) ?_
      refine lv_aload_n hx hb dX9_blocked_16 rfl (lv_at hl 1 rfl) ?_
      refine gC9_9_3 C hd dX9_blocked_17 ?_
      refine lv_aload_n hx hb dX9_blocked_20 rfl (lv_at hl 1 rfl) ?_
      refine gC9_9_1 C hd dX9_blocked_21 ?_
      refine lv_bipush (v := 8) hx hb dX9_blocked_24 (by decide) ?_
      refine ev_v C hd kwRX9_X0_becomeLike_191 (cC_X0_becomeLike (Or.inr (Or.inr rfl)) (Or.inl rfl) _ h) ⟨rfl, rfl⟩ ⟨by decide, by decide⟩ (rcC0 (Or.inr (Or.inr rfl))) hl.1 rfl rfl (Nat.le_of_ble_eq_true rfl) ⟨Nat.zero_le _, Nat.zero_le _⟩ dX9_blocked_26 (fun k_3 H locs h hd => ?_)
      refine lv_iconst (v := 0) hx hb dX9_blocked_29 (by decide) ?_
      refine lv_istore_n (lv' := [(3, .int (0 : Int32)), (2, .ref d_2.1), (0, .ref (a 0)), (1, .int x1)]) hx hb dX9_blocked_30 rfl hl (by decide) rfl (fun ls hl => ?_)
      refine lv_iconst (v := 0) hx hb dX9_blocked_31 (by decide) ?_
      refine lv_istore (lv' := [(4, .int (0 : Int32)), (3, .int (0 : Int32)), (2, .ref d_2.1), (0, .ref (a 0)), (1, .int x1)]) hx hb dX9_blocked_32 hl (by decide) rfl (fun ls hl => ?_)
      refine lv_iconst (v := 0) hx hb dX9_blocked_34 (by decide) ?_
      refine lv_istore (lv' := [(5, .int (0 : Int32)), (4, .int (0 : Int32)), (3, .int (0 : Int32)), (2, .ref d_2.1), (0, .ref (a 0)), (1, .int x1)]) hx hb dX9_blocked_35 hl (by decide) rfl (fun ls hl => ?_)
      exact L n d_2 (0 : Int32) (0 : Int32) (0 : Int32)  _ _ _ _ h hd (lv_sub hl [4, 3, 2, 1, 0] rfl)
def wC_isSheet (x0 : Int32) (k : KC) (Q : Int32 → KC → Prop) : Prop := (wC_within x0 (0 : Int32) (3 : Int32) k (fun r_1 k_1 => Q r_1 k_1))
set_option maxHeartbeats 4000000 in
set_option maxRecDepth 100000 in
theorem cC_isSheet {l : Launch} {P : EP} {D : va_G} {a : Nat → Nat} {b : Nat → Nat → Nat} {g : Nat → ClassId} {k : KC} {Qp : Int32 → KC → Prop} (x0 : Int32) (h : wC_isSheet x0 k Qp) : Dz l P D (tyA g) (wC a b g) yX9_isSheet cX9_isSheet 1 ({ frames := 1, cells := 0, slots := 0, locals := 22 }) [.int x0] k Qp := by
  refine Dz_of (by decide) (Nat.le_of_ble_eq_true rfl) ?_
  intro p e s m args below meth c A Z ls C ret hd hl
  have hx := C.1
  have hb := C.2.1
  have hl : lv_has ls 1 [(0, .int x0)] := hl
  replace h : (wC_within x0 (0 : Int32) (3 : Int32) k (fun r_1 k_1 => Qp r_1 k_1)) := h
  refine lv_iload_n hx hb dX9_isSheet_0 rfl (lv_at hl 0 rfl) ?_
  refine lv_iconst (v := 0) hx hb dX9_isSheet_1 (by decide) ?_
  refine lv_iconst (v := 3) hx hb dX9_isSheet_2 (by decide) ?_
  refine es_z C hd kwRX9_X9_within_70 (cC_within _ _ _ h) ⟨rfl, rfl⟩ ⟨by decide, by decide⟩ hl.1 rfl rfl (Nat.le_of_ble_eq_true rfl) ⟨Nat.zero_le _, Nat.zero_le _⟩ dX9_isSheet_3 (fun r_1 k_1 H locs hz_1 h hd => ?_)
  exact ret hd hz_1 h dX9_isSheet_6
def wC_cell (x1 : Int32) (x2 : Int32) (x3 : Int32) (k : KC) (Q : Int32 → KC → Prop) : Prop := (wC_isSheet x1 k (fun r_1 k_1 => ((¬ r_1 = 0 → (vp_in x1 4 ∧ ∀ i_3 : Nat, i_3 = 9 + x1.toNatClampNeg → (wC_X3_isMissing i_3 k_1 (fun r_4 k_4 => ((r_4 = 0 → (wC_X3_has i_3 x2 k_4 (fun r_6 k_6 => ((¬ r_6 = 0 → (wC_X3_put i_3 x2 x3 k_6 (fun k_8 => Q (1 : Int32) k_8))) ∧ (r_6 = 0 → Q (-12 : Int32) k_6))))) ∧ (¬ r_4 = 0 → Q (-11 : Int32) k_4)))))) ∧ (r_1 = 0 → Q (-2 : Int32) k_1))))
set_option maxHeartbeats 4000000 in
set_option maxRecDepth 100000 in
theorem cC_cell {l : Launch} {P : EP} {D : va_G} {a : Nat → Nat} {b : Nat → Nat → Nat} {g : Nat → ClassId} {k : KC} {Qp : Int32 → KC → Prop} (x1 : Int32) (x2 : Int32) (x3 : Int32) (h : wC_cell x1 x2 x3 k Qp) : Di l P D (tyA g) (wC a b g) yX9_cell cX9_cell 5 ({ frames := 2, cells := 0, slots := 0, locals := 43 }) [.ref (a 0), .int x1, .int x2, .int x3] k Qp := by
  refine Di_of (by decide) (Nat.le_of_ble_eq_true rfl) ?_
  intro p e s m args below meth c A Z ls C ret hd hl
  have hx := C.1
  have hb := C.2.1
  have hl : lv_has ls 5 [(0, .ref (a 0)), (1, .int x1), (2, .int x2), (3, .int x3)] := hl
  replace h : (wC_isSheet x1 k (fun r_1 k_1 => ((¬ r_1 = 0 → (vp_in x1 4 ∧ ∀ i_3 : Nat, i_3 = 9 + x1.toNatClampNeg → (wC_X3_isMissing i_3 k_1 (fun r_4 k_4 => ((r_4 = 0 → (wC_X3_has i_3 x2 k_4 (fun r_6 k_6 => ((¬ r_6 = 0 → (wC_X3_put i_3 x2 x3 k_6 (fun k_8 => Qp (1 : Int32) k_8))) ∧ (r_6 = 0 → Qp (-12 : Int32) k_6))))) ∧ (¬ r_4 = 0 → Qp (-11 : Int32) k_4)))))) ∧ (r_1 = 0 → Qp (-2 : Int32) k_1)))) := h
  refine lv_iload_n hx hb dX9_cell_0 rfl (lv_at hl 1 rfl) ?_
  refine es_z C hd kwRX9_X9_isSheet_261 (cC_isSheet _ h) ⟨rfl, rfl⟩ ⟨by decide, by decide⟩ hl.1 rfl rfl (Nat.le_of_ble_eq_true rfl) ⟨Nat.zero_le _, Nat.zero_le _⟩ dX9_cell_1 (fun r_1 k_1 H locs hz_1 h hd => ?_)
  refine lv_if_ne (tgt := 10) hx hb dX9_cell_4 (by decide) (fun c_2 => ?_) (fun c_2 => ?_)
  · replace h := h.1 c_2
    refine lv_aload_n hx hb dX9_cell_10 rfl (lv_at hl 0 rfl) ?_
    refine gC9_9_8 C hd dX9_cell_11 ?_
    refine lv_iload_n hx hb dX9_cell_14 rfl (lv_at hl 1 rfl) ?_
    refine ldC9_8 C hd h.1 dX9_cell_15 ?_
    have hv_3 := sh_or h.1
    replace h := h.2
    refine top_a (fun i_3 e_3 => ?_)
    rw [← e_3] at hv_3
    have hs_3 : i_3 = 9 ∨ i_3 = 10 ∨ i_3 = 11 ∨ i_3 = 12 := hv_3
    replace h := h i_3 e_3
    refine lv_astore (lv' := [(4, .ref (a i_3)), (0, .ref (a 0)), (1, .int x1), (2, .int x2), (3, .int x3)]) hx hb dX9_cell_16 hl (by decide) rfl (fun ls hl => ?_)
    refine lv_aload hx hb dX9_cell_18 (lv_at hl 0 rfl) ?_
    refine ev_z C hd kwRX9_X3_isMissing_268 (cC_X3_isMissing hs_3 h) ⟨rfl, rfl⟩ ⟨by decide, by decide⟩ (rcC3 hs_3) hl.1 rfl rfl (Nat.le_of_ble_eq_true rfl) ⟨Nat.zero_le _, Nat.zero_le _⟩ dX9_cell_20 (fun r_4 k_4 H locs hz_4 h hd => ?_)
    refine lv_if_eq (tgt := 29) hx hb dX9_cell_23 (by decide) (fun c_5 => ?_) (fun c_5 => ?_)
    · replace h := h.1 c_5
      refine lv_aload hx hb dX9_cell_29 (lv_at hl 0 rfl) ?_
      refine lv_iload_n hx hb dX9_cell_31 rfl (lv_at hl 3 rfl) ?_
      refine ev_z C hd kwRX9_X3_has_272 (cC_X3_has hs_3 _ h) ⟨rfl, rfl⟩ ⟨by decide, by decide⟩ (rcC3 hs_3) hl.1 rfl rfl (Nat.le_of_ble_eq_true rfl) ⟨Nat.zero_le _, Nat.zero_le _⟩ dX9_cell_32 (fun r_6 k_6 H locs hz_6 h hd => ?_)
      refine lv_if_ne (tgt := 41) hx hb dX9_cell_35 (by decide) (fun c_7 => ?_) (fun c_7 => ?_)
      · replace h := h.1 c_7
        refine lv_aload hx hb dX9_cell_41 (lv_at hl 0 rfl) ?_
        refine lv_iload_n hx hb dX9_cell_43 rfl (lv_at hl 3 rfl) ?_
        refine lv_iload_n hx hb dX9_cell_44 rfl (lv_at hl 4 rfl) ?_
        refine ev_v C hd kwRX9_X3_put_275 (cC_X3_put hs_3 _ _ h) ⟨rfl, rfl⟩ ⟨by decide, by decide⟩ (rcC3 hs_3) hl.1 rfl rfl (Nat.le_of_ble_eq_true rfl) ⟨Nat.zero_le _, Nat.zero_le _⟩ dX9_cell_45 (fun k_8 H locs h hd => ?_)
        refine lv_iconst (v := 1) hx hb dX9_cell_48 (by decide) ?_
        exact ret hd h dX9_cell_49
      · replace h := h.2 c_7
        refine lv_bipush (v := -12) hx hb dX9_cell_38 (by decide) ?_
        exact ret hd h dX9_cell_40
    · replace h := h.2 c_5
      refine lv_bipush (v := -11) hx hb dX9_cell_26 (by decide) ?_
      exact ret hd h dX9_cell_28
  · replace h := h.2 c_2
    refine lv_bipush (v := -2) hx hb dX9_cell_7 (by decide) ?_
    exact ret hd h dX9_cell_9
def wC_commonDivisor : Nat → Nat → Int64 → Int64 → Int64 → Int64 → Int32 → KC → (Int64 → KC → Prop) → Prop
  | 0, _, _, _, _, _, _, _, _ => False
  | n + 1, c, x0l, x2l, x4l, x6l, x8, k, Q => match c with
    | 0 => wC_commonDivisor n 1 0 0 x2l x0l (0 : Int32) k Q
    | _ => (((200 : Int32) ≤ x8 → Q (if x4l < (1 : Int64) then (1 : Int64) else x4l) k) ∧ (¬ (200 : Int32) ≤ x8 → (((lg_cmp x6l (0 : Int64)) = 0 → Q (if x4l < (1 : Int64) then (1 : Int64) else x4l) k) ∧ (¬ (lg_cmp x6l (0 : Int64)) = 0 → (¬ x6l = 0 ∧ wC_commonDivisor n 1 0 0 x6l (x4l - x4l / x6l * x6l) (x8 + (1 : Int32)) k Q)))))
set_option maxHeartbeats 4000000 in
set_option maxRecDepth 100000 in
theorem cC_commonDivisor {l : Launch} {P : EP} {D : va_G} {a : Nat → Nat} {b : Nat → Nat → Nat} {g : Nat → ClassId} {k : KC} {Qp : Int64 → KC → Prop} (n : Nat) (x0l : Int64) (x2l : Int64) (h : wC_commonDivisor n 0 x0l x2l 0 0 0 k Qp) : Dl l P D (tyA g) (wC a b g) yX9_commonDivisor cX9_commonDivisor 11 ({ frames := 1, cells := 0, slots := 0, locals := 30 }) [.long x0l, .long x2l] k Qp := by
  refine Dl_of (by decide) (Nat.le_of_ble_eq_true rfl) ?_
  intro p e s m args below meth c A Z ls C ret hd hl
  have hx := C.1
  have hb := C.2.1
  have hl : lv_has ls 11 [(0, .long x0l), (2, .long x2l)] := hl
  have L : ∀ n : Nat, (∀ (x4l : Int64) (x6l : Int64) (x8 : Int32) (k : KC) (H : Heap) (locs : List Loc) (ls : Array Slot), wC_commonDivisor n 1 0 0 x4l x6l x8 k Qp → Hd D (wC a b g k) A s H locs → lv_has ls 11 [(4, .long x4l), (6, .long x6l), (8, .int x8)] → W p l e ({ frames := 1, cells := 0, slots := 0, locals := 30 }) s m args below meth c H locs 0 0 Z (F0 m 9 ls [])) := by
    intro n
    induction n with
    | zero => exact fun _ _ _ _ _ _ _ h => h.elim
    | succ n ih =>
      intro x4l x6l x8 k H locs ls h hd hl
      replace h : (((200 : Int32) ≤ x8 → Qp (if x4l < (1 : Int64) then (1 : Int64) else x4l) k) ∧ (¬ (200 : Int32) ≤ x8 → (((lg_cmp x6l (0 : Int64)) = 0 → Qp (if x4l < (1 : Int64) then (1 : Int64) else x4l) k) ∧ (¬ (lg_cmp x6l (0 : Int64)) = 0 → (¬ x6l = 0 ∧ wC_commonDivisor n 1 0 0 x6l (x4l - x4l / x6l * x6l) (x8 + (1 : Int32)) k Qp))))) := h
      refine lv_iload hx hb dX9_commonDivisor_9 (lv_at hl 2 rfl) ?_
      refine lv_sipush (v := 200) hx hb dX9_commonDivisor_11 (by decide) ?_
      refine lv_icmp_ge (tgt := 45) hx hb dX9_commonDivisor_14 (by decide) (fun c_1 => ?_) (fun c_1 => ?_)
      · replace h := h.1 c_1
        refine lv_lconst (v := 1) hx hb dX9_commonDivisor_45 (by decide) ?_
        refine lv_lload hx hb dX9_commonDivisor_46 (lv_at hl 0 rfl) ?_
        refine va_mmax_long C.1 C.2.1 (C.2.2.1.trans hl.1.symm) C.2.2.2.1 (C.2.2.2.2.1 _ q_744) (C.2.2.2.2.1 _ q_745) (C.2.2.2.2.1 _ q_16) (C.2.2.2.2.1 _ q_746) (by decide) (Nat.le_of_ble_eq_true rfl) (Nat.zero_le _) (Nat.zero_le _) dX9_commonDivisor_48 ?_
        exact ret hd h dX9_commonDivisor_51
      · replace h := h.2 c_1
        refine lv_lload hx hb dX9_commonDivisor_17 (lv_at hl 1 rfl) ?_
        refine lv_lconst (v := 0) hx hb dX9_commonDivisor_19 (by decide) ?_
        refine W.lcmp hx hb dX9_commonDivisor_20 ?_
        refine lv_if_eq (tgt := 45) hx hb dX9_commonDivisor_21 (by decide) (fun c_2 => ?_) (fun c_2 => ?_)
        · replace h := h.1 c_2
          refine lv_lconst (v := 1) hx hb dX9_commonDivisor_45 (by decide) ?_
          refine lv_lload hx hb dX9_commonDivisor_46 (lv_at hl 0 rfl) ?_
          refine va_mmax_long C.1 C.2.1 (C.2.2.1.trans hl.1.symm) C.2.2.2.1 (C.2.2.2.2.1 _ q_744) (C.2.2.2.2.1 _ q_745) (C.2.2.2.2.1 _ q_16) (C.2.2.2.2.1 _ q_746) (by decide) (Nat.le_of_ble_eq_true rfl) (Nat.zero_le _) (Nat.zero_le _) dX9_commonDivisor_48 ?_
          exact ret hd h dX9_commonDivisor_51
        · replace h := h.2 c_2
          refine lv_lload hx hb dX9_commonDivisor_24 (lv_at hl 0 rfl) ?_
          refine lv_lload hx hb dX9_commonDivisor_26 (lv_at hl 1 rfl) ?_
          refine lv_lrem hx hb dX9_commonDivisor_28 h.1 ?_
          replace h := h.2
          refine lv_lstore (lv' := [(9, .long (x4l - x4l / x6l * x6l)), (4, .long x4l), (6, .long x6l), (8, .int x8)]) hx hb dX9_commonDivisor_29 hl (by decide) rfl (fun ls hl => ?_)
          refine lv_lload hx hb dX9_commonDivisor_31 (lv_at hl 2 rfl) ?_
          refine lv_lstore (lv' := [(4, .long x6l), (9, .long (x4l - x4l / x6l * x6l)), (6, .long x6l), (8, .int x8)]) hx hb dX9_commonDivisor_33 hl (by decide) rfl (fun ls hl => ?_)
          refine lv_lload hx hb dX9_commonDivisor_35 (lv_at hl 1 rfl) ?_
          refine lv_lstore (lv' := [(6, .long (x4l - x4l / x6l * x6l)), (4, .long x6l), (9, .long (x4l - x4l / x6l * x6l)), (8, .int x8)]) hx hb dX9_commonDivisor_37 hl (by decide) rfl (fun ls hl => ?_)
          refine lv_iinc (v := (x8 + (1 : Int32))) (lv' := [(8, .int (x8 + (1 : Int32))), (6, .long (x4l - x4l / x6l * x6l)), (4, .long x6l), (9, .long (x4l - x4l / x6l * x6l))]) hx hb dX9_commonDivisor_39 hl (k := 3) rfl rfl (by decide) rfl (fun ls hl => ?_)
          refine lv_goto (tgt := 9) hx hb dX9_commonDivisor_42 (by decide) ?_
          exact ih x6l (x4l - x4l / x6l * x6l) (x8 + (1 : Int32))  _ _ _ _ h hd (lv_sub hl [2, 1, 0] rfl)
  cases n with
  | zero => exact h.elim
  | succ n =>
    replace h : wC_commonDivisor n 1 0 0 x2l x0l (0 : Int32) k Qp := h
    refine lv_lload_n hx hb dX9_commonDivisor_0 rfl (lv_at hl 1 rfl) ?_
    refine lv_lstore (lv' := [(4, .long x2l), (0, .long x0l), (2, .long x2l)]) hx hb dX9_commonDivisor_1 hl (by decide) rfl (fun ls hl => ?_)
    refine lv_lload_n hx hb dX9_commonDivisor_3 rfl (lv_at hl 1 rfl) ?_
    refine lv_lstore (lv' := [(6, .long x0l), (4, .long x2l), (0, .long x0l), (2, .long x2l)]) hx hb dX9_commonDivisor_4 hl (by decide) rfl (fun ls hl => ?_)
    refine lv_iconst (v := 0) hx hb dX9_commonDivisor_6 (by decide) ?_
    refine lv_istore (lv' := [(8, .int (0 : Int32)), (6, .long x0l), (4, .long x2l), (0, .long x0l), (2, .long x2l)]) hx hb dX9_commonDivisor_7 hl (by decide) rfl (fun ls hl => ?_)
    exact L n x2l x0l (0 : Int32)  _ _ _ _ h hd (lv_sub hl [2, 1, 0] rfl)
def wC_copy (x1 : Int32) (x2 : Int32) (x3 : Int32) (x4 : Int32) (x5 : Int32) (k : KC) (Q : Int32 → KC → Prop) : Prop := (wC_isSheet x1 k (fun r_1 k_1 => ((r_1 = 0 → Q (-2 : Int32) k_1) ∧ (¬ r_1 = 0 → (wC_isSheet x3 k_1 (fun r_3 k_3 => ((¬ r_3 = 0 → (vp_in x1 4 ∧ ∀ i_5 : Nat, i_5 = 9 + x1.toNatClampNeg → (vp_in x3 4 ∧ ∀ i_6 : Nat, i_6 = 9 + x3.toNatClampNeg → (wC_X3_isMissing i_5 k_3 (fun r_7 k_7 => ((¬ r_7 = 0 → Q (-11 : Int32) k_7) ∧ (r_7 = 0 → (wC_X3_isMissing i_6 k_7 (fun r_9 k_9 => ((r_9 = 0 → (((k_9.1 i_5 0) = (k_9.1 i_6 0) → (wC_X3_hasRun i_5 x2 x5 k_9 (fun r_12 k_12 => ((r_12 = 0 → Q (-12 : Int32) k_12) ∧ (¬ r_12 = 0 → (wC_X3_hasRun i_6 x4 x5 k_12 (fun r_14 k_14 => ((¬ r_14 = 0 → (cpOk x2 x4 x5 40 40 ∧ Q x5 (cA k_14 i_6 2 (va_cpy (k_14.2.1 i_5 2) (k_14.2.1 i_6 2) x2.toNatClampNeg x4.toNatClampNeg x5.toNatClampNeg)))) ∧ (r_14 = 0 → Q (-12 : Int32) k_14))))))))) ∧ (¬ (k_9.1 i_5 0) = (k_9.1 i_6 0) → Q (-13 : Int32) k_9))) ∧ (¬ r_9 = 0 → Q (-11 : Int32) k_9))))))))))) ∧ (r_3 = 0 → Q (-2 : Int32) k_3))))))))
set_option maxHeartbeats 4000000 in
set_option maxRecDepth 100000 in
theorem cC_copy {l : Launch} {P : EP} {D : va_G} {a : Nat → Nat} {b : Nat → Nat → Nat} {g : Nat → ClassId} {k : KC} {Qp : Int32 → KC → Prop} (x1 : Int32) (x2 : Int32) (x3 : Int32) (x4 : Int32) (x5 : Int32) (h : wC_copy x1 x2 x3 x4 x5 k Qp) : Di l P D (tyA g) (wC a b g) yX9_copy cX9_copy 8 ({ frames := 2, cells := 0, slots := 0, locals := 60 }) [.ref (a 0), .int x1, .int x2, .int x3, .int x4, .int x5] k Qp := by
  refine Di_of (by decide) (Nat.le_of_ble_eq_true rfl) ?_
  intro p e s m args below meth c A Z ls C ret hd hl
  have hx := C.1
  have hb := C.2.1
  have hl : lv_has ls 8 [(0, .ref (a 0)), (1, .int x1), (2, .int x2), (3, .int x3), (4, .int x4), (5, .int x5)] := hl
  replace h : (wC_isSheet x1 k (fun r_1 k_1 => ((r_1 = 0 → Qp (-2 : Int32) k_1) ∧ (¬ r_1 = 0 → (wC_isSheet x3 k_1 (fun r_3 k_3 => ((¬ r_3 = 0 → (vp_in x1 4 ∧ ∀ i_5 : Nat, i_5 = 9 + x1.toNatClampNeg → (vp_in x3 4 ∧ ∀ i_6 : Nat, i_6 = 9 + x3.toNatClampNeg → (wC_X3_isMissing i_5 k_3 (fun r_7 k_7 => ((¬ r_7 = 0 → Qp (-11 : Int32) k_7) ∧ (r_7 = 0 → (wC_X3_isMissing i_6 k_7 (fun r_9 k_9 => ((r_9 = 0 → (((k_9.1 i_5 0) = (k_9.1 i_6 0) → (wC_X3_hasRun i_5 x2 x5 k_9 (fun r_12 k_12 => ((r_12 = 0 → Qp (-12 : Int32) k_12) ∧ (¬ r_12 = 0 → (wC_X3_hasRun i_6 x4 x5 k_12 (fun r_14 k_14 => ((¬ r_14 = 0 → (cpOk x2 x4 x5 40 40 ∧ Qp x5 (cA k_14 i_6 2 (va_cpy (k_14.2.1 i_5 2) (k_14.2.1 i_6 2) x2.toNatClampNeg x4.toNatClampNeg x5.toNatClampNeg)))) ∧ (r_14 = 0 → Qp (-12 : Int32) k_14))))))))) ∧ (¬ (k_9.1 i_5 0) = (k_9.1 i_6 0) → Qp (-13 : Int32) k_9))) ∧ (¬ r_9 = 0 → Qp (-11 : Int32) k_9))))))))))) ∧ (r_3 = 0 → Qp (-2 : Int32) k_3)))))))) := h
  refine lv_iload_n hx hb dX9_copy_0 rfl (lv_at hl 1 rfl) ?_
  refine es_z C hd kwRX9_X9_isSheet_261 (cC_isSheet _ h) ⟨rfl, rfl⟩ ⟨by decide, by decide⟩ hl.1 rfl rfl (Nat.le_of_ble_eq_true rfl) ⟨Nat.zero_le _, Nat.zero_le _⟩ dX9_copy_1 (fun r_1 k_1 H locs hz_1 h hd => ?_)
  refine lv_if_eq (tgt := 14) hx hb dX9_copy_4 (by decide) (fun c_2 => ?_) (fun c_2 => ?_)
  · replace h := h.1 c_2
    refine lv_bipush (v := -2) hx hb dX9_copy_14 (by decide) ?_
    exact ret hd h dX9_copy_16
  · replace h := h.2 c_2
    refine lv_iload_n hx hb dX9_copy_7 rfl (lv_at hl 3 rfl) ?_
    refine es_z C hd kwRX9_X9_isSheet_261 (cC_isSheet _ h) ⟨rfl, rfl⟩ ⟨by decide, by decide⟩ hl.1 rfl rfl (Nat.le_of_ble_eq_true rfl) ⟨Nat.zero_le _, Nat.zero_le _⟩ dX9_copy_8 (fun r_3 k_3 H locs hz_3 h hd => ?_)
    refine lv_if_ne (tgt := 17) hx hb dX9_copy_11 (by decide) (fun c_4 => ?_) (fun c_4 => ?_)
    · replace h := h.1 c_4
      refine lv_aload_n hx hb dX9_copy_17 rfl (lv_at hl 0 rfl) ?_
      refine gC9_9_8 C hd dX9_copy_18 ?_
      refine lv_iload_n hx hb dX9_copy_21 rfl (lv_at hl 1 rfl) ?_
      refine ldC9_8 C hd h.1 dX9_copy_22 ?_
      have hv_5 := sh_or h.1
      replace h := h.2
      refine top_a (fun i_5 e_5 => ?_)
      rw [← e_5] at hv_5
      have hs_5 : i_5 = 9 ∨ i_5 = 10 ∨ i_5 = 11 ∨ i_5 = 12 := hv_5
      replace h := h i_5 e_5
      refine lv_astore (lv' := [(6, .ref (a i_5)), (0, .ref (a 0)), (1, .int x1), (2, .int x2), (3, .int x3), (4, .int x4), (5, .int x5)]) hx hb dX9_copy_23 hl (by decide) rfl (fun ls hl => ?_)
      refine lv_aload_n hx hb dX9_copy_25 rfl (lv_at hl 1 rfl) ?_
      refine gC9_9_8 C hd dX9_copy_26 ?_
      refine lv_iload_n hx hb dX9_copy_29 rfl (lv_at hl 4 rfl) ?_
      refine ldC9_8 C hd h.1 dX9_copy_30 ?_
      have hv_6 := sh_or h.1
      replace h := h.2
      refine top_a (fun i_6 e_6 => ?_)
      rw [← e_6] at hv_6
      have hs_6 : i_6 = 9 ∨ i_6 = 10 ∨ i_6 = 11 ∨ i_6 = 12 := hv_6
      replace h := h i_6 e_6
      refine lv_astore (lv' := [(7, .ref (a i_6)), (6, .ref (a i_5)), (0, .ref (a 0)), (1, .int x1), (2, .int x2), (3, .int x3), (4, .int x4), (5, .int x5)]) hx hb dX9_copy_31 hl (by decide) rfl (fun ls hl => ?_)
      refine lv_aload hx hb dX9_copy_33 (lv_at hl 1 rfl) ?_
      refine ev_z C hd kwRX9_X3_isMissing_268 (cC_X3_isMissing hs_5 h) ⟨rfl, rfl⟩ ⟨by decide, by decide⟩ (rcC3 hs_5) hl.1 rfl rfl (Nat.le_of_ble_eq_true rfl) ⟨Nat.zero_le _, Nat.zero_le _⟩ dX9_copy_35 (fun r_7 k_7 H locs hz_7 h hd => ?_)
      refine lv_if_ne (tgt := 49) hx hb dX9_copy_38 (by decide) (fun c_8 => ?_) (fun c_8 => ?_)
      · replace h := h.1 c_8
        refine lv_bipush (v := -11) hx hb dX9_copy_49 (by decide) ?_
        exact ret hd h dX9_copy_51
      · replace h := h.2 c_8
        refine lv_aload hx hb dX9_copy_41 (lv_at hl 0 rfl) ?_
        refine ev_z C hd kwRX9_X3_isMissing_268 (cC_X3_isMissing hs_6 h) ⟨rfl, rfl⟩ ⟨by decide, by decide⟩ (rcC3 hs_6) hl.1 rfl rfl (Nat.le_of_ble_eq_true rfl) ⟨Nat.zero_le _, Nat.zero_le _⟩ dX9_copy_43 (fun r_9 k_9 H locs hz_9 h hd => ?_)
        refine lv_if_eq (tgt := 52) hx hb dX9_copy_46 (by decide) (fun c_10 => ?_) (fun c_10 => ?_)
        · replace h := h.1 c_10
          refine lv_aload hx hb dX9_copy_52 (lv_at hl 1 rfl) ?_
          refine gC9_3_0 C hd hs_5 (v := k_9.1 i_5 0) rfl dX9_copy_54 ?_
          refine lv_aload hx hb dX9_copy_57 (lv_at hl 0 rfl) ?_
          refine gC9_3_0 C hd hs_6 (v := k_9.1 i_6 0) rfl dX9_copy_59 ?_
          refine lv_icmp_eq (tgt := 68) hx hb dX9_copy_62 (by decide) (fun c_11 => ?_) (fun c_11 => ?_)
          · replace h := h.1 c_11
            refine lv_aload hx hb dX9_copy_68 (lv_at hl 1 rfl) ?_
            refine lv_iload_n hx hb dX9_copy_70 rfl (lv_at hl 4 rfl) ?_
            refine lv_iload hx hb dX9_copy_71 (lv_at hl 7 rfl) ?_
            refine ev_z C hd kwRX9_X3_hasRun_281 (cC_X3_hasRun hs_5 _ _ h) ⟨rfl, rfl⟩ ⟨by decide, by decide⟩ (rcC3 hs_5) hl.1 rfl rfl (Nat.le_of_ble_eq_true rfl) ⟨Nat.zero_le _, Nat.zero_le _⟩ dX9_copy_73 (fun r_12 k_12 H locs hz_12 h hd => ?_)
            refine lv_if_eq (tgt := 91) hx hb dX9_copy_76 (by decide) (fun c_13 => ?_) (fun c_13 => ?_)
            · replace h := h.1 c_13
              refine lv_bipush (v := -12) hx hb dX9_copy_91 (by decide) ?_
              exact ret hd h dX9_copy_93
            · replace h := h.2 c_13
              refine lv_aload hx hb dX9_copy_79 (lv_at hl 0 rfl) ?_
              refine lv_iload hx hb dX9_copy_81 (lv_at hl 6 rfl) ?_
              refine lv_iload hx hb dX9_copy_83 (lv_at hl 7 rfl) ?_
              refine ev_z C hd kwRX9_X3_hasRun_281 (cC_X3_hasRun hs_6 _ _ h) ⟨rfl, rfl⟩ ⟨by decide, by decide⟩ (rcC3 hs_6) hl.1 rfl rfl (Nat.le_of_ble_eq_true rfl) ⟨Nat.zero_le _, Nat.zero_le _⟩ dX9_copy_85 (fun r_14 k_14 H locs hz_14 h hd => ?_)
              refine lv_if_ne (tgt := 94) hx hb dX9_copy_88 (by decide) (fun c_15 => ?_) (fun c_15 => ?_)
              · replace h := h.1 c_15
                refine lv_aload hx hb dX9_copy_94 (lv_at hl 1 rfl) ?_
                refine gC9_3_2 C hd hs_5 dX9_copy_96 ?_
                refine lv_iload_n hx hb dX9_copy_99 rfl (lv_at hl 4 rfl) ?_
                refine lv_aload hx hb dX9_copy_100 (lv_at hl 0 rfl) ?_
                refine gC9_3_2 C hd hs_6 dX9_copy_102 ?_
                refine lv_iload hx hb dX9_copy_105 (lv_at hl 6 rfl) ?_
                refine lv_iload hx hb dX9_copy_107 (lv_at hl 7 rfl) ?_
                refine cpC C hd (ixC3_2 hs_5) (ixC3_2 hs_6) hl.1 q_867 q_607 q_606 q_18 h.1 (by decide) (Nat.le_of_ble_eq_true rfl) dX9_copy_109 (fun H locs hd => ?_)
                replace h := h.2
                refine lv_iload hx hb dX9_copy_112 (lv_at hl 7 rfl) ?_
                exact ret hd h dX9_copy_114
              · replace h := h.2 c_15
                refine lv_bipush (v := -12) hx hb dX9_copy_91 (by decide) ?_
                exact ret hd h dX9_copy_93
          · replace h := h.2 c_11
            refine lv_bipush (v := -13) hx hb dX9_copy_65 (by decide) ?_
            exact ret hd h dX9_copy_67
        · replace h := h.2 c_10
          refine lv_bipush (v := -11) hx hb dX9_copy_49 (by decide) ?_
          exact ret hd h dX9_copy_51
    · replace h := h.2 c_4
      refine lv_bipush (v := -2) hx hb dX9_copy_14 (by decide) ?_
      exact ret hd h dX9_copy_16
def wC_count (x1 : Int32) (k : KC) (Q : Int32 → KC → Prop) : Prop := ((x1 = (0 : Int32) → Q (k.1 1 0) k) ∧ (x1 = (1 : Int32) → Q (k.1 2 7) k) ∧ (x1 = (2 : Int32) → Q (k.1 1 2) k) ∧ (x1 = (3 : Int32) → Q (k.1 1 1) k) ∧ (x1 = (4 : Int32) → Q (k.1 5 1) k) ∧ (x1 = (5 : Int32) → Q (k.1 2 10) k) ∧ (x1 = (6 : Int32) → Q (k.1 8 3) k) ∧ (x1 = (7 : Int32) → (wC_X0_allTrials 2 k (fun r_2 k_2 => Q r_2 k_2))) ∧ (x1 = (8 : Int32) → Q (k.1 2 9) k) ∧ (¬ x1 = (0 : Int32) → ¬ x1 = (1 : Int32) → ¬ x1 = (2 : Int32) → ¬ x1 = (3 : Int32) → ¬ x1 = (4 : Int32) → ¬ x1 = (5 : Int32) → ¬ x1 = (6 : Int32) → ¬ x1 = (7 : Int32) → ¬ x1 = (8 : Int32) → Q (-2 : Int32) k))
set_option maxHeartbeats 4000000 in
set_option maxRecDepth 100000 in
theorem cC_count {l : Launch} {P : EP} {D : va_G} {a : Nat → Nat} {b : Nat → Nat → Nat} {g : Nat → ClassId} {k : KC} {Qp : Int32 → KC → Prop} (x1 : Int32) (h : wC_count x1 k Qp) : Di l P D (tyA g) (wC a b g) yX9_count cX9_count 2 ({ frames := 1, cells := 0, slots := 0, locals := 20 }) [.ref (a 0), .int x1] k Qp := by
  refine Di_of (by decide) (Nat.le_of_ble_eq_true rfl) ?_
  intro p e s m args below meth c A Z ls C ret hd hl
  have hx := C.1
  have hb := C.2.1
  have hl : lv_has ls 2 [(0, .ref (a 0)), (1, .int x1)] := hl
  replace h : ((x1 = (0 : Int32) → Qp (k.1 1 0) k) ∧ (x1 = (1 : Int32) → Qp (k.1 2 7) k) ∧ (x1 = (2 : Int32) → Qp (k.1 1 2) k) ∧ (x1 = (3 : Int32) → Qp (k.1 1 1) k) ∧ (x1 = (4 : Int32) → Qp (k.1 5 1) k) ∧ (x1 = (5 : Int32) → Qp (k.1 2 10) k) ∧ (x1 = (6 : Int32) → Qp (k.1 8 3) k) ∧ (x1 = (7 : Int32) → (wC_X0_allTrials 2 k (fun r_2 k_2 => Qp r_2 k_2))) ∧ (x1 = (8 : Int32) → Qp (k.1 2 9) k) ∧ (¬ x1 = (0 : Int32) → ¬ x1 = (1 : Int32) → ¬ x1 = (2 : Int32) → ¬ x1 = (3 : Int32) → ¬ x1 = (4 : Int32) → ¬ x1 = (5 : Int32) → ¬ x1 = (6 : Int32) → ¬ x1 = (7 : Int32) → ¬ x1 = (8 : Int32) → Qp (-2 : Int32) k)) := h
  refine lv_iload_n hx hb dX9_count_0 rfl (lv_at hl 1 rfl) ?_
  by_cases e_1_0 : x1 = (0 : Int32)
  · replace h := h.1 e_1_0
    refine lv_tableIn (off := 51) (tgt := 52) hx hb dX9_count_1 (by rw [e_1_0]; decide) (by rw [e_1_0]; decide) (by rw [e_1_0]; rfl) (by decide) ?_
    refine lv_aload_n hx hb dX9_count_52 rfl (lv_at hl 0 rfl) ?_
    refine gC9_9_0 C hd dX9_count_53 ?_
    refine gC9_8_0 C hd (v := k.1 1 0) rfl dX9_count_56 ?_
    exact ret hd h dX9_count_59
  · by_cases e_1_1 : x1 = (1 : Int32)
    · replace h := h.2.1 e_1_1
      refine lv_tableIn (off := 59) (tgt := 60) hx hb dX9_count_1 (by rw [e_1_1]; decide) (by rw [e_1_1]; decide) (by rw [e_1_1]; rfl) (by decide) ?_
      refine lv_aload_n hx hb dX9_count_60 rfl (lv_at hl 0 rfl) ?_
      refine gC9_9_1 C hd dX9_count_61 ?_
      refine gC9_0_7 C hd (Or.inl rfl) (v := k.1 2 7) rfl dX9_count_64 ?_
      exact ret hd h dX9_count_67
    · by_cases e_1_2 : x1 = (2 : Int32)
      · replace h := h.2.2.1 e_1_2
        refine lv_tableIn (off := 67) (tgt := 68) hx hb dX9_count_1 (by rw [e_1_2]; decide) (by rw [e_1_2]; decide) (by rw [e_1_2]; rfl) (by decide) ?_
        refine lv_aload_n hx hb dX9_count_68 rfl (lv_at hl 0 rfl) ?_
        refine gC9_9_0 C hd dX9_count_69 ?_
        refine gC9_8_2 C hd (v := k.1 1 2) rfl dX9_count_72 ?_
        exact ret hd h dX9_count_75
      · by_cases e_1_3 : x1 = (3 : Int32)
        · replace h := h.2.2.2.1 e_1_3
          refine lv_tableIn (off := 75) (tgt := 76) hx hb dX9_count_1 (by rw [e_1_3]; decide) (by rw [e_1_3]; decide) (by rw [e_1_3]; rfl) (by decide) ?_
          refine lv_aload_n hx hb dX9_count_76 rfl (lv_at hl 0 rfl) ?_
          refine gC9_9_0 C hd dX9_count_77 ?_
          refine gC9_8_1 C hd (v := k.1 1 1) rfl dX9_count_80 ?_
          exact ret hd h dX9_count_83
        · by_cases e_1_4 : x1 = (4 : Int32)
          · replace h := h.2.2.2.2.1 e_1_4
            refine lv_tableIn (off := 83) (tgt := 84) hx hb dX9_count_1 (by rw [e_1_4]; decide) (by rw [e_1_4]; decide) (by rw [e_1_4]; rfl) (by decide) ?_
            refine lv_aload_n hx hb dX9_count_84 rfl (lv_at hl 0 rfl) ?_
            refine gC9_9_4 C hd dX9_count_85 ?_
            refine gC9_4_1 C hd (v := k.1 5 1) rfl dX9_count_88 ?_
            exact ret hd h dX9_count_91
          · by_cases e_1_5 : x1 = (5 : Int32)
            · replace h := h.2.2.2.2.2.1 e_1_5
              refine lv_tableIn (off := 91) (tgt := 92) hx hb dX9_count_1 (by rw [e_1_5]; decide) (by rw [e_1_5]; decide) (by rw [e_1_5]; rfl) (by decide) ?_
              refine lv_aload_n hx hb dX9_count_92 rfl (lv_at hl 0 rfl) ?_
              refine gC9_9_1 C hd dX9_count_93 ?_
              refine gC9_0_10 C hd (Or.inl rfl) (v := k.1 2 10) rfl dX9_count_96 ?_
              exact ret hd h dX9_count_99
            · by_cases e_1_6 : x1 = (6 : Int32)
              · replace h := h.2.2.2.2.2.2.1 e_1_6
                refine lv_tableIn (off := 99) (tgt := 100) hx hb dX9_count_1 (by rw [e_1_6]; decide) (by rw [e_1_6]; decide) (by rw [e_1_6]; rfl) (by decide) ?_
                refine lv_aload_n hx hb dX9_count_100 rfl (lv_at hl 0 rfl) ?_
                refine gC9_9_7 C hd dX9_count_101 ?_
                refine gC9_7_3 C hd (v := k.1 8 3) rfl dX9_count_104 ?_
                exact ret hd h dX9_count_107
              · by_cases e_1_7 : x1 = (7 : Int32)
                · replace h := h.2.2.2.2.2.2.2.1 e_1_7
                  refine lv_tableIn (off := 107) (tgt := 108) hx hb dX9_count_1 (by rw [e_1_7]; decide) (by rw [e_1_7]; decide) (by rw [e_1_7]; rfl) (by decide) ?_
                  refine lv_aload_n hx hb dX9_count_108 rfl (lv_at hl 0 rfl) ?_
                  refine gC9_9_1 C hd dX9_count_109 ?_
                  refine ev_i C hd kwRX9_X0_allTrials_202 (cC_X0_allTrials (Or.inl rfl) h) ⟨rfl, rfl⟩ ⟨by decide, by decide⟩ (rcC0 (Or.inl rfl)) hl.1 rfl rfl (Nat.le_of_ble_eq_true rfl) ⟨Nat.zero_le _, Nat.zero_le _⟩ dX9_count_112 (fun r_2 k_2 H locs h hd => ?_)
                  exact ret hd h dX9_count_115
                · by_cases e_1_8 : x1 = (8 : Int32)
                  · replace h := h.2.2.2.2.2.2.2.2.1 e_1_8
                    refine lv_tableIn (off := 115) (tgt := 116) hx hb dX9_count_1 (by rw [e_1_8]; decide) (by rw [e_1_8]; decide) (by rw [e_1_8]; rfl) (by decide) ?_
                    refine lv_aload_n hx hb dX9_count_116 rfl (lv_at hl 0 rfl) ?_
                    refine gC9_9_1 C hd dX9_count_117 ?_
                    refine gC9_0_9 C hd (Or.inl rfl) (v := k.1 2 9) rfl dX9_count_120 ?_
                    exact ret hd h dX9_count_123
                  · replace h := h.2.2.2.2.2.2.2.2.2 e_1_0 e_1_1 e_1_2 e_1_3 e_1_4 e_1_5 e_1_6 e_1_7 e_1_8
                    refine lv_tableOut (tgt := 124) hx hb dX9_count_1 (by have n_0 := lv_neT (a := 0) e_1_0 (by decide); have n_1 := lv_neT (a := 1) e_1_1 (by decide); have n_2 := lv_neT (a := 2) e_1_2 (by decide); have n_3 := lv_neT (a := 3) e_1_3 (by decide); have n_4 := lv_neT (a := 4) e_1_4 (by decide); have n_5 := lv_neT (a := 5) e_1_5 (by decide); have n_6 := lv_neT (a := 6) e_1_6 (by decide); have n_7 := lv_neT (a := 7) e_1_7 (by decide); have n_8 := lv_neT (a := 8) e_1_8 (by decide); omega) (by decide) ?_
                    refine lv_bipush (v := -2) hx hb dX9_count_124 (by decide) ?_
                    exact ret hd h dX9_count_126
def wC_isEnd (x0 : Int32) (k : KC) (Q : Int32 → KC → Prop) : Prop := (wC_within x0 (0 : Int32) (3 : Int32) k (fun r_1 k_1 => Q r_1 k_1))
set_option maxHeartbeats 4000000 in
set_option maxRecDepth 100000 in
theorem cC_isEnd {l : Launch} {P : EP} {D : va_G} {a : Nat → Nat} {b : Nat → Nat → Nat} {g : Nat → ClassId} {k : KC} {Qp : Int32 → KC → Prop} (x0 : Int32) (h : wC_isEnd x0 k Qp) : Dz l P D (tyA g) (wC a b g) yX9_isEnd cX9_isEnd 1 ({ frames := 1, cells := 0, slots := 0, locals := 22 }) [.int x0] k Qp := by
  refine Dz_of (by decide) (Nat.le_of_ble_eq_true rfl) ?_
  intro p e s m args below meth c A Z ls C ret hd hl
  have hx := C.1
  have hb := C.2.1
  have hl : lv_has ls 1 [(0, .int x0)] := hl
  replace h : (wC_within x0 (0 : Int32) (3 : Int32) k (fun r_1 k_1 => Qp r_1 k_1)) := h
  refine lv_iload_n hx hb dX9_isEnd_0 rfl (lv_at hl 0 rfl) ?_
  refine lv_iconst (v := 0) hx hb dX9_isEnd_1 (by decide) ?_
  refine lv_iconst (v := 3) hx hb dX9_isEnd_2 (by decide) ?_
  refine es_z C hd kwRX9_X9_within_70 (cC_within _ _ _ h) ⟨rfl, rfl⟩ ⟨by decide, by decide⟩ hl.1 rfl rfl (Nat.le_of_ble_eq_true rfl) ⟨Nat.zero_le _, Nat.zero_le _⟩ dX9_isEnd_3 (fun r_1 k_1 H locs hz_1 h hd => ?_)
  exact ret hd hz_1 h dX9_isEnd_6
def wC_counted (x1 : Int32) (x2 : Int32) (x3 : Int32) (k : KC) (Q : Int64 → KC → Prop) : Prop := (wC_X8_hasSign x1 k (fun r_1 k_1 => ((r_1 = 0 → Q (-4611686018427387904 : Int64) k_1) ∧ (¬ r_1 = 0 → (wC_isEnd x2 k_1 (fun r_3 k_3 => ((r_3 = 0 → Q (-4611686018427387904 : Int64) k_3) ∧ (¬ r_3 = 0 → (wC_within x3 (0 : Int32) (1 : Int32) k_3 (fun r_5 k_5 => ((¬ r_5 = 0 → (vp_in x1 8 ∧ (wC_X0_allTrials 2 k_5 (fun r_7 k_7 => (vp_in ((x1 * (4 : Int32)) + x2) 32 ∧ (∀ v_8 : Int64, v_8 = (k_7.2.1 2 3 ((x1 * (4 : Int32)) + x2).toNatClampNeg).toInt64 → (vp_in x2 4 ∧ (∀ v_9 : Int64, v_9 = (if ((k_5.2.1 2 2 x1.toNatClampNeg).toInt64) < (1 : Int64) then (1 : Int64) else ((k_5.2.1 2 2 x1.toNatClampNeg).toInt64)) → (∀ v_10 : Int64, v_10 = (if (r_7.toInt64 - ((k_5.2.1 2 2 x1.toNatClampNeg).toInt64)) < (1 : Int64) then (1 : Int64) else (r_7.toInt64 - ((k_5.2.1 2 2 x1.toNatClampNeg).toInt64))) → (∀ v_11 : Int64, v_11 = ((v_8 * v_10) - ((((k_7.2.1 2 4 x2.toNatClampNeg).toInt64) - v_8) * v_9)) → (∃ n_12 : Nat, wC_commonDivisor n_12 0 (if 0 < v_11 then v_11 else -v_11) (v_9 * v_10) 0 0 0 k_7 (fun r_12 k_12 => ((¬ x3 = 0 → (¬ r_12 = 0 ∧ Q ((v_9 * v_10) / r_12) k_12)) ∧ (x3 = 0 → (¬ r_12 = 0 ∧ Q (v_11 / r_12) k_12))))))))))))))) ∧ (r_5 = 0 → Q (-4611686018427387904 : Int64) k_5))))))))))))
set_option maxHeartbeats 4000000 in
set_option maxRecDepth 100000 in
theorem cC_counted {l : Launch} {P : EP} {D : va_G} {a : Nat → Nat} {b : Nat → Nat → Nat} {g : Nat → ClassId} {k : KC} {Qp : Int64 → KC → Prop} (x1 : Int32) (x2 : Int32) (x3 : Int32) (h : wC_counted x1 x2 x3 k Qp) : Dl l P D (tyA g) (wC a b g) yX9_counted cX9_counted 22 ({ frames := 2, cells := 0, slots := 0, locals := 60 }) [.ref (a 0), .int x1, .int x2, .int x3] k Qp := by
  refine Dl_of (by decide) (Nat.le_of_ble_eq_true rfl) ?_
  intro p e s m args below meth c A Z ls C ret hd hl
  have hx := C.1
  have hb := C.2.1
  have hl : lv_has ls 22 [(0, .ref (a 0)), (1, .int x1), (2, .int x2), (3, .int x3)] := hl
  replace h : (wC_X8_hasSign x1 k (fun r_1 k_1 => ((r_1 = 0 → Qp (-4611686018427387904 : Int64) k_1) ∧ (¬ r_1 = 0 → (wC_isEnd x2 k_1 (fun r_3 k_3 => ((r_3 = 0 → Qp (-4611686018427387904 : Int64) k_3) ∧ (¬ r_3 = 0 → (wC_within x3 (0 : Int32) (1 : Int32) k_3 (fun r_5 k_5 => ((¬ r_5 = 0 → (vp_in x1 8 ∧ (wC_X0_allTrials 2 k_5 (fun r_7 k_7 => (vp_in ((x1 * (4 : Int32)) + x2) 32 ∧ (∀ v_8 : Int64, v_8 = (k_7.2.1 2 3 ((x1 * (4 : Int32)) + x2).toNatClampNeg).toInt64 → (vp_in x2 4 ∧ (∀ v_9 : Int64, v_9 = (if ((k_5.2.1 2 2 x1.toNatClampNeg).toInt64) < (1 : Int64) then (1 : Int64) else ((k_5.2.1 2 2 x1.toNatClampNeg).toInt64)) → (∀ v_10 : Int64, v_10 = (if (r_7.toInt64 - ((k_5.2.1 2 2 x1.toNatClampNeg).toInt64)) < (1 : Int64) then (1 : Int64) else (r_7.toInt64 - ((k_5.2.1 2 2 x1.toNatClampNeg).toInt64))) → (∀ v_11 : Int64, v_11 = ((v_8 * v_10) - ((((k_7.2.1 2 4 x2.toNatClampNeg).toInt64) - v_8) * v_9)) → (∃ n_12 : Nat, wC_commonDivisor n_12 0 (if 0 < v_11 then v_11 else -v_11) (v_9 * v_10) 0 0 0 k_7 (fun r_12 k_12 => ((¬ x3 = 0 → (¬ r_12 = 0 ∧ Qp ((v_9 * v_10) / r_12) k_12)) ∧ (x3 = 0 → (¬ r_12 = 0 ∧ Qp (v_11 / r_12) k_12))))))))))))))) ∧ (r_5 = 0 → Qp (-4611686018427387904 : Int64) k_5)))))))))))) := h
  refine lv_aload_n hx hb dX9_counted_0 rfl (lv_at hl 0 rfl) ?_
  refine gC9_9_0 C hd dX9_counted_1 ?_
  refine lv_iload_n hx hb dX9_counted_4 rfl (lv_at hl 1 rfl) ?_
  refine ev_z C hd kwRX9_X8_hasSign_81 (cC_X8_hasSign _ h) ⟨rfl, rfl⟩ ⟨by decide, by decide⟩ rcC8 hl.1 rfl rfl (Nat.le_of_ble_eq_true rfl) ⟨Nat.zero_le _, Nat.zero_le _⟩ dX9_counted_5 (fun r_1 k_1 H locs hz_1 h hd => ?_)
  refine lv_if_eq (tgt := 27) hx hb dX9_counted_8 (by decide) (fun c_2 => ?_) (fun c_2 => ?_)
  · replace h := h.1 c_2
    refine lv_ldc2 (v := (-4611686018427387904 : Int64)) hx hb C.2.2.2.1 (C.2.2.2.2.1 _ q_326) dX9_counted_27 ?_
    exact ret hd h dX9_counted_30
  · replace h := h.2 c_2
    refine lv_iload_n hx hb dX9_counted_11 rfl (lv_at hl 2 rfl) ?_
    refine es_z C hd kwRX9_X9_isEnd_103 (cC_isEnd _ h) ⟨rfl, rfl⟩ ⟨by decide, by decide⟩ hl.1 rfl rfl (Nat.le_of_ble_eq_true rfl) ⟨Nat.zero_le _, Nat.zero_le _⟩ dX9_counted_12 (fun r_3 k_3 H locs hz_3 h hd => ?_)
    refine lv_if_eq (tgt := 27) hx hb dX9_counted_15 (by decide) (fun c_4 => ?_) (fun c_4 => ?_)
    · replace h := h.1 c_4
      refine lv_ldc2 (v := (-4611686018427387904 : Int64)) hx hb C.2.2.2.1 (C.2.2.2.2.1 _ q_326) dX9_counted_27 ?_
      exact ret hd h dX9_counted_30
    · replace h := h.2 c_4
      refine lv_iload_n hx hb dX9_counted_18 rfl (lv_at hl 3 rfl) ?_
      refine lv_iconst (v := 0) hx hb dX9_counted_19 (by decide) ?_
      refine lv_iconst (v := 1) hx hb dX9_counted_20 (by decide) ?_
      refine es_z C hd kwRX9_X9_within_70 (cC_within _ _ _ h) ⟨rfl, rfl⟩ ⟨by decide, by decide⟩ hl.1 rfl rfl (Nat.le_of_ble_eq_true rfl) ⟨Nat.zero_le _, Nat.zero_le _⟩ dX9_counted_21 (fun r_5 k_5 H locs hz_5 h hd => ?_)
      refine lv_if_ne (tgt := 31) hx hb dX9_counted_24 (by decide) (fun c_6 => ?_) (fun c_6 => ?_)
      · replace h := h.1 c_6
        refine lv_aload_n hx hb dX9_counted_31 rfl (lv_at hl 0 rfl) ?_
        refine gC9_9_1 C hd dX9_counted_32 ?_
        refine gC9_0_2 C hd (Or.inl rfl) dX9_counted_35 ?_
        refine lv_iload_n hx hb dX9_counted_38 rfl (lv_at hl 1 rfl) ?_
        refine ldC0_2 C hd (Or.inl rfl) (v := k_5.2.1 2 2 x1.toNatClampNeg) h.1 rfl dX9_counted_39 ?_
        replace h := h.2
        refine lv_i2l (v := (k_5.2.1 2 2 x1.toNatClampNeg).toInt64) hx hb dX9_counted_40 rfl ?_
        refine lv_lstore (lv' := [(4, .long ((k_5.2.1 2 2 x1.toNatClampNeg).toInt64)), (0, .ref (a 0)), (1, .int x1), (2, .int x2), (3, .int x3)]) hx hb dX9_counted_41 hl (by decide) rfl (fun ls hl => ?_)
        refine lv_aload_n hx hb dX9_counted_43 rfl (lv_at hl 1 rfl) ?_
        refine gC9_9_1 C hd dX9_counted_44 ?_
        refine ev_i C hd kwRX9_X0_allTrials_202 (cC_X0_allTrials (Or.inl rfl) h) ⟨rfl, rfl⟩ ⟨by decide, by decide⟩ (rcC0 (Or.inl rfl)) hl.1 rfl rfl (Nat.le_of_ble_eq_true rfl) ⟨Nat.zero_le _, Nat.zero_le _⟩ dX9_counted_47 (fun r_7 k_7 H locs h hd => ?_)
        refine lv_i2l (v := r_7.toInt64) hx hb dX9_counted_50 rfl ?_
        refine lv_lload hx hb dX9_counted_51 (lv_at hl 0 rfl) ?_
        refine lv_lsub hx hb dX9_counted_53 ?_
        refine lv_lstore (lv' := [(6, .long (r_7.toInt64 - ((k_5.2.1 2 2 x1.toNatClampNeg).toInt64))), (4, .long ((k_5.2.1 2 2 x1.toNatClampNeg).toInt64)), (0, .ref (a 0)), (1, .int x1), (2, .int x2), (3, .int x3)]) hx hb dX9_counted_54 hl (by decide) rfl (fun ls hl => ?_)
        refine lv_aload_n hx hb dX9_counted_56 rfl (lv_at hl 2 rfl) ?_
        refine gC9_9_1 C hd dX9_counted_57 ?_
        refine gC9_0_3 C hd (Or.inl rfl) dX9_counted_60 ?_
        refine lv_iload_n hx hb dX9_counted_63 rfl (lv_at hl 3 rfl) ?_
        refine lv_iconst (v := 4) hx hb dX9_counted_64 (by decide) ?_
        refine lv_imul hx hb dX9_counted_65 ?_
        refine lv_iload_n hx hb dX9_counted_66 rfl (lv_at hl 4 rfl) ?_
        refine lv_iadd hx hb dX9_counted_67 ?_
        refine ldC0_3 C hd (Or.inl rfl) (v := k_7.2.1 2 3 ((x1 * (4 : Int32)) + x2).toNatClampNeg) h.1 rfl dX9_counted_68 ?_
        replace h := h.2
        refine lv_i2l (v := (k_7.2.1 2 3 ((x1 * (4 : Int32)) + x2).toNatClampNeg).toInt64) hx hb dX9_counted_69 rfl ?_
        refine lv_topl (fun v_8 e_8 => ?_)
        replace h := h v_8 e_8
        refine lv_lstore (lv' := [(8, .long v_8), (6, .long (r_7.toInt64 - ((k_5.2.1 2 2 x1.toNatClampNeg).toInt64))), (4, .long ((k_5.2.1 2 2 x1.toNatClampNeg).toInt64)), (0, .ref (a 0)), (1, .int x1), (2, .int x2), (3, .int x3)]) hx hb dX9_counted_70 hl (by decide) rfl (fun ls hl => ?_)
        refine lv_aload_n hx hb dX9_counted_72 rfl (lv_at hl 3 rfl) ?_
        refine gC9_9_1 C hd dX9_counted_73 ?_
        refine gC9_0_4 C hd (Or.inl rfl) dX9_counted_76 ?_
        refine lv_iload_n hx hb dX9_counted_79 rfl (lv_at hl 5 rfl) ?_
        refine ldC0_4 C hd (Or.inl rfl) (v := k_7.2.1 2 4 x2.toNatClampNeg) h.1 rfl dX9_counted_80 ?_
        replace h := h.2
        refine lv_i2l (v := (k_7.2.1 2 4 x2.toNatClampNeg).toInt64) hx hb dX9_counted_81 rfl ?_
        refine lv_lload hx hb dX9_counted_82 (lv_at hl 0 rfl) ?_
        refine lv_lsub hx hb dX9_counted_84 ?_
        refine lv_lstore (lv' := [(10, .long (((k_7.2.1 2 4 x2.toNatClampNeg).toInt64) - v_8)), (8, .long v_8), (6, .long (r_7.toInt64 - ((k_5.2.1 2 2 x1.toNatClampNeg).toInt64))), (4, .long ((k_5.2.1 2 2 x1.toNatClampNeg).toInt64)), (0, .ref (a 0)), (1, .int x1), (2, .int x2), (3, .int x3)]) hx hb dX9_counted_85 hl (by decide) rfl (fun ls hl => ?_)
        refine lv_lconst (v := 1) hx hb dX9_counted_87 (by decide) ?_
        refine lv_lload hx hb dX9_counted_88 (lv_at hl 3 rfl) ?_
        refine va_mmax_long C.1 C.2.1 (C.2.2.1.trans hl.1.symm) C.2.2.2.1 (C.2.2.2.2.1 _ q_744) (C.2.2.2.2.1 _ q_745) (C.2.2.2.2.1 _ q_16) (C.2.2.2.2.1 _ q_746) (by decide) (Nat.le_of_ble_eq_true rfl) (Nat.zero_le _) (Nat.zero_le _) dX9_counted_90 ?_
        refine lv_topl (fun v_9 e_9 => ?_)
        replace h := h v_9 e_9
        refine lv_lstore (lv' := [(12, .long v_9), (10, .long (((k_7.2.1 2 4 x2.toNatClampNeg).toInt64) - v_8)), (8, .long v_8), (6, .long (r_7.toInt64 - ((k_5.2.1 2 2 x1.toNatClampNeg).toInt64))), (4, .long ((k_5.2.1 2 2 x1.toNatClampNeg).toInt64)), (0, .ref (a 0)), (1, .int x1), (2, .int x2), (3, .int x3)]) hx hb dX9_counted_93 hl (by decide) rfl (fun ls hl => ?_)
        refine lv_lconst (v := 1) hx hb dX9_counted_95 (by decide) ?_
        refine lv_lload hx hb dX9_counted_96 (lv_at hl 3 rfl) ?_
        refine va_mmax_long C.1 C.2.1 (C.2.2.1.trans hl.1.symm) C.2.2.2.1 (C.2.2.2.2.1 _ q_744) (C.2.2.2.2.1 _ q_745) (C.2.2.2.2.1 _ q_16) (C.2.2.2.2.1 _ q_746) (by decide) (Nat.le_of_ble_eq_true rfl) (Nat.zero_le _) (Nat.zero_le _) dX9_counted_98 ?_
        refine lv_topl (fun v_10 e_10 => ?_)
        replace h := h v_10 e_10
        refine lv_lstore (lv' := [(14, .long v_10), (12, .long v_9), (10, .long (((k_7.2.1 2 4 x2.toNatClampNeg).toInt64) - v_8)), (8, .long v_8), (6, .long (r_7.toInt64 - ((k_5.2.1 2 2 x1.toNatClampNeg).toInt64))), (4, .long ((k_5.2.1 2 2 x1.toNatClampNeg).toInt64)), (0, .ref (a 0)), (1, .int x1), (2, .int x2), (3, .int x3)]) hx hb dX9_counted_101 hl (by decide) rfl (fun ls hl => ?_)
        refine lv_lload hx hb dX9_counted_103 (lv_at hl 3 rfl) ?_
        refine lv_lload hx hb dX9_counted_105 (lv_at hl 0 rfl) ?_
        refine lv_lmul hx hb dX9_counted_107 ?_
        refine lv_lload hx hb dX9_counted_108 (lv_at hl 2 rfl) ?_
        refine lv_lload hx hb dX9_counted_110 (lv_at hl 1 rfl) ?_
        refine lv_lmul hx hb dX9_counted_112 ?_
        refine lv_lsub hx hb dX9_counted_113 ?_
        refine lv_topl (fun v_11 e_11 => ?_)
        replace h := h v_11 e_11
        refine lv_lstore (lv' := [(16, .long v_11), (14, .long v_10), (12, .long v_9), (10, .long (((k_7.2.1 2 4 x2.toNatClampNeg).toInt64) - v_8)), (8, .long v_8), (6, .long (r_7.toInt64 - ((k_5.2.1 2 2 x1.toNatClampNeg).toInt64))), (4, .long ((k_5.2.1 2 2 x1.toNatClampNeg).toInt64)), (0, .ref (a 0)), (1, .int x1), (2, .int x2), (3, .int x3)]) hx hb dX9_counted_114 hl (by decide) rfl (fun ls hl => ?_)
        refine lv_lload hx hb dX9_counted_116 (lv_at hl 2 rfl) ?_
        refine lv_lload hx hb dX9_counted_118 (lv_at hl 1 rfl) ?_
        refine lv_lmul hx hb dX9_counted_120 ?_
        refine lv_lstore (lv' := [(18, .long (v_9 * v_10)), (16, .long v_11), (14, .long v_10), (12, .long v_9), (10, .long (((k_7.2.1 2 4 x2.toNatClampNeg).toInt64) - v_8)), (8, .long v_8), (6, .long (r_7.toInt64 - ((k_5.2.1 2 2 x1.toNatClampNeg).toInt64))), (4, .long ((k_5.2.1 2 2 x1.toNatClampNeg).toInt64)), (0, .ref (a 0)), (1, .int x1), (2, .int x2), (3, .int x3)]) hx hb dX9_counted_121 hl (by decide) rfl (fun ls hl => ?_)
        refine lv_lload hx hb dX9_counted_123 (lv_at hl 1 rfl) ?_
        refine va_mabs_long C.1 C.2.1 (C.2.2.1.trans hl.1.symm) C.2.2.2.1 (C.2.2.2.2.1 _ q_747) (C.2.2.2.2.1 _ q_748) (C.2.2.2.2.1 _ q_16) (C.2.2.2.2.1 _ q_749) (by decide) (Nat.le_of_ble_eq_true rfl) (Nat.zero_le _) (Nat.zero_le _) dX9_counted_125 ?_
        refine lv_lload hx hb dX9_counted_128 (lv_at hl 0 rfl) ?_
        obtain ⟨n_12, h⟩ := h
        refine es_l C hd kwRX9_X9_commonDivisor_222 (cC_commonDivisor n_12 _ _ h) ⟨rfl, rfl⟩ ⟨by decide, by decide⟩ hl.1 rfl rfl (Nat.le_of_ble_eq_true rfl) ⟨Nat.zero_le _, Nat.zero_le _⟩ dX9_counted_130 (fun r_12 k_12 H locs h hd => ?_)
        refine lv_lstore (lv' := [(20, .long r_12), (18, .long (v_9 * v_10)), (16, .long v_11), (14, .long v_10), (12, .long v_9), (10, .long (((k_7.2.1 2 4 x2.toNatClampNeg).toInt64) - v_8)), (8, .long v_8), (6, .long (r_7.toInt64 - ((k_5.2.1 2 2 x1.toNatClampNeg).toInt64))), (4, .long ((k_5.2.1 2 2 x1.toNatClampNeg).toInt64)), (0, .ref (a 0)), (1, .int x1), (2, .int x2), (3, .int x3)]) hx hb dX9_counted_133 hl (by decide) rfl (fun ls hl => ?_)
        refine lv_iload_n hx hb dX9_counted_135 rfl (lv_at hl 12 rfl) ?_
        refine lv_if_ne (tgt := 144) hx hb dX9_counted_136 (by decide) (fun c_13 => ?_) (fun c_13 => ?_)
        · replace h := h.1 c_13
          refine lv_lload hx hb dX9_counted_144 (lv_at hl 1 rfl) ?_
          refine lv_lload hx hb dX9_counted_146 (lv_at hl 0 rfl) ?_
          refine lv_ldiv hx hb dX9_counted_148 h.1 ?_
          replace h := h.2
          exact ret hd h dX9_counted_149
        · replace h := h.2 c_13
          refine lv_lload hx hb dX9_counted_139 (lv_at hl 2 rfl) ?_
          refine lv_goto (tgt := 146) hx hb dX9_counted_141 (by decide) ?_
          refine lv_lload hx hb dX9_counted_146 (lv_at hl 0 rfl) ?_
          refine lv_ldiv hx hb dX9_counted_148 h.1 ?_
          replace h := h.2
          exact ret hd h dX9_counted_149
      · replace h := h.2 c_6
        refine lv_ldc2 (v := (-4611686018427387904 : Int64)) hx hb C.2.2.2.1 (C.2.2.2.2.1 _ q_326) dX9_counted_27 ?_
        exact ret hd h dX9_counted_30
