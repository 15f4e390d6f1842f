def wM_like (x1 : Int32) (x2 : Int32) (x3 : Int32) (k : GM) (Q : Int32 → GM → Prop) : Prop := (wM_isOne x1 k (fun r_1 k_1 => ((r_1 = 0 → Q (-2 : Int32) k_1) ∧ (¬ r_1 = 0 → (wM_isOne x2 k_1 (fun r_3 k_3 => ((r_3 = 0 → Q (-2 : Int32) k_3) ∧ (¬ r_3 = 0 → ((x1 = x2 → Q (-2 : Int32) k_3) ∧ (¬ x1 = x2 → (wM_in x3.toInt64 (0 : Int64) (100 : Int64) k_3 (fun r_6 k_6 => ((¬ r_6 = 0 → (vp_in (((8 : Int32) * x1) + x2) 64 ∧ (vp_in (((8 : Int32) * x1) + x2) 64 ∧ (vp_in (((8 : Int32) * x2) + x1) 64 ∧ Q (k_6.2.1 13 (((8 : Int32) * x1) + x2).toNatClampNeg) (sA (sA k_6 13 (upd (k_6.2.1 13) (((8 : Int32) * x1) + x2).toNatClampNeg x3)) 13 (upd (upd (k_6.2.1 13) (((8 : Int32) * x1) + x2).toNatClampNeg x3) (((8 : Int32) * x2) + x1).toNatClampNeg x3)))))) ∧ (r_6 = 0 → Q (-2 : Int32) k_6))))))))))))))
set_option maxHeartbeats 4000000 in
set_option maxRecDepth 100000 in
theorem cM_like {l : Launch} {D : va_G} {o : Nat} {a : Nat → Nat} {g : Nat → ClassId} {k : GM} {Qp : Int32 → GM → Prop} (x1 : Int32) (x2 : Int32) (x3 : Int32) (h : wM_like x1 x2 x3 k Qp) : Ci l D (tyA g) (wM o a g) yX10_like cX10_like 5 ({ frames := 2, cells := 0, slots := 0, locals := 46 }) [.ref o, .int x1, .int x2, .int x3] k Qp := by
  refine Ci_of (by decide) (Nat.le_of_ble_eq_true rfl) ?_
  intro p e s m args below meth c A Z ls C ret hd hl
  have hx := C.1
  have hb := C.2.1
  have hl : lv_has ls 5 [(0, .ref o), (1, .int x1), (2, .int x2), (3, .int x3)] := hl
  replace h : (wM_isOne x1 k (fun r_1 k_1 => ((r_1 = 0 → Qp (-2 : Int32) k_1) ∧ (¬ r_1 = 0 → (wM_isOne x2 k_1 (fun r_3 k_3 => ((r_3 = 0 → Qp (-2 : Int32) k_3) ∧ (¬ r_3 = 0 → ((x1 = x2 → Qp (-2 : Int32) k_3) ∧ (¬ x1 = x2 → (wM_in x3.toInt64 (0 : Int64) (100 : Int64) k_3 (fun r_6 k_6 => ((¬ r_6 = 0 → (vp_in (((8 : Int32) * x1) + x2) 64 ∧ (vp_in (((8 : Int32) * x1) + x2) 64 ∧ (vp_in (((8 : Int32) * x2) + x1) 64 ∧ Qp (k_6.2.1 13 (((8 : Int32) * x1) + x2).toNatClampNeg) (sA (sA k_6 13 (upd (k_6.2.1 13) (((8 : Int32) * x1) + x2).toNatClampNeg x3)) 13 (upd (upd (k_6.2.1 13) (((8 : Int32) * x1) + x2).toNatClampNeg x3) (((8 : Int32) * x2) + x1).toNatClampNeg x3)))))) ∧ (r_6 = 0 → Qp (-2 : Int32) k_6)))))))))))))) := h
  refine lv_aload_n hx hb dX10_like_0 rfl (lv_at hl 0 rfl) ?_
  refine lv_iload_n hx hb dX10_like_1 rfl (lv_at hl 1 rfl) ?_
  refine xv_z C hd kwRX10_X10_isOne (cM_isOne _ h) ⟨rfl, rfl⟩ ⟨by decide, by decide⟩ wM_rcv hl.1 rfl rfl (Nat.le_of_ble_eq_true rfl) ⟨Nat.zero_le _, Nat.zero_le _⟩ dX10_like_2 (fun r_1 k_1 H locs hz_1 h hd => ?_)
  refine lv_if_eq (tgt := 33) hx hb dX10_like_5 (by decide) (fun c_2 => ?_) (fun c_2 => ?_)
  · replace h := h.1 c_2
    refine lv_bipush (v := -2) hx hb dX10_like_33 (by decide) ?_
    exact ret hd h dX10_like_35
  · replace h := h.2 c_2
    refine lv_aload_n hx hb dX10_like_8 rfl (lv_at hl 0 rfl) ?_
    refine lv_iload_n hx hb dX10_like_9 rfl (lv_at hl 2 rfl) ?_
    refine xv_z C hd kwRX10_X10_isOne (cM_isOne _ h) ⟨rfl, rfl⟩ ⟨by decide, by decide⟩ wM_rcv hl.1 rfl rfl (Nat.le_of_ble_eq_true rfl) ⟨Nat.zero_le _, Nat.zero_le _⟩ dX10_like_10 (fun r_3 k_3 H locs hz_3 h hd => ?_)
    refine lv_if_eq (tgt := 33) hx hb dX10_like_13 (by decide) (fun c_4 => ?_) (fun c_4 => ?_)
    · replace h := h.1 c_4
      refine lv_bipush (v := -2) hx hb dX10_like_33 (by decide) ?_
      exact ret hd h dX10_like_35
    · replace h := h.2 c_4
      refine lv_iload_n hx hb dX10_like_16 rfl (lv_at hl 1 rfl) ?_
      refine lv_iload_n hx hb dX10_like_17 rfl (lv_at hl 2 rfl) ?_
      refine lv_icmp_eq (tgt := 33) hx hb dX10_like_18 (by decide) (fun c_5 => ?_) (fun c_5 => ?_)
      · replace h := h.1 c_5
        refine lv_bipush (v := -2) hx hb dX10_like_33 (by decide) ?_
        exact ret hd h dX10_like_35
      · replace h := h.2 c_5
        refine lv_iload_n hx hb dX10_like_21 rfl (lv_at hl 3 rfl) ?_
        refine lv_i2l (v := x3.toInt64) hx hb dX10_like_22 rfl ?_
        refine lv_lconst (v := 0) hx hb dX10_like_23 (by decide) ?_
        refine lv_ldc2 (v := (100 : Int64)) hx hb C.2.2.2.1 (C.2.2.2.2.1 _ q_1213) dX10_like_24 ?_
        refine xs_z C hd kwRX10_X10_in (cM_in _ _ _ h) ⟨rfl, rfl⟩ ⟨by decide, by decide⟩ hl.1 rfl rfl (Nat.le_of_ble_eq_true rfl) ⟨Nat.zero_le _, Nat.zero_le _⟩ dX10_like_27 (fun r_6 k_6 H locs hz_6 h hd => ?_)
        refine lv_if_ne (tgt := 36) hx hb dX10_like_30 (by decide) (fun c_7 => ?_) (fun c_7 => ?_)
        · replace h := h.1 c_7
          refine lv_aload_n hx hb dX10_like_36 rfl (lv_at hl 0 rfl) ?_
          refine gM_13 C hd dX10_like_37 ?_
          refine lv_bipush (v := 8) hx hb dX10_like_40 (by decide) ?_
          refine lv_iload_n hx hb dX10_like_42 rfl (lv_at hl 1 rfl) ?_
          refine lv_imul hx hb dX10_like_43 ?_
          refine lv_iload_n hx hb dX10_like_44 rfl (lv_at hl 2 rfl) ?_
          refine lv_iadd hx hb dX10_like_45 ?_
          refine ldM_13 C hd (v := k_6.2.1 13 (((8 : Int32) * x1) + x2).toNatClampNeg) h.1 rfl dX10_like_46 ?_
          replace h := h.2
          refine lv_istore (lv' := [(4, .int (k_6.2.1 13 (((8 : Int32) * x1) + x2).toNatClampNeg)), (0, .ref o), (1, .int x1), (2, .int x2), (3, .int x3)]) hx hb dX10_like_47 hl (by decide) rfl (fun ls hl => ?_)
          refine lv_aload_n hx hb dX10_like_49 rfl (lv_at hl 1 rfl) ?_
          refine gM_13 C hd dX10_like_50 ?_
          refine lv_bipush (v := 8) hx hb dX10_like_53 (by decide) ?_
          refine lv_iload_n hx hb dX10_like_55 rfl (lv_at hl 2 rfl) ?_
          refine lv_imul hx hb dX10_like_56 ?_
          refine lv_iload_n hx hb dX10_like_57 rfl (lv_at hl 3 rfl) ?_
          refine lv_iadd hx hb dX10_like_58 ?_
          refine lv_iload_n hx hb dX10_like_59 rfl (lv_at hl 4 rfl) ?_
          refine stM_13 C hd h.1 dX10_like_60 (fun H locs hd => ?_)
          replace h := h.2
          refine lv_aload_n hx hb dX10_like_61 rfl (lv_at hl 1 rfl) ?_
          refine gM_13 C hd dX10_like_62 ?_
          refine lv_bipush (v := 8) hx hb dX10_like_65 (by decide) ?_
          refine lv_iload_n hx hb dX10_like_67 rfl (lv_at hl 3 rfl) ?_
          refine lv_imul hx hb dX10_like_68 ?_
          refine lv_iload_n hx hb dX10_like_69 rfl (lv_at hl 2 rfl) ?_
          refine lv_iadd hx hb dX10_like_70 ?_
          refine lv_iload_n hx hb dX10_like_71 rfl (lv_at hl 4 rfl) ?_
          refine stM_13 C hd h.1 dX10_like_72 (fun H locs hd => ?_)
          replace h := h.2
          refine lv_iload hx hb dX10_like_73 (lv_at hl 0 rfl) ?_
          exact ret hd h dX10_like_75
        · replace h := h.2 c_7
          refine lv_bipush (v := -2) hx hb dX10_like_33 (by decide) ?_
          exact ret hd h dX10_like_35
def wM_near  : Nat → Nat → Int32 → Int32 → Int32 → Int32 → Int32 → Int32 → Int32 → Int32 → Int32 → GM → (Int32 → GM → Prop) → Prop
  | 0, _, _, _, _, _, _, _, _, _, _, _, _ => False
  | n + 1, c, x1, x2, x3, x4, x5, x6, x7, x8, x9, k, Q => match c with
    | 0 => (wM_isOne x1 k (fun r_1 k_1 => ((r_1 = 0 → Q (-2 : Int32) k_1) ∧ (¬ r_1 = 0 → (wM_isOne x2 k_1 (fun r_3 k_3 => ((r_3 = 0 → Q (-2 : Int32) k_3) ∧ (¬ r_3 = 0 → ((x1 = x2 → Q (-2 : Int32) k_3) ∧ (¬ x1 = x2 → (wM_isPlan x3 k_3 (fun r_6 k_6 => ((r_6 = 0 → Q (-2 : Int32) k_6) ∧ (¬ r_6 = 0 → (wM_in x4.toInt64 (1 : Int64) (20 : Int64) k_6 (fun r_8 k_8 => ((r_8 = 0 → Q (-2 : Int32) k_8) ∧ (¬ r_8 = 0 → (wM_in x5.toInt64 (1 : Int64) (99 : Int64) k_8 (fun r_10 k_10 => ((¬ r_10 = 0 → (vp_in (((8 : Int32) * x1) + x2) 64 ∧ wM_near n 1 x1 x2 x3 x4 x5 (k_10.2.1 13 (((8 : Int32) * x1) + x2).toNatClampNeg) (-1 : Int32) (100 : Int32) 0 k_10 Q)) ∧ (r_10 = 0 → Q (-2 : Int32) k_10))))))))))))))))))))))
    | 1 => ((x8 < 0 → (vp_in (((8 : Int32) * x1) + x2) 64 ∧ (vp_in (((8 : Int32) * x2) + x1) 64 ∧ Q x7 (sA (sA k 13 (upd (k.2.1 13) (((8 : Int32) * x1) + x2).toNatClampNeg x6)) 13 (upd (upd (k.2.1 13) (((8 : Int32) * x1) + x2).toNatClampNeg x6) (((8 : Int32) * x2) + x1).toNatClampNeg x6))))) ∧ (¬ x8 < 0 → ((¬ x7 = (-1 : Int32) → (vp_in (((8 : Int32) * x1) + x2) 64 ∧ (vp_in (((8 : Int32) * x2) + x1) 64 ∧ Q x7 (sA (sA k 13 (upd (k.2.1 13) (((8 : Int32) * x1) + x2).toNatClampNeg x6)) 13 (upd (upd (k.2.1 13) (((8 : Int32) * x1) + x2).toNatClampNeg x6) (((8 : Int32) * x2) + x1).toNatClampNeg x6))))) ∧ (x7 = (-1 : Int32) → (vp_in (((8 : Int32) * x1) + x2) 64 ∧ (vp_in (((8 : Int32) * x2) + x1) 64 ∧ (∃ n_14 : Nat, wM_laysAside n_14 0 (1 : Int32) 0 (sA (sA k 13 (upd (k.2.1 13) (((8 : Int32) * x1) + x2).toNatClampNeg x8)) 13 (upd (upd (k.2.1 13) (((8 : Int32) * x1) + x2).toNatClampNeg x8) (((8 : Int32) * x2) + x1).toNatClampNeg x8)) (fun k_14 => wM_near n 2 x1 x2 x3 x4 x5 x6 0 x8 (0 : Int32) k_14 Q))))))))
    | _ => ((x4 ≤ x9 → (wM_dropsOf ((1 : Int32) <<< (x1 &&& 31)) k (fun r_16 k_16 => (wM_dropsOf ((1 : Int32) <<< (x2 &&& 31)) k_16 (fun r_17 k_17 => ((x5 ≤ (r_16 - r_17) → (∃ n_19 : Nat, wM_laysBack n_19 0 0 k_17 (fun k_19 => wM_near n 1 x1 x2 x3 x4 x5 x6 x8 (x8 + (-5 : Int32)) 0 k_19 Q))) ∧ (¬ x5 ≤ (r_16 - r_17) → (((-x5) < (r_16 - r_17) → (∃ n_21 : Nat, wM_laysBack n_21 0 0 k_17 (fun k_21 => wM_near n 1 x1 x2 x3 x4 x5 x6 (-1 : Int32) (x8 + (-5 : Int32)) 0 k_21 Q))) ∧ (¬ (-x5) < (r_16 - r_17) → (∃ n_22 : Nat, wM_laysBack n_22 0 0 k_17 (fun k_22 => wM_near n 1 x1 x2 x3 x4 x5 x6 x8 (x8 + (-5 : Int32)) 0 k_22 Q))))))))))) ∧ (¬ x4 ≤ x9 → (∃ n_23 : Nat, wM_goesBy n_23 0 x3 (0 : Int32) 0 k (fun k_23 => wM_near n 2 x1 x2 x3 x4 x5 x6 0 x8 (x9 + (1 : Int32)) k_23 Q))))
set_option maxHeartbeats 4000000 in
set_option maxRecDepth 100000 in
theorem cM_near {l : Launch} {D : va_G} {o : Nat} {a : Nat → Nat} {g : Nat → ClassId} {k : GM} {Qp : Int32 → GM → Prop} (n : Nat) (x1 : Int32) (x2 : Int32) (x3 : Int32) (x4 : Int32) (x5 : Int32) (h : wM_near n 0 x1 x2 x3 x4 x5 0 0 0 0 k Qp) : Ci l D (tyA g) (wM o a g) yX10_near cX10_near 10 ({ frames := 62, cells := 0, slots := 0, locals := 2301 }) [.ref o, .int x1, .int x2, .int x3, .int x4, .int x5] k Qp := by
  refine Ci_of (by decide) (Nat.le_of_ble_eq_true rfl) ?_
  intro p e s m args below meth c A Z ls C ret hd hl
  have hx := C.1
  have hb := C.2.1
  have hl : lv_has ls 10 [(0, .ref o), (1, .int x1), (2, .int x2), (3, .int x3), (4, .int x4), (5, .int x5)] := hl
  have L : ∀ n : Nat, (∀ (x1 : Int32) (x2 : Int32) (x3 : Int32) (x4 : Int32) (x5 : Int32) (x6 : Int32) (x7 : Int32) (x8 : Int32) (k : GM) (H : Heap) (locs : List Loc) (ls : Array Slot), wM_near n 1 x1 x2 x3 x4 x5 x6 x7 x8 0 k Qp → Hd D (wM o a g k) A s H locs → lv_has ls 10 [(0, .ref o), (1, .int x1), (2, .int x2), (3, .int x3), (4, .int x4), (5, .int x5), (6, .int x6), (7, .int x7), (8, .int x8)] → W p l e ({ frames := 62, cells := 0, slots := 0, locals := 2301 }) s m args below meth c H locs 0 0 Z (F0 m 78 ls [])) ∧ (∀ (x1 : Int32) (x2 : Int32) (x3 : Int32) (x4 : Int32) (x5 : Int32) (x6 : Int32) (x8 : Int32) (x9 : Int32) (k : GM) (H : Heap) (locs : List Loc) (ls : Array Slot), wM_near n 2 x1 x2 x3 x4 x5 x6 0 x8 x9 k Qp → Hd D (wM o a g k) A s H locs → lv_has ls 10 [(0, .ref o), (1, .int x1), (2, .int x2), (3, .int x3), (4, .int x4), (5, .int x5), (6, .int x6), (8, .int x8), (9, .int x9)] → W p l e ({ frames := 62, cells := 0, slots := 0, locals := 2301 }) s m args below meth c H locs 0 0 Z (F0 m 123 ls [])) := by
    intro n
    induction n with
    | zero => exact ⟨fun _ _ _ _ _ _ _ _ _ _ _ _ h => h.elim, fun _ _ _ _ _ _ _ _ _ _ _ _ h => h.elim⟩
    | succ n ih =>
      refine ⟨?_, ?_⟩
      · intro x1 x2 x3 x4 x5 x6 x7 x8 k H locs ls h hd hl
        replace h : ((x8 < 0 → (vp_in (((8 : Int32) * x1) + x2) 64 ∧ (vp_in (((8 : Int32) * x2) + x1) 64 ∧ Qp x7 (sA (sA k 13 (upd (k.2.1 13) (((8 : Int32) * x1) + x2).toNatClampNeg x6)) 13 (upd (upd (k.2.1 13) (((8 : Int32) * x1) + x2).toNatClampNeg x6) (((8 : Int32) * x2) + x1).toNatClampNeg x6))))) ∧ (¬ x8 < 0 → ((¬ x7 = (-1 : Int32) → (vp_in (((8 : Int32) * x1) + x2) 64 ∧ (vp_in (((8 : Int32) * x2) + x1) 64 ∧ Qp x7 (sA (sA k 13 (upd (k.2.1 13) (((8 : Int32) * x1) + x2).toNatClampNeg x6)) 13 (upd (upd (k.2.1 13) (((8 : Int32) * x1) + x2).toNatClampNeg x6) (((8 : Int32) * x2) + x1).toNatClampNeg x6))))) ∧ (x7 = (-1 : Int32) → (vp_in (((8 : Int32) * x1) + x2) 64 ∧ (vp_in (((8 : Int32) * x2) + x1) 64 ∧ (∃ n_14 : Nat, wM_laysAside n_14 0 (1 : Int32) 0 (sA (sA k 13 (upd (k.2.1 13) (((8 : Int32) * x1) + x2).toNatClampNeg x8)) 13 (upd (upd (k.2.1 13) (((8 : Int32) * x1) + x2).toNatClampNeg x8) (((8 : Int32) * x2) + x1).toNatClampNeg x8)) (fun k_14 => wM_near n 2 x1 x2 x3 x4 x5 x6 0 x8 (0 : Int32) k_14 Qp)))))))) := h
        refine lv_iload hx hb dX10_near_78 (lv_at hl 8 rfl) ?_
        refine lv_if_lt (tgt := 192) hx hb dX10_near_80 (by decide) (fun c_12 => ?_) (fun c_12 => ?_)
        · replace h := h.1 c_12
          refine lv_aload_n hx hb dX10_near_192 rfl (lv_at hl 0 rfl) ?_
          refine gM_13 C hd dX10_near_193 ?_
          refine lv_bipush (v := 8) hx hb dX10_near_196 (by decide) ?_
          refine lv_iload_n hx hb dX10_near_198 rfl (lv_at hl 1 rfl) ?_
          refine lv_imul hx hb dX10_near_199 ?_
          refine lv_iload_n hx hb dX10_near_200 rfl (lv_at hl 2 rfl) ?_
          refine lv_iadd hx hb dX10_near_201 ?_
          refine lv_iload hx hb dX10_near_202 (lv_at hl 6 rfl) ?_
          refine stM_13 C hd h.1 dX10_near_204 (fun H locs hd => ?_)
          replace h := h.2
          refine lv_aload_n hx hb dX10_near_205 rfl (lv_at hl 0 rfl) ?_
          refine gM_13 C hd dX10_near_206 ?_
          refine lv_bipush (v := 8) hx hb dX10_near_209 (by decide) ?_
          refine lv_iload_n hx hb dX10_near_211 rfl (lv_at hl 2 rfl) ?_
          refine lv_imul hx hb dX10_near_212 ?_
          refine lv_iload_n hx hb dX10_near_213 rfl (lv_at hl 1 rfl) ?_
          refine lv_iadd hx hb dX10_near_214 ?_
          refine lv_iload hx hb dX10_near_215 (lv_at hl 6 rfl) ?_
          refine stM_13 C hd h.1 dX10_near_217 (fun H locs hd => ?_)
          replace h := h.2
          refine lv_iload hx hb dX10_near_218 (lv_at hl 7 rfl) ?_
          exact ret hd h dX10_near_220
        · replace h := h.2 c_12
          refine lv_iload hx hb dX10_near_83 (lv_at hl 7 rfl) ?_
          refine lv_iconst (v := -1) hx hb dX10_near_85 (by decide) ?_
          refine lv_icmp_ne (tgt := 192) hx hb dX10_near_86 (by decide) (fun c_13 => ?_) (fun c_13 => ?_)
          · replace h := h.1 c_13
            refine lv_aload_n hx hb dX10_near_192 rfl (lv_at hl 0 rfl) ?_
            refine gM_13 C hd dX10_near_193 ?_
            refine lv_bipush (v := 8) hx hb dX10_near_196 (by decide) ?_
            refine lv_iload_n hx hb dX10_near_198 rfl (lv_at hl 1 rfl) ?_
            refine lv_imul hx hb dX10_near_199 ?_
            refine lv_iload_n hx hb dX10_near_200 rfl (lv_at hl 2 rfl) ?_
            refine lv_iadd hx hb dX10_near_201 ?_
            refine lv_iload hx hb dX10_near_202 (lv_at hl 6 rfl) ?_
            refine stM_13 C hd h.1 dX10_near_204 (fun H locs hd => ?_)
            replace h := h.2
            refine lv_aload_n hx hb dX10_near_205 rfl (lv_at hl 0 rfl) ?_
            refine gM_13 C hd dX10_near_206 ?_
            refine lv_bipush (v := 8) hx hb dX10_near_209 (by decide) ?_
            refine lv_iload_n hx hb dX10_near_211 rfl (lv_at hl 2 rfl) ?_
            refine lv_imul hx hb dX10_near_212 ?_
            refine lv_iload_n hx hb dX10_near_213 rfl (lv_at hl 1 rfl) ?_
            refine lv_iadd hx hb dX10_near_214 ?_
            refine lv_iload hx hb dX10_near_215 (lv_at hl 6 rfl) ?_
            refine stM_13 C hd h.1 dX10_near_217 (fun H locs hd => ?_)
            replace h := h.2
            refine lv_iload hx hb dX10_near_218 (lv_at hl 7 rfl) ?_
            exact ret hd h dX10_near_220
          · replace h := h.2 c_13
            refine lv_aload_n hx hb dX10_near_89 rfl (lv_at hl 0 rfl) ?_
            refine gM_13 C hd dX10_near_90 ?_
            refine lv_bipush (v := 8) hx hb dX10_near_93 (by decide) ?_
            refine lv_iload_n hx hb dX10_near_95 rfl (lv_at hl 1 rfl) ?_
            refine lv_imul hx hb dX10_near_96 ?_
            refine lv_iload_n hx hb dX10_near_97 rfl (lv_at hl 2 rfl) ?_
            refine lv_iadd hx hb dX10_near_98 ?_
            refine lv_iload hx hb dX10_near_99 (lv_at hl 8 rfl) ?_
            refine stM_13 C hd h.1 dX10_near_101 (fun H locs hd => ?_)
            replace h := h.2
            refine lv_aload_n hx hb dX10_near_102 rfl (lv_at hl 0 rfl) ?_
            refine gM_13 C hd dX10_near_103 ?_
            refine lv_bipush (v := 8) hx hb dX10_near_106 (by decide) ?_
            refine lv_iload_n hx hb dX10_near_108 rfl (lv_at hl 2 rfl) ?_
            refine lv_imul hx hb dX10_near_109 ?_
            refine lv_iload_n hx hb dX10_near_110 rfl (lv_at hl 1 rfl) ?_
            refine lv_iadd hx hb dX10_near_111 ?_
            refine lv_iload hx hb dX10_near_112 (lv_at hl 8 rfl) ?_
            refine stM_13 C hd h.1 dX10_near_114 (fun H locs hd => ?_)
            replace h := h.2
            refine lv_aload_n hx hb dX10_near_115 rfl (lv_at hl 0 rfl) ?_
            refine lv_iconst (v := 1) hx hb dX10_near_116 (by decide) ?_
            obtain ⟨n_14, h⟩ := h
            refine xv_v C hd kwRX10_X10_laysAside (cM_laysAside n_14 _ h) ⟨rfl, rfl⟩ ⟨by decide, by decide⟩ wM_rcv hl.1 rfl rfl (Nat.le_of_ble_eq_true rfl) ⟨Nat.zero_le _, Nat.zero_le _⟩ dX10_near_117 (fun k_14 H locs h hd => ?_)
            refine lv_iconst (v := 0) hx hb dX10_near_120 (by decide) ?_
            refine lv_istore (lv' := [(9, .int (0 : Int32)), (0, .ref o), (1, .int x1), (2, .int x2), (3, .int x3), (4, .int x4), (5, .int x5), (6, .int x6), (7, .int x7), (8, .int x8)]) hx hb dX10_near_121 hl (by decide) rfl (fun ls hl => ?_)
            exact (ih).2 x1 x2 x3 x4 x5 x6 x8 (0 : Int32) _ _ _ _ h hd (lv_sub hl [1, 2, 3, 4, 5, 6, 7, 9, 0] rfl)
      · intro x1 x2 x3 x4 x5 x6 x8 x9 k H locs ls h hd hl
        replace h : ((x4 ≤ x9 → (wM_dropsOf ((1 : Int32) <<< (x1 &&& 31)) k (fun r_16 k_16 => (wM_dropsOf ((1 : Int32) <<< (x2 &&& 31)) k_16 (fun r_17 k_17 => ((x5 ≤ (r_16 - r_17) → (∃ n_19 : Nat, wM_laysBack n_19 0 0 k_17 (fun k_19 => wM_near n 1 x1 x2 x3 x4 x5 x6 x8 (x8 + (-5 : Int32)) 0 k_19 Qp))) ∧ (¬ x5 ≤ (r_16 - r_17) → (((-x5) < (r_16 - r_17) → (∃ n_21 : Nat, wM_laysBack n_21 0 0 k_17 (fun k_21 => wM_near n 1 x1 x2 x3 x4 x5 x6 (-1 : Int32) (x8 + (-5 : Int32)) 0 k_21 Qp))) ∧ (¬ (-x5) < (r_16 - r_17) → (∃ n_22 : Nat, wM_laysBack n_22 0 0 k_17 (fun k_22 => wM_near n 1 x1 x2 x3 x4 x5 x6 x8 (x8 + (-5 : Int32)) 0 k_22 Qp))))))))))) ∧ (¬ x4 ≤ x9 → (∃ n_23 : Nat, wM_goesBy n_23 0 x3 (0 : Int32) 0 k (fun k_23 => wM_near n 2 x1 x2 x3 x4 x5 x6 0 x8 (x9 + (1 : Int32)) k_23 Qp)))) := h
        refine lv_iload hx hb dX10_near_123 (lv_at hl 8 rfl) ?_
        refine lv_iload hx hb dX10_near_125 (lv_at hl 4 rfl) ?_
        refine lv_icmp_ge (tgt := 142) hx hb dX10_near_127 (by decide) (fun c_15 => ?_) (fun c_15 => ?_)
        · replace h := h.1 c_15
          refine lv_aload_n hx hb dX10_near_142 rfl (lv_at hl 0 rfl) ?_
          refine lv_iconst (v := 1) hx hb dX10_near_143 (by decide) ?_
          refine lv_iload_n hx hb dX10_near_144 rfl (lv_at hl 1 rfl) ?_
          refine lv_ishl hx hb dX10_near_145 ?_
          refine xv_i C hd kwRX10_X10_dropsOf (cM_dropsOf _ h) ⟨rfl, rfl⟩ ⟨by decide, by decide⟩ wM_rcv hl.1 rfl rfl (Nat.le_of_ble_eq_true rfl) ⟨Nat.zero_le _, Nat.zero_le _⟩ dX10_near_146 (fun r_16 k_16 H locs h hd => ?_)
          refine lv_aload_n hx hb dX10_near_149 rfl (lv_at hl 0 rfl) ?_
          refine lv_iconst (v := 1) hx hb dX10_near_150 (by decide) ?_
          refine lv_iload_n hx hb dX10_near_151 rfl (lv_at hl 2 rfl) ?_
          refine lv_ishl hx hb dX10_near_152 ?_
          refine xv_i C hd kwRX10_X10_dropsOf (cM_dropsOf _ h) ⟨rfl, rfl⟩ ⟨by decide, by decide⟩ wM_rcv hl.1 rfl rfl (Nat.le_of_ble_eq_true rfl) ⟨Nat.zero_le _, Nat.zero_le _⟩ dX10_near_153 (fun r_17 k_17 H locs h hd => ?_)
          refine lv_isub hx hb dX10_near_156 ?_
          refine lv_istore (lv' := [(9, .int (r_16 - r_17)), (0, .ref o), (1, .int x1), (2, .int x2), (3, .int x3), (4, .int x4), (5, .int x5), (6, .int x6), (8, .int x8)]) hx hb dX10_near_157 hl (by decide) rfl (fun ls hl => ?_)
          refine lv_iload hx hb dX10_near_159 (lv_at hl 0 rfl) ?_
          refine lv_iload hx hb dX10_near_161 (lv_at hl 6 rfl) ?_
          refine lv_icmp_ge (tgt := 174) hx hb dX10_near_163 (by decide) (fun c_18 => ?_) (fun c_18 => ?_)
          · replace h := h.1 c_18
            refine lv_iload hx hb dX10_near_174 (lv_at hl 8 rfl) ?_
            refine lv_goto (tgt := 180) hx hb dX10_near_176 (by decide) ?_
            refine lv_istore (lv' := [(7, .int x8), (9, .int (r_16 - r_17)), (0, .ref o), (1, .int x1), (2, .int x2), (3, .int x3), (4, .int x4), (5, .int x5), (6, .int x6), (8, .int x8)]) hx hb dX10_near_180 hl (by decide) rfl (fun ls hl => ?_)
            refine lv_aload_n hx hb dX10_near_182 rfl (lv_at hl 2 rfl) ?_
            obtain ⟨n_19, h⟩ := h
            refine xv_v C hd kwRX10_X10_laysBack (cM_laysBack n_19 h) ⟨rfl, rfl⟩ ⟨by decide, by decide⟩ wM_rcv hl.1 rfl rfl (Nat.le_of_ble_eq_true rfl) ⟨Nat.zero_le _, Nat.zero_le _⟩ dX10_near_183 (fun k_19 H locs h hd => ?_)
            refine lv_iinc (v := (x8 + (-5 : Int32))) (lv' := [(8, .int (x8 + (-5 : Int32))), (7, .int x8), (9, .int (r_16 - r_17)), (0, .ref o), (1, .int x1), (2, .int x2), (3, .int x3), (4, .int x4), (5, .int x5), (6, .int x6)]) hx hb dX10_near_186 hl (k := 9) rfl rfl (by decide) rfl (fun ls hl => ?_)
            refine lv_goto (tgt := 78) hx hb dX10_near_189 (by decide) ?_
            exact (ih).1 x1 x2 x3 x4 x5 x6 x8 (x8 + (-5 : Int32)) _ _ _ _ h hd (lv_sub hl [3, 4, 5, 6, 7, 8, 9, 1, 0] rfl)
          · replace h := h.2 c_18
            refine lv_iload hx hb dX10_near_166 (lv_at hl 0 rfl) ?_
            refine lv_iload hx hb dX10_near_168 (lv_at hl 6 rfl) ?_
            refine lv_ineg hx hb dX10_near_170 ?_
            refine lv_icmp_gt (tgt := 179) hx hb dX10_near_171 (by decide) (fun c_20 => ?_) (fun c_20 => ?_)
            · replace h := h.1 c_20
              refine lv_iconst (v := -1) hx hb dX10_near_179 (by decide) ?_
              refine lv_istore (lv' := [(7, .int (-1 : Int32)), (9, .int (r_16 - r_17)), (0, .ref o), (1, .int x1), (2, .int x2), (3, .int x3), (4, .int x4), (5, .int x5), (6, .int x6), (8, .int x8)]) hx hb dX10_near_180 hl (by decide) rfl (fun ls hl => ?_)
              refine lv_aload_n hx hb dX10_near_182 rfl (lv_at hl 2 rfl) ?_
              obtain ⟨n_21, h⟩ := h
              refine xv_v C hd kwRX10_X10_laysBack (cM_laysBack n_21 h) ⟨rfl, rfl⟩ ⟨by decide, by decide⟩ wM_rcv hl.1 rfl rfl (Nat.le_of_ble_eq_true rfl) ⟨Nat.zero_le _, Nat.zero_le _⟩ dX10_near_183 (fun k_21 H locs h hd => ?_)
              refine lv_iinc (v := (x8 + (-5 : Int32))) (lv' := [(8, .int (x8 + (-5 : Int32))), (7, .int (-1 : Int32)), (9, .int (r_16 - r_17)), (0, .ref o), (1, .int x1), (2, .int x2), (3, .int x3), (4, .int x4), (5, .int x5), (6, .int x6)]) hx hb dX10_near_186 hl (k := 9) rfl rfl (by decide) rfl (fun ls hl => ?_)
              refine lv_goto (tgt := 78) hx hb dX10_near_189 (by decide) ?_
              exact (ih).1 x1 x2 x3 x4 x5 x6 (-1 : Int32) (x8 + (-5 : Int32)) _ _ _ _ h hd (lv_sub hl [3, 4, 5, 6, 7, 8, 9, 1, 0] rfl)
            · replace h := h.2 c_20
              refine lv_iload hx hb dX10_near_174 (lv_at hl 8 rfl) ?_
              refine lv_goto (tgt := 180) hx hb dX10_near_176 (by decide) ?_
              refine lv_istore (lv' := [(7, .int x8), (9, .int (r_16 - r_17)), (0, .ref o), (1, .int x1), (2, .int x2), (3, .int x3), (4, .int x4), (5, .int x5), (6, .int x6), (8, .int x8)]) hx hb dX10_near_180 hl (by decide) rfl (fun ls hl => ?_)
              refine lv_aload_n hx hb dX10_near_182 rfl (lv_at hl 2 rfl) ?_
              obtain ⟨n_22, h⟩ := h
              refine xv_v C hd kwRX10_X10_laysBack (cM_laysBack n_22 h) ⟨rfl, rfl⟩ ⟨by decide, by decide⟩ wM_rcv hl.1 rfl rfl (Nat.le_of_ble_eq_true rfl) ⟨Nat.zero_le _, Nat.zero_le _⟩ dX10_near_183 (fun k_22 H locs h hd => ?_)
              refine lv_iinc (v := (x8 + (-5 : Int32))) (lv' := [(8, .int (x8 + (-5 : Int32))), (7, .int x8), (9, .int (r_16 - r_17)), (0, .ref o), (1, .int x1), (2, .int x2), (3, .int x3), (4, .int x4), (5, .int x5), (6, .int x6)]) hx hb dX10_near_186 hl (k := 9) rfl rfl (by decide) rfl (fun ls hl => ?_)
              refine lv_goto (tgt := 78) hx hb dX10_near_189 (by decide) ?_
              exact (ih).1 x1 x2 x3 x4 x5 x6 x8 (x8 + (-5 : Int32)) _ _ _ _ h hd (lv_sub hl [3, 4, 5, 6, 7, 8, 9, 1, 0] rfl)
        · replace h := h.2 c_15
          refine lv_aload_n hx hb dX10_near_130 rfl (lv_at hl 0 rfl) ?_
          refine lv_iload_n hx hb dX10_near_131 rfl (lv_at hl 3 rfl) ?_
          refine lv_iconst (v := 0) hx hb dX10_near_132 (by decide) ?_
          obtain ⟨n_23, h⟩ := h
          refine xv_v C hd kwRX10_X10_goesBy (cM_goesBy n_23 _ _ h) ⟨rfl, rfl⟩ ⟨by decide, by decide⟩ wM_rcv hl.1 rfl rfl (Nat.le_of_ble_eq_true rfl) ⟨Nat.zero_le _, Nat.zero_le _⟩ dX10_near_133 (fun k_23 H locs h hd => ?_)
          refine lv_iinc (v := (x9 + (1 : Int32))) (lv' := [(9, .int (x9 + (1 : Int32))), (0, .ref o), (1, .int x1), (2, .int x2), (3, .int x3), (4, .int x4), (5, .int x5), (6, .int x6), (8, .int x8)]) hx hb dX10_near_136 hl (k := 8) rfl rfl (by decide) rfl (fun ls hl => ?_)
          refine lv_goto (tgt := 123) hx hb dX10_near_139 (by decide) ?_
          exact (ih).2 x1 x2 x3 x4 x5 x6 x8 (x9 + (1 : Int32)) _ _ _ _ h hd (lv_sub hl [1, 2, 3, 4, 5, 6, 7, 8, 0] rfl)
  cases n with
  | zero => exact h.elim
  | succ n =>
    replace h : (wM_isOne x1 k (fun r_1 k_1 => ((r_1 = 0 → Qp (-2 : Int32) k_1) ∧ (¬ r_1 = 0 → (wM_isOne x2 k_1 (fun r_3 k_3 => ((r_3 = 0 → Qp (-2 : Int32) k_3) ∧ (¬ r_3 = 0 → ((x1 = x2 → Qp (-2 : Int32) k_3) ∧ (¬ x1 = x2 → (wM_isPlan x3 k_3 (fun r_6 k_6 => ((r_6 = 0 → Qp (-2 : Int32) k_6) ∧ (¬ r_6 = 0 → (wM_in x4.toInt64 (1 : Int64) (20 : Int64) k_6 (fun r_8 k_8 => ((r_8 = 0 → Qp (-2 : Int32) k_8) ∧ (¬ r_8 = 0 → (wM_in x5.toInt64 (1 : Int64) (99 : Int64) k_8 (fun r_10 k_10 => ((¬ r_10 = 0 → (vp_in (((8 : Int32) * x1) + x2) 64 ∧ wM_near n 1 x1 x2 x3 x4 x5 (k_10.2.1 13 (((8 : Int32) * x1) + x2).toNatClampNeg) (-1 : Int32) (100 : Int32) 0 k_10 Qp)) ∧ (r_10 = 0 → Qp (-2 : Int32) k_10)))))))))))))))))))))) := h
    refine lv_aload_n hx hb dX10_near_0 rfl (lv_at hl 0 rfl) ?_
    refine lv_iload_n hx hb dX10_near_1 rfl (lv_at hl 1 rfl) ?_
    refine xv_z C hd kwRX10_X10_isOne (cM_isOne _ h) ⟨rfl, rfl⟩ ⟨by decide, by decide⟩ wM_rcv hl.1 rfl rfl (Nat.le_of_ble_eq_true rfl) ⟨Nat.zero_le _, Nat.zero_le _⟩ dX10_near_2 (fun r_1 k_1 H locs hz_1 h hd => ?_)
    refine lv_if_eq (tgt := 55) hx hb dX10_near_5 (by decide) (fun c_2 => ?_) (fun c_2 => ?_)
    · replace h := h.1 c_2
      refine lv_bipush (v := -2) hx hb dX10_near_55 (by decide) ?_
      exact ret hd h dX10_near_57
    · replace h := h.2 c_2
      refine lv_aload_n hx hb dX10_near_8 rfl (lv_at hl 0 rfl) ?_
      refine lv_iload_n hx hb dX10_near_9 rfl (lv_at hl 2 rfl) ?_
      refine xv_z C hd kwRX10_X10_isOne (cM_isOne _ h) ⟨rfl, rfl⟩ ⟨by decide, by decide⟩ wM_rcv hl.1 rfl rfl (Nat.le_of_ble_eq_true rfl) ⟨Nat.zero_le _, Nat.zero_le _⟩ dX10_near_10 (fun r_3 k_3 H locs hz_3 h hd => ?_)
      refine lv_if_eq (tgt := 55) hx hb dX10_near_13 (by decide) (fun c_4 => ?_) (fun c_4 => ?_)
      · replace h := h.1 c_4
        refine lv_bipush (v := -2) hx hb dX10_near_55 (by decide) ?_
        exact ret hd h dX10_near_57
      · replace h := h.2 c_4
        refine lv_iload_n hx hb dX10_near_16 rfl (lv_at hl 1 rfl) ?_
        refine lv_iload_n hx hb dX10_near_17 rfl (lv_at hl 2 rfl) ?_
        refine lv_icmp_eq (tgt := 55) hx hb dX10_near_18 (by decide) (fun c_5 => ?_) (fun c_5 => ?_)
        · replace h := h.1 c_5
          refine lv_bipush (v := -2) hx hb dX10_near_55 (by decide) ?_
          exact ret hd h dX10_near_57
        · replace h := h.2 c_5
          refine lv_aload_n hx hb dX10_near_21 rfl (lv_at hl 0 rfl) ?_
          refine lv_iload_n hx hb dX10_near_22 rfl (lv_at hl 3 rfl) ?_
          refine xv_z C hd kwRX10_X10_isPlan (cM_isPlan _ h) ⟨rfl, rfl⟩ ⟨by decide, by decide⟩ wM_rcv hl.1 rfl rfl (Nat.le_of_ble_eq_true rfl) ⟨Nat.zero_le _, Nat.zero_le _⟩ dX10_near_23 (fun r_6 k_6 H locs hz_6 h hd => ?_)
          refine lv_if_eq (tgt := 55) hx hb dX10_near_26 (by decide) (fun c_7 => ?_) (fun c_7 => ?_)
          · replace h := h.1 c_7
            refine lv_bipush (v := -2) hx hb dX10_near_55 (by decide) ?_
            exact ret hd h dX10_near_57
          · replace h := h.2 c_7
            refine lv_iload hx hb dX10_near_29 (lv_at hl 4 rfl) ?_
            refine lv_i2l (v := x4.toInt64) hx hb dX10_near_31 rfl ?_
            refine lv_lconst (v := 1) hx hb dX10_near_32 (by decide) ?_
            refine lv_ldc2 (v := (20 : Int64)) hx hb C.2.2.2.1 (C.2.2.2.2.1 _ q_1356) dX10_near_33 ?_
            refine xs_z C hd kwRX10_X10_in (cM_in _ _ _ h) ⟨rfl, rfl⟩ ⟨by decide, by decide⟩ hl.1 rfl rfl (Nat.le_of_ble_eq_true rfl) ⟨Nat.zero_le _, Nat.zero_le _⟩ dX10_near_36 (fun r_8 k_8 H locs hz_8 h hd => ?_)
            refine lv_if_eq (tgt := 55) hx hb dX10_near_39 (by decide) (fun c_9 => ?_) (fun c_9 => ?_)
            · replace h := h.1 c_9
              refine lv_bipush (v := -2) hx hb dX10_near_55 (by decide) ?_
              exact ret hd h dX10_near_57
            · replace h := h.2 c_9
              refine lv_iload hx hb dX10_near_42 (lv_at hl 5 rfl) ?_
              refine lv_i2l (v := x5.toInt64) hx hb dX10_near_44 rfl ?_
              refine lv_lconst (v := 1) hx hb dX10_near_45 (by decide) ?_
              refine lv_ldc2 (v := (99 : Int64)) hx hb C.2.2.2.1 (C.2.2.2.2.1 _ q_1326) dX10_near_46 ?_
              refine xs_z C hd kwRX10_X10_in (cM_in _ _ _ h) ⟨rfl, rfl⟩ ⟨by decide, by decide⟩ hl.1 rfl rfl (Nat.le_of_ble_eq_true rfl) ⟨Nat.zero_le _, Nat.zero_le _⟩ dX10_near_49 (fun r_10 k_10 H locs hz_10 h hd => ?_)
              refine lv_if_ne (tgt := 58) hx hb dX10_near_52 (by decide) (fun c_11 => ?_) (fun c_11 => ?_)
              · replace h := h.1 c_11
                refine lv_aload_n hx hb dX10_near_58 rfl (lv_at hl 0 rfl) ?_
                refine gM_13 C hd dX10_near_59 ?_
                refine lv_bipush (v := 8) hx hb dX10_near_62 (by decide) ?_
                refine lv_iload_n hx hb dX10_near_64 rfl (lv_at hl 1 rfl) ?_
                refine lv_imul hx hb dX10_near_65 ?_
                refine lv_iload_n hx hb dX10_near_66 rfl (lv_at hl 2 rfl) ?_
                refine lv_iadd hx hb dX10_near_67 ?_
                refine ldM_13 C hd (v := k_10.2.1 13 (((8 : Int32) * x1) + x2).toNatClampNeg) h.1 rfl dX10_near_68 ?_
                replace h := h.2
                refine lv_istore (lv' := [(6, .int (k_10.2.1 13 (((8 : Int32) * x1) + x2).toNatClampNeg)), (0, .ref o), (1, .int x1), (2, .int x2), (3, .int x3), (4, .int x4), (5, .int x5)]) hx hb dX10_near_69 hl (by decide) rfl (fun ls hl => ?_)
                refine lv_iconst (v := -1) hx hb dX10_near_71 (by decide) ?_
                refine lv_istore (lv' := [(7, .int (-1 : Int32)), (6, .int (k_10.2.1 13 (((8 : Int32) * x1) + x2).toNatClampNeg)), (0, .ref o), (1, .int x1), (2, .int x2), (3, .int x3), (4, .int x4), (5, .int x5)]) hx hb dX10_near_72 hl (by decide) rfl (fun ls hl => ?_)
                refine lv_bipush (v := 100) hx hb dX10_near_74 (by decide) ?_
                refine lv_istore (lv' := [(8, .int (100 : Int32)), (7, .int (-1 : Int32)), (6, .int (k_10.2.1 13 (((8 : Int32) * x1) + x2).toNatClampNeg)), (0, .ref o), (1, .int x1), (2, .int x2), (3, .int x3), (4, .int x4), (5, .int x5)]) hx hb dX10_near_76 hl (by decide) rfl (fun ls hl => ?_)
                exact (L n).1 x1 x2 x3 x4 x5 (k_10.2.1 13 (((8 : Int32) * x1) + x2).toNatClampNeg) (-1 : Int32) (100 : Int32) _ _ _ _ h hd (lv_sub hl [3, 4, 5, 6, 7, 8, 2, 1, 0] rfl)
              · replace h := h.2 c_11
                refine lv_bipush (v := -2) hx hb dX10_near_55 (by decide) ?_
                exact ret hd h dX10_near_57
def wM_next_  : Nat → Nat → Int32 → Int32 → Int32 → Int32 → Int32 → Int32 → GM → (Int32 → GM → Prop) → Prop
  | 0, _, _, _, _, _, _, _, _, _ => False
  | n + 1, c, x1, x2, x3, x4, x5, x6, k, Q => match c with
    | 0 => (wM_in x1.toInt64 (0 : Int64) (99 : Int64) k (fun r_1 k_1 => ((r_1 = 0 → Q (-2 : Int32) k_1) ∧ (¬ r_1 = 0 → ((x2 = 0 → Q (-2 : Int32) k_1) ∧ (¬ x2 = 0 → (wM_isSet x2 k_1 (fun r_4 k_4 => ((r_4 = 0 → Q (-2 : Int32) k_4) ∧ (¬ r_4 = 0 → (wM_in x3.toInt64 (0 : Int64) (1 : Int64) k_4 (fun r_6 k_6 => ((¬ r_6 = 0 → (∃ n_8 : Nat, wM_letsAll n_8 0 x1 0 k_6 (fun k_8 => (((k_8.1 47) = 0 → Q (-3 : Int32) k_8) ∧ (¬ (k_8.1 47) = 0 → ((¬ (k_8.1 33) = 0 → wM_next_ n 1 0 x2 x3 (0 : Int32) (-1 : Int32) (0 : Int32) k_8 Q) ∧ ((k_8.1 33) = 0 → Q (-3 : Int32) k_8))))))) ∧ (r_6 = 0 → Q (-2 : Int32) k_6))))))))))))))
    | _ => (((k.1 33) ≤ x6 → ((¬ x3 = 0 → Q x5 k) ∧ (x3 = 0 → Q x4 k))) ∧ (¬ (k.1 33) ≤ x6 → (∃ n_13 : Nat, wM_behind n_13 0 (k.1 48) x6 x2 0 k (fun r_13 k_13 => (∃ n_14 : Nat, wM_behind n_14 0 (k_13.1 49) x6 x2 0 k_13 (fun r_14 k_14 => ((0 ≤ (r_13 - r_14) → ((x5 < (r_13 - r_14) → wM_next_ n 1 0 x2 x3 x6 (r_13 - r_14) (x6 + (1 : Int32)) k_14 Q) ∧ (¬ x5 < (r_13 - r_14) → wM_next_ n 1 0 x2 x3 x4 x5 (x6 + (1 : Int32)) k_14 Q))) ∧ (¬ 0 ≤ (r_13 - r_14) → ((x5 < (-(r_13 - r_14)) → wM_next_ n 1 0 x2 x3 x6 (-(r_13 - r_14)) (x6 + (1 : Int32)) k_14 Q) ∧ (¬ x5 < (-(r_13 - r_14)) → wM_next_ n 1 0 x2 x3 x4 x5 (x6 + (1 : Int32)) k_14 Q))))))))))
set_option maxHeartbeats 4000000 in
set_option maxRecDepth 100000 in
theorem cM_next_ {l : Launch} {D : va_G} {o : Nat} {a : Nat → Nat} {g : Nat → ClassId} {k : GM} {Qp : Int32 → GM → Prop} (n : Nat) (x1 : Int32) (x2 : Int32) (x3 : Int32) (h : wM_next_ n 0 x1 x2 x3 0 0 0 k Qp) : Ci l D (tyA g) (wM o a g) yX10_next_ cX10_next_ 8 ({ frames := 64, cells := 0, slots := 0, locals := 2348 }) [.ref o, .int x1, .int x2, .int x3] k Qp := by
  refine Ci_of (by decide) (Nat.le_of_ble_eq_true rfl) ?_
  intro p e s m args below meth c A Z ls C ret hd hl
  have hx := C.1
  have hb := C.2.1
  have hl : lv_has ls 8 [(0, .ref o), (1, .int x1), (2, .int x2), (3, .int x3)] := hl
  have L : ∀ n : Nat, (∀ (x2 : Int32) (x3 : Int32) (x4 : Int32) (x5 : Int32) (x6 : Int32) (k : GM) (H : Heap) (locs : List Loc) (ls : Array Slot), wM_next_ n 1 0 x2 x3 x4 x5 x6 k Qp → Hd D (wM o a g k) A s H locs → lv_has ls 8 [(0, .ref o), (2, .int x2), (3, .int x3), (4, .int x4), (5, .int x5), (6, .int x6)] → W p l e ({ frames := 64, cells := 0, slots := 0, locals := 2348 }) s m args below meth c H locs 0 0 Z (F0 m 68 ls [])) := by
    intro n
    induction n with
    | zero => exact fun _ _ _ _ _ _ _ _ _ h => h.elim
    | succ n ih =>
      intro x2 x3 x4 x5 x6 k H locs ls h hd hl
      replace h : (((k.1 33) ≤ x6 → ((¬ x3 = 0 → Qp x5 k) ∧ (x3 = 0 → Qp x4 k))) ∧ (¬ (k.1 33) ≤ x6 → (∃ n_13 : Nat, wM_behind n_13 0 (k.1 48) x6 x2 0 k (fun r_13 k_13 => (∃ n_14 : Nat, wM_behind n_14 0 (k_13.1 49) x6 x2 0 k_13 (fun r_14 k_14 => ((0 ≤ (r_13 - r_14) → ((x5 < (r_13 - r_14) → wM_next_ n 1 0 x2 x3 x6 (r_13 - r_14) (x6 + (1 : Int32)) k_14 Qp) ∧ (¬ x5 < (r_13 - r_14) → wM_next_ n 1 0 x2 x3 x4 x5 (x6 + (1 : Int32)) k_14 Qp))) ∧ (¬ 0 ≤ (r_13 - r_14) → ((x5 < (-(r_13 - r_14)) → wM_next_ n 1 0 x2 x3 x6 (-(r_13 - r_14)) (x6 + (1 : Int32)) k_14 Qp) ∧ (¬ x5 < (-(r_13 - r_14)) → wM_next_ n 1 0 x2 x3 x4 x5 (x6 + (1 : Int32)) k_14 Qp)))))))))) := h
      refine lv_iload hx hb dX10_next__68 (lv_at hl 5 rfl) ?_
      refine lv_aload_n hx hb dX10_next__70 rfl (lv_at hl 0 rfl) ?_
      refine gM_33 C hd (v := k.1 33) rfl dX10_next__71 ?_
      refine lv_icmp_ge (tgt := 141) hx hb dX10_next__74 (by decide) (fun c_11 => ?_) (fun c_11 => ?_)
      · replace h := h.1 c_11
        refine lv_iload_n hx hb dX10_next__141 rfl (lv_at hl 2 rfl) ?_
        refine lv_if_ne (tgt := 150) hx hb dX10_next__142 (by decide) (fun c_12 => ?_) (fun c_12 => ?_)
        · replace h := h.1 c_12
          refine lv_iload hx hb dX10_next__150 (lv_at hl 4 rfl) ?_
          exact ret hd h dX10_next__152
        · replace h := h.2 c_12
          refine lv_iload hx hb dX10_next__145 (lv_at hl 3 rfl) ?_
          refine lv_goto (tgt := 152) hx hb dX10_next__147 (by decide) ?_
          exact ret hd h dX10_next__152
      · replace h := h.2 c_11
        refine lv_aload_n hx hb dX10_next__77 rfl (lv_at hl 0 rfl) ?_
        refine lv_aload_n hx hb dX10_next__78 rfl (lv_at hl 0 rfl) ?_
        refine gM_48 C hd (v := k.1 48) rfl dX10_next__79 ?_
        refine lv_iload hx hb dX10_next__82 (lv_at hl 5 rfl) ?_
        refine lv_iload_n hx hb dX10_next__84 rfl (lv_at hl 1 rfl) ?_
        obtain ⟨n_13, h⟩ := h
        refine xv_i C hd kwRX10_X10_behind (cM_behind n_13 _ _ _ h) ⟨rfl, rfl⟩ ⟨by decide, by decide⟩ wM_rcv hl.1 rfl rfl (Nat.le_of_ble_eq_true rfl) ⟨Nat.zero_le _, Nat.zero_le _⟩ dX10_next__85 (fun r_13 k_13 H locs h hd => ?_)
        refine lv_aload_n hx hb dX10_next__88 rfl (lv_at hl 0 rfl) ?_
        refine lv_aload_n hx hb dX10_next__89 rfl (lv_at hl 0 rfl) ?_
        refine gM_49 C hd (v := k_13.1 49) rfl dX10_next__90 ?_
        refine lv_iload hx hb dX10_next__93 (lv_at hl 5 rfl) ?_
        refine lv_iload_n hx hb dX10_next__95 rfl (lv_at hl 1 rfl) ?_
        obtain ⟨n_14, h⟩ := h
        refine xv_i C hd kwRX10_X10_behind (cM_behind n_14 _ _ _ h) ⟨rfl, rfl⟩ ⟨by decide, by decide⟩ wM_rcv hl.1 rfl rfl (Nat.le_of_ble_eq_true rfl) ⟨Nat.zero_le _, Nat.zero_le _⟩ dX10_next__96 (fun r_14 k_14 H locs h hd => ?_)
        refine lv_isub hx hb dX10_next__99 ?_
        refine lv_istore (lv' := [(7, .int (r_13 - r_14)), (0, .ref o), (2, .int x2), (3, .int x3), (4, .int x4), (5, .int x5), (6, .int x6)]) hx hb dX10_next__100 hl (by decide) rfl (fun ls hl => ?_)
        refine lv_iload hx hb dX10_next__102 (lv_at hl 0 rfl) ?_
        refine lv_if_ge (tgt := 113) hx hb dX10_next__104 (by decide) (fun c_15 => ?_) (fun c_15 => ?_)
        · replace h := h.1 c_15
          refine lv_iload hx hb dX10_next__113 (lv_at hl 0 rfl) ?_
          refine lv_istore (lv' := [(7, .int (r_13 - r_14)), (0, .ref o), (2, .int x2), (3, .int x3), (4, .int x4), (5, .int x5), (6, .int x6)]) hx hb dX10_next__115 hl (by decide) rfl (fun ls hl => ?_)
          refine lv_iload hx hb dX10_next__117 (lv_at hl 0 rfl) ?_
          refine lv_iload hx hb dX10_next__119 (lv_at hl 5 rfl) ?_
          refine lv_icmp_gt (tgt := 127) hx hb dX10_next__121 (by decide) (fun c_16 => ?_) (fun c_16 => ?_)
          · replace h := h.1 c_16
            refine lv_iload hx hb dX10_next__127 (lv_at hl 0 rfl) ?_
            refine lv_istore (lv' := [(5, .int (r_13 - r_14)), (7, .int (r_13 - r_14)), (0, .ref o), (2, .int x2), (3, .int x3), (4, .int x4), (6, .int x6)]) hx hb dX10_next__129 hl (by decide) rfl (fun ls hl => ?_)
            refine lv_iload hx hb dX10_next__131 (lv_at hl 6 rfl) ?_
            refine lv_istore (lv' := [(4, .int x6), (5, .int (r_13 - r_14)), (7, .int (r_13 - r_14)), (0, .ref o), (2, .int x2), (3, .int x3), (6, .int x6)]) hx hb dX10_next__133 hl (by decide) rfl (fun ls hl => ?_)
            refine lv_iinc (v := (x6 + (1 : Int32))) (lv' := [(6, .int (x6 + (1 : Int32))), (4, .int x6), (5, .int (r_13 - r_14)), (7, .int (r_13 - r_14)), (0, .ref o), (2, .int x2), (3, .int x3)]) hx hb dX10_next__135 hl (k := 6) rfl rfl (by decide) rfl (fun ls hl => ?_)
            refine lv_goto (tgt := 68) hx hb dX10_next__138 (by decide) ?_
            exact ih x2 x3 x6 (r_13 - r_14) (x6 + (1 : Int32)) _ _ _ _ h hd (lv_sub hl [4, 5, 6, 1, 2, 0] rfl)
          · replace h := h.2 c_16
            refine lv_goto (tgt := 135) hx hb dX10_next__124 (by decide) ?_
            refine lv_iinc (v := (x6 + (1 : Int32))) (lv' := [(6, .int (x6 + (1 : Int32))), (7, .int (r_13 - r_14)), (0, .ref o), (2, .int x2), (3, .int x3), (4, .int x4), (5, .int x5)]) hx hb dX10_next__135 hl (k := 6) rfl rfl (by decide) rfl (fun ls hl => ?_)
            refine lv_goto (tgt := 68) hx hb dX10_next__138 (by decide) ?_
            exact ih x2 x3 x4 x5 (x6 + (1 : Int32)) _ _ _ _ h hd (lv_sub hl [2, 3, 4, 5, 6, 0] rfl)
        · replace h := h.2 c_15
          refine lv_iload hx hb dX10_next__107 (lv_at hl 0 rfl) ?_
          refine lv_ineg hx hb dX10_next__109 ?_
          refine lv_goto (tgt := 115) hx hb dX10_next__110 (by decide) ?_
          refine lv_istore (lv' := [(7, .int (-(r_13 - r_14))), (0, .ref o), (2, .int x2), (3, .int x3), (4, .int x4), (5, .int x5), (6, .int x6)]) hx hb dX10_next__115 hl (by decide) rfl (fun ls hl => ?_)
          refine lv_iload hx hb dX10_next__117 (lv_at hl 0 rfl) ?_
          refine lv_iload hx hb dX10_next__119 (lv_at hl 5 rfl) ?_
          refine lv_icmp_gt (tgt := 127) hx hb dX10_next__121 (by decide) (fun c_17 => ?_) (fun c_17 => ?_)
          · replace h := h.1 c_17
            refine lv_iload hx hb dX10_next__127 (lv_at hl 0 rfl) ?_
            refine lv_istore (lv' := [(5, .int (-(r_13 - r_14))), (7, .int (-(r_13 - r_14))), (0, .ref o), (2, .int x2), (3, .int x3), (4, .int x4), (6, .int x6)]) hx hb dX10_next__129 hl (by decide) rfl (fun ls hl => ?_)
            refine lv_iload hx hb dX10_next__131 (lv_at hl 6 rfl) ?_
            refine lv_istore (lv' := [(4, .int x6), (5, .int (-(r_13 - r_14))), (7, .int (-(r_13 - r_14))), (0, .ref o), (2, .int x2), (3, .int x3), (6, .int x6)]) hx hb dX10_next__133 hl (by decide) rfl (fun ls hl => ?_)
            refine lv_iinc (v := (x6 + (1 : Int32))) (lv' := [(6, .int (x6 + (1 : Int32))), (4, .int x6), (5, .int (-(r_13 - r_14))), (7, .int (-(r_13 - r_14))), (0, .ref o), (2, .int x2), (3, .int x3)]) hx hb dX10_next__135 hl (k := 6) rfl rfl (by decide) rfl (fun ls hl => ?_)
            refine lv_goto (tgt := 68) hx hb dX10_next__138 (by decide) ?_
            exact ih x2 x3 x6 (-(r_13 - r_14)) (x6 + (1 : Int32)) _ _ _ _ h hd (lv_sub hl [4, 5, 6, 1, 2, 0] rfl)
          · replace h := h.2 c_17
            refine lv_goto (tgt := 135) hx hb dX10_next__124 (by decide) ?_
            refine lv_iinc (v := (x6 + (1 : Int32))) (lv' := [(6, .int (x6 + (1 : Int32))), (7, .int (-(r_13 - r_14))), (0, .ref o), (2, .int x2), (3, .int x3), (4, .int x4), (5, .int x5)]) hx hb dX10_next__135 hl (k := 6) rfl rfl (by decide) rfl (fun ls hl => ?_)
            refine lv_goto (tgt := 68) hx hb dX10_next__138 (by decide) ?_
            exact ih x2 x3 x4 x5 (x6 + (1 : Int32)) _ _ _ _ h hd (lv_sub hl [2, 3, 4, 5, 6, 0] rfl)
  cases n with
  | zero => exact h.elim
  | succ n =>
    replace h : (wM_in x1.toInt64 (0 : Int64) (99 : Int64) k (fun r_1 k_1 => ((r_1 = 0 → Qp (-2 : Int32) k_1) ∧ (¬ r_1 = 0 → ((x2 = 0 → Qp (-2 : Int32) k_1) ∧ (¬ x2 = 0 → (wM_isSet x2 k_1 (fun r_4 k_4 => ((r_4 = 0 → Qp (-2 : Int32) k_4) ∧ (¬ r_4 = 0 → (wM_in x3.toInt64 (0 : Int64) (1 : Int64) k_4 (fun r_6 k_6 => ((¬ r_6 = 0 → (∃ n_8 : Nat, wM_letsAll n_8 0 x1 0 k_6 (fun k_8 => (((k_8.1 47) = 0 → Qp (-3 : Int32) k_8) ∧ (¬ (k_8.1 47) = 0 → ((¬ (k_8.1 33) = 0 → wM_next_ n 1 0 x2 x3 (0 : Int32) (-1 : Int32) (0 : Int32) k_8 Qp) ∧ ((k_8.1 33) = 0 → Qp (-3 : Int32) k_8))))))) ∧ (r_6 = 0 → Qp (-2 : Int32) k_6)))))))))))))) := h
    refine lv_iload_n hx hb dX10_next__0 rfl (lv_at hl 1 rfl) ?_
    refine lv_i2l (v := x1.toInt64) hx hb dX10_next__1 rfl ?_
    refine lv_lconst (v := 0) hx hb dX10_next__2 (by decide) ?_
    refine lv_ldc2 (v := (99 : Int64)) hx hb C.2.2.2.1 (C.2.2.2.2.1 _ q_1326) dX10_next__3 ?_
    refine xs_z C hd kwRX10_X10_in (cM_in _ _ _ h) ⟨rfl, rfl⟩ ⟨by decide, by decide⟩ hl.1 rfl rfl (Nat.le_of_ble_eq_true rfl) ⟨Nat.zero_le _, Nat.zero_le _⟩ dX10_next__6 (fun r_1 k_1 H locs hz_1 h hd => ?_)
    refine lv_if_eq (tgt := 34) hx hb dX10_next__9 (by decide) (fun c_2 => ?_) (fun c_2 => ?_)
    · replace h := h.1 c_2
      refine lv_bipush (v := -2) hx hb dX10_next__34 (by decide) ?_
      exact ret hd h dX10_next__36
    · replace h := h.2 c_2
      refine lv_iload_n hx hb dX10_next__12 rfl (lv_at hl 2 rfl) ?_
      refine lv_if_eq (tgt := 34) hx hb dX10_next__13 (by decide) (fun c_3 => ?_) (fun c_3 => ?_)
      · replace h := h.1 c_3
        refine lv_bipush (v := -2) hx hb dX10_next__34 (by decide) ?_
        exact ret hd h dX10_next__36
      · replace h := h.2 c_3
        refine lv_aload_n hx hb dX10_next__16 rfl (lv_at hl 0 rfl) ?_
        refine lv_iload_n hx hb dX10_next__17 rfl (lv_at hl 2 rfl) ?_
        refine xv_z C hd kwRX10_X10_isSet (cM_isSet _ h) ⟨rfl, rfl⟩ ⟨by decide, by decide⟩ wM_rcv hl.1 rfl rfl (Nat.le_of_ble_eq_true rfl) ⟨Nat.zero_le _, Nat.zero_le _⟩ dX10_next__18 (fun r_4 k_4 H locs hz_4 h hd => ?_)
        refine lv_if_eq (tgt := 34) hx hb dX10_next__21 (by decide) (fun c_5 => ?_) (fun c_5 => ?_)
        · replace h := h.1 c_5
          refine lv_bipush (v := -2) hx hb dX10_next__34 (by decide) ?_
          exact ret hd h dX10_next__36
        · replace h := h.2 c_5
          refine lv_iload_n hx hb dX10_next__24 rfl (lv_at hl 3 rfl) ?_
          refine lv_i2l (v := x3.toInt64) hx hb dX10_next__25 rfl ?_
          refine lv_lconst (v := 0) hx hb dX10_next__26 (by decide) ?_
          refine lv_lconst (v := 1) hx hb dX10_next__27 (by decide) ?_
          refine xs_z C hd kwRX10_X10_in (cM_in _ _ _ h) ⟨rfl, rfl⟩ ⟨by decide, by decide⟩ hl.1 rfl rfl (Nat.le_of_ble_eq_true rfl) ⟨Nat.zero_le _, Nat.zero_le _⟩ dX10_next__28 (fun r_6 k_6 H locs hz_6 h hd => ?_)
          refine lv_if_ne (tgt := 37) hx hb dX10_next__31 (by decide) (fun c_7 => ?_) (fun c_7 => ?_)
          · replace h := h.1 c_7
            refine lv_aload_n hx hb dX10_next__37 rfl (lv_at hl 0 rfl) ?_
            refine lv_iload_n hx hb dX10_next__38 rfl (lv_at hl 1 rfl) ?_
            obtain ⟨n_8, h⟩ := h
            refine xv_v C hd kwRX10_X10_letsAll (cM_letsAll n_8 _ h) ⟨rfl, rfl⟩ ⟨by decide, by decide⟩ wM_rcv hl.1 rfl rfl (Nat.le_of_ble_eq_true rfl) ⟨Nat.zero_le _, Nat.zero_le _⟩ dX10_next__39 (fun k_8 H locs h hd => ?_)
            refine lv_aload_n hx hb dX10_next__42 rfl (lv_at hl 0 rfl) ?_
            refine gM_47 C hd (v := k_8.1 47) rfl dX10_next__43 ?_
            refine lv_if_eq (tgt := 56) hx hb dX10_next__46 (by decide) (fun c_9 => ?_) (fun c_9 => ?_)
            · replace h := h.1 c_9
              refine lv_bipush (v := -3) hx hb dX10_next__56 (by decide) ?_
              exact ret hd h dX10_next__58
            · replace h := h.2 c_9
              refine lv_aload_n hx hb dX10_next__49 rfl (lv_at hl 0 rfl) ?_
              refine gM_33 C hd (v := k_8.1 33) rfl dX10_next__50 ?_
              refine lv_if_ne (tgt := 59) hx hb dX10_next__53 (by decide) (fun c_10 => ?_) (fun c_10 => ?_)
              · replace h := h.1 c_10
                refine lv_iconst (v := 0) hx hb dX10_next__59 (by decide) ?_
                refine lv_istore (lv' := [(4, .int (0 : Int32)), (0, .ref o), (1, .int x1), (2, .int x2), (3, .int x3)]) hx hb dX10_next__60 hl (by decide) rfl (fun ls hl => ?_)
                refine lv_iconst (v := -1) hx hb dX10_next__62 (by decide) ?_
                refine lv_istore (lv' := [(5, .int (-1 : Int32)), (4, .int (0 : Int32)), (0, .ref o), (1, .int x1), (2, .int x2), (3, .int x3)]) hx hb dX10_next__63 hl (by decide) rfl (fun ls hl => ?_)
                refine lv_iconst (v := 0) hx hb dX10_next__65 (by decide) ?_
                refine lv_istore (lv' := [(6, .int (0 : Int32)), (5, .int (-1 : Int32)), (4, .int (0 : Int32)), (0, .ref o), (1, .int x1), (2, .int x2), (3, .int x3)]) hx hb dX10_next__66 hl (by decide) rfl (fun ls hl => ?_)
                exact L n x2 x3 (0 : Int32) (-1 : Int32) (0 : Int32) _ _ _ _ h hd (lv_sub hl [3, 5, 6, 2, 1, 0] rfl)
              · replace h := h.2 c_10
                refine lv_bipush (v := -3) hx hb dX10_next__56 (by decide) ?_
                exact ret hd h dX10_next__58
          · replace h := h.2 c_7
            refine lv_bipush (v := -2) hx hb dX10_next__34 (by decide) ?_
            exact ret hd h dX10_next__36
def wM_over (x0 : Int32) (k : GM) (Q : Int32 → GM → Prop) : Prop := ((¬ x0 = 0 → ((x0 = (3 : Int32) → Q (1 : Int32) k) ∧ (¬ x0 = (3 : Int32) → ((¬ x0 = (4 : Int32) → ((¬ x0 = (5 : Int32) → Q (0 : Int32) k) ∧ (x0 = (5 : Int32) → Q (2 : Int32) k))) ∧ (x0 = (4 : Int32) → Q (1 : Int32) k))))) ∧ (x0 = 0 → Q (-1 : Int32) k))
set_option maxHeartbeats 4000000 in
set_option maxRecDepth 100000 in
theorem cM_over {l : Launch} {D : va_G} {o : Nat} {a : Nat → Nat} {g : Nat → ClassId} {k : GM} {Qp : Int32 → GM → Prop} (x0 : Int32) (h : wM_over x0 k Qp) : Ci l D (tyA g) (wM o a g) yX10_over cX10_over 1 ({ frames := 0, cells := 0, slots := 0, locals := 0 }) [.int x0] k Qp := by
  refine Ci_of (by decide) (Nat.le_of_ble_eq_true rfl) ?_
  intro p e s m args below meth c A Z ls C ret hd hl
  have hx := C.1
  have hb := C.2.1
  have hl : lv_has ls 1 [(0, .int x0)] := hl
  replace h : ((¬ x0 = 0 → ((x0 = (3 : Int32) → Qp (1 : Int32) k) ∧ (¬ x0 = (3 : Int32) → ((¬ x0 = (4 : Int32) → ((¬ x0 = (5 : Int32) → Qp (0 : Int32) k) ∧ (x0 = (5 : Int32) → Qp (2 : Int32) k))) ∧ (x0 = (4 : Int32) → Qp (1 : Int32) k))))) ∧ (x0 = 0 → Qp (-1 : Int32) k)) := h
  refine lv_iload_n hx hb dX10_over_0 rfl (lv_at hl 0 rfl) ?_
  refine lv_if_ne (tgt := 8) hx hb dX10_over_1 (by decide) (fun c_1 => ?_) (fun c_1 => ?_)
  · replace h := h.1 c_1
    refine lv_iload_n hx hb dX10_over_8 rfl (lv_at hl 0 rfl) ?_
    refine lv_iconst (v := 3) hx hb dX10_over_9 (by decide) ?_
    refine lv_icmp_eq (tgt := 18) hx hb dX10_over_10 (by decide) (fun c_2 => ?_) (fun c_2 => ?_)
    · replace h := h.1 c_2
      refine lv_iconst (v := 1) hx hb dX10_over_18 (by decide) ?_
      refine lv_goto (tgt := 32) hx hb dX10_over_19 (by decide) ?_
      exact ret hd h dX10_over_32
    · replace h := h.2 c_2
      refine lv_iload_n hx hb dX10_over_13 rfl (lv_at hl 0 rfl) ?_
      refine lv_iconst (v := 4) hx hb dX10_over_14 (by decide) ?_
      refine lv_icmp_ne (tgt := 22) hx hb dX10_over_15 (by decide) (fun c_3 => ?_) (fun c_3 => ?_)
      · replace h := h.1 c_3
        refine lv_iload_n hx hb dX10_over_22 rfl (lv_at hl 0 rfl) ?_
        refine lv_iconst (v := 5) hx hb dX10_over_23 (by decide) ?_
        refine lv_icmp_ne (tgt := 31) hx hb dX10_over_24 (by decide) (fun c_4 => ?_) (fun c_4 => ?_)
        · replace h := h.1 c_4
          refine lv_iconst (v := 0) hx hb dX10_over_31 (by decide) ?_
          exact ret hd h dX10_over_32
        · replace h := h.2 c_4
          refine lv_iconst (v := 2) hx hb dX10_over_27 (by decide) ?_
          refine lv_goto (tgt := 32) hx hb dX10_over_28 (by decide) ?_
          exact ret hd h dX10_over_32
      · replace h := h.2 c_3
        refine lv_iconst (v := 1) hx hb dX10_over_18 (by decide) ?_
        refine lv_goto (tgt := 32) hx hb dX10_over_19 (by decide) ?_
        exact ret hd h dX10_over_32
  · replace h := h.2 c_1
    refine lv_iconst (v := -1) hx hb dX10_over_4 (by decide) ?_
    refine lv_goto (tgt := 32) hx hb dX10_over_5 (by decide) ?_
    exact ret hd h dX10_over_32
def wM_pace (x1 : Int32) (k : GM) (Q : Int32 → GM → Prop) : Prop := (wM_in x1.toInt64 (1 : Int64) (100 : Int64) k (fun r_1 k_1 => ((¬ r_1 = 0 → Q (k_1.1 14) (sI k_1 14 x1)) ∧ (r_1 = 0 → Q (-2 : Int32) k_1))))
set_option maxHeartbeats 4000000 in
set_option maxRecDepth 100000 in
theorem cM_pace {l : Launch} {D : va_G} {o : Nat} {a : Nat → Nat} {g : Nat → ClassId} {k : GM} {Qp : Int32 → GM → Prop} (x1 : Int32) (h : wM_pace x1 k Qp) : Ci l D (tyA g) (wM o a g) yX10_pace cX10_pace 3 ({ frames := 1, cells := 0, slots := 0, locals := 25 }) [.ref o, .int x1] k Qp := by
  refine Ci_of (by decide) (Nat.le_of_ble_eq_true rfl) ?_
  intro p e s m args below meth c A Z ls C ret hd hl
  have hx := C.1
  have hb := C.2.1
  have hl : lv_has ls 3 [(0, .ref o), (1, .int x1)] := hl
  replace h : (wM_in x1.toInt64 (1 : Int64) (100 : Int64) k (fun r_1 k_1 => ((¬ r_1 = 0 → Qp (k_1.1 14) (sI k_1 14 x1)) ∧ (r_1 = 0 → Qp (-2 : Int32) k_1)))) := h
  refine lv_iload_n hx hb dX10_pace_0 rfl (lv_at hl 1 rfl) ?_
  refine lv_i2l (v := x1.toInt64) hx hb dX10_pace_1 rfl ?_
  refine lv_lconst (v := 1) hx hb dX10_pace_2 (by decide) ?_
  refine lv_ldc2 (v := (100 : Int64)) hx hb C.2.2.2.1 (C.2.2.2.2.1 _ q_1213) dX10_pace_3 ?_
  refine xs_z C hd kwRX10_X10_in (cM_in _ _ _ h) ⟨rfl, rfl⟩ ⟨by decide, by decide⟩ hl.1 rfl rfl (Nat.le_of_ble_eq_true rfl) ⟨Nat.zero_le _, Nat.zero_le _⟩ dX10_pace_6 (fun r_1 k_1 H locs hz_1 h hd => ?_)
  refine lv_if_ne (tgt := 15) hx hb dX10_pace_9 (by decide) (fun c_2 => ?_) (fun c_2 => ?_)
  · replace h := h.1 c_2
    refine lv_aload_n hx hb dX10_pace_15 rfl (lv_at hl 0 rfl) ?_
    refine gM_14 C hd (v := k_1.1 14) rfl dX10_pace_16 ?_
    refine lv_istore_n (lv' := [(2, .int (k_1.1 14)), (0, .ref o), (1, .int x1)]) hx hb dX10_pace_19 rfl hl (by decide) rfl (fun ls hl => ?_)
    refine lv_aload_n hx hb dX10_pace_20 rfl (lv_at hl 1 rfl) ?_
    refine lv_iload_n hx hb dX10_pace_21 rfl (lv_at hl 2 rfl) ?_
    refine pM_14 C hd dX10_pace_22 (fun H locs hd => ?_)
    refine lv_iload_n hx hb dX10_pace_25 rfl (lv_at hl 0 rfl) ?_
    exact ret hd h dX10_pace_26
  · replace h := h.2 c_2
    refine lv_bipush (v := -2) hx hb dX10_pace_12 (by decide) ?_
    exact ret hd h dX10_pace_14
def wM_plan  : Nat → Nat → Int32 → Int32 → Int32 → Int32 → Int32 → GM → (Int32 → GM → Prop) → Prop
  | 0, _, _, _, _, _, _, _, _ => False
  | n + 1, c, x1, x2, x3, x4, x5, k, Q => match c with
    | 0 => ((¬ (k.1 33) = (8 : Int32) → wM_plan n 1 (0 : Int32) (0 : Int32) (0 : Int32) (-1 : Int32) (0 : Int32) k Q) ∧ ((k.1 33) = (8 : Int32) → Q (-4 : Int32) k))
    | 1 => (((k.1 6) ≤ x5 → ((¬ x4 = (-1 : Int32) → wM_plan n 2 x1 0 0 x4 0 k Q) ∧ (x4 = (-1 : Int32) → ((¬ x3 = 0 → wM_plan n 2 x1 0 0 (k.1 6) 0 k Q) ∧ (x3 = 0 → ((¬ x1 = 0 → wM_plan n 2 x1 0 0 x4 0 k Q) ∧ (x1 = 0 → wM_plan n 2 x1 0 0 (k.1 6) 0 k Q))))))) ∧ (¬ (k.1 6) ≤ x5 → ((¬ x4 = (-1 : Int32) → ((¬ x4 = (-1 : Int32) → wM_plan n 2 x1 0 0 x4 0 k Q) ∧ (x4 = (-1 : Int32) → ((¬ x3 = 0 → wM_plan n 2 x1 0 0 (k.1 6) 0 k Q) ∧ (x3 = 0 → ((¬ x1 = 0 → wM_plan n 2 x1 0 0 x4 0 k Q) ∧ (x1 = 0 → wM_plan n 2 x1 0 0 (k.1 6) 0 k Q))))))) ∧ (x4 = (-1 : Int32) → (vp_in x5 160 ∧ (vp_in x5 160 ∧ (wM_endOf (k.2.1 5 x5.toNatClampNeg) k (fun r_10 k_10 => ((x1 = (24 : Int32) → wM_plan n 1 x1 x2 x3 x5 (x5 + (1 : Int32)) k_10 Q) ∧ (¬ x1 = (24 : Int32) → ((¬ r_10 = (-1 : Int32) → ((¬ r_10 = (-1 : Int32) → (vp_in (((24 : Int32) * (k_10.1 33)) + x1) 192 ∧ (vp_in (((24 : Int32) * (k_10.1 33)) + x1) 192 ∧ wM_plan n 1 (x1 + (1 : Int32)) (0 : Int32) (0 : Int32) x4 (x5 + (1 : Int32)) (sA (sA k_10 31 (upd (k_10.2.1 31) (((24 : Int32) * (k_10.1 33)) + x1).toNatClampNeg x2)) 32 (upd (k_10.2.1 32) (((24 : Int32) * (k_10.1 33)) + x1).toNatClampNeg r_10)) Q))) ∧ (r_10 = (-1 : Int32) → (∀ v_14 : Int32, v_14 = (x2 ||| ((1 : Int32) <<< (((k.2.1 5 x5.toNatClampNeg) - (97 : Int32)) &&& 31))) → wM_plan n 1 x1 v_14 (1 : Int32) x4 (x5 + (1 : Int32)) k_10 Q)))) ∧ (r_10 = (-1 : Int32) → (wM_isOne ((k.2.1 5 x5.toNatClampNeg) - (97 : Int32)) k_10 (fun r_15 k_15 => ((r_15 = 0 → wM_plan n 1 x1 x2 x3 x5 (x5 + (1 : Int32)) k_15 Q) ∧ (¬ r_15 = 0 → ((¬ ((x2 >>> (((k.2.1 5 x5.toNatClampNeg) - (97 : Int32)) &&& 31)) &&& (1 : Int32)) = (1 : Int32) → ((¬ r_10 = (-1 : Int32) → (vp_in (((24 : Int32) * (k_15.1 33)) + x1) 192 ∧ (vp_in (((24 : Int32) * (k_15.1 33)) + x1) 192 ∧ wM_plan n 1 (x1 + (1 : Int32)) (0 : Int32) (0 : Int32) x4 (x5 + (1 : Int32)) (sA (sA k_15 31 (upd (k_15.2.1 31) (((24 : Int32) * (k_15.1 33)) + x1).toNatClampNeg x2)) 32 (upd (k_15.2.1 32) (((24 : Int32) * (k_15.1 33)) + x1).toNatClampNeg r_10)) Q))) ∧ (r_10 = (-1 : Int32) → (∀ v_19 : Int32, v_19 = (x2 ||| ((1 : Int32) <<< (((k.2.1 5 x5.toNatClampNeg) - (97 : Int32)) &&& 31))) → wM_plan n 1 x1 v_19 (1 : Int32) x4 (x5 + (1 : Int32)) k_15 Q)))) ∧ (((x2 >>> (((k.2.1 5 x5.toNatClampNeg) - (97 : Int32)) &&& 31)) &&& (1 : Int32)) = (1 : Int32) → wM_plan n 1 x1 x2 x3 x5 (x5 + (1 : Int32)) k_15 Q))))))))))))))))))
    | _ => ((x4 = (-1 : Int32) → (vp_in (k.1 33) 8 ∧ Q (((k.1 33) + (1 : Int32)) - (1 : Int32)) (sI (sA (sI k 6 (0 : Int32)) 30 (upd (k.2.1 30) (k.1 33).toNatClampNeg x1)) 33 ((k.1 33) + (1 : Int32))))) ∧ (¬ x4 = (-1 : Int32) → Q ((-100 : Int32) - x4) (sI k 6 (0 : Int32))))
set_option maxHeartbeats 4000000 in
set_option maxRecDepth 100000 in
theorem cM_plan {l : Launch} {D : va_G} {o : Nat} {a : Nat → Nat} {g : Nat → ClassId} {k : GM} {Qp : Int32 → GM → Prop} (n : Nat)  (h : wM_plan n 0 0 0 0 0 0 k Qp) : Ci l D (tyA g) (wM o a g) yX10_plan cX10_plan 8 ({ frames := 2, cells := 0, slots := 0, locals := 46 }) [.ref o] k Qp := by
  refine Ci_of (by decide) (Nat.le_of_ble_eq_true rfl) ?_
  intro p e s m args below meth c A Z ls C ret hd hl
  have hx := C.1
  have hb := C.2.1
  have hl : lv_has ls 8 [(0, .ref o)] := hl
  have L : ∀ n : Nat, (∀ (x1 : Int32) (x2 : Int32) (x3 : Int32) (x4 : Int32) (x5 : Int32) (k : GM) (H : Heap) (locs : List Loc) (ls : Array Slot), wM_plan n 1 x1 x2 x3 x4 x5 k Qp → Hd D (wM o a g k) A s H locs → lv_has ls 8 [(0, .ref o), (1, .int x1), (2, .int x2), (3, .int x3), (4, .int x4), (5, .int x5)] → W p l e ({ frames := 2, cells := 0, slots := 0, locals := 46 }) s m args below meth c H locs 0 0 Z (F0 m 24 ls [])) ∧ (∀ (x1 : Int32) (x4 : Int32) (k : GM) (H : Heap) (locs : List Loc) (ls : Array Slot), wM_plan n 2 x1 0 0 x4 0 k Qp → Hd D (wM o a g k) A s H locs → lv_has ls 8 [(0, .ref o), (1, .int x1), (4, .int x4)] → W p l e ({ frames := 2, cells := 0, slots := 0, locals := 46 }) s m args below meth c H locs 0 0 Z (F0 m 183 ls [])) := by
    intro n
    induction n with
    | zero => exact ⟨fun _ _ _ _ _ _ _ _ _ h => h.elim, fun _ _ _ _ _ _ h => h.elim⟩
    | succ n ih =>
      refine ⟨?_, ?_⟩
      · intro x1 x2 x3 x4 x5 k H locs ls h hd hl
        replace h : (((k.1 6) ≤ x5 → ((¬ x4 = (-1 : Int32) → wM_plan n 2 x1 0 0 x4 0 k Qp) ∧ (x4 = (-1 : Int32) → ((¬ x3 = 0 → wM_plan n 2 x1 0 0 (k.1 6) 0 k Qp) ∧ (x3 = 0 → ((¬ x1 = 0 → wM_plan n 2 x1 0 0 x4 0 k Qp) ∧ (x1 = 0 → wM_plan n 2 x1 0 0 (k.1 6) 0 k Qp))))))) ∧ (¬ (k.1 6) ≤ x5 → ((¬ x4 = (-1 : Int32) → ((¬ x4 = (-1 : Int32) → wM_plan n 2 x1 0 0 x4 0 k Qp) ∧ (x4 = (-1 : Int32) → ((¬ x3 = 0 → wM_plan n 2 x1 0 0 (k.1 6) 0 k Qp) ∧ (x3 = 0 → ((¬ x1 = 0 → wM_plan n 2 x1 0 0 x4 0 k Qp) ∧ (x1 = 0 → wM_plan n 2 x1 0 0 (k.1 6) 0 k Qp))))))) ∧ (x4 = (-1 : Int32) → (vp_in x5 160 ∧ (vp_in x5 160 ∧ (wM_endOf (k.2.1 5 x5.toNatClampNeg) k (fun r_10 k_10 => ((x1 = (24 : Int32) → wM_plan n 1 x1 x2 x3 x5 (x5 + (1 : Int32)) k_10 Qp) ∧ (¬ x1 = (24 : Int32) → ((¬ r_10 = (-1 : Int32) → ((¬ r_10 = (-1 : Int32) → (vp_in (((24 : Int32) * (k_10.1 33)) + x1) 192 ∧ (vp_in (((24 : Int32) * (k_10.1 33)) + x1) 192 ∧ wM_plan n 1 (x1 + (1 : Int32)) (0 : Int32) (0 : Int32) x4 (x5 + (1 : Int32)) (sA (sA k_10 31 (upd (k_10.2.1 31) (((24 : Int32) * (k_10.1 33)) + x1).toNatClampNeg x2)) 32 (upd (k_10.2.1 32) (((24 : Int32) * (k_10.1 33)) + x1).toNatClampNeg r_10)) Qp))) ∧ (r_10 = (-1 : Int32) → (∀ v_14 : Int32, v_14 = (x2 ||| ((1 : Int32) <<< (((k.2.1 5 x5.toNatClampNeg) - (97 : Int32)) &&& 31))) → wM_plan n 1 x1 v_14 (1 : Int32) x4 (x5 + (1 : Int32)) k_10 Qp)))) ∧ (r_10 = (-1 : Int32) → (wM_isOne ((k.2.1 5 x5.toNatClampNeg) - (97 : Int32)) k_10 (fun r_15 k_15 => ((r_15 = 0 → wM_plan n 1 x1 x2 x3 x5 (x5 + (1 : Int32)) k_15 Qp) ∧ (¬ r_15 = 0 → ((¬ ((x2 >>> (((k.2.1 5 x5.toNatClampNeg) - (97 : Int32)) &&& 31)) &&& (1 : Int32)) = (1 : Int32) → ((¬ r_10 = (-1 : Int32) → (vp_in (((24 : Int32) * (k_15.1 33)) + x1) 192 ∧ (vp_in (((24 : Int32) * (k_15.1 33)) + x1) 192 ∧ wM_plan n 1 (x1 + (1 : Int32)) (0 : Int32) (0 : Int32) x4 (x5 + (1 : Int32)) (sA (sA k_15 31 (upd (k_15.2.1 31) (((24 : Int32) * (k_15.1 33)) + x1).toNatClampNeg x2)) 32 (upd (k_15.2.1 32) (((24 : Int32) * (k_15.1 33)) + x1).toNatClampNeg r_10)) Qp))) ∧ (r_10 = (-1 : Int32) → (∀ v_19 : Int32, v_19 = (x2 ||| ((1 : Int32) <<< (((k.2.1 5 x5.toNatClampNeg) - (97 : Int32)) &&& 31))) → wM_plan n 1 x1 v_19 (1 : Int32) x4 (x5 + (1 : Int32)) k_15 Qp)))) ∧ (((x2 >>> (((k.2.1 5 x5.toNatClampNeg) - (97 : Int32)) &&& 31)) &&& (1 : Int32)) = (1 : Int32) → wM_plan n 1 x1 x2 x3 x5 (x5 + (1 : Int32)) k_15 Qp)))))))))))))))))) := h
        refine lv_iload hx hb dX10_plan_24 (lv_at hl 5 rfl) ?_
        refine lv_aload_n hx hb dX10_plan_26 rfl (lv_at hl 0 rfl) ?_
        refine gM_6 C hd (v := k.1 6) rfl dX10_plan_27 ?_
        refine lv_icmp_ge (tgt := 163) hx hb dX10_plan_30 (by decide) (fun c_2 => ?_) (fun c_2 => ?_)
        · replace h := h.1 c_2
          refine lv_iload hx hb dX10_plan_163 (lv_at hl 4 rfl) ?_
          refine lv_iconst (v := -1) hx hb dX10_plan_165 (by decide) ?_
          refine lv_icmp_ne (tgt := 183) hx hb dX10_plan_166 (by decide) (fun c_3 => ?_) (fun c_3 => ?_)
          · replace h := h.1 c_3
            exact (ih).2 x1 x4 _ _ _ _ h hd (lv_sub hl [0, 1, 4] rfl)
          · replace h := h.2 c_3
            refine lv_iload_n hx hb dX10_plan_169 rfl (lv_at hl 3 rfl) ?_
            refine lv_if_ne (tgt := 177) hx hb dX10_plan_170 (by decide) (fun c_4 => ?_) (fun c_4 => ?_)
            · replace h := h.1 c_4
              refine lv_aload_n hx hb dX10_plan_177 rfl (lv_at hl 0 rfl) ?_
              refine gM_6 C hd (v := k.1 6) rfl dX10_plan_178 ?_
              refine lv_istore (lv' := [(4, .int (k.1 6)), (0, .ref o), (1, .int x1), (2, .int x2), (3, .int x3), (5, .int x5)]) hx hb dX10_plan_181 hl (by decide) rfl (fun ls hl => ?_)
              exact (ih).2 x1 (k.1 6) _ _ _ _ h hd (lv_sub hl [1, 2, 0] rfl)
            · replace h := h.2 c_4
              refine lv_iload_n hx hb dX10_plan_173 rfl (lv_at hl 1 rfl) ?_
              refine lv_if_ne (tgt := 183) hx hb dX10_plan_174 (by decide) (fun c_5 => ?_) (fun c_5 => ?_)
              · replace h := h.1 c_5
                exact (ih).2 x1 x4 _ _ _ _ h hd (lv_sub hl [0, 1, 4] rfl)
              · replace h := h.2 c_5
                refine lv_aload_n hx hb dX10_plan_177 rfl (lv_at hl 0 rfl) ?_
                refine gM_6 C hd (v := k.1 6) rfl dX10_plan_178 ?_
                refine lv_istore (lv' := [(4, .int (k.1 6)), (0, .ref o), (1, .int x1), (2, .int x2), (3, .int x3), (5, .int x5)]) hx hb dX10_plan_181 hl (by decide) rfl (fun ls hl => ?_)
                exact (ih).2 x1 (k.1 6) _ _ _ _ h hd (lv_sub hl [1, 2, 0] rfl)
        · replace h := h.2 c_2
          refine lv_iload hx hb dX10_plan_33 (lv_at hl 4 rfl) ?_
          refine lv_iconst (v := -1) hx hb dX10_plan_35 (by decide) ?_
          refine lv_icmp_ne (tgt := 163) hx hb dX10_plan_36 (by decide) (fun c_6 => ?_) (fun c_6 => ?_)
          · replace h := h.1 c_6
            refine lv_iload hx hb dX10_plan_163 (lv_at hl 4 rfl) ?_
            refine lv_iconst (v := -1) hx hb dX10_plan_165 (by decide) ?_
            refine lv_icmp_ne (tgt := 183) hx hb dX10_plan_166 (by decide) (fun c_7 => ?_) (fun c_7 => ?_)
            · replace h := h.1 c_7
              exact (ih).2 x1 x4 _ _ _ _ h hd (lv_sub hl [0, 1, 4] rfl)
            · replace h := h.2 c_7
              refine lv_iload_n hx hb dX10_plan_169 rfl (lv_at hl 3 rfl) ?_
              refine lv_if_ne (tgt := 177) hx hb dX10_plan_170 (by decide) (fun c_8 => ?_) (fun c_8 => ?_)
              · replace h := h.1 c_8
                refine lv_aload_n hx hb dX10_plan_177 rfl (lv_at hl 0 rfl) ?_
                refine gM_6 C hd (v := k.1 6) rfl dX10_plan_178 ?_
                refine lv_istore (lv' := [(4, .int (k.1 6)), (0, .ref o), (1, .int x1), (2, .int x2), (3, .int x3), (5, .int x5)]) hx hb dX10_plan_181 hl (by decide) rfl (fun ls hl => ?_)
                exact (ih).2 x1 (k.1 6) _ _ _ _ h hd (lv_sub hl [1, 2, 0] rfl)
              · replace h := h.2 c_8
                refine lv_iload_n hx hb dX10_plan_173 rfl (lv_at hl 1 rfl) ?_
                refine lv_if_ne (tgt := 183) hx hb dX10_plan_174 (by decide) (fun c_9 => ?_) (fun c_9 => ?_)
                · replace h := h.1 c_9
                  exact (ih).2 x1 x4 _ _ _ _ h hd (lv_sub hl [0, 1, 4] rfl)
                · replace h := h.2 c_9
                  refine lv_aload_n hx hb dX10_plan_177 rfl (lv_at hl 0 rfl) ?_
                  refine gM_6 C hd (v := k.1 6) rfl dX10_plan_178 ?_
                  refine lv_istore (lv' := [(4, .int (k.1 6)), (0, .ref o), (1, .int x1), (2, .int x2), (3, .int x3), (5, .int x5)]) hx hb dX10_plan_181 hl (by decide) rfl (fun ls hl => ?_)
                  exact (ih).2 x1 (k.1 6) _ _ _ _ h hd (lv_sub hl [1, 2, 0] rfl)
          · replace h := h.2 c_6
            refine lv_aload_n hx hb dX10_plan_39 rfl (lv_at hl 0 rfl) ?_
            refine gM_5 C hd dX10_plan_40 ?_
            refine lv_iload hx hb dX10_plan_43 (lv_at hl 5 rfl) ?_
            refine ldM_5 C hd (v := k.2.1 5 x5.toNatClampNeg) h.1 rfl dX10_plan_45 ?_
            replace h := h.2
            refine lv_bipush (v := 97) hx hb dX10_plan_46 (by decide) ?_
            refine lv_isub hx hb dX10_plan_48 ?_
            refine lv_istore (lv' := [(6, .int ((k.2.1 5 x5.toNatClampNeg) - (97 : Int32))), (0, .ref o), (1, .int x1), (2, .int x2), (3, .int x3), (4, .int x4), (5, .int x5)]) hx hb dX10_plan_49 hl (by decide) rfl (fun ls hl => ?_)
            refine lv_aload_n hx hb dX10_plan_51 rfl (lv_at hl 1 rfl) ?_
            refine gM_5 C hd dX10_plan_52 ?_
            refine lv_iload hx hb dX10_plan_55 (lv_at hl 6 rfl) ?_
            refine ldM_5 C hd (v := k.2.1 5 x5.toNatClampNeg) h.1 rfl dX10_plan_57 ?_
            replace h := h.2
            refine xs_i C hd kwRX10_X10_endOf (cM_endOf _ h) ⟨rfl, rfl⟩ ⟨by decide, by decide⟩ hl.1 rfl rfl (Nat.le_of_ble_eq_true rfl) ⟨Nat.zero_le _, Nat.zero_le _⟩ dX10_plan_58 (fun r_10 k_10 H locs h hd => ?_)
            refine lv_istore (lv' := [(7, .int r_10), (6, .int ((k.2.1 5 x5.toNatClampNeg) - (97 : Int32))), (0, .ref o), (1, .int x1), (2, .int x2), (3, .int x3), (4, .int x4), (5, .int x5)]) hx hb dX10_plan_61 hl (by decide) rfl (fun ls hl => ?_)
            refine lv_iload_n hx hb dX10_plan_63 rfl (lv_at hl 3 rfl) ?_
            refine lv_bipush (v := 24) hx hb dX10_plan_64 (by decide) ?_
            refine lv_icmp_eq (tgt := 94) hx hb dX10_plan_66 (by decide) (fun c_11 => ?_) (fun c_11 => ?_)
            · replace h := h.1 c_11
              refine lv_iload hx hb dX10_plan_94 (lv_at hl 7 rfl) ?_
              refine lv_istore (lv' := [(4, .int x5), (7, .int r_10), (6, .int ((k.2.1 5 x5.toNatClampNeg) - (97 : Int32))), (0, .ref o), (1, .int x1), (2, .int x2), (3, .int x3), (5, .int x5)]) hx hb dX10_plan_96 hl (by decide) rfl (fun ls hl => ?_)
              refine lv_goto (tgt := 157) hx hb dX10_plan_98 (by decide) ?_
              refine lv_iinc (v := (x5 + (1 : Int32))) (lv' := [(5, .int (x5 + (1 : Int32))), (4, .int x5), (7, .int r_10), (6, .int ((k.2.1 5 x5.toNatClampNeg) - (97 : Int32))), (0, .ref o), (1, .int x1), (2, .int x2), (3, .int x3)]) hx hb dX10_plan_157 hl (k := 7) rfl rfl (by decide) rfl (fun ls hl => ?_)
              refine lv_goto (tgt := 24) hx hb dX10_plan_160 (by decide) ?_
              exact (ih).1 x1 x2 x3 x5 (x5 + (1 : Int32)) _ _ _ _ h hd (lv_sub hl [4, 5, 6, 7, 1, 0] rfl)
            · replace h := h.2 c_11
              refine lv_iload hx hb dX10_plan_69 (lv_at hl 0 rfl) ?_
              refine lv_iconst (v := -1) hx hb dX10_plan_71 (by decide) ?_
              refine lv_icmp_ne (tgt := 101) hx hb dX10_plan_72 (by decide) (fun c_12 => ?_) (fun c_12 => ?_)
              · replace h := h.1 c_12
                refine lv_iload hx hb dX10_plan_101 (lv_at hl 0 rfl) ?_
                refine lv_iconst (v := -1) hx hb dX10_plan_103 (by decide) ?_
                refine lv_icmp_ne (tgt := 119) hx hb dX10_plan_104 (by decide) (fun c_13 => ?_) (fun c_13 => ?_)
                · replace h := h.1 c_13
                  refine lv_aload_n hx hb dX10_plan_119 rfl (lv_at hl 2 rfl) ?_
                  refine gM_31 C hd dX10_plan_120 ?_
                  refine lv_bipush (v := 24) hx hb dX10_plan_123 (by decide) ?_
                  refine lv_aload_n hx hb dX10_plan_125 rfl (lv_at hl 2 rfl) ?_
                  refine gM_33 C hd (v := k_10.1 33) rfl dX10_plan_126 ?_
                  refine lv_imul hx hb dX10_plan_129 ?_
                  refine lv_iload_n hx hb dX10_plan_130 rfl (lv_at hl 3 rfl) ?_
                  refine lv_iadd hx hb dX10_plan_131 ?_
                  refine lv_iload_n hx hb dX10_plan_132 rfl (lv_at hl 4 rfl) ?_
                  refine stM_31 C hd h.1 dX10_plan_133 (fun H locs hd => ?_)
                  replace h := h.2
                  refine lv_aload_n hx hb dX10_plan_134 rfl (lv_at hl 2 rfl) ?_
                  refine gM_32 C hd dX10_plan_135 ?_
                  refine lv_bipush (v := 24) hx hb dX10_plan_138 (by decide) ?_
                  refine lv_aload_n hx hb dX10_plan_140 rfl (lv_at hl 2 rfl) ?_
                  refine gM_33 C hd (v := k_10.1 33) rfl dX10_plan_141 ?_
                  refine lv_imul hx hb dX10_plan_144 ?_
                  refine lv_iload_n hx hb dX10_plan_145 rfl (lv_at hl 3 rfl) ?_
                  refine lv_iadd hx hb dX10_plan_146 ?_
                  refine lv_iload hx hb dX10_plan_147 (lv_at hl 0 rfl) ?_
                  refine stM_32 C hd h.1 dX10_plan_149 (fun H locs hd => ?_)
                  replace h := h.2
                  refine lv_iinc (v := (x1 + (1 : Int32))) (lv' := [(1, .int (x1 + (1 : Int32))), (7, .int r_10), (6, .int ((k.2.1 5 x5.toNatClampNeg) - (97 : Int32))), (0, .ref o), (2, .int x2), (3, .int x3), (4, .int x4), (5, .int x5)]) hx hb dX10_plan_150 hl (k := 3) rfl rfl (by decide) rfl (fun ls hl => ?_)
                  refine lv_iconst (v := 0) hx hb dX10_plan_153 (by decide) ?_
                  refine lv_istore_n (lv' := [(2, .int (0 : Int32)), (1, .int (x1 + (1 : Int32))), (7, .int r_10), (6, .int ((k.2.1 5 x5.toNatClampNeg) - (97 : Int32))), (0, .ref o), (3, .int x3), (4, .int x4), (5, .int x5)]) hx hb dX10_plan_154 rfl hl (by decide) rfl (fun ls hl => ?_)
                  refine lv_iconst (v := 0) hx hb dX10_plan_155 (by decide) ?_
                  refine lv_istore_n (lv' := [(3, .int (0 : Int32)), (2, .int (0 : Int32)), (1, .int (x1 + (1 : Int32))), (7, .int r_10), (6, .int ((k.2.1 5 x5.toNatClampNeg) - (97 : Int32))), (0, .ref o), (4, .int x4), (5, .int x5)]) hx hb dX10_plan_156 rfl hl (by decide) rfl (fun ls hl => ?_)
                  refine lv_iinc (v := (x5 + (1 : Int32))) (lv' := [(5, .int (x5 + (1 : Int32))), (3, .int (0 : Int32)), (2, .int (0 : Int32)), (1, .int (x1 + (1 : Int32))), (7, .int r_10), (6, .int ((k.2.1 5 x5.toNatClampNeg) - (97 : Int32))), (0, .ref o), (4, .int x4)]) hx hb dX10_plan_157 hl (k := 7) rfl rfl (by decide) rfl (fun ls hl => ?_)
                  refine lv_goto (tgt := 24) hx hb dX10_plan_160 (by decide) ?_
                  exact (ih).1 (x1 + (1 : Int32)) (0 : Int32) (0 : Int32) x4 (x5 + (1 : Int32)) _ _ _ _ h hd (lv_sub hl [6, 3, 2, 1, 7, 0] rfl)
                · replace h := h.2 c_13
                  refine lv_iload_n hx hb dX10_plan_107 rfl (lv_at hl 4 rfl) ?_
                  refine lv_iconst (v := 1) hx hb dX10_plan_108 (by decide) ?_
                  refine lv_iload hx hb dX10_plan_109 (lv_at hl 1 rfl) ?_
                  refine lv_ishl hx hb dX10_plan_111 ?_
                  refine lv_ior hx hb dX10_plan_112 ?_
                  refine lv_topi (fun v_14 e_14 => ?_)
                  replace h := h v_14 e_14
                  refine lv_istore_n (lv' := [(2, .int v_14), (7, .int r_10), (6, .int ((k.2.1 5 x5.toNatClampNeg) - (97 : Int32))), (0, .ref o), (1, .int x1), (3, .int x3), (4, .int x4), (5, .int x5)]) hx hb dX10_plan_113 rfl hl (by decide) rfl (fun ls hl => ?_)
                  refine lv_iconst (v := 1) hx hb dX10_plan_114 (by decide) ?_
                  refine lv_istore_n (lv' := [(3, .int (1 : Int32)), (2, .int v_14), (7, .int r_10), (6, .int ((k.2.1 5 x5.toNatClampNeg) - (97 : Int32))), (0, .ref o), (1, .int x1), (4, .int x4), (5, .int x5)]) hx hb dX10_plan_115 rfl hl (by decide) rfl (fun ls hl => ?_)
                  refine lv_goto (tgt := 157) hx hb dX10_plan_116 (by decide) ?_
                  refine lv_iinc (v := (x5 + (1 : Int32))) (lv' := [(5, .int (x5 + (1 : Int32))), (3, .int (1 : Int32)), (2, .int v_14), (7, .int r_10), (6, .int ((k.2.1 5 x5.toNatClampNeg) - (97 : Int32))), (0, .ref o), (1, .int x1), (4, .int x4)]) hx hb dX10_plan_157 hl (k := 7) rfl rfl (by decide) rfl (fun ls hl => ?_)
                  refine lv_goto (tgt := 24) hx hb dX10_plan_160 (by decide) ?_
                  exact (ih).1 x1 v_14 (1 : Int32) x4 (x5 + (1 : Int32)) _ _ _ _ h hd (lv_sub hl [5, 6, 2, 1, 7, 0] rfl)
              · replace h := h.2 c_12
                refine lv_aload_n hx hb dX10_plan_75 rfl (lv_at hl 2 rfl) ?_
                refine lv_iload hx hb dX10_plan_76 (lv_at hl 1 rfl) ?_
                refine xv_z C hd kwRX10_X10_isOne (cM_isOne _ h) ⟨rfl, rfl⟩ ⟨by decide, by decide⟩ wM_rcv hl.1 rfl rfl (Nat.le_of_ble_eq_true rfl) ⟨Nat.zero_le _, Nat.zero_le _⟩ dX10_plan_78 (fun r_15 k_15 H locs hz_15 h hd => ?_)
                refine lv_if_eq (tgt := 94) hx hb dX10_plan_81 (by decide) (fun c_16 => ?_) (fun c_16 => ?_)
                · replace h := h.1 c_16
                  refine lv_iload hx hb dX10_plan_94 (lv_at hl 7 rfl) ?_
                  refine lv_istore (lv' := [(4, .int x5), (7, .int r_10), (6, .int ((k.2.1 5 x5.toNatClampNeg) - (97 : Int32))), (0, .ref o), (1, .int x1), (2, .int x2), (3, .int x3), (5, .int x5)]) hx hb dX10_plan_96 hl (by decide) rfl (fun ls hl => ?_)
                  refine lv_goto (tgt := 157) hx hb dX10_plan_98 (by decide) ?_
                  refine lv_iinc (v := (x5 + (1 : Int32))) (lv' := [(5, .int (x5 + (1 : Int32))), (4, .int x5), (7, .int r_10), (6, .int ((k.2.1 5 x5.toNatClampNeg) - (97 : Int32))), (0, .ref o), (1, .int x1), (2, .int x2), (3, .int x3)]) hx hb dX10_plan_157 hl (k := 7) rfl rfl (by decide) rfl (fun ls hl => ?_)
                  refine lv_goto (tgt := 24) hx hb dX10_plan_160 (by decide) ?_
                  exact (ih).1 x1 x2 x3 x5 (x5 + (1 : Int32)) _ _ _ _ h hd (lv_sub hl [4, 5, 6, 7, 1, 0] rfl)
                · replace h := h.2 c_16
                  refine lv_iload_n hx hb dX10_plan_84 rfl (lv_at hl 4 rfl) ?_
                  refine lv_iload hx hb dX10_plan_85 (lv_at hl 1 rfl) ?_
                  refine lv_ishr hx hb dX10_plan_87 ?_
                  refine lv_iconst (v := 1) hx hb dX10_plan_88 (by decide) ?_
                  refine lv_iand hx hb dX10_plan_89 ?_
                  refine lv_iconst (v := 1) hx hb dX10_plan_90 (by decide) ?_
                  refine lv_icmp_ne (tgt := 101) hx hb dX10_plan_91 (by decide) (fun c_17 => ?_) (fun c_17 => ?_)
                  · replace h := h.1 c_17
                    refine lv_iload hx hb dX10_plan_101 (lv_at hl 0 rfl) ?_
                    refine lv_iconst (v := -1) hx hb dX10_plan_103 (by decide) ?_
                    refine lv_icmp_ne (tgt := 119) hx hb dX10_plan_104 (by decide) (fun c_18 => ?_) (fun c_18 => ?_)
                    · replace h := h.1 c_18
                      refine lv_aload_n hx hb dX10_plan_119 rfl (lv_at hl 2 rfl) ?_
                      refine gM_31 C hd dX10_plan_120 ?_
                      refine lv_bipush (v := 24) hx hb dX10_plan_123 (by decide) ?_
                      refine lv_aload_n hx hb dX10_plan_125 rfl (lv_at hl 2 rfl) ?_
                      refine gM_33 C hd (v := k_15.1 33) rfl dX10_plan_126 ?_
                      refine lv_imul hx hb dX10_plan_129 ?_
                      refine lv_iload_n hx hb dX10_plan_130 rfl (lv_at hl 3 rfl) ?_
                      refine lv_iadd hx hb dX10_plan_131 ?_
                      refine lv_iload_n hx hb dX10_plan_132 rfl (lv_at hl 4 rfl) ?_
                      refine stM_31 C hd h.1 dX10_plan_133 (fun H locs hd => ?_)
                      replace h := h.2
                      refine lv_aload_n hx hb dX10_plan_134 rfl (lv_at hl 2 rfl) ?_
                      refine gM_32 C hd dX10_plan_135 ?_
                      refine lv_bipush (v := 24) hx hb dX10_plan_138 (by decide) ?_
                      refine lv_aload_n hx hb dX10_plan_140 rfl (lv_at hl 2 rfl) ?_
                      refine gM_33 C hd (v := k_15.1 33) rfl dX10_plan_141 ?_
                      refine lv_imul hx hb dX10_plan_144 ?_
                      refine lv_iload_n hx hb dX10_plan_145 rfl (lv_at hl 3 rfl) ?_
                      refine lv_iadd hx hb dX10_plan_146 ?_
                      refine lv_iload hx hb dX10_plan_147 (lv_at hl 0 rfl) ?_
                      refine stM_32 C hd h.1 dX10_plan_149 (fun H locs hd => ?_)
                      replace h := h.2
                      refine lv_iinc (v := (x1 + (1 : Int32))) (lv' := [(1, .int (x1 + (1 : Int32))), (7, .int r_10), (6, .int ((k.2.1 5 x5.toNatClampNeg) - (97 : Int32))), (0, .ref o), (2, .int x2), (3, .int x3), (4, .int x4), (5, .int x5)]) hx hb dX10_plan_150 hl (k := 3) rfl rfl (by decide) rfl (fun ls hl => ?_)
                      refine lv_iconst (v := 0) hx hb dX10_plan_153 (by decide) ?_
                      refine lv_istore_n (lv' := [(2, .int (0 : Int32)), (1, .int (x1 + (1 : Int32))), (7, .int r_10), (6, .int ((k.2.1 5 x5.toNatClampNeg) - (97 : Int32))), (0, .ref o), (3, .int x3), (4, .int x4), (5, .int x5)]) hx hb dX10_plan_154 rfl hl (by decide) rfl (fun ls hl => ?_)
                      refine lv_iconst (v := 0) hx hb dX10_plan_155 (by decide) ?_
                      refine lv_istore_n (lv' := [(3, .int (0 : Int32)), (2, .int (0 : Int32)), (1, .int (x1 + (1 : Int32))), (7, .int r_10), (6, .int ((k.2.1 5 x5.toNatClampNeg) - (97 : Int32))), (0, .ref o), (4, .int x4), (5, .int x5)]) hx hb dX10_plan_156 rfl hl (by decide) rfl (fun ls hl => ?_)
                      refine lv_iinc (v := (x5 + (1 : Int32))) (lv' := [(5, .int (x5 + (1 : Int32))), (3, .int (0 : Int32)), (2, .int (0 : Int32)), (1, .int (x1 + (1 : Int32))), (7, .int r_10), (6, .int ((k.2.1 5 x5.toNatClampNeg) - (97 : Int32))), (0, .ref o), (4, .int x4)]) hx hb dX10_plan_157 hl (k := 7) rfl rfl (by decide) rfl (fun ls hl => ?_)
                      refine lv_goto (tgt := 24) hx hb dX10_plan_160 (by decide) ?_
                      exact (ih).1 (x1 + (1 : Int32)) (0 : Int32) (0 : Int32) x4 (x5 + (1 : Int32)) _ _ _ _ h hd (lv_sub hl [6, 3, 2, 1, 7, 0] rfl)
                    · replace h := h.2 c_18
                      refine lv_iload_n hx hb dX10_plan_107 rfl (lv_at hl 4 rfl) ?_
                      refine lv_iconst (v := 1) hx hb dX10_plan_108 (by decide) ?_
                      refine lv_iload hx hb dX10_plan_109 (lv_at hl 1 rfl) ?_
                      refine lv_ishl hx hb dX10_plan_111 ?_
                      refine lv_ior hx hb dX10_plan_112 ?_
                      refine lv_topi (fun v_19 e_19 => ?_)
                      replace h := h v_19 e_19
                      refine lv_istore_n (lv' := [(2, .int v_19), (7, .int r_10), (6, .int ((k.2.1 5 x5.toNatClampNeg) - (97 : Int32))), (0, .ref o), (1, .int x1), (3, .int x3), (4, .int x4), (5, .int x5)]) hx hb dX10_plan_113 rfl hl (by decide) rfl (fun ls hl => ?_)
                      refine lv_iconst (v := 1) hx hb dX10_plan_114 (by decide) ?_
                      refine lv_istore_n (lv' := [(3, .int (1 : Int32)), (2, .int v_19), (7, .int r_10), (6, .int ((k.2.1 5 x5.toNatClampNeg) - (97 : Int32))), (0, .ref o), (1, .int x1), (4, .int x4), (5, .int x5)]) hx hb dX10_plan_115 rfl hl (by decide) rfl (fun ls hl => ?_)
                      refine lv_goto (tgt := 157) hx hb dX10_plan_116 (by decide) ?_
                      refine lv_iinc (v := (x5 + (1 : Int32))) (lv' := [(5, .int (x5 + (1 : Int32))), (3, .int (1 : Int32)), (2, .int v_19), (7, .int r_10), (6, .int ((k.2.1 5 x5.toNatClampNeg) - (97 : Int32))), (0, .ref o), (1, .int x1), (4, .int x4)]) hx hb dX10_plan_157 hl (k := 7) rfl rfl (by decide) rfl (fun ls hl => ?_)
                      refine lv_goto (tgt := 24) hx hb dX10_plan_160 (by decide) ?_
                      exact (ih).1 x1 v_19 (1 : Int32) x4 (x5 + (1 : Int32)) _ _ _ _ h hd (lv_sub hl [5, 6, 2, 1, 7, 0] rfl)
                  · replace h := h.2 c_17
                    refine lv_iload hx hb dX10_plan_94 (lv_at hl 7 rfl) ?_
                    refine lv_istore (lv' := [(4, .int x5), (7, .int r_10), (6, .int ((k.2.1 5 x5.toNatClampNeg) - (97 : Int32))), (0, .ref o), (1, .int x1), (2, .int x2), (3, .int x3), (5, .int x5)]) hx hb dX10_plan_96 hl (by decide) rfl (fun ls hl => ?_)
                    refine lv_goto (tgt := 157) hx hb dX10_plan_98 (by decide) ?_
                    refine lv_iinc (v := (x5 + (1 : Int32))) (lv' := [(5, .int (x5 + (1 : Int32))), (4, .int x5), (7, .int r_10), (6, .int ((k.2.1 5 x5.toNatClampNeg) - (97 : Int32))), (0, .ref o), (1, .int x1), (2, .int x2), (3, .int x3)]) hx hb dX10_plan_157 hl (k := 7) rfl rfl (by decide) rfl (fun ls hl => ?_)
                    refine lv_goto (tgt := 24) hx hb dX10_plan_160 (by decide) ?_
                    exact (ih).1 x1 x2 x3 x5 (x5 + (1 : Int32)) _ _ _ _ h hd (lv_sub hl [4, 5, 6, 7, 1, 0] rfl)
      · intro x1 x4 k H locs ls h hd hl
        replace h : ((x4 = (-1 : Int32) → (vp_in (k.1 33) 8 ∧ Qp (((k.1 33) + (1 : Int32)) - (1 : Int32)) (sI (sA (sI k 6 (0 : Int32)) 30 (upd (k.2.1 30) (k.1 33).toNatClampNeg x1)) 33 ((k.1 33) + (1 : Int32))))) ∧ (¬ x4 = (-1 : Int32) → Qp ((-100 : Int32) - x4) (sI k 6 (0 : Int32)))) := h
        refine lv_aload_n hx hb dX10_plan_183 rfl (lv_at hl 0 rfl) ?_
        refine lv_iconst (v := 0) hx hb dX10_plan_184 (by decide) ?_
        refine pM_6 C hd dX10_plan_185 (fun H locs hd => ?_)
        refine lv_iload hx hb dX10_plan_188 (lv_at hl 2 rfl) ?_
        refine lv_iconst (v := -1) hx hb dX10_plan_190 (by decide) ?_
        refine lv_icmp_eq (tgt := 200) hx hb dX10_plan_191 (by decide) (fun c_20 => ?_) (fun c_20 => ?_)
        · replace h := h.1 c_20
          refine lv_aload_n hx hb dX10_plan_200 rfl (lv_at hl 0 rfl) ?_
          refine gM_30 C hd dX10_plan_201 ?_
          refine lv_aload_n hx hb dX10_plan_204 rfl (lv_at hl 0 rfl) ?_
          refine gM_33 C hd (v := k.1 33) rfl dX10_plan_205 ?_
          refine lv_iload_n hx hb dX10_plan_208 rfl (lv_at hl 1 rfl) ?_
          refine stM_30 C hd h.1 dX10_plan_209 (fun H locs hd => ?_)
          replace h := h.2
          refine lv_aload_n hx hb dX10_plan_210 rfl (lv_at hl 0 rfl) ?_
          refine lv_dup hx hb dX10_plan_211 rfl ?_
          refine gM_33 C hd (v := k.1 33) rfl dX10_plan_212 ?_
          refine lv_iconst (v := 1) hx hb dX10_plan_215 (by decide) ?_
          refine lv_iadd hx hb dX10_plan_216 ?_
          refine pM_33 C hd dX10_plan_217 (fun H locs hd => ?_)
          refine lv_aload_n hx hb dX10_plan_220 rfl (lv_at hl 0 rfl) ?_
          refine gM_33 C hd (v := ((k.1 33) + (1 : Int32))) rfl dX10_plan_221 ?_
          refine lv_iconst (v := 1) hx hb dX10_plan_224 (by decide) ?_
          refine lv_isub hx hb dX10_plan_225 ?_
          exact ret hd h dX10_plan_226
        · replace h := h.2 c_20
          refine lv_bipush (v := -100) hx hb dX10_plan_194 (by decide) ?_
          refine lv_iload hx hb dX10_plan_196 (lv_at hl 2 rfl) ?_
          refine lv_isub hx hb dX10_plan_198 ?_
          exact ret hd h dX10_plan_199
  cases n with
  | zero => exact h.elim
  | succ n =>
    replace h : ((¬ (k.1 33) = (8 : Int32) → wM_plan n 1 (0 : Int32) (0 : Int32) (0 : Int32) (-1 : Int32) (0 : Int32) k Qp) ∧ ((k.1 33) = (8 : Int32) → Qp (-4 : Int32) k)) := h
    refine lv_aload_n hx hb dX10_plan_0 rfl (lv_at hl 0 rfl) ?_
    refine gM_33 C hd (v := k.1 33) rfl dX10_plan_1 ?_
    refine lv_bipush (v := 8) hx hb dX10_plan_4 (by decide) ?_
    refine lv_icmp_ne (tgt := 12) hx hb dX10_plan_6 (by decide) (fun c_1 => ?_) (fun c_1 => ?_)
    · replace h := h.1 c_1
      refine lv_iconst (v := 0) hx hb dX10_plan_12 (by decide) ?_
      refine lv_istore_n (lv' := [(1, .int (0 : Int32)), (0, .ref o)]) hx hb dX10_plan_13 rfl hl (by decide) rfl (fun ls hl => ?_)
      refine lv_iconst (v := 0) hx hb dX10_plan_14 (by decide) ?_
      refine lv_istore_n (lv' := [(2, .int (0 : Int32)), (1, .int (0 : Int32)), (0, .ref o)]) hx hb dX10_plan_15 rfl hl (by decide) rfl (fun ls hl => ?_)
      refine lv_iconst (v := 0) hx hb dX10_plan_16 (by decide) ?_
      refine lv_istore_n (lv' := [(3, .int (0 : Int32)), (2, .int (0 : Int32)), (1, .int (0 : Int32)), (0, .ref o)]) hx hb dX10_plan_17 rfl hl (by decide) rfl (fun ls hl => ?_)
      refine lv_iconst (v := -1) hx hb dX10_plan_18 (by decide) ?_
      refine lv_istore (lv' := [(4, .int (-1 : Int32)), (3, .int (0 : Int32)), (2, .int (0 : Int32)), (1, .int (0 : Int32)), (0, .ref o)]) hx hb dX10_plan_19 hl (by decide) rfl (fun ls hl => ?_)
      refine lv_iconst (v := 0) hx hb dX10_plan_21 (by decide) ?_
      refine lv_istore (lv' := [(5, .int (0 : Int32)), (4, .int (-1 : Int32)), (3, .int (0 : Int32)), (2, .int (0 : Int32)), (1, .int (0 : Int32)), (0, .ref o)]) hx hb dX10_plan_22 hl (by decide) rfl (fun ls hl => ?_)
      exact (L n).1 (0 : Int32) (0 : Int32) (0 : Int32) (-1 : Int32) (0 : Int32) _ _ _ _ h hd (lv_sub hl [5, 4, 3, 2, 1, 0] rfl)
    · replace h := h.2 c_1
      refine lv_bipush (v := -4) hx hb dX10_plan_9 (by decide) ?_
      exact ret hd h dX10_plan_11
