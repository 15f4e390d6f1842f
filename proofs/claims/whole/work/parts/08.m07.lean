def wM_planned (x1 : Int32) (x2 : Int32) (x3 : Int32) (k : GM) (Q : Int32 → GM → Prop) : Prop := (wM_isPlan x1 k (fun r_1 k_1 => ((r_1 = 0 → Q (-1 : Int32) k_1) ∧ (¬ r_1 = 0 → (vp_in x1 8 ∧ (wM_in x2.toInt64 (-1 : Int64) (((k_1.2.1 30 x1.toNatClampNeg) - (1 : Int32)).toInt64) k_1 (fun r_3 k_3 => ((¬ r_3 = 0 → ((¬ x2 = (-1 : Int32) → ((¬ x3 = 0 → ((¬ x3 = (1 : Int32) → Q (-1 : Int32) k_3) ∧ (x3 = (1 : Int32) → (vp_in (((24 : Int32) * x1) + x2) 192 ∧ Q (k_3.2.1 32 (((24 : Int32) * x1) + x2).toNatClampNeg) k_3)))) ∧ (x3 = 0 → (vp_in (((24 : Int32) * x1) + x2) 192 ∧ Q (k_3.2.1 31 (((24 : Int32) * x1) + x2).toNatClampNeg) k_3)))) ∧ (x2 = (-1 : Int32) → (vp_in x1 8 ∧ Q (k_3.2.1 30 x1.toNatClampNeg) k_3)))) ∧ (r_3 = 0 → Q (-1 : Int32) k_3)))))))))
set_option maxHeartbeats 4000000 in
set_option maxRecDepth 100000 in
theorem cM_planned {l : Launch} {D : va_G} {o : Nat} {a : Nat → Nat} {g : Nat → ClassId} {k : GM} {Qp : Int32 → GM → Prop} (x1 : Int32) (x2 : Int32) (x3 : Int32) (h : wM_planned x1 x2 x3 k Qp) : Ci l D (tyA g) (wM o a g) yX10_planned cX10_planned 4 ({ frames := 2, cells := 0, slots := 0, locals := 46 }) [.ref o, .int x1, .int x2, .int x3] k Qp := by
  refine Ci_of (by decide) (Nat.le_of_ble_eq_true rfl) ?_
  intro p e s m args below meth c A Z ls C ret hd hl
  have hx := C.1
  have hb := C.2.1
  have hl : lv_has ls 4 [(0, .ref o), (1, .int x1), (2, .int x2), (3, .int x3)] := hl
  replace h : (wM_isPlan x1 k (fun r_1 k_1 => ((r_1 = 0 → Qp (-1 : Int32) k_1) ∧ (¬ r_1 = 0 → (vp_in x1 8 ∧ (wM_in x2.toInt64 (-1 : Int64) (((k_1.2.1 30 x1.toNatClampNeg) - (1 : Int32)).toInt64) k_1 (fun r_3 k_3 => ((¬ r_3 = 0 → ((¬ x2 = (-1 : Int32) → ((¬ x3 = 0 → ((¬ x3 = (1 : Int32) → Qp (-1 : Int32) k_3) ∧ (x3 = (1 : Int32) → (vp_in (((24 : Int32) * x1) + x2) 192 ∧ Qp (k_3.2.1 32 (((24 : Int32) * x1) + x2).toNatClampNeg) k_3)))) ∧ (x3 = 0 → (vp_in (((24 : Int32) * x1) + x2) 192 ∧ Qp (k_3.2.1 31 (((24 : Int32) * x1) + x2).toNatClampNeg) k_3)))) ∧ (x2 = (-1 : Int32) → (vp_in x1 8 ∧ Qp (k_3.2.1 30 x1.toNatClampNeg) k_3)))) ∧ (r_3 = 0 → Qp (-1 : Int32) k_3))))))))) := h
  refine lv_aload_n hx hb dX10_planned_0 rfl (lv_at hl 0 rfl) ?_
  refine lv_iload_n hx hb dX10_planned_1 rfl (lv_at hl 1 rfl) ?_
  refine xv_z C hd kwRX10_X10_isPlan (cM_isPlan _ h) ⟨rfl, rfl⟩ ⟨by decide, by decide⟩ wM_rcv hl.1 rfl rfl (Nat.le_of_ble_eq_true rfl) ⟨Nat.zero_le _, Nat.zero_le _⟩ dX10_planned_2 (fun r_1 k_1 H locs hz_1 h hd => ?_)
  refine lv_if_eq (tgt := 28) hx hb dX10_planned_5 (by decide) (fun c_2 => ?_) (fun c_2 => ?_)
  · replace h := h.1 c_2
    refine lv_iconst (v := -1) hx hb dX10_planned_28 (by decide) ?_
    exact ret hd h dX10_planned_29
  · replace h := h.2 c_2
    refine lv_iload_n hx hb dX10_planned_8 rfl (lv_at hl 2 rfl) ?_
    refine lv_i2l (v := x2.toInt64) hx hb dX10_planned_9 rfl ?_
    refine lv_ldc2 (v := (-1 : Int64)) hx hb C.2.2.2.1 (C.2.2.2.2.1 _ q_1133) dX10_planned_10 ?_
    refine lv_aload_n hx hb dX10_planned_13 rfl (lv_at hl 0 rfl) ?_
    refine gM_30 C hd dX10_planned_14 ?_
    refine lv_iload_n hx hb dX10_planned_17 rfl (lv_at hl 1 rfl) ?_
    refine ldM_30 C hd (v := k_1.2.1 30 x1.toNatClampNeg) h.1 rfl dX10_planned_18 ?_
    replace h := h.2
    refine lv_iconst (v := 1) hx hb dX10_planned_19 (by decide) ?_
    refine lv_isub hx hb dX10_planned_20 ?_
    refine lv_i2l (v := ((k_1.2.1 30 x1.toNatClampNeg) - (1 : Int32)).toInt64) hx hb dX10_planned_21 rfl ?_
    refine xs_z C hd kwRX10_X10_in (cM_in _ _ _ h) ⟨rfl, rfl⟩ ⟨by decide, by decide⟩ hl.1 rfl rfl (Nat.le_of_ble_eq_true rfl) ⟨Nat.zero_le _, Nat.zero_le _⟩ dX10_planned_22 (fun r_3 k_3 H locs hz_3 h hd => ?_)
    refine lv_if_ne (tgt := 30) hx hb dX10_planned_25 (by decide) (fun c_4 => ?_) (fun c_4 => ?_)
    · replace h := h.1 c_4
      refine lv_iload_n hx hb dX10_planned_30 rfl (lv_at hl 2 rfl) ?_
      refine lv_iconst (v := -1) hx hb dX10_planned_31 (by decide) ?_
      refine lv_icmp_ne (tgt := 42) hx hb dX10_planned_32 (by decide) (fun c_5 => ?_) (fun c_5 => ?_)
      · replace h := h.1 c_5
        refine lv_iload_n hx hb dX10_planned_42 rfl (lv_at hl 3 rfl) ?_
        refine lv_if_ne (tgt := 60) hx hb dX10_planned_43 (by decide) (fun c_6 => ?_) (fun c_6 => ?_)
        · replace h := h.1 c_6
          refine lv_iload_n hx hb dX10_planned_60 rfl (lv_at hl 3 rfl) ?_
          refine lv_iconst (v := 1) hx hb dX10_planned_61 (by decide) ?_
          refine lv_icmp_ne (tgt := 79) hx hb dX10_planned_62 (by decide) (fun c_7 => ?_) (fun c_7 => ?_)
          · replace h := h.1 c_7
            refine lv_iconst (v := -1) hx hb dX10_planned_79 (by decide) ?_
            exact ret hd h dX10_planned_80
          · replace h := h.2 c_7
            refine lv_aload_n hx hb dX10_planned_65 rfl (lv_at hl 0 rfl) ?_
            refine gM_32 C hd dX10_planned_66 ?_
            refine lv_bipush (v := 24) hx hb dX10_planned_69 (by decide) ?_
            refine lv_iload_n hx hb dX10_planned_71 rfl (lv_at hl 1 rfl) ?_
            refine lv_imul hx hb dX10_planned_72 ?_
            refine lv_iload_n hx hb dX10_planned_73 rfl (lv_at hl 2 rfl) ?_
            refine lv_iadd hx hb dX10_planned_74 ?_
            refine ldM_32 C hd (v := k_3.2.1 32 (((24 : Int32) * x1) + x2).toNatClampNeg) h.1 rfl dX10_planned_75 ?_
            replace h := h.2
            refine lv_goto (tgt := 80) hx hb dX10_planned_76 (by decide) ?_
            exact ret hd h dX10_planned_80
        · replace h := h.2 c_6
          refine lv_aload_n hx hb dX10_planned_46 rfl (lv_at hl 0 rfl) ?_
          refine gM_31 C hd dX10_planned_47 ?_
          refine lv_bipush (v := 24) hx hb dX10_planned_50 (by decide) ?_
          refine lv_iload_n hx hb dX10_planned_52 rfl (lv_at hl 1 rfl) ?_
          refine lv_imul hx hb dX10_planned_53 ?_
          refine lv_iload_n hx hb dX10_planned_54 rfl (lv_at hl 2 rfl) ?_
          refine lv_iadd hx hb dX10_planned_55 ?_
          refine ldM_31 C hd (v := k_3.2.1 31 (((24 : Int32) * x1) + x2).toNatClampNeg) h.1 rfl dX10_planned_56 ?_
          replace h := h.2
          refine lv_goto (tgt := 80) hx hb dX10_planned_57 (by decide) ?_
          exact ret hd h dX10_planned_80
      · replace h := h.2 c_5
        refine lv_aload_n hx hb dX10_planned_35 rfl (lv_at hl 0 rfl) ?_
        refine gM_30 C hd dX10_planned_36 ?_
        refine lv_iload_n hx hb dX10_planned_39 rfl (lv_at hl 1 rfl) ?_
        refine ldM_30 C hd (v := k_3.2.1 30 x1.toNatClampNeg) h.1 rfl dX10_planned_40 ?_
        replace h := h.2
        exact ret hd h dX10_planned_41
    · replace h := h.2 c_4
      refine lv_iconst (v := -1) hx hb dX10_planned_28 (by decide) ?_
      exact ret hd h dX10_planned_29
def wM_rests  : Nat → Nat → Int32 → Int32 → Int32 → Int32 → Int32 → Int32 → GM → (Int32 → GM → Prop) → Prop
  | 0, _, _, _, _, _, _, _, _, _ => False
  | n + 1, c, x1, x2, x3, x4, x5, x6, k, Q => match c with
    | 0 => (wM_isPlan x1 k (fun r_1 k_1 => ((r_1 = 0 → Q (-2 : Int32) k_1) ∧ (¬ r_1 = 0 → (wM_in x2.toInt64 (0 : Int64) (100 : Int64) k_1 (fun r_3 k_3 => ((¬ r_3 = 0 → (∃ n_5 : Nat, wM_laysAside n_5 0 (0 : Int32) 0 k_3 (fun k_5 => wM_rests n 1 x1 x2 (-1 : Int32) (0 : Int32) 0 0 k_5 Q))) ∧ (r_3 = 0 → Q (-2 : Int32) k_3))))))))
    | 1 => ((x2 < x4 → (∃ n_7 : Nat, wM_laysBack n_7 0 0 k (fun k_7 => Q x3 k_7))) ∧ (¬ x2 < x4 → ((¬ x3 = (-1 : Int32) → (∃ n_9 : Nat, wM_laysBack n_9 0 0 k (fun k_9 => Q x3 k_9))) ∧ (x3 = (-1 : Int32) → wM_rests n 2 x1 x2 0 x4 (0 : Int32) 0 k Q))))
    | 2 => (((k.1 10) ≤ x5 → (∃ n_11 : Nat, wM_goesBy n_11 0 x1 (0 : Int32) 0 k (fun k_11 => wM_rests n 3 x1 x2 0 x4 (1 : Int32) (0 : Int32) k_11 Q))) ∧ (¬ (k.1 10) ≤ x5 → (vp_in x5 8 ∧ (vp_in x5 8 ∧ wM_rests n 2 x1 x2 0 x4 (x5 + (1 : Int32)) 0 (sA k 42 (upd (k.2.1 42) x5.toNatClampNeg (k.2.1 8 x5.toNatClampNeg))) Q))))
    | _ => (((k.1 10) ≤ x6 → ((x5 = 0 → wM_rests n 1 x1 x2 (-1 : Int32) (x4 + (1 : Int32)) 0 0 k Q) ∧ (¬ x5 = 0 → wM_rests n 1 x1 x2 x4 (x4 + (1 : Int32)) 0 0 k Q))) ∧ (¬ (k.1 10) ≤ x6 → ((x5 = 0 → wM_rests n 3 x1 x2 0 x4 (0 : Int32) (x6 + (1 : Int32)) k Q) ∧ (¬ x5 = 0 → (vp_in x6 8 ∧ (vp_in x6 8 ∧ ((¬ (k.2.1 42 x6.toNatClampNeg) = (k.2.1 8 x6.toNatClampNeg) → wM_rests n 3 x1 x2 0 x4 (0 : Int32) (x6 + (1 : Int32)) k Q) ∧ ((k.2.1 42 x6.toNatClampNeg) = (k.2.1 8 x6.toNatClampNeg) → wM_rests n 3 x1 x2 0 x4 (1 : Int32) (x6 + (1 : Int32)) k Q))))))))
set_option maxHeartbeats 4000000 in
set_option maxRecDepth 100000 in
theorem cM_rests {l : Launch} {D : va_G} {o : Nat} {a : Nat → Nat} {g : Nat → ClassId} {k : GM} {Qp : Int32 → GM → Prop} (n : Nat) (x1 : Int32) (x2 : Int32) (h : wM_rests n 0 x1 x2 0 0 0 0 k Qp) : Ci l D (tyA g) (wM o a g) yX10_rests cX10_rests 7 ({ frames := 62, cells := 0, slots := 0, locals := 2301 }) [.ref o, .int x1, .int x2] k Qp := by
  refine Ci_of (by decide) (Nat.le_of_ble_eq_true rfl) ?_
  intro p e s m args below meth c A Z ls C ret hd hl
  have hx := C.1
  have hb := C.2.1
  have hl : lv_has ls 7 [(0, .ref o), (1, .int x1), (2, .int x2)] := hl
  have L : ∀ n : Nat, (∀ (x1 : Int32) (x2 : Int32) (x3 : Int32) (x4 : Int32) (k : GM) (H : Heap) (locs : List Loc) (ls : Array Slot), wM_rests n 1 x1 x2 x3 x4 0 0 k Qp → Hd D (wM o a g k) A s H locs → lv_has ls 7 [(0, .ref o), (1, .int x1), (2, .int x2), (3, .int x3), (4, .int x4)] → W p l e ({ frames := 62, cells := 0, slots := 0, locals := 2301 }) s m args below meth c H locs 0 0 Z (F0 m 33 ls [])) ∧ (∀ (x1 : Int32) (x2 : Int32) (x4 : Int32) (x5 : Int32) (k : GM) (H : Heap) (locs : List Loc) (ls : Array Slot), wM_rests n 2 x1 x2 0 x4 x5 0 k Qp → Hd D (wM o a g k) A s H locs → lv_has ls 7 [(0, .ref o), (1, .int x1), (2, .int x2), (4, .int x4), (5, .int x5)] → W p l e ({ frames := 62, cells := 0, slots := 0, locals := 2301 }) s m args below meth c H locs 0 0 Z (F0 m 47 ls [])) ∧ (∀ (x1 : Int32) (x2 : Int32) (x4 : Int32) (x5 : Int32) (x6 : Int32) (k : GM) (H : Heap) (locs : List Loc) (ls : Array Slot), wM_rests n 3 x1 x2 0 x4 x5 x6 k Qp → Hd D (wM o a g k) A s H locs → lv_has ls 7 [(0, .ref o), (1, .int x1), (2, .int x2), (4, .int x4), (5, .int x5), (6, .int x6)] → W p l e ({ frames := 62, cells := 0, slots := 0, locals := 2301 }) s m args below meth c H locs 0 0 Z (F0 m 88 ls [])) := by
    intro n
    induction n with
    | zero => exact ⟨fun _ _ _ _ _ _ _ _ h => h.elim, fun _ _ _ _ _ _ _ _ h => h.elim, fun _ _ _ _ _ _ _ _ _ h => h.elim⟩
    | succ n ih =>
      refine ⟨?_, ?_, ?_⟩
      · intro x1 x2 x3 x4 k H locs ls h hd hl
        replace h : ((x2 < x4 → (∃ n_7 : Nat, wM_laysBack n_7 0 0 k (fun k_7 => Qp x3 k_7))) ∧ (¬ x2 < x4 → ((¬ x3 = (-1 : Int32) → (∃ n_9 : Nat, wM_laysBack n_9 0 0 k (fun k_9 => Qp x3 k_9))) ∧ (x3 = (-1 : Int32) → wM_rests n 2 x1 x2 0 x4 (0 : Int32) 0 k Qp)))) := h
        refine lv_iload hx hb dX10_rests_33 (lv_at hl 4 rfl) ?_
        refine lv_iload_n hx hb dX10_rests_35 rfl (lv_at hl 2 rfl) ?_
        refine lv_icmp_gt (tgt := 150) hx hb dX10_rests_36 (by decide) (fun c_6 => ?_) (fun c_6 => ?_)
        · replace h := h.1 c_6
          refine lv_aload_n hx hb dX10_rests_150 rfl (lv_at hl 0 rfl) ?_
          obtain ⟨n_7, h⟩ := h
          refine xv_v C hd kwRX10_X10_laysBack (cM_laysBack n_7 h) ⟨rfl, rfl⟩ ⟨by decide, by decide⟩ wM_rcv hl.1 rfl rfl (Nat.le_of_ble_eq_true rfl) ⟨Nat.zero_le _, Nat.zero_le _⟩ dX10_rests_151 (fun k_7 H locs h hd => ?_)
          refine lv_iload_n hx hb dX10_rests_154 rfl (lv_at hl 3 rfl) ?_
          exact ret hd h dX10_rests_155
        · replace h := h.2 c_6
          refine lv_iload_n hx hb dX10_rests_39 rfl (lv_at hl 3 rfl) ?_
          refine lv_iconst (v := -1) hx hb dX10_rests_40 (by decide) ?_
          refine lv_icmp_ne (tgt := 150) hx hb dX10_rests_41 (by decide) (fun c_8 => ?_) (fun c_8 => ?_)
          · replace h := h.1 c_8
            refine lv_aload_n hx hb dX10_rests_150 rfl (lv_at hl 0 rfl) ?_
            obtain ⟨n_9, h⟩ := h
            refine xv_v C hd kwRX10_X10_laysBack (cM_laysBack n_9 h) ⟨rfl, rfl⟩ ⟨by decide, by decide⟩ wM_rcv hl.1 rfl rfl (Nat.le_of_ble_eq_true rfl) ⟨Nat.zero_le _, Nat.zero_le _⟩ dX10_rests_151 (fun k_9 H locs h hd => ?_)
            refine lv_iload_n hx hb dX10_rests_154 rfl (lv_at hl 3 rfl) ?_
            exact ret hd h dX10_rests_155
          · replace h := h.2 c_8
            refine lv_iconst (v := 0) hx hb dX10_rests_44 (by decide) ?_
            refine lv_istore (lv' := [(5, .int (0 : Int32)), (0, .ref o), (1, .int x1), (2, .int x2), (3, .int x3), (4, .int x4)]) hx hb dX10_rests_45 hl (by decide) rfl (fun ls hl => ?_)
            exact (ih).2.1 x1 x2 x4 (0 : Int32) _ _ _ _ h hd (lv_sub hl [1, 2, 3, 5, 0] rfl)
      · intro x1 x2 x4 x5 k H locs ls h hd hl
        replace h : (((k.1 10) ≤ x5 → (∃ n_11 : Nat, wM_goesBy n_11 0 x1 (0 : Int32) 0 k (fun k_11 => wM_rests n 3 x1 x2 0 x4 (1 : Int32) (0 : Int32) k_11 Qp))) ∧ (¬ (k.1 10) ≤ x5 → (vp_in x5 8 ∧ (vp_in x5 8 ∧ wM_rests n 2 x1 x2 0 x4 (x5 + (1 : Int32)) 0 (sA k 42 (upd (k.2.1 42) x5.toNatClampNeg (k.2.1 8 x5.toNatClampNeg))) Qp)))) := h
        refine lv_iload hx hb dX10_rests_47 (lv_at hl 4 rfl) ?_
        refine lv_aload_n hx hb dX10_rests_49 rfl (lv_at hl 0 rfl) ?_
        refine gM_10 C hd (v := k.1 10) rfl dX10_rests_50 ?_
        refine lv_icmp_ge (tgt := 76) hx hb dX10_rests_53 (by decide) (fun c_10 => ?_) (fun c_10 => ?_)
        · replace h := h.1 c_10
          refine lv_aload_n hx hb dX10_rests_76 rfl (lv_at hl 0 rfl) ?_
          refine lv_iload_n hx hb dX10_rests_77 rfl (lv_at hl 1 rfl) ?_
          refine lv_iconst (v := 0) hx hb dX10_rests_78 (by decide) ?_
          obtain ⟨n_11, h⟩ := h
          refine xv_v C hd kwRX10_X10_goesBy (cM_goesBy n_11 _ _ h) ⟨rfl, rfl⟩ ⟨by decide, by decide⟩ wM_rcv hl.1 rfl rfl (Nat.le_of_ble_eq_true rfl) ⟨Nat.zero_le _, Nat.zero_le _⟩ dX10_rests_79 (fun k_11 H locs h hd => ?_)
          refine lv_iconst (v := 1) hx hb dX10_rests_82 (by decide) ?_
          refine lv_istore (lv' := [(5, .int (1 : Int32)), (0, .ref o), (1, .int x1), (2, .int x2), (4, .int x4)]) hx hb dX10_rests_83 hl (by decide) rfl (fun ls hl => ?_)
          refine lv_iconst (v := 0) hx hb dX10_rests_85 (by decide) ?_
          refine lv_istore (lv' := [(6, .int (0 : Int32)), (5, .int (1 : Int32)), (0, .ref o), (1, .int x1), (2, .int x2), (4, .int x4)]) hx hb dX10_rests_86 hl (by decide) rfl (fun ls hl => ?_)
          exact (ih).2.2 x1 x2 x4 (1 : Int32) (0 : Int32) _ _ _ _ h hd (lv_sub hl [2, 3, 4, 5, 1, 0] rfl)
        · replace h := h.2 c_10
          refine lv_aload_n hx hb dX10_rests_56 rfl (lv_at hl 0 rfl) ?_
          refine gM_42 C hd dX10_rests_57 ?_
          refine lv_iload hx hb dX10_rests_60 (lv_at hl 4 rfl) ?_
          refine lv_aload_n hx hb dX10_rests_62 rfl (lv_at hl 0 rfl) ?_
          refine gM_8 C hd dX10_rests_63 ?_
          refine lv_iload hx hb dX10_rests_66 (lv_at hl 4 rfl) ?_
          refine ldM_8 C hd (v := k.2.1 8 x5.toNatClampNeg) h.1 rfl dX10_rests_68 ?_
          replace h := h.2
          refine stM_42 C hd h.1 dX10_rests_69 (fun H locs hd => ?_)
          replace h := h.2
          refine lv_iinc (v := (x5 + (1 : Int32))) (lv' := [(5, .int (x5 + (1 : Int32))), (0, .ref o), (1, .int x1), (2, .int x2), (4, .int x4)]) hx hb dX10_rests_70 hl (k := 4) rfl rfl (by decide) rfl (fun ls hl => ?_)
          refine lv_goto (tgt := 47) hx hb dX10_rests_73 (by decide) ?_
          exact (ih).2.1 x1 x2 x4 (x5 + (1 : Int32)) _ _ _ _ h hd (lv_sub hl [1, 2, 3, 4, 0] rfl)
      · intro x1 x2 x4 x5 x6 k H locs ls h hd hl
        replace h : (((k.1 10) ≤ x6 → ((x5 = 0 → wM_rests n 1 x1 x2 (-1 : Int32) (x4 + (1 : Int32)) 0 0 k Qp) ∧ (¬ x5 = 0 → wM_rests n 1 x1 x2 x4 (x4 + (1 : Int32)) 0 0 k Qp))) ∧ (¬ (k.1 10) ≤ x6 → ((x5 = 0 → wM_rests n 3 x1 x2 0 x4 (0 : Int32) (x6 + (1 : Int32)) k Qp) ∧ (¬ x5 = 0 → (vp_in x6 8 ∧ (vp_in x6 8 ∧ ((¬ (k.2.1 42 x6.toNatClampNeg) = (k.2.1 8 x6.toNatClampNeg) → wM_rests n 3 x1 x2 0 x4 (0 : Int32) (x6 + (1 : Int32)) k Qp) ∧ ((k.2.1 42 x6.toNatClampNeg) = (k.2.1 8 x6.toNatClampNeg) → wM_rests n 3 x1 x2 0 x4 (1 : Int32) (x6 + (1 : Int32)) k Qp)))))))) := h
        refine lv_iload hx hb dX10_rests_88 (lv_at hl 5 rfl) ?_
        refine lv_aload_n hx hb dX10_rests_90 rfl (lv_at hl 0 rfl) ?_
        refine gM_10 C hd (v := k.1 10) rfl dX10_rests_91 ?_
        refine lv_icmp_ge (tgt := 132) hx hb dX10_rests_94 (by decide) (fun c_12 => ?_) (fun c_12 => ?_)
        · replace h := h.1 c_12
          refine lv_iload hx hb dX10_rests_132 (lv_at hl 4 rfl) ?_
          refine lv_if_eq (tgt := 142) hx hb dX10_rests_134 (by decide) (fun c_13 => ?_) (fun c_13 => ?_)
          · replace h := h.1 c_13
            refine lv_iconst (v := -1) hx hb dX10_rests_142 (by decide) ?_
            refine lv_istore_n (lv' := [(3, .int (-1 : Int32)), (0, .ref o), (1, .int x1), (2, .int x2), (4, .int x4), (5, .int x5), (6, .int x6)]) hx hb dX10_rests_143 rfl hl (by decide) rfl (fun ls hl => ?_)
            refine lv_iinc (v := (x4 + (1 : Int32))) (lv' := [(4, .int (x4 + (1 : Int32))), (3, .int (-1 : Int32)), (0, .ref o), (1, .int x1), (2, .int x2), (5, .int x5), (6, .int x6)]) hx hb dX10_rests_144 hl (k := 4) rfl rfl (by decide) rfl (fun ls hl => ?_)
            refine lv_goto (tgt := 33) hx hb dX10_rests_147 (by decide) ?_
            exact (ih).1 x1 x2 (-1 : Int32) (x4 + (1 : Int32)) _ _ _ _ h hd (lv_sub hl [2, 3, 4, 1, 0] rfl)
          · replace h := h.2 c_13
            refine lv_iload hx hb dX10_rests_137 (lv_at hl 3 rfl) ?_
            refine lv_goto (tgt := 143) hx hb dX10_rests_139 (by decide) ?_
            refine lv_istore_n (lv' := [(3, .int x4), (0, .ref o), (1, .int x1), (2, .int x2), (4, .int x4), (5, .int x5), (6, .int x6)]) hx hb dX10_rests_143 rfl hl (by decide) rfl (fun ls hl => ?_)
            refine lv_iinc (v := (x4 + (1 : Int32))) (lv' := [(4, .int (x4 + (1 : Int32))), (3, .int x4), (0, .ref o), (1, .int x1), (2, .int x2), (5, .int x5), (6, .int x6)]) hx hb dX10_rests_144 hl (k := 4) rfl rfl (by decide) rfl (fun ls hl => ?_)
            refine lv_goto (tgt := 33) hx hb dX10_rests_147 (by decide) ?_
            exact (ih).1 x1 x2 x4 (x4 + (1 : Int32)) _ _ _ _ h hd (lv_sub hl [2, 3, 4, 1, 0] rfl)
        · replace h := h.2 c_12
          refine lv_iload hx hb dX10_rests_97 (lv_at hl 4 rfl) ?_
          refine lv_if_eq (tgt := 123) hx hb dX10_rests_99 (by decide) (fun c_14 => ?_) (fun c_14 => ?_)
          · replace h := h.1 c_14
            refine lv_iconst (v := 0) hx hb dX10_rests_123 (by decide) ?_
            refine lv_istore (lv' := [(5, .int (0 : Int32)), (0, .ref o), (1, .int x1), (2, .int x2), (4, .int x4), (6, .int x6)]) hx hb dX10_rests_124 hl (by decide) rfl (fun ls hl => ?_)
            refine lv_iinc (v := (x6 + (1 : Int32))) (lv' := [(6, .int (x6 + (1 : Int32))), (5, .int (0 : Int32)), (0, .ref o), (1, .int x1), (2, .int x2), (4, .int x4)]) hx hb dX10_rests_126 hl (k := 5) rfl rfl (by decide) rfl (fun ls hl => ?_)
            refine lv_goto (tgt := 88) hx hb dX10_rests_129 (by decide) ?_
            exact (ih).2.2 x1 x2 x4 (0 : Int32) (x6 + (1 : Int32)) _ _ _ _ h hd (lv_sub hl [2, 3, 4, 5, 1, 0] rfl)
          · replace h := h.2 c_14
            refine lv_aload_n hx hb dX10_rests_102 rfl (lv_at hl 0 rfl) ?_
            refine gM_42 C hd dX10_rests_103 ?_
            refine lv_iload hx hb dX10_rests_106 (lv_at hl 5 rfl) ?_
            refine ldM_42 C hd (v := k.2.1 42 x6.toNatClampNeg) h.1 rfl dX10_rests_108 ?_
            replace h := h.2
            refine lv_aload_n hx hb dX10_rests_109 rfl (lv_at hl 0 rfl) ?_
            refine gM_8 C hd dX10_rests_110 ?_
            refine lv_iload hx hb dX10_rests_113 (lv_at hl 5 rfl) ?_
            refine ldM_8 C hd (v := k.2.1 8 x6.toNatClampNeg) h.1 rfl dX10_rests_115 ?_
            replace h := h.2
            refine lv_icmp_ne (tgt := 123) hx hb dX10_rests_116 (by decide) (fun c_15 => ?_) (fun c_15 => ?_)
            · replace h := h.1 c_15
              refine lv_iconst (v := 0) hx hb dX10_rests_123 (by decide) ?_
              refine lv_istore (lv' := [(5, .int (0 : Int32)), (0, .ref o), (1, .int x1), (2, .int x2), (4, .int x4), (6, .int x6)]) hx hb dX10_rests_124 hl (by decide) rfl (fun ls hl => ?_)
              refine lv_iinc (v := (x6 + (1 : Int32))) (lv' := [(6, .int (x6 + (1 : Int32))), (5, .int (0 : Int32)), (0, .ref o), (1, .int x1), (2, .int x2), (4, .int x4)]) hx hb dX10_rests_126 hl (k := 5) rfl rfl (by decide) rfl (fun ls hl => ?_)
              refine lv_goto (tgt := 88) hx hb dX10_rests_129 (by decide) ?_
              exact (ih).2.2 x1 x2 x4 (0 : Int32) (x6 + (1 : Int32)) _ _ _ _ h hd (lv_sub hl [2, 3, 4, 5, 1, 0] rfl)
            · replace h := h.2 c_15
              refine lv_iconst (v := 1) hx hb dX10_rests_119 (by decide) ?_
              refine lv_goto (tgt := 124) hx hb dX10_rests_120 (by decide) ?_
              refine lv_istore (lv' := [(5, .int (1 : Int32)), (0, .ref o), (1, .int x1), (2, .int x2), (4, .int x4), (6, .int x6)]) hx hb dX10_rests_124 hl (by decide) rfl (fun ls hl => ?_)
              refine lv_iinc (v := (x6 + (1 : Int32))) (lv' := [(6, .int (x6 + (1 : Int32))), (5, .int (1 : Int32)), (0, .ref o), (1, .int x1), (2, .int x2), (4, .int x4)]) hx hb dX10_rests_126 hl (k := 5) rfl rfl (by decide) rfl (fun ls hl => ?_)
              refine lv_goto (tgt := 88) hx hb dX10_rests_129 (by decide) ?_
              exact (ih).2.2 x1 x2 x4 (1 : Int32) (x6 + (1 : Int32)) _ _ _ _ h hd (lv_sub hl [2, 3, 4, 5, 1, 0] rfl)
  cases n with
  | zero => exact h.elim
  | succ n =>
    replace h : (wM_isPlan x1 k (fun r_1 k_1 => ((r_1 = 0 → Qp (-2 : Int32) k_1) ∧ (¬ r_1 = 0 → (wM_in x2.toInt64 (0 : Int64) (100 : Int64) k_1 (fun r_3 k_3 => ((¬ r_3 = 0 → (∃ n_5 : Nat, wM_laysAside n_5 0 (0 : Int32) 0 k_3 (fun k_5 => wM_rests n 1 x1 x2 (-1 : Int32) (0 : Int32) 0 0 k_5 Qp))) ∧ (r_3 = 0 → Qp (-2 : Int32) k_3)))))))) := h
    refine lv_aload_n hx hb dX10_rests_0 rfl (lv_at hl 0 rfl) ?_
    refine lv_iload_n hx hb dX10_rests_1 rfl (lv_at hl 1 rfl) ?_
    refine xv_z C hd kwRX10_X10_isPlan (cM_isPlan _ h) ⟨rfl, rfl⟩ ⟨by decide, by decide⟩ wM_rcv hl.1 rfl rfl (Nat.le_of_ble_eq_true rfl) ⟨Nat.zero_le _, Nat.zero_le _⟩ dX10_rests_2 (fun r_1 k_1 H locs hz_1 h hd => ?_)
    refine lv_if_eq (tgt := 20) hx hb dX10_rests_5 (by decide) (fun c_2 => ?_) (fun c_2 => ?_)
    · replace h := h.1 c_2
      refine lv_bipush (v := -2) hx hb dX10_rests_20 (by decide) ?_
      exact ret hd h dX10_rests_22
    · replace h := h.2 c_2
      refine lv_iload_n hx hb dX10_rests_8 rfl (lv_at hl 2 rfl) ?_
      refine lv_i2l (v := x2.toInt64) hx hb dX10_rests_9 rfl ?_
      refine lv_lconst (v := 0) hx hb dX10_rests_10 (by decide) ?_
      refine lv_ldc2 (v := (100 : Int64)) hx hb C.2.2.2.1 (C.2.2.2.2.1 _ q_1213) dX10_rests_11 ?_
      refine xs_z C hd kwRX10_X10_in (cM_in _ _ _ h) ⟨rfl, rfl⟩ ⟨by decide, by decide⟩ hl.1 rfl rfl (Nat.le_of_ble_eq_true rfl) ⟨Nat.zero_le _, Nat.zero_le _⟩ dX10_rests_14 (fun r_3 k_3 H locs hz_3 h hd => ?_)
      refine lv_if_ne (tgt := 23) hx hb dX10_rests_17 (by decide) (fun c_4 => ?_) (fun c_4 => ?_)
      · replace h := h.1 c_4
        refine lv_aload_n hx hb dX10_rests_23 rfl (lv_at hl 0 rfl) ?_
        refine lv_iconst (v := 0) hx hb dX10_rests_24 (by decide) ?_
        obtain ⟨n_5, h⟩ := h
        refine xv_v C hd kwRX10_X10_laysAside (cM_laysAside n_5 _ h) ⟨rfl, rfl⟩ ⟨by decide, by decide⟩ wM_rcv hl.1 rfl rfl (Nat.le_of_ble_eq_true rfl) ⟨Nat.zero_le _, Nat.zero_le _⟩ dX10_rests_25 (fun k_5 H locs h hd => ?_)
        refine lv_iconst (v := -1) hx hb dX10_rests_28 (by decide) ?_
        refine lv_istore_n (lv' := [(3, .int (-1 : Int32)), (0, .ref o), (1, .int x1), (2, .int x2)]) hx hb dX10_rests_29 rfl hl (by decide) rfl (fun ls hl => ?_)
        refine lv_iconst (v := 0) hx hb dX10_rests_30 (by decide) ?_
        refine lv_istore (lv' := [(4, .int (0 : Int32)), (3, .int (-1 : Int32)), (0, .ref o), (1, .int x1), (2, .int x2)]) hx hb dX10_rests_31 hl (by decide) rfl (fun ls hl => ?_)
        exact (L n).1 x1 x2 (-1 : Int32) (0 : Int32) _ _ _ _ h hd (lv_sub hl [2, 3, 4, 1, 0] rfl)
      · replace h := h.2 c_4
        refine lv_bipush (v := -2) hx hb dX10_rests_20 (by decide) ?_
        exact ret hd h dX10_rests_22
def wM_sheet  : Nat → Nat → Int32 → Int32 → Int32 → Int32 → GM → (Int32 → GM → Prop) → Prop
  | 0, _, _, _, _, _, _, _ => False
  | n + 1, c, x1, x2, x3, x4, k, Q => match c with
    | 0 => (wM_isSheet x1 k (fun r_1 k_1 => ((r_1 = 0 → Q (-2 : Int32) k_1) ∧ (¬ r_1 = 0 → (wM_in x2.toInt64 (-1 : Int64) (2 : Int64) k_1 (fun r_3 k_3 => ((r_3 = 0 → Q (-2 : Int32) k_3) ∧ (¬ r_3 = 0 → ((x2 < 0 → ((x2 < 0 → wM_sheet n 1 x1 x2 x3 0 k_3 Q) ∧ (¬ x2 < 0 → ((0 ≤ x3 → wM_sheet n 1 x1 x2 x3 0 k_3 Q) ∧ (¬ 0 ≤ x3 → Q (-14 : Int32) k_3))))) ∧ (¬ x2 < 0 → ((x3 ≤ (40 : Int32) → ((x2 < 0 → wM_sheet n 1 x1 x2 x3 0 k_3 Q) ∧ (¬ x2 < 0 → ((0 ≤ x3 → wM_sheet n 1 x1 x2 x3 0 k_3 Q) ∧ (¬ 0 ≤ x3 → Q (-14 : Int32) k_3))))) ∧ (¬ x3 ≤ (40 : Int32) → Q (-2 : Int32) k_3))))))))))))
    | 1 => ((x2 < 0 → (vp_in x1 4 ∧ (vp_in x1 4 ∧ (vp_in x1 4 ∧ wM_sheet n 2 x1 x2 x3 (0 : Int32) (sA (sA (sA k 61 (upd (k.2.1 61) x1.toNatClampNeg (vp_nar .boolean (0 : Int32)))) 62 (upd (k.2.1 62) x1.toNatClampNeg x2)) 63 (upd (k.2.1 63) x1.toNatClampNeg x3)) Q)))) ∧ (¬ x2 < 0 → (vp_in x1 4 ∧ (vp_in x1 4 ∧ (vp_in x1 4 ∧ wM_sheet n 2 x1 x2 x3 (0 : Int32) (sA (sA (sA k 61 (upd (k.2.1 61) x1.toNatClampNeg (vp_nar .boolean (1 : Int32)))) 62 (upd (k.2.1 62) x1.toNatClampNeg x2)) 63 (upd (k.2.1 63) x1.toNatClampNeg x3)) Q)))))
    | _ => ((x3 ≤ x4 → Q (1 : Int32) k) ∧ (¬ x3 ≤ x4 → ((x2 < 0 → Q (1 : Int32) k) ∧ (¬ x2 < 0 → (vp_in (((40 : Int32) * x1) + x4) 160 ∧ wM_sheet n 2 x1 x2 x3 (x4 + (1 : Int32)) (sA k 64 (upd (k.2.1 64) (((40 : Int32) * x1) + x4).toNatClampNeg (0 : Int32))) Q)))))
set_option maxHeartbeats 4000000 in
set_option maxRecDepth 100000 in
theorem cM_sheet {l : Launch} {D : va_G} {o : Nat} {a : Nat → Nat} {g : Nat → ClassId} {k : GM} {Qp : Int32 → GM → Prop} (n : Nat) (x1 : Int32) (x2 : Int32) (x3 : Int32) (h : wM_sheet n 0 x1 x2 x3 0 k Qp) : Ci l D (tyA g) (wM o a g) yX10_sheet cX10_sheet 5 ({ frames := 2, cells := 0, slots := 0, locals := 45 }) [.ref o, .int x1, .int x2, .int x3] k Qp := by
  refine Ci_of (by decide) (Nat.le_of_ble_eq_true rfl) ?_
  intro p e s m args below meth c A Z ls C ret hd hl
  have hx := C.1
  have hb := C.2.1
  have hl : lv_has ls 5 [(0, .ref o), (1, .int x1), (2, .int x2), (3, .int x3)] := hl
  have L : ∀ n : Nat, (∀ (x1 : Int32) (x2 : Int32) (x3 : Int32) (k : GM) (H : Heap) (locs : List Loc) (ls : Array Slot), wM_sheet n 1 x1 x2 x3 0 k Qp → Hd D (wM o a g k) A s H locs → lv_has ls 5 [(0, .ref o), (1, .int x1), (2, .int x2), (3, .int x3)] → W p l e ({ frames := 2, cells := 0, slots := 0, locals := 45 }) s m args below meth c H locs 0 0 Z (F0 m 45 ls [])) ∧ (∀ (x1 : Int32) (x2 : Int32) (x3 : Int32) (x4 : Int32) (k : GM) (H : Heap) (locs : List Loc) (ls : Array Slot), wM_sheet n 2 x1 x2 x3 x4 k Qp → Hd D (wM o a g k) A s H locs → lv_has ls 5 [(0, .ref o), (1, .int x1), (2, .int x2), (3, .int x3), (4, .int x4)] → W p l e ({ frames := 2, cells := 0, slots := 0, locals := 45 }) s m args below meth c H locs 0 0 Z (F0 m 77 ls [])) := by
    intro n
    induction n with
    | zero => exact ⟨fun _ _ _ _ _ _ _ h => h.elim, fun _ _ _ _ _ _ _ _ h => h.elim⟩
    | succ n ih =>
      refine ⟨?_, ?_⟩
      · intro x1 x2 x3 k H locs ls h hd hl
        replace h : ((x2 < 0 → (vp_in x1 4 ∧ (vp_in x1 4 ∧ (vp_in x1 4 ∧ wM_sheet n 2 x1 x2 x3 (0 : Int32) (sA (sA (sA k 61 (upd (k.2.1 61) x1.toNatClampNeg (vp_nar .boolean (0 : Int32)))) 62 (upd (k.2.1 62) x1.toNatClampNeg x2)) 63 (upd (k.2.1 63) x1.toNatClampNeg x3)) Qp)))) ∧ (¬ x2 < 0 → (vp_in x1 4 ∧ (vp_in x1 4 ∧ (vp_in x1 4 ∧ wM_sheet n 2 x1 x2 x3 (0 : Int32) (sA (sA (sA k 61 (upd (k.2.1 61) x1.toNatClampNeg (vp_nar .boolean (1 : Int32)))) 62 (upd (k.2.1 62) x1.toNatClampNeg x2)) 63 (upd (k.2.1 63) x1.toNatClampNeg x3)) Qp))))) := h
        refine lv_aload_n hx hb dX10_sheet_45 rfl (lv_at hl 0 rfl) ?_
        refine gM_61 C hd dX10_sheet_46 ?_
        refine lv_iload_n hx hb dX10_sheet_49 rfl (lv_at hl 1 rfl) ?_
        refine lv_iload_n hx hb dX10_sheet_50 rfl (lv_at hl 2 rfl) ?_
        refine lv_if_lt (tgt := 58) hx hb dX10_sheet_51 (by decide) (fun c_11 => ?_) (fun c_11 => ?_)
        · replace h := h.1 c_11
          refine lv_iconst (v := 0) hx hb dX10_sheet_58 (by decide) ?_
          refine stM_61 C hd h.1 dX10_sheet_59 (fun H locs hd => ?_)
          replace h := h.2
          refine lv_aload_n hx hb dX10_sheet_60 rfl (lv_at hl 0 rfl) ?_
          refine gM_62 C hd dX10_sheet_61 ?_
          refine lv_iload_n hx hb dX10_sheet_64 rfl (lv_at hl 1 rfl) ?_
          refine lv_iload_n hx hb dX10_sheet_65 rfl (lv_at hl 2 rfl) ?_
          refine stM_62 C hd h.1 dX10_sheet_66 (fun H locs hd => ?_)
          replace h := h.2
          refine lv_aload_n hx hb dX10_sheet_67 rfl (lv_at hl 0 rfl) ?_
          refine gM_63 C hd dX10_sheet_68 ?_
          refine lv_iload_n hx hb dX10_sheet_71 rfl (lv_at hl 1 rfl) ?_
          refine lv_iload_n hx hb dX10_sheet_72 rfl (lv_at hl 3 rfl) ?_
          refine stM_63 C hd h.1 dX10_sheet_73 (fun H locs hd => ?_)
          replace h := h.2
          refine lv_iconst (v := 0) hx hb dX10_sheet_74 (by decide) ?_
          refine lv_istore (lv' := [(4, .int (0 : Int32)), (0, .ref o), (1, .int x1), (2, .int x2), (3, .int x3)]) hx hb dX10_sheet_75 hl (by decide) rfl (fun ls hl => ?_)
          exact (ih).2 x1 x2 x3 (0 : Int32) _ _ _ _ h hd (lv_sub hl [1, 2, 3, 4, 0] rfl)
        · replace h := h.2 c_11
          refine lv_iconst (v := 1) hx hb dX10_sheet_54 (by decide) ?_
          refine lv_goto (tgt := 59) hx hb dX10_sheet_55 (by decide) ?_
          refine stM_61 C hd h.1 dX10_sheet_59 (fun H locs hd => ?_)
          replace h := h.2
          refine lv_aload_n hx hb dX10_sheet_60 rfl (lv_at hl 0 rfl) ?_
          refine gM_62 C hd dX10_sheet_61 ?_
          refine lv_iload_n hx hb dX10_sheet_64 rfl (lv_at hl 1 rfl) ?_
          refine lv_iload_n hx hb dX10_sheet_65 rfl (lv_at hl 2 rfl) ?_
          refine stM_62 C hd h.1 dX10_sheet_66 (fun H locs hd => ?_)
          replace h := h.2
          refine lv_aload_n hx hb dX10_sheet_67 rfl (lv_at hl 0 rfl) ?_
          refine gM_63 C hd dX10_sheet_68 ?_
          refine lv_iload_n hx hb dX10_sheet_71 rfl (lv_at hl 1 rfl) ?_
          refine lv_iload_n hx hb dX10_sheet_72 rfl (lv_at hl 3 rfl) ?_
          refine stM_63 C hd h.1 dX10_sheet_73 (fun H locs hd => ?_)
          replace h := h.2
          refine lv_iconst (v := 0) hx hb dX10_sheet_74 (by decide) ?_
          refine lv_istore (lv' := [(4, .int (0 : Int32)), (0, .ref o), (1, .int x1), (2, .int x2), (3, .int x3)]) hx hb dX10_sheet_75 hl (by decide) rfl (fun ls hl => ?_)
          exact (ih).2 x1 x2 x3 (0 : Int32) _ _ _ _ h hd (lv_sub hl [1, 2, 3, 4, 0] rfl)
      · intro x1 x2 x3 x4 k H locs ls h hd hl
        replace h : ((x3 ≤ x4 → Qp (1 : Int32) k) ∧ (¬ x3 ≤ x4 → ((x2 < 0 → Qp (1 : Int32) k) ∧ (¬ x2 < 0 → (vp_in (((40 : Int32) * x1) + x4) 160 ∧ wM_sheet n 2 x1 x2 x3 (x4 + (1 : Int32)) (sA k 64 (upd (k.2.1 64) (((40 : Int32) * x1) + x4).toNatClampNeg (0 : Int32))) Qp))))) := h
        refine lv_iload hx hb dX10_sheet_77 (lv_at hl 4 rfl) ?_
        refine lv_iload_n hx hb dX10_sheet_79 rfl (lv_at hl 3 rfl) ?_
        refine lv_icmp_ge (tgt := 106) hx hb dX10_sheet_80 (by decide) (fun c_12 => ?_) (fun c_12 => ?_)
        · replace h := h.1 c_12
          refine lv_iconst (v := 1) hx hb dX10_sheet_106 (by decide) ?_
          exact ret hd h dX10_sheet_107
        · replace h := h.2 c_12
          refine lv_iload_n hx hb dX10_sheet_83 rfl (lv_at hl 2 rfl) ?_
          refine lv_if_lt (tgt := 106) hx hb dX10_sheet_84 (by decide) (fun c_13 => ?_) (fun c_13 => ?_)
          · replace h := h.1 c_13
            refine lv_iconst (v := 1) hx hb dX10_sheet_106 (by decide) ?_
            exact ret hd h dX10_sheet_107
          · replace h := h.2 c_13
            refine lv_aload_n hx hb dX10_sheet_87 rfl (lv_at hl 0 rfl) ?_
            refine gM_64 C hd dX10_sheet_88 ?_
            refine lv_bipush (v := 40) hx hb dX10_sheet_91 (by decide) ?_
            refine lv_iload_n hx hb dX10_sheet_93 rfl (lv_at hl 1 rfl) ?_
            refine lv_imul hx hb dX10_sheet_94 ?_
            refine lv_iload hx hb dX10_sheet_95 (lv_at hl 4 rfl) ?_
            refine lv_iadd hx hb dX10_sheet_97 ?_
            refine lv_iconst (v := 0) hx hb dX10_sheet_98 (by decide) ?_
            refine stM_64 C hd h.1 dX10_sheet_99 (fun H locs hd => ?_)
            replace h := h.2
            refine lv_iinc (v := (x4 + (1 : Int32))) (lv' := [(4, .int (x4 + (1 : Int32))), (0, .ref o), (1, .int x1), (2, .int x2), (3, .int x3)]) hx hb dX10_sheet_100 hl (k := 4) rfl rfl (by decide) rfl (fun ls hl => ?_)
            refine lv_goto (tgt := 77) hx hb dX10_sheet_103 (by decide) ?_
            exact (ih).2 x1 x2 x3 (x4 + (1 : Int32)) _ _ _ _ h hd (lv_sub hl [1, 2, 3, 4, 0] rfl)
  cases n with
  | zero => exact h.elim
  | succ n =>
    replace h : (wM_isSheet x1 k (fun r_1 k_1 => ((r_1 = 0 → Qp (-2 : Int32) k_1) ∧ (¬ r_1 = 0 → (wM_in x2.toInt64 (-1 : Int64) (2 : Int64) k_1 (fun r_3 k_3 => ((r_3 = 0 → Qp (-2 : Int32) k_3) ∧ (¬ r_3 = 0 → ((x2 < 0 → ((x2 < 0 → wM_sheet n 1 x1 x2 x3 0 k_3 Qp) ∧ (¬ x2 < 0 → ((0 ≤ x3 → wM_sheet n 1 x1 x2 x3 0 k_3 Qp) ∧ (¬ 0 ≤ x3 → Qp (-14 : Int32) k_3))))) ∧ (¬ x2 < 0 → ((x3 ≤ (40 : Int32) → ((x2 < 0 → wM_sheet n 1 x1 x2 x3 0 k_3 Qp) ∧ (¬ x2 < 0 → ((0 ≤ x3 → wM_sheet n 1 x1 x2 x3 0 k_3 Qp) ∧ (¬ 0 ≤ x3 → Qp (-14 : Int32) k_3))))) ∧ (¬ x3 ≤ (40 : Int32) → Qp (-2 : Int32) k_3)))))))))))) := h
    refine lv_iload_n hx hb dX10_sheet_0 rfl (lv_at hl 1 rfl) ?_
    refine xs_z C hd kwRX10_X10_isSheet (cM_isSheet _ h) ⟨rfl, rfl⟩ ⟨by decide, by decide⟩ hl.1 rfl rfl (Nat.le_of_ble_eq_true rfl) ⟨Nat.zero_le _, Nat.zero_le _⟩ dX10_sheet_1 (fun r_1 k_1 H locs hz_1 h hd => ?_)
    refine lv_if_eq (tgt := 31) hx hb dX10_sheet_4 (by decide) (fun c_2 => ?_) (fun c_2 => ?_)
    · replace h := h.1 c_2
      refine lv_bipush (v := -2) hx hb dX10_sheet_31 (by decide) ?_
      exact ret hd h dX10_sheet_33
    · replace h := h.2 c_2
      refine lv_iload_n hx hb dX10_sheet_7 rfl (lv_at hl 2 rfl) ?_
      refine lv_i2l (v := x2.toInt64) hx hb dX10_sheet_8 rfl ?_
      refine lv_ldc2 (v := (-1 : Int64)) hx hb C.2.2.2.1 (C.2.2.2.2.1 _ q_1133) dX10_sheet_9 ?_
      refine lv_ldc2 (v := (2 : Int64)) hx hb C.2.2.2.1 (C.2.2.2.2.1 _ q_1331) dX10_sheet_12 ?_
      refine xs_z C hd kwRX10_X10_in (cM_in _ _ _ h) ⟨rfl, rfl⟩ ⟨by decide, by decide⟩ hl.1 rfl rfl (Nat.le_of_ble_eq_true rfl) ⟨Nat.zero_le _, Nat.zero_le _⟩ dX10_sheet_15 (fun r_3 k_3 H locs hz_3 h hd => ?_)
      refine lv_if_eq (tgt := 31) hx hb dX10_sheet_18 (by decide) (fun c_4 => ?_) (fun c_4 => ?_)
      · replace h := h.1 c_4
        refine lv_bipush (v := -2) hx hb dX10_sheet_31 (by decide) ?_
        exact ret hd h dX10_sheet_33
      · replace h := h.2 c_4
        refine lv_iload_n hx hb dX10_sheet_21 rfl (lv_at hl 2 rfl) ?_
        refine lv_if_lt (tgt := 34) hx hb dX10_sheet_22 (by decide) (fun c_5 => ?_) (fun c_5 => ?_)
        · replace h := h.1 c_5
          refine lv_iload_n hx hb dX10_sheet_34 rfl (lv_at hl 2 rfl) ?_
          refine lv_if_lt (tgt := 45) hx hb dX10_sheet_35 (by decide) (fun c_6 => ?_) (fun c_6 => ?_)
          · replace h := h.1 c_6
            exact (L n).1 x1 x2 x3 _ _ _ _ h hd (lv_sub hl [0, 1, 2, 3] rfl)
          · replace h := h.2 c_6
            refine lv_iload_n hx hb dX10_sheet_38 rfl (lv_at hl 3 rfl) ?_
            refine lv_if_ge (tgt := 45) hx hb dX10_sheet_39 (by decide) (fun c_7 => ?_) (fun c_7 => ?_)
            · replace h := h.1 c_7
              exact (L n).1 x1 x2 x3 _ _ _ _ h hd (lv_sub hl [0, 1, 2, 3] rfl)
            · replace h := h.2 c_7
              refine lv_bipush (v := -14) hx hb dX10_sheet_42 (by decide) ?_
              exact ret hd h dX10_sheet_44
        · replace h := h.2 c_5
          refine lv_iload_n hx hb dX10_sheet_25 rfl (lv_at hl 3 rfl) ?_
          refine lv_bipush (v := 40) hx hb dX10_sheet_26 (by decide) ?_
          refine lv_icmp_le (tgt := 34) hx hb dX10_sheet_28 (by decide) (fun c_8 => ?_) (fun c_8 => ?_)
          · replace h := h.1 c_8
            refine lv_iload_n hx hb dX10_sheet_34 rfl (lv_at hl 2 rfl) ?_
            refine lv_if_lt (tgt := 45) hx hb dX10_sheet_35 (by decide) (fun c_9 => ?_) (fun c_9 => ?_)
            · replace h := h.1 c_9
              exact (L n).1 x1 x2 x3 _ _ _ _ h hd (lv_sub hl [0, 1, 2, 3] rfl)
            · replace h := h.2 c_9
              refine lv_iload_n hx hb dX10_sheet_38 rfl (lv_at hl 3 rfl) ?_
              refine lv_if_ge (tgt := 45) hx hb dX10_sheet_39 (by decide) (fun c_10 => ?_) (fun c_10 => ?_)
              · replace h := h.1 c_10
                exact (L n).1 x1 x2 x3 _ _ _ _ h hd (lv_sub hl [0, 1, 2, 3] rfl)
              · replace h := h.2 c_10
                refine lv_bipush (v := -14) hx hb dX10_sheet_42 (by decide) ?_
                exact ret hd h dX10_sheet_44
          · replace h := h.2 c_8
            refine lv_bipush (v := -2) hx hb dX10_sheet_31 (by decide) ?_
            exact ret hd h dX10_sheet_33
def wM_sign (x1 : Int32) (k : GM) (Q : Int32 → GM → Prop) : Prop := (wM_in x1.toInt64 (0 : Int64) (5 : Int64) k (fun r_1 k_1 => ((¬ r_1 = 0 → ((¬ (k_1.1 10) = (8 : Int32) → (vp_in (k_1.1 10) 8 ∧ (vp_in (k_1.1 10) 8 ∧ (vp_in (k_1.1 10) 8 ∧ Q (((k_1.1 10) + (1 : Int32)) - (1 : Int32)) (sI (sA (sA (sA k_1 7 (upd (k_1.2.1 7) (k_1.1 10).toNatClampNeg x1)) 8 (upd (k_1.2.1 8) (k_1.1 10).toNatClampNeg (0 : Int32))) 9 (upd (k_1.2.1 9) (k_1.1 10).toNatClampNeg (0 : Int32))) 10 ((k_1.1 10) + (1 : Int32))))))) ∧ ((k_1.1 10) = (8 : Int32) → Q (-4 : Int32) k_1))) ∧ (r_1 = 0 → Q (-2 : Int32) k_1))))
set_option maxHeartbeats 4000000 in
set_option maxRecDepth 100000 in
theorem cM_sign {l : Launch} {D : va_G} {o : Nat} {a : Nat → Nat} {g : Nat → ClassId} {k : GM} {Qp : Int32 → GM → Prop} (x1 : Int32) (h : wM_sign x1 k Qp) : Ci l D (tyA g) (wM o a g) yX10_sign cX10_sign 2 ({ frames := 1, cells := 0, slots := 0, locals := 25 }) [.ref o, .int x1] k Qp := by
  refine Ci_of (by decide) (Nat.le_of_ble_eq_true rfl) ?_
  intro p e s m args below meth c A Z ls C ret hd hl
  have hx := C.1
  have hb := C.2.1
  have hl : lv_has ls 2 [(0, .ref o), (1, .int x1)] := hl
  replace h : (wM_in x1.toInt64 (0 : Int64) (5 : Int64) k (fun r_1 k_1 => ((¬ r_1 = 0 → ((¬ (k_1.1 10) = (8 : Int32) → (vp_in (k_1.1 10) 8 ∧ (vp_in (k_1.1 10) 8 ∧ (vp_in (k_1.1 10) 8 ∧ Qp (((k_1.1 10) + (1 : Int32)) - (1 : Int32)) (sI (sA (sA (sA k_1 7 (upd (k_1.2.1 7) (k_1.1 10).toNatClampNeg x1)) 8 (upd (k_1.2.1 8) (k_1.1 10).toNatClampNeg (0 : Int32))) 9 (upd (k_1.2.1 9) (k_1.1 10).toNatClampNeg (0 : Int32))) 10 ((k_1.1 10) + (1 : Int32))))))) ∧ ((k_1.1 10) = (8 : Int32) → Qp (-4 : Int32) k_1))) ∧ (r_1 = 0 → Qp (-2 : Int32) k_1)))) := h
  refine lv_iload_n hx hb dX10_sign_0 rfl (lv_at hl 1 rfl) ?_
  refine lv_i2l (v := x1.toInt64) hx hb dX10_sign_1 rfl ?_
  refine lv_lconst (v := 0) hx hb dX10_sign_2 (by decide) ?_
  refine lv_ldc2 (v := (5 : Int64)) hx hb C.2.2.2.1 (C.2.2.2.2.1 _ q_1096) dX10_sign_3 ?_
  refine xs_z C hd kwRX10_X10_in (cM_in _ _ _ h) ⟨rfl, rfl⟩ ⟨by decide, by decide⟩ hl.1 rfl rfl (Nat.le_of_ble_eq_true rfl) ⟨Nat.zero_le _, Nat.zero_le _⟩ dX10_sign_6 (fun r_1 k_1 H locs hz_1 h hd => ?_)
  refine lv_if_ne (tgt := 15) hx hb dX10_sign_9 (by decide) (fun c_2 => ?_) (fun c_2 => ?_)
  · replace h := h.1 c_2
    refine lv_aload_n hx hb dX10_sign_15 rfl (lv_at hl 0 rfl) ?_
    refine gM_10 C hd (v := k_1.1 10) rfl dX10_sign_16 ?_
    refine lv_bipush (v := 8) hx hb dX10_sign_19 (by decide) ?_
    refine lv_icmp_ne (tgt := 27) hx hb dX10_sign_21 (by decide) (fun c_3 => ?_) (fun c_3 => ?_)
    · replace h := h.1 c_3
      refine lv_aload_n hx hb dX10_sign_27 rfl (lv_at hl 0 rfl) ?_
      refine gM_7 C hd dX10_sign_28 ?_
      refine lv_aload_n hx hb dX10_sign_31 rfl (lv_at hl 0 rfl) ?_
      refine gM_10 C hd (v := k_1.1 10) rfl dX10_sign_32 ?_
      refine lv_iload_n hx hb dX10_sign_35 rfl (lv_at hl 1 rfl) ?_
      refine stM_7 C hd h.1 dX10_sign_36 (fun H locs hd => ?_)
      replace h := h.2
      refine lv_aload_n hx hb dX10_sign_37 rfl (lv_at hl 0 rfl) ?_
      refine gM_8 C hd dX10_sign_38 ?_
      refine lv_aload_n hx hb dX10_sign_41 rfl (lv_at hl 0 rfl) ?_
      refine gM_10 C hd (v := k_1.1 10) rfl dX10_sign_42 ?_
      refine lv_iconst (v := 0) hx hb dX10_sign_45 (by decide) ?_
      refine stM_8 C hd h.1 dX10_sign_46 (fun H locs hd => ?_)
      replace h := h.2
      refine lv_aload_n hx hb dX10_sign_47 rfl (lv_at hl 0 rfl) ?_
      refine gM_9 C hd dX10_sign_48 ?_
      refine lv_aload_n hx hb dX10_sign_51 rfl (lv_at hl 0 rfl) ?_
      refine gM_10 C hd (v := k_1.1 10) rfl dX10_sign_52 ?_
      refine lv_iconst (v := 0) hx hb dX10_sign_55 (by decide) ?_
      refine stM_9 C hd h.1 dX10_sign_56 (fun H locs hd => ?_)
      replace h := h.2
      refine lv_aload_n hx hb dX10_sign_57 rfl (lv_at hl 0 rfl) ?_
      refine lv_dup hx hb dX10_sign_58 rfl ?_
      refine gM_10 C hd (v := k_1.1 10) rfl dX10_sign_59 ?_
      refine lv_iconst (v := 1) hx hb dX10_sign_62 (by decide) ?_
      refine lv_iadd hx hb dX10_sign_63 ?_
      refine pM_10 C hd dX10_sign_64 (fun H locs hd => ?_)
      refine lv_aload_n hx hb dX10_sign_67 rfl (lv_at hl 0 rfl) ?_
      refine gM_10 C hd (v := ((k_1.1 10) + (1 : Int32))) rfl dX10_sign_68 ?_
      refine lv_iconst (v := 1) hx hb dX10_sign_71 (by decide) ?_
      refine lv_isub hx hb dX10_sign_72 ?_
      exact ret hd h dX10_sign_73
    · replace h := h.2 c_3
      refine lv_bipush (v := -4) hx hb dX10_sign_24 (by decide) ?_
      exact ret hd h dX10_sign_26
  · replace h := h.2 c_2
    refine lv_bipush (v := -2) hx hb dX10_sign_12 (by decide) ?_
    exact ret hd h dX10_sign_14
def wM_spell  : Nat → Nat → Int32 → Int64 → Int32 → GM → (GM → Prop) → Prop
  | 0, _, _, _, _, _, _ => False
  | n + 1, c, x1, x2l, x4, k, Q => match c with
    | 0 => wM_spell n 1 x1 x2l (0 : Int32) k Q
    | _ => (((8 : Int32) ≤ x4 → Q k) ∧ (¬ (8 : Int32) ≤ x4 → (vp_in (x1 + x4) 960 ∧ wM_spell n 1 x1 x2l (x4 + (1 : Int32)) (sA k 1 (upd (k.2.1 1) (x1 + x4).toNatClampNeg (((x2l >>> (((56 : Int32) - ((8 : Int32) * x4)).toInt64 &&& 63)) &&& (255 : Int64)).toInt32))) Q)))
set_option maxHeartbeats 4000000 in
set_option maxRecDepth 100000 in
theorem cM_spell {l : Launch} {D : va_G} {o : Nat} {a : Nat → Nat} {g : Nat → ClassId} {k : GM} {Qp : GM → Prop} (n : Nat) (x1 : Int32) (x2l : Int64) (h : wM_spell n 0 x1 x2l 0 k Qp) : Cv l D (tyA g) (wM o a g) yX10_spell cX10_spell 5 ({ frames := 0, cells := 0, slots := 0, locals := 0 }) [.ref o, .int x1, .long x2l] k Qp := by
  refine Cv_of (by decide) (Nat.le_of_ble_eq_true rfl) ?_
  intro p e s m args below meth c A Z ls C ret hd hl
  have hx := C.1
  have hb := C.2.1
  have hl : lv_has ls 5 [(0, .ref o), (1, .int x1), (2, .long x2l)] := hl
  have L : ∀ n : Nat, (∀ (x1 : Int32) (x2l : Int64) (x4 : Int32) (k : GM) (H : Heap) (locs : List Loc) (ls : Array Slot), wM_spell n 1 x1 x2l x4 k Qp → Hd D (wM o a g k) A s H locs → lv_has ls 5 [(0, .ref o), (1, .int x1), (2, .long x2l), (4, .int x4)] → W p l e ({ frames := 0, cells := 0, slots := 0, locals := 0 }) s m args below meth c H locs 0 0 Z (F0 m 3 ls [])) := by
    intro n
    induction n with
    | zero => exact fun _ _ _ _ _ _ _ h => h.elim
    | succ n ih =>
      intro x1 x2l x4 k H locs ls h hd hl
      replace h : (((8 : Int32) ≤ x4 → Qp k) ∧ (¬ (8 : Int32) ≤ x4 → (vp_in (x1 + x4) 960 ∧ wM_spell n 1 x1 x2l (x4 + (1 : Int32)) (sA k 1 (upd (k.2.1 1) (x1 + x4).toNatClampNeg (((x2l >>> (((56 : Int32) - ((8 : Int32) * x4)).toInt64 &&& 63)) &&& (255 : Int64)).toInt32))) Qp))) := h
      refine lv_iload hx hb dX10_spell_3 (lv_at hl 3 rfl) ?_
      refine lv_bipush (v := 8) hx hb dX10_spell_5 (by decide) ?_
      refine lv_icmp_ge (tgt := 40) hx hb dX10_spell_7 (by decide) (fun c_1 => ?_) (fun c_1 => ?_)
      · replace h := h.1 c_1
        exact ret hd h dX10_spell_40
      · replace h := h.2 c_1
        refine lv_aload_n hx hb dX10_spell_10 rfl (lv_at hl 0 rfl) ?_
        refine gM_1 C hd dX10_spell_11 ?_
        refine lv_iload_n hx hb dX10_spell_14 rfl (lv_at hl 1 rfl) ?_
        refine lv_iload hx hb dX10_spell_15 (lv_at hl 3 rfl) ?_
        refine lv_iadd hx hb dX10_spell_17 ?_
        refine lv_lload_n hx hb dX10_spell_18 rfl (lv_at hl 2 rfl) ?_
        refine lv_bipush (v := 56) hx hb dX10_spell_19 (by decide) ?_
        refine lv_bipush (v := 8) hx hb dX10_spell_21 (by decide) ?_
        refine lv_iload hx hb dX10_spell_23 (lv_at hl 3 rfl) ?_
        refine lv_imul hx hb dX10_spell_25 ?_
        refine lv_isub hx hb dX10_spell_26 ?_
        refine lv_lshr hx hb dX10_spell_27 rfl ?_
        refine lv_ldc2 (v := (255 : Int64)) hx hb C.2.2.2.1 (C.2.2.2.2.1 _ q_892) dX10_spell_28 ?_
        refine lv_land hx hb dX10_spell_31 ?_
        refine lv_l2i (v := ((x2l >>> (((56 : Int32) - ((8 : Int32) * x4)).toInt64 &&& 63)) &&& (255 : Int64)).toInt32) hx hb dX10_spell_32 rfl ?_
        refine stM_1 C hd h.1 dX10_spell_33 (fun H locs hd => ?_)
        replace h := h.2
        refine lv_iinc (v := (x4 + (1 : Int32))) (lv' := [(4, .int (x4 + (1 : Int32))), (0, .ref o), (1, .int x1), (2, .long x2l)]) hx hb dX10_spell_34 hl (k := 3) rfl rfl (by decide) rfl (fun ls hl => ?_)
        refine lv_goto (tgt := 3) hx hb dX10_spell_37 (by decide) ?_
        exact ih x1 x2l (x4 + (1 : Int32)) _ _ _ _ h hd (lv_sub hl [1, 2, 3, 0] rfl)
  cases n with
  | zero => exact h.elim
  | succ n =>
    replace h : wM_spell n 1 x1 x2l (0 : Int32) k Qp := h
    refine lv_iconst (v := 0) hx hb dX10_spell_0 (by decide) ?_
    refine lv_istore (lv' := [(4, .int (0 : Int32)), (0, .ref o), (1, .int x1), (2, .long x2l)]) hx hb dX10_spell_1 hl (by decide) rfl (fun ls hl => ?_)
    exact L n x1 x2l (0 : Int32) _ _ _ _ h hd (lv_sub hl [1, 2, 3, 0] rfl)
def wM_sum (x1 : Int32) (x2 : Int32) (k : GM) (Q : Int64 → GM → Prop) : Prop := (wM_isSet x1 k (fun r_1 k_1 => ((r_1 = 0 → Q (-4611686018427387904 : Int64) k_1) ∧ (¬ r_1 = 0 → (wM_in x2.toInt64 (0 : Int64) (1 : Int64) k_1 (fun r_3 k_3 => ((¬ r_3 = 0 → ((¬ x2 = 0 → (wM_dropsOf x1 k_3 (fun r_6 k_6 => Q r_6.toInt64 k_6))) ∧ (x2 = 0 → (∃ n_7 : Nat, wM_sumOf n_7 0 x1 0 0 0 k_3 (fun r_7 k_7 => Q r_7.toInt64 k_7))))) ∧ (r_3 = 0 → Q (-4611686018427387904 : Int64) k_3))))))))
set_option maxHeartbeats 4000000 in
set_option maxRecDepth 100000 in
theorem cM_sum {l : Launch} {D : va_G} {o : Nat} {a : Nat → Nat} {g : Nat → ClassId} {k : GM} {Qp : Int64 → GM → Prop} (x1 : Int32) (x2 : Int32) (h : wM_sum x1 x2 k Qp) : Cl l D (tyA g) (wM o a g) yX10_sum cX10_sum 3 ({ frames := 60, cells := 0, slots := 0, locals := 2255 }) [.ref o, .int x1, .int x2] k Qp := by
  refine Cl_of (by decide) (Nat.le_of_ble_eq_true rfl) ?_
  intro p e s m args below meth c A Z ls C ret hd hl
  have hx := C.1
  have hb := C.2.1
  have hl : lv_has ls 3 [(0, .ref o), (1, .int x1), (2, .int x2)] := hl
  replace h : (wM_isSet x1 k (fun r_1 k_1 => ((r_1 = 0 → Qp (-4611686018427387904 : Int64) k_1) ∧ (¬ r_1 = 0 → (wM_in x2.toInt64 (0 : Int64) (1 : Int64) k_1 (fun r_3 k_3 => ((¬ r_3 = 0 → ((¬ x2 = 0 → (wM_dropsOf x1 k_3 (fun r_6 k_6 => Qp r_6.toInt64 k_6))) ∧ (x2 = 0 → (∃ n_7 : Nat, wM_sumOf n_7 0 x1 0 0 0 k_3 (fun r_7 k_7 => Qp r_7.toInt64 k_7))))) ∧ (r_3 = 0 → Qp (-4611686018427387904 : Int64) k_3)))))))) := h
  refine lv_aload_n hx hb dX10_sum_0 rfl (lv_at hl 0 rfl) ?_
  refine lv_iload_n hx hb dX10_sum_1 rfl (lv_at hl 1 rfl) ?_
  refine xv_z C hd kwRX10_X10_isSet (cM_isSet _ h) ⟨rfl, rfl⟩ ⟨by decide, by decide⟩ wM_rcv hl.1 rfl rfl (Nat.le_of_ble_eq_true rfl) ⟨Nat.zero_le _, Nat.zero_le _⟩ dX10_sum_2 (fun r_1 k_1 H locs hz_1 h hd => ?_)
  refine lv_if_eq (tgt := 18) hx hb dX10_sum_5 (by decide) (fun c_2 => ?_) (fun c_2 => ?_)
  · replace h := h.1 c_2
    refine lv_ldc2 (v := (-4611686018427387904 : Int64)) hx hb C.2.2.2.1 (C.2.2.2.2.1 _ q_1108) dX10_sum_18 ?_
    exact ret hd h dX10_sum_21
  · replace h := h.2 c_2
    refine lv_iload_n hx hb dX10_sum_8 rfl (lv_at hl 2 rfl) ?_
    refine lv_i2l (v := x2.toInt64) hx hb dX10_sum_9 rfl ?_
    refine lv_lconst (v := 0) hx hb dX10_sum_10 (by decide) ?_
    refine lv_lconst (v := 1) hx hb dX10_sum_11 (by decide) ?_
    refine xs_z C hd kwRX10_X10_in (cM_in _ _ _ h) ⟨rfl, rfl⟩ ⟨by decide, by decide⟩ hl.1 rfl rfl (Nat.le_of_ble_eq_true rfl) ⟨Nat.zero_le _, Nat.zero_le _⟩ dX10_sum_12 (fun r_3 k_3 H locs hz_3 h hd => ?_)
    refine lv_if_ne (tgt := 22) hx hb dX10_sum_15 (by decide) (fun c_4 => ?_) (fun c_4 => ?_)
    · replace h := h.1 c_4
      refine lv_iload_n hx hb dX10_sum_22 rfl (lv_at hl 2 rfl) ?_
      refine lv_if_ne (tgt := 35) hx hb dX10_sum_23 (by decide) (fun c_5 => ?_) (fun c_5 => ?_)
      · replace h := h.1 c_5
        refine lv_aload_n hx hb dX10_sum_35 rfl (lv_at hl 0 rfl) ?_
        refine lv_iload_n hx hb dX10_sum_36 rfl (lv_at hl 1 rfl) ?_
        refine xv_i C hd kwRX10_X10_dropsOf (cM_dropsOf _ h) ⟨rfl, rfl⟩ ⟨by decide, by decide⟩ wM_rcv hl.1 rfl rfl (Nat.le_of_ble_eq_true rfl) ⟨Nat.zero_le _, Nat.zero_le _⟩ dX10_sum_37 (fun r_6 k_6 H locs h hd => ?_)
        refine lv_i2l (v := r_6.toInt64) hx hb dX10_sum_40 rfl ?_
        exact ret hd h dX10_sum_41
      · replace h := h.2 c_5
        refine lv_aload_n hx hb dX10_sum_26 rfl (lv_at hl 0 rfl) ?_
        refine lv_iload_n hx hb dX10_sum_27 rfl (lv_at hl 1 rfl) ?_
        obtain ⟨n_7, h⟩ := h
        refine xv_i C hd kwRX10_X10_sumOf (cM_sumOf n_7 _ h) ⟨rfl, rfl⟩ ⟨by decide, by decide⟩ wM_rcv hl.1 rfl rfl (Nat.le_of_ble_eq_true rfl) ⟨Nat.zero_le _, Nat.zero_le _⟩ dX10_sum_28 (fun r_7 k_7 H locs h hd => ?_)
        refine lv_i2l (v := r_7.toInt64) hx hb dX10_sum_31 rfl ?_
        refine lv_goto (tgt := 41) hx hb dX10_sum_32 (by decide) ?_
        exact ret hd h dX10_sum_41
    · replace h := h.2 c_4
      refine lv_ldc2 (v := (-4611686018427387904 : Int64)) hx hb C.2.2.2.1 (C.2.2.2.2.1 _ q_1108) dX10_sum_18 ?_
      exact ret hd h dX10_sum_21
def wM_taken  : Nat → Nat → Int32 → Int32 → Int32 → GM → (Int32 → GM → Prop) → Prop
  | 0, _, _, _, _, _, _ => False
  | n + 1, c, x1, x2, x3, k, Q => match c with
    | 0 => (wM_in x2.toInt64 (0 : Int64) (5 : Int64) k (fun r_1 k_1 => ((¬ r_1 = 0 → (wM_isOne x1 k_1 (fun r_3 k_3 => ((¬ r_3 = 0 → (vp_in x1 8 ∧ wM_taken n 1 x1 x2 (k_3.2.1 7 x1.toNatClampNeg) k_3 Q)) ∧ (r_3 = 0 → Q (-11 : Int32) k_3))))) ∧ (r_1 = 0 → Q (-2 : Int32) k_1))))
    | _ => ((x3 = (-1 : Int32) → ((¬ x3 = x2 → Q (-13 : Int32) k) ∧ (x3 = x2 → (vp_in x1 8 ∧ Q (k.2.1 9 x1.toNatClampNeg) k)))) ∧ (¬ x3 = (-1 : Int32) → ((x3 = x2 → ((¬ x3 = x2 → Q (-13 : Int32) k) ∧ (x3 = x2 → (vp_in x1 8 ∧ Q (k.2.1 9 x1.toNatClampNeg) k)))) ∧ (¬ x3 = x2 → (wM_over x3 k (fun r_9 k_9 => wM_taken n 1 x1 x2 r_9 k_9 Q))))))
set_option maxHeartbeats 4000000 in
set_option maxRecDepth 100000 in
theorem cM_taken {l : Launch} {D : va_G} {o : Nat} {a : Nat → Nat} {g : Nat → ClassId} {k : GM} {Qp : Int32 → GM → Prop} (n : Nat) (x1 : Int32) (x2 : Int32) (h : wM_taken n 0 x1 x2 0 k Qp) : Ci l D (tyA g) (wM o a g) yX10_taken cX10_taken 4 ({ frames := 2, cells := 0, slots := 0, locals := 46 }) [.ref o, .int x1, .int x2] k Qp := by
  refine Ci_of (by decide) (Nat.le_of_ble_eq_true rfl) ?_
  intro p e s m args below meth c A Z ls C ret hd hl
  have hx := C.1
  have hb := C.2.1
  have hl : lv_has ls 4 [(0, .ref o), (1, .int x1), (2, .int x2)] := hl
  have L : ∀ n : Nat, (∀ (x1 : Int32) (x2 : Int32) (x3 : Int32) (k : GM) (H : Heap) (locs : List Loc) (ls : Array Slot), wM_taken n 1 x1 x2 x3 k Qp → Hd D (wM o a g k) A s H locs → lv_has ls 4 [(0, .ref o), (1, .int x1), (2, .int x2), (3, .int x3)] → W p l e ({ frames := 2, cells := 0, slots := 0, locals := 46 }) s m args below meth c H locs 0 0 Z (F0 m 33 ls [])) := by
    intro n
    induction n with
    | zero => exact fun _ _ _ _ _ _ _ h => h.elim
    | succ n ih =>
      intro x1 x2 x3 k H locs ls h hd hl
      replace h : ((x3 = (-1 : Int32) → ((¬ x3 = x2 → Qp (-13 : Int32) k) ∧ (x3 = x2 → (vp_in x1 8 ∧ Qp (k.2.1 9 x1.toNatClampNeg) k)))) ∧ (¬ x3 = (-1 : Int32) → ((x3 = x2 → ((¬ x3 = x2 → Qp (-13 : Int32) k) ∧ (x3 = x2 → (vp_in x1 8 ∧ Qp (k.2.1 9 x1.toNatClampNeg) k)))) ∧ (¬ x3 = x2 → (wM_over x3 k (fun r_9 k_9 => wM_taken n 1 x1 x2 r_9 k_9 Qp)))))) := h
      refine lv_iload_n hx hb dX10_taken_33 rfl (lv_at hl 3 rfl) ?_
      refine lv_iconst (v := -1) hx hb dX10_taken_34 (by decide) ?_
      refine lv_icmp_eq (tgt := 51) hx hb dX10_taken_35 (by decide) (fun c_5 => ?_) (fun c_5 => ?_)
      · replace h := h.1 c_5
        refine lv_iload_n hx hb dX10_taken_51 rfl (lv_at hl 3 rfl) ?_
        refine lv_iload_n hx hb dX10_taken_52 rfl (lv_at hl 2 rfl) ?_
        refine lv_icmp_ne (tgt := 65) hx hb dX10_taken_53 (by decide) (fun c_6 => ?_) (fun c_6 => ?_)
        · replace h := h.1 c_6
          refine lv_bipush (v := -13) hx hb dX10_taken_65 (by decide) ?_
          exact ret hd h dX10_taken_67
        · replace h := h.2 c_6
          refine lv_aload_n hx hb dX10_taken_56 rfl (lv_at hl 0 rfl) ?_
          refine gM_9 C hd dX10_taken_57 ?_
          refine lv_iload_n hx hb dX10_taken_60 rfl (lv_at hl 1 rfl) ?_
          refine ldM_9 C hd (v := k.2.1 9 x1.toNatClampNeg) h.1 rfl dX10_taken_61 ?_
          replace h := h.2
          refine lv_goto (tgt := 67) hx hb dX10_taken_62 (by decide) ?_
          exact ret hd h dX10_taken_67
      · replace h := h.2 c_5
        refine lv_iload_n hx hb dX10_taken_38 rfl (lv_at hl 3 rfl) ?_
        refine lv_iload_n hx hb dX10_taken_39 rfl (lv_at hl 2 rfl) ?_
        refine lv_icmp_eq (tgt := 51) hx hb dX10_taken_40 (by decide) (fun c_7 => ?_) (fun c_7 => ?_)
        · replace h := h.1 c_7
          refine lv_iload_n hx hb dX10_taken_51 rfl (lv_at hl 3 rfl) ?_
          refine lv_iload_n hx hb dX10_taken_52 rfl (lv_at hl 2 rfl) ?_
          refine lv_icmp_ne (tgt := 65) hx hb dX10_taken_53 (by decide) (fun c_8 => ?_) (fun c_8 => ?_)
          · replace h := h.1 c_8
            refine lv_bipush (v := -13) hx hb dX10_taken_65 (by decide) ?_
            exact ret hd h dX10_taken_67
          · replace h := h.2 c_8
            refine lv_aload_n hx hb dX10_taken_56 rfl (lv_at hl 0 rfl) ?_
            refine gM_9 C hd dX10_taken_57 ?_
            refine lv_iload_n hx hb dX10_taken_60 rfl (lv_at hl 1 rfl) ?_
            refine ldM_9 C hd (v := k.2.1 9 x1.toNatClampNeg) h.1 rfl dX10_taken_61 ?_
            replace h := h.2
            refine lv_goto (tgt := 67) hx hb dX10_taken_62 (by decide) ?_
            exact ret hd h dX10_taken_67
        · replace h := h.2 c_7
          refine lv_iload_n hx hb dX10_taken_43 rfl (lv_at hl 3 rfl) ?_
          refine xs_i C hd kwRX10_X10_over (cM_over _ h) ⟨rfl, rfl⟩ ⟨by decide, by decide⟩ hl.1 rfl rfl (Nat.le_of_ble_eq_true rfl) ⟨Nat.zero_le _, Nat.zero_le _⟩ dX10_taken_44 (fun r_9 k_9 H locs h hd => ?_)
          refine lv_istore_n (lv' := [(3, .int r_9), (0, .ref o), (1, .int x1), (2, .int x2)]) hx hb dX10_taken_47 rfl hl (by decide) rfl (fun ls hl => ?_)
          refine lv_goto (tgt := 33) hx hb dX10_taken_48 (by decide) ?_
          exact ih x1 x2 r_9 _ _ _ _ h hd (lv_sub hl [1, 2, 3, 0] rfl)
  cases n with
  | zero => exact h.elim
  | succ n =>
    replace h : (wM_in x2.toInt64 (0 : Int64) (5 : Int64) k (fun r_1 k_1 => ((¬ r_1 = 0 → (wM_isOne x1 k_1 (fun r_3 k_3 => ((¬ r_3 = 0 → (vp_in x1 8 ∧ wM_taken n 1 x1 x2 (k_3.2.1 7 x1.toNatClampNeg) k_3 Qp)) ∧ (r_3 = 0 → Qp (-11 : Int32) k_3))))) ∧ (r_1 = 0 → Qp (-2 : Int32) k_1)))) := h
    refine lv_iload_n hx hb dX10_taken_0 rfl (lv_at hl 2 rfl) ?_
    refine lv_i2l (v := x2.toInt64) hx hb dX10_taken_1 rfl ?_
    refine lv_lconst (v := 0) hx hb dX10_taken_2 (by decide) ?_
    refine lv_ldc2 (v := (5 : Int64)) hx hb C.2.2.2.1 (C.2.2.2.2.1 _ q_1096) dX10_taken_3 ?_
    refine xs_z C hd kwRX10_X10_in (cM_in _ _ _ h) ⟨rfl, rfl⟩ ⟨by decide, by decide⟩ hl.1 rfl rfl (Nat.le_of_ble_eq_true rfl) ⟨Nat.zero_le _, Nat.zero_le _⟩ dX10_taken_6 (fun r_1 k_1 H locs hz_1 h hd => ?_)
    refine lv_if_ne (tgt := 15) hx hb dX10_taken_9 (by decide) (fun c_2 => ?_) (fun c_2 => ?_)
    · replace h := h.1 c_2
      refine lv_aload_n hx hb dX10_taken_15 rfl (lv_at hl 0 rfl) ?_
      refine lv_iload_n hx hb dX10_taken_16 rfl (lv_at hl 1 rfl) ?_
      refine xv_z C hd kwRX10_X10_isOne (cM_isOne _ h) ⟨rfl, rfl⟩ ⟨by decide, by decide⟩ wM_rcv hl.1 rfl rfl (Nat.le_of_ble_eq_true rfl) ⟨Nat.zero_le _, Nat.zero_le _⟩ dX10_taken_17 (fun r_3 k_3 H locs hz_3 h hd => ?_)
      refine lv_if_ne (tgt := 26) hx hb dX10_taken_20 (by decide) (fun c_4 => ?_) (fun c_4 => ?_)
      · replace h := h.1 c_4
        refine lv_aload_n hx hb dX10_taken_26 rfl (lv_at hl 0 rfl) ?_
        refine gM_7 C hd dX10_taken_27 ?_
        refine lv_iload_n hx hb dX10_taken_30 rfl (lv_at hl 1 rfl) ?_
        refine ldM_7 C hd (v := k_3.2.1 7 x1.toNatClampNeg) h.1 rfl dX10_taken_31 ?_
        replace h := h.2
        refine lv_istore_n (lv' := [(3, .int (k_3.2.1 7 x1.toNatClampNeg)), (0, .ref o), (1, .int x1), (2, .int x2)]) hx hb dX10_taken_32 rfl hl (by decide) rfl (fun ls hl => ?_)
        exact L n x1 x2 (k_3.2.1 7 x1.toNatClampNeg) _ _ _ _ h hd (lv_sub hl [1, 2, 3, 0] rfl)
      · replace h := h.2 c_4
        refine lv_bipush (v := -11) hx hb dX10_taken_23 (by decide) ?_
        exact ret hd h dX10_taken_25
    · replace h := h.2 c_2
      refine lv_bipush (v := -2) hx hb dX10_taken_12 (by decide) ?_
      exact ret hd h dX10_taken_14
def wM_text  : Nat → Nat → Int32 → GM → (Int32 → GM → Prop) → Prop
  | 0, _, _, _, _ => False
  | n + 1, c, x1, k, Q => match c with
    | 0 => ((¬ (k.1 3) = (6 : Int32) → wM_text n 1 (0 : Int32) k Q) ∧ ((k.1 3) = (6 : Int32) → Q (-4 : Int32) k))
    | _ => (((k.1 6) ≤ x1 → (vp_in (k.1 3) 6 ∧ (∃ n_3 : Nat, wM_read n_3 0 (k.1 3) (0 : Int32) (0 : Int32) (0 : Int32) (0 : Int32) (0 : Int32) 0 0 0 (sI (sA k 2 (upd (k.2.1 2) (k.1 3).toNatClampNeg (k.1 6))) 6 (0 : Int32)) (fun r_3 k_3 => (((k_3.1 24) = 0 → Q (((k_3.1 3) + (1 : Int32)) - (1 : Int32)) (sI k_3 3 ((k_3.1 3) + (1 : Int32)))) ∧ (¬ (k_3.1 24) = 0 → Q ((-100 : Int32) - (k_3.1 25)) k_3)))))) ∧ (¬ (k.1 6) ≤ x1 → (vp_in x1 160 ∧ (vp_in (((160 : Int32) * (k.1 3)) + x1) 960 ∧ wM_text n 1 (x1 + (1 : Int32)) (sA k 1 (upd (k.2.1 1) (((160 : Int32) * (k.1 3)) + x1).toNatClampNeg (k.2.1 5 x1.toNatClampNeg))) Q))))
set_option maxHeartbeats 4000000 in
set_option maxRecDepth 100000 in
theorem cM_text {l : Launch} {D : va_G} {o : Nat} {a : Nat → Nat} {g : Nat → ClassId} {k : GM} {Qp : Int32 → GM → Prop} (n : Nat)  (h : wM_text n 0 0 k Qp) : Ci l D (tyA g) (wM o a g) yX10_text cX10_text 2 ({ frames := 59, cells := 0, slots := 0, locals := 2234 }) [.ref o] k Qp := by
  refine Ci_of (by decide) (Nat.le_of_ble_eq_true rfl) ?_
  intro p e s m args below meth c A Z ls C ret hd hl
  have hx := C.1
  have hb := C.2.1
  have hl : lv_has ls 2 [(0, .ref o)] := hl
  have L : ∀ n : Nat, (∀ (x1 : Int32) (k : GM) (H : Heap) (locs : List Loc) (ls : Array Slot), wM_text n 1 x1 k Qp → Hd D (wM o a g k) A s H locs → lv_has ls 2 [(0, .ref o), (1, .int x1)] → W p l e ({ frames := 59, cells := 0, slots := 0, locals := 2234 }) s m args below meth c H locs 0 0 Z (F0 m 14 ls [])) := by
    intro n
    induction n with
    | zero => exact fun _ _ _ _ _ h => h.elim
    | succ n ih =>
      intro x1 k H locs ls h hd hl
      replace h : (((k.1 6) ≤ x1 → (vp_in (k.1 3) 6 ∧ (∃ n_3 : Nat, wM_read n_3 0 (k.1 3) (0 : Int32) (0 : Int32) (0 : Int32) (0 : Int32) (0 : Int32) 0 0 0 (sI (sA k 2 (upd (k.2.1 2) (k.1 3).toNatClampNeg (k.1 6))) 6 (0 : Int32)) (fun r_3 k_3 => (((k_3.1 24) = 0 → Qp (((k_3.1 3) + (1 : Int32)) - (1 : Int32)) (sI k_3 3 ((k_3.1 3) + (1 : Int32)))) ∧ (¬ (k_3.1 24) = 0 → Qp ((-100 : Int32) - (k_3.1 25)) k_3)))))) ∧ (¬ (k.1 6) ≤ x1 → (vp_in x1 160 ∧ (vp_in (((160 : Int32) * (k.1 3)) + x1) 960 ∧ wM_text n 1 (x1 + (1 : Int32)) (sA k 1 (upd (k.2.1 1) (((160 : Int32) * (k.1 3)) + x1).toNatClampNeg (k.2.1 5 x1.toNatClampNeg))) Qp)))) := h
      refine lv_iload_n hx hb dX10_text_14 rfl (lv_at hl 1 rfl) ?_
      refine lv_aload_n hx hb dX10_text_15 rfl (lv_at hl 0 rfl) ?_
      refine gM_6 C hd (v := k.1 6) rfl dX10_text_16 ?_
      refine lv_icmp_ge (tgt := 49) hx hb dX10_text_19 (by decide) (fun c_2 => ?_) (fun c_2 => ?_)
      · replace h := h.1 c_2
        refine lv_aload_n hx hb dX10_text_49 rfl (lv_at hl 0 rfl) ?_
        refine gM_2 C hd dX10_text_50 ?_
        refine lv_aload_n hx hb dX10_text_53 rfl (lv_at hl 0 rfl) ?_
        refine gM_3 C hd (v := k.1 3) rfl dX10_text_54 ?_
        refine lv_aload_n hx hb dX10_text_57 rfl (lv_at hl 0 rfl) ?_
        refine gM_6 C hd (v := k.1 6) rfl dX10_text_58 ?_
        refine stM_2 C hd h.1 dX10_text_61 (fun H locs hd => ?_)
        replace h := h.2
        refine lv_aload_n hx hb dX10_text_62 rfl (lv_at hl 0 rfl) ?_
        refine lv_iconst (v := 0) hx hb dX10_text_63 (by decide) ?_
        refine pM_6 C hd dX10_text_64 (fun H locs hd => ?_)
        refine lv_aload_n hx hb dX10_text_67 rfl (lv_at hl 0 rfl) ?_
        refine lv_aload_n hx hb dX10_text_68 rfl (lv_at hl 0 rfl) ?_
        refine gM_3 C hd (v := k.1 3) rfl dX10_text_69 ?_
        refine lv_iconst (v := 0) hx hb dX10_text_72 (by decide) ?_
        refine lv_iconst (v := 0) hx hb dX10_text_73 (by decide) ?_
        refine lv_iconst (v := 0) hx hb dX10_text_74 (by decide) ?_
        refine lv_iconst (v := 0) hx hb dX10_text_75 (by decide) ?_
        refine lv_iconst (v := 0) hx hb dX10_text_76 (by decide) ?_
        obtain ⟨n_3, h⟩ := h
        refine xv_i C hd kwRX10_X10_read (cM_read n_3 _ _ _ _ _ _ h) ⟨rfl, rfl⟩ ⟨by decide, by decide⟩ wM_rcv hl.1 rfl rfl (Nat.le_of_ble_eq_true rfl) ⟨Nat.zero_le _, Nat.zero_le _⟩ dX10_text_77 (fun r_3 k_3 H locs h hd => ?_)
        refine lv_istore_n (lv' := [(1, .int r_3), (0, .ref o)]) hx hb dX10_text_80 rfl hl (by decide) rfl (fun ls hl => ?_)
        refine lv_aload_n hx hb dX10_text_81 rfl (lv_at hl 1 rfl) ?_
        refine gM_24 C hd (v := k_3.1 24) rfl dX10_text_82 ?_
        refine lv_if_eq (tgt := 96) hx hb dX10_text_85 (by decide) (fun c_4 => ?_) (fun c_4 => ?_)
        · replace h := h.1 c_4
          refine lv_aload_n hx hb dX10_text_96 rfl (lv_at hl 1 rfl) ?_
          refine lv_dup hx hb dX10_text_97 rfl ?_
          refine gM_3 C hd (v := k_3.1 3) rfl dX10_text_98 ?_
          refine lv_iconst (v := 1) hx hb dX10_text_101 (by decide) ?_
          refine lv_iadd hx hb dX10_text_102 ?_
          refine pM_3 C hd dX10_text_103 (fun H locs hd => ?_)
          refine lv_aload_n hx hb dX10_text_106 rfl (lv_at hl 1 rfl) ?_
          refine gM_3 C hd (v := ((k_3.1 3) + (1 : Int32))) rfl dX10_text_107 ?_
          refine lv_iconst (v := 1) hx hb dX10_text_110 (by decide) ?_
          refine lv_isub hx hb dX10_text_111 ?_
          exact ret hd h dX10_text_112
        · replace h := h.2 c_4
          refine lv_bipush (v := -100) hx hb dX10_text_88 (by decide) ?_
          refine lv_aload_n hx hb dX10_text_90 rfl (lv_at hl 1 rfl) ?_
          refine gM_25 C hd (v := k_3.1 25) rfl dX10_text_91 ?_
          refine lv_isub hx hb dX10_text_94 ?_
          exact ret hd h dX10_text_95
      · replace h := h.2 c_2
        refine lv_aload_n hx hb dX10_text_22 rfl (lv_at hl 0 rfl) ?_
        refine gM_1 C hd dX10_text_23 ?_
        refine lv_sipush (v := 160) hx hb dX10_text_26 (by decide) ?_
        refine lv_aload_n hx hb dX10_text_29 rfl (lv_at hl 0 rfl) ?_
        refine gM_3 C hd (v := k.1 3) rfl dX10_text_30 ?_
        refine lv_imul hx hb dX10_text_33 ?_
        refine lv_iload_n hx hb dX10_text_34 rfl (lv_at hl 1 rfl) ?_
        refine lv_iadd hx hb dX10_text_35 ?_
        refine lv_aload_n hx hb dX10_text_36 rfl (lv_at hl 0 rfl) ?_
        refine gM_5 C hd dX10_text_37 ?_
        refine lv_iload_n hx hb dX10_text_40 rfl (lv_at hl 1 rfl) ?_
        refine ldM_5 C hd (v := k.2.1 5 x1.toNatClampNeg) h.1 rfl dX10_text_41 ?_
        replace h := h.2
        refine stM_1 C hd h.1 dX10_text_42 (fun H locs hd => ?_)
        replace h := h.2
        refine lv_iinc (v := (x1 + (1 : Int32))) (lv' := [(1, .int (x1 + (1 : Int32))), (0, .ref o)]) hx hb dX10_text_43 hl (k := 1) rfl rfl (by decide) rfl (fun ls hl => ?_)
        refine lv_goto (tgt := 14) hx hb dX10_text_46 (by decide) ?_
        exact ih (x1 + (1 : Int32)) _ _ _ _ h hd (lv_sub hl [1, 0] rfl)
  cases n with
  | zero => exact h.elim
  | succ n =>
    replace h : ((¬ (k.1 3) = (6 : Int32) → wM_text n 1 (0 : Int32) k Qp) ∧ ((k.1 3) = (6 : Int32) → Qp (-4 : Int32) k)) := h
    refine lv_aload_n hx hb dX10_text_0 rfl (lv_at hl 0 rfl) ?_
    refine gM_3 C hd (v := k.1 3) rfl dX10_text_1 ?_
    refine lv_bipush (v := 6) hx hb dX10_text_4 (by decide) ?_
    refine lv_icmp_ne (tgt := 12) hx hb dX10_text_6 (by decide) (fun c_1 => ?_) (fun c_1 => ?_)
    · replace h := h.1 c_1
      refine lv_iconst (v := 0) hx hb dX10_text_12 (by decide) ?_
      refine lv_istore_n (lv' := [(1, .int (0 : Int32)), (0, .ref o)]) hx hb dX10_text_13 rfl hl (by decide) rfl (fun ls hl => ?_)
      exact L n (0 : Int32) _ _ _ _ h hd (lv_sub hl [1, 0] rfl)
    · replace h := h.2 c_1
      refine lv_bipush (v := -4) hx hb dX10_text_9 (by decide) ?_
      exact ret hd h dX10_text_11
