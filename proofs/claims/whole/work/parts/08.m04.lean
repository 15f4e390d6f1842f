def wM_blocked  : Nat → Nat → Int32 → Int32 → Int32 → Int32 → Int32 → GM → (Int32 → GM → Prop) → Prop
  | 0, _, _, _, _, _, _, _, _ => False
  | n + 1, c, x1, x2, x3, x4, x8, k, Q => match c with
    | 0 => (wM_isPlan x1 k (fun r_1 k_1 => ((¬ r_1 = 0 → (∃ n_3 : Nat, wM_laysAside n_3 0 (0 : Int32) 0 k_1 (fun k_3 => wM_blocked n 1 x1 (0 : Int32) (0 : Int32) (0 : Int32) 0 k_3 Q))) ∧ (r_1 = 0 → Q (-2 : Int32) k_1))))
    | 1 => (vp_in x1 8 ∧ (((k.2.1 30 x1.toNatClampNeg) ≤ x4 → (∃ n_5 : Nat, wM_laysBack n_5 0 0 k (fun k_5 => Q (x2 &&& (x3 ^^^ (-1 : Int32))) k_5))) ∧ (¬ (k.2.1 30 x1.toNatClampNeg) ≤ x4 → (vp_in (((24 : Int32) * x1) + x4) 192 ∧ (vp_in (((24 : Int32) * x1) + x4) 192 ∧ (∃ n_6 : Nat, wM_tries n_6 0 (k.2.1 31 (((24 : Int32) * x1) + x4).toNatClampNeg) (k.2.1 32 (((24 : Int32) * x1) + x4).toNatClampNeg) 0 0 0 k (fun r_6 k_6 => ((¬ (k.2.1 32 (((24 : Int32) * x1) + x4).toNatClampNeg) = 0 → wM_blocked n 2 x1 (x2 ||| (k.2.1 31 (((24 : Int32) * x1) + x4).toNatClampNeg)) x3 x4 (0 : Int32) k_6 Q) ∧ ((k.2.1 32 (((24 : Int32) * x1) + x4).toNatClampNeg) = 0 → wM_blocked n 1 x1 x2 x3 (x4 + (1 : Int32)) 0 k_6 Q)))))))))
    | _ => (((k.1 10) ≤ x8 → wM_blocked n 1 x1 x2 x3 (x4 + (1 : Int32)) 0 k Q) ∧ (¬ (k.1 10) ≤ x8 → (vp_in x8 8 ∧ (((k.2.1 34 x8.toNatClampNeg) = 0 → wM_blocked n 2 x1 x2 (x3 ||| (0 : Int32)) x4 (x8 + (1 : Int32)) k Q) ∧ (¬ (k.2.1 34 x8.toNatClampNeg) = 0 → wM_blocked n 2 x1 x2 (x3 ||| ((1 : Int32) <<< (x8 &&& 31))) x4 (x8 + (1 : Int32)) k Q)))))
set_option maxHeartbeats 4000000 in
set_option maxRecDepth 100000 in
theorem cM_blocked {l : Launch} {D : va_G} {o : Nat} {a : Nat → Nat} {g : Nat → ClassId} {k : GM} {Qp : Int32 → GM → Prop} (n : Nat) (x1 : Int32) (h : wM_blocked n 0 x1 0 0 0 0 k Qp) : Ci l D (tyA g) (wM o a g) yX10_blocked cX10_blocked 9 ({ frames := 60, cells := 0, slots := 0, locals := 2261 }) [.ref o, .int x1] k Qp := by
  refine Ci_of (by decide) (Nat.le_of_ble_eq_true rfl) ?_
  intro p e s m args below meth c A Z ls C ret hd hl
  have hx := C.1
  have hb := C.2.1
  have hl : lv_has ls 9 [(0, .ref o), (1, .int x1)] := hl
  have L : ∀ n : Nat, (∀ (x1 : Int32) (x2 : Int32) (x3 : Int32) (x4 : Int32) (k : GM) (H : Heap) (locs : List Loc) (ls : Array Slot), wM_blocked n 1 x1 x2 x3 x4 0 k Qp → Hd D (wM o a g k) A s H locs → lv_has ls 9 [(0, .ref o), (1, .int x1), (2, .int x2), (3, .int x3), (4, .int x4)] → W p l e ({ frames := 60, cells := 0, slots := 0, locals := 2261 }) s m args below meth c H locs 0 0 Z (F0 m 23 ls [])) ∧ (∀ (x1 : Int32) (x2 : Int32) (x3 : Int32) (x4 : Int32) (x8 : Int32) (k : GM) (H : Heap) (locs : List Loc) (ls : Array Slot), wM_blocked n 2 x1 x2 x3 x4 x8 k Qp → Hd D (wM o a g k) A s H locs → lv_has ls 9 [(0, .ref o), (1, .int x1), (2, .int x2), (3, .int x3), (4, .int x4), (8, .int x8)] → W p l e ({ frames := 60, cells := 0, slots := 0, locals := 2261 }) s m args below meth c H locs 0 0 Z (F0 m 88 ls [])) := by
    intro n
    induction n with
    | zero => exact ⟨fun _ _ _ _ _ _ _ _ h => h.elim, fun _ _ _ _ _ _ _ _ _ h => h.elim⟩
    | succ n ih =>
      refine ⟨?_, ?_⟩
      · intro x1 x2 x3 x4 k H locs ls h hd hl
        replace h : (vp_in x1 8 ∧ (((k.2.1 30 x1.toNatClampNeg) ≤ x4 → (∃ n_5 : Nat, wM_laysBack n_5 0 0 k (fun k_5 => Qp (x2 &&& (x3 ^^^ (-1 : Int32))) k_5))) ∧ (¬ (k.2.1 30 x1.toNatClampNeg) ≤ x4 → (vp_in (((24 : Int32) * x1) + x4) 192 ∧ (vp_in (((24 : Int32) * x1) + x4) 192 ∧ (∃ n_6 : Nat, wM_tries n_6 0 (k.2.1 31 (((24 : Int32) * x1) + x4).toNatClampNeg) (k.2.1 32 (((24 : Int32) * x1) + x4).toNatClampNeg) 0 0 0 k (fun r_6 k_6 => ((¬ (k.2.1 32 (((24 : Int32) * x1) + x4).toNatClampNeg) = 0 → wM_blocked n 2 x1 (x2 ||| (k.2.1 31 (((24 : Int32) * x1) + x4).toNatClampNeg)) x3 x4 (0 : Int32) k_6 Qp) ∧ ((k.2.1 32 (((24 : Int32) * x1) + x4).toNatClampNeg) = 0 → wM_blocked n 1 x1 x2 x3 (x4 + (1 : Int32)) 0 k_6 Qp))))))))) := h
        refine lv_iload hx hb dX10_blocked_23 (lv_at hl 4 rfl) ?_
        refine lv_aload_n hx hb dX10_blocked_25 rfl (lv_at hl 0 rfl) ?_
        refine gM_30 C hd dX10_blocked_26 ?_
        refine lv_iload_n hx hb dX10_blocked_29 rfl (lv_at hl 1 rfl) ?_
        refine ldM_30 C hd (v := k.2.1 30 x1.toNatClampNeg) h.1 rfl dX10_blocked_30 ?_
        replace h := h.2
        refine lv_icmp_ge (tgt := 130) hx hb dX10_blocked_31 (by decide) (fun c_4 => ?_) (fun c_4 => ?_)
        · replace h := h.1 c_4
          refine lv_aload_n hx hb dX10_blocked_130 rfl (lv_at hl 0 rfl) ?_
          obtain ⟨n_5, h⟩ := h
          refine xv_v C hd kwRX10_X10_laysBack (cM_laysBack n_5 h) ⟨rfl, rfl⟩ ⟨by decide, by decide⟩ wM_rcv hl.1 rfl rfl (Nat.le_of_ble_eq_true rfl) ⟨Nat.zero_le _, Nat.zero_le _⟩ dX10_blocked_131 (fun k_5 H locs h hd => ?_)
          refine lv_iload_n hx hb dX10_blocked_134 rfl (lv_at hl 2 rfl) ?_
          refine lv_iload_n hx hb dX10_blocked_135 rfl (lv_at hl 3 rfl) ?_
          refine lv_iconst (v := -1) hx hb dX10_blocked_136 (by decide) ?_
          refine lv_ixor hx hb dX10_blocked_137 ?_
          refine lv_iand hx hb dX10_blocked_138 ?_
          exact ret hd h dX10_blocked_139
        · replace h := h.2 c_4
          refine lv_aload_n hx hb dX10_blocked_34 rfl (lv_at hl 0 rfl) ?_
          refine gM_31 C hd dX10_blocked_35 ?_
          refine lv_bipush (v := 24) hx hb dX10_blocked_38 (by decide) ?_
          refine lv_iload_n hx hb dX10_blocked_40 rfl (lv_at hl 1 rfl) ?_
          refine lv_imul hx hb dX10_blocked_41 ?_
          refine lv_iload hx hb dX10_blocked_42 (lv_at hl 4 rfl) ?_
          refine lv_iadd hx hb dX10_blocked_44 ?_
          refine ldM_31 C hd (v := k.2.1 31 (((24 : Int32) * x1) + x4).toNatClampNeg) h.1 rfl dX10_blocked_45 ?_
          replace h := h.2
          refine lv_istore (lv' := [(5, .int (k.2.1 31 (((24 : Int32) * x1) + x4).toNatClampNeg)), (0, .ref o), (1, .int x1), (2, .int x2), (3, .int x3), (4, .int x4)]) hx hb dX10_blocked_46 hl (by decide) rfl (fun ls hl => ?_)
          refine lv_aload_n hx hb dX10_blocked_48 rfl (lv_at hl 1 rfl) ?_
          refine gM_32 C hd dX10_blocked_49 ?_
          refine lv_bipush (v := 24) hx hb dX10_blocked_52 (by decide) ?_
          refine lv_iload_n hx hb dX10_blocked_54 rfl (lv_at hl 2 rfl) ?_
          refine lv_imul hx hb dX10_blocked_55 ?_
          refine lv_iload hx hb dX10_blocked_56 (lv_at hl 5 rfl) ?_
          refine lv_iadd hx hb dX10_blocked_58 ?_
          refine ldM_32 C hd (v := k.2.1 32 (((24 : Int32) * x1) + x4).toNatClampNeg) h.1 rfl dX10_blocked_59 ?_
          replace h := h.2
          refine lv_istore (lv' := [(6, .int (k.2.1 32 (((24 : Int32) * x1) + x4).toNatClampNeg)), (5, .int (k.2.1 31 (((24 : Int32) * x1) + x4).toNatClampNeg)), (0, .ref o), (1, .int x1), (2, .int x2), (3, .int x3), (4, .int x4)]) hx hb dX10_blocked_60 hl (by decide) rfl (fun ls hl => ?_)
          refine lv_aload_n hx hb dX10_blocked_62 rfl (lv_at hl 2 rfl) ?_
          refine lv_iload hx hb dX10_blocked_63 (lv_at hl 1 rfl) ?_
          refine lv_iload hx hb dX10_blocked_65 (lv_at hl 0 rfl) ?_
          obtain ⟨n_6, h⟩ := h
          refine xv_i C hd kwRX10_X10_tries (cM_tries n_6 _ _ h) ⟨rfl, rfl⟩ ⟨by decide, by decide⟩ wM_rcv hl.1 rfl rfl (Nat.le_of_ble_eq_true rfl) ⟨Nat.zero_le _, Nat.zero_le _⟩ dX10_blocked_67 (fun r_6 k_6 H locs h hd => ?_)
          refine lv_istore (lv' := [(7, .int r_6), (6, .int (k.2.1 32 (((24 : Int32) * x1) + x4).toNatClampNeg)), (5, .int (k.2.1 31 (((24 : Int32) * x1) + x4).toNatClampNeg)), (0, .ref o), (1, .int x1), (2, .int x2), (3, .int x3), (4, .int x4)]) hx hb dX10_blocked_70 hl (by decide) rfl (fun ls hl => ?_)
          refine lv_iload hx hb dX10_blocked_72 (lv_at hl 1 rfl) ?_
          refine lv_if_ne (tgt := 80) hx hb dX10_blocked_74 (by decide) (fun c_7 => ?_) (fun c_7 => ?_)
          · replace h := h.1 c_7
            refine lv_iload_n hx hb dX10_blocked_80 rfl (lv_at hl 5 rfl) ?_
            refine lv_iload hx hb dX10_blocked_81 (lv_at hl 2 rfl) ?_
            refine lv_ior hx hb dX10_blocked_83 ?_
            refine lv_istore_n (lv' := [(2, .int (x2 ||| (k.2.1 31 (((24 : Int32) * x1) + x4).toNatClampNeg))), (7, .int r_6), (6, .int (k.2.1 32 (((24 : Int32) * x1) + x4).toNatClampNeg)), (5, .int (k.2.1 31 (((24 : Int32) * x1) + x4).toNatClampNeg)), (0, .ref o), (1, .int x1), (3, .int x3), (4, .int x4)]) hx hb dX10_blocked_84 rfl hl (by decide) rfl (fun ls hl => ?_)
            refine lv_iconst (v := 0) hx hb dX10_blocked_85 (by decide) ?_
            refine lv_istore (lv' := [(8, .int (0 : Int32)), (2, .int (x2 ||| (k.2.1 31 (((24 : Int32) * x1) + x4).toNatClampNeg))), (7, .int r_6), (6, .int (k.2.1 32 (((24 : Int32) * x1) + x4).toNatClampNeg)), (5, .int (k.2.1 31 (((24 : Int32) * x1) + x4).toNatClampNeg)), (0, .ref o), (1, .int x1), (3, .int x3), (4, .int x4)]) hx hb dX10_blocked_86 hl (by decide) rfl (fun ls hl => ?_)
            exact (ih).2 x1 (x2 ||| (k.2.1 31 (((24 : Int32) * x1) + x4).toNatClampNeg)) x3 x4 (0 : Int32) _ _ _ _ h hd (lv_sub hl [5, 6, 1, 7, 8, 0] rfl)
          · replace h := h.2 c_7
            refine lv_goto (tgt := 124) hx hb dX10_blocked_77 (by decide) ?_
            refine lv_iinc (v := (x4 + (1 : Int32))) (lv' := [(4, .int (x4 + (1 : Int32))), (7, .int r_6), (6, .int (k.2.1 32 (((24 : Int32) * x1) + x4).toNatClampNeg)), (5, .int (k.2.1 31 (((24 : Int32) * x1) + x4).toNatClampNeg)), (0, .ref o), (1, .int x1), (2, .int x2), (3, .int x3)]) hx hb dX10_blocked_124 hl (k := 7) rfl rfl (by decide) rfl (fun ls hl => ?_)
            refine lv_goto (tgt := 23) hx hb dX10_blocked_127 (by decide) ?_
            exact (ih).1 x1 x2 x3 (x4 + (1 : Int32)) _ _ _ _ h hd (lv_sub hl [4, 5, 6, 7, 0] rfl)
      · intro x1 x2 x3 x4 x8 k H locs ls h hd hl
        replace h : (((k.1 10) ≤ x8 → wM_blocked n 1 x1 x2 x3 (x4 + (1 : Int32)) 0 k Qp) ∧ (¬ (k.1 10) ≤ x8 → (vp_in x8 8 ∧ (((k.2.1 34 x8.toNatClampNeg) = 0 → wM_blocked n 2 x1 x2 (x3 ||| (0 : Int32)) x4 (x8 + (1 : Int32)) k Qp) ∧ (¬ (k.2.1 34 x8.toNatClampNeg) = 0 → wM_blocked n 2 x1 x2 (x3 ||| ((1 : Int32) <<< (x8 &&& 31))) x4 (x8 + (1 : Int32)) k Qp))))) := h
        refine lv_iload hx hb dX10_blocked_88 (lv_at hl 5 rfl) ?_
        refine lv_aload_n hx hb dX10_blocked_90 rfl (lv_at hl 0 rfl) ?_
        refine gM_10 C hd (v := k.1 10) rfl dX10_blocked_91 ?_
        refine lv_icmp_ge (tgt := 124) hx hb dX10_blocked_94 (by decide) (fun c_8 => ?_) (fun c_8 => ?_)
        · replace h := h.1 c_8
          refine lv_iinc (v := (x4 + (1 : Int32))) (lv' := [(4, .int (x4 + (1 : Int32))), (0, .ref o), (1, .int x1), (2, .int x2), (3, .int x3), (8, .int x8)]) hx hb dX10_blocked_124 hl (k := 4) rfl rfl (by decide) rfl (fun ls hl => ?_)
          refine lv_goto (tgt := 23) hx hb dX10_blocked_127 (by decide) ?_
          exact (ih).1 x1 x2 x3 (x4 + (1 : Int32)) _ _ _ _ h hd (lv_sub hl [1, 2, 3, 4, 0] rfl)
        · replace h := h.2 c_8
          refine lv_iload_n hx hb dX10_blocked_97 rfl (lv_at hl 3 rfl) ?_
          refine lv_aload_n hx hb dX10_blocked_98 rfl (lv_at hl 0 rfl) ?_
          refine gM_34 C hd dX10_blocked_99 ?_
          refine lv_iload hx hb dX10_blocked_102 (lv_at hl 5 rfl) ?_
          refine ldM_34 C hd (v := k.2.1 34 x8.toNatClampNeg) h.1 rfl dX10_blocked_104 ?_
          replace h := h.2
          refine lv_if_eq (tgt := 115) hx hb dX10_blocked_105 (by decide) (fun c_9 => ?_) (fun c_9 => ?_)
          · replace h := h.1 c_9
            refine lv_iconst (v := 0) hx hb dX10_blocked_115 (by decide) ?_
            refine lv_ior hx hb dX10_blocked_116 ?_
            refine lv_istore_n (lv' := [(3, .int (x3 ||| (0 : Int32))), (0, .ref o), (1, .int x1), (2, .int x2), (4, .int x4), (8, .int x8)]) hx hb dX10_blocked_117 rfl hl (by decide) rfl (fun ls hl => ?_)
            refine lv_iinc (v := (x8 + (1 : Int32))) (lv' := [(8, .int (x8 + (1 : Int32))), (3, .int (x3 ||| (0 : Int32))), (0, .ref o), (1, .int x1), (2, .int x2), (4, .int x4)]) hx hb dX10_blocked_118 hl (k := 5) rfl rfl (by decide) rfl (fun ls hl => ?_)
            refine lv_goto (tgt := 88) hx hb dX10_blocked_121 (by decide) ?_
            exact (ih).2 x1 x2 (x3 ||| (0 : Int32)) x4 (x8 + (1 : Int32)) _ _ _ _ h hd (lv_sub hl [2, 3, 4, 1, 5, 0] rfl)
          · replace h := h.2 c_9
            refine lv_iconst (v := 1) hx hb dX10_blocked_108 (by decide) ?_
            refine lv_iload hx hb dX10_blocked_109 (lv_at hl 5 rfl) ?_
            refine lv_ishl hx hb dX10_blocked_111 ?_
            refine lv_goto (tgt := 116) hx hb dX10_blocked_112 (by decide) ?_
            refine lv_ior hx hb dX10_blocked_116 ?_
            refine lv_istore_n (lv' := [(3, .int (x3 ||| ((1 : Int32) <<< (x8 &&& 31)))), (0, .ref o), (1, .int x1), (2, .int x2), (4, .int x4), (8, .int x8)]) hx hb dX10_blocked_117 rfl hl (by decide) rfl (fun ls hl => ?_)
            refine lv_iinc (v := (x8 + (1 : Int32))) (lv' := [(8, .int (x8 + (1 : Int32))), (3, .int (x3 ||| ((1 : Int32) <<< (x8 &&& 31)))), (0, .ref o), (1, .int x1), (2, .int x2), (4, .int x4)]) hx hb dX10_blocked_118 hl (k := 5) rfl rfl (by decide) rfl (fun ls hl => ?_)
            refine lv_goto (tgt := 88) hx hb dX10_blocked_121 (by decide) ?_
            exact (ih).2 x1 x2 (x3 ||| ((1 : Int32) <<< (x8 &&& 31))) x4 (x8 + (1 : Int32)) _ _ _ _ h hd (lv_sub hl [2, 3, 4, 1, 5, 0] rfl)
  cases n with
  | zero => exact h.elim
  | succ n =>
    replace h : (wM_isPlan x1 k (fun r_1 k_1 => ((¬ r_1 = 0 → (∃ n_3 : Nat, wM_laysAside n_3 0 (0 : Int32) 0 k_1 (fun k_3 => wM_blocked n 1 x1 (0 : Int32) (0 : Int32) (0 : Int32) 0 k_3 Qp))) ∧ (r_1 = 0 → Qp (-2 : Int32) k_1)))) := h
    refine lv_aload_n hx hb dX10_blocked_0 rfl (lv_at hl 0 rfl) ?_
    refine lv_iload_n hx hb dX10_blocked_1 rfl (lv_at hl 1 rfl) ?_
    refine xv_z C hd kwRX10_X10_isPlan (cM_isPlan _ h) ⟨rfl, rfl⟩ ⟨by decide, by decide⟩ wM_rcv hl.1 rfl rfl (Nat.le_of_ble_eq_true rfl) ⟨Nat.zero_le _, Nat.zero_le _⟩ dX10_blocked_2 (fun r_1 k_1 H locs hz_1 h hd => ?_)
    refine lv_if_ne (tgt := 11) hx hb dX10_blocked_5 (by decide) (fun c_2 => ?_) (fun c_2 => ?_)
    · replace h := h.1 c_2
      refine lv_aload_n hx hb dX10_blocked_11 rfl (lv_at hl 0 rfl) ?_
      refine lv_iconst (v := 0) hx hb dX10_blocked_12 (by decide) ?_
      obtain ⟨n_3, h⟩ := h
      refine xv_v C hd kwRX10_X10_laysAside (cM_laysAside n_3 _ h) ⟨rfl, rfl⟩ ⟨by decide, by decide⟩ wM_rcv hl.1 rfl rfl (Nat.le_of_ble_eq_true rfl) ⟨Nat.zero_le _, Nat.zero_le _⟩ dX10_blocked_13 (fun k_3 H locs h hd => ?_)
      refine lv_iconst (v := 0) hx hb dX10_blocked_16 (by decide) ?_
      refine lv_istore_n (lv' := [(2, .int (0 : Int32)), (0, .ref o), (1, .int x1)]) hx hb dX10_blocked_17 rfl hl (by decide) rfl (fun ls hl => ?_)
      refine lv_iconst (v := 0) hx hb dX10_blocked_18 (by decide) ?_
      refine lv_istore_n (lv' := [(3, .int (0 : Int32)), (2, .int (0 : Int32)), (0, .ref o), (1, .int x1)]) hx hb dX10_blocked_19 rfl hl (by decide) rfl (fun ls hl => ?_)
      refine lv_iconst (v := 0) hx hb dX10_blocked_20 (by decide) ?_
      refine lv_istore (lv' := [(4, .int (0 : Int32)), (3, .int (0 : Int32)), (2, .int (0 : Int32)), (0, .ref o), (1, .int x1)]) hx hb dX10_blocked_21 hl (by decide) rfl (fun ls hl => ?_)
      exact (L n).1 x1 (0 : Int32) (0 : Int32) (0 : Int32) _ _ _ _ h hd (lv_sub hl [3, 4, 2, 1, 0] rfl)
    · replace h := h.2 c_2
      refine lv_bipush (v := -2) hx hb dX10_blocked_8 (by decide) ?_
      exact ret hd h dX10_blocked_10
def wM_isSheet (x0 : Int32) (k : GM) (Q : Int32 → GM → Prop) : Prop := (wM_in x0.toInt64 (0 : Int64) (3 : Int64) k (fun r_1 k_1 => Q r_1 k_1))
set_option maxHeartbeats 4000000 in
set_option maxRecDepth 100000 in
theorem cM_isSheet {l : Launch} {D : va_G} {o : Nat} {a : Nat → Nat} {g : Nat → ClassId} {k : GM} {Qp : Int32 → GM → Prop} (x0 : Int32) (h : wM_isSheet x0 k Qp) : Cz l D (tyA g) (wM o a g) yX10_isSheet cX10_isSheet 1 ({ frames := 1, cells := 0, slots := 0, locals := 25 }) [.int x0] k Qp := by
  refine Cz_of (by decide) (Nat.le_of_ble_eq_true rfl) ?_
  intro p e s m args below meth c A Z ls C ret hd hl
  have hx := C.1
  have hb := C.2.1
  have hl : lv_has ls 1 [(0, .int x0)] := hl
  replace h : (wM_in x0.toInt64 (0 : Int64) (3 : Int64) k (fun r_1 k_1 => Qp r_1 k_1)) := h
  refine lv_iload_n hx hb dX10_isSheet_0 rfl (lv_at hl 0 rfl) ?_
  refine lv_i2l (v := x0.toInt64) hx hb dX10_isSheet_1 rfl ?_
  refine lv_lconst (v := 0) hx hb dX10_isSheet_2 (by decide) ?_
  refine lv_ldc2 (v := (3 : Int64)) hx hb C.2.2.2.1 (C.2.2.2.2.1 _ q_1206) dX10_isSheet_3 ?_
  refine xs_z C hd kwRX10_X10_in (cM_in _ _ _ h) ⟨rfl, rfl⟩ ⟨by decide, by decide⟩ hl.1 rfl rfl (Nat.le_of_ble_eq_true rfl) ⟨Nat.zero_le _, Nat.zero_le _⟩ dX10_isSheet_6 (fun r_1 k_1 H locs hz_1 h hd => ?_)
  exact ret hd hz_1 h dX10_isSheet_9
def wM_cell (x1 : Int32) (x2 : Int32) (x3 : Int32) (k : GM) (Q : Int32 → GM → Prop) : Prop := (wM_isSheet x1 k (fun r_1 k_1 => ((¬ r_1 = 0 → (vp_in x1 4 ∧ ((¬ (k_1.2.1 61 x1.toNatClampNeg) = 0 → (vp_in x1 4 ∧ (wM_in x2.toInt64 (0 : Int64) (((k_1.2.1 63 x1.toNatClampNeg) - (1 : Int32)).toInt64) k_1 (fun r_4 k_4 => ((¬ r_4 = 0 → (vp_in x1 4 ∧ ((¬ (k_4.2.1 62 x1.toNatClampNeg) = 0 → (vp_in x1 4 ∧ ((¬ (k_4.2.1 62 x1.toNatClampNeg) = (1 : Int32) → (vp_in (((40 : Int32) * x1) + x2) 160 ∧ Q (1 : Int32) (sA k_4 64 (upd (k_4.2.1 64) (((40 : Int32) * x1) + x2).toNatClampNeg x3)))) ∧ ((k_4.2.1 62 x1.toNatClampNeg) = (1 : Int32) → (vp_in (((40 : Int32) * x1) + x2) 160 ∧ Q (1 : Int32) (sA k_4 64 (upd (k_4.2.1 64) (((40 : Int32) * x1) + x2).toNatClampNeg x3.toInt16.toInt32))))))) ∧ ((k_4.2.1 62 x1.toNatClampNeg) = 0 → (vp_in (((40 : Int32) * x1) + x2) 160 ∧ Q (1 : Int32) (sA k_4 64 (upd (k_4.2.1 64) (((40 : Int32) * x1) + x2).toNatClampNeg x3.toInt8.toInt32))))))) ∧ (r_4 = 0 → Q (-12 : Int32) k_4)))))) ∧ ((k_1.2.1 61 x1.toNatClampNeg) = 0 → Q (-11 : Int32) k_1)))) ∧ (r_1 = 0 → Q (-2 : Int32) k_1))))
set_option maxHeartbeats 4000000 in
set_option maxRecDepth 100000 in
theorem cM_cell {l : Launch} {D : va_G} {o : Nat} {a : Nat → Nat} {g : Nat → ClassId} {k : GM} {Qp : Int32 → GM → Prop} (x1 : Int32) (x2 : Int32) (x3 : Int32) (h : wM_cell x1 x2 x3 k Qp) : Ci l D (tyA g) (wM o a g) yX10_cell cX10_cell 4 ({ frames := 2, cells := 0, slots := 0, locals := 45 }) [.ref o, .int x1, .int x2, .int x3] k Qp := by
  refine Ci_of (by decide) (Nat.le_of_ble_eq_true rfl) ?_
  intro p e s m args below meth c A Z ls C ret hd hl
  have hx := C.1
  have hb := C.2.1
  have hl : lv_has ls 4 [(0, .ref o), (1, .int x1), (2, .int x2), (3, .int x3)] := hl
  replace h : (wM_isSheet x1 k (fun r_1 k_1 => ((¬ r_1 = 0 → (vp_in x1 4 ∧ ((¬ (k_1.2.1 61 x1.toNatClampNeg) = 0 → (vp_in x1 4 ∧ (wM_in x2.toInt64 (0 : Int64) (((k_1.2.1 63 x1.toNatClampNeg) - (1 : Int32)).toInt64) k_1 (fun r_4 k_4 => ((¬ r_4 = 0 → (vp_in x1 4 ∧ ((¬ (k_4.2.1 62 x1.toNatClampNeg) = 0 → (vp_in x1 4 ∧ ((¬ (k_4.2.1 62 x1.toNatClampNeg) = (1 : Int32) → (vp_in (((40 : Int32) * x1) + x2) 160 ∧ Qp (1 : Int32) (sA k_4 64 (upd (k_4.2.1 64) (((40 : Int32) * x1) + x2).toNatClampNeg x3)))) ∧ ((k_4.2.1 62 x1.toNatClampNeg) = (1 : Int32) → (vp_in (((40 : Int32) * x1) + x2) 160 ∧ Qp (1 : Int32) (sA k_4 64 (upd (k_4.2.1 64) (((40 : Int32) * x1) + x2).toNatClampNeg x3.toInt16.toInt32))))))) ∧ ((k_4.2.1 62 x1.toNatClampNeg) = 0 → (vp_in (((40 : Int32) * x1) + x2) 160 ∧ Qp (1 : Int32) (sA k_4 64 (upd (k_4.2.1 64) (((40 : Int32) * x1) + x2).toNatClampNeg x3.toInt8.toInt32))))))) ∧ (r_4 = 0 → Qp (-12 : Int32) k_4)))))) ∧ ((k_1.2.1 61 x1.toNatClampNeg) = 0 → Qp (-11 : Int32) k_1)))) ∧ (r_1 = 0 → Qp (-2 : Int32) k_1)))) := h
  refine lv_iload_n hx hb dX10_cell_0 rfl (lv_at hl 1 rfl) ?_
  refine xs_z C hd kwRX10_X10_isSheet (cM_isSheet _ h) ⟨rfl, rfl⟩ ⟨by decide, by decide⟩ hl.1 rfl rfl (Nat.le_of_ble_eq_true rfl) ⟨Nat.zero_le _, Nat.zero_le _⟩ dX10_cell_1 (fun r_1 k_1 H locs hz_1 h hd => ?_)
  refine lv_if_ne (tgt := 10) hx hb dX10_cell_4 (by decide) (fun c_2 => ?_) (fun c_2 => ?_)
  · replace h := h.1 c_2
    refine lv_aload_n hx hb dX10_cell_10 rfl (lv_at hl 0 rfl) ?_
    refine gM_61 C hd dX10_cell_11 ?_
    refine lv_iload_n hx hb dX10_cell_14 rfl (lv_at hl 1 rfl) ?_
    refine ldM_61 C hd (v := k_1.2.1 61 x1.toNatClampNeg) h.1 rfl dX10_cell_15 ?_
    replace h := h.2
    refine lv_if_ne (tgt := 22) hx hb dX10_cell_16 (by decide) (fun c_3 => ?_) (fun c_3 => ?_)
    · replace h := h.1 c_3
      refine lv_iload_n hx hb dX10_cell_22 rfl (lv_at hl 2 rfl) ?_
      refine lv_i2l (v := x2.toInt64) hx hb dX10_cell_23 rfl ?_
      refine lv_lconst (v := 0) hx hb dX10_cell_24 (by decide) ?_
      refine lv_aload_n hx hb dX10_cell_25 rfl (lv_at hl 0 rfl) ?_
      refine gM_63 C hd dX10_cell_26 ?_
      refine lv_iload_n hx hb dX10_cell_29 rfl (lv_at hl 1 rfl) ?_
      refine ldM_63 C hd (v := k_1.2.1 63 x1.toNatClampNeg) h.1 rfl dX10_cell_30 ?_
      replace h := h.2
      refine lv_iconst (v := 1) hx hb dX10_cell_31 (by decide) ?_
      refine lv_isub hx hb dX10_cell_32 ?_
      refine lv_i2l (v := ((k_1.2.1 63 x1.toNatClampNeg) - (1 : Int32)).toInt64) hx hb dX10_cell_33 rfl ?_
      refine xs_z C hd kwRX10_X10_in (cM_in _ _ _ h) ⟨rfl, rfl⟩ ⟨by decide, by decide⟩ hl.1 rfl rfl (Nat.le_of_ble_eq_true rfl) ⟨Nat.zero_le _, Nat.zero_le _⟩ dX10_cell_34 (fun r_4 k_4 H locs hz_4 h hd => ?_)
      refine lv_if_ne (tgt := 43) hx hb dX10_cell_37 (by decide) (fun c_5 => ?_) (fun c_5 => ?_)
      · replace h := h.1 c_5
        refine lv_aload_n hx hb dX10_cell_43 rfl (lv_at hl 0 rfl) ?_
        refine gM_64 C hd dX10_cell_44 ?_
        refine lv_bipush (v := 40) hx hb dX10_cell_47 (by decide) ?_
        refine lv_iload_n hx hb dX10_cell_49 rfl (lv_at hl 1 rfl) ?_
        refine lv_imul hx hb dX10_cell_50 ?_
        refine lv_iload_n hx hb dX10_cell_51 rfl (lv_at hl 2 rfl) ?_
        refine lv_iadd hx hb dX10_cell_52 ?_
        refine lv_aload_n hx hb dX10_cell_53 rfl (lv_at hl 0 rfl) ?_
        refine gM_62 C hd dX10_cell_54 ?_
        refine lv_iload_n hx hb dX10_cell_57 rfl (lv_at hl 1 rfl) ?_
        refine ldM_62 C hd (v := k_4.2.1 62 x1.toNatClampNeg) h.1 rfl dX10_cell_58 ?_
        replace h := h.2
        refine lv_if_ne (tgt := 67) hx hb dX10_cell_59 (by decide) (fun c_6 => ?_) (fun c_6 => ?_)
        · replace h := h.1 c_6
          refine lv_aload_n hx hb dX10_cell_67 rfl (lv_at hl 0 rfl) ?_
          refine gM_62 C hd dX10_cell_68 ?_
          refine lv_iload_n hx hb dX10_cell_71 rfl (lv_at hl 1 rfl) ?_
          refine ldM_62 C hd (v := k_4.2.1 62 x1.toNatClampNeg) h.1 rfl dX10_cell_72 ?_
          replace h := h.2
          refine lv_iconst (v := 1) hx hb dX10_cell_73 (by decide) ?_
          refine lv_icmp_ne (tgt := 82) hx hb dX10_cell_74 (by decide) (fun c_7 => ?_) (fun c_7 => ?_)
          · replace h := h.1 c_7
            refine lv_iload_n hx hb dX10_cell_82 rfl (lv_at hl 3 rfl) ?_
            refine stM_64 C hd h.1 dX10_cell_83 (fun H locs hd => ?_)
            replace h := h.2
            refine lv_iconst (v := 1) hx hb dX10_cell_84 (by decide) ?_
            exact ret hd h dX10_cell_85
          · replace h := h.2 c_7
            refine lv_iload_n hx hb dX10_cell_77 rfl (lv_at hl 3 rfl) ?_
            refine lv_i2s (v := x3.toInt16.toInt32) hx hb dX10_cell_78 rfl ?_
            refine lv_goto (tgt := 83) hx hb dX10_cell_79 (by decide) ?_
            refine stM_64 C hd h.1 dX10_cell_83 (fun H locs hd => ?_)
            replace h := h.2
            refine lv_iconst (v := 1) hx hb dX10_cell_84 (by decide) ?_
            exact ret hd h dX10_cell_85
        · replace h := h.2 c_6
          refine lv_iload_n hx hb dX10_cell_62 rfl (lv_at hl 3 rfl) ?_
          refine lv_i2b (v := x3.toInt8.toInt32) hx hb dX10_cell_63 rfl ?_
          refine lv_goto (tgt := 83) hx hb dX10_cell_64 (by decide) ?_
          refine stM_64 C hd h.1 dX10_cell_83 (fun H locs hd => ?_)
          replace h := h.2
          refine lv_iconst (v := 1) hx hb dX10_cell_84 (by decide) ?_
          exact ret hd h dX10_cell_85
      · replace h := h.2 c_5
        refine lv_bipush (v := -12) hx hb dX10_cell_40 (by decide) ?_
        exact ret hd h dX10_cell_42
    · replace h := h.2 c_3
      refine lv_bipush (v := -11) hx hb dX10_cell_19 (by decide) ?_
      exact ret hd h dX10_cell_21
  · replace h := h.2 c_2
    refine lv_bipush (v := -2) hx hb dX10_cell_7 (by decide) ?_
    exact ret hd h dX10_cell_9
def wM_common  : Nat → Nat → Int64 → Int64 → Int64 → Int64 → GM → (Int64 → GM → Prop) → Prop
  | 0, _, _, _, _, _, _, _ => False
  | n + 1, c, x0l, x2l, x4l, x6l, k, Q => match c with
    | 0 => ((0 ≤ (lg_cmp x0l (0 : Int64)) → wM_common n 1 0 0 x0l x2l k Q) ∧ (¬ 0 ≤ (lg_cmp x0l (0 : Int64)) → wM_common n 1 0 0 (-x0l) x2l k Q))
    | _ => (((lg_cmp x6l (0 : Int64)) = 0 → Q x4l k) ∧ (¬ (lg_cmp x6l (0 : Int64)) = 0 → (¬ x6l = 0 ∧ wM_common n 1 0 0 x6l (x4l - x4l / x6l * x6l) k Q)))
set_option maxHeartbeats 4000000 in
set_option maxRecDepth 100000 in
theorem cM_common {l : Launch} {D : va_G} {o : Nat} {a : Nat → Nat} {g : Nat → ClassId} {k : GM} {Qp : Int64 → GM → Prop} (n : Nat) (x0l : Int64) (x2l : Int64) (h : wM_common n 0 x0l x2l 0 0 k Qp) : Cl l D (tyA g) (wM o a g) yX10_common cX10_common 10 ({ frames := 0, cells := 0, slots := 0, locals := 0 }) [.long x0l, .long x2l] k Qp := by
  refine Cl_of (by decide) (Nat.le_of_ble_eq_true rfl) ?_
  intro p e s m args below meth c A Z ls C ret hd hl
  have hx := C.1
  have hb := C.2.1
  have hl : lv_has ls 10 [(0, .long x0l), (2, .long x2l)] := hl
  have L : ∀ n : Nat, (∀ (x4l : Int64) (x6l : Int64) (k : GM) (H : Heap) (locs : List Loc) (ls : Array Slot), wM_common n 1 0 0 x4l x6l k Qp → Hd D (wM o a g k) A s H locs → lv_has ls 10 [(4, .long x4l), (6, .long x6l)] → W p l e ({ frames := 0, cells := 0, slots := 0, locals := 0 }) s m args below meth c H locs 0 0 Z (F0 m 17 ls [])) := by
    intro n
    induction n with
    | zero => exact fun _ _ _ _ _ _ h => h.elim
    | succ n ih =>
      intro x4l x6l k H locs ls h hd hl
      replace h : (((lg_cmp x6l (0 : Int64)) = 0 → Qp x4l k) ∧ (¬ (lg_cmp x6l (0 : Int64)) = 0 → (¬ x6l = 0 ∧ wM_common n 1 0 0 x6l (x4l - x4l / x6l * x6l) k Qp))) := h
      refine lv_lload hx hb dX10_common_17 (lv_at hl 1 rfl) ?_
      refine lv_lconst (v := 0) hx hb dX10_common_19 (by decide) ?_
      refine W.lcmp hx hb dX10_common_20 ?_
      refine lv_if_eq (tgt := 42) hx hb dX10_common_21 (by decide) (fun c_2 => ?_) (fun c_2 => ?_)
      · replace h := h.1 c_2
        refine lv_lload hx hb dX10_common_42 (lv_at hl 0 rfl) ?_
        exact ret hd h dX10_common_44
      · replace h := h.2 c_2
        refine lv_lload hx hb dX10_common_24 (lv_at hl 0 rfl) ?_
        refine lv_lload hx hb dX10_common_26 (lv_at hl 1 rfl) ?_
        refine lv_lrem hx hb dX10_common_28 h.1 ?_
        replace h := h.2
        refine lv_lstore (lv' := [(8, .long (x4l - x4l / x6l * x6l)), (4, .long x4l), (6, .long x6l)]) hx hb dX10_common_29 hl (by decide) rfl (fun ls hl => ?_)
        refine lv_lload hx hb dX10_common_31 (lv_at hl 2 rfl) ?_
        refine lv_lstore (lv' := [(4, .long x6l), (8, .long (x4l - x4l / x6l * x6l)), (6, .long x6l)]) hx hb dX10_common_33 hl (by decide) rfl (fun ls hl => ?_)
        refine lv_lload hx hb dX10_common_35 (lv_at hl 1 rfl) ?_
        refine lv_lstore (lv' := [(6, .long (x4l - x4l / x6l * x6l)), (4, .long x6l), (8, .long (x4l - x4l / x6l * x6l))]) hx hb dX10_common_37 hl (by decide) rfl (fun ls hl => ?_)
        refine lv_goto (tgt := 17) hx hb dX10_common_39 (by decide) ?_
        exact ih x6l (x4l - x4l / x6l * x6l) _ _ _ _ h hd (lv_sub hl [1, 0] rfl)
  cases n with
  | zero => exact h.elim
  | succ n =>
    replace h : ((0 ≤ (lg_cmp x0l (0 : Int64)) → wM_common n 1 0 0 x0l x2l k Qp) ∧ (¬ 0 ≤ (lg_cmp x0l (0 : Int64)) → wM_common n 1 0 0 (-x0l) x2l k Qp)) := h
    refine lv_lload_n hx hb dX10_common_0 rfl (lv_at hl 0 rfl) ?_
    refine lv_lconst (v := 0) hx hb dX10_common_1 (by decide) ?_
    refine W.lcmp hx hb dX10_common_2 ?_
    refine lv_if_ge (tgt := 11) hx hb dX10_common_3 (by decide) (fun c_1 => ?_) (fun c_1 => ?_)
    · replace h := h.1 c_1
      refine lv_lload_n hx hb dX10_common_11 rfl (lv_at hl 0 rfl) ?_
      refine lv_lstore (lv' := [(4, .long x0l), (0, .long x0l), (2, .long x2l)]) hx hb dX10_common_12 hl (by decide) rfl (fun ls hl => ?_)
      refine lv_lload_n hx hb dX10_common_14 rfl (lv_at hl 2 rfl) ?_
      refine lv_lstore (lv' := [(6, .long x2l), (4, .long x0l), (0, .long x0l), (2, .long x2l)]) hx hb dX10_common_15 hl (by decide) rfl (fun ls hl => ?_)
      exact L n x0l x2l _ _ _ _ h hd (lv_sub hl [1, 0] rfl)
    · replace h := h.2 c_1
      refine lv_lload_n hx hb dX10_common_6 rfl (lv_at hl 0 rfl) ?_
      refine lv_lneg hx hb dX10_common_7 ?_
      refine lv_goto (tgt := 12) hx hb dX10_common_8 (by decide) ?_
      refine lv_lstore (lv' := [(4, .long (-x0l)), (0, .long x0l), (2, .long x2l)]) hx hb dX10_common_12 hl (by decide) rfl (fun ls hl => ?_)
      refine lv_lload_n hx hb dX10_common_14 rfl (lv_at hl 2 rfl) ?_
      refine lv_lstore (lv' := [(6, .long x2l), (4, .long (-x0l)), (0, .long x0l), (2, .long x2l)]) hx hb dX10_common_15 hl (by decide) rfl (fun ls hl => ?_)
      exact L n (-x0l) x2l _ _ _ _ h hd (lv_sub hl [1, 0] rfl)
def wM_copy  : Nat → Nat → Int32 → Int32 → Int32 → Int32 → Int32 → Int32 → Int32 → GM → (Int32 → GM → Prop) → Prop
  | 0, _, _, _, _, _, _, _, _, _, _ => False
  | n + 1, c, x1, x2, x3, x4, x5, x6, x7, k, Q => match c with
    | 0 => (wM_isSheet x1 k (fun r_1 k_1 => ((r_1 = 0 → Q (-2 : Int32) k_1) ∧ (¬ r_1 = 0 → (wM_isSheet x3 k_1 (fun r_3 k_3 => ((¬ r_3 = 0 → (vp_in x1 4 ∧ (((k_3.2.1 61 x1.toNatClampNeg) = 0 → Q (-11 : Int32) k_3) ∧ (¬ (k_3.2.1 61 x1.toNatClampNeg) = 0 → (vp_in x3 4 ∧ ((¬ (k_3.2.1 61 x3.toNatClampNeg) = 0 → (vp_in x1 4 ∧ (vp_in x3 4 ∧ (((k_3.2.1 62 x1.toNatClampNeg) = (k_3.2.1 62 x3.toNatClampNeg) → ((x5 < 0 → Q (-12 : Int32) k_3) ∧ (¬ x5 < 0 → ((x2 < 0 → Q (-12 : Int32) k_3) ∧ (¬ x2 < 0 → ((x4 < 0 → Q (-12 : Int32) k_3) ∧ (¬ x4 < 0 → (vp_in x1 4 ∧ ((((k_3.2.1 63 x1.toNatClampNeg) - x5) < x2 → Q (-12 : Int32) k_3) ∧ (¬ ((k_3.2.1 63 x1.toNatClampNeg) - x5) < x2 → (vp_in x3 4 ∧ ((x4 ≤ ((k_3.2.1 63 x3.toNatClampNeg) - x5) → ((¬ x1 = x3 → wM_copy n 1 x1 x2 x3 x4 x5 (0 : Int32) (0 : Int32) k_3 Q) ∧ (x1 = x3 → ((x4 ≤ x2 → wM_copy n 1 x1 x2 x3 x4 x5 (0 : Int32) (0 : Int32) k_3 Q) ∧ (¬ x4 ≤ x2 → wM_copy n 1 x1 x2 x3 x4 x5 (1 : Int32) (0 : Int32) k_3 Q))))) ∧ (¬ x4 ≤ ((k_3.2.1 63 x3.toNatClampNeg) - x5) → Q (-12 : Int32) k_3))))))))))))) ∧ (¬ (k_3.2.1 62 x1.toNatClampNeg) = (k_3.2.1 62 x3.toNatClampNeg) → Q (-13 : Int32) k_3))))) ∧ ((k_3.2.1 61 x3.toNatClampNeg) = 0 → Q (-11 : Int32) k_3))))))) ∧ (r_3 = 0 → Q (-2 : Int32) k_3))))))))
    | _ => ((x5 ≤ x7 → Q x5 k) ∧ (¬ x5 ≤ x7 → ((x6 = 0 → (vp_in ((((40 : Int32) * x1) + x2) + x7) 160 ∧ (vp_in ((((40 : Int32) * x3) + x4) + x7) 160 ∧ wM_copy n 1 x1 x2 x3 x4 x5 x6 (x7 + (1 : Int32)) (sA k 64 (upd (k.2.1 64) ((((40 : Int32) * x3) + x4) + x7).toNatClampNeg (k.2.1 64 ((((40 : Int32) * x1) + x2) + x7).toNatClampNeg))) Q))) ∧ (¬ x6 = 0 → (vp_in ((((40 : Int32) * x1) + x2) + ((x5 - (1 : Int32)) - x7)) 160 ∧ (vp_in ((((40 : Int32) * x3) + x4) + ((x5 - (1 : Int32)) - x7)) 160 ∧ wM_copy n 1 x1 x2 x3 x4 x5 x6 (x7 + (1 : Int32)) (sA k 64 (upd (k.2.1 64) ((((40 : Int32) * x3) + x4) + ((x5 - (1 : Int32)) - x7)).toNatClampNeg (k.2.1 64 ((((40 : Int32) * x1) + x2) + ((x5 - (1 : Int32)) - x7)).toNatClampNeg))) Q))))))
set_option maxHeartbeats 4000000 in
set_option maxRecDepth 100000 in
theorem cM_copy {l : Launch} {D : va_G} {o : Nat} {a : Nat → Nat} {g : Nat → ClassId} {k : GM} {Qp : Int32 → GM → Prop} (n : Nat) (x1 : Int32) (x2 : Int32) (x3 : Int32) (x4 : Int32) (x5 : Int32) (h : wM_copy n 0 x1 x2 x3 x4 x5 0 0 k Qp) : Ci l D (tyA g) (wM o a g) yX10_copy cX10_copy 9 ({ frames := 2, cells := 0, slots := 0, locals := 45 }) [.ref o, .int x1, .int x2, .int x3, .int x4, .int x5] k Qp := by
  refine Ci_of (by decide) (Nat.le_of_ble_eq_true rfl) ?_
  intro p e s m args below meth c A Z ls C ret hd hl
  have hx := C.1
  have hb := C.2.1
  have hl : lv_has ls 9 [(0, .ref o), (1, .int x1), (2, .int x2), (3, .int x3), (4, .int x4), (5, .int x5)] := hl
  have L : ∀ n : Nat, (∀ (x1 : Int32) (x2 : Int32) (x3 : Int32) (x4 : Int32) (x5 : Int32) (x6 : Int32) (x7 : Int32) (k : GM) (H : Heap) (locs : List Loc) (ls : Array Slot), wM_copy n 1 x1 x2 x3 x4 x5 x6 x7 k Qp → Hd D (wM o a g k) A s H locs → lv_has ls 9 [(0, .ref o), (1, .int x1), (2, .int x2), (3, .int x3), (4, .int x4), (5, .int x5), (6, .int x6), (7, .int x7)] → W p l e ({ frames := 2, cells := 0, slots := 0, locals := 45 }) s m args below meth c H locs 0 0 Z (F0 m 121 ls [])) := by
    intro n
    induction n with
    | zero => exact fun _ _ _ _ _ _ _ _ _ _ _ h => h.elim
    | succ n ih =>
      intro x1 x2 x3 x4 x5 x6 x7 k H locs ls h hd hl
      replace h : ((x5 ≤ x7 → Qp x5 k) ∧ (¬ x5 ≤ x7 → ((x6 = 0 → (vp_in ((((40 : Int32) * x1) + x2) + x7) 160 ∧ (vp_in ((((40 : Int32) * x3) + x4) + x7) 160 ∧ wM_copy n 1 x1 x2 x3 x4 x5 x6 (x7 + (1 : Int32)) (sA k 64 (upd (k.2.1 64) ((((40 : Int32) * x3) + x4) + x7).toNatClampNeg (k.2.1 64 ((((40 : Int32) * x1) + x2) + x7).toNatClampNeg))) Qp))) ∧ (¬ x6 = 0 → (vp_in ((((40 : Int32) * x1) + x2) + ((x5 - (1 : Int32)) - x7)) 160 ∧ (vp_in ((((40 : Int32) * x3) + x4) + ((x5 - (1 : Int32)) - x7)) 160 ∧ wM_copy n 1 x1 x2 x3 x4 x5 x6 (x7 + (1 : Int32)) (sA k 64 (upd (k.2.1 64) ((((40 : Int32) * x3) + x4) + ((x5 - (1 : Int32)) - x7)).toNatClampNeg (k.2.1 64 ((((40 : Int32) * x1) + x2) + ((x5 - (1 : Int32)) - x7)).toNatClampNeg))) Qp)))))) := h
      refine lv_iload hx hb dX10_copy_121 (lv_at hl 7 rfl) ?_
      refine lv_iload hx hb dX10_copy_123 (lv_at hl 5 rfl) ?_
      refine lv_icmp_ge (tgt := 182) hx hb dX10_copy_125 (by decide) (fun c_15 => ?_) (fun c_15 => ?_)
      · replace h := h.1 c_15
        refine lv_iload hx hb dX10_copy_182 (lv_at hl 5 rfl) ?_
        exact ret hd h dX10_copy_184
      · replace h := h.2 c_15
        refine lv_iload hx hb dX10_copy_128 (lv_at hl 6 rfl) ?_
        refine lv_if_eq (tgt := 143) hx hb dX10_copy_130 (by decide) (fun c_16 => ?_) (fun c_16 => ?_)
        · replace h := h.1 c_16
          refine lv_iload hx hb dX10_copy_143 (lv_at hl 7 rfl) ?_
          refine lv_istore (lv' := [(8, .int x7), (0, .ref o), (1, .int x1), (2, .int x2), (3, .int x3), (4, .int x4), (5, .int x5), (6, .int x6), (7, .int x7)]) hx hb dX10_copy_145 hl (by decide) rfl (fun ls hl => ?_)
          refine lv_aload_n hx hb dX10_copy_147 rfl (lv_at hl 1 rfl) ?_
          refine gM_64 C hd dX10_copy_148 ?_
          refine lv_bipush (v := 40) hx hb dX10_copy_151 (by decide) ?_
          refine lv_iload_n hx hb dX10_copy_153 rfl (lv_at hl 4 rfl) ?_
          refine lv_imul hx hb dX10_copy_154 ?_
          refine lv_iload hx hb dX10_copy_155 (lv_at hl 5 rfl) ?_
          refine lv_iadd hx hb dX10_copy_157 ?_
          refine lv_iload hx hb dX10_copy_158 (lv_at hl 0 rfl) ?_
          refine lv_iadd hx hb dX10_copy_160 ?_
          refine lv_aload_n hx hb dX10_copy_161 rfl (lv_at hl 1 rfl) ?_
          refine gM_64 C hd dX10_copy_162 ?_
          refine lv_bipush (v := 40) hx hb dX10_copy_165 (by decide) ?_
          refine lv_iload_n hx hb dX10_copy_167 rfl (lv_at hl 2 rfl) ?_
          refine lv_imul hx hb dX10_copy_168 ?_
          refine lv_iload_n hx hb dX10_copy_169 rfl (lv_at hl 3 rfl) ?_
          refine lv_iadd hx hb dX10_copy_170 ?_
          refine lv_iload hx hb dX10_copy_171 (lv_at hl 0 rfl) ?_
          refine lv_iadd hx hb dX10_copy_173 ?_
          refine ldM_64 C hd (v := k.2.1 64 ((((40 : Int32) * x1) + x2) + x7).toNatClampNeg) h.1 rfl dX10_copy_174 ?_
          replace h := h.2
          refine stM_64 C hd h.1 dX10_copy_175 (fun H locs hd => ?_)
          replace h := h.2
          refine lv_iinc (v := (x7 + (1 : Int32))) (lv' := [(7, .int (x7 + (1 : Int32))), (8, .int x7), (0, .ref o), (1, .int x1), (2, .int x2), (3, .int x3), (4, .int x4), (5, .int x5), (6, .int x6)]) hx hb dX10_copy_176 hl (k := 8) rfl rfl (by decide) rfl (fun ls hl => ?_)
          refine lv_goto (tgt := 121) hx hb dX10_copy_179 (by decide) ?_
          exact ih x1 x2 x3 x4 x5 x6 (x7 + (1 : Int32)) _ _ _ _ h hd (lv_sub hl [2, 3, 4, 5, 6, 7, 8, 0] rfl)
        · replace h := h.2 c_16
          refine lv_iload hx hb dX10_copy_133 (lv_at hl 5 rfl) ?_
          refine lv_iconst (v := 1) hx hb dX10_copy_135 (by decide) ?_
          refine lv_isub hx hb dX10_copy_136 ?_
          refine lv_iload hx hb dX10_copy_137 (lv_at hl 7 rfl) ?_
          refine lv_isub hx hb dX10_copy_139 ?_
          refine lv_goto (tgt := 145) hx hb dX10_copy_140 (by decide) ?_
          refine lv_istore (lv' := [(8, .int ((x5 - (1 : Int32)) - x7)), (0, .ref o), (1, .int x1), (2, .int x2), (3, .int x3), (4, .int x4), (5, .int x5), (6, .int x6), (7, .int x7)]) hx hb dX10_copy_145 hl (by decide) rfl (fun ls hl => ?_)
          refine lv_aload_n hx hb dX10_copy_147 rfl (lv_at hl 1 rfl) ?_
          refine gM_64 C hd dX10_copy_148 ?_
          refine lv_bipush (v := 40) hx hb dX10_copy_151 (by decide) ?_
          refine lv_iload_n hx hb dX10_copy_153 rfl (lv_at hl 4 rfl) ?_
          refine lv_imul hx hb dX10_copy_154 ?_
          refine lv_iload hx hb dX10_copy_155 (lv_at hl 5 rfl) ?_
          refine lv_iadd hx hb dX10_copy_157 ?_
          refine lv_iload hx hb dX10_copy_158 (lv_at hl 0 rfl) ?_
          refine lv_iadd hx hb dX10_copy_160 ?_
          refine lv_aload_n hx hb dX10_copy_161 rfl (lv_at hl 1 rfl) ?_
          refine gM_64 C hd dX10_copy_162 ?_
          refine lv_bipush (v := 40) hx hb dX10_copy_165 (by decide) ?_
          refine lv_iload_n hx hb dX10_copy_167 rfl (lv_at hl 2 rfl) ?_
          refine lv_imul hx hb dX10_copy_168 ?_
          refine lv_iload_n hx hb dX10_copy_169 rfl (lv_at hl 3 rfl) ?_
          refine lv_iadd hx hb dX10_copy_170 ?_
          refine lv_iload hx hb dX10_copy_171 (lv_at hl 0 rfl) ?_
          refine lv_iadd hx hb dX10_copy_173 ?_
          refine ldM_64 C hd (v := k.2.1 64 ((((40 : Int32) * x1) + x2) + ((x5 - (1 : Int32)) - x7)).toNatClampNeg) h.1 rfl dX10_copy_174 ?_
          replace h := h.2
          refine stM_64 C hd h.1 dX10_copy_175 (fun H locs hd => ?_)
          replace h := h.2
          refine lv_iinc (v := (x7 + (1 : Int32))) (lv' := [(7, .int (x7 + (1 : Int32))), (8, .int ((x5 - (1 : Int32)) - x7)), (0, .ref o), (1, .int x1), (2, .int x2), (3, .int x3), (4, .int x4), (5, .int x5), (6, .int x6)]) hx hb dX10_copy_176 hl (k := 8) rfl rfl (by decide) rfl (fun ls hl => ?_)
          refine lv_goto (tgt := 121) hx hb dX10_copy_179 (by decide) ?_
          exact ih x1 x2 x3 x4 x5 x6 (x7 + (1 : Int32)) _ _ _ _ h hd (lv_sub hl [2, 3, 4, 5, 6, 7, 8, 0] rfl)
  cases n with
  | zero => exact h.elim
  | succ n =>
    replace h : (wM_isSheet x1 k (fun r_1 k_1 => ((r_1 = 0 → Qp (-2 : Int32) k_1) ∧ (¬ r_1 = 0 → (wM_isSheet x3 k_1 (fun r_3 k_3 => ((¬ r_3 = 0 → (vp_in x1 4 ∧ (((k_3.2.1 61 x1.toNatClampNeg) = 0 → Qp (-11 : Int32) k_3) ∧ (¬ (k_3.2.1 61 x1.toNatClampNeg) = 0 → (vp_in x3 4 ∧ ((¬ (k_3.2.1 61 x3.toNatClampNeg) = 0 → (vp_in x1 4 ∧ (vp_in x3 4 ∧ (((k_3.2.1 62 x1.toNatClampNeg) = (k_3.2.1 62 x3.toNatClampNeg) → ((x5 < 0 → Qp (-12 : Int32) k_3) ∧ (¬ x5 < 0 → ((x2 < 0 → Qp (-12 : Int32) k_3) ∧ (¬ x2 < 0 → ((x4 < 0 → Qp (-12 : Int32) k_3) ∧ (¬ x4 < 0 → (vp_in x1 4 ∧ ((((k_3.2.1 63 x1.toNatClampNeg) - x5) < x2 → Qp (-12 : Int32) k_3) ∧ (¬ ((k_3.2.1 63 x1.toNatClampNeg) - x5) < x2 → (vp_in x3 4 ∧ ((x4 ≤ ((k_3.2.1 63 x3.toNatClampNeg) - x5) → ((¬ x1 = x3 → wM_copy n 1 x1 x2 x3 x4 x5 (0 : Int32) (0 : Int32) k_3 Qp) ∧ (x1 = x3 → ((x4 ≤ x2 → wM_copy n 1 x1 x2 x3 x4 x5 (0 : Int32) (0 : Int32) k_3 Qp) ∧ (¬ x4 ≤ x2 → wM_copy n 1 x1 x2 x3 x4 x5 (1 : Int32) (0 : Int32) k_3 Qp))))) ∧ (¬ x4 ≤ ((k_3.2.1 63 x3.toNatClampNeg) - x5) → Qp (-12 : Int32) k_3))))))))))))) ∧ (¬ (k_3.2.1 62 x1.toNatClampNeg) = (k_3.2.1 62 x3.toNatClampNeg) → Qp (-13 : Int32) k_3))))) ∧ ((k_3.2.1 61 x3.toNatClampNeg) = 0 → Qp (-11 : Int32) k_3))))))) ∧ (r_3 = 0 → Qp (-2 : Int32) k_3)))))))) := h
    refine lv_iload_n hx hb dX10_copy_0 rfl (lv_at hl 1 rfl) ?_
    refine xs_z C hd kwRX10_X10_isSheet (cM_isSheet _ h) ⟨rfl, rfl⟩ ⟨by decide, by decide⟩ hl.1 rfl rfl (Nat.le_of_ble_eq_true rfl) ⟨Nat.zero_le _, Nat.zero_le _⟩ dX10_copy_1 (fun r_1 k_1 H locs hz_1 h hd => ?_)
    refine lv_if_eq (tgt := 14) hx hb dX10_copy_4 (by decide) (fun c_2 => ?_) (fun c_2 => ?_)
    · replace h := h.1 c_2
      refine lv_bipush (v := -2) hx hb dX10_copy_14 (by decide) ?_
      exact ret hd h dX10_copy_16
    · replace h := h.2 c_2
      refine lv_iload_n hx hb dX10_copy_7 rfl (lv_at hl 3 rfl) ?_
      refine xs_z C hd kwRX10_X10_isSheet (cM_isSheet _ h) ⟨rfl, rfl⟩ ⟨by decide, by decide⟩ hl.1 rfl rfl (Nat.le_of_ble_eq_true rfl) ⟨Nat.zero_le _, Nat.zero_le _⟩ dX10_copy_8 (fun r_3 k_3 H locs hz_3 h hd => ?_)
      refine lv_if_ne (tgt := 17) hx hb dX10_copy_11 (by decide) (fun c_4 => ?_) (fun c_4 => ?_)
      · replace h := h.1 c_4
        refine lv_aload_n hx hb dX10_copy_17 rfl (lv_at hl 0 rfl) ?_
        refine gM_61 C hd dX10_copy_18 ?_
        refine lv_iload_n hx hb dX10_copy_21 rfl (lv_at hl 1 rfl) ?_
        refine ldM_61 C hd (v := k_3.2.1 61 x1.toNatClampNeg) h.1 rfl dX10_copy_22 ?_
        replace h := h.2
        refine lv_if_eq (tgt := 35) hx hb dX10_copy_23 (by decide) (fun c_5 => ?_) (fun c_5 => ?_)
        · replace h := h.1 c_5
          refine lv_bipush (v := -11) hx hb dX10_copy_35 (by decide) ?_
          exact ret hd h dX10_copy_37
        · replace h := h.2 c_5
          refine lv_aload_n hx hb dX10_copy_26 rfl (lv_at hl 0 rfl) ?_
          refine gM_61 C hd dX10_copy_27 ?_
          refine lv_iload_n hx hb dX10_copy_30 rfl (lv_at hl 3 rfl) ?_
          refine ldM_61 C hd (v := k_3.2.1 61 x3.toNatClampNeg) h.1 rfl dX10_copy_31 ?_
          replace h := h.2
          refine lv_if_ne (tgt := 38) hx hb dX10_copy_32 (by decide) (fun c_6 => ?_) (fun c_6 => ?_)
          · replace h := h.1 c_6
            refine lv_aload_n hx hb dX10_copy_38 rfl (lv_at hl 0 rfl) ?_
            refine gM_62 C hd dX10_copy_39 ?_
            refine lv_iload_n hx hb dX10_copy_42 rfl (lv_at hl 1 rfl) ?_
            refine ldM_62 C hd (v := k_3.2.1 62 x1.toNatClampNeg) h.1 rfl dX10_copy_43 ?_
            replace h := h.2
            refine lv_aload_n hx hb dX10_copy_44 rfl (lv_at hl 0 rfl) ?_
            refine gM_62 C hd dX10_copy_45 ?_
            refine lv_iload_n hx hb dX10_copy_48 rfl (lv_at hl 3 rfl) ?_
            refine ldM_62 C hd (v := k_3.2.1 62 x3.toNatClampNeg) h.1 rfl dX10_copy_49 ?_
            replace h := h.2
            refine lv_icmp_eq (tgt := 56) hx hb dX10_copy_50 (by decide) (fun c_7 => ?_) (fun c_7 => ?_)
            · replace h := h.1 c_7
              refine lv_iload hx hb dX10_copy_56 (lv_at hl 5 rfl) ?_
              refine lv_if_lt (tgt := 97) hx hb dX10_copy_58 (by decide) (fun c_8 => ?_) (fun c_8 => ?_)
              · replace h := h.1 c_8
                refine lv_bipush (v := -12) hx hb dX10_copy_97 (by decide) ?_
                exact ret hd h dX10_copy_99
              · replace h := h.2 c_8
                refine lv_iload_n hx hb dX10_copy_61 rfl (lv_at hl 2 rfl) ?_
                refine lv_if_lt (tgt := 97) hx hb dX10_copy_62 (by decide) (fun c_9 => ?_) (fun c_9 => ?_)
                · replace h := h.1 c_9
                  refine lv_bipush (v := -12) hx hb dX10_copy_97 (by decide) ?_
                  exact ret hd h dX10_copy_99
                · replace h := h.2 c_9
                  refine lv_iload hx hb dX10_copy_65 (lv_at hl 4 rfl) ?_
                  refine lv_if_lt (tgt := 97) hx hb dX10_copy_67 (by decide) (fun c_10 => ?_) (fun c_10 => ?_)
                  · replace h := h.1 c_10
                    refine lv_bipush (v := -12) hx hb dX10_copy_97 (by decide) ?_
                    exact ret hd h dX10_copy_99
                  · replace h := h.2 c_10
                    refine lv_iload_n hx hb dX10_copy_70 rfl (lv_at hl 2 rfl) ?_
                    refine lv_aload_n hx hb dX10_copy_71 rfl (lv_at hl 0 rfl) ?_
                    refine gM_63 C hd dX10_copy_72 ?_
                    refine lv_iload_n hx hb dX10_copy_75 rfl (lv_at hl 1 rfl) ?_
                    refine ldM_63 C hd (v := k_3.2.1 63 x1.toNatClampNeg) h.1 rfl dX10_copy_76 ?_
                    replace h := h.2
                    refine lv_iload hx hb dX10_copy_77 (lv_at hl 5 rfl) ?_
                    refine lv_isub hx hb dX10_copy_79 ?_
                    refine lv_icmp_gt (tgt := 97) hx hb dX10_copy_80 (by decide) (fun c_11 => ?_) (fun c_11 => ?_)
                    · replace h := h.1 c_11
                      refine lv_bipush (v := -12) hx hb dX10_copy_97 (by decide) ?_
                      exact ret hd h dX10_copy_99
                    · replace h := h.2 c_11
                      refine lv_iload hx hb dX10_copy_83 (lv_at hl 4 rfl) ?_
                      refine lv_aload_n hx hb dX10_copy_85 rfl (lv_at hl 0 rfl) ?_
                      refine gM_63 C hd dX10_copy_86 ?_
                      refine lv_iload_n hx hb dX10_copy_89 rfl (lv_at hl 3 rfl) ?_
                      refine ldM_63 C hd (v := k_3.2.1 63 x3.toNatClampNeg) h.1 rfl dX10_copy_90 ?_
                      replace h := h.2
                      refine lv_iload hx hb dX10_copy_91 (lv_at hl 5 rfl) ?_
                      refine lv_isub hx hb dX10_copy_93 ?_
                      refine lv_icmp_le (tgt := 100) hx hb dX10_copy_94 (by decide) (fun c_12 => ?_) (fun c_12 => ?_)
                      · replace h := h.1 c_12
                        refine lv_iload_n hx hb dX10_copy_100 rfl (lv_at hl 1 rfl) ?_
                        refine lv_iload_n hx hb dX10_copy_101 rfl (lv_at hl 3 rfl) ?_
                        refine lv_icmp_ne (tgt := 115) hx hb dX10_copy_102 (by decide) (fun c_13 => ?_) (fun c_13 => ?_)
                        · replace h := h.1 c_13
                          refine lv_iconst (v := 0) hx hb dX10_copy_115 (by decide) ?_
                          refine lv_istore (lv' := [(6, .int (0 : Int32)), (0, .ref o), (1, .int x1), (2, .int x2), (3, .int x3), (4, .int x4), (5, .int x5)]) hx hb dX10_copy_116 hl (by decide) rfl (fun ls hl => ?_)
                          refine lv_iconst (v := 0) hx hb dX10_copy_118 (by decide) ?_
                          refine lv_istore (lv' := [(7, .int (0 : Int32)), (6, .int (0 : Int32)), (0, .ref o), (1, .int x1), (2, .int x2), (3, .int x3), (4, .int x4), (5, .int x5)]) hx hb dX10_copy_119 hl (by decide) rfl (fun ls hl => ?_)
                          exact L n x1 x2 x3 x4 x5 (0 : Int32) (0 : Int32) _ _ _ _ h hd (lv_sub hl [2, 3, 4, 5, 6, 7, 1, 0] rfl)
                        · replace h := h.2 c_13
                          refine lv_iload_n hx hb dX10_copy_105 rfl (lv_at hl 2 rfl) ?_
                          refine lv_iload hx hb dX10_copy_106 (lv_at hl 4 rfl) ?_
                          refine lv_icmp_ge (tgt := 115) hx hb dX10_copy_108 (by decide) (fun c_14 => ?_) (fun c_14 => ?_)
                          · replace h := h.1 c_14
                            refine lv_iconst (v := 0) hx hb dX10_copy_115 (by decide) ?_
                            refine lv_istore (lv' := [(6, .int (0 : Int32)), (0, .ref o), (1, .int x1), (2, .int x2), (3, .int x3), (4, .int x4), (5, .int x5)]) hx hb dX10_copy_116 hl (by decide) rfl (fun ls hl => ?_)
                            refine lv_iconst (v := 0) hx hb dX10_copy_118 (by decide) ?_
                            refine lv_istore (lv' := [(7, .int (0 : Int32)), (6, .int (0 : Int32)), (0, .ref o), (1, .int x1), (2, .int x2), (3, .int x3), (4, .int x4), (5, .int x5)]) hx hb dX10_copy_119 hl (by decide) rfl (fun ls hl => ?_)
                            exact L n x1 x2 x3 x4 x5 (0 : Int32) (0 : Int32) _ _ _ _ h hd (lv_sub hl [2, 3, 4, 5, 6, 7, 1, 0] rfl)
                          · replace h := h.2 c_14
                            refine lv_iconst (v := 1) hx hb dX10_copy_111 (by decide) ?_
                            refine lv_goto (tgt := 116) hx hb dX10_copy_112 (by decide) ?_
                            refine lv_istore (lv' := [(6, .int (1 : Int32)), (0, .ref o), (1, .int x1), (2, .int x2), (3, .int x3), (4, .int x4), (5, .int x5)]) hx hb dX10_copy_116 hl (by decide) rfl (fun ls hl => ?_)
                            refine lv_iconst (v := 0) hx hb dX10_copy_118 (by decide) ?_
                            refine lv_istore (lv' := [(7, .int (0 : Int32)), (6, .int (1 : Int32)), (0, .ref o), (1, .int x1), (2, .int x2), (3, .int x3), (4, .int x4), (5, .int x5)]) hx hb dX10_copy_119 hl (by decide) rfl (fun ls hl => ?_)
                            exact L n x1 x2 x3 x4 x5 (1 : Int32) (0 : Int32) _ _ _ _ h hd (lv_sub hl [2, 3, 4, 5, 6, 7, 1, 0] rfl)
                      · replace h := h.2 c_12
                        refine lv_bipush (v := -12) hx hb dX10_copy_97 (by decide) ?_
                        exact ret hd h dX10_copy_99
            · replace h := h.2 c_7
              refine lv_bipush (v := -13) hx hb dX10_copy_53 (by decide) ?_
              exact ret hd h dX10_copy_55
          · replace h := h.2 c_6
            refine lv_bipush (v := -11) hx hb dX10_copy_35 (by decide) ?_
            exact ret hd h dX10_copy_37
      · replace h := h.2 c_4
        refine lv_bipush (v := -2) hx hb dX10_copy_14 (by decide) ?_
        exact ret hd h dX10_copy_16
def wM_trialsOfAll  (k : GM) (Q : Int32 → GM → Prop) : Prop := Q ((((k.2.1 35 0) + (k.2.1 35 1)) + (k.2.1 35 2)) + (k.2.1 35 3)) k
set_option maxHeartbeats 4000000 in
set_option maxRecDepth 100000 in
theorem cM_trialsOfAll {l : Launch} {D : va_G} {o : Nat} {a : Nat → Nat} {g : Nat → ClassId} {k : GM} {Qp : Int32 → GM → Prop}  (h : wM_trialsOfAll k Qp) : Ci l D (tyA g) (wM o a g) yX10_trialsOfAll cX10_trialsOfAll 1 ({ frames := 0, cells := 0, slots := 0, locals := 0 }) [.ref o] k Qp := by
  refine Ci_of (by decide) (Nat.le_of_ble_eq_true rfl) ?_
  intro p e s m args below meth c A Z ls C ret hd hl
  have hx := C.1
  have hb := C.2.1
  have hl : lv_has ls 1 [(0, .ref o)] := hl
  replace h : Qp ((((k.2.1 35 0) + (k.2.1 35 1)) + (k.2.1 35 2)) + (k.2.1 35 3)) k := h
  refine lv_aload_n hx hb dX10_trialsOfAll_0 rfl (lv_at hl 0 rfl) ?_
  refine gM_35 C hd dX10_trialsOfAll_1 ?_
  refine lv_iconst (v := 0) hx hb dX10_trialsOfAll_4 (by decide) ?_
  refine ldM_35 C hd (v := k.2.1 35 0) (by unfold vp_in; decide) rfl dX10_trialsOfAll_5 ?_
  refine lv_aload_n hx hb dX10_trialsOfAll_6 rfl (lv_at hl 0 rfl) ?_
  refine gM_35 C hd dX10_trialsOfAll_7 ?_
  refine lv_iconst (v := 1) hx hb dX10_trialsOfAll_10 (by decide) ?_
  refine ldM_35 C hd (v := k.2.1 35 1) (by unfold vp_in; decide) rfl dX10_trialsOfAll_11 ?_
  refine lv_iadd hx hb dX10_trialsOfAll_12 ?_
  refine lv_aload_n hx hb dX10_trialsOfAll_13 rfl (lv_at hl 0 rfl) ?_
  refine gM_35 C hd dX10_trialsOfAll_14 ?_
  refine lv_iconst (v := 2) hx hb dX10_trialsOfAll_17 (by decide) ?_
  refine ldM_35 C hd (v := k.2.1 35 2) (by unfold vp_in; decide) rfl dX10_trialsOfAll_18 ?_
  refine lv_iadd hx hb dX10_trialsOfAll_19 ?_
  refine lv_aload_n hx hb dX10_trialsOfAll_20 rfl (lv_at hl 0 rfl) ?_
  refine gM_35 C hd dX10_trialsOfAll_21 ?_
  refine lv_iconst (v := 3) hx hb dX10_trialsOfAll_24 (by decide) ?_
  refine ldM_35 C hd (v := k.2.1 35 3) (by unfold vp_in; decide) rfl dX10_trialsOfAll_25 ?_
  refine lv_iadd hx hb dX10_trialsOfAll_26 ?_
  exact ret hd h dX10_trialsOfAll_27
def wM_count (x1 : Int32) (k : GM) (Q : Int32 → GM → Prop) : Prop := ((x1 = (0 : Int32) → Q (k.1 10) k) ∧ (x1 = (1 : Int32) → Q (k.1 15) k) ∧ (x1 = (2 : Int32) → Q (k.1 33) k) ∧ (x1 = (3 : Int32) → Q (k.1 3) k) ∧ (x1 = (4 : Int32) → Q (k.1 6) k) ∧ (x1 = (5 : Int32) → Q (k.1 4) k) ∧ (x1 = (6 : Int32) → Q (k.1 46) k) ∧ (x1 = (7 : Int32) → (wM_trialsOfAll k (fun r_2 k_2 => Q r_2 k_2))) ∧ (x1 = (8 : Int32) → Q (k.1 14) k) ∧ (¬ x1 = (0 : Int32) → ¬ x1 = (1 : Int32) → ¬ x1 = (2 : Int32) → ¬ x1 = (3 : Int32) → ¬ x1 = (4 : Int32) → ¬ x1 = (5 : Int32) → ¬ x1 = (6 : Int32) → ¬ x1 = (7 : Int32) → ¬ x1 = (8 : Int32) → Q (-2 : Int32) k))
set_option maxHeartbeats 4000000 in
set_option maxRecDepth 100000 in
theorem cM_count {l : Launch} {D : va_G} {o : Nat} {a : Nat → Nat} {g : Nat → ClassId} {k : GM} {Qp : Int32 → GM → Prop} (x1 : Int32) (h : wM_count x1 k Qp) : Ci l D (tyA g) (wM o a g) yX10_count cX10_count 2 ({ frames := 1, cells := 0, slots := 0, locals := 20 }) [.ref o, .int x1] k Qp := by
  refine Ci_of (by decide) (Nat.le_of_ble_eq_true rfl) ?_
  intro p e s m args below meth c A Z ls C ret hd hl
  have hx := C.1
  have hb := C.2.1
  have hl : lv_has ls 2 [(0, .ref o), (1, .int x1)] := hl
  replace h : ((x1 = (0 : Int32) → Qp (k.1 10) k) ∧ (x1 = (1 : Int32) → Qp (k.1 15) k) ∧ (x1 = (2 : Int32) → Qp (k.1 33) k) ∧ (x1 = (3 : Int32) → Qp (k.1 3) k) ∧ (x1 = (4 : Int32) → Qp (k.1 6) k) ∧ (x1 = (5 : Int32) → Qp (k.1 4) k) ∧ (x1 = (6 : Int32) → Qp (k.1 46) k) ∧ (x1 = (7 : Int32) → (wM_trialsOfAll k (fun r_2 k_2 => Qp r_2 k_2))) ∧ (x1 = (8 : Int32) → Qp (k.1 14) k) ∧ (¬ x1 = (0 : Int32) → ¬ x1 = (1 : Int32) → ¬ x1 = (2 : Int32) → ¬ x1 = (3 : Int32) → ¬ x1 = (4 : Int32) → ¬ x1 = (5 : Int32) → ¬ x1 = (6 : Int32) → ¬ x1 = (7 : Int32) → ¬ x1 = (8 : Int32) → Qp (-2 : Int32) k)) := h
  refine lv_iload_n hx hb dX10_count_0 rfl (lv_at hl 1 rfl) ?_
  by_cases e_1_0 : x1 = (0 : Int32)
  · replace h := h.1 e_1_0
    refine lv_tableIn (off := 51) (tgt := 52) hx hb dX10_count_1 (by rw [e_1_0]; decide) (by rw [e_1_0]; decide) (by rw [e_1_0]; rfl) (by decide) ?_
    refine lv_aload_n hx hb dX10_count_52 rfl (lv_at hl 0 rfl) ?_
    refine gM_10 C hd (v := k.1 10) rfl dX10_count_53 ?_
    exact ret hd h dX10_count_56
  · by_cases e_1_1 : x1 = (1 : Int32)
    · replace h := h.2.1 e_1_1
      refine lv_tableIn (off := 56) (tgt := 57) hx hb dX10_count_1 (by rw [e_1_1]; decide) (by rw [e_1_1]; decide) (by rw [e_1_1]; rfl) (by decide) ?_
      refine lv_aload_n hx hb dX10_count_57 rfl (lv_at hl 0 rfl) ?_
      refine gM_15 C hd (v := k.1 15) rfl dX10_count_58 ?_
      exact ret hd h dX10_count_61
    · by_cases e_1_2 : x1 = (2 : Int32)
      · replace h := h.2.2.1 e_1_2
        refine lv_tableIn (off := 61) (tgt := 62) hx hb dX10_count_1 (by rw [e_1_2]; decide) (by rw [e_1_2]; decide) (by rw [e_1_2]; rfl) (by decide) ?_
        refine lv_aload_n hx hb dX10_count_62 rfl (lv_at hl 0 rfl) ?_
        refine gM_33 C hd (v := k.1 33) rfl dX10_count_63 ?_
        exact ret hd h dX10_count_66
      · by_cases e_1_3 : x1 = (3 : Int32)
        · replace h := h.2.2.2.1 e_1_3
          refine lv_tableIn (off := 66) (tgt := 67) hx hb dX10_count_1 (by rw [e_1_3]; decide) (by rw [e_1_3]; decide) (by rw [e_1_3]; rfl) (by decide) ?_
          refine lv_aload_n hx hb dX10_count_67 rfl (lv_at hl 0 rfl) ?_
          refine gM_3 C hd (v := k.1 3) rfl dX10_count_68 ?_
          exact ret hd h dX10_count_71
        · by_cases e_1_4 : x1 = (4 : Int32)
          · replace h := h.2.2.2.2.1 e_1_4
            refine lv_tableIn (off := 71) (tgt := 72) hx hb dX10_count_1 (by rw [e_1_4]; decide) (by rw [e_1_4]; decide) (by rw [e_1_4]; rfl) (by decide) ?_
            refine lv_aload_n hx hb dX10_count_72 rfl (lv_at hl 0 rfl) ?_
            refine gM_6 C hd (v := k.1 6) rfl dX10_count_73 ?_
            exact ret hd h dX10_count_76
          · by_cases e_1_5 : x1 = (5 : Int32)
            · replace h := h.2.2.2.2.2.1 e_1_5
              refine lv_tableIn (off := 76) (tgt := 77) hx hb dX10_count_1 (by rw [e_1_5]; decide) (by rw [e_1_5]; decide) (by rw [e_1_5]; rfl) (by decide) ?_
              refine lv_aload_n hx hb dX10_count_77 rfl (lv_at hl 0 rfl) ?_
              refine gM_4 C hd (v := k.1 4) rfl dX10_count_78 ?_
              exact ret hd h dX10_count_81
            · by_cases e_1_6 : x1 = (6 : Int32)
              · replace h := h.2.2.2.2.2.2.1 e_1_6
                refine lv_tableIn (off := 81) (tgt := 82) hx hb dX10_count_1 (by rw [e_1_6]; decide) (by rw [e_1_6]; decide) (by rw [e_1_6]; rfl) (by decide) ?_
                refine lv_aload_n hx hb dX10_count_82 rfl (lv_at hl 0 rfl) ?_
                refine gM_46 C hd (v := k.1 46) rfl dX10_count_83 ?_
                exact ret hd h dX10_count_86
              · by_cases e_1_7 : x1 = (7 : Int32)
                · replace h := h.2.2.2.2.2.2.2.1 e_1_7
                  refine lv_tableIn (off := 86) (tgt := 87) hx hb dX10_count_1 (by rw [e_1_7]; decide) (by rw [e_1_7]; decide) (by rw [e_1_7]; rfl) (by decide) ?_
                  refine lv_aload_n hx hb dX10_count_87 rfl (lv_at hl 0 rfl) ?_
                  refine xv_i C hd kwRX10_X10_trialsOfAll (cM_trialsOfAll h) ⟨rfl, rfl⟩ ⟨by decide, by decide⟩ wM_rcv hl.1 rfl rfl (Nat.le_of_ble_eq_true rfl) ⟨Nat.zero_le _, Nat.zero_le _⟩ dX10_count_88 (fun r_2 k_2 H locs h hd => ?_)
                  exact ret hd h dX10_count_91
                · by_cases e_1_8 : x1 = (8 : Int32)
                  · replace h := h.2.2.2.2.2.2.2.2.1 e_1_8
                    refine lv_tableIn (off := 91) (tgt := 92) hx hb dX10_count_1 (by rw [e_1_8]; decide) (by rw [e_1_8]; decide) (by rw [e_1_8]; rfl) (by decide) ?_
                    refine lv_aload_n hx hb dX10_count_92 rfl (lv_at hl 0 rfl) ?_
                    refine gM_14 C hd (v := k.1 14) rfl dX10_count_93 ?_
                    exact ret hd h dX10_count_96
                  · replace h := h.2.2.2.2.2.2.2.2.2 e_1_0 e_1_1 e_1_2 e_1_3 e_1_4 e_1_5 e_1_6 e_1_7 e_1_8
                    refine lv_tableOut (tgt := 97) hx hb dX10_count_1 (by have n_0 := lv_neT (a := 0) e_1_0 (by decide); have n_1 := lv_neT (a := 1) e_1_1 (by decide); have n_2 := lv_neT (a := 2) e_1_2 (by decide); have n_3 := lv_neT (a := 3) e_1_3 (by decide); have n_4 := lv_neT (a := 4) e_1_4 (by decide); have n_5 := lv_neT (a := 5) e_1_5 (by decide); have n_6 := lv_neT (a := 6) e_1_6 (by decide); have n_7 := lv_neT (a := 7) e_1_7 (by decide); have n_8 := lv_neT (a := 8) e_1_8 (by decide); omega) (by decide) ?_
                    refine lv_bipush (v := -2) hx hb dX10_count_97 (by decide) ?_
                    exact ret hd h dX10_count_99
def wM_isOne (x1 : Int32) (k : GM) (Q : Int32 → GM → Prop) : Prop := (wM_in x1.toInt64 (0 : Int64) (((k.1 10) - (1 : Int32)).toInt64) k (fun r_1 k_1 => Q r_1 k_1))
set_option maxHeartbeats 4000000 in
set_option maxRecDepth 100000 in
theorem cM_isOne {l : Launch} {D : va_G} {o : Nat} {a : Nat → Nat} {g : Nat → ClassId} {k : GM} {Qp : Int32 → GM → Prop} (x1 : Int32) (h : wM_isOne x1 k Qp) : Cz l D (tyA g) (wM o a g) yX10_isOne cX10_isOne 2 ({ frames := 1, cells := 0, slots := 0, locals := 25 }) [.ref o, .int x1] k Qp := by
  refine Cz_of (by decide) (Nat.le_of_ble_eq_true rfl) ?_
  intro p e s m args below meth c A Z ls C ret hd hl
  have hx := C.1
  have hb := C.2.1
  have hl : lv_has ls 2 [(0, .ref o), (1, .int x1)] := hl
  replace h : (wM_in x1.toInt64 (0 : Int64) (((k.1 10) - (1 : Int32)).toInt64) k (fun r_1 k_1 => Qp r_1 k_1)) := h
  refine lv_iload_n hx hb dX10_isOne_0 rfl (lv_at hl 1 rfl) ?_
  refine lv_i2l (v := x1.toInt64) hx hb dX10_isOne_1 rfl ?_
  refine lv_lconst (v := 0) hx hb dX10_isOne_2 (by decide) ?_
  refine lv_aload_n hx hb dX10_isOne_3 rfl (lv_at hl 0 rfl) ?_
  refine gM_10 C hd (v := k.1 10) rfl dX10_isOne_4 ?_
  refine lv_iconst (v := 1) hx hb dX10_isOne_7 (by decide) ?_
  refine lv_isub hx hb dX10_isOne_8 ?_
  refine lv_i2l (v := ((k.1 10) - (1 : Int32)).toInt64) hx hb dX10_isOne_9 rfl ?_
  refine xs_z C hd kwRX10_X10_in (cM_in _ _ _ h) ⟨rfl, rfl⟩ ⟨by decide, by decide⟩ hl.1 rfl rfl (Nat.le_of_ble_eq_true rfl) ⟨Nat.zero_le _, Nat.zero_le _⟩ dX10_isOne_10 (fun r_1 k_1 H locs hz_1 h hd => ?_)
  exact ret hd hz_1 h dX10_isOne_13
def wM_counted  : Nat → Nat → Int32 → Int32 → Int32 → Int64 → Int32 → Int64 → Int64 → Int64 → GM → (Int64 → GM → Prop) → Prop
  | 0, _, _, _, _, _, _, _, _, _, _, _ => False
  | n + 1, c, x1, x2, x3, x4l, x6, x6l, x8l, x10l, k, Q => match c with
    | 0 => (wM_isOne x1 k (fun r_1 k_1 => ((r_1 = 0 → Q (-4611686018427387904 : Int64) k_1) ∧ (¬ r_1 = 0 → (wM_in x2.toInt64 (0 : Int64) (3 : Int64) k_1 (fun r_3 k_3 => ((r_3 = 0 → Q (-4611686018427387904 : Int64) k_3) ∧ (¬ r_3 = 0 → (wM_in x3.toInt64 (0 : Int64) (1 : Int64) k_3 (fun r_5 k_5 => ((¬ r_5 = 0 → wM_counted n 1 x1 x2 x3 (0 : Int64) (0 : Int32) 0 0 0 k_5 Q) ∧ (r_5 = 0 → Q (-4611686018427387904 : Int64) k_5))))))))))))
    | 1 => (((4 : Int32) ≤ x6 → (wM_trialsOfAll k (fun r_8 k_8 => (vp_in (((4 : Int32) * x1) + x2) 32 ∧ (vp_in x2 4 ∧ (∀ v_9 : Int64, v_9 = (((k_8.2.1 35 x2.toNatClampNeg).toInt64) - ((k_8.2.1 36 (((4 : Int32) * x1) + x2).toNatClampNeg).toInt64)) → ((¬ (lg_cmp x4l (0 : Int64)) = 0 → ((¬ (lg_cmp (r_8.toInt64 - x4l) (0 : Int64)) = 0 → wM_counted n 2 0 0 x3 x4l 0 (r_8.toInt64 - x4l) ((k_8.2.1 36 (((4 : Int32) * x1) + x2).toNatClampNeg).toInt64) v_9 k_8 Q) ∧ ((lg_cmp (r_8.toInt64 - x4l) (0 : Int64)) = 0 → wM_counted n 2 0 0 x3 x4l 0 (1 : Int64) ((k_8.2.1 36 (((4 : Int32) * x1) + x2).toNatClampNeg).toInt64) (0 : Int64) k_8 Q))) ∧ ((lg_cmp x4l (0 : Int64)) = 0 → ((¬ (lg_cmp (r_8.toInt64 - x4l) (0 : Int64)) = 0 → wM_counted n 2 0 0 x3 (1 : Int64) 0 (r_8.toInt64 - x4l) (0 : Int64) v_9 k_8 Q) ∧ ((lg_cmp (r_8.toInt64 - x4l) (0 : Int64)) = 0 → wM_counted n 2 0 0 x3 (1 : Int64) 0 (1 : Int64) (0 : Int64) (0 : Int64) k_8 Q)))))))))) ∧ (¬ (4 : Int32) ≤ x6 → (vp_in (((4 : Int32) * x1) + x6) 32 ∧ (∀ v_13 : Int64, v_13 = (x4l + ((k.2.1 36 (((4 : Int32) * x1) + x6).toNatClampNeg).toInt64)) → wM_counted n 1 x1 x2 x3 v_13 (x6 + (1 : Int32)) 0 0 0 k Q))))
    | _ => (∃ n_14 : Nat, wM_common n_14 0 ((x8l * x6l) - (x10l * x4l)) (x4l * x6l) 0 0 k (fun r_14 k_14 => ((¬ x3 = 0 → (¬ r_14 = 0 ∧ Q ((x4l * x6l) / r_14) k_14)) ∧ (x3 = 0 → (¬ r_14 = 0 ∧ Q (((x8l * x6l) - (x10l * x4l)) / r_14) k_14)))))
set_option maxHeartbeats 4000000 in
set_option maxRecDepth 100000 in
theorem cM_counted {l : Launch} {D : va_G} {o : Nat} {a : Nat → Nat} {g : Nat → ClassId} {k : GM} {Qp : Int64 → GM → Prop} (n : Nat) (x1 : Int32) (x2 : Int32) (x3 : Int32) (h : wM_counted n 0 x1 x2 x3 0 0 0 0 0 k Qp) : Cl l D (tyA g) (wM o a g) yX10_counted cX10_counted 18 ({ frames := 2, cells := 0, slots := 0, locals := 46 }) [.ref o, .int x1, .int x2, .int x3] k Qp := by
  refine Cl_of (by decide) (Nat.le_of_ble_eq_true rfl) ?_
  intro p e s m args below meth c A Z ls C ret hd hl
  have hx := C.1
  have hb := C.2.1
  have hl : lv_has ls 18 [(0, .ref o), (1, .int x1), (2, .int x2), (3, .int x3)] := hl
  have L : ∀ n : Nat, (∀ (x1 : Int32) (x2 : Int32) (x3 : Int32) (x4l : Int64) (x6 : Int32) (k : GM) (H : Heap) (locs : List Loc) (ls : Array Slot), wM_counted n 1 x1 x2 x3 x4l x6 0 0 0 k Qp → Hd D (wM o a g k) A s H locs → lv_has ls 18 [(0, .ref o), (1, .int x1), (2, .int x2), (3, .int x3), (4, .long x4l), (6, .int x6)] → W p l e ({ frames := 2, cells := 0, slots := 0, locals := 46 }) s m args below meth c H locs 0 0 Z (F0 m 40 ls [])) ∧ (∀ (x3 : Int32) (x4l : Int64) (x6l : Int64) (x8l : Int64) (x10l : Int64) (k : GM) (H : Heap) (locs : List Loc) (ls : Array Slot), wM_counted n 2 0 0 x3 x4l 0 x6l x8l x10l k Qp → Hd D (wM o a g k) A s H locs → lv_has ls 18 [(3, .int x3), (4, .long x4l), (6, .long x6l), (8, .long x8l), (10, .long x10l)] → W p l e ({ frames := 2, cells := 0, slots := 0, locals := 46 }) s m args below meth c H locs 0 0 Z (F0 m 130 ls [])) := by
    intro n
    induction n with
    | zero => exact ⟨fun _ _ _ _ _ _ _ _ _ h => h.elim, fun _ _ _ _ _ _ _ _ _ h => h.elim⟩
    | succ n ih =>
      refine ⟨?_, ?_⟩
      · intro x1 x2 x3 x4l x6 k H locs ls h hd hl
        replace h : (((4 : Int32) ≤ x6 → (wM_trialsOfAll k (fun r_8 k_8 => (vp_in (((4 : Int32) * x1) + x2) 32 ∧ (vp_in x2 4 ∧ (∀ v_9 : Int64, v_9 = (((k_8.2.1 35 x2.toNatClampNeg).toInt64) - ((k_8.2.1 36 (((4 : Int32) * x1) + x2).toNatClampNeg).toInt64)) → ((¬ (lg_cmp x4l (0 : Int64)) = 0 → ((¬ (lg_cmp (r_8.toInt64 - x4l) (0 : Int64)) = 0 → wM_counted n 2 0 0 x3 x4l 0 (r_8.toInt64 - x4l) ((k_8.2.1 36 (((4 : Int32) * x1) + x2).toNatClampNeg).toInt64) v_9 k_8 Qp) ∧ ((lg_cmp (r_8.toInt64 - x4l) (0 : Int64)) = 0 → wM_counted n 2 0 0 x3 x4l 0 (1 : Int64) ((k_8.2.1 36 (((4 : Int32) * x1) + x2).toNatClampNeg).toInt64) (0 : Int64) k_8 Qp))) ∧ ((lg_cmp x4l (0 : Int64)) = 0 → ((¬ (lg_cmp (r_8.toInt64 - x4l) (0 : Int64)) = 0 → wM_counted n 2 0 0 x3 (1 : Int64) 0 (r_8.toInt64 - x4l) (0 : Int64) v_9 k_8 Qp) ∧ ((lg_cmp (r_8.toInt64 - x4l) (0 : Int64)) = 0 → wM_counted n 2 0 0 x3 (1 : Int64) 0 (1 : Int64) (0 : Int64) (0 : Int64) k_8 Qp)))))))))) ∧ (¬ (4 : Int32) ≤ x6 → (vp_in (((4 : Int32) * x1) + x6) 32 ∧ (∀ v_13 : Int64, v_13 = (x4l + ((k.2.1 36 (((4 : Int32) * x1) + x6).toNatClampNeg).toInt64)) → wM_counted n 1 x1 x2 x3 v_13 (x6 + (1 : Int32)) 0 0 0 k Qp)))) := h
        refine lv_iload hx hb dX10_counted_40 (lv_at hl 5 rfl) ?_
        refine lv_iconst (v := 4) hx hb dX10_counted_42 (by decide) ?_
        refine lv_icmp_ge (tgt := 69) hx hb dX10_counted_43 (by decide) (fun c_7 => ?_) (fun c_7 => ?_)
        · replace h := h.1 c_7
          refine lv_aload_n hx hb dX10_counted_69 rfl (lv_at hl 0 rfl) ?_
          refine xv_i C hd kwRX10_X10_trialsOfAll (cM_trialsOfAll h) ⟨rfl, rfl⟩ ⟨by decide, by decide⟩ wM_rcv hl.1 rfl rfl (Nat.le_of_ble_eq_true rfl) ⟨Nat.zero_le _, Nat.zero_le _⟩ dX10_counted_70 (fun r_8 k_8 H locs h hd => ?_)
          refine lv_i2l (v := r_8.toInt64) hx hb dX10_counted_73 rfl ?_
          refine lv_lload hx hb dX10_counted_74 (lv_at hl 4 rfl) ?_
          refine lv_lsub hx hb dX10_counted_76 ?_
          refine lv_lstore (lv' := [(6, .long (r_8.toInt64 - x4l)), (0, .ref o), (1, .int x1), (2, .int x2), (3, .int x3), (4, .long x4l)]) hx hb dX10_counted_77 hl (by decide) rfl (fun ls hl => ?_)
          refine lv_aload_n hx hb dX10_counted_79 rfl (lv_at hl 1 rfl) ?_
          refine gM_36 C hd dX10_counted_80 ?_
          refine lv_iconst (v := 4) hx hb dX10_counted_83 (by decide) ?_
          refine lv_iload_n hx hb dX10_counted_84 rfl (lv_at hl 2 rfl) ?_
          refine lv_imul hx hb dX10_counted_85 ?_
          refine lv_iload_n hx hb dX10_counted_86 rfl (lv_at hl 3 rfl) ?_
          refine lv_iadd hx hb dX10_counted_87 ?_
          refine ldM_36 C hd (v := k_8.2.1 36 (((4 : Int32) * x1) + x2).toNatClampNeg) h.1 rfl dX10_counted_88 ?_
          replace h := h.2
          refine lv_i2l (v := (k_8.2.1 36 (((4 : Int32) * x1) + x2).toNatClampNeg).toInt64) hx hb dX10_counted_89 rfl ?_
          refine lv_lstore (lv' := [(8, .long ((k_8.2.1 36 (((4 : Int32) * x1) + x2).toNatClampNeg).toInt64)), (6, .long (r_8.toInt64 - x4l)), (0, .ref o), (1, .int x1), (2, .int x2), (3, .int x3), (4, .long x4l)]) hx hb dX10_counted_90 hl (by decide) rfl (fun ls hl => ?_)
          refine lv_aload_n hx hb dX10_counted_92 rfl (lv_at hl 2 rfl) ?_
          refine gM_35 C hd dX10_counted_93 ?_
          refine lv_iload_n hx hb dX10_counted_96 rfl (lv_at hl 4 rfl) ?_
          refine ldM_35 C hd (v := k_8.2.1 35 x2.toNatClampNeg) h.1 rfl dX10_counted_97 ?_
          replace h := h.2
          refine lv_i2l (v := (k_8.2.1 35 x2.toNatClampNeg).toInt64) hx hb dX10_counted_98 rfl ?_
          refine lv_lload hx hb dX10_counted_99 (lv_at hl 0 rfl) ?_
          refine lv_lsub hx hb dX10_counted_101 ?_
          refine lv_topl (fun v_9 e_9 => ?_)
          replace h := h v_9 e_9
          refine lv_lstore (lv' := [(10, .long v_9), (8, .long ((k_8.2.1 36 (((4 : Int32) * x1) + x2).toNatClampNeg).toInt64)), (6, .long (r_8.toInt64 - x4l)), (0, .ref o), (1, .int x1), (2, .int x2), (3, .int x3), (4, .long x4l)]) hx hb dX10_counted_102 hl (by decide) rfl (fun ls hl => ?_)
          refine lv_lload hx hb dX10_counted_104 (lv_at hl 7 rfl) ?_
          refine lv_lconst (v := 0) hx hb dX10_counted_106 (by decide) ?_
          refine W.lcmp hx hb dX10_counted_107 ?_
          refine lv_if_ne (tgt := 117) hx hb dX10_counted_108 (by decide) (fun c_10 => ?_) (fun c_10 => ?_)
          · replace h := h.1 c_10
            refine lv_lload hx hb dX10_counted_117 (lv_at hl 2 rfl) ?_
            refine lv_lconst (v := 0) hx hb dX10_counted_119 (by decide) ?_
            refine W.lcmp hx hb dX10_counted_120 ?_
            refine lv_if_ne (tgt := 130) hx hb dX10_counted_121 (by decide) (fun c_11 => ?_) (fun c_11 => ?_)
            · replace h := h.1 c_11
              exact (ih).2 x3 x4l (r_8.toInt64 - x4l) ((k_8.2.1 36 (((4 : Int32) * x1) + x2).toNatClampNeg).toInt64) v_9 _ _ _ _ h hd (lv_sub hl [6, 7, 2, 1, 0] rfl)
            · replace h := h.2 c_11
              refine lv_lconst (v := 0) hx hb dX10_counted_124 (by decide) ?_
              refine lv_lstore (lv' := [(10, .long (0 : Int64)), (8, .long ((k_8.2.1 36 (((4 : Int32) * x1) + x2).toNatClampNeg).toInt64)), (6, .long (r_8.toInt64 - x4l)), (0, .ref o), (1, .int x1), (2, .int x2), (3, .int x3), (4, .long x4l)]) hx hb dX10_counted_125 hl (by decide) rfl (fun ls hl => ?_)
              refine lv_lconst (v := 1) hx hb dX10_counted_127 (by decide) ?_
              refine lv_lstore (lv' := [(6, .long (1 : Int64)), (10, .long (0 : Int64)), (8, .long ((k_8.2.1 36 (((4 : Int32) * x1) + x2).toNatClampNeg).toInt64)), (0, .ref o), (1, .int x1), (2, .int x2), (3, .int x3), (4, .long x4l)]) hx hb dX10_counted_128 hl (by decide) rfl (fun ls hl => ?_)
              exact (ih).2 x3 x4l (1 : Int64) ((k_8.2.1 36 (((4 : Int32) * x1) + x2).toNatClampNeg).toInt64) (0 : Int64) _ _ _ _ h hd (lv_sub hl [6, 7, 0, 2, 1] rfl)
          · replace h := h.2 c_10
            refine lv_lconst (v := 0) hx hb dX10_counted_111 (by decide) ?_
            refine lv_lstore (lv' := [(8, .long (0 : Int64)), (10, .long v_9), (6, .long (r_8.toInt64 - x4l)), (0, .ref o), (1, .int x1), (2, .int x2), (3, .int x3), (4, .long x4l)]) hx hb dX10_counted_112 hl (by decide) rfl (fun ls hl => ?_)
            refine lv_lconst (v := 1) hx hb dX10_counted_114 (by decide) ?_
            refine lv_lstore (lv' := [(4, .long (1 : Int64)), (8, .long (0 : Int64)), (10, .long v_9), (6, .long (r_8.toInt64 - x4l)), (0, .ref o), (1, .int x1), (2, .int x2), (3, .int x3)]) hx hb dX10_counted_115 hl (by decide) rfl (fun ls hl => ?_)
            refine lv_lload hx hb dX10_counted_117 (lv_at hl 3 rfl) ?_
            refine lv_lconst (v := 0) hx hb dX10_counted_119 (by decide) ?_
            refine W.lcmp hx hb dX10_counted_120 ?_
            refine lv_if_ne (tgt := 130) hx hb dX10_counted_121 (by decide) (fun c_12 => ?_) (fun c_12 => ?_)
            · replace h := h.1 c_12
              exact (ih).2 x3 (1 : Int64) (r_8.toInt64 - x4l) (0 : Int64) v_9 _ _ _ _ h hd (lv_sub hl [7, 0, 3, 1, 2] rfl)
            · replace h := h.2 c_12
              refine lv_lconst (v := 0) hx hb dX10_counted_124 (by decide) ?_
              refine lv_lstore (lv' := [(10, .long (0 : Int64)), (4, .long (1 : Int64)), (8, .long (0 : Int64)), (6, .long (r_8.toInt64 - x4l)), (0, .ref o), (1, .int x1), (2, .int x2), (3, .int x3)]) hx hb dX10_counted_125 hl (by decide) rfl (fun ls hl => ?_)
              refine lv_lconst (v := 1) hx hb dX10_counted_127 (by decide) ?_
              refine lv_lstore (lv' := [(6, .long (1 : Int64)), (10, .long (0 : Int64)), (4, .long (1 : Int64)), (8, .long (0 : Int64)), (0, .ref o), (1, .int x1), (2, .int x2), (3, .int x3)]) hx hb dX10_counted_128 hl (by decide) rfl (fun ls hl => ?_)
              exact (ih).2 x3 (1 : Int64) (1 : Int64) (0 : Int64) (0 : Int64) _ _ _ _ h hd (lv_sub hl [7, 2, 0, 3, 1] rfl)
        · replace h := h.2 c_7
          refine lv_lload hx hb dX10_counted_46 (lv_at hl 4 rfl) ?_
          refine lv_aload_n hx hb dX10_counted_48 rfl (lv_at hl 0 rfl) ?_
          refine gM_36 C hd dX10_counted_49 ?_
          refine lv_iconst (v := 4) hx hb dX10_counted_52 (by decide) ?_
          refine lv_iload_n hx hb dX10_counted_53 rfl (lv_at hl 1 rfl) ?_
          refine lv_imul hx hb dX10_counted_54 ?_
          refine lv_iload hx hb dX10_counted_55 (lv_at hl 5 rfl) ?_
          refine lv_iadd hx hb dX10_counted_57 ?_
          refine ldM_36 C hd (v := k.2.1 36 (((4 : Int32) * x1) + x6).toNatClampNeg) h.1 rfl dX10_counted_58 ?_
          replace h := h.2
          refine lv_i2l (v := (k.2.1 36 (((4 : Int32) * x1) + x6).toNatClampNeg).toInt64) hx hb dX10_counted_59 rfl ?_
          refine lv_ladd hx hb dX10_counted_60 ?_
          refine lv_topl (fun v_13 e_13 => ?_)
          replace h := h v_13 e_13
          refine lv_lstore (lv' := [(4, .long v_13), (0, .ref o), (1, .int x1), (2, .int x2), (3, .int x3), (6, .int x6)]) hx hb dX10_counted_61 hl (by decide) rfl (fun ls hl => ?_)
          refine lv_iinc (v := (x6 + (1 : Int32))) (lv' := [(6, .int (x6 + (1 : Int32))), (4, .long v_13), (0, .ref o), (1, .int x1), (2, .int x2), (3, .int x3)]) hx hb dX10_counted_63 hl (k := 5) rfl rfl (by decide) rfl (fun ls hl => ?_)
          refine lv_goto (tgt := 40) hx hb dX10_counted_66 (by decide) ?_
          exact (ih).1 x1 x2 x3 v_13 (x6 + (1 : Int32)) _ _ _ _ h hd (lv_sub hl [2, 3, 4, 5, 1, 0] rfl)
      · intro x3 x4l x6l x8l x10l k H locs ls h hd hl
        replace h : (∃ n_14 : Nat, wM_common n_14 0 ((x8l * x6l) - (x10l * x4l)) (x4l * x6l) 0 0 k (fun r_14 k_14 => ((¬ x3 = 0 → (¬ r_14 = 0 ∧ Qp ((x4l * x6l) / r_14) k_14)) ∧ (x3 = 0 → (¬ r_14 = 0 ∧ Qp (((x8l * x6l) - (x10l * x4l)) / r_14) k_14))))) := h
        refine lv_lload hx hb dX10_counted_130 (lv_at hl 3 rfl) ?_
        refine lv_lload hx hb dX10_counted_132 (lv_at hl 2 rfl) ?_
        refine lv_lmul hx hb dX10_counted_134 ?_
        refine lv_lload hx hb dX10_counted_135 (lv_at hl 4 rfl) ?_
        refine lv_lload hx hb dX10_counted_137 (lv_at hl 1 rfl) ?_
        refine lv_lmul hx hb dX10_counted_139 ?_
        refine lv_lsub hx hb dX10_counted_140 ?_
        refine lv_lstore (lv' := [(12, .long ((x8l * x6l) - (x10l * x4l))), (3, .int x3), (4, .long x4l), (6, .long x6l), (8, .long x8l), (10, .long x10l)]) hx hb dX10_counted_141 hl (by decide) rfl (fun ls hl => ?_)
        refine lv_lload hx hb dX10_counted_143 (lv_at hl 2 rfl) ?_
        refine lv_lload hx hb dX10_counted_145 (lv_at hl 3 rfl) ?_
        refine lv_lmul hx hb dX10_counted_147 ?_
        refine lv_lstore (lv' := [(14, .long (x4l * x6l)), (12, .long ((x8l * x6l) - (x10l * x4l))), (3, .int x3), (4, .long x4l), (6, .long x6l), (8, .long x8l), (10, .long x10l)]) hx hb dX10_counted_148 hl (by decide) rfl (fun ls hl => ?_)
        refine lv_lload hx hb dX10_counted_150 (lv_at hl 1 rfl) ?_
        refine lv_lload hx hb dX10_counted_152 (lv_at hl 0 rfl) ?_
        obtain ⟨n_14, h⟩ := h
        refine xs_l C hd kwRX10_X10_common (cM_common n_14 _ _ h) ⟨rfl, rfl⟩ ⟨by decide, by decide⟩ hl.1 rfl rfl (Nat.le_of_ble_eq_true rfl) ⟨Nat.zero_le _, Nat.zero_le _⟩ dX10_counted_154 (fun r_14 k_14 H locs h hd => ?_)
        refine lv_lstore (lv' := [(16, .long r_14), (14, .long (x4l * x6l)), (12, .long ((x8l * x6l) - (x10l * x4l))), (3, .int x3), (4, .long x4l), (6, .long x6l), (8, .long x8l), (10, .long x10l)]) hx hb dX10_counted_157 hl (by decide) rfl (fun ls hl => ?_)
        refine lv_iload_n hx hb dX10_counted_159 rfl (lv_at hl 3 rfl) ?_
        refine lv_if_ne (tgt := 168) hx hb dX10_counted_160 (by decide) (fun c_15 => ?_) (fun c_15 => ?_)
        · replace h := h.1 c_15
          refine lv_lload hx hb dX10_counted_168 (lv_at hl 1 rfl) ?_
          refine lv_lload hx hb dX10_counted_170 (lv_at hl 0 rfl) ?_
          refine lv_ldiv hx hb dX10_counted_172 h.1 ?_
          replace h := h.2
          exact ret hd h dX10_counted_173
        · replace h := h.2 c_15
          refine lv_lload hx hb dX10_counted_163 (lv_at hl 2 rfl) ?_
          refine lv_goto (tgt := 170) hx hb dX10_counted_165 (by decide) ?_
          refine lv_lload hx hb dX10_counted_170 (lv_at hl 0 rfl) ?_
          refine lv_ldiv hx hb dX10_counted_172 h.1 ?_
          replace h := h.2
          exact ret hd h dX10_counted_173
  cases n with
  | zero => exact h.elim
  | succ n =>
    replace h : (wM_isOne x1 k (fun r_1 k_1 => ((r_1 = 0 → Qp (-4611686018427387904 : Int64) k_1) ∧ (¬ r_1 = 0 → (wM_in x2.toInt64 (0 : Int64) (3 : Int64) k_1 (fun r_3 k_3 => ((r_3 = 0 → Qp (-4611686018427387904 : Int64) k_3) ∧ (¬ r_3 = 0 → (wM_in x3.toInt64 (0 : Int64) (1 : Int64) k_3 (fun r_5 k_5 => ((¬ r_5 = 0 → wM_counted n 1 x1 x2 x3 (0 : Int64) (0 : Int32) 0 0 0 k_5 Qp) ∧ (r_5 = 0 → Qp (-4611686018427387904 : Int64) k_5)))))))))))) := h
    refine lv_aload_n hx hb dX10_counted_0 rfl (lv_at hl 0 rfl) ?_
    refine lv_iload_n hx hb dX10_counted_1 rfl (lv_at hl 1 rfl) ?_
    refine xv_z C hd kwRX10_X10_isOne (cM_isOne _ h) ⟨rfl, rfl⟩ ⟨by decide, by decide⟩ wM_rcv hl.1 rfl rfl (Nat.le_of_ble_eq_true rfl) ⟨Nat.zero_le _, Nat.zero_le _⟩ dX10_counted_2 (fun r_1 k_1 H locs hz_1 h hd => ?_)
    refine lv_if_eq (tgt := 30) hx hb dX10_counted_5 (by decide) (fun c_2 => ?_) (fun c_2 => ?_)
    · replace h := h.1 c_2
      refine lv_ldc2 (v := (-4611686018427387904 : Int64)) hx hb C.2.2.2.1 (C.2.2.2.2.1 _ q_1108) dX10_counted_30 ?_
      exact ret hd h dX10_counted_33
    · replace h := h.2 c_2
      refine lv_iload_n hx hb dX10_counted_8 rfl (lv_at hl 2 rfl) ?_
      refine lv_i2l (v := x2.toInt64) hx hb dX10_counted_9 rfl ?_
      refine lv_lconst (v := 0) hx hb dX10_counted_10 (by decide) ?_
      refine lv_ldc2 (v := (3 : Int64)) hx hb C.2.2.2.1 (C.2.2.2.2.1 _ q_1206) dX10_counted_11 ?_
      refine xs_z C hd kwRX10_X10_in (cM_in _ _ _ h) ⟨rfl, rfl⟩ ⟨by decide, by decide⟩ hl.1 rfl rfl (Nat.le_of_ble_eq_true rfl) ⟨Nat.zero_le _, Nat.zero_le _⟩ dX10_counted_14 (fun r_3 k_3 H locs hz_3 h hd => ?_)
      refine lv_if_eq (tgt := 30) hx hb dX10_counted_17 (by decide) (fun c_4 => ?_) (fun c_4 => ?_)
      · replace h := h.1 c_4
        refine lv_ldc2 (v := (-4611686018427387904 : Int64)) hx hb C.2.2.2.1 (C.2.2.2.2.1 _ q_1108) dX10_counted_30 ?_
        exact ret hd h dX10_counted_33
      · replace h := h.2 c_4
        refine lv_iload_n hx hb dX10_counted_20 rfl (lv_at hl 3 rfl) ?_
        refine lv_i2l (v := x3.toInt64) hx hb dX10_counted_21 rfl ?_
        refine lv_lconst (v := 0) hx hb dX10_counted_22 (by decide) ?_
        refine lv_lconst (v := 1) hx hb dX10_counted_23 (by decide) ?_
        refine xs_z C hd kwRX10_X10_in (cM_in _ _ _ h) ⟨rfl, rfl⟩ ⟨by decide, by decide⟩ hl.1 rfl rfl (Nat.le_of_ble_eq_true rfl) ⟨Nat.zero_le _, Nat.zero_le _⟩ dX10_counted_24 (fun r_5 k_5 H locs hz_5 h hd => ?_)
        refine lv_if_ne (tgt := 34) hx hb dX10_counted_27 (by decide) (fun c_6 => ?_) (fun c_6 => ?_)
        · replace h := h.1 c_6
          refine lv_lconst (v := 0) hx hb dX10_counted_34 (by decide) ?_
          refine lv_lstore (lv' := [(4, .long (0 : Int64)), (0, .ref o), (1, .int x1), (2, .int x2), (3, .int x3)]) hx hb dX10_counted_35 hl (by decide) rfl (fun ls hl => ?_)
          refine lv_iconst (v := 0) hx hb dX10_counted_37 (by decide) ?_
          refine lv_istore (lv' := [(6, .int (0 : Int32)), (4, .long (0 : Int64)), (0, .ref o), (1, .int x1), (2, .int x2), (3, .int x3)]) hx hb dX10_counted_38 hl (by decide) rfl (fun ls hl => ?_)
          exact (L n).1 x1 x2 x3 (0 : Int64) (0 : Int32) _ _ _ _ h hd (lv_sub hl [2, 3, 4, 5, 1, 0] rfl)
        · replace h := h.2 c_6
          refine lv_ldc2 (v := (-4611686018427387904 : Int64)) hx hb C.2.2.2.1 (C.2.2.2.2.1 _ q_1108) dX10_counted_30 ?_
          exact ret hd h dX10_counted_33
