def wM_loudOf (x1 : Int32) (k : GM) (Q : Int32 → GM → Prop) : Prop := (vp_in x1 8 ∧ (((k.2.1 7 x1.toNatClampNeg) = (1 : Int32) → Q (30 : Int32) k) ∧ ((k.2.1 7 x1.toNatClampNeg) = (3 : Int32) → Q (15 : Int32) k) ∧ ((k.2.1 7 x1.toNatClampNeg) = (4 : Int32) → (vp_in x1 8 ∧ (((29 : Int32) ≤ ((k.2.1 9 x1.toNatClampNeg) / (4 : Int32)) → Q (1 : Int32) k) ∧ (¬ (29 : Int32) ≤ ((k.2.1 9 x1.toNatClampNeg) / (4 : Int32)) → (vp_in x1 8 ∧ Q ((30 : Int32) - ((k.2.1 9 x1.toNatClampNeg) / (4 : Int32))) k))))) ∧ ((k.2.1 7 x1.toNatClampNeg) = (5 : Int32) → Q (5 : Int32) k) ∧ (¬ (k.2.1 7 x1.toNatClampNeg) = (1 : Int32) → ¬ (k.2.1 7 x1.toNatClampNeg) = (3 : Int32) → ¬ (k.2.1 7 x1.toNatClampNeg) = (4 : Int32) → ¬ (k.2.1 7 x1.toNatClampNeg) = (5 : Int32) → Q (20 : Int32) k)))
set_option maxHeartbeats 4000000 in
set_option maxRecDepth 100000 in
theorem cM_loudOf {l : Launch} {D : va_G} {o : Nat} {a : Nat → Nat} {g : Nat → ClassId} {k : GM} {Qp : Int32 → GM → Prop} (x1 : Int32) (h : wM_loudOf x1 k Qp) : Ci l D (tyA g) (wM o a g) yX10_loudOf cX10_loudOf 2 ({ frames := 0, cells := 0, slots := 0, locals := 0 }) [.ref o, .int x1] k Qp := by
  refine Ci_of (by decide) (Nat.le_of_ble_eq_true rfl) ?_
  intro p e s m args below meth c A Z ls C ret hd hl
  have hx := C.1
  have hb := C.2.1
  have hl : lv_has ls 2 [(0, .ref o), (1, .int x1)] := hl
  replace h : (vp_in x1 8 ∧ (((k.2.1 7 x1.toNatClampNeg) = (1 : Int32) → Qp (30 : Int32) k) ∧ ((k.2.1 7 x1.toNatClampNeg) = (3 : Int32) → Qp (15 : Int32) k) ∧ ((k.2.1 7 x1.toNatClampNeg) = (4 : Int32) → (vp_in x1 8 ∧ (((29 : Int32) ≤ ((k.2.1 9 x1.toNatClampNeg) / (4 : Int32)) → Qp (1 : Int32) k) ∧ (¬ (29 : Int32) ≤ ((k.2.1 9 x1.toNatClampNeg) / (4 : Int32)) → (vp_in x1 8 ∧ Qp ((30 : Int32) - ((k.2.1 9 x1.toNatClampNeg) / (4 : Int32))) k))))) ∧ ((k.2.1 7 x1.toNatClampNeg) = (5 : Int32) → Qp (5 : Int32) k) ∧ (¬ (k.2.1 7 x1.toNatClampNeg) = (1 : Int32) → ¬ (k.2.1 7 x1.toNatClampNeg) = (3 : Int32) → ¬ (k.2.1 7 x1.toNatClampNeg) = (4 : Int32) → ¬ (k.2.1 7 x1.toNatClampNeg) = (5 : Int32) → Qp (20 : Int32) k))) := h
  refine lv_aload_n hx hb dX10_loudOf_0 rfl (lv_at hl 0 rfl) ?_
  refine gM_7 C hd dX10_loudOf_1 ?_
  refine lv_iload_n hx hb dX10_loudOf_4 rfl (lv_at hl 1 rfl) ?_
  refine ldM_7 C hd (v := k.2.1 7 x1.toNatClampNeg) h.1 rfl dX10_loudOf_5 ?_
  replace h := h.2
  by_cases e_1_0 : (k.2.1 7 x1.toNatClampNeg) = (1 : Int32)
  · replace h := h.1 e_1_0
    refine lv_tableIn (off := 34) (tgt := 40) hx hb dX10_loudOf_6 (by rw [e_1_0]; decide) (by rw [e_1_0]; decide) (by rw [e_1_0]; rfl) (by decide) ?_
    refine lv_bipush (v := 30) hx hb dX10_loudOf_40 (by decide) ?_
    exact ret hd h dX10_loudOf_42
  · by_cases e_1_1 : (k.2.1 7 x1.toNatClampNeg) = (3 : Int32)
    · replace h := h.2.1 e_1_1
      refine lv_tableIn (off := 37) (tgt := 43) hx hb dX10_loudOf_6 (by rw [e_1_1]; decide) (by rw [e_1_1]; decide) (by rw [e_1_1]; rfl) (by decide) ?_
      refine lv_bipush (v := 15) hx hb dX10_loudOf_43 (by decide) ?_
      exact ret hd h dX10_loudOf_45
    · by_cases e_1_2 : (k.2.1 7 x1.toNatClampNeg) = (4 : Int32)
      · replace h := h.2.2.1 e_1_2
        refine lv_tableIn (off := 40) (tgt := 46) hx hb dX10_loudOf_6 (by rw [e_1_2]; decide) (by rw [e_1_2]; decide) (by rw [e_1_2]; rfl) (by decide) ?_
        refine lv_aload_n hx hb dX10_loudOf_46 rfl (lv_at hl 0 rfl) ?_
        refine gM_9 C hd dX10_loudOf_47 ?_
        refine lv_iload_n hx hb dX10_loudOf_50 rfl (lv_at hl 1 rfl) ?_
        refine ldM_9 C hd (v := k.2.1 9 x1.toNatClampNeg) h.1 rfl dX10_loudOf_51 ?_
        replace h := h.2
        refine lv_iconst (v := 4) hx hb dX10_loudOf_52 (by decide) ?_
        refine lv_idiv hx hb dX10_loudOf_53 (by decide) ?_
        refine lv_bipush (v := 29) hx hb dX10_loudOf_54 (by decide) ?_
        refine lv_icmp_ge (tgt := 73) hx hb dX10_loudOf_56 (by decide) (fun c_2 => ?_) (fun c_2 => ?_)
        · replace h := h.1 c_2
          refine lv_iconst (v := 1) hx hb dX10_loudOf_73 (by decide) ?_
          exact ret hd h dX10_loudOf_74
        · replace h := h.2 c_2
          refine lv_bipush (v := 30) hx hb dX10_loudOf_59 (by decide) ?_
          refine lv_aload_n hx hb dX10_loudOf_61 rfl (lv_at hl 0 rfl) ?_
          refine gM_9 C hd dX10_loudOf_62 ?_
          refine lv_iload_n hx hb dX10_loudOf_65 rfl (lv_at hl 1 rfl) ?_
          refine ldM_9 C hd (v := k.2.1 9 x1.toNatClampNeg) h.1 rfl dX10_loudOf_66 ?_
          replace h := h.2
          refine lv_iconst (v := 4) hx hb dX10_loudOf_67 (by decide) ?_
          refine lv_idiv hx hb dX10_loudOf_68 (by decide) ?_
          refine lv_isub hx hb dX10_loudOf_69 ?_
          refine lv_goto (tgt := 74) hx hb dX10_loudOf_70 (by decide) ?_
          exact ret hd h dX10_loudOf_74
      · by_cases e_1_3 : (k.2.1 7 x1.toNatClampNeg) = (5 : Int32)
        · replace h := h.2.2.2.1 e_1_3
          refine lv_tableIn (off := 69) (tgt := 75) hx hb dX10_loudOf_6 (by rw [e_1_3]; decide) (by rw [e_1_3]; decide) (by rw [e_1_3]; rfl) (by decide) ?_
          refine lv_iconst (v := 5) hx hb dX10_loudOf_75 (by decide) ?_
          exact ret hd h dX10_loudOf_76
        · replace h := h.2.2.2.2 e_1_0 e_1_1 e_1_2 e_1_3
          by_cases o_1 : ((k.2.1 7 x1.toNatClampNeg)).toInt < 1 ∨ 5 < ((k.2.1 7 x1.toNatClampNeg)).toInt
          · refine lv_tableOut (tgt := 77) hx hb dX10_loudOf_6 o_1 (by decide) ?_
            refine lv_bipush (v := 20) hx hb dX10_loudOf_77 (by decide) ?_
            exact ret hd h dX10_loudOf_79
          · have hv_1 : ((k.2.1 7 x1.toNatClampNeg)).toInt = 2 := by have n_0 := lv_neT (a := 1) e_1_0 (by decide); have n_1 := lv_neT (a := 3) e_1_1 (by decide); have n_2 := lv_neT (a := 4) e_1_2 (by decide); have n_3 := lv_neT (a := 5) e_1_3 (by decide); omega
            refine lv_tableIn (off := 71) (tgt := 77) hx hb dX10_loudOf_6 (fun z => o_1 (Or.inl z)) (fun z => o_1 (Or.inr z)) (by rw [hv_1]; rfl) (by decide) ?_
            refine lv_bipush (v := 20) hx hb dX10_loudOf_77 (by decide) ?_
            exact ret hd h dX10_loudOf_79
def wM_tries  : Nat → Nat → Int32 → Int32 → Int32 → Int32 → Int32 → GM → (Int32 → GM → Prop) → Prop
  | 0, _, _, _, _, _, _, _, _ => False
  | n + 1, c, x1, x2, x3, x4, x5, k, Q => match c with
    | 0 => (∃ n_1 : Nat, wM_sumOf n_1 0 x1 0 0 0 k (fun r_1 k_1 => (vp_in x2 4 ∧ wM_tries n 1 x1 x2 r_1 ((k_1.2.1 11 x2.toNatClampNeg) - r_1) (0 : Int32) k_1 Q)))
    | 1 => (((k.1 10) ≤ x5 → wM_tries n 2 x1 0 0 x4 (0 : Int32) k Q) ∧ (¬ (k.1 10) ≤ x5 → (vp_in x5 8 ∧ ((¬ ((x1 >>> (x5 &&& 31)) &&& (1 : Int32)) = 0 → (vp_in x2 4 ∧ (∃ n_4 : Nat, wM_read n_4 0 (k.1 4) x5 x3 (k.2.1 11 x2.toNatClampNeg) (k.1 16) (0 : Int32) 0 0 0 (sA k 34 (upd (k.2.1 34) x5.toNatClampNeg (0 : Int32))) (fun r_4 k_4 => (wM_within r_4 (0 : Int32) (400 : Int32) k_4 (fun r_5 k_5 => (wM_loudOf x5 k_5 (fun r_6 k_6 => (∀ v_7 : Int32, v_7 = ((((x4 * r_6) / (100 : Int32)) * (k_6.1 14)) / (100 : Int32)) → (vp_in x5 8 ∧ (vp_in (((4 : Int32) * (k_6.2.1 7 x5.toNatClampNeg)) + x2) 24 ∧ (∀ v_8 : Int32, v_8 = ((v_7 * (k_6.2.1 12 (((4 : Int32) * (k_6.2.1 7 x5.toNatClampNeg)) + x2).toNatClampNeg)) / (100 : Int32)) → (vp_in x5 8 ∧ wM_tries n 1 x1 x2 x3 x4 (x5 + (1 : Int32)) (sA k_6 34 (upd (k_6.2.1 34) x5.toNatClampNeg ((v_8 * r_5) / (100 : Int32)))) Q))))))))))))) ∧ (((x1 >>> (x5 &&& 31)) &&& (1 : Int32)) = 0 → wM_tries n 1 x1 x2 x3 x4 (x5 + (1 : Int32)) (sA k 34 (upd (k.2.1 34) x5.toNatClampNeg (0 : Int32))) Q)))))
    | _ => (((k.1 10) ≤ x5 → Q x4 (sI k 16 ((k.1 16) + (1 : Int32)))) ∧ (¬ (k.1 10) ≤ x5 → ((¬ ((x1 >>> (x5 &&& 31)) &&& (1 : Int32)) = 0 → (vp_in x5 8 ∧ (vp_in x5 8 ∧ (wM_within ((k.2.1 8 x5.toNatClampNeg) + (k.2.1 34 x5.toNatClampNeg)) (-9999 : Int32) (9999 : Int32) k (fun r_11 k_11 => (vp_in x5 8 ∧ (vp_in x5 8 ∧ (vp_in x5 8 ∧ wM_tries n 2 x1 0 0 x4 (x5 + (1 : Int32)) (sA (sA k_11 8 (upd (k_11.2.1 8) x5.toNatClampNeg r_11)) 9 (upd (k_11.2.1 9) x5.toNatClampNeg ((k_11.2.1 9 x5.toNatClampNeg) + (1 : Int32)))) Q)))))))) ∧ (((x1 >>> (x5 &&& 31)) &&& (1 : Int32)) = 0 → wM_tries n 2 x1 0 0 x4 (x5 + (1 : Int32)) k Q))))
set_option maxHeartbeats 4000000 in
set_option maxRecDepth 100000 in
theorem cM_tries {l : Launch} {D : va_G} {o : Nat} {a : Nat → Nat} {g : Nat → ClassId} {k : GM} {Qp : Int32 → GM → Prop} (n : Nat) (x1 : Int32) (x2 : Int32) (h : wM_tries n 0 x1 x2 0 0 0 k Qp) : Ci l D (tyA g) (wM o a g) yX10_tries cX10_tries 8 ({ frames := 59, cells := 0, slots := 0, locals := 2234 }) [.ref o, .int x1, .int x2] k Qp := by
  refine Ci_of (by decide) (Nat.le_of_ble_eq_true rfl) ?_
  intro p e s m args below meth c A Z ls C ret hd hl
  have hx := C.1
  have hb := C.2.1
  have hl : lv_has ls 8 [(0, .ref o), (1, .int x1), (2, .int x2)] := hl
  have L : ∀ n : Nat, (∀ (x1 : Int32) (x2 : Int32) (x3 : Int32) (x4 : Int32) (x5 : Int32) (k : GM) (H : Heap) (locs : List Loc) (ls : Array Slot), wM_tries n 1 x1 x2 x3 x4 x5 k Qp → Hd D (wM o a g k) A s H locs → lv_has ls 8 [(0, .ref o), (1, .int x1), (2, .int x2), (3, .int x3), (4, .int x4), (5, .int x5)] → W p l e ({ frames := 59, cells := 0, slots := 0, locals := 2234 }) s m args below meth c H locs 0 0 Z (F0 m 19 ls [])) ∧ (∀ (x1 : Int32) (x4 : Int32) (x5 : Int32) (k : GM) (H : Heap) (locs : List Loc) (ls : Array Slot), wM_tries n 2 x1 0 0 x4 x5 k Qp → Hd D (wM o a g k) A s H locs → lv_has ls 8 [(0, .ref o), (1, .int x1), (4, .int x4), (5, .int x5)] → W p l e ({ frames := 59, cells := 0, slots := 0, locals := 2234 }) s m args below meth c H locs 0 0 Z (F0 m 153 ls [])) := by
    intro n
    induction n with
    | zero => exact ⟨fun _ _ _ _ _ _ _ _ _ h => h.elim, fun _ _ _ _ _ _ _ h => h.elim⟩
    | succ n ih =>
      refine ⟨?_, ?_⟩
      · intro x1 x2 x3 x4 x5 k H locs ls h hd hl
        replace h : (((k.1 10) ≤ x5 → wM_tries n 2 x1 0 0 x4 (0 : Int32) k Qp) ∧ (¬ (k.1 10) ≤ x5 → (vp_in x5 8 ∧ ((¬ ((x1 >>> (x5 &&& 31)) &&& (1 : Int32)) = 0 → (vp_in x2 4 ∧ (∃ n_4 : Nat, wM_read n_4 0 (k.1 4) x5 x3 (k.2.1 11 x2.toNatClampNeg) (k.1 16) (0 : Int32) 0 0 0 (sA k 34 (upd (k.2.1 34) x5.toNatClampNeg (0 : Int32))) (fun r_4 k_4 => (wM_within r_4 (0 : Int32) (400 : Int32) k_4 (fun r_5 k_5 => (wM_loudOf x5 k_5 (fun r_6 k_6 => (∀ v_7 : Int32, v_7 = ((((x4 * r_6) / (100 : Int32)) * (k_6.1 14)) / (100 : Int32)) → (vp_in x5 8 ∧ (vp_in (((4 : Int32) * (k_6.2.1 7 x5.toNatClampNeg)) + x2) 24 ∧ (∀ v_8 : Int32, v_8 = ((v_7 * (k_6.2.1 12 (((4 : Int32) * (k_6.2.1 7 x5.toNatClampNeg)) + x2).toNatClampNeg)) / (100 : Int32)) → (vp_in x5 8 ∧ wM_tries n 1 x1 x2 x3 x4 (x5 + (1 : Int32)) (sA k_6 34 (upd (k_6.2.1 34) x5.toNatClampNeg ((v_8 * r_5) / (100 : Int32)))) Qp))))))))))))) ∧ (((x1 >>> (x5 &&& 31)) &&& (1 : Int32)) = 0 → wM_tries n 1 x1 x2 x3 x4 (x5 + (1 : Int32)) (sA k 34 (upd (k.2.1 34) x5.toNatClampNeg (0 : Int32))) Qp))))) := h
        refine lv_iload hx hb dX10_tries_19 (lv_at hl 5 rfl) ?_
        refine lv_aload_n hx hb dX10_tries_21 rfl (lv_at hl 0 rfl) ?_
        refine gM_10 C hd (v := k.1 10) rfl dX10_tries_22 ?_
        refine lv_icmp_ge (tgt := 150) hx hb dX10_tries_25 (by decide) (fun c_2 => ?_) (fun c_2 => ?_)
        · replace h := h.1 c_2
          refine lv_iconst (v := 0) hx hb dX10_tries_150 (by decide) ?_
          refine lv_istore (lv' := [(5, .int (0 : Int32)), (0, .ref o), (1, .int x1), (2, .int x2), (3, .int x3), (4, .int x4)]) hx hb dX10_tries_151 hl (by decide) rfl (fun ls hl => ?_)
          exact (ih).2 x1 x4 (0 : Int32) _ _ _ _ h hd (lv_sub hl [1, 2, 5, 0] rfl)
        · replace h := h.2 c_2
          refine lv_aload_n hx hb dX10_tries_28 rfl (lv_at hl 0 rfl) ?_
          refine gM_34 C hd dX10_tries_29 ?_
          refine lv_iload hx hb dX10_tries_32 (lv_at hl 5 rfl) ?_
          refine lv_iconst (v := 0) hx hb dX10_tries_34 (by decide) ?_
          refine stM_34 C hd h.1 dX10_tries_35 (fun H locs hd => ?_)
          replace h := h.2
          refine lv_iload_n hx hb dX10_tries_36 rfl (lv_at hl 1 rfl) ?_
          refine lv_iload hx hb dX10_tries_37 (lv_at hl 5 rfl) ?_
          refine lv_ishr hx hb dX10_tries_39 ?_
          refine lv_iconst (v := 1) hx hb dX10_tries_40 (by decide) ?_
          refine lv_iand hx hb dX10_tries_41 ?_
          refine lv_if_ne (tgt := 48) hx hb dX10_tries_42 (by decide) (fun c_3 => ?_) (fun c_3 => ?_)
          · replace h := h.1 c_3
            refine lv_aload_n hx hb dX10_tries_48 rfl (lv_at hl 0 rfl) ?_
            refine lv_aload_n hx hb dX10_tries_49 rfl (lv_at hl 0 rfl) ?_
            refine gM_4 C hd (v := k.1 4) rfl dX10_tries_50 ?_
            refine lv_iload hx hb dX10_tries_53 (lv_at hl 5 rfl) ?_
            refine lv_iload_n hx hb dX10_tries_55 rfl (lv_at hl 3 rfl) ?_
            refine lv_aload_n hx hb dX10_tries_56 rfl (lv_at hl 0 rfl) ?_
            refine gM_11 C hd dX10_tries_57 ?_
            refine lv_iload_n hx hb dX10_tries_60 rfl (lv_at hl 2 rfl) ?_
            refine ldM_11 C hd (v := k.2.1 11 x2.toNatClampNeg) h.1 rfl dX10_tries_61 ?_
            replace h := h.2
            refine lv_aload_n hx hb dX10_tries_62 rfl (lv_at hl 0 rfl) ?_
            refine gM_16 C hd (v := k.1 16) rfl dX10_tries_63 ?_
            refine lv_iconst (v := 0) hx hb dX10_tries_66 (by decide) ?_
            obtain ⟨n_4, h⟩ := h
            refine xv_i C hd kwRX10_X10_read (cM_read n_4 _ _ _ _ _ _ h) ⟨rfl, rfl⟩ ⟨by decide, by decide⟩ wM_rcv hl.1 rfl rfl (Nat.le_of_ble_eq_true rfl) ⟨Nat.zero_le _, Nat.zero_le _⟩ dX10_tries_67 (fun r_4 k_4 H locs h hd => ?_)
            refine lv_iconst (v := 0) hx hb dX10_tries_70 (by decide) ?_
            refine lv_sipush (v := 400) hx hb dX10_tries_71 (by decide) ?_
            refine xs_i C hd kwRX10_X10_within (cM_within _ _ _ h) ⟨rfl, rfl⟩ ⟨by decide, by decide⟩ hl.1 rfl rfl (Nat.le_of_ble_eq_true rfl) ⟨Nat.zero_le _, Nat.zero_le _⟩ dX10_tries_74 (fun r_5 k_5 H locs h hd => ?_)
            refine lv_istore (lv' := [(6, .int r_5), (0, .ref o), (1, .int x1), (2, .int x2), (3, .int x3), (4, .int x4), (5, .int x5)]) hx hb dX10_tries_77 hl (by decide) rfl (fun ls hl => ?_)
            refine lv_iload hx hb dX10_tries_79 (lv_at hl 5 rfl) ?_
            refine lv_aload_n hx hb dX10_tries_81 rfl (lv_at hl 1 rfl) ?_
            refine lv_iload hx hb dX10_tries_82 (lv_at hl 6 rfl) ?_
            refine xv_i C hd kwRX10_X10_loudOf (cM_loudOf _ h) ⟨rfl, rfl⟩ ⟨by decide, by decide⟩ wM_rcv hl.1 rfl rfl (Nat.le_of_ble_eq_true rfl) ⟨Nat.zero_le _, Nat.zero_le _⟩ dX10_tries_84 (fun r_6 k_6 H locs h hd => ?_)
            refine lv_imul hx hb dX10_tries_87 ?_
            refine lv_bipush (v := 100) hx hb dX10_tries_88 (by decide) ?_
            refine lv_idiv hx hb dX10_tries_90 (by decide) ?_
            refine lv_istore (lv' := [(7, .int ((x4 * r_6) / (100 : Int32))), (6, .int r_5), (0, .ref o), (1, .int x1), (2, .int x2), (3, .int x3), (4, .int x4), (5, .int x5)]) hx hb dX10_tries_91 hl (by decide) rfl (fun ls hl => ?_)
            refine lv_iload hx hb dX10_tries_93 (lv_at hl 0 rfl) ?_
            refine lv_aload_n hx hb dX10_tries_95 rfl (lv_at hl 2 rfl) ?_
            refine gM_14 C hd (v := k_6.1 14) rfl dX10_tries_96 ?_
            refine lv_imul hx hb dX10_tries_99 ?_
            refine lv_bipush (v := 100) hx hb dX10_tries_100 (by decide) ?_
            refine lv_idiv hx hb dX10_tries_102 (by decide) ?_
            refine lv_topi (fun v_7 e_7 => ?_)
            replace h := h v_7 e_7
            refine lv_istore (lv' := [(7, .int v_7), (6, .int r_5), (0, .ref o), (1, .int x1), (2, .int x2), (3, .int x3), (4, .int x4), (5, .int x5)]) hx hb dX10_tries_103 hl (by decide) rfl (fun ls hl => ?_)
            refine lv_iload hx hb dX10_tries_105 (lv_at hl 0 rfl) ?_
            refine lv_aload_n hx hb dX10_tries_107 rfl (lv_at hl 2 rfl) ?_
            refine gM_12 C hd dX10_tries_108 ?_
            refine lv_iconst (v := 4) hx hb dX10_tries_111 (by decide) ?_
            refine lv_aload_n hx hb dX10_tries_112 rfl (lv_at hl 2 rfl) ?_
            refine gM_7 C hd dX10_tries_113 ?_
            refine lv_iload hx hb dX10_tries_116 (lv_at hl 7 rfl) ?_
            refine ldM_7 C hd (v := k_6.2.1 7 x5.toNatClampNeg) h.1 rfl dX10_tries_118 ?_
            replace h := h.2
            refine lv_imul hx hb dX10_tries_119 ?_
            refine lv_iload_n hx hb dX10_tries_120 rfl (lv_at hl 4 rfl) ?_
            refine lv_iadd hx hb dX10_tries_121 ?_
            refine ldM_12 C hd (v := k_6.2.1 12 (((4 : Int32) * (k_6.2.1 7 x5.toNatClampNeg)) + x2).toNatClampNeg) h.1 rfl dX10_tries_122 ?_
            replace h := h.2
            refine lv_imul hx hb dX10_tries_123 ?_
            refine lv_bipush (v := 100) hx hb dX10_tries_124 (by decide) ?_
            refine lv_idiv hx hb dX10_tries_126 (by decide) ?_
            refine lv_topi (fun v_8 e_8 => ?_)
            replace h := h v_8 e_8
            refine lv_istore (lv' := [(7, .int v_8), (6, .int r_5), (0, .ref o), (1, .int x1), (2, .int x2), (3, .int x3), (4, .int x4), (5, .int x5)]) hx hb dX10_tries_127 hl (by decide) rfl (fun ls hl => ?_)
            refine lv_aload_n hx hb dX10_tries_129 rfl (lv_at hl 2 rfl) ?_
            refine gM_34 C hd dX10_tries_130 ?_
            refine lv_iload hx hb dX10_tries_133 (lv_at hl 7 rfl) ?_
            refine lv_iload hx hb dX10_tries_135 (lv_at hl 0 rfl) ?_
            refine lv_iload hx hb dX10_tries_137 (lv_at hl 1 rfl) ?_
            refine lv_imul hx hb dX10_tries_139 ?_
            refine lv_bipush (v := 100) hx hb dX10_tries_140 (by decide) ?_
            refine lv_idiv hx hb dX10_tries_142 (by decide) ?_
            refine stM_34 C hd h.1 dX10_tries_143 (fun H locs hd => ?_)
            replace h := h.2
            refine lv_iinc (v := (x5 + (1 : Int32))) (lv' := [(5, .int (x5 + (1 : Int32))), (7, .int v_8), (6, .int r_5), (0, .ref o), (1, .int x1), (2, .int x2), (3, .int x3), (4, .int x4)]) hx hb dX10_tries_144 hl (k := 7) rfl rfl (by decide) rfl (fun ls hl => ?_)
            refine lv_goto (tgt := 19) hx hb dX10_tries_147 (by decide) ?_
            exact (ih).1 x1 x2 x3 x4 (x5 + (1 : Int32)) _ _ _ _ h hd (lv_sub hl [3, 4, 5, 6, 7, 0] rfl)
          · replace h := h.2 c_3
            refine lv_goto (tgt := 144) hx hb dX10_tries_45 (by decide) ?_
            refine lv_iinc (v := (x5 + (1 : Int32))) (lv' := [(5, .int (x5 + (1 : Int32))), (0, .ref o), (1, .int x1), (2, .int x2), (3, .int x3), (4, .int x4)]) hx hb dX10_tries_144 hl (k := 5) rfl rfl (by decide) rfl (fun ls hl => ?_)
            refine lv_goto (tgt := 19) hx hb dX10_tries_147 (by decide) ?_
            exact (ih).1 x1 x2 x3 x4 (x5 + (1 : Int32)) _ _ _ _ h hd (lv_sub hl [1, 2, 3, 4, 5, 0] rfl)
      · intro x1 x4 x5 k H locs ls h hd hl
        replace h : (((k.1 10) ≤ x5 → Qp x4 (sI k 16 ((k.1 16) + (1 : Int32)))) ∧ (¬ (k.1 10) ≤ x5 → ((¬ ((x1 >>> (x5 &&& 31)) &&& (1 : Int32)) = 0 → (vp_in x5 8 ∧ (vp_in x5 8 ∧ (wM_within ((k.2.1 8 x5.toNatClampNeg) + (k.2.1 34 x5.toNatClampNeg)) (-9999 : Int32) (9999 : Int32) k (fun r_11 k_11 => (vp_in x5 8 ∧ (vp_in x5 8 ∧ (vp_in x5 8 ∧ wM_tries n 2 x1 0 0 x4 (x5 + (1 : Int32)) (sA (sA k_11 8 (upd (k_11.2.1 8) x5.toNatClampNeg r_11)) 9 (upd (k_11.2.1 9) x5.toNatClampNeg ((k_11.2.1 9 x5.toNatClampNeg) + (1 : Int32)))) Qp)))))))) ∧ (((x1 >>> (x5 &&& 31)) &&& (1 : Int32)) = 0 → wM_tries n 2 x1 0 0 x4 (x5 + (1 : Int32)) k Qp)))) := h
        refine lv_iload hx hb dX10_tries_153 (lv_at hl 3 rfl) ?_
        refine lv_aload_n hx hb dX10_tries_155 rfl (lv_at hl 0 rfl) ?_
        refine gM_10 C hd (v := k.1 10) rfl dX10_tries_156 ?_
        refine lv_icmp_ge (tgt := 222) hx hb dX10_tries_159 (by decide) (fun c_9 => ?_) (fun c_9 => ?_)
        · replace h := h.1 c_9
          refine lv_aload_n hx hb dX10_tries_222 rfl (lv_at hl 0 rfl) ?_
          refine lv_dup hx hb dX10_tries_223 rfl ?_
          refine gM_16 C hd (v := k.1 16) rfl dX10_tries_224 ?_
          refine lv_iconst (v := 1) hx hb dX10_tries_227 (by decide) ?_
          refine lv_iadd hx hb dX10_tries_228 ?_
          refine pM_16 C hd dX10_tries_229 (fun H locs hd => ?_)
          refine lv_iload hx hb dX10_tries_232 (lv_at hl 2 rfl) ?_
          exact ret hd h dX10_tries_234
        · replace h := h.2 c_9
          refine lv_iload_n hx hb dX10_tries_162 rfl (lv_at hl 1 rfl) ?_
          refine lv_iload hx hb dX10_tries_163 (lv_at hl 3 rfl) ?_
          refine lv_ishr hx hb dX10_tries_165 ?_
          refine lv_iconst (v := 1) hx hb dX10_tries_166 (by decide) ?_
          refine lv_iand hx hb dX10_tries_167 ?_
          refine lv_if_ne (tgt := 174) hx hb dX10_tries_168 (by decide) (fun c_10 => ?_) (fun c_10 => ?_)
          · replace h := h.1 c_10
            refine lv_aload_n hx hb dX10_tries_174 rfl (lv_at hl 0 rfl) ?_
            refine gM_8 C hd dX10_tries_175 ?_
            refine lv_iload hx hb dX10_tries_178 (lv_at hl 3 rfl) ?_
            refine lv_aload_n hx hb dX10_tries_180 rfl (lv_at hl 0 rfl) ?_
            refine gM_8 C hd dX10_tries_181 ?_
            refine lv_iload hx hb dX10_tries_184 (lv_at hl 3 rfl) ?_
            refine ldM_8 C hd (v := k.2.1 8 x5.toNatClampNeg) h.1 rfl dX10_tries_186 ?_
            replace h := h.2
            refine lv_aload_n hx hb dX10_tries_187 rfl (lv_at hl 0 rfl) ?_
            refine gM_34 C hd dX10_tries_188 ?_
            refine lv_iload hx hb dX10_tries_191 (lv_at hl 3 rfl) ?_
            refine ldM_34 C hd (v := k.2.1 34 x5.toNatClampNeg) h.1 rfl dX10_tries_193 ?_
            replace h := h.2
            refine lv_iadd hx hb dX10_tries_194 ?_
            refine lv_sipush (v := -9999) hx hb dX10_tries_195 (by decide) ?_
            refine lv_sipush (v := 9999) hx hb dX10_tries_198 (by decide) ?_
            refine xs_i C hd kwRX10_X10_within (cM_within _ _ _ h) ⟨rfl, rfl⟩ ⟨by decide, by decide⟩ hl.1 rfl rfl (Nat.le_of_ble_eq_true rfl) ⟨Nat.zero_le _, Nat.zero_le _⟩ dX10_tries_201 (fun r_11 k_11 H locs h hd => ?_)
            refine stM_8 C hd h.1 dX10_tries_204 (fun H locs hd => ?_)
            replace h := h.2
            refine lv_aload_n hx hb dX10_tries_205 rfl (lv_at hl 0 rfl) ?_
            refine gM_9 C hd dX10_tries_206 ?_
            refine lv_iload hx hb dX10_tries_209 (lv_at hl 3 rfl) ?_
            refine lv_dup2_11 hx hb dX10_tries_211 rfl rfl ?_
            refine ldM_9 C hd (v := k_11.2.1 9 x5.toNatClampNeg) h.1 rfl dX10_tries_212 ?_
            replace h := h.2
            refine lv_iconst (v := 1) hx hb dX10_tries_213 (by decide) ?_
            refine lv_iadd hx hb dX10_tries_214 ?_
            refine stM_9 C hd h.1 dX10_tries_215 (fun H locs hd => ?_)
            replace h := h.2
            refine lv_iinc (v := (x5 + (1 : Int32))) (lv' := [(5, .int (x5 + (1 : Int32))), (0, .ref o), (1, .int x1), (4, .int x4)]) hx hb dX10_tries_216 hl (k := 3) rfl rfl (by decide) rfl (fun ls hl => ?_)
            refine lv_goto (tgt := 153) hx hb dX10_tries_219 (by decide) ?_
            exact (ih).2 x1 x4 (x5 + (1 : Int32)) _ _ _ _ h hd (lv_sub hl [1, 2, 3, 0] rfl)
          · replace h := h.2 c_10
            refine lv_goto (tgt := 216) hx hb dX10_tries_171 (by decide) ?_
            refine lv_iinc (v := (x5 + (1 : Int32))) (lv' := [(5, .int (x5 + (1 : Int32))), (0, .ref o), (1, .int x1), (4, .int x4)]) hx hb dX10_tries_216 hl (k := 3) rfl rfl (by decide) rfl (fun ls hl => ?_)
            refine lv_goto (tgt := 153) hx hb dX10_tries_219 (by decide) ?_
            exact (ih).2 x1 x4 (x5 + (1 : Int32)) _ _ _ _ h hd (lv_sub hl [1, 2, 3, 0] rfl)
  cases n with
  | zero => exact h.elim
  | succ n =>
    replace h : (∃ n_1 : Nat, wM_sumOf n_1 0 x1 0 0 0 k (fun r_1 k_1 => (vp_in x2 4 ∧ wM_tries n 1 x1 x2 r_1 ((k_1.2.1 11 x2.toNatClampNeg) - r_1) (0 : Int32) k_1 Qp))) := h
    refine lv_aload_n hx hb dX10_tries_0 rfl (lv_at hl 0 rfl) ?_
    refine lv_iload_n hx hb dX10_tries_1 rfl (lv_at hl 1 rfl) ?_
    obtain ⟨n_1, h⟩ := h
    refine xv_i C hd kwRX10_X10_sumOf (cM_sumOf n_1 _ h) ⟨rfl, rfl⟩ ⟨by decide, by decide⟩ wM_rcv hl.1 rfl rfl (Nat.le_of_ble_eq_true rfl) ⟨Nat.zero_le _, Nat.zero_le _⟩ dX10_tries_2 (fun r_1 k_1 H locs h hd => ?_)
    refine lv_istore_n (lv' := [(3, .int r_1), (0, .ref o), (1, .int x1), (2, .int x2)]) hx hb dX10_tries_5 rfl hl (by decide) rfl (fun ls hl => ?_)
    refine lv_aload_n hx hb dX10_tries_6 rfl (lv_at hl 1 rfl) ?_
    refine gM_11 C hd dX10_tries_7 ?_
    refine lv_iload_n hx hb dX10_tries_10 rfl (lv_at hl 3 rfl) ?_
    refine ldM_11 C hd (v := k_1.2.1 11 x2.toNatClampNeg) h.1 rfl dX10_tries_11 ?_
    replace h := h.2
    refine lv_iload_n hx hb dX10_tries_12 rfl (lv_at hl 0 rfl) ?_
    refine lv_isub hx hb dX10_tries_13 ?_
    refine lv_istore (lv' := [(4, .int ((k_1.2.1 11 x2.toNatClampNeg) - r_1)), (3, .int r_1), (0, .ref o), (1, .int x1), (2, .int x2)]) hx hb dX10_tries_14 hl (by decide) rfl (fun ls hl => ?_)
    refine lv_iconst (v := 0) hx hb dX10_tries_16 (by decide) ?_
    refine lv_istore (lv' := [(5, .int (0 : Int32)), (4, .int ((k_1.2.1 11 x2.toNatClampNeg) - r_1)), (3, .int r_1), (0, .ref o), (1, .int x1), (2, .int x2)]) hx hb dX10_tries_17 hl (by decide) rfl (fun ls hl => ?_)
    exact (L n).1 x1 x2 r_1 ((k_1.2.1 11 x2.toNatClampNeg) - r_1) (0 : Int32) _ _ _ _ h hd (lv_sub hl [3, 4, 5, 2, 1, 0] rfl)
def wM_goesBy  : Nat → Nat → Int32 → Int32 → Int32 → GM → (GM → Prop) → Prop
  | 0, _, _, _, _, _, _ => False
  | n + 1, c, x1, x2, x3, k, Q => match c with
    | 0 => wM_goesBy n 1 x1 x2 (0 : Int32) k Q
    | _ => (vp_in x1 8 ∧ (((k.2.1 30 x1.toNatClampNeg) ≤ x3 → (∃ n_2 : Nat, wM_fades n_2 0 0 k (fun k_2 => Q k_2))) ∧ (¬ (k.2.1 30 x1.toNatClampNeg) ≤ x3 → (vp_in (((24 : Int32) * x1) + x3) 192 ∧ (vp_in (((24 : Int32) * x1) + x3) 192 ∧ (∃ n_3 : Nat, wM_tries n_3 0 (k.2.1 31 (((24 : Int32) * x1) + x3).toNatClampNeg) (k.2.1 32 (((24 : Int32) * x1) + x3).toNatClampNeg) 0 0 0 k (fun r_3 k_3 => ((x2 = 0 → wM_goesBy n 1 x1 x2 (x3 + (1 : Int32)) k_3 Q) ∧ (¬ x2 = 0 → (vp_in (((24 : Int32) * x1) + x3) 192 ∧ (vp_in (((24 : Int32) * x1) + x3) 192 ∧ (∃ n_5 : Nat, wM_counts n_5 0 (k_3.2.1 31 (((24 : Int32) * x1) + x3).toNatClampNeg) (k_3.2.1 32 (((24 : Int32) * x1) + x3).toNatClampNeg) 0 k_3 (fun k_5 => wM_goesBy n 1 x1 x2 (x3 + (1 : Int32)) k_5 Q)))))))))))))
set_option maxHeartbeats 4000000 in
set_option maxRecDepth 100000 in
theorem cM_goesBy {l : Launch} {D : va_G} {o : Nat} {a : Nat → Nat} {g : Nat → ClassId} {k : GM} {Qp : GM → Prop} (n : Nat) (x1 : Int32) (x2 : Int32) (h : wM_goesBy n 0 x1 x2 0 k Qp) : Cv l D (tyA g) (wM o a g) yX10_goesBy cX10_goesBy 5 ({ frames := 61, cells := 0, slots := 0, locals := 2277 }) [.ref o, .int x1, .int x2] k Qp := by
  refine Cv_of (by decide) (Nat.le_of_ble_eq_true rfl) ?_
  intro p e s m args below meth c A Z ls C ret hd hl
  have hx := C.1
  have hb := C.2.1
  have hl : lv_has ls 5 [(0, .ref o), (1, .int x1), (2, .int x2)] := hl
  have L : ∀ n : Nat, (∀ (x1 : Int32) (x2 : Int32) (x3 : Int32) (k : GM) (H : Heap) (locs : List Loc) (ls : Array Slot), wM_goesBy n 1 x1 x2 x3 k Qp → Hd D (wM o a g k) A s H locs → lv_has ls 5 [(0, .ref o), (1, .int x1), (2, .int x2), (3, .int x3)] → W p l e ({ frames := 61, cells := 0, slots := 0, locals := 2277 }) s m args below meth c H locs 0 0 Z (F0 m 2 ls [])) := by
    intro n
    induction n with
    | zero => exact fun _ _ _ _ _ _ _ h => h.elim
    | succ n ih =>
      intro x1 x2 x3 k H locs ls h hd hl
      replace h : (vp_in x1 8 ∧ (((k.2.1 30 x1.toNatClampNeg) ≤ x3 → (∃ n_2 : Nat, wM_fades n_2 0 0 k (fun k_2 => Qp k_2))) ∧ (¬ (k.2.1 30 x1.toNatClampNeg) ≤ x3 → (vp_in (((24 : Int32) * x1) + x3) 192 ∧ (vp_in (((24 : Int32) * x1) + x3) 192 ∧ (∃ n_3 : Nat, wM_tries n_3 0 (k.2.1 31 (((24 : Int32) * x1) + x3).toNatClampNeg) (k.2.1 32 (((24 : Int32) * x1) + x3).toNatClampNeg) 0 0 0 k (fun r_3 k_3 => ((x2 = 0 → wM_goesBy n 1 x1 x2 (x3 + (1 : Int32)) k_3 Qp) ∧ (¬ x2 = 0 → (vp_in (((24 : Int32) * x1) + x3) 192 ∧ (vp_in (((24 : Int32) * x1) + x3) 192 ∧ (∃ n_5 : Nat, wM_counts n_5 0 (k_3.2.1 31 (((24 : Int32) * x1) + x3).toNatClampNeg) (k_3.2.1 32 (((24 : Int32) * x1) + x3).toNatClampNeg) 0 k_3 (fun k_5 => wM_goesBy n 1 x1 x2 (x3 + (1 : Int32)) k_5 Qp))))))))))))) := h
      refine lv_iload_n hx hb dX10_goesBy_2 rfl (lv_at hl 3 rfl) ?_
      refine lv_aload_n hx hb dX10_goesBy_3 rfl (lv_at hl 0 rfl) ?_
      refine gM_30 C hd dX10_goesBy_4 ?_
      refine lv_iload_n hx hb dX10_goesBy_7 rfl (lv_at hl 1 rfl) ?_
      refine ldM_30 C hd (v := k.2.1 30 x1.toNatClampNeg) h.1 rfl dX10_goesBy_8 ?_
      replace h := h.2
      refine lv_icmp_ge (tgt := 76) hx hb dX10_goesBy_9 (by decide) (fun c_1 => ?_) (fun c_1 => ?_)
      · replace h := h.1 c_1
        refine lv_aload_n hx hb dX10_goesBy_76 rfl (lv_at hl 0 rfl) ?_
        obtain ⟨n_2, h⟩ := h
        refine xv_v C hd kwRX10_X10_fades (cM_fades n_2 h) ⟨rfl, rfl⟩ ⟨by decide, by decide⟩ wM_rcv hl.1 rfl rfl (Nat.le_of_ble_eq_true rfl) ⟨Nat.zero_le _, Nat.zero_le _⟩ dX10_goesBy_77 (fun k_2 H locs h hd => ?_)
        exact ret hd h dX10_goesBy_80
      · replace h := h.2 c_1
        refine lv_aload_n hx hb dX10_goesBy_12 rfl (lv_at hl 0 rfl) ?_
        refine lv_aload_n hx hb dX10_goesBy_13 rfl (lv_at hl 0 rfl) ?_
        refine gM_31 C hd dX10_goesBy_14 ?_
        refine lv_bipush (v := 24) hx hb dX10_goesBy_17 (by decide) ?_
        refine lv_iload_n hx hb dX10_goesBy_19 rfl (lv_at hl 1 rfl) ?_
        refine lv_imul hx hb dX10_goesBy_20 ?_
        refine lv_iload_n hx hb dX10_goesBy_21 rfl (lv_at hl 3 rfl) ?_
        refine lv_iadd hx hb dX10_goesBy_22 ?_
        refine ldM_31 C hd (v := k.2.1 31 (((24 : Int32) * x1) + x3).toNatClampNeg) h.1 rfl dX10_goesBy_23 ?_
        replace h := h.2
        refine lv_aload_n hx hb dX10_goesBy_24 rfl (lv_at hl 0 rfl) ?_
        refine gM_32 C hd dX10_goesBy_25 ?_
        refine lv_bipush (v := 24) hx hb dX10_goesBy_28 (by decide) ?_
        refine lv_iload_n hx hb dX10_goesBy_30 rfl (lv_at hl 1 rfl) ?_
        refine lv_imul hx hb dX10_goesBy_31 ?_
        refine lv_iload_n hx hb dX10_goesBy_32 rfl (lv_at hl 3 rfl) ?_
        refine lv_iadd hx hb dX10_goesBy_33 ?_
        refine ldM_32 C hd (v := k.2.1 32 (((24 : Int32) * x1) + x3).toNatClampNeg) h.1 rfl dX10_goesBy_34 ?_
        replace h := h.2
        obtain ⟨n_3, h⟩ := h
        refine xv_i C hd kwRX10_X10_tries (cM_tries n_3 _ _ h) ⟨rfl, rfl⟩ ⟨by decide, by decide⟩ wM_rcv hl.1 rfl rfl (Nat.le_of_ble_eq_true rfl) ⟨Nat.zero_le _, Nat.zero_le _⟩ dX10_goesBy_35 (fun r_3 k_3 H locs h hd => ?_)
        refine lv_istore (lv' := [(4, .int r_3), (0, .ref o), (1, .int x1), (2, .int x2), (3, .int x3)]) hx hb dX10_goesBy_38 hl (by decide) rfl (fun ls hl => ?_)
        refine lv_iload_n hx hb dX10_goesBy_40 rfl (lv_at hl 3 rfl) ?_
        refine lv_if_eq (tgt := 70) hx hb dX10_goesBy_41 (by decide) (fun c_4 => ?_) (fun c_4 => ?_)
        · replace h := h.1 c_4
          refine lv_iinc (v := (x3 + (1 : Int32))) (lv' := [(3, .int (x3 + (1 : Int32))), (4, .int r_3), (0, .ref o), (1, .int x1), (2, .int x2)]) hx hb dX10_goesBy_70 hl (k := 4) rfl rfl (by decide) rfl (fun ls hl => ?_)
          refine lv_goto (tgt := 2) hx hb dX10_goesBy_73 (by decide) ?_
          exact ih x1 x2 (x3 + (1 : Int32)) _ _ _ _ h hd (lv_sub hl [2, 3, 4, 0] rfl)
        · replace h := h.2 c_4
          refine lv_aload_n hx hb dX10_goesBy_44 rfl (lv_at hl 1 rfl) ?_
          refine lv_aload_n hx hb dX10_goesBy_45 rfl (lv_at hl 1 rfl) ?_
          refine gM_31 C hd dX10_goesBy_46 ?_
          refine lv_bipush (v := 24) hx hb dX10_goesBy_49 (by decide) ?_
          refine lv_iload_n hx hb dX10_goesBy_51 rfl (lv_at hl 2 rfl) ?_
          refine lv_imul hx hb dX10_goesBy_52 ?_
          refine lv_iload_n hx hb dX10_goesBy_53 rfl (lv_at hl 4 rfl) ?_
          refine lv_iadd hx hb dX10_goesBy_54 ?_
          refine ldM_31 C hd (v := k_3.2.1 31 (((24 : Int32) * x1) + x3).toNatClampNeg) h.1 rfl dX10_goesBy_55 ?_
          replace h := h.2
          refine lv_aload_n hx hb dX10_goesBy_56 rfl (lv_at hl 1 rfl) ?_
          refine gM_32 C hd dX10_goesBy_57 ?_
          refine lv_bipush (v := 24) hx hb dX10_goesBy_60 (by decide) ?_
          refine lv_iload_n hx hb dX10_goesBy_62 rfl (lv_at hl 2 rfl) ?_
          refine lv_imul hx hb dX10_goesBy_63 ?_
          refine lv_iload_n hx hb dX10_goesBy_64 rfl (lv_at hl 4 rfl) ?_
          refine lv_iadd hx hb dX10_goesBy_65 ?_
          refine ldM_32 C hd (v := k_3.2.1 32 (((24 : Int32) * x1) + x3).toNatClampNeg) h.1 rfl dX10_goesBy_66 ?_
          replace h := h.2
          obtain ⟨n_5, h⟩ := h
          refine xv_v C hd kwRX10_X10_counts (cM_counts n_5 _ _ h) ⟨rfl, rfl⟩ ⟨by decide, by decide⟩ wM_rcv hl.1 rfl rfl (Nat.le_of_ble_eq_true rfl) ⟨Nat.zero_le _, Nat.zero_le _⟩ dX10_goesBy_67 (fun k_5 H locs h hd => ?_)
          refine lv_iinc (v := (x3 + (1 : Int32))) (lv' := [(3, .int (x3 + (1 : Int32))), (4, .int r_3), (0, .ref o), (1, .int x1), (2, .int x2)]) hx hb dX10_goesBy_70 hl (k := 4) rfl rfl (by decide) rfl (fun ls hl => ?_)
          refine lv_goto (tgt := 2) hx hb dX10_goesBy_73 (by decide) ?_
          exact ih x1 x2 (x3 + (1 : Int32)) _ _ _ _ h hd (lv_sub hl [2, 3, 4, 0] rfl)
  cases n with
  | zero => exact h.elim
  | succ n =>
    replace h : wM_goesBy n 1 x1 x2 (0 : Int32) k Qp := h
    refine lv_iconst (v := 0) hx hb dX10_goesBy_0 (by decide) ?_
    refine lv_istore_n (lv' := [(3, .int (0 : Int32)), (0, .ref o), (1, .int x1), (2, .int x2)]) hx hb dX10_goesBy_1 rfl hl (by decide) rfl (fun ls hl => ?_)
    exact L n x1 x2 (0 : Int32) _ _ _ _ h hd (lv_sub hl [1, 2, 3, 0] rfl)
def wM_laysAside  : Nat → Nat → Int32 → Int32 → GM → (GM → Prop) → Prop
  | 0, _, _, _, _, _ => False
  | n + 1, c, x1, x2, k, Q => match c with
    | 0 => wM_laysAside n 1 x1 (0 : Int32) k Q
    | _ => (((k.1 10) ≤ x2 → ((x1 = 0 → ((x1 = 0 → Q (sI (sI (sI (sI (sI k 39 (k.1 15)) 40 (k.1 16)) 41 (k.1 14)) 15 (k.1 15)) 16 (k.1 16))) ∧ (¬ x1 = 0 → Q (sI (sI (sI (sI (sI k 39 (k.1 15)) 40 (k.1 16)) 41 (k.1 14)) 15 (k.1 15)) 16 (0 : Int32))))) ∧ (¬ x1 = 0 → ((x1 = 0 → Q (sI (sI (sI (sI (sI k 39 (k.1 15)) 40 (k.1 16)) 41 (k.1 14)) 15 (0 : Int32)) 16 (k.1 16))) ∧ (¬ x1 = 0 → Q (sI (sI (sI (sI (sI k 39 (k.1 15)) 40 (k.1 16)) 41 (k.1 14)) 15 (0 : Int32)) 16 (0 : Int32))))))) ∧ (¬ (k.1 10) ≤ x2 → (vp_in x2 8 ∧ (vp_in x2 8 ∧ (vp_in x2 8 ∧ (vp_in x2 8 ∧ ((x1 = 0 → (vp_in x2 8 ∧ (vp_in x2 8 ∧ ((x1 = 0 → (vp_in x2 8 ∧ (vp_in x2 8 ∧ wM_laysAside n 1 x1 (x2 + (1 : Int32)) (sA (sA (sA (sA k 37 (upd (k.2.1 37) x2.toNatClampNeg (k.2.1 8 x2.toNatClampNeg))) 38 (upd (k.2.1 38) x2.toNatClampNeg (k.2.1 9 x2.toNatClampNeg))) 8 (upd (k.2.1 8) x2.toNatClampNeg (k.2.1 8 x2.toNatClampNeg))) 9 (upd (k.2.1 9) x2.toNatClampNeg (k.2.1 9 x2.toNatClampNeg))) Q))) ∧ (¬ x1 = 0 → (vp_in x2 8 ∧ wM_laysAside n 1 x1 (x2 + (1 : Int32)) (sA (sA (sA (sA k 37 (upd (k.2.1 37) x2.toNatClampNeg (k.2.1 8 x2.toNatClampNeg))) 38 (upd (k.2.1 38) x2.toNatClampNeg (k.2.1 9 x2.toNatClampNeg))) 8 (upd (k.2.1 8) x2.toNatClampNeg (k.2.1 8 x2.toNatClampNeg))) 9 (upd (k.2.1 9) x2.toNatClampNeg (0 : Int32))) Q)))))) ∧ (¬ x1 = 0 → (vp_in x2 8 ∧ ((x1 = 0 → (vp_in x2 8 ∧ (vp_in x2 8 ∧ wM_laysAside n 1 x1 (x2 + (1 : Int32)) (sA (sA (sA (sA k 37 (upd (k.2.1 37) x2.toNatClampNeg (k.2.1 8 x2.toNatClampNeg))) 38 (upd (k.2.1 38) x2.toNatClampNeg (k.2.1 9 x2.toNatClampNeg))) 8 (upd (k.2.1 8) x2.toNatClampNeg (0 : Int32))) 9 (upd (k.2.1 9) x2.toNatClampNeg (k.2.1 9 x2.toNatClampNeg))) Q))) ∧ (¬ x1 = 0 → (vp_in x2 8 ∧ wM_laysAside n 1 x1 (x2 + (1 : Int32)) (sA (sA (sA (sA k 37 (upd (k.2.1 37) x2.toNatClampNeg (k.2.1 8 x2.toNatClampNeg))) 38 (upd (k.2.1 38) x2.toNatClampNeg (k.2.1 9 x2.toNatClampNeg))) 8 (upd (k.2.1 8) x2.toNatClampNeg (0 : Int32))) 9 (upd (k.2.1 9) x2.toNatClampNeg (0 : Int32))) Q))))))))))))
set_option maxHeartbeats 4000000 in
set_option maxRecDepth 100000 in
theorem cM_laysAside {l : Launch} {D : va_G} {o : Nat} {a : Nat → Nat} {g : Nat → ClassId} {k : GM} {Qp : GM → Prop} (n : Nat) (x1 : Int32) (h : wM_laysAside n 0 x1 0 k Qp) : Cv l D (tyA g) (wM o a g) yX10_laysAside cX10_laysAside 3 ({ frames := 0, cells := 0, slots := 0, locals := 0 }) [.ref o, .int x1] k Qp := by
  refine Cv_of (by decide) (Nat.le_of_ble_eq_true rfl) ?_
  intro p e s m args below meth c A Z ls C ret hd hl
  have hx := C.1
  have hb := C.2.1
  have hl : lv_has ls 3 [(0, .ref o), (1, .int x1)] := hl
  have L : ∀ n : Nat, (∀ (x1 : Int32) (x2 : Int32) (k : GM) (H : Heap) (locs : List Loc) (ls : Array Slot), wM_laysAside n 1 x1 x2 k Qp → Hd D (wM o a g k) A s H locs → lv_has ls 3 [(0, .ref o), (1, .int x1), (2, .int x2)] → W p l e ({ frames := 0, cells := 0, slots := 0, locals := 0 }) s m args below meth c H locs 0 0 Z (F0 m 2 ls [])) := by
    intro n
    induction n with
    | zero => exact fun _ _ _ _ _ _ h => h.elim
    | succ n ih =>
      intro x1 x2 k H locs ls h hd hl
      replace h : (((k.1 10) ≤ x2 → ((x1 = 0 → ((x1 = 0 → Qp (sI (sI (sI (sI (sI k 39 (k.1 15)) 40 (k.1 16)) 41 (k.1 14)) 15 (k.1 15)) 16 (k.1 16))) ∧ (¬ x1 = 0 → Qp (sI (sI (sI (sI (sI k 39 (k.1 15)) 40 (k.1 16)) 41 (k.1 14)) 15 (k.1 15)) 16 (0 : Int32))))) ∧ (¬ x1 = 0 → ((x1 = 0 → Qp (sI (sI (sI (sI (sI k 39 (k.1 15)) 40 (k.1 16)) 41 (k.1 14)) 15 (0 : Int32)) 16 (k.1 16))) ∧ (¬ x1 = 0 → Qp (sI (sI (sI (sI (sI k 39 (k.1 15)) 40 (k.1 16)) 41 (k.1 14)) 15 (0 : Int32)) 16 (0 : Int32))))))) ∧ (¬ (k.1 10) ≤ x2 → (vp_in x2 8 ∧ (vp_in x2 8 ∧ (vp_in x2 8 ∧ (vp_in x2 8 ∧ ((x1 = 0 → (vp_in x2 8 ∧ (vp_in x2 8 ∧ ((x1 = 0 → (vp_in x2 8 ∧ (vp_in x2 8 ∧ wM_laysAside n 1 x1 (x2 + (1 : Int32)) (sA (sA (sA (sA k 37 (upd (k.2.1 37) x2.toNatClampNeg (k.2.1 8 x2.toNatClampNeg))) 38 (upd (k.2.1 38) x2.toNatClampNeg (k.2.1 9 x2.toNatClampNeg))) 8 (upd (k.2.1 8) x2.toNatClampNeg (k.2.1 8 x2.toNatClampNeg))) 9 (upd (k.2.1 9) x2.toNatClampNeg (k.2.1 9 x2.toNatClampNeg))) Qp))) ∧ (¬ x1 = 0 → (vp_in x2 8 ∧ wM_laysAside n 1 x1 (x2 + (1 : Int32)) (sA (sA (sA (sA k 37 (upd (k.2.1 37) x2.toNatClampNeg (k.2.1 8 x2.toNatClampNeg))) 38 (upd (k.2.1 38) x2.toNatClampNeg (k.2.1 9 x2.toNatClampNeg))) 8 (upd (k.2.1 8) x2.toNatClampNeg (k.2.1 8 x2.toNatClampNeg))) 9 (upd (k.2.1 9) x2.toNatClampNeg (0 : Int32))) Qp)))))) ∧ (¬ x1 = 0 → (vp_in x2 8 ∧ ((x1 = 0 → (vp_in x2 8 ∧ (vp_in x2 8 ∧ wM_laysAside n 1 x1 (x2 + (1 : Int32)) (sA (sA (sA (sA k 37 (upd (k.2.1 37) x2.toNatClampNeg (k.2.1 8 x2.toNatClampNeg))) 38 (upd (k.2.1 38) x2.toNatClampNeg (k.2.1 9 x2.toNatClampNeg))) 8 (upd (k.2.1 8) x2.toNatClampNeg (0 : Int32))) 9 (upd (k.2.1 9) x2.toNatClampNeg (k.2.1 9 x2.toNatClampNeg))) Qp))) ∧ (¬ x1 = 0 → (vp_in x2 8 ∧ wM_laysAside n 1 x1 (x2 + (1 : Int32)) (sA (sA (sA (sA k 37 (upd (k.2.1 37) x2.toNatClampNeg (k.2.1 8 x2.toNatClampNeg))) 38 (upd (k.2.1 38) x2.toNatClampNeg (k.2.1 9 x2.toNatClampNeg))) 8 (upd (k.2.1 8) x2.toNatClampNeg (0 : Int32))) 9 (upd (k.2.1 9) x2.toNatClampNeg (0 : Int32))) Qp)))))))))))) := h
      refine lv_iload_n hx hb dX10_laysAside_2 rfl (lv_at hl 2 rfl) ?_
      refine lv_aload_n hx hb dX10_laysAside_3 rfl (lv_at hl 0 rfl) ?_
      refine gM_10 C hd (v := k.1 10) rfl dX10_laysAside_4 ?_
      refine lv_icmp_ge (tgt := 80) hx hb dX10_laysAside_7 (by decide) (fun c_1 => ?_) (fun c_1 => ?_)
      · replace h := h.1 c_1
        refine lv_aload_n hx hb dX10_laysAside_80 rfl (lv_at hl 0 rfl) ?_
        refine lv_aload_n hx hb dX10_laysAside_81 rfl (lv_at hl 0 rfl) ?_
        refine gM_15 C hd (v := k.1 15) rfl dX10_laysAside_82 ?_
        refine pM_39 C hd dX10_laysAside_85 (fun H locs hd => ?_)
        refine lv_aload_n hx hb dX10_laysAside_88 rfl (lv_at hl 0 rfl) ?_
        refine lv_aload_n hx hb dX10_laysAside_89 rfl (lv_at hl 0 rfl) ?_
        refine gM_16 C hd (v := k.1 16) rfl dX10_laysAside_90 ?_
        refine pM_40 C hd dX10_laysAside_93 (fun H locs hd => ?_)
        refine lv_aload_n hx hb dX10_laysAside_96 rfl (lv_at hl 0 rfl) ?_
        refine lv_aload_n hx hb dX10_laysAside_97 rfl (lv_at hl 0 rfl) ?_
        refine gM_14 C hd (v := k.1 14) rfl dX10_laysAside_98 ?_
        refine pM_41 C hd dX10_laysAside_101 (fun H locs hd => ?_)
        refine lv_aload_n hx hb dX10_laysAside_104 rfl (lv_at hl 0 rfl) ?_
        refine lv_iload_n hx hb dX10_laysAside_105 rfl (lv_at hl 1 rfl) ?_
        refine lv_if_eq (tgt := 113) hx hb dX10_laysAside_106 (by decide) (fun c_2 => ?_) (fun c_2 => ?_)
        · replace h := h.1 c_2
          refine lv_aload_n hx hb dX10_laysAside_113 rfl (lv_at hl 0 rfl) ?_
          refine gM_15 C hd (v := k.1 15) rfl dX10_laysAside_114 ?_
          refine pM_15 C hd dX10_laysAside_117 (fun H locs hd => ?_)
          refine lv_aload_n hx hb dX10_laysAside_120 rfl (lv_at hl 0 rfl) ?_
          refine lv_iload_n hx hb dX10_laysAside_121 rfl (lv_at hl 1 rfl) ?_
          refine lv_if_eq (tgt := 129) hx hb dX10_laysAside_122 (by decide) (fun c_3 => ?_) (fun c_3 => ?_)
          · replace h := h.1 c_3
            refine lv_aload_n hx hb dX10_laysAside_129 rfl (lv_at hl 0 rfl) ?_
            refine gM_16 C hd (v := k.1 16) rfl dX10_laysAside_130 ?_
            refine pM_16 C hd dX10_laysAside_133 (fun H locs hd => ?_)
            exact ret hd h dX10_laysAside_136
          · replace h := h.2 c_3
            refine lv_iconst (v := 0) hx hb dX10_laysAside_125 (by decide) ?_
            refine lv_goto (tgt := 133) hx hb dX10_laysAside_126 (by decide) ?_
            refine pM_16 C hd dX10_laysAside_133 (fun H locs hd => ?_)
            exact ret hd h dX10_laysAside_136
        · replace h := h.2 c_2
          refine lv_iconst (v := 0) hx hb dX10_laysAside_109 (by decide) ?_
          refine lv_goto (tgt := 117) hx hb dX10_laysAside_110 (by decide) ?_
          refine pM_15 C hd dX10_laysAside_117 (fun H locs hd => ?_)
          refine lv_aload_n hx hb dX10_laysAside_120 rfl (lv_at hl 0 rfl) ?_
          refine lv_iload_n hx hb dX10_laysAside_121 rfl (lv_at hl 1 rfl) ?_
          refine lv_if_eq (tgt := 129) hx hb dX10_laysAside_122 (by decide) (fun c_4 => ?_) (fun c_4 => ?_)
          · replace h := h.1 c_4
            refine lv_aload_n hx hb dX10_laysAside_129 rfl (lv_at hl 0 rfl) ?_
            refine gM_16 C hd (v := k.1 16) rfl dX10_laysAside_130 ?_
            refine pM_16 C hd dX10_laysAside_133 (fun H locs hd => ?_)
            exact ret hd h dX10_laysAside_136
          · replace h := h.2 c_4
            refine lv_iconst (v := 0) hx hb dX10_laysAside_125 (by decide) ?_
            refine lv_goto (tgt := 133) hx hb dX10_laysAside_126 (by decide) ?_
            refine pM_16 C hd dX10_laysAside_133 (fun H locs hd => ?_)
            exact ret hd h dX10_laysAside_136
      · replace h := h.2 c_1
        refine lv_aload_n hx hb dX10_laysAside_10 rfl (lv_at hl 0 rfl) ?_
        refine gM_37 C hd dX10_laysAside_11 ?_
        refine lv_iload_n hx hb dX10_laysAside_14 rfl (lv_at hl 2 rfl) ?_
        refine lv_aload_n hx hb dX10_laysAside_15 rfl (lv_at hl 0 rfl) ?_
        refine gM_8 C hd dX10_laysAside_16 ?_
        refine lv_iload_n hx hb dX10_laysAside_19 rfl (lv_at hl 2 rfl) ?_
        refine ldM_8 C hd (v := k.2.1 8 x2.toNatClampNeg) h.1 rfl dX10_laysAside_20 ?_
        replace h := h.2
        refine stM_37 C hd h.1 dX10_laysAside_21 (fun H locs hd => ?_)
        replace h := h.2
        refine lv_aload_n hx hb dX10_laysAside_22 rfl (lv_at hl 0 rfl) ?_
        refine gM_38 C hd dX10_laysAside_23 ?_
        refine lv_iload_n hx hb dX10_laysAside_26 rfl (lv_at hl 2 rfl) ?_
        refine lv_aload_n hx hb dX10_laysAside_27 rfl (lv_at hl 0 rfl) ?_
        refine gM_9 C hd dX10_laysAside_28 ?_
        refine lv_iload_n hx hb dX10_laysAside_31 rfl (lv_at hl 2 rfl) ?_
        refine ldM_9 C hd (v := k.2.1 9 x2.toNatClampNeg) h.1 rfl dX10_laysAside_32 ?_
        replace h := h.2
        refine stM_38 C hd h.1 dX10_laysAside_33 (fun H locs hd => ?_)
        replace h := h.2
        refine lv_aload_n hx hb dX10_laysAside_34 rfl (lv_at hl 0 rfl) ?_
        refine gM_8 C hd dX10_laysAside_35 ?_
        refine lv_iload_n hx hb dX10_laysAside_38 rfl (lv_at hl 2 rfl) ?_
        refine lv_iload_n hx hb dX10_laysAside_39 rfl (lv_at hl 1 rfl) ?_
        refine lv_if_eq (tgt := 47) hx hb dX10_laysAside_40 (by decide) (fun c_5 => ?_) (fun c_5 => ?_)
        · replace h := h.1 c_5
          refine lv_aload_n hx hb dX10_laysAside_47 rfl (lv_at hl 0 rfl) ?_
          refine gM_8 C hd dX10_laysAside_48 ?_
          refine lv_iload_n hx hb dX10_laysAside_51 rfl (lv_at hl 2 rfl) ?_
          refine ldM_8 C hd (v := k.2.1 8 x2.toNatClampNeg) h.1 rfl dX10_laysAside_52 ?_
          replace h := h.2
          refine stM_8 C hd h.1 dX10_laysAside_53 (fun H locs hd => ?_)
          replace h := h.2
          refine lv_aload_n hx hb dX10_laysAside_54 rfl (lv_at hl 0 rfl) ?_
          refine gM_9 C hd dX10_laysAside_55 ?_
          refine lv_iload_n hx hb dX10_laysAside_58 rfl (lv_at hl 2 rfl) ?_
          refine lv_iload_n hx hb dX10_laysAside_59 rfl (lv_at hl 1 rfl) ?_
          refine lv_if_eq (tgt := 67) hx hb dX10_laysAside_60 (by decide) (fun c_6 => ?_) (fun c_6 => ?_)
          · replace h := h.1 c_6
            refine lv_aload_n hx hb dX10_laysAside_67 rfl (lv_at hl 0 rfl) ?_
            refine gM_9 C hd dX10_laysAside_68 ?_
            refine lv_iload_n hx hb dX10_laysAside_71 rfl (lv_at hl 2 rfl) ?_
            refine ldM_9 C hd (v := k.2.1 9 x2.toNatClampNeg) h.1 rfl dX10_laysAside_72 ?_
            replace h := h.2
            refine stM_9 C hd h.1 dX10_laysAside_73 (fun H locs hd => ?_)
            replace h := h.2
            refine lv_iinc (v := (x2 + (1 : Int32))) (lv' := [(2, .int (x2 + (1 : Int32))), (0, .ref o), (1, .int x1)]) hx hb dX10_laysAside_74 hl (k := 2) rfl rfl (by decide) rfl (fun ls hl => ?_)
            refine lv_goto (tgt := 2) hx hb dX10_laysAside_77 (by decide) ?_
            exact ih x1 (x2 + (1 : Int32)) _ _ _ _ h hd (lv_sub hl [1, 2, 0] rfl)
          · replace h := h.2 c_6
            refine lv_iconst (v := 0) hx hb dX10_laysAside_63 (by decide) ?_
            refine lv_goto (tgt := 73) hx hb dX10_laysAside_64 (by decide) ?_
            refine stM_9 C hd h.1 dX10_laysAside_73 (fun H locs hd => ?_)
            replace h := h.2
            refine lv_iinc (v := (x2 + (1 : Int32))) (lv' := [(2, .int (x2 + (1 : Int32))), (0, .ref o), (1, .int x1)]) hx hb dX10_laysAside_74 hl (k := 2) rfl rfl (by decide) rfl (fun ls hl => ?_)
            refine lv_goto (tgt := 2) hx hb dX10_laysAside_77 (by decide) ?_
            exact ih x1 (x2 + (1 : Int32)) _ _ _ _ h hd (lv_sub hl [1, 2, 0] rfl)
        · replace h := h.2 c_5
          refine lv_iconst (v := 0) hx hb dX10_laysAside_43 (by decide) ?_
          refine lv_goto (tgt := 53) hx hb dX10_laysAside_44 (by decide) ?_
          refine stM_8 C hd h.1 dX10_laysAside_53 (fun H locs hd => ?_)
          replace h := h.2
          refine lv_aload_n hx hb dX10_laysAside_54 rfl (lv_at hl 0 rfl) ?_
          refine gM_9 C hd dX10_laysAside_55 ?_
          refine lv_iload_n hx hb dX10_laysAside_58 rfl (lv_at hl 2 rfl) ?_
          refine lv_iload_n hx hb dX10_laysAside_59 rfl (lv_at hl 1 rfl) ?_
          refine lv_if_eq (tgt := 67) hx hb dX10_laysAside_60 (by decide) (fun c_7 => ?_) (fun c_7 => ?_)
          · replace h := h.1 c_7
            refine lv_aload_n hx hb dX10_laysAside_67 rfl (lv_at hl 0 rfl) ?_
            refine gM_9 C hd dX10_laysAside_68 ?_
            refine lv_iload_n hx hb dX10_laysAside_71 rfl (lv_at hl 2 rfl) ?_
            refine ldM_9 C hd (v := k.2.1 9 x2.toNatClampNeg) h.1 rfl dX10_laysAside_72 ?_
            replace h := h.2
            refine stM_9 C hd h.1 dX10_laysAside_73 (fun H locs hd => ?_)
            replace h := h.2
            refine lv_iinc (v := (x2 + (1 : Int32))) (lv' := [(2, .int (x2 + (1 : Int32))), (0, .ref o), (1, .int x1)]) hx hb dX10_laysAside_74 hl (k := 2) rfl rfl (by decide) rfl (fun ls hl => ?_)
            refine lv_goto (tgt := 2) hx hb dX10_laysAside_77 (by decide) ?_
            exact ih x1 (x2 + (1 : Int32)) _ _ _ _ h hd (lv_sub hl [1, 2, 0] rfl)
          · replace h := h.2 c_7
            refine lv_iconst (v := 0) hx hb dX10_laysAside_63 (by decide) ?_
            refine lv_goto (tgt := 73) hx hb dX10_laysAside_64 (by decide) ?_
            refine stM_9 C hd h.1 dX10_laysAside_73 (fun H locs hd => ?_)
            replace h := h.2
            refine lv_iinc (v := (x2 + (1 : Int32))) (lv' := [(2, .int (x2 + (1 : Int32))), (0, .ref o), (1, .int x1)]) hx hb dX10_laysAside_74 hl (k := 2) rfl rfl (by decide) rfl (fun ls hl => ?_)
            refine lv_goto (tgt := 2) hx hb dX10_laysAside_77 (by decide) ?_
            exact ih x1 (x2 + (1 : Int32)) _ _ _ _ h hd (lv_sub hl [1, 2, 0] rfl)
  cases n with
  | zero => exact h.elim
  | succ n =>
    replace h : wM_laysAside n 1 x1 (0 : Int32) k Qp := h
    refine lv_iconst (v := 0) hx hb dX10_laysAside_0 (by decide) ?_
    refine lv_istore_n (lv' := [(2, .int (0 : Int32)), (0, .ref o), (1, .int x1)]) hx hb dX10_laysAside_1 rfl hl (by decide) rfl (fun ls hl => ?_)
    exact L n x1 (0 : Int32) _ _ _ _ h hd (lv_sub hl [1, 2, 0] rfl)
def wM_laysBack  : Nat → Nat → Int32 → GM → (GM → Prop) → Prop
  | 0, _, _, _, _ => False
  | n + 1, c, x1, k, Q => match c with
    | 0 => wM_laysBack n 1 (0 : Int32) k Q
    | _ => (((k.1 10) ≤ x1 → Q (sI (sI (sI k 15 (k.1 39)) 16 (k.1 40)) 14 (k.1 41))) ∧ (¬ (k.1 10) ≤ x1 → (vp_in x1 8 ∧ (vp_in x1 8 ∧ (vp_in x1 8 ∧ (vp_in x1 8 ∧ wM_laysBack n 1 (x1 + (1 : Int32)) (sA (sA k 8 (upd (k.2.1 8) x1.toNatClampNeg (k.2.1 37 x1.toNatClampNeg))) 9 (upd (k.2.1 9) x1.toNatClampNeg (k.2.1 38 x1.toNatClampNeg))) Q))))))
set_option maxHeartbeats 4000000 in
set_option maxRecDepth 100000 in
theorem cM_laysBack {l : Launch} {D : va_G} {o : Nat} {a : Nat → Nat} {g : Nat → ClassId} {k : GM} {Qp : GM → Prop} (n : Nat)  (h : wM_laysBack n 0 0 k Qp) : Cv l D (tyA g) (wM o a g) yX10_laysBack cX10_laysBack 2 ({ frames := 0, cells := 0, slots := 0, locals := 0 }) [.ref o] k Qp := by
  refine Cv_of (by decide) (Nat.le_of_ble_eq_true rfl) ?_
  intro p e s m args below meth c A Z ls C ret hd hl
  have hx := C.1
  have hb := C.2.1
  have hl : lv_has ls 2 [(0, .ref o)] := hl
  have L : ∀ n : Nat, (∀ (x1 : Int32) (k : GM) (H : Heap) (locs : List Loc) (ls : Array Slot), wM_laysBack n 1 x1 k Qp → Hd D (wM o a g k) A s H locs → lv_has ls 2 [(0, .ref o), (1, .int x1)] → W p l e ({ frames := 0, cells := 0, slots := 0, locals := 0 }) s m args below meth c H locs 0 0 Z (F0 m 2 ls [])) := by
    intro n
    induction n with
    | zero => exact fun _ _ _ _ _ h => h.elim
    | succ n ih =>
      intro x1 k H locs ls h hd hl
      replace h : (((k.1 10) ≤ x1 → Qp (sI (sI (sI k 15 (k.1 39)) 16 (k.1 40)) 14 (k.1 41))) ∧ (¬ (k.1 10) ≤ x1 → (vp_in x1 8 ∧ (vp_in x1 8 ∧ (vp_in x1 8 ∧ (vp_in x1 8 ∧ wM_laysBack n 1 (x1 + (1 : Int32)) (sA (sA k 8 (upd (k.2.1 8) x1.toNatClampNeg (k.2.1 37 x1.toNatClampNeg))) 9 (upd (k.2.1 9) x1.toNatClampNeg (k.2.1 38 x1.toNatClampNeg))) Qp)))))) := h
      refine lv_iload_n hx hb dX10_laysBack_2 rfl (lv_at hl 1 rfl) ?_
      refine lv_aload_n hx hb dX10_laysBack_3 rfl (lv_at hl 0 rfl) ?_
      refine gM_10 C hd (v := k.1 10) rfl dX10_laysBack_4 ?_
      refine lv_icmp_ge (tgt := 40) hx hb dX10_laysBack_7 (by decide) (fun c_1 => ?_) (fun c_1 => ?_)
      · replace h := h.1 c_1
        refine lv_aload_n hx hb dX10_laysBack_40 rfl (lv_at hl 0 rfl) ?_
        refine lv_aload_n hx hb dX10_laysBack_41 rfl (lv_at hl 0 rfl) ?_
        refine gM_39 C hd (v := k.1 39) rfl dX10_laysBack_42 ?_
        refine pM_15 C hd dX10_laysBack_45 (fun H locs hd => ?_)
        refine lv_aload_n hx hb dX10_laysBack_48 rfl (lv_at hl 0 rfl) ?_
        refine lv_aload_n hx hb dX10_laysBack_49 rfl (lv_at hl 0 rfl) ?_
        refine gM_40 C hd (v := k.1 40) rfl dX10_laysBack_50 ?_
        refine pM_16 C hd dX10_laysBack_53 (fun H locs hd => ?_)
        refine lv_aload_n hx hb dX10_laysBack_56 rfl (lv_at hl 0 rfl) ?_
        refine lv_aload_n hx hb dX10_laysBack_57 rfl (lv_at hl 0 rfl) ?_
        refine gM_41 C hd (v := k.1 41) rfl dX10_laysBack_58 ?_
        refine pM_14 C hd dX10_laysBack_61 (fun H locs hd => ?_)
        exact ret hd h dX10_laysBack_64
      · replace h := h.2 c_1
        refine lv_aload_n hx hb dX10_laysBack_10 rfl (lv_at hl 0 rfl) ?_
        refine gM_8 C hd dX10_laysBack_11 ?_
        refine lv_iload_n hx hb dX10_laysBack_14 rfl (lv_at hl 1 rfl) ?_
        refine lv_aload_n hx hb dX10_laysBack_15 rfl (lv_at hl 0 rfl) ?_
        refine gM_37 C hd dX10_laysBack_16 ?_
        refine lv_iload_n hx hb dX10_laysBack_19 rfl (lv_at hl 1 rfl) ?_
        refine ldM_37 C hd (v := k.2.1 37 x1.toNatClampNeg) h.1 rfl dX10_laysBack_20 ?_
        replace h := h.2
        refine stM_8 C hd h.1 dX10_laysBack_21 (fun H locs hd => ?_)
        replace h := h.2
        refine lv_aload_n hx hb dX10_laysBack_22 rfl (lv_at hl 0 rfl) ?_
        refine gM_9 C hd dX10_laysBack_23 ?_
        refine lv_iload_n hx hb dX10_laysBack_26 rfl (lv_at hl 1 rfl) ?_
        refine lv_aload_n hx hb dX10_laysBack_27 rfl (lv_at hl 0 rfl) ?_
        refine gM_38 C hd dX10_laysBack_28 ?_
        refine lv_iload_n hx hb dX10_laysBack_31 rfl (lv_at hl 1 rfl) ?_
        refine ldM_38 C hd (v := k.2.1 38 x1.toNatClampNeg) h.1 rfl dX10_laysBack_32 ?_
        replace h := h.2
        refine stM_9 C hd h.1 dX10_laysBack_33 (fun H locs hd => ?_)
        replace h := h.2
        refine lv_iinc (v := (x1 + (1 : Int32))) (lv' := [(1, .int (x1 + (1 : Int32))), (0, .ref o)]) hx hb dX10_laysBack_34 hl (k := 1) rfl rfl (by decide) rfl (fun ls hl => ?_)
        refine lv_goto (tgt := 2) hx hb dX10_laysBack_37 (by decide) ?_
        exact ih (x1 + (1 : Int32)) _ _ _ _ h hd (lv_sub hl [1, 0] rfl)
  cases n with
  | zero => exact h.elim
  | succ n =>
    replace h : wM_laysBack n 1 (0 : Int32) k Qp := h
    refine lv_iconst (v := 0) hx hb dX10_laysBack_0 (by decide) ?_
    refine lv_istore_n (lv' := [(1, .int (0 : Int32)), (0, .ref o)]) hx hb dX10_laysBack_1 rfl hl (by decide) rfl (fun ls hl => ?_)
    exact L n (0 : Int32) _ _ _ _ h hd (lv_sub hl [1, 0] rfl)
def wM_behind  : Nat → Nat → Int32 → Int32 → Int32 → Int32 → GM → (Int32 → GM → Prop) → Prop
  | 0, _, _, _, _, _, _, _ => False
  | n + 1, c, x1, x2, x3, x4, k, Q => match c with
    | 0 => (∃ n_1 : Nat, wM_laysAside n_1 0 (1 : Int32) 0 k (fun k_1 => wM_behind n 1 0 x2 x3 (0 : Int32) (sI k_1 14 x1) Q))
    | _ => (((k.1 46) ≤ x4 → (∃ n_3 : Nat, wM_goesBy n_3 0 x2 (0 : Int32) 0 k (fun k_3 => (wM_dropsOf x3 k_3 (fun r_4 k_4 => (∃ n_5 : Nat, wM_laysBack n_5 0 0 k_4 (fun k_5 => Q r_4 k_5))))))) ∧ (¬ (k.1 46) ≤ x4 → (vp_in x4 20 ∧ (∃ n_6 : Nat, wM_goesBy n_6 0 (k.2.1 43 x4.toNatClampNeg) (0 : Int32) 0 k (fun k_6 => wM_behind n 1 0 x2 x3 (x4 + (1 : Int32)) k_6 Q)))))
set_option maxHeartbeats 4000000 in
set_option maxRecDepth 100000 in
theorem cM_behind {l : Launch} {D : va_G} {o : Nat} {a : Nat → Nat} {g : Nat → ClassId} {k : GM} {Qp : Int32 → GM → Prop} (n : Nat) (x1 : Int32) (x2 : Int32) (x3 : Int32) (h : wM_behind n 0 x1 x2 x3 0 k Qp) : Ci l D (tyA g) (wM o a g) yX10_behind cX10_behind 5 ({ frames := 62, cells := 0, slots := 0, locals := 2301 }) [.ref o, .int x1, .int x2, .int x3] k Qp := by
  refine Ci_of (by decide) (Nat.le_of_ble_eq_true rfl) ?_
  intro p e s m args below meth c A Z ls C ret hd hl
  have hx := C.1
  have hb := C.2.1
  have hl : lv_has ls 5 [(0, .ref o), (1, .int x1), (2, .int x2), (3, .int x3)] := hl
  have L : ∀ n : Nat, (∀ (x2 : Int32) (x3 : Int32) (x4 : Int32) (k : GM) (H : Heap) (locs : List Loc) (ls : Array Slot), wM_behind n 1 0 x2 x3 x4 k Qp → Hd D (wM o a g k) A s H locs → lv_has ls 5 [(0, .ref o), (2, .int x2), (3, .int x3), (4, .int x4)] → W p l e ({ frames := 62, cells := 0, slots := 0, locals := 2301 }) s m args below meth c H locs 0 0 Z (F0 m 13 ls [])) := by
    intro n
    induction n with
    | zero => exact fun _ _ _ _ _ _ _ h => h.elim
    | succ n ih =>
      intro x2 x3 x4 k H locs ls h hd hl
      replace h : (((k.1 46) ≤ x4 → (∃ n_3 : Nat, wM_goesBy n_3 0 x2 (0 : Int32) 0 k (fun k_3 => (wM_dropsOf x3 k_3 (fun r_4 k_4 => (∃ n_5 : Nat, wM_laysBack n_5 0 0 k_4 (fun k_5 => Qp r_4 k_5))))))) ∧ (¬ (k.1 46) ≤ x4 → (vp_in x4 20 ∧ (∃ n_6 : Nat, wM_goesBy n_6 0 (k.2.1 43 x4.toNatClampNeg) (0 : Int32) 0 k (fun k_6 => wM_behind n 1 0 x2 x3 (x4 + (1 : Int32)) k_6 Qp))))) := h
      refine lv_iload hx hb dX10_behind_13 (lv_at hl 3 rfl) ?_
      refine lv_aload_n hx hb dX10_behind_15 rfl (lv_at hl 0 rfl) ?_
      refine gM_46 C hd (v := k.1 46) rfl dX10_behind_16 ?_
      refine lv_icmp_ge (tgt := 40) hx hb dX10_behind_19 (by decide) (fun c_2 => ?_) (fun c_2 => ?_)
      · replace h := h.1 c_2
        refine lv_aload_n hx hb dX10_behind_40 rfl (lv_at hl 0 rfl) ?_
        refine lv_iload_n hx hb dX10_behind_41 rfl (lv_at hl 1 rfl) ?_
        refine lv_iconst (v := 0) hx hb dX10_behind_42 (by decide) ?_
        obtain ⟨n_3, h⟩ := h
        refine xv_v C hd kwRX10_X10_goesBy (cM_goesBy n_3 _ _ h) ⟨rfl, rfl⟩ ⟨by decide, by decide⟩ wM_rcv hl.1 rfl rfl (Nat.le_of_ble_eq_true rfl) ⟨Nat.zero_le _, Nat.zero_le _⟩ dX10_behind_43 (fun k_3 H locs h hd => ?_)
        refine lv_aload_n hx hb dX10_behind_46 rfl (lv_at hl 0 rfl) ?_
        refine lv_iload_n hx hb dX10_behind_47 rfl (lv_at hl 2 rfl) ?_
        refine xv_i C hd kwRX10_X10_dropsOf (cM_dropsOf _ h) ⟨rfl, rfl⟩ ⟨by decide, by decide⟩ wM_rcv hl.1 rfl rfl (Nat.le_of_ble_eq_true rfl) ⟨Nat.zero_le _, Nat.zero_le _⟩ dX10_behind_48 (fun r_4 k_4 H locs h hd => ?_)
        refine lv_istore (lv' := [(4, .int r_4), (0, .ref o), (2, .int x2), (3, .int x3)]) hx hb dX10_behind_51 hl (by decide) rfl (fun ls hl => ?_)
        refine lv_aload_n hx hb dX10_behind_53 rfl (lv_at hl 1 rfl) ?_
        obtain ⟨n_5, h⟩ := h
        refine xv_v C hd kwRX10_X10_laysBack (cM_laysBack n_5 h) ⟨rfl, rfl⟩ ⟨by decide, by decide⟩ wM_rcv hl.1 rfl rfl (Nat.le_of_ble_eq_true rfl) ⟨Nat.zero_le _, Nat.zero_le _⟩ dX10_behind_54 (fun k_5 H locs h hd => ?_)
        refine lv_iload hx hb dX10_behind_57 (lv_at hl 0 rfl) ?_
        exact ret hd h dX10_behind_59
      · replace h := h.2 c_2
        refine lv_aload_n hx hb dX10_behind_22 rfl (lv_at hl 0 rfl) ?_
        refine lv_aload_n hx hb dX10_behind_23 rfl (lv_at hl 0 rfl) ?_
        refine gM_43 C hd dX10_behind_24 ?_
        refine lv_iload hx hb dX10_behind_27 (lv_at hl 3 rfl) ?_
        refine ldM_43 C hd (v := k.2.1 43 x4.toNatClampNeg) h.1 rfl dX10_behind_29 ?_
        replace h := h.2
        refine lv_iconst (v := 0) hx hb dX10_behind_30 (by decide) ?_
        obtain ⟨n_6, h⟩ := h
        refine xv_v C hd kwRX10_X10_goesBy (cM_goesBy n_6 _ _ h) ⟨rfl, rfl⟩ ⟨by decide, by decide⟩ wM_rcv hl.1 rfl rfl (Nat.le_of_ble_eq_true rfl) ⟨Nat.zero_le _, Nat.zero_le _⟩ dX10_behind_31 (fun k_6 H locs h hd => ?_)
        refine lv_iinc (v := (x4 + (1 : Int32))) (lv' := [(4, .int (x4 + (1 : Int32))), (0, .ref o), (2, .int x2), (3, .int x3)]) hx hb dX10_behind_34 hl (k := 3) rfl rfl (by decide) rfl (fun ls hl => ?_)
        refine lv_goto (tgt := 13) hx hb dX10_behind_37 (by decide) ?_
        exact ih x2 x3 (x4 + (1 : Int32)) _ _ _ _ h hd (lv_sub hl [1, 2, 3, 0] rfl)
  cases n with
  | zero => exact h.elim
  | succ n =>
    replace h : (∃ n_1 : Nat, wM_laysAside n_1 0 (1 : Int32) 0 k (fun k_1 => wM_behind n 1 0 x2 x3 (0 : Int32) (sI k_1 14 x1) Qp)) := h
    refine lv_aload_n hx hb dX10_behind_0 rfl (lv_at hl 0 rfl) ?_
    refine lv_iconst (v := 1) hx hb dX10_behind_1 (by decide) ?_
    obtain ⟨n_1, h⟩ := h
    refine xv_v C hd kwRX10_X10_laysAside (cM_laysAside n_1 _ h) ⟨rfl, rfl⟩ ⟨by decide, by decide⟩ wM_rcv hl.1 rfl rfl (Nat.le_of_ble_eq_true rfl) ⟨Nat.zero_le _, Nat.zero_le _⟩ dX10_behind_2 (fun k_1 H locs h hd => ?_)
    refine lv_aload_n hx hb dX10_behind_5 rfl (lv_at hl 0 rfl) ?_
    refine lv_iload_n hx hb dX10_behind_6 rfl (lv_at hl 1 rfl) ?_
    refine pM_14 C hd dX10_behind_7 (fun H locs hd => ?_)
    refine lv_iconst (v := 0) hx hb dX10_behind_10 (by decide) ?_
    refine lv_istore (lv' := [(4, .int (0 : Int32)), (0, .ref o), (1, .int x1), (2, .int x2), (3, .int x3)]) hx hb dX10_behind_11 hl (by decide) rfl (fun ls hl => ?_)
    exact L n x2 x3 (0 : Int32) _ _ _ _ h hd (lv_sub hl [1, 3, 4, 0] rfl)
def wM_isPlan (x1 : Int32) (k : GM) (Q : Int32 → GM → Prop) : Prop := (wM_in x1.toInt64 (0 : Int64) (((k.1 33) - (1 : Int32)).toInt64) k (fun r_1 k_1 => Q r_1 k_1))
set_option maxHeartbeats 4000000 in
set_option maxRecDepth 100000 in
theorem cM_isPlan {l : Launch} {D : va_G} {o : Nat} {a : Nat → Nat} {g : Nat → ClassId} {k : GM} {Qp : Int32 → GM → Prop} (x1 : Int32) (h : wM_isPlan x1 k Qp) : Cz l D (tyA g) (wM o a g) yX10_isPlan cX10_isPlan 2 ({ frames := 1, cells := 0, slots := 0, locals := 25 }) [.ref o, .int x1] k Qp := by
  refine Cz_of (by decide) (Nat.le_of_ble_eq_true rfl) ?_
  intro p e s m args below meth c A Z ls C ret hd hl
  have hx := C.1
  have hb := C.2.1
  have hl : lv_has ls 2 [(0, .ref o), (1, .int x1)] := hl
  replace h : (wM_in x1.toInt64 (0 : Int64) (((k.1 33) - (1 : Int32)).toInt64) k (fun r_1 k_1 => Qp r_1 k_1)) := h
  refine lv_iload_n hx hb dX10_isPlan_0 rfl (lv_at hl 1 rfl) ?_
  refine lv_i2l (v := x1.toInt64) hx hb dX10_isPlan_1 rfl ?_
  refine lv_lconst (v := 0) hx hb dX10_isPlan_2 (by decide) ?_
  refine lv_aload_n hx hb dX10_isPlan_3 rfl (lv_at hl 0 rfl) ?_
  refine gM_33 C hd (v := k.1 33) rfl dX10_isPlan_4 ?_
  refine lv_iconst (v := 1) hx hb dX10_isPlan_7 (by decide) ?_
  refine lv_isub hx hb dX10_isPlan_8 ?_
  refine lv_i2l (v := ((k.1 33) - (1 : Int32)).toInt64) hx hb dX10_isPlan_9 rfl ?_
  refine xs_z C hd kwRX10_X10_in (cM_in _ _ _ h) ⟨rfl, rfl⟩ ⟨by decide, by decide⟩ hl.1 rfl rfl (Nat.le_of_ble_eq_true rfl) ⟨Nat.zero_le _, Nat.zero_le _⟩ dX10_isPlan_10 (fun r_1 k_1 H locs hz_1 h hd => ?_)
  exact ret hd hz_1 h dX10_isPlan_13
