def wM_leastOf  : Nat → Nat → Int32 → Int32 → GM → (Int32 → GM → Prop) → Prop
  | 0, _, _, _, _, _ => False
  | n + 1, c, x1, x2, k, Q => match c with
    | 0 => wM_leastOf n 1 x1 (0 : Int32) k Q
    | _ => ((¬ ((x1 >>> (x2 &&& 31)) &&& (1 : Int32)) = 0 → Q x2 k) ∧ (((x1 >>> (x2 &&& 31)) &&& (1 : Int32)) = 0 → wM_leastOf n 1 x1 (x2 + (1 : Int32)) k Q))
set_option maxHeartbeats 4000000 in
set_option maxRecDepth 100000 in
theorem cM_leastOf {l : Launch} {D : va_G} {o : Nat} {a : Nat → Nat} {g : Nat → ClassId} {k : GM} {Qp : Int32 → GM → Prop} (n : Nat) (x1 : Int32) (h : wM_leastOf n 0 x1 0 k Qp) : Ci l D (tyA g) (wM o a g) yX10_leastOf cX10_leastOf 3 ({ frames := 0, cells := 0, slots := 0, locals := 0 }) [.ref o, .int x1] k Qp := by
  refine Ci_of (by decide) (Nat.le_of_ble_eq_true rfl) ?_
  intro p e s m args below meth c A Z ls C ret hd hl
  have hx := C.1
  have hb := C.2.1
  have hl : lv_has ls 3 [(0, .ref o), (1, .int x1)] := hl
  have L : ∀ n : Nat, (∀ (x1 : Int32) (x2 : Int32) (k : GM) (H : Heap) (locs : List Loc) (ls : Array Slot), wM_leastOf n 1 x1 x2 k Qp → Hd D (wM o a g k) A s H locs → lv_has ls 3 [(1, .int x1), (2, .int x2)] → W p l e ({ frames := 0, cells := 0, slots := 0, locals := 0 }) s m args below meth c H locs 0 0 Z (F0 m 2 ls [])) := by
    intro n
    induction n with
    | zero => exact fun _ _ _ _ _ _ h => h.elim
    | succ n ih =>
      intro x1 x2 k H locs ls h hd hl
      replace h : ((¬ ((x1 >>> (x2 &&& 31)) &&& (1 : Int32)) = 0 → Qp x2 k) ∧ (((x1 >>> (x2 &&& 31)) &&& (1 : Int32)) = 0 → wM_leastOf n 1 x1 (x2 + (1 : Int32)) k Qp)) := h
      refine lv_iload_n hx hb dX10_leastOf_2 rfl (lv_at hl 0 rfl) ?_
      refine lv_iload_n hx hb dX10_leastOf_3 rfl (lv_at hl 1 rfl) ?_
      refine lv_ishr hx hb dX10_leastOf_4 ?_
      refine lv_iconst (v := 1) hx hb dX10_leastOf_5 (by decide) ?_
      refine lv_iand hx hb dX10_leastOf_6 ?_
      refine lv_if_ne (tgt := 16) hx hb dX10_leastOf_7 (by decide) (fun c_1 => ?_) (fun c_1 => ?_)
      · replace h := h.1 c_1
        refine lv_iload_n hx hb dX10_leastOf_16 rfl (lv_at hl 1 rfl) ?_
        exact ret hd h dX10_leastOf_17
      · replace h := h.2 c_1
        refine lv_iinc (v := (x2 + (1 : Int32))) (lv' := [(2, .int (x2 + (1 : Int32))), (1, .int x1)]) hx hb dX10_leastOf_10 hl (k := 1) rfl rfl (by decide) rfl (fun ls hl => ?_)
        refine lv_goto (tgt := 2) hx hb dX10_leastOf_13 (by decide) ?_
        exact ih x1 (x2 + (1 : Int32)) _ _ _ _ h hd (lv_sub hl [1, 0] rfl)
  cases n with
  | zero => exact h.elim
  | succ n =>
    replace h : wM_leastOf n 1 x1 (0 : Int32) k Qp := h
    refine lv_iconst (v := 0) hx hb dX10_leastOf_0 (by decide) ?_
    refine lv_istore_n (lv' := [(2, .int (0 : Int32)), (0, .ref o), (1, .int x1)]) hx hb dX10_leastOf_1 rfl hl (by decide) rfl (fun ls hl => ?_)
    exact L n x1 (0 : Int32) _ _ _ _ h hd (lv_sub hl [2, 0] rfl)
def wM_fail  (k : GM) (Q : GM → Prop) : Prop := ((¬ (k.1 24) = 0 → Q k) ∧ ((k.1 24) = 0 → Q (sI (sI k 24 (1 : Int32)) 25 (k.1 20))))
set_option maxHeartbeats 4000000 in
set_option maxRecDepth 100000 in
theorem cM_fail {l : Launch} {D : va_G} {o : Nat} {a : Nat → Nat} {g : Nat → ClassId} {k : GM} {Qp : GM → Prop}  (h : wM_fail k Qp) : Cv l D (tyA g) (wM o a g) yX10_fail cX10_fail 1 ({ frames := 0, cells := 0, slots := 0, locals := 0 }) [.ref o] k Qp := by
  refine Cv_of (by decide) (Nat.le_of_ble_eq_true rfl) ?_
  intro p e s m args below meth c A Z ls C ret hd hl
  have hx := C.1
  have hb := C.2.1
  have hl : lv_has ls 1 [(0, .ref o)] := hl
  replace h : ((¬ (k.1 24) = 0 → Qp k) ∧ ((k.1 24) = 0 → Qp (sI (sI k 24 (1 : Int32)) 25 (k.1 20)))) := h
  refine lv_aload_n hx hb dX10_fail_0 rfl (lv_at hl 0 rfl) ?_
  refine gM_24 C hd (v := k.1 24) rfl dX10_fail_1 ?_
  refine lv_if_ne (tgt := 20) hx hb dX10_fail_4 (by decide) (fun c_1 => ?_) (fun c_1 => ?_)
  · replace h := h.1 c_1
    exact ret hd h dX10_fail_20
  · replace h := h.2 c_1
    refine lv_aload_n hx hb dX10_fail_7 rfl (lv_at hl 0 rfl) ?_
    refine lv_iconst (v := 1) hx hb dX10_fail_8 (by decide) ?_
    refine pM_24 C hd (by decide) (by decide) dX10_fail_9 (fun H locs hd => ?_)
    refine lv_aload_n hx hb dX10_fail_12 rfl (lv_at hl 0 rfl) ?_
    refine lv_aload_n hx hb dX10_fail_13 rfl (lv_at hl 0 rfl) ?_
    refine gM_20 C hd (v := k.1 20) rfl dX10_fail_14 ?_
    refine pM_25 C hd dX10_fail_17 (fun H locs hd => ?_)
    exact ret hd h dX10_fail_20
def wM_isWord (x1l : Int64) (k : GM) (Q : Int32 → GM → Prop) : Prop := ((¬ (k.1 24) = 0 → Q (0 : Int32) k) ∧ ((k.1 24) = 0 → ((¬ (k.1 19) = (1 : Int32) → Q (0 : Int32) k) ∧ ((k.1 19) = (1 : Int32) → ((¬ (lg_cmp k.2.2 x1l) = 0 → Q (0 : Int32) k) ∧ ((lg_cmp k.2.2 x1l) = 0 → Q (1 : Int32) k))))))
set_option maxHeartbeats 4000000 in
set_option maxRecDepth 100000 in
theorem cM_isWord {l : Launch} {D : va_G} {o : Nat} {a : Nat → Nat} {g : Nat → ClassId} {k : GM} {Qp : Int32 → GM → Prop} (x1l : Int64) (h : wM_isWord x1l k Qp) : Cz l D (tyA g) (wM o a g) yX10_isWord cX10_isWord 3 ({ frames := 0, cells := 0, slots := 0, locals := 0 }) [.ref o, .long x1l] k Qp := by
  refine Cz_of (by decide) (Nat.le_of_ble_eq_true rfl) ?_
  intro p e s m args below meth c A Z ls C ret hd hl
  have hx := C.1
  have hb := C.2.1
  have hl : lv_has ls 3 [(0, .ref o), (1, .long x1l)] := hl
  replace h : ((¬ (k.1 24) = 0 → Qp (0 : Int32) k) ∧ ((k.1 24) = 0 → ((¬ (k.1 19) = (1 : Int32) → Qp (0 : Int32) k) ∧ ((k.1 19) = (1 : Int32) → ((¬ (lg_cmp k.2.2 x1l) = 0 → Qp (0 : Int32) k) ∧ ((lg_cmp k.2.2 x1l) = 0 → Qp (1 : Int32) k)))))) := h
  refine lv_aload_n hx hb dX10_isWord_0 rfl (lv_at hl 0 rfl) ?_
  refine gM_24 C hd (v := k.1 24) rfl dX10_isWord_1 ?_
  refine lv_if_ne (tgt := 28) hx hb dX10_isWord_4 (by decide) (fun c_1 => ?_) (fun c_1 => ?_)
  · replace h := h.1 c_1
    refine lv_iconst (v := 0) hx hb dX10_isWord_28 (by decide) ?_
    exact ret hd (by decide) h dX10_isWord_29
  · replace h := h.2 c_1
    refine lv_aload_n hx hb dX10_isWord_7 rfl (lv_at hl 0 rfl) ?_
    refine gM_19 C hd (v := k.1 19) rfl dX10_isWord_8 ?_
    refine lv_iconst (v := 1) hx hb dX10_isWord_11 (by decide) ?_
    refine lv_icmp_ne (tgt := 28) hx hb dX10_isWord_12 (by decide) (fun c_2 => ?_) (fun c_2 => ?_)
    · replace h := h.1 c_2
      refine lv_iconst (v := 0) hx hb dX10_isWord_28 (by decide) ?_
      exact ret hd (by decide) h dX10_isWord_29
    · replace h := h.2 c_2
      refine lv_aload_n hx hb dX10_isWord_15 rfl (lv_at hl 0 rfl) ?_
      refine gM_21 C hd (v := k.2.2) rfl dX10_isWord_16 ?_
      refine lv_lload_n hx hb dX10_isWord_19 rfl (lv_at hl 1 rfl) ?_
      refine W.lcmp hx hb dX10_isWord_20 ?_
      refine lv_if_ne (tgt := 28) hx hb dX10_isWord_21 (by decide) (fun c_3 => ?_) (fun c_3 => ?_)
      · replace h := h.1 c_3
        refine lv_iconst (v := 0) hx hb dX10_isWord_28 (by decide) ?_
        exact ret hd (by decide) h dX10_isWord_29
      · replace h := h.2 c_3
        refine lv_iconst (v := 1) hx hb dX10_isWord_24 (by decide) ?_
        refine lv_goto (tgt := 29) hx hb dX10_isWord_25 (by decide) ?_
        exact ret hd (by decide) h dX10_isWord_29
def wM_name  (k : GM) (Q : Int32 → GM → Prop) : Prop := (wM_isWord (206756339381 : Int64) k (fun r_1 k_1 => ((r_1 = 0 → (wM_isWord (14431 : Int64) k_1 (fun r_3 k_3 => ((r_3 = 0 → (wM_isWord (12532058 : Int64) k_3 (fun r_5 k_5 => ((r_5 = 0 → (wM_isWord (223456 : Int64) k_5 (fun r_7 k_7 => ((r_7 = 0 → (wM_isWord (2968 : Int64) k_7 (fun r_9 k_9 => ((r_9 = 0 → (wM_isWord (10989714 : Int64) k_9 (fun r_11 k_11 => ((r_11 = 0 → (wM_fail k_11 (fun k_13 => Q (0 : Int32) k_13))) ∧ (¬ r_11 = 0 → Q (k_11.1 29) k_11))))) ∧ (¬ r_9 = 0 → Q (k_9.1 15) k_9))))) ∧ (¬ r_7 = 0 → (vp_in (k_7.1 26) 8 ∧ Q (k_7.2.1 7 (k_7.1 26).toNatClampNeg) k_7)))))) ∧ (¬ r_5 = 0 → Q (k_5.1 28) k_5))))) ∧ (¬ r_3 = 0 → Q (k_3.1 27) k_3))))) ∧ (¬ r_1 = 0 → (vp_in (k_1.1 26) 8 ∧ Q (k_1.2.1 8 (k_1.1 26).toNatClampNeg) k_1)))))
set_option maxHeartbeats 4000000 in
set_option maxRecDepth 100000 in
theorem cM_name {l : Launch} {D : va_G} {o : Nat} {a : Nat → Nat} {g : Nat → ClassId} {k : GM} {Qp : Int32 → GM → Prop}  (h : wM_name k Qp) : Ci l D (tyA g) (wM o a g) yX10_name cX10_name 1 ({ frames := 1, cells := 0, slots := 0, locals := 22 }) [.ref o] k Qp := by
  refine Ci_of (by decide) (Nat.le_of_ble_eq_true rfl) ?_
  intro p e s m args below meth c A Z ls C ret hd hl
  have hx := C.1
  have hb := C.2.1
  have hl : lv_has ls 1 [(0, .ref o)] := hl
  replace h : (wM_isWord (206756339381 : Int64) k (fun r_1 k_1 => ((r_1 = 0 → (wM_isWord (14431 : Int64) k_1 (fun r_3 k_3 => ((r_3 = 0 → (wM_isWord (12532058 : Int64) k_3 (fun r_5 k_5 => ((r_5 = 0 → (wM_isWord (223456 : Int64) k_5 (fun r_7 k_7 => ((r_7 = 0 → (wM_isWord (2968 : Int64) k_7 (fun r_9 k_9 => ((r_9 = 0 → (wM_isWord (10989714 : Int64) k_9 (fun r_11 k_11 => ((r_11 = 0 → (wM_fail k_11 (fun k_13 => Qp (0 : Int32) k_13))) ∧ (¬ r_11 = 0 → Qp (k_11.1 29) k_11))))) ∧ (¬ r_9 = 0 → Qp (k_9.1 15) k_9))))) ∧ (¬ r_7 = 0 → (vp_in (k_7.1 26) 8 ∧ Qp (k_7.2.1 7 (k_7.1 26).toNatClampNeg) k_7)))))) ∧ (¬ r_5 = 0 → Qp (k_5.1 28) k_5))))) ∧ (¬ r_3 = 0 → Qp (k_3.1 27) k_3))))) ∧ (¬ r_1 = 0 → (vp_in (k_1.1 26) 8 ∧ Qp (k_1.2.1 8 (k_1.1 26).toNatClampNeg) k_1))))) := h
  refine lv_aload_n hx hb dX10_name_0 rfl (lv_at hl 0 rfl) ?_
  refine lv_ldc2 (v := (206756339381 : Int64)) hx hb C.2.2.2.1 (C.2.2.2.2.1 _ q_1187) dX10_name_1 ?_
  refine xv_z C hd kwRX10_X10_isWord (cM_isWord _ h) ⟨rfl, rfl⟩ ⟨by decide, by decide⟩ wM_rcv hl.1 rfl rfl (Nat.le_of_ble_eq_true rfl) ⟨Nat.zero_le _, Nat.zero_le _⟩ dX10_name_4 (fun r_1 k_1 H locs hz_1 h hd => ?_)
  refine lv_if_eq (tgt := 20) hx hb dX10_name_7 (by decide) (fun c_2 => ?_) (fun c_2 => ?_)
  · replace h := h.1 c_2
    refine lv_aload_n hx hb dX10_name_20 rfl (lv_at hl 0 rfl) ?_
    refine lv_ldc2 (v := (14431 : Int64)) hx hb C.2.2.2.1 (C.2.2.2.2.1 _ q_1188) dX10_name_21 ?_
    refine xv_z C hd kwRX10_X10_isWord (cM_isWord _ h) ⟨rfl, rfl⟩ ⟨by decide, by decide⟩ wM_rcv hl.1 rfl rfl (Nat.le_of_ble_eq_true rfl) ⟨Nat.zero_le _, Nat.zero_le _⟩ dX10_name_24 (fun r_3 k_3 H locs hz_3 h hd => ?_)
    refine lv_if_eq (tgt := 35) hx hb dX10_name_27 (by decide) (fun c_4 => ?_) (fun c_4 => ?_)
    · replace h := h.1 c_4
      refine lv_aload_n hx hb dX10_name_35 rfl (lv_at hl 0 rfl) ?_
      refine lv_ldc2 (v := (12532058 : Int64)) hx hb C.2.2.2.1 (C.2.2.2.2.1 _ q_1189) dX10_name_36 ?_
      refine xv_z C hd kwRX10_X10_isWord (cM_isWord _ h) ⟨rfl, rfl⟩ ⟨by decide, by decide⟩ wM_rcv hl.1 rfl rfl (Nat.le_of_ble_eq_true rfl) ⟨Nat.zero_le _, Nat.zero_le _⟩ dX10_name_39 (fun r_5 k_5 H locs hz_5 h hd => ?_)
      refine lv_if_eq (tgt := 50) hx hb dX10_name_42 (by decide) (fun c_6 => ?_) (fun c_6 => ?_)
      · replace h := h.1 c_6
        refine lv_aload_n hx hb dX10_name_50 rfl (lv_at hl 0 rfl) ?_
        refine lv_ldc2 (v := (223456 : Int64)) hx hb C.2.2.2.1 (C.2.2.2.2.1 _ q_1190) dX10_name_51 ?_
        refine xv_z C hd kwRX10_X10_isWord (cM_isWord _ h) ⟨rfl, rfl⟩ ⟨by decide, by decide⟩ wM_rcv hl.1 rfl rfl (Nat.le_of_ble_eq_true rfl) ⟨Nat.zero_le _, Nat.zero_le _⟩ dX10_name_54 (fun r_7 k_7 H locs hz_7 h hd => ?_)
        refine lv_if_eq (tgt := 70) hx hb dX10_name_57 (by decide) (fun c_8 => ?_) (fun c_8 => ?_)
        · replace h := h.1 c_8
          refine lv_aload_n hx hb dX10_name_70 rfl (lv_at hl 0 rfl) ?_
          refine lv_ldc2 (v := (2968 : Int64)) hx hb C.2.2.2.1 (C.2.2.2.2.1 _ q_1191) dX10_name_71 ?_
          refine xv_z C hd kwRX10_X10_isWord (cM_isWord _ h) ⟨rfl, rfl⟩ ⟨by decide, by decide⟩ wM_rcv hl.1 rfl rfl (Nat.le_of_ble_eq_true rfl) ⟨Nat.zero_le _, Nat.zero_le _⟩ dX10_name_74 (fun r_9 k_9 H locs hz_9 h hd => ?_)
          refine lv_if_eq (tgt := 85) hx hb dX10_name_77 (by decide) (fun c_10 => ?_) (fun c_10 => ?_)
          · replace h := h.1 c_10
            refine lv_aload_n hx hb dX10_name_85 rfl (lv_at hl 0 rfl) ?_
            refine lv_ldc2 (v := (10989714 : Int64)) hx hb C.2.2.2.1 (C.2.2.2.2.1 _ q_1192) dX10_name_86 ?_
            refine xv_z C hd kwRX10_X10_isWord (cM_isWord _ h) ⟨rfl, rfl⟩ ⟨by decide, by decide⟩ wM_rcv hl.1 rfl rfl (Nat.le_of_ble_eq_true rfl) ⟨Nat.zero_le _, Nat.zero_le _⟩ dX10_name_89 (fun r_11 k_11 H locs hz_11 h hd => ?_)
            refine lv_if_eq (tgt := 100) hx hb dX10_name_92 (by decide) (fun c_12 => ?_) (fun c_12 => ?_)
            · replace h := h.1 c_12
              refine lv_aload_n hx hb dX10_name_100 rfl (lv_at hl 0 rfl) ?_
              refine xv_v C hd kwRX10_X10_fail (cM_fail h) ⟨rfl, rfl⟩ ⟨by decide, by decide⟩ wM_rcv hl.1 rfl rfl (Nat.le_of_ble_eq_true rfl) ⟨Nat.zero_le _, Nat.zero_le _⟩ dX10_name_101 (fun k_13 H locs h hd => ?_)
              refine lv_iconst (v := 0) hx hb dX10_name_104 (by decide) ?_
              exact ret hd h dX10_name_105
            · replace h := h.2 c_12
              refine lv_aload_n hx hb dX10_name_95 rfl (lv_at hl 0 rfl) ?_
              refine gM_29 C hd (v := k_11.1 29) rfl dX10_name_96 ?_
              exact ret hd h dX10_name_99
          · replace h := h.2 c_10
            refine lv_aload_n hx hb dX10_name_80 rfl (lv_at hl 0 rfl) ?_
            refine gM_15 C hd (v := k_9.1 15) rfl dX10_name_81 ?_
            exact ret hd h dX10_name_84
        · replace h := h.2 c_8
          refine lv_aload_n hx hb dX10_name_60 rfl (lv_at hl 0 rfl) ?_
          refine gM_7 C hd dX10_name_61 ?_
          refine lv_aload_n hx hb dX10_name_64 rfl (lv_at hl 0 rfl) ?_
          refine gM_26 C hd (v := k_7.1 26) rfl dX10_name_65 ?_
          refine ldM_7 C hd (v := k_7.2.1 7 (k_7.1 26).toNatClampNeg) h.1 rfl dX10_name_68 ?_
          replace h := h.2
          exact ret hd h dX10_name_69
      · replace h := h.2 c_6
        refine lv_aload_n hx hb dX10_name_45 rfl (lv_at hl 0 rfl) ?_
        refine gM_28 C hd (v := k_5.1 28) rfl dX10_name_46 ?_
        exact ret hd h dX10_name_49
    · replace h := h.2 c_4
      refine lv_aload_n hx hb dX10_name_30 rfl (lv_at hl 0 rfl) ?_
      refine gM_27 C hd (v := k_3.1 27) rfl dX10_name_31 ?_
      exact ret hd h dX10_name_34
  · replace h := h.2 c_2
    refine lv_aload_n hx hb dX10_name_10 rfl (lv_at hl 0 rfl) ?_
    refine gM_8 C hd dX10_name_11 ?_
    refine lv_aload_n hx hb dX10_name_14 rfl (lv_at hl 0 rfl) ?_
    refine gM_26 C hd (v := k_1.1 26) rfl dX10_name_15 ?_
    refine ldM_8 C hd (v := k_1.2.1 8 (k_1.1 26).toNatClampNeg) h.1 rfl dX10_name_18 ?_
    replace h := h.2
    exact ret hd h dX10_name_19
def wM_opens  (k : GM) (Q : Int32 → GM → Prop) : Prop := ((¬ (k.1 23) = (5 : Int32) → (∃ n_2 : Nat, wM_next n_2 0 0 (sI k 23 ((k.1 23) + (1 : Int32))) (fun k_2 => Q (1 : Int32) k_2))) ∧ ((k.1 23) = (5 : Int32) → (wM_fail k (fun k_3 => Q (0 : Int32) k_3))))
set_option maxHeartbeats 4000000 in
set_option maxRecDepth 100000 in
theorem cM_opens {l : Launch} {D : va_G} {o : Nat} {a : Nat → Nat} {g : Nat → ClassId} {k : GM} {Qp : Int32 → GM → Prop}  (h : wM_opens k Qp) : Cz l D (tyA g) (wM o a g) yX10_opens cX10_opens 1 ({ frames := 2, cells := 0, slots := 0, locals := 47 }) [.ref o] k Qp := by
  refine Cz_of (by decide) (Nat.le_of_ble_eq_true rfl) ?_
  intro p e s m args below meth c A Z ls C ret hd hl
  have hx := C.1
  have hb := C.2.1
  have hl : lv_has ls 1 [(0, .ref o)] := hl
  replace h : ((¬ (k.1 23) = (5 : Int32) → (∃ n_2 : Nat, wM_next n_2 0 0 (sI k 23 ((k.1 23) + (1 : Int32))) (fun k_2 => Qp (1 : Int32) k_2))) ∧ ((k.1 23) = (5 : Int32) → (wM_fail k (fun k_3 => Qp (0 : Int32) k_3)))) := h
  refine lv_aload_n hx hb dX10_opens_0 rfl (lv_at hl 0 rfl) ?_
  refine gM_23 C hd (v := k.1 23) rfl dX10_opens_1 ?_
  refine lv_iconst (v := 5) hx hb dX10_opens_4 (by decide) ?_
  refine lv_icmp_ne (tgt := 14) hx hb dX10_opens_5 (by decide) (fun c_1 => ?_) (fun c_1 => ?_)
  · replace h := h.1 c_1
    refine lv_aload_n hx hb dX10_opens_14 rfl (lv_at hl 0 rfl) ?_
    refine lv_dup hx hb dX10_opens_15 rfl ?_
    refine gM_23 C hd (v := k.1 23) rfl dX10_opens_16 ?_
    refine lv_iconst (v := 1) hx hb dX10_opens_19 (by decide) ?_
    refine lv_iadd hx hb dX10_opens_20 ?_
    refine pM_23 C hd dX10_opens_21 (fun H locs hd => ?_)
    refine lv_aload_n hx hb dX10_opens_24 rfl (lv_at hl 0 rfl) ?_
    obtain ⟨n_2, h⟩ := h
    refine xv_v C hd kwRX10_X10_next (cM_next n_2 h) ⟨rfl, rfl⟩ ⟨by decide, by decide⟩ wM_rcv hl.1 rfl rfl (Nat.le_of_ble_eq_true rfl) ⟨Nat.zero_le _, Nat.zero_le _⟩ dX10_opens_25 (fun k_2 H locs h hd => ?_)
    refine lv_iconst (v := 1) hx hb dX10_opens_28 (by decide) ?_
    exact ret hd (by decide) h dX10_opens_29
  · replace h := h.2 c_1
    refine lv_aload_n hx hb dX10_opens_8 rfl (lv_at hl 0 rfl) ?_
    refine xv_v C hd kwRX10_X10_fail (cM_fail h) ⟨rfl, rfl⟩ ⟨by decide, by decide⟩ wM_rcv hl.1 rfl rfl (Nat.le_of_ble_eq_true rfl) ⟨Nat.zero_le _, Nat.zero_le _⟩ dX10_opens_9 (fun k_3 H locs h hd => ?_)
    refine lv_iconst (v := 0) hx hb dX10_opens_12 (by decide) ?_
    exact ret hd (by decide) h dX10_opens_13
def wM_one (E : Nat → GM → (Int32 → GM → Prop) → Prop)  : Nat → Nat → Int32 → GM → (Int32 → GM → Prop) → Prop
  | 0, _, _, _, _ => False
  | n + 1, c, x1, k, Q => match c with
    | 0 => (wM_isSign (45 : Int32) k (fun r_1 k_1 => ((r_1 = 0 → (wM_isSign (40 : Int32) k_1 (fun r_3 k_3 => ((r_3 = 0 → ((¬ (k_3.1 24) = 0 → ((¬ (k_3.1 24) = 0 → (wM_fail k_3 (fun k_7 => wM_one E n 1 (0 : Int32) k_7 Q))) ∧ ((k_3.1 24) = 0 → ((¬ (k_3.1 19) = (1 : Int32) → (wM_fail k_3 (fun k_9 => wM_one E n 1 (0 : Int32) k_9 Q))) ∧ ((k_3.1 19) = (1 : Int32) → (wM_name k_3 (fun r_10 k_10 => ((¬ (k_10.1 24) = 0 → wM_one E n 1 r_10 k_10 Q) ∧ ((k_10.1 24) = 0 → (∃ n_12 : Nat, wM_next n_12 0 0 k_10 (fun k_12 => wM_one E n 1 r_10 k_12 Q))))))))))) ∧ ((k_3.1 24) = 0 → ((¬ (k_3.1 19) = (2 : Int32) → ((¬ (k_3.1 24) = 0 → (wM_fail k_3 (fun k_15 => wM_one E n 1 (0 : Int32) k_15 Q))) ∧ ((k_3.1 24) = 0 → ((¬ (k_3.1 19) = (1 : Int32) → (wM_fail k_3 (fun k_17 => wM_one E n 1 (0 : Int32) k_17 Q))) ∧ ((k_3.1 19) = (1 : Int32) → (wM_name k_3 (fun r_18 k_18 => ((¬ (k_18.1 24) = 0 → wM_one E n 1 r_18 k_18 Q) ∧ ((k_18.1 24) = 0 → (∃ n_20 : Nat, wM_next n_20 0 0 k_18 (fun k_20 => wM_one E n 1 r_18 k_20 Q))))))))))) ∧ ((k_3.1 19) = (2 : Int32) → (∃ n_21 : Nat, wM_next n_21 0 0 k_3 (fun k_21 => wM_one E n 1 k_3.2.2.toInt32 k_21 Q))))))) ∧ (¬ r_3 = 0 → (wM_opens k_3 (fun r_22 k_22 => ((r_22 = 0 → wM_one E n 1 (0 : Int32) k_22 Q) ∧ (¬ r_22 = 0 → (E 5 k_22 (fun r_24 k_24 => (wM_isSign (41 : Int32) k_24 (fun r_25 k_25 => ((¬ r_25 = 0 → ((¬ (k_25.1 24) = 0 → wM_one E n 1 r_24 (sI k_25 23 ((k_25.1 23) - (1 : Int32))) Q) ∧ ((k_25.1 24) = 0 → (∃ n_28 : Nat, wM_next n_28 0 0 (sI k_25 23 ((k_25.1 23) - (1 : Int32))) (fun k_28 => wM_one E n 1 r_24 k_28 Q))))) ∧ (r_25 = 0 → (wM_fail k_25 (fun k_29 => ((¬ (k_29.1 24) = 0 → wM_one E n 1 r_24 (sI k_29 23 ((k_29.1 23) - (1 : Int32))) Q) ∧ ((k_29.1 24) = 0 → (∃ n_31 : Nat, wM_next n_31 0 0 (sI k_29 23 ((k_29.1 23) - (1 : Int32))) (fun k_31 => wM_one E n 1 r_24 k_31 Q))))))))))))))))))))) ∧ (¬ r_1 = 0 → (wM_opens k_1 (fun r_32 k_32 => ((r_32 = 0 → wM_one E n 1 (0 : Int32) k_32 Q) ∧ (¬ r_32 = 0 → (E 0 k_32 (fun r_34 k_34 => wM_one E n 1 (-r_34) (sI k_34 23 ((k_34.1 23) - (1 : Int32))) Q))))))))))
    | _ => Q x1 k
set_option maxHeartbeats 4000000 in
set_option maxRecDepth 100000 in
theorem cM_one {l : Launch} {D : va_G} {o : Nat} {a : Nat → Nat} {g : Nat → ClassId} (d : Nat) (E : Nat → GM → (Int32 → GM → Prop) → Prop) (hE0 : ∀ (k : GM) (Qp : Int32 → GM → Prop), E 0 k Qp → Ci l D (tyA g) (wM o a g) yX10_one cX10_one 2 (rG d) [.ref o] k Qp) (hE1 : ∀ (k : GM) (Qp : Int32 → GM → Prop), E 1 k Qp → Ci l D (tyA g) (wM o a g) yX10_term cX10_term 2 (rG d) [.ref o] k Qp) (hE2 : ∀ (k : GM) (Qp : Int32 → GM → Prop), E 2 k Qp → Ci l D (tyA g) (wM o a g) yX10_added cX10_added 4 (rG d) [.ref o] k Qp) (hE3 : ∀ (k : GM) (Qp : Int32 → GM → Prop), E 3 k Qp → Ci l D (tyA g) (wM o a g) yX10_not cX10_not 4 (rG d) [.ref o] k Qp) (hE4 : ∀ (k : GM) (Qp : Int32 → GM → Prop), E 4 k Qp → Ci l D (tyA g) (wM o a g) yX10_both cX10_both 3 (rG d) [.ref o] k Qp) (hE5 : ∀ (k : GM) (Qp : Int32 → GM → Prop), E 5 k Qp → Ci l D (tyA g) (wM o a g) yX10_either cX10_either 3 (rG d) [.ref o] k Qp) {k : GM} {Qp : Int32 → GM → Prop} (n : Nat)  (h : wM_one E n 0 0 k Qp) : Ci l D (tyA g) (wM o a g) yX10_one cX10_one 2 (rG (d + 1)) [.ref o] k Qp := by
  refine Ci_of (by decide) (Nat.le_of_ble_eq_true rfl) ?_
  intro p e s m args below meth c A Z ls C ret hd hl
  have hx := C.1
  have hb := C.2.1
  have hl : lv_has ls 2 [(0, .ref o)] := hl
  have L : ∀ n : Nat, (∀ (x1 : Int32) (k : GM) (H : Heap) (locs : List Loc) (ls : Array Slot), wM_one E n 1 x1 k Qp → Hd D (wM o a g k) A s H locs → lv_has ls 2 [(1, .int x1)] → W p l e (rG (d + 1)) s m args below meth c H locs 0 0 Z (F0 m 161 ls [])) := by
    intro n
    induction n with
    | zero => exact fun _ _ _ _ _ h => h.elim
    | succ n ih =>
      intro x1 k H locs ls h hd hl
      replace h : Qp x1 k := h
      refine lv_iload_n hx hb dX10_one_161 rfl (lv_at hl 0 rfl) ?_
      exact ret hd h dX10_one_162
  cases n with
  | zero => exact h.elim
  | succ n =>
    replace h : (wM_isSign (45 : Int32) k (fun r_1 k_1 => ((r_1 = 0 → (wM_isSign (40 : Int32) k_1 (fun r_3 k_3 => ((r_3 = 0 → ((¬ (k_3.1 24) = 0 → ((¬ (k_3.1 24) = 0 → (wM_fail k_3 (fun k_7 => wM_one E n 1 (0 : Int32) k_7 Qp))) ∧ ((k_3.1 24) = 0 → ((¬ (k_3.1 19) = (1 : Int32) → (wM_fail k_3 (fun k_9 => wM_one E n 1 (0 : Int32) k_9 Qp))) ∧ ((k_3.1 19) = (1 : Int32) → (wM_name k_3 (fun r_10 k_10 => ((¬ (k_10.1 24) = 0 → wM_one E n 1 r_10 k_10 Qp) ∧ ((k_10.1 24) = 0 → (∃ n_12 : Nat, wM_next n_12 0 0 k_10 (fun k_12 => wM_one E n 1 r_10 k_12 Qp))))))))))) ∧ ((k_3.1 24) = 0 → ((¬ (k_3.1 19) = (2 : Int32) → ((¬ (k_3.1 24) = 0 → (wM_fail k_3 (fun k_15 => wM_one E n 1 (0 : Int32) k_15 Qp))) ∧ ((k_3.1 24) = 0 → ((¬ (k_3.1 19) = (1 : Int32) → (wM_fail k_3 (fun k_17 => wM_one E n 1 (0 : Int32) k_17 Qp))) ∧ ((k_3.1 19) = (1 : Int32) → (wM_name k_3 (fun r_18 k_18 => ((¬ (k_18.1 24) = 0 → wM_one E n 1 r_18 k_18 Qp) ∧ ((k_18.1 24) = 0 → (∃ n_20 : Nat, wM_next n_20 0 0 k_18 (fun k_20 => wM_one E n 1 r_18 k_20 Qp))))))))))) ∧ ((k_3.1 19) = (2 : Int32) → (∃ n_21 : Nat, wM_next n_21 0 0 k_3 (fun k_21 => wM_one E n 1 k_3.2.2.toInt32 k_21 Qp))))))) ∧ (¬ r_3 = 0 → (wM_opens k_3 (fun r_22 k_22 => ((r_22 = 0 → wM_one E n 1 (0 : Int32) k_22 Qp) ∧ (¬ r_22 = 0 → (E 5 k_22 (fun r_24 k_24 => (wM_isSign (41 : Int32) k_24 (fun r_25 k_25 => ((¬ r_25 = 0 → ((¬ (k_25.1 24) = 0 → wM_one E n 1 r_24 (sI k_25 23 ((k_25.1 23) - (1 : Int32))) Qp) ∧ ((k_25.1 24) = 0 → (∃ n_28 : Nat, wM_next n_28 0 0 (sI k_25 23 ((k_25.1 23) - (1 : Int32))) (fun k_28 => wM_one E n 1 r_24 k_28 Qp))))) ∧ (r_25 = 0 → (wM_fail k_25 (fun k_29 => ((¬ (k_29.1 24) = 0 → wM_one E n 1 r_24 (sI k_29 23 ((k_29.1 23) - (1 : Int32))) Qp) ∧ ((k_29.1 24) = 0 → (∃ n_31 : Nat, wM_next n_31 0 0 (sI k_29 23 ((k_29.1 23) - (1 : Int32))) (fun k_31 => wM_one E n 1 r_24 k_31 Qp))))))))))))))))))))) ∧ (¬ r_1 = 0 → (wM_opens k_1 (fun r_32 k_32 => ((r_32 = 0 → wM_one E n 1 (0 : Int32) k_32 Qp) ∧ (¬ r_32 = 0 → (E 0 k_32 (fun r_34 k_34 => wM_one E n 1 (-r_34) (sI k_34 23 ((k_34.1 23) - (1 : Int32))) Qp)))))))))) := h
    refine lv_iconst (v := 0) hx hb dX10_one_0 (by decide) ?_
    refine lv_istore_n (lv' := [(1, .int (0 : Int32)), (0, .ref o)]) hx hb dX10_one_1 rfl hl (by decide) rfl (fun ls hl => ?_)
    refine lv_aload_n hx hb dX10_one_2 rfl (lv_at hl 1 rfl) ?_
    refine lv_bipush (v := 45) hx hb dX10_one_3 (by decide) ?_
    refine xv_z C hd kwRX10_X10_isSign (cM_isSign _ h) ⟨rfl, rfl⟩ (rG_lf d (by decide) (by decide)) wM_rcv hl.1 rfl rfl (Nat.le_of_ble_eq_true rfl) ⟨Nat.zero_le _, Nat.zero_le _⟩ dX10_one_5 (fun r_1 k_1 H locs hz_1 h hd => ?_)
    refine lv_if_eq (tgt := 37) hx hb dX10_one_8 (by decide) (fun c_2 => ?_) (fun c_2 => ?_)
    · replace h := h.1 c_2
      refine lv_aload_n hx hb dX10_one_37 rfl (lv_at hl 1 rfl) ?_
      refine lv_bipush (v := 40) hx hb dX10_one_38 (by decide) ?_
      refine xv_z C hd kwRX10_X10_isSign (cM_isSign _ h) ⟨rfl, rfl⟩ (rG_lf d (by decide) (by decide)) wM_rcv hl.1 rfl rfl (Nat.le_of_ble_eq_true rfl) ⟨Nat.zero_le _, Nat.zero_le _⟩ dX10_one_40 (fun r_3 k_3 H locs hz_3 h hd => ?_)
      refine lv_if_eq (tgt := 95) hx hb dX10_one_43 (by decide) (fun c_4 => ?_) (fun c_4 => ?_)
      · replace h := h.1 c_4
        refine lv_aload_n hx hb dX10_one_95 rfl (lv_at hl 1 rfl) ?_
        refine gM_24 C hd (v := k_3.1 24) rfl dX10_one_96 ?_
        refine lv_if_ne (tgt := 123) hx hb dX10_one_99 (by decide) (fun c_5 => ?_) (fun c_5 => ?_)
        · replace h := h.1 c_5
          refine lv_aload_n hx hb dX10_one_123 rfl (lv_at hl 1 rfl) ?_
          refine gM_24 C hd (v := k_3.1 24) rfl dX10_one_124 ?_
          refine lv_if_ne (tgt := 157) hx hb dX10_one_127 (by decide) (fun c_6 => ?_) (fun c_6 => ?_)
          · replace h := h.1 c_6
            refine lv_aload_n hx hb dX10_one_157 rfl (lv_at hl 1 rfl) ?_
            refine xv_v C hd kwRX10_X10_fail (cM_fail h) ⟨rfl, rfl⟩ (rG_lf d (by decide) (by decide)) wM_rcv hl.1 rfl rfl (Nat.le_of_ble_eq_true rfl) ⟨Nat.zero_le _, Nat.zero_le _⟩ dX10_one_158 (fun k_7 H locs h hd => ?_)
            exact L n (0 : Int32) _ _ _ _ h hd (lv_sub hl [0] rfl)
          · replace h := h.2 c_6
            refine lv_aload_n hx hb dX10_one_130 rfl (lv_at hl 1 rfl) ?_
            refine gM_19 C hd (v := k_3.1 19) rfl dX10_one_131 ?_
            refine lv_iconst (v := 1) hx hb dX10_one_134 (by decide) ?_
            refine lv_icmp_ne (tgt := 157) hx hb dX10_one_135 (by decide) (fun c_8 => ?_) (fun c_8 => ?_)
            · replace h := h.1 c_8
              refine lv_aload_n hx hb dX10_one_157 rfl (lv_at hl 1 rfl) ?_
              refine xv_v C hd kwRX10_X10_fail (cM_fail h) ⟨rfl, rfl⟩ (rG_lf d (by decide) (by decide)) wM_rcv hl.1 rfl rfl (Nat.le_of_ble_eq_true rfl) ⟨Nat.zero_le _, Nat.zero_le _⟩ dX10_one_158 (fun k_9 H locs h hd => ?_)
              exact L n (0 : Int32) _ _ _ _ h hd (lv_sub hl [0] rfl)
            · replace h := h.2 c_8
              refine lv_aload_n hx hb dX10_one_138 rfl (lv_at hl 1 rfl) ?_
              refine xv_i C hd kwRX10_X10_name (cM_name h) ⟨rfl, rfl⟩ (rG_lf d (by decide) (by decide)) wM_rcv hl.1 rfl rfl (Nat.le_of_ble_eq_true rfl) ⟨Nat.zero_le _, Nat.zero_le _⟩ dX10_one_139 (fun r_10 k_10 H locs h hd => ?_)
              refine lv_istore_n (lv' := [(1, .int r_10), (0, .ref o)]) hx hb dX10_one_142 rfl hl (by decide) rfl (fun ls hl => ?_)
              refine lv_aload_n hx hb dX10_one_143 rfl (lv_at hl 1 rfl) ?_
              refine gM_24 C hd (v := k_10.1 24) rfl dX10_one_144 ?_
              refine lv_if_ne (tgt := 161) hx hb dX10_one_147 (by decide) (fun c_11 => ?_) (fun c_11 => ?_)
              · replace h := h.1 c_11
                exact L n r_10 _ _ _ _ h hd (lv_sub hl [0] rfl)
              · replace h := h.2 c_11
                refine lv_aload_n hx hb dX10_one_150 rfl (lv_at hl 1 rfl) ?_
                obtain ⟨n_12, h⟩ := h
                refine xv_v C hd kwRX10_X10_next (cM_next n_12 h) ⟨rfl, rfl⟩ (rG_lf d (by decide) (by decide)) wM_rcv hl.1 rfl rfl (Nat.le_of_ble_eq_true rfl) ⟨Nat.zero_le _, Nat.zero_le _⟩ dX10_one_151 (fun k_12 H locs h hd => ?_)
                refine lv_goto (tgt := 161) hx hb dX10_one_154 (by decide) ?_
                exact L n r_10 _ _ _ _ h hd (lv_sub hl [0] rfl)
        · replace h := h.2 c_5
          refine lv_aload_n hx hb dX10_one_102 rfl (lv_at hl 1 rfl) ?_
          refine gM_19 C hd (v := k_3.1 19) rfl dX10_one_103 ?_
          refine lv_iconst (v := 2) hx hb dX10_one_106 (by decide) ?_
          refine lv_icmp_ne (tgt := 123) hx hb dX10_one_107 (by decide) (fun c_13 => ?_) (fun c_13 => ?_)
          · replace h := h.1 c_13
            refine lv_aload_n hx hb dX10_one_123 rfl (lv_at hl 1 rfl) ?_
            refine gM_24 C hd (v := k_3.1 24) rfl dX10_one_124 ?_
            refine lv_if_ne (tgt := 157) hx hb dX10_one_127 (by decide) (fun c_14 => ?_) (fun c_14 => ?_)
            · replace h := h.1 c_14
              refine lv_aload_n hx hb dX10_one_157 rfl (lv_at hl 1 rfl) ?_
              refine xv_v C hd kwRX10_X10_fail (cM_fail h) ⟨rfl, rfl⟩ (rG_lf d (by decide) (by decide)) wM_rcv hl.1 rfl rfl (Nat.le_of_ble_eq_true rfl) ⟨Nat.zero_le _, Nat.zero_le _⟩ dX10_one_158 (fun k_15 H locs h hd => ?_)
              exact L n (0 : Int32) _ _ _ _ h hd (lv_sub hl [0] rfl)
            · replace h := h.2 c_14
              refine lv_aload_n hx hb dX10_one_130 rfl (lv_at hl 1 rfl) ?_
              refine gM_19 C hd (v := k_3.1 19) rfl dX10_one_131 ?_
              refine lv_iconst (v := 1) hx hb dX10_one_134 (by decide) ?_
              refine lv_icmp_ne (tgt := 157) hx hb dX10_one_135 (by decide) (fun c_16 => ?_) (fun c_16 => ?_)
              · replace h := h.1 c_16
                refine lv_aload_n hx hb dX10_one_157 rfl (lv_at hl 1 rfl) ?_
                refine xv_v C hd kwRX10_X10_fail (cM_fail h) ⟨rfl, rfl⟩ (rG_lf d (by decide) (by decide)) wM_rcv hl.1 rfl rfl (Nat.le_of_ble_eq_true rfl) ⟨Nat.zero_le _, Nat.zero_le _⟩ dX10_one_158 (fun k_17 H locs h hd => ?_)
                exact L n (0 : Int32) _ _ _ _ h hd (lv_sub hl [0] rfl)
              · replace h := h.2 c_16
                refine lv_aload_n hx hb dX10_one_138 rfl (lv_at hl 1 rfl) ?_
                refine xv_i C hd kwRX10_X10_name (cM_name h) ⟨rfl, rfl⟩ (rG_lf d (by decide) (by decide)) wM_rcv hl.1 rfl rfl (Nat.le_of_ble_eq_true rfl) ⟨Nat.zero_le _, Nat.zero_le _⟩ dX10_one_139 (fun r_18 k_18 H locs h hd => ?_)
                refine lv_istore_n (lv' := [(1, .int r_18), (0, .ref o)]) hx hb dX10_one_142 rfl hl (by decide) rfl (fun ls hl => ?_)
                refine lv_aload_n hx hb dX10_one_143 rfl (lv_at hl 1 rfl) ?_
                refine gM_24 C hd (v := k_18.1 24) rfl dX10_one_144 ?_
                refine lv_if_ne (tgt := 161) hx hb dX10_one_147 (by decide) (fun c_19 => ?_) (fun c_19 => ?_)
                · replace h := h.1 c_19
                  exact L n r_18 _ _ _ _ h hd (lv_sub hl [0] rfl)
                · replace h := h.2 c_19
                  refine lv_aload_n hx hb dX10_one_150 rfl (lv_at hl 1 rfl) ?_
                  obtain ⟨n_20, h⟩ := h
                  refine xv_v C hd kwRX10_X10_next (cM_next n_20 h) ⟨rfl, rfl⟩ (rG_lf d (by decide) (by decide)) wM_rcv hl.1 rfl rfl (Nat.le_of_ble_eq_true rfl) ⟨Nat.zero_le _, Nat.zero_le _⟩ dX10_one_151 (fun k_20 H locs h hd => ?_)
                  refine lv_goto (tgt := 161) hx hb dX10_one_154 (by decide) ?_
                  exact L n r_18 _ _ _ _ h hd (lv_sub hl [0] rfl)
          · replace h := h.2 c_13
            refine lv_aload_n hx hb dX10_one_110 rfl (lv_at hl 1 rfl) ?_
            refine gM_21 C hd (v := k_3.2.2) rfl dX10_one_111 ?_
            refine lv_l2i (v := k_3.2.2.toInt32) hx hb dX10_one_114 rfl ?_
            refine lv_istore_n (lv' := [(1, .int k_3.2.2.toInt32), (0, .ref o)]) hx hb dX10_one_115 rfl hl (by decide) rfl (fun ls hl => ?_)
            refine lv_aload_n hx hb dX10_one_116 rfl (lv_at hl 1 rfl) ?_
            obtain ⟨n_21, h⟩ := h
            refine xv_v C hd kwRX10_X10_next (cM_next n_21 h) ⟨rfl, rfl⟩ (rG_lf d (by decide) (by decide)) wM_rcv hl.1 rfl rfl (Nat.le_of_ble_eq_true rfl) ⟨Nat.zero_le _, Nat.zero_le _⟩ dX10_one_117 (fun k_21 H locs h hd => ?_)
            refine lv_goto (tgt := 161) hx hb dX10_one_120 (by decide) ?_
            exact L n k_3.2.2.toInt32 _ _ _ _ h hd (lv_sub hl [0] rfl)
      · replace h := h.2 c_4
        refine lv_aload_n hx hb dX10_one_46 rfl (lv_at hl 1 rfl) ?_
        refine xv_z C hd kwRX10_X10_opens (cM_opens h) ⟨rfl, rfl⟩ (rG_lf d (by decide) (by decide)) wM_rcv hl.1 rfl rfl (Nat.le_of_ble_eq_true rfl) ⟨Nat.zero_le _, Nat.zero_le _⟩ dX10_one_47 (fun r_22 k_22 H locs hz_22 h hd => ?_)
        refine lv_if_eq (tgt := 161) hx hb dX10_one_50 (by decide) (fun c_23 => ?_) (fun c_23 => ?_)
        · replace h := h.1 c_23
          exact L n (0 : Int32) _ _ _ _ h hd (lv_sub hl [0] rfl)
        · replace h := h.2 c_23
          refine lv_aload_n hx hb dX10_one_53 rfl (lv_at hl 1 rfl) ?_
          refine xv_i C hd kwRX10_X10_either (hE5 _ _ h) ⟨rfl, rfl⟩ (rG_ok d (by decide)) wM_rcv hl.1 rfl rfl (Nat.le_of_ble_eq_true rfl) ⟨Nat.zero_le _, Nat.zero_le _⟩ dX10_one_54 (fun r_24 k_24 H locs h hd => ?_)
          refine lv_istore_n (lv' := [(1, .int r_24), (0, .ref o)]) hx hb dX10_one_57 rfl hl (by decide) rfl (fun ls hl => ?_)
          refine lv_aload_n hx hb dX10_one_58 rfl (lv_at hl 1 rfl) ?_
          refine lv_bipush (v := 41) hx hb dX10_one_59 (by decide) ?_
          refine xv_z C hd kwRX10_X10_isSign (cM_isSign _ h) ⟨rfl, rfl⟩ (rG_lf d (by decide) (by decide)) wM_rcv hl.1 rfl rfl (Nat.le_of_ble_eq_true rfl) ⟨Nat.zero_le _, Nat.zero_le _⟩ dX10_one_61 (fun r_25 k_25 H locs hz_25 h hd => ?_)
          refine lv_if_ne (tgt := 71) hx hb dX10_one_64 (by decide) (fun c_26 => ?_) (fun c_26 => ?_)
          · replace h := h.1 c_26
            refine lv_aload_n hx hb dX10_one_71 rfl (lv_at hl 1 rfl) ?_
            refine lv_dup hx hb dX10_one_72 rfl ?_
            refine gM_23 C hd (v := k_25.1 23) rfl dX10_one_73 ?_
            refine lv_iconst (v := 1) hx hb dX10_one_76 (by decide) ?_
            refine lv_isub hx hb dX10_one_77 ?_
            refine pM_23 C hd dX10_one_78 (fun H locs hd => ?_)
            refine lv_aload_n hx hb dX10_one_81 rfl (lv_at hl 1 rfl) ?_
            refine gM_24 C hd (v := k_25.1 24) rfl dX10_one_82 ?_
            refine lv_if_ne (tgt := 161) hx hb dX10_one_85 (by decide) (fun c_27 => ?_) (fun c_27 => ?_)
            · replace h := h.1 c_27
              exact L n r_24 _ _ _ _ h hd (lv_sub hl [0] rfl)
            · replace h := h.2 c_27
              refine lv_aload_n hx hb dX10_one_88 rfl (lv_at hl 1 rfl) ?_
              obtain ⟨n_28, h⟩ := h
              refine xv_v C hd kwRX10_X10_next (cM_next n_28 h) ⟨rfl, rfl⟩ (rG_lf d (by decide) (by decide)) wM_rcv hl.1 rfl rfl (Nat.le_of_ble_eq_true rfl) ⟨Nat.zero_le _, Nat.zero_le _⟩ dX10_one_89 (fun k_28 H locs h hd => ?_)
              refine lv_goto (tgt := 161) hx hb dX10_one_92 (by decide) ?_
              exact L n r_24 _ _ _ _ h hd (lv_sub hl [0] rfl)
          · replace h := h.2 c_26
            refine lv_aload_n hx hb dX10_one_67 rfl (lv_at hl 1 rfl) ?_
            refine xv_v C hd kwRX10_X10_fail (cM_fail h) ⟨rfl, rfl⟩ (rG_lf d (by decide) (by decide)) wM_rcv hl.1 rfl rfl (Nat.le_of_ble_eq_true rfl) ⟨Nat.zero_le _, Nat.zero_le _⟩ dX10_one_68 (fun k_29 H locs h hd => ?_)
            refine lv_aload_n hx hb dX10_one_71 rfl (lv_at hl 1 rfl) ?_
            refine lv_dup hx hb dX10_one_72 rfl ?_
            refine gM_23 C hd (v := k_29.1 23) rfl dX10_one_73 ?_
            refine lv_iconst (v := 1) hx hb dX10_one_76 (by decide) ?_
            refine lv_isub hx hb dX10_one_77 ?_
            refine pM_23 C hd dX10_one_78 (fun H locs hd => ?_)
            refine lv_aload_n hx hb dX10_one_81 rfl (lv_at hl 1 rfl) ?_
            refine gM_24 C hd (v := k_29.1 24) rfl dX10_one_82 ?_
            refine lv_if_ne (tgt := 161) hx hb dX10_one_85 (by decide) (fun c_30 => ?_) (fun c_30 => ?_)
            · replace h := h.1 c_30
              exact L n r_24 _ _ _ _ h hd (lv_sub hl [0] rfl)
            · replace h := h.2 c_30
              refine lv_aload_n hx hb dX10_one_88 rfl (lv_at hl 1 rfl) ?_
              obtain ⟨n_31, h⟩ := h
              refine xv_v C hd kwRX10_X10_next (cM_next n_31 h) ⟨rfl, rfl⟩ (rG_lf d (by decide) (by decide)) wM_rcv hl.1 rfl rfl (Nat.le_of_ble_eq_true rfl) ⟨Nat.zero_le _, Nat.zero_le _⟩ dX10_one_89 (fun k_31 H locs h hd => ?_)
              refine lv_goto (tgt := 161) hx hb dX10_one_92 (by decide) ?_
              exact L n r_24 _ _ _ _ h hd (lv_sub hl [0] rfl)
    · replace h := h.2 c_2
      refine lv_aload_n hx hb dX10_one_11 rfl (lv_at hl 1 rfl) ?_
      refine xv_z C hd kwRX10_X10_opens (cM_opens h) ⟨rfl, rfl⟩ (rG_lf d (by decide) (by decide)) wM_rcv hl.1 rfl rfl (Nat.le_of_ble_eq_true rfl) ⟨Nat.zero_le _, Nat.zero_le _⟩ dX10_one_12 (fun r_32 k_32 H locs hz_32 h hd => ?_)
      refine lv_if_eq (tgt := 161) hx hb dX10_one_15 (by decide) (fun c_33 => ?_) (fun c_33 => ?_)
      · replace h := h.1 c_33
        exact L n (0 : Int32) _ _ _ _ h hd (lv_sub hl [0] rfl)
      · replace h := h.2 c_33
        refine lv_aload_n hx hb dX10_one_18 rfl (lv_at hl 1 rfl) ?_
        refine xv_i C hd kwRX10_X10_one (hE0 _ _ h) ⟨rfl, rfl⟩ (rG_ok d (by decide)) wM_rcv hl.1 rfl rfl (Nat.le_of_ble_eq_true rfl) ⟨Nat.zero_le _, Nat.zero_le _⟩ dX10_one_19 (fun r_34 k_34 H locs h hd => ?_)
        refine lv_ineg hx hb dX10_one_22 ?_
        refine lv_istore_n (lv' := [(1, .int (-r_34)), (0, .ref o)]) hx hb dX10_one_23 rfl hl (by decide) rfl (fun ls hl => ?_)
        refine lv_aload_n hx hb dX10_one_24 rfl (lv_at hl 1 rfl) ?_
        refine lv_dup hx hb dX10_one_25 rfl ?_
        refine gM_23 C hd (v := k_34.1 23) rfl dX10_one_26 ?_
        refine lv_iconst (v := 1) hx hb dX10_one_29 (by decide) ?_
        refine lv_isub hx hb dX10_one_30 ?_
        refine pM_23 C hd dX10_one_31 (fun H locs hd => ?_)
        refine lv_goto (tgt := 161) hx hb dX10_one_34 (by decide) ?_
        exact L n (-r_34) _ _ _ _ h hd (lv_sub hl [0] rfl)
def wM_term (E : Nat → GM → (Int32 → GM → Prop) → Prop)  : Nat → Nat → Int32 → GM → (Int32 → GM → Prop) → Prop
  | 0, _, _, _, _ => False
  | n + 1, c, x1, k, Q => match c with
    | 0 => (E 0 k (fun r_1 k_1 => wM_term E n 1 r_1 k_1 Q))
    | _ => (wM_isSign (42 : Int32) k (fun r_2 k_2 => ((r_2 = 0 → Q x1 k_2) ∧ (¬ r_2 = 0 → (∃ n_4 : Nat, wM_next n_4 0 0 k_2 (fun k_4 => (E 0 k_4 (fun r_5 k_5 => wM_term E n 1 (x1 * r_5) k_5 Q))))))))
set_option maxHeartbeats 4000000 in
set_option maxRecDepth 100000 in
theorem cM_term {l : Launch} {D : va_G} {o : Nat} {a : Nat → Nat} {g : Nat → ClassId} (d : Nat) (E : Nat → GM → (Int32 → GM → Prop) → Prop) (hE0 : ∀ (k : GM) (Qp : Int32 → GM → Prop), E 0 k Qp → Ci l D (tyA g) (wM o a g) yX10_one cX10_one 2 (rG d) [.ref o] k Qp) (hE1 : ∀ (k : GM) (Qp : Int32 → GM → Prop), E 1 k Qp → Ci l D (tyA g) (wM o a g) yX10_term cX10_term 2 (rG d) [.ref o] k Qp) (hE2 : ∀ (k : GM) (Qp : Int32 → GM → Prop), E 2 k Qp → Ci l D (tyA g) (wM o a g) yX10_added cX10_added 4 (rG d) [.ref o] k Qp) (hE3 : ∀ (k : GM) (Qp : Int32 → GM → Prop), E 3 k Qp → Ci l D (tyA g) (wM o a g) yX10_not cX10_not 4 (rG d) [.ref o] k Qp) (hE4 : ∀ (k : GM) (Qp : Int32 → GM → Prop), E 4 k Qp → Ci l D (tyA g) (wM o a g) yX10_both cX10_both 3 (rG d) [.ref o] k Qp) (hE5 : ∀ (k : GM) (Qp : Int32 → GM → Prop), E 5 k Qp → Ci l D (tyA g) (wM o a g) yX10_either cX10_either 3 (rG d) [.ref o] k Qp) {k : GM} {Qp : Int32 → GM → Prop} (n : Nat)  (h : wM_term E n 0 0 k Qp) : Ci l D (tyA g) (wM o a g) yX10_term cX10_term 2 (rG (d + 1)) [.ref o] k Qp := by
  refine Ci_of (by decide) (Nat.le_of_ble_eq_true rfl) ?_
  intro p e s m args below meth c A Z ls C ret hd hl
  have hx := C.1
  have hb := C.2.1
  have hl : lv_has ls 2 [(0, .ref o)] := hl
  have L : ∀ n : Nat, (∀ (x1 : Int32) (k : GM) (H : Heap) (locs : List Loc) (ls : Array Slot), wM_term E n 1 x1 k Qp → Hd D (wM o a g k) A s H locs → lv_has ls 2 [(0, .ref o), (1, .int x1)] → W p l e (rG (d + 1)) s m args below meth c H locs 0 0 Z (F0 m 5 ls [])) := by
    intro n
    induction n with
    | zero => exact fun _ _ _ _ _ h => h.elim
    | succ n ih =>
      intro x1 k H locs ls h hd hl
      replace h : (wM_isSign (42 : Int32) k (fun r_2 k_2 => ((r_2 = 0 → Qp x1 k_2) ∧ (¬ r_2 = 0 → (∃ n_4 : Nat, wM_next n_4 0 0 k_2 (fun k_4 => (E 0 k_4 (fun r_5 k_5 => wM_term E n 1 (x1 * r_5) k_5 Qp)))))))) := h
      refine lv_aload_n hx hb dX10_term_5 rfl (lv_at hl 0 rfl) ?_
      refine lv_bipush (v := 42) hx hb dX10_term_6 (by decide) ?_
      refine xv_z C hd kwRX10_X10_isSign (cM_isSign _ h) ⟨rfl, rfl⟩ (rG_lf d (by decide) (by decide)) wM_rcv hl.1 rfl rfl (Nat.le_of_ble_eq_true rfl) ⟨Nat.zero_le _, Nat.zero_le _⟩ dX10_term_8 (fun r_2 k_2 H locs hz_2 h hd => ?_)
      refine lv_if_eq (tgt := 28) hx hb dX10_term_11 (by decide) (fun c_3 => ?_) (fun c_3 => ?_)
      · replace h := h.1 c_3
        refine lv_iload_n hx hb dX10_term_28 rfl (lv_at hl 1 rfl) ?_
        exact ret hd h dX10_term_29
      · replace h := h.2 c_3
        refine lv_aload_n hx hb dX10_term_14 rfl (lv_at hl 0 rfl) ?_
        obtain ⟨n_4, h⟩ := h
        refine xv_v C hd kwRX10_X10_next (cM_next n_4 h) ⟨rfl, rfl⟩ (rG_lf d (by decide) (by decide)) wM_rcv hl.1 rfl rfl (Nat.le_of_ble_eq_true rfl) ⟨Nat.zero_le _, Nat.zero_le _⟩ dX10_term_15 (fun k_4 H locs h hd => ?_)
        refine lv_iload_n hx hb dX10_term_18 rfl (lv_at hl 1 rfl) ?_
        refine lv_aload_n hx hb dX10_term_19 rfl (lv_at hl 0 rfl) ?_
        refine xv_i C hd kwRX10_X10_one (hE0 _ _ h) ⟨rfl, rfl⟩ (rG_ok d (by decide)) wM_rcv hl.1 rfl rfl (Nat.le_of_ble_eq_true rfl) ⟨Nat.zero_le _, Nat.zero_le _⟩ dX10_term_20 (fun r_5 k_5 H locs h hd => ?_)
        refine lv_imul hx hb dX10_term_23 ?_
        refine lv_istore_n (lv' := [(1, .int (x1 * r_5)), (0, .ref o)]) hx hb dX10_term_24 rfl hl (by decide) rfl (fun ls hl => ?_)
        refine lv_goto (tgt := 5) hx hb dX10_term_25 (by decide) ?_
        exact ih (x1 * r_5) _ _ _ _ h hd (lv_sub hl [1, 0] rfl)
  cases n with
  | zero => exact h.elim
  | succ n =>
    replace h : (E 0 k (fun r_1 k_1 => wM_term E n 1 r_1 k_1 Qp)) := h
    refine lv_aload_n hx hb dX10_term_0 rfl (lv_at hl 0 rfl) ?_
    refine xv_i C hd kwRX10_X10_one (hE0 _ _ h) ⟨rfl, rfl⟩ (rG_ok d (by decide)) wM_rcv hl.1 rfl rfl (Nat.le_of_ble_eq_true rfl) ⟨Nat.zero_le _, Nat.zero_le _⟩ dX10_term_1 (fun r_1 k_1 H locs h hd => ?_)
    refine lv_istore_n (lv' := [(1, .int r_1), (0, .ref o)]) hx hb dX10_term_4 rfl hl (by decide) rfl (fun ls hl => ?_)
    exact L n r_1 _ _ _ _ h hd (lv_sub hl [1, 0] rfl)
def wM_not (E : Nat → GM → (Int32 → GM → Prop) → Prop)  : Nat → Nat → Int32 → Int32 → GM → (Int32 → GM → Prop) → Prop
  | 0, _, _, _, _, _ => False
  | n + 1, c, x1, s0, k, Q => match c with
    | 0 => (wM_isWord (10631 : Int64) k (fun r_1 k_1 => ((r_1 = 0 → (E 2 k_1 (fun r_3 k_3 => (wM_isSign (60 : Int32) k_3 (fun r_4 k_4 => ((¬ r_4 = 0 → ((¬ (lg_cmp k_4.2.2 (60 : Int64)) = 0 → wM_not E n 1 r_3 (0 : Int32) k_4 Q) ∧ ((lg_cmp k_4.2.2 (60 : Int64)) = 0 → wM_not E n 1 r_3 (1 : Int32) k_4 Q))) ∧ (r_4 = 0 → (wM_isSign (61 : Int32) k_4 (fun r_7 k_7 => ((¬ r_7 = 0 → ((¬ (lg_cmp k_7.2.2 (60 : Int64)) = 0 → wM_not E n 1 r_3 (0 : Int32) k_7 Q) ∧ ((lg_cmp k_7.2.2 (60 : Int64)) = 0 → wM_not E n 1 r_3 (1 : Int32) k_7 Q))) ∧ (r_7 = 0 → Q r_3 k_7))))))))))) ∧ (¬ r_1 = 0 → (wM_opens k_1 (fun r_10 k_10 => ((¬ r_10 = 0 → (E 3 k_10 (fun r_12 k_12 => ((¬ r_12 = 0 → Q (0 : Int32) (sI k_12 23 ((k_12.1 23) - (1 : Int32)))) ∧ (r_12 = 0 → Q (1 : Int32) (sI k_12 23 ((k_12.1 23) - (1 : Int32)))))))) ∧ (r_10 = 0 → Q (0 : Int32) k_10))))))))
    | _ => (∃ n_14 : Nat, wM_next n_14 0 0 k (fun k_14 => (E 2 k_14 (fun r_15 k_15 => ((s0 = 0 → ((¬ x1 = r_15 → Q (0 : Int32) k_15) ∧ (x1 = r_15 → Q (1 : Int32) k_15))) ∧ (¬ s0 = 0 → ((r_15 ≤ x1 → Q (0 : Int32) k_15) ∧ (¬ r_15 ≤ x1 → Q (1 : Int32) k_15))))))))
set_option maxHeartbeats 4000000 in
set_option maxRecDepth 100000 in
theorem cM_not {l : Launch} {D : va_G} {o : Nat} {a : Nat → Nat} {g : Nat → ClassId} (d : Nat) (E : Nat → GM → (Int32 → GM → Prop) → Prop) (hE0 : ∀ (k : GM) (Qp : Int32 → GM → Prop), E 0 k Qp → Ci l D (tyA g) (wM o a g) yX10_one cX10_one 2 (rG d) [.ref o] k Qp) (hE1 : ∀ (k : GM) (Qp : Int32 → GM → Prop), E 1 k Qp → Ci l D (tyA g) (wM o a g) yX10_term cX10_term 2 (rG d) [.ref o] k Qp) (hE2 : ∀ (k : GM) (Qp : Int32 → GM → Prop), E 2 k Qp → Ci l D (tyA g) (wM o a g) yX10_added cX10_added 4 (rG d) [.ref o] k Qp) (hE3 : ∀ (k : GM) (Qp : Int32 → GM → Prop), E 3 k Qp → Ci l D (tyA g) (wM o a g) yX10_not cX10_not 4 (rG d) [.ref o] k Qp) (hE4 : ∀ (k : GM) (Qp : Int32 → GM → Prop), E 4 k Qp → Ci l D (tyA g) (wM o a g) yX10_both cX10_both 3 (rG d) [.ref o] k Qp) (hE5 : ∀ (k : GM) (Qp : Int32 → GM → Prop), E 5 k Qp → Ci l D (tyA g) (wM o a g) yX10_either cX10_either 3 (rG d) [.ref o] k Qp) {k : GM} {Qp : Int32 → GM → Prop} (n : Nat)  (h : wM_not E n 0 0 0 k Qp) : Ci l D (tyA g) (wM o a g) yX10_not cX10_not 4 (rG (d + 1)) [.ref o] k Qp := by
  refine Ci_of (by decide) (Nat.le_of_ble_eq_true rfl) ?_
  intro p e s m args below meth c A Z ls C ret hd hl
  have hx := C.1
  have hb := C.2.1
  have hl : lv_has ls 4 [(0, .ref o)] := hl
  have L : ∀ n : Nat, (∀ (x1 : Int32) (s0 : Int32) (k : GM) (H : Heap) (locs : List Loc) (ls : Array Slot), wM_not E n 1 x1 s0 k Qp → Hd D (wM o a g k) A s H locs → lv_has ls 4 [(0, .ref o), (1, .int x1)] → W p l e (rG (d + 1)) s m args below meth c H locs 0 0 Z (F0 m 85 ls [.int s0])) := by
    intro n
    induction n with
    | zero => exact fun _ _ _ _ _ _ h => h.elim
    | succ n ih =>
      intro x1 s0 k H locs ls h hd hl
      replace h : (∃ n_14 : Nat, wM_next n_14 0 0 k (fun k_14 => (E 2 k_14 (fun r_15 k_15 => ((s0 = 0 → ((¬ x1 = r_15 → Qp (0 : Int32) k_15) ∧ (x1 = r_15 → Qp (1 : Int32) k_15))) ∧ (¬ s0 = 0 → ((r_15 ≤ x1 → Qp (0 : Int32) k_15) ∧ (¬ r_15 ≤ x1 → Qp (1 : Int32) k_15)))))))) := h
      refine lv_istore_n (lv' := [(2, .int s0), (0, .ref o), (1, .int x1)]) hx hb dX10_not_85 rfl hl (by decide) rfl (fun ls hl => ?_)
      refine lv_aload_n hx hb dX10_not_86 rfl (lv_at hl 1 rfl) ?_
      obtain ⟨n_14, h⟩ := h
      refine xv_v C hd kwRX10_X10_next (cM_next n_14 h) ⟨rfl, rfl⟩ (rG_lf d (by decide) (by decide)) wM_rcv hl.1 rfl rfl (Nat.le_of_ble_eq_true rfl) ⟨Nat.zero_le _, Nat.zero_le _⟩ dX10_not_87 (fun k_14 H locs h hd => ?_)
      refine lv_aload_n hx hb dX10_not_90 rfl (lv_at hl 1 rfl) ?_
      refine xv_i C hd kwRX10_X10_added (hE2 _ _ h) ⟨rfl, rfl⟩ (rG_ok d (by decide)) wM_rcv hl.1 rfl rfl (Nat.le_of_ble_eq_true rfl) ⟨Nat.zero_le _, Nat.zero_le _⟩ dX10_not_91 (fun r_15 k_15 H locs h hd => ?_)
      refine lv_istore_n (lv' := [(3, .int r_15), (2, .int s0), (0, .ref o), (1, .int x1)]) hx hb dX10_not_94 rfl hl (by decide) rfl (fun ls hl => ?_)
      refine lv_iload_n hx hb dX10_not_95 rfl (lv_at hl 1 rfl) ?_
      refine lv_if_eq (tgt := 107) hx hb dX10_not_96 (by decide) (fun c_16 => ?_) (fun c_16 => ?_)
      · replace h := h.1 c_16
        refine lv_iload_n hx hb dX10_not_107 rfl (lv_at hl 3 rfl) ?_
        refine lv_iload_n hx hb dX10_not_108 rfl (lv_at hl 0 rfl) ?_
        refine lv_icmp_ne (tgt := 116) hx hb dX10_not_109 (by decide) (fun c_17 => ?_) (fun c_17 => ?_)
        · replace h := h.1 c_17
          refine lv_iconst (v := 0) hx hb dX10_not_116 (by decide) ?_
          exact ret hd h dX10_not_117
        · replace h := h.2 c_17
          refine lv_iconst (v := 1) hx hb dX10_not_112 (by decide) ?_
          refine lv_goto (tgt := 117) hx hb dX10_not_113 (by decide) ?_
          exact ret hd h dX10_not_117
      · replace h := h.2 c_16
        refine lv_iload_n hx hb dX10_not_99 rfl (lv_at hl 3 rfl) ?_
        refine lv_iload_n hx hb dX10_not_100 rfl (lv_at hl 0 rfl) ?_
        refine lv_icmp_ge (tgt := 116) hx hb dX10_not_101 (by decide) (fun c_18 => ?_) (fun c_18 => ?_)
        · replace h := h.1 c_18
          refine lv_iconst (v := 0) hx hb dX10_not_116 (by decide) ?_
          exact ret hd h dX10_not_117
        · replace h := h.2 c_18
          refine lv_goto (tgt := 112) hx hb dX10_not_104 (by decide) ?_
          refine lv_iconst (v := 1) hx hb dX10_not_112 (by decide) ?_
          refine lv_goto (tgt := 117) hx hb dX10_not_113 (by decide) ?_
          exact ret hd h dX10_not_117
  cases n with
  | zero => exact h.elim
  | succ n =>
    replace h : (wM_isWord (10631 : Int64) k (fun r_1 k_1 => ((r_1 = 0 → (E 2 k_1 (fun r_3 k_3 => (wM_isSign (60 : Int32) k_3 (fun r_4 k_4 => ((¬ r_4 = 0 → ((¬ (lg_cmp k_4.2.2 (60 : Int64)) = 0 → wM_not E n 1 r_3 (0 : Int32) k_4 Qp) ∧ ((lg_cmp k_4.2.2 (60 : Int64)) = 0 → wM_not E n 1 r_3 (1 : Int32) k_4 Qp))) ∧ (r_4 = 0 → (wM_isSign (61 : Int32) k_4 (fun r_7 k_7 => ((¬ r_7 = 0 → ((¬ (lg_cmp k_7.2.2 (60 : Int64)) = 0 → wM_not E n 1 r_3 (0 : Int32) k_7 Qp) ∧ ((lg_cmp k_7.2.2 (60 : Int64)) = 0 → wM_not E n 1 r_3 (1 : Int32) k_7 Qp))) ∧ (r_7 = 0 → Qp r_3 k_7))))))))))) ∧ (¬ r_1 = 0 → (wM_opens k_1 (fun r_10 k_10 => ((¬ r_10 = 0 → (E 3 k_10 (fun r_12 k_12 => ((¬ r_12 = 0 → Qp (0 : Int32) (sI k_12 23 ((k_12.1 23) - (1 : Int32)))) ∧ (r_12 = 0 → Qp (1 : Int32) (sI k_12 23 ((k_12.1 23) - (1 : Int32)))))))) ∧ (r_10 = 0 → Qp (0 : Int32) k_10)))))))) := h
    refine lv_aload_n hx hb dX10_not_0 rfl (lv_at hl 0 rfl) ?_
    refine lv_ldc2 (v := (10631 : Int64)) hx hb C.2.2.2.1 (C.2.2.2.2.1 _ q_1162) dX10_not_1 ?_
    refine xv_z C hd kwRX10_X10_isWord (cM_isWord _ h) ⟨rfl, rfl⟩ (rG_lf d (by decide) (by decide)) wM_rcv hl.1 rfl rfl (Nat.le_of_ble_eq_true rfl) ⟨Nat.zero_le _, Nat.zero_le _⟩ dX10_not_4 (fun r_1 k_1 H locs hz_1 h hd => ?_)
    refine lv_if_eq (tgt := 44) hx hb dX10_not_7 (by decide) (fun c_2 => ?_) (fun c_2 => ?_)
    · replace h := h.1 c_2
      refine lv_aload_n hx hb dX10_not_44 rfl (lv_at hl 0 rfl) ?_
      refine xv_i C hd kwRX10_X10_added (hE2 _ _ h) ⟨rfl, rfl⟩ (rG_ok d (by decide)) wM_rcv hl.1 rfl rfl (Nat.le_of_ble_eq_true rfl) ⟨Nat.zero_le _, Nat.zero_le _⟩ dX10_not_45 (fun r_3 k_3 H locs h hd => ?_)
      refine lv_istore_n (lv' := [(1, .int r_3), (0, .ref o)]) hx hb dX10_not_48 rfl hl (by decide) rfl (fun ls hl => ?_)
      refine lv_aload_n hx hb dX10_not_49 rfl (lv_at hl 1 rfl) ?_
      refine lv_bipush (v := 60) hx hb dX10_not_50 (by decide) ?_
      refine xv_z C hd kwRX10_X10_isSign (cM_isSign _ h) ⟨rfl, rfl⟩ (rG_lf d (by decide) (by decide)) wM_rcv hl.1 rfl rfl (Nat.le_of_ble_eq_true rfl) ⟨Nat.zero_le _, Nat.zero_le _⟩ dX10_not_52 (fun r_4 k_4 H locs hz_4 h hd => ?_)
      refine lv_if_ne (tgt := 69) hx hb dX10_not_55 (by decide) (fun c_5 => ?_) (fun c_5 => ?_)
      · replace h := h.1 c_5
        refine lv_aload_n hx hb dX10_not_69 rfl (lv_at hl 1 rfl) ?_
        refine gM_21 C hd (v := k_4.2.2) rfl dX10_not_70 ?_
        refine lv_ldc2 (v := (60 : Int64)) hx hb C.2.2.2.1 (C.2.2.2.2.1 _ q_1194) dX10_not_73 ?_
        refine W.lcmp hx hb dX10_not_76 ?_
        refine lv_if_ne (tgt := 84) hx hb dX10_not_77 (by decide) (fun c_6 => ?_) (fun c_6 => ?_)
        · replace h := h.1 c_6
          refine lv_iconst (v := 0) hx hb dX10_not_84 (by decide) ?_
          exact L n r_3 (0 : Int32) _ _ _ _ h hd (lv_sub hl [1, 0] rfl)
        · replace h := h.2 c_6
          refine lv_iconst (v := 1) hx hb dX10_not_80 (by decide) ?_
          refine lv_goto (tgt := 85) hx hb dX10_not_81 (by decide) ?_
          exact L n r_3 (1 : Int32) _ _ _ _ h hd (lv_sub hl [1, 0] rfl)
      · replace h := h.2 c_5
        refine lv_aload_n hx hb dX10_not_58 rfl (lv_at hl 1 rfl) ?_
        refine lv_bipush (v := 61) hx hb dX10_not_59 (by decide) ?_
        refine xv_z C hd kwRX10_X10_isSign (cM_isSign _ h) ⟨rfl, rfl⟩ (rG_lf d (by decide) (by decide)) wM_rcv hl.1 rfl rfl (Nat.le_of_ble_eq_true rfl) ⟨Nat.zero_le _, Nat.zero_le _⟩ dX10_not_61 (fun r_7 k_7 H locs hz_7 h hd => ?_)
        refine lv_if_ne (tgt := 69) hx hb dX10_not_64 (by decide) (fun c_8 => ?_) (fun c_8 => ?_)
        · replace h := h.1 c_8
          refine lv_aload_n hx hb dX10_not_69 rfl (lv_at hl 1 rfl) ?_
          refine gM_21 C hd (v := k_7.2.2) rfl dX10_not_70 ?_
          refine lv_ldc2 (v := (60 : Int64)) hx hb C.2.2.2.1 (C.2.2.2.2.1 _ q_1194) dX10_not_73 ?_
          refine W.lcmp hx hb dX10_not_76 ?_
          refine lv_if_ne (tgt := 84) hx hb dX10_not_77 (by decide) (fun c_9 => ?_) (fun c_9 => ?_)
          · replace h := h.1 c_9
            refine lv_iconst (v := 0) hx hb dX10_not_84 (by decide) ?_
            exact L n r_3 (0 : Int32) _ _ _ _ h hd (lv_sub hl [1, 0] rfl)
          · replace h := h.2 c_9
            refine lv_iconst (v := 1) hx hb dX10_not_80 (by decide) ?_
            refine lv_goto (tgt := 85) hx hb dX10_not_81 (by decide) ?_
            exact L n r_3 (1 : Int32) _ _ _ _ h hd (lv_sub hl [1, 0] rfl)
        · replace h := h.2 c_8
          refine lv_iload_n hx hb dX10_not_67 rfl (lv_at hl 0 rfl) ?_
          exact ret hd h dX10_not_68
    · replace h := h.2 c_2
      refine lv_aload_n hx hb dX10_not_10 rfl (lv_at hl 0 rfl) ?_
      refine xv_z C hd kwRX10_X10_opens (cM_opens h) ⟨rfl, rfl⟩ (rG_lf d (by decide) (by decide)) wM_rcv hl.1 rfl rfl (Nat.le_of_ble_eq_true rfl) ⟨Nat.zero_le _, Nat.zero_le _⟩ dX10_not_11 (fun r_10 k_10 H locs hz_10 h hd => ?_)
      refine lv_if_ne (tgt := 19) hx hb dX10_not_14 (by decide) (fun c_11 => ?_) (fun c_11 => ?_)
      · replace h := h.1 c_11
        refine lv_aload_n hx hb dX10_not_19 rfl (lv_at hl 0 rfl) ?_
        refine xv_i C hd kwRX10_X10_not (hE3 _ _ h) ⟨rfl, rfl⟩ (rG_ok d (by decide)) wM_rcv hl.1 rfl rfl (Nat.le_of_ble_eq_true rfl) ⟨Nat.zero_le _, Nat.zero_le _⟩ dX10_not_20 (fun r_12 k_12 H locs h hd => ?_)
        refine lv_istore_n (lv' := [(1, .int r_12), (0, .ref o)]) hx hb dX10_not_23 rfl hl (by decide) rfl (fun ls hl => ?_)
        refine lv_aload_n hx hb dX10_not_24 rfl (lv_at hl 1 rfl) ?_
        refine lv_dup hx hb dX10_not_25 rfl ?_
        refine gM_23 C hd (v := k_12.1 23) rfl dX10_not_26 ?_
        refine lv_iconst (v := 1) hx hb dX10_not_29 (by decide) ?_
        refine lv_isub hx hb dX10_not_30 ?_
        refine pM_23 C hd dX10_not_31 (fun H locs hd => ?_)
        refine lv_iload_n hx hb dX10_not_34 rfl (lv_at hl 0 rfl) ?_
        refine lv_if_ne (tgt := 42) hx hb dX10_not_35 (by decide) (fun c_13 => ?_) (fun c_13 => ?_)
        · replace h := h.1 c_13
          refine lv_iconst (v := 0) hx hb dX10_not_42 (by decide) ?_
          exact ret hd h dX10_not_43
        · replace h := h.2 c_13
          refine lv_iconst (v := 1) hx hb dX10_not_38 (by decide) ?_
          refine lv_goto (tgt := 43) hx hb dX10_not_39 (by decide) ?_
          exact ret hd h dX10_not_43
      · replace h := h.2 c_11
        refine lv_iconst (v := 0) hx hb dX10_not_17 (by decide) ?_
        exact ret hd h dX10_not_18
def wM_both (E : Nat → GM → (Int32 → GM → Prop) → Prop)  : Nat → Nat → Int32 → GM → (Int32 → GM → Prop) → Prop
  | 0, _, _, _, _ => False
  | n + 1, c, x1, k, Q => match c with
    | 0 => (E 3 k (fun r_1 k_1 => wM_both E n 1 r_1 k_1 Q))
    | _ => (wM_isWord (1111 : Int64) k (fun r_2 k_2 => ((r_2 = 0 → Q x1 k_2) ∧ (¬ r_2 = 0 → (∃ n_4 : Nat, wM_next n_4 0 0 k_2 (fun k_4 => (E 3 k_4 (fun r_5 k_5 => ((x1 = 0 → wM_both E n 1 (0 : Int32) k_5 Q) ∧ (¬ x1 = 0 → ((r_5 = 0 → wM_both E n 1 (0 : Int32) k_5 Q) ∧ (¬ r_5 = 0 → wM_both E n 1 (1 : Int32) k_5 Q))))))))))))
set_option maxHeartbeats 4000000 in
set_option maxRecDepth 100000 in
theorem cM_both {l : Launch} {D : va_G} {o : Nat} {a : Nat → Nat} {g : Nat → ClassId} (d : Nat) (E : Nat → GM → (Int32 → GM → Prop) → Prop) (hE0 : ∀ (k : GM) (Qp : Int32 → GM → Prop), E 0 k Qp → Ci l D (tyA g) (wM o a g) yX10_one cX10_one 2 (rG d) [.ref o] k Qp) (hE1 : ∀ (k : GM) (Qp : Int32 → GM → Prop), E 1 k Qp → Ci l D (tyA g) (wM o a g) yX10_term cX10_term 2 (rG d) [.ref o] k Qp) (hE2 : ∀ (k : GM) (Qp : Int32 → GM → Prop), E 2 k Qp → Ci l D (tyA g) (wM o a g) yX10_added cX10_added 4 (rG d) [.ref o] k Qp) (hE3 : ∀ (k : GM) (Qp : Int32 → GM → Prop), E 3 k Qp → Ci l D (tyA g) (wM o a g) yX10_not cX10_not 4 (rG d) [.ref o] k Qp) (hE4 : ∀ (k : GM) (Qp : Int32 → GM → Prop), E 4 k Qp → Ci l D (tyA g) (wM o a g) yX10_both cX10_both 3 (rG d) [.ref o] k Qp) (hE5 : ∀ (k : GM) (Qp : Int32 → GM → Prop), E 5 k Qp → Ci l D (tyA g) (wM o a g) yX10_either cX10_either 3 (rG d) [.ref o] k Qp) {k : GM} {Qp : Int32 → GM → Prop} (n : Nat)  (h : wM_both E n 0 0 k Qp) : Ci l D (tyA g) (wM o a g) yX10_both cX10_both 3 (rG (d + 1)) [.ref o] k Qp := by
  refine Ci_of (by decide) (Nat.le_of_ble_eq_true rfl) ?_
  intro p e s m args below meth c A Z ls C ret hd hl
  have hx := C.1
  have hb := C.2.1
  have hl : lv_has ls 3 [(0, .ref o)] := hl
  have L : ∀ n : Nat, (∀ (x1 : Int32) (k : GM) (H : Heap) (locs : List Loc) (ls : Array Slot), wM_both E n 1 x1 k Qp → Hd D (wM o a g k) A s H locs → lv_has ls 3 [(0, .ref o), (1, .int x1)] → W p l e (rG (d + 1)) s m args below meth c H locs 0 0 Z (F0 m 5 ls [])) := by
    intro n
    induction n with
    | zero => exact fun _ _ _ _ _ h => h.elim
    | succ n ih =>
      intro x1 k H locs ls h hd hl
      replace h : (wM_isWord (1111 : Int64) k (fun r_2 k_2 => ((r_2 = 0 → Qp x1 k_2) ∧ (¬ r_2 = 0 → (∃ n_4 : Nat, wM_next n_4 0 0 k_2 (fun k_4 => (E 3 k_4 (fun r_5 k_5 => ((x1 = 0 → wM_both E n 1 (0 : Int32) k_5 Qp) ∧ (¬ x1 = 0 → ((r_5 = 0 → wM_both E n 1 (0 : Int32) k_5 Qp) ∧ (¬ r_5 = 0 → wM_both E n 1 (1 : Int32) k_5 Qp)))))))))))) := h
      refine lv_aload_n hx hb dX10_both_5 rfl (lv_at hl 0 rfl) ?_
      refine lv_ldc2 (v := (1111 : Int64)) hx hb C.2.2.2.1 (C.2.2.2.2.1 _ q_1195) dX10_both_6 ?_
      refine xv_z C hd kwRX10_X10_isWord (cM_isWord _ h) ⟨rfl, rfl⟩ (rG_lf d (by decide) (by decide)) wM_rcv hl.1 rfl rfl (Nat.le_of_ble_eq_true rfl) ⟨Nat.zero_le _, Nat.zero_le _⟩ dX10_both_9 (fun r_2 k_2 H locs hz_2 h hd => ?_)
      refine lv_if_eq (tgt := 41) hx hb dX10_both_12 (by decide) (fun c_3 => ?_) (fun c_3 => ?_)
      · replace h := h.1 c_3
        refine lv_iload_n hx hb dX10_both_41 rfl (lv_at hl 1 rfl) ?_
        exact ret hd h dX10_both_42
      · replace h := h.2 c_3
        refine lv_aload_n hx hb dX10_both_15 rfl (lv_at hl 0 rfl) ?_
        obtain ⟨n_4, h⟩ := h
        refine xv_v C hd kwRX10_X10_next (cM_next n_4 h) ⟨rfl, rfl⟩ (rG_lf d (by decide) (by decide)) wM_rcv hl.1 rfl rfl (Nat.le_of_ble_eq_true rfl) ⟨Nat.zero_le _, Nat.zero_le _⟩ dX10_both_16 (fun k_4 H locs h hd => ?_)
        refine lv_aload_n hx hb dX10_both_19 rfl (lv_at hl 0 rfl) ?_
        refine xv_i C hd kwRX10_X10_not (hE3 _ _ h) ⟨rfl, rfl⟩ (rG_ok d (by decide)) wM_rcv hl.1 rfl rfl (Nat.le_of_ble_eq_true rfl) ⟨Nat.zero_le _, Nat.zero_le _⟩ dX10_both_20 (fun r_5 k_5 H locs h hd => ?_)
        refine lv_istore_n (lv' := [(2, .int r_5), (0, .ref o), (1, .int x1)]) hx hb dX10_both_23 rfl hl (by decide) rfl (fun ls hl => ?_)
        refine lv_iload_n hx hb dX10_both_24 rfl (lv_at hl 2 rfl) ?_
        refine lv_if_eq (tgt := 36) hx hb dX10_both_25 (by decide) (fun c_6 => ?_) (fun c_6 => ?_)
        · replace h := h.1 c_6
          refine lv_iconst (v := 0) hx hb dX10_both_36 (by decide) ?_
          refine lv_istore_n (lv' := [(1, .int (0 : Int32)), (2, .int r_5), (0, .ref o)]) hx hb dX10_both_37 rfl hl (by decide) rfl (fun ls hl => ?_)
          refine lv_goto (tgt := 5) hx hb dX10_both_38 (by decide) ?_
          exact ih (0 : Int32) _ _ _ _ h hd (lv_sub hl [2, 0] rfl)
        · replace h := h.2 c_6
          refine lv_iload_n hx hb dX10_both_28 rfl (lv_at hl 0 rfl) ?_
          refine lv_if_eq (tgt := 36) hx hb dX10_both_29 (by decide) (fun c_7 => ?_) (fun c_7 => ?_)
          · replace h := h.1 c_7
            refine lv_iconst (v := 0) hx hb dX10_both_36 (by decide) ?_
            refine lv_istore_n (lv' := [(1, .int (0 : Int32)), (2, .int r_5), (0, .ref o)]) hx hb dX10_both_37 rfl hl (by decide) rfl (fun ls hl => ?_)
            refine lv_goto (tgt := 5) hx hb dX10_both_38 (by decide) ?_
            exact ih (0 : Int32) _ _ _ _ h hd (lv_sub hl [2, 0] rfl)
          · replace h := h.2 c_7
            refine lv_iconst (v := 1) hx hb dX10_both_32 (by decide) ?_
            refine lv_goto (tgt := 37) hx hb dX10_both_33 (by decide) ?_
            refine lv_istore_n (lv' := [(1, .int (1 : Int32)), (2, .int r_5), (0, .ref o)]) hx hb dX10_both_37 rfl hl (by decide) rfl (fun ls hl => ?_)
            refine lv_goto (tgt := 5) hx hb dX10_both_38 (by decide) ?_
            exact ih (1 : Int32) _ _ _ _ h hd (lv_sub hl [2, 0] rfl)
  cases n with
  | zero => exact h.elim
  | succ n =>
    replace h : (E 3 k (fun r_1 k_1 => wM_both E n 1 r_1 k_1 Qp)) := h
    refine lv_aload_n hx hb dX10_both_0 rfl (lv_at hl 0 rfl) ?_
    refine xv_i C hd kwRX10_X10_not (hE3 _ _ h) ⟨rfl, rfl⟩ (rG_ok d (by decide)) wM_rcv hl.1 rfl rfl (Nat.le_of_ble_eq_true rfl) ⟨Nat.zero_le _, Nat.zero_le _⟩ dX10_both_1 (fun r_1 k_1 H locs h hd => ?_)
    refine lv_istore_n (lv' := [(1, .int r_1), (0, .ref o)]) hx hb dX10_both_4 rfl hl (by decide) rfl (fun ls hl => ?_)
    exact L n r_1 _ _ _ _ h hd (lv_sub hl [1, 0] rfl)
def wM_either (E : Nat → GM → (Int32 → GM → Prop) → Prop)  : Nat → Nat → Int32 → GM → (Int32 → GM → Prop) → Prop
  | 0, _, _, _, _ => False
  | n + 1, c, x1, k, Q => match c with
    | 0 => (E 4 k (fun r_1 k_1 => wM_either E n 1 r_1 k_1 Q))
    | _ => (wM_isWord (423 : Int64) k (fun r_2 k_2 => ((r_2 = 0 → Q x1 k_2) ∧ (¬ r_2 = 0 → (∃ n_4 : Nat, wM_next n_4 0 0 k_2 (fun k_4 => (E 4 k_4 (fun r_5 k_5 => ((¬ x1 = 0 → wM_either E n 1 (1 : Int32) k_5 Q) ∧ (x1 = 0 → ((r_5 = 0 → wM_either E n 1 (0 : Int32) k_5 Q) ∧ (¬ r_5 = 0 → wM_either E n 1 (1 : Int32) k_5 Q))))))))))))
set_option maxHeartbeats 4000000 in
set_option maxRecDepth 100000 in
theorem cM_either {l : Launch} {D : va_G} {o : Nat} {a : Nat → Nat} {g : Nat → ClassId} (d : Nat) (E : Nat → GM → (Int32 → GM → Prop) → Prop) (hE0 : ∀ (k : GM) (Qp : Int32 → GM → Prop), E 0 k Qp → Ci l D (tyA g) (wM o a g) yX10_one cX10_one 2 (rG d) [.ref o] k Qp) (hE1 : ∀ (k : GM) (Qp : Int32 → GM → Prop), E 1 k Qp → Ci l D (tyA g) (wM o a g) yX10_term cX10_term 2 (rG d) [.ref o] k Qp) (hE2 : ∀ (k : GM) (Qp : Int32 → GM → Prop), E 2 k Qp → Ci l D (tyA g) (wM o a g) yX10_added cX10_added 4 (rG d) [.ref o] k Qp) (hE3 : ∀ (k : GM) (Qp : Int32 → GM → Prop), E 3 k Qp → Ci l D (tyA g) (wM o a g) yX10_not cX10_not 4 (rG d) [.ref o] k Qp) (hE4 : ∀ (k : GM) (Qp : Int32 → GM → Prop), E 4 k Qp → Ci l D (tyA g) (wM o a g) yX10_both cX10_both 3 (rG d) [.ref o] k Qp) (hE5 : ∀ (k : GM) (Qp : Int32 → GM → Prop), E 5 k Qp → Ci l D (tyA g) (wM o a g) yX10_either cX10_either 3 (rG d) [.ref o] k Qp) {k : GM} {Qp : Int32 → GM → Prop} (n : Nat)  (h : wM_either E n 0 0 k Qp) : Ci l D (tyA g) (wM o a g) yX10_either cX10_either 3 (rG (d + 1)) [.ref o] k Qp := by
  refine Ci_of (by decide) (Nat.le_of_ble_eq_true rfl) ?_
  intro p e s m args below meth c A Z ls C ret hd hl
  have hx := C.1
  have hb := C.2.1
  have hl : lv_has ls 3 [(0, .ref o)] := hl
  have L : ∀ n : Nat, (∀ (x1 : Int32) (k : GM) (H : Heap) (locs : List Loc) (ls : Array Slot), wM_either E n 1 x1 k Qp → Hd D (wM o a g k) A s H locs → lv_has ls 3 [(0, .ref o), (1, .int x1)] → W p l e (rG (d + 1)) s m args below meth c H locs 0 0 Z (F0 m 5 ls [])) := by
    intro n
    induction n with
    | zero => exact fun _ _ _ _ _ h => h.elim
    | succ n ih =>
      intro x1 k H locs ls h hd hl
      replace h : (wM_isWord (423 : Int64) k (fun r_2 k_2 => ((r_2 = 0 → Qp x1 k_2) ∧ (¬ r_2 = 0 → (∃ n_4 : Nat, wM_next n_4 0 0 k_2 (fun k_4 => (E 4 k_4 (fun r_5 k_5 => ((¬ x1 = 0 → wM_either E n 1 (1 : Int32) k_5 Qp) ∧ (x1 = 0 → ((r_5 = 0 → wM_either E n 1 (0 : Int32) k_5 Qp) ∧ (¬ r_5 = 0 → wM_either E n 1 (1 : Int32) k_5 Qp)))))))))))) := h
      refine lv_aload_n hx hb dX10_either_5 rfl (lv_at hl 0 rfl) ?_
      refine lv_ldc2 (v := (423 : Int64)) hx hb C.2.2.2.1 (C.2.2.2.2.1 _ q_1196) dX10_either_6 ?_
      refine xv_z C hd kwRX10_X10_isWord (cM_isWord _ h) ⟨rfl, rfl⟩ (rG_lf d (by decide) (by decide)) wM_rcv hl.1 rfl rfl (Nat.le_of_ble_eq_true rfl) ⟨Nat.zero_le _, Nat.zero_le _⟩ dX10_either_9 (fun r_2 k_2 H locs hz_2 h hd => ?_)
      refine lv_if_eq (tgt := 41) hx hb dX10_either_12 (by decide) (fun c_3 => ?_) (fun c_3 => ?_)
      · replace h := h.1 c_3
        refine lv_iload_n hx hb dX10_either_41 rfl (lv_at hl 1 rfl) ?_
        exact ret hd h dX10_either_42
      · replace h := h.2 c_3
        refine lv_aload_n hx hb dX10_either_15 rfl (lv_at hl 0 rfl) ?_
        obtain ⟨n_4, h⟩ := h
        refine xv_v C hd kwRX10_X10_next (cM_next n_4 h) ⟨rfl, rfl⟩ (rG_lf d (by decide) (by decide)) wM_rcv hl.1 rfl rfl (Nat.le_of_ble_eq_true rfl) ⟨Nat.zero_le _, Nat.zero_le _⟩ dX10_either_16 (fun k_4 H locs h hd => ?_)
        refine lv_aload_n hx hb dX10_either_19 rfl (lv_at hl 0 rfl) ?_
        refine xv_i C hd kwRX10_X10_both (hE4 _ _ h) ⟨rfl, rfl⟩ (rG_ok d (by decide)) wM_rcv hl.1 rfl rfl (Nat.le_of_ble_eq_true rfl) ⟨Nat.zero_le _, Nat.zero_le _⟩ dX10_either_20 (fun r_5 k_5 H locs h hd => ?_)
        refine lv_istore_n (lv' := [(2, .int r_5), (0, .ref o), (1, .int x1)]) hx hb dX10_either_23 rfl hl (by decide) rfl (fun ls hl => ?_)
        refine lv_iload_n hx hb dX10_either_24 rfl (lv_at hl 2 rfl) ?_
        refine lv_if_ne (tgt := 32) hx hb dX10_either_25 (by decide) (fun c_6 => ?_) (fun c_6 => ?_)
        · replace h := h.1 c_6
          refine lv_iconst (v := 1) hx hb dX10_either_32 (by decide) ?_
          refine lv_goto (tgt := 37) hx hb dX10_either_33 (by decide) ?_
          refine lv_istore_n (lv' := [(1, .int (1 : Int32)), (2, .int r_5), (0, .ref o)]) hx hb dX10_either_37 rfl hl (by decide) rfl (fun ls hl => ?_)
          refine lv_goto (tgt := 5) hx hb dX10_either_38 (by decide) ?_
          exact ih (1 : Int32) _ _ _ _ h hd (lv_sub hl [2, 0] rfl)
        · replace h := h.2 c_6
          refine lv_iload_n hx hb dX10_either_28 rfl (lv_at hl 0 rfl) ?_
          refine lv_if_eq (tgt := 36) hx hb dX10_either_29 (by decide) (fun c_7 => ?_) (fun c_7 => ?_)
          · replace h := h.1 c_7
            refine lv_iconst (v := 0) hx hb dX10_either_36 (by decide) ?_
            refine lv_istore_n (lv' := [(1, .int (0 : Int32)), (2, .int r_5), (0, .ref o)]) hx hb dX10_either_37 rfl hl (by decide) rfl (fun ls hl => ?_)
            refine lv_goto (tgt := 5) hx hb dX10_either_38 (by decide) ?_
            exact ih (0 : Int32) _ _ _ _ h hd (lv_sub hl [2, 0] rfl)
          · replace h := h.2 c_7
            refine lv_iconst (v := 1) hx hb dX10_either_32 (by decide) ?_
            refine lv_goto (tgt := 37) hx hb dX10_either_33 (by decide) ?_
            refine lv_istore_n (lv' := [(1, .int (1 : Int32)), (2, .int r_5), (0, .ref o)]) hx hb dX10_either_37 rfl hl (by decide) rfl (fun ls hl => ?_)
            refine lv_goto (tgt := 5) hx hb dX10_either_38 (by decide) ?_
            exact ih (1 : Int32) _ _ _ _ h hd (lv_sub hl [2, 0] rfl)
  cases n with
  | zero => exact h.elim
  | succ n =>
    replace h : (E 4 k (fun r_1 k_1 => wM_either E n 1 r_1 k_1 Qp)) := h
    refine lv_aload_n hx hb dX10_either_0 rfl (lv_at hl 0 rfl) ?_
    refine xv_i C hd kwRX10_X10_both (hE4 _ _ h) ⟨rfl, rfl⟩ (rG_ok d (by decide)) wM_rcv hl.1 rfl rfl (Nat.le_of_ble_eq_true rfl) ⟨Nat.zero_le _, Nat.zero_le _⟩ dX10_either_1 (fun r_1 k_1 H locs h hd => ?_)
    refine lv_istore_n (lv' := [(1, .int r_1), (0, .ref o)]) hx hb dX10_either_4 rfl hl (by decide) rfl (fun ls hl => ?_)
    exact L n r_1 _ _ _ _ h hd (lv_sub hl [1, 0] rfl)
