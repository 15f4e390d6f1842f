def wMg : Nat → Nat → GM → (Int32 → GM → Prop) → Prop
  | 0, _, _, _ => False
  | d + 1, i, k, Q => match i with
    | 0 => ∃ n : Nat, wM_one (wMg d) n 0 0 k Q
    | 1 => ∃ n : Nat, wM_term (wMg d) n 0 0 k Q
    | 2 => ∃ n : Nat, wM_added (wMg d) n 0 0 0 k Q
    | 3 => ∃ n : Nat, wM_not (wMg d) n 0 0 0 k Q
    | 4 => ∃ n : Nat, wM_both (wMg d) n 0 0 k Q
    | _ => ∃ n : Nat, wM_either (wMg d) n 0 0 k Q
theorem cMg {l : Launch} {D : va_G} {o : Nat} {a : Nat → Nat} {g : Nat → ClassId} (d : Nat) : (∀ (k : GM) (Qp : Int32 → GM → Prop), wMg d 0 k Qp → Ci l D (tyA g) (wM o a g) yX10_one cX10_one 2 (rG d) [.ref o] k Qp) ∧ (∀ (k : GM) (Qp : Int32 → GM → Prop), wMg d 1 k Qp → Ci l D (tyA g) (wM o a g) yX10_term cX10_term 2 (rG d) [.ref o] k Qp) ∧ (∀ (k : GM) (Qp : Int32 → GM → Prop), wMg d 2 k Qp → Ci l D (tyA g) (wM o a g) yX10_added cX10_added 4 (rG d) [.ref o] k Qp) ∧ (∀ (k : GM) (Qp : Int32 → GM → Prop), wMg d 3 k Qp → Ci l D (tyA g) (wM o a g) yX10_not cX10_not 4 (rG d) [.ref o] k Qp) ∧ (∀ (k : GM) (Qp : Int32 → GM → Prop), wMg d 4 k Qp → Ci l D (tyA g) (wM o a g) yX10_both cX10_both 3 (rG d) [.ref o] k Qp) ∧ (∀ (k : GM) (Qp : Int32 → GM → Prop), wMg d 5 k Qp → Ci l D (tyA g) (wM o a g) yX10_either cX10_either 3 (rG d) [.ref o] k Qp) := by
  induction d with
  | zero => exact ⟨fun _ _ h => h.elim, fun _ _ h => h.elim, fun _ _ h => h.elim, fun _ _ h => h.elim, fun _ _ h => h.elim, fun _ _ h => h.elim⟩
  | succ d ih =>
    obtain ⟨h0, h1, h2, h3, h4, h5⟩ := ih
    exact ⟨(fun _ _ h => by obtain ⟨n, h⟩ := h; exact cM_one d (wMg d) h0 h1 h2 h3 h4 h5 n h), (fun _ _ h => by obtain ⟨n, h⟩ := h; exact cM_term d (wMg d) h0 h1 h2 h3 h4 h5 n h), (fun _ _ h => by obtain ⟨n, h⟩ := h; exact cM_added d (wMg d) h0 h1 h2 h3 h4 h5 n h), (fun _ _ h => by obtain ⟨n, h⟩ := h; exact cM_not d (wMg d) h0 h1 h2 h3 h4 h5 n h), (fun _ _ h => by obtain ⟨n, h⟩ := h; exact cM_both d (wMg d) h0 h1 h2 h3 h4 h5 n h), (fun _ _ h => by obtain ⟨n, h⟩ := h; exact cM_either d (wMg d) h0 h1 h2 h3 h4 h5 n h)⟩
theorem cMg_either {l : Launch} {D : va_G} {o : Nat} {a : Nat → Nat} {g : Nat → ClassId} {k : GM} {Qp : Int32 → GM → Prop} (h : wMg 44 5 k Qp) : Ci l D (tyA g) (wM o a g) yX10_either cX10_either 3 (rG 44) [.ref o] k Qp := (cMg 44).2.2.2.2.2 _ _ h
def wM_part  : Nat → Nat → Int64 → Int32 → GM → (Int32 → GM → Prop) → Prop
  | 0, _, _, _, _, _ => False
  | n + 1, c, x1l, s0, k, Q => match c with
    | 0 => (wM_isWord x1l k (fun r_1 k_1 => ((¬ r_1 = 0 → ((¬ (k_1.1 24) = 0 → (((k_1.1 24) = 0 → (wMg 44 5 k_1 (fun r_5 k_5 => wM_part n 1 0 r_5 k_5 Q))) ∧ (¬ (k_1.1 24) = 0 → wM_part n 1 0 (0 : Int32) k_1 Q))) ∧ ((k_1.1 24) = 0 → (∃ n_6 : Nat, wM_next n_6 0 0 k_1 (fun k_6 => (((k_6.1 24) = 0 → (wMg 44 5 k_6 (fun r_8 k_8 => wM_part n 1 0 r_8 k_8 Q))) ∧ (¬ (k_6.1 24) = 0 → wM_part n 1 0 (0 : Int32) k_6 Q))))))) ∧ (r_1 = 0 → (wM_fail k_1 (fun k_9 => ((¬ (k_9.1 24) = 0 → (((k_9.1 24) = 0 → (wMg 44 5 k_9 (fun r_12 k_12 => wM_part n 1 0 r_12 k_12 Q))) ∧ (¬ (k_9.1 24) = 0 → wM_part n 1 0 (0 : Int32) k_9 Q))) ∧ ((k_9.1 24) = 0 → (∃ n_13 : Nat, wM_next n_13 0 0 k_9 (fun k_13 => (((k_13.1 24) = 0 → (wMg 44 5 k_13 (fun r_15 k_15 => wM_part n 1 0 r_15 k_15 Q))) ∧ (¬ (k_13.1 24) = 0 → wM_part n 1 0 (0 : Int32) k_13 Q))))))))))))
    | _ => (wM_isSign (59 : Int32) k (fun r_16 k_16 => ((¬ r_16 = 0 → ((¬ (k_16.1 24) = 0 → Q s0 k_16) ∧ ((k_16.1 24) = 0 → (∃ n_19 : Nat, wM_next n_19 0 0 k_16 (fun k_19 => Q s0 k_19))))) ∧ (r_16 = 0 → (wM_fail k_16 (fun k_20 => ((¬ (k_20.1 24) = 0 → Q s0 k_20) ∧ ((k_20.1 24) = 0 → (∃ n_22 : Nat, wM_next n_22 0 0 k_20 (fun k_22 => Q s0 k_22))))))))))
set_option maxHeartbeats 4000000 in
set_option maxRecDepth 100000 in
theorem cM_part {l : Launch} {D : va_G} {o : Nat} {a : Nat → Nat} {g : Nat → ClassId} {k : GM} {Qp : Int32 → GM → Prop} (n : Nat) (x1l : Int64) (h : wM_part n 0 x1l 0 k Qp) : Ci l D (tyA g) (wM o a g) yX10_part cX10_part 4 ({ frames := 57, cells := 0, slots := 0, locals := 2182 }) [.ref o, .long x1l] k Qp := by
  refine Ci_of (by decide) (Nat.le_of_ble_eq_true rfl) ?_
  intro p e s m args below meth c A Z ls C ret hd hl
  have hx := C.1
  have hb := C.2.1
  have hl : lv_has ls 4 [(0, .ref o), (1, .long x1l)] := hl
  have L : ∀ n : Nat, (∀ (s0 : Int32) (k : GM) (H : Heap) (locs : List Loc) (ls : Array Slot), wM_part n 1 0 s0 k Qp → Hd D (wM o a g k) A s H locs → lv_has ls 4 [(0, .ref o)] → W p l e ({ frames := 57, cells := 0, slots := 0, locals := 2182 }) s m args below meth c H locs 0 0 Z (F0 m 38 ls [.int s0])) := by
    intro n
    induction n with
    | zero => exact fun _ _ _ _ _ h => h.elim
    | succ n ih =>
      intro s0 k H locs ls h hd hl
      replace h : (wM_isSign (59 : Int32) k (fun r_16 k_16 => ((¬ r_16 = 0 → ((¬ (k_16.1 24) = 0 → Qp s0 k_16) ∧ ((k_16.1 24) = 0 → (∃ n_19 : Nat, wM_next n_19 0 0 k_16 (fun k_19 => Qp s0 k_19))))) ∧ (r_16 = 0 → (wM_fail k_16 (fun k_20 => ((¬ (k_20.1 24) = 0 → Qp s0 k_20) ∧ ((k_20.1 24) = 0 → (∃ n_22 : Nat, wM_next n_22 0 0 k_20 (fun k_22 => Qp s0 k_22)))))))))) := h
      refine lv_istore_n (lv' := [(3, .int s0), (0, .ref o)]) hx hb dX10_part_38 rfl hl (by decide) rfl (fun ls hl => ?_)
      refine lv_aload_n hx hb dX10_part_39 rfl (lv_at hl 1 rfl) ?_
      refine lv_bipush (v := 59) hx hb dX10_part_40 (by decide) ?_
      refine xv_z C hd kwRX10_X10_isSign (cM_isSign _ h) ⟨rfl, rfl⟩ ⟨by decide, by decide⟩ wM_rcv hl.1 rfl rfl (Nat.le_of_ble_eq_true rfl) ⟨Nat.zero_le _, Nat.zero_le _⟩ dX10_part_42 (fun r_16 k_16 H locs hz_16 h hd => ?_)
      refine lv_if_ne (tgt := 52) hx hb dX10_part_45 (by decide) (fun c_17 => ?_) (fun c_17 => ?_)
      · replace h := h.1 c_17
        refine lv_aload_n hx hb dX10_part_52 rfl (lv_at hl 1 rfl) ?_
        refine gM_24 C hd (v := k_16.1 24) rfl dX10_part_53 ?_
        refine lv_if_ne (tgt := 63) hx hb dX10_part_56 (by decide) (fun c_18 => ?_) (fun c_18 => ?_)
        · replace h := h.1 c_18
          refine lv_iload_n hx hb dX10_part_63 rfl (lv_at hl 0 rfl) ?_
          exact ret hd h dX10_part_64
        · replace h := h.2 c_18
          refine lv_aload_n hx hb dX10_part_59 rfl (lv_at hl 1 rfl) ?_
          obtain ⟨n_19, h⟩ := h
          refine xv_v C hd kwRX10_X10_next (cM_next n_19 h) ⟨rfl, rfl⟩ ⟨by decide, by decide⟩ wM_rcv hl.1 rfl rfl (Nat.le_of_ble_eq_true rfl) ⟨Nat.zero_le _, Nat.zero_le _⟩ dX10_part_60 (fun k_19 H locs h hd => ?_)
          refine lv_iload_n hx hb dX10_part_63 rfl (lv_at hl 0 rfl) ?_
          exact ret hd h dX10_part_64
      · replace h := h.2 c_17
        refine lv_aload_n hx hb dX10_part_48 rfl (lv_at hl 1 rfl) ?_
        refine xv_v C hd kwRX10_X10_fail (cM_fail h) ⟨rfl, rfl⟩ ⟨by decide, by decide⟩ wM_rcv hl.1 rfl rfl (Nat.le_of_ble_eq_true rfl) ⟨Nat.zero_le _, Nat.zero_le _⟩ dX10_part_49 (fun k_20 H locs h hd => ?_)
        refine lv_aload_n hx hb dX10_part_52 rfl (lv_at hl 1 rfl) ?_
        refine gM_24 C hd (v := k_20.1 24) rfl dX10_part_53 ?_
        refine lv_if_ne (tgt := 63) hx hb dX10_part_56 (by decide) (fun c_21 => ?_) (fun c_21 => ?_)
        · replace h := h.1 c_21
          refine lv_iload_n hx hb dX10_part_63 rfl (lv_at hl 0 rfl) ?_
          exact ret hd h dX10_part_64
        · replace h := h.2 c_21
          refine lv_aload_n hx hb dX10_part_59 rfl (lv_at hl 1 rfl) ?_
          obtain ⟨n_22, h⟩ := h
          refine xv_v C hd kwRX10_X10_next (cM_next n_22 h) ⟨rfl, rfl⟩ ⟨by decide, by decide⟩ wM_rcv hl.1 rfl rfl (Nat.le_of_ble_eq_true rfl) ⟨Nat.zero_le _, Nat.zero_le _⟩ dX10_part_60 (fun k_22 H locs h hd => ?_)
          refine lv_iload_n hx hb dX10_part_63 rfl (lv_at hl 0 rfl) ?_
          exact ret hd h dX10_part_64
  cases n with
  | zero => exact h.elim
  | succ n =>
    replace h : (wM_isWord x1l k (fun r_1 k_1 => ((¬ r_1 = 0 → ((¬ (k_1.1 24) = 0 → (((k_1.1 24) = 0 → (wMg 44 5 k_1 (fun r_5 k_5 => wM_part n 1 0 r_5 k_5 Qp))) ∧ (¬ (k_1.1 24) = 0 → wM_part n 1 0 (0 : Int32) k_1 Qp))) ∧ ((k_1.1 24) = 0 → (∃ n_6 : Nat, wM_next n_6 0 0 k_1 (fun k_6 => (((k_6.1 24) = 0 → (wMg 44 5 k_6 (fun r_8 k_8 => wM_part n 1 0 r_8 k_8 Qp))) ∧ (¬ (k_6.1 24) = 0 → wM_part n 1 0 (0 : Int32) k_6 Qp))))))) ∧ (r_1 = 0 → (wM_fail k_1 (fun k_9 => ((¬ (k_9.1 24) = 0 → (((k_9.1 24) = 0 → (wMg 44 5 k_9 (fun r_12 k_12 => wM_part n 1 0 r_12 k_12 Qp))) ∧ (¬ (k_9.1 24) = 0 → wM_part n 1 0 (0 : Int32) k_9 Qp))) ∧ ((k_9.1 24) = 0 → (∃ n_13 : Nat, wM_next n_13 0 0 k_9 (fun k_13 => (((k_13.1 24) = 0 → (wMg 44 5 k_13 (fun r_15 k_15 => wM_part n 1 0 r_15 k_15 Qp))) ∧ (¬ (k_13.1 24) = 0 → wM_part n 1 0 (0 : Int32) k_13 Qp)))))))))))) := h
    refine lv_aload_n hx hb dX10_part_0 rfl (lv_at hl 0 rfl) ?_
    refine lv_lload_n hx hb dX10_part_1 rfl (lv_at hl 1 rfl) ?_
    refine xv_z C hd kwRX10_X10_isWord (cM_isWord _ h) ⟨rfl, rfl⟩ ⟨by decide, by decide⟩ wM_rcv hl.1 rfl rfl (Nat.le_of_ble_eq_true rfl) ⟨Nat.zero_le _, Nat.zero_le _⟩ dX10_part_2 (fun r_1 k_1 H locs hz_1 h hd => ?_)
    refine lv_if_ne (tgt := 12) hx hb dX10_part_5 (by decide) (fun c_2 => ?_) (fun c_2 => ?_)
    · replace h := h.1 c_2
      refine lv_aload_n hx hb dX10_part_12 rfl (lv_at hl 0 rfl) ?_
      refine gM_24 C hd (v := k_1.1 24) rfl dX10_part_13 ?_
      refine lv_if_ne (tgt := 23) hx hb dX10_part_16 (by decide) (fun c_3 => ?_) (fun c_3 => ?_)
      · replace h := h.1 c_3
        refine lv_aload_n hx hb dX10_part_23 rfl (lv_at hl 0 rfl) ?_
        refine gM_24 C hd (v := k_1.1 24) rfl dX10_part_24 ?_
        refine lv_if_eq (tgt := 34) hx hb dX10_part_27 (by decide) (fun c_4 => ?_) (fun c_4 => ?_)
        · replace h := h.1 c_4
          refine lv_aload_n hx hb dX10_part_34 rfl (lv_at hl 0 rfl) ?_
          refine xv_i C hd kwRX10_X10_either (cMg_either h) ⟨rfl, rfl⟩ ⟨by decide, by decide⟩ wM_rcv hl.1 rfl rfl (Nat.le_of_ble_eq_true rfl) ⟨Nat.zero_le _, Nat.zero_le _⟩ dX10_part_35 (fun r_5 k_5 H locs h hd => ?_)
          exact L n r_5 _ _ _ _ h hd (lv_sub hl [0] rfl)
        · replace h := h.2 c_4
          refine lv_iconst (v := 0) hx hb dX10_part_30 (by decide) ?_
          refine lv_goto (tgt := 38) hx hb dX10_part_31 (by decide) ?_
          exact L n (0 : Int32) _ _ _ _ h hd (lv_sub hl [0] rfl)
      · replace h := h.2 c_3
        refine lv_aload_n hx hb dX10_part_19 rfl (lv_at hl 0 rfl) ?_
        obtain ⟨n_6, h⟩ := h
        refine xv_v C hd kwRX10_X10_next (cM_next n_6 h) ⟨rfl, rfl⟩ ⟨by decide, by decide⟩ wM_rcv hl.1 rfl rfl (Nat.le_of_ble_eq_true rfl) ⟨Nat.zero_le _, Nat.zero_le _⟩ dX10_part_20 (fun k_6 H locs h hd => ?_)
        refine lv_aload_n hx hb dX10_part_23 rfl (lv_at hl 0 rfl) ?_
        refine gM_24 C hd (v := k_6.1 24) rfl dX10_part_24 ?_
        refine lv_if_eq (tgt := 34) hx hb dX10_part_27 (by decide) (fun c_7 => ?_) (fun c_7 => ?_)
        · replace h := h.1 c_7
          refine lv_aload_n hx hb dX10_part_34 rfl (lv_at hl 0 rfl) ?_
          refine xv_i C hd kwRX10_X10_either (cMg_either h) ⟨rfl, rfl⟩ ⟨by decide, by decide⟩ wM_rcv hl.1 rfl rfl (Nat.le_of_ble_eq_true rfl) ⟨Nat.zero_le _, Nat.zero_le _⟩ dX10_part_35 (fun r_8 k_8 H locs h hd => ?_)
          exact L n r_8 _ _ _ _ h hd (lv_sub hl [0] rfl)
        · replace h := h.2 c_7
          refine lv_iconst (v := 0) hx hb dX10_part_30 (by decide) ?_
          refine lv_goto (tgt := 38) hx hb dX10_part_31 (by decide) ?_
          exact L n (0 : Int32) _ _ _ _ h hd (lv_sub hl [0] rfl)
    · replace h := h.2 c_2
      refine lv_aload_n hx hb dX10_part_8 rfl (lv_at hl 0 rfl) ?_
      refine xv_v C hd kwRX10_X10_fail (cM_fail h) ⟨rfl, rfl⟩ ⟨by decide, by decide⟩ wM_rcv hl.1 rfl rfl (Nat.le_of_ble_eq_true rfl) ⟨Nat.zero_le _, Nat.zero_le _⟩ dX10_part_9 (fun k_9 H locs h hd => ?_)
      refine lv_aload_n hx hb dX10_part_12 rfl (lv_at hl 0 rfl) ?_
      refine gM_24 C hd (v := k_9.1 24) rfl dX10_part_13 ?_
      refine lv_if_ne (tgt := 23) hx hb dX10_part_16 (by decide) (fun c_10 => ?_) (fun c_10 => ?_)
      · replace h := h.1 c_10
        refine lv_aload_n hx hb dX10_part_23 rfl (lv_at hl 0 rfl) ?_
        refine gM_24 C hd (v := k_9.1 24) rfl dX10_part_24 ?_
        refine lv_if_eq (tgt := 34) hx hb dX10_part_27 (by decide) (fun c_11 => ?_) (fun c_11 => ?_)
        · replace h := h.1 c_11
          refine lv_aload_n hx hb dX10_part_34 rfl (lv_at hl 0 rfl) ?_
          refine xv_i C hd kwRX10_X10_either (cMg_either h) ⟨rfl, rfl⟩ ⟨by decide, by decide⟩ wM_rcv hl.1 rfl rfl (Nat.le_of_ble_eq_true rfl) ⟨Nat.zero_le _, Nat.zero_le _⟩ dX10_part_35 (fun r_12 k_12 H locs h hd => ?_)
          exact L n r_12 _ _ _ _ h hd (lv_sub hl [0] rfl)
        · replace h := h.2 c_11
          refine lv_iconst (v := 0) hx hb dX10_part_30 (by decide) ?_
          refine lv_goto (tgt := 38) hx hb dX10_part_31 (by decide) ?_
          exact L n (0 : Int32) _ _ _ _ h hd (lv_sub hl [0] rfl)
      · replace h := h.2 c_10
        refine lv_aload_n hx hb dX10_part_19 rfl (lv_at hl 0 rfl) ?_
        obtain ⟨n_13, h⟩ := h
        refine xv_v C hd kwRX10_X10_next (cM_next n_13 h) ⟨rfl, rfl⟩ ⟨by decide, by decide⟩ wM_rcv hl.1 rfl rfl (Nat.le_of_ble_eq_true rfl) ⟨Nat.zero_le _, Nat.zero_le _⟩ dX10_part_20 (fun k_13 H locs h hd => ?_)
        refine lv_aload_n hx hb dX10_part_23 rfl (lv_at hl 0 rfl) ?_
        refine gM_24 C hd (v := k_13.1 24) rfl dX10_part_24 ?_
        refine lv_if_eq (tgt := 34) hx hb dX10_part_27 (by decide) (fun c_14 => ?_) (fun c_14 => ?_)
        · replace h := h.1 c_14
          refine lv_aload_n hx hb dX10_part_34 rfl (lv_at hl 0 rfl) ?_
          refine xv_i C hd kwRX10_X10_either (cMg_either h) ⟨rfl, rfl⟩ ⟨by decide, by decide⟩ wM_rcv hl.1 rfl rfl (Nat.le_of_ble_eq_true rfl) ⟨Nat.zero_le _, Nat.zero_le _⟩ dX10_part_35 (fun r_15 k_15 H locs h hd => ?_)
          exact L n r_15 _ _ _ _ h hd (lv_sub hl [0] rfl)
        · replace h := h.2 c_14
          refine lv_iconst (v := 0) hx hb dX10_part_30 (by decide) ?_
          refine lv_goto (tgt := 38) hx hb dX10_part_31 (by decide) ?_
          exact L n (0 : Int32) _ _ _ _ h hd (lv_sub hl [0] rfl)
def wM_read  : Nat → Nat → Int32 → Int32 → Int32 → Int32 → Int32 → Int32 → Int32 → Int32 → Int32 → GM → (Int32 → GM → Prop) → Prop
  | 0, _, _, _, _, _, _, _, _, _, _, _, _ => False
  | n + 1, c, x1, x2, x3, x4, x5, x6, x7, x8, s0, k, Q => match c with
    | 0 => (vp_in x1 6 ∧ (∃ n_1 : Nat, wM_next n_1 0 0 (sI (sI (sI (sI (sI (sI (sI (sI (sI k 26 x2) 27 x3) 28 x4) 29 x5) 17 ((160 : Int32) * x1)) 18 (k.2.1 2 x1.toNatClampNeg)) 22 (0 : Int32)) 23 (0 : Int32)) 24 (0 : Int32)) (fun k_1 => (∃ n_2 : Nat, wM_part n_2 0 (138767 : Int64) 0 k_1 (fun r_2 k_2 => (((k_2.1 24) = 0 → (∃ n_4 : Nat, wM_part n_4 0 (118940 : Int64) 0 k_2 (fun r_4 k_4 => (((k_4.1 24) = 0 → (∃ n_6 : Nat, wM_part n_6 0 (92275 : Int64) 0 k_4 (fun r_6 k_6 => wM_read n 1 0 0 0 0 0 x6 r_2 r_4 r_6 k_6 Q))) ∧ (¬ (k_4.1 24) = 0 → wM_read n 1 0 0 0 0 0 x6 r_2 r_4 (0 : Int32) k_4 Q))))) ∧ (¬ (k_2.1 24) = 0 → (((k_2.1 24) = 0 → (∃ n_8 : Nat, wM_part n_8 0 (92275 : Int64) 0 k_2 (fun r_8 k_8 => wM_read n 1 0 0 0 0 0 x6 r_2 (0 : Int32) r_8 k_8 Q))) ∧ (¬ (k_2.1 24) = 0 → wM_read n 1 0 0 0 0 0 x6 r_2 (0 : Int32) (0 : Int32) k_2 Q)))))))))
    | _ => ((¬ (k.1 24) = 0 → ((¬ x6 = 0 → ((¬ x6 = (1 : Int32) → Q s0 k) ∧ (x6 = (1 : Int32) → Q x8 k))) ∧ (x6 = 0 → Q x7 k))) ∧ ((k.1 24) = 0 → (((k.1 19) = 0 → ((¬ x6 = 0 → ((¬ x6 = (1 : Int32) → Q s0 k) ∧ (x6 = (1 : Int32) → Q x8 k))) ∧ (x6 = 0 → Q x7 k))) ∧ (¬ (k.1 19) = 0 → (wM_fail k (fun k_15 => ((¬ x6 = 0 → ((¬ x6 = (1 : Int32) → Q s0 k_15) ∧ (x6 = (1 : Int32) → Q x8 k_15))) ∧ (x6 = 0 → Q x7 k_15))))))))
set_option maxHeartbeats 4000000 in
set_option maxRecDepth 100000 in
theorem cM_read {l : Launch} {D : va_G} {o : Nat} {a : Nat → Nat} {g : Nat → ClassId} {k : GM} {Qp : Int32 → GM → Prop} (n : Nat) (x1 : Int32) (x2 : Int32) (x3 : Int32) (x4 : Int32) (x5 : Int32) (x6 : Int32) (h : wM_read n 0 x1 x2 x3 x4 x5 x6 0 0 0 k Qp) : Ci l D (tyA g) (wM o a g) yX10_read cX10_read 10 ({ frames := 58, cells := 0, slots := 0, locals := 2205 }) [.ref o, .int x1, .int x2, .int x3, .int x4, .int x5, .int x6] k Qp := by
  refine Ci_of (by decide) (Nat.le_of_ble_eq_true rfl) ?_
  intro p e s m args below meth c A Z ls C ret hd hl
  have hx := C.1
  have hb := C.2.1
  have hl : lv_has ls 10 [(0, .ref o), (1, .int x1), (2, .int x2), (3, .int x3), (4, .int x4), (5, .int x5), (6, .int x6)] := hl
  have L : ∀ n : Nat, (∀ (x6 : Int32) (x7 : Int32) (x8 : Int32) (s0 : Int32) (k : GM) (H : Heap) (locs : List Loc) (ls : Array Slot), wM_read n 1 0 0 0 0 0 x6 x7 x8 s0 k Qp → Hd D (wM o a g k) A s H locs → lv_has ls 10 [(0, .ref o), (6, .int x6), (7, .int x7), (8, .int x8)] → W p l e ({ frames := 58, cells := 0, slots := 0, locals := 2205 }) s m args below meth c H locs 0 0 Z (F0 m 107 ls [.int s0])) := by
    intro n
    induction n with
    | zero => exact fun _ _ _ _ _ _ _ _ h => h.elim
    | succ n ih =>
      intro x6 x7 x8 s0 k H locs ls h hd hl
      replace h : ((¬ (k.1 24) = 0 → ((¬ x6 = 0 → ((¬ x6 = (1 : Int32) → Qp s0 k) ∧ (x6 = (1 : Int32) → Qp x8 k))) ∧ (x6 = 0 → Qp x7 k))) ∧ ((k.1 24) = 0 → (((k.1 19) = 0 → ((¬ x6 = 0 → ((¬ x6 = (1 : Int32) → Qp s0 k) ∧ (x6 = (1 : Int32) → Qp x8 k))) ∧ (x6 = 0 → Qp x7 k))) ∧ (¬ (k.1 19) = 0 → (wM_fail k (fun k_15 => ((¬ x6 = 0 → ((¬ x6 = (1 : Int32) → Qp s0 k_15) ∧ (x6 = (1 : Int32) → Qp x8 k_15))) ∧ (x6 = 0 → Qp x7 k_15)))))))) := h
      refine lv_istore (lv' := [(9, .int s0), (0, .ref o), (6, .int x6), (7, .int x7), (8, .int x8)]) hx hb dX10_read_107 hl (by decide) rfl (fun ls hl => ?_)
      refine lv_aload_n hx hb dX10_read_109 rfl (lv_at hl 1 rfl) ?_
      refine gM_24 C hd (v := k.1 24) rfl dX10_read_110 ?_
      refine lv_if_ne (tgt := 127) hx hb dX10_read_113 (by decide) (fun c_9 => ?_) (fun c_9 => ?_)
      · replace h := h.1 c_9
        refine lv_iload hx hb dX10_read_127 (lv_at hl 2 rfl) ?_
        refine lv_if_ne (tgt := 137) hx hb dX10_read_129 (by decide) (fun c_10 => ?_) (fun c_10 => ?_)
        · replace h := h.1 c_10
          refine lv_iload hx hb dX10_read_137 (lv_at hl 2 rfl) ?_
          refine lv_iconst (v := 1) hx hb dX10_read_139 (by decide) ?_
          refine lv_icmp_ne (tgt := 148) hx hb dX10_read_140 (by decide) (fun c_11 => ?_) (fun c_11 => ?_)
          · replace h := h.1 c_11
            refine lv_iload hx hb dX10_read_148 (lv_at hl 0 rfl) ?_
            exact ret hd h dX10_read_150
          · replace h := h.2 c_11
            refine lv_iload hx hb dX10_read_143 (lv_at hl 4 rfl) ?_
            refine lv_goto (tgt := 150) hx hb dX10_read_145 (by decide) ?_
            exact ret hd h dX10_read_150
        · replace h := h.2 c_10
          refine lv_iload hx hb dX10_read_132 (lv_at hl 3 rfl) ?_
          refine lv_goto (tgt := 150) hx hb dX10_read_134 (by decide) ?_
          exact ret hd h dX10_read_150
      · replace h := h.2 c_9
        refine lv_aload_n hx hb dX10_read_116 rfl (lv_at hl 1 rfl) ?_
        refine gM_19 C hd (v := k.1 19) rfl dX10_read_117 ?_
        refine lv_if_eq (tgt := 127) hx hb dX10_read_120 (by decide) (fun c_12 => ?_) (fun c_12 => ?_)
        · replace h := h.1 c_12
          refine lv_iload hx hb dX10_read_127 (lv_at hl 2 rfl) ?_
          refine lv_if_ne (tgt := 137) hx hb dX10_read_129 (by decide) (fun c_13 => ?_) (fun c_13 => ?_)
          · replace h := h.1 c_13
            refine lv_iload hx hb dX10_read_137 (lv_at hl 2 rfl) ?_
            refine lv_iconst (v := 1) hx hb dX10_read_139 (by decide) ?_
            refine lv_icmp_ne (tgt := 148) hx hb dX10_read_140 (by decide) (fun c_14 => ?_) (fun c_14 => ?_)
            · replace h := h.1 c_14
              refine lv_iload hx hb dX10_read_148 (lv_at hl 0 rfl) ?_
              exact ret hd h dX10_read_150
            · replace h := h.2 c_14
              refine lv_iload hx hb dX10_read_143 (lv_at hl 4 rfl) ?_
              refine lv_goto (tgt := 150) hx hb dX10_read_145 (by decide) ?_
              exact ret hd h dX10_read_150
          · replace h := h.2 c_13
            refine lv_iload hx hb dX10_read_132 (lv_at hl 3 rfl) ?_
            refine lv_goto (tgt := 150) hx hb dX10_read_134 (by decide) ?_
            exact ret hd h dX10_read_150
        · replace h := h.2 c_12
          refine lv_aload_n hx hb dX10_read_123 rfl (lv_at hl 1 rfl) ?_
          refine xv_v C hd kwRX10_X10_fail (cM_fail h) ⟨rfl, rfl⟩ ⟨by decide, by decide⟩ wM_rcv hl.1 rfl rfl (Nat.le_of_ble_eq_true rfl) ⟨Nat.zero_le _, Nat.zero_le _⟩ dX10_read_124 (fun k_15 H locs h hd => ?_)
          refine lv_iload hx hb dX10_read_127 (lv_at hl 2 rfl) ?_
          refine lv_if_ne (tgt := 137) hx hb dX10_read_129 (by decide) (fun c_16 => ?_) (fun c_16 => ?_)
          · replace h := h.1 c_16
            refine lv_iload hx hb dX10_read_137 (lv_at hl 2 rfl) ?_
            refine lv_iconst (v := 1) hx hb dX10_read_139 (by decide) ?_
            refine lv_icmp_ne (tgt := 148) hx hb dX10_read_140 (by decide) (fun c_17 => ?_) (fun c_17 => ?_)
            · replace h := h.1 c_17
              refine lv_iload hx hb dX10_read_148 (lv_at hl 0 rfl) ?_
              exact ret hd h dX10_read_150
            · replace h := h.2 c_17
              refine lv_iload hx hb dX10_read_143 (lv_at hl 4 rfl) ?_
              refine lv_goto (tgt := 150) hx hb dX10_read_145 (by decide) ?_
              exact ret hd h dX10_read_150
          · replace h := h.2 c_16
            refine lv_iload hx hb dX10_read_132 (lv_at hl 3 rfl) ?_
            refine lv_goto (tgt := 150) hx hb dX10_read_134 (by decide) ?_
            exact ret hd h dX10_read_150
  cases n with
  | zero => exact h.elim
  | succ n =>
    replace h : (vp_in x1 6 ∧ (∃ n_1 : Nat, wM_next n_1 0 0 (sI (sI (sI (sI (sI (sI (sI (sI (sI k 26 x2) 27 x3) 28 x4) 29 x5) 17 ((160 : Int32) * x1)) 18 (k.2.1 2 x1.toNatClampNeg)) 22 (0 : Int32)) 23 (0 : Int32)) 24 (0 : Int32)) (fun k_1 => (∃ n_2 : Nat, wM_part n_2 0 (138767 : Int64) 0 k_1 (fun r_2 k_2 => (((k_2.1 24) = 0 → (∃ n_4 : Nat, wM_part n_4 0 (118940 : Int64) 0 k_2 (fun r_4 k_4 => (((k_4.1 24) = 0 → (∃ n_6 : Nat, wM_part n_6 0 (92275 : Int64) 0 k_4 (fun r_6 k_6 => wM_read n 1 0 0 0 0 0 x6 r_2 r_4 r_6 k_6 Qp))) ∧ (¬ (k_4.1 24) = 0 → wM_read n 1 0 0 0 0 0 x6 r_2 r_4 (0 : Int32) k_4 Qp))))) ∧ (¬ (k_2.1 24) = 0 → (((k_2.1 24) = 0 → (∃ n_8 : Nat, wM_part n_8 0 (92275 : Int64) 0 k_2 (fun r_8 k_8 => wM_read n 1 0 0 0 0 0 x6 r_2 (0 : Int32) r_8 k_8 Qp))) ∧ (¬ (k_2.1 24) = 0 → wM_read n 1 0 0 0 0 0 x6 r_2 (0 : Int32) (0 : Int32) k_2 Qp))))))))) := h
    refine lv_aload_n hx hb dX10_read_0 rfl (lv_at hl 0 rfl) ?_
    refine lv_iload_n hx hb dX10_read_1 rfl (lv_at hl 2 rfl) ?_
    refine pM_26 C hd dX10_read_2 (fun H locs hd => ?_)
    refine lv_aload_n hx hb dX10_read_5 rfl (lv_at hl 0 rfl) ?_
    refine lv_iload_n hx hb dX10_read_6 rfl (lv_at hl 3 rfl) ?_
    refine pM_27 C hd dX10_read_7 (fun H locs hd => ?_)
    refine lv_aload_n hx hb dX10_read_10 rfl (lv_at hl 0 rfl) ?_
    refine lv_iload hx hb dX10_read_11 (lv_at hl 4 rfl) ?_
    refine pM_28 C hd dX10_read_13 (fun H locs hd => ?_)
    refine lv_aload_n hx hb dX10_read_16 rfl (lv_at hl 0 rfl) ?_
    refine lv_iload hx hb dX10_read_17 (lv_at hl 5 rfl) ?_
    refine pM_29 C hd dX10_read_19 (fun H locs hd => ?_)
    refine lv_aload_n hx hb dX10_read_22 rfl (lv_at hl 0 rfl) ?_
    refine lv_sipush (v := 160) hx hb dX10_read_23 (by decide) ?_
    refine lv_iload_n hx hb dX10_read_26 rfl (lv_at hl 1 rfl) ?_
    refine lv_imul hx hb dX10_read_27 ?_
    refine pM_17 C hd dX10_read_28 (fun H locs hd => ?_)
    refine lv_aload_n hx hb dX10_read_31 rfl (lv_at hl 0 rfl) ?_
    refine lv_aload_n hx hb dX10_read_32 rfl (lv_at hl 0 rfl) ?_
    refine gM_2 C hd dX10_read_33 ?_
    refine lv_iload_n hx hb dX10_read_36 rfl (lv_at hl 1 rfl) ?_
    refine ldM_2 C hd (v := k.2.1 2 x1.toNatClampNeg) h.1 rfl dX10_read_37 ?_
    replace h := h.2
    refine pM_18 C hd dX10_read_38 (fun H locs hd => ?_)
    refine lv_aload_n hx hb dX10_read_41 rfl (lv_at hl 0 rfl) ?_
    refine lv_iconst (v := 0) hx hb dX10_read_42 (by decide) ?_
    refine pM_22 C hd dX10_read_43 (fun H locs hd => ?_)
    refine lv_aload_n hx hb dX10_read_46 rfl (lv_at hl 0 rfl) ?_
    refine lv_iconst (v := 0) hx hb dX10_read_47 (by decide) ?_
    refine pM_23 C hd dX10_read_48 (fun H locs hd => ?_)
    refine lv_aload_n hx hb dX10_read_51 rfl (lv_at hl 0 rfl) ?_
    refine lv_iconst (v := 0) hx hb dX10_read_52 (by decide) ?_
    refine pM_24 C hd (by decide) (by decide) dX10_read_53 (fun H locs hd => ?_)
    refine lv_aload_n hx hb dX10_read_56 rfl (lv_at hl 0 rfl) ?_
    obtain ⟨n_1, h⟩ := h
    refine xv_v C hd kwRX10_X10_next (cM_next n_1 h) ⟨rfl, rfl⟩ ⟨by decide, by decide⟩ wM_rcv hl.1 rfl rfl (Nat.le_of_ble_eq_true rfl) ⟨Nat.zero_le _, Nat.zero_le _⟩ dX10_read_57 (fun k_1 H locs h hd => ?_)
    refine lv_aload_n hx hb dX10_read_60 rfl (lv_at hl 0 rfl) ?_
    refine lv_ldc2 (v := (138767 : Int64)) hx hb C.2.2.2.1 (C.2.2.2.2.1 _ q_1137) dX10_read_61 ?_
    obtain ⟨n_2, h⟩ := h
    refine xv_i C hd kwRX10_X10_part (cM_part n_2 _ h) ⟨rfl, rfl⟩ ⟨by decide, by decide⟩ wM_rcv hl.1 rfl rfl (Nat.le_of_ble_eq_true rfl) ⟨Nat.zero_le _, Nat.zero_le _⟩ dX10_read_64 (fun r_2 k_2 H locs h hd => ?_)
    refine lv_istore (lv' := [(7, .int r_2), (0, .ref o), (1, .int x1), (2, .int x2), (3, .int x3), (4, .int x4), (5, .int x5), (6, .int x6)]) hx hb dX10_read_67 hl (by decide) rfl (fun ls hl => ?_)
    refine lv_aload_n hx hb dX10_read_69 rfl (lv_at hl 1 rfl) ?_
    refine gM_24 C hd (v := k_2.1 24) rfl dX10_read_70 ?_
    refine lv_if_eq (tgt := 80) hx hb dX10_read_73 (by decide) (fun c_3 => ?_) (fun c_3 => ?_)
    · replace h := h.1 c_3
      refine lv_aload_n hx hb dX10_read_80 rfl (lv_at hl 1 rfl) ?_
      refine lv_ldc2 (v := (118940 : Int64)) hx hb C.2.2.2.1 (C.2.2.2.2.1 _ q_1197) dX10_read_81 ?_
      obtain ⟨n_4, h⟩ := h
      refine xv_i C hd kwRX10_X10_part (cM_part n_4 _ h) ⟨rfl, rfl⟩ ⟨by decide, by decide⟩ wM_rcv hl.1 rfl rfl (Nat.le_of_ble_eq_true rfl) ⟨Nat.zero_le _, Nat.zero_le _⟩ dX10_read_84 (fun r_4 k_4 H locs h hd => ?_)
      refine lv_istore (lv' := [(8, .int r_4), (7, .int r_2), (0, .ref o), (1, .int x1), (2, .int x2), (3, .int x3), (4, .int x4), (5, .int x5), (6, .int x6)]) hx hb dX10_read_87 hl (by decide) rfl (fun ls hl => ?_)
      refine lv_aload_n hx hb dX10_read_89 rfl (lv_at hl 2 rfl) ?_
      refine gM_24 C hd (v := k_4.1 24) rfl dX10_read_90 ?_
      refine lv_if_eq (tgt := 100) hx hb dX10_read_93 (by decide) (fun c_5 => ?_) (fun c_5 => ?_)
      · replace h := h.1 c_5
        refine lv_aload_n hx hb dX10_read_100 rfl (lv_at hl 2 rfl) ?_
        refine lv_ldc2 (v := (92275 : Int64)) hx hb C.2.2.2.1 (C.2.2.2.2.1 _ q_1198) dX10_read_101 ?_
        obtain ⟨n_6, h⟩ := h
        refine xv_i C hd kwRX10_X10_part (cM_part n_6 _ h) ⟨rfl, rfl⟩ ⟨by decide, by decide⟩ wM_rcv hl.1 rfl rfl (Nat.le_of_ble_eq_true rfl) ⟨Nat.zero_le _, Nat.zero_le _⟩ dX10_read_104 (fun r_6 k_6 H locs h hd => ?_)
        exact L n x6 r_2 r_4 r_6 _ _ _ _ h hd (lv_sub hl [2, 8, 1, 0] rfl)
      · replace h := h.2 c_5
        refine lv_iconst (v := 0) hx hb dX10_read_96 (by decide) ?_
        refine lv_goto (tgt := 107) hx hb dX10_read_97 (by decide) ?_
        exact L n x6 r_2 r_4 (0 : Int32) _ _ _ _ h hd (lv_sub hl [2, 8, 1, 0] rfl)
    · replace h := h.2 c_3
      refine lv_iconst (v := 0) hx hb dX10_read_76 (by decide) ?_
      refine lv_goto (tgt := 87) hx hb dX10_read_77 (by decide) ?_
      refine lv_istore (lv' := [(8, .int (0 : Int32)), (7, .int r_2), (0, .ref o), (1, .int x1), (2, .int x2), (3, .int x3), (4, .int x4), (5, .int x5), (6, .int x6)]) hx hb dX10_read_87 hl (by decide) rfl (fun ls hl => ?_)
      refine lv_aload_n hx hb dX10_read_89 rfl (lv_at hl 2 rfl) ?_
      refine gM_24 C hd (v := k_2.1 24) rfl dX10_read_90 ?_
      refine lv_if_eq (tgt := 100) hx hb dX10_read_93 (by decide) (fun c_7 => ?_) (fun c_7 => ?_)
      · replace h := h.1 c_7
        refine lv_aload_n hx hb dX10_read_100 rfl (lv_at hl 2 rfl) ?_
        refine lv_ldc2 (v := (92275 : Int64)) hx hb C.2.2.2.1 (C.2.2.2.2.1 _ q_1198) dX10_read_101 ?_
        obtain ⟨n_8, h⟩ := h
        refine xv_i C hd kwRX10_X10_part (cM_part n_8 _ h) ⟨rfl, rfl⟩ ⟨by decide, by decide⟩ wM_rcv hl.1 rfl rfl (Nat.le_of_ble_eq_true rfl) ⟨Nat.zero_le _, Nat.zero_le _⟩ dX10_read_104 (fun r_8 k_8 H locs h hd => ?_)
        exact L n x6 r_2 (0 : Int32) r_8 _ _ _ _ h hd (lv_sub hl [2, 8, 1, 0] rfl)
      · replace h := h.2 c_7
        refine lv_iconst (v := 0) hx hb dX10_read_96 (by decide) ?_
        refine lv_goto (tgt := 107) hx hb dX10_read_97 (by decide) ?_
        exact L n x6 r_2 (0 : Int32) (0 : Int32) _ _ _ _ h hd (lv_sub hl [2, 8, 1, 0] rfl)
def wM_sumOf  : Nat → Nat → Int32 → Int32 → Int32 → Int32 → GM → (Int32 → GM → Prop) → Prop
  | 0, _, _, _, _, _, _, _ => False
  | n + 1, c, x1, x2, x3, x4, k, Q => match c with
    | 0 => wM_sumOf n 1 x1 (0 : Int32) (0 : Int32) 0 k Q
    | 1 => (((k.1 10) ≤ x3 → Q x2 k) ∧ (¬ (k.1 10) ≤ x3 → ((¬ ((x1 >>> (x3 &&& 31)) &&& (1 : Int32)) = (1 : Int32) → wM_sumOf n 2 x1 x2 x3 (0 : Int32) k Q) ∧ (((x1 >>> (x3 &&& 31)) &&& (1 : Int32)) = (1 : Int32) → (vp_in x3 8 ∧ wM_sumOf n 1 x1 (x2 + (k.2.1 8 x3.toNatClampNeg)) (x3 + (1 : Int32)) 0 k Q)))))
    | _ => (((k.1 10) ≤ x4 → wM_sumOf n 1 x1 x2 (x3 + (1 : Int32)) 0 k Q) ∧ (¬ (k.1 10) ≤ x4 → ((¬ ((x1 >>> (x4 &&& 31)) &&& (1 : Int32)) = (1 : Int32) → wM_sumOf n 2 x1 (x2 + (0 : Int32)) x3 (x4 + (1 : Int32)) k Q) ∧ (((x1 >>> (x4 &&& 31)) &&& (1 : Int32)) = (1 : Int32) → (vp_in x3 8 ∧ (vp_in (((8 : Int32) * x3) + x4) 64 ∧ (∀ v_5 : Int32, v_5 = (x2 + (((k.2.1 8 x3.toNatClampNeg) * (k.2.1 13 (((8 : Int32) * x3) + x4).toNatClampNeg)) / (100 : Int32))) → wM_sumOf n 2 x1 v_5 x3 (x4 + (1 : Int32)) k Q)))))))
set_option maxHeartbeats 4000000 in
set_option maxRecDepth 100000 in
theorem cM_sumOf {l : Launch} {D : va_G} {o : Nat} {a : Nat → Nat} {g : Nat → ClassId} {k : GM} {Qp : Int32 → GM → Prop} (n : Nat) (x1 : Int32) (h : wM_sumOf n 0 x1 0 0 0 k Qp) : Ci l D (tyA g) (wM o a g) yX10_sumOf cX10_sumOf 5 ({ frames := 0, cells := 0, slots := 0, locals := 0 }) [.ref o, .int x1] k Qp := by
  refine Ci_of (by decide) (Nat.le_of_ble_eq_true rfl) ?_
  intro p e s m args below meth c A Z ls C ret hd hl
  have hx := C.1
  have hb := C.2.1
  have hl : lv_has ls 5 [(0, .ref o), (1, .int x1)] := hl
  have L : ∀ n : Nat, (∀ (x1 : Int32) (x2 : Int32) (x3 : Int32) (k : GM) (H : Heap) (locs : List Loc) (ls : Array Slot), wM_sumOf n 1 x1 x2 x3 0 k Qp → Hd D (wM o a g k) A s H locs → lv_has ls 5 [(0, .ref o), (1, .int x1), (2, .int x2), (3, .int x3)] → W p l e ({ frames := 0, cells := 0, slots := 0, locals := 0 }) s m args below meth c H locs 0 0 Z (F0 m 4 ls [])) ∧ (∀ (x1 : Int32) (x2 : Int32) (x3 : Int32) (x4 : Int32) (k : GM) (H : Heap) (locs : List Loc) (ls : Array Slot), wM_sumOf n 2 x1 x2 x3 x4 k Qp → Hd D (wM o a g k) A s H locs → lv_has ls 5 [(0, .ref o), (1, .int x1), (2, .int x2), (3, .int x3), (4, .int x4)] → W p l e ({ frames := 0, cells := 0, slots := 0, locals := 0 }) s m args below meth c H locs 0 0 Z (F0 m 36 ls [])) := by
    intro n
    induction n with
    | zero => exact ⟨fun _ _ _ _ _ _ _ h => h.elim, fun _ _ _ _ _ _ _ _ h => h.elim⟩
    | succ n ih =>
      refine ⟨?_, ?_⟩
      · intro x1 x2 x3 k H locs ls h hd hl
        replace h : (((k.1 10) ≤ x3 → Qp x2 k) ∧ (¬ (k.1 10) ≤ x3 → ((¬ ((x1 >>> (x3 &&& 31)) &&& (1 : Int32)) = (1 : Int32) → wM_sumOf n 2 x1 x2 x3 (0 : Int32) k Qp) ∧ (((x1 >>> (x3 &&& 31)) &&& (1 : Int32)) = (1 : Int32) → (vp_in x3 8 ∧ wM_sumOf n 1 x1 (x2 + (k.2.1 8 x3.toNatClampNeg)) (x3 + (1 : Int32)) 0 k Qp))))) := h
        refine lv_iload_n hx hb dX10_sumOf_4 rfl (lv_at hl 3 rfl) ?_
        refine lv_aload_n hx hb dX10_sumOf_5 rfl (lv_at hl 0 rfl) ?_
        refine gM_10 C hd (v := k.1 10) rfl dX10_sumOf_6 ?_
        refine lv_icmp_ge (tgt := 96) hx hb dX10_sumOf_9 (by decide) (fun c_1 => ?_) (fun c_1 => ?_)
        · replace h := h.1 c_1
          refine lv_iload_n hx hb dX10_sumOf_96 rfl (lv_at hl 2 rfl) ?_
          exact ret hd h dX10_sumOf_97
        · replace h := h.2 c_1
          refine lv_iload_n hx hb dX10_sumOf_12 rfl (lv_at hl 1 rfl) ?_
          refine lv_iload_n hx hb dX10_sumOf_13 rfl (lv_at hl 3 rfl) ?_
          refine lv_ishr hx hb dX10_sumOf_14 ?_
          refine lv_iconst (v := 1) hx hb dX10_sumOf_15 (by decide) ?_
          refine lv_iand hx hb dX10_sumOf_16 ?_
          refine lv_iconst (v := 1) hx hb dX10_sumOf_17 (by decide) ?_
          refine lv_icmp_ne (tgt := 33) hx hb dX10_sumOf_18 (by decide) (fun c_2 => ?_) (fun c_2 => ?_)
          · replace h := h.1 c_2
            refine lv_iconst (v := 0) hx hb dX10_sumOf_33 (by decide) ?_
            refine lv_istore (lv' := [(4, .int (0 : Int32)), (0, .ref o), (1, .int x1), (2, .int x2), (3, .int x3)]) hx hb dX10_sumOf_34 hl (by decide) rfl (fun ls hl => ?_)
            exact (ih).2 x1 x2 x3 (0 : Int32) _ _ _ _ h hd (lv_sub hl [1, 2, 3, 4, 0] rfl)
          · replace h := h.2 c_2
            refine lv_iload_n hx hb dX10_sumOf_21 rfl (lv_at hl 2 rfl) ?_
            refine lv_aload_n hx hb dX10_sumOf_22 rfl (lv_at hl 0 rfl) ?_
            refine gM_8 C hd dX10_sumOf_23 ?_
            refine lv_iload_n hx hb dX10_sumOf_26 rfl (lv_at hl 3 rfl) ?_
            refine ldM_8 C hd (v := k.2.1 8 x3.toNatClampNeg) h.1 rfl dX10_sumOf_27 ?_
            replace h := h.2
            refine lv_iadd hx hb dX10_sumOf_28 ?_
            refine lv_istore_n (lv' := [(2, .int (x2 + (k.2.1 8 x3.toNatClampNeg))), (0, .ref o), (1, .int x1), (3, .int x3)]) hx hb dX10_sumOf_29 rfl hl (by decide) rfl (fun ls hl => ?_)
            refine lv_goto (tgt := 90) hx hb dX10_sumOf_30 (by decide) ?_
            refine lv_iinc (v := (x3 + (1 : Int32))) (lv' := [(3, .int (x3 + (1 : Int32))), (2, .int (x2 + (k.2.1 8 x3.toNatClampNeg))), (0, .ref o), (1, .int x1)]) hx hb dX10_sumOf_90 hl (k := 3) rfl rfl (by decide) rfl (fun ls hl => ?_)
            refine lv_goto (tgt := 4) hx hb dX10_sumOf_93 (by decide) ?_
            exact (ih).1 x1 (x2 + (k.2.1 8 x3.toNatClampNeg)) (x3 + (1 : Int32)) _ _ _ _ h hd (lv_sub hl [2, 3, 1, 0] rfl)
      · intro x1 x2 x3 x4 k H locs ls h hd hl
        replace h : (((k.1 10) ≤ x4 → wM_sumOf n 1 x1 x2 (x3 + (1 : Int32)) 0 k Qp) ∧ (¬ (k.1 10) ≤ x4 → ((¬ ((x1 >>> (x4 &&& 31)) &&& (1 : Int32)) = (1 : Int32) → wM_sumOf n 2 x1 (x2 + (0 : Int32)) x3 (x4 + (1 : Int32)) k Qp) ∧ (((x1 >>> (x4 &&& 31)) &&& (1 : Int32)) = (1 : Int32) → (vp_in x3 8 ∧ (vp_in (((8 : Int32) * x3) + x4) 64 ∧ (∀ v_5 : Int32, v_5 = (x2 + (((k.2.1 8 x3.toNatClampNeg) * (k.2.1 13 (((8 : Int32) * x3) + x4).toNatClampNeg)) / (100 : Int32))) → wM_sumOf n 2 x1 v_5 x3 (x4 + (1 : Int32)) k Qp))))))) := h
        refine lv_iload hx hb dX10_sumOf_36 (lv_at hl 4 rfl) ?_
        refine lv_aload_n hx hb dX10_sumOf_38 rfl (lv_at hl 0 rfl) ?_
        refine gM_10 C hd (v := k.1 10) rfl dX10_sumOf_39 ?_
        refine lv_icmp_ge (tgt := 90) hx hb dX10_sumOf_42 (by decide) (fun c_3 => ?_) (fun c_3 => ?_)
        · replace h := h.1 c_3
          refine lv_iinc (v := (x3 + (1 : Int32))) (lv' := [(3, .int (x3 + (1 : Int32))), (0, .ref o), (1, .int x1), (2, .int x2), (4, .int x4)]) hx hb dX10_sumOf_90 hl (k := 3) rfl rfl (by decide) rfl (fun ls hl => ?_)
          refine lv_goto (tgt := 4) hx hb dX10_sumOf_93 (by decide) ?_
          exact (ih).1 x1 x2 (x3 + (1 : Int32)) _ _ _ _ h hd (lv_sub hl [1, 2, 3, 0] rfl)
        · replace h := h.2 c_3
          refine lv_iload_n hx hb dX10_sumOf_45 rfl (lv_at hl 2 rfl) ?_
          refine lv_iload_n hx hb dX10_sumOf_46 rfl (lv_at hl 1 rfl) ?_
          refine lv_iload hx hb dX10_sumOf_47 (lv_at hl 4 rfl) ?_
          refine lv_ishr hx hb dX10_sumOf_49 ?_
          refine lv_iconst (v := 1) hx hb dX10_sumOf_50 (by decide) ?_
          refine lv_iand hx hb dX10_sumOf_51 ?_
          refine lv_iconst (v := 1) hx hb dX10_sumOf_52 (by decide) ?_
          refine lv_icmp_ne (tgt := 81) hx hb dX10_sumOf_53 (by decide) (fun c_4 => ?_) (fun c_4 => ?_)
          · replace h := h.1 c_4
            refine lv_iconst (v := 0) hx hb dX10_sumOf_81 (by decide) ?_
            refine lv_iadd hx hb dX10_sumOf_82 ?_
            refine lv_istore_n (lv' := [(2, .int (x2 + (0 : Int32))), (0, .ref o), (1, .int x1), (3, .int x3), (4, .int x4)]) hx hb dX10_sumOf_83 rfl hl (by decide) rfl (fun ls hl => ?_)
            refine lv_iinc (v := (x4 + (1 : Int32))) (lv' := [(4, .int (x4 + (1 : Int32))), (2, .int (x2 + (0 : Int32))), (0, .ref o), (1, .int x1), (3, .int x3)]) hx hb dX10_sumOf_84 hl (k := 4) rfl rfl (by decide) rfl (fun ls hl => ?_)
            refine lv_goto (tgt := 36) hx hb dX10_sumOf_87 (by decide) ?_
            exact (ih).2 x1 (x2 + (0 : Int32)) x3 (x4 + (1 : Int32)) _ _ _ _ h hd (lv_sub hl [2, 3, 1, 4, 0] rfl)
          · replace h := h.2 c_4
            refine lv_aload_n hx hb dX10_sumOf_56 rfl (lv_at hl 0 rfl) ?_
            refine gM_8 C hd dX10_sumOf_57 ?_
            refine lv_iload_n hx hb dX10_sumOf_60 rfl (lv_at hl 3 rfl) ?_
            refine ldM_8 C hd (v := k.2.1 8 x3.toNatClampNeg) h.1 rfl dX10_sumOf_61 ?_
            replace h := h.2
            refine lv_aload_n hx hb dX10_sumOf_62 rfl (lv_at hl 0 rfl) ?_
            refine gM_13 C hd dX10_sumOf_63 ?_
            refine lv_bipush (v := 8) hx hb dX10_sumOf_66 (by decide) ?_
            refine lv_iload_n hx hb dX10_sumOf_68 rfl (lv_at hl 3 rfl) ?_
            refine lv_imul hx hb dX10_sumOf_69 ?_
            refine lv_iload hx hb dX10_sumOf_70 (lv_at hl 4 rfl) ?_
            refine lv_iadd hx hb dX10_sumOf_72 ?_
            refine ldM_13 C hd (v := k.2.1 13 (((8 : Int32) * x3) + x4).toNatClampNeg) h.1 rfl dX10_sumOf_73 ?_
            replace h := h.2
            refine lv_imul hx hb dX10_sumOf_74 ?_
            refine lv_bipush (v := 100) hx hb dX10_sumOf_75 (by decide) ?_
            refine lv_idiv hx hb dX10_sumOf_77 (by decide) ?_
            refine lv_goto (tgt := 82) hx hb dX10_sumOf_78 (by decide) ?_
            refine lv_iadd hx hb dX10_sumOf_82 ?_
            refine lv_topi (fun v_5 e_5 => ?_)
            replace h := h v_5 e_5
            refine lv_istore_n (lv' := [(2, .int v_5), (0, .ref o), (1, .int x1), (3, .int x3), (4, .int x4)]) hx hb dX10_sumOf_83 rfl hl (by decide) rfl (fun ls hl => ?_)
            refine lv_iinc (v := (x4 + (1 : Int32))) (lv' := [(4, .int (x4 + (1 : Int32))), (2, .int v_5), (0, .ref o), (1, .int x1), (3, .int x3)]) hx hb dX10_sumOf_84 hl (k := 4) rfl rfl (by decide) rfl (fun ls hl => ?_)
            refine lv_goto (tgt := 36) hx hb dX10_sumOf_87 (by decide) ?_
            exact (ih).2 x1 v_5 x3 (x4 + (1 : Int32)) _ _ _ _ h hd (lv_sub hl [2, 3, 1, 4, 0] rfl)
  cases n with
  | zero => exact h.elim
  | succ n =>
    replace h : wM_sumOf n 1 x1 (0 : Int32) (0 : Int32) 0 k Qp := h
    refine lv_iconst (v := 0) hx hb dX10_sumOf_0 (by decide) ?_
    refine lv_istore_n (lv' := [(2, .int (0 : Int32)), (0, .ref o), (1, .int x1)]) hx hb dX10_sumOf_1 rfl hl (by decide) rfl (fun ls hl => ?_)
    refine lv_iconst (v := 0) hx hb dX10_sumOf_2 (by decide) ?_
    refine lv_istore_n (lv' := [(3, .int (0 : Int32)), (2, .int (0 : Int32)), (0, .ref o), (1, .int x1)]) hx hb dX10_sumOf_3 rfl hl (by decide) rfl (fun ls hl => ?_)
    exact (L n).1 x1 (0 : Int32) (0 : Int32) _ _ _ _ h hd (lv_sub hl [2, 3, 1, 0] rfl)
def wM_within (x0 : Int32) (x1 : Int32) (x2 : Int32) (k : GM) (Q : Int32 → GM → Prop) : Prop := ((x1 ≤ x0 → ((x0 ≤ x2 → Q x0 k) ∧ (¬ x0 ≤ x2 → Q x2 k))) ∧ (¬ x1 ≤ x0 → Q x1 k))
set_option maxHeartbeats 4000000 in
set_option maxRecDepth 100000 in
theorem cM_within {l : Launch} {D : va_G} {o : Nat} {a : Nat → Nat} {g : Nat → ClassId} {k : GM} {Qp : Int32 → GM → Prop} (x0 : Int32) (x1 : Int32) (x2 : Int32) (h : wM_within x0 x1 x2 k Qp) : Ci l D (tyA g) (wM o a g) yX10_within cX10_within 3 ({ frames := 0, cells := 0, slots := 0, locals := 0 }) [.int x0, .int x1, .int x2] k Qp := by
  refine Ci_of (by decide) (Nat.le_of_ble_eq_true rfl) ?_
  intro p e s m args below meth c A Z ls C ret hd hl
  have hx := C.1
  have hb := C.2.1
  have hl : lv_has ls 3 [(0, .int x0), (1, .int x1), (2, .int x2)] := hl
  replace h : ((x1 ≤ x0 → ((x0 ≤ x2 → Qp x0 k) ∧ (¬ x0 ≤ x2 → Qp x2 k))) ∧ (¬ x1 ≤ x0 → Qp x1 k)) := h
  refine lv_iload_n hx hb dX10_within_0 rfl (lv_at hl 0 rfl) ?_
  refine lv_iload_n hx hb dX10_within_1 rfl (lv_at hl 1 rfl) ?_
  refine lv_icmp_ge (tgt := 9) hx hb dX10_within_2 (by decide) (fun c_1 => ?_) (fun c_1 => ?_)
  · replace h := h.1 c_1
    refine lv_iload_n hx hb dX10_within_9 rfl (lv_at hl 0 rfl) ?_
    refine lv_iload_n hx hb dX10_within_10 rfl (lv_at hl 2 rfl) ?_
    refine lv_icmp_le (tgt := 18) hx hb dX10_within_11 (by decide) (fun c_2 => ?_) (fun c_2 => ?_)
    · replace h := h.1 c_2
      refine lv_iload_n hx hb dX10_within_18 rfl (lv_at hl 0 rfl) ?_
      exact ret hd h dX10_within_19
    · replace h := h.2 c_2
      refine lv_iload_n hx hb dX10_within_14 rfl (lv_at hl 2 rfl) ?_
      refine lv_goto (tgt := 19) hx hb dX10_within_15 (by decide) ?_
      exact ret hd h dX10_within_19
  · replace h := h.2 c_1
    refine lv_iload_n hx hb dX10_within_5 rfl (lv_at hl 1 rfl) ?_
    refine lv_goto (tgt := 19) hx hb dX10_within_6 (by decide) ?_
    exact ret hd h dX10_within_19
def wM_dropsOf (x1 : Int32) (k : GM) (Q : Int32 → GM → Prop) : Prop := ((¬ x1 = 0 → (∃ n_2 : Nat, wM_leastOf n_2 0 x1 0 k (fun r_2 k_2 => (∃ n_3 : Nat, wM_sumOf n_3 0 x1 0 0 0 k_2 (fun r_3 k_3 => (∃ n_4 : Nat, wM_read n_4 0 (k.1 4) r_2 r_3 (0 : Int32) (0 : Int32) (2 : Int32) 0 0 0 k_3 (fun r_4 k_4 => (wM_within (r_4 / (10 : Int32)) (0 : Int32) (99 : Int32) k_4 (fun r_5 k_5 => Q r_5 k_5))))))))) ∧ (x1 = 0 → Q (0 : Int32) k))
set_option maxHeartbeats 4000000 in
set_option maxRecDepth 100000 in
theorem cM_dropsOf {l : Launch} {D : va_G} {o : Nat} {a : Nat → Nat} {g : Nat → ClassId} {k : GM} {Qp : Int32 → GM → Prop} (x1 : Int32) (h : wM_dropsOf x1 k Qp) : Ci l D (tyA g) (wM o a g) yX10_dropsOf cX10_dropsOf 2 ({ frames := 59, cells := 0, slots := 0, locals := 2234 }) [.ref o, .int x1] k Qp := by
  refine Ci_of (by decide) (Nat.le_of_ble_eq_true rfl) ?_
  intro p e s m args below meth c A Z ls C ret hd hl
  have hx := C.1
  have hb := C.2.1
  have hl : lv_has ls 2 [(0, .ref o), (1, .int x1)] := hl
  replace h : ((¬ x1 = 0 → (∃ n_2 : Nat, wM_leastOf n_2 0 x1 0 k (fun r_2 k_2 => (∃ n_3 : Nat, wM_sumOf n_3 0 x1 0 0 0 k_2 (fun r_3 k_3 => (∃ n_4 : Nat, wM_read n_4 0 (k.1 4) r_2 r_3 (0 : Int32) (0 : Int32) (2 : Int32) 0 0 0 k_3 (fun r_4 k_4 => (wM_within (r_4 / (10 : Int32)) (0 : Int32) (99 : Int32) k_4 (fun r_5 k_5 => Qp r_5 k_5))))))))) ∧ (x1 = 0 → Qp (0 : Int32) k)) := h
  refine lv_iload_n hx hb dX10_dropsOf_0 rfl (lv_at hl 1 rfl) ?_
  refine lv_if_ne (tgt := 8) hx hb dX10_dropsOf_1 (by decide) (fun c_1 => ?_) (fun c_1 => ?_)
  · replace h := h.1 c_1
    refine lv_aload_n hx hb dX10_dropsOf_8 rfl (lv_at hl 0 rfl) ?_
    refine lv_aload_n hx hb dX10_dropsOf_9 rfl (lv_at hl 0 rfl) ?_
    refine gM_4 C hd (v := k.1 4) rfl dX10_dropsOf_10 ?_
    refine lv_aload_n hx hb dX10_dropsOf_13 rfl (lv_at hl 0 rfl) ?_
    refine lv_iload_n hx hb dX10_dropsOf_14 rfl (lv_at hl 1 rfl) ?_
    obtain ⟨n_2, h⟩ := h
    refine xv_i C hd kwRX10_X10_leastOf (cM_leastOf n_2 _ h) ⟨rfl, rfl⟩ ⟨by decide, by decide⟩ wM_rcv hl.1 rfl rfl (Nat.le_of_ble_eq_true rfl) ⟨Nat.zero_le _, Nat.zero_le _⟩ dX10_dropsOf_15 (fun r_2 k_2 H locs h hd => ?_)
    refine lv_aload_n hx hb dX10_dropsOf_18 rfl (lv_at hl 0 rfl) ?_
    refine lv_iload_n hx hb dX10_dropsOf_19 rfl (lv_at hl 1 rfl) ?_
    obtain ⟨n_3, h⟩ := h
    refine xv_i C hd kwRX10_X10_sumOf (cM_sumOf n_3 _ h) ⟨rfl, rfl⟩ ⟨by decide, by decide⟩ wM_rcv hl.1 rfl rfl (Nat.le_of_ble_eq_true rfl) ⟨Nat.zero_le _, Nat.zero_le _⟩ dX10_dropsOf_20 (fun r_3 k_3 H locs h hd => ?_)
    refine lv_iconst (v := 0) hx hb dX10_dropsOf_23 (by decide) ?_
    refine lv_iconst (v := 0) hx hb dX10_dropsOf_24 (by decide) ?_
    refine lv_iconst (v := 2) hx hb dX10_dropsOf_25 (by decide) ?_
    obtain ⟨n_4, h⟩ := h
    refine xv_i C hd kwRX10_X10_read (cM_read n_4 _ _ _ _ _ _ h) ⟨rfl, rfl⟩ ⟨by decide, by decide⟩ wM_rcv hl.1 rfl rfl (Nat.le_of_ble_eq_true rfl) ⟨Nat.zero_le _, Nat.zero_le _⟩ dX10_dropsOf_26 (fun r_4 k_4 H locs h hd => ?_)
    refine lv_bipush (v := 10) hx hb dX10_dropsOf_29 (by decide) ?_
    refine lv_idiv hx hb dX10_dropsOf_31 (by decide) ?_
    refine lv_iconst (v := 0) hx hb dX10_dropsOf_32 (by decide) ?_
    refine lv_bipush (v := 99) hx hb dX10_dropsOf_33 (by decide) ?_
    refine xs_i C hd kwRX10_X10_within (cM_within _ _ _ h) ⟨rfl, rfl⟩ ⟨by decide, by decide⟩ hl.1 rfl rfl (Nat.le_of_ble_eq_true rfl) ⟨Nat.zero_le _, Nat.zero_le _⟩ dX10_dropsOf_35 (fun r_5 k_5 H locs h hd => ?_)
    exact ret hd h dX10_dropsOf_38
  · replace h := h.2 c_1
    refine lv_iconst (v := 0) hx hb dX10_dropsOf_4 (by decide) ?_
    refine lv_goto (tgt := 38) hx hb dX10_dropsOf_5 (by decide) ?_
    exact ret hd h dX10_dropsOf_38
def wM_counts  : Nat → Nat → Int32 → Int32 → Int32 → GM → (GM → Prop) → Prop
  | 0, _, _, _, _, _, _ => False
  | n + 1, c, x1, x2, x3, k, Q => match c with
    | 0 => (vp_in x2 4 ∧ (vp_in x2 4 ∧ wM_counts n 1 x1 x2 (0 : Int32) (sA k 35 (upd (k.2.1 35) x2.toNatClampNeg ((k.2.1 35 x2.toNatClampNeg) + (1 : Int32)))) Q))
    | _ => (((k.1 10) ≤ x3 → Q k) ∧ (¬ (k.1 10) ≤ x3 → (vp_in (((4 : Int32) * x3) + x2) 32 ∧ (vp_in (((4 : Int32) * x3) + x2) 32 ∧ wM_counts n 1 x1 x2 (x3 + (1 : Int32)) (sA k 36 (upd (k.2.1 36) (((4 : Int32) * x3) + x2).toNatClampNeg ((k.2.1 36 (((4 : Int32) * x3) + x2).toNatClampNeg) + ((x1 >>> (x3 &&& 31)) &&& (1 : Int32))))) Q))))
set_option maxHeartbeats 4000000 in
set_option maxRecDepth 100000 in
theorem cM_counts {l : Launch} {D : va_G} {o : Nat} {a : Nat → Nat} {g : Nat → ClassId} {k : GM} {Qp : GM → Prop} (n : Nat) (x1 : Int32) (x2 : Int32) (h : wM_counts n 0 x1 x2 0 k Qp) : Cv l D (tyA g) (wM o a g) yX10_counts cX10_counts 4 ({ frames := 0, cells := 0, slots := 0, locals := 0 }) [.ref o, .int x1, .int x2] k Qp := by
  refine Cv_of (by decide) (Nat.le_of_ble_eq_true rfl) ?_
  intro p e s m args below meth c A Z ls C ret hd hl
  have hx := C.1
  have hb := C.2.1
  have hl : lv_has ls 4 [(0, .ref o), (1, .int x1), (2, .int x2)] := hl
  have L : ∀ n : Nat, (∀ (x1 : Int32) (x2 : Int32) (x3 : Int32) (k : GM) (H : Heap) (locs : List Loc) (ls : Array Slot), wM_counts n 1 x1 x2 x3 k Qp → Hd D (wM o a g k) A s H locs → lv_has ls 4 [(0, .ref o), (1, .int x1), (2, .int x2), (3, .int x3)] → W p l e ({ frames := 0, cells := 0, slots := 0, locals := 0 }) s m args below meth c H locs 0 0 Z (F0 m 12 ls [])) := by
    intro n
    induction n with
    | zero => exact fun _ _ _ _ _ _ _ h => h.elim
    | succ n ih =>
      intro x1 x2 x3 k H locs ls h hd hl
      replace h : (((k.1 10) ≤ x3 → Qp k) ∧ (¬ (k.1 10) ≤ x3 → (vp_in (((4 : Int32) * x3) + x2) 32 ∧ (vp_in (((4 : Int32) * x3) + x2) 32 ∧ wM_counts n 1 x1 x2 (x3 + (1 : Int32)) (sA k 36 (upd (k.2.1 36) (((4 : Int32) * x3) + x2).toNatClampNeg ((k.2.1 36 (((4 : Int32) * x3) + x2).toNatClampNeg) + ((x1 >>> (x3 &&& 31)) &&& (1 : Int32))))) Qp)))) := h
      refine lv_iload_n hx hb dX10_counts_12 rfl (lv_at hl 3 rfl) ?_
      refine lv_aload_n hx hb dX10_counts_13 rfl (lv_at hl 0 rfl) ?_
      refine gM_10 C hd (v := k.1 10) rfl dX10_counts_14 ?_
      refine lv_icmp_ge (tgt := 44) hx hb dX10_counts_17 (by decide) (fun c_1 => ?_) (fun c_1 => ?_)
      · replace h := h.1 c_1
        exact ret hd h dX10_counts_44
      · replace h := h.2 c_1
        refine lv_aload_n hx hb dX10_counts_20 rfl (lv_at hl 0 rfl) ?_
        refine gM_36 C hd dX10_counts_21 ?_
        refine lv_iconst (v := 4) hx hb dX10_counts_24 (by decide) ?_
        refine lv_iload_n hx hb dX10_counts_25 rfl (lv_at hl 3 rfl) ?_
        refine lv_imul hx hb dX10_counts_26 ?_
        refine lv_iload_n hx hb dX10_counts_27 rfl (lv_at hl 2 rfl) ?_
        refine lv_iadd hx hb dX10_counts_28 ?_
        refine lv_dup2_11 hx hb dX10_counts_29 rfl rfl ?_
        refine ldM_36 C hd (v := k.2.1 36 (((4 : Int32) * x3) + x2).toNatClampNeg) h.1 rfl dX10_counts_30 ?_
        replace h := h.2
        refine lv_iload_n hx hb dX10_counts_31 rfl (lv_at hl 1 rfl) ?_
        refine lv_iload_n hx hb dX10_counts_32 rfl (lv_at hl 3 rfl) ?_
        refine lv_ishr hx hb dX10_counts_33 ?_
        refine lv_iconst (v := 1) hx hb dX10_counts_34 (by decide) ?_
        refine lv_iand hx hb dX10_counts_35 ?_
        refine lv_iadd hx hb dX10_counts_36 ?_
        refine stM_36 C hd h.1 dX10_counts_37 (fun H locs hd => ?_)
        replace h := h.2
        refine lv_iinc (v := (x3 + (1 : Int32))) (lv' := [(3, .int (x3 + (1 : Int32))), (0, .ref o), (1, .int x1), (2, .int x2)]) hx hb dX10_counts_38 hl (k := 3) rfl rfl (by decide) rfl (fun ls hl => ?_)
        refine lv_goto (tgt := 12) hx hb dX10_counts_41 (by decide) ?_
        exact ih x1 x2 (x3 + (1 : Int32)) _ _ _ _ h hd (lv_sub hl [1, 2, 3, 0] rfl)
  cases n with
  | zero => exact h.elim
  | succ n =>
    replace h : (vp_in x2 4 ∧ (vp_in x2 4 ∧ wM_counts n 1 x1 x2 (0 : Int32) (sA k 35 (upd (k.2.1 35) x2.toNatClampNeg ((k.2.1 35 x2.toNatClampNeg) + (1 : Int32)))) Qp)) := h
    refine lv_aload_n hx hb dX10_counts_0 rfl (lv_at hl 0 rfl) ?_
    refine gM_35 C hd dX10_counts_1 ?_
    refine lv_iload_n hx hb dX10_counts_4 rfl (lv_at hl 2 rfl) ?_
    refine lv_dup2_11 hx hb dX10_counts_5 rfl rfl ?_
    refine ldM_35 C hd (v := k.2.1 35 x2.toNatClampNeg) h.1 rfl dX10_counts_6 ?_
    replace h := h.2
    refine lv_iconst (v := 1) hx hb dX10_counts_7 (by decide) ?_
    refine lv_iadd hx hb dX10_counts_8 ?_
    refine stM_35 C hd h.1 dX10_counts_9 (fun H locs hd => ?_)
    replace h := h.2
    refine lv_iconst (v := 0) hx hb dX10_counts_10 (by decide) ?_
    refine lv_istore_n (lv' := [(3, .int (0 : Int32)), (0, .ref o), (1, .int x1), (2, .int x2)]) hx hb dX10_counts_11 rfl hl (by decide) rfl (fun ls hl => ?_)
    exact L n x1 x2 (0 : Int32) _ _ _ _ h hd (lv_sub hl [1, 2, 3, 0] rfl)
def wM_fadesOf (x1 : Int32) (k : GM) (Q : Int32 → GM → Prop) : Prop := (∃ n_1 : Nat, wM_read n_1 0 (k.1 4) x1 (0 : Int32) (0 : Int32) (0 : Int32) (1 : Int32) 0 0 0 k (fun r_1 k_1 => (wM_within r_1 (0 : Int32) (100 : Int32) k_1 (fun r_2 k_2 => (vp_in x1 8 ∧ (((k_2.2.1 7 x1.toNatClampNeg) = (1 : Int32) → Q (r_2 / (2 : Int32)) k_2) ∧ ((k_2.2.1 7 x1.toNatClampNeg) = (2 : Int32) → (((98 : Int32) ≤ r_2 → Q (100 : Int32) k_2) ∧ (¬ (98 : Int32) ≤ r_2 → Q (r_2 + (2 : Int32)) k_2))) ∧ ((k_2.2.1 7 x1.toNatClampNeg) = (3 : Int32) → Q ((r_2 / (2 : Int32)) + (1 : Int32)) k_2) ∧ ((k_2.2.1 7 x1.toNatClampNeg) = (4 : Int32) → Q (r_2 / (2 : Int32)) k_2) ∧ ((k_2.2.1 7 x1.toNatClampNeg) = (5 : Int32) → Q (0 : Int32) k_2) ∧ (¬ (k_2.2.1 7 x1.toNatClampNeg) = (1 : Int32) → ¬ (k_2.2.1 7 x1.toNatClampNeg) = (2 : Int32) → ¬ (k_2.2.1 7 x1.toNatClampNeg) = (3 : Int32) → ¬ (k_2.2.1 7 x1.toNatClampNeg) = (4 : Int32) → ¬ (k_2.2.1 7 x1.toNatClampNeg) = (5 : Int32) → Q r_2 k_2)))))))
set_option maxHeartbeats 4000000 in
set_option maxRecDepth 100000 in
theorem cM_fadesOf {l : Launch} {D : va_G} {o : Nat} {a : Nat → Nat} {g : Nat → ClassId} {k : GM} {Qp : Int32 → GM → Prop} (x1 : Int32) (h : wM_fadesOf x1 k Qp) : Ci l D (tyA g) (wM o a g) yX10_fadesOf cX10_fadesOf 3 ({ frames := 59, cells := 0, slots := 0, locals := 2234 }) [.ref o, .int x1] k Qp := by
  refine Ci_of (by decide) (Nat.le_of_ble_eq_true rfl) ?_
  intro p e s m args below meth c A Z ls C ret hd hl
  have hx := C.1
  have hb := C.2.1
  have hl : lv_has ls 3 [(0, .ref o), (1, .int x1)] := hl
  replace h : (∃ n_1 : Nat, wM_read n_1 0 (k.1 4) x1 (0 : Int32) (0 : Int32) (0 : Int32) (1 : Int32) 0 0 0 k (fun r_1 k_1 => (wM_within r_1 (0 : Int32) (100 : Int32) k_1 (fun r_2 k_2 => (vp_in x1 8 ∧ (((k_2.2.1 7 x1.toNatClampNeg) = (1 : Int32) → Qp (r_2 / (2 : Int32)) k_2) ∧ ((k_2.2.1 7 x1.toNatClampNeg) = (2 : Int32) → (((98 : Int32) ≤ r_2 → Qp (100 : Int32) k_2) ∧ (¬ (98 : Int32) ≤ r_2 → Qp (r_2 + (2 : Int32)) k_2))) ∧ ((k_2.2.1 7 x1.toNatClampNeg) = (3 : Int32) → Qp ((r_2 / (2 : Int32)) + (1 : Int32)) k_2) ∧ ((k_2.2.1 7 x1.toNatClampNeg) = (4 : Int32) → Qp (r_2 / (2 : Int32)) k_2) ∧ ((k_2.2.1 7 x1.toNatClampNeg) = (5 : Int32) → Qp (0 : Int32) k_2) ∧ (¬ (k_2.2.1 7 x1.toNatClampNeg) = (1 : Int32) → ¬ (k_2.2.1 7 x1.toNatClampNeg) = (2 : Int32) → ¬ (k_2.2.1 7 x1.toNatClampNeg) = (3 : Int32) → ¬ (k_2.2.1 7 x1.toNatClampNeg) = (4 : Int32) → ¬ (k_2.2.1 7 x1.toNatClampNeg) = (5 : Int32) → Qp r_2 k_2))))))) := h
  refine lv_aload_n hx hb dX10_fadesOf_0 rfl (lv_at hl 0 rfl) ?_
  refine lv_aload_n hx hb dX10_fadesOf_1 rfl (lv_at hl 0 rfl) ?_
  refine gM_4 C hd (v := k.1 4) rfl dX10_fadesOf_2 ?_
  refine lv_iload_n hx hb dX10_fadesOf_5 rfl (lv_at hl 1 rfl) ?_
  refine lv_iconst (v := 0) hx hb dX10_fadesOf_6 (by decide) ?_
  refine lv_iconst (v := 0) hx hb dX10_fadesOf_7 (by decide) ?_
  refine lv_iconst (v := 0) hx hb dX10_fadesOf_8 (by decide) ?_
  refine lv_iconst (v := 1) hx hb dX10_fadesOf_9 (by decide) ?_
  obtain ⟨n_1, h⟩ := h
  refine xv_i C hd kwRX10_X10_read (cM_read n_1 _ _ _ _ _ _ h) ⟨rfl, rfl⟩ ⟨by decide, by decide⟩ wM_rcv hl.1 rfl rfl (Nat.le_of_ble_eq_true rfl) ⟨Nat.zero_le _, Nat.zero_le _⟩ dX10_fadesOf_10 (fun r_1 k_1 H locs h hd => ?_)
  refine lv_iconst (v := 0) hx hb dX10_fadesOf_13 (by decide) ?_
  refine lv_bipush (v := 100) hx hb dX10_fadesOf_14 (by decide) ?_
  refine xs_i C hd kwRX10_X10_within (cM_within _ _ _ h) ⟨rfl, rfl⟩ ⟨by decide, by decide⟩ hl.1 rfl rfl (Nat.le_of_ble_eq_true rfl) ⟨Nat.zero_le _, Nat.zero_le _⟩ dX10_fadesOf_16 (fun r_2 k_2 H locs h hd => ?_)
  refine lv_istore_n (lv' := [(2, .int r_2), (0, .ref o), (1, .int x1)]) hx hb dX10_fadesOf_19 rfl hl (by decide) rfl (fun ls hl => ?_)
  refine lv_aload_n hx hb dX10_fadesOf_20 rfl (lv_at hl 1 rfl) ?_
  refine gM_7 C hd dX10_fadesOf_21 ?_
  refine lv_iload_n hx hb dX10_fadesOf_24 rfl (lv_at hl 2 rfl) ?_
  refine ldM_7 C hd (v := k_2.2.1 7 x1.toNatClampNeg) h.1 rfl dX10_fadesOf_25 ?_
  replace h := h.2
  by_cases e_3_0 : (k_2.2.1 7 x1.toNatClampNeg) = (1 : Int32)
  · replace h := h.1 e_3_0
    refine lv_tableIn (off := 34) (tgt := 60) hx hb dX10_fadesOf_26 (by rw [e_3_0]; decide) (by rw [e_3_0]; decide) (by rw [e_3_0]; rfl) (by decide) ?_
    refine lv_iload_n hx hb dX10_fadesOf_60 rfl (lv_at hl 0 rfl) ?_
    refine lv_iconst (v := 2) hx hb dX10_fadesOf_61 (by decide) ?_
    refine lv_idiv hx hb dX10_fadesOf_62 (by decide) ?_
    exact ret hd h dX10_fadesOf_63
  · by_cases e_3_1 : (k_2.2.1 7 x1.toNatClampNeg) = (2 : Int32)
    · replace h := h.2.1 e_3_1
      refine lv_tableIn (off := 38) (tgt := 64) hx hb dX10_fadesOf_26 (by rw [e_3_1]; decide) (by rw [e_3_1]; decide) (by rw [e_3_1]; rfl) (by decide) ?_
      refine lv_iload_n hx hb dX10_fadesOf_64 rfl (lv_at hl 0 rfl) ?_
      refine lv_bipush (v := 98) hx hb dX10_fadesOf_65 (by decide) ?_
      refine lv_icmp_ge (tgt := 76) hx hb dX10_fadesOf_67 (by decide) (fun c_4 => ?_) (fun c_4 => ?_)
      · replace h := h.1 c_4
        refine lv_bipush (v := 100) hx hb dX10_fadesOf_76 (by decide) ?_
        exact ret hd h dX10_fadesOf_78
      · replace h := h.2 c_4
        refine lv_iload_n hx hb dX10_fadesOf_70 rfl (lv_at hl 0 rfl) ?_
        refine lv_iconst (v := 2) hx hb dX10_fadesOf_71 (by decide) ?_
        refine lv_iadd hx hb dX10_fadesOf_72 ?_
        refine lv_goto (tgt := 78) hx hb dX10_fadesOf_73 (by decide) ?_
        exact ret hd h dX10_fadesOf_78
    · by_cases e_3_2 : (k_2.2.1 7 x1.toNatClampNeg) = (3 : Int32)
      · replace h := h.2.2.1 e_3_2
        refine lv_tableIn (off := 53) (tgt := 79) hx hb dX10_fadesOf_26 (by rw [e_3_2]; decide) (by rw [e_3_2]; decide) (by rw [e_3_2]; rfl) (by decide) ?_
        refine lv_iload_n hx hb dX10_fadesOf_79 rfl (lv_at hl 0 rfl) ?_
        refine lv_iconst (v := 2) hx hb dX10_fadesOf_80 (by decide) ?_
        refine lv_idiv hx hb dX10_fadesOf_81 (by decide) ?_
        refine lv_iconst (v := 1) hx hb dX10_fadesOf_82 (by decide) ?_
        refine lv_iadd hx hb dX10_fadesOf_83 ?_
        exact ret hd h dX10_fadesOf_84
      · by_cases e_3_3 : (k_2.2.1 7 x1.toNatClampNeg) = (4 : Int32)
        · replace h := h.2.2.2.1 e_3_3
          refine lv_tableIn (off := 34) (tgt := 60) hx hb dX10_fadesOf_26 (by rw [e_3_3]; decide) (by rw [e_3_3]; decide) (by rw [e_3_3]; rfl) (by decide) ?_
          refine lv_iload_n hx hb dX10_fadesOf_60 rfl (lv_at hl 0 rfl) ?_
          refine lv_iconst (v := 2) hx hb dX10_fadesOf_61 (by decide) ?_
          refine lv_idiv hx hb dX10_fadesOf_62 (by decide) ?_
          exact ret hd h dX10_fadesOf_63
        · by_cases e_3_4 : (k_2.2.1 7 x1.toNatClampNeg) = (5 : Int32)
          · replace h := h.2.2.2.2.1 e_3_4
            refine lv_tableIn (off := 59) (tgt := 85) hx hb dX10_fadesOf_26 (by rw [e_3_4]; decide) (by rw [e_3_4]; decide) (by rw [e_3_4]; rfl) (by decide) ?_
            refine lv_iconst (v := 0) hx hb dX10_fadesOf_85 (by decide) ?_
            exact ret hd h dX10_fadesOf_86
          · replace h := h.2.2.2.2.2 e_3_0 e_3_1 e_3_2 e_3_3 e_3_4
            refine lv_tableOut (tgt := 87) hx hb dX10_fadesOf_26 (by have n_0 := lv_neT (a := 1) e_3_0 (by decide); have n_1 := lv_neT (a := 2) e_3_1 (by decide); have n_2 := lv_neT (a := 3) e_3_2 (by decide); have n_3 := lv_neT (a := 4) e_3_3 (by decide); have n_4 := lv_neT (a := 5) e_3_4 (by decide); omega) (by decide) ?_
            refine lv_iload_n hx hb dX10_fadesOf_87 rfl (lv_at hl 0 rfl) ?_
            exact ret hd h dX10_fadesOf_88
def wM_fades  : Nat → Nat → Int32 → GM → (GM → Prop) → Prop
  | 0, _, _, _, _ => False
  | n + 1, c, x1, k, Q => match c with
    | 0 => wM_fades n 1 (0 : Int32) k Q
    | _ => (((k.1 10) ≤ x1 → Q (sI (sI k 15 ((k.1 15) + (1 : Int32))) 16 (0 : Int32))) ∧ (¬ (k.1 10) ≤ x1 → (vp_in x1 8 ∧ (wM_fadesOf x1 k (fun r_2 k_2 => (vp_in x1 8 ∧ wM_fades n 1 (x1 + (1 : Int32)) (sA k_2 8 (upd (k_2.2.1 8) x1.toNatClampNeg (((k.2.1 8 x1.toNatClampNeg) * ((100 : Int32) - r_2)) / (100 : Int32)))) Q))))))
set_option maxHeartbeats 4000000 in
set_option maxRecDepth 100000 in
theorem cM_fades {l : Launch} {D : va_G} {o : Nat} {a : Nat → Nat} {g : Nat → ClassId} {k : GM} {Qp : GM → Prop} (n : Nat)  (h : wM_fades n 0 0 k Qp) : Cv l D (tyA g) (wM o a g) yX10_fades cX10_fades 2 ({ frames := 60, cells := 0, slots := 0, locals := 2256 }) [.ref o] k Qp := by
  refine Cv_of (by decide) (Nat.le_of_ble_eq_true rfl) ?_
  intro p e s m args below meth c A Z ls C ret hd hl
  have hx := C.1
  have hb := C.2.1
  have hl : lv_has ls 2 [(0, .ref o)] := hl
  have L : ∀ n : Nat, (∀ (x1 : Int32) (k : GM) (H : Heap) (locs : List Loc) (ls : Array Slot), wM_fades n 1 x1 k Qp → Hd D (wM o a g k) A s H locs → lv_has ls 2 [(0, .ref o), (1, .int x1)] → W p l e ({ frames := 60, cells := 0, slots := 0, locals := 2256 }) s m args below meth c H locs 0 0 Z (F0 m 2 ls [])) := by
    intro n
    induction n with
    | zero => exact fun _ _ _ _ _ h => h.elim
    | succ n ih =>
      intro x1 k H locs ls h hd hl
      replace h : (((k.1 10) ≤ x1 → Qp (sI (sI k 15 ((k.1 15) + (1 : Int32))) 16 (0 : Int32))) ∧ (¬ (k.1 10) ≤ x1 → (vp_in x1 8 ∧ (wM_fadesOf x1 k (fun r_2 k_2 => (vp_in x1 8 ∧ wM_fades n 1 (x1 + (1 : Int32)) (sA k_2 8 (upd (k_2.2.1 8) x1.toNatClampNeg (((k.2.1 8 x1.toNatClampNeg) * ((100 : Int32) - r_2)) / (100 : Int32)))) Qp)))))) := h
      refine lv_iload_n hx hb dX10_fades_2 rfl (lv_at hl 1 rfl) ?_
      refine lv_aload_n hx hb dX10_fades_3 rfl (lv_at hl 0 rfl) ?_
      refine gM_10 C hd (v := k.1 10) rfl dX10_fades_4 ?_
      refine lv_icmp_ge (tgt := 40) hx hb dX10_fades_7 (by decide) (fun c_1 => ?_) (fun c_1 => ?_)
      · replace h := h.1 c_1
        refine lv_aload_n hx hb dX10_fades_40 rfl (lv_at hl 0 rfl) ?_
        refine lv_dup hx hb dX10_fades_41 rfl ?_
        refine gM_15 C hd (v := k.1 15) rfl dX10_fades_42 ?_
        refine lv_iconst (v := 1) hx hb dX10_fades_45 (by decide) ?_
        refine lv_iadd hx hb dX10_fades_46 ?_
        refine pM_15 C hd dX10_fades_47 (fun H locs hd => ?_)
        refine lv_aload_n hx hb dX10_fades_50 rfl (lv_at hl 0 rfl) ?_
        refine lv_iconst (v := 0) hx hb dX10_fades_51 (by decide) ?_
        refine pM_16 C hd dX10_fades_52 (fun H locs hd => ?_)
        exact ret hd h dX10_fades_55
      · replace h := h.2 c_1
        refine lv_aload_n hx hb dX10_fades_10 rfl (lv_at hl 0 rfl) ?_
        refine gM_8 C hd dX10_fades_11 ?_
        refine lv_iload_n hx hb dX10_fades_14 rfl (lv_at hl 1 rfl) ?_
        refine lv_aload_n hx hb dX10_fades_15 rfl (lv_at hl 0 rfl) ?_
        refine gM_8 C hd dX10_fades_16 ?_
        refine lv_iload_n hx hb dX10_fades_19 rfl (lv_at hl 1 rfl) ?_
        refine ldM_8 C hd (v := k.2.1 8 x1.toNatClampNeg) h.1 rfl dX10_fades_20 ?_
        replace h := h.2
        refine lv_bipush (v := 100) hx hb dX10_fades_21 (by decide) ?_
        refine lv_aload_n hx hb dX10_fades_23 rfl (lv_at hl 0 rfl) ?_
        refine lv_iload_n hx hb dX10_fades_24 rfl (lv_at hl 1 rfl) ?_
        refine xv_i C hd kwRX10_X10_fadesOf (cM_fadesOf _ h) ⟨rfl, rfl⟩ ⟨by decide, by decide⟩ wM_rcv hl.1 rfl rfl (Nat.le_of_ble_eq_true rfl) ⟨Nat.zero_le _, Nat.zero_le _⟩ dX10_fades_25 (fun r_2 k_2 H locs h hd => ?_)
        refine lv_isub hx hb dX10_fades_28 ?_
        refine lv_imul hx hb dX10_fades_29 ?_
        refine lv_bipush (v := 100) hx hb dX10_fades_30 (by decide) ?_
        refine lv_idiv hx hb dX10_fades_32 (by decide) ?_
        refine stM_8 C hd h.1 dX10_fades_33 (fun H locs hd => ?_)
        replace h := h.2
        refine lv_iinc (v := (x1 + (1 : Int32))) (lv' := [(1, .int (x1 + (1 : Int32))), (0, .ref o)]) hx hb dX10_fades_34 hl (k := 1) rfl rfl (by decide) rfl (fun ls hl => ?_)
        refine lv_goto (tgt := 2) hx hb dX10_fades_37 (by decide) ?_
        exact ih (x1 + (1 : Int32)) _ _ _ _ h hd (lv_sub hl [1, 0] rfl)
  cases n with
  | zero => exact h.elim
  | succ n =>
    replace h : wM_fades n 1 (0 : Int32) k Qp := h
    refine lv_iconst (v := 0) hx hb dX10_fades_0 (by decide) ?_
    refine lv_istore_n (lv' := [(1, .int (0 : Int32)), (0, .ref o)]) hx hb dX10_fades_1 rfl hl (by decide) rfl (fun ls hl => ?_)
    exact L n (0 : Int32) _ _ _ _ h hd (lv_sub hl [1, 0] rfl)
