def wC_X6_expect (a : Nat → Nat) (x1 : Int32) (k : KC) (Q : KC → Prop) : Prop := ((¬ (k.1 6 2) = x1 → (wC_X6_refuse k (fun k_2 => Q k_2))) ∧ ((k.1 6 2) = x1 → (∃ n_3 : Nat, wC_X6_advance a n_3 0 0 k (fun k_3 => Q k_3))))
set_option maxHeartbeats 4000000 in
set_option maxRecDepth 100000 in
theorem cC_X6_expect {l : Launch} {P : EP} {D : va_G} {a : Nat → Nat} {b : Nat → Nat → Nat} {g : Nat → ClassId} {k : KC} {Qp : KC → Prop} (x1 : Int32) (h : wC_X6_expect a x1 k Qp) : Dv l P D (tyA g) (wC a b g) yX6_expect cX6_expect 2 ({ frames := 7, cells := 0, slots := 0, locals := 149 }) [.ref (a 6), .int x1] k Qp := by
  refine Dv_of (by decide) (Nat.le_of_ble_eq_true rfl) ?_
  intro p e s m args below meth c A Z ls C ret hd hl
  have hx := C.1
  have hb := C.2.1
  have hl : lv_has ls 2 [(0, .ref (a 6)), (1, .int x1)] := hl
  replace h : ((¬ (k.1 6 2) = x1 → (wC_X6_refuse k (fun k_2 => Qp k_2))) ∧ ((k.1 6 2) = x1 → (∃ n_3 : Nat, wC_X6_advance a n_3 0 0 k (fun k_3 => Qp k_3)))) := h
  refine lv_aload_n hx hb dX6_expect_0 rfl (lv_at hl 0 rfl) ?_
  refine gC6_6_2 C hd (v := k.1 6 2) rfl dX6_expect_1 ?_
  refine lv_iload_n hx hb dX6_expect_4 rfl (lv_at hl 1 rfl) ?_
  refine lv_icmp_ne (tgt := 15) hx hb dX6_expect_5 (by decide) (fun c_1 => ?_) (fun c_1 => ?_)
  · replace h := h.1 c_1
    refine lv_aload_n hx hb dX6_expect_15 rfl (lv_at hl 0 rfl) ?_
    refine ev_v C hd kwRX6_X6_refuse_42 (cC_X6_refuse h) ⟨rfl, rfl⟩ ⟨by decide, by decide⟩ rcC6 hl.1 rfl rfl (Nat.le_of_ble_eq_true rfl) ⟨Nat.zero_le _, Nat.zero_le _⟩ dX6_expect_16 (fun k_2 H locs h hd => ?_)
    exact ret hd h dX6_expect_19
  · replace h := h.2 c_1
    refine lv_aload_n hx hb dX6_expect_8 rfl (lv_at hl 0 rfl) ?_
    obtain ⟨n_3, h⟩ := h
    refine ev_v C hd kwRX6_X6_advance_29 (cC_X6_advance n_3 h) ⟨rfl, rfl⟩ ⟨by decide, by decide⟩ rcC6 hl.1 rfl rfl (Nat.le_of_ble_eq_true rfl) ⟨Nat.zero_le _, Nat.zero_le _⟩ dX6_expect_9 (fun k_3 H locs h hd => ?_)
    refine lv_goto (tgt := 19) hx hb dX6_expect_12 (by decide) ?_
    exact ret hd h dX6_expect_19
def wC_X6_readOr (a : Nat → Nat) (E : Nat → Int32 → KC → (KC → Prop) → Prop) : Nat → Nat → Int32 → Int32 → KC → (KC → Prop) → Prop
  | 0, _, _, _, _, _ => False
  | n + 1, c, x1, x2, k, Q => match c with
    | 0 => (E 1 x1 k (fun k_1 => wC_X6_readOr a E n 1 x1 (0 : Int32) k_1 Q))
    | _ => (((160 : Int32) ≤ x2 → Q k) ∧ (¬ (160 : Int32) ≤ x2 → ((¬ (k.1 6 2) = (7 : Int32) → Q k) ∧ ((k.1 6 2) = (7 : Int32) → (∃ n_4 : Nat, wC_X6_advance a n_4 0 0 k (fun k_4 => (E 1 x1 k_4 (fun k_5 => (wC_X6_write (-21 : Int32) k_5 (fun k_6 => wC_X6_readOr a E n 1 x1 (x2 + (1 : Int32)) k_6 Q))))))))))
set_option maxHeartbeats 4000000 in
set_option maxRecDepth 100000 in
theorem cC_X6_readOr {l : Launch} {P : EP} {D : va_G} {a : Nat → Nat} {b : Nat → Nat → Nat} {g : Nat → ClassId} (d : Nat) (E : Nat → Int32 → KC → (KC → Prop) → Prop) (hE0 : ∀ (x : Int32) (k : KC) (Qp : KC → Prop), E 0 x k Qp → Dv l P D (tyA g) (wC a b g) yX6_readOr cX6_readOr 3 (rG d) [.ref (a 6), .int x] k Qp) (hE1 : ∀ (x : Int32) (k : KC) (Qp : KC → Prop), E 1 x k Qp → Dv l P D (tyA g) (wC a b g) yX6_readAnd cX6_readAnd 3 (rG d) [.ref (a 6), .int x] k Qp) (hE2 : ∀ (x : Int32) (k : KC) (Qp : KC → Prop), E 2 x k Qp → Dv l P D (tyA g) (wC a b g) yX6_readNot cX6_readNot 3 (rG d) [.ref (a 6), .int x] k Qp) (hE3 : ∀ (x : Int32) (k : KC) (Qp : KC → Prop), E 3 x k Qp → Dv l P D (tyA g) (wC a b g) yX6_readSum cX6_readSum 4 (rG d) [.ref (a 6), .int x] k Qp) (hE4 : ∀ (x : Int32) (k : KC) (Qp : KC → Prop), E 4 x k Qp → Dv l P D (tyA g) (wC a b g) yX6_readTerm cX6_readTerm 3 (rG d) [.ref (a 6), .int x] k Qp) (hE5 : ∀ (x : Int32) (k : KC) (Qp : KC → Prop), E 5 x k Qp → Dv l P D (tyA g) (wC a b g) yX6_readOne cX6_readOne 2 (rG d) [.ref (a 6), .int x] k Qp) {k : KC} {Qp : KC → Prop} (n : Nat) (x1 : Int32) (h : wC_X6_readOr a E n 0 x1 0 k Qp) : Dv l P D (tyA g) (wC a b g) yX6_readOr cX6_readOr 3 (rG (d + 1)) [.ref (a 6), .int x1] k Qp := by
  refine Dv_of (by decide) (Nat.le_of_ble_eq_true rfl) ?_
  intro p e s m args below meth c A Z ls C ret hd hl
  have hx := C.1
  have hb := C.2.1
  have hl : lv_has ls 3 [(0, .ref (a 6)), (1, .int x1)] := hl
  have L : ∀ n : Nat, (∀ (x1 : Int32) (x2 : Int32) (k : KC) (H : Heap) (locs : List Loc) (ls : Array Slot), wC_X6_readOr a E n 1 x1 x2 k Qp → Hd D (wC a b g k) A s H locs → lv_has ls 3 [(0, .ref (a 6)), (1, .int x1), (2, .int x2)] → W p l e (rG (d + 1)) s m args below meth c H locs 0 0 Z (F0 m 7 ls [])) := by
    intro n
    induction n with
    | zero => exact fun _ _ _ _ _ _ h => h.elim
    | succ n ih =>
      intro x1 x2 k H locs ls h hd hl
      replace h : (((160 : Int32) ≤ x2 → Qp k) ∧ (¬ (160 : Int32) ≤ x2 → ((¬ (k.1 6 2) = (7 : Int32) → Qp k) ∧ ((k.1 6 2) = (7 : Int32) → (∃ n_4 : Nat, wC_X6_advance a n_4 0 0 k (fun k_4 => (E 1 x1 k_4 (fun k_5 => (wC_X6_write (-21 : Int32) k_5 (fun k_6 => wC_X6_readOr a E n 1 x1 (x2 + (1 : Int32)) k_6 Qp)))))))))) := h
      refine lv_iload_n hx hb dX6_readOr_7 rfl (lv_at hl 2 rfl) ?_
      refine lv_sipush (v := 160) hx hb dX6_readOr_8 (by decide) ?_
      refine lv_icmp_ge (tgt := 44) hx hb dX6_readOr_11 (by decide) (fun c_2 => ?_) (fun c_2 => ?_)
      · replace h := h.1 c_2
        exact ret hd h dX6_readOr_44
      · replace h := h.2 c_2
        refine lv_aload_n hx hb dX6_readOr_14 rfl (lv_at hl 0 rfl) ?_
        refine gC6_6_2 C hd (v := k.1 6 2) rfl dX6_readOr_15 ?_
        refine lv_bipush (v := 7) hx hb dX6_readOr_18 (by decide) ?_
        refine lv_icmp_ne (tgt := 44) hx hb dX6_readOr_20 (by decide) (fun c_3 => ?_) (fun c_3 => ?_)
        · replace h := h.1 c_3
          exact ret hd h dX6_readOr_44
        · replace h := h.2 c_3
          refine lv_aload_n hx hb dX6_readOr_23 rfl (lv_at hl 0 rfl) ?_
          obtain ⟨n_4, h⟩ := h
          refine ev_v C hd kwRX6_X6_advance_29 (cC_X6_advance n_4 h) ⟨rfl, rfl⟩ (rG_lf d (by decide) (by decide)) rcC6 hl.1 rfl rfl (Nat.le_of_ble_eq_true rfl) ⟨Nat.zero_le _, Nat.zero_le _⟩ dX6_readOr_24 (fun k_4 H locs h hd => ?_)
          refine lv_aload_n hx hb dX6_readOr_27 rfl (lv_at hl 0 rfl) ?_
          refine lv_iload_n hx hb dX6_readOr_28 rfl (lv_at hl 1 rfl) ?_
          refine ev_v C hd kwRX6_X6_readAnd_59 (hE1 _ _ _ h) ⟨rfl, rfl⟩ (rG_ok d (by decide)) rcC6 hl.1 rfl rfl (Nat.le_of_ble_eq_true rfl) ⟨Nat.zero_le _, Nat.zero_le _⟩ dX6_readOr_29 (fun k_5 H locs h hd => ?_)
          refine lv_aload_n hx hb dX6_readOr_32 rfl (lv_at hl 0 rfl) ?_
          refine lv_bipush (v := -21) hx hb dX6_readOr_33 (by decide) ?_
          refine ev_v C hd kwRX6_X6_write_62 (cC_X6_write _ h) ⟨rfl, rfl⟩ (rG_lf d (by decide) (by decide)) rcC6 hl.1 rfl rfl (Nat.le_of_ble_eq_true rfl) ⟨Nat.zero_le _, Nat.zero_le _⟩ dX6_readOr_35 (fun k_6 H locs h hd => ?_)
          refine lv_iinc (v := (x2 + (1 : Int32))) (lv' := [(2, .int (x2 + (1 : Int32))), (0, .ref (a 6)), (1, .int x1)]) hx hb dX6_readOr_38 hl (k := 2) rfl rfl (by decide) rfl (fun ls hl => ?_)
          refine lv_goto (tgt := 7) hx hb dX6_readOr_41 (by decide) ?_
          exact ih x1 (x2 + (1 : Int32))  _ _ _ _ h hd (lv_sub hl [1, 2, 0] rfl)
  cases n with
  | zero => exact h.elim
  | succ n =>
    replace h : (E 1 x1 k (fun k_1 => wC_X6_readOr a E n 1 x1 (0 : Int32) k_1 Qp)) := h
    refine lv_aload_n hx hb dX6_readOr_0 rfl (lv_at hl 0 rfl) ?_
    refine lv_iload_n hx hb dX6_readOr_1 rfl (lv_at hl 1 rfl) ?_
    refine ev_v C hd kwRX6_X6_readAnd_59 (hE1 _ _ _ h) ⟨rfl, rfl⟩ (rG_ok d (by decide)) rcC6 hl.1 rfl rfl (Nat.le_of_ble_eq_true rfl) ⟨Nat.zero_le _, Nat.zero_le _⟩ dX6_readOr_2 (fun k_1 H locs h hd => ?_)
    refine lv_iconst (v := 0) hx hb dX6_readOr_5 (by decide) ?_
    refine lv_istore_n (lv' := [(2, .int (0 : Int32)), (0, .ref (a 6)), (1, .int x1)]) hx hb dX6_readOr_6 rfl hl (by decide) rfl (fun ls hl => ?_)
    exact L n x1 (0 : Int32)  _ _ _ _ h hd (lv_sub hl [1, 2, 0] rfl)
def wC_X6_readAnd (a : Nat → Nat) (E : Nat → Int32 → KC → (KC → Prop) → Prop) : Nat → Nat → Int32 → Int32 → KC → (KC → Prop) → Prop
  | 0, _, _, _, _, _ => False
  | n + 1, c, x1, x2, k, Q => match c with
    | 0 => (E 2 x1 k (fun k_1 => wC_X6_readAnd a E n 1 x1 (0 : Int32) k_1 Q))
    | _ => (((160 : Int32) ≤ x2 → Q k) ∧ (¬ (160 : Int32) ≤ x2 → ((¬ (k.1 6 2) = (8 : Int32) → Q k) ∧ ((k.1 6 2) = (8 : Int32) → (∃ n_4 : Nat, wC_X6_advance a n_4 0 0 k (fun k_4 => (E 2 x1 k_4 (fun k_5 => (wC_X6_write (-22 : Int32) k_5 (fun k_6 => wC_X6_readAnd a E n 1 x1 (x2 + (1 : Int32)) k_6 Q))))))))))
set_option maxHeartbeats 4000000 in
set_option maxRecDepth 100000 in
theorem cC_X6_readAnd {l : Launch} {P : EP} {D : va_G} {a : Nat → Nat} {b : Nat → Nat → Nat} {g : Nat → ClassId} (d : Nat) (E : Nat → Int32 → KC → (KC → Prop) → Prop) (hE0 : ∀ (x : Int32) (k : KC) (Qp : KC → Prop), E 0 x k Qp → Dv l P D (tyA g) (wC a b g) yX6_readOr cX6_readOr 3 (rG d) [.ref (a 6), .int x] k Qp) (hE1 : ∀ (x : Int32) (k : KC) (Qp : KC → Prop), E 1 x k Qp → Dv l P D (tyA g) (wC a b g) yX6_readAnd cX6_readAnd 3 (rG d) [.ref (a 6), .int x] k Qp) (hE2 : ∀ (x : Int32) (k : KC) (Qp : KC → Prop), E 2 x k Qp → Dv l P D (tyA g) (wC a b g) yX6_readNot cX6_readNot 3 (rG d) [.ref (a 6), .int x] k Qp) (hE3 : ∀ (x : Int32) (k : KC) (Qp : KC → Prop), E 3 x k Qp → Dv l P D (tyA g) (wC a b g) yX6_readSum cX6_readSum 4 (rG d) [.ref (a 6), .int x] k Qp) (hE4 : ∀ (x : Int32) (k : KC) (Qp : KC → Prop), E 4 x k Qp → Dv l P D (tyA g) (wC a b g) yX6_readTerm cX6_readTerm 3 (rG d) [.ref (a 6), .int x] k Qp) (hE5 : ∀ (x : Int32) (k : KC) (Qp : KC → Prop), E 5 x k Qp → Dv l P D (tyA g) (wC a b g) yX6_readOne cX6_readOne 2 (rG d) [.ref (a 6), .int x] k Qp) {k : KC} {Qp : KC → Prop} (n : Nat) (x1 : Int32) (h : wC_X6_readAnd a E n 0 x1 0 k Qp) : Dv l P D (tyA g) (wC a b g) yX6_readAnd cX6_readAnd 3 (rG (d + 1)) [.ref (a 6), .int x1] k Qp := by
  refine Dv_of (by decide) (Nat.le_of_ble_eq_true rfl) ?_
  intro p e s m args below meth c A Z ls C ret hd hl
  have hx := C.1
  have hb := C.2.1
  have hl : lv_has ls 3 [(0, .ref (a 6)), (1, .int x1)] := hl
  have L : ∀ n : Nat, (∀ (x1 : Int32) (x2 : Int32) (k : KC) (H : Heap) (locs : List Loc) (ls : Array Slot), wC_X6_readAnd a E n 1 x1 x2 k Qp → Hd D (wC a b g k) A s H locs → lv_has ls 3 [(0, .ref (a 6)), (1, .int x1), (2, .int x2)] → W p l e (rG (d + 1)) s m args below meth c H locs 0 0 Z (F0 m 7 ls [])) := by
    intro n
    induction n with
    | zero => exact fun _ _ _ _ _ _ h => h.elim
    | succ n ih =>
      intro x1 x2 k H locs ls h hd hl
      replace h : (((160 : Int32) ≤ x2 → Qp k) ∧ (¬ (160 : Int32) ≤ x2 → ((¬ (k.1 6 2) = (8 : Int32) → Qp k) ∧ ((k.1 6 2) = (8 : Int32) → (∃ n_4 : Nat, wC_X6_advance a n_4 0 0 k (fun k_4 => (E 2 x1 k_4 (fun k_5 => (wC_X6_write (-22 : Int32) k_5 (fun k_6 => wC_X6_readAnd a E n 1 x1 (x2 + (1 : Int32)) k_6 Qp)))))))))) := h
      refine lv_iload_n hx hb dX6_readAnd_7 rfl (lv_at hl 2 rfl) ?_
      refine lv_sipush (v := 160) hx hb dX6_readAnd_8 (by decide) ?_
      refine lv_icmp_ge (tgt := 44) hx hb dX6_readAnd_11 (by decide) (fun c_2 => ?_) (fun c_2 => ?_)
      · replace h := h.1 c_2
        exact ret hd h dX6_readAnd_44
      · replace h := h.2 c_2
        refine lv_aload_n hx hb dX6_readAnd_14 rfl (lv_at hl 0 rfl) ?_
        refine gC6_6_2 C hd (v := k.1 6 2) rfl dX6_readAnd_15 ?_
        refine lv_bipush (v := 8) hx hb dX6_readAnd_18 (by decide) ?_
        refine lv_icmp_ne (tgt := 44) hx hb dX6_readAnd_20 (by decide) (fun c_3 => ?_) (fun c_3 => ?_)
        · replace h := h.1 c_3
          exact ret hd h dX6_readAnd_44
        · replace h := h.2 c_3
          refine lv_aload_n hx hb dX6_readAnd_23 rfl (lv_at hl 0 rfl) ?_
          obtain ⟨n_4, h⟩ := h
          refine ev_v C hd kwRX6_X6_advance_29 (cC_X6_advance n_4 h) ⟨rfl, rfl⟩ (rG_lf d (by decide) (by decide)) rcC6 hl.1 rfl rfl (Nat.le_of_ble_eq_true rfl) ⟨Nat.zero_le _, Nat.zero_le _⟩ dX6_readAnd_24 (fun k_4 H locs h hd => ?_)
          refine lv_aload_n hx hb dX6_readAnd_27 rfl (lv_at hl 0 rfl) ?_
          refine lv_iload_n hx hb dX6_readAnd_28 rfl (lv_at hl 1 rfl) ?_
          refine ev_v C hd kwRX6_X6_readNot_65 (hE2 _ _ _ h) ⟨rfl, rfl⟩ (rG_ok d (by decide)) rcC6 hl.1 rfl rfl (Nat.le_of_ble_eq_true rfl) ⟨Nat.zero_le _, Nat.zero_le _⟩ dX6_readAnd_29 (fun k_5 H locs h hd => ?_)
          refine lv_aload_n hx hb dX6_readAnd_32 rfl (lv_at hl 0 rfl) ?_
          refine lv_bipush (v := -22) hx hb dX6_readAnd_33 (by decide) ?_
          refine ev_v C hd kwRX6_X6_write_62 (cC_X6_write _ h) ⟨rfl, rfl⟩ (rG_lf d (by decide) (by decide)) rcC6 hl.1 rfl rfl (Nat.le_of_ble_eq_true rfl) ⟨Nat.zero_le _, Nat.zero_le _⟩ dX6_readAnd_35 (fun k_6 H locs h hd => ?_)
          refine lv_iinc (v := (x2 + (1 : Int32))) (lv' := [(2, .int (x2 + (1 : Int32))), (0, .ref (a 6)), (1, .int x1)]) hx hb dX6_readAnd_38 hl (k := 2) rfl rfl (by decide) rfl (fun ls hl => ?_)
          refine lv_goto (tgt := 7) hx hb dX6_readAnd_41 (by decide) ?_
          exact ih x1 (x2 + (1 : Int32))  _ _ _ _ h hd (lv_sub hl [1, 2, 0] rfl)
  cases n with
  | zero => exact h.elim
  | succ n =>
    replace h : (E 2 x1 k (fun k_1 => wC_X6_readAnd a E n 1 x1 (0 : Int32) k_1 Qp)) := h
    refine lv_aload_n hx hb dX6_readAnd_0 rfl (lv_at hl 0 rfl) ?_
    refine lv_iload_n hx hb dX6_readAnd_1 rfl (lv_at hl 1 rfl) ?_
    refine ev_v C hd kwRX6_X6_readNot_65 (hE2 _ _ _ h) ⟨rfl, rfl⟩ (rG_ok d (by decide)) rcC6 hl.1 rfl rfl (Nat.le_of_ble_eq_true rfl) ⟨Nat.zero_le _, Nat.zero_le _⟩ dX6_readAnd_2 (fun k_1 H locs h hd => ?_)
    refine lv_iconst (v := 0) hx hb dX6_readAnd_5 (by decide) ?_
    refine lv_istore_n (lv' := [(2, .int (0 : Int32)), (0, .ref (a 6)), (1, .int x1)]) hx hb dX6_readAnd_6 rfl hl (by decide) rfl (fun ls hl => ?_)
    exact L n x1 (0 : Int32)  _ _ _ _ h hd (lv_sub hl [1, 2, 0] rfl)
def wC_X6_readNot (a : Nat → Nat) (E : Nat → Int32 → KC → (KC → Prop) → Prop) : Nat → Nat → Int32 → KC → (KC → Prop) → Prop
  | 0, _, _, _, _ => False
  | n + 1, c, x1, k, Q => match c with
    | 0 => ((¬ (k.1 6 2) = (9 : Int32) → (E 3 x1 k (fun k_2 => (((k_2.1 6 2) = (60 : Int32) → wC_X6_readNot a E n 1 x1 k_2 Q) ∧ (¬ (k_2.1 6 2) = (60 : Int32) → ((¬ (k_2.1 6 2) = (61 : Int32) → Q k_2) ∧ ((k_2.1 6 2) = (61 : Int32) → wC_X6_readNot a E n 1 x1 k_2 Q))))))) ∧ ((k.1 6 2) = (9 : Int32) → (((5 : Int32) ≤ x1 → (E 3 x1 k (fun k_6 => (((k_6.1 6 2) = (60 : Int32) → wC_X6_readNot a E n 1 x1 k_6 Q) ∧ (¬ (k_6.1 6 2) = (60 : Int32) → ((¬ (k_6.1 6 2) = (61 : Int32) → Q k_6) ∧ ((k_6.1 6 2) = (61 : Int32) → wC_X6_readNot a E n 1 x1 k_6 Q))))))) ∧ (¬ (5 : Int32) ≤ x1 → (∃ n_9 : Nat, wC_X6_advance a n_9 0 0 k (fun k_9 => (E 2 (x1 + (1 : Int32)) k_9 (fun k_10 => (wC_X6_write (-12 : Int32) k_10 (fun k_11 => Q k_11))))))))))
    | _ => ((¬ (k.1 6 2) = (60 : Int32) → (∃ n_13 : Nat, wC_X6_advance a n_13 0 0 k (fun k_13 => (E 3 x1 k_13 (fun k_14 => (wC_X6_write (-24 : Int32) k_14 (fun k_15 => Q k_15))))))) ∧ ((k.1 6 2) = (60 : Int32) → (∃ n_16 : Nat, wC_X6_advance a n_16 0 0 k (fun k_16 => (E 3 x1 k_16 (fun k_17 => (wC_X6_write (-23 : Int32) k_17 (fun k_18 => Q k_18))))))))
set_option maxHeartbeats 4000000 in
set_option maxRecDepth 100000 in
theorem cC_X6_readNot {l : Launch} {P : EP} {D : va_G} {a : Nat → Nat} {b : Nat → Nat → Nat} {g : Nat → ClassId} (d : Nat) (E : Nat → Int32 → KC → (KC → Prop) → Prop) (hE0 : ∀ (x : Int32) (k : KC) (Qp : KC → Prop), E 0 x k Qp → Dv l P D (tyA g) (wC a b g) yX6_readOr cX6_readOr 3 (rG d) [.ref (a 6), .int x] k Qp) (hE1 : ∀ (x : Int32) (k : KC) (Qp : KC → Prop), E 1 x k Qp → Dv l P D (tyA g) (wC a b g) yX6_readAnd cX6_readAnd 3 (rG d) [.ref (a 6), .int x] k Qp) (hE2 : ∀ (x : Int32) (k : KC) (Qp : KC → Prop), E 2 x k Qp → Dv l P D (tyA g) (wC a b g) yX6_readNot cX6_readNot 3 (rG d) [.ref (a 6), .int x] k Qp) (hE3 : ∀ (x : Int32) (k : KC) (Qp : KC → Prop), E 3 x k Qp → Dv l P D (tyA g) (wC a b g) yX6_readSum cX6_readSum 4 (rG d) [.ref (a 6), .int x] k Qp) (hE4 : ∀ (x : Int32) (k : KC) (Qp : KC → Prop), E 4 x k Qp → Dv l P D (tyA g) (wC a b g) yX6_readTerm cX6_readTerm 3 (rG d) [.ref (a 6), .int x] k Qp) (hE5 : ∀ (x : Int32) (k : KC) (Qp : KC → Prop), E 5 x k Qp → Dv l P D (tyA g) (wC a b g) yX6_readOne cX6_readOne 2 (rG d) [.ref (a 6), .int x] k Qp) {k : KC} {Qp : KC → Prop} (n : Nat) (x1 : Int32) (h : wC_X6_readNot a E n 0 x1 k Qp) : Dv l P D (tyA g) (wC a b g) yX6_readNot cX6_readNot 3 (rG (d + 1)) [.ref (a 6), .int x1] k Qp := by
  refine Dv_of (by decide) (Nat.le_of_ble_eq_true rfl) ?_
  intro p e s m args below meth c A Z ls C ret hd hl
  have hx := C.1
  have hb := C.2.1
  have hl : lv_has ls 3 [(0, .ref (a 6)), (1, .int x1)] := hl
  have L : ∀ n : Nat, (∀ (x1 : Int32) (k : KC) (H : Heap) (locs : List Loc) (ls : Array Slot), wC_X6_readNot a E n 1 x1 k Qp → Hd D (wC a b g k) A s H locs → lv_has ls 3 [(0, .ref (a 6)), (1, .int x1)] → W p l e (rG (d + 1)) s m args below meth c H locs 0 0 Z (F0 m 55 ls [])) := by
    intro n
    induction n with
    | zero => exact fun _ _ _ _ _ h => h.elim
    | succ n ih =>
      intro x1 k H locs ls h hd hl
      replace h : ((¬ (k.1 6 2) = (60 : Int32) → (∃ n_13 : Nat, wC_X6_advance a n_13 0 0 k (fun k_13 => (E 3 x1 k_13 (fun k_14 => (wC_X6_write (-24 : Int32) k_14 (fun k_15 => Qp k_15))))))) ∧ ((k.1 6 2) = (60 : Int32) → (∃ n_16 : Nat, wC_X6_advance a n_16 0 0 k (fun k_16 => (E 3 x1 k_16 (fun k_17 => (wC_X6_write (-23 : Int32) k_17 (fun k_18 => Qp k_18)))))))) := h
      refine lv_aload_n hx hb dX6_readNot_55 rfl (lv_at hl 0 rfl) ?_
      refine gC6_6_2 C hd (v := k.1 6 2) rfl dX6_readNot_56 ?_
      refine lv_bipush (v := 60) hx hb dX6_readNot_59 (by decide) ?_
      refine lv_icmp_ne (tgt := 69) hx hb dX6_readNot_61 (by decide) (fun c_12 => ?_) (fun c_12 => ?_)
      · replace h := h.1 c_12
        refine lv_bipush (v := -24) hx hb dX6_readNot_69 (by decide) ?_
        refine lv_istore_n (lv' := [(2, .int (-24 : Int32)), (0, .ref (a 6)), (1, .int x1)]) hx hb dX6_readNot_71 rfl hl (by decide) rfl (fun ls hl => ?_)
        refine lv_aload_n hx hb dX6_readNot_72 rfl (lv_at hl 1 rfl) ?_
        obtain ⟨n_13, h⟩ := h
        refine ev_v C hd kwRX6_X6_advance_29 (cC_X6_advance n_13 h) ⟨rfl, rfl⟩ (rG_lf d (by decide) (by decide)) rcC6 hl.1 rfl rfl (Nat.le_of_ble_eq_true rfl) ⟨Nat.zero_le _, Nat.zero_le _⟩ dX6_readNot_73 (fun k_13 H locs h hd => ?_)
        refine lv_aload_n hx hb dX6_readNot_76 rfl (lv_at hl 1 rfl) ?_
        refine lv_iload_n hx hb dX6_readNot_77 rfl (lv_at hl 2 rfl) ?_
        refine ev_v C hd kwRX6_X6_readSum_68 (hE3 _ _ _ h) ⟨rfl, rfl⟩ (rG_ok d (by decide)) rcC6 hl.1 rfl rfl (Nat.le_of_ble_eq_true rfl) ⟨Nat.zero_le _, Nat.zero_le _⟩ dX6_readNot_78 (fun k_14 H locs h hd => ?_)
        refine lv_aload_n hx hb dX6_readNot_81 rfl (lv_at hl 1 rfl) ?_
        refine lv_iload_n hx hb dX6_readNot_82 rfl (lv_at hl 0 rfl) ?_
        refine ev_v C hd kwRX6_X6_write_62 (cC_X6_write _ h) ⟨rfl, rfl⟩ (rG_lf d (by decide) (by decide)) rcC6 hl.1 rfl rfl (Nat.le_of_ble_eq_true rfl) ⟨Nat.zero_le _, Nat.zero_le _⟩ dX6_readNot_83 (fun k_15 H locs h hd => ?_)
        exact ret hd h dX6_readNot_86
      · replace h := h.2 c_12
        refine lv_bipush (v := -23) hx hb dX6_readNot_64 (by decide) ?_
        refine lv_goto (tgt := 71) hx hb dX6_readNot_66 (by decide) ?_
        refine lv_istore_n (lv' := [(2, .int (-23 : Int32)), (0, .ref (a 6)), (1, .int x1)]) hx hb dX6_readNot_71 rfl hl (by decide) rfl (fun ls hl => ?_)
        refine lv_aload_n hx hb dX6_readNot_72 rfl (lv_at hl 1 rfl) ?_
        obtain ⟨n_16, h⟩ := h
        refine ev_v C hd kwRX6_X6_advance_29 (cC_X6_advance n_16 h) ⟨rfl, rfl⟩ (rG_lf d (by decide) (by decide)) rcC6 hl.1 rfl rfl (Nat.le_of_ble_eq_true rfl) ⟨Nat.zero_le _, Nat.zero_le _⟩ dX6_readNot_73 (fun k_16 H locs h hd => ?_)
        refine lv_aload_n hx hb dX6_readNot_76 rfl (lv_at hl 1 rfl) ?_
        refine lv_iload_n hx hb dX6_readNot_77 rfl (lv_at hl 2 rfl) ?_
        refine ev_v C hd kwRX6_X6_readSum_68 (hE3 _ _ _ h) ⟨rfl, rfl⟩ (rG_ok d (by decide)) rcC6 hl.1 rfl rfl (Nat.le_of_ble_eq_true rfl) ⟨Nat.zero_le _, Nat.zero_le _⟩ dX6_readNot_78 (fun k_17 H locs h hd => ?_)
        refine lv_aload_n hx hb dX6_readNot_81 rfl (lv_at hl 1 rfl) ?_
        refine lv_iload_n hx hb dX6_readNot_82 rfl (lv_at hl 0 rfl) ?_
        refine ev_v C hd kwRX6_X6_write_62 (cC_X6_write _ h) ⟨rfl, rfl⟩ (rG_lf d (by decide) (by decide)) rcC6 hl.1 rfl rfl (Nat.le_of_ble_eq_true rfl) ⟨Nat.zero_le _, Nat.zero_le _⟩ dX6_readNot_83 (fun k_18 H locs h hd => ?_)
        exact ret hd h dX6_readNot_86
  cases n with
  | zero => exact h.elim
  | succ n =>
    replace h : ((¬ (k.1 6 2) = (9 : Int32) → (E 3 x1 k (fun k_2 => (((k_2.1 6 2) = (60 : Int32) → wC_X6_readNot a E n 1 x1 k_2 Qp) ∧ (¬ (k_2.1 6 2) = (60 : Int32) → ((¬ (k_2.1 6 2) = (61 : Int32) → Qp k_2) ∧ ((k_2.1 6 2) = (61 : Int32) → wC_X6_readNot a E n 1 x1 k_2 Qp))))))) ∧ ((k.1 6 2) = (9 : Int32) → (((5 : Int32) ≤ x1 → (E 3 x1 k (fun k_6 => (((k_6.1 6 2) = (60 : Int32) → wC_X6_readNot a E n 1 x1 k_6 Qp) ∧ (¬ (k_6.1 6 2) = (60 : Int32) → ((¬ (k_6.1 6 2) = (61 : Int32) → Qp k_6) ∧ ((k_6.1 6 2) = (61 : Int32) → wC_X6_readNot a E n 1 x1 k_6 Qp))))))) ∧ (¬ (5 : Int32) ≤ x1 → (∃ n_9 : Nat, wC_X6_advance a n_9 0 0 k (fun k_9 => (E 2 (x1 + (1 : Int32)) k_9 (fun k_10 => (wC_X6_write (-12 : Int32) k_10 (fun k_11 => Qp k_11)))))))))) := h
    refine lv_aload_n hx hb dX6_readNot_0 rfl (lv_at hl 0 rfl) ?_
    refine gC6_6_2 C hd (v := k.1 6 2) rfl dX6_readNot_1 ?_
    refine lv_bipush (v := 9) hx hb dX6_readNot_4 (by decide) ?_
    refine lv_icmp_ne (tgt := 32) hx hb dX6_readNot_6 (by decide) (fun c_1 => ?_) (fun c_1 => ?_)
    · replace h := h.1 c_1
      refine lv_aload_n hx hb dX6_readNot_32 rfl (lv_at hl 0 rfl) ?_
      refine lv_iload_n hx hb dX6_readNot_33 rfl (lv_at hl 1 rfl) ?_
      refine ev_v C hd kwRX6_X6_readSum_68 (hE3 _ _ _ h) ⟨rfl, rfl⟩ (rG_ok d (by decide)) rcC6 hl.1 rfl rfl (Nat.le_of_ble_eq_true rfl) ⟨Nat.zero_le _, Nat.zero_le _⟩ dX6_readNot_34 (fun k_2 H locs h hd => ?_)
      refine lv_aload_n hx hb dX6_readNot_37 rfl (lv_at hl 0 rfl) ?_
      refine gC6_6_2 C hd (v := k_2.1 6 2) rfl dX6_readNot_38 ?_
      refine lv_bipush (v := 60) hx hb dX6_readNot_41 (by decide) ?_
      refine lv_icmp_eq (tgt := 55) hx hb dX6_readNot_43 (by decide) (fun c_3 => ?_) (fun c_3 => ?_)
      · replace h := h.1 c_3
        exact L n x1  _ _ _ _ h hd (lv_sub hl [0, 1] rfl)
      · replace h := h.2 c_3
        refine lv_aload_n hx hb dX6_readNot_46 rfl (lv_at hl 0 rfl) ?_
        refine gC6_6_2 C hd (v := k_2.1 6 2) rfl dX6_readNot_47 ?_
        refine lv_bipush (v := 61) hx hb dX6_readNot_50 (by decide) ?_
        refine lv_icmp_ne (tgt := 86) hx hb dX6_readNot_52 (by decide) (fun c_4 => ?_) (fun c_4 => ?_)
        · replace h := h.1 c_4
          exact ret hd h dX6_readNot_86
        · replace h := h.2 c_4
          exact L n x1  _ _ _ _ h hd (lv_sub hl [0, 1] rfl)
    · replace h := h.2 c_1
      refine lv_iload_n hx hb dX6_readNot_9 rfl (lv_at hl 1 rfl) ?_
      refine lv_iconst (v := 5) hx hb dX6_readNot_10 (by decide) ?_
      refine lv_icmp_ge (tgt := 32) hx hb dX6_readNot_11 (by decide) (fun c_5 => ?_) (fun c_5 => ?_)
      · replace h := h.1 c_5
        refine lv_aload_n hx hb dX6_readNot_32 rfl (lv_at hl 0 rfl) ?_
        refine lv_iload_n hx hb dX6_readNot_33 rfl (lv_at hl 1 rfl) ?_
        refine ev_v C hd kwRX6_X6_readSum_68 (hE3 _ _ _ h) ⟨rfl, rfl⟩ (rG_ok d (by decide)) rcC6 hl.1 rfl rfl (Nat.le_of_ble_eq_true rfl) ⟨Nat.zero_le _, Nat.zero_le _⟩ dX6_readNot_34 (fun k_6 H locs h hd => ?_)
        refine lv_aload_n hx hb dX6_readNot_37 rfl (lv_at hl 0 rfl) ?_
        refine gC6_6_2 C hd (v := k_6.1 6 2) rfl dX6_readNot_38 ?_
        refine lv_bipush (v := 60) hx hb dX6_readNot_41 (by decide) ?_
        refine lv_icmp_eq (tgt := 55) hx hb dX6_readNot_43 (by decide) (fun c_7 => ?_) (fun c_7 => ?_)
        · replace h := h.1 c_7
          exact L n x1  _ _ _ _ h hd (lv_sub hl [0, 1] rfl)
        · replace h := h.2 c_7
          refine lv_aload_n hx hb dX6_readNot_46 rfl (lv_at hl 0 rfl) ?_
          refine gC6_6_2 C hd (v := k_6.1 6 2) rfl dX6_readNot_47 ?_
          refine lv_bipush (v := 61) hx hb dX6_readNot_50 (by decide) ?_
          refine lv_icmp_ne (tgt := 86) hx hb dX6_readNot_52 (by decide) (fun c_8 => ?_) (fun c_8 => ?_)
          · replace h := h.1 c_8
            exact ret hd h dX6_readNot_86
          · replace h := h.2 c_8
            exact L n x1  _ _ _ _ h hd (lv_sub hl [0, 1] rfl)
      · replace h := h.2 c_5
        refine lv_aload_n hx hb dX6_readNot_14 rfl (lv_at hl 0 rfl) ?_
        obtain ⟨n_9, h⟩ := h
        refine ev_v C hd kwRX6_X6_advance_29 (cC_X6_advance n_9 h) ⟨rfl, rfl⟩ (rG_lf d (by decide) (by decide)) rcC6 hl.1 rfl rfl (Nat.le_of_ble_eq_true rfl) ⟨Nat.zero_le _, Nat.zero_le _⟩ dX6_readNot_15 (fun k_9 H locs h hd => ?_)
        refine lv_aload_n hx hb dX6_readNot_18 rfl (lv_at hl 0 rfl) ?_
        refine lv_iload_n hx hb dX6_readNot_19 rfl (lv_at hl 1 rfl) ?_
        refine lv_iconst (v := 1) hx hb dX6_readNot_20 (by decide) ?_
        refine lv_iadd hx hb dX6_readNot_21 ?_
        refine ev_v C hd kwRX6_X6_readNot_65 (hE2 _ _ _ h) ⟨rfl, rfl⟩ (rG_ok d (by decide)) rcC6 hl.1 rfl rfl (Nat.le_of_ble_eq_true rfl) ⟨Nat.zero_le _, Nat.zero_le _⟩ dX6_readNot_22 (fun k_10 H locs h hd => ?_)
        refine lv_aload_n hx hb dX6_readNot_25 rfl (lv_at hl 0 rfl) ?_
        refine lv_bipush (v := -12) hx hb dX6_readNot_26 (by decide) ?_
        refine ev_v C hd kwRX6_X6_write_62 (cC_X6_write _ h) ⟨rfl, rfl⟩ (rG_lf d (by decide) (by decide)) rcC6 hl.1 rfl rfl (Nat.le_of_ble_eq_true rfl) ⟨Nat.zero_le _, Nat.zero_le _⟩ dX6_readNot_28 (fun k_11 H locs h hd => ?_)
        exact ret hd h dX6_readNot_31
def wC_X6_readSum (a : Nat → Nat) (E : Nat → Int32 → KC → (KC → Prop) → Prop) : Nat → Nat → Int32 → Int32 → KC → (KC → Prop) → Prop
  | 0, _, _, _, _, _ => False
  | n + 1, c, x1, x2, k, Q => match c with
    | 0 => (E 4 x1 k (fun k_1 => wC_X6_readSum a E n 1 x1 (0 : Int32) k_1 Q))
    | _ => (((160 : Int32) ≤ x2 → Q k) ∧ (¬ (160 : Int32) ≤ x2 → (((k.1 6 2) = (43 : Int32) → ((¬ (k.1 6 2) = (43 : Int32) → (∃ n_5 : Nat, wC_X6_advance a n_5 0 0 k (fun k_5 => (E 4 x1 k_5 (fun k_6 => (wC_X6_write (-26 : Int32) k_6 (fun k_7 => wC_X6_readSum a E n 1 x1 (x2 + (1 : Int32)) k_7 Q))))))) ∧ ((k.1 6 2) = (43 : Int32) → (∃ n_8 : Nat, wC_X6_advance a n_8 0 0 k (fun k_8 => (E 4 x1 k_8 (fun k_9 => (wC_X6_write (-25 : Int32) k_9 (fun k_10 => wC_X6_readSum a E n 1 x1 (x2 + (1 : Int32)) k_10 Q))))))))) ∧ (¬ (k.1 6 2) = (43 : Int32) → ((¬ (k.1 6 2) = (45 : Int32) → Q k) ∧ ((k.1 6 2) = (45 : Int32) → ((¬ (k.1 6 2) = (43 : Int32) → (∃ n_13 : Nat, wC_X6_advance a n_13 0 0 k (fun k_13 => (E 4 x1 k_13 (fun k_14 => (wC_X6_write (-26 : Int32) k_14 (fun k_15 => wC_X6_readSum a E n 1 x1 (x2 + (1 : Int32)) k_15 Q))))))) ∧ ((k.1 6 2) = (43 : Int32) → (∃ n_16 : Nat, wC_X6_advance a n_16 0 0 k (fun k_16 => (E 4 x1 k_16 (fun k_17 => (wC_X6_write (-25 : Int32) k_17 (fun k_18 => wC_X6_readSum a E n 1 x1 (x2 + (1 : Int32)) k_18 Q))))))))))))))
set_option maxHeartbeats 4000000 in
set_option maxRecDepth 100000 in
theorem cC_X6_readSum {l : Launch} {P : EP} {D : va_G} {a : Nat → Nat} {b : Nat → Nat → Nat} {g : Nat → ClassId} (d : Nat) (E : Nat → Int32 → KC → (KC → Prop) → Prop) (hE0 : ∀ (x : Int32) (k : KC) (Qp : KC → Prop), E 0 x k Qp → Dv l P D (tyA g) (wC a b g) yX6_readOr cX6_readOr 3 (rG d) [.ref (a 6), .int x] k Qp) (hE1 : ∀ (x : Int32) (k : KC) (Qp : KC → Prop), E 1 x k Qp → Dv l P D (tyA g) (wC a b g) yX6_readAnd cX6_readAnd 3 (rG d) [.ref (a 6), .int x] k Qp) (hE2 : ∀ (x : Int32) (k : KC) (Qp : KC → Prop), E 2 x k Qp → Dv l P D (tyA g) (wC a b g) yX6_readNot cX6_readNot 3 (rG d) [.ref (a 6), .int x] k Qp) (hE3 : ∀ (x : Int32) (k : KC) (Qp : KC → Prop), E 3 x k Qp → Dv l P D (tyA g) (wC a b g) yX6_readSum cX6_readSum 4 (rG d) [.ref (a 6), .int x] k Qp) (hE4 : ∀ (x : Int32) (k : KC) (Qp : KC → Prop), E 4 x k Qp → Dv l P D (tyA g) (wC a b g) yX6_readTerm cX6_readTerm 3 (rG d) [.ref (a 6), .int x] k Qp) (hE5 : ∀ (x : Int32) (k : KC) (Qp : KC → Prop), E 5 x k Qp → Dv l P D (tyA g) (wC a b g) yX6_readOne cX6_readOne 2 (rG d) [.ref (a 6), .int x] k Qp) {k : KC} {Qp : KC → Prop} (n : Nat) (x1 : Int32) (h : wC_X6_readSum a E n 0 x1 0 k Qp) : Dv l P D (tyA g) (wC a b g) yX6_readSum cX6_readSum 4 (rG (d + 1)) [.ref (a 6), .int x1] k Qp := by
  refine Dv_of (by decide) (Nat.le_of_ble_eq_true rfl) ?_
  intro p e s m args below meth c A Z ls C ret hd hl
  have hx := C.1
  have hb := C.2.1
  have hl : lv_has ls 4 [(0, .ref (a 6)), (1, .int x1)] := hl
  have L : ∀ n : Nat, (∀ (x1 : Int32) (x2 : Int32) (k : KC) (H : Heap) (locs : List Loc) (ls : Array Slot), wC_X6_readSum a E n 1 x1 x2 k Qp → Hd D (wC a b g k) A s H locs → lv_has ls 4 [(0, .ref (a 6)), (1, .int x1), (2, .int x2)] → W p l e (rG (d + 1)) s m args below meth c H locs 0 0 Z (F0 m 7 ls [])) := by
    intro n
    induction n with
    | zero => exact fun _ _ _ _ _ _ h => h.elim
    | succ n ih =>
      intro x1 x2 k H locs ls h hd hl
      replace h : (((160 : Int32) ≤ x2 → Qp k) ∧ (¬ (160 : Int32) ≤ x2 → (((k.1 6 2) = (43 : Int32) → ((¬ (k.1 6 2) = (43 : Int32) → (∃ n_5 : Nat, wC_X6_advance a n_5 0 0 k (fun k_5 => (E 4 x1 k_5 (fun k_6 => (wC_X6_write (-26 : Int32) k_6 (fun k_7 => wC_X6_readSum a E n 1 x1 (x2 + (1 : Int32)) k_7 Qp))))))) ∧ ((k.1 6 2) = (43 : Int32) → (∃ n_8 : Nat, wC_X6_advance a n_8 0 0 k (fun k_8 => (E 4 x1 k_8 (fun k_9 => (wC_X6_write (-25 : Int32) k_9 (fun k_10 => wC_X6_readSum a E n 1 x1 (x2 + (1 : Int32)) k_10 Qp))))))))) ∧ (¬ (k.1 6 2) = (43 : Int32) → ((¬ (k.1 6 2) = (45 : Int32) → Qp k) ∧ ((k.1 6 2) = (45 : Int32) → ((¬ (k.1 6 2) = (43 : Int32) → (∃ n_13 : Nat, wC_X6_advance a n_13 0 0 k (fun k_13 => (E 4 x1 k_13 (fun k_14 => (wC_X6_write (-26 : Int32) k_14 (fun k_15 => wC_X6_readSum a E n 1 x1 (x2 + (1 : Int32)) k_15 Qp))))))) ∧ ((k.1 6 2) = (43 : Int32) → (∃ n_16 : Nat, wC_X6_advance a n_16 0 0 k (fun k_16 => (E 4 x1 k_16 (fun k_17 => (wC_X6_write (-25 : Int32) k_17 (fun k_18 => wC_X6_readSum a E n 1 x1 (x2 + (1 : Int32)) k_18 Qp)))))))))))))) := h
      refine lv_iload_n hx hb dX6_readSum_7 rfl (lv_at hl 2 rfl) ?_
      refine lv_sipush (v := 160) hx hb dX6_readSum_8 (by decide) ?_
      refine lv_icmp_ge (tgt := 69) hx hb dX6_readSum_11 (by decide) (fun c_2 => ?_) (fun c_2 => ?_)
      · replace h := h.1 c_2
        exact ret hd h dX6_readSum_69
      · replace h := h.2 c_2
        refine lv_aload_n hx hb dX6_readSum_14 rfl (lv_at hl 0 rfl) ?_
        refine gC6_6_2 C hd (v := k.1 6 2) rfl dX6_readSum_15 ?_
        refine lv_bipush (v := 43) hx hb dX6_readSum_18 (by decide) ?_
        refine lv_icmp_eq (tgt := 32) hx hb dX6_readSum_20 (by decide) (fun c_3 => ?_) (fun c_3 => ?_)
        · replace h := h.1 c_3
          refine lv_aload_n hx hb dX6_readSum_32 rfl (lv_at hl 0 rfl) ?_
          refine gC6_6_2 C hd (v := k.1 6 2) rfl dX6_readSum_33 ?_
          refine lv_bipush (v := 43) hx hb dX6_readSum_36 (by decide) ?_
          refine lv_icmp_ne (tgt := 46) hx hb dX6_readSum_38 (by decide) (fun c_4 => ?_) (fun c_4 => ?_)
          · replace h := h.1 c_4
            refine lv_bipush (v := -26) hx hb dX6_readSum_46 (by decide) ?_
            refine lv_istore_n (lv' := [(3, .int (-26 : Int32)), (0, .ref (a 6)), (1, .int x1), (2, .int x2)]) hx hb dX6_readSum_48 rfl hl (by decide) rfl (fun ls hl => ?_)
            refine lv_aload_n hx hb dX6_readSum_49 rfl (lv_at hl 1 rfl) ?_
            obtain ⟨n_5, h⟩ := h
            refine ev_v C hd kwRX6_X6_advance_29 (cC_X6_advance n_5 h) ⟨rfl, rfl⟩ (rG_lf d (by decide) (by decide)) rcC6 hl.1 rfl rfl (Nat.le_of_ble_eq_true rfl) ⟨Nat.zero_le _, Nat.zero_le _⟩ dX6_readSum_50 (fun k_5 H locs h hd => ?_)
            refine lv_aload_n hx hb dX6_readSum_53 rfl (lv_at hl 1 rfl) ?_
            refine lv_iload_n hx hb dX6_readSum_54 rfl (lv_at hl 2 rfl) ?_
            refine ev_v C hd kwRX6_X6_readTerm_71 (hE4 _ _ _ h) ⟨rfl, rfl⟩ (rG_ok d (by decide)) rcC6 hl.1 rfl rfl (Nat.le_of_ble_eq_true rfl) ⟨Nat.zero_le _, Nat.zero_le _⟩ dX6_readSum_55 (fun k_6 H locs h hd => ?_)
            refine lv_aload_n hx hb dX6_readSum_58 rfl (lv_at hl 1 rfl) ?_
            refine lv_iload_n hx hb dX6_readSum_59 rfl (lv_at hl 0 rfl) ?_
            refine ev_v C hd kwRX6_X6_write_62 (cC_X6_write _ h) ⟨rfl, rfl⟩ (rG_lf d (by decide) (by decide)) rcC6 hl.1 rfl rfl (Nat.le_of_ble_eq_true rfl) ⟨Nat.zero_le _, Nat.zero_le _⟩ dX6_readSum_60 (fun k_7 H locs h hd => ?_)
            refine lv_iinc (v := (x2 + (1 : Int32))) (lv' := [(2, .int (x2 + (1 : Int32))), (3, .int (-26 : Int32)), (0, .ref (a 6)), (1, .int x1)]) hx hb dX6_readSum_63 hl (k := 3) rfl rfl (by decide) rfl (fun ls hl => ?_)
            refine lv_goto (tgt := 7) hx hb dX6_readSum_66 (by decide) ?_
            exact ih x1 (x2 + (1 : Int32))  _ _ _ _ h hd (lv_sub hl [2, 3, 0] rfl)
          · replace h := h.2 c_4
            refine lv_bipush (v := -25) hx hb dX6_readSum_41 (by decide) ?_
            refine lv_goto (tgt := 48) hx hb dX6_readSum_43 (by decide) ?_
            refine lv_istore_n (lv' := [(3, .int (-25 : Int32)), (0, .ref (a 6)), (1, .int x1), (2, .int x2)]) hx hb dX6_readSum_48 rfl hl (by decide) rfl (fun ls hl => ?_)
            refine lv_aload_n hx hb dX6_readSum_49 rfl (lv_at hl 1 rfl) ?_
            obtain ⟨n_8, h⟩ := h
            refine ev_v C hd kwRX6_X6_advance_29 (cC_X6_advance n_8 h) ⟨rfl, rfl⟩ (rG_lf d (by decide) (by decide)) rcC6 hl.1 rfl rfl (Nat.le_of_ble_eq_true rfl) ⟨Nat.zero_le _, Nat.zero_le _⟩ dX6_readSum_50 (fun k_8 H locs h hd => ?_)
            refine lv_aload_n hx hb dX6_readSum_53 rfl (lv_at hl 1 rfl) ?_
            refine lv_iload_n hx hb dX6_readSum_54 rfl (lv_at hl 2 rfl) ?_
            refine ev_v C hd kwRX6_X6_readTerm_71 (hE4 _ _ _ h) ⟨rfl, rfl⟩ (rG_ok d (by decide)) rcC6 hl.1 rfl rfl (Nat.le_of_ble_eq_true rfl) ⟨Nat.zero_le _, Nat.zero_le _⟩ dX6_readSum_55 (fun k_9 H locs h hd => ?_)
            refine lv_aload_n hx hb dX6_readSum_58 rfl (lv_at hl 1 rfl) ?_
            refine lv_iload_n hx hb dX6_readSum_59 rfl (lv_at hl 0 rfl) ?_
            refine ev_v C hd kwRX6_X6_write_62 (cC_X6_write _ h) ⟨rfl, rfl⟩ (rG_lf d (by decide) (by decide)) rcC6 hl.1 rfl rfl (Nat.le_of_ble_eq_true rfl) ⟨Nat.zero_le _, Nat.zero_le _⟩ dX6_readSum_60 (fun k_10 H locs h hd => ?_)
            refine lv_iinc (v := (x2 + (1 : Int32))) (lv' := [(2, .int (x2 + (1 : Int32))), (3, .int (-25 : Int32)), (0, .ref (a 6)), (1, .int x1)]) hx hb dX6_readSum_63 hl (k := 3) rfl rfl (by decide) rfl (fun ls hl => ?_)
            refine lv_goto (tgt := 7) hx hb dX6_readSum_66 (by decide) ?_
            exact ih x1 (x2 + (1 : Int32))  _ _ _ _ h hd (lv_sub hl [2, 3, 0] rfl)
        · replace h := h.2 c_3
          refine lv_aload_n hx hb dX6_readSum_23 rfl (lv_at hl 0 rfl) ?_
          refine gC6_6_2 C hd (v := k.1 6 2) rfl dX6_readSum_24 ?_
          refine lv_bipush (v := 45) hx hb dX6_readSum_27 (by decide) ?_
          refine lv_icmp_ne (tgt := 69) hx hb dX6_readSum_29 (by decide) (fun c_11 => ?_) (fun c_11 => ?_)
          · replace h := h.1 c_11
            exact ret hd h dX6_readSum_69
          · replace h := h.2 c_11
            refine lv_aload_n hx hb dX6_readSum_32 rfl (lv_at hl 0 rfl) ?_
            refine gC6_6_2 C hd (v := k.1 6 2) rfl dX6_readSum_33 ?_
            refine lv_bipush (v := 43) hx hb dX6_readSum_36 (by decide) ?_
            refine lv_icmp_ne (tgt := 46) hx hb dX6_readSum_38 (by decide) (fun c_12 => ?_) (fun c_12 => ?_)
            · replace h := h.1 c_12
              refine lv_bipush (v := -26) hx hb dX6_readSum_46 (by decide) ?_
              refine lv_istore_n (lv' := [(3, .int (-26 : Int32)), (0, .ref (a 6)), (1, .int x1), (2, .int x2)]) hx hb dX6_readSum_48 rfl hl (by decide) rfl (fun ls hl => ?_)
              refine lv_aload_n hx hb dX6_readSum_49 rfl (lv_at hl 1 rfl) ?_
              obtain ⟨n_13, h⟩ := h
              refine ev_v C hd kwRX6_X6_advance_29 (cC_X6_advance n_13 h) ⟨rfl, rfl⟩ (rG_lf d (by decide) (by decide)) rcC6 hl.1 rfl rfl (Nat.le_of_ble_eq_true rfl) ⟨Nat.zero_le _, Nat.zero_le _⟩ dX6_readSum_50 (fun k_13 H locs h hd => ?_)
              refine lv_aload_n hx hb dX6_readSum_53 rfl (lv_at hl 1 rfl) ?_
              refine lv_iload_n hx hb dX6_readSum_54 rfl (lv_at hl 2 rfl) ?_
              refine ev_v C hd kwRX6_X6_readTerm_71 (hE4 _ _ _ h) ⟨rfl, rfl⟩ (rG_ok d (by decide)) rcC6 hl.1 rfl rfl (Nat.le_of_ble_eq_true rfl) ⟨Nat.zero_le _, Nat.zero_le _⟩ dX6_readSum_55 (fun k_14 H locs h hd => ?_)
              refine lv_aload_n hx hb dX6_readSum_58 rfl (lv_at hl 1 rfl) ?_
              refine lv_iload_n hx hb dX6_readSum_59 rfl (lv_at hl 0 rfl) ?_
              refine ev_v C hd kwRX6_X6_write_62 (cC_X6_write _ h) ⟨rfl, rfl⟩ (rG_lf d (by decide) (by decide)) rcC6 hl.1 rfl rfl (Nat.le_of_ble_eq_true rfl) ⟨Nat.zero_le _, Nat.zero_le _⟩ dX6_readSum_60 (fun k_15 H locs h hd => ?_)
              refine lv_iinc (v := (x2 + (1 : Int32))) (lv' := [(2, .int (x2 + (1 : Int32))), (3, .int (-26 : Int32)), (0, .ref (a 6)), (1, .int x1)]) hx hb dX6_readSum_63 hl (k := 3) rfl rfl (by decide) rfl (fun ls hl => ?_)
              refine lv_goto (tgt := 7) hx hb dX6_readSum_66 (by decide) ?_
              exact ih x1 (x2 + (1 : Int32))  _ _ _ _ h hd (lv_sub hl [2, 3, 0] rfl)
            · replace h := h.2 c_12
              refine lv_bipush (v := -25) hx hb dX6_readSum_41 (by decide) ?_
              refine lv_goto (tgt := 48) hx hb dX6_readSum_43 (by decide) ?_
              refine lv_istore_n (lv' := [(3, .int (-25 : Int32)), (0, .ref (a 6)), (1, .int x1), (2, .int x2)]) hx hb dX6_readSum_48 rfl hl (by decide) rfl (fun ls hl => ?_)
              refine lv_aload_n hx hb dX6_readSum_49 rfl (lv_at hl 1 rfl) ?_
              obtain ⟨n_16, h⟩ := h
              refine ev_v C hd kwRX6_X6_advance_29 (cC_X6_advance n_16 h) ⟨rfl, rfl⟩ (rG_lf d (by decide) (by decide)) rcC6 hl.1 rfl rfl (Nat.le_of_ble_eq_true rfl) ⟨Nat.zero_le _, Nat.zero_le _⟩ dX6_readSum_50 (fun k_16 H locs h hd => ?_)
              refine lv_aload_n hx hb dX6_readSum_53 rfl (lv_at hl 1 rfl) ?_
              refine lv_iload_n hx hb dX6_readSum_54 rfl (lv_at hl 2 rfl) ?_
              refine ev_v C hd kwRX6_X6_readTerm_71 (hE4 _ _ _ h) ⟨rfl, rfl⟩ (rG_ok d (by decide)) rcC6 hl.1 rfl rfl (Nat.le_of_ble_eq_true rfl) ⟨Nat.zero_le _, Nat.zero_le _⟩ dX6_readSum_55 (fun k_17 H locs h hd => ?_)
              refine lv_aload_n hx hb dX6_readSum_58 rfl (lv_at hl 1 rfl) ?_
              refine lv_iload_n hx hb dX6_readSum_59 rfl (lv_at hl 0 rfl) ?_
              refine ev_v C hd kwRX6_X6_write_62 (cC_X6_write _ h) ⟨rfl, rfl⟩ (rG_lf d (by decide) (by decide)) rcC6 hl.1 rfl rfl (Nat.le_of_ble_eq_true rfl) ⟨Nat.zero_le _, Nat.zero_le _⟩ dX6_readSum_60 (fun k_18 H locs h hd => ?_)
              refine lv_iinc (v := (x2 + (1 : Int32))) (lv' := [(2, .int (x2 + (1 : Int32))), (3, .int (-25 : Int32)), (0, .ref (a 6)), (1, .int x1)]) hx hb dX6_readSum_63 hl (k := 3) rfl rfl (by decide) rfl (fun ls hl => ?_)
              refine lv_goto (tgt := 7) hx hb dX6_readSum_66 (by decide) ?_
              exact ih x1 (x2 + (1 : Int32))  _ _ _ _ h hd (lv_sub hl [2, 3, 0] rfl)
  cases n with
  | zero => exact h.elim
  | succ n =>
    replace h : (E 4 x1 k (fun k_1 => wC_X6_readSum a E n 1 x1 (0 : Int32) k_1 Qp)) := h
    refine lv_aload_n hx hb dX6_readSum_0 rfl (lv_at hl 0 rfl) ?_
    refine lv_iload_n hx hb dX6_readSum_1 rfl (lv_at hl 1 rfl) ?_
    refine ev_v C hd kwRX6_X6_readTerm_71 (hE4 _ _ _ h) ⟨rfl, rfl⟩ (rG_ok d (by decide)) rcC6 hl.1 rfl rfl (Nat.le_of_ble_eq_true rfl) ⟨Nat.zero_le _, Nat.zero_le _⟩ dX6_readSum_2 (fun k_1 H locs h hd => ?_)
    refine lv_iconst (v := 0) hx hb dX6_readSum_5 (by decide) ?_
    refine lv_istore_n (lv' := [(2, .int (0 : Int32)), (0, .ref (a 6)), (1, .int x1)]) hx hb dX6_readSum_6 rfl hl (by decide) rfl (fun ls hl => ?_)
    exact L n x1 (0 : Int32)  _ _ _ _ h hd (lv_sub hl [1, 2, 0] rfl)
def wC_X6_readTerm (a : Nat → Nat) (E : Nat → Int32 → KC → (KC → Prop) → Prop) : Nat → Nat → Int32 → Int32 → KC → (KC → Prop) → Prop
  | 0, _, _, _, _, _ => False
  | n + 1, c, x1, x2, k, Q => match c with
    | 0 => (E 5 x1 k (fun k_1 => wC_X6_readTerm a E n 1 x1 (0 : Int32) k_1 Q))
    | _ => (((160 : Int32) ≤ x2 → Q k) ∧ (¬ (160 : Int32) ≤ x2 → ((¬ (k.1 6 2) = (42 : Int32) → Q k) ∧ ((k.1 6 2) = (42 : Int32) → (∃ n_4 : Nat, wC_X6_advance a n_4 0 0 k (fun k_4 => (E 5 x1 k_4 (fun k_5 => (wC_X6_write (-27 : Int32) k_5 (fun k_6 => wC_X6_readTerm a E n 1 x1 (x2 + (1 : Int32)) k_6 Q))))))))))
set_option maxHeartbeats 4000000 in
set_option maxRecDepth 100000 in
theorem cC_X6_readTerm {l : Launch} {P : EP} {D : va_G} {a : Nat → Nat} {b : Nat → Nat → Nat} {g : Nat → ClassId} (d : Nat) (E : Nat → Int32 → KC → (KC → Prop) → Prop) (hE0 : ∀ (x : Int32) (k : KC) (Qp : KC → Prop), E 0 x k Qp → Dv l P D (tyA g) (wC a b g) yX6_readOr cX6_readOr 3 (rG d) [.ref (a 6), .int x] k Qp) (hE1 : ∀ (x : Int32) (k : KC) (Qp : KC → Prop), E 1 x k Qp → Dv l P D (tyA g) (wC a b g) yX6_readAnd cX6_readAnd 3 (rG d) [.ref (a 6), .int x] k Qp) (hE2 : ∀ (x : Int32) (k : KC) (Qp : KC → Prop), E 2 x k Qp → Dv l P D (tyA g) (wC a b g) yX6_readNot cX6_readNot 3 (rG d) [.ref (a 6), .int x] k Qp) (hE3 : ∀ (x : Int32) (k : KC) (Qp : KC → Prop), E 3 x k Qp → Dv l P D (tyA g) (wC a b g) yX6_readSum cX6_readSum 4 (rG d) [.ref (a 6), .int x] k Qp) (hE4 : ∀ (x : Int32) (k : KC) (Qp : KC → Prop), E 4 x k Qp → Dv l P D (tyA g) (wC a b g) yX6_readTerm cX6_readTerm 3 (rG d) [.ref (a 6), .int x] k Qp) (hE5 : ∀ (x : Int32) (k : KC) (Qp : KC → Prop), E 5 x k Qp → Dv l P D (tyA g) (wC a b g) yX6_readOne cX6_readOne 2 (rG d) [.ref (a 6), .int x] k Qp) {k : KC} {Qp : KC → Prop} (n : Nat) (x1 : Int32) (h : wC_X6_readTerm a E n 0 x1 0 k Qp) : Dv l P D (tyA g) (wC a b g) yX6_readTerm cX6_readTerm 3 (rG (d + 1)) [.ref (a 6), .int x1] k Qp := by
  refine Dv_of (by decide) (Nat.le_of_ble_eq_true rfl) ?_
  intro p e s m args below meth c A Z ls C ret hd hl
  have hx := C.1
  have hb := C.2.1
  have hl : lv_has ls 3 [(0, .ref (a 6)), (1, .int x1)] := hl
  have L : ∀ n : Nat, (∀ (x1 : Int32) (x2 : Int32) (k : KC) (H : Heap) (locs : List Loc) (ls : Array Slot), wC_X6_readTerm a E n 1 x1 x2 k Qp → Hd D (wC a b g k) A s H locs → lv_has ls 3 [(0, .ref (a 6)), (1, .int x1), (2, .int x2)] → W p l e (rG (d + 1)) s m args below meth c H locs 0 0 Z (F0 m 7 ls [])) := by
    intro n
    induction n with
    | zero => exact fun _ _ _ _ _ _ h => h.elim
    | succ n ih =>
      intro x1 x2 k H locs ls h hd hl
      replace h : (((160 : Int32) ≤ x2 → Qp k) ∧ (¬ (160 : Int32) ≤ x2 → ((¬ (k.1 6 2) = (42 : Int32) → Qp k) ∧ ((k.1 6 2) = (42 : Int32) → (∃ n_4 : Nat, wC_X6_advance a n_4 0 0 k (fun k_4 => (E 5 x1 k_4 (fun k_5 => (wC_X6_write (-27 : Int32) k_5 (fun k_6 => wC_X6_readTerm a E n 1 x1 (x2 + (1 : Int32)) k_6 Qp)))))))))) := h
      refine lv_iload_n hx hb dX6_readTerm_7 rfl (lv_at hl 2 rfl) ?_
      refine lv_sipush (v := 160) hx hb dX6_readTerm_8 (by decide) ?_
      refine lv_icmp_ge (tgt := 44) hx hb dX6_readTerm_11 (by decide) (fun c_2 => ?_) (fun c_2 => ?_)
      · replace h := h.1 c_2
        exact ret hd h dX6_readTerm_44
      · replace h := h.2 c_2
        refine lv_aload_n hx hb dX6_readTerm_14 rfl (lv_at hl 0 rfl) ?_
        refine gC6_6_2 C hd (v := k.1 6 2) rfl dX6_readTerm_15 ?_
        refine lv_bipush (v := 42) hx hb dX6_readTerm_18 (by decide) ?_
        refine lv_icmp_ne (tgt := 44) hx hb dX6_readTerm_20 (by decide) (fun c_3 => ?_) (fun c_3 => ?_)
        · replace h := h.1 c_3
          exact ret hd h dX6_readTerm_44
        · replace h := h.2 c_3
          refine lv_aload_n hx hb dX6_readTerm_23 rfl (lv_at hl 0 rfl) ?_
          obtain ⟨n_4, h⟩ := h
          refine ev_v C hd kwRX6_X6_advance_29 (cC_X6_advance n_4 h) ⟨rfl, rfl⟩ (rG_lf d (by decide) (by decide)) rcC6 hl.1 rfl rfl (Nat.le_of_ble_eq_true rfl) ⟨Nat.zero_le _, Nat.zero_le _⟩ dX6_readTerm_24 (fun k_4 H locs h hd => ?_)
          refine lv_aload_n hx hb dX6_readTerm_27 rfl (lv_at hl 0 rfl) ?_
          refine lv_iload_n hx hb dX6_readTerm_28 rfl (lv_at hl 1 rfl) ?_
          refine ev_v C hd kwRX6_X6_readOne_74 (hE5 _ _ _ h) ⟨rfl, rfl⟩ (rG_ok d (by decide)) rcC6 hl.1 rfl rfl (Nat.le_of_ble_eq_true rfl) ⟨Nat.zero_le _, Nat.zero_le _⟩ dX6_readTerm_29 (fun k_5 H locs h hd => ?_)
          refine lv_aload_n hx hb dX6_readTerm_32 rfl (lv_at hl 0 rfl) ?_
          refine lv_bipush (v := -27) hx hb dX6_readTerm_33 (by decide) ?_
          refine ev_v C hd kwRX6_X6_write_62 (cC_X6_write _ h) ⟨rfl, rfl⟩ (rG_lf d (by decide) (by decide)) rcC6 hl.1 rfl rfl (Nat.le_of_ble_eq_true rfl) ⟨Nat.zero_le _, Nat.zero_le _⟩ dX6_readTerm_35 (fun k_6 H locs h hd => ?_)
          refine lv_iinc (v := (x2 + (1 : Int32))) (lv' := [(2, .int (x2 + (1 : Int32))), (0, .ref (a 6)), (1, .int x1)]) hx hb dX6_readTerm_38 hl (k := 2) rfl rfl (by decide) rfl (fun ls hl => ?_)
          refine lv_goto (tgt := 7) hx hb dX6_readTerm_41 (by decide) ?_
          exact ih x1 (x2 + (1 : Int32))  _ _ _ _ h hd (lv_sub hl [1, 2, 0] rfl)
  cases n with
  | zero => exact h.elim
  | succ n =>
    replace h : (E 5 x1 k (fun k_1 => wC_X6_readTerm a E n 1 x1 (0 : Int32) k_1 Qp)) := h
    refine lv_aload_n hx hb dX6_readTerm_0 rfl (lv_at hl 0 rfl) ?_
    refine lv_iload_n hx hb dX6_readTerm_1 rfl (lv_at hl 1 rfl) ?_
    refine ev_v C hd kwRX6_X6_readOne_74 (hE5 _ _ _ h) ⟨rfl, rfl⟩ (rG_ok d (by decide)) rcC6 hl.1 rfl rfl (Nat.le_of_ble_eq_true rfl) ⟨Nat.zero_le _, Nat.zero_le _⟩ dX6_readTerm_2 (fun k_1 H locs h hd => ?_)
    refine lv_iconst (v := 0) hx hb dX6_readTerm_5 (by decide) ?_
    refine lv_istore_n (lv' := [(2, .int (0 : Int32)), (0, .ref (a 6)), (1, .int x1)]) hx hb dX6_readTerm_6 rfl hl (by decide) rfl (fun ls hl => ?_)
    exact L n x1 (0 : Int32)  _ _ _ _ h hd (lv_sub hl [1, 2, 0] rfl)
def wC_X6_readOne (a : Nat → Nat) (E : Nat → Int32 → KC → (KC → Prop) → Prop) (x1 : Int32) (k : KC) (Q : KC → Prop) : Prop := (((k.1 6 2) = (2 : Int32) → (wC_X6_write (k.1 6 4) k (fun k_2 => (∃ n_3 : Nat, wC_X6_advance a n_3 0 0 k_2 (fun k_3 => Q k_3))))) ∧ (¬ (k.1 6 2) = (2 : Int32) → ((¬ (k.1 6 2) = (3 : Int32) → ((¬ (k.1 6 2) = (45 : Int32) → ((¬ (k.1 6 2) = (40 : Int32) → (wC_X6_refuse k (fun k_7 => Q k_7))) ∧ ((k.1 6 2) = (40 : Int32) → (((5 : Int32) ≤ x1 → (wC_X6_refuse k (fun k_9 => Q k_9))) ∧ (¬ (5 : Int32) ≤ x1 → (∃ n_10 : Nat, wC_X6_advance a n_10 0 0 k (fun k_10 => (E 0 (x1 + (1 : Int32)) k_10 (fun k_11 => (wC_X6_expect a (41 : Int32) k_11 (fun k_12 => Q k_12))))))))))) ∧ ((k.1 6 2) = (45 : Int32) → (((5 : Int32) ≤ x1 → ((¬ (k.1 6 2) = (40 : Int32) → (wC_X6_refuse k (fun k_15 => Q k_15))) ∧ ((k.1 6 2) = (40 : Int32) → (((5 : Int32) ≤ x1 → (wC_X6_refuse k (fun k_17 => Q k_17))) ∧ (¬ (5 : Int32) ≤ x1 → (∃ n_18 : Nat, wC_X6_advance a n_18 0 0 k (fun k_18 => (E 0 (x1 + (1 : Int32)) k_18 (fun k_19 => (wC_X6_expect a (41 : Int32) k_19 (fun k_20 => Q k_20))))))))))) ∧ (¬ (5 : Int32) ≤ x1 → (∃ n_21 : Nat, wC_X6_advance a n_21 0 0 k (fun k_21 => (E 5 (x1 + (1 : Int32)) k_21 (fun k_22 => (wC_X6_write (-11 : Int32) k_22 (fun k_23 => Q k_23))))))))))) ∧ ((k.1 6 2) = (3 : Int32) → (wC_X6_write (k.1 6 4) k (fun k_24 => (∃ n_25 : Nat, wC_X6_advance a n_25 0 0 k_24 (fun k_25 => Q k_25))))))))
set_option maxHeartbeats 4000000 in
set_option maxRecDepth 100000 in
theorem cC_X6_readOne {l : Launch} {P : EP} {D : va_G} {a : Nat → Nat} {b : Nat → Nat → Nat} {g : Nat → ClassId} (d : Nat) (E : Nat → Int32 → KC → (KC → Prop) → Prop) (hE0 : ∀ (x : Int32) (k : KC) (Qp : KC → Prop), E 0 x k Qp → Dv l P D (tyA g) (wC a b g) yX6_readOr cX6_readOr 3 (rG d) [.ref (a 6), .int x] k Qp) (hE1 : ∀ (x : Int32) (k : KC) (Qp : KC → Prop), E 1 x k Qp → Dv l P D (tyA g) (wC a b g) yX6_readAnd cX6_readAnd 3 (rG d) [.ref (a 6), .int x] k Qp) (hE2 : ∀ (x : Int32) (k : KC) (Qp : KC → Prop), E 2 x k Qp → Dv l P D (tyA g) (wC a b g) yX6_readNot cX6_readNot 3 (rG d) [.ref (a 6), .int x] k Qp) (hE3 : ∀ (x : Int32) (k : KC) (Qp : KC → Prop), E 3 x k Qp → Dv l P D (tyA g) (wC a b g) yX6_readSum cX6_readSum 4 (rG d) [.ref (a 6), .int x] k Qp) (hE4 : ∀ (x : Int32) (k : KC) (Qp : KC → Prop), E 4 x k Qp → Dv l P D (tyA g) (wC a b g) yX6_readTerm cX6_readTerm 3 (rG d) [.ref (a 6), .int x] k Qp) (hE5 : ∀ (x : Int32) (k : KC) (Qp : KC → Prop), E 5 x k Qp → Dv l P D (tyA g) (wC a b g) yX6_readOne cX6_readOne 2 (rG d) [.ref (a 6), .int x] k Qp) {k : KC} {Qp : KC → Prop} (x1 : Int32) (h : wC_X6_readOne a E x1 k Qp) : Dv l P D (tyA g) (wC a b g) yX6_readOne cX6_readOne 2 (rG (d + 1)) [.ref (a 6), .int x1] k Qp := by
  refine Dv_of (by decide) (Nat.le_of_ble_eq_true rfl) ?_
  intro p e s m args below meth c A Z ls C ret hd hl
  have hx := C.1
  have hb := C.2.1
  have hl : lv_has ls 2 [(0, .ref (a 6)), (1, .int x1)] := hl
  replace h : (((k.1 6 2) = (2 : Int32) → (wC_X6_write (k.1 6 4) k (fun k_2 => (∃ n_3 : Nat, wC_X6_advance a n_3 0 0 k_2 (fun k_3 => Qp k_3))))) ∧ (¬ (k.1 6 2) = (2 : Int32) → ((¬ (k.1 6 2) = (3 : Int32) → ((¬ (k.1 6 2) = (45 : Int32) → ((¬ (k.1 6 2) = (40 : Int32) → (wC_X6_refuse k (fun k_7 => Qp k_7))) ∧ ((k.1 6 2) = (40 : Int32) → (((5 : Int32) ≤ x1 → (wC_X6_refuse k (fun k_9 => Qp k_9))) ∧ (¬ (5 : Int32) ≤ x1 → (∃ n_10 : Nat, wC_X6_advance a n_10 0 0 k (fun k_10 => (E 0 (x1 + (1 : Int32)) k_10 (fun k_11 => (wC_X6_expect a (41 : Int32) k_11 (fun k_12 => Qp k_12))))))))))) ∧ ((k.1 6 2) = (45 : Int32) → (((5 : Int32) ≤ x1 → ((¬ (k.1 6 2) = (40 : Int32) → (wC_X6_refuse k (fun k_15 => Qp k_15))) ∧ ((k.1 6 2) = (40 : Int32) → (((5 : Int32) ≤ x1 → (wC_X6_refuse k (fun k_17 => Qp k_17))) ∧ (¬ (5 : Int32) ≤ x1 → (∃ n_18 : Nat, wC_X6_advance a n_18 0 0 k (fun k_18 => (E 0 (x1 + (1 : Int32)) k_18 (fun k_19 => (wC_X6_expect a (41 : Int32) k_19 (fun k_20 => Qp k_20))))))))))) ∧ (¬ (5 : Int32) ≤ x1 → (∃ n_21 : Nat, wC_X6_advance a n_21 0 0 k (fun k_21 => (E 5 (x1 + (1 : Int32)) k_21 (fun k_22 => (wC_X6_write (-11 : Int32) k_22 (fun k_23 => Qp k_23))))))))))) ∧ ((k.1 6 2) = (3 : Int32) → (wC_X6_write (k.1 6 4) k (fun k_24 => (∃ n_25 : Nat, wC_X6_advance a n_25 0 0 k_24 (fun k_25 => Qp k_25)))))))) := h
  refine lv_aload_n hx hb dX6_readOne_0 rfl (lv_at hl 0 rfl) ?_
  refine gC6_6_2 C hd (v := k.1 6 2) rfl dX6_readOne_1 ?_
  refine lv_iconst (v := 2) hx hb dX6_readOne_4 (by decide) ?_
  refine lv_icmp_eq (tgt := 16) hx hb dX6_readOne_5 (by decide) (fun c_1 => ?_) (fun c_1 => ?_)
  · replace h := h.1 c_1
    refine lv_aload_n hx hb dX6_readOne_16 rfl (lv_at hl 0 rfl) ?_
    refine lv_aload_n hx hb dX6_readOne_17 rfl (lv_at hl 0 rfl) ?_
    refine gC6_6_4 C hd (v := k.1 6 4) rfl dX6_readOne_18 ?_
    refine ev_v C hd kwRX6_X6_write_62 (cC_X6_write _ h) ⟨rfl, rfl⟩ (rG_lf d (by decide) (by decide)) rcC6 hl.1 rfl rfl (Nat.le_of_ble_eq_true rfl) ⟨Nat.zero_le _, Nat.zero_le _⟩ dX6_readOne_21 (fun k_2 H locs h hd => ?_)
    refine lv_aload_n hx hb dX6_readOne_24 rfl (lv_at hl 0 rfl) ?_
    obtain ⟨n_3, h⟩ := h
    refine ev_v C hd kwRX6_X6_advance_29 (cC_X6_advance n_3 h) ⟨rfl, rfl⟩ (rG_lf d (by decide) (by decide)) rcC6 hl.1 rfl rfl (Nat.le_of_ble_eq_true rfl) ⟨Nat.zero_le _, Nat.zero_le _⟩ dX6_readOne_25 (fun k_3 H locs h hd => ?_)
    refine lv_goto (tgt := 103) hx hb dX6_readOne_28 (by decide) ?_
    exact ret hd h dX6_readOne_103
  · replace h := h.2 c_1
    refine lv_aload_n hx hb dX6_readOne_8 rfl (lv_at hl 0 rfl) ?_
    refine gC6_6_2 C hd (v := k.1 6 2) rfl dX6_readOne_9 ?_
    refine lv_iconst (v := 3) hx hb dX6_readOne_12 (by decide) ?_
    refine lv_icmp_ne (tgt := 31) hx hb dX6_readOne_13 (by decide) (fun c_4 => ?_) (fun c_4 => ?_)
    · replace h := h.1 c_4
      refine lv_aload_n hx hb dX6_readOne_31 rfl (lv_at hl 0 rfl) ?_
      refine gC6_6_2 C hd (v := k.1 6 2) rfl dX6_readOne_32 ?_
      refine lv_bipush (v := 45) hx hb dX6_readOne_35 (by decide) ?_
      refine lv_icmp_ne (tgt := 65) hx hb dX6_readOne_37 (by decide) (fun c_5 => ?_) (fun c_5 => ?_)
      · replace h := h.1 c_5
        refine lv_aload_n hx hb dX6_readOne_65 rfl (lv_at hl 0 rfl) ?_
        refine gC6_6_2 C hd (v := k.1 6 2) rfl dX6_readOne_66 ?_
        refine lv_bipush (v := 40) hx hb dX6_readOne_69 (by decide) ?_
        refine lv_icmp_ne (tgt := 99) hx hb dX6_readOne_71 (by decide) (fun c_6 => ?_) (fun c_6 => ?_)
        · replace h := h.1 c_6
          refine lv_aload_n hx hb dX6_readOne_99 rfl (lv_at hl 0 rfl) ?_
          refine ev_v C hd kwRX6_X6_refuse_42 (cC_X6_refuse h) ⟨rfl, rfl⟩ (rG_lf d (by decide) (by decide)) rcC6 hl.1 rfl rfl (Nat.le_of_ble_eq_true rfl) ⟨Nat.zero_le _, Nat.zero_le _⟩ dX6_readOne_100 (fun k_7 H locs h hd => ?_)
          exact ret hd h dX6_readOne_103
        · replace h := h.2 c_6
          refine lv_iload_n hx hb dX6_readOne_74 rfl (lv_at hl 1 rfl) ?_
          refine lv_iconst (v := 5) hx hb dX6_readOne_75 (by decide) ?_
          refine lv_icmp_ge (tgt := 99) hx hb dX6_readOne_76 (by decide) (fun c_8 => ?_) (fun c_8 => ?_)
          · replace h := h.1 c_8
            refine lv_aload_n hx hb dX6_readOne_99 rfl (lv_at hl 0 rfl) ?_
            refine ev_v C hd kwRX6_X6_refuse_42 (cC_X6_refuse h) ⟨rfl, rfl⟩ (rG_lf d (by decide) (by decide)) rcC6 hl.1 rfl rfl (Nat.le_of_ble_eq_true rfl) ⟨Nat.zero_le _, Nat.zero_le _⟩ dX6_readOne_100 (fun k_9 H locs h hd => ?_)
            exact ret hd h dX6_readOne_103
          · replace h := h.2 c_8
            refine lv_aload_n hx hb dX6_readOne_79 rfl (lv_at hl 0 rfl) ?_
            obtain ⟨n_10, h⟩ := h
            refine ev_v C hd kwRX6_X6_advance_29 (cC_X6_advance n_10 h) ⟨rfl, rfl⟩ (rG_lf d (by decide) (by decide)) rcC6 hl.1 rfl rfl (Nat.le_of_ble_eq_true rfl) ⟨Nat.zero_le _, Nat.zero_le _⟩ dX6_readOne_80 (fun k_10 H locs h hd => ?_)
            refine lv_aload_n hx hb dX6_readOne_83 rfl (lv_at hl 0 rfl) ?_
            refine lv_iload_n hx hb dX6_readOne_84 rfl (lv_at hl 1 rfl) ?_
            refine lv_iconst (v := 1) hx hb dX6_readOne_85 (by decide) ?_
            refine lv_iadd hx hb dX6_readOne_86 ?_
            refine ev_v C hd kwRX6_X6_readOr_36 (hE0 _ _ _ h) ⟨rfl, rfl⟩ (rG_ok d (by decide)) rcC6 hl.1 rfl rfl (Nat.le_of_ble_eq_true rfl) ⟨Nat.zero_le _, Nat.zero_le _⟩ dX6_readOne_87 (fun k_11 H locs h hd => ?_)
            refine lv_aload_n hx hb dX6_readOne_90 rfl (lv_at hl 0 rfl) ?_
            refine lv_bipush (v := 41) hx hb dX6_readOne_91 (by decide) ?_
            refine ev_v C hd kwRX6_X6_expect_32 (cC_X6_expect _ h) ⟨rfl, rfl⟩ (rG_lf d (by decide) (by decide)) rcC6 hl.1 rfl rfl (Nat.le_of_ble_eq_true rfl) ⟨Nat.zero_le _, Nat.zero_le _⟩ dX6_readOne_93 (fun k_12 H locs h hd => ?_)
            refine lv_goto (tgt := 103) hx hb dX6_readOne_96 (by decide) ?_
            exact ret hd h dX6_readOne_103
      · replace h := h.2 c_5
        refine lv_iload_n hx hb dX6_readOne_40 rfl (lv_at hl 1 rfl) ?_
        refine lv_iconst (v := 5) hx hb dX6_readOne_41 (by decide) ?_
        refine lv_icmp_ge (tgt := 65) hx hb dX6_readOne_42 (by decide) (fun c_13 => ?_) (fun c_13 => ?_)
        · replace h := h.1 c_13
          refine lv_aload_n hx hb dX6_readOne_65 rfl (lv_at hl 0 rfl) ?_
          refine gC6_6_2 C hd (v := k.1 6 2) rfl dX6_readOne_66 ?_
          refine lv_bipush (v := 40) hx hb dX6_readOne_69 (by decide) ?_
          refine lv_icmp_ne (tgt := 99) hx hb dX6_readOne_71 (by decide) (fun c_14 => ?_) (fun c_14 => ?_)
          · replace h := h.1 c_14
            refine lv_aload_n hx hb dX6_readOne_99 rfl (lv_at hl 0 rfl) ?_
            refine ev_v C hd kwRX6_X6_refuse_42 (cC_X6_refuse h) ⟨rfl, rfl⟩ (rG_lf d (by decide) (by decide)) rcC6 hl.1 rfl rfl (Nat.le_of_ble_eq_true rfl) ⟨Nat.zero_le _, Nat.zero_le _⟩ dX6_readOne_100 (fun k_15 H locs h hd => ?_)
            exact ret hd h dX6_readOne_103
          · replace h := h.2 c_14
            refine lv_iload_n hx hb dX6_readOne_74 rfl (lv_at hl 1 rfl) ?_
            refine lv_iconst (v := 5) hx hb dX6_readOne_75 (by decide) ?_
            refine lv_icmp_ge (tgt := 99) hx hb dX6_readOne_76 (by decide) (fun c_16 => ?_) (fun c_16 => ?_)
            · replace h := h.1 c_16
              refine lv_aload_n hx hb dX6_readOne_99 rfl (lv_at hl 0 rfl) ?_
              refine ev_v C hd kwRX6_X6_refuse_42 (cC_X6_refuse h) ⟨rfl, rfl⟩ (rG_lf d (by decide) (by decide)) rcC6 hl.1 rfl rfl (Nat.le_of_ble_eq_true rfl) ⟨Nat.zero_le _, Nat.zero_le _⟩ dX6_readOne_100 (fun k_17 H locs h hd => ?_)
              exact ret hd h dX6_readOne_103
            · replace h := h.2 c_16
              refine lv_aload_n hx hb dX6_readOne_79 rfl (lv_at hl 0 rfl) ?_
              obtain ⟨n_18, h⟩ := h
              refine ev_v C hd kwRX6_X6_advance_29 (cC_X6_advance n_18 h) ⟨rfl, rfl⟩ (rG_lf d (by decide) (by decide)) rcC6 hl.1 rfl rfl (Nat.le_of_ble_eq_true rfl) ⟨Nat.zero_le _, Nat.zero_le _⟩ dX6_readOne_80 (fun k_18 H locs h hd => ?_)
              refine lv_aload_n hx hb dX6_readOne_83 rfl (lv_at hl 0 rfl) ?_
              refine lv_iload_n hx hb dX6_readOne_84 rfl (lv_at hl 1 rfl) ?_
              refine lv_iconst (v := 1) hx hb dX6_readOne_85 (by decide) ?_
              refine lv_iadd hx hb dX6_readOne_86 ?_
              refine ev_v C hd kwRX6_X6_readOr_36 (hE0 _ _ _ h) ⟨rfl, rfl⟩ (rG_ok d (by decide)) rcC6 hl.1 rfl rfl (Nat.le_of_ble_eq_true rfl) ⟨Nat.zero_le _, Nat.zero_le _⟩ dX6_readOne_87 (fun k_19 H locs h hd => ?_)
              refine lv_aload_n hx hb dX6_readOne_90 rfl (lv_at hl 0 rfl) ?_
              refine lv_bipush (v := 41) hx hb dX6_readOne_91 (by decide) ?_
              refine ev_v C hd kwRX6_X6_expect_32 (cC_X6_expect _ h) ⟨rfl, rfl⟩ (rG_lf d (by decide) (by decide)) rcC6 hl.1 rfl rfl (Nat.le_of_ble_eq_true rfl) ⟨Nat.zero_le _, Nat.zero_le _⟩ dX6_readOne_93 (fun k_20 H locs h hd => ?_)
              refine lv_goto (tgt := 103) hx hb dX6_readOne_96 (by decide) ?_
              exact ret hd h dX6_readOne_103
        · replace h := h.2 c_13
          refine lv_aload_n hx hb dX6_readOne_45 rfl (lv_at hl 0 rfl) ?_
          obtain ⟨n_21, h⟩ := h
          refine ev_v C hd kwRX6_X6_advance_29 (cC_X6_advance n_21 h) ⟨rfl, rfl⟩ (rG_lf d (by decide) (by decide)) rcC6 hl.1 rfl rfl (Nat.le_of_ble_eq_true rfl) ⟨Nat.zero_le _, Nat.zero_le _⟩ dX6_readOne_46 (fun k_21 H locs h hd => ?_)
          refine lv_aload_n hx hb dX6_readOne_49 rfl (lv_at hl 0 rfl) ?_
          refine lv_iload_n hx hb dX6_readOne_50 rfl (lv_at hl 1 rfl) ?_
          refine lv_iconst (v := 1) hx hb dX6_readOne_51 (by decide) ?_
          refine lv_iadd hx hb dX6_readOne_52 ?_
          refine ev_v C hd kwRX6_X6_readOne_74 (hE5 _ _ _ h) ⟨rfl, rfl⟩ (rG_ok d (by decide)) rcC6 hl.1 rfl rfl (Nat.le_of_ble_eq_true rfl) ⟨Nat.zero_le _, Nat.zero_le _⟩ dX6_readOne_53 (fun k_22 H locs h hd => ?_)
          refine lv_aload_n hx hb dX6_readOne_56 rfl (lv_at hl 0 rfl) ?_
          refine lv_bipush (v := -11) hx hb dX6_readOne_57 (by decide) ?_
          refine ev_v C hd kwRX6_X6_write_62 (cC_X6_write _ h) ⟨rfl, rfl⟩ (rG_lf d (by decide) (by decide)) rcC6 hl.1 rfl rfl (Nat.le_of_ble_eq_true rfl) ⟨Nat.zero_le _, Nat.zero_le _⟩ dX6_readOne_59 (fun k_23 H locs h hd => ?_)
          refine lv_goto (tgt := 103) hx hb dX6_readOne_62 (by decide) ?_
          exact ret hd h dX6_readOne_103
    · replace h := h.2 c_4
      refine lv_aload_n hx hb dX6_readOne_16 rfl (lv_at hl 0 rfl) ?_
      refine lv_aload_n hx hb dX6_readOne_17 rfl (lv_at hl 0 rfl) ?_
      refine gC6_6_4 C hd (v := k.1 6 4) rfl dX6_readOne_18 ?_
      refine ev_v C hd kwRX6_X6_write_62 (cC_X6_write _ h) ⟨rfl, rfl⟩ (rG_lf d (by decide) (by decide)) rcC6 hl.1 rfl rfl (Nat.le_of_ble_eq_true rfl) ⟨Nat.zero_le _, Nat.zero_le _⟩ dX6_readOne_21 (fun k_24 H locs h hd => ?_)
      refine lv_aload_n hx hb dX6_readOne_24 rfl (lv_at hl 0 rfl) ?_
      obtain ⟨n_25, h⟩ := h
      refine ev_v C hd kwRX6_X6_advance_29 (cC_X6_advance n_25 h) ⟨rfl, rfl⟩ (rG_lf d (by decide) (by decide)) rcC6 hl.1 rfl rfl (Nat.le_of_ble_eq_true rfl) ⟨Nat.zero_le _, Nat.zero_le _⟩ dX6_readOne_25 (fun k_25 H locs h hd => ?_)
      refine lv_goto (tgt := 103) hx hb dX6_readOne_28 (by decide) ?_
      exact ret hd h dX6_readOne_103
def wCg (a : Nat → Nat) : Nat → Nat → Int32 → KC → (KC → Prop) → Prop
  | 0, _, _, _, _ => False
  | d + 1, i, x, k, Q => match i with
    | 0 => ∃ n : Nat, wC_X6_readOr a (wCg a d) n 0 x 0 k Q
    | 1 => ∃ n : Nat, wC_X6_readAnd a (wCg a d) n 0 x 0 k Q
    | 2 => ∃ n : Nat, wC_X6_readNot a (wCg a d) n 0 x k Q
    | 3 => ∃ n : Nat, wC_X6_readSum a (wCg a d) n 0 x 0 k Q
    | 4 => ∃ n : Nat, wC_X6_readTerm a (wCg a d) n 0 x 0 k Q
    | _ => wC_X6_readOne a (wCg a d) x k Q
theorem cCg {l : Launch} {P : EP} {D : va_G} {a : Nat → Nat} {b : Nat → Nat → Nat} {g : Nat → ClassId} (d : Nat) : (∀ (x : Int32) (k : KC) (Qp : KC → Prop), wCg a d 0 x k Qp → Dv l P D (tyA g) (wC a b g) yX6_readOr cX6_readOr 3 (rG d) [.ref (a 6), .int x] k Qp) ∧ (∀ (x : Int32) (k : KC) (Qp : KC → Prop), wCg a d 1 x k Qp → Dv l P D (tyA g) (wC a b g) yX6_readAnd cX6_readAnd 3 (rG d) [.ref (a 6), .int x] k Qp) ∧ (∀ (x : Int32) (k : KC) (Qp : KC → Prop), wCg a d 2 x k Qp → Dv l P D (tyA g) (wC a b g) yX6_readNot cX6_readNot 3 (rG d) [.ref (a 6), .int x] k Qp) ∧ (∀ (x : Int32) (k : KC) (Qp : KC → Prop), wCg a d 3 x k Qp → Dv l P D (tyA g) (wC a b g) yX6_readSum cX6_readSum 4 (rG d) [.ref (a 6), .int x] k Qp) ∧ (∀ (x : Int32) (k : KC) (Qp : KC → Prop), wCg a d 4 x k Qp → Dv l P D (tyA g) (wC a b g) yX6_readTerm cX6_readTerm 3 (rG d) [.ref (a 6), .int x] k Qp) ∧ (∀ (x : Int32) (k : KC) (Qp : KC → Prop), wCg a d 5 x k Qp → Dv l P D (tyA g) (wC a b g) yX6_readOne cX6_readOne 2 (rG d) [.ref (a 6), .int x] k Qp) := by
  induction d with
  | zero => exact ⟨fun _ _ _ h => h.elim, fun _ _ _ h => h.elim, fun _ _ _ h => h.elim, fun _ _ _ h => h.elim, fun _ _ _ h => h.elim, fun _ _ _ h => h.elim⟩
  | succ d ih =>
    obtain ⟨h0, h1, h2, h3, h4, h5⟩ := ih
    exact ⟨(fun x _ _ h => by obtain ⟨n, h⟩ := h; exact cC_X6_readOr d (wCg a d) h0 h1 h2 h3 h4 h5 n x h), (fun x _ _ h => by obtain ⟨n, h⟩ := h; exact cC_X6_readAnd d (wCg a d) h0 h1 h2 h3 h4 h5 n x h), (fun x _ _ h => by obtain ⟨n, h⟩ := h; exact cC_X6_readNot d (wCg a d) h0 h1 h2 h3 h4 h5 n x h), (fun x _ _ h => by obtain ⟨n, h⟩ := h; exact cC_X6_readSum d (wCg a d) h0 h1 h2 h3 h4 h5 n x h), (fun x _ _ h => by obtain ⟨n, h⟩ := h; exact cC_X6_readTerm d (wCg a d) h0 h1 h2 h3 h4 h5 n x h), (fun x _ _ h => cC_X6_readOne d (wCg a d) h0 h1 h2 h3 h4 h5 x h)⟩
theorem cCg_readOr {l : Launch} {P : EP} {D : va_G} {a : Nat → Nat} {b : Nat → Nat → Nat} {g : Nat → ClassId} {k : KC} {Qp : KC → Prop} (x : Int32) (h : wCg a 44 0 x k Qp) : Dv l P D (tyA g) (wC a b g) yX6_readOr cX6_readOr 3 (rG 44) [.ref (a 6), .int x] k Qp := (cCg 44).1 _ _ _ h
