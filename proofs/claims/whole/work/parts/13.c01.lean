def wC_bounded (x0 : Int32) (x1 : Int32) (x2 : Int32) (k : KC) (Q : Int32 → KC → Prop) : Prop := ((x1 ≤ x0 → ((x0 ≤ x2 → Q x0 k) ∧ (¬ x0 ≤ x2 → Q x2 k))) ∧ (¬ x1 ≤ x0 → Q x1 k))
set_option maxHeartbeats 4000000 in
set_option maxRecDepth 100000 in
theorem cC_bounded {l : Launch} {P : EP} {D : va_G} {a : Nat → Nat} {b : Nat → Nat → Nat} {g : Nat → ClassId} {k : KC} {Qp : Int32 → KC → Prop} (x0 : Int32) (x1 : Int32) (x2 : Int32) (h : wC_bounded x0 x1 x2 k Qp) : Di l P D (tyA g) (wC a b g) yX9_bounded cX9_bounded 3 ({ frames := 0, cells := 0, slots := 0, locals := 0 }) [.int x0, .int x1, .int x2] k Qp := by
  refine Di_of (by decide) (Nat.le_of_ble_eq_true rfl) ?_
  intro p e s m args below meth c A Z ls C ret hd hl
  have hx := C.1
  have hb := C.2.1
  have hl : lv_has ls 3 [(0, .int x0), (1, .int x1), (2, .int x2)] := hl
  replace h : ((x1 ≤ x0 → ((x0 ≤ x2 → Qp x0 k) ∧ (¬ x0 ≤ x2 → Qp x2 k))) ∧ (¬ x1 ≤ x0 → Qp x1 k)) := h
  refine lv_iload_n hx hb dX9_bounded_0 rfl (lv_at hl 0 rfl) ?_
  refine lv_iload_n hx hb dX9_bounded_1 rfl (lv_at hl 1 rfl) ?_
  refine lv_icmp_ge (tgt := 7) hx hb dX9_bounded_2 (by decide) (fun c_1 => ?_) (fun c_1 => ?_)
  · replace h := h.1 c_1
    refine lv_iload_n hx hb dX9_bounded_7 rfl (lv_at hl 0 rfl) ?_
    refine lv_iload_n hx hb dX9_bounded_8 rfl (lv_at hl 2 rfl) ?_
    refine lv_icmp_le (tgt := 16) hx hb dX9_bounded_9 (by decide) (fun c_2 => ?_) (fun c_2 => ?_)
    · replace h := h.1 c_2
      refine lv_iload_n hx hb dX9_bounded_16 rfl (lv_at hl 0 rfl) ?_
      exact ret hd h dX9_bounded_17
    · replace h := h.2 c_2
      refine lv_iload_n hx hb dX9_bounded_12 rfl (lv_at hl 2 rfl) ?_
      refine lv_goto (tgt := 17) hx hb dX9_bounded_13 (by decide) ?_
      exact ret hd h dX9_bounded_17
  · replace h := h.2 c_1
    refine lv_iload_n hx hb dX9_bounded_5 rfl (lv_at hl 1 rfl) ?_
    exact ret hd h dX9_bounded_6
def wC_leastOf : Nat → Nat → Int32 → Int32 → KC → (Int32 → KC → Prop) → Prop
  | 0, _, _, _, _, _ => False
  | n + 1, c, x0, x1, k, Q => match c with
    | 0 => wC_leastOf n 1 x0 (0 : Int32) k Q
    | _ => (((7 : Int32) ≤ x1 → Q x1 k) ∧ (¬ (7 : Int32) ≤ x1 → (wC_isOn x0 x1 k (fun r_2 k_2 => ((¬ r_2 = 0 → Q x1 k_2) ∧ (r_2 = 0 → wC_leastOf n 1 x0 (x1 + (1 : Int32)) k_2 Q))))))
set_option maxHeartbeats 4000000 in
set_option maxRecDepth 100000 in
theorem cC_leastOf {l : Launch} {P : EP} {D : va_G} {a : Nat → Nat} {b : Nat → Nat → Nat} {g : Nat → ClassId} {k : KC} {Qp : Int32 → KC → Prop} (n : Nat) (x0 : Int32) (h : wC_leastOf n 0 x0 0 k Qp) : Di l P D (tyA g) (wC a b g) yX9_leastOf cX9_leastOf 2 ({ frames := 1, cells := 0, slots := 0, locals := 21 }) [.int x0] k Qp := by
  refine Di_of (by decide) (Nat.le_of_ble_eq_true rfl) ?_
  intro p e s m args below meth c A Z ls C ret hd hl
  have hx := C.1
  have hb := C.2.1
  have hl : lv_has ls 2 [(0, .int x0)] := hl
  have L : ∀ n : Nat, (∀ (x0 : Int32) (x1 : Int32) (k : KC) (H : Heap) (locs : List Loc) (ls : Array Slot), wC_leastOf n 1 x0 x1 k Qp → Hd D (wC a b g k) A s H locs → lv_has ls 2 [(0, .int x0), (1, .int x1)] → W p l e ({ frames := 1, cells := 0, slots := 0, locals := 21 }) s m args below meth c H locs 0 0 Z (F0 m 2 ls [])) := by
    intro n
    induction n with
    | zero => exact fun _ _ _ _ _ _ h => h.elim
    | succ n ih =>
      intro x0 x1 k H locs ls h hd hl
      replace h : (((7 : Int32) ≤ x1 → Qp x1 k) ∧ (¬ (7 : Int32) ≤ x1 → (wC_isOn x0 x1 k (fun r_2 k_2 => ((¬ r_2 = 0 → Qp x1 k_2) ∧ (r_2 = 0 → wC_leastOf n 1 x0 (x1 + (1 : Int32)) k_2 Qp)))))) := h
      refine lv_iload_n hx hb dX9_leastOf_2 rfl (lv_at hl 1 rfl) ?_
      refine lv_bipush (v := 7) hx hb dX9_leastOf_3 (by decide) ?_
      refine lv_icmp_ge (tgt := 22) hx hb dX9_leastOf_5 (by decide) (fun c_1 => ?_) (fun c_1 => ?_)
      · replace h := h.1 c_1
        refine lv_iload_n hx hb dX9_leastOf_22 rfl (lv_at hl 1 rfl) ?_
        exact ret hd h dX9_leastOf_23
      · replace h := h.2 c_1
        refine lv_iload_n hx hb dX9_leastOf_8 rfl (lv_at hl 0 rfl) ?_
        refine lv_iload_n hx hb dX9_leastOf_9 rfl (lv_at hl 1 rfl) ?_
        refine es_z C hd kwRX9_X9_isOn_296 (cC_isOn _ _ h) ⟨rfl, rfl⟩ ⟨by decide, by decide⟩ hl.1 rfl rfl (Nat.le_of_ble_eq_true rfl) ⟨Nat.zero_le _, Nat.zero_le _⟩ dX9_leastOf_10 (fun r_2 k_2 H locs hz_2 h hd => ?_)
        refine lv_if_ne (tgt := 22) hx hb dX9_leastOf_13 (by decide) (fun c_3 => ?_) (fun c_3 => ?_)
        · replace h := h.1 c_3
          refine lv_iload_n hx hb dX9_leastOf_22 rfl (lv_at hl 1 rfl) ?_
          exact ret hd h dX9_leastOf_23
        · replace h := h.2 c_3
          refine lv_iinc (v := (x1 + (1 : Int32))) (lv' := [(1, .int (x1 + (1 : Int32))), (0, .int x0)]) hx hb dX9_leastOf_16 hl (k := 1) rfl rfl (by decide) rfl (fun ls hl => ?_)
          refine lv_goto (tgt := 2) hx hb dX9_leastOf_19 (by decide) ?_
          exact ih x0 (x1 + (1 : Int32))  _ _ _ _ h hd (lv_sub hl [1, 0] rfl)
  cases n with
  | zero => exact h.elim
  | succ n =>
    replace h : wC_leastOf n 1 x0 (0 : Int32) k Qp := h
    refine lv_iconst (v := 0) hx hb dX9_leastOf_0 (by decide) ?_
    refine lv_istore_n (lv' := [(1, .int (0 : Int32)), (0, .int x0)]) hx hb dX9_leastOf_1 rfl hl (by decide) rfl (fun ls hl => ?_)
    exact L n x0 (0 : Int32)  _ _ _ _ h hd (lv_sub hl [1, 0] rfl)
def wC_X0_dropsOf (i : Nat) (x1 : Int32) (k : KC) (Q : Int32 → KC → Prop) : Prop := ((¬ x1 = 0 → (∃ n_2 : Nat, wC_leastOf n_2 0 x1 0 k (fun r_2 k_2 => (∃ n_3 : Nat, wC_X0_sumOf i n_3 0 x1 0 0 k_2 (fun r_3 k_3 => (wC_X0_says i (2 : Int32) r_2 r_3 (0 : Int32) (0 : Int32) k_3 (fun r_4 k_4 => (wC_bounded (r_4 / (10 : Int32)) (0 : Int32) (99 : Int32) k_4 (fun r_5 k_5 => Q r_5 k_5))))))))) ∧ (x1 = 0 → Q (0 : Int32) k))
set_option maxHeartbeats 4000000 in
set_option maxRecDepth 100000 in
theorem cC_X0_dropsOf {l : Launch} {P : EP} {D : va_G} {a : Nat → Nat} {b : Nat → Nat → Nat} {g : Nat → ClassId} {i : Nat} (hi : i = 2 ∨ i = 3 ∨ i = 4) {k : KC} {Qp : Int32 → KC → Prop} (x1 : Int32) (h : wC_X0_dropsOf i x1 k Qp) : Di l P D (tyA g) (wC a b g) yX0_dropsOf cX0_dropsOf 3 ({ frames := 3, cells := 0, slots := 0, locals := 75 }) [.ref (a i), .int x1] k Qp := by
  refine Di_of (by decide) (Nat.le_of_ble_eq_true rfl) ?_
  intro p e s m args below meth c A Z ls C ret hd hl
  have hx := C.1
  have hb := C.2.1
  have hl : lv_has ls 3 [(0, .ref (a i)), (1, .int x1)] := hl
  replace h : ((¬ x1 = 0 → (∃ n_2 : Nat, wC_leastOf n_2 0 x1 0 k (fun r_2 k_2 => (∃ n_3 : Nat, wC_X0_sumOf i n_3 0 x1 0 0 k_2 (fun r_3 k_3 => (wC_X0_says i (2 : Int32) r_2 r_3 (0 : Int32) (0 : Int32) k_3 (fun r_4 k_4 => (wC_bounded (r_4 / (10 : Int32)) (0 : Int32) (99 : Int32) k_4 (fun r_5 k_5 => Qp r_5 k_5))))))))) ∧ (x1 = 0 → Qp (0 : Int32) k)) := h
  refine lv_iload_n hx hb dX0_dropsOf_0 rfl (lv_at hl 1 rfl) ?_
  refine lv_if_ne (tgt := 6) hx hb dX0_dropsOf_1 (by decide) (fun c_1 => ?_) (fun c_1 => ?_)
  · replace h := h.1 c_1
    refine lv_aload_n hx hb dX0_dropsOf_6 rfl (lv_at hl 0 rfl) ?_
    refine lv_iconst (v := 2) hx hb dX0_dropsOf_7 (by decide) ?_
    refine lv_iload_n hx hb dX0_dropsOf_8 rfl (lv_at hl 1 rfl) ?_
    obtain ⟨n_2, h⟩ := h
    refine en_i C hd kwRX0_X9_leastOf_86 (cC_leastOf n_2 _ h) ⟨rfl, rfl⟩ ⟨by decide, by decide⟩ hl.1 rfl rfl (Nat.le_of_ble_eq_true rfl) ⟨Nat.zero_le _, Nat.zero_le _⟩ dX0_dropsOf_9 (fun r_2 k_2 H locs h hd => ?_)
    refine lv_aload_n hx hb dX0_dropsOf_12 rfl (lv_at hl 0 rfl) ?_
    refine lv_iload_n hx hb dX0_dropsOf_13 rfl (lv_at hl 1 rfl) ?_
    obtain ⟨n_3, h⟩ := h
    refine ev_i C hd kwRX0_X0_sumOf_90 (cC_X0_sumOf hi n_3 _ h) ⟨rfl, rfl⟩ ⟨by decide, by decide⟩ (rcC0 hi) hl.1 rfl rfl (Nat.le_of_ble_eq_true rfl) ⟨Nat.zero_le _, Nat.zero_le _⟩ dX0_dropsOf_14 (fun r_3 k_3 H locs h hd => ?_)
    refine lv_iconst (v := 0) hx hb dX0_dropsOf_17 (by decide) ?_
    refine lv_iconst (v := 0) hx hb dX0_dropsOf_18 (by decide) ?_
    refine ev_i C hd kwRX0_X0_says_68 (cC_X0_says hi _ _ _ _ _ h) ⟨rfl, rfl⟩ ⟨by decide, by decide⟩ (rcC0 hi) hl.1 rfl rfl (Nat.le_of_ble_eq_true rfl) ⟨Nat.zero_le _, Nat.zero_le _⟩ dX0_dropsOf_19 (fun r_4 k_4 H locs h hd => ?_)
    refine lv_istore_n (lv' := [(2, .int r_4), (0, .ref (a i)), (1, .int x1)]) hx hb dX0_dropsOf_22 rfl hl (by decide) rfl (fun ls hl => ?_)
    refine lv_iload_n hx hb dX0_dropsOf_23 rfl (lv_at hl 0 rfl) ?_
    refine lv_bipush (v := 10) hx hb dX0_dropsOf_24 (by decide) ?_
    refine lv_idiv hx hb dX0_dropsOf_26 (by decide) ?_
    refine lv_iconst (v := 0) hx hb dX0_dropsOf_27 (by decide) ?_
    refine lv_bipush (v := 99) hx hb dX0_dropsOf_28 (by decide) ?_
    refine en_i C hd kwRX0_X9_bounded_64 (cC_bounded _ _ _ h) ⟨rfl, rfl⟩ ⟨by decide, by decide⟩ hl.1 rfl rfl (Nat.le_of_ble_eq_true rfl) ⟨Nat.zero_le _, Nat.zero_le _⟩ dX0_dropsOf_30 (fun r_5 k_5 H locs h hd => ?_)
    exact ret hd h dX0_dropsOf_33
  · replace h := h.2 c_1
    refine lv_iconst (v := 0) hx hb dX0_dropsOf_4 (by decide) ?_
    exact ret hd h dX0_dropsOf_5
def wC_X0_fadesOf (i : Nat) (x1 : Int32) (k : KC) (Q : Int32 → KC → Prop) : Prop := (wC_X0_says i (1 : Int32) x1 (0 : Int32) (0 : Int32) (0 : Int32) k (fun r_1 k_1 => (wC_bounded r_1 (0 : Int32) (100 : Int32) k_1 (fun r_2 k_2 => (vp_in x1 8 ∧ (((k_2.2.1 1 3 x1.toNatClampNeg) = (1 : Int32) → Q (r_2 / (2 : Int32)) k_2) ∧ ((k_2.2.1 1 3 x1.toNatClampNeg) = (2 : Int32) → (wC_bounded (r_2 + (2 : Int32)) (0 : Int32) (100 : Int32) k_2 (fun r_4 k_4 => Q r_4 k_4))) ∧ ((k_2.2.1 1 3 x1.toNatClampNeg) = (3 : Int32) → Q ((r_2 / (2 : Int32)) + (1 : Int32)) k_2) ∧ ((k_2.2.1 1 3 x1.toNatClampNeg) = (4 : Int32) → Q (r_2 / (2 : Int32)) k_2) ∧ ((k_2.2.1 1 3 x1.toNatClampNeg) = (5 : Int32) → Q (0 : Int32) k_2) ∧ (¬ (k_2.2.1 1 3 x1.toNatClampNeg) = (1 : Int32) → ¬ (k_2.2.1 1 3 x1.toNatClampNeg) = (2 : Int32) → ¬ (k_2.2.1 1 3 x1.toNatClampNeg) = (3 : Int32) → ¬ (k_2.2.1 1 3 x1.toNatClampNeg) = (4 : Int32) → ¬ (k_2.2.1 1 3 x1.toNatClampNeg) = (5 : Int32) → Q r_2 k_2)))))))
set_option maxHeartbeats 4000000 in
set_option maxRecDepth 100000 in
theorem cC_X0_fadesOf {l : Launch} {P : EP} {D : va_G} {a : Nat → Nat} {b : Nat → Nat → Nat} {g : Nat → ClassId} {i : Nat} (hi : i = 2 ∨ i = 3 ∨ i = 4) {k : KC} {Qp : Int32 → KC → Prop} (x1 : Int32) (h : wC_X0_fadesOf i x1 k Qp) : Di l P D (tyA g) (wC a b g) yX0_fadesOf cX0_fadesOf 4 ({ frames := 3, cells := 0, slots := 0, locals := 75 }) [.ref (a i), .int x1] k Qp := by
  refine Di_of (by decide) (Nat.le_of_ble_eq_true rfl) ?_
  intro p e s m args below meth c A Z ls C ret hd hl
  have hx := C.1
  have hb := C.2.1
  have hl : lv_has ls 4 [(0, .ref (a i)), (1, .int x1)] := hl
  replace h : (wC_X0_says i (1 : Int32) x1 (0 : Int32) (0 : Int32) (0 : Int32) k (fun r_1 k_1 => (wC_bounded r_1 (0 : Int32) (100 : Int32) k_1 (fun r_2 k_2 => (vp_in x1 8 ∧ (((k_2.2.1 1 3 x1.toNatClampNeg) = (1 : Int32) → Qp (r_2 / (2 : Int32)) k_2) ∧ ((k_2.2.1 1 3 x1.toNatClampNeg) = (2 : Int32) → (wC_bounded (r_2 + (2 : Int32)) (0 : Int32) (100 : Int32) k_2 (fun r_4 k_4 => Qp r_4 k_4))) ∧ ((k_2.2.1 1 3 x1.toNatClampNeg) = (3 : Int32) → Qp ((r_2 / (2 : Int32)) + (1 : Int32)) k_2) ∧ ((k_2.2.1 1 3 x1.toNatClampNeg) = (4 : Int32) → Qp (r_2 / (2 : Int32)) k_2) ∧ ((k_2.2.1 1 3 x1.toNatClampNeg) = (5 : Int32) → Qp (0 : Int32) k_2) ∧ (¬ (k_2.2.1 1 3 x1.toNatClampNeg) = (1 : Int32) → ¬ (k_2.2.1 1 3 x1.toNatClampNeg) = (2 : Int32) → ¬ (k_2.2.1 1 3 x1.toNatClampNeg) = (3 : Int32) → ¬ (k_2.2.1 1 3 x1.toNatClampNeg) = (4 : Int32) → ¬ (k_2.2.1 1 3 x1.toNatClampNeg) = (5 : Int32) → Qp r_2 k_2))))))) := h
  refine lv_aload_n hx hb dX0_fadesOf_0 rfl (lv_at hl 0 rfl) ?_
  refine lv_iconst (v := 1) hx hb dX0_fadesOf_1 (by decide) ?_
  refine lv_iload_n hx hb dX0_fadesOf_2 rfl (lv_at hl 1 rfl) ?_
  refine lv_iconst (v := 0) hx hb dX0_fadesOf_3 (by decide) ?_
  refine lv_iconst (v := 0) hx hb dX0_fadesOf_4 (by decide) ?_
  refine lv_iconst (v := 0) hx hb dX0_fadesOf_5 (by decide) ?_
  refine ev_i C hd kwRX0_X0_says_68 (cC_X0_says hi _ _ _ _ _ h) ⟨rfl, rfl⟩ ⟨by decide, by decide⟩ (rcC0 hi) hl.1 rfl rfl (Nat.le_of_ble_eq_true rfl) ⟨Nat.zero_le _, Nat.zero_le _⟩ dX0_fadesOf_6 (fun r_1 k_1 H locs h hd => ?_)
  refine lv_iconst (v := 0) hx hb dX0_fadesOf_9 (by decide) ?_
  refine lv_bipush (v := 100) hx hb dX0_fadesOf_10 (by decide) ?_
  refine en_i C hd kwRX0_X9_bounded_64 (cC_bounded _ _ _ h) ⟨rfl, rfl⟩ ⟨by decide, by decide⟩ hl.1 rfl rfl (Nat.le_of_ble_eq_true rfl) ⟨Nat.zero_le _, Nat.zero_le _⟩ dX0_fadesOf_12 (fun r_2 k_2 H locs h hd => ?_)
  refine lv_istore_n (lv' := [(2, .int r_2), (0, .ref (a i)), (1, .int x1)]) hx hb dX0_fadesOf_15 rfl hl (by decide) rfl (fun ls hl => ?_)
  refine lv_iload_n hx hb dX0_fadesOf_16 rfl (lv_at hl 0 rfl) ?_
  refine lv_iconst (v := 2) hx hb dX0_fadesOf_17 (by decide) ?_
  refine lv_idiv hx hb dX0_fadesOf_18 (by decide) ?_
  refine lv_istore_n (lv' := [(3, .int (r_2 / (2 : Int32))), (2, .int r_2), (0, .ref (a i)), (1, .int x1)]) hx hb dX0_fadesOf_19 rfl hl (by decide) rfl (fun ls hl => ?_)
  refine lv_aload_n hx hb dX0_fadesOf_20 rfl (lv_at hl 2 rfl) ?_
  refine gC0_0_0 C hd hi dX0_fadesOf_21 ?_
  refine gC0_8_3 C hd dX0_fadesOf_24 ?_
  refine lv_iload_n hx hb dX0_fadesOf_27 rfl (lv_at hl 3 rfl) ?_
  refine ldC8_3 C hd (v := k_2.2.1 1 3 x1.toNatClampNeg) h.1 rfl dX0_fadesOf_28 ?_
  replace h := h.2
  by_cases e_3_0 : (k_2.2.1 1 3 x1.toNatClampNeg) = (1 : Int32)
  · replace h := h.1 e_3_0
    refine lv_tableIn (off := 35) (tgt := 64) hx hb dX0_fadesOf_29 (by rw [e_3_0]; decide) (by rw [e_3_0]; decide) (by rw [e_3_0]; rfl) (by decide) ?_
    refine lv_iload_n hx hb dX0_fadesOf_64 rfl (lv_at hl 0 rfl) ?_
    exact ret hd h dX0_fadesOf_65
  · by_cases e_3_1 : (k_2.2.1 1 3 x1.toNatClampNeg) = (2 : Int32)
    · replace h := h.2.1 e_3_1
      refine lv_tableIn (off := 37) (tgt := 66) hx hb dX0_fadesOf_29 (by rw [e_3_1]; decide) (by rw [e_3_1]; decide) (by rw [e_3_1]; rfl) (by decide) ?_
      refine lv_iload_n hx hb dX0_fadesOf_66 rfl (lv_at hl 1 rfl) ?_
      refine lv_iconst (v := 2) hx hb dX0_fadesOf_67 (by decide) ?_
      refine lv_iadd hx hb dX0_fadesOf_68 ?_
      refine lv_iconst (v := 0) hx hb dX0_fadesOf_69 (by decide) ?_
      refine lv_bipush (v := 100) hx hb dX0_fadesOf_70 (by decide) ?_
      refine en_i C hd kwRX0_X9_bounded_64 (cC_bounded _ _ _ h) ⟨rfl, rfl⟩ ⟨by decide, by decide⟩ hl.1 rfl rfl (Nat.le_of_ble_eq_true rfl) ⟨Nat.zero_le _, Nat.zero_le _⟩ dX0_fadesOf_72 (fun r_4 k_4 H locs h hd => ?_)
      exact ret hd h dX0_fadesOf_75
    · by_cases e_3_2 : (k_2.2.1 1 3 x1.toNatClampNeg) = (3 : Int32)
      · replace h := h.2.2.1 e_3_2
        refine lv_tableIn (off := 47) (tgt := 76) hx hb dX0_fadesOf_29 (by rw [e_3_2]; decide) (by rw [e_3_2]; decide) (by rw [e_3_2]; rfl) (by decide) ?_
        refine lv_iload_n hx hb dX0_fadesOf_76 rfl (lv_at hl 0 rfl) ?_
        refine lv_iconst (v := 1) hx hb dX0_fadesOf_77 (by decide) ?_
        refine lv_iadd hx hb dX0_fadesOf_78 ?_
        exact ret hd h dX0_fadesOf_79
      · by_cases e_3_3 : (k_2.2.1 1 3 x1.toNatClampNeg) = (4 : Int32)
        · replace h := h.2.2.2.1 e_3_3
          refine lv_tableIn (off := 51) (tgt := 80) hx hb dX0_fadesOf_29 (by rw [e_3_3]; decide) (by rw [e_3_3]; decide) (by rw [e_3_3]; rfl) (by decide) ?_
          refine lv_iload_n hx hb dX0_fadesOf_80 rfl (lv_at hl 0 rfl) ?_
          exact ret hd h dX0_fadesOf_81
        · by_cases e_3_4 : (k_2.2.1 1 3 x1.toNatClampNeg) = (5 : Int32)
          · replace h := h.2.2.2.2.1 e_3_4
            refine lv_tableIn (off := 53) (tgt := 82) hx hb dX0_fadesOf_29 (by rw [e_3_4]; decide) (by rw [e_3_4]; decide) (by rw [e_3_4]; rfl) (by decide) ?_
            refine lv_iconst (v := 0) hx hb dX0_fadesOf_82 (by decide) ?_
            exact ret hd h dX0_fadesOf_83
          · replace h := h.2.2.2.2.2 e_3_0 e_3_1 e_3_2 e_3_3 e_3_4
            refine lv_tableOut (tgt := 84) hx hb dX0_fadesOf_29 (by have n_0 := lv_neT (a := 1) e_3_0 (by decide); have n_1 := lv_neT (a := 2) e_3_1 (by decide); have n_2 := lv_neT (a := 3) e_3_2 (by decide); have n_3 := lv_neT (a := 4) e_3_3 (by decide); have n_4 := lv_neT (a := 5) e_3_4 (by decide); omega) (by decide) ?_
            refine lv_iload_n hx hb dX0_fadesOf_84 rfl (lv_at hl 1 rfl) ?_
            exact ret hd h dX0_fadesOf_85
def wC_X0_loudOf (i : Nat) (x1 : Int32) (k : KC) (Q : Int32 → KC → Prop) : Prop := (vp_in x1 8 ∧ (((k.2.1 1 3 x1.toNatClampNeg) = (1 : Int32) → Q ((20 : Int32) + (10 : Int32)) k) ∧ ((k.2.1 1 3 x1.toNatClampNeg) = (3 : Int32) → Q (((20 : Int32) + (10 : Int32)) / (2 : Int32)) k) ∧ ((k.2.1 1 3 x1.toNatClampNeg) = (4 : Int32) → (vp_in x1 8 ∧ (wC_bounded (((20 : Int32) + (10 : Int32)) - ((k.2.1 i 2 x1.toNatClampNeg) / (4 : Int32))) (1 : Int32) ((20 : Int32) + (10 : Int32)) k (fun r_2 k_2 => Q r_2 k_2)))) ∧ ((k.2.1 1 3 x1.toNatClampNeg) = (5 : Int32) → Q ((20 : Int32) / (4 : Int32)) k) ∧ (¬ (k.2.1 1 3 x1.toNatClampNeg) = (1 : Int32) → ¬ (k.2.1 1 3 x1.toNatClampNeg) = (3 : Int32) → ¬ (k.2.1 1 3 x1.toNatClampNeg) = (4 : Int32) → ¬ (k.2.1 1 3 x1.toNatClampNeg) = (5 : Int32) → Q (20 : Int32) k)))
set_option maxHeartbeats 4000000 in
set_option maxRecDepth 100000 in
theorem cC_X0_loudOf {l : Launch} {P : EP} {D : va_G} {a : Nat → Nat} {b : Nat → Nat → Nat} {g : Nat → ClassId} {i : Nat} (hi : i = 2 ∨ i = 3 ∨ i = 4) {k : KC} {Qp : Int32 → KC → Prop} (x1 : Int32) (h : wC_X0_loudOf i x1 k Qp) : Di l P D (tyA g) (wC a b g) yX0_loudOf cX0_loudOf 4 ({ frames := 1, cells := 0, slots := 0, locals := 22 }) [.ref (a i), .int x1] k Qp := by
  refine Di_of (by decide) (Nat.le_of_ble_eq_true rfl) ?_
  intro p e s m args below meth c A Z ls C ret hd hl
  have hx := C.1
  have hb := C.2.1
  have hl : lv_has ls 4 [(0, .ref (a i)), (1, .int x1)] := hl
  replace h : (vp_in x1 8 ∧ (((k.2.1 1 3 x1.toNatClampNeg) = (1 : Int32) → Qp ((20 : Int32) + (10 : Int32)) k) ∧ ((k.2.1 1 3 x1.toNatClampNeg) = (3 : Int32) → Qp (((20 : Int32) + (10 : Int32)) / (2 : Int32)) k) ∧ ((k.2.1 1 3 x1.toNatClampNeg) = (4 : Int32) → (vp_in x1 8 ∧ (wC_bounded (((20 : Int32) + (10 : Int32)) - ((k.2.1 i 2 x1.toNatClampNeg) / (4 : Int32))) (1 : Int32) ((20 : Int32) + (10 : Int32)) k (fun r_2 k_2 => Qp r_2 k_2)))) ∧ ((k.2.1 1 3 x1.toNatClampNeg) = (5 : Int32) → Qp ((20 : Int32) / (4 : Int32)) k) ∧ (¬ (k.2.1 1 3 x1.toNatClampNeg) = (1 : Int32) → ¬ (k.2.1 1 3 x1.toNatClampNeg) = (3 : Int32) → ¬ (k.2.1 1 3 x1.toNatClampNeg) = (4 : Int32) → ¬ (k.2.1 1 3 x1.toNatClampNeg) = (5 : Int32) → Qp (20 : Int32) k))) := h
  refine lv_bipush (v := 20) hx hb dX0_loudOf_0 (by decide) ?_
  refine lv_istore_n (lv' := [(2, .int (20 : Int32)), (0, .ref (a i)), (1, .int x1)]) hx hb dX0_loudOf_2 rfl hl (by decide) rfl (fun ls hl => ?_)
  refine lv_iload_n hx hb dX0_loudOf_3 rfl (lv_at hl 0 rfl) ?_
  refine lv_bipush (v := 10) hx hb dX0_loudOf_4 (by decide) ?_
  refine lv_iadd hx hb dX0_loudOf_6 ?_
  refine lv_istore_n (lv' := [(3, .int ((20 : Int32) + (10 : Int32))), (2, .int (20 : Int32)), (0, .ref (a i)), (1, .int x1)]) hx hb dX0_loudOf_7 rfl hl (by decide) rfl (fun ls hl => ?_)
  refine lv_aload_n hx hb dX0_loudOf_8 rfl (lv_at hl 2 rfl) ?_
  refine gC0_0_0 C hd hi dX0_loudOf_9 ?_
  refine gC0_8_3 C hd dX0_loudOf_12 ?_
  refine lv_iload_n hx hb dX0_loudOf_15 rfl (lv_at hl 3 rfl) ?_
  refine ldC8_3 C hd (v := k.2.1 1 3 x1.toNatClampNeg) h.1 rfl dX0_loudOf_16 ?_
  replace h := h.2
  by_cases e_1_0 : (k.2.1 1 3 x1.toNatClampNeg) = (1 : Int32)
  · replace h := h.1 e_1_0
    refine lv_tableIn (off := 35) (tgt := 52) hx hb dX0_loudOf_17 (by rw [e_1_0]; decide) (by rw [e_1_0]; decide) (by rw [e_1_0]; rfl) (by decide) ?_
    refine lv_iload_n hx hb dX0_loudOf_52 rfl (lv_at hl 0 rfl) ?_
    exact ret hd h dX0_loudOf_53
  · by_cases e_1_1 : (k.2.1 1 3 x1.toNatClampNeg) = (3 : Int32)
    · replace h := h.2.1 e_1_1
      refine lv_tableIn (off := 37) (tgt := 54) hx hb dX0_loudOf_17 (by rw [e_1_1]; decide) (by rw [e_1_1]; decide) (by rw [e_1_1]; rfl) (by decide) ?_
      refine lv_iload_n hx hb dX0_loudOf_54 rfl (lv_at hl 0 rfl) ?_
      refine lv_iconst (v := 2) hx hb dX0_loudOf_55 (by decide) ?_
      refine lv_idiv hx hb dX0_loudOf_56 (by decide) ?_
      exact ret hd h dX0_loudOf_57
    · by_cases e_1_2 : (k.2.1 1 3 x1.toNatClampNeg) = (4 : Int32)
      · replace h := h.2.2.1 e_1_2
        refine lv_tableIn (off := 41) (tgt := 58) hx hb dX0_loudOf_17 (by rw [e_1_2]; decide) (by rw [e_1_2]; decide) (by rw [e_1_2]; rfl) (by decide) ?_
        refine lv_iload_n hx hb dX0_loudOf_58 rfl (lv_at hl 0 rfl) ?_
        refine lv_aload_n hx hb dX0_loudOf_59 rfl (lv_at hl 2 rfl) ?_
        refine gC0_0_2 C hd hi dX0_loudOf_60 ?_
        refine lv_iload_n hx hb dX0_loudOf_63 rfl (lv_at hl 3 rfl) ?_
        refine ldC0_2 C hd hi (v := k.2.1 i 2 x1.toNatClampNeg) h.1 rfl dX0_loudOf_64 ?_
        replace h := h.2
        refine lv_iconst (v := 4) hx hb dX0_loudOf_65 (by decide) ?_
        refine lv_idiv hx hb dX0_loudOf_66 (by decide) ?_
        refine lv_isub hx hb dX0_loudOf_67 ?_
        refine lv_iconst (v := 1) hx hb dX0_loudOf_68 (by decide) ?_
        refine lv_iload_n hx hb dX0_loudOf_69 rfl (lv_at hl 0 rfl) ?_
        refine en_i C hd kwRX0_X9_bounded_64 (cC_bounded _ _ _ h) ⟨rfl, rfl⟩ ⟨by decide, by decide⟩ hl.1 rfl rfl (Nat.le_of_ble_eq_true rfl) ⟨Nat.zero_le _, Nat.zero_le _⟩ dX0_loudOf_70 (fun r_2 k_2 H locs h hd => ?_)
        exact ret hd h dX0_loudOf_73
      · by_cases e_1_3 : (k.2.1 1 3 x1.toNatClampNeg) = (5 : Int32)
        · replace h := h.2.2.2.1 e_1_3
          refine lv_tableIn (off := 57) (tgt := 74) hx hb dX0_loudOf_17 (by rw [e_1_3]; decide) (by rw [e_1_3]; decide) (by rw [e_1_3]; rfl) (by decide) ?_
          refine lv_iload_n hx hb dX0_loudOf_74 rfl (lv_at hl 1 rfl) ?_
          refine lv_iconst (v := 4) hx hb dX0_loudOf_75 (by decide) ?_
          refine lv_idiv hx hb dX0_loudOf_76 (by decide) ?_
          exact ret hd h dX0_loudOf_77
        · replace h := h.2.2.2.2 e_1_0 e_1_1 e_1_2 e_1_3
          by_cases o_1 : ((k.2.1 1 3 x1.toNatClampNeg)).toInt < 1 ∨ 5 < ((k.2.1 1 3 x1.toNatClampNeg)).toInt
          · refine lv_tableOut (tgt := 78) hx hb dX0_loudOf_17 o_1 (by decide) ?_
            refine lv_iload_n hx hb dX0_loudOf_78 rfl (lv_at hl 1 rfl) ?_
            exact ret hd h dX0_loudOf_79
          · have hv_1 : ((k.2.1 1 3 x1.toNatClampNeg)).toInt = 2 := by have n_0 := lv_neT (a := 1) e_1_0 (by decide); have n_1 := lv_neT (a := 3) e_1_1 (by decide); have n_2 := lv_neT (a := 4) e_1_2 (by decide); have n_3 := lv_neT (a := 5) e_1_3 (by decide); omega
            refine lv_tableIn (off := 61) (tgt := 78) hx hb dX0_loudOf_17 (fun z => o_1 (Or.inl z)) (fun z => o_1 (Or.inr z)) (by rw [hv_1]; rfl) (by decide) ?_
            refine lv_iload_n hx hb dX0_loudOf_78 rfl (lv_at hl 1 rfl) ?_
            exact ret hd h dX0_loudOf_79
def wC_X0_gainOf (i : Nat) (x1 : Int32) (x2 : Int32) (x3 : Int32) (x4 : Int32) (k : KC) (Q : Int32 → KC → Prop) : Prop := (wC_X0_loudOf i x1 k (fun r_1 k_1 => (∀ v_2 : Int32, v_2 = ((((x3 * r_1) / (100 : Int32)) * (k_1.1 i 9)) / (100 : Int32)) → (vp_in x1 8 ∧ (vp_in (((k_1.2.1 1 3 x1.toNatClampNeg) * (4 : Int32)) + x2) 24 ∧ (∀ v_3 : Int32, v_3 = ((v_2 * (k_1.2.1 1 5 (((k_1.2.1 1 3 x1.toNatClampNeg) * (4 : Int32)) + x2).toNatClampNeg)) / (100 : Int32)) → Q ((v_3 * x4) / (100 : Int32)) k_1))))))
set_option maxHeartbeats 4000000 in
set_option maxRecDepth 100000 in
theorem cC_X0_gainOf {l : Launch} {P : EP} {D : va_G} {a : Nat → Nat} {b : Nat → Nat → Nat} {g : Nat → ClassId} {i : Nat} (hi : i = 2 ∨ i = 3 ∨ i = 4) {k : KC} {Qp : Int32 → KC → Prop} (x1 : Int32) (x2 : Int32) (x3 : Int32) (x4 : Int32) (h : wC_X0_gainOf i x1 x2 x3 x4 k Qp) : Di l P D (tyA g) (wC a b g) yX0_gainOf cX0_gainOf 6 ({ frames := 2, cells := 0, slots := 0, locals := 45 }) [.ref (a i), .int x1, .int x2, .int x3, .int x4] k Qp := by
  refine Di_of (by decide) (Nat.le_of_ble_eq_true rfl) ?_
  intro p e s m args below meth c A Z ls C ret hd hl
  have hx := C.1
  have hb := C.2.1
  have hl : lv_has ls 6 [(0, .ref (a i)), (1, .int x1), (2, .int x2), (3, .int x3), (4, .int x4)] := hl
  replace h : (wC_X0_loudOf i x1 k (fun r_1 k_1 => (∀ v_2 : Int32, v_2 = ((((x3 * r_1) / (100 : Int32)) * (k_1.1 i 9)) / (100 : Int32)) → (vp_in x1 8 ∧ (vp_in (((k_1.2.1 1 3 x1.toNatClampNeg) * (4 : Int32)) + x2) 24 ∧ (∀ v_3 : Int32, v_3 = ((v_2 * (k_1.2.1 1 5 (((k_1.2.1 1 3 x1.toNatClampNeg) * (4 : Int32)) + x2).toNatClampNeg)) / (100 : Int32)) → Qp ((v_3 * x4) / (100 : Int32)) k_1)))))) := h
  refine lv_iload_n hx hb dX0_gainOf_0 rfl (lv_at hl 3 rfl) ?_
  refine lv_aload_n hx hb dX0_gainOf_1 rfl (lv_at hl 0 rfl) ?_
  refine lv_iload_n hx hb dX0_gainOf_2 rfl (lv_at hl 1 rfl) ?_
  refine ev_i C hd kwRX0_X0_loudOf_100 (cC_X0_loudOf hi _ h) ⟨rfl, rfl⟩ ⟨by decide, by decide⟩ (rcC0 hi) hl.1 rfl rfl (Nat.le_of_ble_eq_true rfl) ⟨Nat.zero_le _, Nat.zero_le _⟩ dX0_gainOf_3 (fun r_1 k_1 H locs h hd => ?_)
  refine lv_imul hx hb dX0_gainOf_6 ?_
  refine lv_bipush (v := 100) hx hb dX0_gainOf_7 (by decide) ?_
  refine lv_idiv hx hb dX0_gainOf_9 (by decide) ?_
  refine lv_istore (lv' := [(5, .int ((x3 * r_1) / (100 : Int32))), (0, .ref (a i)), (1, .int x1), (2, .int x2), (3, .int x3), (4, .int x4)]) hx hb dX0_gainOf_10 hl (by decide) rfl (fun ls hl => ?_)
  refine lv_iload hx hb dX0_gainOf_12 (lv_at hl 0 rfl) ?_
  refine lv_aload_n hx hb dX0_gainOf_14 rfl (lv_at hl 1 rfl) ?_
  refine gC0_0_9 C hd hi (v := k_1.1 i 9) rfl dX0_gainOf_15 ?_
  refine lv_imul hx hb dX0_gainOf_18 ?_
  refine lv_bipush (v := 100) hx hb dX0_gainOf_19 (by decide) ?_
  refine lv_idiv hx hb dX0_gainOf_21 (by decide) ?_
  refine lv_topi (fun v_2 e_2 => ?_)
  replace h := h v_2 e_2
  refine lv_istore (lv' := [(5, .int v_2), (0, .ref (a i)), (1, .int x1), (2, .int x2), (3, .int x3), (4, .int x4)]) hx hb dX0_gainOf_22 hl (by decide) rfl (fun ls hl => ?_)
  refine lv_iload hx hb dX0_gainOf_24 (lv_at hl 0 rfl) ?_
  refine lv_aload_n hx hb dX0_gainOf_26 rfl (lv_at hl 1 rfl) ?_
  refine gC0_0_0 C hd hi dX0_gainOf_27 ?_
  refine gC0_8_5 C hd dX0_gainOf_30 ?_
  refine lv_aload_n hx hb dX0_gainOf_33 rfl (lv_at hl 1 rfl) ?_
  refine gC0_0_0 C hd hi dX0_gainOf_34 ?_
  refine gC0_8_3 C hd dX0_gainOf_37 ?_
  refine lv_iload_n hx hb dX0_gainOf_40 rfl (lv_at hl 2 rfl) ?_
  refine ldC8_3 C hd (v := k_1.2.1 1 3 x1.toNatClampNeg) h.1 rfl dX0_gainOf_41 ?_
  replace h := h.2
  refine lv_iconst (v := 4) hx hb dX0_gainOf_42 (by decide) ?_
  refine lv_imul hx hb dX0_gainOf_43 ?_
  refine lv_iload_n hx hb dX0_gainOf_44 rfl (lv_at hl 3 rfl) ?_
  refine lv_iadd hx hb dX0_gainOf_45 ?_
  refine ldC8_5 C hd (v := k_1.2.1 1 5 (((k_1.2.1 1 3 x1.toNatClampNeg) * (4 : Int32)) + x2).toNatClampNeg) h.1 rfl dX0_gainOf_46 ?_
  replace h := h.2
  refine lv_imul hx hb dX0_gainOf_47 ?_
  refine lv_bipush (v := 100) hx hb dX0_gainOf_48 (by decide) ?_
  refine lv_idiv hx hb dX0_gainOf_50 (by decide) ?_
  refine lv_topi (fun v_3 e_3 => ?_)
  replace h := h v_3 e_3
  refine lv_istore (lv' := [(5, .int v_3), (0, .ref (a i)), (1, .int x1), (2, .int x2), (3, .int x3), (4, .int x4)]) hx hb dX0_gainOf_51 hl (by decide) rfl (fun ls hl => ?_)
  refine lv_iload hx hb dX0_gainOf_53 (lv_at hl 0 rfl) ?_
  refine lv_iload hx hb dX0_gainOf_55 (lv_at hl 5 rfl) ?_
  refine lv_imul hx hb dX0_gainOf_57 ?_
  refine lv_bipush (v := 100) hx hb dX0_gainOf_58 (by decide) ?_
  refine lv_idiv hx hb dX0_gainOf_60 (by decide) ?_
  exact ret hd h dX0_gainOf_61
def wC_X0_gainers (i : Nat) : Nat → Nat → Int32 → Int32 → Int32 → KC → (Int32 → KC → Prop) → Prop
  | 0, _, _, _, _, _, _ => False
  | n + 1, c, x1, x2, x3, k, Q => match c with
    | 0 => wC_X0_gainers i n 1 x1 (0 : Int32) (0 : Int32) k Q
    | _ => (((k.1 1 0) ≤ x3 → Q x2 k) ∧ (¬ (k.1 1 0) ≤ x3 → (wC_isOn x1 x3 k (fun r_2 k_2 => ((r_2 = 0 → wC_X0_gainers i n 1 x1 x2 (x3 + (1 : Int32)) k_2 Q) ∧ (¬ r_2 = 0 → (vp_in x3 8 ∧ (((k_2.2.1 i 5 x3.toNatClampNeg) = 0 → wC_X0_gainers i n 1 x1 x2 (x3 + (1 : Int32)) k_2 Q) ∧ (¬ (k_2.2.1 i 5 x3.toNatClampNeg) = 0 → wC_X0_gainers i n 1 x1 (x2 ||| ((1 : Int32) <<< (x3 &&& 31))) (x3 + (1 : Int32)) k_2 Q)))))))))
set_option maxHeartbeats 4000000 in
set_option maxRecDepth 100000 in
theorem cC_X0_gainers {l : Launch} {P : EP} {D : va_G} {a : Nat → Nat} {b : Nat → Nat → Nat} {g : Nat → ClassId} {i : Nat} (hi : i = 2 ∨ i = 3 ∨ i = 4) {k : KC} {Qp : Int32 → KC → Prop} (n : Nat) (x1 : Int32) (h : wC_X0_gainers i n 0 x1 0 0 k Qp) : Di l P D (tyA g) (wC a b g) yX0_gainers cX0_gainers 4 ({ frames := 1, cells := 0, slots := 0, locals := 21 }) [.ref (a i), .int x1] k Qp := by
  refine Di_of (by decide) (Nat.le_of_ble_eq_true rfl) ?_
  intro p e s m args below meth c A Z ls C ret hd hl
  have hx := C.1
  have hb := C.2.1
  have hl : lv_has ls 4 [(0, .ref (a i)), (1, .int x1)] := hl
  have L : ∀ n : Nat, (∀ (x1 : Int32) (x2 : Int32) (x3 : Int32) (k : KC) (H : Heap) (locs : List Loc) (ls : Array Slot), wC_X0_gainers i n 1 x1 x2 x3 k Qp → Hd D (wC a b g k) A s H locs → lv_has ls 4 [(0, .ref (a i)), (1, .int x1), (2, .int x2), (3, .int x3)] → W p l e ({ frames := 1, cells := 0, slots := 0, locals := 21 }) s m args below meth c H locs 0 0 Z (F0 m 4 ls [])) := by
    intro n
    induction n with
    | zero => exact fun _ _ _ _ _ _ _ h => h.elim
    | succ n ih =>
      intro x1 x2 x3 k H locs ls h hd hl
      replace h : (((k.1 1 0) ≤ x3 → Qp x2 k) ∧ (¬ (k.1 1 0) ≤ x3 → (wC_isOn x1 x3 k (fun r_2 k_2 => ((r_2 = 0 → wC_X0_gainers i n 1 x1 x2 (x3 + (1 : Int32)) k_2 Qp) ∧ (¬ r_2 = 0 → (vp_in x3 8 ∧ (((k_2.2.1 i 5 x3.toNatClampNeg) = 0 → wC_X0_gainers i n 1 x1 x2 (x3 + (1 : Int32)) k_2 Qp) ∧ (¬ (k_2.2.1 i 5 x3.toNatClampNeg) = 0 → wC_X0_gainers i n 1 x1 (x2 ||| ((1 : Int32) <<< (x3 &&& 31))) (x3 + (1 : Int32)) k_2 Qp))))))))) := h
      refine lv_iload_n hx hb dX0_gainers_4 rfl (lv_at hl 3 rfl) ?_
      refine lv_aload_n hx hb dX0_gainers_5 rfl (lv_at hl 0 rfl) ?_
      refine gC0_0_0 C hd hi dX0_gainers_6 ?_
      refine gC0_8_0 C hd (v := k.1 1 0) rfl dX0_gainers_9 ?_
      refine lv_icmp_ge (tgt := 44) hx hb dX0_gainers_12 (by decide) (fun c_1 => ?_) (fun c_1 => ?_)
      · replace h := h.1 c_1
        refine lv_iload_n hx hb dX0_gainers_44 rfl (lv_at hl 2 rfl) ?_
        exact ret hd h dX0_gainers_45
      · replace h := h.2 c_1
        refine lv_iload_n hx hb dX0_gainers_15 rfl (lv_at hl 1 rfl) ?_
        refine lv_iload_n hx hb dX0_gainers_16 rfl (lv_at hl 3 rfl) ?_
        refine en_z C hd kwRX0_X9_isOn_75 (cC_isOn _ _ h) ⟨rfl, rfl⟩ ⟨by decide, by decide⟩ hl.1 rfl rfl (Nat.le_of_ble_eq_true rfl) ⟨Nat.zero_le _, Nat.zero_le _⟩ dX0_gainers_17 (fun r_2 k_2 H locs hz_2 h hd => ?_)
        refine lv_if_eq (tgt := 38) hx hb dX0_gainers_20 (by decide) (fun c_3 => ?_) (fun c_3 => ?_)
        · replace h := h.1 c_3
          refine lv_iinc (v := (x3 + (1 : Int32))) (lv' := [(3, .int (x3 + (1 : Int32))), (0, .ref (a i)), (1, .int x1), (2, .int x2)]) hx hb dX0_gainers_38 hl (k := 3) rfl rfl (by decide) rfl (fun ls hl => ?_)
          refine lv_goto (tgt := 4) hx hb dX0_gainers_41 (by decide) ?_
          exact ih x1 x2 (x3 + (1 : Int32))  _ _ _ _ h hd (lv_sub hl [1, 2, 3, 0] rfl)
        · replace h := h.2 c_3
          refine lv_aload_n hx hb dX0_gainers_23 rfl (lv_at hl 0 rfl) ?_
          refine gC0_0_5 C hd hi dX0_gainers_24 ?_
          refine lv_iload_n hx hb dX0_gainers_27 rfl (lv_at hl 3 rfl) ?_
          refine ldC0_5 C hd hi (v := k_2.2.1 i 5 x3.toNatClampNeg) h.1 rfl dX0_gainers_28 ?_
          replace h := h.2
          refine lv_if_eq (tgt := 38) hx hb dX0_gainers_29 (by decide) (fun c_4 => ?_) (fun c_4 => ?_)
          · replace h := h.1 c_4
            refine lv_iinc (v := (x3 + (1 : Int32))) (lv' := [(3, .int (x3 + (1 : Int32))), (0, .ref (a i)), (1, .int x1), (2, .int x2)]) hx hb dX0_gainers_38 hl (k := 3) rfl rfl (by decide) rfl (fun ls hl => ?_)
            refine lv_goto (tgt := 4) hx hb dX0_gainers_41 (by decide) ?_
            exact ih x1 x2 (x3 + (1 : Int32))  _ _ _ _ h hd (lv_sub hl [1, 2, 3, 0] rfl)
          · replace h := h.2 c_4
            refine lv_iload_n hx hb dX0_gainers_32 rfl (lv_at hl 2 rfl) ?_
            refine lv_iconst (v := 1) hx hb dX0_gainers_33 (by decide) ?_
            refine lv_iload_n hx hb dX0_gainers_34 rfl (lv_at hl 3 rfl) ?_
            refine lv_ishl hx hb dX0_gainers_35 ?_
            refine lv_ior hx hb dX0_gainers_36 ?_
            refine lv_istore_n (lv' := [(2, .int (x2 ||| ((1 : Int32) <<< (x3 &&& 31)))), (0, .ref (a i)), (1, .int x1), (3, .int x3)]) hx hb dX0_gainers_37 rfl hl (by decide) rfl (fun ls hl => ?_)
            refine lv_iinc (v := (x3 + (1 : Int32))) (lv' := [(3, .int (x3 + (1 : Int32))), (2, .int (x2 ||| ((1 : Int32) <<< (x3 &&& 31)))), (0, .ref (a i)), (1, .int x1)]) hx hb dX0_gainers_38 hl (k := 3) rfl rfl (by decide) rfl (fun ls hl => ?_)
            refine lv_goto (tgt := 4) hx hb dX0_gainers_41 (by decide) ?_
            exact ih x1 (x2 ||| ((1 : Int32) <<< (x3 &&& 31))) (x3 + (1 : Int32))  _ _ _ _ h hd (lv_sub hl [2, 3, 1, 0] rfl)
  cases n with
  | zero => exact h.elim
  | succ n =>
    replace h : wC_X0_gainers i n 1 x1 (0 : Int32) (0 : Int32) k Qp := h
    refine lv_iconst (v := 0) hx hb dX0_gainers_0 (by decide) ?_
    refine lv_istore_n (lv' := [(2, .int (0 : Int32)), (0, .ref (a i)), (1, .int x1)]) hx hb dX0_gainers_1 rfl hl (by decide) rfl (fun ls hl => ?_)
    refine lv_iconst (v := 0) hx hb dX0_gainers_2 (by decide) ?_
    refine lv_istore_n (lv' := [(3, .int (0 : Int32)), (2, .int (0 : Int32)), (0, .ref (a i)), (1, .int x1)]) hx hb dX0_gainers_3 rfl hl (by decide) rfl (fun ls hl => ?_)
    exact L n x1 (0 : Int32) (0 : Int32)  _ _ _ _ h hd (lv_sub hl [2, 3, 1, 0] rfl)
def wC_X0_goThroughTrial (i : Nat) : Nat → Nat → Int32 → Int32 → Int32 → Int32 → Int32 → KC → (Int32 → KC → Prop) → Prop
  | 0, _, _, _, _, _, _, _, _ => False
  | n + 1, c, x1, x2, x3, x4, x5, k, Q => match c with
    | 0 => (∃ n_1 : Nat, wC_X0_sumOf i n_1 0 x1 0 0 k (fun r_1 k_1 => (vp_in x2 4 ∧ wC_X0_goThroughTrial i n 1 x1 x2 r_1 ((k_1.2.1 1 4 x2.toNatClampNeg) - r_1) (0 : Int32) k_1 Q)))
    | 1 => (((k.1 1 0) ≤ x5 → wC_X0_goThroughTrial i n 2 x1 x2 0 x4 (0 : Int32) k Q) ∧ (¬ (k.1 1 0) ≤ x5 → (wC_isOn x1 x5 k (fun r_3 k_3 => ((r_3 = 0 → wC_X0_goThroughTrial i n 1 x1 x2 x3 x4 (x5 + (1 : Int32)) k_3 Q) ∧ (¬ r_3 = 0 → (vp_in x2 4 ∧ (wC_X0_says i (0 : Int32) x5 x3 (k_3.2.1 1 4 x2.toNatClampNeg) (k_3.1 i 8) k_3 (fun r_5 k_5 => (wC_bounded r_5 (0 : Int32) (400 : Int32) k_5 (fun r_6 k_6 => (wC_X0_gainOf i x5 x2 x4 r_6 k_6 (fun r_7 k_7 => (vp_in x5 8 ∧ wC_X0_goThroughTrial i n 1 x1 x2 x3 x4 (x5 + (1 : Int32)) (cA k_7 i 5 (upd (k_7.2.1 i 5) x5.toNatClampNeg r_7)) Q))))))))))))))
    | _ => (((k.1 1 0) ≤ x5 → (vp_in x2 4 ∧ (vp_in x2 4 ∧ Q x4 (cI (cA k i 4 (upd (k.2.1 i 4) x2.toNatClampNeg ((k.2.1 i 4 x2.toNatClampNeg) + (1 : Int32)))) i 8 ((k.1 i 8) + (1 : Int32)))))) ∧ (¬ (k.1 1 0) ≤ x5 → (wC_isOn x1 x5 k (fun r_9 k_9 => ((r_9 = 0 → wC_X0_goThroughTrial i n 2 x1 x2 0 x4 (x5 + (1 : Int32)) k_9 Q) ∧ (¬ r_9 = 0 → (vp_in x5 8 ∧ (vp_in x5 8 ∧ (wC_bounded ((k_9.2.1 i 1 x5.toNatClampNeg) + (k_9.2.1 i 5 x5.toNatClampNeg)) (-9999 : Int32) (9999 : Int32) k_9 (fun r_11 k_11 => (vp_in x5 8 ∧ (vp_in x5 8 ∧ (vp_in x5 8 ∧ (vp_in ((x5 * (4 : Int32)) + x2) 32 ∧ (vp_in ((x5 * (4 : Int32)) + x2) 32 ∧ wC_X0_goThroughTrial i n 2 x1 x2 0 x4 (x5 + (1 : Int32)) (cA (cA (cA k_11 i 1 (upd (k_11.2.1 i 1) x5.toNatClampNeg r_11)) i 2 (upd ((cA k_11 i 1 (upd (k_11.2.1 i 1) x5.toNatClampNeg r_11)).2.1 i 2) x5.toNatClampNeg ((k_11.2.1 i 2 x5.toNatClampNeg) + (1 : Int32)))) i 3 (upd ((cA (cA k_11 i 1 (upd (k_11.2.1 i 1) x5.toNatClampNeg r_11)) i 2 (upd ((cA k_11 i 1 (upd (k_11.2.1 i 1) x5.toNatClampNeg r_11)).2.1 i 2) x5.toNatClampNeg ((k_11.2.1 i 2 x5.toNatClampNeg) + (1 : Int32)))).2.1 i 3) ((x5 * (4 : Int32)) + x2).toNatClampNeg ((k_11.2.1 i 3 ((x5 * (4 : Int32)) + x2).toNatClampNeg) + (1 : Int32)))) Q)))))))))))))))
set_option maxHeartbeats 4000000 in
set_option maxRecDepth 100000 in
theorem cC_X0_goThroughTrial {l : Launch} {P : EP} {D : va_G} {a : Nat → Nat} {b : Nat → Nat → Nat} {g : Nat → ClassId} {i : Nat} (hi : i = 2 ∨ i = 3 ∨ i = 4) {k : KC} {Qp : Int32 → KC → Prop} (n : Nat) (x1 : Int32) (x2 : Int32) (h : wC_X0_goThroughTrial i n 0 x1 x2 0 0 0 k Qp) : Di l P D (tyA g) (wC a b g) yX0_goThroughTrial cX0_goThroughTrial 7 ({ frames := 3, cells := 0, slots := 0, locals := 75 }) [.ref (a i), .int x1, .int x2] k Qp := by
  refine Di_of (by decide) (Nat.le_of_ble_eq_true rfl) ?_
  intro p e s m args below meth c A Z ls C ret hd hl
  have hx := C.1
  have hb := C.2.1
  have hl : lv_has ls 7 [(0, .ref (a i)), (1, .int x1), (2, .int x2)] := hl
  have L : ∀ n : Nat, (∀ (x1 : Int32) (x2 : Int32) (x3 : Int32) (x4 : Int32) (x5 : Int32) (k : KC) (H : Heap) (locs : List Loc) (ls : Array Slot), wC_X0_goThroughTrial i n 1 x1 x2 x3 x4 x5 k Qp → Hd D (wC a b g k) A s H locs → lv_has ls 7 [(0, .ref (a i)), (1, .int x1), (2, .int x2), (3, .int x3), (4, .int x4), (5, .int x5)] → W p l e ({ frames := 3, cells := 0, slots := 0, locals := 75 }) s m args below meth c H locs 0 0 Z (F0 m 22 ls [])) ∧ (∀ (x1 : Int32) (x2 : Int32) (x4 : Int32) (x5 : Int32) (k : KC) (H : Heap) (locs : List Loc) (ls : Array Slot), wC_X0_goThroughTrial i n 2 x1 x2 0 x4 x5 k Qp → Hd D (wC a b g k) A s H locs → lv_has ls 7 [(0, .ref (a i)), (1, .int x1), (2, .int x2), (4, .int x4), (5, .int x5)] → W p l e ({ frames := 3, cells := 0, slots := 0, locals := 75 }) s m args below meth c H locs 0 0 Z (F0 m 100 ls [])) := by
    intro n
    induction n with
    | zero => exact ⟨fun _ _ _ _ _ _ _ _ _ h => h.elim, fun _ _ _ _ _ _ _ _ h => h.elim⟩
    | succ n ih =>
      refine ⟨?_, ?_⟩
      · intro x1 x2 x3 x4 x5 k H locs ls h hd hl
        replace h : (((k.1 1 0) ≤ x5 → wC_X0_goThroughTrial i n 2 x1 x2 0 x4 (0 : Int32) k Qp) ∧ (¬ (k.1 1 0) ≤ x5 → (wC_isOn x1 x5 k (fun r_3 k_3 => ((r_3 = 0 → wC_X0_goThroughTrial i n 1 x1 x2 x3 x4 (x5 + (1 : Int32)) k_3 Qp) ∧ (¬ r_3 = 0 → (vp_in x2 4 ∧ (wC_X0_says i (0 : Int32) x5 x3 (k_3.2.1 1 4 x2.toNatClampNeg) (k_3.1 i 8) k_3 (fun r_5 k_5 => (wC_bounded r_5 (0 : Int32) (400 : Int32) k_5 (fun r_6 k_6 => (wC_X0_gainOf i x5 x2 x4 r_6 k_6 (fun r_7 k_7 => (vp_in x5 8 ∧ wC_X0_goThroughTrial i n 1 x1 x2 x3 x4 (x5 + (1 : Int32)) (cA k_7 i 5 (upd (k_7.2.1 i 5) x5.toNatClampNeg r_7)) Qp)))))))))))))) := h
        refine lv_iload hx hb dX0_goThroughTrial_22 (lv_at hl 5 rfl) ?_
        refine lv_aload_n hx hb dX0_goThroughTrial_24 rfl (lv_at hl 0 rfl) ?_
        refine gC0_0_0 C hd hi dX0_goThroughTrial_25 ?_
        refine gC0_8_0 C hd (v := k.1 1 0) rfl dX0_goThroughTrial_28 ?_
        refine lv_icmp_ge (tgt := 97) hx hb dX0_goThroughTrial_31 (by decide) (fun c_2 => ?_) (fun c_2 => ?_)
        · replace h := h.1 c_2
          refine lv_iconst (v := 0) hx hb dX0_goThroughTrial_97 (by decide) ?_
          refine lv_istore (lv' := [(5, .int (0 : Int32)), (0, .ref (a i)), (1, .int x1), (2, .int x2), (3, .int x3), (4, .int x4)]) hx hb dX0_goThroughTrial_98 hl (by decide) rfl (fun ls hl => ?_)
          exact (ih).2 x1 x2 x4 (0 : Int32)  _ _ _ _ h hd (lv_sub hl [1, 2, 3, 5, 0] rfl)
        · replace h := h.2 c_2
          refine lv_iload_n hx hb dX0_goThroughTrial_34 rfl (lv_at hl 1 rfl) ?_
          refine lv_iload hx hb dX0_goThroughTrial_35 (lv_at hl 5 rfl) ?_
          refine en_z C hd kwRX0_X9_isOn_75 (cC_isOn _ _ h) ⟨rfl, rfl⟩ ⟨by decide, by decide⟩ hl.1 rfl rfl (Nat.le_of_ble_eq_true rfl) ⟨Nat.zero_le _, Nat.zero_le _⟩ dX0_goThroughTrial_37 (fun r_3 k_3 H locs hz_3 h hd => ?_)
          refine lv_if_eq (tgt := 91) hx hb dX0_goThroughTrial_40 (by decide) (fun c_4 => ?_) (fun c_4 => ?_)
          · replace h := h.1 c_4
            refine lv_iinc (v := (x5 + (1 : Int32))) (lv' := [(5, .int (x5 + (1 : Int32))), (0, .ref (a i)), (1, .int x1), (2, .int x2), (3, .int x3), (4, .int x4)]) hx hb dX0_goThroughTrial_91 hl (k := 5) rfl rfl (by decide) rfl (fun ls hl => ?_)
            refine lv_goto (tgt := 22) hx hb dX0_goThroughTrial_94 (by decide) ?_
            exact (ih).1 x1 x2 x3 x4 (x5 + (1 : Int32))  _ _ _ _ h hd (lv_sub hl [1, 2, 3, 4, 5, 0] rfl)
          · replace h := h.2 c_4
            refine lv_aload_n hx hb dX0_goThroughTrial_43 rfl (lv_at hl 0 rfl) ?_
            refine lv_iconst (v := 0) hx hb dX0_goThroughTrial_44 (by decide) ?_
            refine lv_iload hx hb dX0_goThroughTrial_45 (lv_at hl 5 rfl) ?_
            refine lv_iload_n hx hb dX0_goThroughTrial_47 rfl (lv_at hl 3 rfl) ?_
            refine lv_aload_n hx hb dX0_goThroughTrial_48 rfl (lv_at hl 0 rfl) ?_
            refine gC0_0_0 C hd hi dX0_goThroughTrial_49 ?_
            refine gC0_8_4 C hd dX0_goThroughTrial_52 ?_
            refine lv_iload_n hx hb dX0_goThroughTrial_55 rfl (lv_at hl 2 rfl) ?_
            refine ldC8_4 C hd (v := k_3.2.1 1 4 x2.toNatClampNeg) h.1 rfl dX0_goThroughTrial_56 ?_
            replace h := h.2
            refine lv_aload_n hx hb dX0_goThroughTrial_57 rfl (lv_at hl 0 rfl) ?_
            refine gC0_0_8 C hd hi (v := k_3.1 i 8) rfl dX0_goThroughTrial_58 ?_
            refine ev_i C hd kwRX0_X0_says_68 (cC_X0_says hi _ _ _ _ _ h) ⟨rfl, rfl⟩ ⟨by decide, by decide⟩ (rcC0 hi) hl.1 rfl rfl (Nat.le_of_ble_eq_true rfl) ⟨Nat.zero_le _, Nat.zero_le _⟩ dX0_goThroughTrial_61 (fun r_5 k_5 H locs h hd => ?_)
            refine lv_istore (lv' := [(6, .int r_5), (0, .ref (a i)), (1, .int x1), (2, .int x2), (3, .int x3), (4, .int x4), (5, .int x5)]) hx hb dX0_goThroughTrial_64 hl (by decide) rfl (fun ls hl => ?_)
            refine lv_aload_n hx hb dX0_goThroughTrial_66 rfl (lv_at hl 1 rfl) ?_
            refine gC0_0_5 C hd hi dX0_goThroughTrial_67 ?_
            refine lv_iload hx hb dX0_goThroughTrial_70 (lv_at hl 6 rfl) ?_
            refine lv_aload_n hx hb dX0_goThroughTrial_72 rfl (lv_at hl 1 rfl) ?_
            refine lv_iload hx hb dX0_goThroughTrial_73 (lv_at hl 6 rfl) ?_
            refine lv_iload_n hx hb dX0_goThroughTrial_75 rfl (lv_at hl 3 rfl) ?_
            refine lv_iload hx hb dX0_goThroughTrial_76 (lv_at hl 5 rfl) ?_
            refine lv_iload hx hb dX0_goThroughTrial_78 (lv_at hl 0 rfl) ?_
            refine lv_iconst (v := 0) hx hb dX0_goThroughTrial_80 (by decide) ?_
            refine lv_sipush (v := 400) hx hb dX0_goThroughTrial_81 (by decide) ?_
            refine en_i C hd kwRX0_X9_bounded_64 (cC_bounded _ _ _ h) ⟨rfl, rfl⟩ ⟨by decide, by decide⟩ hl.1 rfl rfl (Nat.le_of_ble_eq_true rfl) ⟨Nat.zero_le _, Nat.zero_le _⟩ dX0_goThroughTrial_84 (fun r_6 k_6 H locs h hd => ?_)
            refine ev_i C hd kwRX0_X0_gainOf_96 (cC_X0_gainOf hi _ _ _ _ h) ⟨rfl, rfl⟩ ⟨by decide, by decide⟩ (rcC0 hi) hl.1 rfl rfl (Nat.le_of_ble_eq_true rfl) ⟨Nat.zero_le _, Nat.zero_le _⟩ dX0_goThroughTrial_87 (fun r_7 k_7 H locs h hd => ?_)
            refine stC0_5 C hd hi h.1 dX0_goThroughTrial_90 (fun H locs hd => ?_)
            replace h := h.2
            refine lv_iinc (v := (x5 + (1 : Int32))) (lv' := [(5, .int (x5 + (1 : Int32))), (6, .int r_5), (0, .ref (a i)), (1, .int x1), (2, .int x2), (3, .int x3), (4, .int x4)]) hx hb dX0_goThroughTrial_91 hl (k := 6) rfl rfl (by decide) rfl (fun ls hl => ?_)
            refine lv_goto (tgt := 22) hx hb dX0_goThroughTrial_94 (by decide) ?_
            exact (ih).1 x1 x2 x3 x4 (x5 + (1 : Int32))  _ _ _ _ h hd (lv_sub hl [2, 3, 4, 5, 6, 0] rfl)
      · intro x1 x2 x4 x5 k H locs ls h hd hl
        replace h : (((k.1 1 0) ≤ x5 → (vp_in x2 4 ∧ (vp_in x2 4 ∧ Qp x4 (cI (cA k i 4 (upd (k.2.1 i 4) x2.toNatClampNeg ((k.2.1 i 4 x2.toNatClampNeg) + (1 : Int32)))) i 8 ((k.1 i 8) + (1 : Int32)))))) ∧ (¬ (k.1 1 0) ≤ x5 → (wC_isOn x1 x5 k (fun r_9 k_9 => ((r_9 = 0 → wC_X0_goThroughTrial i n 2 x1 x2 0 x4 (x5 + (1 : Int32)) k_9 Qp) ∧ (¬ r_9 = 0 → (vp_in x5 8 ∧ (vp_in x5 8 ∧ (wC_bounded ((k_9.2.1 i 1 x5.toNatClampNeg) + (k_9.2.1 i 5 x5.toNatClampNeg)) (-9999 : Int32) (9999 : Int32) k_9 (fun r_11 k_11 => (vp_in x5 8 ∧ (vp_in x5 8 ∧ (vp_in x5 8 ∧ (vp_in ((x5 * (4 : Int32)) + x2) 32 ∧ (vp_in ((x5 * (4 : Int32)) + x2) 32 ∧ wC_X0_goThroughTrial i n 2 x1 x2 0 x4 (x5 + (1 : Int32)) (cA (cA (cA k_11 i 1 (upd (k_11.2.1 i 1) x5.toNatClampNeg r_11)) i 2 (upd ((cA k_11 i 1 (upd (k_11.2.1 i 1) x5.toNatClampNeg r_11)).2.1 i 2) x5.toNatClampNeg ((k_11.2.1 i 2 x5.toNatClampNeg) + (1 : Int32)))) i 3 (upd ((cA (cA k_11 i 1 (upd (k_11.2.1 i 1) x5.toNatClampNeg r_11)) i 2 (upd ((cA k_11 i 1 (upd (k_11.2.1 i 1) x5.toNatClampNeg r_11)).2.1 i 2) x5.toNatClampNeg ((k_11.2.1 i 2 x5.toNatClampNeg) + (1 : Int32)))).2.1 i 3) ((x5 * (4 : Int32)) + x2).toNatClampNeg ((k_11.2.1 i 3 ((x5 * (4 : Int32)) + x2).toNatClampNeg) + (1 : Int32)))) Qp))))))))))))))) := h
        refine lv_iload hx hb dX0_goThroughTrial_100 (lv_at hl 4 rfl) ?_
        refine lv_aload_n hx hb dX0_goThroughTrial_102 rfl (lv_at hl 0 rfl) ?_
        refine gC0_0_0 C hd hi dX0_goThroughTrial_103 ?_
        refine gC0_8_0 C hd (v := k.1 1 0) rfl dX0_goThroughTrial_106 ?_
        refine lv_icmp_ge (tgt := 184) hx hb dX0_goThroughTrial_109 (by decide) (fun c_8 => ?_) (fun c_8 => ?_)
        · replace h := h.1 c_8
          refine lv_aload_n hx hb dX0_goThroughTrial_184 rfl (lv_at hl 0 rfl) ?_
          refine gC0_0_4 C hd hi dX0_goThroughTrial_185 ?_
          refine lv_iload_n hx hb dX0_goThroughTrial_188 rfl (lv_at hl 2 rfl) ?_
          refine lv_dup2_11 hx hb dX0_goThroughTrial_189 rfl rfl ?_
          refine ldC0_4 C hd hi (v := k.2.1 i 4 x2.toNatClampNeg) h.1 rfl dX0_goThroughTrial_190 ?_
          replace h := h.2
          refine lv_iconst (v := 1) hx hb dX0_goThroughTrial_191 (by decide) ?_
          refine lv_iadd hx hb dX0_goThroughTrial_192 ?_
          refine stC0_4 C hd hi h.1 dX0_goThroughTrial_193 (fun H locs hd => ?_)
          replace h := h.2
          refine lv_aload_n hx hb dX0_goThroughTrial_194 rfl (lv_at hl 0 rfl) ?_
          refine lv_dup hx hb dX0_goThroughTrial_195 rfl ?_
          refine gC0_0_8 C hd hi (v := k.1 i 8) rfl dX0_goThroughTrial_196 ?_
          refine lv_iconst (v := 1) hx hb dX0_goThroughTrial_199 (by decide) ?_
          refine lv_iadd hx hb dX0_goThroughTrial_200 ?_
          refine pC0_0_8 C hd hi dX0_goThroughTrial_201 (fun H locs hd => ?_)
          refine lv_iload hx hb dX0_goThroughTrial_204 (lv_at hl 3 rfl) ?_
          exact ret hd h dX0_goThroughTrial_206
        · replace h := h.2 c_8
          refine lv_iload_n hx hb dX0_goThroughTrial_112 rfl (lv_at hl 1 rfl) ?_
          refine lv_iload hx hb dX0_goThroughTrial_113 (lv_at hl 4 rfl) ?_
          refine en_z C hd kwRX0_X9_isOn_75 (cC_isOn _ _ h) ⟨rfl, rfl⟩ ⟨by decide, by decide⟩ hl.1 rfl rfl (Nat.le_of_ble_eq_true rfl) ⟨Nat.zero_le _, Nat.zero_le _⟩ dX0_goThroughTrial_115 (fun r_9 k_9 H locs hz_9 h hd => ?_)
          refine lv_if_eq (tgt := 178) hx hb dX0_goThroughTrial_118 (by decide) (fun c_10 => ?_) (fun c_10 => ?_)
          · replace h := h.1 c_10
            refine lv_iinc (v := (x5 + (1 : Int32))) (lv' := [(5, .int (x5 + (1 : Int32))), (0, .ref (a i)), (1, .int x1), (2, .int x2), (4, .int x4)]) hx hb dX0_goThroughTrial_178 hl (k := 4) rfl rfl (by decide) rfl (fun ls hl => ?_)
            refine lv_goto (tgt := 100) hx hb dX0_goThroughTrial_181 (by decide) ?_
            exact (ih).2 x1 x2 x4 (x5 + (1 : Int32))  _ _ _ _ h hd (lv_sub hl [1, 2, 3, 4, 0] rfl)
          · replace h := h.2 c_10
            refine lv_aload_n hx hb dX0_goThroughTrial_121 rfl (lv_at hl 0 rfl) ?_
            refine gC0_0_1 C hd hi dX0_goThroughTrial_122 ?_
            refine lv_iload hx hb dX0_goThroughTrial_125 (lv_at hl 4 rfl) ?_
            refine lv_aload_n hx hb dX0_goThroughTrial_127 rfl (lv_at hl 0 rfl) ?_
            refine gC0_0_1 C hd hi dX0_goThroughTrial_128 ?_
            refine lv_iload hx hb dX0_goThroughTrial_131 (lv_at hl 4 rfl) ?_
            refine ldC0_1 C hd hi (v := k_9.2.1 i 1 x5.toNatClampNeg) h.1 rfl dX0_goThroughTrial_133 ?_
            replace h := h.2
            refine lv_aload_n hx hb dX0_goThroughTrial_134 rfl (lv_at hl 0 rfl) ?_
            refine gC0_0_5 C hd hi dX0_goThroughTrial_135 ?_
            refine lv_iload hx hb dX0_goThroughTrial_138 (lv_at hl 4 rfl) ?_
            refine ldC0_5 C hd hi (v := k_9.2.1 i 5 x5.toNatClampNeg) h.1 rfl dX0_goThroughTrial_140 ?_
            replace h := h.2
            refine lv_iadd hx hb dX0_goThroughTrial_141 ?_
            refine lv_sipush (v := -9999) hx hb dX0_goThroughTrial_142 (by decide) ?_
            refine lv_sipush (v := 9999) hx hb dX0_goThroughTrial_145 (by decide) ?_
            refine en_i C hd kwRX0_X9_bounded_64 (cC_bounded _ _ _ h) ⟨rfl, rfl⟩ ⟨by decide, by decide⟩ hl.1 rfl rfl (Nat.le_of_ble_eq_true rfl) ⟨Nat.zero_le _, Nat.zero_le _⟩ dX0_goThroughTrial_148 (fun r_11 k_11 H locs h hd => ?_)
            refine stC0_1 C hd hi h.1 dX0_goThroughTrial_151 (fun H locs hd => ?_)
            replace h := h.2
            refine lv_aload_n hx hb dX0_goThroughTrial_152 rfl (lv_at hl 0 rfl) ?_
            refine gC0_0_2 C hd hi dX0_goThroughTrial_153 ?_
            refine lv_iload hx hb dX0_goThroughTrial_156 (lv_at hl 4 rfl) ?_
            refine lv_dup2_11 hx hb dX0_goThroughTrial_158 rfl rfl ?_
            refine ldC0_2 C hd hi (v := k_11.2.1 i 2 x5.toNatClampNeg) h.1 (by rcases hi with rfl | rfl | rfl <;> rfl) dX0_goThroughTrial_159 ?_
            replace h := h.2
            refine lv_iconst (v := 1) hx hb dX0_goThroughTrial_160 (by decide) ?_
            refine lv_iadd hx hb dX0_goThroughTrial_161 ?_
            refine stC0_2 C hd hi h.1 dX0_goThroughTrial_162 (fun H locs hd => ?_)
            replace h := h.2
            refine lv_aload_n hx hb dX0_goThroughTrial_163 rfl (lv_at hl 0 rfl) ?_
            refine gC0_0_3 C hd hi dX0_goThroughTrial_164 ?_
            refine lv_iload hx hb dX0_goThroughTrial_167 (lv_at hl 4 rfl) ?_
            refine lv_iconst (v := 4) hx hb dX0_goThroughTrial_169 (by decide) ?_
            refine lv_imul hx hb dX0_goThroughTrial_170 ?_
            refine lv_iload_n hx hb dX0_goThroughTrial_171 rfl (lv_at hl 2 rfl) ?_
            refine lv_iadd hx hb dX0_goThroughTrial_172 ?_
            refine lv_dup2_11 hx hb dX0_goThroughTrial_173 rfl rfl ?_
            refine ldC0_3 C hd hi (v := k_11.2.1 i 3 ((x5 * (4 : Int32)) + x2).toNatClampNeg) h.1 (by rcases hi with rfl | rfl | rfl <;> rfl) dX0_goThroughTrial_174 ?_
            replace h := h.2
            refine lv_iconst (v := 1) hx hb dX0_goThroughTrial_175 (by decide) ?_
            refine lv_iadd hx hb dX0_goThroughTrial_176 ?_
            refine stC0_3 C hd hi h.1 dX0_goThroughTrial_177 (fun H locs hd => ?_)
            replace h := h.2
            refine lv_iinc (v := (x5 + (1 : Int32))) (lv' := [(5, .int (x5 + (1 : Int32))), (0, .ref (a i)), (1, .int x1), (2, .int x2), (4, .int x4)]) hx hb dX0_goThroughTrial_178 hl (k := 4) rfl rfl (by decide) rfl (fun ls hl => ?_)
            refine lv_goto (tgt := 100) hx hb dX0_goThroughTrial_181 (by decide) ?_
            exact (ih).2 x1 x2 x4 (x5 + (1 : Int32))  _ _ _ _ h hd (lv_sub hl [1, 2, 3, 4, 0] rfl)
  cases n with
  | zero => exact h.elim
  | succ n =>
    replace h : (∃ n_1 : Nat, wC_X0_sumOf i n_1 0 x1 0 0 k (fun r_1 k_1 => (vp_in x2 4 ∧ wC_X0_goThroughTrial i n 1 x1 x2 r_1 ((k_1.2.1 1 4 x2.toNatClampNeg) - r_1) (0 : Int32) k_1 Qp))) := h
    refine lv_aload_n hx hb dX0_goThroughTrial_0 rfl (lv_at hl 0 rfl) ?_
    refine lv_iload_n hx hb dX0_goThroughTrial_1 rfl (lv_at hl 1 rfl) ?_
    obtain ⟨n_1, h⟩ := h
    refine ev_i C hd kwRX0_X0_sumOf_90 (cC_X0_sumOf hi n_1 _ h) ⟨rfl, rfl⟩ ⟨by decide, by decide⟩ (rcC0 hi) hl.1 rfl rfl (Nat.le_of_ble_eq_true rfl) ⟨Nat.zero_le _, Nat.zero_le _⟩ dX0_goThroughTrial_2 (fun r_1 k_1 H locs h hd => ?_)
    refine lv_istore_n (lv' := [(3, .int r_1), (0, .ref (a i)), (1, .int x1), (2, .int x2)]) hx hb dX0_goThroughTrial_5 rfl hl (by decide) rfl (fun ls hl => ?_)
    refine lv_aload_n hx hb dX0_goThroughTrial_6 rfl (lv_at hl 1 rfl) ?_
    refine gC0_0_0 C hd hi dX0_goThroughTrial_7 ?_
    refine gC0_8_4 C hd dX0_goThroughTrial_10 ?_
    refine lv_iload_n hx hb dX0_goThroughTrial_13 rfl (lv_at hl 3 rfl) ?_
    refine ldC8_4 C hd (v := k_1.2.1 1 4 x2.toNatClampNeg) h.1 rfl dX0_goThroughTrial_14 ?_
    replace h := h.2
    refine lv_iload_n hx hb dX0_goThroughTrial_15 rfl (lv_at hl 0 rfl) ?_
    refine lv_isub hx hb dX0_goThroughTrial_16 ?_
    refine lv_istore (lv' := [(4, .int ((k_1.2.1 1 4 x2.toNatClampNeg) - r_1)), (3, .int r_1), (0, .ref (a i)), (1, .int x1), (2, .int x2)]) hx hb dX0_goThroughTrial_17 hl (by decide) rfl (fun ls hl => ?_)
    refine lv_iconst (v := 0) hx hb dX0_goThroughTrial_19 (by decide) ?_
    refine lv_istore (lv' := [(5, .int (0 : Int32)), (4, .int ((k_1.2.1 1 4 x2.toNatClampNeg) - r_1)), (3, .int r_1), (0, .ref (a i)), (1, .int x1), (2, .int x2)]) hx hb dX0_goThroughTrial_20 hl (by decide) rfl (fun ls hl => ?_)
    exact (L n).1 x1 x2 r_1 ((k_1.2.1 1 4 x2.toNatClampNeg) - r_1) (0 : Int32)  _ _ _ _ h hd (lv_sub hl [3, 4, 5, 2, 1, 0] rfl)
def wC_X0_goThroughDay (i : Nat) (d : Dn) : Nat → Nat → Int32 → KC → (KC → Prop) → Prop
  | 0, _, _, _, _ => False
  | n + 1, c, x2, k, Q => match c with
    | 0 => wC_X0_goThroughDay i d n 1 (0 : Int32) k Q
    | 1 => (d ∈ plC k ∧ (((nI d.2.2.2.1) ≤ x2 → wC_X0_goThroughDay i d n 2 (0 : Int32) k Q) ∧ (¬ (nI d.2.2.2.1) ≤ x2 → (vp_in x2 d.2.2.2.1 ∧ (vp_in x2 d.2.2.2.1 ∧ (∃ n_3 : Nat, wC_X0_goThroughTrial i n_3 0 (d.2.2.2.2.1 x2.toNatClampNeg) (d.2.2.2.2.2 x2.toNatClampNeg) 0 0 0 k (fun r_3 k_3 => wC_X0_goThroughDay i d n 1 (x2 + (1 : Int32)) k_3 Q)))))))
    | _ => (((k.1 1 0) ≤ x2 → Q (cI (cI k i 7 ((k.1 i 7) + (1 : Int32))) i 8 (0 : Int32))) ∧ (¬ (k.1 1 0) ≤ x2 → (vp_in x2 8 ∧ (wC_X0_fadesOf i x2 k (fun r_5 k_5 => (vp_in x2 8 ∧ wC_X0_goThroughDay i d n 2 (x2 + (1 : Int32)) (cA k_5 i 1 (upd (k_5.2.1 i 1) x2.toNatClampNeg (((k.2.1 i 1 x2.toNatClampNeg) * ((100 : Int32) - r_5)) / (100 : Int32)))) Q))))))
set_option maxHeartbeats 4000000 in
set_option maxRecDepth 100000 in
theorem cC_X0_goThroughDay {l : Launch} {P : EP} {D : va_G} {a : Nat → Nat} {b : Nat → Nat → Nat} {g : Nat → ClassId} {i : Nat} (hi : i = 2 ∨ i = 3 ∨ i = 4) {d : Dn} {k : KC} {Qp : KC → Prop} (n : Nat)  (h : wC_X0_goThroughDay i d n 0 0 k Qp) : Dv l P D (tyA g) (wC a b g) yX0_goThroughDay cX0_goThroughDay 3 ({ frames := 4, cells := 0, slots := 0, locals := 101 }) [.ref (a i), .ref d.1] k Qp := by
  refine Dv_of (by decide) (Nat.le_of_ble_eq_true rfl) ?_
  intro p e s m args below meth c A Z ls C ret hd hl
  have hx := C.1
  have hb := C.2.1
  have hl : lv_has ls 3 [(0, .ref (a i)), (1, .ref d.1)] := hl
  have L : ∀ n : Nat, (∀ (x2 : Int32) (k : KC) (H : Heap) (locs : List Loc) (ls : Array Slot), wC_X0_goThroughDay i d n 1 x2 k Qp → Hd D (wC a b g k) A s H locs → lv_has ls 3 [(0, .ref (a i)), (1, .ref d.1), (2, .int x2)] → W p l e ({ frames := 4, cells := 0, slots := 0, locals := 101 }) s m args below meth c H locs 0 0 Z (F0 m 7 ls [])) ∧ (∀ (x2 : Int32) (k : KC) (H : Heap) (locs : List Loc) (ls : Array Slot), wC_X0_goThroughDay i d n 2 x2 k Qp → Hd D (wC a b g k) A s H locs → lv_has ls 3 [(0, .ref (a i)), (2, .int x2)] → W p l e ({ frames := 4, cells := 0, slots := 0, locals := 101 }) s m args below meth c H locs 0 0 Z (F0 m 40 ls [])) := by
    intro n
    induction n with
    | zero => exact ⟨fun _ _ _ _ _ h => h.elim, fun _ _ _ _ _ h => h.elim⟩
    | succ n ih =>
      refine ⟨?_, ?_⟩
      · intro x2 k H locs ls h hd hl
        replace h : (d ∈ plC k ∧ (((nI d.2.2.2.1) ≤ x2 → wC_X0_goThroughDay i d n 2 (0 : Int32) k Qp) ∧ (¬ (nI d.2.2.2.1) ≤ x2 → (vp_in x2 d.2.2.2.1 ∧ (vp_in x2 d.2.2.2.1 ∧ (∃ n_3 : Nat, wC_X0_goThroughTrial i n_3 0 (d.2.2.2.2.1 x2.toNatClampNeg) (d.2.2.2.2.2 x2.toNatClampNeg) 0 0 0 k (fun r_3 k_3 => wC_X0_goThroughDay i d n 1 (x2 + (1 : Int32)) k_3 Qp))))))) := h
        refine lv_iload_n hx hb dX0_goThroughDay_7 rfl (lv_at hl 2 rfl) ?_
        refine lv_aload_n hx hb dX0_goThroughDay_8 rfl (lv_at hl 1 rfl) ?_
        have hm_1 := h.1
        replace h := h.2
        refine gC0_1_2 C hd hm_1 dX0_goThroughDay_9 ?_
        refine lv_icmp_ge (tgt := 38) hx hb dX0_goThroughDay_12 (by decide) (fun c_2 => ?_) (fun c_2 => ?_)
        · replace h := h.1 c_2
          refine lv_iconst (v := 0) hx hb dX0_goThroughDay_38 (by decide) ?_
          refine lv_istore_n (lv' := [(2, .int (0 : Int32)), (0, .ref (a i)), (1, .ref d.1)]) hx hb dX0_goThroughDay_39 rfl hl (by decide) rfl (fun ls hl => ?_)
          exact (ih).2 (0 : Int32)  _ _ _ _ h hd (lv_sub hl [1, 0] rfl)
        · replace h := h.2 c_2
          refine lv_aload_n hx hb dX0_goThroughDay_15 rfl (lv_at hl 0 rfl) ?_
          refine lv_aload_n hx hb dX0_goThroughDay_16 rfl (lv_at hl 1 rfl) ?_
          refine gC0_1_0 C hd hm_1 dX0_goThroughDay_17 ?_
          refine lv_iload_n hx hb dX0_goThroughDay_20 rfl (lv_at hl 2 rfl) ?_
          refine ldC1_0 C hd hm_1 h.1 dX0_goThroughDay_21 ?_
          replace h := h.2
          refine lv_aload_n hx hb dX0_goThroughDay_22 rfl (lv_at hl 1 rfl) ?_
          refine gC0_1_1 C hd hm_1 dX0_goThroughDay_23 ?_
          refine lv_iload_n hx hb dX0_goThroughDay_26 rfl (lv_at hl 2 rfl) ?_
          refine ldC1_1 C hd hm_1 h.1 dX0_goThroughDay_27 ?_
          replace h := h.2
          obtain ⟨n_3, h⟩ := h
          refine ev_i C hd kwRX0_X0_goThroughTrial_117 (cC_X0_goThroughTrial hi n_3 _ _ h) ⟨rfl, rfl⟩ ⟨by decide, by decide⟩ (rcC0 hi) hl.1 rfl rfl (Nat.le_of_ble_eq_true rfl) ⟨Nat.zero_le _, Nat.zero_le _⟩ dX0_goThroughDay_28 (fun r_3 k_3 H locs h hd => ?_)
          refine lv_pop hx hb dX0_goThroughDay_31 rfl ?_
          refine lv_iinc (v := (x2 + (1 : Int32))) (lv' := [(2, .int (x2 + (1 : Int32))), (0, .ref (a i)), (1, .ref d.1)]) hx hb dX0_goThroughDay_32 hl (k := 2) rfl rfl (by decide) rfl (fun ls hl => ?_)
          refine lv_goto (tgt := 7) hx hb dX0_goThroughDay_35 (by decide) ?_
          exact (ih).1 (x2 + (1 : Int32))  _ _ _ _ h hd (lv_sub hl [1, 2, 0] rfl)
      · intro x2 k H locs ls h hd hl
        replace h : (((k.1 1 0) ≤ x2 → Qp (cI (cI k i 7 ((k.1 i 7) + (1 : Int32))) i 8 (0 : Int32))) ∧ (¬ (k.1 1 0) ≤ x2 → (vp_in x2 8 ∧ (wC_X0_fadesOf i x2 k (fun r_5 k_5 => (vp_in x2 8 ∧ wC_X0_goThroughDay i d n 2 (x2 + (1 : Int32)) (cA k_5 i 1 (upd (k_5.2.1 i 1) x2.toNatClampNeg (((k.2.1 i 1 x2.toNatClampNeg) * ((100 : Int32) - r_5)) / (100 : Int32)))) Qp)))))) := h
        refine lv_iload_n hx hb dX0_goThroughDay_40 rfl (lv_at hl 1 rfl) ?_
        refine lv_aload_n hx hb dX0_goThroughDay_41 rfl (lv_at hl 0 rfl) ?_
        refine gC0_0_0 C hd hi dX0_goThroughDay_42 ?_
        refine gC0_8_0 C hd (v := k.1 1 0) rfl dX0_goThroughDay_45 ?_
        refine lv_icmp_ge (tgt := 81) hx hb dX0_goThroughDay_48 (by decide) (fun c_4 => ?_) (fun c_4 => ?_)
        · replace h := h.1 c_4
          refine lv_aload_n hx hb dX0_goThroughDay_81 rfl (lv_at hl 0 rfl) ?_
          refine lv_dup hx hb dX0_goThroughDay_82 rfl ?_
          refine gC0_0_7 C hd hi (v := k.1 i 7) rfl dX0_goThroughDay_83 ?_
          refine lv_iconst (v := 1) hx hb dX0_goThroughDay_86 (by decide) ?_
          refine lv_iadd hx hb dX0_goThroughDay_87 ?_
          refine pC0_0_7 C hd hi dX0_goThroughDay_88 (fun H locs hd => ?_)
          refine lv_aload_n hx hb dX0_goThroughDay_91 rfl (lv_at hl 0 rfl) ?_
          refine lv_iconst (v := 0) hx hb dX0_goThroughDay_92 (by decide) ?_
          refine pC0_0_8 C hd hi dX0_goThroughDay_93 (fun H locs hd => ?_)
          exact ret hd h dX0_goThroughDay_96
        · replace h := h.2 c_4
          refine lv_aload_n hx hb dX0_goThroughDay_51 rfl (lv_at hl 0 rfl) ?_
          refine gC0_0_1 C hd hi dX0_goThroughDay_52 ?_
          refine lv_iload_n hx hb dX0_goThroughDay_55 rfl (lv_at hl 1 rfl) ?_
          refine lv_aload_n hx hb dX0_goThroughDay_56 rfl (lv_at hl 0 rfl) ?_
          refine gC0_0_1 C hd hi dX0_goThroughDay_57 ?_
          refine lv_iload_n hx hb dX0_goThroughDay_60 rfl (lv_at hl 1 rfl) ?_
          refine ldC0_1 C hd hi (v := k.2.1 i 1 x2.toNatClampNeg) h.1 rfl dX0_goThroughDay_61 ?_
          replace h := h.2
          refine lv_bipush (v := 100) hx hb dX0_goThroughDay_62 (by decide) ?_
          refine lv_aload_n hx hb dX0_goThroughDay_64 rfl (lv_at hl 0 rfl) ?_
          refine lv_iload_n hx hb dX0_goThroughDay_65 rfl (lv_at hl 1 rfl) ?_
          refine ev_i C hd kwRX0_X0_fadesOf_120 (cC_X0_fadesOf hi _ h) ⟨rfl, rfl⟩ ⟨by decide, by decide⟩ (rcC0 hi) hl.1 rfl rfl (Nat.le_of_ble_eq_true rfl) ⟨Nat.zero_le _, Nat.zero_le _⟩ dX0_goThroughDay_66 (fun r_5 k_5 H locs h hd => ?_)
          refine lv_isub hx hb dX0_goThroughDay_69 ?_
          refine lv_imul hx hb dX0_goThroughDay_70 ?_
          refine lv_bipush (v := 100) hx hb dX0_goThroughDay_71 (by decide) ?_
          refine lv_idiv hx hb dX0_goThroughDay_73 (by decide) ?_
          refine stC0_1 C hd hi h.1 dX0_goThroughDay_74 (fun H locs hd => ?_)
          replace h := h.2
          refine lv_iinc (v := (x2 + (1 : Int32))) (lv' := [(2, .int (x2 + (1 : Int32))), (0, .ref (a i))]) hx hb dX0_goThroughDay_75 hl (k := 1) rfl rfl (by decide) rfl (fun ls hl => ?_)
          refine lv_goto (tgt := 40) hx hb dX0_goThroughDay_78 (by decide) ?_
          exact (ih).2 (x2 + (1 : Int32))  _ _ _ _ h hd (lv_sub hl [1, 0] rfl)
  cases n with
  | zero => exact h.elim
  | succ n =>
    replace h : wC_X0_goThroughDay i d n 1 (0 : Int32) k Qp := h
    refine lv_aload_n hx hb dX0_goThroughDay_0 rfl (lv_at hl 1 rfl) ?_
    refine lv_ifnonnull (tgt := 5) hx hb dX0_goThroughDay_1 (by decide) ?_
    refine lv_iconst (v := 0) hx hb dX0_goThroughDay_5 (by decide) ?_
    refine lv_istore_n (lv' := [(2, .int (0 : Int32)), (0, .ref (a i)), (1, .ref d.1)]) hx hb dX0_goThroughDay_6 rfl hl (by decide) rfl (fun ls hl => ?_)
    exact (L n).1 (0 : Int32)  _ _ _ _ h hd (lv_sub hl [1, 2, 0] rfl)
