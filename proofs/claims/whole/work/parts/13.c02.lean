def wC_X0_startAnew (i : Nat) (x1 : Int32) (x2 : Int32) (k : KC) (Q : KC → Prop) : Prop := Q (cI (cI (cI (cI (cA (cA k i 1 (fun x => if x < 8 then (0 : Int32) else k.2.1 i 1 x)) i 2 (fun x => if x < 8 then (0 : Int32) else ((cA k i 1 (fun x => if x < 8 then (0 : Int32) else k.2.1 i 1 x)).2.1 i 2) x)) i 7 (0 : Int32)) i 8 (0 : Int32)) i 9 x1) i 10 x2)
set_option maxHeartbeats 4000000 in
set_option maxRecDepth 100000 in
theorem cC_X0_startAnew {l : Launch} {P : EP} {D : va_G} {a : Nat → Nat} {b : Nat → Nat → Nat} {g : Nat → ClassId} {i : Nat} (hi : i = 2 ∨ i = 3 ∨ i = 4) {k : KC} {Qp : KC → Prop} (x1 : Int32) (x2 : Int32) (h : wC_X0_startAnew i x1 x2 k Qp) : Dv l P D (tyA g) (wC a b g) yX0_startAnew cX0_startAnew 3 ({ frames := 1, cells := 0, slots := 0, locals := 23 }) [.ref (a i), .int x1, .int x2] k Qp := by
  refine Dv_of (by decide) (Nat.le_of_ble_eq_true rfl) ?_
  intro p e s m args below meth c A Z ls C ret hd hl
  have hx := C.1
  have hb := C.2.1
  have hl : lv_has ls 3 [(0, .ref (a i)), (1, .int x1), (2, .int x2)] := hl
  replace h : Qp (cI (cI (cI (cI (cA (cA k i 1 (fun x => if x < 8 then (0 : Int32) else k.2.1 i 1 x)) i 2 (fun x => if x < 8 then (0 : Int32) else ((cA k i 1 (fun x => if x < 8 then (0 : Int32) else k.2.1 i 1 x)).2.1 i 2) x)) i 7 (0 : Int32)) i 8 (0 : Int32)) i 9 x1) i 10 x2) := h
  refine lv_aload_n hx hb dX0_startAnew_0 rfl (lv_at hl 0 rfl) ?_
  refine gC0_0_1 C hd hi dX0_startAnew_1 ?_
  refine lv_iconst (v := 0) hx hb dX0_startAnew_4 (by decide) ?_
  refine flC C hd (ixC0_1 hi) (by decide) q_785 hl.1 ⟨by decide, by decide⟩ (Nat.le_of_ble_eq_true rfl) ⟨Nat.zero_le _, Nat.zero_le _⟩ dX0_startAnew_5 (fun H locs hd => ?_)
  refine lv_aload_n hx hb dX0_startAnew_8 rfl (lv_at hl 0 rfl) ?_
  refine gC0_0_2 C hd hi dX0_startAnew_9 ?_
  refine lv_iconst (v := 0) hx hb dX0_startAnew_12 (by decide) ?_
  refine flC C hd (ixC0_2 hi) (by decide) q_785 hl.1 ⟨by decide, by decide⟩ (Nat.le_of_ble_eq_true rfl) ⟨Nat.zero_le _, Nat.zero_le _⟩ dX0_startAnew_13 (fun H locs hd => ?_)
  refine lv_aload_n hx hb dX0_startAnew_16 rfl (lv_at hl 0 rfl) ?_
  refine lv_iconst (v := 0) hx hb dX0_startAnew_17 (by decide) ?_
  refine pC0_0_7 C hd hi dX0_startAnew_18 (fun H locs hd => ?_)
  refine lv_aload_n hx hb dX0_startAnew_21 rfl (lv_at hl 0 rfl) ?_
  refine lv_iconst (v := 0) hx hb dX0_startAnew_22 (by decide) ?_
  refine pC0_0_8 C hd hi dX0_startAnew_23 (fun H locs hd => ?_)
  refine lv_aload_n hx hb dX0_startAnew_26 rfl (lv_at hl 0 rfl) ?_
  refine lv_iload_n hx hb dX0_startAnew_27 rfl (lv_at hl 1 rfl) ?_
  refine pC0_0_9 C hd hi dX0_startAnew_28 (fun H locs hd => ?_)
  refine lv_aload_n hx hb dX0_startAnew_31 rfl (lv_at hl 0 rfl) ?_
  refine lv_iload_n hx hb dX0_startAnew_32 rfl (lv_at hl 2 rfl) ?_
  refine pC0_0_10 C hd hi dX0_startAnew_33 (fun H locs hd => ?_)
  exact ret hd h dX0_startAnew_36
def wC_X0_staysThroughDay (i : Nat) (d : Dn) : Nat → Nat → Int32 → KC → (Int32 → KC → Prop) → Prop
  | 0, _, _, _, _ => False
  | n + 1, c, x2, k, Q => match c with
    | 0 => (cpOk (0 : Int32) (0 : Int32) (8 : Int32) 8 8 ∧ (∃ n_1 : Nat, wC_X0_goThroughDay i d n_1 0 0 (cA k i 6 (va_cpy (k.2.1 i 1) (k.2.1 i 6) 0 0 8)) (fun k_1 => wC_X0_staysThroughDay i d n 1 (0 : Int32) k_1 Q)))
    | _ => (((8 : Int32) ≤ x2 → Q (1 : Int32) k) ∧ (¬ (8 : Int32) ≤ x2 → (vp_in x2 8 ∧ (vp_in x2 8 ∧ (((k.2.1 i 1 x2.toNatClampNeg) = (k.2.1 i 6 x2.toNatClampNeg) → wC_X0_staysThroughDay i d n 1 (x2 + (1 : Int32)) k Q) ∧ (¬ (k.2.1 i 1 x2.toNatClampNeg) = (k.2.1 i 6 x2.toNatClampNeg) → Q (0 : Int32) k))))))
set_option maxHeartbeats 4000000 in
set_option maxRecDepth 100000 in
theorem cC_X0_staysThroughDay {l : Launch} {P : EP} {D : va_G} {a : Nat → Nat} {b : Nat → Nat → Nat} {g : Nat → ClassId} {i : Nat} (hi : i = 2 ∨ i = 3 ∨ i = 4) {d : Dn} {k : KC} {Qp : Int32 → KC → Prop} (n : Nat)  (h : wC_X0_staysThroughDay i d n 0 0 k Qp) : Dz l P D (tyA g) (wC a b g) yX0_staysThroughDay cX0_staysThroughDay 3 ({ frames := 5, cells := 0, slots := 0, locals := 123 }) [.ref (a i), .ref d.1] k Qp := by
  refine Dz_of (by decide) (Nat.le_of_ble_eq_true rfl) ?_
  intro p e s m args below meth c A Z ls C ret hd hl
  have hx := C.1
  have hb := C.2.1
  have hl : lv_has ls 3 [(0, .ref (a i)), (1, .ref d.1)] := hl
  have L : ∀ n : Nat, (∀ (x2 : Int32) (k : KC) (H : Heap) (locs : List Loc) (ls : Array Slot), wC_X0_staysThroughDay i d n 1 x2 k Qp → Hd D (wC a b g k) A s H locs → lv_has ls 3 [(0, .ref (a i)), (2, .int x2)] → W p l e ({ frames := 5, cells := 0, slots := 0, locals := 123 }) s m args below meth c H locs 0 0 Z (F0 m 22 ls [])) := by
    intro n
    induction n with
    | zero => exact fun _ _ _ _ _ h => h.elim
    | succ n ih =>
      intro x2 k H locs ls h hd hl
      replace h : (((8 : Int32) ≤ x2 → Qp (1 : Int32) k) ∧ (¬ (8 : Int32) ≤ x2 → (vp_in x2 8 ∧ (vp_in x2 8 ∧ (((k.2.1 i 1 x2.toNatClampNeg) = (k.2.1 i 6 x2.toNatClampNeg) → wC_X0_staysThroughDay i d n 1 (x2 + (1 : Int32)) k Qp) ∧ (¬ (k.2.1 i 1 x2.toNatClampNeg) = (k.2.1 i 6 x2.toNatClampNeg) → Qp (0 : Int32) k)))))) := h
      refine lv_iload_n hx hb dX0_staysThroughDay_22 rfl (lv_at hl 1 rfl) ?_
      refine lv_bipush (v := 8) hx hb dX0_staysThroughDay_23 (by decide) ?_
      refine lv_icmp_ge (tgt := 51) hx hb dX0_staysThroughDay_25 (by decide) (fun c_2 => ?_) (fun c_2 => ?_)
      · replace h := h.1 c_2
        refine lv_iconst (v := 1) hx hb dX0_staysThroughDay_51 (by decide) ?_
        exact ret hd (by decide) h dX0_staysThroughDay_52
      · replace h := h.2 c_2
        refine lv_aload_n hx hb dX0_staysThroughDay_28 rfl (lv_at hl 0 rfl) ?_
        refine gC0_0_1 C hd hi dX0_staysThroughDay_29 ?_
        refine lv_iload_n hx hb dX0_staysThroughDay_32 rfl (lv_at hl 1 rfl) ?_
        refine ldC0_1 C hd hi (v := k.2.1 i 1 x2.toNatClampNeg) h.1 rfl dX0_staysThroughDay_33 ?_
        replace h := h.2
        refine lv_aload_n hx hb dX0_staysThroughDay_34 rfl (lv_at hl 0 rfl) ?_
        refine gC0_0_6 C hd hi dX0_staysThroughDay_35 ?_
        refine lv_iload_n hx hb dX0_staysThroughDay_38 rfl (lv_at hl 1 rfl) ?_
        refine ldC0_6 C hd hi (v := k.2.1 i 6 x2.toNatClampNeg) h.1 rfl dX0_staysThroughDay_39 ?_
        replace h := h.2
        refine lv_icmp_eq (tgt := 45) hx hb dX0_staysThroughDay_40 (by decide) (fun c_3 => ?_) (fun c_3 => ?_)
        · replace h := h.1 c_3
          refine lv_iinc (v := (x2 + (1 : Int32))) (lv' := [(2, .int (x2 + (1 : Int32))), (0, .ref (a i))]) hx hb dX0_staysThroughDay_45 hl (k := 1) rfl rfl (by decide) rfl (fun ls hl => ?_)
          refine lv_goto (tgt := 22) hx hb dX0_staysThroughDay_48 (by decide) ?_
          exact ih (x2 + (1 : Int32))  _ _ _ _ h hd (lv_sub hl [1, 0] rfl)
        · replace h := h.2 c_3
          refine lv_iconst (v := 0) hx hb dX0_staysThroughDay_43 (by decide) ?_
          exact ret hd (by decide) h dX0_staysThroughDay_44
  cases n with
  | zero => exact h.elim
  | succ n =>
    replace h : (cpOk (0 : Int32) (0 : Int32) (8 : Int32) 8 8 ∧ (∃ n_1 : Nat, wC_X0_goThroughDay i d n_1 0 0 (cA k i 6 (va_cpy (k.2.1 i 1) (k.2.1 i 6) 0 0 8)) (fun k_1 => wC_X0_staysThroughDay i d n 1 (0 : Int32) k_1 Qp))) := h
    refine lv_aload_n hx hb dX0_staysThroughDay_0 rfl (lv_at hl 0 rfl) ?_
    refine gC0_0_1 C hd hi dX0_staysThroughDay_1 ?_
    refine lv_iconst (v := 0) hx hb dX0_staysThroughDay_4 (by decide) ?_
    refine lv_aload_n hx hb dX0_staysThroughDay_5 rfl (lv_at hl 0 rfl) ?_
    refine gC0_0_6 C hd hi dX0_staysThroughDay_6 ?_
    refine lv_iconst (v := 0) hx hb dX0_staysThroughDay_9 (by decide) ?_
    refine lv_bipush (v := 8) hx hb dX0_staysThroughDay_10 (by decide) ?_
    refine cpC C hd (ixC0_1 hi) (ixC0_6 hi) hl.1 q_722 q_607 q_606 q_18 h.1 (by decide) (Nat.le_of_ble_eq_true rfl) dX0_staysThroughDay_12 (fun H locs hd => ?_)
    replace h := h.2
    refine lv_aload_n hx hb dX0_staysThroughDay_15 rfl (lv_at hl 0 rfl) ?_
    refine lv_aload_n hx hb dX0_staysThroughDay_16 rfl (lv_at hl 1 rfl) ?_
    obtain ⟨n_1, h⟩ := h
    refine ev_v C hd kwRX0_X0_goThroughDay_123 (cC_X0_goThroughDay hi n_1 h) ⟨rfl, rfl⟩ ⟨by decide, by decide⟩ (rcC0 hi) hl.1 rfl rfl (Nat.le_of_ble_eq_true rfl) ⟨Nat.zero_le _, Nat.zero_le _⟩ dX0_staysThroughDay_17 (fun k_1 H locs h hd => ?_)
    refine lv_iconst (v := 0) hx hb dX0_staysThroughDay_20 (by decide) ?_
    refine lv_istore_n (lv' := [(2, .int (0 : Int32)), (0, .ref (a i)), (1, .ref d.1)]) hx hb dX0_staysThroughDay_21 rfl hl (by decide) rfl (fun ls hl => ?_)
    exact L n (0 : Int32)  _ _ _ _ h hd (lv_sub hl [1, 0] rfl)
def wC_X2_endOf (x0 : Int32) (k : KC) (Q : Int32 → KC → Prop) : Prop := ((x0 = (33 : Int32) → Q (2 : Int32) k) ∧ (x0 = (43 : Int32) → Q (1 : Int32) k) ∧ (x0 = (45 : Int32) → Q (0 : Int32) k) ∧ (x0 = (63 : Int32) → Q (3 : Int32) k) ∧ (¬ x0 = (33 : Int32) → ¬ x0 = (43 : Int32) → ¬ x0 = (45 : Int32) → ¬ x0 = (63 : Int32) → Q (-1 : Int32) k))
set_option maxHeartbeats 4000000 in
set_option maxRecDepth 100000 in
theorem cC_X2_endOf {l : Launch} {P : EP} {D : va_G} {a : Nat → Nat} {b : Nat → Nat → Nat} {g : Nat → ClassId} {k : KC} {Qp : Int32 → KC → Prop} (x0 : Int32) (h : wC_X2_endOf x0 k Qp) : Di l P D (tyA g) (wC a b g) yX2_endOf cX2_endOf 1 ({ frames := 0, cells := 0, slots := 0, locals := 0 }) [.int x0] k Qp := by
  refine Di_of (by decide) (Nat.le_of_ble_eq_true rfl) ?_
  intro p e s m args below meth c A Z ls C ret hd hl
  have hx := C.1
  have hb := C.2.1
  have hl : lv_has ls 1 [(0, .int x0)] := hl
  replace h : ((x0 = (33 : Int32) → Qp (2 : Int32) k) ∧ (x0 = (43 : Int32) → Qp (1 : Int32) k) ∧ (x0 = (45 : Int32) → Qp (0 : Int32) k) ∧ (x0 = (63 : Int32) → Qp (3 : Int32) k) ∧ (¬ x0 = (33 : Int32) → ¬ x0 = (43 : Int32) → ¬ x0 = (45 : Int32) → ¬ x0 = (63 : Int32) → Qp (-1 : Int32) k)) := h
  refine lv_iload_n hx hb dX2_endOf_0 rfl (lv_at hl 0 rfl) ?_
  by_cases e_1_0 : x0 = (33 : Int32)
  · replace h := h.1 e_1_0
    refine lv_lookup (off := 47) (tgt := 48) hx hb dX2_endOf_1 (by decide) (by rw [e_1_0]; decide) (by decide) ?_
    refine lv_iconst (v := 2) hx hb dX2_endOf_48 (by decide) ?_
    exact ret hd h dX2_endOf_49
  · by_cases e_1_1 : x0 = (43 : Int32)
    · replace h := h.2.1 e_1_1
      refine lv_lookup (off := 45) (tgt := 46) hx hb dX2_endOf_1 (by decide) (by rw [e_1_1]; decide) (by decide) ?_
      refine lv_iconst (v := 1) hx hb dX2_endOf_46 (by decide) ?_
      exact ret hd h dX2_endOf_47
    · by_cases e_1_2 : x0 = (45 : Int32)
      · replace h := h.2.2.1 e_1_2
        refine lv_lookup (off := 43) (tgt := 44) hx hb dX2_endOf_1 (by decide) (by rw [e_1_2]; decide) (by decide) ?_
        refine lv_iconst (v := 0) hx hb dX2_endOf_44 (by decide) ?_
        exact ret hd h dX2_endOf_45
      · by_cases e_1_3 : x0 = (63 : Int32)
        · replace h := h.2.2.2.1 e_1_3
          refine lv_lookup (off := 49) (tgt := 50) hx hb dX2_endOf_1 (by decide) (by rw [e_1_3]; decide) (by decide) ?_
          refine lv_iconst (v := 3) hx hb dX2_endOf_50 (by decide) ?_
          exact ret hd h dX2_endOf_51
        · replace h := h.2.2.2.2 e_1_0 e_1_1 e_1_2 e_1_3
          refine lv_lookup (off := 51) (tgt := 52) hx hb dX2_endOf_1 (by decide) (by rw [lv_osw (k := (33 : Int32)) e_1_0 (by decide)]; rw [lv_osw (k := (43 : Int32)) e_1_1 (by decide)]; rw [lv_osw (k := (45 : Int32)) e_1_2 (by decide)]; rw [lv_osw (k := (63 : Int32)) e_1_3 (by decide)]; rfl) (by decide) ?_
          refine lv_iconst (v := -1) hx hb dX2_endOf_52 (by decide) ?_
          exact ret hd h dX2_endOf_53
def wC_X2_refused (x1 : Int32) (k : KC) (Q : Option Nat → KC → Prop) : Prop := Q none (cI k 7 2 x1)
set_option maxHeartbeats 4000000 in
set_option maxRecDepth 100000 in
theorem cC_X2_refused {l : Launch} {P : EP} {D : va_G} {a : Nat → Nat} {b : Nat → Nat → Nat} {g : Nat → ClassId} {k : KC} {Qp : Option Nat → KC → Prop} (x1 : Int32) (h : wC_X2_refused x1 k Qp) : Dq l P D (tyA g) (wC a b g) yX2_refused cX2_refused 2 ({ frames := 0, cells := 0, slots := 0, locals := 0 }) "BellAndDrop$Plan" [.ref (a 7), .int x1] k Qp := by
  refine Dq_of (by decide) (Nat.le_of_ble_eq_true rfl) ?_
  intro p e s m args below meth c A Z ls C ret hd hl
  have hx := C.1
  have hb := C.2.1
  have hl : lv_has ls 2 [(0, .ref (a 7)), (1, .int x1)] := hl
  replace h : Qp none (cI k 7 2 x1) := h
  refine lv_aload_n hx hb dX2_refused_0 rfl (lv_at hl 0 rfl) ?_
  refine lv_iload_n hx hb dX2_refused_1 rfl (lv_at hl 1 rfl) ?_
  refine pC2_2_2 C hd dX2_refused_2 (fun H locs hd => ?_)
  refine lv_null hx hb dX2_refused_5 ?_
  exact ret (v := none) hd h dX2_refused_6
def wC_X3_become (i : Nat) (x1 : Int32) (x2 : Int32) (k : KC) (Q : KC → Prop) : Prop := Q (cA (cI (cI k i 0 x1) i 1 x2) i 2 (fun x => if x < 40 then (0 : Int32) else k.2.1 i 2 x))
set_option maxHeartbeats 4000000 in
set_option maxRecDepth 100000 in
theorem cC_X3_become {l : Launch} {P : EP} {D : va_G} {a : Nat → Nat} {b : Nat → Nat → Nat} {g : Nat → ClassId} {i : Nat} (hi : i = 9 ∨ i = 10 ∨ i = 11 ∨ i = 12) {k : KC} {Qp : KC → Prop} (x1 : Int32) (x2 : Int32) (h : wC_X3_become i x1 x2 k Qp) : Dv l P D (tyA g) (wC a b g) yX3_become cX3_become 3 ({ frames := 1, cells := 0, slots := 0, locals := 23 }) [.ref (a i), .int x1, .int x2] k Qp := by
  refine Dv_of (by decide) (Nat.le_of_ble_eq_true rfl) ?_
  intro p e s m args below meth c A Z ls C ret hd hl
  have hx := C.1
  have hb := C.2.1
  have hl : lv_has ls 3 [(0, .ref (a i)), (1, .int x1), (2, .int x2)] := hl
  replace h : Qp (cA (cI (cI k i 0 x1) i 1 x2) i 2 (fun x => if x < 40 then (0 : Int32) else k.2.1 i 2 x)) := h
  refine lv_aload_n hx hb dX3_become_0 rfl (lv_at hl 0 rfl) ?_
  refine lv_iload_n hx hb dX3_become_1 rfl (lv_at hl 1 rfl) ?_
  refine pC3_3_0 C hd hi dX3_become_2 (fun H locs hd => ?_)
  refine lv_aload_n hx hb dX3_become_5 rfl (lv_at hl 0 rfl) ?_
  refine lv_iload_n hx hb dX3_become_6 rfl (lv_at hl 2 rfl) ?_
  refine pC3_3_1 C hd hi dX3_become_7 (fun H locs hd => ?_)
  refine lv_aload_n hx hb dX3_become_10 rfl (lv_at hl 0 rfl) ?_
  refine gC3_3_2 C hd hi dX3_become_11 ?_
  refine lv_iconst (v := 0) hx hb dX3_become_14 (by decide) ?_
  refine flC C hd (ixC3_2 hi) (by decide) q_841 hl.1 ⟨by decide, by decide⟩ (Nat.le_of_ble_eq_true rfl) ⟨Nat.zero_le _, Nat.zero_le _⟩ dX3_become_15 (fun H locs hd => ?_)
  exact ret hd h dX3_become_18
def wC_within (x0 : Int32) (x1 : Int32) (x2 : Int32) (k : KC) (Q : Int32 → KC → Prop) : Prop := ((x0 < x1 → Q (0 : Int32) k) ∧ (¬ x0 < x1 → ((x2 < x0 → Q (0 : Int32) k) ∧ (¬ x2 < x0 → Q (1 : Int32) k))))
set_option maxHeartbeats 4000000 in
set_option maxRecDepth 100000 in
theorem cC_within {l : Launch} {P : EP} {D : va_G} {a : Nat → Nat} {b : Nat → Nat → Nat} {g : Nat → ClassId} {k : KC} {Qp : Int32 → KC → Prop} (x0 : Int32) (x1 : Int32) (x2 : Int32) (h : wC_within x0 x1 x2 k Qp) : Dz l P D (tyA g) (wC a b g) yX9_within cX9_within 3 ({ frames := 0, cells := 0, slots := 0, locals := 0 }) [.int x0, .int x1, .int x2] k Qp := by
  refine Dz_of (by decide) (Nat.le_of_ble_eq_true rfl) ?_
  intro p e s m args below meth c A Z ls C ret hd hl
  have hx := C.1
  have hb := C.2.1
  have hl : lv_has ls 3 [(0, .int x0), (1, .int x1), (2, .int x2)] := hl
  replace h : ((x0 < x1 → Qp (0 : Int32) k) ∧ (¬ x0 < x1 → ((x2 < x0 → Qp (0 : Int32) k) ∧ (¬ x2 < x0 → Qp (1 : Int32) k)))) := h
  refine lv_iload_n hx hb dX9_within_0 rfl (lv_at hl 0 rfl) ?_
  refine lv_iload_n hx hb dX9_within_1 rfl (lv_at hl 1 rfl) ?_
  refine lv_icmp_lt (tgt := 14) hx hb dX9_within_2 (by decide) (fun c_1 => ?_) (fun c_1 => ?_)
  · replace h := h.1 c_1
    refine lv_iconst (v := 0) hx hb dX9_within_14 (by decide) ?_
    exact ret hd (by decide) h dX9_within_15
  · replace h := h.2 c_1
    refine lv_iload_n hx hb dX9_within_5 rfl (lv_at hl 0 rfl) ?_
    refine lv_iload_n hx hb dX9_within_6 rfl (lv_at hl 2 rfl) ?_
    refine lv_icmp_gt (tgt := 14) hx hb dX9_within_7 (by decide) (fun c_2 => ?_) (fun c_2 => ?_)
    · replace h := h.1 c_2
      refine lv_iconst (v := 0) hx hb dX9_within_14 (by decide) ?_
      exact ret hd (by decide) h dX9_within_15
    · replace h := h.2 c_2
      refine lv_iconst (v := 1) hx hb dX9_within_10 (by decide) ?_
      refine lv_goto (tgt := 15) hx hb dX9_within_11 (by decide) ?_
      exact ret hd (by decide) h dX9_within_15
def wC_X3_has (i : Nat) (x1 : Int32) (k : KC) (Q : Int32 → KC → Prop) : Prop := (wC_within x1 (0 : Int32) ((k.1 i 1) - (1 : Int32)) k (fun r_1 k_1 => Q r_1 k_1))
set_option maxHeartbeats 4000000 in
set_option maxRecDepth 100000 in
theorem cC_X3_has {l : Launch} {P : EP} {D : va_G} {a : Nat → Nat} {b : Nat → Nat → Nat} {g : Nat → ClassId} {i : Nat} (hi : i = 9 ∨ i = 10 ∨ i = 11 ∨ i = 12) {k : KC} {Qp : Int32 → KC → Prop} (x1 : Int32) (h : wC_X3_has i x1 k Qp) : Dz l P D (tyA g) (wC a b g) yX3_has cX3_has 2 ({ frames := 1, cells := 0, slots := 0, locals := 22 }) [.ref (a i), .int x1] k Qp := by
  refine Dz_of (by decide) (Nat.le_of_ble_eq_true rfl) ?_
  intro p e s m args below meth c A Z ls C ret hd hl
  have hx := C.1
  have hb := C.2.1
  have hl : lv_has ls 2 [(0, .ref (a i)), (1, .int x1)] := hl
  replace h : (wC_within x1 (0 : Int32) ((k.1 i 1) - (1 : Int32)) k (fun r_1 k_1 => Qp r_1 k_1)) := h
  refine lv_iload_n hx hb dX3_has_0 rfl (lv_at hl 1 rfl) ?_
  refine lv_iconst (v := 0) hx hb dX3_has_1 (by decide) ?_
  refine lv_aload_n hx hb dX3_has_2 rfl (lv_at hl 0 rfl) ?_
  refine gC3_3_1 C hd hi (v := k.1 i 1) rfl dX3_has_3 ?_
  refine lv_iconst (v := 1) hx hb dX3_has_6 (by decide) ?_
  refine lv_isub hx hb dX3_has_7 ?_
  refine en_z C hd kwRX3_X9_within_28 (cC_within _ _ _ h) ⟨rfl, rfl⟩ ⟨by decide, by decide⟩ hl.1 rfl rfl (Nat.le_of_ble_eq_true rfl) ⟨Nat.zero_le _, Nat.zero_le _⟩ dX3_has_8 (fun r_1 k_1 H locs hz_1 h hd => ?_)
  exact ret hd hz_1 h dX3_has_11
def wC_X3_hasRun (i : Nat) (x1 : Int32) (x2 : Int32) (k : KC) (Q : Int32 → KC → Prop) : Prop := ((x1 < 0 → Q (0 : Int32) k) ∧ (¬ x1 < 0 → ((x2 < 0 → Q (0 : Int32) k) ∧ (¬ x2 < 0 → ((0 < (lg_cmp (x1.toInt64 + x2.toInt64) ((k.1 i 1).toInt64)) → Q (0 : Int32) k) ∧ (¬ 0 < (lg_cmp (x1.toInt64 + x2.toInt64) ((k.1 i 1).toInt64)) → Q (1 : Int32) k))))))
set_option maxHeartbeats 4000000 in
set_option maxRecDepth 100000 in
theorem cC_X3_hasRun {l : Launch} {P : EP} {D : va_G} {a : Nat → Nat} {b : Nat → Nat → Nat} {g : Nat → ClassId} {i : Nat} (hi : i = 9 ∨ i = 10 ∨ i = 11 ∨ i = 12) {k : KC} {Qp : Int32 → KC → Prop} (x1 : Int32) (x2 : Int32) (h : wC_X3_hasRun i x1 x2 k Qp) : Dz l P D (tyA g) (wC a b g) yX3_hasRun cX3_hasRun 3 ({ frames := 0, cells := 0, slots := 0, locals := 0 }) [.ref (a i), .int x1, .int x2] k Qp := by
  refine Dz_of (by decide) (Nat.le_of_ble_eq_true rfl) ?_
  intro p e s m args below meth c A Z ls C ret hd hl
  have hx := C.1
  have hb := C.2.1
  have hl : lv_has ls 3 [(0, .ref (a i)), (1, .int x1), (2, .int x2)] := hl
  replace h : ((x1 < 0 → Qp (0 : Int32) k) ∧ (¬ x1 < 0 → ((x2 < 0 → Qp (0 : Int32) k) ∧ (¬ x2 < 0 → ((0 < (lg_cmp (x1.toInt64 + x2.toInt64) ((k.1 i 1).toInt64)) → Qp (0 : Int32) k) ∧ (¬ 0 < (lg_cmp (x1.toInt64 + x2.toInt64) ((k.1 i 1).toInt64)) → Qp (1 : Int32) k)))))) := h
  refine lv_iload_n hx hb dX3_hasRun_0 rfl (lv_at hl 1 rfl) ?_
  refine lv_if_lt (tgt := 26) hx hb dX3_hasRun_1 (by decide) (fun c_1 => ?_) (fun c_1 => ?_)
  · replace h := h.1 c_1
    refine lv_iconst (v := 0) hx hb dX3_hasRun_26 (by decide) ?_
    exact ret hd (by decide) h dX3_hasRun_27
  · replace h := h.2 c_1
    refine lv_iload_n hx hb dX3_hasRun_4 rfl (lv_at hl 2 rfl) ?_
    refine lv_if_lt (tgt := 26) hx hb dX3_hasRun_5 (by decide) (fun c_2 => ?_) (fun c_2 => ?_)
    · replace h := h.1 c_2
      refine lv_iconst (v := 0) hx hb dX3_hasRun_26 (by decide) ?_
      exact ret hd (by decide) h dX3_hasRun_27
    · replace h := h.2 c_2
      refine lv_iload_n hx hb dX3_hasRun_8 rfl (lv_at hl 1 rfl) ?_
      refine lv_i2l (v := x1.toInt64) hx hb dX3_hasRun_9 rfl ?_
      refine lv_iload_n hx hb dX3_hasRun_10 rfl (lv_at hl 2 rfl) ?_
      refine lv_i2l (v := x2.toInt64) hx hb dX3_hasRun_11 rfl ?_
      refine lv_ladd hx hb dX3_hasRun_12 ?_
      refine lv_aload_n hx hb dX3_hasRun_13 rfl (lv_at hl 0 rfl) ?_
      refine gC3_3_1 C hd hi (v := k.1 i 1) rfl dX3_hasRun_14 ?_
      refine lv_i2l (v := (k.1 i 1).toInt64) hx hb dX3_hasRun_17 rfl ?_
      refine W.lcmp hx hb dX3_hasRun_18 ?_
      refine lv_if_gt (tgt := 26) hx hb dX3_hasRun_19 (by decide) (fun c_3 => ?_) (fun c_3 => ?_)
      · replace h := h.1 c_3
        refine lv_iconst (v := 0) hx hb dX3_hasRun_26 (by decide) ?_
        exact ret hd (by decide) h dX3_hasRun_27
      · replace h := h.2 c_3
        refine lv_iconst (v := 1) hx hb dX3_hasRun_22 (by decide) ?_
        refine lv_goto (tgt := 27) hx hb dX3_hasRun_23 (by decide) ?_
        exact ret hd (by decide) h dX3_hasRun_27
def wC_X3_isMissing (i : Nat)  (k : KC) (Q : Int32 → KC → Prop) : Prop := ((¬ (k.1 i 0) = (-1 : Int32) → Q (0 : Int32) k) ∧ ((k.1 i 0) = (-1 : Int32) → Q (1 : Int32) k))
set_option maxHeartbeats 4000000 in
set_option maxRecDepth 100000 in
theorem cC_X3_isMissing {l : Launch} {P : EP} {D : va_G} {a : Nat → Nat} {b : Nat → Nat → Nat} {g : Nat → ClassId} {i : Nat} (hi : i = 9 ∨ i = 10 ∨ i = 11 ∨ i = 12) {k : KC} {Qp : Int32 → KC → Prop}  (h : wC_X3_isMissing i k Qp) : Dz l P D (tyA g) (wC a b g) yX3_isMissing cX3_isMissing 1 ({ frames := 0, cells := 0, slots := 0, locals := 0 }) [.ref (a i)] k Qp := by
  refine Dz_of (by decide) (Nat.le_of_ble_eq_true rfl) ?_
  intro p e s m args below meth c A Z ls C ret hd hl
  have hx := C.1
  have hb := C.2.1
  have hl : lv_has ls 1 [(0, .ref (a i))] := hl
  replace h : ((¬ (k.1 i 0) = (-1 : Int32) → Qp (0 : Int32) k) ∧ ((k.1 i 0) = (-1 : Int32) → Qp (1 : Int32) k)) := h
  refine lv_aload_n hx hb dX3_isMissing_0 rfl (lv_at hl 0 rfl) ?_
  refine gC3_3_0 C hd hi (v := k.1 i 0) rfl dX3_isMissing_1 ?_
  refine lv_iconst (v := -1) hx hb dX3_isMissing_4 (by decide) ?_
  refine lv_icmp_ne (tgt := 12) hx hb dX3_isMissing_5 (by decide) (fun c_1 => ?_) (fun c_1 => ?_)
  · replace h := h.1 c_1
    refine lv_iconst (v := 0) hx hb dX3_isMissing_12 (by decide) ?_
    exact ret hd (by decide) h dX3_isMissing_13
  · replace h := h.2 c_1
    refine lv_iconst (v := 1) hx hb dX3_isMissing_8 (by decide) ?_
    refine lv_goto (tgt := 13) hx hb dX3_isMissing_9 (by decide) ?_
    exact ret hd (by decide) h dX3_isMissing_13
def wC_X3_put (i : Nat) (x1 : Int32) (x2 : Int32) (k : KC) (Q : KC → Prop) : Prop := ((¬ (k.1 i 0) = 0 → ((¬ (k.1 i 0) = (1 : Int32) → (vp_in x1 40 ∧ Q (cA k i 2 (upd (k.2.1 i 2) x1.toNatClampNeg x2)))) ∧ ((k.1 i 0) = (1 : Int32) → (vp_in x1 40 ∧ Q (cA k i 2 (upd (k.2.1 i 2) x1.toNatClampNeg x2.toInt16.toInt32)))))) ∧ ((k.1 i 0) = 0 → (vp_in x1 40 ∧ Q (cA k i 2 (upd (k.2.1 i 2) x1.toNatClampNeg x2.toInt8.toInt32)))))
set_option maxHeartbeats 4000000 in
set_option maxRecDepth 100000 in
theorem cC_X3_put {l : Launch} {P : EP} {D : va_G} {a : Nat → Nat} {b : Nat → Nat → Nat} {g : Nat → ClassId} {i : Nat} (hi : i = 9 ∨ i = 10 ∨ i = 11 ∨ i = 12) {k : KC} {Qp : KC → Prop} (x1 : Int32) (x2 : Int32) (h : wC_X3_put i x1 x2 k Qp) : Dv l P D (tyA g) (wC a b g) yX3_put cX3_put 3 ({ frames := 0, cells := 0, slots := 0, locals := 0 }) [.ref (a i), .int x1, .int x2] k Qp := by
  refine Dv_of (by decide) (Nat.le_of_ble_eq_true rfl) ?_
  intro p e s m args below meth c A Z ls C ret hd hl
  have hx := C.1
  have hb := C.2.1
  have hl : lv_has ls 3 [(0, .ref (a i)), (1, .int x1), (2, .int x2)] := hl
  replace h : ((¬ (k.1 i 0) = 0 → ((¬ (k.1 i 0) = (1 : Int32) → (vp_in x1 40 ∧ Qp (cA k i 2 (upd (k.2.1 i 2) x1.toNatClampNeg x2)))) ∧ ((k.1 i 0) = (1 : Int32) → (vp_in x1 40 ∧ Qp (cA k i 2 (upd (k.2.1 i 2) x1.toNatClampNeg x2.toInt16.toInt32)))))) ∧ ((k.1 i 0) = 0 → (vp_in x1 40 ∧ Qp (cA k i 2 (upd (k.2.1 i 2) x1.toNatClampNeg x2.toInt8.toInt32))))) := h
  refine lv_aload_n hx hb dX3_put_0 rfl (lv_at hl 0 rfl) ?_
  refine gC3_3_0 C hd hi (v := k.1 i 0) rfl dX3_put_1 ?_
  refine lv_if_ne (tgt := 18) hx hb dX3_put_4 (by decide) (fun c_1 => ?_) (fun c_1 => ?_)
  · replace h := h.1 c_1
    refine lv_aload_n hx hb dX3_put_18 rfl (lv_at hl 0 rfl) ?_
    refine gC3_3_0 C hd hi (v := k.1 i 0) rfl dX3_put_19 ?_
    refine lv_iconst (v := 1) hx hb dX3_put_22 (by decide) ?_
    refine lv_icmp_ne (tgt := 37) hx hb dX3_put_23 (by decide) (fun c_2 => ?_) (fun c_2 => ?_)
    · replace h := h.1 c_2
      refine lv_aload_n hx hb dX3_put_37 rfl (lv_at hl 0 rfl) ?_
      refine gC3_3_2 C hd hi dX3_put_38 ?_
      refine lv_iload_n hx hb dX3_put_41 rfl (lv_at hl 1 rfl) ?_
      refine lv_iload_n hx hb dX3_put_42 rfl (lv_at hl 2 rfl) ?_
      refine stC3_2 C hd hi h.1 dX3_put_43 (fun H locs hd => ?_)
      replace h := h.2
      exact ret hd h dX3_put_44
    · replace h := h.2 c_2
      refine lv_aload_n hx hb dX3_put_26 rfl (lv_at hl 0 rfl) ?_
      refine gC3_3_2 C hd hi dX3_put_27 ?_
      refine lv_iload_n hx hb dX3_put_30 rfl (lv_at hl 1 rfl) ?_
      refine lv_iload_n hx hb dX3_put_31 rfl (lv_at hl 2 rfl) ?_
      refine lv_i2s (v := x2.toInt16.toInt32) hx hb dX3_put_32 rfl ?_
      refine stC3_2 C hd hi h.1 dX3_put_33 (fun H locs hd => ?_)
      replace h := h.2
      refine lv_goto (tgt := 44) hx hb dX3_put_34 (by decide) ?_
      exact ret hd h dX3_put_44
  · replace h := h.2 c_1
    refine lv_aload_n hx hb dX3_put_7 rfl (lv_at hl 0 rfl) ?_
    refine gC3_3_2 C hd hi dX3_put_8 ?_
    refine lv_iload_n hx hb dX3_put_11 rfl (lv_at hl 1 rfl) ?_
    refine lv_iload_n hx hb dX3_put_12 rfl (lv_at hl 2 rfl) ?_
    refine lv_i2b (v := x2.toInt8.toInt32) hx hb dX3_put_13 rfl ?_
    refine stC3_2 C hd hi h.1 dX3_put_14 (fun H locs hd => ?_)
    replace h := h.2
    refine lv_goto (tgt := 44) hx hb dX3_put_15 (by decide) ?_
    exact ret hd h dX3_put_44
def wC_X4_byteAt (x1 : Int32) (k : KC) (Q : Int32 → KC → Prop) : Prop := ((x1 < 0 → Q (-1 : Int32) k) ∧ (¬ x1 < 0 → (((k.1 5 1) ≤ x1 → Q (-1 : Int32) k) ∧ (¬ (k.1 5 1) ≤ x1 → (vp_in x1 160 ∧ Q (k.2.1 5 0 x1.toNatClampNeg) k)))))
set_option maxHeartbeats 4000000 in
set_option maxRecDepth 100000 in
theorem cC_X4_byteAt {l : Launch} {P : EP} {D : va_G} {a : Nat → Nat} {b : Nat → Nat → Nat} {g : Nat → ClassId} {k : KC} {Qp : Int32 → KC → Prop} (x1 : Int32) (h : wC_X4_byteAt x1 k Qp) : Di l P D (tyA g) (wC a b g) yX4_byteAt cX4_byteAt 2 ({ frames := 0, cells := 0, slots := 0, locals := 0 }) [.ref (a 5), .int x1] k Qp := by
  refine Di_of (by decide) (Nat.le_of_ble_eq_true rfl) ?_
  intro p e s m args below meth c A Z ls C ret hd hl
  have hx := C.1
  have hb := C.2.1
  have hl : lv_has ls 2 [(0, .ref (a 5)), (1, .int x1)] := hl
  replace h : ((x1 < 0 → Qp (-1 : Int32) k) ∧ (¬ x1 < 0 → (((k.1 5 1) ≤ x1 → Qp (-1 : Int32) k) ∧ (¬ (k.1 5 1) ≤ x1 → (vp_in x1 160 ∧ Qp (k.2.1 5 0 x1.toNatClampNeg) k))))) := h
  refine lv_iload_n hx hb dX4_byteAt_0 rfl (lv_at hl 1 rfl) ?_
  refine lv_if_lt (tgt := 21) hx hb dX4_byteAt_1 (by decide) (fun c_1 => ?_) (fun c_1 => ?_)
  · replace h := h.1 c_1
    refine lv_iconst (v := -1) hx hb dX4_byteAt_21 (by decide) ?_
    exact ret hd h dX4_byteAt_22
  · replace h := h.2 c_1
    refine lv_iload_n hx hb dX4_byteAt_4 rfl (lv_at hl 1 rfl) ?_
    refine lv_aload_n hx hb dX4_byteAt_5 rfl (lv_at hl 0 rfl) ?_
    refine gC4_4_1 C hd (v := k.1 5 1) rfl dX4_byteAt_6 ?_
    refine lv_icmp_ge (tgt := 21) hx hb dX4_byteAt_9 (by decide) (fun c_2 => ?_) (fun c_2 => ?_)
    · replace h := h.1 c_2
      refine lv_iconst (v := -1) hx hb dX4_byteAt_21 (by decide) ?_
      exact ret hd h dX4_byteAt_22
    · replace h := h.2 c_2
      refine lv_aload_n hx hb dX4_byteAt_12 rfl (lv_at hl 0 rfl) ?_
      refine gC4_4_0 C hd dX4_byteAt_13 ?_
      refine lv_iload_n hx hb dX4_byteAt_16 rfl (lv_at hl 1 rfl) ?_
      refine ldC4_0 C hd (v := k.2.1 5 0 x1.toNatClampNeg) h.1 rfl dX4_byteAt_17 ?_
      replace h := h.2
      refine lv_goto (tgt := 22) hx hb dX4_byteAt_18 (by decide) ?_
      exact ret hd h dX4_byteAt_22
def wC_X4_take : Nat → Nat → Int32 → Int64 → Int32 → KC → (KC → Prop) → Prop
  | 0, _, _, _, _, _, _ => False
  | n + 1, c, x1, x2l, x4, k, Q => match c with
    | 0 => wC_X4_take n 1 x1 x2l (0 : Int32) k Q
    | _ => ((x1 ≤ x4 → Q k) ∧ (¬ x1 ≤ x4 → (((160 : Int32) ≤ (k.1 5 1) → Q k) ∧ (¬ (160 : Int32) ≤ (k.1 5 1) → (vp_in (k.1 5 1) 160 ∧ wC_X4_take n 1 x1 x2l (x4 + (1 : Int32)) (cI (cA k 5 0 (upd (k.2.1 5 0) (k.1 5 1).toNatClampNeg ((((x2l.toUInt64 >>> (((8 : Int32) * x4).toInt64.toUInt64 &&& Int64.toUInt64 63)).toInt64) &&& (255 : Int64)).toInt32))) 5 1 ((k.1 5 1) + (1 : Int32))) Q)))))
set_option maxHeartbeats 4000000 in
set_option maxRecDepth 100000 in
theorem cC_X4_take {l : Launch} {P : EP} {D : va_G} {a : Nat → Nat} {b : Nat → Nat → Nat} {g : Nat → ClassId} {k : KC} {Qp : KC → Prop} (n : Nat) (x1 : Int32) (x2l : Int64) (h : wC_X4_take n 0 x1 x2l 0 k Qp) : Dv l P D (tyA g) (wC a b g) yX4_take cX4_take 5 ({ frames := 0, cells := 0, slots := 0, locals := 0 }) [.ref (a 5), .int x1, .long x2l] k Qp := by
  refine Dv_of (by decide) (Nat.le_of_ble_eq_true rfl) ?_
  intro p e s m args below meth c A Z ls C ret hd hl
  have hx := C.1
  have hb := C.2.1
  have hl : lv_has ls 5 [(0, .ref (a 5)), (1, .int x1), (2, .long x2l)] := hl
  have L : ∀ n : Nat, (∀ (x1 : Int32) (x2l : Int64) (x4 : Int32) (k : KC) (H : Heap) (locs : List Loc) (ls : Array Slot), wC_X4_take n 1 x1 x2l x4 k Qp → Hd D (wC a b g k) A s H locs → lv_has ls 5 [(0, .ref (a 5)), (1, .int x1), (2, .long x2l), (4, .int x4)] → W p l e ({ frames := 0, cells := 0, slots := 0, locals := 0 }) s m args below meth c H locs 0 0 Z (F0 m 3 ls [])) := by
    intro n
    induction n with
    | zero => exact fun _ _ _ _ _ _ _ h => h.elim
    | succ n ih =>
      intro x1 x2l x4 k H locs ls h hd hl
      replace h : ((x1 ≤ x4 → Qp k) ∧ (¬ x1 ≤ x4 → (((160 : Int32) ≤ (k.1 5 1) → Qp k) ∧ (¬ (160 : Int32) ≤ (k.1 5 1) → (vp_in (k.1 5 1) 160 ∧ wC_X4_take n 1 x1 x2l (x4 + (1 : Int32)) (cI (cA k 5 0 (upd (k.2.1 5 0) (k.1 5 1).toNatClampNeg ((((x2l.toUInt64 >>> (((8 : Int32) * x4).toInt64.toUInt64 &&& Int64.toUInt64 63)).toInt64) &&& (255 : Int64)).toInt32))) 5 1 ((k.1 5 1) + (1 : Int32))) Qp))))) := h
      refine lv_iload hx hb dX4_take_3 (lv_at hl 3 rfl) ?_
      refine lv_iload_n hx hb dX4_take_5 rfl (lv_at hl 1 rfl) ?_
      refine lv_icmp_ge (tgt := 56) hx hb dX4_take_6 (by decide) (fun c_1 => ?_) (fun c_1 => ?_)
      · replace h := h.1 c_1
        exact ret hd h dX4_take_56
      · replace h := h.2 c_1
        refine lv_aload_n hx hb dX4_take_9 rfl (lv_at hl 0 rfl) ?_
        refine gC4_4_1 C hd (v := k.1 5 1) rfl dX4_take_10 ?_
        refine lv_sipush (v := 160) hx hb dX4_take_13 (by decide) ?_
        refine lv_icmp_ge (tgt := 56) hx hb dX4_take_16 (by decide) (fun c_2 => ?_) (fun c_2 => ?_)
        · replace h := h.1 c_2
          exact ret hd h dX4_take_56
        · replace h := h.2 c_2
          refine lv_aload_n hx hb dX4_take_19 rfl (lv_at hl 0 rfl) ?_
          refine gC4_4_0 C hd dX4_take_20 ?_
          refine lv_aload_n hx hb dX4_take_23 rfl (lv_at hl 0 rfl) ?_
          refine gC4_4_1 C hd (v := k.1 5 1) rfl dX4_take_24 ?_
          refine lv_lload_n hx hb dX4_take_27 rfl (lv_at hl 2 rfl) ?_
          refine lv_bipush (v := 8) hx hb dX4_take_28 (by decide) ?_
          refine lv_iload hx hb dX4_take_30 (lv_at hl 3 rfl) ?_
          refine lv_imul hx hb dX4_take_32 ?_
          refine lv_lushr hx hb dX4_take_33 rfl ?_
          refine lv_ldc2 (v := (255 : Int64)) hx hb C.2.2.2.1 (C.2.2.2.2.1 _ q_392) dX4_take_34 ?_
          refine lv_land hx hb dX4_take_37 ?_
          refine lv_l2i (v := (((x2l.toUInt64 >>> (((8 : Int32) * x4).toInt64.toUInt64 &&& Int64.toUInt64 63)).toInt64) &&& (255 : Int64)).toInt32) hx hb dX4_take_38 rfl ?_
          refine stC4_0 C hd h.1 dX4_take_39 (fun H locs hd => ?_)
          replace h := h.2
          refine lv_aload_n hx hb dX4_take_40 rfl (lv_at hl 0 rfl) ?_
          refine lv_dup hx hb dX4_take_41 rfl ?_
          refine gC4_4_1 C hd (v := k.1 5 1) rfl dX4_take_42 ?_
          refine lv_iconst (v := 1) hx hb dX4_take_45 (by decide) ?_
          refine lv_iadd hx hb dX4_take_46 ?_
          refine pC4_4_1 C hd dX4_take_47 (fun H locs hd => ?_)
          refine lv_iinc (v := (x4 + (1 : Int32))) (lv' := [(4, .int (x4 + (1 : Int32))), (0, .ref (a 5)), (1, .int x1), (2, .long x2l)]) hx hb dX4_take_50 hl (k := 3) rfl rfl (by decide) rfl (fun ls hl => ?_)
          refine lv_goto (tgt := 3) hx hb dX4_take_53 (by decide) ?_
          exact ih x1 x2l (x4 + (1 : Int32))  _ _ _ _ h hd (lv_sub hl [1, 2, 3, 0] rfl)
  cases n with
  | zero => exact h.elim
  | succ n =>
    replace h : wC_X4_take n 1 x1 x2l (0 : Int32) k Qp := h
    refine lv_iconst (v := 0) hx hb dX4_take_0 (by decide) ?_
    refine lv_istore (lv' := [(4, .int (0 : Int32)), (0, .ref (a 5)), (1, .int x1), (2, .long x2l)]) hx hb dX4_take_1 hl (by decide) rfl (fun ls hl => ?_)
    exact L n x1 x2l (0 : Int32)  _ _ _ _ h hd (lv_sub hl [1, 2, 3, 0] rfl)
def wC_X6_isBlank (x0 : Int32) (k : KC) (Q : Int32 → KC → Prop) : Prop := ((x0 = (32 : Int32) → Q (1 : Int32) k) ∧ (¬ x0 = (32 : Int32) → ((¬ x0 = (10 : Int32) → Q (0 : Int32) k) ∧ (x0 = (10 : Int32) → Q (1 : Int32) k))))
set_option maxHeartbeats 4000000 in
set_option maxRecDepth 100000 in
theorem cC_X6_isBlank {l : Launch} {P : EP} {D : va_G} {a : Nat → Nat} {b : Nat → Nat → Nat} {g : Nat → ClassId} {k : KC} {Qp : Int32 → KC → Prop} (x0 : Int32) (h : wC_X6_isBlank x0 k Qp) : Dz l P D (tyA g) (wC a b g) yX6_isBlank cX6_isBlank 1 ({ frames := 0, cells := 0, slots := 0, locals := 0 }) [.int x0] k Qp := by
  refine Dz_of (by decide) (Nat.le_of_ble_eq_true rfl) ?_
  intro p e s m args below meth c A Z ls C ret hd hl
  have hx := C.1
  have hb := C.2.1
  have hl : lv_has ls 1 [(0, .int x0)] := hl
  replace h : ((x0 = (32 : Int32) → Qp (1 : Int32) k) ∧ (¬ x0 = (32 : Int32) → ((¬ x0 = (10 : Int32) → Qp (0 : Int32) k) ∧ (x0 = (10 : Int32) → Qp (1 : Int32) k)))) := h
  refine lv_iload_n hx hb dX6_isBlank_0 rfl (lv_at hl 0 rfl) ?_
  refine lv_bipush (v := 32) hx hb dX6_isBlank_1 (by decide) ?_
  refine lv_icmp_eq (tgt := 12) hx hb dX6_isBlank_3 (by decide) (fun c_1 => ?_) (fun c_1 => ?_)
  · replace h := h.1 c_1
    refine lv_iconst (v := 1) hx hb dX6_isBlank_12 (by decide) ?_
    refine lv_goto (tgt := 17) hx hb dX6_isBlank_13 (by decide) ?_
    exact ret hd (by decide) h dX6_isBlank_17
  · replace h := h.2 c_1
    refine lv_iload_n hx hb dX6_isBlank_6 rfl (lv_at hl 0 rfl) ?_
    refine lv_bipush (v := 10) hx hb dX6_isBlank_7 (by decide) ?_
    refine lv_icmp_ne (tgt := 16) hx hb dX6_isBlank_9 (by decide) (fun c_2 => ?_) (fun c_2 => ?_)
    · replace h := h.1 c_2
      refine lv_iconst (v := 0) hx hb dX6_isBlank_16 (by decide) ?_
      exact ret hd (by decide) h dX6_isBlank_17
    · replace h := h.2 c_2
      refine lv_iconst (v := 1) hx hb dX6_isBlank_12 (by decide) ?_
      refine lv_goto (tgt := 17) hx hb dX6_isBlank_13 (by decide) ?_
      exact ret hd (by decide) h dX6_isBlank_17
def wC_X6_isDigit (x0 : Int32) (k : KC) (Q : Int32 → KC → Prop) : Prop := (wC_within x0 (48 : Int32) (57 : Int32) k (fun r_1 k_1 => Q r_1 k_1))
set_option maxHeartbeats 4000000 in
set_option maxRecDepth 100000 in
theorem cC_X6_isDigit {l : Launch} {P : EP} {D : va_G} {a : Nat → Nat} {b : Nat → Nat → Nat} {g : Nat → ClassId} {k : KC} {Qp : Int32 → KC → Prop} (x0 : Int32) (h : wC_X6_isDigit x0 k Qp) : Dz l P D (tyA g) (wC a b g) yX6_isDigit cX6_isDigit 1 ({ frames := 1, cells := 0, slots := 0, locals := 22 }) [.int x0] k Qp := by
  refine Dz_of (by decide) (Nat.le_of_ble_eq_true rfl) ?_
  intro p e s m args below meth c A Z ls C ret hd hl
  have hx := C.1
  have hb := C.2.1
  have hl : lv_has ls 1 [(0, .int x0)] := hl
  replace h : (wC_within x0 (48 : Int32) (57 : Int32) k (fun r_1 k_1 => Qp r_1 k_1)) := h
  refine lv_iload_n hx hb dX6_isDigit_0 rfl (lv_at hl 0 rfl) ?_
  refine lv_bipush (v := 48) hx hb dX6_isDigit_1 (by decide) ?_
  refine lv_bipush (v := 57) hx hb dX6_isDigit_3 (by decide) ?_
  refine en_z C hd kwRX6_X9_within_152 (cC_within _ _ _ h) ⟨rfl, rfl⟩ ⟨by decide, by decide⟩ hl.1 rfl rfl (Nat.le_of_ble_eq_true rfl) ⟨Nat.zero_le _, Nat.zero_le _⟩ dX6_isDigit_5 (fun r_1 k_1 H locs hz_1 h hd => ?_)
  exact ret hd hz_1 h dX6_isDigit_8
def wC_X6_isLetter (x0 : Int32) (k : KC) (Q : Int32 → KC → Prop) : Prop := (wC_within x0 (97 : Int32) (122 : Int32) k (fun r_1 k_1 => Q r_1 k_1))
set_option maxHeartbeats 4000000 in
set_option maxRecDepth 100000 in
theorem cC_X6_isLetter {l : Launch} {P : EP} {D : va_G} {a : Nat → Nat} {b : Nat → Nat → Nat} {g : Nat → ClassId} {k : KC} {Qp : Int32 → KC → Prop} (x0 : Int32) (h : wC_X6_isLetter x0 k Qp) : Dz l P D (tyA g) (wC a b g) yX6_isLetter cX6_isLetter 1 ({ frames := 1, cells := 0, slots := 0, locals := 22 }) [.int x0] k Qp := by
  refine Dz_of (by decide) (Nat.le_of_ble_eq_true rfl) ?_
  intro p e s m args below meth c A Z ls C ret hd hl
  have hx := C.1
  have hb := C.2.1
  have hl : lv_has ls 1 [(0, .int x0)] := hl
  replace h : (wC_within x0 (97 : Int32) (122 : Int32) k (fun r_1 k_1 => Qp r_1 k_1)) := h
  refine lv_iload_n hx hb dX6_isLetter_0 rfl (lv_at hl 0 rfl) ?_
  refine lv_bipush (v := 97) hx hb dX6_isLetter_1 (by decide) ?_
  refine lv_bipush (v := 122) hx hb dX6_isLetter_3 (by decide) ?_
  refine en_z C hd kwRX6_X9_within_152 (cC_within _ _ _ h) ⟨rfl, rfl⟩ ⟨by decide, by decide⟩ hl.1 rfl rfl (Nat.le_of_ble_eq_true rfl) ⟨Nat.zero_le _, Nat.zero_le _⟩ dX6_isLetter_5 (fun r_1 k_1 H locs hz_1 h hd => ?_)
  exact ret hd hz_1 h dX6_isLetter_8
def wC_X6_numberToken (a : Nat → Nat) : Nat → Nat → Int32 → KC → (Int32 → KC → Prop) → Prop
  | 0, _, _, _, _ => False
  | n + 1, c, x1, k, Q => match c with
    | 0 => wC_X6_numberToken a n 1 (0 : Int32) (cI k 6 4 (0 : Int32)) Q
    | _ => (((4 : Int32) ≤ x1 → (tpC a k ∧ (wC_X4_byteAt (k.1 6 1) k (fun r_3 k_3 => (wC_X6_isDigit r_3 k_3 (fun r_4 k_4 => ((r_4 = 0 → Q (2 : Int32) k_4) ∧ (¬ r_4 = 0 → Q (1 : Int32) k_4)))))))) ∧ (¬ (4 : Int32) ≤ x1 → (tpC a k ∧ (wC_X4_byteAt (k.1 6 1) k (fun r_7 k_7 => (wC_X6_isDigit r_7 k_7 (fun r_8 k_8 => ((r_8 = 0 → (tpC a k_8 ∧ (wC_X4_byteAt (k_8.1 6 1) k_8 (fun r_11 k_11 => (wC_X6_isDigit r_11 k_11 (fun r_12 k_12 => ((r_12 = 0 → Q (2 : Int32) k_12) ∧ (¬ r_12 = 0 → Q (1 : Int32) k_12)))))))) ∧ (¬ r_8 = 0 → (tpC a k_8 ∧ (wC_X4_byteAt (k_8.1 6 1) k_8 (fun r_15 k_15 => wC_X6_numberToken a n 1 (x1 + (1 : Int32)) (cI (cI k_15 6 4 ((((k_8.1 6 4) * (10 : Int32)) + r_15) - (48 : Int32))) 6 1 ((k_15.1 6 1) + (1 : Int32))) Q))))))))))))
set_option maxHeartbeats 4000000 in
set_option maxRecDepth 100000 in
theorem cC_X6_numberToken {l : Launch} {P : EP} {D : va_G} {a : Nat → Nat} {b : Nat → Nat → Nat} {g : Nat → ClassId} {k : KC} {Qp : Int32 → KC → Prop} (n : Nat)  (h : wC_X6_numberToken a n 0 0 k Qp) : Di l P D (tyA g) (wC a b g) yX6_numberToken cX6_numberToken 2 ({ frames := 2, cells := 0, slots := 0, locals := 42 }) [.ref (a 6)] k Qp := by
  refine Di_of (by decide) (Nat.le_of_ble_eq_true rfl) ?_
  intro p e s m args below meth c A Z ls C ret hd hl
  have hx := C.1
  have hb := C.2.1
  have hl : lv_has ls 2 [(0, .ref (a 6))] := hl
  have L : ∀ n : Nat, (∀ (x1 : Int32) (k : KC) (H : Heap) (locs : List Loc) (ls : Array Slot), wC_X6_numberToken a n 1 x1 k Qp → Hd D (wC a b g k) A s H locs → lv_has ls 2 [(0, .ref (a 6)), (1, .int x1)] → W p l e ({ frames := 2, cells := 0, slots := 0, locals := 42 }) s m args below meth c H locs 0 0 Z (F0 m 7 ls [])) := by
    intro n
    induction n with
    | zero => exact fun _ _ _ _ _ h => h.elim
    | succ n ih =>
      intro x1 k H locs ls h hd hl
      replace h : (((4 : Int32) ≤ x1 → (tpC a k ∧ (wC_X4_byteAt (k.1 6 1) k (fun r_3 k_3 => (wC_X6_isDigit r_3 k_3 (fun r_4 k_4 => ((r_4 = 0 → Qp (2 : Int32) k_4) ∧ (¬ r_4 = 0 → Qp (1 : Int32) k_4)))))))) ∧ (¬ (4 : Int32) ≤ x1 → (tpC a k ∧ (wC_X4_byteAt (k.1 6 1) k (fun r_7 k_7 => (wC_X6_isDigit r_7 k_7 (fun r_8 k_8 => ((r_8 = 0 → (tpC a k_8 ∧ (wC_X4_byteAt (k_8.1 6 1) k_8 (fun r_11 k_11 => (wC_X6_isDigit r_11 k_11 (fun r_12 k_12 => ((r_12 = 0 → Qp (2 : Int32) k_12) ∧ (¬ r_12 = 0 → Qp (1 : Int32) k_12)))))))) ∧ (¬ r_8 = 0 → (tpC a k_8 ∧ (wC_X4_byteAt (k_8.1 6 1) k_8 (fun r_15 k_15 => wC_X6_numberToken a n 1 (x1 + (1 : Int32)) (cI (cI k_15 6 4 ((((k_8.1 6 4) * (10 : Int32)) + r_15) - (48 : Int32))) 6 1 ((k_15.1 6 1) + (1 : Int32))) Qp)))))))))))) := h
      refine lv_iload_n hx hb dX6_numberToken_7 rfl (lv_at hl 1 rfl) ?_
      refine lv_iconst (v := 4) hx hb dX6_numberToken_8 (by decide) ?_
      refine lv_icmp_ge (tgt := 71) hx hb dX6_numberToken_9 (by decide) (fun c_1 => ?_) (fun c_1 => ?_)
      · replace h := h.1 c_1
        refine lv_aload_n hx hb dX6_numberToken_71 rfl (lv_at hl 0 rfl) ?_
        refine gC6_6_0 C hd dX6_numberToken_72 ?_
        refine rf_split (fun e_2 => ?_) (fun x_2 e_2 => ?_)
        · exact absurd ((tpS h.1).symm.trans e_2) (fun z => by cases z)
        have ex_2 := Option.some.inj (e_2.symm.trans (tpS h.1))
        subst ex_2
        replace h := h.2
        refine lv_aload_n hx hb dX6_numberToken_75 rfl (lv_at hl 0 rfl) ?_
        refine gC6_6_1 C hd (v := k.1 6 1) rfl dX6_numberToken_76 ?_
        refine ev_i C hd kwRX6_X4_byteAt_80 (cC_X4_byteAt _ h) ⟨rfl, rfl⟩ ⟨by decide, by decide⟩ rcC4 hl.1 rfl rfl (Nat.le_of_ble_eq_true rfl) ⟨Nat.zero_le _, Nat.zero_le _⟩ dX6_numberToken_79 (fun r_3 k_3 H locs h hd => ?_)
        refine es_z C hd kwRX6_X6_isDigit_97 (cC_X6_isDigit _ h) ⟨rfl, rfl⟩ ⟨by decide, by decide⟩ hl.1 rfl rfl (Nat.le_of_ble_eq_true rfl) ⟨Nat.zero_le _, Nat.zero_le _⟩ dX6_numberToken_82 (fun r_4 k_4 H locs hz_4 h hd => ?_)
        refine lv_if_eq (tgt := 92) hx hb dX6_numberToken_85 (by decide) (fun c_5 => ?_) (fun c_5 => ?_)
        · replace h := h.1 c_5
          refine lv_iconst (v := 2) hx hb dX6_numberToken_92 (by decide) ?_
          exact ret hd h dX6_numberToken_93
        · replace h := h.2 c_5
          refine lv_iconst (v := 1) hx hb dX6_numberToken_88 (by decide) ?_
          refine lv_goto (tgt := 93) hx hb dX6_numberToken_89 (by decide) ?_
          exact ret hd h dX6_numberToken_93
      · replace h := h.2 c_1
        refine lv_aload_n hx hb dX6_numberToken_12 rfl (lv_at hl 0 rfl) ?_
        refine gC6_6_0 C hd dX6_numberToken_13 ?_
        refine rf_split (fun e_6 => ?_) (fun x_6 e_6 => ?_)
        · exact absurd ((tpS h.1).symm.trans e_6) (fun z => by cases z)
        have ex_6 := Option.some.inj (e_6.symm.trans (tpS h.1))
        subst ex_6
        replace h := h.2
        refine lv_aload_n hx hb dX6_numberToken_16 rfl (lv_at hl 0 rfl) ?_
        refine gC6_6_1 C hd (v := k.1 6 1) rfl dX6_numberToken_17 ?_
        refine ev_i C hd kwRX6_X4_byteAt_80 (cC_X4_byteAt _ h) ⟨rfl, rfl⟩ ⟨by decide, by decide⟩ rcC4 hl.1 rfl rfl (Nat.le_of_ble_eq_true rfl) ⟨Nat.zero_le _, Nat.zero_le _⟩ dX6_numberToken_20 (fun r_7 k_7 H locs h hd => ?_)
        refine es_z C hd kwRX6_X6_isDigit_97 (cC_X6_isDigit _ h) ⟨rfl, rfl⟩ ⟨by decide, by decide⟩ hl.1 rfl rfl (Nat.le_of_ble_eq_true rfl) ⟨Nat.zero_le _, Nat.zero_le _⟩ dX6_numberToken_23 (fun r_8 k_8 H locs hz_8 h hd => ?_)
        refine lv_if_eq (tgt := 71) hx hb dX6_numberToken_26 (by decide) (fun c_9 => ?_) (fun c_9 => ?_)
        · replace h := h.1 c_9
          refine lv_aload_n hx hb dX6_numberToken_71 rfl (lv_at hl 0 rfl) ?_
          refine gC6_6_0 C hd dX6_numberToken_72 ?_
          refine rf_split (fun e_10 => ?_) (fun x_10 e_10 => ?_)
          · exact absurd ((tpS h.1).symm.trans e_10) (fun z => by cases z)
          have ex_10 := Option.some.inj (e_10.symm.trans (tpS h.1))
          subst ex_10
          replace h := h.2
          refine lv_aload_n hx hb dX6_numberToken_75 rfl (lv_at hl 0 rfl) ?_
          refine gC6_6_1 C hd (v := k_8.1 6 1) rfl dX6_numberToken_76 ?_
          refine ev_i C hd kwRX6_X4_byteAt_80 (cC_X4_byteAt _ h) ⟨rfl, rfl⟩ ⟨by decide, by decide⟩ rcC4 hl.1 rfl rfl (Nat.le_of_ble_eq_true rfl) ⟨Nat.zero_le _, Nat.zero_le _⟩ dX6_numberToken_79 (fun r_11 k_11 H locs h hd => ?_)
          refine es_z C hd kwRX6_X6_isDigit_97 (cC_X6_isDigit _ h) ⟨rfl, rfl⟩ ⟨by decide, by decide⟩ hl.1 rfl rfl (Nat.le_of_ble_eq_true rfl) ⟨Nat.zero_le _, Nat.zero_le _⟩ dX6_numberToken_82 (fun r_12 k_12 H locs hz_12 h hd => ?_)
          refine lv_if_eq (tgt := 92) hx hb dX6_numberToken_85 (by decide) (fun c_13 => ?_) (fun c_13 => ?_)
          · replace h := h.1 c_13
            refine lv_iconst (v := 2) hx hb dX6_numberToken_92 (by decide) ?_
            exact ret hd h dX6_numberToken_93
          · replace h := h.2 c_13
            refine lv_iconst (v := 1) hx hb dX6_numberToken_88 (by decide) ?_
            refine lv_goto (tgt := 93) hx hb dX6_numberToken_89 (by decide) ?_
            exact ret hd h dX6_numberToken_93
        · replace h := h.2 c_9
          refine lv_aload_n hx hb dX6_numberToken_29 rfl (lv_at hl 0 rfl) ?_
          refine lv_aload_n hx hb dX6_numberToken_30 rfl (lv_at hl 0 rfl) ?_
          refine gC6_6_4 C hd (v := k_8.1 6 4) rfl dX6_numberToken_31 ?_
          refine lv_bipush (v := 10) hx hb dX6_numberToken_34 (by decide) ?_
          refine lv_imul hx hb dX6_numberToken_36 ?_
          refine lv_aload_n hx hb dX6_numberToken_37 rfl (lv_at hl 0 rfl) ?_
          refine gC6_6_0 C hd dX6_numberToken_38 ?_
          refine rf_split (fun e_14 => ?_) (fun x_14 e_14 => ?_)
          · exact absurd ((tpS h.1).symm.trans e_14) (fun z => by cases z)
          have ex_14 := Option.some.inj (e_14.symm.trans (tpS h.1))
          subst ex_14
          replace h := h.2
          refine lv_aload_n hx hb dX6_numberToken_41 rfl (lv_at hl 0 rfl) ?_
          refine gC6_6_1 C hd (v := k_8.1 6 1) rfl dX6_numberToken_42 ?_
          refine ev_i C hd kwRX6_X4_byteAt_80 (cC_X4_byteAt _ h) ⟨rfl, rfl⟩ ⟨by decide, by decide⟩ rcC4 hl.1 rfl rfl (Nat.le_of_ble_eq_true rfl) ⟨Nat.zero_le _, Nat.zero_le _⟩ dX6_numberToken_45 (fun r_15 k_15 H locs h hd => ?_)
          refine lv_iadd hx hb dX6_numberToken_48 ?_
          refine lv_bipush (v := 48) hx hb dX6_numberToken_49 (by decide) ?_
          refine lv_isub hx hb dX6_numberToken_51 ?_
          refine pC6_6_4 C hd dX6_numberToken_52 (fun H locs hd => ?_)
          refine lv_aload_n hx hb dX6_numberToken_55 rfl (lv_at hl 0 rfl) ?_
          refine lv_dup hx hb dX6_numberToken_56 rfl ?_
          refine gC6_6_1 C hd (v := k_15.1 6 1) rfl dX6_numberToken_57 ?_
          refine lv_iconst (v := 1) hx hb dX6_numberToken_60 (by decide) ?_
          refine lv_iadd hx hb dX6_numberToken_61 ?_
          refine pC6_6_1 C hd dX6_numberToken_62 (fun H locs hd => ?_)
          refine lv_iinc (v := (x1 + (1 : Int32))) (lv' := [(1, .int (x1 + (1 : Int32))), (0, .ref (a 6))]) hx hb dX6_numberToken_65 hl (k := 1) rfl rfl (by decide) rfl (fun ls hl => ?_)
          refine lv_goto (tgt := 7) hx hb dX6_numberToken_68 (by decide) ?_
          exact ih (x1 + (1 : Int32))  _ _ _ _ h hd (lv_sub hl [1, 0] rfl)
  cases n with
  | zero => exact h.elim
  | succ n =>
    replace h : wC_X6_numberToken a n 1 (0 : Int32) (cI k 6 4 (0 : Int32)) Qp := h
    refine lv_aload_n hx hb dX6_numberToken_0 rfl (lv_at hl 0 rfl) ?_
    refine lv_iconst (v := 0) hx hb dX6_numberToken_1 (by decide) ?_
    refine pC6_6_4 C hd dX6_numberToken_2 (fun H locs hd => ?_)
    refine lv_iconst (v := 0) hx hb dX6_numberToken_5 (by decide) ?_
    refine lv_istore_n (lv' := [(1, .int (0 : Int32)), (0, .ref (a 6))]) hx hb dX6_numberToken_6 rfl hl (by decide) rfl (fun ls hl => ?_)
    exact L n (0 : Int32)  _ _ _ _ h hd (lv_sub hl [1, 0] rfl)
def wC_X6_refuse  (k : KC) (Q : KC → Prop) : Prop := ((¬ (k.1 6 7) = (-1 : Int32) → Q (cI k 6 2 (1 : Int32))) ∧ ((k.1 6 7) = (-1 : Int32) → Q (cI (cI k 6 7 (k.1 6 3)) 6 2 (1 : Int32))))
set_option maxHeartbeats 4000000 in
set_option maxRecDepth 100000 in
theorem cC_X6_refuse {l : Launch} {P : EP} {D : va_G} {a : Nat → Nat} {b : Nat → Nat → Nat} {g : Nat → ClassId} {k : KC} {Qp : KC → Prop}  (h : wC_X6_refuse k Qp) : Dv l P D (tyA g) (wC a b g) yX6_refuse cX6_refuse 1 ({ frames := 0, cells := 0, slots := 0, locals := 0 }) [.ref (a 6)] k Qp := by
  refine Dv_of (by decide) (Nat.le_of_ble_eq_true rfl) ?_
  intro p e s m args below meth c A Z ls C ret hd hl
  have hx := C.1
  have hb := C.2.1
  have hl : lv_has ls 1 [(0, .ref (a 6))] := hl
  replace h : ((¬ (k.1 6 7) = (-1 : Int32) → Qp (cI k 6 2 (1 : Int32))) ∧ ((k.1 6 7) = (-1 : Int32) → Qp (cI (cI k 6 7 (k.1 6 3)) 6 2 (1 : Int32)))) := h
  refine lv_aload_n hx hb dX6_refuse_0 rfl (lv_at hl 0 rfl) ?_
  refine gC6_6_7 C hd (v := k.1 6 7) rfl dX6_refuse_1 ?_
  refine lv_iconst (v := -1) hx hb dX6_refuse_4 (by decide) ?_
  refine lv_icmp_ne (tgt := 16) hx hb dX6_refuse_5 (by decide) (fun c_1 => ?_) (fun c_1 => ?_)
  · replace h := h.1 c_1
    refine lv_aload_n hx hb dX6_refuse_16 rfl (lv_at hl 0 rfl) ?_
    refine lv_iconst (v := 1) hx hb dX6_refuse_17 (by decide) ?_
    refine pC6_6_2 C hd dX6_refuse_18 (fun H locs hd => ?_)
    exact ret hd h dX6_refuse_21
  · replace h := h.2 c_1
    refine lv_aload_n hx hb dX6_refuse_8 rfl (lv_at hl 0 rfl) ?_
    refine lv_aload_n hx hb dX6_refuse_9 rfl (lv_at hl 0 rfl) ?_
    refine gC6_6_3 C hd (v := k.1 6 3) rfl dX6_refuse_10 ?_
    refine pC6_6_7 C hd dX6_refuse_13 (fun H locs hd => ?_)
    refine lv_aload_n hx hb dX6_refuse_16 rfl (lv_at hl 0 rfl) ?_
    refine lv_iconst (v := 1) hx hb dX6_refuse_17 (by decide) ?_
    refine pC6_6_2 C hd dX6_refuse_18 (fun H locs hd => ?_)
    exact ret hd h dX6_refuse_21
def wC_X6_write (x1 : Int32) (k : KC) (Q : KC → Prop) : Prop := (((160 : Int32) ≤ (k.1 6 6) → Q k) ∧ (¬ (160 : Int32) ≤ (k.1 6 6) → (vp_in (k.1 6 6) 160 ∧ Q (cI (cA k 6 5 (upd (k.2.1 6 5) (k.1 6 6).toNatClampNeg x1)) 6 6 ((k.1 6 6) + (1 : Int32))))))
set_option maxHeartbeats 4000000 in
set_option maxRecDepth 100000 in
theorem cC_X6_write {l : Launch} {P : EP} {D : va_G} {a : Nat → Nat} {b : Nat → Nat → Nat} {g : Nat → ClassId} {k : KC} {Qp : KC → Prop} (x1 : Int32) (h : wC_X6_write x1 k Qp) : Dv l P D (tyA g) (wC a b g) yX6_write cX6_write 2 ({ frames := 0, cells := 0, slots := 0, locals := 0 }) [.ref (a 6), .int x1] k Qp := by
  refine Dv_of (by decide) (Nat.le_of_ble_eq_true rfl) ?_
  intro p e s m args below meth c A Z ls C ret hd hl
  have hx := C.1
  have hb := C.2.1
  have hl : lv_has ls 2 [(0, .ref (a 6)), (1, .int x1)] := hl
  replace h : (((160 : Int32) ≤ (k.1 6 6) → Qp k) ∧ (¬ (160 : Int32) ≤ (k.1 6 6) → (vp_in (k.1 6 6) 160 ∧ Qp (cI (cA k 6 5 (upd (k.2.1 6 5) (k.1 6 6).toNatClampNeg x1)) 6 6 ((k.1 6 6) + (1 : Int32)))))) := h
  refine lv_aload_n hx hb dX6_write_0 rfl (lv_at hl 0 rfl) ?_
  refine gC6_6_6 C hd (v := k.1 6 6) rfl dX6_write_1 ?_
  refine lv_aload_n hx hb dX6_write_4 rfl (lv_at hl 0 rfl) ?_
  refine gC6_6_5 C hd dX6_write_5 ?_
  refine alC6_5 C hd dX6_write_8 ?_
  refine lv_icmp_ge (tgt := 32) hx hb dX6_write_9 (by decide) (fun c_1 => ?_) (fun c_1 => ?_)
  · replace h := h.1 c_1
    exact ret hd h dX6_write_32
  · replace h := h.2 c_1
    refine lv_aload_n hx hb dX6_write_12 rfl (lv_at hl 0 rfl) ?_
    refine gC6_6_5 C hd dX6_write_13 ?_
    refine lv_aload_n hx hb dX6_write_16 rfl (lv_at hl 0 rfl) ?_
    refine gC6_6_6 C hd (v := k.1 6 6) rfl dX6_write_17 ?_
    refine lv_iload_n hx hb dX6_write_20 rfl (lv_at hl 1 rfl) ?_
    refine stC6_5 C hd h.1 dX6_write_21 (fun H locs hd => ?_)
    replace h := h.2
    refine lv_aload_n hx hb dX6_write_22 rfl (lv_at hl 0 rfl) ?_
    refine lv_dup hx hb dX6_write_23 rfl ?_
    refine gC6_6_6 C hd (v := k.1 6 6) rfl dX6_write_24 ?_
    refine lv_iconst (v := 1) hx hb dX6_write_27 (by decide) ?_
    refine lv_iadd hx hb dX6_write_28 ?_
    refine pC6_6_6 C hd dX6_write_29 (fun H locs hd => ?_)
    exact ret hd h dX6_write_32
def wC_X7_add (x1 : Int32) (x2 : Int32) (x3 : Int32) (k : KC) (Q : KC → Prop) : Prop := (vp_in (k.1 8 3) 20 ∧ (vp_in (k.1 8 3) 20 ∧ (vp_in (k.1 8 3) 20 ∧ Q (cI (cA (cA (cA k 8 0 (upd (k.2.1 8 0) (k.1 8 3).toNatClampNeg x1)) 8 1 (upd (k.2.1 8 1) (k.1 8 3).toNatClampNeg x2)) 8 2 (upd (k.2.1 8 2) (k.1 8 3).toNatClampNeg x3)) 8 3 ((k.1 8 3) + (1 : Int32))))))
set_option maxHeartbeats 4000000 in
set_option maxRecDepth 100000 in
theorem cC_X7_add {l : Launch} {P : EP} {D : va_G} {a : Nat → Nat} {b : Nat → Nat → Nat} {g : Nat → ClassId} {k : KC} {Qp : KC → Prop} (x1 : Int32) (x2 : Int32) (x3 : Int32) (h : wC_X7_add x1 x2 x3 k Qp) : Dv l P D (tyA g) (wC a b g) yX7_add cX7_add 4 ({ frames := 0, cells := 0, slots := 0, locals := 0 }) [.ref (a 8), .int x1, .int x2, .int x3] k Qp := by
  refine Dv_of (by decide) (Nat.le_of_ble_eq_true rfl) ?_
  intro p e s m args below meth c A Z ls C ret hd hl
  have hx := C.1
  have hb := C.2.1
  have hl : lv_has ls 4 [(0, .ref (a 8)), (1, .int x1), (2, .int x2), (3, .int x3)] := hl
  replace h : (vp_in (k.1 8 3) 20 ∧ (vp_in (k.1 8 3) 20 ∧ (vp_in (k.1 8 3) 20 ∧ Qp (cI (cA (cA (cA k 8 0 (upd (k.2.1 8 0) (k.1 8 3).toNatClampNeg x1)) 8 1 (upd (k.2.1 8 1) (k.1 8 3).toNatClampNeg x2)) 8 2 (upd (k.2.1 8 2) (k.1 8 3).toNatClampNeg x3)) 8 3 ((k.1 8 3) + (1 : Int32)))))) := h
  refine lv_aload_n hx hb dX7_add_0 rfl (lv_at hl 0 rfl) ?_
  refine gC7_7_0 C hd dX7_add_1 ?_
  refine lv_aload_n hx hb dX7_add_4 rfl (lv_at hl 0 rfl) ?_
  refine gC7_7_3 C hd (v := k.1 8 3) rfl dX7_add_5 ?_
  refine lv_iload_n hx hb dX7_add_8 rfl (lv_at hl 1 rfl) ?_
  refine stC7_0 C hd h.1 dX7_add_9 (fun H locs hd => ?_)
  replace h := h.2
  refine lv_aload_n hx hb dX7_add_10 rfl (lv_at hl 0 rfl) ?_
  refine gC7_7_1 C hd dX7_add_11 ?_
  refine lv_aload_n hx hb dX7_add_14 rfl (lv_at hl 0 rfl) ?_
  refine gC7_7_3 C hd (v := k.1 8 3) rfl dX7_add_15 ?_
  refine lv_iload_n hx hb dX7_add_18 rfl (lv_at hl 2 rfl) ?_
  refine stC7_1 C hd h.1 dX7_add_19 (fun H locs hd => ?_)
  replace h := h.2
  refine lv_aload_n hx hb dX7_add_20 rfl (lv_at hl 0 rfl) ?_
  refine gC7_7_2 C hd dX7_add_21 ?_
  refine lv_aload_n hx hb dX7_add_24 rfl (lv_at hl 0 rfl) ?_
  refine gC7_7_3 C hd (v := k.1 8 3) rfl dX7_add_25 ?_
  refine lv_iload_n hx hb dX7_add_28 rfl (lv_at hl 3 rfl) ?_
  refine stC7_2 C hd h.1 dX7_add_29 (fun H locs hd => ?_)
  replace h := h.2
  refine lv_aload_n hx hb dX7_add_30 rfl (lv_at hl 0 rfl) ?_
  refine lv_dup hx hb dX7_add_31 rfl ?_
  refine gC7_7_3 C hd (v := k.1 8 3) rfl dX7_add_32 ?_
  refine lv_iconst (v := 1) hx hb dX7_add_35 (by decide) ?_
  refine lv_iadd hx hb dX7_add_36 ?_
  refine pC7_7_3 C hd dX7_add_37 (fun H locs hd => ?_)
  exact ret hd h dX7_add_40
def wC_X7_addPace (x1 : Int32) (k : KC) (Q : KC → Prop) : Prop := ((¬ (k.1 8 5) = (-1 : Int32) → Q (cI (cI k 8 4 ((k.1 8 4) + (1 : Int32))) 8 6 x1)) ∧ ((k.1 8 5) = (-1 : Int32) → Q (cI (cI (cI k 8 4 ((k.1 8 4) + (1 : Int32))) 8 5 x1) 8 6 x1)))
set_option maxHeartbeats 4000000 in
set_option maxRecDepth 100000 in
theorem cC_X7_addPace {l : Launch} {P : EP} {D : va_G} {a : Nat → Nat} {b : Nat → Nat → Nat} {g : Nat → ClassId} {k : KC} {Qp : KC → Prop} (x1 : Int32) (h : wC_X7_addPace x1 k Qp) : Dv l P D (tyA g) (wC a b g) yX7_addPace cX7_addPace 2 ({ frames := 0, cells := 0, slots := 0, locals := 0 }) [.ref (a 8), .int x1] k Qp := by
  refine Dv_of (by decide) (Nat.le_of_ble_eq_true rfl) ?_
  intro p e s m args below meth c A Z ls C ret hd hl
  have hx := C.1
  have hb := C.2.1
  have hl : lv_has ls 2 [(0, .ref (a 8)), (1, .int x1)] := hl
  replace h : ((¬ (k.1 8 5) = (-1 : Int32) → Qp (cI (cI k 8 4 ((k.1 8 4) + (1 : Int32))) 8 6 x1)) ∧ ((k.1 8 5) = (-1 : Int32) → Qp (cI (cI (cI k 8 4 ((k.1 8 4) + (1 : Int32))) 8 5 x1) 8 6 x1))) := h
  refine lv_aload_n hx hb dX7_addPace_0 rfl (lv_at hl 0 rfl) ?_
  refine lv_dup hx hb dX7_addPace_1 rfl ?_
  refine gC7_7_4 C hd (v := k.1 8 4) rfl dX7_addPace_2 ?_
  refine lv_iconst (v := 1) hx hb dX7_addPace_5 (by decide) ?_
  refine lv_iadd hx hb dX7_addPace_6 ?_
  refine pC7_7_4 C hd dX7_addPace_7 (fun H locs hd => ?_)
  refine lv_aload_n hx hb dX7_addPace_10 rfl (lv_at hl 0 rfl) ?_
  refine gC7_7_5 C hd (v := k.1 8 5) rfl dX7_addPace_11 ?_
  refine lv_iconst (v := -1) hx hb dX7_addPace_14 (by decide) ?_
  refine lv_icmp_ne (tgt := 23) hx hb dX7_addPace_15 (by decide) (fun c_1 => ?_) (fun c_1 => ?_)
  · replace h := h.1 c_1
    refine lv_aload_n hx hb dX7_addPace_23 rfl (lv_at hl 0 rfl) ?_
    refine lv_iload_n hx hb dX7_addPace_24 rfl (lv_at hl 1 rfl) ?_
    refine pC7_7_6 C hd dX7_addPace_25 (fun H locs hd => ?_)
    exact ret hd h dX7_addPace_28
  · replace h := h.2 c_1
    refine lv_aload_n hx hb dX7_addPace_18 rfl (lv_at hl 0 rfl) ?_
    refine lv_iload_n hx hb dX7_addPace_19 rfl (lv_at hl 1 rfl) ?_
    refine pC7_7_5 C hd dX7_addPace_20 (fun H locs hd => ?_)
    refine lv_aload_n hx hb dX7_addPace_23 rfl (lv_at hl 0 rfl) ?_
    refine lv_iload_n hx hb dX7_addPace_24 rfl (lv_at hl 1 rfl) ?_
    refine pC7_7_6 C hd dX7_addPace_25 (fun H locs hd => ?_)
    exact ret hd h dX7_addPace_28
def wC_X7_forgetPaces  (k : KC) (Q : KC → Prop) : Prop := Q (cI (cI (cI (cI k 8 4 (0 : Int32)) 8 5 (-1 : Int32)) 8 6 (-1 : Int32)) 8 7 (-1 : Int32))
set_option maxHeartbeats 4000000 in
set_option maxRecDepth 100000 in
theorem cC_X7_forgetPaces {l : Launch} {P : EP} {D : va_G} {a : Nat → Nat} {b : Nat → Nat → Nat} {g : Nat → ClassId} {k : KC} {Qp : KC → Prop}  (h : wC_X7_forgetPaces k Qp) : Dv l P D (tyA g) (wC a b g) yX7_forgetPaces cX7_forgetPaces 1 ({ frames := 0, cells := 0, slots := 0, locals := 0 }) [.ref (a 8)] k Qp := by
  refine Dv_of (by decide) (Nat.le_of_ble_eq_true rfl) ?_
  intro p e s m args below meth c A Z ls C ret hd hl
  have hx := C.1
  have hb := C.2.1
  have hl : lv_has ls 1 [(0, .ref (a 8))] := hl
  replace h : Qp (cI (cI (cI (cI k 8 4 (0 : Int32)) 8 5 (-1 : Int32)) 8 6 (-1 : Int32)) 8 7 (-1 : Int32)) := h
  refine lv_aload_n hx hb dX7_forgetPaces_0 rfl (lv_at hl 0 rfl) ?_
  refine lv_iconst (v := 0) hx hb dX7_forgetPaces_1 (by decide) ?_
  refine pC7_7_4 C hd dX7_forgetPaces_2 (fun H locs hd => ?_)
  refine lv_aload_n hx hb dX7_forgetPaces_5 rfl (lv_at hl 0 rfl) ?_
  refine lv_iconst (v := -1) hx hb dX7_forgetPaces_6 (by decide) ?_
  refine pC7_7_5 C hd dX7_forgetPaces_7 (fun H locs hd => ?_)
  refine lv_aload_n hx hb dX7_forgetPaces_10 rfl (lv_at hl 0 rfl) ?_
  refine lv_iconst (v := -1) hx hb dX7_forgetPaces_11 (by decide) ?_
  refine pC7_7_6 C hd dX7_forgetPaces_12 (fun H locs hd => ?_)
  refine lv_aload_n hx hb dX7_forgetPaces_15 rfl (lv_at hl 0 rfl) ?_
  refine lv_iconst (v := -1) hx hb dX7_forgetPaces_16 (by decide) ?_
  refine pC7_7_7 C hd dX7_forgetPaces_17 (fun H locs hd => ?_)
  exact ret hd h dX7_forgetPaces_20
def wC_X8_hasSign (x1 : Int32) (k : KC) (Q : Int32 → KC → Prop) : Prop := (wC_within x1 (0 : Int32) ((k.1 1 0) - (1 : Int32)) k (fun r_1 k_1 => Q r_1 k_1))
set_option maxHeartbeats 4000000 in
set_option maxRecDepth 100000 in
theorem cC_X8_hasSign {l : Launch} {P : EP} {D : va_G} {a : Nat → Nat} {b : Nat → Nat → Nat} {g : Nat → ClassId} {k : KC} {Qp : Int32 → KC → Prop} (x1 : Int32) (h : wC_X8_hasSign x1 k Qp) : Dz l P D (tyA g) (wC a b g) yX8_hasSign cX8_hasSign 2 ({ frames := 1, cells := 0, slots := 0, locals := 22 }) [.ref (a 1), .int x1] k Qp := by
  refine Dz_of (by decide) (Nat.le_of_ble_eq_true rfl) ?_
  intro p e s m args below meth c A Z ls C ret hd hl
  have hx := C.1
  have hb := C.2.1
  have hl : lv_has ls 2 [(0, .ref (a 1)), (1, .int x1)] := hl
  replace h : (wC_within x1 (0 : Int32) ((k.1 1 0) - (1 : Int32)) k (fun r_1 k_1 => Qp r_1 k_1)) := h
  refine lv_iload_n hx hb dX8_hasSign_0 rfl (lv_at hl 1 rfl) ?_
  refine lv_iconst (v := 0) hx hb dX8_hasSign_1 (by decide) ?_
  refine lv_aload_n hx hb dX8_hasSign_2 rfl (lv_at hl 0 rfl) ?_
  refine gC8_8_0 C hd (v := k.1 1 0) rfl dX8_hasSign_3 ?_
  refine lv_iconst (v := 1) hx hb dX8_hasSign_6 (by decide) ?_
  refine lv_isub hx hb dX8_hasSign_7 ?_
  refine en_z C hd kwRX8_X9_within_58 (cC_within _ _ _ h) ⟨rfl, rfl⟩ ⟨by decide, by decide⟩ hl.1 rfl rfl (Nat.le_of_ble_eq_true rfl) ⟨Nat.zero_le _, Nat.zero_le _⟩ dX8_hasSign_8 (fun r_1 k_1 H locs hz_1 h hd => ?_)
  exact ret hd hz_1 h dX8_hasSign_11
def wC_X8_areTwoSigns (x1 : Int32) (x2 : Int32) (k : KC) (Q : Int32 → KC → Prop) : Prop := (wC_X8_hasSign x1 k (fun r_1 k_1 => ((r_1 = 0 → Q (0 : Int32) k_1) ∧ (¬ r_1 = 0 → (wC_X8_hasSign x2 k_1 (fun r_3 k_3 => ((r_3 = 0 → Q (0 : Int32) k_3) ∧ (¬ r_3 = 0 → ((x1 = x2 → Q (0 : Int32) k_3) ∧ (¬ x1 = x2 → Q (1 : Int32) k_3))))))))))
set_option maxHeartbeats 4000000 in
set_option maxRecDepth 100000 in
theorem cC_X8_areTwoSigns {l : Launch} {P : EP} {D : va_G} {a : Nat → Nat} {b : Nat → Nat → Nat} {g : Nat → ClassId} {k : KC} {Qp : Int32 → KC → Prop} (x1 : Int32) (x2 : Int32) (h : wC_X8_areTwoSigns x1 x2 k Qp) : Dz l P D (tyA g) (wC a b g) yX8_areTwoSigns cX8_areTwoSigns 3 ({ frames := 2, cells := 0, slots := 0, locals := 43 }) [.ref (a 1), .int x1, .int x2] k Qp := by
  refine Dz_of (by decide) (Nat.le_of_ble_eq_true rfl) ?_
  intro p e s m args below meth c A Z ls C ret hd hl
  have hx := C.1
  have hb := C.2.1
  have hl : lv_has ls 3 [(0, .ref (a 1)), (1, .int x1), (2, .int x2)] := hl
  replace h : (wC_X8_hasSign x1 k (fun r_1 k_1 => ((r_1 = 0 → Qp (0 : Int32) k_1) ∧ (¬ r_1 = 0 → (wC_X8_hasSign x2 k_1 (fun r_3 k_3 => ((r_3 = 0 → Qp (0 : Int32) k_3) ∧ (¬ r_3 = 0 → ((x1 = x2 → Qp (0 : Int32) k_3) ∧ (¬ x1 = x2 → Qp (1 : Int32) k_3)))))))))) := h
  refine lv_aload_n hx hb dX8_areTwoSigns_0 rfl (lv_at hl 0 rfl) ?_
  refine lv_iload_n hx hb dX8_areTwoSigns_1 rfl (lv_at hl 1 rfl) ?_
  refine ev_z C hd kwRX8_X8_hasSign_62 (cC_X8_hasSign _ h) ⟨rfl, rfl⟩ ⟨by decide, by decide⟩ rcC8 hl.1 rfl rfl (Nat.le_of_ble_eq_true rfl) ⟨Nat.zero_le _, Nat.zero_le _⟩ dX8_areTwoSigns_2 (fun r_1 k_1 H locs hz_1 h hd => ?_)
  refine lv_if_eq (tgt := 25) hx hb dX8_areTwoSigns_5 (by decide) (fun c_2 => ?_) (fun c_2 => ?_)
  · replace h := h.1 c_2
    refine lv_iconst (v := 0) hx hb dX8_areTwoSigns_25 (by decide) ?_
    exact ret hd (by decide) h dX8_areTwoSigns_26
  · replace h := h.2 c_2
    refine lv_aload_n hx hb dX8_areTwoSigns_8 rfl (lv_at hl 0 rfl) ?_
    refine lv_iload_n hx hb dX8_areTwoSigns_9 rfl (lv_at hl 2 rfl) ?_
    refine ev_z C hd kwRX8_X8_hasSign_62 (cC_X8_hasSign _ h) ⟨rfl, rfl⟩ ⟨by decide, by decide⟩ rcC8 hl.1 rfl rfl (Nat.le_of_ble_eq_true rfl) ⟨Nat.zero_le _, Nat.zero_le _⟩ dX8_areTwoSigns_10 (fun r_3 k_3 H locs hz_3 h hd => ?_)
    refine lv_if_eq (tgt := 25) hx hb dX8_areTwoSigns_13 (by decide) (fun c_4 => ?_) (fun c_4 => ?_)
    · replace h := h.1 c_4
      refine lv_iconst (v := 0) hx hb dX8_areTwoSigns_25 (by decide) ?_
      exact ret hd (by decide) h dX8_areTwoSigns_26
    · replace h := h.2 c_4
      refine lv_iload_n hx hb dX8_areTwoSigns_16 rfl (lv_at hl 1 rfl) ?_
      refine lv_iload_n hx hb dX8_areTwoSigns_17 rfl (lv_at hl 2 rfl) ?_
      refine lv_icmp_eq (tgt := 25) hx hb dX8_areTwoSigns_18 (by decide) (fun c_5 => ?_) (fun c_5 => ?_)
      · replace h := h.1 c_5
        refine lv_iconst (v := 0) hx hb dX8_areTwoSigns_25 (by decide) ?_
        exact ret hd (by decide) h dX8_areTwoSigns_26
      · replace h := h.2 c_5
        refine lv_iconst (v := 1) hx hb dX8_areTwoSigns_21 (by decide) ?_
        refine lv_goto (tgt := 26) hx hb dX8_areTwoSigns_22 (by decide) ?_
        exact ret hd (by decide) h dX8_areTwoSigns_26
