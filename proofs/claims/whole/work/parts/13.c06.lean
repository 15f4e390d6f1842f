def wC_taken (x1 : Int32) (x2 : Int32) (k : KC) (Q : Int32 → KC → Prop) : Prop := (wC_within x2 (0 : Int32) (5 : Int32) k (fun r_1 k_1 => ((¬ r_1 = 0 → (wC_X8_hasSign x1 k_1 (fun r_3 k_3 => ((¬ r_3 = 0 → (vp_in x1 8 ∧ (∃ n_5 : Nat, wC_isUnder n_5 0 (k_3.2.1 1 3 x1.toNatClampNeg) x2 0 0 k_3 (fun r_5 k_5 => ((r_5 = 0 → Q (-13 : Int32) k_5) ∧ (¬ r_5 = 0 → (vp_in x1 8 ∧ Q (k_5.2.1 2 2 x1.toNatClampNeg) k_5))))))) ∧ (r_3 = 0 → Q (-11 : Int32) k_3))))) ∧ (r_1 = 0 → Q (-2 : Int32) k_1))))
set_option maxHeartbeats 4000000 in
set_option maxRecDepth 100000 in
theorem cC_taken {l : Launch} {P : EP} {D : va_G} {a : Nat → Nat} {b : Nat → Nat → Nat} {g : Nat → ClassId} {k : KC} {Qp : Int32 → KC → Prop} (x1 : Int32) (x2 : Int32) (h : wC_taken x1 x2 k Qp) : Di l P D (tyA g) (wC a b g) yX9_taken cX9_taken 3 ({ frames := 2, cells := 0, slots := 0, locals := 43 }) [.ref (a 0), .int x1, .int x2] k Qp := by
  refine Di_of (by decide) (Nat.le_of_ble_eq_true rfl) ?_
  intro p e s m args below meth c A Z ls C ret hd hl
  have hx := C.1
  have hb := C.2.1
  have hl : lv_has ls 3 [(0, .ref (a 0)), (1, .int x1), (2, .int x2)] := hl
  replace h : (wC_within x2 (0 : Int32) (5 : Int32) k (fun r_1 k_1 => ((¬ r_1 = 0 → (wC_X8_hasSign x1 k_1 (fun r_3 k_3 => ((¬ r_3 = 0 → (vp_in x1 8 ∧ (∃ n_5 : Nat, wC_isUnder n_5 0 (k_3.2.1 1 3 x1.toNatClampNeg) x2 0 0 k_3 (fun r_5 k_5 => ((r_5 = 0 → Qp (-13 : Int32) k_5) ∧ (¬ r_5 = 0 → (vp_in x1 8 ∧ Qp (k_5.2.1 2 2 x1.toNatClampNeg) k_5))))))) ∧ (r_3 = 0 → Qp (-11 : Int32) k_3))))) ∧ (r_1 = 0 → Qp (-2 : Int32) k_1)))) := h
  refine lv_iload_n hx hb dX9_taken_0 rfl (lv_at hl 2 rfl) ?_
  refine lv_iconst (v := 0) hx hb dX9_taken_1 (by decide) ?_
  refine lv_iconst (v := 5) hx hb dX9_taken_2 (by decide) ?_
  refine es_z C hd kwRX9_X9_within_70 (cC_within _ _ _ h) ⟨rfl, rfl⟩ ⟨by decide, by decide⟩ hl.1 rfl rfl (Nat.le_of_ble_eq_true rfl) ⟨Nat.zero_le _, Nat.zero_le _⟩ dX9_taken_3 (fun r_1 k_1 H locs hz_1 h hd => ?_)
  refine lv_if_ne (tgt := 12) hx hb dX9_taken_6 (by decide) (fun c_2 => ?_) (fun c_2 => ?_)
  · replace h := h.1 c_2
    refine lv_aload_n hx hb dX9_taken_12 rfl (lv_at hl 0 rfl) ?_
    refine gC9_9_0 C hd dX9_taken_13 ?_
    refine lv_iload_n hx hb dX9_taken_16 rfl (lv_at hl 1 rfl) ?_
    refine ev_z C hd kwRX9_X8_hasSign_81 (cC_X8_hasSign _ h) ⟨rfl, rfl⟩ ⟨by decide, by decide⟩ rcC8 hl.1 rfl rfl (Nat.le_of_ble_eq_true rfl) ⟨Nat.zero_le _, Nat.zero_le _⟩ dX9_taken_17 (fun r_3 k_3 H locs hz_3 h hd => ?_)
    refine lv_if_ne (tgt := 26) hx hb dX9_taken_20 (by decide) (fun c_4 => ?_) (fun c_4 => ?_)
    · replace h := h.1 c_4
      refine lv_aload_n hx hb dX9_taken_26 rfl (lv_at hl 0 rfl) ?_
      refine gC9_9_0 C hd dX9_taken_27 ?_
      refine gC9_8_3 C hd dX9_taken_30 ?_
      refine lv_iload_n hx hb dX9_taken_33 rfl (lv_at hl 1 rfl) ?_
      refine ldC8_3 C hd (v := k_3.2.1 1 3 x1.toNatClampNeg) h.1 rfl dX9_taken_34 ?_
      replace h := h.2
      refine lv_iload_n hx hb dX9_taken_35 rfl (lv_at hl 2 rfl) ?_
      obtain ⟨n_5, h⟩ := h
      refine es_z C hd kwRX9_X9_isUnder_293 (cC_isUnder n_5 _ _ h) ⟨rfl, rfl⟩ ⟨by decide, by decide⟩ hl.1 rfl rfl (Nat.le_of_ble_eq_true rfl) ⟨Nat.zero_le _, Nat.zero_le _⟩ dX9_taken_36 (fun r_5 k_5 H locs hz_5 h hd => ?_)
      refine lv_if_eq (tgt := 54) hx hb dX9_taken_39 (by decide) (fun c_6 => ?_) (fun c_6 => ?_)
      · replace h := h.1 c_6
        refine lv_bipush (v := -13) hx hb dX9_taken_54 (by decide) ?_
        exact ret hd h dX9_taken_56
      · replace h := h.2 c_6
        refine lv_aload_n hx hb dX9_taken_42 rfl (lv_at hl 0 rfl) ?_
        refine gC9_9_1 C hd dX9_taken_43 ?_
        refine gC9_0_2 C hd (Or.inl rfl) dX9_taken_46 ?_
        refine lv_iload_n hx hb dX9_taken_49 rfl (lv_at hl 1 rfl) ?_
        refine ldC0_2 C hd (Or.inl rfl) (v := k_5.2.1 2 2 x1.toNatClampNeg) h.1 rfl dX9_taken_50 ?_
        replace h := h.2
        refine lv_goto (tgt := 56) hx hb dX9_taken_51 (by decide) ?_
        exact ret hd h dX9_taken_56
    · replace h := h.2 c_4
      refine lv_bipush (v := -11) hx hb dX9_taken_23 (by decide) ?_
      exact ret hd h dX9_taken_25
  · replace h := h.2 c_2
    refine lv_bipush (v := -2) hx hb dX9_taken_9 (by decide) ?_
    exact ret hd h dX9_taken_11
def wC_thrownOut (x1 : Int32) (k : KC) (Q : Int32 → KC → Prop) : Prop := (wC_within x1 (0 : Int32) (99 : Int32) k (fun r_1 k_1 => ((¬ r_1 = 0 → (∃ n_3 : Nat, wC_findPaces n_3 0 x1 0 k_1 (fun k_3 => (((k_3.1 8 4) ≤ 0 → Q (k_3.1 8 7) k_3) ∧ (¬ (k_3.1 8 4) ≤ 0 → Q (-1 : Int32) k_3))))) ∧ (r_1 = 0 → Q (-2 : Int32) k_1))))
set_option maxHeartbeats 4000000 in
set_option maxRecDepth 100000 in
theorem cC_thrownOut {l : Launch} {P : EP} {D : va_G} {a : Nat → Nat} {b : Nat → Nat → Nat} {g : Nat → ClassId} {k : KC} {Qp : Int32 → KC → Prop} (x1 : Int32) (h : wC_thrownOut x1 k Qp) : Di l P D (tyA g) (wC a b g) yX9_thrownOut cX9_thrownOut 2 ({ frames := 7, cells := 0, slots := 0, locals := 169 }) [.ref (a 0), .int x1] k Qp := by
  refine Di_of (by decide) (Nat.le_of_ble_eq_true rfl) ?_
  intro p e s m args below meth c A Z ls C ret hd hl
  have hx := C.1
  have hb := C.2.1
  have hl : lv_has ls 2 [(0, .ref (a 0)), (1, .int x1)] := hl
  replace h : (wC_within x1 (0 : Int32) (99 : Int32) k (fun r_1 k_1 => ((¬ r_1 = 0 → (∃ n_3 : Nat, wC_findPaces n_3 0 x1 0 k_1 (fun k_3 => (((k_3.1 8 4) ≤ 0 → Qp (k_3.1 8 7) k_3) ∧ (¬ (k_3.1 8 4) ≤ 0 → Qp (-1 : Int32) k_3))))) ∧ (r_1 = 0 → Qp (-2 : Int32) k_1)))) := h
  refine lv_iload_n hx hb dX9_thrownOut_0 rfl (lv_at hl 1 rfl) ?_
  refine lv_iconst (v := 0) hx hb dX9_thrownOut_1 (by decide) ?_
  refine lv_bipush (v := 99) hx hb dX9_thrownOut_2 (by decide) ?_
  refine es_z C hd kwRX9_X9_within_70 (cC_within _ _ _ h) ⟨rfl, rfl⟩ ⟨by decide, by decide⟩ hl.1 rfl rfl (Nat.le_of_ble_eq_true rfl) ⟨Nat.zero_le _, Nat.zero_le _⟩ dX9_thrownOut_4 (fun r_1 k_1 H locs hz_1 h hd => ?_)
  refine lv_if_ne (tgt := 13) hx hb dX9_thrownOut_7 (by decide) (fun c_2 => ?_) (fun c_2 => ?_)
  · replace h := h.1 c_2
    refine lv_aload_n hx hb dX9_thrownOut_13 rfl (lv_at hl 0 rfl) ?_
    refine lv_iload_n hx hb dX9_thrownOut_14 rfl (lv_at hl 1 rfl) ?_
    obtain ⟨n_3, h⟩ := h
    refine ev_v C hd kwRX9_X9_findPaces_232 (cC_findPaces n_3 _ h) ⟨rfl, rfl⟩ ⟨by decide, by decide⟩ rcC9 hl.1 rfl rfl (Nat.le_of_ble_eq_true rfl) ⟨Nat.zero_le _, Nat.zero_le _⟩ dX9_thrownOut_15 (fun k_3 H locs h hd => ?_)
    refine lv_aload_n hx hb dX9_thrownOut_18 rfl (lv_at hl 0 rfl) ?_
    refine gC9_9_7 C hd dX9_thrownOut_19 ?_
    refine gC9_7_4 C hd (v := k_3.1 8 4) rfl dX9_thrownOut_22 ?_
    refine lv_if_le (tgt := 32) hx hb dX9_thrownOut_25 (by decide) (fun c_4 => ?_) (fun c_4 => ?_)
    · replace h := h.1 c_4
      refine lv_aload_n hx hb dX9_thrownOut_32 rfl (lv_at hl 0 rfl) ?_
      refine gC9_9_7 C hd dX9_thrownOut_33 ?_
      refine gC9_7_7 C hd (v := k_3.1 8 7) rfl dX9_thrownOut_36 ?_
      exact ret hd h dX9_thrownOut_39
    · replace h := h.2 c_4
      refine lv_iconst (v := -1) hx hb dX9_thrownOut_28 (by decide) ?_
      refine lv_goto (tgt := 39) hx hb dX9_thrownOut_29 (by decide) ?_
      exact ret hd h dX9_thrownOut_39
  · replace h := h.2 c_2
    refine lv_bipush (v := -2) hx hb dX9_thrownOut_10 (by decide) ?_
    exact ret hd h dX9_thrownOut_12
def wC_told (x1 : Int32) (x2 : Int32) (k : KC) (Q : Int64 → KC → Prop) : Prop := (wC_X8_hasSign x1 k (fun r_1 k_1 => ((¬ r_1 = 0 → ((x2 = (0 : Int32) → (vp_in x1 8 ∧ Q ((k_1.2.1 1 3 x1.toNatClampNeg).toInt64) k_1)) ∧ (x2 = (1 : Int32) → (vp_in x1 8 ∧ Q ((k_1.2.1 2 1 x1.toNatClampNeg).toInt64) k_1)) ∧ (x2 = (2 : Int32) → (vp_in x1 8 ∧ Q ((k_1.2.1 2 2 x1.toNatClampNeg).toInt64) k_1)) ∧ (x2 = (3 : Int32) → (wC_X0_loudOf 2 x1 k_1 (fun r_4 k_4 => Q r_4.toInt64 k_4))) ∧ (x2 = (4 : Int32) → (wC_X0_fadesOf 2 x1 k_1 (fun r_5 k_5 => Q r_5.toInt64 k_5))) ∧ (¬ x2 = (0 : Int32) → ¬ x2 = (1 : Int32) → ¬ x2 = (2 : Int32) → ¬ x2 = (3 : Int32) → ¬ x2 = (4 : Int32) → Q (-4611686018427387904 : Int64) k_1))) ∧ (r_1 = 0 → Q (-4611686018427387904 : Int64) k_1))))
set_option maxHeartbeats 4000000 in
set_option maxRecDepth 100000 in
theorem cC_told {l : Launch} {P : EP} {D : va_G} {a : Nat → Nat} {b : Nat → Nat → Nat} {g : Nat → ClassId} {k : KC} {Qp : Int64 → KC → Prop} (x1 : Int32) (x2 : Int32) (h : wC_told x1 x2 k Qp) : Dl l P D (tyA g) (wC a b g) yX9_told cX9_told 3 ({ frames := 4, cells := 0, slots := 0, locals := 98 }) [.ref (a 0), .int x1, .int x2] k Qp := by
  refine Dl_of (by decide) (Nat.le_of_ble_eq_true rfl) ?_
  intro p e s m args below meth c A Z ls C ret hd hl
  have hx := C.1
  have hb := C.2.1
  have hl : lv_has ls 3 [(0, .ref (a 0)), (1, .int x1), (2, .int x2)] := hl
  replace h : (wC_X8_hasSign x1 k (fun r_1 k_1 => ((¬ r_1 = 0 → ((x2 = (0 : Int32) → (vp_in x1 8 ∧ Qp ((k_1.2.1 1 3 x1.toNatClampNeg).toInt64) k_1)) ∧ (x2 = (1 : Int32) → (vp_in x1 8 ∧ Qp ((k_1.2.1 2 1 x1.toNatClampNeg).toInt64) k_1)) ∧ (x2 = (2 : Int32) → (vp_in x1 8 ∧ Qp ((k_1.2.1 2 2 x1.toNatClampNeg).toInt64) k_1)) ∧ (x2 = (3 : Int32) → (wC_X0_loudOf 2 x1 k_1 (fun r_4 k_4 => Qp r_4.toInt64 k_4))) ∧ (x2 = (4 : Int32) → (wC_X0_fadesOf 2 x1 k_1 (fun r_5 k_5 => Qp r_5.toInt64 k_5))) ∧ (¬ x2 = (0 : Int32) → ¬ x2 = (1 : Int32) → ¬ x2 = (2 : Int32) → ¬ x2 = (3 : Int32) → ¬ x2 = (4 : Int32) → Qp (-4611686018427387904 : Int64) k_1))) ∧ (r_1 = 0 → Qp (-4611686018427387904 : Int64) k_1)))) := h
  refine lv_aload_n hx hb dX9_told_0 rfl (lv_at hl 0 rfl) ?_
  refine gC9_9_0 C hd dX9_told_1 ?_
  refine lv_iload_n hx hb dX9_told_4 rfl (lv_at hl 1 rfl) ?_
  refine ev_z C hd kwRX9_X8_hasSign_81 (cC_X8_hasSign _ h) ⟨rfl, rfl⟩ ⟨by decide, by decide⟩ rcC8 hl.1 rfl rfl (Nat.le_of_ble_eq_true rfl) ⟨Nat.zero_le _, Nat.zero_le _⟩ dX9_told_5 (fun r_1 k_1 H locs hz_1 h hd => ?_)
  refine lv_if_ne (tgt := 15) hx hb dX9_told_8 (by decide) (fun c_2 => ?_) (fun c_2 => ?_)
  · replace h := h.1 c_2
    refine lv_iload_n hx hb dX9_told_15 rfl (lv_at hl 2 rfl) ?_
    by_cases e_3_0 : x2 = (0 : Int32)
    · replace h := h.1 e_3_0
      refine lv_tableIn (off := 36) (tgt := 52) hx hb dX9_told_16 (by rw [e_3_0]; decide) (by rw [e_3_0]; decide) (by rw [e_3_0]; rfl) (by decide) ?_
      refine lv_aload_n hx hb dX9_told_52 rfl (lv_at hl 0 rfl) ?_
      refine gC9_9_0 C hd dX9_told_53 ?_
      refine gC9_8_3 C hd dX9_told_56 ?_
      refine lv_iload_n hx hb dX9_told_59 rfl (lv_at hl 1 rfl) ?_
      refine ldC8_3 C hd (v := k_1.2.1 1 3 x1.toNatClampNeg) h.1 rfl dX9_told_60 ?_
      replace h := h.2
      refine lv_i2l (v := (k_1.2.1 1 3 x1.toNatClampNeg).toInt64) hx hb dX9_told_61 rfl ?_
      exact ret hd h dX9_told_62
    · by_cases e_3_1 : x2 = (1 : Int32)
      · replace h := h.2.1 e_3_1
        refine lv_tableIn (off := 47) (tgt := 63) hx hb dX9_told_16 (by rw [e_3_1]; decide) (by rw [e_3_1]; decide) (by rw [e_3_1]; rfl) (by decide) ?_
        refine lv_aload_n hx hb dX9_told_63 rfl (lv_at hl 0 rfl) ?_
        refine gC9_9_1 C hd dX9_told_64 ?_
        refine gC9_0_1 C hd (Or.inl rfl) dX9_told_67 ?_
        refine lv_iload_n hx hb dX9_told_70 rfl (lv_at hl 1 rfl) ?_
        refine ldC0_1 C hd (Or.inl rfl) (v := k_1.2.1 2 1 x1.toNatClampNeg) h.1 rfl dX9_told_71 ?_
        replace h := h.2
        refine lv_i2l (v := (k_1.2.1 2 1 x1.toNatClampNeg).toInt64) hx hb dX9_told_72 rfl ?_
        exact ret hd h dX9_told_73
      · by_cases e_3_2 : x2 = (2 : Int32)
        · replace h := h.2.2.1 e_3_2
          refine lv_tableIn (off := 58) (tgt := 74) hx hb dX9_told_16 (by rw [e_3_2]; decide) (by rw [e_3_2]; decide) (by rw [e_3_2]; rfl) (by decide) ?_
          refine lv_aload_n hx hb dX9_told_74 rfl (lv_at hl 0 rfl) ?_
          refine gC9_9_1 C hd dX9_told_75 ?_
          refine gC9_0_2 C hd (Or.inl rfl) dX9_told_78 ?_
          refine lv_iload_n hx hb dX9_told_81 rfl (lv_at hl 1 rfl) ?_
          refine ldC0_2 C hd (Or.inl rfl) (v := k_1.2.1 2 2 x1.toNatClampNeg) h.1 rfl dX9_told_82 ?_
          replace h := h.2
          refine lv_i2l (v := (k_1.2.1 2 2 x1.toNatClampNeg).toInt64) hx hb dX9_told_83 rfl ?_
          exact ret hd h dX9_told_84
        · by_cases e_3_3 : x2 = (3 : Int32)
          · replace h := h.2.2.2.1 e_3_3
            refine lv_tableIn (off := 69) (tgt := 85) hx hb dX9_told_16 (by rw [e_3_3]; decide) (by rw [e_3_3]; decide) (by rw [e_3_3]; rfl) (by decide) ?_
            refine lv_aload_n hx hb dX9_told_85 rfl (lv_at hl 0 rfl) ?_
            refine gC9_9_1 C hd dX9_told_86 ?_
            refine lv_iload_n hx hb dX9_told_89 rfl (lv_at hl 1 rfl) ?_
            refine ev_i C hd kwRX9_X0_loudOf_93 (cC_X0_loudOf (Or.inl rfl) _ h) ⟨rfl, rfl⟩ ⟨by decide, by decide⟩ (rcC0 (Or.inl rfl)) hl.1 rfl rfl (Nat.le_of_ble_eq_true rfl) ⟨Nat.zero_le _, Nat.zero_le _⟩ dX9_told_90 (fun r_4 k_4 H locs h hd => ?_)
            refine lv_i2l (v := r_4.toInt64) hx hb dX9_told_93 rfl ?_
            exact ret hd h dX9_told_94
          · by_cases e_3_4 : x2 = (4 : Int32)
            · replace h := h.2.2.2.2.1 e_3_4
              refine lv_tableIn (off := 79) (tgt := 95) hx hb dX9_told_16 (by rw [e_3_4]; decide) (by rw [e_3_4]; decide) (by rw [e_3_4]; rfl) (by decide) ?_
              refine lv_aload_n hx hb dX9_told_95 rfl (lv_at hl 0 rfl) ?_
              refine gC9_9_1 C hd dX9_told_96 ?_
              refine lv_iload_n hx hb dX9_told_99 rfl (lv_at hl 1 rfl) ?_
              refine ev_i C hd kwRX9_X0_fadesOf_97 (cC_X0_fadesOf (Or.inl rfl) _ h) ⟨rfl, rfl⟩ ⟨by decide, by decide⟩ (rcC0 (Or.inl rfl)) hl.1 rfl rfl (Nat.le_of_ble_eq_true rfl) ⟨Nat.zero_le _, Nat.zero_le _⟩ dX9_told_100 (fun r_5 k_5 H locs h hd => ?_)
              refine lv_i2l (v := r_5.toInt64) hx hb dX9_told_103 rfl ?_
              exact ret hd h dX9_told_104
            · replace h := h.2.2.2.2.2 e_3_0 e_3_1 e_3_2 e_3_3 e_3_4
              refine lv_tableOut (tgt := 105) hx hb dX9_told_16 (by have n_0 := lv_neT (a := 0) e_3_0 (by decide); have n_1 := lv_neT (a := 1) e_3_1 (by decide); have n_2 := lv_neT (a := 2) e_3_2 (by decide); have n_3 := lv_neT (a := 3) e_3_3 (by decide); have n_4 := lv_neT (a := 4) e_3_4 (by decide); omega) (by decide) ?_
              refine lv_ldc2 (v := (-4611686018427387904 : Int64)) hx hb C.2.2.2.1 (C.2.2.2.2.1 _ q_326) dX9_told_105 ?_
              exact ret hd h dX9_told_108
  · replace h := h.2 c_2
    refine lv_ldc2 (v := (-4611686018427387904 : Int64)) hx hb C.2.2.2.1 (C.2.2.2.2.1 _ q_326) dX9_told_11 ?_
    exact ret hd h dX9_told_14
def wC_trial (x1 : Int32) (x2 : Int32) (k : KC) (Q : Int64 → KC → Prop) : Prop := (wC_X8_isSet x1 k (fun r_1 k_1 => ((r_1 = 0 → Q (-4611686018427387904 : Int64) k_1) ∧ (¬ r_1 = 0 → (wC_isEnd x2 k_1 (fun r_3 k_3 => ((¬ r_3 = 0 → (∃ n_5 : Nat, wC_X0_goThroughTrial 2 n_5 0 x1 x2 0 0 0 k_3 (fun r_5 k_5 => Q r_5.toInt64 k_5))) ∧ (r_3 = 0 → Q (-4611686018427387904 : Int64) k_3))))))))
set_option maxHeartbeats 4000000 in
set_option maxRecDepth 100000 in
theorem cC_trial {l : Launch} {P : EP} {D : va_G} {a : Nat → Nat} {b : Nat → Nat → Nat} {g : Nat → ClassId} {k : KC} {Qp : Int64 → KC → Prop} (x1 : Int32) (x2 : Int32) (h : wC_trial x1 x2 k Qp) : Dl l P D (tyA g) (wC a b g) yX9_trial cX9_trial 3 ({ frames := 4, cells := 0, slots := 0, locals := 101 }) [.ref (a 0), .int x1, .int x2] k Qp := by
  refine Dl_of (by decide) (Nat.le_of_ble_eq_true rfl) ?_
  intro p e s m args below meth c A Z ls C ret hd hl
  have hx := C.1
  have hb := C.2.1
  have hl : lv_has ls 3 [(0, .ref (a 0)), (1, .int x1), (2, .int x2)] := hl
  replace h : (wC_X8_isSet x1 k (fun r_1 k_1 => ((r_1 = 0 → Qp (-4611686018427387904 : Int64) k_1) ∧ (¬ r_1 = 0 → (wC_isEnd x2 k_1 (fun r_3 k_3 => ((¬ r_3 = 0 → (∃ n_5 : Nat, wC_X0_goThroughTrial 2 n_5 0 x1 x2 0 0 0 k_3 (fun r_5 k_5 => Qp r_5.toInt64 k_5))) ∧ (r_3 = 0 → Qp (-4611686018427387904 : Int64) k_3)))))))) := h
  refine lv_aload_n hx hb dX9_trial_0 rfl (lv_at hl 0 rfl) ?_
  refine gC9_9_0 C hd dX9_trial_1 ?_
  refine lv_iload_n hx hb dX9_trial_4 rfl (lv_at hl 1 rfl) ?_
  refine ev_z C hd kwRX9_X8_isSet_172 (cC_X8_isSet _ h) ⟨rfl, rfl⟩ ⟨by decide, by decide⟩ rcC8 hl.1 rfl rfl (Nat.le_of_ble_eq_true rfl) ⟨Nat.zero_le _, Nat.zero_le _⟩ dX9_trial_5 (fun r_1 k_1 H locs hz_1 h hd => ?_)
  refine lv_if_eq (tgt := 18) hx hb dX9_trial_8 (by decide) (fun c_2 => ?_) (fun c_2 => ?_)
  · replace h := h.1 c_2
    refine lv_ldc2 (v := (-4611686018427387904 : Int64)) hx hb C.2.2.2.1 (C.2.2.2.2.1 _ q_326) dX9_trial_18 ?_
    exact ret hd h dX9_trial_21
  · replace h := h.2 c_2
    refine lv_iload_n hx hb dX9_trial_11 rfl (lv_at hl 2 rfl) ?_
    refine es_z C hd kwRX9_X9_isEnd_103 (cC_isEnd _ h) ⟨rfl, rfl⟩ ⟨by decide, by decide⟩ hl.1 rfl rfl (Nat.le_of_ble_eq_true rfl) ⟨Nat.zero_le _, Nat.zero_le _⟩ dX9_trial_12 (fun r_3 k_3 H locs hz_3 h hd => ?_)
    refine lv_if_ne (tgt := 22) hx hb dX9_trial_15 (by decide) (fun c_4 => ?_) (fun c_4 => ?_)
    · replace h := h.1 c_4
      refine lv_aload_n hx hb dX9_trial_22 rfl (lv_at hl 0 rfl) ?_
      refine gC9_9_1 C hd dX9_trial_23 ?_
      refine lv_iload_n hx hb dX9_trial_26 rfl (lv_at hl 1 rfl) ?_
      refine lv_iload_n hx hb dX9_trial_27 rfl (lv_at hl 2 rfl) ?_
      obtain ⟨n_5, h⟩ := h
      refine ev_i C hd kwRX9_X0_goThroughTrial_175 (cC_X0_goThroughTrial (Or.inl rfl) n_5 _ _ h) ⟨rfl, rfl⟩ ⟨by decide, by decide⟩ (rcC0 (Or.inl rfl)) hl.1 rfl rfl (Nat.le_of_ble_eq_true rfl) ⟨Nat.zero_le _, Nat.zero_le _⟩ dX9_trial_28 (fun r_5 k_5 H locs h hd => ?_)
      refine lv_i2l (v := r_5.toInt64) hx hb dX9_trial_31 rfl ?_
      exact ret hd h dX9_trial_32
    · replace h := h.2 c_4
      refine lv_ldc2 (v := (-4611686018427387904 : Int64)) hx hb C.2.2.2.1 (C.2.2.2.2.1 _ q_326) dX9_trial_18 ?_
      exact ret hd h dX9_trial_21
def wC_trials : Nat → Nat → Int32 → Int32 → Int32 → Int32 → Nat → Int32 → Int32 → KC → (Int32 → KC → Prop) → Prop
  | 0, _, _, _, _, _, _, _, _, _, _ => False
  | n + 1, c, x1, x2, x3, x4, i5, x6, x7, k, Q => match c with
    | 0 => (wC_isSheet x1 k (fun r_1 k_1 => ((r_1 = 0 → Q (-2 : Int32) k_1) ∧ (¬ r_1 = 0 → (wC_within x2 (0 : Int32) (2 : Int32) k_1 (fun r_3 k_3 => ((r_3 = 0 → Q (-2 : Int32) k_3) ∧ (¬ r_3 = 0 → (wC_within x4 (0 : Int32) (20 : Int32) k_3 (fun r_5 k_5 => ((¬ r_5 = 0 → (vp_in x1 4 ∧ ∀ i_7 : Nat, i_7 = 9 + x1.toNatClampNeg → (wC_X3_isMissing i_7 k_5 (fun r_8 k_8 => ((r_8 = 0 → (((k_8.1 i_7 0) = x2 → wC_trials n 1 0 0 x3 x4 i_7 (0 : Int32) (0 : Int32) k_8 Q) ∧ (¬ (k_8.1 i_7 0) = x2 → Q (-13 : Int32) k_8))) ∧ (¬ r_8 = 0 → Q (-11 : Int32) k_8)))))) ∧ (r_5 = 0 → Q (-2 : Int32) k_5))))))))))))
    | _ => ((x4 ≤ x7 → Q x6 k) ∧ (¬ x4 ≤ x7 → (wC_X3_hasRun i5 x3 (((2 : Int32) * x7) + (2 : Int32)) k (fun r_12 k_12 => ((¬ r_12 = 0 → (vp_in (x3 + ((2 : Int32) * x7)) 40 ∧ (vp_in ((x3 + ((2 : Int32) * x7)) + (1 : Int32)) 40 ∧ (∀ v_14 : Int32, v_14 = k_12.2.1 i5 2 ((x3 + ((2 : Int32) * x7)) + (1 : Int32)).toNatClampNeg → (wC_X8_isSet (k_12.2.1 i5 2 (x3 + ((2 : Int32) * x7)).toNatClampNeg) k_12 (fun r_15 k_15 => ((r_15 = 0 → wC_trials n 1 0 0 x3 x4 i5 x6 (x7 + (1 : Int32)) k_15 Q) ∧ (¬ r_15 = 0 → (wC_isEnd v_14 k_15 (fun r_17 k_17 => ((r_17 = 0 → wC_trials n 1 0 0 x3 x4 i5 x6 (x7 + (1 : Int32)) k_17 Q) ∧ (¬ r_17 = 0 → (∃ n_19 : Nat, wC_X0_goThroughTrial 2 n_19 0 (k_12.2.1 i5 2 (x3 + ((2 : Int32) * x7)).toNatClampNeg) v_14 0 0 0 k_17 (fun r_19 k_19 => wC_trials n 1 0 0 x3 x4 i5 (x6 + (1 : Int32)) (x7 + (1 : Int32)) k_19 Q)))))))))))))) ∧ (r_12 = 0 → Q (-12 : Int32) k_12))))))
set_option maxHeartbeats 4000000 in
set_option maxRecDepth 100000 in
theorem cC_trials {l : Launch} {P : EP} {D : va_G} {a : Nat → Nat} {b : Nat → Nat → Nat} {g : Nat → ClassId} {k : KC} {Qp : Int32 → KC → Prop} (n : Nat) (x1 : Int32) (x2 : Int32) (x3 : Int32) (x4 : Int32) (h : wC_trials n 0 x1 x2 x3 x4 0 0 0 k Qp) : Di l P D (tyA g) (wC a b g) yX9_trials cX9_trials 10 ({ frames := 4, cells := 0, slots := 0, locals := 101 }) [.ref (a 0), .int x1, .int x2, .int x3, .int x4] k Qp := by
  refine Di_of (by decide) (Nat.le_of_ble_eq_true rfl) ?_
  intro p e s m args below meth c A Z ls C ret hd hl
  have hx := C.1
  have hb := C.2.1
  have hl : lv_has ls 10 [(0, .ref (a 0)), (1, .int x1), (2, .int x2), (3, .int x3), (4, .int x4)] := hl
  have L : ∀ n : Nat, (∀ (x3 : Int32) (x4 : Int32) (i5 : Nat) (x6 : Int32) (x7 : Int32) (hg5 : i5 = 9 ∨ i5 = 10 ∨ i5 = 11 ∨ i5 = 12) (k : KC) (H : Heap) (locs : List Loc) (ls : Array Slot), wC_trials n 1 0 0 x3 x4 i5 x6 x7 k Qp → Hd D (wC a b g k) A s H locs → lv_has ls 10 [(0, .ref (a 0)), (3, .int x3), (4, .int x4), (5, .ref (a i5)), (6, .int x6), (7, .int x7)] → W p l e ({ frames := 4, cells := 0, slots := 0, locals := 101 }) s m args below meth c H locs 0 0 Z (F0 m 67 ls [])) := by
    intro n
    induction n with
    | zero => exact fun _ _ _ _ _ _ _ _ _ _ h => h.elim
    | succ n ih =>
      intro x3 x4 i5 x6 x7 hg5 k H locs ls h hd hl
      replace h : ((x4 ≤ x7 → Qp x6 k) ∧ (¬ x4 ≤ x7 → (wC_X3_hasRun i5 x3 (((2 : Int32) * x7) + (2 : Int32)) k (fun r_12 k_12 => ((¬ r_12 = 0 → (vp_in (x3 + ((2 : Int32) * x7)) 40 ∧ (vp_in ((x3 + ((2 : Int32) * x7)) + (1 : Int32)) 40 ∧ (∀ v_14 : Int32, v_14 = k_12.2.1 i5 2 ((x3 + ((2 : Int32) * x7)) + (1 : Int32)).toNatClampNeg → (wC_X8_isSet (k_12.2.1 i5 2 (x3 + ((2 : Int32) * x7)).toNatClampNeg) k_12 (fun r_15 k_15 => ((r_15 = 0 → wC_trials n 1 0 0 x3 x4 i5 x6 (x7 + (1 : Int32)) k_15 Qp) ∧ (¬ r_15 = 0 → (wC_isEnd v_14 k_15 (fun r_17 k_17 => ((r_17 = 0 → wC_trials n 1 0 0 x3 x4 i5 x6 (x7 + (1 : Int32)) k_17 Qp) ∧ (¬ r_17 = 0 → (∃ n_19 : Nat, wC_X0_goThroughTrial 2 n_19 0 (k_12.2.1 i5 2 (x3 + ((2 : Int32) * x7)).toNatClampNeg) v_14 0 0 0 k_17 (fun r_19 k_19 => wC_trials n 1 0 0 x3 x4 i5 (x6 + (1 : Int32)) (x7 + (1 : Int32)) k_19 Qp)))))))))))))) ∧ (r_12 = 0 → Qp (-12 : Int32) k_12)))))) := h
      refine lv_iload hx hb dX9_trials_67 (lv_at hl 5 rfl) ?_
      refine lv_iload hx hb dX9_trials_69 (lv_at hl 2 rfl) ?_
      refine lv_icmp_ge (tgt := 163) hx hb dX9_trials_71 (by decide) (fun c_11 => ?_) (fun c_11 => ?_)
      · replace h := h.1 c_11
        refine lv_iload hx hb dX9_trials_163 (lv_at hl 4 rfl) ?_
        exact ret hd h dX9_trials_165
      · replace h := h.2 c_11
        refine lv_aload hx hb dX9_trials_74 (lv_at hl 3 rfl) ?_
        refine lv_iload_n hx hb dX9_trials_76 rfl (lv_at hl 1 rfl) ?_
        refine lv_iconst (v := 2) hx hb dX9_trials_77 (by decide) ?_
        refine lv_iload hx hb dX9_trials_78 (lv_at hl 5 rfl) ?_
        refine lv_imul hx hb dX9_trials_80 ?_
        refine lv_iconst (v := 2) hx hb dX9_trials_81 (by decide) ?_
        refine lv_iadd hx hb dX9_trials_82 ?_
        refine ev_z C hd kwRX9_X3_hasRun_281 (cC_X3_hasRun hg5 _ _ h) ⟨rfl, rfl⟩ ⟨by decide, by decide⟩ (rcC3 hg5) hl.1 rfl rfl (Nat.le_of_ble_eq_true rfl) ⟨Nat.zero_le _, Nat.zero_le _⟩ dX9_trials_83 (fun r_12 k_12 H locs hz_12 h hd => ?_)
        refine lv_if_ne (tgt := 92) hx hb dX9_trials_86 (by decide) (fun c_13 => ?_) (fun c_13 => ?_)
        · replace h := h.1 c_13
          refine lv_aload hx hb dX9_trials_92 (lv_at hl 3 rfl) ?_
          refine gC9_3_2 C hd hg5 dX9_trials_94 ?_
          refine lv_iload_n hx hb dX9_trials_97 rfl (lv_at hl 1 rfl) ?_
          refine lv_iconst (v := 2) hx hb dX9_trials_98 (by decide) ?_
          refine lv_iload hx hb dX9_trials_99 (lv_at hl 5 rfl) ?_
          refine lv_imul hx hb dX9_trials_101 ?_
          refine lv_iadd hx hb dX9_trials_102 ?_
          refine ldC3_2 C hd hg5 (v := k_12.2.1 i5 2 (x3 + ((2 : Int32) * x7)).toNatClampNeg) h.1 rfl dX9_trials_103 ?_
          replace h := h.2
          refine lv_istore (lv' := [(8, .int (k_12.2.1 i5 2 (x3 + ((2 : Int32) * x7)).toNatClampNeg)), (0, .ref (a 0)), (3, .int x3), (4, .int x4), (5, .ref (a i5)), (6, .int x6), (7, .int x7)]) hx hb dX9_trials_104 hl (by decide) rfl (fun ls hl => ?_)
          refine lv_aload hx hb dX9_trials_106 (lv_at hl 4 rfl) ?_
          refine gC9_3_2 C hd hg5 dX9_trials_108 ?_
          refine lv_iload_n hx hb dX9_trials_111 rfl (lv_at hl 2 rfl) ?_
          refine lv_iconst (v := 2) hx hb dX9_trials_112 (by decide) ?_
          refine lv_iload hx hb dX9_trials_113 (lv_at hl 6 rfl) ?_
          refine lv_imul hx hb dX9_trials_115 ?_
          refine lv_iadd hx hb dX9_trials_116 ?_
          refine lv_iconst (v := 1) hx hb dX9_trials_117 (by decide) ?_
          refine lv_iadd hx hb dX9_trials_118 ?_
          refine ldC3_2 C hd hg5 (v := k_12.2.1 i5 2 ((x3 + ((2 : Int32) * x7)) + (1 : Int32)).toNatClampNeg) h.1 rfl dX9_trials_119 ?_
          replace h := h.2
          refine lv_topi (fun v_14 e_14 => ?_)
          replace h := h v_14 e_14
          refine lv_istore (lv' := [(9, .int v_14), (8, .int (k_12.2.1 i5 2 (x3 + ((2 : Int32) * x7)).toNatClampNeg)), (0, .ref (a 0)), (3, .int x3), (4, .int x4), (5, .ref (a i5)), (6, .int x6), (7, .int x7)]) hx hb dX9_trials_120 hl (by decide) rfl (fun ls hl => ?_)
          refine lv_aload_n hx hb dX9_trials_122 rfl (lv_at hl 2 rfl) ?_
          refine gC9_9_0 C hd dX9_trials_123 ?_
          refine lv_iload hx hb dX9_trials_126 (lv_at hl 1 rfl) ?_
          refine ev_z C hd kwRX9_X8_isSet_172 (cC_X8_isSet _ h) ⟨rfl, rfl⟩ ⟨by decide, by decide⟩ rcC8 hl.1 rfl rfl (Nat.le_of_ble_eq_true rfl) ⟨Nat.zero_le _, Nat.zero_le _⟩ dX9_trials_128 (fun r_15 k_15 H locs hz_15 h hd => ?_)
          refine lv_if_eq (tgt := 157) hx hb dX9_trials_131 (by decide) (fun c_16 => ?_) (fun c_16 => ?_)
          · replace h := h.1 c_16
            refine lv_iinc (v := (x7 + (1 : Int32))) (lv' := [(7, .int (x7 + (1 : Int32))), (9, .int v_14), (8, .int (k_12.2.1 i5 2 (x3 + ((2 : Int32) * x7)).toNatClampNeg)), (0, .ref (a 0)), (3, .int x3), (4, .int x4), (5, .ref (a i5)), (6, .int x6)]) hx hb dX9_trials_157 hl (k := 7) rfl rfl (by decide) rfl (fun ls hl => ?_)
            refine lv_goto (tgt := 67) hx hb dX9_trials_160 (by decide) ?_
            exact ih x3 x4 i5 x6 (x7 + (1 : Int32)) hg5 _ _ _ _ h hd (lv_sub hl [3, 4, 5, 6, 7, 0] rfl)
          · replace h := h.2 c_16
            refine lv_iload hx hb dX9_trials_134 (lv_at hl 0 rfl) ?_
            refine es_z C hd kwRX9_X9_isEnd_103 (cC_isEnd _ h) ⟨rfl, rfl⟩ ⟨by decide, by decide⟩ hl.1 rfl rfl (Nat.le_of_ble_eq_true rfl) ⟨Nat.zero_le _, Nat.zero_le _⟩ dX9_trials_136 (fun r_17 k_17 H locs hz_17 h hd => ?_)
            refine lv_if_eq (tgt := 157) hx hb dX9_trials_139 (by decide) (fun c_18 => ?_) (fun c_18 => ?_)
            · replace h := h.1 c_18
              refine lv_iinc (v := (x7 + (1 : Int32))) (lv' := [(7, .int (x7 + (1 : Int32))), (9, .int v_14), (8, .int (k_12.2.1 i5 2 (x3 + ((2 : Int32) * x7)).toNatClampNeg)), (0, .ref (a 0)), (3, .int x3), (4, .int x4), (5, .ref (a i5)), (6, .int x6)]) hx hb dX9_trials_157 hl (k := 7) rfl rfl (by decide) rfl (fun ls hl => ?_)
              refine lv_goto (tgt := 67) hx hb dX9_trials_160 (by decide) ?_
              exact ih x3 x4 i5 x6 (x7 + (1 : Int32)) hg5 _ _ _ _ h hd (lv_sub hl [3, 4, 5, 6, 7, 0] rfl)
            · replace h := h.2 c_18
              refine lv_aload_n hx hb dX9_trials_142 rfl (lv_at hl 2 rfl) ?_
              refine gC9_9_1 C hd dX9_trials_143 ?_
              refine lv_iload hx hb dX9_trials_146 (lv_at hl 1 rfl) ?_
              refine lv_iload hx hb dX9_trials_148 (lv_at hl 0 rfl) ?_
              obtain ⟨n_19, h⟩ := h
              refine ev_i C hd kwRX9_X0_goThroughTrial_175 (cC_X0_goThroughTrial (Or.inl rfl) n_19 _ _ h) ⟨rfl, rfl⟩ ⟨by decide, by decide⟩ (rcC0 (Or.inl rfl)) hl.1 rfl rfl (Nat.le_of_ble_eq_true rfl) ⟨Nat.zero_le _, Nat.zero_le _⟩ dX9_trials_150 (fun r_19 k_19 H locs h hd => ?_)
              refine lv_pop hx hb dX9_trials_153 rfl ?_
              refine lv_iinc (v := (x6 + (1 : Int32))) (lv' := [(6, .int (x6 + (1 : Int32))), (9, .int v_14), (8, .int (k_12.2.1 i5 2 (x3 + ((2 : Int32) * x7)).toNatClampNeg)), (0, .ref (a 0)), (3, .int x3), (4, .int x4), (5, .ref (a i5)), (7, .int x7)]) hx hb dX9_trials_154 hl (k := 6) rfl rfl (by decide) rfl (fun ls hl => ?_)
              refine lv_iinc (v := (x7 + (1 : Int32))) (lv' := [(7, .int (x7 + (1 : Int32))), (6, .int (x6 + (1 : Int32))), (9, .int v_14), (8, .int (k_12.2.1 i5 2 (x3 + ((2 : Int32) * x7)).toNatClampNeg)), (0, .ref (a 0)), (3, .int x3), (4, .int x4), (5, .ref (a i5))]) hx hb dX9_trials_157 hl (k := 7) rfl rfl (by decide) rfl (fun ls hl => ?_)
              refine lv_goto (tgt := 67) hx hb dX9_trials_160 (by decide) ?_
              exact ih x3 x4 i5 (x6 + (1 : Int32)) (x7 + (1 : Int32)) hg5 _ _ _ _ h hd (lv_sub hl [4, 5, 6, 7, 1, 0] rfl)
        · replace h := h.2 c_13
          refine lv_bipush (v := -12) hx hb dX9_trials_89 (by decide) ?_
          exact ret hd h dX9_trials_91
  cases n with
  | zero => exact h.elim
  | succ n =>
    replace h : (wC_isSheet x1 k (fun r_1 k_1 => ((r_1 = 0 → Qp (-2 : Int32) k_1) ∧ (¬ r_1 = 0 → (wC_within x2 (0 : Int32) (2 : Int32) k_1 (fun r_3 k_3 => ((r_3 = 0 → Qp (-2 : Int32) k_3) ∧ (¬ r_3 = 0 → (wC_within x4 (0 : Int32) (20 : Int32) k_3 (fun r_5 k_5 => ((¬ r_5 = 0 → (vp_in x1 4 ∧ ∀ i_7 : Nat, i_7 = 9 + x1.toNatClampNeg → (wC_X3_isMissing i_7 k_5 (fun r_8 k_8 => ((r_8 = 0 → (((k_8.1 i_7 0) = x2 → wC_trials n 1 0 0 x3 x4 i_7 (0 : Int32) (0 : Int32) k_8 Qp) ∧ (¬ (k_8.1 i_7 0) = x2 → Qp (-13 : Int32) k_8))) ∧ (¬ r_8 = 0 → Qp (-11 : Int32) k_8)))))) ∧ (r_5 = 0 → Qp (-2 : Int32) k_5)))))))))))) := h
    refine lv_iload_n hx hb dX9_trials_0 rfl (lv_at hl 1 rfl) ?_
    refine es_z C hd kwRX9_X9_isSheet_261 (cC_isSheet _ h) ⟨rfl, rfl⟩ ⟨by decide, by decide⟩ hl.1 rfl rfl (Nat.le_of_ble_eq_true rfl) ⟨Nat.zero_le _, Nat.zero_le _⟩ dX9_trials_1 (fun r_1 k_1 H locs hz_1 h hd => ?_)
    refine lv_if_eq (tgt := 27) hx hb dX9_trials_4 (by decide) (fun c_2 => ?_) (fun c_2 => ?_)
    · replace h := h.1 c_2
      refine lv_bipush (v := -2) hx hb dX9_trials_27 (by decide) ?_
      exact ret hd h dX9_trials_29
    · replace h := h.2 c_2
      refine lv_iload_n hx hb dX9_trials_7 rfl (lv_at hl 2 rfl) ?_
      refine lv_iconst (v := 0) hx hb dX9_trials_8 (by decide) ?_
      refine lv_iconst (v := 2) hx hb dX9_trials_9 (by decide) ?_
      refine es_z C hd kwRX9_X9_within_70 (cC_within _ _ _ h) ⟨rfl, rfl⟩ ⟨by decide, by decide⟩ hl.1 rfl rfl (Nat.le_of_ble_eq_true rfl) ⟨Nat.zero_le _, Nat.zero_le _⟩ dX9_trials_10 (fun r_3 k_3 H locs hz_3 h hd => ?_)
      refine lv_if_eq (tgt := 27) hx hb dX9_trials_13 (by decide) (fun c_4 => ?_) (fun c_4 => ?_)
      · replace h := h.1 c_4
        refine lv_bipush (v := -2) hx hb dX9_trials_27 (by decide) ?_
        exact ret hd h dX9_trials_29
      · replace h := h.2 c_4
        refine lv_iload hx hb dX9_trials_16 (lv_at hl 4 rfl) ?_
        refine lv_iconst (v := 0) hx hb dX9_trials_18 (by decide) ?_
        refine lv_bipush (v := 20) hx hb dX9_trials_19 (by decide) ?_
        refine es_z C hd kwRX9_X9_within_70 (cC_within _ _ _ h) ⟨rfl, rfl⟩ ⟨by decide, by decide⟩ hl.1 rfl rfl (Nat.le_of_ble_eq_true rfl) ⟨Nat.zero_le _, Nat.zero_le _⟩ dX9_trials_21 (fun r_5 k_5 H locs hz_5 h hd => ?_)
        refine lv_if_ne (tgt := 30) hx hb dX9_trials_24 (by decide) (fun c_6 => ?_) (fun c_6 => ?_)
        · replace h := h.1 c_6
          refine lv_aload_n hx hb dX9_trials_30 rfl (lv_at hl 0 rfl) ?_
          refine gC9_9_8 C hd dX9_trials_31 ?_
          refine lv_iload_n hx hb dX9_trials_34 rfl (lv_at hl 1 rfl) ?_
          refine ldC9_8 C hd h.1 dX9_trials_35 ?_
          have hv_7 := sh_or h.1
          replace h := h.2
          refine top_a (fun i_7 e_7 => ?_)
          rw [← e_7] at hv_7
          have hs_7 : i_7 = 9 ∨ i_7 = 10 ∨ i_7 = 11 ∨ i_7 = 12 := hv_7
          replace h := h i_7 e_7
          refine lv_astore (lv' := [(5, .ref (a i_7)), (0, .ref (a 0)), (1, .int x1), (2, .int x2), (3, .int x3), (4, .int x4)]) hx hb dX9_trials_36 hl (by decide) rfl (fun ls hl => ?_)
          refine lv_aload hx hb dX9_trials_38 (lv_at hl 0 rfl) ?_
          refine ev_z C hd kwRX9_X3_isMissing_268 (cC_X3_isMissing hs_7 h) ⟨rfl, rfl⟩ ⟨by decide, by decide⟩ (rcC3 hs_7) hl.1 rfl rfl (Nat.le_of_ble_eq_true rfl) ⟨Nat.zero_le _, Nat.zero_le _⟩ dX9_trials_40 (fun r_8 k_8 H locs hz_8 h hd => ?_)
          refine lv_if_eq (tgt := 49) hx hb dX9_trials_43 (by decide) (fun c_9 => ?_) (fun c_9 => ?_)
          · replace h := h.1 c_9
            refine lv_aload hx hb dX9_trials_49 (lv_at hl 0 rfl) ?_
            refine gC9_3_0 C hd hs_7 (v := k_8.1 i_7 0) rfl dX9_trials_51 ?_
            refine lv_iload_n hx hb dX9_trials_54 rfl (lv_at hl 3 rfl) ?_
            refine lv_icmp_eq (tgt := 61) hx hb dX9_trials_55 (by decide) (fun c_10 => ?_) (fun c_10 => ?_)
            · replace h := h.1 c_10
              refine lv_iconst (v := 0) hx hb dX9_trials_61 (by decide) ?_
              refine lv_istore (lv' := [(6, .int (0 : Int32)), (5, .ref (a i_7)), (0, .ref (a 0)), (1, .int x1), (2, .int x2), (3, .int x3), (4, .int x4)]) hx hb dX9_trials_62 hl (by decide) rfl (fun ls hl => ?_)
              refine lv_iconst (v := 0) hx hb dX9_trials_64 (by decide) ?_
              refine lv_istore (lv' := [(7, .int (0 : Int32)), (6, .int (0 : Int32)), (5, .ref (a i_7)), (0, .ref (a 0)), (1, .int x1), (2, .int x2), (3, .int x3), (4, .int x4)]) hx hb dX9_trials_65 hl (by decide) rfl (fun ls hl => ?_)
              exact L n x3 x4 i_7 (0 : Int32) (0 : Int32) hs_7 _ _ _ _ h hd (lv_sub hl [3, 6, 7, 2, 1, 0] rfl)
            · replace h := h.2 c_10
              refine lv_bipush (v := -13) hx hb dX9_trials_58 (by decide) ?_
              exact ret hd h dX9_trials_60
          · replace h := h.2 c_9
            refine lv_bipush (v := -11) hx hb dX9_trials_46 (by decide) ?_
            exact ret hd h dX9_trials_48
        · replace h := h.2 c_6
          refine lv_bipush (v := -2) hx hb dX9_trials_27 (by decide) ?_
          exact ret hd h dX9_trials_29
def wC_watched (x1 : Int32) (x2 : Int32) (x3 : Int32) (k : KC) (Q : Int32 → KC → Prop) : Prop := (wC_X8_planAt x1 k (fun r_1 k_1 => ((r_1 = none → Q (-2 : Int32) k_1) ∧ (∀ x_2 : Nat, r_1 = some x_2 → ∃ d_2 : Dn, d_2.1 = x_2 ∧ (wC_isSomeSet x2 k_1 (fun r_3 k_3 => ((r_3 = 0 → Q (-2 : Int32) k_3) ∧ (¬ r_3 = 0 → (wC_within x3 (0 : Int32) (99 : Int32) k_3 (fun r_5 k_5 => ((¬ r_5 = 0 → (((k_5.1 8 3) < (20 : Int32) → (wC_X7_add x1 x2 x3 k_5 (fun k_8 => Q ((k_8.1 8 3) - (1 : Int32)) k_8))) ∧ (¬ (k_5.1 8 3) < (20 : Int32) → Q (-4 : Int32) k_5))) ∧ (r_5 = 0 → Q (-2 : Int32) k_5))))))))))))
set_option maxHeartbeats 4000000 in
set_option maxRecDepth 100000 in
theorem cC_watched {l : Launch} {P : EP} {D : va_G} {a : Nat → Nat} {b : Nat → Nat → Nat} {g : Nat → ClassId} {k : KC} {Qp : Int32 → KC → Prop} (x1 : Int32) (x2 : Int32) (x3 : Int32) (h : wC_watched x1 x2 x3 k Qp) : Di l P D (tyA g) (wC a b g) yX9_watched cX9_watched 4 ({ frames := 3, cells := 0, slots := 0, locals := 64 }) [.ref (a 0), .int x1, .int x2, .int x3] k Qp := by
  refine Di_of (by decide) (Nat.le_of_ble_eq_true rfl) ?_
  intro p e s m args below meth c A Z ls C ret hd hl
  have hx := C.1
  have hb := C.2.1
  have hl : lv_has ls 4 [(0, .ref (a 0)), (1, .int x1), (2, .int x2), (3, .int x3)] := hl
  replace h : (wC_X8_planAt x1 k (fun r_1 k_1 => ((r_1 = none → Qp (-2 : Int32) k_1) ∧ (∀ x_2 : Nat, r_1 = some x_2 → ∃ d_2 : Dn, d_2.1 = x_2 ∧ (wC_isSomeSet x2 k_1 (fun r_3 k_3 => ((r_3 = 0 → Qp (-2 : Int32) k_3) ∧ (¬ r_3 = 0 → (wC_within x3 (0 : Int32) (99 : Int32) k_3 (fun r_5 k_5 => ((¬ r_5 = 0 → (((k_5.1 8 3) < (20 : Int32) → (wC_X7_add x1 x2 x3 k_5 (fun k_8 => Qp ((k_8.1 8 3) - (1 : Int32)) k_8))) ∧ (¬ (k_5.1 8 3) < (20 : Int32) → Qp (-4 : Int32) k_5))) ∧ (r_5 = 0 → Qp (-2 : Int32) k_5)))))))))))) := h
  refine lv_aload_n hx hb dX9_watched_0 rfl (lv_at hl 0 rfl) ?_
  refine gC9_9_0 C hd dX9_watched_1 ?_
  refine lv_iload_n hx hb dX9_watched_4 rfl (lv_at hl 1 rfl) ?_
  refine ev_q C hd kwRX9_X8_planAt_159 (cC_X8_planAt _ h) ⟨rfl, rfl⟩ ⟨by decide, by decide⟩ rcC8 hl.1 rfl rfl (Nat.le_of_ble_eq_true rfl) ⟨Nat.zero_le _, Nat.zero_le _⟩ dX9_watched_5 (fun r_1 k_1 H locs h hd => ?_)
  refine rf_split (fun e_2 => ?_) (fun x_2 e_2 => ?_)
  · replace h := h.1 e_2
    refine lv_ifnullN (tgt := 29) hx hb dX9_watched_8 (by decide) ?_
    refine lv_bipush (v := -2) hx hb dX9_watched_29 (by decide) ?_
    exact ret hd h dX9_watched_31
  · obtain ⟨d_2, hx_2, h⟩ := h.2 x_2 e_2
    subst hx_2
    refine lv_ifnull hx hb dX9_watched_8 ?_
    refine lv_aload_n hx hb dX9_watched_11 rfl (lv_at hl 0 rfl) ?_
    refine lv_iload_n hx hb dX9_watched_12 rfl (lv_at hl 2 rfl) ?_
    refine ev_z C hd kwRX9_X9_isSomeSet_225 (cC_isSomeSet _ h) ⟨rfl, rfl⟩ ⟨by decide, by decide⟩ rcC9 hl.1 rfl rfl (Nat.le_of_ble_eq_true rfl) ⟨Nat.zero_le _, Nat.zero_le _⟩ dX9_watched_13 (fun r_3 k_3 H locs hz_3 h hd => ?_)
    refine lv_if_eq (tgt := 29) hx hb dX9_watched_16 (by decide) (fun c_4 => ?_) (fun c_4 => ?_)
    · replace h := h.1 c_4
      refine lv_bipush (v := -2) hx hb dX9_watched_29 (by decide) ?_
      exact ret hd h dX9_watched_31
    · replace h := h.2 c_4
      refine lv_iload_n hx hb dX9_watched_19 rfl (lv_at hl 3 rfl) ?_
      refine lv_iconst (v := 0) hx hb dX9_watched_20 (by decide) ?_
      refine lv_bipush (v := 99) hx hb dX9_watched_21 (by decide) ?_
      refine es_z C hd kwRX9_X9_within_70 (cC_within _ _ _ h) ⟨rfl, rfl⟩ ⟨by decide, by decide⟩ hl.1 rfl rfl (Nat.le_of_ble_eq_true rfl) ⟨Nat.zero_le _, Nat.zero_le _⟩ dX9_watched_23 (fun r_5 k_5 H locs hz_5 h hd => ?_)
      refine lv_if_ne (tgt := 32) hx hb dX9_watched_26 (by decide) (fun c_6 => ?_) (fun c_6 => ?_)
      · replace h := h.1 c_6
        refine lv_aload_n hx hb dX9_watched_32 rfl (lv_at hl 0 rfl) ?_
        refine gC9_9_7 C hd dX9_watched_33 ?_
        refine gC9_7_3 C hd (v := k_5.1 8 3) rfl dX9_watched_36 ?_
        refine lv_bipush (v := 20) hx hb dX9_watched_39 (by decide) ?_
        refine lv_icmp_lt (tgt := 47) hx hb dX9_watched_41 (by decide) (fun c_7 => ?_) (fun c_7 => ?_)
        · replace h := h.1 c_7
          refine lv_aload_n hx hb dX9_watched_47 rfl (lv_at hl 0 rfl) ?_
          refine gC9_9_7 C hd dX9_watched_48 ?_
          refine lv_iload_n hx hb dX9_watched_51 rfl (lv_at hl 1 rfl) ?_
          refine lv_iload_n hx hb dX9_watched_52 rfl (lv_at hl 2 rfl) ?_
          refine lv_iload_n hx hb dX9_watched_53 rfl (lv_at hl 3 rfl) ?_
          refine ev_v C hd kwRX9_X7_add_229 (cC_X7_add _ _ _ h) ⟨rfl, rfl⟩ ⟨by decide, by decide⟩ rcC7 hl.1 rfl rfl (Nat.le_of_ble_eq_true rfl) ⟨Nat.zero_le _, Nat.zero_le _⟩ dX9_watched_54 (fun k_8 H locs h hd => ?_)
          refine lv_aload_n hx hb dX9_watched_57 rfl (lv_at hl 0 rfl) ?_
          refine gC9_9_7 C hd dX9_watched_58 ?_
          refine gC9_7_3 C hd (v := k_8.1 8 3) rfl dX9_watched_61 ?_
          refine lv_iconst (v := 1) hx hb dX9_watched_64 (by decide) ?_
          refine lv_isub hx hb dX9_watched_65 ?_
          exact ret hd h dX9_watched_66
        · replace h := h.2 c_7
          refine lv_bipush (v := -4) hx hb dX9_watched_44 (by decide) ?_
          exact ret hd h dX9_watched_46
      · replace h := h.2 c_6
        refine lv_bipush (v := -2) hx hb dX9_watched_29 (by decide) ?_
        exact ret hd h dX9_watched_31
def wC_worth (x1 : Int32) (x2 : Int32) (k : KC) (Q : Int32 → KC → Prop) : Prop := (wC_within x1 (1 : Int32) (3 : Int32) k (fun r_1 k_1 => ((r_1 = 0 → Q (-9999 : Int32) k_1) ∧ (¬ r_1 = 0 → (wC_within x2 (-2000 : Int32) (2000 : Int32) k_1 (fun r_3 k_3 => ((¬ r_3 = 0 → (vp_in x1 4 ∧ (vp_in x1 4 ∧ Q (k_3.2.1 1 4 x1.toNatClampNeg) (cA k_3 1 4 (upd (k_3.2.1 1 4) x1.toNatClampNeg x2))))) ∧ (r_3 = 0 → Q (-9999 : Int32) k_3))))))))
set_option maxHeartbeats 4000000 in
set_option maxRecDepth 100000 in
theorem cC_worth {l : Launch} {P : EP} {D : va_G} {a : Nat → Nat} {b : Nat → Nat → Nat} {g : Nat → ClassId} {k : KC} {Qp : Int32 → KC → Prop} (x1 : Int32) (x2 : Int32) (h : wC_worth x1 x2 k Qp) : Di l P D (tyA g) (wC a b g) yX9_worth cX9_worth 4 ({ frames := 1, cells := 0, slots := 0, locals := 22 }) [.ref (a 0), .int x1, .int x2] k Qp := by
  refine Di_of (by decide) (Nat.le_of_ble_eq_true rfl) ?_
  intro p e s m args below meth c A Z ls C ret hd hl
  have hx := C.1
  have hb := C.2.1
  have hl : lv_has ls 4 [(0, .ref (a 0)), (1, .int x1), (2, .int x2)] := hl
  replace h : (wC_within x1 (1 : Int32) (3 : Int32) k (fun r_1 k_1 => ((r_1 = 0 → Qp (-9999 : Int32) k_1) ∧ (¬ r_1 = 0 → (wC_within x2 (-2000 : Int32) (2000 : Int32) k_1 (fun r_3 k_3 => ((¬ r_3 = 0 → (vp_in x1 4 ∧ (vp_in x1 4 ∧ Qp (k_3.2.1 1 4 x1.toNatClampNeg) (cA k_3 1 4 (upd (k_3.2.1 1 4) x1.toNatClampNeg x2))))) ∧ (r_3 = 0 → Qp (-9999 : Int32) k_3)))))))) := h
  refine lv_iload_n hx hb dX9_worth_0 rfl (lv_at hl 1 rfl) ?_
  refine lv_iconst (v := 1) hx hb dX9_worth_1 (by decide) ?_
  refine lv_iconst (v := 3) hx hb dX9_worth_2 (by decide) ?_
  refine es_z C hd kwRX9_X9_within_70 (cC_within _ _ _ h) ⟨rfl, rfl⟩ ⟨by decide, by decide⟩ hl.1 rfl rfl (Nat.le_of_ble_eq_true rfl) ⟨Nat.zero_le _, Nat.zero_le _⟩ dX9_worth_3 (fun r_1 k_1 H locs hz_1 h hd => ?_)
  refine lv_if_eq (tgt := 22) hx hb dX9_worth_6 (by decide) (fun c_2 => ?_) (fun c_2 => ?_)
  · replace h := h.1 c_2
    refine lv_sipush (v := -9999) hx hb dX9_worth_22 (by decide) ?_
    exact ret hd h dX9_worth_25
  · replace h := h.2 c_2
    refine lv_iload_n hx hb dX9_worth_9 rfl (lv_at hl 2 rfl) ?_
    refine lv_sipush (v := -2000) hx hb dX9_worth_10 (by decide) ?_
    refine lv_sipush (v := 2000) hx hb dX9_worth_13 (by decide) ?_
    refine es_z C hd kwRX9_X9_within_70 (cC_within _ _ _ h) ⟨rfl, rfl⟩ ⟨by decide, by decide⟩ hl.1 rfl rfl (Nat.le_of_ble_eq_true rfl) ⟨Nat.zero_le _, Nat.zero_le _⟩ dX9_worth_16 (fun r_3 k_3 H locs hz_3 h hd => ?_)
    refine lv_if_ne (tgt := 26) hx hb dX9_worth_19 (by decide) (fun c_4 => ?_) (fun c_4 => ?_)
    · replace h := h.1 c_4
      refine lv_aload_n hx hb dX9_worth_26 rfl (lv_at hl 0 rfl) ?_
      refine gC9_9_0 C hd dX9_worth_27 ?_
      refine gC9_8_4 C hd dX9_worth_30 ?_
      refine lv_iload_n hx hb dX9_worth_33 rfl (lv_at hl 1 rfl) ?_
      refine ldC8_4 C hd (v := k_3.2.1 1 4 x1.toNatClampNeg) h.1 rfl dX9_worth_34 ?_
      replace h := h.2
      refine lv_istore_n (lv' := [(3, .int (k_3.2.1 1 4 x1.toNatClampNeg)), (0, .ref (a 0)), (1, .int x1), (2, .int x2)]) hx hb dX9_worth_35 rfl hl (by decide) rfl (fun ls hl => ?_)
      refine lv_aload_n hx hb dX9_worth_36 rfl (lv_at hl 1 rfl) ?_
      refine gC9_9_0 C hd dX9_worth_37 ?_
      refine gC9_8_4 C hd dX9_worth_40 ?_
      refine lv_iload_n hx hb dX9_worth_43 rfl (lv_at hl 2 rfl) ?_
      refine lv_iload_n hx hb dX9_worth_44 rfl (lv_at hl 3 rfl) ?_
      refine stC8_4 C hd h.1 dX9_worth_45 (fun H locs hd => ?_)
      replace h := h.2
      refine lv_iload_n hx hb dX9_worth_46 rfl (lv_at hl 0 rfl) ?_
      exact ret hd h dX9_worth_47
    · replace h := h.2 c_4
      refine lv_sipush (v := -9999) hx hb dX9_worth_22 (by decide) ?_
      exact ret hd h dX9_worth_25
