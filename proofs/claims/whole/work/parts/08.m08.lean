def wM_thrownOut (x1 : Int32) (k : GM) (Q : Int32 → GM → Prop) : Prop := (wM_in x1.toInt64 (0 : Int64) (99 : Int64) k (fun r_1 k_1 => ((¬ r_1 = 0 → (∃ n_3 : Nat, wM_letsAll n_3 0 x1 0 k_1 (fun k_3 => (((k_3.1 47) ≤ 0 → Q (k_3.1 50) k_3) ∧ (¬ (k_3.1 47) ≤ 0 → Q (-1 : Int32) k_3))))) ∧ (r_1 = 0 → Q (-2 : Int32) k_1))))
set_option maxHeartbeats 4000000 in
set_option maxRecDepth 100000 in
theorem cM_thrownOut {l : Launch} {D : va_G} {o : Nat} {a : Nat → Nat} {g : Nat → ClassId} {k : GM} {Qp : Int32 → GM → Prop} (x1 : Int32) (h : wM_thrownOut x1 k Qp) : Ci l D (tyA g) (wM o a g) yX10_thrownOut cX10_thrownOut 2 ({ frames := 64, cells := 0, slots := 0, locals := 2348 }) [.ref o, .int x1] k Qp := by
  refine Ci_of (by decide) (Nat.le_of_ble_eq_true rfl) ?_
  intro p e s m args below meth c A Z ls C ret hd hl
  have hx := C.1
  have hb := C.2.1
  have hl : lv_has ls 2 [(0, .ref o), (1, .int x1)] := hl
  replace h : (wM_in x1.toInt64 (0 : Int64) (99 : Int64) k (fun r_1 k_1 => ((¬ r_1 = 0 → (∃ n_3 : Nat, wM_letsAll n_3 0 x1 0 k_1 (fun k_3 => (((k_3.1 47) ≤ 0 → Qp (k_3.1 50) k_3) ∧ (¬ (k_3.1 47) ≤ 0 → Qp (-1 : Int32) k_3))))) ∧ (r_1 = 0 → Qp (-2 : Int32) k_1)))) := h
  refine lv_iload_n hx hb dX10_thrownOut_0 rfl (lv_at hl 1 rfl) ?_
  refine lv_i2l (v := x1.toInt64) hx hb dX10_thrownOut_1 rfl ?_
  refine lv_lconst (v := 0) hx hb dX10_thrownOut_2 (by decide) ?_
  refine lv_ldc2 (v := (99 : Int64)) hx hb C.2.2.2.1 (C.2.2.2.2.1 _ q_1326) dX10_thrownOut_3 ?_
  refine xs_z C hd kwRX10_X10_in (cM_in _ _ _ h) ⟨rfl, rfl⟩ ⟨by decide, by decide⟩ hl.1 rfl rfl (Nat.le_of_ble_eq_true rfl) ⟨Nat.zero_le _, Nat.zero_le _⟩ dX10_thrownOut_6 (fun r_1 k_1 H locs hz_1 h hd => ?_)
  refine lv_if_ne (tgt := 15) hx hb dX10_thrownOut_9 (by decide) (fun c_2 => ?_) (fun c_2 => ?_)
  · replace h := h.1 c_2
    refine lv_aload_n hx hb dX10_thrownOut_15 rfl (lv_at hl 0 rfl) ?_
    refine lv_iload_n hx hb dX10_thrownOut_16 rfl (lv_at hl 1 rfl) ?_
    obtain ⟨n_3, h⟩ := h
    refine xv_v C hd kwRX10_X10_letsAll (cM_letsAll n_3 _ h) ⟨rfl, rfl⟩ ⟨by decide, by decide⟩ wM_rcv hl.1 rfl rfl (Nat.le_of_ble_eq_true rfl) ⟨Nat.zero_le _, Nat.zero_le _⟩ dX10_thrownOut_17 (fun k_3 H locs h hd => ?_)
    refine lv_aload_n hx hb dX10_thrownOut_20 rfl (lv_at hl 0 rfl) ?_
    refine gM_47 C hd (v := k_3.1 47) rfl dX10_thrownOut_21 ?_
    refine lv_if_le (tgt := 31) hx hb dX10_thrownOut_24 (by decide) (fun c_4 => ?_) (fun c_4 => ?_)
    · replace h := h.1 c_4
      refine lv_aload_n hx hb dX10_thrownOut_31 rfl (lv_at hl 0 rfl) ?_
      refine gM_50 C hd (v := k_3.1 50) rfl dX10_thrownOut_32 ?_
      exact ret hd h dX10_thrownOut_35
    · replace h := h.2 c_4
      refine lv_iconst (v := -1) hx hb dX10_thrownOut_27 (by decide) ?_
      refine lv_goto (tgt := 35) hx hb dX10_thrownOut_28 (by decide) ?_
      exact ret hd h dX10_thrownOut_35
  · replace h := h.2 c_2
    refine lv_bipush (v := -2) hx hb dX10_thrownOut_12 (by decide) ?_
    exact ret hd h dX10_thrownOut_14
def wM_told (x1 : Int32) (x2 : Int32) (k : GM) (Q : Int64 → GM → Prop) : Prop := (wM_isOne x1 k (fun r_1 k_1 => ((¬ r_1 = 0 → ((x2 = (0 : Int32) → (vp_in x1 8 ∧ Q ((k_1.2.1 7 x1.toNatClampNeg).toInt64) k_1)) ∧ (x2 = (1 : Int32) → (vp_in x1 8 ∧ Q ((k_1.2.1 8 x1.toNatClampNeg).toInt64) k_1)) ∧ (x2 = (2 : Int32) → (vp_in x1 8 ∧ Q ((k_1.2.1 9 x1.toNatClampNeg).toInt64) k_1)) ∧ (x2 = (3 : Int32) → (wM_loudOf x1 k_1 (fun r_4 k_4 => Q r_4.toInt64 k_4))) ∧ (x2 = (4 : Int32) → (wM_fadesOf x1 k_1 (fun r_5 k_5 => Q r_5.toInt64 k_5))) ∧ (¬ x2 = (0 : Int32) → ¬ x2 = (1 : Int32) → ¬ x2 = (2 : Int32) → ¬ x2 = (3 : Int32) → ¬ x2 = (4 : Int32) → Q (-4611686018427387904 : Int64) k_1))) ∧ (r_1 = 0 → Q (-4611686018427387904 : Int64) k_1))))
set_option maxHeartbeats 4000000 in
set_option maxRecDepth 100000 in
theorem cM_told {l : Launch} {D : va_G} {o : Nat} {a : Nat → Nat} {g : Nat → ClassId} {k : GM} {Qp : Int64 → GM → Prop} (x1 : Int32) (x2 : Int32) (h : wM_told x1 x2 k Qp) : Cl l D (tyA g) (wM o a g) yX10_told cX10_told 3 ({ frames := 60, cells := 0, slots := 0, locals := 2256 }) [.ref o, .int x1, .int x2] k Qp := by
  refine Cl_of (by decide) (Nat.le_of_ble_eq_true rfl) ?_
  intro p e s m args below meth c A Z ls C ret hd hl
  have hx := C.1
  have hb := C.2.1
  have hl : lv_has ls 3 [(0, .ref o), (1, .int x1), (2, .int x2)] := hl
  replace h : (wM_isOne x1 k (fun r_1 k_1 => ((¬ r_1 = 0 → ((x2 = (0 : Int32) → (vp_in x1 8 ∧ Qp ((k_1.2.1 7 x1.toNatClampNeg).toInt64) k_1)) ∧ (x2 = (1 : Int32) → (vp_in x1 8 ∧ Qp ((k_1.2.1 8 x1.toNatClampNeg).toInt64) k_1)) ∧ (x2 = (2 : Int32) → (vp_in x1 8 ∧ Qp ((k_1.2.1 9 x1.toNatClampNeg).toInt64) k_1)) ∧ (x2 = (3 : Int32) → (wM_loudOf x1 k_1 (fun r_4 k_4 => Qp r_4.toInt64 k_4))) ∧ (x2 = (4 : Int32) → (wM_fadesOf x1 k_1 (fun r_5 k_5 => Qp r_5.toInt64 k_5))) ∧ (¬ x2 = (0 : Int32) → ¬ x2 = (1 : Int32) → ¬ x2 = (2 : Int32) → ¬ x2 = (3 : Int32) → ¬ x2 = (4 : Int32) → Qp (-4611686018427387904 : Int64) k_1))) ∧ (r_1 = 0 → Qp (-4611686018427387904 : Int64) k_1)))) := h
  refine lv_aload_n hx hb dX10_told_0 rfl (lv_at hl 0 rfl) ?_
  refine lv_iload_n hx hb dX10_told_1 rfl (lv_at hl 1 rfl) ?_
  refine xv_z C hd kwRX10_X10_isOne (cM_isOne _ h) ⟨rfl, rfl⟩ ⟨by decide, by decide⟩ wM_rcv hl.1 rfl rfl (Nat.le_of_ble_eq_true rfl) ⟨Nat.zero_le _, Nat.zero_le _⟩ dX10_told_2 (fun r_1 k_1 H locs hz_1 h hd => ?_)
  refine lv_if_ne (tgt := 12) hx hb dX10_told_5 (by decide) (fun c_2 => ?_) (fun c_2 => ?_)
  · replace h := h.1 c_2
    refine lv_iload_n hx hb dX10_told_12 rfl (lv_at hl 2 rfl) ?_
    by_cases e_3_0 : x2 = (0 : Int32)
    · replace h := h.1 e_3_0
      refine lv_tableIn (off := 35) (tgt := 48) hx hb dX10_told_13 (by rw [e_3_0]; decide) (by rw [e_3_0]; decide) (by rw [e_3_0]; rfl) (by decide) ?_
      refine lv_aload_n hx hb dX10_told_48 rfl (lv_at hl 0 rfl) ?_
      refine gM_7 C hd dX10_told_49 ?_
      refine lv_iload_n hx hb dX10_told_52 rfl (lv_at hl 1 rfl) ?_
      refine ldM_7 C hd (v := k_1.2.1 7 x1.toNatClampNeg) h.1 rfl dX10_told_53 ?_
      replace h := h.2
      refine lv_i2l (v := (k_1.2.1 7 x1.toNatClampNeg).toInt64) hx hb dX10_told_54 rfl ?_
      exact ret hd h dX10_told_55
    · by_cases e_3_1 : x2 = (1 : Int32)
      · replace h := h.2.1 e_3_1
        refine lv_tableIn (off := 43) (tgt := 56) hx hb dX10_told_13 (by rw [e_3_1]; decide) (by rw [e_3_1]; decide) (by rw [e_3_1]; rfl) (by decide) ?_
        refine lv_aload_n hx hb dX10_told_56 rfl (lv_at hl 0 rfl) ?_
        refine gM_8 C hd dX10_told_57 ?_
        refine lv_iload_n hx hb dX10_told_60 rfl (lv_at hl 1 rfl) ?_
        refine ldM_8 C hd (v := k_1.2.1 8 x1.toNatClampNeg) h.1 rfl dX10_told_61 ?_
        replace h := h.2
        refine lv_i2l (v := (k_1.2.1 8 x1.toNatClampNeg).toInt64) hx hb dX10_told_62 rfl ?_
        exact ret hd h dX10_told_63
      · by_cases e_3_2 : x2 = (2 : Int32)
        · replace h := h.2.2.1 e_3_2
          refine lv_tableIn (off := 51) (tgt := 64) hx hb dX10_told_13 (by rw [e_3_2]; decide) (by rw [e_3_2]; decide) (by rw [e_3_2]; rfl) (by decide) ?_
          refine lv_aload_n hx hb dX10_told_64 rfl (lv_at hl 0 rfl) ?_
          refine gM_9 C hd dX10_told_65 ?_
          refine lv_iload_n hx hb dX10_told_68 rfl (lv_at hl 1 rfl) ?_
          refine ldM_9 C hd (v := k_1.2.1 9 x1.toNatClampNeg) h.1 rfl dX10_told_69 ?_
          replace h := h.2
          refine lv_i2l (v := (k_1.2.1 9 x1.toNatClampNeg).toInt64) hx hb dX10_told_70 rfl ?_
          exact ret hd h dX10_told_71
        · by_cases e_3_3 : x2 = (3 : Int32)
          · replace h := h.2.2.2.1 e_3_3
            refine lv_tableIn (off := 59) (tgt := 72) hx hb dX10_told_13 (by rw [e_3_3]; decide) (by rw [e_3_3]; decide) (by rw [e_3_3]; rfl) (by decide) ?_
            refine lv_aload_n hx hb dX10_told_72 rfl (lv_at hl 0 rfl) ?_
            refine lv_iload_n hx hb dX10_told_73 rfl (lv_at hl 1 rfl) ?_
            refine xv_i C hd kwRX10_X10_loudOf (cM_loudOf _ h) ⟨rfl, rfl⟩ ⟨by decide, by decide⟩ wM_rcv hl.1 rfl rfl (Nat.le_of_ble_eq_true rfl) ⟨Nat.zero_le _, Nat.zero_le _⟩ dX10_told_74 (fun r_4 k_4 H locs h hd => ?_)
            refine lv_i2l (v := r_4.toInt64) hx hb dX10_told_77 rfl ?_
            exact ret hd h dX10_told_78
          · by_cases e_3_4 : x2 = (4 : Int32)
            · replace h := h.2.2.2.2.1 e_3_4
              refine lv_tableIn (off := 66) (tgt := 79) hx hb dX10_told_13 (by rw [e_3_4]; decide) (by rw [e_3_4]; decide) (by rw [e_3_4]; rfl) (by decide) ?_
              refine lv_aload_n hx hb dX10_told_79 rfl (lv_at hl 0 rfl) ?_
              refine lv_iload_n hx hb dX10_told_80 rfl (lv_at hl 1 rfl) ?_
              refine xv_i C hd kwRX10_X10_fadesOf (cM_fadesOf _ h) ⟨rfl, rfl⟩ ⟨by decide, by decide⟩ wM_rcv hl.1 rfl rfl (Nat.le_of_ble_eq_true rfl) ⟨Nat.zero_le _, Nat.zero_le _⟩ dX10_told_81 (fun r_5 k_5 H locs h hd => ?_)
              refine lv_i2l (v := r_5.toInt64) hx hb dX10_told_84 rfl ?_
              exact ret hd h dX10_told_85
            · replace h := h.2.2.2.2.2 e_3_0 e_3_1 e_3_2 e_3_3 e_3_4
              refine lv_tableOut (tgt := 86) hx hb dX10_told_13 (by have n_0 := lv_neT (a := 0) e_3_0 (by decide); have n_1 := lv_neT (a := 1) e_3_1 (by decide); have n_2 := lv_neT (a := 2) e_3_2 (by decide); have n_3 := lv_neT (a := 3) e_3_3 (by decide); have n_4 := lv_neT (a := 4) e_3_4 (by decide); omega) (by decide) ?_
              refine lv_ldc2 (v := (-4611686018427387904 : Int64)) hx hb C.2.2.2.1 (C.2.2.2.2.1 _ q_1108) dX10_told_86 ?_
              exact ret hd h dX10_told_89
  · replace h := h.2 c_2
    refine lv_ldc2 (v := (-4611686018427387904 : Int64)) hx hb C.2.2.2.1 (C.2.2.2.2.1 _ q_1108) dX10_told_8 ?_
    exact ret hd h dX10_told_11
def wM_trial (x1 : Int32) (x2 : Int32) (k : GM) (Q : Int64 → GM → Prop) : Prop := (wM_isSet x1 k (fun r_1 k_1 => ((r_1 = 0 → Q (-4611686018427387904 : Int64) k_1) ∧ (¬ r_1 = 0 → (wM_in x2.toInt64 (0 : Int64) (3 : Int64) k_1 (fun r_3 k_3 => ((¬ r_3 = 0 → (∃ n_5 : Nat, wM_counts n_5 0 x1 x2 0 k_3 (fun k_5 => (∃ n_6 : Nat, wM_tries n_6 0 x1 x2 0 0 0 k_5 (fun r_6 k_6 => Q r_6.toInt64 k_6))))) ∧ (r_3 = 0 → Q (-4611686018427387904 : Int64) k_3))))))))
set_option maxHeartbeats 4000000 in
set_option maxRecDepth 100000 in
theorem cM_trial {l : Launch} {D : va_G} {o : Nat} {a : Nat → Nat} {g : Nat → ClassId} {k : GM} {Qp : Int64 → GM → Prop} (x1 : Int32) (x2 : Int32) (h : wM_trial x1 x2 k Qp) : Cl l D (tyA g) (wM o a g) yX10_trial cX10_trial 3 ({ frames := 60, cells := 0, slots := 0, locals := 2261 }) [.ref o, .int x1, .int x2] k Qp := by
  refine Cl_of (by decide) (Nat.le_of_ble_eq_true rfl) ?_
  intro p e s m args below meth c A Z ls C ret hd hl
  have hx := C.1
  have hb := C.2.1
  have hl : lv_has ls 3 [(0, .ref o), (1, .int x1), (2, .int x2)] := hl
  replace h : (wM_isSet x1 k (fun r_1 k_1 => ((r_1 = 0 → Qp (-4611686018427387904 : Int64) k_1) ∧ (¬ r_1 = 0 → (wM_in x2.toInt64 (0 : Int64) (3 : Int64) k_1 (fun r_3 k_3 => ((¬ r_3 = 0 → (∃ n_5 : Nat, wM_counts n_5 0 x1 x2 0 k_3 (fun k_5 => (∃ n_6 : Nat, wM_tries n_6 0 x1 x2 0 0 0 k_5 (fun r_6 k_6 => Qp r_6.toInt64 k_6))))) ∧ (r_3 = 0 → Qp (-4611686018427387904 : Int64) k_3)))))))) := h
  refine lv_aload_n hx hb dX10_trial_0 rfl (lv_at hl 0 rfl) ?_
  refine lv_iload_n hx hb dX10_trial_1 rfl (lv_at hl 1 rfl) ?_
  refine xv_z C hd kwRX10_X10_isSet (cM_isSet _ h) ⟨rfl, rfl⟩ ⟨by decide, by decide⟩ wM_rcv hl.1 rfl rfl (Nat.le_of_ble_eq_true rfl) ⟨Nat.zero_le _, Nat.zero_le _⟩ dX10_trial_2 (fun r_1 k_1 H locs hz_1 h hd => ?_)
  refine lv_if_eq (tgt := 20) hx hb dX10_trial_5 (by decide) (fun c_2 => ?_) (fun c_2 => ?_)
  · replace h := h.1 c_2
    refine lv_ldc2 (v := (-4611686018427387904 : Int64)) hx hb C.2.2.2.1 (C.2.2.2.2.1 _ q_1108) dX10_trial_20 ?_
    exact ret hd h dX10_trial_23
  · replace h := h.2 c_2
    refine lv_iload_n hx hb dX10_trial_8 rfl (lv_at hl 2 rfl) ?_
    refine lv_i2l (v := x2.toInt64) hx hb dX10_trial_9 rfl ?_
    refine lv_lconst (v := 0) hx hb dX10_trial_10 (by decide) ?_
    refine lv_ldc2 (v := (3 : Int64)) hx hb C.2.2.2.1 (C.2.2.2.2.1 _ q_1206) dX10_trial_11 ?_
    refine xs_z C hd kwRX10_X10_in (cM_in _ _ _ h) ⟨rfl, rfl⟩ ⟨by decide, by decide⟩ hl.1 rfl rfl (Nat.le_of_ble_eq_true rfl) ⟨Nat.zero_le _, Nat.zero_le _⟩ dX10_trial_14 (fun r_3 k_3 H locs hz_3 h hd => ?_)
    refine lv_if_ne (tgt := 24) hx hb dX10_trial_17 (by decide) (fun c_4 => ?_) (fun c_4 => ?_)
    · replace h := h.1 c_4
      refine lv_aload_n hx hb dX10_trial_24 rfl (lv_at hl 0 rfl) ?_
      refine lv_iload_n hx hb dX10_trial_25 rfl (lv_at hl 1 rfl) ?_
      refine lv_iload_n hx hb dX10_trial_26 rfl (lv_at hl 2 rfl) ?_
      obtain ⟨n_5, h⟩ := h
      refine xv_v C hd kwRX10_X10_counts (cM_counts n_5 _ _ h) ⟨rfl, rfl⟩ ⟨by decide, by decide⟩ wM_rcv hl.1 rfl rfl (Nat.le_of_ble_eq_true rfl) ⟨Nat.zero_le _, Nat.zero_le _⟩ dX10_trial_27 (fun k_5 H locs h hd => ?_)
      refine lv_aload_n hx hb dX10_trial_30 rfl (lv_at hl 0 rfl) ?_
      refine lv_iload_n hx hb dX10_trial_31 rfl (lv_at hl 1 rfl) ?_
      refine lv_iload_n hx hb dX10_trial_32 rfl (lv_at hl 2 rfl) ?_
      obtain ⟨n_6, h⟩ := h
      refine xv_i C hd kwRX10_X10_tries (cM_tries n_6 _ _ h) ⟨rfl, rfl⟩ ⟨by decide, by decide⟩ wM_rcv hl.1 rfl rfl (Nat.le_of_ble_eq_true rfl) ⟨Nat.zero_le _, Nat.zero_le _⟩ dX10_trial_33 (fun r_6 k_6 H locs h hd => ?_)
      refine lv_i2l (v := r_6.toInt64) hx hb dX10_trial_36 rfl ?_
      exact ret hd h dX10_trial_37
    · replace h := h.2 c_4
      refine lv_ldc2 (v := (-4611686018427387904 : Int64)) hx hb C.2.2.2.1 (C.2.2.2.2.1 _ q_1108) dX10_trial_20 ?_
      exact ret hd h dX10_trial_23
def wM_trials  : Nat → Nat → Int32 → Int32 → Int32 → Int32 → Int32 → Int32 → GM → (Int32 → GM → Prop) → Prop
  | 0, _, _, _, _, _, _, _, _, _ => False
  | n + 1, c, x1, x2, x3, x4, x5, x6, k, Q => match c with
    | 0 => (wM_isSheet x1 k (fun r_1 k_1 => ((r_1 = 0 → Q (-2 : Int32) k_1) ∧ (¬ r_1 = 0 → (wM_in x2.toInt64 (0 : Int64) (2 : Int64) k_1 (fun r_3 k_3 => ((r_3 = 0 → Q (-2 : Int32) k_3) ∧ (¬ r_3 = 0 → (wM_in x4.toInt64 (0 : Int64) (20 : Int64) k_3 (fun r_5 k_5 => ((¬ r_5 = 0 → (vp_in x1 4 ∧ (((k_5.2.1 61 x1.toNatClampNeg) = 0 → (vp_in x1 4 ∧ ((¬ (k_5.2.1 61 x1.toNatClampNeg) = 0 → wM_trials n 1 x1 0 x3 x4 (0 : Int32) (0 : Int32) k_5 Q) ∧ ((k_5.2.1 61 x1.toNatClampNeg) = 0 → Q (-11 : Int32) k_5)))) ∧ (¬ (k_5.2.1 61 x1.toNatClampNeg) = 0 → (vp_in x1 4 ∧ (((k_5.2.1 62 x1.toNatClampNeg) = x2 → (vp_in x1 4 ∧ ((¬ (k_5.2.1 61 x1.toNatClampNeg) = 0 → wM_trials n 1 x1 0 x3 x4 (0 : Int32) (0 : Int32) k_5 Q) ∧ ((k_5.2.1 61 x1.toNatClampNeg) = 0 → Q (-11 : Int32) k_5)))) ∧ (¬ (k_5.2.1 62 x1.toNatClampNeg) = x2 → Q (-13 : Int32) k_5))))))) ∧ (r_5 = 0 → Q (-2 : Int32) k_5))))))))))))
    | _ => ((x4 ≤ x6 → Q x5 k) ∧ (¬ x4 ≤ x6 → ((x3 < 0 → Q (-12 : Int32) k) ∧ (¬ x3 < 0 → (vp_in x1 4 ∧ ((x3 ≤ (((k.2.1 63 x1.toNatClampNeg) - ((2 : Int32) * x6)) - (2 : Int32)) → (vp_in ((((40 : Int32) * x1) + x3) + ((2 : Int32) * x6)) 160 ∧ (vp_in (((((40 : Int32) * x1) + x3) + ((2 : Int32) * x6)) + (1 : Int32)) 160 ∧ (wM_trial (k.2.1 64 ((((40 : Int32) * x1) + x3) + ((2 : Int32) * x6)).toNatClampNeg) (k.2.1 64 (((((40 : Int32) * x1) + x3) + ((2 : Int32) * x6)) + (1 : Int32)).toNatClampNeg) k (fun r_14 k_14 => (((lg_cmp r_14 (-4611686018427387904 : Int64)) = 0 → wM_trials n 1 x1 0 x3 x4 (x5 + (0 : Int32)) (x6 + (1 : Int32)) k_14 Q) ∧ (¬ (lg_cmp r_14 (-4611686018427387904 : Int64)) = 0 → wM_trials n 1 x1 0 x3 x4 (x5 + (1 : Int32)) (x6 + (1 : Int32)) k_14 Q))))))) ∧ (¬ x3 ≤ (((k.2.1 63 x1.toNatClampNeg) - ((2 : Int32) * x6)) - (2 : Int32)) → Q (-12 : Int32) k)))))))
set_option maxHeartbeats 4000000 in
set_option maxRecDepth 100000 in
theorem cM_trials {l : Launch} {D : va_G} {o : Nat} {a : Nat → Nat} {g : Nat → ClassId} {k : GM} {Qp : Int32 → GM → Prop} (n : Nat) (x1 : Int32) (x2 : Int32) (x3 : Int32) (x4 : Int32) (h : wM_trials n 0 x1 x2 x3 x4 0 0 k Qp) : Ci l D (tyA g) (wM o a g) yX10_trials cX10_trials 8 ({ frames := 61, cells := 0, slots := 0, locals := 2283 }) [.ref o, .int x1, .int x2, .int x3, .int x4] k Qp := by
  refine Ci_of (by decide) (Nat.le_of_ble_eq_true rfl) ?_
  intro p e s m args below meth c A Z ls C ret hd hl
  have hx := C.1
  have hb := C.2.1
  have hl : lv_has ls 8 [(0, .ref o), (1, .int x1), (2, .int x2), (3, .int x3), (4, .int x4)] := hl
  have L : ∀ n : Nat, (∀ (x1 : Int32) (x3 : Int32) (x4 : Int32) (x5 : Int32) (x6 : Int32) (k : GM) (H : Heap) (locs : List Loc) (ls : Array Slot), wM_trials n 1 x1 0 x3 x4 x5 x6 k Qp → Hd D (wM o a g k) A s H locs → lv_has ls 8 [(0, .ref o), (1, .int x1), (3, .int x3), (4, .int x4), (5, .int x5), (6, .int x6)] → W p l e ({ frames := 61, cells := 0, slots := 0, locals := 2283 }) s m args below meth c H locs 0 0 Z (F0 m 75 ls [])) := by
    intro n
    induction n with
    | zero => exact fun _ _ _ _ _ _ _ _ _ h => h.elim
    | succ n ih =>
      intro x1 x3 x4 x5 x6 k H locs ls h hd hl
      replace h : ((x4 ≤ x6 → Qp x5 k) ∧ (¬ x4 ≤ x6 → ((x3 < 0 → Qp (-12 : Int32) k) ∧ (¬ x3 < 0 → (vp_in x1 4 ∧ ((x3 ≤ (((k.2.1 63 x1.toNatClampNeg) - ((2 : Int32) * x6)) - (2 : Int32)) → (vp_in ((((40 : Int32) * x1) + x3) + ((2 : Int32) * x6)) 160 ∧ (vp_in (((((40 : Int32) * x1) + x3) + ((2 : Int32) * x6)) + (1 : Int32)) 160 ∧ (wM_trial (k.2.1 64 ((((40 : Int32) * x1) + x3) + ((2 : Int32) * x6)).toNatClampNeg) (k.2.1 64 (((((40 : Int32) * x1) + x3) + ((2 : Int32) * x6)) + (1 : Int32)).toNatClampNeg) k (fun r_14 k_14 => (((lg_cmp r_14 (-4611686018427387904 : Int64)) = 0 → wM_trials n 1 x1 0 x3 x4 (x5 + (0 : Int32)) (x6 + (1 : Int32)) k_14 Qp) ∧ (¬ (lg_cmp r_14 (-4611686018427387904 : Int64)) = 0 → wM_trials n 1 x1 0 x3 x4 (x5 + (1 : Int32)) (x6 + (1 : Int32)) k_14 Qp))))))) ∧ (¬ x3 ≤ (((k.2.1 63 x1.toNatClampNeg) - ((2 : Int32) * x6)) - (2 : Int32)) → Qp (-12 : Int32) k))))))) := h
      refine lv_iload hx hb dX10_trials_75 (lv_at hl 5 rfl) ?_
      refine lv_iload hx hb dX10_trials_77 (lv_at hl 3 rfl) ?_
      refine lv_icmp_ge (tgt := 162) hx hb dX10_trials_79 (by decide) (fun c_11 => ?_) (fun c_11 => ?_)
      · replace h := h.1 c_11
        refine lv_iload hx hb dX10_trials_162 (lv_at hl 4 rfl) ?_
        exact ret hd h dX10_trials_164
      · replace h := h.2 c_11
        refine lv_iload_n hx hb dX10_trials_82 rfl (lv_at hl 2 rfl) ?_
        refine lv_if_lt (tgt := 103) hx hb dX10_trials_83 (by decide) (fun c_12 => ?_) (fun c_12 => ?_)
        · replace h := h.1 c_12
          refine lv_bipush (v := -12) hx hb dX10_trials_103 (by decide) ?_
          exact ret hd h dX10_trials_105
        · replace h := h.2 c_12
          refine lv_iload_n hx hb dX10_trials_86 rfl (lv_at hl 2 rfl) ?_
          refine lv_aload_n hx hb dX10_trials_87 rfl (lv_at hl 0 rfl) ?_
          refine gM_63 C hd dX10_trials_88 ?_
          refine lv_iload_n hx hb dX10_trials_91 rfl (lv_at hl 1 rfl) ?_
          refine ldM_63 C hd (v := k.2.1 63 x1.toNatClampNeg) h.1 rfl dX10_trials_92 ?_
          replace h := h.2
          refine lv_iconst (v := 2) hx hb dX10_trials_93 (by decide) ?_
          refine lv_iload hx hb dX10_trials_94 (lv_at hl 5 rfl) ?_
          refine lv_imul hx hb dX10_trials_96 ?_
          refine lv_isub hx hb dX10_trials_97 ?_
          refine lv_iconst (v := 2) hx hb dX10_trials_98 (by decide) ?_
          refine lv_isub hx hb dX10_trials_99 ?_
          refine lv_icmp_le (tgt := 106) hx hb dX10_trials_100 (by decide) (fun c_13 => ?_) (fun c_13 => ?_)
          · replace h := h.1 c_13
            refine lv_bipush (v := 40) hx hb dX10_trials_106 (by decide) ?_
            refine lv_iload_n hx hb dX10_trials_108 rfl (lv_at hl 1 rfl) ?_
            refine lv_imul hx hb dX10_trials_109 ?_
            refine lv_iload_n hx hb dX10_trials_110 rfl (lv_at hl 2 rfl) ?_
            refine lv_iadd hx hb dX10_trials_111 ?_
            refine lv_iconst (v := 2) hx hb dX10_trials_112 (by decide) ?_
            refine lv_iload hx hb dX10_trials_113 (lv_at hl 5 rfl) ?_
            refine lv_imul hx hb dX10_trials_115 ?_
            refine lv_iadd hx hb dX10_trials_116 ?_
            refine lv_istore (lv' := [(7, .int ((((40 : Int32) * x1) + x3) + ((2 : Int32) * x6))), (0, .ref o), (1, .int x1), (3, .int x3), (4, .int x4), (5, .int x5), (6, .int x6)]) hx hb dX10_trials_117 hl (by decide) rfl (fun ls hl => ?_)
            refine lv_iload hx hb dX10_trials_119 (lv_at hl 5 rfl) ?_
            refine lv_aload_n hx hb dX10_trials_121 rfl (lv_at hl 1 rfl) ?_
            refine lv_aload_n hx hb dX10_trials_122 rfl (lv_at hl 1 rfl) ?_
            refine gM_64 C hd dX10_trials_123 ?_
            refine lv_iload hx hb dX10_trials_126 (lv_at hl 0 rfl) ?_
            refine ldM_64 C hd (v := k.2.1 64 ((((40 : Int32) * x1) + x3) + ((2 : Int32) * x6)).toNatClampNeg) h.1 rfl dX10_trials_128 ?_
            replace h := h.2
            refine lv_aload_n hx hb dX10_trials_129 rfl (lv_at hl 1 rfl) ?_
            refine gM_64 C hd dX10_trials_130 ?_
            refine lv_iload hx hb dX10_trials_133 (lv_at hl 0 rfl) ?_
            refine lv_iconst (v := 1) hx hb dX10_trials_135 (by decide) ?_
            refine lv_iadd hx hb dX10_trials_136 ?_
            refine ldM_64 C hd (v := k.2.1 64 (((((40 : Int32) * x1) + x3) + ((2 : Int32) * x6)) + (1 : Int32)).toNatClampNeg) h.1 rfl dX10_trials_137 ?_
            replace h := h.2
            refine xv_l C hd kwRX10_X10_trial (cM_trial _ _ h) ⟨rfl, rfl⟩ ⟨by decide, by decide⟩ wM_rcv hl.1 rfl rfl (Nat.le_of_ble_eq_true rfl) ⟨Nat.zero_le _, Nat.zero_le _⟩ dX10_trials_138 (fun r_14 k_14 H locs h hd => ?_)
            refine lv_ldc2 (v := (-4611686018427387904 : Int64)) hx hb C.2.2.2.1 (C.2.2.2.2.1 _ q_1108) dX10_trials_141 ?_
            refine W.lcmp hx hb dX10_trials_144 ?_
            refine lv_if_eq (tgt := 152) hx hb dX10_trials_145 (by decide) (fun c_15 => ?_) (fun c_15 => ?_)
            · replace h := h.1 c_15
              refine lv_iconst (v := 0) hx hb dX10_trials_152 (by decide) ?_
              refine lv_iadd hx hb dX10_trials_153 ?_
              refine lv_istore (lv' := [(5, .int (x5 + (0 : Int32))), (7, .int ((((40 : Int32) * x1) + x3) + ((2 : Int32) * x6))), (0, .ref o), (1, .int x1), (3, .int x3), (4, .int x4), (6, .int x6)]) hx hb dX10_trials_154 hl (by decide) rfl (fun ls hl => ?_)
              refine lv_iinc (v := (x6 + (1 : Int32))) (lv' := [(6, .int (x6 + (1 : Int32))), (5, .int (x5 + (0 : Int32))), (7, .int ((((40 : Int32) * x1) + x3) + ((2 : Int32) * x6))), (0, .ref o), (1, .int x1), (3, .int x3), (4, .int x4)]) hx hb dX10_trials_156 hl (k := 6) rfl rfl (by decide) rfl (fun ls hl => ?_)
              refine lv_goto (tgt := 75) hx hb dX10_trials_159 (by decide) ?_
              exact ih x1 x3 x4 (x5 + (0 : Int32)) (x6 + (1 : Int32)) _ _ _ _ h hd (lv_sub hl [3, 4, 5, 6, 1, 0] rfl)
            · replace h := h.2 c_15
              refine lv_iconst (v := 1) hx hb dX10_trials_148 (by decide) ?_
              refine lv_goto (tgt := 153) hx hb dX10_trials_149 (by decide) ?_
              refine lv_iadd hx hb dX10_trials_153 ?_
              refine lv_istore (lv' := [(5, .int (x5 + (1 : Int32))), (7, .int ((((40 : Int32) * x1) + x3) + ((2 : Int32) * x6))), (0, .ref o), (1, .int x1), (3, .int x3), (4, .int x4), (6, .int x6)]) hx hb dX10_trials_154 hl (by decide) rfl (fun ls hl => ?_)
              refine lv_iinc (v := (x6 + (1 : Int32))) (lv' := [(6, .int (x6 + (1 : Int32))), (5, .int (x5 + (1 : Int32))), (7, .int ((((40 : Int32) * x1) + x3) + ((2 : Int32) * x6))), (0, .ref o), (1, .int x1), (3, .int x3), (4, .int x4)]) hx hb dX10_trials_156 hl (k := 6) rfl rfl (by decide) rfl (fun ls hl => ?_)
              refine lv_goto (tgt := 75) hx hb dX10_trials_159 (by decide) ?_
              exact ih x1 x3 x4 (x5 + (1 : Int32)) (x6 + (1 : Int32)) _ _ _ _ h hd (lv_sub hl [3, 4, 5, 6, 1, 0] rfl)
          · replace h := h.2 c_13
            refine lv_bipush (v := -12) hx hb dX10_trials_103 (by decide) ?_
            exact ret hd h dX10_trials_105
  cases n with
  | zero => exact h.elim
  | succ n =>
    replace h : (wM_isSheet x1 k (fun r_1 k_1 => ((r_1 = 0 → Qp (-2 : Int32) k_1) ∧ (¬ r_1 = 0 → (wM_in x2.toInt64 (0 : Int64) (2 : Int64) k_1 (fun r_3 k_3 => ((r_3 = 0 → Qp (-2 : Int32) k_3) ∧ (¬ r_3 = 0 → (wM_in x4.toInt64 (0 : Int64) (20 : Int64) k_3 (fun r_5 k_5 => ((¬ r_5 = 0 → (vp_in x1 4 ∧ (((k_5.2.1 61 x1.toNatClampNeg) = 0 → (vp_in x1 4 ∧ ((¬ (k_5.2.1 61 x1.toNatClampNeg) = 0 → wM_trials n 1 x1 0 x3 x4 (0 : Int32) (0 : Int32) k_5 Qp) ∧ ((k_5.2.1 61 x1.toNatClampNeg) = 0 → Qp (-11 : Int32) k_5)))) ∧ (¬ (k_5.2.1 61 x1.toNatClampNeg) = 0 → (vp_in x1 4 ∧ (((k_5.2.1 62 x1.toNatClampNeg) = x2 → (vp_in x1 4 ∧ ((¬ (k_5.2.1 61 x1.toNatClampNeg) = 0 → wM_trials n 1 x1 0 x3 x4 (0 : Int32) (0 : Int32) k_5 Qp) ∧ ((k_5.2.1 61 x1.toNatClampNeg) = 0 → Qp (-11 : Int32) k_5)))) ∧ (¬ (k_5.2.1 62 x1.toNatClampNeg) = x2 → Qp (-13 : Int32) k_5))))))) ∧ (r_5 = 0 → Qp (-2 : Int32) k_5)))))))))))) := h
    refine lv_iload_n hx hb dX10_trials_0 rfl (lv_at hl 1 rfl) ?_
    refine xs_z C hd kwRX10_X10_isSheet (cM_isSheet _ h) ⟨rfl, rfl⟩ ⟨by decide, by decide⟩ hl.1 rfl rfl (Nat.le_of_ble_eq_true rfl) ⟨Nat.zero_le _, Nat.zero_le _⟩ dX10_trials_1 (fun r_1 k_1 H locs hz_1 h hd => ?_)
    refine lv_if_eq (tgt := 32) hx hb dX10_trials_4 (by decide) (fun c_2 => ?_) (fun c_2 => ?_)
    · replace h := h.1 c_2
      refine lv_bipush (v := -2) hx hb dX10_trials_32 (by decide) ?_
      exact ret hd h dX10_trials_34
    · replace h := h.2 c_2
      refine lv_iload_n hx hb dX10_trials_7 rfl (lv_at hl 2 rfl) ?_
      refine lv_i2l (v := x2.toInt64) hx hb dX10_trials_8 rfl ?_
      refine lv_lconst (v := 0) hx hb dX10_trials_9 (by decide) ?_
      refine lv_ldc2 (v := (2 : Int64)) hx hb C.2.2.2.1 (C.2.2.2.2.1 _ q_1331) dX10_trials_10 ?_
      refine xs_z C hd kwRX10_X10_in (cM_in _ _ _ h) ⟨rfl, rfl⟩ ⟨by decide, by decide⟩ hl.1 rfl rfl (Nat.le_of_ble_eq_true rfl) ⟨Nat.zero_le _, Nat.zero_le _⟩ dX10_trials_13 (fun r_3 k_3 H locs hz_3 h hd => ?_)
      refine lv_if_eq (tgt := 32) hx hb dX10_trials_16 (by decide) (fun c_4 => ?_) (fun c_4 => ?_)
      · replace h := h.1 c_4
        refine lv_bipush (v := -2) hx hb dX10_trials_32 (by decide) ?_
        exact ret hd h dX10_trials_34
      · replace h := h.2 c_4
        refine lv_iload hx hb dX10_trials_19 (lv_at hl 4 rfl) ?_
        refine lv_i2l (v := x4.toInt64) hx hb dX10_trials_21 rfl ?_
        refine lv_lconst (v := 0) hx hb dX10_trials_22 (by decide) ?_
        refine lv_ldc2 (v := (20 : Int64)) hx hb C.2.2.2.1 (C.2.2.2.2.1 _ q_1356) dX10_trials_23 ?_
        refine xs_z C hd kwRX10_X10_in (cM_in _ _ _ h) ⟨rfl, rfl⟩ ⟨by decide, by decide⟩ hl.1 rfl rfl (Nat.le_of_ble_eq_true rfl) ⟨Nat.zero_le _, Nat.zero_le _⟩ dX10_trials_26 (fun r_5 k_5 H locs hz_5 h hd => ?_)
        refine lv_if_ne (tgt := 35) hx hb dX10_trials_29 (by decide) (fun c_6 => ?_) (fun c_6 => ?_)
        · replace h := h.1 c_6
          refine lv_aload_n hx hb dX10_trials_35 rfl (lv_at hl 0 rfl) ?_
          refine gM_61 C hd dX10_trials_36 ?_
          refine lv_iload_n hx hb dX10_trials_39 rfl (lv_at hl 1 rfl) ?_
          refine ldM_61 C hd (v := k_5.2.1 61 x1.toNatClampNeg) h.1 rfl dX10_trials_40 ?_
          replace h := h.2
          refine lv_if_eq (tgt := 57) hx hb dX10_trials_41 (by decide) (fun c_7 => ?_) (fun c_7 => ?_)
          · replace h := h.1 c_7
            refine lv_aload_n hx hb dX10_trials_57 rfl (lv_at hl 0 rfl) ?_
            refine gM_61 C hd dX10_trials_58 ?_
            refine lv_iload_n hx hb dX10_trials_61 rfl (lv_at hl 1 rfl) ?_
            refine ldM_61 C hd (v := k_5.2.1 61 x1.toNatClampNeg) h.1 rfl dX10_trials_62 ?_
            replace h := h.2
            refine lv_if_ne (tgt := 69) hx hb dX10_trials_63 (by decide) (fun c_8 => ?_) (fun c_8 => ?_)
            · replace h := h.1 c_8
              refine lv_iconst (v := 0) hx hb dX10_trials_69 (by decide) ?_
              refine lv_istore (lv' := [(5, .int (0 : Int32)), (0, .ref o), (1, .int x1), (2, .int x2), (3, .int x3), (4, .int x4)]) hx hb dX10_trials_70 hl (by decide) rfl (fun ls hl => ?_)
              refine lv_iconst (v := 0) hx hb dX10_trials_72 (by decide) ?_
              refine lv_istore (lv' := [(6, .int (0 : Int32)), (5, .int (0 : Int32)), (0, .ref o), (1, .int x1), (2, .int x2), (3, .int x3), (4, .int x4)]) hx hb dX10_trials_73 hl (by decide) rfl (fun ls hl => ?_)
              exact L n x1 x3 x4 (0 : Int32) (0 : Int32) _ _ _ _ h hd (lv_sub hl [2, 3, 5, 6, 1, 0] rfl)
            · replace h := h.2 c_8
              refine lv_bipush (v := -11) hx hb dX10_trials_66 (by decide) ?_
              exact ret hd h dX10_trials_68
          · replace h := h.2 c_7
            refine lv_aload_n hx hb dX10_trials_44 rfl (lv_at hl 0 rfl) ?_
            refine gM_62 C hd dX10_trials_45 ?_
            refine lv_iload_n hx hb dX10_trials_48 rfl (lv_at hl 1 rfl) ?_
            refine ldM_62 C hd (v := k_5.2.1 62 x1.toNatClampNeg) h.1 rfl dX10_trials_49 ?_
            replace h := h.2
            refine lv_iload_n hx hb dX10_trials_50 rfl (lv_at hl 2 rfl) ?_
            refine lv_icmp_eq (tgt := 57) hx hb dX10_trials_51 (by decide) (fun c_9 => ?_) (fun c_9 => ?_)
            · replace h := h.1 c_9
              refine lv_aload_n hx hb dX10_trials_57 rfl (lv_at hl 0 rfl) ?_
              refine gM_61 C hd dX10_trials_58 ?_
              refine lv_iload_n hx hb dX10_trials_61 rfl (lv_at hl 1 rfl) ?_
              refine ldM_61 C hd (v := k_5.2.1 61 x1.toNatClampNeg) h.1 rfl dX10_trials_62 ?_
              replace h := h.2
              refine lv_if_ne (tgt := 69) hx hb dX10_trials_63 (by decide) (fun c_10 => ?_) (fun c_10 => ?_)
              · replace h := h.1 c_10
                refine lv_iconst (v := 0) hx hb dX10_trials_69 (by decide) ?_
                refine lv_istore (lv' := [(5, .int (0 : Int32)), (0, .ref o), (1, .int x1), (2, .int x2), (3, .int x3), (4, .int x4)]) hx hb dX10_trials_70 hl (by decide) rfl (fun ls hl => ?_)
                refine lv_iconst (v := 0) hx hb dX10_trials_72 (by decide) ?_
                refine lv_istore (lv' := [(6, .int (0 : Int32)), (5, .int (0 : Int32)), (0, .ref o), (1, .int x1), (2, .int x2), (3, .int x3), (4, .int x4)]) hx hb dX10_trials_73 hl (by decide) rfl (fun ls hl => ?_)
                exact L n x1 x3 x4 (0 : Int32) (0 : Int32) _ _ _ _ h hd (lv_sub hl [2, 3, 5, 6, 1, 0] rfl)
              · replace h := h.2 c_10
                refine lv_bipush (v := -11) hx hb dX10_trials_66 (by decide) ?_
                exact ret hd h dX10_trials_68
            · replace h := h.2 c_9
              refine lv_bipush (v := -13) hx hb dX10_trials_54 (by decide) ?_
              exact ret hd h dX10_trials_56
        · replace h := h.2 c_6
          refine lv_bipush (v := -2) hx hb dX10_trials_32 (by decide) ?_
          exact ret hd h dX10_trials_34
def wM_watched (x1 : Int32) (x2 : Int32) (x3 : Int32) (k : GM) (Q : Int32 → GM → Prop) : Prop := (wM_isPlan x1 k (fun r_1 k_1 => ((r_1 = 0 → Q (-2 : Int32) k_1) ∧ (¬ r_1 = 0 → ((x2 = 0 → Q (-2 : Int32) k_1) ∧ (¬ x2 = 0 → (wM_isSet x2 k_1 (fun r_4 k_4 => ((r_4 = 0 → Q (-2 : Int32) k_4) ∧ (¬ r_4 = 0 → (wM_in x3.toInt64 (0 : Int64) (99 : Int64) k_4 (fun r_6 k_6 => ((¬ r_6 = 0 → ((¬ (k_6.1 46) = (20 : Int32) → (vp_in (k_6.1 46) 20 ∧ (vp_in (k_6.1 46) 20 ∧ (vp_in (k_6.1 46) 20 ∧ Q (((k_6.1 46) + (1 : Int32)) - (1 : Int32)) (sI (sA (sA (sA k_6 43 (upd (k_6.2.1 43) (k_6.1 46).toNatClampNeg x1)) 44 (upd (k_6.2.1 44) (k_6.1 46).toNatClampNeg x2)) 45 (upd (k_6.2.1 45) (k_6.1 46).toNatClampNeg x3)) 46 ((k_6.1 46) + (1 : Int32))))))) ∧ ((k_6.1 46) = (20 : Int32) → Q (-4 : Int32) k_6))) ∧ (r_6 = 0 → Q (-2 : Int32) k_6))))))))))))))
set_option maxHeartbeats 4000000 in
set_option maxRecDepth 100000 in
theorem cM_watched {l : Launch} {D : va_G} {o : Nat} {a : Nat → Nat} {g : Nat → ClassId} {k : GM} {Qp : Int32 → GM → Prop} (x1 : Int32) (x2 : Int32) (x3 : Int32) (h : wM_watched x1 x2 x3 k Qp) : Ci l D (tyA g) (wM o a g) yX10_watched cX10_watched 4 ({ frames := 2, cells := 0, slots := 0, locals := 46 }) [.ref o, .int x1, .int x2, .int x3] k Qp := by
  refine Ci_of (by decide) (Nat.le_of_ble_eq_true rfl) ?_
  intro p e s m args below meth c A Z ls C ret hd hl
  have hx := C.1
  have hb := C.2.1
  have hl : lv_has ls 4 [(0, .ref o), (1, .int x1), (2, .int x2), (3, .int x3)] := hl
  replace h : (wM_isPlan x1 k (fun r_1 k_1 => ((r_1 = 0 → Qp (-2 : Int32) k_1) ∧ (¬ r_1 = 0 → ((x2 = 0 → Qp (-2 : Int32) k_1) ∧ (¬ x2 = 0 → (wM_isSet x2 k_1 (fun r_4 k_4 => ((r_4 = 0 → Qp (-2 : Int32) k_4) ∧ (¬ r_4 = 0 → (wM_in x3.toInt64 (0 : Int64) (99 : Int64) k_4 (fun r_6 k_6 => ((¬ r_6 = 0 → ((¬ (k_6.1 46) = (20 : Int32) → (vp_in (k_6.1 46) 20 ∧ (vp_in (k_6.1 46) 20 ∧ (vp_in (k_6.1 46) 20 ∧ Qp (((k_6.1 46) + (1 : Int32)) - (1 : Int32)) (sI (sA (sA (sA k_6 43 (upd (k_6.2.1 43) (k_6.1 46).toNatClampNeg x1)) 44 (upd (k_6.2.1 44) (k_6.1 46).toNatClampNeg x2)) 45 (upd (k_6.2.1 45) (k_6.1 46).toNatClampNeg x3)) 46 ((k_6.1 46) + (1 : Int32))))))) ∧ ((k_6.1 46) = (20 : Int32) → Qp (-4 : Int32) k_6))) ∧ (r_6 = 0 → Qp (-2 : Int32) k_6)))))))))))))) := h
  refine lv_aload_n hx hb dX10_watched_0 rfl (lv_at hl 0 rfl) ?_
  refine lv_iload_n hx hb dX10_watched_1 rfl (lv_at hl 1 rfl) ?_
  refine xv_z C hd kwRX10_X10_isPlan (cM_isPlan _ h) ⟨rfl, rfl⟩ ⟨by decide, by decide⟩ wM_rcv hl.1 rfl rfl (Nat.le_of_ble_eq_true rfl) ⟨Nat.zero_le _, Nat.zero_le _⟩ dX10_watched_2 (fun r_1 k_1 H locs hz_1 h hd => ?_)
  refine lv_if_eq (tgt := 32) hx hb dX10_watched_5 (by decide) (fun c_2 => ?_) (fun c_2 => ?_)
  · replace h := h.1 c_2
    refine lv_bipush (v := -2) hx hb dX10_watched_32 (by decide) ?_
    exact ret hd h dX10_watched_34
  · replace h := h.2 c_2
    refine lv_iload_n hx hb dX10_watched_8 rfl (lv_at hl 2 rfl) ?_
    refine lv_if_eq (tgt := 32) hx hb dX10_watched_9 (by decide) (fun c_3 => ?_) (fun c_3 => ?_)
    · replace h := h.1 c_3
      refine lv_bipush (v := -2) hx hb dX10_watched_32 (by decide) ?_
      exact ret hd h dX10_watched_34
    · replace h := h.2 c_3
      refine lv_aload_n hx hb dX10_watched_12 rfl (lv_at hl 0 rfl) ?_
      refine lv_iload_n hx hb dX10_watched_13 rfl (lv_at hl 2 rfl) ?_
      refine xv_z C hd kwRX10_X10_isSet (cM_isSet _ h) ⟨rfl, rfl⟩ ⟨by decide, by decide⟩ wM_rcv hl.1 rfl rfl (Nat.le_of_ble_eq_true rfl) ⟨Nat.zero_le _, Nat.zero_le _⟩ dX10_watched_14 (fun r_4 k_4 H locs hz_4 h hd => ?_)
      refine lv_if_eq (tgt := 32) hx hb dX10_watched_17 (by decide) (fun c_5 => ?_) (fun c_5 => ?_)
      · replace h := h.1 c_5
        refine lv_bipush (v := -2) hx hb dX10_watched_32 (by decide) ?_
        exact ret hd h dX10_watched_34
      · replace h := h.2 c_5
        refine lv_iload_n hx hb dX10_watched_20 rfl (lv_at hl 3 rfl) ?_
        refine lv_i2l (v := x3.toInt64) hx hb dX10_watched_21 rfl ?_
        refine lv_lconst (v := 0) hx hb dX10_watched_22 (by decide) ?_
        refine lv_ldc2 (v := (99 : Int64)) hx hb C.2.2.2.1 (C.2.2.2.2.1 _ q_1326) dX10_watched_23 ?_
        refine xs_z C hd kwRX10_X10_in (cM_in _ _ _ h) ⟨rfl, rfl⟩ ⟨by decide, by decide⟩ hl.1 rfl rfl (Nat.le_of_ble_eq_true rfl) ⟨Nat.zero_le _, Nat.zero_le _⟩ dX10_watched_26 (fun r_6 k_6 H locs hz_6 h hd => ?_)
        refine lv_if_ne (tgt := 35) hx hb dX10_watched_29 (by decide) (fun c_7 => ?_) (fun c_7 => ?_)
        · replace h := h.1 c_7
          refine lv_aload_n hx hb dX10_watched_35 rfl (lv_at hl 0 rfl) ?_
          refine gM_46 C hd (v := k_6.1 46) rfl dX10_watched_36 ?_
          refine lv_bipush (v := 20) hx hb dX10_watched_39 (by decide) ?_
          refine lv_icmp_ne (tgt := 47) hx hb dX10_watched_41 (by decide) (fun c_8 => ?_) (fun c_8 => ?_)
          · replace h := h.1 c_8
            refine lv_aload_n hx hb dX10_watched_47 rfl (lv_at hl 0 rfl) ?_
            refine gM_43 C hd dX10_watched_48 ?_
            refine lv_aload_n hx hb dX10_watched_51 rfl (lv_at hl 0 rfl) ?_
            refine gM_46 C hd (v := k_6.1 46) rfl dX10_watched_52 ?_
            refine lv_iload_n hx hb dX10_watched_55 rfl (lv_at hl 1 rfl) ?_
            refine stM_43 C hd h.1 dX10_watched_56 (fun H locs hd => ?_)
            replace h := h.2
            refine lv_aload_n hx hb dX10_watched_57 rfl (lv_at hl 0 rfl) ?_
            refine gM_44 C hd dX10_watched_58 ?_
            refine lv_aload_n hx hb dX10_watched_61 rfl (lv_at hl 0 rfl) ?_
            refine gM_46 C hd (v := k_6.1 46) rfl dX10_watched_62 ?_
            refine lv_iload_n hx hb dX10_watched_65 rfl (lv_at hl 2 rfl) ?_
            refine stM_44 C hd h.1 dX10_watched_66 (fun H locs hd => ?_)
            replace h := h.2
            refine lv_aload_n hx hb dX10_watched_67 rfl (lv_at hl 0 rfl) ?_
            refine gM_45 C hd dX10_watched_68 ?_
            refine lv_aload_n hx hb dX10_watched_71 rfl (lv_at hl 0 rfl) ?_
            refine gM_46 C hd (v := k_6.1 46) rfl dX10_watched_72 ?_
            refine lv_iload_n hx hb dX10_watched_75 rfl (lv_at hl 3 rfl) ?_
            refine stM_45 C hd h.1 dX10_watched_76 (fun H locs hd => ?_)
            replace h := h.2
            refine lv_aload_n hx hb dX10_watched_77 rfl (lv_at hl 0 rfl) ?_
            refine lv_dup hx hb dX10_watched_78 rfl ?_
            refine gM_46 C hd (v := k_6.1 46) rfl dX10_watched_79 ?_
            refine lv_iconst (v := 1) hx hb dX10_watched_82 (by decide) ?_
            refine lv_iadd hx hb dX10_watched_83 ?_
            refine pM_46 C hd dX10_watched_84 (fun H locs hd => ?_)
            refine lv_aload_n hx hb dX10_watched_87 rfl (lv_at hl 0 rfl) ?_
            refine gM_46 C hd (v := ((k_6.1 46) + (1 : Int32))) rfl dX10_watched_88 ?_
            refine lv_iconst (v := 1) hx hb dX10_watched_91 (by decide) ?_
            refine lv_isub hx hb dX10_watched_92 ?_
            exact ret hd h dX10_watched_93
          · replace h := h.2 c_8
            refine lv_bipush (v := -4) hx hb dX10_watched_44 (by decide) ?_
            exact ret hd h dX10_watched_46
        · replace h := h.2 c_7
          refine lv_bipush (v := -2) hx hb dX10_watched_32 (by decide) ?_
          exact ret hd h dX10_watched_34
def wM_worth (x1 : Int32) (x2 : Int32) (k : GM) (Q : Int32 → GM → Prop) : Prop := (wM_in x1.toInt64 (1 : Int64) (3 : Int64) k (fun r_1 k_1 => ((r_1 = 0 → Q (-9999 : Int32) k_1) ∧ (¬ r_1 = 0 → (wM_in x2.toInt64 (-2000 : Int64) (2000 : Int64) k_1 (fun r_3 k_3 => ((¬ r_3 = 0 → (vp_in x1 4 ∧ (vp_in x1 4 ∧ Q (k_3.2.1 11 x1.toNatClampNeg) (sA k_3 11 (upd (k_3.2.1 11) x1.toNatClampNeg x2))))) ∧ (r_3 = 0 → Q (-9999 : Int32) k_3))))))))
set_option maxHeartbeats 4000000 in
set_option maxRecDepth 100000 in
theorem cM_worth {l : Launch} {D : va_G} {o : Nat} {a : Nat → Nat} {g : Nat → ClassId} {k : GM} {Qp : Int32 → GM → Prop} (x1 : Int32) (x2 : Int32) (h : wM_worth x1 x2 k Qp) : Ci l D (tyA g) (wM o a g) yX10_worth cX10_worth 4 ({ frames := 1, cells := 0, slots := 0, locals := 25 }) [.ref o, .int x1, .int x2] k Qp := by
  refine Ci_of (by decide) (Nat.le_of_ble_eq_true rfl) ?_
  intro p e s m args below meth c A Z ls C ret hd hl
  have hx := C.1
  have hb := C.2.1
  have hl : lv_has ls 4 [(0, .ref o), (1, .int x1), (2, .int x2)] := hl
  replace h : (wM_in x1.toInt64 (1 : Int64) (3 : Int64) k (fun r_1 k_1 => ((r_1 = 0 → Qp (-9999 : Int32) k_1) ∧ (¬ r_1 = 0 → (wM_in x2.toInt64 (-2000 : Int64) (2000 : Int64) k_1 (fun r_3 k_3 => ((¬ r_3 = 0 → (vp_in x1 4 ∧ (vp_in x1 4 ∧ Qp (k_3.2.1 11 x1.toNatClampNeg) (sA k_3 11 (upd (k_3.2.1 11) x1.toNatClampNeg x2))))) ∧ (r_3 = 0 → Qp (-9999 : Int32) k_3)))))))) := h
  refine lv_iload_n hx hb dX10_worth_0 rfl (lv_at hl 1 rfl) ?_
  refine lv_i2l (v := x1.toInt64) hx hb dX10_worth_1 rfl ?_
  refine lv_lconst (v := 1) hx hb dX10_worth_2 (by decide) ?_
  refine lv_ldc2 (v := (3 : Int64)) hx hb C.2.2.2.1 (C.2.2.2.2.1 _ q_1206) dX10_worth_3 ?_
  refine xs_z C hd kwRX10_X10_in (cM_in _ _ _ h) ⟨rfl, rfl⟩ ⟨by decide, by decide⟩ hl.1 rfl rfl (Nat.le_of_ble_eq_true rfl) ⟨Nat.zero_le _, Nat.zero_le _⟩ dX10_worth_6 (fun r_1 k_1 H locs hz_1 h hd => ?_)
  refine lv_if_eq (tgt := 26) hx hb dX10_worth_9 (by decide) (fun c_2 => ?_) (fun c_2 => ?_)
  · replace h := h.1 c_2
    refine lv_sipush (v := -9999) hx hb dX10_worth_26 (by decide) ?_
    exact ret hd h dX10_worth_29
  · replace h := h.2 c_2
    refine lv_iload_n hx hb dX10_worth_12 rfl (lv_at hl 2 rfl) ?_
    refine lv_i2l (v := x2.toInt64) hx hb dX10_worth_13 rfl ?_
    refine lv_ldc2 (v := (-2000 : Int64)) hx hb C.2.2.2.1 (C.2.2.2.2.1 _ q_1207) dX10_worth_14 ?_
    refine lv_ldc2 (v := (2000 : Int64)) hx hb C.2.2.2.1 (C.2.2.2.2.1 _ q_1208) dX10_worth_17 ?_
    refine xs_z C hd kwRX10_X10_in (cM_in _ _ _ h) ⟨rfl, rfl⟩ ⟨by decide, by decide⟩ hl.1 rfl rfl (Nat.le_of_ble_eq_true rfl) ⟨Nat.zero_le _, Nat.zero_le _⟩ dX10_worth_20 (fun r_3 k_3 H locs hz_3 h hd => ?_)
    refine lv_if_ne (tgt := 30) hx hb dX10_worth_23 (by decide) (fun c_4 => ?_) (fun c_4 => ?_)
    · replace h := h.1 c_4
      refine lv_aload_n hx hb dX10_worth_30 rfl (lv_at hl 0 rfl) ?_
      refine gM_11 C hd dX10_worth_31 ?_
      refine lv_iload_n hx hb dX10_worth_34 rfl (lv_at hl 1 rfl) ?_
      refine ldM_11 C hd (v := k_3.2.1 11 x1.toNatClampNeg) h.1 rfl dX10_worth_35 ?_
      replace h := h.2
      refine lv_istore_n (lv' := [(3, .int (k_3.2.1 11 x1.toNatClampNeg)), (0, .ref o), (1, .int x1), (2, .int x2)]) hx hb dX10_worth_36 rfl hl (by decide) rfl (fun ls hl => ?_)
      refine lv_aload_n hx hb dX10_worth_37 rfl (lv_at hl 1 rfl) ?_
      refine gM_11 C hd dX10_worth_38 ?_
      refine lv_iload_n hx hb dX10_worth_41 rfl (lv_at hl 2 rfl) ?_
      refine lv_iload_n hx hb dX10_worth_42 rfl (lv_at hl 3 rfl) ?_
      refine stM_11 C hd h.1 dX10_worth_43 (fun H locs hd => ?_)
      replace h := h.2
      refine lv_iload_n hx hb dX10_worth_44 rfl (lv_at hl 0 rfl) ?_
      exact ret hd h dX10_worth_45
    · replace h := h.2 c_4
      refine lv_sipush (v := -9999) hx hb dX10_worth_26 (by decide) ?_
      exact ret hd h dX10_worth_29
