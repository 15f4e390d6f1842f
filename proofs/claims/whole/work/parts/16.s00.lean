def wC_J0_coder_7d493 (i : Nat)  (k : KC) (Q : Int32 → KC → Prop) : Prop := Q (0 : Int32) k
set_option maxHeartbeats 4000000 in
set_option maxRecDepth 100000 in
theorem cC_J0_coder_7d493 {l : Launch} {P : EP} {D : va_G} {a : Nat → Nat} {b : Nat → Nat → Nat} {g : Nat → ClassId} {i : Nat} (hi : i < 13) {k : KC} {Qp : Int32 → KC → Prop}  (h : wC_J0_coder_7d493 i k Qp) : Dy l P D (tyA g) (wC a b g) yJ0_coder_7d493 cJ0_coder_7d493 1 ({ frames := 0, cells := 0, slots := 0, locals := 0 }) [.ref (P.1 i)] k Qp := by
  refine Dy_of (by decide) (Nat.le_of_ble_eq_true rfl) ?_
  intro p e s m args below meth c A Z ls C ret hd hl
  have hx := C.1
  have hb := C.2.1
  have hl : lv_has ls 1 [(0, .ref (P.1 i))] := hl
  replace h : Qp (0 : Int32) k := h
  refine va_gets hx hb C.2.2.2.2.2.2.2.2.2.2.2.2.1 hd.2.2 C.2.2.2.1 (C.2.2.2.2.1 _ q_441) (fun _ h9 => h9) dJ0_coder_7d493_0 ?_
  refine lv_if_eq (tgt := 13) hx hb dJ0_coder_7d493_3 (by decide) (fun z => absurd z (by decide)) (fun _ => ?_)
  refine lv_aload_n hx hb dJ0_coder_7d493_6 rfl (lv_at hl 0 rfl) ?_
  refine vk_getf hx hb (C.2.2.2.2.2.2.2.2.2.2.1.1 i hi).2.1 hd.2.2 C.2.2.2.1 (C.2.2.2.2.1 _ q_1398) (fun _ h9 => h9) dJ0_coder_7d493_7 ?_
  refine lv_goto (tgt := 14) hx hb dJ0_coder_7d493_10 (by decide) ?_
  exact ret hd (by decide) h dJ0_coder_7d493_14
def wC_J0_isLatin1_aae02 (i : Nat)  (k : KC) (Q : Int32 → KC → Prop) : Prop := Q (1 : Int32) k
set_option maxHeartbeats 4000000 in
set_option maxRecDepth 100000 in
theorem cC_J0_isLatin1_aae02 {l : Launch} {P : EP} {D : va_G} {a : Nat → Nat} {b : Nat → Nat → Nat} {g : Nat → ClassId} {i : Nat} (hi : i < 13) {k : KC} {Qp : Int32 → KC → Prop}  (h : wC_J0_isLatin1_aae02 i k Qp) : Dz l P D (tyA g) (wC a b g) yJ0_isLatin1_aae02 cJ0_isLatin1_aae02 1 ({ frames := 0, cells := 0, slots := 0, locals := 0 }) [.ref (P.1 i)] k Qp := by
  refine Dz_of (by decide) (Nat.le_of_ble_eq_true rfl) ?_
  intro p e s m args below meth c A Z ls C ret hd hl
  have hx := C.1
  have hb := C.2.1
  have hl : lv_has ls 1 [(0, .ref (P.1 i))] := hl
  replace h : Qp (1 : Int32) k := h
  refine va_gets hx hb C.2.2.2.2.2.2.2.2.2.2.2.2.1 hd.2.2 C.2.2.2.1 (C.2.2.2.2.1 _ q_441) (fun _ h9 => h9) dJ0_isLatin1_aae02_0 ?_
  refine lv_if_eq (tgt := 17) hx hb dJ0_isLatin1_aae02_3 (by decide) (fun z => absurd z (by decide)) (fun _ => ?_)
  refine lv_aload_n hx hb dJ0_isLatin1_aae02_6 rfl (lv_at hl 0 rfl) ?_
  refine vk_getf hx hb (C.2.2.2.2.2.2.2.2.2.2.1.1 i hi).2.1 hd.2.2 C.2.2.2.1 (C.2.2.2.2.1 _ q_1398) (fun _ h9 => h9) dJ0_isLatin1_aae02_7 ?_
  refine lv_if_ne (tgt := 17) hx hb dJ0_isLatin1_aae02_10 (by decide) (fun z => absurd z (by decide)) (fun _ => ?_)
  refine lv_iconst (v := 1) hx hb dJ0_isLatin1_aae02_13 (by decide) ?_
  refine lv_goto (tgt := 18) hx hb dJ0_isLatin1_aae02_14 (by decide) ?_
  exact ret hd (by decide) h dJ0_isLatin1_aae02_18
def wC_J0_length_8abf5 (i : Nat)  (k : KC) (Q : Int32 → KC → Prop) : Prop := (wC_J0_coder_7d493 i k (fun r_1 k_1 => Q ((nI (lenS.getD i 0)) >>> (r_1 &&& 31)) k_1))
set_option maxHeartbeats 4000000 in
set_option maxRecDepth 100000 in
theorem cC_J0_length_8abf5 {l : Launch} {P : EP} {D : va_G} {a : Nat → Nat} {b : Nat → Nat → Nat} {g : Nat → ClassId} {i : Nat} (hi : i < 13) {k : KC} {Qp : Int32 → KC → Prop}  (h : wC_J0_length_8abf5 i k Qp) : Di l P D (tyA g) (wC a b g) yJ0_length_8abf5 cJ0_length_8abf5 1 ({ frames := 1, cells := 0, slots := 0, locals := 20 }) [.ref (P.1 i)] k Qp := by
  refine Di_of (by decide) (Nat.le_of_ble_eq_true rfl) ?_
  intro p e s m args below meth c A Z ls C ret hd hl
  have hx := C.1
  have hb := C.2.1
  have hl : lv_has ls 1 [(0, .ref (P.1 i))] := hl
  replace h : (wC_J0_coder_7d493 i k (fun r_1 k_1 => Qp ((nI (lenS.getD i 0)) >>> (r_1 &&& 31)) k_1)) := h
  refine lv_aload_n hx hb dJ0_length_8abf5_0 rfl (lv_at hl 0 rfl) ?_
  refine vk_getf hx hb (C.2.2.2.2.2.2.2.2.2.2.1.1 i hi).2.2.1 hd.2.2 C.2.2.2.1 (C.2.2.2.2.1 _ q_1397) (fun _ h9 => h9) dJ0_length_8abf5_1 ?_
  refine va_tlen hx hb (C.2.2.2.2.2.2.2.2.2.2.1.1 i hi).2.2.2 hd.2.2 (v := nI (lenS.getD i 0)) rfl dJ0_length_8abf5_4 ?_
  refine lv_aload_n hx hb dJ0_length_8abf5_5 rfl (lv_at hl 0 rfl) ?_
  refine eu_y C hd kwRJ0_J0_coder_7d493_335 (cC_J0_coder_7d493 hi h) ⟨rfl, rfl⟩ ⟨by decide, by decide⟩ (RcvH.str C hd hi) hl.1 rfl rfl (Nat.le_of_ble_eq_true rfl) ⟨Nat.zero_le _, Nat.zero_le _⟩ dJ0_length_8abf5_6 (fun r_1 k_1 H locs hz_1 h hd => ?_)
  refine lv_ishr hx hb dJ0_length_8abf5_9 ?_
  exact ret hd h dJ0_length_8abf5_10
def wC_J3_checkIndex_8e157 (x0 : Int32) (x1 : Int32) (k : KC) (Q : Int32 → KC → Prop) : Prop := ((x0 < 0 → False) ∧ (¬ x0 < 0 → ((x0 < x1 → Q x0 k) ∧ (¬ x0 < x1 → False))))
set_option maxHeartbeats 4000000 in
set_option maxRecDepth 100000 in
theorem cC_J3_checkIndex_8e157 {l : Launch} {P : EP} {D : va_G} {a : Nat → Nat} {b : Nat → Nat → Nat} {g : Nat → ClassId} {k : KC} {Qp : Int32 → KC → Prop} (x0 : Int32) (x1 : Int32) (h : wC_J3_checkIndex_8e157 x0 x1 k Qp) : Di l P D (tyA g) (wC a b g) yJ3_checkIndex_8e157 cJ3_checkIndex_8e157 3 ({ frames := 0, cells := 0, slots := 0, locals := 0 }) [.int x0, .int x1, .null] k Qp := by
  refine Di_of (by decide) (Nat.le_of_ble_eq_true rfl) ?_
  intro p e s m args below meth c A Z ls C ret hd hl
  have hx := C.1
  have hb := C.2.1
  have hl : lv_has ls 3 [(0, .int x0), (1, .int x1), (2, .null)] := hl
  replace h : ((x0 < 0 → False) ∧ (¬ x0 < 0 → ((x0 < x1 → Qp x0 k) ∧ (¬ x0 < x1 → False)))) := h
  refine lv_iload_n hx hb dJ3_checkIndex_8e157_0 rfl (lv_at hl 0 rfl) ?_
  refine lv_if_lt (tgt := 9) hx hb dJ3_checkIndex_8e157_1 (by decide) (fun c_1 => ?_) (fun c_1 => ?_)
  · replace h := h.1 c_1
    exact h.elim
  · replace h := h.2 c_1
    refine lv_iload_n hx hb dJ3_checkIndex_8e157_4 rfl (lv_at hl 0 rfl) ?_
    refine lv_iload_n hx hb dJ3_checkIndex_8e157_5 rfl (lv_at hl 1 rfl) ?_
    refine lv_icmp_lt (tgt := 16) hx hb dJ3_checkIndex_8e157_6 (by decide) (fun c_2 => ?_) (fun c_2 => ?_)
    · replace h := h.1 c_2
      refine lv_iload_n hx hb dJ3_checkIndex_8e157_16 rfl (lv_at hl 0 rfl) ?_
      exact ret hd h dJ3_checkIndex_8e157_17
    · replace h := h.2 c_2
      exact h.elim

set_option maxHeartbeats 4000000 in
set_option maxRecDepth 100000 in
theorem cC_J3_checkIndex_8e157_r {l : Launch} {P : EP} {D : va_G} {a : Nat → Nat} {b : Nat → Nat → Nat} {g : Nat → ClassId} {t0 : Nat} {k : KC} {Qp : Int32 → KC → Prop} (x0 : Int32) (x1 : Int32) (h : wC_J3_checkIndex_8e157 x0 x1 k Qp) : Di l P D (tyA g) (wC a b g) yJ3_checkIndex_8e157 cJ3_checkIndex_8e157 3 ({ frames := 0, cells := 0, slots := 0, locals := 0 }) [.int x0, .int x1, .ref t0] k Qp := by
  refine Di_of (by decide) (Nat.le_of_ble_eq_true rfl) ?_
  intro p e s m args below meth c A Z ls C ret hd hl
  have hx := C.1
  have hb := C.2.1
  have hl : lv_has ls 3 [(0, .int x0), (1, .int x1), (2, .ref t0)] := hl
  replace h : ((x0 < 0 → False) ∧ (¬ x0 < 0 → ((x0 < x1 → Qp x0 k) ∧ (¬ x0 < x1 → False)))) := h
  refine lv_iload_n hx hb dJ3_checkIndex_8e157_0 rfl (lv_at hl 0 rfl) ?_
  refine lv_if_lt (tgt := 9) hx hb dJ3_checkIndex_8e157_1 (by decide) (fun c_1 => ?_) (fun c_1 => ?_)
  · replace h := h.1 c_1
    exact h.elim
  · replace h := h.2 c_1
    refine lv_iload_n hx hb dJ3_checkIndex_8e157_4 rfl (lv_at hl 0 rfl) ?_
    refine lv_iload_n hx hb dJ3_checkIndex_8e157_5 rfl (lv_at hl 1 rfl) ?_
    refine lv_icmp_lt (tgt := 16) hx hb dJ3_checkIndex_8e157_6 (by decide) (fun c_2 => ?_) (fun c_2 => ?_)
    · replace h := h.1 c_2
      refine lv_iload_n hx hb dJ3_checkIndex_8e157_16 rfl (lv_at hl 0 rfl) ?_
      exact ret hd h dJ3_checkIndex_8e157_17
    · replace h := h.2 c_2
      exact h.elim
def wC_J0_checkIndex_df160 (x0 : Int32) (x1 : Int32) (k : KC) (Q : KC → Prop) : Prop := (wC_J3_checkIndex_8e157 x0 x1 k (fun r_2 k_2 => Q k_2))
set_option maxHeartbeats 4000000 in
set_option maxRecDepth 100000 in
theorem cC_J0_checkIndex_df160 {l : Launch} {P : EP} {D : va_G} {a : Nat → Nat} {b : Nat → Nat → Nat} {g : Nat → ClassId} {k : KC} {Qp : KC → Prop} (x0 : Int32) (x1 : Int32) (h : wC_J0_checkIndex_df160 x0 x1 k Qp) : Dv l P D (tyA g) (wC a b g) yJ0_checkIndex_df160 cJ0_checkIndex_df160 2 ({ frames := 1, cells := 0, slots := 0, locals := 22 }) [.int x0, .int x1] k Qp := by
  refine Dv_of (by decide) (Nat.le_of_ble_eq_true rfl) ?_
  intro p e s m args below meth c A Z ls C ret hd hl
  have hx := C.1
  have hb := C.2.1
  have hl : lv_has ls 2 [(0, .int x0), (1, .int x1)] := hl
  replace h : (wC_J3_checkIndex_8e157 x0 x1 k (fun r_2 k_2 => Qp k_2)) := h
  refine lv_iload_n hx hb dJ0_checkIndex_df160_0 rfl (lv_at hl 0 rfl) ?_
  refine lv_iload_n hx hb dJ0_checkIndex_df160_1 rfl (lv_at hl 1 rfl) ?_
  rcases C.2.2.2.2.2.2.2.2.2.2.2.2.2.1 with z_1 | ⟨t_1, z_1⟩
  · refine va_gets hx hb z_1 hd.2.2 C.2.2.2.1 (C.2.2.2.2.1 _ q_457) (fun _ h9 => h9) dJ0_checkIndex_df160_2 ?_
    refine es_i C hd kwRJ0_J3_checkIndex_8e157_1059 (cC_J3_checkIndex_8e157 _ _ h) ⟨rfl, rfl⟩ ⟨by decide, by decide⟩ hl.1 rfl rfl (Nat.le_of_ble_eq_true rfl) ⟨Nat.zero_le _, Nat.zero_le _⟩ dJ0_checkIndex_df160_5 (fun r_2 k_2 H locs h hd => ?_)
    refine lv_pop hx hb dJ0_checkIndex_df160_8 rfl ?_
    exact ret hd h dJ0_checkIndex_df160_9
  · refine va_gets hx hb z_1 hd.2.2 C.2.2.2.1 (C.2.2.2.2.1 _ q_457) (fun _ h9 => h9) dJ0_checkIndex_df160_2 ?_
    refine es_i C hd kwRJ0_J3_checkIndex_8e157_1059 (cC_J3_checkIndex_8e157_r _ _ h) ⟨rfl, rfl⟩ ⟨by decide, by decide⟩ hl.1 rfl rfl (Nat.le_of_ble_eq_true rfl) ⟨Nat.zero_le _, Nat.zero_le _⟩ dJ0_checkIndex_df160_5 (fun r_2 k_2 H locs h hd => ?_)
    refine lv_pop hx hb dJ0_checkIndex_df160_8 rfl ?_
    exact ret hd h dJ0_checkIndex_df160_9
def wC_J1_charAt_3b067 (i : Nat) (x1 : Int32) (k : KC) (Q : Int32 → KC → Prop) : Prop := (wC_J0_checkIndex_df160 x1 (nI (lenS.getD i 0)) k (fun k_1 => (vp_in x1 (lenS.getD i 0) ∧ (narrow .char (.int (((((bytS.getD i []).getD x1.toNatClampNeg 0) &&& (255 : Int32)).toUInt32 % 65536).toInt32)) = .int (((((bytS.getD i []).getD x1.toNatClampNeg 0) &&& (255 : Int32)).toUInt32 % 65536).toInt32) ∧ Q (((((bytS.getD i []).getD x1.toNatClampNeg 0) &&& (255 : Int32)).toUInt32 % 65536).toInt32) k_1))))
set_option maxHeartbeats 4000000 in
set_option maxRecDepth 100000 in
theorem cC_J1_charAt_3b067 {l : Launch} {P : EP} {D : va_G} {a : Nat → Nat} {b : Nat → Nat → Nat} {g : Nat → ClassId} {i : Nat} (hi : i < 13) {k : KC} {Qp : Int32 → KC → Prop} (x1 : Int32) (h : wC_J1_charAt_3b067 i x1 k Qp) : Dc l P D (tyA g) (wC a b g) yJ1_charAt_3b067 cJ1_charAt_3b067 2 ({ frames := 2, cells := 0, slots := 0, locals := 43 }) [.ref (P.2.1 i), .int x1] k Qp := by
  refine Dc_of (by decide) (Nat.le_of_ble_eq_true rfl) ?_
  intro p e s m args below meth c A Z ls C ret hd hl
  have hx := C.1
  have hb := C.2.1
  have hl : lv_has ls 2 [(0, .ref (P.2.1 i)), (1, .int x1)] := hl
  replace h : (wC_J0_checkIndex_df160 x1 (nI (lenS.getD i 0)) k (fun k_1 => (vp_in x1 (lenS.getD i 0) ∧ (narrow .char (.int (((((bytS.getD i []).getD x1.toNatClampNeg 0) &&& (255 : Int32)).toUInt32 % 65536).toInt32)) = .int (((((bytS.getD i []).getD x1.toNatClampNeg 0) &&& (255 : Int32)).toUInt32 % 65536).toInt32) ∧ Qp (((((bytS.getD i []).getD x1.toNatClampNeg 0) &&& (255 : Int32)).toUInt32 % 65536).toInt32) k_1)))) := h
  refine lv_iload_n hx hb dJ1_charAt_3b067_0 rfl (lv_at hl 1 rfl) ?_
  refine lv_aload_n hx hb dJ1_charAt_3b067_1 rfl (lv_at hl 0 rfl) ?_
  refine va_tlen hx hb (C.2.2.2.2.2.2.2.2.2.2.1.1 i hi).2.2.2 hd.2.2 (v := nI (lenS.getD i 0)) rfl dJ1_charAt_3b067_2 ?_
  refine es_v C hd kwRJ1_J0_checkIndex_df160_9 (cC_J0_checkIndex_df160 _ _ h) ⟨rfl, rfl⟩ ⟨by decide, by decide⟩ hl.1 rfl rfl (Nat.le_of_ble_eq_true rfl) ⟨Nat.zero_le _, Nat.zero_le _⟩ dJ1_charAt_3b067_3 (fun k_1 H locs h hd => ?_)
  refine lv_aload_n hx hb dJ1_charAt_3b067_6 rfl (lv_at hl 0 rfl) ?_
  refine lv_iload_n hx hb dJ1_charAt_3b067_7 rfl (lv_at hl 1 rfl) ?_
  refine va_tb hx hb (C.2.2.2.2.2.2.2.2.2.2.1.1 i hi).2.2.2 hd.2.2 h.1 (v := .int ((bytS.getD i []).getD x1.toNatClampNeg 0)) rfl dJ1_charAt_3b067_8 ?_
  replace h := h.2
  refine lv_sipush (v := 255) hx hb dJ1_charAt_3b067_9 (by decide) ?_
  refine lv_iand hx hb dJ1_charAt_3b067_12 ?_
  refine lv_i2c (v := ((((bytS.getD i []).getD x1.toNatClampNeg 0) &&& (255 : Int32)).toUInt32 % 65536).toInt32) hx hb dJ1_charAt_3b067_13 rfl ?_
  exact ret hd h.1 h.2 dJ1_charAt_3b067_14
def wC_J0_charAt_5068e (i : Nat) (x1 : Int32) (k : KC) (Q : Int32 → KC → Prop) : Prop := (wC_J0_isLatin1_aae02 i k (fun r_1 k_1 => ((r_1 = 0 → False) ∧ (¬ r_1 = 0 → (wC_J1_charAt_3b067 i x1 k_1 (fun r_3 k_3 => Q r_3 k_3))))))
set_option maxHeartbeats 4000000 in
set_option maxRecDepth 100000 in
theorem cC_J0_charAt_5068e {l : Launch} {P : EP} {D : va_G} {a : Nat → Nat} {b : Nat → Nat → Nat} {g : Nat → ClassId} {i : Nat} (hi : i < 13) {k : KC} {Qp : Int32 → KC → Prop} (x1 : Int32) (h : wC_J0_charAt_5068e i x1 k Qp) : Dc l P D (tyA g) (wC a b g) yJ0_charAt_5068e cJ0_charAt_5068e 2 ({ frames := 3, cells := 0, slots := 0, locals := 64 }) [.ref (P.1 i), .int x1] k Qp := by
  refine Dc_of (by decide) (Nat.le_of_ble_eq_true rfl) ?_
  intro p e s m args below meth c A Z ls C ret hd hl
  have hx := C.1
  have hb := C.2.1
  have hl : lv_has ls 2 [(0, .ref (P.1 i)), (1, .int x1)] := hl
  replace h : (wC_J0_isLatin1_aae02 i k (fun r_1 k_1 => ((r_1 = 0 → False) ∧ (¬ r_1 = 0 → (wC_J1_charAt_3b067 i x1 k_1 (fun r_3 k_3 => Qp r_3 k_3)))))) := h
  refine lv_aload_n hx hb dJ0_charAt_5068e_0 rfl (lv_at hl 0 rfl) ?_
  refine eu_z C hd kwRJ0_J0_isLatin1_aae02_492 (cC_J0_isLatin1_aae02 hi h) ⟨rfl, rfl⟩ ⟨by decide, by decide⟩ (RcvH.str C hd hi) hl.1 rfl rfl (Nat.le_of_ble_eq_true rfl) ⟨Nat.zero_le _, Nat.zero_le _⟩ dJ0_charAt_5068e_1 (fun r_1 k_1 H locs hz_1 h hd => ?_)
  refine lv_if_eq (tgt := 16) hx hb dJ0_charAt_5068e_4 (by decide) (fun c_2 => ?_) (fun c_2 => ?_)
  · replace h := h.1 c_2
    refine lv_aload_n hx hb dJ0_charAt_5068e_16 rfl (lv_at hl 0 rfl) ?_
    refine vk_getf hx hb (C.2.2.2.2.2.2.2.2.2.2.1.1 i hi).2.2.1 hd.2.2 C.2.2.2.1 (C.2.2.2.2.1 _ q_1397) (fun _ h9 => h9) dJ0_charAt_5068e_17 ?_
    refine lv_iload_n hx hb dJ0_charAt_5068e_20 rfl (lv_at hl 1 rfl) ?_
    exact h.elim
  · replace h := h.2 c_2
    refine lv_aload_n hx hb dJ0_charAt_5068e_7 rfl (lv_at hl 0 rfl) ?_
    refine vk_getf hx hb (C.2.2.2.2.2.2.2.2.2.2.1.1 i hi).2.2.1 hd.2.2 C.2.2.2.1 (C.2.2.2.2.1 _ q_1397) (fun _ h9 => h9) dJ0_charAt_5068e_8 ?_
    refine lv_iload_n hx hb dJ0_charAt_5068e_11 rfl (lv_at hl 1 rfl) ?_
    refine es_c C hd kwRJ0_J1_charAt_3b067_495 (cC_J1_charAt_3b067 hi _ h) ⟨rfl, rfl⟩ ⟨by decide, by decide⟩ hl.1 rfl rfl (Nat.le_of_ble_eq_true rfl) ⟨Nat.zero_le _, Nat.zero_le _⟩ dJ0_charAt_5068e_12 (fun r_3 k_3 H locs hz_3 h hd => ?_)
    exact ret hd hz_3 h dJ0_charAt_5068e_15
def wC_J1_canEncode_9a6ad (x0 : Int32) (k : KC) (Q : Int32 → KC → Prop) : Prop := ((x0 < 0 → Q (0 : Int32) k) ∧ (¬ x0 < 0 → (((255 : Int32) < x0 → Q (0 : Int32) k) ∧ (¬ (255 : Int32) < x0 → Q (1 : Int32) k))))
set_option maxHeartbeats 4000000 in
set_option maxRecDepth 100000 in
theorem cC_J1_canEncode_9a6ad {l : Launch} {P : EP} {D : va_G} {a : Nat → Nat} {b : Nat → Nat → Nat} {g : Nat → ClassId} {k : KC} {Qp : Int32 → KC → Prop} (x0 : Int32) (h : wC_J1_canEncode_9a6ad x0 k Qp) : Dz l P D (tyA g) (wC a b g) yJ1_canEncode_9a6ad cJ1_canEncode_9a6ad 1 ({ frames := 0, cells := 0, slots := 0, locals := 0 }) [.int x0] k Qp := by
  refine Dz_of (by decide) (Nat.le_of_ble_eq_true rfl) ?_
  intro p e s m args below meth c A Z ls C ret hd hl
  have hx := C.1
  have hb := C.2.1
  have hl : lv_has ls 1 [(0, .int x0)] := hl
  replace h : ((x0 < 0 → Qp (0 : Int32) k) ∧ (¬ x0 < 0 → (((255 : Int32) < x0 → Qp (0 : Int32) k) ∧ (¬ (255 : Int32) < x0 → Qp (1 : Int32) k)))) := h
  refine lv_iload_n hx hb dJ1_canEncode_9a6ad_0 rfl (lv_at hl 0 rfl) ?_
  refine lv_if_lt (tgt := 15) hx hb dJ1_canEncode_9a6ad_1 (by decide) (fun c_1 => ?_) (fun c_1 => ?_)
  · replace h := h.1 c_1
    refine lv_iconst (v := 0) hx hb dJ1_canEncode_9a6ad_15 (by decide) ?_
    exact ret hd (by decide) h dJ1_canEncode_9a6ad_16
  · replace h := h.2 c_1
    refine lv_iload_n hx hb dJ1_canEncode_9a6ad_4 rfl (lv_at hl 0 rfl) ?_
    refine lv_sipush (v := 255) hx hb dJ1_canEncode_9a6ad_5 (by decide) ?_
    refine lv_icmp_gt (tgt := 15) hx hb dJ1_canEncode_9a6ad_8 (by decide) (fun c_2 => ?_) (fun c_2 => ?_)
    · replace h := h.1 c_2
      refine lv_iconst (v := 0) hx hb dJ1_canEncode_9a6ad_15 (by decide) ?_
      exact ret hd (by decide) h dJ1_canEncode_9a6ad_16
    · replace h := h.2 c_2
      refine lv_iconst (v := 1) hx hb dJ1_canEncode_9a6ad_11 (by decide) ?_
      refine lv_goto (tgt := 16) hx hb dJ1_canEncode_9a6ad_12 (by decide) ?_
      exact ret hd (by decide) h dJ1_canEncode_9a6ad_16
def wC_J1_indexOfChar_4cfef (i : Nat) : Nat → Nat → Int32 → Int32 → Int32 → Int32 → Int32 → KC → (Int32 → KC → Prop) → Prop
  | 0, _, _, _, _, _, _, _, _ => False
  | n + 1, c, x1, x2, x3, x4, x5, k, Q => match c with
    | 0 => wC_J1_indexOfChar_4cfef i n 1 0 0 x3 x1.toInt8.toInt32 x2 k Q
    | _ => ((x3 ≤ x5 → Q (-1 : Int32) k) ∧ (¬ x3 ≤ x5 → (vp_in x5 (lenS.getD i 0) ∧ ((¬ ((bytS.getD i []).getD x5.toNatClampNeg 0) = x4 → wC_J1_indexOfChar_4cfef i n 1 0 0 x3 x4 (x5 + (1 : Int32)) k Q) ∧ (((bytS.getD i []).getD x5.toNatClampNeg 0) = x4 → Q x5 k)))))
set_option maxHeartbeats 4000000 in
set_option maxRecDepth 100000 in
theorem cC_J1_indexOfChar_4cfef {l : Launch} {P : EP} {D : va_G} {a : Nat → Nat} {b : Nat → Nat → Nat} {g : Nat → ClassId} {i : Nat} (hi : i < 13) {k : KC} {Qp : Int32 → KC → Prop} (n : Nat) (x1 : Int32) (x2 : Int32) (x3 : Int32) (h : wC_J1_indexOfChar_4cfef i n 0 x1 x2 x3 0 0 k Qp) : Di l P D (tyA g) (wC a b g) yJ1_indexOfChar_4cfef cJ1_indexOfChar_4cfef 6 ({ frames := 0, cells := 0, slots := 0, locals := 0 }) [.ref (P.2.1 i), .int x1, .int x2, .int x3] k Qp := by
  refine Di_of (by decide) (Nat.le_of_ble_eq_true rfl) ?_
  intro p e s m args below meth c A Z ls C ret hd hl
  have hx := C.1
  have hb := C.2.1
  have hl : lv_has ls 6 [(0, .ref (P.2.1 i)), (1, .int x1), (2, .int x2), (3, .int x3)] := hl
  have L : ∀ n : Nat, (∀ (x3 : Int32) (x4 : Int32) (x5 : Int32) (k : KC) (H : Heap) (locs : List Loc) (ls : Array Slot), wC_J1_indexOfChar_4cfef i n 1 0 0 x3 x4 x5 k Qp → Hd D (wC a b g k) A s H locs → lv_has ls 6 [(0, .ref (P.2.1 i)), (3, .int x3), (4, .int x4), (5, .int x5)] → W p l e ({ frames := 0, cells := 0, slots := 0, locals := 0 }) s m args below meth c H locs 0 0 Z (F0 m 7 ls [])) := by
    intro n
    induction n with
    | zero => exact fun _ _ _ _ _ _ _ h => h.elim
    | succ n ih =>
      intro x3 x4 x5 k H locs ls h hd hl
      replace h : ((x3 ≤ x5 → Qp (-1 : Int32) k) ∧ (¬ x3 ≤ x5 → (vp_in x5 (lenS.getD i 0) ∧ ((¬ ((bytS.getD i []).getD x5.toNatClampNeg 0) = x4 → wC_J1_indexOfChar_4cfef i n 1 0 0 x3 x4 (x5 + (1 : Int32)) k Qp) ∧ (((bytS.getD i []).getD x5.toNatClampNeg 0) = x4 → Qp x5 k))))) := h
      refine lv_iload hx hb dJ1_indexOfChar_4cfef_7 (lv_at hl 3 rfl) ?_
      refine lv_iload_n hx hb dJ1_indexOfChar_4cfef_9 rfl (lv_at hl 1 rfl) ?_
      refine lv_icmp_ge (tgt := 31) hx hb dJ1_indexOfChar_4cfef_10 (by decide) (fun c_1 => ?_) (fun c_1 => ?_)
      · replace h := h.1 c_1
        refine lv_iconst (v := -1) hx hb dJ1_indexOfChar_4cfef_31 (by decide) ?_
        exact ret hd h dJ1_indexOfChar_4cfef_32
      · replace h := h.2 c_1
        refine lv_aload_n hx hb dJ1_indexOfChar_4cfef_13 rfl (lv_at hl 0 rfl) ?_
        refine lv_iload hx hb dJ1_indexOfChar_4cfef_14 (lv_at hl 3 rfl) ?_
        refine va_tb hx hb (C.2.2.2.2.2.2.2.2.2.2.1.1 i hi).2.2.2 hd.2.2 h.1 (v := .int ((bytS.getD i []).getD x5.toNatClampNeg 0)) rfl dJ1_indexOfChar_4cfef_16 ?_
        replace h := h.2
        refine lv_iload hx hb dJ1_indexOfChar_4cfef_17 (lv_at hl 2 rfl) ?_
        refine lv_icmp_ne (tgt := 25) hx hb dJ1_indexOfChar_4cfef_19 (by decide) (fun c_2 => ?_) (fun c_2 => ?_)
        · replace h := h.1 c_2
          refine lv_iinc (v := (x5 + (1 : Int32))) (lv' := [(5, .int (x5 + (1 : Int32))), (0, .ref (P.2.1 i)), (3, .int x3), (4, .int x4)]) hx hb dJ1_indexOfChar_4cfef_25 hl (k := 3) rfl rfl (by decide) rfl (fun ls hl => ?_)
          refine lv_goto (tgt := 7) hx hb dJ1_indexOfChar_4cfef_28 (by decide) ?_
          exact ih x3 x4 (x5 + (1 : Int32))  _ _ _ _ h hd (lv_sub hl [1, 2, 3, 0] rfl)
        · replace h := h.2 c_2
          refine lv_iload hx hb dJ1_indexOfChar_4cfef_22 (lv_at hl 3 rfl) ?_
          exact ret hd h dJ1_indexOfChar_4cfef_24
  cases n with
  | zero => exact h.elim
  | succ n =>
    replace h : wC_J1_indexOfChar_4cfef i n 1 0 0 x3 x1.toInt8.toInt32 x2 k Qp := h
    refine lv_iload_n hx hb dJ1_indexOfChar_4cfef_0 rfl (lv_at hl 1 rfl) ?_
    refine lv_i2b (v := x1.toInt8.toInt32) hx hb dJ1_indexOfChar_4cfef_1 rfl ?_
    refine lv_istore (lv' := [(4, .int x1.toInt8.toInt32), (0, .ref (P.2.1 i)), (1, .int x1), (2, .int x2), (3, .int x3)]) hx hb dJ1_indexOfChar_4cfef_2 hl (by decide) rfl (fun ls hl => ?_)
    refine lv_iload_n hx hb dJ1_indexOfChar_4cfef_4 rfl (lv_at hl 3 rfl) ?_
    refine lv_istore (lv' := [(5, .int x2), (4, .int x1.toInt8.toInt32), (0, .ref (P.2.1 i)), (1, .int x1), (2, .int x2), (3, .int x3)]) hx hb dJ1_indexOfChar_4cfef_5 hl (by decide) rfl (fun ls hl => ?_)
    exact L n x3 x1.toInt8.toInt32 x2  _ _ _ _ h hd (lv_sub hl [2, 5, 1, 0] rfl)
def wC_J1_indexOf_4cfef (i : Nat) (x1 : Int32) (x2 : Int32) (x3 : Int32) (k : KC) (Q : Int32 → KC → Prop) : Prop := (wC_J1_canEncode_9a6ad x1 k (fun r_1 k_1 => ((¬ r_1 = 0 → (∀ v_3 : Int32, v_3 = (if (nI (lenS.getD i 0)) < x3 then (nI (lenS.getD i 0)) else x3) → (((if x2 < (0 : Int32) then (0 : Int32) else x2) < v_3 → (∃ n_5 : Nat, wC_J1_indexOfChar_4cfef i n_5 0 x1 (if x2 < (0 : Int32) then (0 : Int32) else x2) v_3 0 0 k_1 (fun r_5 k_5 => Q r_5 k_5))) ∧ (¬ (if x2 < (0 : Int32) then (0 : Int32) else x2) < v_3 → Q (-1 : Int32) k_1)))) ∧ (r_1 = 0 → Q (-1 : Int32) k_1))))
set_option maxHeartbeats 4000000 in
set_option maxRecDepth 100000 in
theorem cC_J1_indexOf_4cfef {l : Launch} {P : EP} {D : va_G} {a : Nat → Nat} {b : Nat → Nat → Nat} {g : Nat → ClassId} {i : Nat} (hi : i < 13) {k : KC} {Qp : Int32 → KC → Prop} (x1 : Int32) (x2 : Int32) (x3 : Int32) (h : wC_J1_indexOf_4cfef i x1 x2 x3 k Qp) : Di l P D (tyA g) (wC a b g) yJ1_indexOf_4cfef cJ1_indexOf_4cfef 4 ({ frames := 1, cells := 0, slots := 0, locals := 30 }) [.ref (P.2.1 i), .int x1, .int x2, .int x3] k Qp := by
  refine Di_of (by decide) (Nat.le_of_ble_eq_true rfl) ?_
  intro p e s m args below meth c A Z ls C ret hd hl
  have hx := C.1
  have hb := C.2.1
  have hl : lv_has ls 4 [(0, .ref (P.2.1 i)), (1, .int x1), (2, .int x2), (3, .int x3)] := hl
  replace h : (wC_J1_canEncode_9a6ad x1 k (fun r_1 k_1 => ((¬ r_1 = 0 → (∀ v_3 : Int32, v_3 = (if (nI (lenS.getD i 0)) < x3 then (nI (lenS.getD i 0)) else x3) → (((if x2 < (0 : Int32) then (0 : Int32) else x2) < v_3 → (∃ n_5 : Nat, wC_J1_indexOfChar_4cfef i n_5 0 x1 (if x2 < (0 : Int32) then (0 : Int32) else x2) v_3 0 0 k_1 (fun r_5 k_5 => Qp r_5 k_5))) ∧ (¬ (if x2 < (0 : Int32) then (0 : Int32) else x2) < v_3 → Qp (-1 : Int32) k_1)))) ∧ (r_1 = 0 → Qp (-1 : Int32) k_1)))) := h
  refine lv_iload_n hx hb dJ1_indexOf_4cfef_0 rfl (lv_at hl 1 rfl) ?_
  refine es_z C hd kwRJ1_J1_canEncode_9a6ad_88 (cC_J1_canEncode_9a6ad _ h) ⟨rfl, rfl⟩ ⟨by decide, by decide⟩ hl.1 rfl rfl (Nat.le_of_ble_eq_true rfl) ⟨Nat.zero_le _, Nat.zero_le _⟩ dJ1_indexOf_4cfef_1 (fun r_1 k_1 H locs hz_1 h hd => ?_)
  refine lv_if_ne (tgt := 9) hx hb dJ1_indexOf_4cfef_4 (by decide) (fun c_2 => ?_) (fun c_2 => ?_)
  · replace h := h.1 c_2
    refine lv_iload_n hx hb dJ1_indexOf_4cfef_9 rfl (lv_at hl 2 rfl) ?_
    refine lv_iconst (v := 0) hx hb dJ1_indexOf_4cfef_10 (by decide) ?_
    refine va_mmax C.1 C.2.1 (C.2.2.1.trans hl.1.symm) C.2.2.2.1 (C.2.2.2.2.1 _ q_513) (C.2.2.2.2.1 _ q_514) (C.2.2.2.2.1 _ q_16) (C.2.2.2.2.1 _ q_515) (by decide) (Nat.le_of_ble_eq_true rfl) (Nat.zero_le _) (Nat.zero_le _) dJ1_indexOf_4cfef_11 ?_
    refine lv_istore_n (lv' := [(2, .int (if x2 < (0 : Int32) then (0 : Int32) else x2)), (0, .ref (P.2.1 i)), (1, .int x1), (3, .int x3)]) hx hb dJ1_indexOf_4cfef_14 rfl hl (by decide) rfl (fun ls hl => ?_)
    refine lv_iload_n hx hb dJ1_indexOf_4cfef_15 rfl (lv_at hl 3 rfl) ?_
    refine lv_aload_n hx hb dJ1_indexOf_4cfef_16 rfl (lv_at hl 1 rfl) ?_
    refine va_tlen hx hb (C.2.2.2.2.2.2.2.2.2.2.1.1 i hi).2.2.2 hd.2.2 (v := nI (lenS.getD i 0)) rfl dJ1_indexOf_4cfef_17 ?_
    refine va_mmin C.1 C.2.1 (C.2.2.1.trans hl.1.symm) C.2.2.2.1 (C.2.2.2.2.1 _ q_516) (C.2.2.2.2.1 _ q_517) (C.2.2.2.2.1 _ q_16) (C.2.2.2.2.1 _ q_518) (by decide) (Nat.le_of_ble_eq_true rfl) (Nat.zero_le _) (Nat.zero_le _) dJ1_indexOf_4cfef_18 ?_
    refine lv_topi (fun v_3 e_3 => ?_)
    replace h := h v_3 e_3
    refine lv_istore_n (lv' := [(3, .int v_3), (2, .int (if x2 < (0 : Int32) then (0 : Int32) else x2)), (0, .ref (P.2.1 i)), (1, .int x1)]) hx hb dJ1_indexOf_4cfef_21 rfl hl (by decide) rfl (fun ls hl => ?_)
    refine lv_iload_n hx hb dJ1_indexOf_4cfef_22 rfl (lv_at hl 1 rfl) ?_
    refine lv_iload_n hx hb dJ1_indexOf_4cfef_23 rfl (lv_at hl 0 rfl) ?_
    refine lv_icmp_lt (tgt := 29) hx hb dJ1_indexOf_4cfef_24 (by decide) (fun c_4 => ?_) (fun c_4 => ?_)
    · replace h := h.1 c_4
      refine lv_aload_n hx hb dJ1_indexOf_4cfef_29 rfl (lv_at hl 2 rfl) ?_
      refine lv_iload_n hx hb dJ1_indexOf_4cfef_30 rfl (lv_at hl 3 rfl) ?_
      refine lv_iload_n hx hb dJ1_indexOf_4cfef_31 rfl (lv_at hl 1 rfl) ?_
      refine lv_iload_n hx hb dJ1_indexOf_4cfef_32 rfl (lv_at hl 0 rfl) ?_
      obtain ⟨n_5, h⟩ := h
      refine es_i C hd kwRJ1_J1_indexOfChar_4cfef_95 (cC_J1_indexOfChar_4cfef hi n_5 _ _ _ h) ⟨rfl, rfl⟩ ⟨by decide, by decide⟩ hl.1 rfl rfl (Nat.le_of_ble_eq_true rfl) ⟨Nat.zero_le _, Nat.zero_le _⟩ dJ1_indexOf_4cfef_33 (fun r_5 k_5 H locs h hd => ?_)
      exact ret hd h dJ1_indexOf_4cfef_36
    · replace h := h.2 c_4
      refine lv_iconst (v := -1) hx hb dJ1_indexOf_4cfef_27 (by decide) ?_
      exact ret hd h dJ1_indexOf_4cfef_28
  · replace h := h.2 c_2
    refine lv_iconst (v := -1) hx hb dJ1_indexOf_4cfef_7 (by decide) ?_
    exact ret hd h dJ1_indexOf_4cfef_8
def wC_J0_indexOf_7cf53 (i : Nat) (x1 : Int32) (x2 : Int32) (k : KC) (Q : Int32 → KC → Prop) : Prop := (wC_J0_isLatin1_aae02 i k (fun r_1 k_1 => ((r_1 = 0 → (wC_J0_length_8abf5 i k_1 (fun r_3 k_3 => False))) ∧ (¬ r_1 = 0 → (wC_J0_length_8abf5 i k_1 (fun r_4 k_4 => (wC_J1_indexOf_4cfef i x1 x2 r_4 k_4 (fun r_5 k_5 => Q r_5 k_5))))))))
set_option maxHeartbeats 4000000 in
set_option maxRecDepth 100000 in
theorem cC_J0_indexOf_7cf53 {l : Launch} {P : EP} {D : va_G} {a : Nat → Nat} {b : Nat → Nat → Nat} {g : Nat → ClassId} {i : Nat} (hi : i < 13) {k : KC} {Qp : Int32 → KC → Prop} (x1 : Int32) (x2 : Int32) (h : wC_J0_indexOf_7cf53 i x1 x2 k Qp) : Di l P D (tyA g) (wC a b g) yJ0_indexOf_7cf53 cJ0_indexOf_7cf53 3 ({ frames := 2, cells := 0, slots := 0, locals := 53 }) [.ref (P.1 i), .int x1, .int x2] k Qp := by
  refine Di_of (by decide) (Nat.le_of_ble_eq_true rfl) ?_
  intro p e s m args below meth c A Z ls C ret hd hl
  have hx := C.1
  have hb := C.2.1
  have hl : lv_has ls 3 [(0, .ref (P.1 i)), (1, .int x1), (2, .int x2)] := hl
  replace h : (wC_J0_isLatin1_aae02 i k (fun r_1 k_1 => ((r_1 = 0 → (wC_J0_length_8abf5 i k_1 (fun r_3 k_3 => False))) ∧ (¬ r_1 = 0 → (wC_J0_length_8abf5 i k_1 (fun r_4 k_4 => (wC_J1_indexOf_4cfef i x1 x2 r_4 k_4 (fun r_5 k_5 => Qp r_5 k_5)))))))) := h
  refine lv_aload_n hx hb dJ0_indexOf_7cf53_0 rfl (lv_at hl 0 rfl) ?_
  refine eu_z C hd kwRJ0_J0_isLatin1_aae02_492 (cC_J0_isLatin1_aae02 hi h) ⟨rfl, rfl⟩ ⟨by decide, by decide⟩ (RcvH.str C hd hi) hl.1 rfl rfl (Nat.le_of_ble_eq_true rfl) ⟨Nat.zero_le _, Nat.zero_le _⟩ dJ0_indexOf_7cf53_1 (fun r_1 k_1 H locs hz_1 h hd => ?_)
  refine lv_if_eq (tgt := 23) hx hb dJ0_indexOf_7cf53_4 (by decide) (fun c_2 => ?_) (fun c_2 => ?_)
  · replace h := h.1 c_2
    refine lv_aload_n hx hb dJ0_indexOf_7cf53_23 rfl (lv_at hl 0 rfl) ?_
    refine vk_getf hx hb (C.2.2.2.2.2.2.2.2.2.2.1.1 i hi).2.2.1 hd.2.2 C.2.2.2.1 (C.2.2.2.2.1 _ q_1397) (fun _ h9 => h9) dJ0_indexOf_7cf53_24 ?_
    refine lv_iload_n hx hb dJ0_indexOf_7cf53_27 rfl (lv_at hl 1 rfl) ?_
    refine lv_iload_n hx hb dJ0_indexOf_7cf53_28 rfl (lv_at hl 2 rfl) ?_
    refine lv_aload_n hx hb dJ0_indexOf_7cf53_29 rfl (lv_at hl 0 rfl) ?_
    refine eu_i C hd kwRJ0_J0_length_8abf5_505 (cC_J0_length_8abf5 hi h) ⟨rfl, rfl⟩ ⟨by decide, by decide⟩ (RcvH.str C hd hi) hl.1 rfl rfl (Nat.le_of_ble_eq_true rfl) ⟨Nat.zero_le _, Nat.zero_le _⟩ dJ0_indexOf_7cf53_30 (fun r_3 k_3 H locs h hd => ?_)
    exact h.elim
  · replace h := h.2 c_2
    refine lv_aload_n hx hb dJ0_indexOf_7cf53_7 rfl (lv_at hl 0 rfl) ?_
    refine vk_getf hx hb (C.2.2.2.2.2.2.2.2.2.2.1.1 i hi).2.2.1 hd.2.2 C.2.2.2.1 (C.2.2.2.2.1 _ q_1397) (fun _ h9 => h9) dJ0_indexOf_7cf53_8 ?_
    refine lv_iload_n hx hb dJ0_indexOf_7cf53_11 rfl (lv_at hl 1 rfl) ?_
    refine lv_iload_n hx hb dJ0_indexOf_7cf53_12 rfl (lv_at hl 2 rfl) ?_
    refine lv_aload_n hx hb dJ0_indexOf_7cf53_13 rfl (lv_at hl 0 rfl) ?_
    refine eu_i C hd kwRJ0_J0_length_8abf5_505 (cC_J0_length_8abf5 hi h) ⟨rfl, rfl⟩ ⟨by decide, by decide⟩ (RcvH.str C hd hi) hl.1 rfl rfl (Nat.le_of_ble_eq_true rfl) ⟨Nat.zero_le _, Nat.zero_le _⟩ dJ0_indexOf_7cf53_14 (fun r_4 k_4 H locs h hd => ?_)
    refine es_i C hd kwRJ0_J1_indexOf_4cfef_637 (cC_J1_indexOf_4cfef hi _ _ _ h) ⟨rfl, rfl⟩ ⟨by decide, by decide⟩ hl.1 rfl rfl (Nat.le_of_ble_eq_true rfl) ⟨Nat.zero_le _, Nat.zero_le _⟩ dJ0_indexOf_7cf53_17 (fun r_5 k_5 H locs h hd => ?_)
    refine lv_goto (tgt := 36) hx hb dJ0_indexOf_7cf53_20 (by decide) ?_
    exact ret hd h dJ0_indexOf_7cf53_36
def wC_J0_indexOf_0f7a4 (i : Nat) (x1 : Int32) (k : KC) (Q : Int32 → KC → Prop) : Prop := (wC_J0_indexOf_7cf53 i x1 (0 : Int32) k (fun r_1 k_1 => Q r_1 k_1))
set_option maxHeartbeats 4000000 in
set_option maxRecDepth 100000 in
theorem cC_J0_indexOf_0f7a4 {l : Launch} {P : EP} {D : va_G} {a : Nat → Nat} {b : Nat → Nat → Nat} {g : Nat → ClassId} {i : Nat} (hi : i < 13) {k : KC} {Qp : Int32 → KC → Prop} (x1 : Int32) (h : wC_J0_indexOf_0f7a4 i x1 k Qp) : Di l P D (tyA g) (wC a b g) yJ0_indexOf_0f7a4 cJ0_indexOf_0f7a4 2 ({ frames := 3, cells := 0, slots := 0, locals := 75 }) [.ref (P.1 i), .int x1] k Qp := by
  refine Di_of (by decide) (Nat.le_of_ble_eq_true rfl) ?_
  intro p e s m args below meth c A Z ls C ret hd hl
  have hx := C.1
  have hb := C.2.1
  have hl : lv_has ls 2 [(0, .ref (P.1 i)), (1, .int x1)] := hl
  replace h : (wC_J0_indexOf_7cf53 i x1 (0 : Int32) k (fun r_1 k_1 => Qp r_1 k_1)) := h
  refine lv_aload_n hx hb dJ0_indexOf_0f7a4_0 rfl (lv_at hl 0 rfl) ?_
  refine lv_iload_n hx hb dJ0_indexOf_0f7a4_1 rfl (lv_at hl 1 rfl) ?_
  refine lv_iconst (v := 0) hx hb dJ0_indexOf_0f7a4_2 (by decide) ?_
  refine eu_i C hd kwRJ0_J0_indexOf_7cf53_633 (cC_J0_indexOf_7cf53 hi _ _ h) ⟨rfl, rfl⟩ ⟨by decide, by decide⟩ (RcvH.str C hd hi) hl.1 rfl rfl (Nat.le_of_ble_eq_true rfl) ⟨Nat.zero_le _, Nat.zero_le _⟩ dJ0_indexOf_0f7a4_3 (fun r_1 k_1 H locs h hd => ?_)
  exact ret hd h dJ0_indexOf_0f7a4_6
def wC_X6_nameAt (x0 : Int32) (k : KC) (Q : Nat → KC → Prop) : Prop := ((x0 = (0 : Int32) → Q 0 k) ∧ (x0 = (1 : Int32) → Q 1 k) ∧ (x0 = (2 : Int32) → Q 2 k) ∧ (x0 = (3 : Int32) → Q 3 k) ∧ (x0 = (4 : Int32) → Q 4 k) ∧ (¬ x0 = (0 : Int32) → ¬ x0 = (1 : Int32) → ¬ x0 = (2 : Int32) → ¬ x0 = (3 : Int32) → ¬ x0 = (4 : Int32) → Q 5 k))
set_option maxHeartbeats 4000000 in
set_option maxRecDepth 100000 in
theorem cC_X6_nameAt {l : Launch} {P : EP} {D : va_G} {a : Nat → Nat} {b : Nat → Nat → Nat} {g : Nat → ClassId} {k : KC} {Qp : Nat → KC → Prop} (x0 : Int32) (h : wC_X6_nameAt x0 k Qp) : Dq l P D (tyA g) (wC a b g) yX6_nameAt cX6_nameAt 1 ({ frames := 0, cells := 0, slots := 0, locals := 0 }) "java/lang/String" [.int x0] k (fun r u => ∃ j : Nat, j < 13 ∧ r = some (P.1 j) ∧ Qp j u) := by
  refine Dq_of (by decide) (Nat.le_of_ble_eq_true rfl) ?_
  intro p e s m args below meth c A Z ls C ret hd hl
  have hx := C.1
  have hb := C.2.1
  have hl : lv_has ls 1 [(0, .int x0)] := hl
  replace h : ((x0 = (0 : Int32) → Qp 0 k) ∧ (x0 = (1 : Int32) → Qp 1 k) ∧ (x0 = (2 : Int32) → Qp 2 k) ∧ (x0 = (3 : Int32) → Qp 3 k) ∧ (x0 = (4 : Int32) → Qp 4 k) ∧ (¬ x0 = (0 : Int32) → ¬ x0 = (1 : Int32) → ¬ x0 = (2 : Int32) → ¬ x0 = (3 : Int32) → ¬ x0 = (4 : Int32) → Qp 5 k)) := h
  refine lv_iload_n hx hb dX6_nameAt_0 rfl (lv_at hl 0 rfl) ?_
  by_cases e_1_0 : x0 = (0 : Int32)
  · replace h := h.1 e_1_0
    refine lv_tableIn (off := 35) (tgt := 36) hx hb dX6_nameAt_1 (by rw [e_1_0]; decide) (by rw [e_1_0]; decide) (by rw [e_1_0]; rfl) (by decide) ?_
    refine ldcS C 0 (by decide) dX6_nameAt_36 ?_
    exact ret (v := some (P.1 0)) hd ⟨0, by decide, rfl, h⟩ dX6_nameAt_38
  · by_cases e_1_1 : x0 = (1 : Int32)
    · replace h := h.2.1 e_1_1
      refine lv_tableIn (off := 38) (tgt := 39) hx hb dX6_nameAt_1 (by rw [e_1_1]; decide) (by rw [e_1_1]; decide) (by rw [e_1_1]; rfl) (by decide) ?_
      refine ldcS C 1 (by decide) dX6_nameAt_39 ?_
      exact ret (v := some (P.1 1)) hd ⟨1, by decide, rfl, h⟩ dX6_nameAt_41
    · by_cases e_1_2 : x0 = (2 : Int32)
      · replace h := h.2.2.1 e_1_2
        refine lv_tableIn (off := 41) (tgt := 42) hx hb dX6_nameAt_1 (by rw [e_1_2]; decide) (by rw [e_1_2]; decide) (by rw [e_1_2]; rfl) (by decide) ?_
        refine ldcS C 2 (by decide) dX6_nameAt_42 ?_
        exact ret (v := some (P.1 2)) hd ⟨2, by decide, rfl, h⟩ dX6_nameAt_44
      · by_cases e_1_3 : x0 = (3 : Int32)
        · replace h := h.2.2.2.1 e_1_3
          refine lv_tableIn (off := 44) (tgt := 45) hx hb dX6_nameAt_1 (by rw [e_1_3]; decide) (by rw [e_1_3]; decide) (by rw [e_1_3]; rfl) (by decide) ?_
          refine ldcS C 3 (by decide) dX6_nameAt_45 ?_
          exact ret (v := some (P.1 3)) hd ⟨3, by decide, rfl, h⟩ dX6_nameAt_47
        · by_cases e_1_4 : x0 = (4 : Int32)
          · replace h := h.2.2.2.2.1 e_1_4
            refine lv_tableIn (off := 47) (tgt := 48) hx hb dX6_nameAt_1 (by rw [e_1_4]; decide) (by rw [e_1_4]; decide) (by rw [e_1_4]; rfl) (by decide) ?_
            refine ldcS C 4 (by decide) dX6_nameAt_48 ?_
            exact ret (v := some (P.1 4)) hd ⟨4, by decide, rfl, h⟩ dX6_nameAt_50
          · replace h := h.2.2.2.2.2 e_1_0 e_1_1 e_1_2 e_1_3 e_1_4
            refine lv_tableOut (tgt := 51) hx hb dX6_nameAt_1 (by have n_0 := lv_neT (a := 0) e_1_0 (by decide); have n_1 := lv_neT (a := 1) e_1_1 (by decide); have n_2 := lv_neT (a := 2) e_1_2 (by decide); have n_3 := lv_neT (a := 3) e_1_3 (by decide); have n_4 := lv_neT (a := 4) e_1_4 (by decide); omega) (by decide) ?_
            refine ldcS C 5 (by decide) dX6_nameAt_51 ?_
            exact ret (v := some (P.1 5)) hd ⟨5, by decide, rfl, h⟩ dX6_nameAt_53
def wC_X6_keyAt (x0 : Int32) (k : KC) (Q : Nat → KC → Prop) : Prop := ((x0 = (4 : Int32) → Q 6 k) ∧ (x0 = (5 : Int32) → Q 7 k) ∧ (x0 = (6 : Int32) → Q 8 k) ∧ (x0 = (7 : Int32) → Q 9 k) ∧ (x0 = (8 : Int32) → Q 10 k) ∧ (¬ x0 = (4 : Int32) → ¬ x0 = (5 : Int32) → ¬ x0 = (6 : Int32) → ¬ x0 = (7 : Int32) → ¬ x0 = (8 : Int32) → Q 11 k))
set_option maxHeartbeats 4000000 in
set_option maxRecDepth 100000 in
theorem cC_X6_keyAt {l : Launch} {P : EP} {D : va_G} {a : Nat → Nat} {b : Nat → Nat → Nat} {g : Nat → ClassId} {k : KC} {Qp : Nat → KC → Prop} (x0 : Int32) (h : wC_X6_keyAt x0 k Qp) : Dq l P D (tyA g) (wC a b g) yX6_keyAt cX6_keyAt 1 ({ frames := 0, cells := 0, slots := 0, locals := 0 }) "java/lang/String" [.int x0] k (fun r u => ∃ j : Nat, j < 13 ∧ r = some (P.1 j) ∧ Qp j u) := by
  refine Dq_of (by decide) (Nat.le_of_ble_eq_true rfl) ?_
  intro p e s m args below meth c A Z ls C ret hd hl
  have hx := C.1
  have hb := C.2.1
  have hl : lv_has ls 1 [(0, .int x0)] := hl
  replace h : ((x0 = (4 : Int32) → Qp 6 k) ∧ (x0 = (5 : Int32) → Qp 7 k) ∧ (x0 = (6 : Int32) → Qp 8 k) ∧ (x0 = (7 : Int32) → Qp 9 k) ∧ (x0 = (8 : Int32) → Qp 10 k) ∧ (¬ x0 = (4 : Int32) → ¬ x0 = (5 : Int32) → ¬ x0 = (6 : Int32) → ¬ x0 = (7 : Int32) → ¬ x0 = (8 : Int32) → Qp 11 k)) := h
  refine lv_iload_n hx hb dX6_keyAt_0 rfl (lv_at hl 0 rfl) ?_
  by_cases e_1_0 : x0 = (4 : Int32)
  · replace h := h.1 e_1_0
    refine lv_tableIn (off := 35) (tgt := 36) hx hb dX6_keyAt_1 (by rw [e_1_0]; decide) (by rw [e_1_0]; decide) (by rw [e_1_0]; rfl) (by decide) ?_
    refine ldcS C 6 (by decide) dX6_keyAt_36 ?_
    exact ret (v := some (P.1 6)) hd ⟨6, by decide, rfl, h⟩ dX6_keyAt_38
  · by_cases e_1_1 : x0 = (5 : Int32)
    · replace h := h.2.1 e_1_1
      refine lv_tableIn (off := 38) (tgt := 39) hx hb dX6_keyAt_1 (by rw [e_1_1]; decide) (by rw [e_1_1]; decide) (by rw [e_1_1]; rfl) (by decide) ?_
      refine ldcS C 7 (by decide) dX6_keyAt_39 ?_
      exact ret (v := some (P.1 7)) hd ⟨7, by decide, rfl, h⟩ dX6_keyAt_41
    · by_cases e_1_2 : x0 = (6 : Int32)
      · replace h := h.2.2.1 e_1_2
        refine lv_tableIn (off := 41) (tgt := 42) hx hb dX6_keyAt_1 (by rw [e_1_2]; decide) (by rw [e_1_2]; decide) (by rw [e_1_2]; rfl) (by decide) ?_
        refine ldcS C 8 (by decide) dX6_keyAt_42 ?_
        exact ret (v := some (P.1 8)) hd ⟨8, by decide, rfl, h⟩ dX6_keyAt_44
      · by_cases e_1_3 : x0 = (7 : Int32)
        · replace h := h.2.2.2.1 e_1_3
          refine lv_tableIn (off := 44) (tgt := 45) hx hb dX6_keyAt_1 (by rw [e_1_3]; decide) (by rw [e_1_3]; decide) (by rw [e_1_3]; rfl) (by decide) ?_
          refine ldcS C 9 (by decide) dX6_keyAt_45 ?_
          exact ret (v := some (P.1 9)) hd ⟨9, by decide, rfl, h⟩ dX6_keyAt_47
        · by_cases e_1_4 : x0 = (8 : Int32)
          · replace h := h.2.2.2.2.1 e_1_4
            refine lv_tableIn (off := 47) (tgt := 48) hx hb dX6_keyAt_1 (by rw [e_1_4]; decide) (by rw [e_1_4]; decide) (by rw [e_1_4]; rfl) (by decide) ?_
            refine ldcS C 10 (by decide) dX6_keyAt_48 ?_
            exact ret (v := some (P.1 10)) hd ⟨10, by decide, rfl, h⟩ dX6_keyAt_50
          · replace h := h.2.2.2.2.2 e_1_0 e_1_1 e_1_2 e_1_3 e_1_4
            refine lv_tableOut (tgt := 51) hx hb dX6_keyAt_1 (by have n_0 := lv_neT (a := 4) e_1_0 (by decide); have n_1 := lv_neT (a := 5) e_1_1 (by decide); have n_2 := lv_neT (a := 6) e_1_2 (by decide); have n_3 := lv_neT (a := 7) e_1_3 (by decide); have n_4 := lv_neT (a := 8) e_1_4 (by decide); omega) (by decide) ?_
            refine ldcS C 11 (by decide) dX6_keyAt_51 ?_
            exact ret (v := some (P.1 11)) hd ⟨11, by decide, rfl, h⟩ dX6_keyAt_53
def wC_X6_isWord (a : Nat → Nat) (i : Nat) : Nat → Nat → Int32 → KC → (Int32 → KC → Prop) → Prop
  | 0, _, _, _, _ => False
  | n + 1, c, x2, k, Q => match c with
    | 0 => (wC_J0_length_8abf5 i k (fun r_1 k_1 => ((((k.1 6 1) - (k.1 6 3)) = r_1 → wC_X6_isWord a i n 1 (0 : Int32) k_1 Q) ∧ (¬ ((k.1 6 1) - (k.1 6 3)) = r_1 → Q (0 : Int32) k_1))))
    | _ => (wC_J0_length_8abf5 i k (fun r_3 k_3 => ((r_3 ≤ x2 → Q (1 : Int32) k_3) ∧ (¬ r_3 ≤ x2 → (tpC a k_3 ∧ (wC_X4_byteAt ((k_3.1 6 3) + x2) k_3 (fun r_6 k_6 => (wC_J0_charAt_5068e i x2 k_6 (fun r_7 k_7 => ((r_6 = r_7 → wC_X6_isWord a i n 1 (x2 + (1 : Int32)) k_7 Q) ∧ (¬ r_6 = r_7 → Q (0 : Int32) k_7)))))))))))
set_option maxHeartbeats 4000000 in
set_option maxRecDepth 100000 in
theorem cC_X6_isWord {l : Launch} {P : EP} {D : va_G} {a : Nat → Nat} {b : Nat → Nat → Nat} {g : Nat → ClassId} {i : Nat} (hi : i < 13) {k : KC} {Qp : Int32 → KC → Prop} (n : Nat)  (h : wC_X6_isWord a i n 0 0 k Qp) : Dz l P D (tyA g) (wC a b g) yX6_isWord cX6_isWord 3 ({ frames := 4, cells := 0, slots := 0, locals := 85 }) [.ref (a 6), .ref (P.1 i)] k Qp := by
  refine Dz_of (by decide) (Nat.le_of_ble_eq_true rfl) ?_
  intro p e s m args below meth c A Z ls C ret hd hl
  have hx := C.1
  have hb := C.2.1
  have hl : lv_has ls 3 [(0, .ref (a 6)), (1, .ref (P.1 i))] := hl
  have L : ∀ n : Nat, (∀ (x2 : Int32) (k : KC) (H : Heap) (locs : List Loc) (ls : Array Slot), wC_X6_isWord a i n 1 x2 k Qp → Hd D (wC a b g k) A s H locs → lv_has ls 3 [(0, .ref (a 6)), (1, .ref (P.1 i)), (2, .int x2)] → W p l e ({ frames := 4, cells := 0, slots := 0, locals := 85 }) s m args below meth c H locs 0 0 Z (F0 m 20 ls [])) := by
    intro n
    induction n with
    | zero => exact fun _ _ _ _ _ h => h.elim
    | succ n ih =>
      intro x2 k H locs ls h hd hl
      replace h : (wC_J0_length_8abf5 i k (fun r_3 k_3 => ((r_3 ≤ x2 → Qp (1 : Int32) k_3) ∧ (¬ r_3 ≤ x2 → (tpC a k_3 ∧ (wC_X4_byteAt ((k_3.1 6 3) + x2) k_3 (fun r_6 k_6 => (wC_J0_charAt_5068e i x2 k_6 (fun r_7 k_7 => ((r_6 = r_7 → wC_X6_isWord a i n 1 (x2 + (1 : Int32)) k_7 Qp) ∧ (¬ r_6 = r_7 → Qp (0 : Int32) k_7))))))))))) := h
      refine lv_iload_n hx hb dX6_isWord_20 rfl (lv_at hl 2 rfl) ?_
      refine lv_aload_n hx hb dX6_isWord_21 rfl (lv_at hl 1 rfl) ?_
      refine eu_i C hd kwRX6_J0_length_8abf5_121 (cC_J0_length_8abf5 hi h) ⟨rfl, rfl⟩ ⟨by decide, by decide⟩ (RcvH.str C hd hi) hl.1 rfl rfl (Nat.le_of_ble_eq_true rfl) ⟨Nat.zero_le _, Nat.zero_le _⟩ dX6_isWord_22 (fun r_3 k_3 H locs h hd => ?_)
      refine lv_icmp_ge (tgt := 57) hx hb dX6_isWord_25 (by decide) (fun c_4 => ?_) (fun c_4 => ?_)
      · replace h := h.1 c_4
        refine lv_iconst (v := 1) hx hb dX6_isWord_57 (by decide) ?_
        exact ret hd (by decide) h dX6_isWord_58
      · replace h := h.2 c_4
        refine lv_aload_n hx hb dX6_isWord_28 rfl (lv_at hl 0 rfl) ?_
        refine gC6_6_0 C hd dX6_isWord_29 ?_
        refine rf_split (fun e_5 => ?_) (fun x_5 e_5 => ?_)
        · exact absurd ((tpS h.1).symm.trans e_5) (fun z => by cases z)
        have ex_5 := Option.some.inj (e_5.symm.trans (tpS h.1))
        subst ex_5
        replace h := h.2
        refine lv_aload_n hx hb dX6_isWord_32 rfl (lv_at hl 0 rfl) ?_
        refine gC6_6_3 C hd (v := k_3.1 6 3) rfl dX6_isWord_33 ?_
        refine lv_iload_n hx hb dX6_isWord_36 rfl (lv_at hl 2 rfl) ?_
        refine lv_iadd hx hb dX6_isWord_37 ?_
        refine ev_i C hd kwRX6_X4_byteAt_80 (cC_X4_byteAt _ h) ⟨rfl, rfl⟩ ⟨by decide, by decide⟩ rcC4 hl.1 rfl rfl (Nat.le_of_ble_eq_true rfl) ⟨Nat.zero_le _, Nat.zero_le _⟩ dX6_isWord_38 (fun r_6 k_6 H locs h hd => ?_)
        refine lv_aload_n hx hb dX6_isWord_41 rfl (lv_at hl 1 rfl) ?_
        refine lv_iload_n hx hb dX6_isWord_42 rfl (lv_at hl 2 rfl) ?_
        refine eu_c C hd kwRX6_J0_charAt_5068e_124 (cC_J0_charAt_5068e hi _ h) ⟨rfl, rfl⟩ ⟨by decide, by decide⟩ (RcvH.str C hd hi) hl.1 rfl rfl (Nat.le_of_ble_eq_true rfl) ⟨Nat.zero_le _, Nat.zero_le _⟩ dX6_isWord_43 (fun r_7 k_7 H locs hz_7 h hd => ?_)
        refine lv_icmp_eq (tgt := 51) hx hb dX6_isWord_46 (by decide) (fun c_8 => ?_) (fun c_8 => ?_)
        · replace h := h.1 c_8
          refine lv_iinc (v := (x2 + (1 : Int32))) (lv' := [(2, .int (x2 + (1 : Int32))), (0, .ref (a 6)), (1, .ref (P.1 i))]) hx hb dX6_isWord_51 hl (k := 2) rfl rfl (by decide) rfl (fun ls hl => ?_)
          refine lv_goto (tgt := 20) hx hb dX6_isWord_54 (by decide) ?_
          exact ih (x2 + (1 : Int32))  _ _ _ _ h hd (lv_sub hl [1, 2, 0] rfl)
        · replace h := h.2 c_8
          refine lv_iconst (v := 0) hx hb dX6_isWord_49 (by decide) ?_
          exact ret hd (by decide) h dX6_isWord_50
  cases n with
  | zero => exact h.elim
  | succ n =>
    replace h : (wC_J0_length_8abf5 i k (fun r_1 k_1 => ((((k.1 6 1) - (k.1 6 3)) = r_1 → wC_X6_isWord a i n 1 (0 : Int32) k_1 Qp) ∧ (¬ ((k.1 6 1) - (k.1 6 3)) = r_1 → Qp (0 : Int32) k_1)))) := h
    refine lv_aload_n hx hb dX6_isWord_0 rfl (lv_at hl 0 rfl) ?_
    refine gC6_6_1 C hd (v := k.1 6 1) rfl dX6_isWord_1 ?_
    refine lv_aload_n hx hb dX6_isWord_4 rfl (lv_at hl 0 rfl) ?_
    refine gC6_6_3 C hd (v := k.1 6 3) rfl dX6_isWord_5 ?_
    refine lv_isub hx hb dX6_isWord_8 ?_
    refine lv_aload_n hx hb dX6_isWord_9 rfl (lv_at hl 1 rfl) ?_
    refine eu_i C hd kwRX6_J0_length_8abf5_121 (cC_J0_length_8abf5 hi h) ⟨rfl, rfl⟩ ⟨by decide, by decide⟩ (RcvH.str C hd hi) hl.1 rfl rfl (Nat.le_of_ble_eq_true rfl) ⟨Nat.zero_le _, Nat.zero_le _⟩ dX6_isWord_10 (fun r_1 k_1 H locs h hd => ?_)
    refine lv_icmp_eq (tgt := 18) hx hb dX6_isWord_13 (by decide) (fun c_2 => ?_) (fun c_2 => ?_)
    · replace h := h.1 c_2
      refine lv_iconst (v := 0) hx hb dX6_isWord_18 (by decide) ?_
      refine lv_istore_n (lv' := [(2, .int (0 : Int32)), (0, .ref (a 6)), (1, .ref (P.1 i))]) hx hb dX6_isWord_19 rfl hl (by decide) rfl (fun ls hl => ?_)
      exact L n (0 : Int32)  _ _ _ _ h hd (lv_sub hl [1, 2, 0] rfl)
    · replace h := h.2 c_2
      refine lv_iconst (v := 0) hx hb dX6_isWord_16 (by decide) ?_
      exact ret hd (by decide) h dX6_isWord_17
def wC_X6_wordToken (a : Nat → Nat) : Nat → Nat → Int32 → KC → (Int32 → KC → Prop) → Prop
  | 0, _, _, _, _ => False
  | n + 1, c, x1, k, Q => match c with
    | 0 => wC_X6_wordToken a n 1 (0 : Int32) k Q
    | 1 => (((160 : Int32) ≤ x1 → wC_X6_wordToken a n 2 (0 : Int32) k Q) ∧ (¬ (160 : Int32) ≤ x1 → (tpC a k ∧ (wC_X4_byteAt (k.1 6 1) k (fun r_3 k_3 => (wC_X6_isLetter r_3 k_3 (fun r_4 k_4 => ((r_4 = 0 → wC_X6_wordToken a n 2 (0 : Int32) k_4 Q) ∧ (¬ r_4 = 0 → wC_X6_wordToken a n 1 (x1 + (1 : Int32)) (cI k_4 6 1 ((k_4.1 6 1) + (1 : Int32))) Q)))))))))
    | 2 => (((6 : Int32) ≤ x1 → wC_X6_wordToken a n 3 (4 : Int32) k Q) ∧ (¬ (6 : Int32) ≤ x1 → (wC_X6_nameAt x1 k (fun j_7 k_7 => (∃ n_8 : Nat, wC_X6_isWord a j_7 n_8 0 0 k_7 (fun r_8 k_8 => ((r_8 = 0 → wC_X6_wordToken a n 2 (x1 + (1 : Int32)) k_8 Q) ∧ (¬ r_8 = 0 → Q (3 : Int32) (cI k_8 6 4 ((-1 : Int32) - x1))))))))))
    | _ => (((9 : Int32) < x1 → Q (1 : Int32) k) ∧ (¬ (9 : Int32) < x1 → (wC_X6_keyAt x1 k (fun j_11 k_11 => (∃ n_12 : Nat, wC_X6_isWord a j_11 n_12 0 0 k_11 (fun r_12 k_12 => ((r_12 = 0 → wC_X6_wordToken a n 3 (x1 + (1 : Int32)) k_12 Q) ∧ (¬ r_12 = 0 → Q x1 k_12))))))))
set_option maxHeartbeats 4000000 in
set_option maxRecDepth 100000 in
theorem cC_X6_wordToken {l : Launch} {P : EP} {D : va_G} {a : Nat → Nat} {b : Nat → Nat → Nat} {g : Nat → ClassId} {k : KC} {Qp : Int32 → KC → Prop} (n : Nat)  (h : wC_X6_wordToken a n 0 0 k Qp) : Di l P D (tyA g) (wC a b g) yX6_wordToken cX6_wordToken 2 ({ frames := 5, cells := 0, slots := 0, locals := 107 }) [.ref (a 6)] k Qp := by
  refine Di_of (by decide) (Nat.le_of_ble_eq_true rfl) ?_
  intro p e s m args below meth c A Z ls C ret hd hl
  have hx := C.1
  have hb := C.2.1
  have hl : lv_has ls 2 [(0, .ref (a 6))] := hl
  have L : ∀ n : Nat, (∀ (x1 : Int32) (k : KC) (H : Heap) (locs : List Loc) (ls : Array Slot), wC_X6_wordToken a n 1 x1 k Qp → Hd D (wC a b g k) A s H locs → lv_has ls 2 [(0, .ref (a 6)), (1, .int x1)] → W p l e ({ frames := 5, cells := 0, slots := 0, locals := 107 }) s m args below meth c H locs 0 0 Z (F0 m 2 ls [])) ∧ (∀ (x1 : Int32) (k : KC) (H : Heap) (locs : List Loc) (ls : Array Slot), wC_X6_wordToken a n 2 x1 k Qp → Hd D (wC a b g k) A s H locs → lv_has ls 2 [(0, .ref (a 6)), (1, .int x1)] → W p l e ({ frames := 5, cells := 0, slots := 0, locals := 107 }) s m args below meth c H locs 0 0 Z (F0 m 44 ls [])) ∧ (∀ (x1 : Int32) (k : KC) (H : Heap) (locs : List Loc) (ls : Array Slot), wC_X6_wordToken a n 3 x1 k Qp → Hd D (wC a b g k) A s H locs → lv_has ls 2 [(0, .ref (a 6)), (1, .int x1)] → W p l e ({ frames := 5, cells := 0, slots := 0, locals := 107 }) s m args below meth c H locs 0 0 Z (F0 m 78 ls [])) := by
    intro n
    induction n with
    | zero => exact ⟨fun _ _ _ _ _ h => h.elim, fun _ _ _ _ _ h => h.elim, fun _ _ _ _ _ h => h.elim⟩
    | succ n ih =>
      refine ⟨?_, ?_, ?_⟩
      · intro x1 k H locs ls h hd hl
        replace h : (((160 : Int32) ≤ x1 → wC_X6_wordToken a n 2 (0 : Int32) k Qp) ∧ (¬ (160 : Int32) ≤ x1 → (tpC a k ∧ (wC_X4_byteAt (k.1 6 1) k (fun r_3 k_3 => (wC_X6_isLetter r_3 k_3 (fun r_4 k_4 => ((r_4 = 0 → wC_X6_wordToken a n 2 (0 : Int32) k_4 Qp) ∧ (¬ r_4 = 0 → wC_X6_wordToken a n 1 (x1 + (1 : Int32)) (cI k_4 6 1 ((k_4.1 6 1) + (1 : Int32))) Qp))))))))) := h
        refine lv_iload_n hx hb dX6_wordToken_2 rfl (lv_at hl 1 rfl) ?_
        refine lv_sipush (v := 160) hx hb dX6_wordToken_3 (by decide) ?_
        refine lv_icmp_ge (tgt := 42) hx hb dX6_wordToken_6 (by decide) (fun c_1 => ?_) (fun c_1 => ?_)
        · replace h := h.1 c_1
          refine lv_iconst (v := 0) hx hb dX6_wordToken_42 (by decide) ?_
          refine lv_istore_n (lv' := [(1, .int (0 : Int32)), (0, .ref (a 6))]) hx hb dX6_wordToken_43 rfl hl (by decide) rfl (fun ls hl => ?_)
          exact (ih).2.1 (0 : Int32)  _ _ _ _ h hd (lv_sub hl [1, 0] rfl)
        · replace h := h.2 c_1
          refine lv_aload_n hx hb dX6_wordToken_9 rfl (lv_at hl 0 rfl) ?_
          refine gC6_6_0 C hd dX6_wordToken_10 ?_
          refine rf_split (fun e_2 => ?_) (fun x_2 e_2 => ?_)
          · exact absurd ((tpS h.1).symm.trans e_2) (fun z => by cases z)
          have ex_2 := Option.some.inj (e_2.symm.trans (tpS h.1))
          subst ex_2
          replace h := h.2
          refine lv_aload_n hx hb dX6_wordToken_13 rfl (lv_at hl 0 rfl) ?_
          refine gC6_6_1 C hd (v := k.1 6 1) rfl dX6_wordToken_14 ?_
          refine ev_i C hd kwRX6_X4_byteAt_80 (cC_X4_byteAt _ h) ⟨rfl, rfl⟩ ⟨by decide, by decide⟩ rcC4 hl.1 rfl rfl (Nat.le_of_ble_eq_true rfl) ⟨Nat.zero_le _, Nat.zero_le _⟩ dX6_wordToken_17 (fun r_3 k_3 H locs h hd => ?_)
          refine es_z C hd kwRX6_X6_isLetter_90 (cC_X6_isLetter _ h) ⟨rfl, rfl⟩ ⟨by decide, by decide⟩ hl.1 rfl rfl (Nat.le_of_ble_eq_true rfl) ⟨Nat.zero_le _, Nat.zero_le _⟩ dX6_wordToken_20 (fun r_4 k_4 H locs hz_4 h hd => ?_)
          refine lv_if_eq (tgt := 42) hx hb dX6_wordToken_23 (by decide) (fun c_5 => ?_) (fun c_5 => ?_)
          · replace h := h.1 c_5
            refine lv_iconst (v := 0) hx hb dX6_wordToken_42 (by decide) ?_
            refine lv_istore_n (lv' := [(1, .int (0 : Int32)), (0, .ref (a 6))]) hx hb dX6_wordToken_43 rfl hl (by decide) rfl (fun ls hl => ?_)
            exact (ih).2.1 (0 : Int32)  _ _ _ _ h hd (lv_sub hl [1, 0] rfl)
          · replace h := h.2 c_5
            refine lv_aload_n hx hb dX6_wordToken_26 rfl (lv_at hl 0 rfl) ?_
            refine lv_dup hx hb dX6_wordToken_27 rfl ?_
            refine gC6_6_1 C hd (v := k_4.1 6 1) rfl dX6_wordToken_28 ?_
            refine lv_iconst (v := 1) hx hb dX6_wordToken_31 (by decide) ?_
            refine lv_iadd hx hb dX6_wordToken_32 ?_
            refine pC6_6_1 C hd dX6_wordToken_33 (fun H locs hd => ?_)
            refine lv_iinc (v := (x1 + (1 : Int32))) (lv' := [(1, .int (x1 + (1 : Int32))), (0, .ref (a 6))]) hx hb dX6_wordToken_36 hl (k := 1) rfl rfl (by decide) rfl (fun ls hl => ?_)
            refine lv_goto (tgt := 2) hx hb dX6_wordToken_39 (by decide) ?_
            exact (ih).1 (x1 + (1 : Int32))  _ _ _ _ h hd (lv_sub hl [1, 0] rfl)
      · intro x1 k H locs ls h hd hl
        replace h : (((6 : Int32) ≤ x1 → wC_X6_wordToken a n 3 (4 : Int32) k Qp) ∧ (¬ (6 : Int32) ≤ x1 → (wC_X6_nameAt x1 k (fun j_7 k_7 => (∃ n_8 : Nat, wC_X6_isWord a j_7 n_8 0 0 k_7 (fun r_8 k_8 => ((r_8 = 0 → wC_X6_wordToken a n 2 (x1 + (1 : Int32)) k_8 Qp) ∧ (¬ r_8 = 0 → Qp (3 : Int32) (cI k_8 6 4 ((-1 : Int32) - x1)))))))))) := h
        refine lv_iload_n hx hb dX6_wordToken_44 rfl (lv_at hl 1 rfl) ?_
        refine lv_bipush (v := 6) hx hb dX6_wordToken_45 (by decide) ?_
        refine lv_icmp_ge (tgt := 76) hx hb dX6_wordToken_47 (by decide) (fun c_6 => ?_) (fun c_6 => ?_)
        · replace h := h.1 c_6
          refine lv_iconst (v := 4) hx hb dX6_wordToken_76 (by decide) ?_
          refine lv_istore_n (lv' := [(1, .int (4 : Int32)), (0, .ref (a 6))]) hx hb dX6_wordToken_77 rfl hl (by decide) rfl (fun ls hl => ?_)
          exact (ih).2.2 (4 : Int32)  _ _ _ _ h hd (lv_sub hl [1, 0] rfl)
        · replace h := h.2 c_6
          refine lv_aload_n hx hb dX6_wordToken_50 rfl (lv_at hl 0 rfl) ?_
          refine lv_iload_n hx hb dX6_wordToken_51 rfl (lv_at hl 1 rfl) ?_
          refine es_q C hd kwRX6_X6_nameAt_110 (cC_X6_nameAt _ h) ⟨rfl, rfl⟩ ⟨by decide, by decide⟩ hl.1 rfl rfl (Nat.le_of_ble_eq_true rfl) ⟨Nat.zero_le _, Nat.zero_le _⟩ dX6_wordToken_52 (fun r_7 k_7 H locs h hd => ?_)
          obtain ⟨j_7, hj_7, er_7, h⟩ := h
          subst er_7
          obtain ⟨n_8, h⟩ := h
          refine ev_z C hd kwRX6_X6_isWord_114 (cC_X6_isWord hj_7 n_8 h) ⟨rfl, rfl⟩ ⟨by decide, by decide⟩ rcC6 hl.1 rfl rfl (Nat.le_of_ble_eq_true rfl) ⟨Nat.zero_le _, Nat.zero_le _⟩ dX6_wordToken_55 (fun r_8 k_8 H locs hz_8 h hd => ?_)
          refine lv_if_eq (tgt := 70) hx hb dX6_wordToken_58 (by decide) (fun c_9 => ?_) (fun c_9 => ?_)
          · replace h := h.1 c_9
            refine lv_iinc (v := (x1 + (1 : Int32))) (lv' := [(1, .int (x1 + (1 : Int32))), (0, .ref (a 6))]) hx hb dX6_wordToken_70 hl (k := 1) rfl rfl (by decide) rfl (fun ls hl => ?_)
            refine lv_goto (tgt := 44) hx hb dX6_wordToken_73 (by decide) ?_
            exact (ih).2.1 (x1 + (1 : Int32))  _ _ _ _ h hd (lv_sub hl [1, 0] rfl)
          · replace h := h.2 c_9
            refine lv_aload_n hx hb dX6_wordToken_61 rfl (lv_at hl 0 rfl) ?_
            refine lv_iconst (v := -1) hx hb dX6_wordToken_62 (by decide) ?_
            refine lv_iload_n hx hb dX6_wordToken_63 rfl (lv_at hl 1 rfl) ?_
            refine lv_isub hx hb dX6_wordToken_64 ?_
            refine pC6_6_4 C hd dX6_wordToken_65 (fun H locs hd => ?_)
            refine lv_iconst (v := 3) hx hb dX6_wordToken_68 (by decide) ?_
            exact ret hd h dX6_wordToken_69
      · intro x1 k H locs ls h hd hl
        replace h : (((9 : Int32) < x1 → Qp (1 : Int32) k) ∧ (¬ (9 : Int32) < x1 → (wC_X6_keyAt x1 k (fun j_11 k_11 => (∃ n_12 : Nat, wC_X6_isWord a j_11 n_12 0 0 k_11 (fun r_12 k_12 => ((r_12 = 0 → wC_X6_wordToken a n 3 (x1 + (1 : Int32)) k_12 Qp) ∧ (¬ r_12 = 0 → Qp x1 k_12)))))))) := h
        refine lv_iload_n hx hb dX6_wordToken_78 rfl (lv_at hl 1 rfl) ?_
        refine lv_bipush (v := 9) hx hb dX6_wordToken_79 (by decide) ?_
        refine lv_icmp_gt (tgt := 103) hx hb dX6_wordToken_81 (by decide) (fun c_10 => ?_) (fun c_10 => ?_)
        · replace h := h.1 c_10
          refine lv_iconst (v := 1) hx hb dX6_wordToken_103 (by decide) ?_
          exact ret hd h dX6_wordToken_104
        · replace h := h.2 c_10
          refine lv_aload_n hx hb dX6_wordToken_84 rfl (lv_at hl 0 rfl) ?_
          refine lv_iload_n hx hb dX6_wordToken_85 rfl (lv_at hl 1 rfl) ?_
          refine es_q C hd kwRX6_X6_keyAt_118 (cC_X6_keyAt _ h) ⟨rfl, rfl⟩ ⟨by decide, by decide⟩ hl.1 rfl rfl (Nat.le_of_ble_eq_true rfl) ⟨Nat.zero_le _, Nat.zero_le _⟩ dX6_wordToken_86 (fun r_11 k_11 H locs h hd => ?_)
          obtain ⟨j_11, hj_11, er_11, h⟩ := h
          subst er_11
          obtain ⟨n_12, h⟩ := h
          refine ev_z C hd kwRX6_X6_isWord_114 (cC_X6_isWord hj_11 n_12 h) ⟨rfl, rfl⟩ ⟨by decide, by decide⟩ rcC6 hl.1 rfl rfl (Nat.le_of_ble_eq_true rfl) ⟨Nat.zero_le _, Nat.zero_le _⟩ dX6_wordToken_89 (fun r_12 k_12 H locs hz_12 h hd => ?_)
          refine lv_if_eq (tgt := 97) hx hb dX6_wordToken_92 (by decide) (fun c_13 => ?_) (fun c_13 => ?_)
          · replace h := h.1 c_13
            refine lv_iinc (v := (x1 + (1 : Int32))) (lv' := [(1, .int (x1 + (1 : Int32))), (0, .ref (a 6))]) hx hb dX6_wordToken_97 hl (k := 1) rfl rfl (by decide) rfl (fun ls hl => ?_)
            refine lv_goto (tgt := 78) hx hb dX6_wordToken_100 (by decide) ?_
            exact (ih).2.2 (x1 + (1 : Int32))  _ _ _ _ h hd (lv_sub hl [1, 0] rfl)
          · replace h := h.2 c_13
            refine lv_iload_n hx hb dX6_wordToken_95 rfl (lv_at hl 1 rfl) ?_
            exact ret hd h dX6_wordToken_96
  cases n with
  | zero => exact h.elim
  | succ n =>
    replace h : wC_X6_wordToken a n 1 (0 : Int32) k Qp := h
    refine lv_iconst (v := 0) hx hb dX6_wordToken_0 (by decide) ?_
    refine lv_istore_n (lv' := [(1, .int (0 : Int32)), (0, .ref (a 6))]) hx hb dX6_wordToken_1 rfl hl (by decide) rfl (fun ls hl => ?_)
    exact (L n).1 (0 : Int32)  _ _ _ _ h hd (lv_sub hl [1, 0] rfl)
def wC_X6_advance (a : Nat → Nat) : Nat → Nat → Int32 → KC → (KC → Prop) → Prop
  | 0, _, _, _, _ => False
  | n + 1, c, x1, k, Q => match c with
    | 0 => (((k.1 6 7) = (-1 : Int32) → wC_X6_advance a n 1 (0 : Int32) k Q) ∧ (¬ (k.1 6 7) = (-1 : Int32) → Q k))
    | _ => (((160 : Int32) ≤ x1 → (tpC a k ∧ (wC_X4_byteAt (k.1 6 1) (cI k 6 3 (k.1 6 1)) (fun r_4 k_4 => ((¬ r_4 = (-1 : Int32) → (wC_X6_isLetter r_4 k_4 (fun r_6 k_6 => ((r_6 = 0 → (wC_X6_isDigit r_4 k_6 (fun r_8 k_8 => ((r_8 = 0 → (wC_J0_indexOf_0f7a4 12 ((r_4.toUInt32 % 65536).toInt32) (cI k_8 6 1 ((k_8.1 6 1) + (1 : Int32))) (fun r_10 k_10 => ((r_10 < 0 → Q (cI k_10 6 2 (1 : Int32))) ∧ (¬ r_10 < 0 → Q (cI k_10 6 2 r_4)))))) ∧ (¬ r_8 = 0 → (∃ n_12 : Nat, wC_X6_numberToken a n_12 0 0 k_8 (fun r_12 k_12 => Q (cI k_12 6 2 r_12)))))))) ∧ (¬ r_6 = 0 → (∃ n_13 : Nat, wC_X6_wordToken a n_13 0 0 k_6 (fun r_13 k_13 => Q (cI k_13 6 2 r_13)))))))) ∧ (r_4 = (-1 : Int32) → Q (cI k_4 6 2 (0 : Int32)))))))) ∧ (¬ (160 : Int32) ≤ x1 → (tpC a k ∧ (wC_X4_byteAt (k.1 6 1) k (fun r_15 k_15 => (wC_X6_isBlank r_15 k_15 (fun r_16 k_16 => ((r_16 = 0 → (tpC a k_16 ∧ (wC_X4_byteAt (k_16.1 6 1) (cI k_16 6 3 (k_16.1 6 1)) (fun r_19 k_19 => ((¬ r_19 = (-1 : Int32) → (wC_X6_isLetter r_19 k_19 (fun r_21 k_21 => ((r_21 = 0 → (wC_X6_isDigit r_19 k_21 (fun r_23 k_23 => ((r_23 = 0 → (wC_J0_indexOf_0f7a4 12 ((r_19.toUInt32 % 65536).toInt32) (cI k_23 6 1 ((k_23.1 6 1) + (1 : Int32))) (fun r_25 k_25 => ((r_25 < 0 → Q (cI k_25 6 2 (1 : Int32))) ∧ (¬ r_25 < 0 → Q (cI k_25 6 2 r_19)))))) ∧ (¬ r_23 = 0 → (∃ n_27 : Nat, wC_X6_numberToken a n_27 0 0 k_23 (fun r_27 k_27 => Q (cI k_27 6 2 r_27)))))))) ∧ (¬ r_21 = 0 → (∃ n_28 : Nat, wC_X6_wordToken a n_28 0 0 k_21 (fun r_28 k_28 => Q (cI k_28 6 2 r_28)))))))) ∧ (r_19 = (-1 : Int32) → Q (cI k_19 6 2 (0 : Int32)))))))) ∧ (¬ r_16 = 0 → wC_X6_advance a n 1 (x1 + (1 : Int32)) (cI k_16 6 1 ((k_16.1 6 1) + (1 : Int32))) Q)))))))))
set_option maxHeartbeats 4000000 in
set_option maxRecDepth 100000 in
theorem cC_X6_advance {l : Launch} {P : EP} {D : va_G} {a : Nat → Nat} {b : Nat → Nat → Nat} {g : Nat → ClassId} {k : KC} {Qp : KC → Prop} (n : Nat)  (h : wC_X6_advance a n 0 0 k Qp) : Dv l P D (tyA g) (wC a b g) yX6_advance cX6_advance 2 ({ frames := 6, cells := 0, slots := 0, locals := 128 }) [.ref (a 6)] k Qp := by
  refine Dv_of (by decide) (Nat.le_of_ble_eq_true rfl) ?_
  intro p e s m args below meth c A Z ls C ret hd hl
  have hx := C.1
  have hb := C.2.1
  have hl : lv_has ls 2 [(0, .ref (a 6))] := hl
  have L : ∀ n : Nat, (∀ (x1 : Int32) (k : KC) (H : Heap) (locs : List Loc) (ls : Array Slot), wC_X6_advance a n 1 x1 k Qp → Hd D (wC a b g k) A s H locs → lv_has ls 2 [(0, .ref (a 6)), (1, .int x1)] → W p l e ({ frames := 6, cells := 0, slots := 0, locals := 128 }) s m args below meth c H locs 0 0 Z (F0 m 11 ls [])) := by
    intro n
    induction n with
    | zero => exact fun _ _ _ _ _ h => h.elim
    | succ n ih =>
      intro x1 k H locs ls h hd hl
      replace h : (((160 : Int32) ≤ x1 → (tpC a k ∧ (wC_X4_byteAt (k.1 6 1) (cI k 6 3 (k.1 6 1)) (fun r_4 k_4 => ((¬ r_4 = (-1 : Int32) → (wC_X6_isLetter r_4 k_4 (fun r_6 k_6 => ((r_6 = 0 → (wC_X6_isDigit r_4 k_6 (fun r_8 k_8 => ((r_8 = 0 → (wC_J0_indexOf_0f7a4 12 ((r_4.toUInt32 % 65536).toInt32) (cI k_8 6 1 ((k_8.1 6 1) + (1 : Int32))) (fun r_10 k_10 => ((r_10 < 0 → Qp (cI k_10 6 2 (1 : Int32))) ∧ (¬ r_10 < 0 → Qp (cI k_10 6 2 r_4)))))) ∧ (¬ r_8 = 0 → (∃ n_12 : Nat, wC_X6_numberToken a n_12 0 0 k_8 (fun r_12 k_12 => Qp (cI k_12 6 2 r_12)))))))) ∧ (¬ r_6 = 0 → (∃ n_13 : Nat, wC_X6_wordToken a n_13 0 0 k_6 (fun r_13 k_13 => Qp (cI k_13 6 2 r_13)))))))) ∧ (r_4 = (-1 : Int32) → Qp (cI k_4 6 2 (0 : Int32)))))))) ∧ (¬ (160 : Int32) ≤ x1 → (tpC a k ∧ (wC_X4_byteAt (k.1 6 1) k (fun r_15 k_15 => (wC_X6_isBlank r_15 k_15 (fun r_16 k_16 => ((r_16 = 0 → (tpC a k_16 ∧ (wC_X4_byteAt (k_16.1 6 1) (cI k_16 6 3 (k_16.1 6 1)) (fun r_19 k_19 => ((¬ r_19 = (-1 : Int32) → (wC_X6_isLetter r_19 k_19 (fun r_21 k_21 => ((r_21 = 0 → (wC_X6_isDigit r_19 k_21 (fun r_23 k_23 => ((r_23 = 0 → (wC_J0_indexOf_0f7a4 12 ((r_19.toUInt32 % 65536).toInt32) (cI k_23 6 1 ((k_23.1 6 1) + (1 : Int32))) (fun r_25 k_25 => ((r_25 < 0 → Qp (cI k_25 6 2 (1 : Int32))) ∧ (¬ r_25 < 0 → Qp (cI k_25 6 2 r_19)))))) ∧ (¬ r_23 = 0 → (∃ n_27 : Nat, wC_X6_numberToken a n_27 0 0 k_23 (fun r_27 k_27 => Qp (cI k_27 6 2 r_27)))))))) ∧ (¬ r_21 = 0 → (∃ n_28 : Nat, wC_X6_wordToken a n_28 0 0 k_21 (fun r_28 k_28 => Qp (cI k_28 6 2 r_28)))))))) ∧ (r_19 = (-1 : Int32) → Qp (cI k_19 6 2 (0 : Int32)))))))) ∧ (¬ r_16 = 0 → wC_X6_advance a n 1 (x1 + (1 : Int32)) (cI k_16 6 1 ((k_16.1 6 1) + (1 : Int32))) Qp))))))))) := h
      refine lv_iload_n hx hb dX6_advance_11 rfl (lv_at hl 1 rfl) ?_
      refine lv_sipush (v := 160) hx hb dX6_advance_12 (by decide) ?_
      refine lv_icmp_ge (tgt := 51) hx hb dX6_advance_15 (by decide) (fun c_2 => ?_) (fun c_2 => ?_)
      · replace h := h.1 c_2
        refine lv_aload_n hx hb dX6_advance_51 rfl (lv_at hl 0 rfl) ?_
        refine lv_aload_n hx hb dX6_advance_52 rfl (lv_at hl 0 rfl) ?_
        refine gC6_6_1 C hd (v := k.1 6 1) rfl dX6_advance_53 ?_
        refine pC6_6_3 C hd dX6_advance_56 (fun H locs hd => ?_)
        refine lv_aload_n hx hb dX6_advance_59 rfl (lv_at hl 0 rfl) ?_
        refine gC6_6_0 C hd dX6_advance_60 ?_
        refine rf_split (fun e_3 => ?_) (fun x_3 e_3 => ?_)
        · exact absurd ((tpS h.1).symm.trans e_3) (fun z => by cases z)
        have ex_3 := Option.some.inj (e_3.symm.trans (tpS h.1))
        subst ex_3
        replace h := h.2
        refine lv_aload_n hx hb dX6_advance_63 rfl (lv_at hl 0 rfl) ?_
        refine gC6_6_1 C hd (v := k.1 6 1) rfl dX6_advance_64 ?_
        refine ev_i C hd kwRX6_X4_byteAt_80 (cC_X4_byteAt _ h) ⟨rfl, rfl⟩ ⟨by decide, by decide⟩ rcC4 hl.1 rfl rfl (Nat.le_of_ble_eq_true rfl) ⟨Nat.zero_le _, Nat.zero_le _⟩ dX6_advance_67 (fun r_4 k_4 H locs h hd => ?_)
        refine lv_istore_n (lv' := [(1, .int r_4), (0, .ref (a 6))]) hx hb dX6_advance_70 rfl hl (by decide) rfl (fun ls hl => ?_)
        refine lv_iload_n hx hb dX6_advance_71 rfl (lv_at hl 0 rfl) ?_
        refine lv_iconst (v := -1) hx hb dX6_advance_72 (by decide) ?_
        refine lv_icmp_ne (tgt := 84) hx hb dX6_advance_73 (by decide) (fun c_5 => ?_) (fun c_5 => ?_)
        · replace h := h.1 c_5
          refine lv_iload_n hx hb dX6_advance_84 rfl (lv_at hl 0 rfl) ?_
          refine es_z C hd kwRX6_X6_isLetter_90 (cC_X6_isLetter _ h) ⟨rfl, rfl⟩ ⟨by decide, by decide⟩ hl.1 rfl rfl (Nat.le_of_ble_eq_true rfl) ⟨Nat.zero_le _, Nat.zero_le _⟩ dX6_advance_85 (fun r_6 k_6 H locs hz_6 h hd => ?_)
          refine lv_if_eq (tgt := 102) hx hb dX6_advance_88 (by decide) (fun c_7 => ?_) (fun c_7 => ?_)
          · replace h := h.1 c_7
            refine lv_iload_n hx hb dX6_advance_102 rfl (lv_at hl 0 rfl) ?_
            refine es_z C hd kwRX6_X6_isDigit_97 (cC_X6_isDigit _ h) ⟨rfl, rfl⟩ ⟨by decide, by decide⟩ hl.1 rfl rfl (Nat.le_of_ble_eq_true rfl) ⟨Nat.zero_le _, Nat.zero_le _⟩ dX6_advance_103 (fun r_8 k_8 H locs hz_8 h hd => ?_)
            refine lv_if_eq (tgt := 120) hx hb dX6_advance_106 (by decide) (fun c_9 => ?_) (fun c_9 => ?_)
            · replace h := h.1 c_9
              refine lv_aload_n hx hb dX6_advance_120 rfl (lv_at hl 1 rfl) ?_
              refine lv_dup hx hb dX6_advance_121 rfl ?_
              refine gC6_6_1 C hd (v := k_8.1 6 1) rfl dX6_advance_122 ?_
              refine lv_iconst (v := 1) hx hb dX6_advance_125 (by decide) ?_
              refine lv_iadd hx hb dX6_advance_126 ?_
              refine pC6_6_1 C hd dX6_advance_127 (fun H locs hd => ?_)
              refine lv_aload_n hx hb dX6_advance_130 rfl (lv_at hl 1 rfl) ?_
              refine ldcS C 12 (by decide) dX6_advance_131 ?_
              refine lv_iload_n hx hb dX6_advance_133 rfl (lv_at hl 0 rfl) ?_
              refine lv_i2c (v := (r_4.toUInt32 % 65536).toInt32) hx hb dX6_advance_134 rfl ?_
              refine eu_i C hd kwRX6_J0_indexOf_0f7a4_105 (cC_J0_indexOf_0f7a4 (by decide) _ h) ⟨rfl, rfl⟩ ⟨by decide, by decide⟩ (RcvH.str C hd (by decide)) hl.1 rfl rfl (Nat.le_of_ble_eq_true rfl) ⟨Nat.zero_le _, Nat.zero_le _⟩ dX6_advance_135 (fun r_10 k_10 H locs h hd => ?_)
              refine lv_if_lt (tgt := 145) hx hb dX6_advance_138 (by decide) (fun c_11 => ?_) (fun c_11 => ?_)
              · replace h := h.1 c_11
                refine lv_iconst (v := 1) hx hb dX6_advance_145 (by decide) ?_
                refine pC6_6_2 C hd dX6_advance_146 (fun H locs hd => ?_)
                exact ret hd h dX6_advance_149
              · replace h := h.2 c_11
                refine lv_iload_n hx hb dX6_advance_141 rfl (lv_at hl 0 rfl) ?_
                refine lv_goto (tgt := 146) hx hb dX6_advance_142 (by decide) ?_
                refine pC6_6_2 C hd dX6_advance_146 (fun H locs hd => ?_)
                exact ret hd h dX6_advance_149
            · replace h := h.2 c_9
              refine lv_aload_n hx hb dX6_advance_109 rfl (lv_at hl 1 rfl) ?_
              refine lv_aload_n hx hb dX6_advance_110 rfl (lv_at hl 1 rfl) ?_
              obtain ⟨n_12, h⟩ := h
              refine ev_i C hd kwRX6_X6_numberToken_100 (cC_X6_numberToken n_12 h) ⟨rfl, rfl⟩ ⟨by decide, by decide⟩ rcC6 hl.1 rfl rfl (Nat.le_of_ble_eq_true rfl) ⟨Nat.zero_le _, Nat.zero_le _⟩ dX6_advance_111 (fun r_12 k_12 H locs h hd => ?_)
              refine pC6_6_2 C hd dX6_advance_114 (fun H locs hd => ?_)
              refine lv_goto (tgt := 149) hx hb dX6_advance_117 (by decide) ?_
              exact ret hd h dX6_advance_149
          · replace h := h.2 c_7
            refine lv_aload_n hx hb dX6_advance_91 rfl (lv_at hl 1 rfl) ?_
            refine lv_aload_n hx hb dX6_advance_92 rfl (lv_at hl 1 rfl) ?_
            obtain ⟨n_13, h⟩ := h
            refine ev_i C hd kwRX6_X6_wordToken_93 (cC_X6_wordToken n_13 h) ⟨rfl, rfl⟩ ⟨by decide, by decide⟩ rcC6 hl.1 rfl rfl (Nat.le_of_ble_eq_true rfl) ⟨Nat.zero_le _, Nat.zero_le _⟩ dX6_advance_93 (fun r_13 k_13 H locs h hd => ?_)
            refine pC6_6_2 C hd dX6_advance_96 (fun H locs hd => ?_)
            refine lv_goto (tgt := 149) hx hb dX6_advance_99 (by decide) ?_
            exact ret hd h dX6_advance_149
        · replace h := h.2 c_5
          refine lv_aload_n hx hb dX6_advance_76 rfl (lv_at hl 1 rfl) ?_
          refine lv_iconst (v := 0) hx hb dX6_advance_77 (by decide) ?_
          refine pC6_6_2 C hd dX6_advance_78 (fun H locs hd => ?_)
          refine lv_goto (tgt := 149) hx hb dX6_advance_81 (by decide) ?_
          exact ret hd h dX6_advance_149
      · replace h := h.2 c_2
        refine lv_aload_n hx hb dX6_advance_18 rfl (lv_at hl 0 rfl) ?_
        refine gC6_6_0 C hd dX6_advance_19 ?_
        refine rf_split (fun e_14 => ?_) (fun x_14 e_14 => ?_)
        · exact absurd ((tpS h.1).symm.trans e_14) (fun z => by cases z)
        have ex_14 := Option.some.inj (e_14.symm.trans (tpS h.1))
        subst ex_14
        replace h := h.2
        refine lv_aload_n hx hb dX6_advance_22 rfl (lv_at hl 0 rfl) ?_
        refine gC6_6_1 C hd (v := k.1 6 1) rfl dX6_advance_23 ?_
        refine ev_i C hd kwRX6_X4_byteAt_80 (cC_X4_byteAt _ h) ⟨rfl, rfl⟩ ⟨by decide, by decide⟩ rcC4 hl.1 rfl rfl (Nat.le_of_ble_eq_true rfl) ⟨Nat.zero_le _, Nat.zero_le _⟩ dX6_advance_26 (fun r_15 k_15 H locs h hd => ?_)
        refine es_z C hd kwRX6_X6_isBlank_86 (cC_X6_isBlank _ h) ⟨rfl, rfl⟩ ⟨by decide, by decide⟩ hl.1 rfl rfl (Nat.le_of_ble_eq_true rfl) ⟨Nat.zero_le _, Nat.zero_le _⟩ dX6_advance_29 (fun r_16 k_16 H locs hz_16 h hd => ?_)
        refine lv_if_eq (tgt := 51) hx hb dX6_advance_32 (by decide) (fun c_17 => ?_) (fun c_17 => ?_)
        · replace h := h.1 c_17
          refine lv_aload_n hx hb dX6_advance_51 rfl (lv_at hl 0 rfl) ?_
          refine lv_aload_n hx hb dX6_advance_52 rfl (lv_at hl 0 rfl) ?_
          refine gC6_6_1 C hd (v := k_16.1 6 1) rfl dX6_advance_53 ?_
          refine pC6_6_3 C hd dX6_advance_56 (fun H locs hd => ?_)
          refine lv_aload_n hx hb dX6_advance_59 rfl (lv_at hl 0 rfl) ?_
          refine gC6_6_0 C hd dX6_advance_60 ?_
          refine rf_split (fun e_18 => ?_) (fun x_18 e_18 => ?_)
          · exact absurd ((tpS h.1).symm.trans e_18) (fun z => by cases z)
          have ex_18 := Option.some.inj (e_18.symm.trans (tpS h.1))
          subst ex_18
          replace h := h.2
          refine lv_aload_n hx hb dX6_advance_63 rfl (lv_at hl 0 rfl) ?_
          refine gC6_6_1 C hd (v := k_16.1 6 1) rfl dX6_advance_64 ?_
          refine ev_i C hd kwRX6_X4_byteAt_80 (cC_X4_byteAt _ h) ⟨rfl, rfl⟩ ⟨by decide, by decide⟩ rcC4 hl.1 rfl rfl (Nat.le_of_ble_eq_true rfl) ⟨Nat.zero_le _, Nat.zero_le _⟩ dX6_advance_67 (fun r_19 k_19 H locs h hd => ?_)
          refine lv_istore_n (lv' := [(1, .int r_19), (0, .ref (a 6))]) hx hb dX6_advance_70 rfl hl (by decide) rfl (fun ls hl => ?_)
          refine lv_iload_n hx hb dX6_advance_71 rfl (lv_at hl 0 rfl) ?_
          refine lv_iconst (v := -1) hx hb dX6_advance_72 (by decide) ?_
          refine lv_icmp_ne (tgt := 84) hx hb dX6_advance_73 (by decide) (fun c_20 => ?_) (fun c_20 => ?_)
          · replace h := h.1 c_20
            refine lv_iload_n hx hb dX6_advance_84 rfl (lv_at hl 0 rfl) ?_
            refine es_z C hd kwRX6_X6_isLetter_90 (cC_X6_isLetter _ h) ⟨rfl, rfl⟩ ⟨by decide, by decide⟩ hl.1 rfl rfl (Nat.le_of_ble_eq_true rfl) ⟨Nat.zero_le _, Nat.zero_le _⟩ dX6_advance_85 (fun r_21 k_21 H locs hz_21 h hd => ?_)
            refine lv_if_eq (tgt := 102) hx hb dX6_advance_88 (by decide) (fun c_22 => ?_) (fun c_22 => ?_)
            · replace h := h.1 c_22
              refine lv_iload_n hx hb dX6_advance_102 rfl (lv_at hl 0 rfl) ?_
              refine es_z C hd kwRX6_X6_isDigit_97 (cC_X6_isDigit _ h) ⟨rfl, rfl⟩ ⟨by decide, by decide⟩ hl.1 rfl rfl (Nat.le_of_ble_eq_true rfl) ⟨Nat.zero_le _, Nat.zero_le _⟩ dX6_advance_103 (fun r_23 k_23 H locs hz_23 h hd => ?_)
              refine lv_if_eq (tgt := 120) hx hb dX6_advance_106 (by decide) (fun c_24 => ?_) (fun c_24 => ?_)
              · replace h := h.1 c_24
                refine lv_aload_n hx hb dX6_advance_120 rfl (lv_at hl 1 rfl) ?_
                refine lv_dup hx hb dX6_advance_121 rfl ?_
                refine gC6_6_1 C hd (v := k_23.1 6 1) rfl dX6_advance_122 ?_
                refine lv_iconst (v := 1) hx hb dX6_advance_125 (by decide) ?_
                refine lv_iadd hx hb dX6_advance_126 ?_
                refine pC6_6_1 C hd dX6_advance_127 (fun H locs hd => ?_)
                refine lv_aload_n hx hb dX6_advance_130 rfl (lv_at hl 1 rfl) ?_
                refine ldcS C 12 (by decide) dX6_advance_131 ?_
                refine lv_iload_n hx hb dX6_advance_133 rfl (lv_at hl 0 rfl) ?_
                refine lv_i2c (v := (r_19.toUInt32 % 65536).toInt32) hx hb dX6_advance_134 rfl ?_
                refine eu_i C hd kwRX6_J0_indexOf_0f7a4_105 (cC_J0_indexOf_0f7a4 (by decide) _ h) ⟨rfl, rfl⟩ ⟨by decide, by decide⟩ (RcvH.str C hd (by decide)) hl.1 rfl rfl (Nat.le_of_ble_eq_true rfl) ⟨Nat.zero_le _, Nat.zero_le _⟩ dX6_advance_135 (fun r_25 k_25 H locs h hd => ?_)
                refine lv_if_lt (tgt := 145) hx hb dX6_advance_138 (by decide) (fun c_26 => ?_) (fun c_26 => ?_)
                · replace h := h.1 c_26
                  refine lv_iconst (v := 1) hx hb dX6_advance_145 (by decide) ?_
                  refine pC6_6_2 C hd dX6_advance_146 (fun H locs hd => ?_)
                  exact ret hd h dX6_advance_149
                · replace h := h.2 c_26
                  refine lv_iload_n hx hb dX6_advance_141 rfl (lv_at hl 0 rfl) ?_
                  refine lv_goto (tgt := 146) hx hb dX6_advance_142 (by decide) ?_
                  refine pC6_6_2 C hd dX6_advance_146 (fun H locs hd => ?_)
                  exact ret hd h dX6_advance_149
              · replace h := h.2 c_24
                refine lv_aload_n hx hb dX6_advance_109 rfl (lv_at hl 1 rfl) ?_
                refine lv_aload_n hx hb dX6_advance_110 rfl (lv_at hl 1 rfl) ?_
                obtain ⟨n_27, h⟩ := h
                refine ev_i C hd kwRX6_X6_numberToken_100 (cC_X6_numberToken n_27 h) ⟨rfl, rfl⟩ ⟨by decide, by decide⟩ rcC6 hl.1 rfl rfl (Nat.le_of_ble_eq_true rfl) ⟨Nat.zero_le _, Nat.zero_le _⟩ dX6_advance_111 (fun r_27 k_27 H locs h hd => ?_)
                refine pC6_6_2 C hd dX6_advance_114 (fun H locs hd => ?_)
                refine lv_goto (tgt := 149) hx hb dX6_advance_117 (by decide) ?_
                exact ret hd h dX6_advance_149
            · replace h := h.2 c_22
              refine lv_aload_n hx hb dX6_advance_91 rfl (lv_at hl 1 rfl) ?_
              refine lv_aload_n hx hb dX6_advance_92 rfl (lv_at hl 1 rfl) ?_
              obtain ⟨n_28, h⟩ := h
              refine ev_i C hd kwRX6_X6_wordToken_93 (cC_X6_wordToken n_28 h) ⟨rfl, rfl⟩ ⟨by decide, by decide⟩ rcC6 hl.1 rfl rfl (Nat.le_of_ble_eq_true rfl) ⟨Nat.zero_le _, Nat.zero_le _⟩ dX6_advance_93 (fun r_28 k_28 H locs h hd => ?_)
              refine pC6_6_2 C hd dX6_advance_96 (fun H locs hd => ?_)
              refine lv_goto (tgt := 149) hx hb dX6_advance_99 (by decide) ?_
              exact ret hd h dX6_advance_149
          · replace h := h.2 c_20
            refine lv_aload_n hx hb dX6_advance_76 rfl (lv_at hl 1 rfl) ?_
            refine lv_iconst (v := 0) hx hb dX6_advance_77 (by decide) ?_
            refine pC6_6_2 C hd dX6_advance_78 (fun H locs hd => ?_)
            refine lv_goto (tgt := 149) hx hb dX6_advance_81 (by decide) ?_
            exact ret hd h dX6_advance_149
        · replace h := h.2 c_17
          refine lv_aload_n hx hb dX6_advance_35 rfl (lv_at hl 0 rfl) ?_
          refine lv_dup hx hb dX6_advance_36 rfl ?_
          refine gC6_6_1 C hd (v := k_16.1 6 1) rfl dX6_advance_37 ?_
          refine lv_iconst (v := 1) hx hb dX6_advance_40 (by decide) ?_
          refine lv_iadd hx hb dX6_advance_41 ?_
          refine pC6_6_1 C hd dX6_advance_42 (fun H locs hd => ?_)
          refine lv_iinc (v := (x1 + (1 : Int32))) (lv' := [(1, .int (x1 + (1 : Int32))), (0, .ref (a 6))]) hx hb dX6_advance_45 hl (k := 1) rfl rfl (by decide) rfl (fun ls hl => ?_)
          refine lv_goto (tgt := 11) hx hb dX6_advance_48 (by decide) ?_
          exact ih (x1 + (1 : Int32))  _ _ _ _ h hd (lv_sub hl [1, 0] rfl)
  cases n with
  | zero => exact h.elim
  | succ n =>
    replace h : (((k.1 6 7) = (-1 : Int32) → wC_X6_advance a n 1 (0 : Int32) k Qp) ∧ (¬ (k.1 6 7) = (-1 : Int32) → Qp k)) := h
    refine lv_aload_n hx hb dX6_advance_0 rfl (lv_at hl 0 rfl) ?_
    refine gC6_6_7 C hd (v := k.1 6 7) rfl dX6_advance_1 ?_
    refine lv_iconst (v := -1) hx hb dX6_advance_4 (by decide) ?_
    refine lv_icmp_eq (tgt := 9) hx hb dX6_advance_5 (by decide) (fun c_1 => ?_) (fun c_1 => ?_)
    · replace h := h.1 c_1
      refine lv_iconst (v := 0) hx hb dX6_advance_9 (by decide) ?_
      refine lv_istore_n (lv' := [(1, .int (0 : Int32)), (0, .ref (a 6))]) hx hb dX6_advance_10 rfl hl (by decide) rfl (fun ls hl => ?_)
      exact L n (0 : Int32)  _ _ _ _ h hd (lv_sub hl [1, 0] rfl)
    · replace h := h.2 c_1
      exact ret hd h dX6_advance_8
