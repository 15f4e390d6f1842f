def wC_X0_allTrials (i : Nat)  (k : KC) (Q : Int32 → KC → Prop) : Prop := Q ((((k.2.1 i 4 0) + (k.2.1 i 4 1)) + (k.2.1 i 4 2)) + (k.2.1 i 4 3)) k
set_option maxHeartbeats 4000000 in
set_option maxRecDepth 100000 in
theorem cC_X0_allTrials {l : Launch} {P : EP} {D : va_G} {a : Nat → Nat} {b : Nat → Nat → Nat} {g : Nat → ClassId} {i : Nat} (hi : i = 2 ∨ i = 3 ∨ i = 4) {k : KC} {Qp : Int32 → KC → Prop}  (h : wC_X0_allTrials i k Qp) : Di l P D (tyA g) (wC a b g) yX0_allTrials cX0_allTrials 1 ({ frames := 0, cells := 0, slots := 0, locals := 0 }) [.ref (a i)] k Qp := by
  refine Di_of (by decide) (Nat.le_of_ble_eq_true rfl) ?_
  intro p e s m args below meth c A Z ls C ret hd hl
  have hx := C.1
  have hb := C.2.1
  have hl : lv_has ls 1 [(0, .ref (a i))] := hl
  replace h : Qp ((((k.2.1 i 4 0) + (k.2.1 i 4 1)) + (k.2.1 i 4 2)) + (k.2.1 i 4 3)) k := h
  refine lv_aload_n hx hb dX0_allTrials_0 rfl (lv_at hl 0 rfl) ?_
  refine gC0_0_4 C hd hi dX0_allTrials_1 ?_
  refine lv_iconst (v := 0) hx hb dX0_allTrials_4 (by decide) ?_
  refine ldC0_4 C hd hi (v := k.2.1 i 4 0) (by unfold vp_in; decide) rfl dX0_allTrials_5 ?_
  refine lv_aload_n hx hb dX0_allTrials_6 rfl (lv_at hl 0 rfl) ?_
  refine gC0_0_4 C hd hi dX0_allTrials_7 ?_
  refine lv_iconst (v := 1) hx hb dX0_allTrials_10 (by decide) ?_
  refine ldC0_4 C hd hi (v := k.2.1 i 4 1) (by unfold vp_in; decide) rfl dX0_allTrials_11 ?_
  refine lv_iadd hx hb dX0_allTrials_12 ?_
  refine lv_aload_n hx hb dX0_allTrials_13 rfl (lv_at hl 0 rfl) ?_
  refine gC0_0_4 C hd hi dX0_allTrials_14 ?_
  refine lv_iconst (v := 2) hx hb dX0_allTrials_17 (by decide) ?_
  refine ldC0_4 C hd hi (v := k.2.1 i 4 2) (by unfold vp_in; decide) rfl dX0_allTrials_18 ?_
  refine lv_iadd hx hb dX0_allTrials_19 ?_
  refine lv_aload_n hx hb dX0_allTrials_20 rfl (lv_at hl 0 rfl) ?_
  refine gC0_0_4 C hd hi dX0_allTrials_21 ?_
  refine lv_iconst (v := 3) hx hb dX0_allTrials_24 (by decide) ?_
  refine ldC0_4 C hd hi (v := k.2.1 i 4 3) (by unfold vp_in; decide) rfl dX0_allTrials_25 ?_
  refine lv_iadd hx hb dX0_allTrials_26 ?_
  exact ret hd h dX0_allTrials_27
def wC_X0_becomeLike (i : Nat) (j : Nat) (x2 : Int32) (k : KC) (Q : KC → Prop) : Prop := (cpOk (0 : Int32) (0 : Int32) x2 8 8 ∧ (cpOk (0 : Int32) (0 : Int32) (8 : Int32) 8 8 ∧ (cpOk (0 : Int32) (0 : Int32) (32 : Int32) 32 32 ∧ (cpOk (0 : Int32) (0 : Int32) (4 : Int32) 4 4 ∧ Q (cI (cI (cI (cI (cA (cA (cA (cA k i 1 (va_cpy (k.2.1 j 1) (k.2.1 i 1) 0 0 x2.toNatClampNeg)) i 2 (va_cpy ((cA k i 1 (va_cpy (k.2.1 j 1) (k.2.1 i 1) 0 0 x2.toNatClampNeg)).2.1 j 2) ((cA k i 1 (va_cpy (k.2.1 j 1) (k.2.1 i 1) 0 0 x2.toNatClampNeg)).2.1 i 2) 0 0 8)) i 3 (va_cpy ((cA (cA k i 1 (va_cpy (k.2.1 j 1) (k.2.1 i 1) 0 0 x2.toNatClampNeg)) i 2 (va_cpy ((cA k i 1 (va_cpy (k.2.1 j 1) (k.2.1 i 1) 0 0 x2.toNatClampNeg)).2.1 j 2) ((cA k i 1 (va_cpy (k.2.1 j 1) (k.2.1 i 1) 0 0 x2.toNatClampNeg)).2.1 i 2) 0 0 8)).2.1 j 3) ((cA (cA k i 1 (va_cpy (k.2.1 j 1) (k.2.1 i 1) 0 0 x2.toNatClampNeg)) i 2 (va_cpy ((cA k i 1 (va_cpy (k.2.1 j 1) (k.2.1 i 1) 0 0 x2.toNatClampNeg)).2.1 j 2) ((cA k i 1 (va_cpy (k.2.1 j 1) (k.2.1 i 1) 0 0 x2.toNatClampNeg)).2.1 i 2) 0 0 8)).2.1 i 3) 0 0 32)) i 4 (va_cpy ((cA (cA (cA k i 1 (va_cpy (k.2.1 j 1) (k.2.1 i 1) 0 0 x2.toNatClampNeg)) i 2 (va_cpy ((cA k i 1 (va_cpy (k.2.1 j 1) (k.2.1 i 1) 0 0 x2.toNatClampNeg)).2.1 j 2) ((cA k i 1 (va_cpy (k.2.1 j 1) (k.2.1 i 1) 0 0 x2.toNatClampNeg)).2.1 i 2) 0 0 8)) i 3 (va_cpy ((cA (cA k i 1 (va_cpy (k.2.1 j 1) (k.2.1 i 1) 0 0 x2.toNatClampNeg)) i 2 (va_cpy ((cA k i 1 (va_cpy (k.2.1 j 1) (k.2.1 i 1) 0 0 x2.toNatClampNeg)).2.1 j 2) ((cA k i 1 (va_cpy (k.2.1 j 1) (k.2.1 i 1) 0 0 x2.toNatClampNeg)).2.1 i 2) 0 0 8)).2.1 j 3) ((cA (cA k i 1 (va_cpy (k.2.1 j 1) (k.2.1 i 1) 0 0 x2.toNatClampNeg)) i 2 (va_cpy ((cA k i 1 (va_cpy (k.2.1 j 1) (k.2.1 i 1) 0 0 x2.toNatClampNeg)).2.1 j 2) ((cA k i 1 (va_cpy (k.2.1 j 1) (k.2.1 i 1) 0 0 x2.toNatClampNeg)).2.1 i 2) 0 0 8)).2.1 i 3) 0 0 32)).2.1 j 4) ((cA (cA (cA k i 1 (va_cpy (k.2.1 j 1) (k.2.1 i 1) 0 0 x2.toNatClampNeg)) i 2 (va_cpy ((cA k i 1 (va_cpy (k.2.1 j 1) (k.2.1 i 1) 0 0 x2.toNatClampNeg)).2.1 j 2) ((cA k i 1 (va_cpy (k.2.1 j 1) (k.2.1 i 1) 0 0 x2.toNatClampNeg)).2.1 i 2) 0 0 8)) i 3 (va_cpy ((cA (cA k i 1 (va_cpy (k.2.1 j 1) (k.2.1 i 1) 0 0 x2.toNatClampNeg)) i 2 (va_cpy ((cA k i 1 (va_cpy (k.2.1 j 1) (k.2.1 i 1) 0 0 x2.toNatClampNeg)).2.1 j 2) ((cA k i 1 (va_cpy (k.2.1 j 1) (k.2.1 i 1) 0 0 x2.toNatClampNeg)).2.1 i 2) 0 0 8)).2.1 j 3) ((cA (cA k i 1 (va_cpy (k.2.1 j 1) (k.2.1 i 1) 0 0 x2.toNatClampNeg)) i 2 (va_cpy ((cA k i 1 (va_cpy (k.2.1 j 1) (k.2.1 i 1) 0 0 x2.toNatClampNeg)).2.1 j 2) ((cA k i 1 (va_cpy (k.2.1 j 1) (k.2.1 i 1) 0 0 x2.toNatClampNeg)).2.1 i 2) 0 0 8)).2.1 i 3) 0 0 32)).2.1 i 4) 0 0 4)) i 7 (k.1 j 7)) i 8 (k.1 j 8)) i 9 (k.1 j 9)) i 10 (k.1 j 10))))))
set_option maxHeartbeats 4000000 in
set_option maxRecDepth 100000 in
theorem cC_X0_becomeLike {l : Launch} {P : EP} {D : va_G} {a : Nat → Nat} {b : Nat → Nat → Nat} {g : Nat → ClassId} {i : Nat} (hi : i = 2 ∨ i = 3 ∨ i = 4) {j : Nat} (hj : j = 2 ∨ j = 3 ∨ j = 4) {k : KC} {Qp : KC → Prop} (x2 : Int32) (h : wC_X0_becomeLike i j x2 k Qp) : Dv l P D (tyA g) (wC a b g) yX0_becomeLike cX0_becomeLike 3 ({ frames := 1, cells := 0, slots := 0, locals := 60 }) [.ref (a i), .ref (a j), .int x2] k Qp := by
  refine Dv_of (by decide) (Nat.le_of_ble_eq_true rfl) ?_
  intro p e s m args below meth c A Z ls C ret hd hl
  have hx := C.1
  have hb := C.2.1
  have hl : lv_has ls 3 [(0, .ref (a i)), (1, .ref (a j)), (2, .int x2)] := hl
  replace h : (cpOk (0 : Int32) (0 : Int32) x2 8 8 ∧ (cpOk (0 : Int32) (0 : Int32) (8 : Int32) 8 8 ∧ (cpOk (0 : Int32) (0 : Int32) (32 : Int32) 32 32 ∧ (cpOk (0 : Int32) (0 : Int32) (4 : Int32) 4 4 ∧ Qp (cI (cI (cI (cI (cA (cA (cA (cA k i 1 (va_cpy (k.2.1 j 1) (k.2.1 i 1) 0 0 x2.toNatClampNeg)) i 2 (va_cpy ((cA k i 1 (va_cpy (k.2.1 j 1) (k.2.1 i 1) 0 0 x2.toNatClampNeg)).2.1 j 2) ((cA k i 1 (va_cpy (k.2.1 j 1) (k.2.1 i 1) 0 0 x2.toNatClampNeg)).2.1 i 2) 0 0 8)) i 3 (va_cpy ((cA (cA k i 1 (va_cpy (k.2.1 j 1) (k.2.1 i 1) 0 0 x2.toNatClampNeg)) i 2 (va_cpy ((cA k i 1 (va_cpy (k.2.1 j 1) (k.2.1 i 1) 0 0 x2.toNatClampNeg)).2.1 j 2) ((cA k i 1 (va_cpy (k.2.1 j 1) (k.2.1 i 1) 0 0 x2.toNatClampNeg)).2.1 i 2) 0 0 8)).2.1 j 3) ((cA (cA k i 1 (va_cpy (k.2.1 j 1) (k.2.1 i 1) 0 0 x2.toNatClampNeg)) i 2 (va_cpy ((cA k i 1 (va_cpy (k.2.1 j 1) (k.2.1 i 1) 0 0 x2.toNatClampNeg)).2.1 j 2) ((cA k i 1 (va_cpy (k.2.1 j 1) (k.2.1 i 1) 0 0 x2.toNatClampNeg)).2.1 i 2) 0 0 8)).2.1 i 3) 0 0 32)) i 4 (va_cpy ((cA (cA (cA k i 1 (va_cpy (k.2.1 j 1) (k.2.1 i 1) 0 0 x2.toNatClampNeg)) i 2 (va_cpy ((cA k i 1 (va_cpy (k.2.1 j 1) (k.2.1 i 1) 0 0 x2.toNatClampNeg)).2.1 j 2) ((cA k i 1 (va_cpy (k.2.1 j 1) (k.2.1 i 1) 0 0 x2.toNatClampNeg)).2.1 i 2) 0 0 8)) i 3 (va_cpy ((cA (cA k i 1 (va_cpy (k.2.1 j 1) (k.2.1 i 1) 0 0 x2.toNatClampNeg)) i 2 (va_cpy ((cA k i 1 (va_cpy (k.2.1 j 1) (k.2.1 i 1) 0 0 x2.toNatClampNeg)).2.1 j 2) ((cA k i 1 (va_cpy (k.2.1 j 1) (k.2.1 i 1) 0 0 x2.toNatClampNeg)).2.1 i 2) 0 0 8)).2.1 j 3) ((cA (cA k i 1 (va_cpy (k.2.1 j 1) (k.2.1 i 1) 0 0 x2.toNatClampNeg)) i 2 (va_cpy ((cA k i 1 (va_cpy (k.2.1 j 1) (k.2.1 i 1) 0 0 x2.toNatClampNeg)).2.1 j 2) ((cA k i 1 (va_cpy (k.2.1 j 1) (k.2.1 i 1) 0 0 x2.toNatClampNeg)).2.1 i 2) 0 0 8)).2.1 i 3) 0 0 32)).2.1 j 4) ((cA (cA (cA k i 1 (va_cpy (k.2.1 j 1) (k.2.1 i 1) 0 0 x2.toNatClampNeg)) i 2 (va_cpy ((cA k i 1 (va_cpy (k.2.1 j 1) (k.2.1 i 1) 0 0 x2.toNatClampNeg)).2.1 j 2) ((cA k i 1 (va_cpy (k.2.1 j 1) (k.2.1 i 1) 0 0 x2.toNatClampNeg)).2.1 i 2) 0 0 8)) i 3 (va_cpy ((cA (cA k i 1 (va_cpy (k.2.1 j 1) (k.2.1 i 1) 0 0 x2.toNatClampNeg)) i 2 (va_cpy ((cA k i 1 (va_cpy (k.2.1 j 1) (k.2.1 i 1) 0 0 x2.toNatClampNeg)).2.1 j 2) ((cA k i 1 (va_cpy (k.2.1 j 1) (k.2.1 i 1) 0 0 x2.toNatClampNeg)).2.1 i 2) 0 0 8)).2.1 j 3) ((cA (cA k i 1 (va_cpy (k.2.1 j 1) (k.2.1 i 1) 0 0 x2.toNatClampNeg)) i 2 (va_cpy ((cA k i 1 (va_cpy (k.2.1 j 1) (k.2.1 i 1) 0 0 x2.toNatClampNeg)).2.1 j 2) ((cA k i 1 (va_cpy (k.2.1 j 1) (k.2.1 i 1) 0 0 x2.toNatClampNeg)).2.1 i 2) 0 0 8)).2.1 i 3) 0 0 32)).2.1 i 4) 0 0 4)) i 7 (k.1 j 7)) i 8 (k.1 j 8)) i 9 (k.1 j 9)) i 10 (k.1 j 10)))))) := h
  refine lv_aload_n hx hb dX0_becomeLike_0 rfl (lv_at hl 1 rfl) ?_
  refine gC0_0_1 C hd hj dX0_becomeLike_1 ?_
  refine lv_iconst (v := 0) hx hb dX0_becomeLike_4 (by decide) ?_
  refine lv_aload_n hx hb dX0_becomeLike_5 rfl (lv_at hl 0 rfl) ?_
  refine gC0_0_1 C hd hi dX0_becomeLike_6 ?_
  refine lv_iconst (v := 0) hx hb dX0_becomeLike_9 (by decide) ?_
  refine lv_iload_n hx hb dX0_becomeLike_10 rfl (lv_at hl 2 rfl) ?_
  refine cpC C hd (ixC0_1 hj) (ixC0_1 hi) hl.1 q_722 q_607 q_606 q_18 h.1 (by decide) (Nat.le_of_ble_eq_true rfl) dX0_becomeLike_11 (fun H locs hd => ?_)
  replace h := h.2
  refine lv_aload_n hx hb dX0_becomeLike_14 rfl (lv_at hl 1 rfl) ?_
  refine gC0_0_2 C hd hj dX0_becomeLike_15 ?_
  refine lv_iconst (v := 0) hx hb dX0_becomeLike_18 (by decide) ?_
  refine lv_aload_n hx hb dX0_becomeLike_19 rfl (lv_at hl 0 rfl) ?_
  refine gC0_0_2 C hd hi dX0_becomeLike_20 ?_
  refine lv_iconst (v := 0) hx hb dX0_becomeLike_23 (by decide) ?_
  refine lv_bipush (v := 8) hx hb dX0_becomeLike_24 (by decide) ?_
  refine cpC C hd (ixC0_2 hj) (ixC0_2 hi) hl.1 q_722 q_607 q_606 q_18 h.1 (by decide) (Nat.le_of_ble_eq_true rfl) dX0_becomeLike_26 (fun H locs hd => ?_)
  replace h := h.2
  refine lv_aload_n hx hb dX0_becomeLike_29 rfl (lv_at hl 1 rfl) ?_
  refine gC0_0_3 C hd hj dX0_becomeLike_30 ?_
  refine lv_iconst (v := 0) hx hb dX0_becomeLike_33 (by decide) ?_
  refine lv_aload_n hx hb dX0_becomeLike_34 rfl (lv_at hl 0 rfl) ?_
  refine gC0_0_3 C hd hi dX0_becomeLike_35 ?_
  refine lv_iconst (v := 0) hx hb dX0_becomeLike_38 (by decide) ?_
  refine lv_bipush (v := 32) hx hb dX0_becomeLike_39 (by decide) ?_
  refine cpC C hd (ixC0_3 hj) (ixC0_3 hi) hl.1 q_722 q_607 q_606 q_18 h.1 (by decide) (Nat.le_of_ble_eq_true rfl) dX0_becomeLike_41 (fun H locs hd => ?_)
  replace h := h.2
  refine lv_aload_n hx hb dX0_becomeLike_44 rfl (lv_at hl 1 rfl) ?_
  refine gC0_0_4 C hd hj dX0_becomeLike_45 ?_
  refine lv_iconst (v := 0) hx hb dX0_becomeLike_48 (by decide) ?_
  refine lv_aload_n hx hb dX0_becomeLike_49 rfl (lv_at hl 0 rfl) ?_
  refine gC0_0_4 C hd hi dX0_becomeLike_50 ?_
  refine lv_iconst (v := 0) hx hb dX0_becomeLike_53 (by decide) ?_
  refine lv_iconst (v := 4) hx hb dX0_becomeLike_54 (by decide) ?_
  refine cpC C hd (ixC0_4 hj) (ixC0_4 hi) hl.1 q_722 q_607 q_606 q_18 h.1 (by decide) (Nat.le_of_ble_eq_true rfl) dX0_becomeLike_55 (fun H locs hd => ?_)
  replace h := h.2
  refine lv_aload_n hx hb dX0_becomeLike_58 rfl (lv_at hl 0 rfl) ?_
  refine lv_aload_n hx hb dX0_becomeLike_59 rfl (lv_at hl 1 rfl) ?_
  refine gC0_0_7 C hd hj (v := k.1 j 7) rfl dX0_becomeLike_60 ?_
  refine pC0_0_7 C hd hi dX0_becomeLike_63 (fun H locs hd => ?_)
  refine lv_aload_n hx hb dX0_becomeLike_66 rfl (lv_at hl 0 rfl) ?_
  refine lv_aload_n hx hb dX0_becomeLike_67 rfl (lv_at hl 1 rfl) ?_
  refine gC0_0_8 C hd hj (v := k.1 j 8) (by rcases hj with rfl | rfl | rfl <;> rcases hi with rfl | rfl | rfl <;> rfl) dX0_becomeLike_68 ?_
  refine pC0_0_8 C hd hi dX0_becomeLike_71 (fun H locs hd => ?_)
  refine lv_aload_n hx hb dX0_becomeLike_74 rfl (lv_at hl 0 rfl) ?_
  refine lv_aload_n hx hb dX0_becomeLike_75 rfl (lv_at hl 1 rfl) ?_
  refine gC0_0_9 C hd hj (v := k.1 j 9) (by rcases hj with rfl | rfl | rfl <;> rcases hi with rfl | rfl | rfl <;> rfl) dX0_becomeLike_76 ?_
  refine pC0_0_9 C hd hi dX0_becomeLike_79 (fun H locs hd => ?_)
  refine lv_aload_n hx hb dX0_becomeLike_82 rfl (lv_at hl 0 rfl) ?_
  refine lv_aload_n hx hb dX0_becomeLike_83 rfl (lv_at hl 1 rfl) ?_
  refine gC0_0_10 C hd hj (v := k.1 j 10) (by rcases hj with rfl | rfl | rfl <;> rcases hi with rfl | rfl | rfl <;> rfl) dX0_becomeLike_84 ?_
  refine pC0_0_10 C hd hi dX0_becomeLike_87 (fun H locs hd => ?_)
  exact ret hd h dX0_becomeLike_90
def wC_X5_byOne (x0 : Int32) (x1 : Int32) (k : KC) (Q : Int32 → KC → Prop) : Prop := ((¬ x0 = (-11 : Int32) → ((¬ x1 = 0 → Q (0 : Int32) k) ∧ (x1 = 0 → Q (1 : Int32) k))) ∧ (x0 = (-11 : Int32) → Q (-x1) k))
set_option maxHeartbeats 4000000 in
set_option maxRecDepth 100000 in
theorem cC_X5_byOne {l : Launch} {P : EP} {D : va_G} {a : Nat → Nat} {b : Nat → Nat → Nat} {g : Nat → ClassId} {k : KC} {Qp : Int32 → KC → Prop} (x0 : Int32) (x1 : Int32) (h : wC_X5_byOne x0 x1 k Qp) : Di l P D (tyA g) (wC a b g) yX5_byOne cX5_byOne 2 ({ frames := 0, cells := 0, slots := 0, locals := 0 }) [.int x0, .int x1] k Qp := by
  refine Di_of (by decide) (Nat.le_of_ble_eq_true rfl) ?_
  intro p e s m args below meth c A Z ls C ret hd hl
  have hx := C.1
  have hb := C.2.1
  have hl : lv_has ls 2 [(0, .int x0), (1, .int x1)] := hl
  replace h : ((¬ x0 = (-11 : Int32) → ((¬ x1 = 0 → Qp (0 : Int32) k) ∧ (x1 = 0 → Qp (1 : Int32) k))) ∧ (x0 = (-11 : Int32) → Qp (-x1) k)) := h
  refine lv_iload_n hx hb dX5_byOne_0 rfl (lv_at hl 0 rfl) ?_
  refine lv_bipush (v := -11) hx hb dX5_byOne_1 (by decide) ?_
  refine lv_icmp_ne (tgt := 9) hx hb dX5_byOne_3 (by decide) (fun c_1 => ?_) (fun c_1 => ?_)
  · replace h := h.1 c_1
    refine lv_iload_n hx hb dX5_byOne_9 rfl (lv_at hl 1 rfl) ?_
    refine lv_if_ne (tgt := 17) hx hb dX5_byOne_10 (by decide) (fun c_2 => ?_) (fun c_2 => ?_)
    · replace h := h.1 c_2
      refine lv_iconst (v := 0) hx hb dX5_byOne_17 (by decide) ?_
      exact ret hd h dX5_byOne_18
    · replace h := h.2 c_2
      refine lv_iconst (v := 1) hx hb dX5_byOne_13 (by decide) ?_
      refine lv_goto (tgt := 18) hx hb dX5_byOne_14 (by decide) ?_
      exact ret hd h dX5_byOne_18
  · replace h := h.2 c_1
    refine lv_iload_n hx hb dX5_byOne_6 rfl (lv_at hl 1 rfl) ?_
    refine lv_ineg hx hb dX5_byOne_7 ?_
    exact ret hd h dX5_byOne_8
def wC_X5_byTwo (x0 : Int32) (x1 : Int32) (x2 : Int32) (k : KC) (Q : Int32 → KC → Prop) : Prop := ((x0 = (-26 : Int32) → Q (x1 - x2) k) ∧ (x0 = (-25 : Int32) → Q (x1 + x2) k) ∧ (x0 = (-24 : Int32) → ((¬ x1 = x2 → Q (0 : Int32) k) ∧ (x1 = x2 → Q (1 : Int32) k))) ∧ (x0 = (-23 : Int32) → ((x2 ≤ x1 → Q (0 : Int32) k) ∧ (¬ x2 ≤ x1 → Q (1 : Int32) k))) ∧ (x0 = (-22 : Int32) → ((x1 = 0 → Q (0 : Int32) k) ∧ (¬ x1 = 0 → ((x2 = 0 → Q (0 : Int32) k) ∧ (¬ x2 = 0 → Q (1 : Int32) k))))) ∧ (x0 = (-21 : Int32) → ((¬ x1 = 0 → Q (1 : Int32) k) ∧ (x1 = 0 → ((x2 = 0 → Q (0 : Int32) k) ∧ (¬ x2 = 0 → Q (1 : Int32) k))))) ∧ (¬ x0 = (-26 : Int32) → ¬ x0 = (-25 : Int32) → ¬ x0 = (-24 : Int32) → ¬ x0 = (-23 : Int32) → ¬ x0 = (-22 : Int32) → ¬ x0 = (-21 : Int32) → Q (x1 * x2) k))
set_option maxHeartbeats 4000000 in
set_option maxRecDepth 100000 in
theorem cC_X5_byTwo {l : Launch} {P : EP} {D : va_G} {a : Nat → Nat} {b : Nat → Nat → Nat} {g : Nat → ClassId} {k : KC} {Qp : Int32 → KC → Prop} (x0 : Int32) (x1 : Int32) (x2 : Int32) (h : wC_X5_byTwo x0 x1 x2 k Qp) : Di l P D (tyA g) (wC a b g) yX5_byTwo cX5_byTwo 3 ({ frames := 0, cells := 0, slots := 0, locals := 0 }) [.int x0, .int x1, .int x2] k Qp := by
  refine Di_of (by decide) (Nat.le_of_ble_eq_true rfl) ?_
  intro p e s m args below meth c A Z ls C ret hd hl
  have hx := C.1
  have hb := C.2.1
  have hl : lv_has ls 3 [(0, .int x0), (1, .int x1), (2, .int x2)] := hl
  replace h : ((x0 = (-26 : Int32) → Qp (x1 - x2) k) ∧ (x0 = (-25 : Int32) → Qp (x1 + x2) k) ∧ (x0 = (-24 : Int32) → ((¬ x1 = x2 → Qp (0 : Int32) k) ∧ (x1 = x2 → Qp (1 : Int32) k))) ∧ (x0 = (-23 : Int32) → ((x2 ≤ x1 → Qp (0 : Int32) k) ∧ (¬ x2 ≤ x1 → Qp (1 : Int32) k))) ∧ (x0 = (-22 : Int32) → ((x1 = 0 → Qp (0 : Int32) k) ∧ (¬ x1 = 0 → ((x2 = 0 → Qp (0 : Int32) k) ∧ (¬ x2 = 0 → Qp (1 : Int32) k))))) ∧ (x0 = (-21 : Int32) → ((¬ x1 = 0 → Qp (1 : Int32) k) ∧ (x1 = 0 → ((x2 = 0 → Qp (0 : Int32) k) ∧ (¬ x2 = 0 → Qp (1 : Int32) k))))) ∧ (¬ x0 = (-26 : Int32) → ¬ x0 = (-25 : Int32) → ¬ x0 = (-24 : Int32) → ¬ x0 = (-23 : Int32) → ¬ x0 = (-22 : Int32) → ¬ x0 = (-21 : Int32) → Qp (x1 * x2) k)) := h
  refine lv_iload_n hx hb dX5_byTwo_0 rfl (lv_at hl 0 rfl) ?_
  by_cases e_1_0 : x0 = (-26 : Int32)
  · replace h := h.1 e_1_0
    refine lv_tableIn (off := 93) (tgt := 94) hx hb dX5_byTwo_1 (by rw [e_1_0]; decide) (by rw [e_1_0]; decide) (by rw [e_1_0]; rfl) (by decide) ?_
    refine lv_iload_n hx hb dX5_byTwo_94 rfl (lv_at hl 1 rfl) ?_
    refine lv_iload_n hx hb dX5_byTwo_95 rfl (lv_at hl 2 rfl) ?_
    refine lv_isub hx hb dX5_byTwo_96 ?_
    exact ret hd h dX5_byTwo_97
  · by_cases e_1_1 : x0 = (-25 : Int32)
    · replace h := h.2.1 e_1_1
      refine lv_tableIn (off := 89) (tgt := 90) hx hb dX5_byTwo_1 (by rw [e_1_1]; decide) (by rw [e_1_1]; decide) (by rw [e_1_1]; rfl) (by decide) ?_
      refine lv_iload_n hx hb dX5_byTwo_90 rfl (lv_at hl 1 rfl) ?_
      refine lv_iload_n hx hb dX5_byTwo_91 rfl (lv_at hl 2 rfl) ?_
      refine lv_iadd hx hb dX5_byTwo_92 ?_
      exact ret hd h dX5_byTwo_93
    · by_cases e_1_2 : x0 = (-24 : Int32)
      · replace h := h.2.2.1 e_1_2
        refine lv_tableIn (off := 78) (tgt := 79) hx hb dX5_byTwo_1 (by rw [e_1_2]; decide) (by rw [e_1_2]; decide) (by rw [e_1_2]; rfl) (by decide) ?_
        refine lv_iload_n hx hb dX5_byTwo_79 rfl (lv_at hl 1 rfl) ?_
        refine lv_iload_n hx hb dX5_byTwo_80 rfl (lv_at hl 2 rfl) ?_
        refine lv_icmp_ne (tgt := 88) hx hb dX5_byTwo_81 (by decide) (fun c_2 => ?_) (fun c_2 => ?_)
        · replace h := h.1 c_2
          refine lv_iconst (v := 0) hx hb dX5_byTwo_88 (by decide) ?_
          exact ret hd h dX5_byTwo_89
        · replace h := h.2 c_2
          refine lv_iconst (v := 1) hx hb dX5_byTwo_84 (by decide) ?_
          refine lv_goto (tgt := 89) hx hb dX5_byTwo_85 (by decide) ?_
          exact ret hd h dX5_byTwo_89
      · by_cases e_1_3 : x0 = (-23 : Int32)
        · replace h := h.2.2.2.1 e_1_3
          refine lv_tableIn (off := 67) (tgt := 68) hx hb dX5_byTwo_1 (by rw [e_1_3]; decide) (by rw [e_1_3]; decide) (by rw [e_1_3]; rfl) (by decide) ?_
          refine lv_iload_n hx hb dX5_byTwo_68 rfl (lv_at hl 1 rfl) ?_
          refine lv_iload_n hx hb dX5_byTwo_69 rfl (lv_at hl 2 rfl) ?_
          refine lv_icmp_ge (tgt := 77) hx hb dX5_byTwo_70 (by decide) (fun c_3 => ?_) (fun c_3 => ?_)
          · replace h := h.1 c_3
            refine lv_iconst (v := 0) hx hb dX5_byTwo_77 (by decide) ?_
            exact ret hd h dX5_byTwo_78
          · replace h := h.2 c_3
            refine lv_iconst (v := 1) hx hb dX5_byTwo_73 (by decide) ?_
            refine lv_goto (tgt := 78) hx hb dX5_byTwo_74 (by decide) ?_
            exact ret hd h dX5_byTwo_78
        · by_cases e_1_4 : x0 = (-22 : Int32)
          · replace h := h.2.2.2.2.1 e_1_4
            refine lv_tableIn (off := 53) (tgt := 54) hx hb dX5_byTwo_1 (by rw [e_1_4]; decide) (by rw [e_1_4]; decide) (by rw [e_1_4]; rfl) (by decide) ?_
            refine lv_iload_n hx hb dX5_byTwo_54 rfl (lv_at hl 1 rfl) ?_
            refine lv_if_eq (tgt := 66) hx hb dX5_byTwo_55 (by decide) (fun c_4 => ?_) (fun c_4 => ?_)
            · replace h := h.1 c_4
              refine lv_iconst (v := 0) hx hb dX5_byTwo_66 (by decide) ?_
              exact ret hd h dX5_byTwo_67
            · replace h := h.2 c_4
              refine lv_iload_n hx hb dX5_byTwo_58 rfl (lv_at hl 2 rfl) ?_
              refine lv_if_eq (tgt := 66) hx hb dX5_byTwo_59 (by decide) (fun c_5 => ?_) (fun c_5 => ?_)
              · replace h := h.1 c_5
                refine lv_iconst (v := 0) hx hb dX5_byTwo_66 (by decide) ?_
                exact ret hd h dX5_byTwo_67
              · replace h := h.2 c_5
                refine lv_iconst (v := 1) hx hb dX5_byTwo_62 (by decide) ?_
                refine lv_goto (tgt := 67) hx hb dX5_byTwo_63 (by decide) ?_
                exact ret hd h dX5_byTwo_67
          · by_cases e_1_5 : x0 = (-21 : Int32)
            · replace h := h.2.2.2.2.2.1 e_1_5
              refine lv_tableIn (off := 39) (tgt := 40) hx hb dX5_byTwo_1 (by rw [e_1_5]; decide) (by rw [e_1_5]; decide) (by rw [e_1_5]; rfl) (by decide) ?_
              refine lv_iload_n hx hb dX5_byTwo_40 rfl (lv_at hl 1 rfl) ?_
              refine lv_if_ne (tgt := 48) hx hb dX5_byTwo_41 (by decide) (fun c_6 => ?_) (fun c_6 => ?_)
              · replace h := h.1 c_6
                refine lv_iconst (v := 1) hx hb dX5_byTwo_48 (by decide) ?_
                refine lv_goto (tgt := 53) hx hb dX5_byTwo_49 (by decide) ?_
                exact ret hd h dX5_byTwo_53
              · replace h := h.2 c_6
                refine lv_iload_n hx hb dX5_byTwo_44 rfl (lv_at hl 2 rfl) ?_
                refine lv_if_eq (tgt := 52) hx hb dX5_byTwo_45 (by decide) (fun c_7 => ?_) (fun c_7 => ?_)
                · replace h := h.1 c_7
                  refine lv_iconst (v := 0) hx hb dX5_byTwo_52 (by decide) ?_
                  exact ret hd h dX5_byTwo_53
                · replace h := h.2 c_7
                  refine lv_iconst (v := 1) hx hb dX5_byTwo_48 (by decide) ?_
                  refine lv_goto (tgt := 53) hx hb dX5_byTwo_49 (by decide) ?_
                  exact ret hd h dX5_byTwo_53
            · replace h := h.2.2.2.2.2.2 e_1_0 e_1_1 e_1_2 e_1_3 e_1_4 e_1_5
              refine lv_tableOut (tgt := 98) hx hb dX5_byTwo_1 (by have n_0 := lv_neT (a := -26) e_1_0 (by decide); have n_1 := lv_neT (a := -25) e_1_1 (by decide); have n_2 := lv_neT (a := -24) e_1_2 (by decide); have n_3 := lv_neT (a := -23) e_1_3 (by decide); have n_4 := lv_neT (a := -22) e_1_4 (by decide); have n_5 := lv_neT (a := -21) e_1_5 (by decide); omega) (by decide) ?_
              refine lv_iload_n hx hb dX5_byTwo_98 rfl (lv_at hl 1 rfl) ?_
              refine lv_iload_n hx hb dX5_byTwo_99 rfl (lv_at hl 2 rfl) ?_
              refine lv_imul hx hb dX5_byTwo_100 ?_
              exact ret hd h dX5_byTwo_101
def wC_X5_reckon (d : Dn) : Nat → Nat → Int32 → Int32 → Int32 → Int32 → KC → (Int32 → KC → Prop) → Prop
  | 0, _, _, _, _, _, _, _ => False
  | n + 1, c, x1, x4, x5, x6, k, Q => match c with
    | 0 => (d ∈ txC k ∧ (vp_in x1 4 ∧ wC_X5_reckon d n 1 x1 (0 : Int32) (d.2.2.2.2.2 x1.toNatClampNeg) 0 k Q))
    | 1 => (d ∈ txC k ∧ (vp_in (x1 + (1 : Int32)) 4 ∧ (((d.2.2.2.2.2 (x1 + (1 : Int32)).toNatClampNeg) ≤ x5 → Q (k.2.1 1 10 0) k) ∧ (¬ (d.2.2.2.2.2 (x1 + (1 : Int32)).toNatClampNeg) ≤ x5 → (vp_in x5 d.2.2.2.1 ∧ (((d.2.2.2.2.1 x5.toNatClampNeg) < (-6 : Int32) → (((d.2.2.2.2.1 x5.toNatClampNeg) < (-12 : Int32) → wC_X5_reckon d n 2 x1 x4 x5 (d.2.2.2.2.1 x5.toNatClampNeg) k Q) ∧ (¬ (d.2.2.2.2.1 x5.toNatClampNeg) < (-12 : Int32) → ((x4 < (1 : Int32) → wC_X5_reckon d n 2 x1 x4 x5 (d.2.2.2.2.1 x5.toNatClampNeg) k Q) ∧ (¬ x4 < (1 : Int32) → (vp_in (x4 - (1 : Int32)) 160 ∧ (wC_X5_byOne (d.2.2.2.2.1 x5.toNatClampNeg) (k.2.1 1 10 (x4 - (1 : Int32)).toNatClampNeg) k (fun r_7 k_7 => (vp_in (x4 - (1 : Int32)) 160 ∧ wC_X5_reckon d n 1 x1 x4 (x5 + (1 : Int32)) 0 (cA k_7 1 10 (upd (k_7.2.1 1 10) (x4 - (1 : Int32)).toNatClampNeg r_7)) Q))))))))) ∧ (¬ (d.2.2.2.2.1 x5.toNatClampNeg) < (-6 : Int32) → (((160 : Int32) ≤ x4 → (((d.2.2.2.2.1 x5.toNatClampNeg) < (-12 : Int32) → wC_X5_reckon d n 2 x1 x4 x5 (d.2.2.2.2.1 x5.toNatClampNeg) k Q) ∧ (¬ (d.2.2.2.2.1 x5.toNatClampNeg) < (-12 : Int32) → ((x4 < (1 : Int32) → wC_X5_reckon d n 2 x1 x4 x5 (d.2.2.2.2.1 x5.toNatClampNeg) k Q) ∧ (¬ x4 < (1 : Int32) → (vp_in (x4 - (1 : Int32)) 160 ∧ (wC_X5_byOne (d.2.2.2.2.1 x5.toNatClampNeg) (k.2.1 1 10 (x4 - (1 : Int32)).toNatClampNeg) k (fun r_11 k_11 => (vp_in (x4 - (1 : Int32)) 160 ∧ wC_X5_reckon d n 1 x1 x4 (x5 + (1 : Int32)) 0 (cA k_11 1 10 (upd (k_11.2.1 1 10) (x4 - (1 : Int32)).toNatClampNeg r_11)) Q))))))))) ∧ (¬ (160 : Int32) ≤ x4 → (((d.2.2.2.2.1 x5.toNatClampNeg) < 0 → (vp_in ((-1 : Int32) - (d.2.2.2.2.1 x5.toNatClampNeg)) 6 ∧ (vp_in x4 160 ∧ wC_X5_reckon d n 1 x1 (x4 + (1 : Int32)) (x5 + (1 : Int32)) 0 (cA k 1 10 (upd (k.2.1 1 10) x4.toNatClampNeg (k.2.1 1 9 ((-1 : Int32) - (d.2.2.2.2.1 x5.toNatClampNeg)).toNatClampNeg))) Q))) ∧ (¬ (d.2.2.2.2.1 x5.toNatClampNeg) < 0 → (vp_in x4 160 ∧ wC_X5_reckon d n 1 x1 (x4 + (1 : Int32)) (x5 + (1 : Int32)) 0 (cA k 1 10 (upd (k.2.1 1 10) x4.toNatClampNeg (d.2.2.2.2.1 x5.toNatClampNeg))) Q))))))))))))
    | _ => ((x4 < (2 : Int32) → wC_X5_reckon d n 1 x1 x4 (x5 + (1 : Int32)) 0 k Q) ∧ (¬ x4 < (2 : Int32) → (vp_in ((x4 + (-1 : Int32)) - (1 : Int32)) 160 ∧ (vp_in (x4 + (-1 : Int32)) 160 ∧ (wC_X5_byTwo x6 (k.2.1 1 10 ((x4 + (-1 : Int32)) - (1 : Int32)).toNatClampNeg) (k.2.1 1 10 (x4 + (-1 : Int32)).toNatClampNeg) k (fun r_14 k_14 => (vp_in ((x4 + (-1 : Int32)) - (1 : Int32)) 160 ∧ wC_X5_reckon d n 1 x1 (x4 + (-1 : Int32)) (x5 + (1 : Int32)) 0 (cA k_14 1 10 (upd (k_14.2.1 1 10) ((x4 + (-1 : Int32)) - (1 : Int32)).toNatClampNeg r_14)) Q)))))))
set_option maxHeartbeats 4000000 in
set_option maxRecDepth 100000 in
theorem cC_X5_reckon {l : Launch} {P : EP} {D : va_G} {a : Nat → Nat} {b : Nat → Nat → Nat} {g : Nat → ClassId} {d : Dn} {k : KC} {Qp : Int32 → KC → Prop} (n : Nat) (x1 : Int32) (h : wC_X5_reckon d n 0 x1 0 0 0 k Qp) : Di l P D (tyA g) (wC a b g) yX5_reckon cX5_reckon 7 ({ frames := 1, cells := 0, slots := 0, locals := 22 }) [.ref d.1, .int x1, .ref (b 1 9), .ref (b 1 10)] k Qp := by
  refine Di_of (by decide) (Nat.le_of_ble_eq_true rfl) ?_
  intro p e s m args below meth c A Z ls C ret hd hl
  have hx := C.1
  have hb := C.2.1
  have hl : lv_has ls 7 [(0, .ref d.1), (1, .int x1), (2, .ref (b 1 9)), (3, .ref (b 1 10))] := hl
  have L : ∀ n : Nat, (∀ (x1 : Int32) (x4 : Int32) (x5 : Int32) (k : KC) (H : Heap) (locs : List Loc) (ls : Array Slot), wC_X5_reckon d n 1 x1 x4 x5 0 k Qp → Hd D (wC a b g k) A s H locs → lv_has ls 7 [(0, .ref d.1), (1, .int x1), (2, .ref (b 1 9)), (3, .ref (b 1 10)), (4, .int x4), (5, .int x5)] → W p l e ({ frames := 1, cells := 0, slots := 0, locals := 22 }) s m args below meth c H locs 0 0 Z (F0 m 11 ls [])) ∧ (∀ (x1 : Int32) (x4 : Int32) (x5 : Int32) (x6 : Int32) (k : KC) (H : Heap) (locs : List Loc) (ls : Array Slot), wC_X5_reckon d n 2 x1 x4 x5 x6 k Qp → Hd D (wC a b g k) A s H locs → lv_has ls 7 [(0, .ref d.1), (1, .int x1), (2, .ref (b 1 9)), (3, .ref (b 1 10)), (4, .int x4), (5, .int x5), (6, .int x6)] → W p l e ({ frames := 1, cells := 0, slots := 0, locals := 22 }) s m args below meth c H locs 0 0 Z (F0 m 106 ls [])) := by
    intro n
    induction n with
    | zero => exact ⟨fun _ _ _ _ _ _ _ h => h.elim, fun _ _ _ _ _ _ _ _ h => h.elim⟩
    | succ n ih =>
      refine ⟨?_, ?_⟩
      · intro x1 x4 x5 k H locs ls h hd hl
        replace h : (d ∈ txC k ∧ (vp_in (x1 + (1 : Int32)) 4 ∧ (((d.2.2.2.2.2 (x1 + (1 : Int32)).toNatClampNeg) ≤ x5 → Qp (k.2.1 1 10 0) k) ∧ (¬ (d.2.2.2.2.2 (x1 + (1 : Int32)).toNatClampNeg) ≤ x5 → (vp_in x5 d.2.2.2.1 ∧ (((d.2.2.2.2.1 x5.toNatClampNeg) < (-6 : Int32) → (((d.2.2.2.2.1 x5.toNatClampNeg) < (-12 : Int32) → wC_X5_reckon d n 2 x1 x4 x5 (d.2.2.2.2.1 x5.toNatClampNeg) k Qp) ∧ (¬ (d.2.2.2.2.1 x5.toNatClampNeg) < (-12 : Int32) → ((x4 < (1 : Int32) → wC_X5_reckon d n 2 x1 x4 x5 (d.2.2.2.2.1 x5.toNatClampNeg) k Qp) ∧ (¬ x4 < (1 : Int32) → (vp_in (x4 - (1 : Int32)) 160 ∧ (wC_X5_byOne (d.2.2.2.2.1 x5.toNatClampNeg) (k.2.1 1 10 (x4 - (1 : Int32)).toNatClampNeg) k (fun r_7 k_7 => (vp_in (x4 - (1 : Int32)) 160 ∧ wC_X5_reckon d n 1 x1 x4 (x5 + (1 : Int32)) 0 (cA k_7 1 10 (upd (k_7.2.1 1 10) (x4 - (1 : Int32)).toNatClampNeg r_7)) Qp))))))))) ∧ (¬ (d.2.2.2.2.1 x5.toNatClampNeg) < (-6 : Int32) → (((160 : Int32) ≤ x4 → (((d.2.2.2.2.1 x5.toNatClampNeg) < (-12 : Int32) → wC_X5_reckon d n 2 x1 x4 x5 (d.2.2.2.2.1 x5.toNatClampNeg) k Qp) ∧ (¬ (d.2.2.2.2.1 x5.toNatClampNeg) < (-12 : Int32) → ((x4 < (1 : Int32) → wC_X5_reckon d n 2 x1 x4 x5 (d.2.2.2.2.1 x5.toNatClampNeg) k Qp) ∧ (¬ x4 < (1 : Int32) → (vp_in (x4 - (1 : Int32)) 160 ∧ (wC_X5_byOne (d.2.2.2.2.1 x5.toNatClampNeg) (k.2.1 1 10 (x4 - (1 : Int32)).toNatClampNeg) k (fun r_11 k_11 => (vp_in (x4 - (1 : Int32)) 160 ∧ wC_X5_reckon d n 1 x1 x4 (x5 + (1 : Int32)) 0 (cA k_11 1 10 (upd (k_11.2.1 1 10) (x4 - (1 : Int32)).toNatClampNeg r_11)) Qp))))))))) ∧ (¬ (160 : Int32) ≤ x4 → (((d.2.2.2.2.1 x5.toNatClampNeg) < 0 → (vp_in ((-1 : Int32) - (d.2.2.2.2.1 x5.toNatClampNeg)) 6 ∧ (vp_in x4 160 ∧ wC_X5_reckon d n 1 x1 (x4 + (1 : Int32)) (x5 + (1 : Int32)) 0 (cA k 1 10 (upd (k.2.1 1 10) x4.toNatClampNeg (k.2.1 1 9 ((-1 : Int32) - (d.2.2.2.2.1 x5.toNatClampNeg)).toNatClampNeg))) Qp))) ∧ (¬ (d.2.2.2.2.1 x5.toNatClampNeg) < 0 → (vp_in x4 160 ∧ wC_X5_reckon d n 1 x1 (x4 + (1 : Int32)) (x5 + (1 : Int32)) 0 (cA k 1 10 (upd (k.2.1 1 10) x4.toNatClampNeg (d.2.2.2.2.1 x5.toNatClampNeg))) Qp)))))))))))) := h
        refine lv_iload hx hb dX5_reckon_11 (lv_at hl 5 rfl) ?_
        refine lv_aload_n hx hb dX5_reckon_13 rfl (lv_at hl 0 rfl) ?_
        have hm_2 := h.1
        replace h := h.2
        refine gC5_5_1 C hd hm_2 dX5_reckon_14 ?_
        refine lv_iload_n hx hb dX5_reckon_17 rfl (lv_at hl 1 rfl) ?_
        refine lv_iconst (v := 1) hx hb dX5_reckon_18 (by decide) ?_
        refine lv_iadd hx hb dX5_reckon_19 ?_
        refine ldC5_1 C hd hm_2 h.1 dX5_reckon_20 ?_
        replace h := h.2
        refine lv_icmp_ge (tgt := 142) hx hb dX5_reckon_21 (by decide) (fun c_3 => ?_) (fun c_3 => ?_)
        · replace h := h.1 c_3
          refine lv_aload_n hx hb dX5_reckon_142 rfl (lv_at hl 3 rfl) ?_
          refine lv_iconst (v := 0) hx hb dX5_reckon_143 (by decide) ?_
          refine ldC8_10 C hd (v := k.2.1 1 10 0) (by unfold vp_in; decide) rfl dX5_reckon_144 ?_
          exact ret hd h dX5_reckon_145
        · replace h := h.2 c_3
          refine lv_aload_n hx hb dX5_reckon_24 rfl (lv_at hl 0 rfl) ?_
          refine gC5_5_0 C hd hm_2 dX5_reckon_25 ?_
          refine lv_iload hx hb dX5_reckon_28 (lv_at hl 5 rfl) ?_
          refine ldC5_0 C hd hm_2 h.1 dX5_reckon_30 ?_
          replace h := h.2
          refine lv_istore (lv' := [(6, .int (d.2.2.2.2.1 x5.toNatClampNeg)), (0, .ref d.1), (1, .int x1), (2, .ref (b 1 9)), (3, .ref (b 1 10)), (4, .int x4), (5, .int x5)]) hx hb dX5_reckon_31 hl (by decide) rfl (fun ls hl => ?_)
          refine lv_iload hx hb dX5_reckon_33 (lv_at hl 0 rfl) ?_
          refine lv_bipush (v := -6) hx hb dX5_reckon_35 (by decide) ?_
          refine lv_icmp_lt (tgt := 73) hx hb dX5_reckon_37 (by decide) (fun c_4 => ?_) (fun c_4 => ?_)
          · replace h := h.1 c_4
            refine lv_iload hx hb dX5_reckon_73 (lv_at hl 0 rfl) ?_
            refine lv_bipush (v := -12) hx hb dX5_reckon_75 (by decide) ?_
            refine lv_icmp_lt (tgt := 106) hx hb dX5_reckon_77 (by decide) (fun c_5 => ?_) (fun c_5 => ?_)
            · replace h := h.1 c_5
              exact (ih).2 x1 x4 x5 (d.2.2.2.2.1 x5.toNatClampNeg)  _ _ _ _ h hd (lv_sub hl [1, 2, 3, 4, 5, 6, 0] rfl)
            · replace h := h.2 c_5
              refine lv_iload hx hb dX5_reckon_80 (lv_at hl 5 rfl) ?_
              refine lv_iconst (v := 1) hx hb dX5_reckon_82 (by decide) ?_
              refine lv_icmp_lt (tgt := 106) hx hb dX5_reckon_83 (by decide) (fun c_6 => ?_) (fun c_6 => ?_)
              · replace h := h.1 c_6
                exact (ih).2 x1 x4 x5 (d.2.2.2.2.1 x5.toNatClampNeg)  _ _ _ _ h hd (lv_sub hl [1, 2, 3, 4, 5, 6, 0] rfl)
              · replace h := h.2 c_6
                refine lv_aload_n hx hb dX5_reckon_86 rfl (lv_at hl 4 rfl) ?_
                refine lv_iload hx hb dX5_reckon_87 (lv_at hl 5 rfl) ?_
                refine lv_iconst (v := 1) hx hb dX5_reckon_89 (by decide) ?_
                refine lv_isub hx hb dX5_reckon_90 ?_
                refine lv_iload hx hb dX5_reckon_91 (lv_at hl 0 rfl) ?_
                refine lv_aload_n hx hb dX5_reckon_93 rfl (lv_at hl 4 rfl) ?_
                refine lv_iload hx hb dX5_reckon_94 (lv_at hl 5 rfl) ?_
                refine lv_iconst (v := 1) hx hb dX5_reckon_96 (by decide) ?_
                refine lv_isub hx hb dX5_reckon_97 ?_
                refine ldC8_10 C hd (v := k.2.1 1 10 (x4 - (1 : Int32)).toNatClampNeg) h.1 rfl dX5_reckon_98 ?_
                replace h := h.2
                refine es_i C hd kwRX5_X5_byOne_18 (cC_X5_byOne _ _ h) ⟨rfl, rfl⟩ ⟨by decide, by decide⟩ hl.1 rfl rfl (Nat.le_of_ble_eq_true rfl) ⟨Nat.zero_le _, Nat.zero_le _⟩ dX5_reckon_99 (fun r_7 k_7 H locs h hd => ?_)
                refine stC8_10 C hd h.1 dX5_reckon_102 (fun H locs hd => ?_)
                replace h := h.2
                refine lv_goto (tgt := 136) hx hb dX5_reckon_103 (by decide) ?_
                refine lv_iinc (v := (x5 + (1 : Int32))) (lv' := [(5, .int (x5 + (1 : Int32))), (6, .int (d.2.2.2.2.1 x5.toNatClampNeg)), (0, .ref d.1), (1, .int x1), (2, .ref (b 1 9)), (3, .ref (b 1 10)), (4, .int x4)]) hx hb dX5_reckon_136 hl (k := 6) rfl rfl (by decide) rfl (fun ls hl => ?_)
                refine lv_goto (tgt := 11) hx hb dX5_reckon_139 (by decide) ?_
                exact (ih).1 x1 x4 (x5 + (1 : Int32))  _ _ _ _ h hd (lv_sub hl [2, 3, 4, 5, 6, 0] rfl)
          · replace h := h.2 c_4
            refine lv_iload hx hb dX5_reckon_40 (lv_at hl 5 rfl) ?_
            refine lv_aload_n hx hb dX5_reckon_42 rfl (lv_at hl 4 rfl) ?_
            refine alC8_10 C hd dX5_reckon_43 ?_
            refine lv_icmp_ge (tgt := 73) hx hb dX5_reckon_44 (by decide) (fun c_8 => ?_) (fun c_8 => ?_)
            · replace h := h.1 c_8
              refine lv_iload hx hb dX5_reckon_73 (lv_at hl 0 rfl) ?_
              refine lv_bipush (v := -12) hx hb dX5_reckon_75 (by decide) ?_
              refine lv_icmp_lt (tgt := 106) hx hb dX5_reckon_77 (by decide) (fun c_9 => ?_) (fun c_9 => ?_)
              · replace h := h.1 c_9
                exact (ih).2 x1 x4 x5 (d.2.2.2.2.1 x5.toNatClampNeg)  _ _ _ _ h hd (lv_sub hl [1, 2, 3, 4, 5, 6, 0] rfl)
              · replace h := h.2 c_9
                refine lv_iload hx hb dX5_reckon_80 (lv_at hl 5 rfl) ?_
                refine lv_iconst (v := 1) hx hb dX5_reckon_82 (by decide) ?_
                refine lv_icmp_lt (tgt := 106) hx hb dX5_reckon_83 (by decide) (fun c_10 => ?_) (fun c_10 => ?_)
                · replace h := h.1 c_10
                  exact (ih).2 x1 x4 x5 (d.2.2.2.2.1 x5.toNatClampNeg)  _ _ _ _ h hd (lv_sub hl [1, 2, 3, 4, 5, 6, 0] rfl)
                · replace h := h.2 c_10
                  refine lv_aload_n hx hb dX5_reckon_86 rfl (lv_at hl 4 rfl) ?_
                  refine lv_iload hx hb dX5_reckon_87 (lv_at hl 5 rfl) ?_
                  refine lv_iconst (v := 1) hx hb dX5_reckon_89 (by decide) ?_
                  refine lv_isub hx hb dX5_reckon_90 ?_
                  refine lv_iload hx hb dX5_reckon_91 (lv_at hl 0 rfl) ?_
                  refine lv_aload_n hx hb dX5_reckon_93 rfl (lv_at hl 4 rfl) ?_
                  refine lv_iload hx hb dX5_reckon_94 (lv_at hl 5 rfl) ?_
                  refine lv_iconst (v := 1) hx hb dX5_reckon_96 (by decide) ?_
                  refine lv_isub hx hb dX5_reckon_97 ?_
                  refine ldC8_10 C hd (v := k.2.1 1 10 (x4 - (1 : Int32)).toNatClampNeg) h.1 rfl dX5_reckon_98 ?_
                  replace h := h.2
                  refine es_i C hd kwRX5_X5_byOne_18 (cC_X5_byOne _ _ h) ⟨rfl, rfl⟩ ⟨by decide, by decide⟩ hl.1 rfl rfl (Nat.le_of_ble_eq_true rfl) ⟨Nat.zero_le _, Nat.zero_le _⟩ dX5_reckon_99 (fun r_11 k_11 H locs h hd => ?_)
                  refine stC8_10 C hd h.1 dX5_reckon_102 (fun H locs hd => ?_)
                  replace h := h.2
                  refine lv_goto (tgt := 136) hx hb dX5_reckon_103 (by decide) ?_
                  refine lv_iinc (v := (x5 + (1 : Int32))) (lv' := [(5, .int (x5 + (1 : Int32))), (6, .int (d.2.2.2.2.1 x5.toNatClampNeg)), (0, .ref d.1), (1, .int x1), (2, .ref (b 1 9)), (3, .ref (b 1 10)), (4, .int x4)]) hx hb dX5_reckon_136 hl (k := 6) rfl rfl (by decide) rfl (fun ls hl => ?_)
                  refine lv_goto (tgt := 11) hx hb dX5_reckon_139 (by decide) ?_
                  exact (ih).1 x1 x4 (x5 + (1 : Int32))  _ _ _ _ h hd (lv_sub hl [2, 3, 4, 5, 6, 0] rfl)
            · replace h := h.2 c_8
              refine lv_aload_n hx hb dX5_reckon_47 rfl (lv_at hl 4 rfl) ?_
              refine lv_iload hx hb dX5_reckon_48 (lv_at hl 5 rfl) ?_
              refine lv_iload hx hb dX5_reckon_50 (lv_at hl 0 rfl) ?_
              refine lv_if_lt (tgt := 60) hx hb dX5_reckon_52 (by decide) (fun c_12 => ?_) (fun c_12 => ?_)
              · replace h := h.1 c_12
                refine lv_aload_n hx hb dX5_reckon_60 rfl (lv_at hl 3 rfl) ?_
                refine lv_iconst (v := -1) hx hb dX5_reckon_61 (by decide) ?_
                refine lv_iload hx hb dX5_reckon_62 (lv_at hl 0 rfl) ?_
                refine lv_isub hx hb dX5_reckon_64 ?_
                refine ldC8_9 C hd (v := k.2.1 1 9 ((-1 : Int32) - (d.2.2.2.2.1 x5.toNatClampNeg)).toNatClampNeg) h.1 rfl dX5_reckon_65 ?_
                replace h := h.2
                refine stC8_10 C hd h.1 dX5_reckon_66 (fun H locs hd => ?_)
                replace h := h.2
                refine lv_iinc (v := (x4 + (1 : Int32))) (lv' := [(4, .int (x4 + (1 : Int32))), (6, .int (d.2.2.2.2.1 x5.toNatClampNeg)), (0, .ref d.1), (1, .int x1), (2, .ref (b 1 9)), (3, .ref (b 1 10)), (5, .int x5)]) hx hb dX5_reckon_67 hl (k := 5) rfl rfl (by decide) rfl (fun ls hl => ?_)
                refine lv_goto (tgt := 136) hx hb dX5_reckon_70 (by decide) ?_
                refine lv_iinc (v := (x5 + (1 : Int32))) (lv' := [(5, .int (x5 + (1 : Int32))), (4, .int (x4 + (1 : Int32))), (6, .int (d.2.2.2.2.1 x5.toNatClampNeg)), (0, .ref d.1), (1, .int x1), (2, .ref (b 1 9)), (3, .ref (b 1 10))]) hx hb dX5_reckon_136 hl (k := 6) rfl rfl (by decide) rfl (fun ls hl => ?_)
                refine lv_goto (tgt := 11) hx hb dX5_reckon_139 (by decide) ?_
                exact (ih).1 x1 (x4 + (1 : Int32)) (x5 + (1 : Int32))  _ _ _ _ h hd (lv_sub hl [3, 4, 5, 6, 1, 0] rfl)
              · replace h := h.2 c_12
                refine lv_iload hx hb dX5_reckon_55 (lv_at hl 0 rfl) ?_
                refine lv_goto (tgt := 66) hx hb dX5_reckon_57 (by decide) ?_
                refine stC8_10 C hd h.1 dX5_reckon_66 (fun H locs hd => ?_)
                replace h := h.2
                refine lv_iinc (v := (x4 + (1 : Int32))) (lv' := [(4, .int (x4 + (1 : Int32))), (6, .int (d.2.2.2.2.1 x5.toNatClampNeg)), (0, .ref d.1), (1, .int x1), (2, .ref (b 1 9)), (3, .ref (b 1 10)), (5, .int x5)]) hx hb dX5_reckon_67 hl (k := 5) rfl rfl (by decide) rfl (fun ls hl => ?_)
                refine lv_goto (tgt := 136) hx hb dX5_reckon_70 (by decide) ?_
                refine lv_iinc (v := (x5 + (1 : Int32))) (lv' := [(5, .int (x5 + (1 : Int32))), (4, .int (x4 + (1 : Int32))), (6, .int (d.2.2.2.2.1 x5.toNatClampNeg)), (0, .ref d.1), (1, .int x1), (2, .ref (b 1 9)), (3, .ref (b 1 10))]) hx hb dX5_reckon_136 hl (k := 6) rfl rfl (by decide) rfl (fun ls hl => ?_)
                refine lv_goto (tgt := 11) hx hb dX5_reckon_139 (by decide) ?_
                exact (ih).1 x1 (x4 + (1 : Int32)) (x5 + (1 : Int32))  _ _ _ _ h hd (lv_sub hl [3, 4, 5, 6, 1, 0] rfl)
      · intro x1 x4 x5 x6 k H locs ls h hd hl
        replace h : ((x4 < (2 : Int32) → wC_X5_reckon d n 1 x1 x4 (x5 + (1 : Int32)) 0 k Qp) ∧ (¬ x4 < (2 : Int32) → (vp_in ((x4 + (-1 : Int32)) - (1 : Int32)) 160 ∧ (vp_in (x4 + (-1 : Int32)) 160 ∧ (wC_X5_byTwo x6 (k.2.1 1 10 ((x4 + (-1 : Int32)) - (1 : Int32)).toNatClampNeg) (k.2.1 1 10 (x4 + (-1 : Int32)).toNatClampNeg) k (fun r_14 k_14 => (vp_in ((x4 + (-1 : Int32)) - (1 : Int32)) 160 ∧ wC_X5_reckon d n 1 x1 (x4 + (-1 : Int32)) (x5 + (1 : Int32)) 0 (cA k_14 1 10 (upd (k_14.2.1 1 10) ((x4 + (-1 : Int32)) - (1 : Int32)).toNatClampNeg r_14)) Qp))))))) := h
        refine lv_iload hx hb dX5_reckon_106 (lv_at hl 4 rfl) ?_
        refine lv_iconst (v := 2) hx hb dX5_reckon_108 (by decide) ?_
        refine lv_icmp_lt (tgt := 136) hx hb dX5_reckon_109 (by decide) (fun c_13 => ?_) (fun c_13 => ?_)
        · replace h := h.1 c_13
          refine lv_iinc (v := (x5 + (1 : Int32))) (lv' := [(5, .int (x5 + (1 : Int32))), (0, .ref d.1), (1, .int x1), (2, .ref (b 1 9)), (3, .ref (b 1 10)), (4, .int x4), (6, .int x6)]) hx hb dX5_reckon_136 hl (k := 5) rfl rfl (by decide) rfl (fun ls hl => ?_)
          refine lv_goto (tgt := 11) hx hb dX5_reckon_139 (by decide) ?_
          exact (ih).1 x1 x4 (x5 + (1 : Int32))  _ _ _ _ h hd (lv_sub hl [1, 2, 3, 4, 5, 0] rfl)
        · replace h := h.2 c_13
          refine lv_iinc (v := (x4 + (-1 : Int32))) (lv' := [(4, .int (x4 + (-1 : Int32))), (0, .ref d.1), (1, .int x1), (2, .ref (b 1 9)), (3, .ref (b 1 10)), (5, .int x5), (6, .int x6)]) hx hb dX5_reckon_112 hl (k := 4) rfl rfl (by decide) rfl (fun ls hl => ?_)
          refine lv_aload_n hx hb dX5_reckon_115 rfl (lv_at hl 4 rfl) ?_
          refine lv_iload hx hb dX5_reckon_116 (lv_at hl 0 rfl) ?_
          refine lv_iconst (v := 1) hx hb dX5_reckon_118 (by decide) ?_
          refine lv_isub hx hb dX5_reckon_119 ?_
          refine lv_iload hx hb dX5_reckon_120 (lv_at hl 6 rfl) ?_
          refine lv_aload_n hx hb dX5_reckon_122 rfl (lv_at hl 4 rfl) ?_
          refine lv_iload hx hb dX5_reckon_123 (lv_at hl 0 rfl) ?_
          refine lv_iconst (v := 1) hx hb dX5_reckon_125 (by decide) ?_
          refine lv_isub hx hb dX5_reckon_126 ?_
          refine ldC8_10 C hd (v := k.2.1 1 10 ((x4 + (-1 : Int32)) - (1 : Int32)).toNatClampNeg) h.1 rfl dX5_reckon_127 ?_
          replace h := h.2
          refine lv_aload_n hx hb dX5_reckon_128 rfl (lv_at hl 4 rfl) ?_
          refine lv_iload hx hb dX5_reckon_129 (lv_at hl 0 rfl) ?_
          refine ldC8_10 C hd (v := k.2.1 1 10 (x4 + (-1 : Int32)).toNatClampNeg) h.1 rfl dX5_reckon_131 ?_
          replace h := h.2
          refine es_i C hd kwRX5_X5_byTwo_22 (cC_X5_byTwo _ _ _ h) ⟨rfl, rfl⟩ ⟨by decide, by decide⟩ hl.1 rfl rfl (Nat.le_of_ble_eq_true rfl) ⟨Nat.zero_le _, Nat.zero_le _⟩ dX5_reckon_132 (fun r_14 k_14 H locs h hd => ?_)
          refine stC8_10 C hd h.1 dX5_reckon_135 (fun H locs hd => ?_)
          replace h := h.2
          refine lv_iinc (v := (x5 + (1 : Int32))) (lv' := [(5, .int (x5 + (1 : Int32))), (4, .int (x4 + (-1 : Int32))), (0, .ref d.1), (1, .int x1), (2, .ref (b 1 9)), (3, .ref (b 1 10)), (6, .int x6)]) hx hb dX5_reckon_136 hl (k := 5) rfl rfl (by decide) rfl (fun ls hl => ?_)
          refine lv_goto (tgt := 11) hx hb dX5_reckon_139 (by decide) ?_
          exact (ih).1 x1 (x4 + (-1 : Int32)) (x5 + (1 : Int32))  _ _ _ _ h hd (lv_sub hl [2, 3, 4, 5, 1, 0] rfl)
  cases n with
  | zero => exact h.elim
  | succ n =>
    replace h : (d ∈ txC k ∧ (vp_in x1 4 ∧ wC_X5_reckon d n 1 x1 (0 : Int32) (d.2.2.2.2.2 x1.toNatClampNeg) 0 k Qp)) := h
    refine lv_iconst (v := 0) hx hb dX5_reckon_0 (by decide) ?_
    refine lv_istore (lv' := [(4, .int (0 : Int32)), (0, .ref d.1), (1, .int x1), (2, .ref (b 1 9)), (3, .ref (b 1 10))]) hx hb dX5_reckon_1 hl (by decide) rfl (fun ls hl => ?_)
    refine lv_aload_n hx hb dX5_reckon_3 rfl (lv_at hl 1 rfl) ?_
    have hm_1 := h.1
    replace h := h.2
    refine gC5_5_1 C hd hm_1 dX5_reckon_4 ?_
    refine lv_iload_n hx hb dX5_reckon_7 rfl (lv_at hl 2 rfl) ?_
    refine ldC5_1 C hd hm_1 h.1 dX5_reckon_8 ?_
    replace h := h.2
    refine lv_istore (lv' := [(5, .int (d.2.2.2.2.2 x1.toNatClampNeg)), (4, .int (0 : Int32)), (0, .ref d.1), (1, .int x1), (2, .ref (b 1 9)), (3, .ref (b 1 10))]) hx hb dX5_reckon_9 hl (by decide) rfl (fun ls hl => ?_)
    exact (L n).1 x1 (0 : Int32) (d.2.2.2.2.2 x1.toNatClampNeg)  _ _ _ _ h hd (lv_sub hl [2, 3, 4, 5, 1, 0] rfl)
def wC_X0_says (i : Nat) (x1 : Int32) (x2 : Int32) (x3 : Int32) (x4 : Int32) (x5 : Int32) (k : KC) (Q : Int32 → KC → Prop) : Prop := (vp_in x2 8 ∧ (vp_in x2 8 ∧ (vp_in (k.1 i 10) 6 ∧ (((k.2.2.2.1 (k.1 i 10).toNatClampNeg) = none → Q (0 : Int32) (cA (cA (cA (cA (cA (cA k 1 9 (upd (k.2.1 1 9) 0 (k.2.1 i 1 x2.toNatClampNeg))) 1 9 (upd (upd (k.2.1 1 9) 0 (k.2.1 i 1 x2.toNatClampNeg)) 1 x3)) 1 9 (upd (upd (upd (k.2.1 1 9) 0 (k.2.1 i 1 x2.toNatClampNeg)) 1 x3) 2 x4)) 1 9 (upd (upd (upd (upd (k.2.1 1 9) 0 (k.2.1 i 1 x2.toNatClampNeg)) 1 x3) 2 x4) 3 (k.2.1 1 3 x2.toNatClampNeg))) 1 9 (upd (upd (upd (upd (upd (k.2.1 1 9) 0 (k.2.1 i 1 x2.toNatClampNeg)) 1 x3) 2 x4) 3 (k.2.1 1 3 x2.toNatClampNeg)) 4 (k.1 i 7))) 1 9 (upd (upd (upd (upd (upd (upd (k.2.1 1 9) 0 (k.2.1 i 1 x2.toNatClampNeg)) 1 x3) 2 x4) 3 (k.2.1 1 3 x2.toNatClampNeg)) 4 (k.1 i 7)) 5 x5))) ∧ (∀ x_1 : Nat, (k.2.2.2.1 (k.1 i 10).toNatClampNeg) = some x_1 → ∃ d_1 : Dn, d_1.1 = x_1 ∧ (d_1 ∈ txC k ∧ ∃ n_3 : Nat, wC_X5_reckon d_1 n_3 0 x1 0 0 0 (cA (cA (cA (cA (cA (cA k 1 9 (upd (k.2.1 1 9) 0 (k.2.1 i 1 x2.toNatClampNeg))) 1 9 (upd (upd (k.2.1 1 9) 0 (k.2.1 i 1 x2.toNatClampNeg)) 1 x3)) 1 9 (upd (upd (upd (k.2.1 1 9) 0 (k.2.1 i 1 x2.toNatClampNeg)) 1 x3) 2 x4)) 1 9 (upd (upd (upd (upd (k.2.1 1 9) 0 (k.2.1 i 1 x2.toNatClampNeg)) 1 x3) 2 x4) 3 (k.2.1 1 3 x2.toNatClampNeg))) 1 9 (upd (upd (upd (upd (upd (k.2.1 1 9) 0 (k.2.1 i 1 x2.toNatClampNeg)) 1 x3) 2 x4) 3 (k.2.1 1 3 x2.toNatClampNeg)) 4 (k.1 i 7))) 1 9 (upd (upd (upd (upd (upd (upd (k.2.1 1 9) 0 (k.2.1 i 1 x2.toNatClampNeg)) 1 x3) 2 x4) 3 (k.2.1 1 3 x2.toNatClampNeg)) 4 (k.1 i 7)) 5 x5)) (fun r_3 k_3 => Q r_3 k_3)))))))
set_option maxHeartbeats 4000000 in
set_option maxRecDepth 100000 in
theorem cC_X0_says {l : Launch} {P : EP} {D : va_G} {a : Nat → Nat} {b : Nat → Nat → Nat} {g : Nat → ClassId} {i : Nat} (hi : i = 2 ∨ i = 3 ∨ i = 4) {k : KC} {Qp : Int32 → KC → Prop} (x1 : Int32) (x2 : Int32) (x3 : Int32) (x4 : Int32) (x5 : Int32) (h : wC_X0_says i x1 x2 x3 x4 x5 k Qp) : Di l P D (tyA g) (wC a b g) yX0_says cX0_says 8 ({ frames := 2, cells := 0, slots := 0, locals := 48 }) [.ref (a i), .int x1, .int x2, .int x3, .int x4, .int x5] k Qp := by
  refine Di_of (by decide) (Nat.le_of_ble_eq_true rfl) ?_
  intro p e s m args below meth c A Z ls C ret hd hl
  have hx := C.1
  have hb := C.2.1
  have hl : lv_has ls 8 [(0, .ref (a i)), (1, .int x1), (2, .int x2), (3, .int x3), (4, .int x4), (5, .int x5)] := hl
  replace h : (vp_in x2 8 ∧ (vp_in x2 8 ∧ (vp_in (k.1 i 10) 6 ∧ (((k.2.2.2.1 (k.1 i 10).toNatClampNeg) = none → Qp (0 : Int32) (cA (cA (cA (cA (cA (cA k 1 9 (upd (k.2.1 1 9) 0 (k.2.1 i 1 x2.toNatClampNeg))) 1 9 (upd (upd (k.2.1 1 9) 0 (k.2.1 i 1 x2.toNatClampNeg)) 1 x3)) 1 9 (upd (upd (upd (k.2.1 1 9) 0 (k.2.1 i 1 x2.toNatClampNeg)) 1 x3) 2 x4)) 1 9 (upd (upd (upd (upd (k.2.1 1 9) 0 (k.2.1 i 1 x2.toNatClampNeg)) 1 x3) 2 x4) 3 (k.2.1 1 3 x2.toNatClampNeg))) 1 9 (upd (upd (upd (upd (upd (k.2.1 1 9) 0 (k.2.1 i 1 x2.toNatClampNeg)) 1 x3) 2 x4) 3 (k.2.1 1 3 x2.toNatClampNeg)) 4 (k.1 i 7))) 1 9 (upd (upd (upd (upd (upd (upd (k.2.1 1 9) 0 (k.2.1 i 1 x2.toNatClampNeg)) 1 x3) 2 x4) 3 (k.2.1 1 3 x2.toNatClampNeg)) 4 (k.1 i 7)) 5 x5))) ∧ (∀ x_1 : Nat, (k.2.2.2.1 (k.1 i 10).toNatClampNeg) = some x_1 → ∃ d_1 : Dn, d_1.1 = x_1 ∧ (d_1 ∈ txC k ∧ ∃ n_3 : Nat, wC_X5_reckon d_1 n_3 0 x1 0 0 0 (cA (cA (cA (cA (cA (cA k 1 9 (upd (k.2.1 1 9) 0 (k.2.1 i 1 x2.toNatClampNeg))) 1 9 (upd (upd (k.2.1 1 9) 0 (k.2.1 i 1 x2.toNatClampNeg)) 1 x3)) 1 9 (upd (upd (upd (k.2.1 1 9) 0 (k.2.1 i 1 x2.toNatClampNeg)) 1 x3) 2 x4)) 1 9 (upd (upd (upd (upd (k.2.1 1 9) 0 (k.2.1 i 1 x2.toNatClampNeg)) 1 x3) 2 x4) 3 (k.2.1 1 3 x2.toNatClampNeg))) 1 9 (upd (upd (upd (upd (upd (k.2.1 1 9) 0 (k.2.1 i 1 x2.toNatClampNeg)) 1 x3) 2 x4) 3 (k.2.1 1 3 x2.toNatClampNeg)) 4 (k.1 i 7))) 1 9 (upd (upd (upd (upd (upd (upd (k.2.1 1 9) 0 (k.2.1 i 1 x2.toNatClampNeg)) 1 x3) 2 x4) 3 (k.2.1 1 3 x2.toNatClampNeg)) 4 (k.1 i 7)) 5 x5)) (fun r_3 k_3 => Qp r_3 k_3))))))) := h
  refine lv_aload_n hx hb dX0_says_0 rfl (lv_at hl 0 rfl) ?_
  refine gC0_0_0 C hd hi dX0_says_1 ?_
  refine gC0_8_9 C hd dX0_says_4 ?_
  refine lv_astore (lv' := [(6, .ref (b 1 9)), (0, .ref (a i)), (1, .int x1), (2, .int x2), (3, .int x3), (4, .int x4), (5, .int x5)]) hx hb dX0_says_7 hl (by decide) rfl (fun ls hl => ?_)
  refine lv_aload hx hb dX0_says_9 (lv_at hl 0 rfl) ?_
  refine lv_iconst (v := 0) hx hb dX0_says_11 (by decide) ?_
  refine lv_aload_n hx hb dX0_says_12 rfl (lv_at hl 1 rfl) ?_
  refine gC0_0_1 C hd hi dX0_says_13 ?_
  refine lv_iload_n hx hb dX0_says_16 rfl (lv_at hl 3 rfl) ?_
  refine ldC0_1 C hd hi (v := k.2.1 i 1 x2.toNatClampNeg) h.1 rfl dX0_says_17 ?_
  replace h := h.2
  refine stC8_9 C hd (by unfold vp_in; decide) dX0_says_18 (fun H locs hd => ?_)
  refine lv_aload hx hb dX0_says_19 (lv_at hl 0 rfl) ?_
  refine lv_iconst (v := 1) hx hb dX0_says_21 (by decide) ?_
  refine lv_iload_n hx hb dX0_says_22 rfl (lv_at hl 4 rfl) ?_
  refine stC8_9 C hd (by unfold vp_in; decide) dX0_says_23 (fun H locs hd => ?_)
  refine lv_aload hx hb dX0_says_24 (lv_at hl 0 rfl) ?_
  refine lv_iconst (v := 2) hx hb dX0_says_26 (by decide) ?_
  refine lv_iload hx hb dX0_says_27 (lv_at hl 5 rfl) ?_
  refine stC8_9 C hd (by unfold vp_in; decide) dX0_says_29 (fun H locs hd => ?_)
  refine lv_aload hx hb dX0_says_30 (lv_at hl 0 rfl) ?_
  refine lv_iconst (v := 3) hx hb dX0_says_32 (by decide) ?_
  refine lv_aload_n hx hb dX0_says_33 rfl (lv_at hl 1 rfl) ?_
  refine gC0_0_0 C hd hi dX0_says_34 ?_
  refine gC0_8_3 C hd dX0_says_37 ?_
  refine lv_iload_n hx hb dX0_says_40 rfl (lv_at hl 3 rfl) ?_
  refine ldC8_3 C hd (v := k.2.1 1 3 x2.toNatClampNeg) h.1 rfl dX0_says_41 ?_
  replace h := h.2
  refine stC8_9 C hd (by unfold vp_in; decide) dX0_says_42 (fun H locs hd => ?_)
  refine lv_aload hx hb dX0_says_43 (lv_at hl 0 rfl) ?_
  refine lv_iconst (v := 4) hx hb dX0_says_45 (by decide) ?_
  refine lv_aload_n hx hb dX0_says_46 rfl (lv_at hl 1 rfl) ?_
  refine gC0_0_7 C hd hi (v := k.1 i 7) rfl dX0_says_47 ?_
  refine stC8_9 C hd (by unfold vp_in; decide) dX0_says_50 (fun H locs hd => ?_)
  refine lv_aload hx hb dX0_says_51 (lv_at hl 0 rfl) ?_
  refine lv_iconst (v := 5) hx hb dX0_says_53 (by decide) ?_
  refine lv_iload hx hb dX0_says_54 (lv_at hl 6 rfl) ?_
  refine stC8_9 C hd (by unfold vp_in; decide) dX0_says_56 (fun H locs hd => ?_)
  refine lv_aload_n hx hb dX0_says_57 rfl (lv_at hl 1 rfl) ?_
  refine gC0_0_0 C hd hi dX0_says_58 ?_
  refine gC0_8_7 C hd dX0_says_61 ?_
  refine lv_aload_n hx hb dX0_says_64 rfl (lv_at hl 1 rfl) ?_
  refine gC0_0_10 C hd hi (v := k.1 i 10) rfl dX0_says_65 ?_
  refine ldC8_7 C hd h.1 dX0_says_68 ?_
  replace h := h.2
  refine rf_split (fun e_1 => ?_) (fun x_1 e_1 => ?_)
  · replace h := h.1 e_1
    refine lv_astoreN (lv' := [(7, .null), (6, .ref (b 1 9)), (0, .ref (a i)), (1, .int x1), (2, .int x2), (3, .int x3), (4, .int x4), (5, .int x5)]) hx hb dX0_says_69 hl (by decide) rfl (fun ls hl => ?_)
    refine lv_aloadN hx hb dX0_says_71 (lv_at hl 0 rfl) ?_
    refine lv_ifnonnullN hx hb dX0_says_73 ?_
    refine lv_iconst (v := 0) hx hb dX0_says_76 (by decide) ?_
    refine lv_goto (tgt := 95) hx hb dX0_says_77 (by decide) ?_
    exact ret hd h dX0_says_95
  · obtain ⟨d_1, hx_1, h⟩ := h.2 x_1 e_1
    subst hx_1
    refine lv_astore (lv' := [(7, .ref d_1.1), (6, .ref (b 1 9)), (0, .ref (a i)), (1, .int x1), (2, .int x2), (3, .int x3), (4, .int x4), (5, .int x5)]) hx hb dX0_says_69 hl (by decide) rfl (fun ls hl => ?_)
    refine lv_aload hx hb dX0_says_71 (lv_at hl 0 rfl) ?_
    refine lv_ifnonnull (tgt := 80) hx hb dX0_says_73 (by decide) ?_
    refine lv_aload hx hb dX0_says_80 (lv_at hl 0 rfl) ?_
    refine lv_iload_n hx hb dX0_says_82 rfl (lv_at hl 3 rfl) ?_
    refine lv_aload hx hb dX0_says_83 (lv_at hl 1 rfl) ?_
    refine lv_aload_n hx hb dX0_says_85 rfl (lv_at hl 2 rfl) ?_
    refine gC0_0_0 C hd hi dX0_says_86 ?_
    refine gC0_8_10 C hd dX0_says_89 ?_
    have hm_2 := h.1
    replace h := h.2
    obtain ⟨n_3, h⟩ := h
    refine ev_i C hd kwRX0_X5_reckon_137 (cC_X5_reckon n_3 _ h) ⟨rfl, rfl⟩ ⟨by decide, by decide⟩ (rcC5 hm_2) hl.1 rfl rfl (Nat.le_of_ble_eq_true rfl) ⟨Nat.zero_le _, Nat.zero_le _⟩ dX0_says_92 (fun r_3 k_3 H locs h hd => ?_)
    exact ret hd h dX0_says_95
def wC_isOn (x0 : Int32) (x1 : Int32) (k : KC) (Q : Int32 → KC → Prop) : Prop := ((¬ ((x0 >>> (x1 &&& 31)) &&& (1 : Int32)) = (1 : Int32) → Q (0 : Int32) k) ∧ (((x0 >>> (x1 &&& 31)) &&& (1 : Int32)) = (1 : Int32) → Q (1 : Int32) k))
set_option maxHeartbeats 4000000 in
set_option maxRecDepth 100000 in
theorem cC_isOn {l : Launch} {P : EP} {D : va_G} {a : Nat → Nat} {b : Nat → Nat → Nat} {g : Nat → ClassId} {k : KC} {Qp : Int32 → KC → Prop} (x0 : Int32) (x1 : Int32) (h : wC_isOn x0 x1 k Qp) : Dz l P D (tyA g) (wC a b g) yX9_isOn cX9_isOn 2 ({ frames := 0, cells := 0, slots := 0, locals := 0 }) [.int x0, .int x1] k Qp := by
  refine Dz_of (by decide) (Nat.le_of_ble_eq_true rfl) ?_
  intro p e s m args below meth c A Z ls C ret hd hl
  have hx := C.1
  have hb := C.2.1
  have hl : lv_has ls 2 [(0, .int x0), (1, .int x1)] := hl
  replace h : ((¬ ((x0 >>> (x1 &&& 31)) &&& (1 : Int32)) = (1 : Int32) → Qp (0 : Int32) k) ∧ (((x0 >>> (x1 &&& 31)) &&& (1 : Int32)) = (1 : Int32) → Qp (1 : Int32) k)) := h
  refine lv_iload_n hx hb dX9_isOn_0 rfl (lv_at hl 0 rfl) ?_
  refine lv_iload_n hx hb dX9_isOn_1 rfl (lv_at hl 1 rfl) ?_
  refine lv_ishr hx hb dX9_isOn_2 ?_
  refine lv_iconst (v := 1) hx hb dX9_isOn_3 (by decide) ?_
  refine lv_iand hx hb dX9_isOn_4 ?_
  refine lv_iconst (v := 1) hx hb dX9_isOn_5 (by decide) ?_
  refine lv_icmp_ne (tgt := 13) hx hb dX9_isOn_6 (by decide) (fun c_1 => ?_) (fun c_1 => ?_)
  · replace h := h.1 c_1
    refine lv_iconst (v := 0) hx hb dX9_isOn_13 (by decide) ?_
    exact ret hd (by decide) h dX9_isOn_14
  · replace h := h.2 c_1
    refine lv_iconst (v := 1) hx hb dX9_isOn_9 (by decide) ?_
    refine lv_goto (tgt := 14) hx hb dX9_isOn_10 (by decide) ?_
    exact ret hd (by decide) h dX9_isOn_14
def wC_X0_lentTo (i : Nat) : Nat → Nat → Int32 → Int32 → Int32 → Int32 → KC → (Int32 → KC → Prop) → Prop
  | 0, _, _, _, _, _, _, _ => False
  | n + 1, c, x1, x2, x3, x4, k, Q => match c with
    | 0 => wC_X0_lentTo i n 1 x1 x2 (0 : Int32) (0 : Int32) k Q
    | _ => (((k.1 1 0) ≤ x4 → Q x3 k) ∧ (¬ (k.1 1 0) ≤ x4 → (wC_isOn x2 x4 k (fun r_2 k_2 => ((¬ r_2 = 0 → wC_X0_lentTo i n 1 x1 x2 x3 (x4 + (1 : Int32)) k_2 Q) ∧ (r_2 = 0 → (vp_in x4 8 ∧ (vp_in ((x1 * (8 : Int32)) + x4) 64 ∧ (∀ v_4 : Int32, v_4 = (x3 + (((k_2.2.1 i 1 x4.toNatClampNeg) * (k_2.2.1 1 6 ((x1 * (8 : Int32)) + x4).toNatClampNeg)) / (100 : Int32))) → wC_X0_lentTo i n 1 x1 x2 v_4 (x4 + (1 : Int32)) k_2 Q)))))))))
set_option maxHeartbeats 4000000 in
set_option maxRecDepth 100000 in
theorem cC_X0_lentTo {l : Launch} {P : EP} {D : va_G} {a : Nat → Nat} {b : Nat → Nat → Nat} {g : Nat → ClassId} {i : Nat} (hi : i = 2 ∨ i = 3 ∨ i = 4) {k : KC} {Qp : Int32 → KC → Prop} (n : Nat) (x1 : Int32) (x2 : Int32) (h : wC_X0_lentTo i n 0 x1 x2 0 0 k Qp) : Di l P D (tyA g) (wC a b g) yX0_lentTo cX0_lentTo 5 ({ frames := 1, cells := 0, slots := 0, locals := 21 }) [.ref (a i), .int x1, .int x2] k Qp := by
  refine Di_of (by decide) (Nat.le_of_ble_eq_true rfl) ?_
  intro p e s m args below meth c A Z ls C ret hd hl
  have hx := C.1
  have hb := C.2.1
  have hl : lv_has ls 5 [(0, .ref (a i)), (1, .int x1), (2, .int x2)] := hl
  have L : ∀ n : Nat, (∀ (x1 : Int32) (x2 : Int32) (x3 : Int32) (x4 : Int32) (k : KC) (H : Heap) (locs : List Loc) (ls : Array Slot), wC_X0_lentTo i n 1 x1 x2 x3 x4 k Qp → Hd D (wC a b g k) A s H locs → lv_has ls 5 [(0, .ref (a i)), (1, .int x1), (2, .int x2), (3, .int x3), (4, .int x4)] → W p l e ({ frames := 1, cells := 0, slots := 0, locals := 21 }) s m args below meth c H locs 0 0 Z (F0 m 5 ls [])) := by
    intro n
    induction n with
    | zero => exact fun _ _ _ _ _ _ _ _ h => h.elim
    | succ n ih =>
      intro x1 x2 x3 x4 k H locs ls h hd hl
      replace h : (((k.1 1 0) ≤ x4 → Qp x3 k) ∧ (¬ (k.1 1 0) ≤ x4 → (wC_isOn x2 x4 k (fun r_2 k_2 => ((¬ r_2 = 0 → wC_X0_lentTo i n 1 x1 x2 x3 (x4 + (1 : Int32)) k_2 Qp) ∧ (r_2 = 0 → (vp_in x4 8 ∧ (vp_in ((x1 * (8 : Int32)) + x4) 64 ∧ (∀ v_4 : Int32, v_4 = (x3 + (((k_2.2.1 i 1 x4.toNatClampNeg) * (k_2.2.1 1 6 ((x1 * (8 : Int32)) + x4).toNatClampNeg)) / (100 : Int32))) → wC_X0_lentTo i n 1 x1 x2 v_4 (x4 + (1 : Int32)) k_2 Qp))))))))) := h
      refine lv_iload hx hb dX0_lentTo_5 (lv_at hl 4 rfl) ?_
      refine lv_aload_n hx hb dX0_lentTo_7 rfl (lv_at hl 0 rfl) ?_
      refine gC0_0_0 C hd hi dX0_lentTo_8 ?_
      refine gC0_8_0 C hd (v := k.1 1 0) rfl dX0_lentTo_11 ?_
      refine lv_icmp_ge (tgt := 61) hx hb dX0_lentTo_14 (by decide) (fun c_1 => ?_) (fun c_1 => ?_)
      · replace h := h.1 c_1
        refine lv_iload_n hx hb dX0_lentTo_61 rfl (lv_at hl 3 rfl) ?_
        exact ret hd h dX0_lentTo_62
      · replace h := h.2 c_1
        refine lv_iload_n hx hb dX0_lentTo_17 rfl (lv_at hl 2 rfl) ?_
        refine lv_iload hx hb dX0_lentTo_18 (lv_at hl 4 rfl) ?_
        refine en_z C hd kwRX0_X9_isOn_75 (cC_isOn _ _ h) ⟨rfl, rfl⟩ ⟨by decide, by decide⟩ hl.1 rfl rfl (Nat.le_of_ble_eq_true rfl) ⟨Nat.zero_le _, Nat.zero_le _⟩ dX0_lentTo_20 (fun r_2 k_2 H locs hz_2 h hd => ?_)
        refine lv_if_ne (tgt := 55) hx hb dX0_lentTo_23 (by decide) (fun c_3 => ?_) (fun c_3 => ?_)
        · replace h := h.1 c_3
          refine lv_iinc (v := (x4 + (1 : Int32))) (lv' := [(4, .int (x4 + (1 : Int32))), (0, .ref (a i)), (1, .int x1), (2, .int x2), (3, .int x3)]) hx hb dX0_lentTo_55 hl (k := 4) rfl rfl (by decide) rfl (fun ls hl => ?_)
          refine lv_goto (tgt := 5) hx hb dX0_lentTo_58 (by decide) ?_
          exact ih x1 x2 x3 (x4 + (1 : Int32))  _ _ _ _ h hd (lv_sub hl [1, 2, 3, 4, 0] rfl)
        · replace h := h.2 c_3
          refine lv_iload_n hx hb dX0_lentTo_26 rfl (lv_at hl 3 rfl) ?_
          refine lv_aload_n hx hb dX0_lentTo_27 rfl (lv_at hl 0 rfl) ?_
          refine gC0_0_1 C hd hi dX0_lentTo_28 ?_
          refine lv_iload hx hb dX0_lentTo_31 (lv_at hl 4 rfl) ?_
          refine ldC0_1 C hd hi (v := k_2.2.1 i 1 x4.toNatClampNeg) h.1 rfl dX0_lentTo_33 ?_
          replace h := h.2
          refine lv_aload_n hx hb dX0_lentTo_34 rfl (lv_at hl 0 rfl) ?_
          refine gC0_0_0 C hd hi dX0_lentTo_35 ?_
          refine gC0_8_6 C hd dX0_lentTo_38 ?_
          refine lv_iload_n hx hb dX0_lentTo_41 rfl (lv_at hl 1 rfl) ?_
          refine lv_bipush (v := 8) hx hb dX0_lentTo_42 (by decide) ?_
          refine lv_imul hx hb dX0_lentTo_44 ?_
          refine lv_iload hx hb dX0_lentTo_45 (lv_at hl 4 rfl) ?_
          refine lv_iadd hx hb dX0_lentTo_47 ?_
          refine ldC8_6 C hd (v := k_2.2.1 1 6 ((x1 * (8 : Int32)) + x4).toNatClampNeg) h.1 rfl dX0_lentTo_48 ?_
          replace h := h.2
          refine lv_imul hx hb dX0_lentTo_49 ?_
          refine lv_bipush (v := 100) hx hb dX0_lentTo_50 (by decide) ?_
          refine lv_idiv hx hb dX0_lentTo_52 (by decide) ?_
          refine lv_iadd hx hb dX0_lentTo_53 ?_
          refine lv_topi (fun v_4 e_4 => ?_)
          replace h := h v_4 e_4
          refine lv_istore_n (lv' := [(3, .int v_4), (0, .ref (a i)), (1, .int x1), (2, .int x2), (4, .int x4)]) hx hb dX0_lentTo_54 rfl hl (by decide) rfl (fun ls hl => ?_)
          refine lv_iinc (v := (x4 + (1 : Int32))) (lv' := [(4, .int (x4 + (1 : Int32))), (3, .int v_4), (0, .ref (a i)), (1, .int x1), (2, .int x2)]) hx hb dX0_lentTo_55 hl (k := 4) rfl rfl (by decide) rfl (fun ls hl => ?_)
          refine lv_goto (tgt := 5) hx hb dX0_lentTo_58 (by decide) ?_
          exact ih x1 x2 v_4 (x4 + (1 : Int32))  _ _ _ _ h hd (lv_sub hl [2, 3, 4, 1, 0] rfl)
  cases n with
  | zero => exact h.elim
  | succ n =>
    replace h : wC_X0_lentTo i n 1 x1 x2 (0 : Int32) (0 : Int32) k Qp := h
    refine lv_iconst (v := 0) hx hb dX0_lentTo_0 (by decide) ?_
    refine lv_istore_n (lv' := [(3, .int (0 : Int32)), (0, .ref (a i)), (1, .int x1), (2, .int x2)]) hx hb dX0_lentTo_1 rfl hl (by decide) rfl (fun ls hl => ?_)
    refine lv_iconst (v := 0) hx hb dX0_lentTo_2 (by decide) ?_
    refine lv_istore (lv' := [(4, .int (0 : Int32)), (3, .int (0 : Int32)), (0, .ref (a i)), (1, .int x1), (2, .int x2)]) hx hb dX0_lentTo_3 hl (by decide) rfl (fun ls hl => ?_)
    exact L n x1 x2 (0 : Int32) (0 : Int32)  _ _ _ _ h hd (lv_sub hl [2, 3, 4, 1, 0] rfl)
def wC_X0_sumOf (i : Nat) : Nat → Nat → Int32 → Int32 → Int32 → KC → (Int32 → KC → Prop) → Prop
  | 0, _, _, _, _, _, _ => False
  | n + 1, c, x1, x2, x3, k, Q => match c with
    | 0 => wC_X0_sumOf i n 1 x1 (0 : Int32) (0 : Int32) k Q
    | _ => (((k.1 1 0) ≤ x3 → Q x2 k) ∧ (¬ (k.1 1 0) ≤ x3 → (wC_isOn x1 x3 k (fun r_2 k_2 => ((r_2 = 0 → wC_X0_sumOf i n 1 x1 x2 (x3 + (1 : Int32)) k_2 Q) ∧ (¬ r_2 = 0 → (vp_in x3 8 ∧ (∃ n_4 : Nat, wC_X0_lentTo i n_4 0 x3 x1 0 0 k_2 (fun r_4 k_4 => wC_X0_sumOf i n 1 x1 (x2 + ((k_2.2.1 i 1 x3.toNatClampNeg) + r_4)) (x3 + (1 : Int32)) k_4 Q)))))))))
set_option maxHeartbeats 4000000 in
set_option maxRecDepth 100000 in
theorem cC_X0_sumOf {l : Launch} {P : EP} {D : va_G} {a : Nat → Nat} {b : Nat → Nat → Nat} {g : Nat → ClassId} {i : Nat} (hi : i = 2 ∨ i = 3 ∨ i = 4) {k : KC} {Qp : Int32 → KC → Prop} (n : Nat) (x1 : Int32) (h : wC_X0_sumOf i n 0 x1 0 0 k Qp) : Di l P D (tyA g) (wC a b g) yX0_sumOf cX0_sumOf 4 ({ frames := 2, cells := 0, slots := 0, locals := 45 }) [.ref (a i), .int x1] k Qp := by
  refine Di_of (by decide) (Nat.le_of_ble_eq_true rfl) ?_
  intro p e s m args below meth c A Z ls C ret hd hl
  have hx := C.1
  have hb := C.2.1
  have hl : lv_has ls 4 [(0, .ref (a i)), (1, .int x1)] := hl
  have L : ∀ n : Nat, (∀ (x1 : Int32) (x2 : Int32) (x3 : Int32) (k : KC) (H : Heap) (locs : List Loc) (ls : Array Slot), wC_X0_sumOf i n 1 x1 x2 x3 k Qp → Hd D (wC a b g k) A s H locs → lv_has ls 4 [(0, .ref (a i)), (1, .int x1), (2, .int x2), (3, .int x3)] → W p l e ({ frames := 2, cells := 0, slots := 0, locals := 45 }) s m args below meth c H locs 0 0 Z (F0 m 4 ls [])) := by
    intro n
    induction n with
    | zero => exact fun _ _ _ _ _ _ _ h => h.elim
    | succ n ih =>
      intro x1 x2 x3 k H locs ls h hd hl
      replace h : (((k.1 1 0) ≤ x3 → Qp x2 k) ∧ (¬ (k.1 1 0) ≤ x3 → (wC_isOn x1 x3 k (fun r_2 k_2 => ((r_2 = 0 → wC_X0_sumOf i n 1 x1 x2 (x3 + (1 : Int32)) k_2 Qp) ∧ (¬ r_2 = 0 → (vp_in x3 8 ∧ (∃ n_4 : Nat, wC_X0_lentTo i n_4 0 x3 x1 0 0 k_2 (fun r_4 k_4 => wC_X0_sumOf i n 1 x1 (x2 + ((k_2.2.1 i 1 x3.toNatClampNeg) + r_4)) (x3 + (1 : Int32)) k_4 Qp))))))))) := h
      refine lv_iload_n hx hb dX0_sumOf_4 rfl (lv_at hl 3 rfl) ?_
      refine lv_aload_n hx hb dX0_sumOf_5 rfl (lv_at hl 0 rfl) ?_
      refine gC0_0_0 C hd hi dX0_sumOf_6 ?_
      refine gC0_8_0 C hd (v := k.1 1 0) rfl dX0_sumOf_9 ?_
      refine lv_icmp_ge (tgt := 45) hx hb dX0_sumOf_12 (by decide) (fun c_1 => ?_) (fun c_1 => ?_)
      · replace h := h.1 c_1
        refine lv_iload_n hx hb dX0_sumOf_45 rfl (lv_at hl 2 rfl) ?_
        exact ret hd h dX0_sumOf_46
      · replace h := h.2 c_1
        refine lv_iload_n hx hb dX0_sumOf_15 rfl (lv_at hl 1 rfl) ?_
        refine lv_iload_n hx hb dX0_sumOf_16 rfl (lv_at hl 3 rfl) ?_
        refine en_z C hd kwRX0_X9_isOn_75 (cC_isOn _ _ h) ⟨rfl, rfl⟩ ⟨by decide, by decide⟩ hl.1 rfl rfl (Nat.le_of_ble_eq_true rfl) ⟨Nat.zero_le _, Nat.zero_le _⟩ dX0_sumOf_17 (fun r_2 k_2 H locs hz_2 h hd => ?_)
        refine lv_if_eq (tgt := 39) hx hb dX0_sumOf_20 (by decide) (fun c_3 => ?_) (fun c_3 => ?_)
        · replace h := h.1 c_3
          refine lv_iinc (v := (x3 + (1 : Int32))) (lv' := [(3, .int (x3 + (1 : Int32))), (0, .ref (a i)), (1, .int x1), (2, .int x2)]) hx hb dX0_sumOf_39 hl (k := 3) rfl rfl (by decide) rfl (fun ls hl => ?_)
          refine lv_goto (tgt := 4) hx hb dX0_sumOf_42 (by decide) ?_
          exact ih x1 x2 (x3 + (1 : Int32))  _ _ _ _ h hd (lv_sub hl [1, 2, 3, 0] rfl)
        · replace h := h.2 c_3
          refine lv_iload_n hx hb dX0_sumOf_23 rfl (lv_at hl 2 rfl) ?_
          refine lv_aload_n hx hb dX0_sumOf_24 rfl (lv_at hl 0 rfl) ?_
          refine gC0_0_1 C hd hi dX0_sumOf_25 ?_
          refine lv_iload_n hx hb dX0_sumOf_28 rfl (lv_at hl 3 rfl) ?_
          refine ldC0_1 C hd hi (v := k_2.2.1 i 1 x3.toNatClampNeg) h.1 rfl dX0_sumOf_29 ?_
          replace h := h.2
          refine lv_aload_n hx hb dX0_sumOf_30 rfl (lv_at hl 0 rfl) ?_
          refine lv_iload_n hx hb dX0_sumOf_31 rfl (lv_at hl 3 rfl) ?_
          refine lv_iload_n hx hb dX0_sumOf_32 rfl (lv_at hl 1 rfl) ?_
          obtain ⟨n_4, h⟩ := h
          refine ev_i C hd kwRX0_X0_lentTo_79 (cC_X0_lentTo hi n_4 _ _ h) ⟨rfl, rfl⟩ ⟨by decide, by decide⟩ (rcC0 hi) hl.1 rfl rfl (Nat.le_of_ble_eq_true rfl) ⟨Nat.zero_le _, Nat.zero_le _⟩ dX0_sumOf_33 (fun r_4 k_4 H locs h hd => ?_)
          refine lv_iadd hx hb dX0_sumOf_36 ?_
          refine lv_iadd hx hb dX0_sumOf_37 ?_
          refine lv_istore_n (lv' := [(2, .int (x2 + ((k_2.2.1 i 1 x3.toNatClampNeg) + r_4))), (0, .ref (a i)), (1, .int x1), (3, .int x3)]) hx hb dX0_sumOf_38 rfl hl (by decide) rfl (fun ls hl => ?_)
          refine lv_iinc (v := (x3 + (1 : Int32))) (lv' := [(3, .int (x3 + (1 : Int32))), (2, .int (x2 + ((k_2.2.1 i 1 x3.toNatClampNeg) + r_4))), (0, .ref (a i)), (1, .int x1)]) hx hb dX0_sumOf_39 hl (k := 3) rfl rfl (by decide) rfl (fun ls hl => ?_)
          refine lv_goto (tgt := 4) hx hb dX0_sumOf_42 (by decide) ?_
          exact ih x1 (x2 + ((k_2.2.1 i 1 x3.toNatClampNeg) + r_4)) (x3 + (1 : Int32))  _ _ _ _ h hd (lv_sub hl [2, 3, 1, 0] rfl)
  cases n with
  | zero => exact h.elim
  | succ n =>
    replace h : wC_X0_sumOf i n 1 x1 (0 : Int32) (0 : Int32) k Qp := h
    refine lv_iconst (v := 0) hx hb dX0_sumOf_0 (by decide) ?_
    refine lv_istore_n (lv' := [(2, .int (0 : Int32)), (0, .ref (a i)), (1, .int x1)]) hx hb dX0_sumOf_1 rfl hl (by decide) rfl (fun ls hl => ?_)
    refine lv_iconst (v := 0) hx hb dX0_sumOf_2 (by decide) ?_
    refine lv_istore_n (lv' := [(3, .int (0 : Int32)), (2, .int (0 : Int32)), (0, .ref (a i)), (1, .int x1)]) hx hb dX0_sumOf_3 rfl hl (by decide) rfl (fun ls hl => ?_)
    exact L n x1 (0 : Int32) (0 : Int32)  _ _ _ _ h hd (lv_sub hl [2, 3, 1, 0] rfl)
