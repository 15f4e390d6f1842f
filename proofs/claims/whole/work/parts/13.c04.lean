def wC_days : Nat → Nat → Int32 → Int32 → Dn → Int32 → KC → (Int32 → KC → Prop) → Prop
  | 0, _, _, _, _, _, _, _ => False
  | n + 1, c, x1, x2, d3, x4, k, Q => match c with
    | 0 => (wC_X8_planAt x1 k (fun r_1 k_1 => ((r_1 = none → Q (-2 : Int32) k_1) ∧ (∀ x_2 : Nat, r_1 = some x_2 → ∃ d_2 : Dn, d_2.1 = x_2 ∧ (wC_within x2 (1 : Int32) (50 : Int32) k_1 (fun r_3 k_3 => ((¬ r_3 = 0 → ((((k_3.1 2 7) + x2) ≤ (400 : Int32) → wC_days n 1 0 x2 d_2 (0 : Int32) k_3 Q) ∧ (¬ ((k_3.1 2 7) + x2) ≤ (400 : Int32) → Q (-4 : Int32) k_3))) ∧ (r_3 = 0 → Q (-2 : Int32) k_3))))))))
    | _ => ((x2 ≤ x4 → Q (k.1 2 7) k) ∧ (¬ x2 ≤ x4 → (∃ n_7 : Nat, wC_X0_goThroughDay 2 d3 n_7 0 0 k (fun k_7 => wC_days n 1 0 x2 d3 (x4 + (1 : Int32)) k_7 Q))))
set_option maxHeartbeats 4000000 in
set_option maxRecDepth 100000 in
theorem cC_days {l : Launch} {P : EP} {D : va_G} {a : Nat → Nat} {b : Nat → Nat → Nat} {g : Nat → ClassId} {k : KC} {Qp : Int32 → KC → Prop} (n : Nat) (x1 : Int32) (x2 : Int32) (h : wC_days n 0 x1 x2 dn0 0 k Qp) : Di l P D (tyA g) (wC a b g) yX9_days cX9_days 5 ({ frames := 5, cells := 0, slots := 0, locals := 123 }) [.ref (a 0), .int x1, .int x2] k Qp := by
  refine Di_of (by decide) (Nat.le_of_ble_eq_true rfl) ?_
  intro p e s m args below meth c A Z ls C ret hd hl
  have hx := C.1
  have hb := C.2.1
  have hl : lv_has ls 5 [(0, .ref (a 0)), (1, .int x1), (2, .int x2)] := hl
  have L : ∀ n : Nat, (∀ (x2 : Int32) (d3 : Dn) (x4 : Int32) (k : KC) (H : Heap) (locs : List Loc) (ls : Array Slot), wC_days n 1 0 x2 d3 x4 k Qp → Hd D (wC a b g k) A s H locs → lv_has ls 5 [(0, .ref (a 0)), (2, .int x2), (3, .ref d3.1), (4, .int x4)] → W p l e ({ frames := 5, cells := 0, slots := 0, locals := 123 }) s m args below meth c H locs 0 0 Z (F0 m 47 ls [])) := by
    intro n
    induction n with
    | zero => exact fun _ _ _ _ _ _ _ h => h.elim
    | succ n ih =>
      intro x2 d3 x4 k H locs ls h hd hl
      replace h : ((x2 ≤ x4 → Qp (k.1 2 7) k) ∧ (¬ x2 ≤ x4 → (∃ n_7 : Nat, wC_X0_goThroughDay 2 d3 n_7 0 0 k (fun k_7 => wC_days n 1 0 x2 d3 (x4 + (1 : Int32)) k_7 Qp)))) := h
      refine lv_iload hx hb dX9_days_47 (lv_at hl 3 rfl) ?_
      refine lv_iload_n hx hb dX9_days_49 rfl (lv_at hl 1 rfl) ?_
      refine lv_icmp_ge (tgt := 67) hx hb dX9_days_50 (by decide) (fun c_6 => ?_) (fun c_6 => ?_)
      · replace h := h.1 c_6
        refine lv_aload_n hx hb dX9_days_67 rfl (lv_at hl 0 rfl) ?_
        refine gC9_9_1 C hd dX9_days_68 ?_
        refine gC9_0_7 C hd (Or.inl rfl) (v := k.1 2 7) rfl dX9_days_71 ?_
        exact ret hd h dX9_days_74
      · replace h := h.2 c_6
        refine lv_aload_n hx hb dX9_days_53 rfl (lv_at hl 0 rfl) ?_
        refine gC9_9_1 C hd dX9_days_54 ?_
        refine lv_aload_n hx hb dX9_days_57 rfl (lv_at hl 2 rfl) ?_
        obtain ⟨n_7, h⟩ := h
        refine ev_v C hd kwRX9_X0_goThroughDay_187 (cC_X0_goThroughDay (Or.inl rfl) n_7 h) ⟨rfl, rfl⟩ ⟨by decide, by decide⟩ (rcC0 (Or.inl rfl)) hl.1 rfl rfl (Nat.le_of_ble_eq_true rfl) ⟨Nat.zero_le _, Nat.zero_le _⟩ dX9_days_58 (fun k_7 H locs h hd => ?_)
        refine lv_iinc (v := (x4 + (1 : Int32))) (lv' := [(4, .int (x4 + (1 : Int32))), (0, .ref (a 0)), (2, .int x2), (3, .ref d3.1)]) hx hb dX9_days_61 hl (k := 3) rfl rfl (by decide) rfl (fun ls hl => ?_)
        refine lv_goto (tgt := 47) hx hb dX9_days_64 (by decide) ?_
        exact ih x2 d3 (x4 + (1 : Int32))  _ _ _ _ h hd (lv_sub hl [1, 2, 3, 0] rfl)
  cases n with
  | zero => exact h.elim
  | succ n =>
    replace h : (wC_X8_planAt x1 k (fun r_1 k_1 => ((r_1 = none → Qp (-2 : Int32) k_1) ∧ (∀ x_2 : Nat, r_1 = some x_2 → ∃ d_2 : Dn, d_2.1 = x_2 ∧ (wC_within x2 (1 : Int32) (50 : Int32) k_1 (fun r_3 k_3 => ((¬ r_3 = 0 → ((((k_3.1 2 7) + x2) ≤ (400 : Int32) → wC_days n 1 0 x2 d_2 (0 : Int32) k_3 Qp) ∧ (¬ ((k_3.1 2 7) + x2) ≤ (400 : Int32) → Qp (-4 : Int32) k_3))) ∧ (r_3 = 0 → Qp (-2 : Int32) k_3)))))))) := h
    refine lv_aload_n hx hb dX9_days_0 rfl (lv_at hl 0 rfl) ?_
    refine gC9_9_0 C hd dX9_days_1 ?_
    refine lv_iload_n hx hb dX9_days_4 rfl (lv_at hl 1 rfl) ?_
    refine ev_q C hd kwRX9_X8_planAt_159 (cC_X8_planAt _ h) ⟨rfl, rfl⟩ ⟨by decide, by decide⟩ rcC8 hl.1 rfl rfl (Nat.le_of_ble_eq_true rfl) ⟨Nat.zero_le _, Nat.zero_le _⟩ dX9_days_5 (fun r_1 k_1 H locs h hd => ?_)
    refine rf_split (fun e_2 => ?_) (fun x_2 e_2 => ?_)
    · replace h := h.1 e_2
      refine lv_astore_nN (lv' := [(3, .null), (0, .ref (a 0)), (1, .int x1), (2, .int x2)]) hx hb dX9_days_8 rfl hl (by decide) rfl (fun ls hl => ?_)
      refine lv_aload_nN hx hb dX9_days_9 rfl (lv_at hl 0 rfl) ?_
      refine lv_ifnullN (tgt := 23) hx hb dX9_days_10 (by decide) ?_
      refine lv_bipush (v := -2) hx hb dX9_days_23 (by decide) ?_
      exact ret hd h dX9_days_25
    · obtain ⟨d_2, hx_2, h⟩ := h.2 x_2 e_2
      subst hx_2
      refine lv_astore_n (lv' := [(3, .ref d_2.1), (0, .ref (a 0)), (1, .int x1), (2, .int x2)]) hx hb dX9_days_8 rfl hl (by decide) rfl (fun ls hl => ?_)
      refine lv_aload_n hx hb dX9_days_9 rfl (lv_at hl 0 rfl) ?_
      refine lv_ifnull hx hb dX9_days_10 ?_
      refine lv_iload_n hx hb dX9_days_13 rfl (lv_at hl 3 rfl) ?_
      refine lv_iconst (v := 1) hx hb dX9_days_14 (by decide) ?_
      refine lv_bipush (v := 50) hx hb dX9_days_15 (by decide) ?_
      refine es_z C hd kwRX9_X9_within_70 (cC_within _ _ _ h) ⟨rfl, rfl⟩ ⟨by decide, by decide⟩ hl.1 rfl rfl (Nat.le_of_ble_eq_true rfl) ⟨Nat.zero_le _, Nat.zero_le _⟩ dX9_days_17 (fun r_3 k_3 H locs hz_3 h hd => ?_)
      refine lv_if_ne (tgt := 26) hx hb dX9_days_20 (by decide) (fun c_4 => ?_) (fun c_4 => ?_)
      · replace h := h.1 c_4
        refine lv_aload_n hx hb dX9_days_26 rfl (lv_at hl 1 rfl) ?_
        refine gC9_9_1 C hd dX9_days_27 ?_
        refine gC9_0_7 C hd (Or.inl rfl) (v := k_3.1 2 7) rfl dX9_days_30 ?_
        refine lv_iload_n hx hb dX9_days_33 rfl (lv_at hl 3 rfl) ?_
        refine lv_iadd hx hb dX9_days_34 ?_
        refine lv_sipush (v := 400) hx hb dX9_days_35 (by decide) ?_
        refine lv_icmp_le (tgt := 44) hx hb dX9_days_38 (by decide) (fun c_5 => ?_) (fun c_5 => ?_)
        · replace h := h.1 c_5
          refine lv_iconst (v := 0) hx hb dX9_days_44 (by decide) ?_
          refine lv_istore (lv' := [(4, .int (0 : Int32)), (3, .ref d_2.1), (0, .ref (a 0)), (1, .int x1), (2, .int x2)]) hx hb dX9_days_45 hl (by decide) rfl (fun ls hl => ?_)
          exact L n x2 d_2 (0 : Int32)  _ _ _ _ h hd (lv_sub hl [2, 4, 1, 0] rfl)
        · replace h := h.2 c_5
          refine lv_bipush (v := -4) hx hb dX9_days_41 (by decide) ?_
          exact ret hd h dX9_days_43
      · replace h := h.2 c_4
        refine lv_bipush (v := -2) hx hb dX9_days_23 (by decide) ?_
        exact ret hd h dX9_days_25
def wC_dropsApart (d : Dn) : Nat → Nat → Int32 → Int32 → Int32 → Int32 → KC → (Int32 → KC → Prop) → Prop
  | 0, _, _, _, _, _, _, _ => False
  | n + 1, c, x1, x2, x4, x5, k, Q => match c with
    | 0 => (wC_X0_startAnew 4 (k.1 2 9) (k.1 2 10) k (fun k_1 => wC_dropsApart d n 1 x1 x2 x4 (0 : Int32) k_1 Q))
    | _ => ((x4 ≤ x5 → (wC_X0_dropsOf 4 ((1 : Int32) <<< (x1 &&& 31)) k (fun r_3 k_3 => (wC_X0_dropsOf 4 ((1 : Int32) <<< (x2 &&& 31)) k_3 (fun r_4 k_4 => Q (if 0 ≤ (r_3 - r_4) then (r_3 - r_4) else 0 - (r_3 - r_4)) k_4))))) ∧ (¬ x4 ≤ x5 → (∃ n_5 : Nat, wC_X0_goThroughDay 4 d n_5 0 0 k (fun k_5 => wC_dropsApart d n 1 x1 x2 x4 (x5 + (1 : Int32)) k_5 Q))))
set_option maxHeartbeats 4000000 in
set_option maxRecDepth 100000 in
theorem cC_dropsApart {l : Launch} {P : EP} {D : va_G} {a : Nat → Nat} {b : Nat → Nat → Nat} {g : Nat → ClassId} {d : Dn} {k : KC} {Qp : Int32 → KC → Prop} (n : Nat) (x1 : Int32) (x2 : Int32) (x4 : Int32) (h : wC_dropsApart d n 0 x1 x2 x4 0 k Qp) : Di l P D (tyA g) (wC a b g) yX9_dropsApart cX9_dropsApart 6 ({ frames := 5, cells := 0, slots := 0, locals := 123 }) [.ref (a 0), .int x1, .int x2, .ref d.1, .int x4] k Qp := by
  refine Di_of (by decide) (Nat.le_of_ble_eq_true rfl) ?_
  intro p e s m args below meth c A Z ls C ret hd hl
  have hx := C.1
  have hb := C.2.1
  have hl : lv_has ls 6 [(0, .ref (a 0)), (1, .int x1), (2, .int x2), (3, .ref d.1), (4, .int x4)] := hl
  have L : ∀ n : Nat, (∀ (x1 : Int32) (x2 : Int32) (x4 : Int32) (x5 : Int32) (k : KC) (H : Heap) (locs : List Loc) (ls : Array Slot), wC_dropsApart d n 1 x1 x2 x4 x5 k Qp → Hd D (wC a b g k) A s H locs → lv_has ls 6 [(0, .ref (a 0)), (1, .int x1), (2, .int x2), (3, .ref d.1), (4, .int x4), (5, .int x5)] → W p l e ({ frames := 5, cells := 0, slots := 0, locals := 123 }) s m args below meth c H locs 0 0 Z (F0 m 24 ls [])) := by
    intro n
    induction n with
    | zero => exact fun _ _ _ _ _ _ _ _ h => h.elim
    | succ n ih =>
      intro x1 x2 x4 x5 k H locs ls h hd hl
      replace h : ((x4 ≤ x5 → (wC_X0_dropsOf 4 ((1 : Int32) <<< (x1 &&& 31)) k (fun r_3 k_3 => (wC_X0_dropsOf 4 ((1 : Int32) <<< (x2 &&& 31)) k_3 (fun r_4 k_4 => Qp (if 0 ≤ (r_3 - r_4) then (r_3 - r_4) else 0 - (r_3 - r_4)) k_4))))) ∧ (¬ x4 ≤ x5 → (∃ n_5 : Nat, wC_X0_goThroughDay 4 d n_5 0 0 k (fun k_5 => wC_dropsApart d n 1 x1 x2 x4 (x5 + (1 : Int32)) k_5 Qp)))) := h
      refine lv_iload hx hb dX9_dropsApart_24 (lv_at hl 5 rfl) ?_
      refine lv_iload hx hb dX9_dropsApart_26 (lv_at hl 4 rfl) ?_
      refine lv_icmp_ge (tgt := 45) hx hb dX9_dropsApart_28 (by decide) (fun c_2 => ?_) (fun c_2 => ?_)
      · replace h := h.1 c_2
        refine lv_aload_n hx hb dX9_dropsApart_45 rfl (lv_at hl 0 rfl) ?_
        refine gC9_9_3 C hd dX9_dropsApart_46 ?_
        refine lv_iconst (v := 1) hx hb dX9_dropsApart_49 (by decide) ?_
        refine lv_iload_n hx hb dX9_dropsApart_50 rfl (lv_at hl 1 rfl) ?_
        refine lv_ishl hx hb dX9_dropsApart_51 ?_
        refine ev_i C hd kwRX9_X0_dropsOf_181 (cC_X0_dropsOf (Or.inr (Or.inr rfl)) _ h) ⟨rfl, rfl⟩ ⟨by decide, by decide⟩ (rcC0 (Or.inr (Or.inr rfl))) hl.1 rfl rfl (Nat.le_of_ble_eq_true rfl) ⟨Nat.zero_le _, Nat.zero_le _⟩ dX9_dropsApart_52 (fun r_3 k_3 H locs h hd => ?_)
        refine lv_aload_n hx hb dX9_dropsApart_55 rfl (lv_at hl 0 rfl) ?_
        refine gC9_9_3 C hd dX9_dropsApart_56 ?_
        refine lv_iconst (v := 1) hx hb dX9_dropsApart_59 (by decide) ?_
        refine lv_iload_n hx hb dX9_dropsApart_60 rfl (lv_at hl 2 rfl) ?_
        refine lv_ishl hx hb dX9_dropsApart_61 ?_
        refine ev_i C hd kwRX9_X0_dropsOf_181 (cC_X0_dropsOf (Or.inr (Or.inr rfl)) _ h) ⟨rfl, rfl⟩ ⟨by decide, by decide⟩ (rcC0 (Or.inr (Or.inr rfl))) hl.1 rfl rfl (Nat.le_of_ble_eq_true rfl) ⟨Nat.zero_le _, Nat.zero_le _⟩ dX9_dropsApart_62 (fun r_4 k_4 H locs h hd => ?_)
        refine lv_isub hx hb dX9_dropsApart_65 ?_
        refine va_mabs C.1 C.2.1 (C.2.2.1.trans hl.1.symm) C.2.2.2.1 (C.2.2.2.2.1 _ q_786) (C.2.2.2.2.1 _ q_787) (C.2.2.2.2.1 _ q_16) (C.2.2.2.2.1 _ q_788) (by decide) (Nat.le_of_ble_eq_true rfl) (Nat.zero_le _) (Nat.zero_le _) dX9_dropsApart_66 ?_
        exact ret hd h dX9_dropsApart_69
      · replace h := h.2 c_2
        refine lv_aload_n hx hb dX9_dropsApart_31 rfl (lv_at hl 0 rfl) ?_
        refine gC9_9_3 C hd dX9_dropsApart_32 ?_
        refine lv_aload_n hx hb dX9_dropsApart_35 rfl (lv_at hl 3 rfl) ?_
        obtain ⟨n_5, h⟩ := h
        refine ev_v C hd kwRX9_X0_goThroughDay_187 (cC_X0_goThroughDay (Or.inr (Or.inr rfl)) n_5 h) ⟨rfl, rfl⟩ ⟨by decide, by decide⟩ (rcC0 (Or.inr (Or.inr rfl))) hl.1 rfl rfl (Nat.le_of_ble_eq_true rfl) ⟨Nat.zero_le _, Nat.zero_le _⟩ dX9_dropsApart_36 (fun k_5 H locs h hd => ?_)
        refine lv_iinc (v := (x5 + (1 : Int32))) (lv' := [(5, .int (x5 + (1 : Int32))), (0, .ref (a 0)), (1, .int x1), (2, .int x2), (3, .ref d.1), (4, .int x4)]) hx hb dX9_dropsApart_39 hl (k := 5) rfl rfl (by decide) rfl (fun ls hl => ?_)
        refine lv_goto (tgt := 24) hx hb dX9_dropsApart_42 (by decide) ?_
        exact ih x1 x2 x4 (x5 + (1 : Int32))  _ _ _ _ h hd (lv_sub hl [1, 2, 3, 4, 5, 0] rfl)
  cases n with
  | zero => exact h.elim
  | succ n =>
    replace h : (wC_X0_startAnew 4 (k.1 2 9) (k.1 2 10) k (fun k_1 => wC_dropsApart d n 1 x1 x2 x4 (0 : Int32) k_1 Qp)) := h
    refine lv_aload_n hx hb dX9_dropsApart_0 rfl (lv_at hl 0 rfl) ?_
    refine gC9_9_3 C hd dX9_dropsApart_1 ?_
    refine lv_aload_n hx hb dX9_dropsApart_4 rfl (lv_at hl 0 rfl) ?_
    refine gC9_9_1 C hd dX9_dropsApart_5 ?_
    refine gC9_0_9 C hd (Or.inl rfl) (v := k.1 2 9) rfl dX9_dropsApart_8 ?_
    refine lv_aload_n hx hb dX9_dropsApart_11 rfl (lv_at hl 0 rfl) ?_
    refine gC9_9_1 C hd dX9_dropsApart_12 ?_
    refine gC9_0_10 C hd (Or.inl rfl) (v := k.1 2 10) rfl dX9_dropsApart_15 ?_
    refine ev_v C hd kwRX9_X0_startAnew_313 (cC_X0_startAnew (Or.inr (Or.inr rfl)) _ _ h) ⟨rfl, rfl⟩ ⟨by decide, by decide⟩ (rcC0 (Or.inr (Or.inr rfl))) hl.1 rfl rfl (Nat.le_of_ble_eq_true rfl) ⟨Nat.zero_le _, Nat.zero_le _⟩ dX9_dropsApart_18 (fun k_1 H locs h hd => ?_)
    refine lv_iconst (v := 0) hx hb dX9_dropsApart_21 (by decide) ?_
    refine lv_istore (lv' := [(5, .int (0 : Int32)), (0, .ref (a 0)), (1, .int x1), (2, .int x2), (3, .ref d.1), (4, .int x4)]) hx hb dX9_dropsApart_22 hl (by decide) rfl (fun ls hl => ?_)
    exact L n x1 x2 x4 (0 : Int32)  _ _ _ _ h hd (lv_sub hl [1, 2, 3, 4, 5, 0] rfl)
def wC_dropsBehind : Nat → Nat → Int32 → Int32 → Int32 → Int32 → KC → (Int32 → KC → Prop) → Prop
  | 0, _, _, _, _, _, _, _ => False
  | n + 1, c, x1, x2, x3, x4, k, Q => match c with
    | 0 => (wC_X0_startAnew 4 x1 (k.1 2 10) k (fun k_1 => wC_dropsBehind n 1 0 x2 x3 (0 : Int32) k_1 Q))
    | _ => (((k.1 8 3) ≤ x4 → (wC_X8_planAt x2 k (fun r_3 k_3 => ((r_3 = none → False) ∧ (∀ x_4 : Nat, r_3 = some x_4 → ∃ d_4 : Dn, d_4.1 = x_4 ∧ (∃ n_5 : Nat, wC_X0_goThroughDay 4 d_4 n_5 0 0 k_3 (fun k_5 => (wC_X0_dropsOf 4 x3 k_5 (fun r_6 k_6 => Q r_6 k_6))))))))) ∧ (¬ (k.1 8 3) ≤ x4 → (vp_in x4 20 ∧ (wC_X8_planAt (k.2.1 8 0 x4.toNatClampNeg) k (fun r_7 k_7 => ((r_7 = none → False) ∧ (∀ x_8 : Nat, r_7 = some x_8 → ∃ d_8 : Dn, d_8.1 = x_8 ∧ (∃ n_9 : Nat, wC_X0_goThroughDay 4 d_8 n_9 0 0 k_7 (fun k_9 => wC_dropsBehind n 1 0 x2 x3 (x4 + (1 : Int32)) k_9 Q)))))))))
set_option maxHeartbeats 4000000 in
set_option maxRecDepth 100000 in
theorem cC_dropsBehind {l : Launch} {P : EP} {D : va_G} {a : Nat → Nat} {b : Nat → Nat → Nat} {g : Nat → ClassId} {k : KC} {Qp : Int32 → KC → Prop} (n : Nat) (x1 : Int32) (x2 : Int32) (x3 : Int32) (h : wC_dropsBehind n 0 x1 x2 x3 0 k Qp) : Di l P D (tyA g) (wC a b g) yX9_dropsBehind cX9_dropsBehind 5 ({ frames := 5, cells := 0, slots := 0, locals := 123 }) [.ref (a 0), .int x1, .int x2, .int x3] k Qp := by
  refine Di_of (by decide) (Nat.le_of_ble_eq_true rfl) ?_
  intro p e s m args below meth c A Z ls C ret hd hl
  have hx := C.1
  have hb := C.2.1
  have hl : lv_has ls 5 [(0, .ref (a 0)), (1, .int x1), (2, .int x2), (3, .int x3)] := hl
  have L : ∀ n : Nat, (∀ (x2 : Int32) (x3 : Int32) (x4 : Int32) (k : KC) (H : Heap) (locs : List Loc) (ls : Array Slot), wC_dropsBehind n 1 0 x2 x3 x4 k Qp → Hd D (wC a b g k) A s H locs → lv_has ls 5 [(0, .ref (a 0)), (2, .int x2), (3, .int x3), (4, .int x4)] → W p l e ({ frames := 5, cells := 0, slots := 0, locals := 123 }) s m args below meth c H locs 0 0 Z (F0 m 18 ls [])) := by
    intro n
    induction n with
    | zero => exact fun _ _ _ _ _ _ _ h => h.elim
    | succ n ih =>
      intro x2 x3 x4 k H locs ls h hd hl
      replace h : (((k.1 8 3) ≤ x4 → (wC_X8_planAt x2 k (fun r_3 k_3 => ((r_3 = none → False) ∧ (∀ x_4 : Nat, r_3 = some x_4 → ∃ d_4 : Dn, d_4.1 = x_4 ∧ (∃ n_5 : Nat, wC_X0_goThroughDay 4 d_4 n_5 0 0 k_3 (fun k_5 => (wC_X0_dropsOf 4 x3 k_5 (fun r_6 k_6 => Qp r_6 k_6))))))))) ∧ (¬ (k.1 8 3) ≤ x4 → (vp_in x4 20 ∧ (wC_X8_planAt (k.2.1 8 0 x4.toNatClampNeg) k (fun r_7 k_7 => ((r_7 = none → False) ∧ (∀ x_8 : Nat, r_7 = some x_8 → ∃ d_8 : Dn, d_8.1 = x_8 ∧ (∃ n_9 : Nat, wC_X0_goThroughDay 4 d_8 n_9 0 0 k_7 (fun k_9 => wC_dropsBehind n 1 0 x2 x3 (x4 + (1 : Int32)) k_9 Qp))))))))) := h
      refine lv_iload hx hb dX9_dropsBehind_18 (lv_at hl 3 rfl) ?_
      refine lv_aload_n hx hb dX9_dropsBehind_20 rfl (lv_at hl 0 rfl) ?_
      refine gC9_9_7 C hd dX9_dropsBehind_21 ?_
      refine gC9_7_3 C hd (v := k.1 8 3) rfl dX9_dropsBehind_24 ?_
      refine lv_icmp_ge (tgt := 60) hx hb dX9_dropsBehind_27 (by decide) (fun c_2 => ?_) (fun c_2 => ?_)
      · replace h := h.1 c_2
        refine lv_aload_n hx hb dX9_dropsBehind_60 rfl (lv_at hl 0 rfl) ?_
        refine gC9_9_3 C hd dX9_dropsBehind_61 ?_
        refine lv_aload_n hx hb dX9_dropsBehind_64 rfl (lv_at hl 0 rfl) ?_
        refine gC9_9_0 C hd dX9_dropsBehind_65 ?_
        refine lv_iload_n hx hb dX9_dropsBehind_68 rfl (lv_at hl 1 rfl) ?_
        refine ev_q C hd kwRX9_X8_planAt_159 (cC_X8_planAt _ h) ⟨rfl, rfl⟩ ⟨by decide, by decide⟩ rcC8 hl.1 rfl rfl (Nat.le_of_ble_eq_true rfl) ⟨Nat.zero_le _, Nat.zero_le _⟩ dX9_dropsBehind_69 (fun r_3 k_3 H locs h hd => ?_)
        refine rf_split (fun e_4 => ?_) (fun x_4 e_4 => ?_)
        · replace h := h.1 e_4
          exact h.elim
        · obtain ⟨d_4, hx_4, h⟩ := h.2 x_4 e_4
          subst hx_4
          obtain ⟨n_5, h⟩ := h
          refine ev_v C hd kwRX9_X0_goThroughDay_187 (cC_X0_goThroughDay (Or.inr (Or.inr rfl)) n_5 h) ⟨rfl, rfl⟩ ⟨by decide, by decide⟩ (rcC0 (Or.inr (Or.inr rfl))) hl.1 rfl rfl (Nat.le_of_ble_eq_true rfl) ⟨Nat.zero_le _, Nat.zero_le _⟩ dX9_dropsBehind_72 (fun k_5 H locs h hd => ?_)
          refine lv_aload_n hx hb dX9_dropsBehind_75 rfl (lv_at hl 0 rfl) ?_
          refine gC9_9_3 C hd dX9_dropsBehind_76 ?_
          refine lv_iload_n hx hb dX9_dropsBehind_79 rfl (lv_at hl 2 rfl) ?_
          refine ev_i C hd kwRX9_X0_dropsOf_181 (cC_X0_dropsOf (Or.inr (Or.inr rfl)) _ h) ⟨rfl, rfl⟩ ⟨by decide, by decide⟩ (rcC0 (Or.inr (Or.inr rfl))) hl.1 rfl rfl (Nat.le_of_ble_eq_true rfl) ⟨Nat.zero_le _, Nat.zero_le _⟩ dX9_dropsBehind_80 (fun r_6 k_6 H locs h hd => ?_)
          exact ret hd h dX9_dropsBehind_83
      · replace h := h.2 c_2
        refine lv_aload_n hx hb dX9_dropsBehind_30 rfl (lv_at hl 0 rfl) ?_
        refine gC9_9_3 C hd dX9_dropsBehind_31 ?_
        refine lv_aload_n hx hb dX9_dropsBehind_34 rfl (lv_at hl 0 rfl) ?_
        refine gC9_9_0 C hd dX9_dropsBehind_35 ?_
        refine lv_aload_n hx hb dX9_dropsBehind_38 rfl (lv_at hl 0 rfl) ?_
        refine gC9_9_7 C hd dX9_dropsBehind_39 ?_
        refine gC9_7_0 C hd dX9_dropsBehind_42 ?_
        refine lv_iload hx hb dX9_dropsBehind_45 (lv_at hl 3 rfl) ?_
        refine ldC7_0 C hd (v := k.2.1 8 0 x4.toNatClampNeg) h.1 rfl dX9_dropsBehind_47 ?_
        replace h := h.2
        refine ev_q C hd kwRX9_X8_planAt_159 (cC_X8_planAt _ h) ⟨rfl, rfl⟩ ⟨by decide, by decide⟩ rcC8 hl.1 rfl rfl (Nat.le_of_ble_eq_true rfl) ⟨Nat.zero_le _, Nat.zero_le _⟩ dX9_dropsBehind_48 (fun r_7 k_7 H locs h hd => ?_)
        refine rf_split (fun e_8 => ?_) (fun x_8 e_8 => ?_)
        · replace h := h.1 e_8
          exact h.elim
        · obtain ⟨d_8, hx_8, h⟩ := h.2 x_8 e_8
          subst hx_8
          obtain ⟨n_9, h⟩ := h
          refine ev_v C hd kwRX9_X0_goThroughDay_187 (cC_X0_goThroughDay (Or.inr (Or.inr rfl)) n_9 h) ⟨rfl, rfl⟩ ⟨by decide, by decide⟩ (rcC0 (Or.inr (Or.inr rfl))) hl.1 rfl rfl (Nat.le_of_ble_eq_true rfl) ⟨Nat.zero_le _, Nat.zero_le _⟩ dX9_dropsBehind_51 (fun k_9 H locs h hd => ?_)
          refine lv_iinc (v := (x4 + (1 : Int32))) (lv' := [(4, .int (x4 + (1 : Int32))), (0, .ref (a 0)), (2, .int x2), (3, .int x3)]) hx hb dX9_dropsBehind_54 hl (k := 3) rfl rfl (by decide) rfl (fun ls hl => ?_)
          refine lv_goto (tgt := 18) hx hb dX9_dropsBehind_57 (by decide) ?_
          exact ih x2 x3 (x4 + (1 : Int32))  _ _ _ _ h hd (lv_sub hl [1, 2, 3, 0] rfl)
  cases n with
  | zero => exact h.elim
  | succ n =>
    replace h : (wC_X0_startAnew 4 x1 (k.1 2 10) k (fun k_1 => wC_dropsBehind n 1 0 x2 x3 (0 : Int32) k_1 Qp)) := h
    refine lv_aload_n hx hb dX9_dropsBehind_0 rfl (lv_at hl 0 rfl) ?_
    refine gC9_9_3 C hd dX9_dropsBehind_1 ?_
    refine lv_iload_n hx hb dX9_dropsBehind_4 rfl (lv_at hl 1 rfl) ?_
    refine lv_aload_n hx hb dX9_dropsBehind_5 rfl (lv_at hl 0 rfl) ?_
    refine gC9_9_1 C hd dX9_dropsBehind_6 ?_
    refine gC9_0_10 C hd (Or.inl rfl) (v := k.1 2 10) rfl dX9_dropsBehind_9 ?_
    refine ev_v C hd kwRX9_X0_startAnew_313 (cC_X0_startAnew (Or.inr (Or.inr rfl)) _ _ h) ⟨rfl, rfl⟩ ⟨by decide, by decide⟩ (rcC0 (Or.inr (Or.inr rfl))) hl.1 rfl rfl (Nat.le_of_ble_eq_true rfl) ⟨Nat.zero_le _, Nat.zero_le _⟩ dX9_dropsBehind_12 (fun k_1 H locs h hd => ?_)
    refine lv_iconst (v := 0) hx hb dX9_dropsBehind_15 (by decide) ?_
    refine lv_istore (lv' := [(4, .int (0 : Int32)), (0, .ref (a 0)), (1, .int x1), (2, .int x2), (3, .int x3)]) hx hb dX9_dropsBehind_16 hl (by decide) rfl (fun ls hl => ?_)
    exact L n x2 x3 (0 : Int32)  _ _ _ _ h hd (lv_sub hl [1, 3, 4, 0] rfl)
def wC_feed (x1 : Int32) (x2l : Int64) (k : KC) (Q : Int32 → KC → Prop) : Prop := (wC_within x1 (1 : Int32) (8 : Int32) k (fun r_1 k_1 => ((¬ r_1 = 0 → ((((k_1.1 5 1) + x1) ≤ (160 : Int32) → (∃ n_4 : Nat, wC_X4_take n_4 0 x1 x2l 0 k_1 (fun k_4 => Q (k_4.1 5 1) k_4))) ∧ (¬ ((k_1.1 5 1) + x1) ≤ (160 : Int32) → Q (-4 : Int32) k_1))) ∧ (r_1 = 0 → Q (-2 : Int32) k_1))))
set_option maxHeartbeats 4000000 in
set_option maxRecDepth 100000 in
theorem cC_feed {l : Launch} {P : EP} {D : va_G} {a : Nat → Nat} {b : Nat → Nat → Nat} {g : Nat → ClassId} {k : KC} {Qp : Int32 → KC → Prop} (x1 : Int32) (x2l : Int64) (h : wC_feed x1 x2l k Qp) : Di l P D (tyA g) (wC a b g) yX9_feed cX9_feed 4 ({ frames := 1, cells := 0, slots := 0, locals := 24 }) [.ref (a 0), .int x1, .long x2l] k Qp := by
  refine Di_of (by decide) (Nat.le_of_ble_eq_true rfl) ?_
  intro p e s m args below meth c A Z ls C ret hd hl
  have hx := C.1
  have hb := C.2.1
  have hl : lv_has ls 4 [(0, .ref (a 0)), (1, .int x1), (2, .long x2l)] := hl
  replace h : (wC_within x1 (1 : Int32) (8 : Int32) k (fun r_1 k_1 => ((¬ r_1 = 0 → ((((k_1.1 5 1) + x1) ≤ (160 : Int32) → (∃ n_4 : Nat, wC_X4_take n_4 0 x1 x2l 0 k_1 (fun k_4 => Qp (k_4.1 5 1) k_4))) ∧ (¬ ((k_1.1 5 1) + x1) ≤ (160 : Int32) → Qp (-4 : Int32) k_1))) ∧ (r_1 = 0 → Qp (-2 : Int32) k_1)))) := h
  refine lv_iload_n hx hb dX9_feed_0 rfl (lv_at hl 1 rfl) ?_
  refine lv_iconst (v := 1) hx hb dX9_feed_1 (by decide) ?_
  refine lv_bipush (v := 8) hx hb dX9_feed_2 (by decide) ?_
  refine es_z C hd kwRX9_X9_within_70 (cC_within _ _ _ h) ⟨rfl, rfl⟩ ⟨by decide, by decide⟩ hl.1 rfl rfl (Nat.le_of_ble_eq_true rfl) ⟨Nat.zero_le _, Nat.zero_le _⟩ dX9_feed_4 (fun r_1 k_1 H locs hz_1 h hd => ?_)
  refine lv_if_ne (tgt := 13) hx hb dX9_feed_7 (by decide) (fun c_2 => ?_) (fun c_2 => ?_)
  · replace h := h.1 c_2
    refine lv_aload_n hx hb dX9_feed_13 rfl (lv_at hl 0 rfl) ?_
    refine gC9_9_4 C hd dX9_feed_14 ?_
    refine gC9_4_1 C hd (v := k_1.1 5 1) rfl dX9_feed_17 ?_
    refine lv_iload_n hx hb dX9_feed_20 rfl (lv_at hl 1 rfl) ?_
    refine lv_iadd hx hb dX9_feed_21 ?_
    refine lv_sipush (v := 160) hx hb dX9_feed_22 (by decide) ?_
    refine lv_icmp_le (tgt := 31) hx hb dX9_feed_25 (by decide) (fun c_3 => ?_) (fun c_3 => ?_)
    · replace h := h.1 c_3
      refine lv_aload_n hx hb dX9_feed_31 rfl (lv_at hl 0 rfl) ?_
      refine gC9_9_4 C hd dX9_feed_32 ?_
      refine lv_iload_n hx hb dX9_feed_35 rfl (lv_at hl 1 rfl) ?_
      refine lv_lload_n hx hb dX9_feed_36 rfl (lv_at hl 2 rfl) ?_
      obtain ⟨n_4, h⟩ := h
      refine ev_v C hd kwRX9_X4_take_127 (cC_X4_take n_4 _ _ h) ⟨rfl, rfl⟩ ⟨by decide, by decide⟩ rcC4 hl.1 rfl rfl (Nat.le_of_ble_eq_true rfl) ⟨Nat.zero_le _, Nat.zero_le _⟩ dX9_feed_37 (fun k_4 H locs h hd => ?_)
      refine lv_aload_n hx hb dX9_feed_40 rfl (lv_at hl 0 rfl) ?_
      refine gC9_9_4 C hd dX9_feed_41 ?_
      refine gC9_4_1 C hd (v := k_4.1 5 1) rfl dX9_feed_44 ?_
      exact ret hd h dX9_feed_47
    · replace h := h.2 c_3
      refine lv_bipush (v := -4) hx hb dX9_feed_28 (by decide) ?_
      exact ret hd h dX9_feed_30
  · replace h := h.2 c_2
    refine lv_bipush (v := -2) hx hb dX9_feed_10 (by decide) ?_
    exact ret hd h dX9_feed_12
def wC_findFarthest : Nat → Nat → Int32 → Int32 → KC → (KC → Prop) → Prop
  | 0, _, _, _, _, _ => False
  | n + 1, c, x1, x2, k, Q => match c with
    | 0 => wC_findFarthest n 1 x1 (0 : Int32) (cI (cI k 8 8 (-1 : Int32)) 8 9 (-1 : Int32)) Q
    | _ => (((k.1 1 2) ≤ x2 → Q k) ∧ (¬ (k.1 1 2) ≤ x2 → (∃ n_2 : Nat, wC_dropsBehind n_2 0 (k.1 8 5) x2 x1 0 k (fun r_2 k_2 => (∃ n_3 : Nat, wC_dropsBehind n_3 0 (k_2.1 8 6) x2 x1 0 k_2 (fun r_3 k_3 => (((if 0 ≤ (r_3 - r_2) then (r_3 - r_2) else 0 - (r_3 - r_2)) ≤ (k_3.1 8 9) → wC_findFarthest n 1 x1 (x2 + (1 : Int32)) k_3 Q) ∧ (¬ (if 0 ≤ (r_3 - r_2) then (r_3 - r_2) else 0 - (r_3 - r_2)) ≤ (k_3.1 8 9) → wC_findFarthest n 1 x1 (x2 + (1 : Int32)) (cI (cI k_3 8 8 x2) 8 9 (if 0 ≤ (r_3 - r_2) then (r_3 - r_2) else 0 - (r_3 - r_2))) Q))))))))
set_option maxHeartbeats 4000000 in
set_option maxRecDepth 100000 in
theorem cC_findFarthest {l : Launch} {P : EP} {D : va_G} {a : Nat → Nat} {b : Nat → Nat → Nat} {g : Nat → ClassId} {k : KC} {Qp : KC → Prop} (n : Nat) (x1 : Int32) (h : wC_findFarthest n 0 x1 0 k Qp) : Dv l P D (tyA g) (wC a b g) yX9_findFarthest cX9_findFarthest 6 ({ frames := 6, cells := 0, slots := 0, locals := 147 }) [.ref (a 0), .int x1] k Qp := by
  refine Dv_of (by decide) (Nat.le_of_ble_eq_true rfl) ?_
  intro p e s m args below meth c A Z ls C ret hd hl
  have hx := C.1
  have hb := C.2.1
  have hl : lv_has ls 6 [(0, .ref (a 0)), (1, .int x1)] := hl
  have L : ∀ n : Nat, (∀ (x1 : Int32) (x2 : Int32) (k : KC) (H : Heap) (locs : List Loc) (ls : Array Slot), wC_findFarthest n 1 x1 x2 k Qp → Hd D (wC a b g k) A s H locs → lv_has ls 6 [(0, .ref (a 0)), (1, .int x1), (2, .int x2)] → W p l e ({ frames := 6, cells := 0, slots := 0, locals := 147 }) s m args below meth c H locs 0 0 Z (F0 m 18 ls [])) := by
    intro n
    induction n with
    | zero => exact fun _ _ _ _ _ _ h => h.elim
    | succ n ih =>
      intro x1 x2 k H locs ls h hd hl
      replace h : (((k.1 1 2) ≤ x2 → Qp k) ∧ (¬ (k.1 1 2) ≤ x2 → (∃ n_2 : Nat, wC_dropsBehind n_2 0 (k.1 8 5) x2 x1 0 k (fun r_2 k_2 => (∃ n_3 : Nat, wC_dropsBehind n_3 0 (k_2.1 8 6) x2 x1 0 k_2 (fun r_3 k_3 => (((if 0 ≤ (r_3 - r_2) then (r_3 - r_2) else 0 - (r_3 - r_2)) ≤ (k_3.1 8 9) → wC_findFarthest n 1 x1 (x2 + (1 : Int32)) k_3 Qp) ∧ (¬ (if 0 ≤ (r_3 - r_2) then (r_3 - r_2) else 0 - (r_3 - r_2)) ≤ (k_3.1 8 9) → wC_findFarthest n 1 x1 (x2 + (1 : Int32)) (cI (cI k_3 8 8 x2) 8 9 (if 0 ≤ (r_3 - r_2) then (r_3 - r_2) else 0 - (r_3 - r_2))) Qp)))))))) := h
      refine lv_iload_n hx hb dX9_findFarthest_18 rfl (lv_at hl 2 rfl) ?_
      refine lv_aload_n hx hb dX9_findFarthest_19 rfl (lv_at hl 0 rfl) ?_
      refine gC9_9_0 C hd dX9_findFarthest_20 ?_
      refine gC9_8_2 C hd (v := k.1 1 2) rfl dX9_findFarthest_23 ?_
      refine lv_icmp_ge (tgt := 102) hx hb dX9_findFarthest_26 (by decide) (fun c_1 => ?_) (fun c_1 => ?_)
      · replace h := h.1 c_1
        exact ret hd h dX9_findFarthest_102
      · replace h := h.2 c_1
        refine lv_aload_n hx hb dX9_findFarthest_29 rfl (lv_at hl 0 rfl) ?_
        refine lv_aload_n hx hb dX9_findFarthest_30 rfl (lv_at hl 0 rfl) ?_
        refine gC9_9_7 C hd dX9_findFarthest_31 ?_
        refine gC9_7_5 C hd (v := k.1 8 5) rfl dX9_findFarthest_34 ?_
        refine lv_iload_n hx hb dX9_findFarthest_37 rfl (lv_at hl 2 rfl) ?_
        refine lv_iload_n hx hb dX9_findFarthest_38 rfl (lv_at hl 1 rfl) ?_
        obtain ⟨n_2, h⟩ := h
        refine ev_i C hd kwRX9_X9_dropsBehind_324 (cC_dropsBehind n_2 _ _ _ h) ⟨rfl, rfl⟩ ⟨by decide, by decide⟩ rcC9 hl.1 rfl rfl (Nat.le_of_ble_eq_true rfl) ⟨Nat.zero_le _, Nat.zero_le _⟩ dX9_findFarthest_39 (fun r_2 k_2 H locs h hd => ?_)
        refine lv_istore_n (lv' := [(3, .int r_2), (0, .ref (a 0)), (1, .int x1), (2, .int x2)]) hx hb dX9_findFarthest_42 rfl hl (by decide) rfl (fun ls hl => ?_)
        refine lv_aload_n hx hb dX9_findFarthest_43 rfl (lv_at hl 1 rfl) ?_
        refine lv_aload_n hx hb dX9_findFarthest_44 rfl (lv_at hl 1 rfl) ?_
        refine gC9_9_7 C hd dX9_findFarthest_45 ?_
        refine gC9_7_6 C hd (v := k_2.1 8 6) rfl dX9_findFarthest_48 ?_
        refine lv_iload_n hx hb dX9_findFarthest_51 rfl (lv_at hl 3 rfl) ?_
        refine lv_iload_n hx hb dX9_findFarthest_52 rfl (lv_at hl 2 rfl) ?_
        obtain ⟨n_3, h⟩ := h
        refine ev_i C hd kwRX9_X9_dropsBehind_324 (cC_dropsBehind n_3 _ _ _ h) ⟨rfl, rfl⟩ ⟨by decide, by decide⟩ rcC9 hl.1 rfl rfl (Nat.le_of_ble_eq_true rfl) ⟨Nat.zero_le _, Nat.zero_le _⟩ dX9_findFarthest_53 (fun r_3 k_3 H locs h hd => ?_)
        refine lv_istore (lv' := [(4, .int r_3), (3, .int r_2), (0, .ref (a 0)), (1, .int x1), (2, .int x2)]) hx hb dX9_findFarthest_56 hl (by decide) rfl (fun ls hl => ?_)
        refine lv_iload hx hb dX9_findFarthest_58 (lv_at hl 0 rfl) ?_
        refine lv_iload_n hx hb dX9_findFarthest_60 rfl (lv_at hl 1 rfl) ?_
        refine lv_isub hx hb dX9_findFarthest_61 ?_
        refine va_mabs C.1 C.2.1 (C.2.2.1.trans hl.1.symm) C.2.2.2.1 (C.2.2.2.2.1 _ q_786) (C.2.2.2.2.1 _ q_787) (C.2.2.2.2.1 _ q_16) (C.2.2.2.2.1 _ q_788) (by decide) (Nat.le_of_ble_eq_true rfl) (Nat.zero_le _) (Nat.zero_le _) dX9_findFarthest_62 ?_
        refine lv_istore (lv' := [(5, .int (if 0 ≤ (r_3 - r_2) then (r_3 - r_2) else 0 - (r_3 - r_2))), (4, .int r_3), (3, .int r_2), (0, .ref (a 0)), (1, .int x1), (2, .int x2)]) hx hb dX9_findFarthest_65 hl (by decide) rfl (fun ls hl => ?_)
        refine lv_iload hx hb dX9_findFarthest_67 (lv_at hl 0 rfl) ?_
        refine lv_aload_n hx hb dX9_findFarthest_69 rfl (lv_at hl 3 rfl) ?_
        refine gC9_9_7 C hd dX9_findFarthest_70 ?_
        refine gC9_7_9 C hd (v := k_3.1 8 9) rfl dX9_findFarthest_73 ?_
        refine lv_icmp_le (tgt := 96) hx hb dX9_findFarthest_76 (by decide) (fun c_4 => ?_) (fun c_4 => ?_)
        · replace h := h.1 c_4
          refine lv_iinc (v := (x2 + (1 : Int32))) (lv' := [(2, .int (x2 + (1 : Int32))), (5, .int (if 0 ≤ (r_3 - r_2) then (r_3 - r_2) else 0 - (r_3 - r_2))), (4, .int r_3), (3, .int r_2), (0, .ref (a 0)), (1, .int x1)]) hx hb dX9_findFarthest_96 hl (k := 5) rfl rfl (by decide) rfl (fun ls hl => ?_)
          refine lv_goto (tgt := 18) hx hb dX9_findFarthest_99 (by decide) ?_
          exact ih x1 (x2 + (1 : Int32))  _ _ _ _ h hd (lv_sub hl [4, 5, 0] rfl)
        · replace h := h.2 c_4
          refine lv_aload_n hx hb dX9_findFarthest_79 rfl (lv_at hl 3 rfl) ?_
          refine gC9_9_7 C hd dX9_findFarthest_80 ?_
          refine lv_iload_n hx hb dX9_findFarthest_83 rfl (lv_at hl 5 rfl) ?_
          refine pC9_7_8 C hd dX9_findFarthest_84 (fun H locs hd => ?_)
          refine lv_aload_n hx hb dX9_findFarthest_87 rfl (lv_at hl 3 rfl) ?_
          refine gC9_9_7 C hd dX9_findFarthest_88 ?_
          refine lv_iload hx hb dX9_findFarthest_91 (lv_at hl 0 rfl) ?_
          refine pC9_7_9 C hd dX9_findFarthest_93 (fun H locs hd => ?_)
          refine lv_iinc (v := (x2 + (1 : Int32))) (lv' := [(2, .int (x2 + (1 : Int32))), (5, .int (if 0 ≤ (r_3 - r_2) then (r_3 - r_2) else 0 - (r_3 - r_2))), (4, .int r_3), (3, .int r_2), (0, .ref (a 0)), (1, .int x1)]) hx hb dX9_findFarthest_96 hl (k := 5) rfl rfl (by decide) rfl (fun ls hl => ?_)
          refine lv_goto (tgt := 18) hx hb dX9_findFarthest_99 (by decide) ?_
          exact ih x1 (x2 + (1 : Int32))  _ _ _ _ h hd (lv_sub hl [4, 5, 0] rfl)
  cases n with
  | zero => exact h.elim
  | succ n =>
    replace h : wC_findFarthest n 1 x1 (0 : Int32) (cI (cI k 8 8 (-1 : Int32)) 8 9 (-1 : Int32)) Qp := h
    refine lv_aload_n hx hb dX9_findFarthest_0 rfl (lv_at hl 0 rfl) ?_
    refine gC9_9_7 C hd dX9_findFarthest_1 ?_
    refine lv_iconst (v := -1) hx hb dX9_findFarthest_4 (by decide) ?_
    refine pC9_7_8 C hd dX9_findFarthest_5 (fun H locs hd => ?_)
    refine lv_aload_n hx hb dX9_findFarthest_8 rfl (lv_at hl 0 rfl) ?_
    refine gC9_9_7 C hd dX9_findFarthest_9 ?_
    refine lv_iconst (v := -1) hx hb dX9_findFarthest_12 (by decide) ?_
    refine pC9_7_9 C hd dX9_findFarthest_13 (fun H locs hd => ?_)
    refine lv_iconst (v := 0) hx hb dX9_findFarthest_16 (by decide) ?_
    refine lv_istore_n (lv' := [(2, .int (0 : Int32)), (0, .ref (a 0)), (1, .int x1)]) hx hb dX9_findFarthest_17 rfl hl (by decide) rfl (fun ls hl => ?_)
    exact L n x1 (0 : Int32)  _ _ _ _ h hd (lv_sub hl [1, 2, 0] rfl)
def wC_firstOff : Nat → Nat → Int32 → Int32 → Int32 → KC → (Int32 → KC → Prop) → Prop
  | 0, _, _, _, _, _, _ => False
  | n + 1, c, x1, x2, x3, k, Q => match c with
    | 0 => (wC_X0_startAnew 4 x1 (k.1 2 10) k (fun k_1 => wC_firstOff n 1 0 x2 (0 : Int32) k_1 Q))
    | _ => (((k.1 8 3) ≤ x3 → Q (-1 : Int32) k) ∧ (¬ (k.1 8 3) ≤ x3 → (vp_in x3 20 ∧ (wC_X8_planAt (k.2.1 8 0 x3.toNatClampNeg) k (fun r_3 k_3 => ((r_3 = none → False) ∧ (∀ x_4 : Nat, r_3 = some x_4 → ∃ d_4 : Dn, d_4.1 = x_4 ∧ (∃ n_5 : Nat, wC_X0_goThroughDay 4 d_4 n_5 0 0 k_3 (fun k_5 => (vp_in x3 20 ∧ (wC_X0_dropsOf 4 (k_5.2.1 8 1 x3.toNatClampNeg) k_5 (fun r_6 k_6 => (vp_in x3 20 ∧ (((if 0 ≤ (r_6 - (k_6.2.1 8 2 x3.toNatClampNeg)) then (r_6 - (k_6.2.1 8 2 x3.toNatClampNeg)) else 0 - (r_6 - (k_6.2.1 8 2 x3.toNatClampNeg))) ≤ x2 → wC_firstOff n 1 0 x2 (x3 + (1 : Int32)) k_6 Q) ∧ (¬ (if 0 ≤ (r_6 - (k_6.2.1 8 2 x3.toNatClampNeg)) then (r_6 - (k_6.2.1 8 2 x3.toNatClampNeg)) else 0 - (r_6 - (k_6.2.1 8 2 x3.toNatClampNeg))) ≤ x2 → Q x3 k_6)))))))))))))))
set_option maxHeartbeats 4000000 in
set_option maxRecDepth 100000 in
theorem cC_firstOff {l : Launch} {P : EP} {D : va_G} {a : Nat → Nat} {b : Nat → Nat → Nat} {g : Nat → ClassId} {k : KC} {Qp : Int32 → KC → Prop} (n : Nat) (x1 : Int32) (x2 : Int32) (h : wC_firstOff n 0 x1 x2 0 k Qp) : Di l P D (tyA g) (wC a b g) yX9_firstOff cX9_firstOff 4 ({ frames := 5, cells := 0, slots := 0, locals := 123 }) [.ref (a 0), .int x1, .int x2] k Qp := by
  refine Di_of (by decide) (Nat.le_of_ble_eq_true rfl) ?_
  intro p e s m args below meth c A Z ls C ret hd hl
  have hx := C.1
  have hb := C.2.1
  have hl : lv_has ls 4 [(0, .ref (a 0)), (1, .int x1), (2, .int x2)] := hl
  have L : ∀ n : Nat, (∀ (x2 : Int32) (x3 : Int32) (k : KC) (H : Heap) (locs : List Loc) (ls : Array Slot), wC_firstOff n 1 0 x2 x3 k Qp → Hd D (wC a b g k) A s H locs → lv_has ls 4 [(0, .ref (a 0)), (2, .int x2), (3, .int x3)] → W p l e ({ frames := 5, cells := 0, slots := 0, locals := 123 }) s m args below meth c H locs 0 0 Z (F0 m 17 ls [])) := by
    intro n
    induction n with
    | zero => exact fun _ _ _ _ _ _ h => h.elim
    | succ n ih =>
      intro x2 x3 k H locs ls h hd hl
      replace h : (((k.1 8 3) ≤ x3 → Qp (-1 : Int32) k) ∧ (¬ (k.1 8 3) ≤ x3 → (vp_in x3 20 ∧ (wC_X8_planAt (k.2.1 8 0 x3.toNatClampNeg) k (fun r_3 k_3 => ((r_3 = none → False) ∧ (∀ x_4 : Nat, r_3 = some x_4 → ∃ d_4 : Dn, d_4.1 = x_4 ∧ (∃ n_5 : Nat, wC_X0_goThroughDay 4 d_4 n_5 0 0 k_3 (fun k_5 => (vp_in x3 20 ∧ (wC_X0_dropsOf 4 (k_5.2.1 8 1 x3.toNatClampNeg) k_5 (fun r_6 k_6 => (vp_in x3 20 ∧ (((if 0 ≤ (r_6 - (k_6.2.1 8 2 x3.toNatClampNeg)) then (r_6 - (k_6.2.1 8 2 x3.toNatClampNeg)) else 0 - (r_6 - (k_6.2.1 8 2 x3.toNatClampNeg))) ≤ x2 → wC_firstOff n 1 0 x2 (x3 + (1 : Int32)) k_6 Qp) ∧ (¬ (if 0 ≤ (r_6 - (k_6.2.1 8 2 x3.toNatClampNeg)) then (r_6 - (k_6.2.1 8 2 x3.toNatClampNeg)) else 0 - (r_6 - (k_6.2.1 8 2 x3.toNatClampNeg))) ≤ x2 → Qp x3 k_6))))))))))))))) := h
      refine lv_iload_n hx hb dX9_firstOff_17 rfl (lv_at hl 2 rfl) ?_
      refine lv_aload_n hx hb dX9_firstOff_18 rfl (lv_at hl 0 rfl) ?_
      refine gC9_9_7 C hd dX9_firstOff_19 ?_
      refine gC9_7_3 C hd (v := k.1 8 3) rfl dX9_firstOff_22 ?_
      refine lv_icmp_ge (tgt := 92) hx hb dX9_firstOff_25 (by decide) (fun c_2 => ?_) (fun c_2 => ?_)
      · replace h := h.1 c_2
        refine lv_iconst (v := -1) hx hb dX9_firstOff_92 (by decide) ?_
        exact ret hd h dX9_firstOff_93
      · replace h := h.2 c_2
        refine lv_aload_n hx hb dX9_firstOff_28 rfl (lv_at hl 0 rfl) ?_
        refine gC9_9_3 C hd dX9_firstOff_29 ?_
        refine lv_aload_n hx hb dX9_firstOff_32 rfl (lv_at hl 0 rfl) ?_
        refine gC9_9_0 C hd dX9_firstOff_33 ?_
        refine lv_aload_n hx hb dX9_firstOff_36 rfl (lv_at hl 0 rfl) ?_
        refine gC9_9_7 C hd dX9_firstOff_37 ?_
        refine gC9_7_0 C hd dX9_firstOff_40 ?_
        refine lv_iload_n hx hb dX9_firstOff_43 rfl (lv_at hl 2 rfl) ?_
        refine ldC7_0 C hd (v := k.2.1 8 0 x3.toNatClampNeg) h.1 rfl dX9_firstOff_44 ?_
        replace h := h.2
        refine ev_q C hd kwRX9_X8_planAt_159 (cC_X8_planAt _ h) ⟨rfl, rfl⟩ ⟨by decide, by decide⟩ rcC8 hl.1 rfl rfl (Nat.le_of_ble_eq_true rfl) ⟨Nat.zero_le _, Nat.zero_le _⟩ dX9_firstOff_45 (fun r_3 k_3 H locs h hd => ?_)
        refine rf_split (fun e_4 => ?_) (fun x_4 e_4 => ?_)
        · replace h := h.1 e_4
          exact h.elim
        · obtain ⟨d_4, hx_4, h⟩ := h.2 x_4 e_4
          subst hx_4
          obtain ⟨n_5, h⟩ := h
          refine ev_v C hd kwRX9_X0_goThroughDay_187 (cC_X0_goThroughDay (Or.inr (Or.inr rfl)) n_5 h) ⟨rfl, rfl⟩ ⟨by decide, by decide⟩ (rcC0 (Or.inr (Or.inr rfl))) hl.1 rfl rfl (Nat.le_of_ble_eq_true rfl) ⟨Nat.zero_le _, Nat.zero_le _⟩ dX9_firstOff_48 (fun k_5 H locs h hd => ?_)
          refine lv_aload_n hx hb dX9_firstOff_51 rfl (lv_at hl 0 rfl) ?_
          refine gC9_9_3 C hd dX9_firstOff_52 ?_
          refine lv_aload_n hx hb dX9_firstOff_55 rfl (lv_at hl 0 rfl) ?_
          refine gC9_9_7 C hd dX9_firstOff_56 ?_
          refine gC9_7_1 C hd dX9_firstOff_59 ?_
          refine lv_iload_n hx hb dX9_firstOff_62 rfl (lv_at hl 2 rfl) ?_
          refine ldC7_1 C hd (v := k_5.2.1 8 1 x3.toNatClampNeg) h.1 rfl dX9_firstOff_63 ?_
          replace h := h.2
          refine ev_i C hd kwRX9_X0_dropsOf_181 (cC_X0_dropsOf (Or.inr (Or.inr rfl)) _ h) ⟨rfl, rfl⟩ ⟨by decide, by decide⟩ (rcC0 (Or.inr (Or.inr rfl))) hl.1 rfl rfl (Nat.le_of_ble_eq_true rfl) ⟨Nat.zero_le _, Nat.zero_le _⟩ dX9_firstOff_64 (fun r_6 k_6 H locs h hd => ?_)
          refine lv_aload_n hx hb dX9_firstOff_67 rfl (lv_at hl 0 rfl) ?_
          refine gC9_9_7 C hd dX9_firstOff_68 ?_
          refine gC9_7_2 C hd dX9_firstOff_71 ?_
          refine lv_iload_n hx hb dX9_firstOff_74 rfl (lv_at hl 2 rfl) ?_
          refine ldC7_2 C hd (v := k_6.2.1 8 2 x3.toNatClampNeg) h.1 rfl dX9_firstOff_75 ?_
          replace h := h.2
          refine lv_isub hx hb dX9_firstOff_76 ?_
          refine va_mabs C.1 C.2.1 (C.2.2.1.trans hl.1.symm) C.2.2.2.1 (C.2.2.2.2.1 _ q_786) (C.2.2.2.2.1 _ q_787) (C.2.2.2.2.1 _ q_16) (C.2.2.2.2.1 _ q_788) (by decide) (Nat.le_of_ble_eq_true rfl) (Nat.zero_le _) (Nat.zero_le _) dX9_firstOff_77 ?_
          refine lv_iload_n hx hb dX9_firstOff_80 rfl (lv_at hl 1 rfl) ?_
          refine lv_icmp_le (tgt := 86) hx hb dX9_firstOff_81 (by decide) (fun c_7 => ?_) (fun c_7 => ?_)
          · replace h := h.1 c_7
            refine lv_iinc (v := (x3 + (1 : Int32))) (lv' := [(3, .int (x3 + (1 : Int32))), (0, .ref (a 0)), (2, .int x2)]) hx hb dX9_firstOff_86 hl (k := 2) rfl rfl (by decide) rfl (fun ls hl => ?_)
            refine lv_goto (tgt := 17) hx hb dX9_firstOff_89 (by decide) ?_
            exact ih x2 (x3 + (1 : Int32))  _ _ _ _ h hd (lv_sub hl [1, 2, 0] rfl)
          · replace h := h.2 c_7
            refine lv_iload_n hx hb dX9_firstOff_84 rfl (lv_at hl 2 rfl) ?_
            exact ret hd h dX9_firstOff_85
  cases n with
  | zero => exact h.elim
  | succ n =>
    replace h : (wC_X0_startAnew 4 x1 (k.1 2 10) k (fun k_1 => wC_firstOff n 1 0 x2 (0 : Int32) k_1 Qp)) := h
    refine lv_aload_n hx hb dX9_firstOff_0 rfl (lv_at hl 0 rfl) ?_
    refine gC9_9_3 C hd dX9_firstOff_1 ?_
    refine lv_iload_n hx hb dX9_firstOff_4 rfl (lv_at hl 1 rfl) ?_
    refine lv_aload_n hx hb dX9_firstOff_5 rfl (lv_at hl 0 rfl) ?_
    refine gC9_9_1 C hd dX9_firstOff_6 ?_
    refine gC9_0_10 C hd (Or.inl rfl) (v := k.1 2 10) rfl dX9_firstOff_9 ?_
    refine ev_v C hd kwRX9_X0_startAnew_313 (cC_X0_startAnew (Or.inr (Or.inr rfl)) _ _ h) ⟨rfl, rfl⟩ ⟨by decide, by decide⟩ (rcC0 (Or.inr (Or.inr rfl))) hl.1 rfl rfl (Nat.le_of_ble_eq_true rfl) ⟨Nat.zero_le _, Nat.zero_le _⟩ dX9_firstOff_12 (fun k_1 H locs h hd => ?_)
    refine lv_iconst (v := 0) hx hb dX9_firstOff_15 (by decide) ?_
    refine lv_istore_n (lv' := [(3, .int (0 : Int32)), (0, .ref (a 0)), (1, .int x1), (2, .int x2)]) hx hb dX9_firstOff_16 rfl hl (by decide) rfl (fun ls hl => ?_)
    exact L n x2 (0 : Int32)  _ _ _ _ h hd (lv_sub hl [1, 3, 0] rfl)
def wC_findPaces : Nat → Nat → Int32 → Int32 → KC → (KC → Prop) → Prop
  | 0, _, _, _, _, _ => False
  | n + 1, c, x1, x2, k, Q => match c with
    | 0 => (wC_X7_forgetPaces k (fun k_1 => wC_findPaces n 1 x1 (5 : Int32) k_1 Q))
    | _ => (((100 : Int32) < x2 → Q k) ∧ (¬ (100 : Int32) < x2 → (∃ n_3 : Nat, wC_firstOff n_3 0 x2 x1 0 k (fun r_3 k_3 => ((¬ r_3 = (-1 : Int32) → wC_findPaces n 1 x1 (x2 + (5 : Int32)) (cI k_3 8 7 (if (k_3.1 8 7) < r_3 then r_3 else (k_3.1 8 7))) Q) ∧ (r_3 = (-1 : Int32) → (wC_X7_addPace x2 k_3 (fun k_5 => wC_findPaces n 1 x1 (x2 + (5 : Int32)) k_5 Q))))))))
set_option maxHeartbeats 4000000 in
set_option maxRecDepth 100000 in
theorem cC_findPaces {l : Launch} {P : EP} {D : va_G} {a : Nat → Nat} {b : Nat → Nat → Nat} {g : Nat → ClassId} {k : KC} {Qp : KC → Prop} (n : Nat) (x1 : Int32) (h : wC_findPaces n 0 x1 0 k Qp) : Dv l P D (tyA g) (wC a b g) yX9_findPaces cX9_findPaces 4 ({ frames := 6, cells := 0, slots := 0, locals := 146 }) [.ref (a 0), .int x1] k Qp := by
  refine Dv_of (by decide) (Nat.le_of_ble_eq_true rfl) ?_
  intro p e s m args below meth c A Z ls C ret hd hl
  have hx := C.1
  have hb := C.2.1
  have hl : lv_has ls 4 [(0, .ref (a 0)), (1, .int x1)] := hl
  have L : ∀ n : Nat, (∀ (x1 : Int32) (x2 : Int32) (k : KC) (H : Heap) (locs : List Loc) (ls : Array Slot), wC_findPaces n 1 x1 x2 k Qp → Hd D (wC a b g k) A s H locs → lv_has ls 4 [(0, .ref (a 0)), (1, .int x1), (2, .int x2)] → W p l e ({ frames := 6, cells := 0, slots := 0, locals := 146 }) s m args below meth c H locs 0 0 Z (F0 m 9 ls [])) := by
    intro n
    induction n with
    | zero => exact fun _ _ _ _ _ _ h => h.elim
    | succ n ih =>
      intro x1 x2 k H locs ls h hd hl
      replace h : (((100 : Int32) < x2 → Qp k) ∧ (¬ (100 : Int32) < x2 → (∃ n_3 : Nat, wC_firstOff n_3 0 x2 x1 0 k (fun r_3 k_3 => ((¬ r_3 = (-1 : Int32) → wC_findPaces n 1 x1 (x2 + (5 : Int32)) (cI k_3 8 7 (if (k_3.1 8 7) < r_3 then r_3 else (k_3.1 8 7))) Qp) ∧ (r_3 = (-1 : Int32) → (wC_X7_addPace x2 k_3 (fun k_5 => wC_findPaces n 1 x1 (x2 + (5 : Int32)) k_5 Qp)))))))) := h
      refine lv_iload_n hx hb dX9_findPaces_9 rfl (lv_at hl 2 rfl) ?_
      refine lv_bipush (v := 100) hx hb dX9_findPaces_10 (by decide) ?_
      refine lv_icmp_gt (tgt := 62) hx hb dX9_findPaces_12 (by decide) (fun c_2 => ?_) (fun c_2 => ?_)
      · replace h := h.1 c_2
        exact ret hd h dX9_findPaces_62
      · replace h := h.2 c_2
        refine lv_aload_n hx hb dX9_findPaces_15 rfl (lv_at hl 0 rfl) ?_
        refine lv_iload_n hx hb dX9_findPaces_16 rfl (lv_at hl 2 rfl) ?_
        refine lv_iload_n hx hb dX9_findPaces_17 rfl (lv_at hl 1 rfl) ?_
        obtain ⟨n_3, h⟩ := h
        refine ev_i C hd kwRX9_X9_firstOff_305 (cC_firstOff n_3 _ _ h) ⟨rfl, rfl⟩ ⟨by decide, by decide⟩ rcC9 hl.1 rfl rfl (Nat.le_of_ble_eq_true rfl) ⟨Nat.zero_le _, Nat.zero_le _⟩ dX9_findPaces_18 (fun r_3 k_3 H locs h hd => ?_)
        refine lv_istore_n (lv' := [(3, .int r_3), (0, .ref (a 0)), (1, .int x1), (2, .int x2)]) hx hb dX9_findPaces_21 rfl hl (by decide) rfl (fun ls hl => ?_)
        refine lv_iload_n hx hb dX9_findPaces_22 rfl (lv_at hl 0 rfl) ?_
        refine lv_iconst (v := -1) hx hb dX9_findPaces_23 (by decide) ?_
        refine lv_icmp_ne (tgt := 38) hx hb dX9_findPaces_24 (by decide) (fun c_4 => ?_) (fun c_4 => ?_)
        · replace h := h.1 c_4
          refine lv_aload_n hx hb dX9_findPaces_38 rfl (lv_at hl 1 rfl) ?_
          refine gC9_9_7 C hd dX9_findPaces_39 ?_
          refine lv_aload_n hx hb dX9_findPaces_42 rfl (lv_at hl 1 rfl) ?_
          refine gC9_9_7 C hd dX9_findPaces_43 ?_
          refine gC9_7_7 C hd (v := k_3.1 8 7) rfl dX9_findPaces_46 ?_
          refine lv_iload_n hx hb dX9_findPaces_49 rfl (lv_at hl 0 rfl) ?_
          refine va_mmax C.1 C.2.1 (C.2.2.1.trans hl.1.symm) C.2.2.2.1 (C.2.2.2.2.1 _ q_793) (C.2.2.2.2.1 _ q_514) (C.2.2.2.2.1 _ q_16) (C.2.2.2.2.1 _ q_515) (by decide) (Nat.le_of_ble_eq_true rfl) (Nat.zero_le _) (Nat.zero_le _) dX9_findPaces_50 ?_
          refine pC9_7_7 C hd dX9_findPaces_53 (fun H locs hd => ?_)
          refine lv_iinc (v := (x2 + (5 : Int32))) (lv' := [(2, .int (x2 + (5 : Int32))), (3, .int r_3), (0, .ref (a 0)), (1, .int x1)]) hx hb dX9_findPaces_56 hl (k := 3) rfl rfl (by decide) rfl (fun ls hl => ?_)
          refine lv_goto (tgt := 9) hx hb dX9_findPaces_59 (by decide) ?_
          exact ih x1 (x2 + (5 : Int32))  _ _ _ _ h hd (lv_sub hl [2, 3, 0] rfl)
        · replace h := h.2 c_4
          refine lv_aload_n hx hb dX9_findPaces_27 rfl (lv_at hl 1 rfl) ?_
          refine gC9_9_7 C hd dX9_findPaces_28 ?_
          refine lv_iload_n hx hb dX9_findPaces_31 rfl (lv_at hl 3 rfl) ?_
          refine ev_v C hd kwRX9_X7_addPace_308 (cC_X7_addPace _ h) ⟨rfl, rfl⟩ ⟨by decide, by decide⟩ rcC7 hl.1 rfl rfl (Nat.le_of_ble_eq_true rfl) ⟨Nat.zero_le _, Nat.zero_le _⟩ dX9_findPaces_32 (fun k_5 H locs h hd => ?_)
          refine lv_goto (tgt := 56) hx hb dX9_findPaces_35 (by decide) ?_
          refine lv_iinc (v := (x2 + (5 : Int32))) (lv' := [(2, .int (x2 + (5 : Int32))), (3, .int r_3), (0, .ref (a 0)), (1, .int x1)]) hx hb dX9_findPaces_56 hl (k := 3) rfl rfl (by decide) rfl (fun ls hl => ?_)
          refine lv_goto (tgt := 9) hx hb dX9_findPaces_59 (by decide) ?_
          exact ih x1 (x2 + (5 : Int32))  _ _ _ _ h hd (lv_sub hl [2, 3, 0] rfl)
  cases n with
  | zero => exact h.elim
  | succ n =>
    replace h : (wC_X7_forgetPaces k (fun k_1 => wC_findPaces n 1 x1 (5 : Int32) k_1 Qp)) := h
    refine lv_aload_n hx hb dX9_findPaces_0 rfl (lv_at hl 0 rfl) ?_
    refine gC9_9_7 C hd dX9_findPaces_1 ?_
    refine ev_v C hd kwRX9_X7_forgetPaces_302 (cC_X7_forgetPaces h) ⟨rfl, rfl⟩ ⟨by decide, by decide⟩ rcC7 hl.1 rfl rfl (Nat.le_of_ble_eq_true rfl) ⟨Nat.zero_le _, Nat.zero_le _⟩ dX9_findPaces_4 (fun k_1 H locs h hd => ?_)
    refine lv_iconst (v := 5) hx hb dX9_findPaces_7 (by decide) ?_
    refine lv_istore_n (lv' := [(2, .int (5 : Int32)), (0, .ref (a 0)), (1, .int x1)]) hx hb dX9_findPaces_8 rfl hl (by decide) rfl (fun ls hl => ?_)
    exact L n x1 (5 : Int32)  _ _ _ _ h hd (lv_sub hl [1, 2, 0] rfl)
def wC_force (x1 : Int32) (k : KC) (Q : Int32 → KC → Prop) : Prop := (wC_within x1 (0 : Int32) ((k.1 1 1) - (1 : Int32)) k (fun r_1 k_1 => ((¬ r_1 = 0 → Q (k_1.1 2 10) (cI k_1 2 10 x1)) ∧ (r_1 = 0 → Q (-2 : Int32) k_1))))
set_option maxHeartbeats 4000000 in
set_option maxRecDepth 100000 in
theorem cC_force {l : Launch} {P : EP} {D : va_G} {a : Nat → Nat} {b : Nat → Nat → Nat} {g : Nat → ClassId} {k : KC} {Qp : Int32 → KC → Prop} (x1 : Int32) (h : wC_force x1 k Qp) : Di l P D (tyA g) (wC a b g) yX9_force cX9_force 3 ({ frames := 1, cells := 0, slots := 0, locals := 22 }) [.ref (a 0), .int x1] k Qp := by
  refine Di_of (by decide) (Nat.le_of_ble_eq_true rfl) ?_
  intro p e s m args below meth c A Z ls C ret hd hl
  have hx := C.1
  have hb := C.2.1
  have hl : lv_has ls 3 [(0, .ref (a 0)), (1, .int x1)] := hl
  replace h : (wC_within x1 (0 : Int32) ((k.1 1 1) - (1 : Int32)) k (fun r_1 k_1 => ((¬ r_1 = 0 → Qp (k_1.1 2 10) (cI k_1 2 10 x1)) ∧ (r_1 = 0 → Qp (-2 : Int32) k_1)))) := h
  refine lv_iload_n hx hb dX9_force_0 rfl (lv_at hl 1 rfl) ?_
  refine lv_iconst (v := 0) hx hb dX9_force_1 (by decide) ?_
  refine lv_aload_n hx hb dX9_force_2 rfl (lv_at hl 0 rfl) ?_
  refine gC9_9_0 C hd dX9_force_3 ?_
  refine gC9_8_1 C hd (v := k.1 1 1) rfl dX9_force_6 ?_
  refine lv_iconst (v := 1) hx hb dX9_force_9 (by decide) ?_
  refine lv_isub hx hb dX9_force_10 ?_
  refine es_z C hd kwRX9_X9_within_70 (cC_within _ _ _ h) ⟨rfl, rfl⟩ ⟨by decide, by decide⟩ hl.1 rfl rfl (Nat.le_of_ble_eq_true rfl) ⟨Nat.zero_le _, Nat.zero_le _⟩ dX9_force_11 (fun r_1 k_1 H locs hz_1 h hd => ?_)
  refine lv_if_ne (tgt := 20) hx hb dX9_force_14 (by decide) (fun c_2 => ?_) (fun c_2 => ?_)
  · replace h := h.1 c_2
    refine lv_aload_n hx hb dX9_force_20 rfl (lv_at hl 0 rfl) ?_
    refine gC9_9_1 C hd dX9_force_21 ?_
    refine gC9_0_10 C hd (Or.inl rfl) (v := k_1.1 2 10) rfl dX9_force_24 ?_
    refine lv_istore_n (lv' := [(2, .int (k_1.1 2 10)), (0, .ref (a 0)), (1, .int x1)]) hx hb dX9_force_27 rfl hl (by decide) rfl (fun ls hl => ?_)
    refine lv_aload_n hx hb dX9_force_28 rfl (lv_at hl 1 rfl) ?_
    refine gC9_9_1 C hd dX9_force_29 ?_
    refine lv_iload_n hx hb dX9_force_32 rfl (lv_at hl 2 rfl) ?_
    refine pC9_0_10 C hd (Or.inl rfl) dX9_force_33 (fun H locs hd => ?_)
    refine lv_iload_n hx hb dX9_force_36 rfl (lv_at hl 0 rfl) ?_
    exact ret hd h dX9_force_37
  · replace h := h.2 c_2
    refine lv_bipush (v := -2) hx hb dX9_force_17 (by decide) ?_
    exact ret hd h dX9_force_19
def wC_goes (x1 : Int32) (x2 : Int32) (x3 : Int32) (k : KC) (Q : Int32 → KC → Prop) : Prop := (wC_within x1 (0 : Int32) (5 : Int32) k (fun r_1 k_1 => ((r_1 = 0 → Q (-2 : Int32) k_1) ∧ (¬ r_1 = 0 → (wC_isEnd x2 k_1 (fun r_3 k_3 => ((r_3 = 0 → Q (-2 : Int32) k_3) ∧ (¬ r_3 = 0 → (wC_within x3 (0 : Int32) (100 : Int32) k_3 (fun r_5 k_5 => ((¬ r_5 = 0 → (vp_in ((x1 * (4 : Int32)) + x2) 24 ∧ (vp_in ((x1 * (4 : Int32)) + x2) 24 ∧ Q (k_5.2.1 1 5 ((x1 * (4 : Int32)) + x2).toNatClampNeg) (cA k_5 1 5 (upd (k_5.2.1 1 5) ((x1 * (4 : Int32)) + x2).toNatClampNeg x3))))) ∧ (r_5 = 0 → Q (-2 : Int32) k_5))))))))))))
set_option maxHeartbeats 4000000 in
set_option maxRecDepth 100000 in
theorem cC_goes {l : Launch} {P : EP} {D : va_G} {a : Nat → Nat} {b : Nat → Nat → Nat} {g : Nat → ClassId} {k : KC} {Qp : Int32 → KC → Prop} (x1 : Int32) (x2 : Int32) (x3 : Int32) (h : wC_goes x1 x2 x3 k Qp) : Di l P D (tyA g) (wC a b g) yX9_goes cX9_goes 6 ({ frames := 2, cells := 0, slots := 0, locals := 42 }) [.ref (a 0), .int x1, .int x2, .int x3] k Qp := by
  refine Di_of (by decide) (Nat.le_of_ble_eq_true rfl) ?_
  intro p e s m args below meth c A Z ls C ret hd hl
  have hx := C.1
  have hb := C.2.1
  have hl : lv_has ls 6 [(0, .ref (a 0)), (1, .int x1), (2, .int x2), (3, .int x3)] := hl
  replace h : (wC_within x1 (0 : Int32) (5 : Int32) k (fun r_1 k_1 => ((r_1 = 0 → Qp (-2 : Int32) k_1) ∧ (¬ r_1 = 0 → (wC_isEnd x2 k_1 (fun r_3 k_3 => ((r_3 = 0 → Qp (-2 : Int32) k_3) ∧ (¬ r_3 = 0 → (wC_within x3 (0 : Int32) (100 : Int32) k_3 (fun r_5 k_5 => ((¬ r_5 = 0 → (vp_in ((x1 * (4 : Int32)) + x2) 24 ∧ (vp_in ((x1 * (4 : Int32)) + x2) 24 ∧ Qp (k_5.2.1 1 5 ((x1 * (4 : Int32)) + x2).toNatClampNeg) (cA k_5 1 5 (upd (k_5.2.1 1 5) ((x1 * (4 : Int32)) + x2).toNatClampNeg x3))))) ∧ (r_5 = 0 → Qp (-2 : Int32) k_5)))))))))))) := h
  refine lv_iload_n hx hb dX9_goes_0 rfl (lv_at hl 1 rfl) ?_
  refine lv_iconst (v := 0) hx hb dX9_goes_1 (by decide) ?_
  refine lv_iconst (v := 5) hx hb dX9_goes_2 (by decide) ?_
  refine es_z C hd kwRX9_X9_within_70 (cC_within _ _ _ h) ⟨rfl, rfl⟩ ⟨by decide, by decide⟩ hl.1 rfl rfl (Nat.le_of_ble_eq_true rfl) ⟨Nat.zero_le _, Nat.zero_le _⟩ dX9_goes_3 (fun r_1 k_1 H locs hz_1 h hd => ?_)
  refine lv_if_eq (tgt := 26) hx hb dX9_goes_6 (by decide) (fun c_2 => ?_) (fun c_2 => ?_)
  · replace h := h.1 c_2
    refine lv_bipush (v := -2) hx hb dX9_goes_26 (by decide) ?_
    exact ret hd h dX9_goes_28
  · replace h := h.2 c_2
    refine lv_iload_n hx hb dX9_goes_9 rfl (lv_at hl 2 rfl) ?_
    refine es_z C hd kwRX9_X9_isEnd_103 (cC_isEnd _ h) ⟨rfl, rfl⟩ ⟨by decide, by decide⟩ hl.1 rfl rfl (Nat.le_of_ble_eq_true rfl) ⟨Nat.zero_le _, Nat.zero_le _⟩ dX9_goes_10 (fun r_3 k_3 H locs hz_3 h hd => ?_)
    refine lv_if_eq (tgt := 26) hx hb dX9_goes_13 (by decide) (fun c_4 => ?_) (fun c_4 => ?_)
    · replace h := h.1 c_4
      refine lv_bipush (v := -2) hx hb dX9_goes_26 (by decide) ?_
      exact ret hd h dX9_goes_28
    · replace h := h.2 c_4
      refine lv_iload_n hx hb dX9_goes_16 rfl (lv_at hl 3 rfl) ?_
      refine lv_iconst (v := 0) hx hb dX9_goes_17 (by decide) ?_
      refine lv_bipush (v := 100) hx hb dX9_goes_18 (by decide) ?_
      refine es_z C hd kwRX9_X9_within_70 (cC_within _ _ _ h) ⟨rfl, rfl⟩ ⟨by decide, by decide⟩ hl.1 rfl rfl (Nat.le_of_ble_eq_true rfl) ⟨Nat.zero_le _, Nat.zero_le _⟩ dX9_goes_20 (fun r_5 k_5 H locs hz_5 h hd => ?_)
      refine lv_if_ne (tgt := 29) hx hb dX9_goes_23 (by decide) (fun c_6 => ?_) (fun c_6 => ?_)
      · replace h := h.1 c_6
        refine lv_iload_n hx hb dX9_goes_29 rfl (lv_at hl 1 rfl) ?_
        refine lv_iconst (v := 4) hx hb dX9_goes_30 (by decide) ?_
        refine lv_imul hx hb dX9_goes_31 ?_
        refine lv_iload_n hx hb dX9_goes_32 rfl (lv_at hl 2 rfl) ?_
        refine lv_iadd hx hb dX9_goes_33 ?_
        refine lv_istore (lv' := [(4, .int ((x1 * (4 : Int32)) + x2)), (0, .ref (a 0)), (1, .int x1), (2, .int x2), (3, .int x3)]) hx hb dX9_goes_34 hl (by decide) rfl (fun ls hl => ?_)
        refine lv_aload_n hx hb dX9_goes_36 rfl (lv_at hl 1 rfl) ?_
        refine gC9_9_0 C hd dX9_goes_37 ?_
        refine gC9_8_5 C hd dX9_goes_40 ?_
        refine lv_iload hx hb dX9_goes_43 (lv_at hl 0 rfl) ?_
        refine ldC8_5 C hd (v := k_5.2.1 1 5 ((x1 * (4 : Int32)) + x2).toNatClampNeg) h.1 rfl dX9_goes_45 ?_
        replace h := h.2
        refine lv_istore (lv' := [(5, .int (k_5.2.1 1 5 ((x1 * (4 : Int32)) + x2).toNatClampNeg)), (4, .int ((x1 * (4 : Int32)) + x2)), (0, .ref (a 0)), (1, .int x1), (2, .int x2), (3, .int x3)]) hx hb dX9_goes_46 hl (by decide) rfl (fun ls hl => ?_)
        refine lv_aload_n hx hb dX9_goes_48 rfl (lv_at hl 2 rfl) ?_
        refine gC9_9_0 C hd dX9_goes_49 ?_
        refine gC9_8_5 C hd dX9_goes_52 ?_
        refine lv_iload hx hb dX9_goes_55 (lv_at hl 1 rfl) ?_
        refine lv_iload_n hx hb dX9_goes_57 rfl (lv_at hl 5 rfl) ?_
        refine stC8_5 C hd h.1 dX9_goes_58 (fun H locs hd => ?_)
        replace h := h.2
        refine lv_iload hx hb dX9_goes_59 (lv_at hl 0 rfl) ?_
        exact ret hd h dX9_goes_61
      · replace h := h.2 c_6
        refine lv_bipush (v := -2) hx hb dX9_goes_26 (by decide) ?_
        exact ret hd h dX9_goes_28
def wC_image  (k : KC) (Q : Int32 → KC → Prop) : Prop := (wC_X0_becomeLike 3 2 (8 : Int32) k (fun k_1 => Q (k_1.1 2 7) (cI k_1 0 9 (k_1.1 1 0))))
set_option maxHeartbeats 4000000 in
set_option maxRecDepth 100000 in
theorem cC_image {l : Launch} {P : EP} {D : va_G} {a : Nat → Nat} {b : Nat → Nat → Nat} {g : Nat → ClassId} {k : KC} {Qp : Int32 → KC → Prop}  (h : wC_image k Qp) : Di l P D (tyA g) (wC a b g) yX9_image cX9_image 1 ({ frames := 2, cells := 0, slots := 0, locals := 82 }) [.ref (a 0)] k Qp := by
  refine Di_of (by decide) (Nat.le_of_ble_eq_true rfl) ?_
  intro p e s m args below meth c A Z ls C ret hd hl
  have hx := C.1
  have hb := C.2.1
  have hl : lv_has ls 1 [(0, .ref (a 0))] := hl
  replace h : (wC_X0_becomeLike 3 2 (8 : Int32) k (fun k_1 => Qp (k_1.1 2 7) (cI k_1 0 9 (k_1.1 1 0)))) := h
  refine lv_aload_n hx hb dX9_image_0 rfl (lv_at hl 0 rfl) ?_
  refine gC9_9_2 C hd dX9_image_1 ?_
  refine lv_aload_n hx hb dX9_image_4 rfl (lv_at hl 0 rfl) ?_
  refine gC9_9_1 C hd dX9_image_5 ?_
  refine lv_bipush (v := 8) hx hb dX9_image_8 (by decide) ?_
  refine ev_v C hd kwRX9_X0_becomeLike_191 (cC_X0_becomeLike (Or.inr (Or.inl rfl)) (Or.inl rfl) _ h) ⟨rfl, rfl⟩ ⟨by decide, by decide⟩ (rcC0 (Or.inr (Or.inl rfl))) hl.1 rfl rfl (Nat.le_of_ble_eq_true rfl) ⟨Nat.zero_le _, Nat.zero_le _⟩ dX9_image_10 (fun k_1 H locs h hd => ?_)
  refine lv_aload_n hx hb dX9_image_13 rfl (lv_at hl 0 rfl) ?_
  refine lv_aload_n hx hb dX9_image_14 rfl (lv_at hl 0 rfl) ?_
  refine gC9_9_0 C hd dX9_image_15 ?_
  refine gC9_8_0 C hd (v := k_1.1 1 0) rfl dX9_image_18 ?_
  refine pC9_9_9 C hd dX9_image_21 (fun H locs hd => ?_)
  refine lv_aload_n hx hb dX9_image_24 rfl (lv_at hl 0 rfl) ?_
  refine gC9_9_1 C hd dX9_image_25 ?_
  refine gC9_0_7 C hd (Or.inl rfl) (v := k_1.1 2 7) rfl dX9_image_28 ?_
  exact ret hd h dX9_image_31
def wC_isSomeSet (x1 : Int32) (k : KC) (Q : Int32 → KC → Prop) : Prop := ((x1 = 0 → Q (0 : Int32) k) ∧ (¬ x1 = 0 → (wC_X8_isSet x1 k (fun r_2 k_2 => ((r_2 = 0 → Q (0 : Int32) k_2) ∧ (¬ r_2 = 0 → Q (1 : Int32) k_2))))))
set_option maxHeartbeats 4000000 in
set_option maxRecDepth 100000 in
theorem cC_isSomeSet {l : Launch} {P : EP} {D : va_G} {a : Nat → Nat} {b : Nat → Nat → Nat} {g : Nat → ClassId} {k : KC} {Qp : Int32 → KC → Prop} (x1 : Int32) (h : wC_isSomeSet x1 k Qp) : Dz l P D (tyA g) (wC a b g) yX9_isSomeSet cX9_isSomeSet 2 ({ frames := 2, cells := 0, slots := 0, locals := 43 }) [.ref (a 0), .int x1] k Qp := by
  refine Dz_of (by decide) (Nat.le_of_ble_eq_true rfl) ?_
  intro p e s m args below meth c A Z ls C ret hd hl
  have hx := C.1
  have hb := C.2.1
  have hl : lv_has ls 2 [(0, .ref (a 0)), (1, .int x1)] := hl
  replace h : ((x1 = 0 → Qp (0 : Int32) k) ∧ (¬ x1 = 0 → (wC_X8_isSet x1 k (fun r_2 k_2 => ((r_2 = 0 → Qp (0 : Int32) k_2) ∧ (¬ r_2 = 0 → Qp (1 : Int32) k_2)))))) := h
  refine lv_iload_n hx hb dX9_isSomeSet_0 rfl (lv_at hl 1 rfl) ?_
  refine lv_if_eq (tgt := 19) hx hb dX9_isSomeSet_1 (by decide) (fun c_1 => ?_) (fun c_1 => ?_)
  · replace h := h.1 c_1
    refine lv_iconst (v := 0) hx hb dX9_isSomeSet_19 (by decide) ?_
    exact ret hd (by decide) h dX9_isSomeSet_20
  · replace h := h.2 c_1
    refine lv_aload_n hx hb dX9_isSomeSet_4 rfl (lv_at hl 0 rfl) ?_
    refine gC9_9_0 C hd dX9_isSomeSet_5 ?_
    refine lv_iload_n hx hb dX9_isSomeSet_8 rfl (lv_at hl 1 rfl) ?_
    refine ev_z C hd kwRX9_X8_isSet_172 (cC_X8_isSet _ h) ⟨rfl, rfl⟩ ⟨by decide, by decide⟩ rcC8 hl.1 rfl rfl (Nat.le_of_ble_eq_true rfl) ⟨Nat.zero_le _, Nat.zero_le _⟩ dX9_isSomeSet_9 (fun r_2 k_2 H locs hz_2 h hd => ?_)
    refine lv_if_eq (tgt := 19) hx hb dX9_isSomeSet_12 (by decide) (fun c_3 => ?_) (fun c_3 => ?_)
    · replace h := h.1 c_3
      refine lv_iconst (v := 0) hx hb dX9_isSomeSet_19 (by decide) ?_
      exact ret hd (by decide) h dX9_isSomeSet_20
    · replace h := h.2 c_3
      refine lv_iconst (v := 1) hx hb dX9_isSomeSet_15 (by decide) ?_
      refine lv_goto (tgt := 20) hx hb dX9_isSomeSet_16 (by decide) ?_
      exact ret hd (by decide) h dX9_isSomeSet_20
def wC_isUnder : Nat → Nat → Int32 → Int32 → Int32 → Int32 → KC → (Int32 → KC → Prop) → Prop
  | 0, _, _, _, _, _, _, _ => False
  | n + 1, c, x0, x1, x2, x3, k, Q => match c with
    | 0 => wC_isUnder n 1 0 x1 x0 (0 : Int32) k Q
    | _ => (((6 : Int32) ≤ x3 → ((¬ x2 = x1 → Q (0 : Int32) k) ∧ (x2 = x1 → Q (1 : Int32) k))) ∧ (¬ (6 : Int32) ≤ x3 → ((x2 < 0 → ((¬ x2 = x1 → Q (0 : Int32) k) ∧ (x2 = x1 → Q (1 : Int32) k))) ∧ (¬ x2 < 0 → ((x2 = x1 → ((¬ x2 = x1 → Q (0 : Int32) k) ∧ (x2 = x1 → Q (1 : Int32) k))) ∧ (¬ x2 = x1 → (vp_in x2 6 ∧ wC_isUnder n 1 0 x1 (undS x2.toNatClampNeg) (x3 + (1 : Int32)) k Q)))))))
set_option maxHeartbeats 4000000 in
set_option maxRecDepth 100000 in
theorem cC_isUnder {l : Launch} {P : EP} {D : va_G} {a : Nat → Nat} {b : Nat → Nat → Nat} {g : Nat → ClassId} {k : KC} {Qp : Int32 → KC → Prop} (n : Nat) (x0 : Int32) (x1 : Int32) (h : wC_isUnder n 0 x0 x1 0 0 k Qp) : Dz l P D (tyA g) (wC a b g) yX9_isUnder cX9_isUnder 4 ({ frames := 0, cells := 0, slots := 0, locals := 0 }) [.int x0, .int x1] k Qp := by
  refine Dz_of (by decide) (Nat.le_of_ble_eq_true rfl) ?_
  intro p e s m args below meth c A Z ls C ret hd hl
  have hx := C.1
  have hb := C.2.1
  have hl : lv_has ls 4 [(0, .int x0), (1, .int x1)] := hl
  have L : ∀ n : Nat, (∀ (x1 : Int32) (x2 : Int32) (x3 : Int32) (k : KC) (H : Heap) (locs : List Loc) (ls : Array Slot), wC_isUnder n 1 0 x1 x2 x3 k Qp → Hd D (wC a b g k) A s H locs → lv_has ls 4 [(1, .int x1), (2, .int x2), (3, .int x3)] → W p l e ({ frames := 0, cells := 0, slots := 0, locals := 0 }) s m args below meth c H locs 0 0 Z (F0 m 4 ls [])) := by
    intro n
    induction n with
    | zero => exact fun _ _ _ _ _ _ _ h => h.elim
    | succ n ih =>
      intro x1 x2 x3 k H locs ls h hd hl
      replace h : (((6 : Int32) ≤ x3 → ((¬ x2 = x1 → Qp (0 : Int32) k) ∧ (x2 = x1 → Qp (1 : Int32) k))) ∧ (¬ (6 : Int32) ≤ x3 → ((x2 < 0 → ((¬ x2 = x1 → Qp (0 : Int32) k) ∧ (x2 = x1 → Qp (1 : Int32) k))) ∧ (¬ x2 < 0 → ((x2 = x1 → ((¬ x2 = x1 → Qp (0 : Int32) k) ∧ (x2 = x1 → Qp (1 : Int32) k))) ∧ (¬ x2 = x1 → (vp_in x2 6 ∧ wC_isUnder n 1 0 x1 (undS x2.toNatClampNeg) (x3 + (1 : Int32)) k Qp))))))) := h
      refine lv_iload_n hx hb dX9_isUnder_4 rfl (lv_at hl 2 rfl) ?_
      refine lv_bipush (v := 6) hx hb dX9_isUnder_5 (by decide) ?_
      refine lv_icmp_ge (tgt := 31) hx hb dX9_isUnder_7 (by decide) (fun c_1 => ?_) (fun c_1 => ?_)
      · replace h := h.1 c_1
        refine lv_iload_n hx hb dX9_isUnder_31 rfl (lv_at hl 1 rfl) ?_
        refine lv_iload_n hx hb dX9_isUnder_32 rfl (lv_at hl 0 rfl) ?_
        refine lv_icmp_ne (tgt := 40) hx hb dX9_isUnder_33 (by decide) (fun c_2 => ?_) (fun c_2 => ?_)
        · replace h := h.1 c_2
          refine lv_iconst (v := 0) hx hb dX9_isUnder_40 (by decide) ?_
          exact ret hd (by decide) h dX9_isUnder_41
        · replace h := h.2 c_2
          refine lv_iconst (v := 1) hx hb dX9_isUnder_36 (by decide) ?_
          refine lv_goto (tgt := 41) hx hb dX9_isUnder_37 (by decide) ?_
          exact ret hd (by decide) h dX9_isUnder_41
      · replace h := h.2 c_1
        refine lv_iload_n hx hb dX9_isUnder_10 rfl (lv_at hl 1 rfl) ?_
        refine lv_if_lt (tgt := 31) hx hb dX9_isUnder_11 (by decide) (fun c_3 => ?_) (fun c_3 => ?_)
        · replace h := h.1 c_3
          refine lv_iload_n hx hb dX9_isUnder_31 rfl (lv_at hl 1 rfl) ?_
          refine lv_iload_n hx hb dX9_isUnder_32 rfl (lv_at hl 0 rfl) ?_
          refine lv_icmp_ne (tgt := 40) hx hb dX9_isUnder_33 (by decide) (fun c_4 => ?_) (fun c_4 => ?_)
          · replace h := h.1 c_4
            refine lv_iconst (v := 0) hx hb dX9_isUnder_40 (by decide) ?_
            exact ret hd (by decide) h dX9_isUnder_41
          · replace h := h.2 c_4
            refine lv_iconst (v := 1) hx hb dX9_isUnder_36 (by decide) ?_
            refine lv_goto (tgt := 41) hx hb dX9_isUnder_37 (by decide) ?_
            exact ret hd (by decide) h dX9_isUnder_41
        · replace h := h.2 c_3
          refine lv_iload_n hx hb dX9_isUnder_14 rfl (lv_at hl 1 rfl) ?_
          refine lv_iload_n hx hb dX9_isUnder_15 rfl (lv_at hl 0 rfl) ?_
          refine lv_icmp_eq (tgt := 31) hx hb dX9_isUnder_16 (by decide) (fun c_5 => ?_) (fun c_5 => ?_)
          · replace h := h.1 c_5
            refine lv_iload_n hx hb dX9_isUnder_31 rfl (lv_at hl 1 rfl) ?_
            refine lv_iload_n hx hb dX9_isUnder_32 rfl (lv_at hl 0 rfl) ?_
            refine lv_icmp_ne (tgt := 40) hx hb dX9_isUnder_33 (by decide) (fun c_6 => ?_) (fun c_6 => ?_)
            · replace h := h.1 c_6
              refine lv_iconst (v := 0) hx hb dX9_isUnder_40 (by decide) ?_
              exact ret hd (by decide) h dX9_isUnder_41
            · replace h := h.2 c_6
              refine lv_iconst (v := 1) hx hb dX9_isUnder_36 (by decide) ?_
              refine lv_goto (tgt := 41) hx hb dX9_isUnder_37 (by decide) ?_
              exact ret hd (by decide) h dX9_isUnder_41
          · replace h := h.2 c_5
            refine va_gets hx hb C.2.2.2.2.2.2.2.2.2.2.2.2.2.2.1 hd.2.2 C.2.2.2.1 (C.2.2.2.2.1 _ q_879) (fun _ h9 => h9) dX9_isUnder_19 ?_
            refine lv_iload_n hx hb dX9_isUnder_22 rfl (lv_at hl 1 rfl) ?_
            refine va_ti hx hb C.2.2.2.2.2.2.2.2.2.2.2.2.2.2.2.1 hd.2.2 h.1 (v := .int (undS x2.toNatClampNeg)) rfl dX9_isUnder_23 ?_
            replace h := h.2
            refine lv_istore_n (lv' := [(2, .int (undS x2.toNatClampNeg)), (1, .int x1), (3, .int x3)]) hx hb dX9_isUnder_24 rfl hl (by decide) rfl (fun ls hl => ?_)
            refine lv_iinc (v := (x3 + (1 : Int32))) (lv' := [(3, .int (x3 + (1 : Int32))), (2, .int (undS x2.toNatClampNeg)), (1, .int x1)]) hx hb dX9_isUnder_25 hl (k := 2) rfl rfl (by decide) rfl (fun ls hl => ?_)
            refine lv_goto (tgt := 4) hx hb dX9_isUnder_28 (by decide) ?_
            exact ih x1 (undS x2.toNatClampNeg) (x3 + (1 : Int32))  _ _ _ _ h hd (lv_sub hl [2, 1, 0] rfl)
  cases n with
  | zero => exact h.elim
  | succ n =>
    replace h : wC_isUnder n 1 0 x1 x0 (0 : Int32) k Qp := h
    refine lv_iload_n hx hb dX9_isUnder_0 rfl (lv_at hl 0 rfl) ?_
    refine lv_istore_n (lv' := [(2, .int x0), (0, .int x0), (1, .int x1)]) hx hb dX9_isUnder_1 rfl hl (by decide) rfl (fun ls hl => ?_)
    refine lv_iconst (v := 0) hx hb dX9_isUnder_2 (by decide) ?_
    refine lv_istore_n (lv' := [(3, .int (0 : Int32)), (2, .int x0), (0, .int x0), (1, .int x1)]) hx hb dX9_isUnder_3 rfl hl (by decide) rfl (fun ls hl => ?_)
    exact L n x1 x0 (0 : Int32)  _ _ _ _ h hd (lv_sub hl [3, 1, 0] rfl)
