/-! ===== World, made anew: eight rows, TEXT 0 ===== -/
theorem pm3 (ws L : va_W) (t c b : Nat × va_E) : (ws ++ (L ++ [t, c, b])).Perm ((ws ++ (L ++ [c, b])) ++ [t]) := by
  rw [List.append_assoc, List.append_assoc]
  exact List.Perm.append_left _ (List.Perm.append_left _ (List.perm_append_comm (l₁ := [t]) (l₂ := [c, b])))
theorem cwX8_X5 : CWi RX8 48 yX5_init cX5_init 3 2 := ⟨q_44, q_42, q_4, q_43, rfl, by decide +kernel⟩
def E8 (U : State) : Prop := va_AO RX5 U ∧ va_AO RX1 U
theorem E8_ev : Evw E8 := Evw.and Evw.ao Evw.ao
def tx0 : Nat → Int32 := upd (upd (upd (fun _ => 0) 0 100) 1 4) 2 (-2)
def bg0 : Nat → Int32 := upd (upd (upd (upd (fun _ => 0) 0 0) 1 1) 2 2) 3 3
def wr0 : Nat → Int32 := upd (upd (upd (upd (fun _ => 0) 0 0) 1 1000) 2 (-800)) 3 (-600)
def wI8 (g : Nat → ClassId) (ws : va_W) (o : Nat) (u : (Nat → Nat) × Nat × Nat × Nat) : va_W := ws ++ [(o, .inr (8, [.int 0, .int 1, .int 0, .ref (u.1 3), .ref (u.1 4), .ref (u.1 5), .ref (u.1 6), .ref (u.1 7), .ref (u.1 8), .ref (u.1 9), .ref (u.1 10)])), ((u.1 3), .inl (g 0, 8, .inl (fun _ => 0))), ((u.1 4), .inl (g 0, 4, .inl (wr0))), ((u.1 5), .inl (g 0, 24, .inl (go0))), ((u.1 6), .inl (g 0, 64, .inl (fun _ => 0))), ((u.1 7), .inl (g 4, 6, .inr (.inr (.inr (.inr (va_up (fun _ => none) 0 (some u.2.1))))))), ((u.1 8), .inl (g 2, 8, .inr (.inr (.inr (.inr (fun _ => none)))))), ((u.1 9), .inl (g 0, 6, .inl (fun _ => 0))), ((u.1 10), .inl (g 0, 160, .inl (fun _ => 0))), (u.2.1, .inr (5, [.ref u.2.2.1, .ref u.2.2.2])), (u.2.2.1, .inl (g 0, 3, .inl (tx0))), (u.2.2.2, .inl (g 0, 4, .inl (bg0)))]
set_option maxHeartbeats 4000000 in
set_option maxRecDepth 100000 in
theorem c_X8_init {l : Launch} {P : EP} {D : va_G} {g : Nat → ClassId} {ws : va_W} {o : Nat} : Cn l P D (tyA g) E8 (ws ++ [(o, .inr (8, [.int 0, .int 0, .int 0, .null, .null, .null, .null, .null, .null, .null, .null]))]) (wI8 g ws o) yX8_init cX8_init 1 { frames := 6, cells := 11, slots := 289, locals := 200 } [.ref o] (fun _ => True) 11 289 := by
  intro sz
  refine Met.ofW (cc := cX8_init) (maxL := 1) (ret := none) (by decide) rfl ?_
  intro p e s m args below meth c s₁ B hml hv
  obtain ⟨rfl, ⟨hsz, hP, hK, hD0, hEC⟩, hE5, hE1⟩ := hv
  subst hsz
  have hD := hD0.self (sz := s.heap.size)
  have hA : ∀ z : Nat, s.heap.size ≤ z → va_A (ws ++ [(o, .inr (8, [.int 0, .int 0, .int 0, .null, .null, .null, .null, .null, .null, .null, .null]))]) s.heap.size z := fun z h => Or.inr h
  generalize va_A (ws ++ [(o, .inr (8, [.int 0, .int 0, .int 0, .null, .null, .null, .null, .null, .null, .null, .null]))]) s.heap.size = A at hD hA hEC ⊢
  have C := CxE_of B hml hK hA hEC
  have hx := C.1
  have hb := C.2.1
  have hown := C.2.2.2.1
  have hts := C.2.2.2.2.1
  have hin : meth.name = "<init>" := (name_of_methodNamed B.named B.method).1
  have hS : va_S A s.heap s.heap [] := va_S.rf
  have hl := lv_entry ([.ref o]) (n := 1) (Nat.le_of_ble_eq_true rfl)
  rw [lg_entry_eq]
  generalize (lg_sl ([.ref o]) ++ List.replicate (1 - (lg_sl ([.ref o])).length) Slot.unset).toArray = ls at hl ⊢
  have hl : lv_has ls 1 [(0, .ref o)] := hl
  have hd : Hd D (ws ++ [(o, .inr (8, [.int 0, .int 0, .int 0, .null, .null, .null, .null, .null, .null, .null, .null]))]) A s s.heap [] := ⟨hP, hD, hS⟩
  clear hP hD hS
  refine lv_aload_n hx hb dX8_init_0 rfl (lv_at hl 0 rfl) ?_
  refine W.objInit hx hb hown (hts (.methodLink RX8 3 objectInit) q_33) (hts (.instanceMethod objectInit) q_26) (hts (.code objectInit ⟨#[0xb1]⟩ 1 none) q_27) rfl (by rw [hml]; exact hl.1) rfl dX8_init_1 (by show _ ≤ 6; omega) (by show _ ≤ 200; exact Nat.le_of_ble_eq_true rfl) ?_
  refine W.eq (g2 := F0 m 4 ls []) rfl ?_
  refine lv_aload_n hx hb dX8_init_4 rfl (lv_at hl 0 rfl) ?_
  refine lv_bipush (v := 8) hx hb dX8_init_5 (by decide) ?_
  refine va_newa (atype := .int) (ty := .int) (N' := 8) (a0 := (8, .inl (fun _ => 0))) hx hb (hts _ q_53) rfl hK hd.1 hd.2.1 hd.2.2 hA (fun _ => rfl) (by decide) (by decide) (by decide) (by show 0 + 1 ≤ 11; omega) (by show 0 + 8 ≤ 289; omega) dX8_init_7 (fun q7 cA H hK1 hP hD hS => ?_)
  have hc := K_same hK1
  subst hc
  rw [List.append_assoc] at hP hD
  have hd : Hd D (ws ++ [(o, .inr (8, [.int 0, .int 0, .int 0, .null, .null, .null, .null, .null, .null, .null, .null])), (q7, .inl (g 0, 8, .inl (fun _ => 0)))]) A s _ _ := ⟨hP, hD, hS⟩
  clear hP hD hS hK1
  refine W.widen (k := 1) (n := 8) (by omega) (by omega) ?_
  refine va_putF (D := D) (ci := 8) (v := .ref q7) (ty := .array .int) (C := RX8) (T := TX8) (N := 11) hx hb hts twX8 tyX8 tyX8_ok nmX8 hown hK hd.1 hd.2.1 hd.2.2 ws.length (at_end ws _ _) rfl 3 (Nat.le_of_ble_eq_true rfl) (hts _ q_61) (fun _ h9 => h9) rfl hin rfl (by decide +kernel) rfl rfl (Nat.le_of_ble_eq_true rfl) dX8_init_9 (fun H locs hP hD hS => ?_)
  rw [set_end] at hP hD
  have hd : Hd D (ws ++ [(o, .inr (8, [.int 0, .int 0, .int 0, .ref q7, .null, .null, .null, .null, .null, .null, .null])), (q7, .inl (g 0, 8, .inl (fun _ => 0)))]) A s _ _ := ⟨hP, hD, hS⟩
  clear hP hD hS
  refine lv_aload_n hx hb dX8_init_12 rfl (lv_at hl 0 rfl) ?_
  refine lv_iconst (v := 4) hx hb dX8_init_13 (by decide) ?_
  refine va_newa (atype := .int) (ty := .int) (N' := 4) (a0 := (4, .inl (fun _ => 0))) hx hb (hts _ q_53) rfl hK hd.1 hd.2.1 hd.2.2 hA (fun _ => rfl) (by decide) (by decide) (by decide) (by show 1 + 1 ≤ 11; omega) (by show 8 + 4 ≤ 289; omega) dX8_init_14 (fun q14 cA H hK1 hP hD hS => ?_)
  have hc := K_same hK1
  subst hc
  rw [List.append_assoc] at hP hD
  have hd : Hd D (ws ++ [(o, .inr (8, [.int 0, .int 0, .int 0, .ref q7, .null, .null, .null, .null, .null, .null, .null])), (q7, .inl (g 0, 8, .inl (fun _ => 0))), (q14, .inl (g 0, 4, .inl (fun _ => 0)))]) A s _ _ := ⟨hP, hD, hS⟩
  clear hP hD hS hK1
  refine W.widen (k := 2) (n := 12) (by omega) (by omega) ?_
  refine lv_dup hx hb dX8_init_16 rfl ?_
  refine lv_iconst (v := 0) hx hb dX8_init_17 (by decide) ?_
  refine lv_iconst (v := 0) hx hb dX8_init_18 (by decide) ?_
  refine va_iast hx hb hK hd.1 hd.2.1 hd.2.2 (ws.length + 2) 0 (at_pl ws _ 2 rfl) rfl (by unfold vp_in; decide) dX8_init_19 (fun H locs hP hD hS => ?_)
  rw [set_pl, kk0] at hP hD
  have hd : Hd D (ws ++ [(o, .inr (8, [.int 0, .int 0, .int 0, .ref q7, .null, .null, .null, .null, .null, .null, .null])), (q7, .inl (g 0, 8, .inl (fun _ => 0))), (q14, .inl (g 0, 4, .inl (upd (fun _ => 0) 0 0)))]) A s _ _ := ⟨hP, hD, hS⟩
  clear hP hD hS
  refine lv_dup hx hb dX8_init_20 rfl ?_
  refine lv_iconst (v := 1) hx hb dX8_init_21 (by decide) ?_
  refine lv_sipush (v := 1000) hx hb dX8_init_22 (by decide) ?_
  refine va_iast hx hb hK hd.1 hd.2.1 hd.2.2 (ws.length + 2) 0 (at_pl ws _ 2 rfl) rfl (by unfold vp_in; decide) dX8_init_25 (fun H locs hP hD hS => ?_)
  rw [set_pl, kk1] at hP hD
  have hd : Hd D (ws ++ [(o, .inr (8, [.int 0, .int 0, .int 0, .ref q7, .null, .null, .null, .null, .null, .null, .null])), (q7, .inl (g 0, 8, .inl (fun _ => 0))), (q14, .inl (g 0, 4, .inl (upd (upd (fun _ => 0) 0 0) 1 1000)))]) A s _ _ := ⟨hP, hD, hS⟩
  clear hP hD hS
  refine lv_dup hx hb dX8_init_26 rfl ?_
  refine lv_iconst (v := 2) hx hb dX8_init_27 (by decide) ?_
  refine lv_sipush (v := -800) hx hb dX8_init_28 (by decide) ?_
  refine va_iast hx hb hK hd.1 hd.2.1 hd.2.2 (ws.length + 2) 0 (at_pl ws _ 2 rfl) rfl (by unfold vp_in; decide) dX8_init_31 (fun H locs hP hD hS => ?_)
  rw [set_pl, kk2] at hP hD
  have hd : Hd D (ws ++ [(o, .inr (8, [.int 0, .int 0, .int 0, .ref q7, .null, .null, .null, .null, .null, .null, .null])), (q7, .inl (g 0, 8, .inl (fun _ => 0))), (q14, .inl (g 0, 4, .inl (upd (upd (upd (fun _ => 0) 0 0) 1 1000) 2 (-800))))]) A s _ _ := ⟨hP, hD, hS⟩
  clear hP hD hS
  refine lv_dup hx hb dX8_init_32 rfl ?_
  refine lv_iconst (v := 3) hx hb dX8_init_33 (by decide) ?_
  refine lv_sipush (v := -600) hx hb dX8_init_34 (by decide) ?_
  refine va_iast hx hb hK hd.1 hd.2.1 hd.2.2 (ws.length + 2) 0 (at_pl ws _ 2 rfl) rfl (by unfold vp_in; decide) dX8_init_37 (fun H locs hP hD hS => ?_)
  rw [set_pl, kk3] at hP hD
  have hd : Hd D (ws ++ [(o, .inr (8, [.int 0, .int 0, .int 0, .ref q7, .null, .null, .null, .null, .null, .null, .null])), (q7, .inl (g 0, 8, .inl (fun _ => 0))), (q14, .inl (g 0, 4, .inl (upd (upd (upd (upd (fun _ => 0) 0 0) 1 1000) 2 (-800)) 3 (-600))))]) A s _ _ := ⟨hP, hD, hS⟩
  clear hP hD hS
  refine va_putF (D := D) (ci := 8) (v := .ref q14) (ty := .array .int) (C := RX8) (T := TX8) (N := 11) hx hb hts twX8 tyX8 tyX8_ok nmX8 hown hK hd.1 hd.2.1 hd.2.2 ws.length (at_end ws _ _) rfl 4 (Nat.le_of_ble_eq_true rfl) (hts _ q_64) (fun _ h9 => h9) rfl hin rfl (by decide +kernel) rfl rfl (Nat.le_of_ble_eq_true rfl) dX8_init_38 (fun H locs hP hD hS => ?_)
  rw [set_end] at hP hD
  have hd : Hd D (ws ++ [(o, .inr (8, [.int 0, .int 0, .int 0, .ref q7, .ref q14, .null, .null, .null, .null, .null, .null])), (q7, .inl (g 0, 8, .inl (fun _ => 0))), (q14, .inl (g 0, 4, .inl (upd (upd (upd (upd (fun _ => 0) 0 0) 1 1000) 2 (-800)) 3 (-600))))]) A s _ _ := ⟨hP, hD, hS⟩
  clear hP hD hS
  refine lv_aload_n hx hb dX8_init_41 rfl (lv_at hl 0 rfl) ?_
  refine lv_bipush (v := 24) hx hb dX8_init_42 (by decide) ?_
  refine va_newa (atype := .int) (ty := .int) (N' := 24) (a0 := (24, .inl (fun _ => 0))) hx hb (hts _ q_53) rfl hK hd.1 hd.2.1 hd.2.2 hA (fun _ => rfl) (by decide) (by decide) (by decide) (by show 2 + 1 ≤ 11; omega) (by show 12 + 24 ≤ 289; omega) dX8_init_44 (fun q44 cA H hK1 hP hD hS => ?_)
  have hc := K_same hK1
  subst hc
  rw [List.append_assoc] at hP hD
  have hd : Hd D (ws ++ [(o, .inr (8, [.int 0, .int 0, .int 0, .ref q7, .ref q14, .null, .null, .null, .null, .null, .null])), (q7, .inl (g 0, 8, .inl (fun _ => 0))), (q14, .inl (g 0, 4, .inl (upd (upd (upd (upd (fun _ => 0) 0 0) 1 1000) 2 (-800)) 3 (-600)))), (q44, .inl (g 0, 24, .inl (fun _ => 0)))]) A s _ _ := ⟨hP, hD, hS⟩
  clear hP hD hS hK1
  refine W.widen (k := 3) (n := 36) (by omega) (by omega) ?_
  refine va_putF (D := D) (ci := 8) (v := .ref q44) (ty := .array .int) (C := RX8) (T := TX8) (N := 11) hx hb hts twX8 tyX8 tyX8_ok nmX8 hown hK hd.1 hd.2.1 hd.2.2 ws.length (at_end ws _ _) rfl 5 (Nat.le_of_ble_eq_true rfl) (hts _ q_67) (fun _ h9 => h9) rfl hin rfl (by decide +kernel) rfl rfl (Nat.le_of_ble_eq_true rfl) dX8_init_46 (fun H locs hP hD hS => ?_)
  rw [set_end] at hP hD
  have hd : Hd D (ws ++ [(o, .inr (8, [.int 0, .int 0, .int 0, .ref q7, .ref q14, .ref q44, .null, .null, .null, .null, .null])), (q7, .inl (g 0, 8, .inl (fun _ => 0))), (q14, .inl (g 0, 4, .inl (upd (upd (upd (upd (fun _ => 0) 0 0) 1 1000) 2 (-800)) 3 (-600)))), (q44, .inl (g 0, 24, .inl (fun _ => 0)))]) A s _ _ := ⟨hP, hD, hS⟩
  clear hP hD hS
  refine lv_aload_n hx hb dX8_init_49 rfl (lv_at hl 0 rfl) ?_
  refine lv_bipush (v := 64) hx hb dX8_init_50 (by decide) ?_
  refine va_newa (atype := .int) (ty := .int) (N' := 64) (a0 := (64, .inl (fun _ => 0))) hx hb (hts _ q_53) rfl hK hd.1 hd.2.1 hd.2.2 hA (fun _ => rfl) (by decide) (by decide) (by decide) (by show 3 + 1 ≤ 11; omega) (by show 36 + 64 ≤ 289; omega) dX8_init_52 (fun q52 cA H hK1 hP hD hS => ?_)
  have hc := K_same hK1
  subst hc
  rw [List.append_assoc] at hP hD
  have hd : Hd D (ws ++ [(o, .inr (8, [.int 0, .int 0, .int 0, .ref q7, .ref q14, .ref q44, .null, .null, .null, .null, .null])), (q7, .inl (g 0, 8, .inl (fun _ => 0))), (q14, .inl (g 0, 4, .inl (upd (upd (upd (upd (fun _ => 0) 0 0) 1 1000) 2 (-800)) 3 (-600)))), (q44, .inl (g 0, 24, .inl (fun _ => 0))), (q52, .inl (g 0, 64, .inl (fun _ => 0)))]) A s _ _ := ⟨hP, hD, hS⟩
  clear hP hD hS hK1
  refine W.widen (k := 4) (n := 100) (by omega) (by omega) ?_
  refine va_putF (D := D) (ci := 8) (v := .ref q52) (ty := .array .int) (C := RX8) (T := TX8) (N := 11) hx hb hts twX8 tyX8 tyX8_ok nmX8 hown hK hd.1 hd.2.1 hd.2.2 ws.length (at_end ws _ _) rfl 6 (Nat.le_of_ble_eq_true rfl) (hts _ q_70) (fun _ h9 => h9) rfl hin rfl (by decide +kernel) rfl rfl (Nat.le_of_ble_eq_true rfl) dX8_init_54 (fun H locs hP hD hS => ?_)
  rw [set_end] at hP hD
  have hd : Hd D (ws ++ [(o, .inr (8, [.int 0, .int 0, .int 0, .ref q7, .ref q14, .ref q44, .ref q52, .null, .null, .null, .null])), (q7, .inl (g 0, 8, .inl (fun _ => 0))), (q14, .inl (g 0, 4, .inl (upd (upd (upd (upd (fun _ => 0) 0 0) 1 1000) 2 (-800)) 3 (-600)))), (q44, .inl (g 0, 24, .inl (fun _ => 0))), (q52, .inl (g 0, 64, .inl (fun _ => 0)))]) A s _ _ := ⟨hP, hD, hS⟩
  clear hP hD hS
  refine lv_aload_n hx hb dX8_init_57 rfl (lv_at hl 0 rfl) ?_
  refine lv_bipush (v := 6) hx hb dX8_init_58 (by decide) ?_
  refine va_newq (C := RX5) hx hb hown (hts _ q_34) hE5 hK hd.1 hd.2.1 hd.2.2 hA (N' := 6) (by decide) (by decide) (by decide) (by show 4 + 1 ≤ 11; omega) (by show 100 + 6 ≤ 289; omega) dX8_init_60 (fun q60 cA H hK1 hP hD hS => ?_)
  have hc := K_obj (i := 5) (j := 4) hK1 rfl rfl
  subst hc
  rw [List.append_assoc] at hP hD
  have hd : Hd D (ws ++ [(o, .inr (8, [.int 0, .int 0, .int 0, .ref q7, .ref q14, .ref q44, .ref q52, .null, .null, .null, .null])), (q7, .inl (g 0, 8, .inl (fun _ => 0))), (q14, .inl (g 0, 4, .inl (upd (upd (upd (upd (fun _ => 0) 0 0) 1 1000) 2 (-800)) 3 (-600)))), (q44, .inl (g 0, 24, .inl (fun _ => 0))), (q52, .inl (g 0, 64, .inl (fun _ => 0))), (q60, .inl (g 4, 6, .inr (.inr (.inr (.inr (fun _ => none))))))]) A s _ _ := ⟨hP, hD, hS⟩
  clear hP hD hS hK1
  refine W.widen (k := 5) (n := 106) (by omega) (by omega) ?_
  refine va_putF (D := D) (ci := 8) (v := .ref q60) (ty := .array (.object RX5)) (C := RX8) (T := TX8) (N := 11) hx hb hts twX8 tyX8 tyX8_ok nmX8 hown hK hd.1 hd.2.1 hd.2.2 ws.length (at_end ws _ _) rfl 7 (Nat.le_of_ble_eq_true rfl) (hts _ q_72) (fun _ h9 => h9) rfl hin rfl (by decide +kernel) rfl rfl (Nat.le_of_ble_eq_true rfl) dX8_init_63 (fun H locs hP hD hS => ?_)
  rw [set_end] at hP hD
  have hd : Hd D (ws ++ [(o, .inr (8, [.int 0, .int 0, .int 0, .ref q7, .ref q14, .ref q44, .ref q52, .ref q60, .null, .null, .null])), (q7, .inl (g 0, 8, .inl (fun _ => 0))), (q14, .inl (g 0, 4, .inl (upd (upd (upd (upd (fun _ => 0) 0 0) 1 1000) 2 (-800)) 3 (-600)))), (q44, .inl (g 0, 24, .inl (fun _ => 0))), (q52, .inl (g 0, 64, .inl (fun _ => 0))), (q60, .inl (g 4, 6, .inr (.inr (.inr (.inr (fun _ => none))))))]) A s _ _ := ⟨hP, hD, hS⟩
  clear hP hD hS
  refine lv_aload_n hx hb dX8_init_66 rfl (lv_at hl 0 rfl) ?_
  refine lv_bipush (v := 8) hx hb dX8_init_67 (by decide) ?_
  refine va_newq (C := RX1) hx hb hown (hts _ q_36) hE1 hK hd.1 hd.2.1 hd.2.2 hA (N' := 8) (by decide) (by decide) (by decide) (by show 5 + 1 ≤ 11; omega) (by show 106 + 8 ≤ 289; omega) dX8_init_69 (fun q69 cA H hK1 hP hD hS => ?_)
  have hc := K_obj (i := 5) (j := 2) hK1 rfl rfl
  subst hc
  rw [List.append_assoc] at hP hD
  have hd : Hd D (ws ++ [(o, .inr (8, [.int 0, .int 0, .int 0, .ref q7, .ref q14, .ref q44, .ref q52, .ref q60, .null, .null, .null])), (q7, .inl (g 0, 8, .inl (fun _ => 0))), (q14, .inl (g 0, 4, .inl (upd (upd (upd (upd (fun _ => 0) 0 0) 1 1000) 2 (-800)) 3 (-600)))), (q44, .inl (g 0, 24, .inl (fun _ => 0))), (q52, .inl (g 0, 64, .inl (fun _ => 0))), (q60, .inl (g 4, 6, .inr (.inr (.inr (.inr (fun _ => none)))))), (q69, .inl (g 2, 8, .inr (.inr (.inr (.inr (fun _ => none))))))]) A s _ _ := ⟨hP, hD, hS⟩
  clear hP hD hS hK1
  refine W.widen (k := 6) (n := 114) (by omega) (by omega) ?_
  refine va_putF (D := D) (ci := 8) (v := .ref q69) (ty := .array (.object RX1)) (C := RX8) (T := TX8) (N := 11) hx hb hts twX8 tyX8 tyX8_ok nmX8 hown hK hd.1 hd.2.1 hd.2.2 ws.length (at_end ws _ _) rfl 8 (Nat.le_of_ble_eq_true rfl) (hts _ q_75) (fun _ h9 => h9) rfl hin rfl (by decide +kernel) rfl rfl (Nat.le_of_ble_eq_true rfl) dX8_init_72 (fun H locs hP hD hS => ?_)
  rw [set_end] at hP hD
  have hd : Hd D (ws ++ [(o, .inr (8, [.int 0, .int 0, .int 0, .ref q7, .ref q14, .ref q44, .ref q52, .ref q60, .ref q69, .null, .null])), (q7, .inl (g 0, 8, .inl (fun _ => 0))), (q14, .inl (g 0, 4, .inl (upd (upd (upd (upd (fun _ => 0) 0 0) 1 1000) 2 (-800)) 3 (-600)))), (q44, .inl (g 0, 24, .inl (fun _ => 0))), (q52, .inl (g 0, 64, .inl (fun _ => 0))), (q60, .inl (g 4, 6, .inr (.inr (.inr (.inr (fun _ => none)))))), (q69, .inl (g 2, 8, .inr (.inr (.inr (.inr (fun _ => none))))))]) A s _ _ := ⟨hP, hD, hS⟩
  clear hP hD hS
  refine lv_aload_n hx hb dX8_init_75 rfl (lv_at hl 0 rfl) ?_
  refine lv_bipush (v := 6) hx hb dX8_init_76 (by decide) ?_
  refine va_newa (atype := .int) (ty := .int) (N' := 6) (a0 := (6, .inl (fun _ => 0))) hx hb (hts _ q_53) rfl hK hd.1 hd.2.1 hd.2.2 hA (fun _ => rfl) (by decide) (by decide) (by decide) (by show 6 + 1 ≤ 11; omega) (by show 114 + 6 ≤ 289; omega) dX8_init_78 (fun q78 cA H hK1 hP hD hS => ?_)
  have hc := K_same hK1
  subst hc
  rw [List.append_assoc] at hP hD
  have hd : Hd D (ws ++ [(o, .inr (8, [.int 0, .int 0, .int 0, .ref q7, .ref q14, .ref q44, .ref q52, .ref q60, .ref q69, .null, .null])), (q7, .inl (g 0, 8, .inl (fun _ => 0))), (q14, .inl (g 0, 4, .inl (upd (upd (upd (upd (fun _ => 0) 0 0) 1 1000) 2 (-800)) 3 (-600)))), (q44, .inl (g 0, 24, .inl (fun _ => 0))), (q52, .inl (g 0, 64, .inl (fun _ => 0))), (q60, .inl (g 4, 6, .inr (.inr (.inr (.inr (fun _ => none)))))), (q69, .inl (g 2, 8, .inr (.inr (.inr (.inr (fun _ => none)))))), (q78, .inl (g 0, 6, .inl (fun _ => 0)))]) A s _ _ := ⟨hP, hD, hS⟩
  clear hP hD hS hK1
  refine W.widen (k := 7) (n := 120) (by omega) (by omega) ?_
  refine va_putF (D := D) (ci := 8) (v := .ref q78) (ty := .array .int) (C := RX8) (T := TX8) (N := 11) hx hb hts twX8 tyX8 tyX8_ok nmX8 hown hK hd.1 hd.2.1 hd.2.2 ws.length (at_end ws _ _) rfl 9 (Nat.le_of_ble_eq_true rfl) (hts _ q_77) (fun _ h9 => h9) rfl hin rfl (by decide +kernel) rfl rfl (Nat.le_of_ble_eq_true rfl) dX8_init_80 (fun H locs hP hD hS => ?_)
  rw [set_end] at hP hD
  have hd : Hd D (ws ++ [(o, .inr (8, [.int 0, .int 0, .int 0, .ref q7, .ref q14, .ref q44, .ref q52, .ref q60, .ref q69, .ref q78, .null])), (q7, .inl (g 0, 8, .inl (fun _ => 0))), (q14, .inl (g 0, 4, .inl (upd (upd (upd (upd (fun _ => 0) 0 0) 1 1000) 2 (-800)) 3 (-600)))), (q44, .inl (g 0, 24, .inl (fun _ => 0))), (q52, .inl (g 0, 64, .inl (fun _ => 0))), (q60, .inl (g 4, 6, .inr (.inr (.inr (.inr (fun _ => none)))))), (q69, .inl (g 2, 8, .inr (.inr (.inr (.inr (fun _ => none)))))), (q78, .inl (g 0, 6, .inl (fun _ => 0)))]) A s _ _ := ⟨hP, hD, hS⟩
  clear hP hD hS
  refine lv_aload_n hx hb dX8_init_83 rfl (lv_at hl 0 rfl) ?_
  refine lv_sipush (v := 160) hx hb dX8_init_84 (by decide) ?_
  refine va_newa (atype := .int) (ty := .int) (N' := 160) (a0 := (160, .inl (fun _ => 0))) hx hb (hts _ q_53) rfl hK hd.1 hd.2.1 hd.2.2 hA (fun _ => rfl) (by decide) (by decide) (by decide) (by show 7 + 1 ≤ 11; omega) (by show 120 + 160 ≤ 289; omega) dX8_init_87 (fun q87 cA H hK1 hP hD hS => ?_)
  have hc := K_same hK1
  subst hc
  rw [List.append_assoc] at hP hD
  have hd : Hd D (ws ++ [(o, .inr (8, [.int 0, .int 0, .int 0, .ref q7, .ref q14, .ref q44, .ref q52, .ref q60, .ref q69, .ref q78, .null])), (q7, .inl (g 0, 8, .inl (fun _ => 0))), (q14, .inl (g 0, 4, .inl (upd (upd (upd (upd (fun _ => 0) 0 0) 1 1000) 2 (-800)) 3 (-600)))), (q44, .inl (g 0, 24, .inl (fun _ => 0))), (q52, .inl (g 0, 64, .inl (fun _ => 0))), (q60, .inl (g 4, 6, .inr (.inr (.inr (.inr (fun _ => none)))))), (q69, .inl (g 2, 8, .inr (.inr (.inr (.inr (fun _ => none)))))), (q78, .inl (g 0, 6, .inl (fun _ => 0))), (q87, .inl (g 0, 160, .inl (fun _ => 0)))]) A s _ _ := ⟨hP, hD, hS⟩
  clear hP hD hS hK1
  refine W.widen (k := 8) (n := 280) (by omega) (by omega) ?_
  refine va_putF (D := D) (ci := 8) (v := .ref q87) (ty := .array .int) (C := RX8) (T := TX8) (N := 11) hx hb hts twX8 tyX8 tyX8_ok nmX8 hown hK hd.1 hd.2.1 hd.2.2 ws.length (at_end ws _ _) rfl 10 (Nat.le_of_ble_eq_true rfl) (hts _ q_79) (fun _ h9 => h9) rfl hin rfl (by decide +kernel) rfl rfl (Nat.le_of_ble_eq_true rfl) dX8_init_89 (fun H locs hP hD hS => ?_)
  rw [set_end] at hP hD
  have hd : Hd D (ws ++ [(o, .inr (8, [.int 0, .int 0, .int 0, .ref q7, .ref q14, .ref q44, .ref q52, .ref q60, .ref q69, .ref q78, .ref q87])), (q7, .inl (g 0, 8, .inl (fun _ => 0))), (q14, .inl (g 0, 4, .inl (upd (upd (upd (upd (fun _ => 0) 0 0) 1 1000) 2 (-800)) 3 (-600)))), (q44, .inl (g 0, 24, .inl (fun _ => 0))), (q52, .inl (g 0, 64, .inl (fun _ => 0))), (q60, .inl (g 4, 6, .inr (.inr (.inr (.inr (fun _ => none)))))), (q69, .inl (g 2, 8, .inr (.inr (.inr (.inr (fun _ => none)))))), (q78, .inl (g 0, 6, .inl (fun _ => 0))), (q87, .inl (g 0, 160, .inl (fun _ => 0)))]) A s _ _ := ⟨hP, hD, hS⟩
  clear hP hD hS
  refine lv_aload_n hx hb dX8_init_92 rfl (lv_at hl 0 rfl) ?_
  refine va_get (D := D) (ci := 8) (v := .ref q44) (C := RX8) (T := TX8) (N := 11) hx hb hts twX8 hown hK hd.1 ws.length (at_end ws _ _) rfl 5 (Nat.le_of_ble_eq_true rfl) (hts _ q_67) (fun _ h9 => h9) rfl dX8_init_93 ?_
  refine lv_bipush (v := 100) hx hb dX8_init_96 (by decide) ?_
  refine flO C hd (at_pl ws _ 3 rfl) (by decide) q_38 hl.1 ⟨by decide, by decide⟩ (Nat.le_of_ble_eq_true rfl) ⟨by decide, by decide⟩ dX8_init_98 (fun H locs hd => ?_)
  rw [set_pl] at hd
  replace hd : Hd D (ws ++ [(o, .inr (8, [.int 0, .int 0, .int 0, .ref q7, .ref q14, .ref q44, .ref q52, .ref q60, .ref q69, .ref q78, .ref q87])), (q7, .inl (g 0, 8, .inl (fun _ => 0))), (q14, .inl (g 0, 4, .inl (upd (upd (upd (upd (fun _ => 0) 0 0) 1 1000) 2 (-800)) 3 (-600)))), (q44, .inl (g 0, 24, .inl (fun x => if x < 24 then 100 else (fun _ => 0) x))), (q52, .inl (g 0, 64, .inl (fun _ => 0))), (q60, .inl (g 4, 6, .inr (.inr (.inr (.inr (fun _ => none)))))), (q69, .inl (g 2, 8, .inr (.inr (.inr (.inr (fun _ => none)))))), (q78, .inl (g 0, 6, .inl (fun _ => 0))), (q87, .inl (g 0, 160, .inl (fun _ => 0)))]) A s _ _ := hd
  replace hd : Hd D (ws ++ [(o, .inr (8, [.int 0, .int 0, .int 0, .ref q7, .ref q14, .ref q44, .ref q52, .ref q60, .ref q69, .ref q78, .ref q87])), (q7, .inl (g 0, 8, .inl (fun _ => 0))), (q14, .inl (g 0, 4, .inl (upd (upd (upd (upd (fun _ => 0) 0 0) 1 1000) 2 (-800)) 3 (-600)))), (q44, .inl (g 0, 24, .inl (go0))), (q52, .inl (g 0, 64, .inl (fun _ => 0))), (q60, .inl (g 4, 6, .inr (.inr (.inr (.inr (fun _ => none)))))), (q69, .inl (g 2, 8, .inr (.inr (.inr (.inr (fun _ => none)))))), (q78, .inl (g 0, 6, .inl (fun _ => 0))), (q87, .inl (g 0, 160, .inl (fun _ => 0)))]) A s _ _ := hd
  refine lv_aload_n hx hb dX8_init_101 rfl (lv_at hl 0 rfl) ?_
  refine va_get (D := D) (ci := 8) (v := .ref q60) (C := RX8) (T := TX8) (N := 11) hx hb hts twX8 hown hK hd.1 ws.length (at_end ws _ _) rfl 7 (Nat.le_of_ble_eq_true rfl) (hts _ q_72) (fun _ h9 => h9) rfl dX8_init_102 ?_
  refine lv_iconst (v := 0) hx hb dX8_init_105 (by decide) ?_
  refine va_new (ci := 5) (fs := [.null, .null]) (C := RX5) (T := TX5) (N := 2) hx hb hts twX5 tyX5 tyX5_ok hown (hts _ q_34) (hts _ q_41) (hts _ q_4) hK hd.1 hd.2.1 hd.2.2 hA rfl (fun j hj => by rcases (show j = 0 ∨ j = 1 by omega) with rfl | rfl <;> rfl) (by show 8 + 1 ≤ 11; omega) (by show 280 + 2 ≤ 289; omega) dX8_init_106 (fun q106 H hP hD hS => ?_)
  rw [List.append_assoc] at hP hD
  have hd : Hd D (ws ++ [(o, .inr (8, [.int 0, .int 0, .int 0, .ref q7, .ref q14, .ref q44, .ref q52, .ref q60, .ref q69, .ref q78, .ref q87])), (q7, .inl (g 0, 8, .inl (fun _ => 0))), (q14, .inl (g 0, 4, .inl (upd (upd (upd (upd (fun _ => 0) 0 0) 1 1000) 2 (-800)) 3 (-600)))), (q44, .inl (g 0, 24, .inl (go0))), (q52, .inl (g 0, 64, .inl (fun _ => 0))), (q60, .inl (g 4, 6, .inr (.inr (.inr (.inr (fun _ => none)))))), (q69, .inl (g 2, 8, .inr (.inr (.inr (.inr (fun _ => none)))))), (q78, .inl (g 0, 6, .inl (fun _ => 0))), (q87, .inl (g 0, 160, .inl (fun _ => 0))), (q106, .inr (5, [.null, .null]))]) A s _ _ := ⟨hP, hD, hS⟩
  clear hP hD hS
  refine W.widen (k := 9) (n := 282) (by omega) (by omega) ?_
  refine lv_dup hx hb dX8_init_109 rfl ?_
  refine lv_iconst (v := 3) hx hb dX8_init_110 (by decide) ?_
  refine va_newa (atype := .int) (ty := .int) (N' := 3) (a0 := (3, .inl (fun _ => 0))) hx hb (hts _ q_53) rfl hK hd.1 hd.2.1 hd.2.2 hA (fun _ => rfl) (by decide) (by decide) (by decide) (by show 9 + 1 ≤ 11; omega) (by show 282 + 3 ≤ 289; omega) dX8_init_111 (fun q111 cA H hK1 hP hD hS => ?_)
  have hc := K_same hK1
  subst hc
  rw [List.append_assoc] at hP hD
  have hd : Hd D (ws ++ [(o, .inr (8, [.int 0, .int 0, .int 0, .ref q7, .ref q14, .ref q44, .ref q52, .ref q60, .ref q69, .ref q78, .ref q87])), (q7, .inl (g 0, 8, .inl (fun _ => 0))), (q14, .inl (g 0, 4, .inl (upd (upd (upd (upd (fun _ => 0) 0 0) 1 1000) 2 (-800)) 3 (-600)))), (q44, .inl (g 0, 24, .inl (go0))), (q52, .inl (g 0, 64, .inl (fun _ => 0))), (q60, .inl (g 4, 6, .inr (.inr (.inr (.inr (fun _ => none)))))), (q69, .inl (g 2, 8, .inr (.inr (.inr (.inr (fun _ => none)))))), (q78, .inl (g 0, 6, .inl (fun _ => 0))), (q87, .inl (g 0, 160, .inl (fun _ => 0))), (q106, .inr (5, [.null, .null])), (q111, .inl (g 0, 3, .inl (fun _ => 0)))]) A s _ _ := ⟨hP, hD, hS⟩
  clear hP hD hS hK1
  refine W.widen (k := 10) (n := 285) (by omega) (by omega) ?_
  refine lv_dup hx hb dX8_init_113 rfl ?_
  refine lv_iconst (v := 0) hx hb dX8_init_114 (by decide) ?_
  refine lv_bipush (v := 100) hx hb dX8_init_115 (by decide) ?_
  refine va_iast hx hb hK hd.1 hd.2.1 hd.2.2 (ws.length + 10) 0 (at_pl ws _ 10 rfl) rfl (by unfold vp_in; decide) dX8_init_117 (fun H locs hP hD hS => ?_)
  rw [set_pl, kk0] at hP hD
  have hd : Hd D (ws ++ [(o, .inr (8, [.int 0, .int 0, .int 0, .ref q7, .ref q14, .ref q44, .ref q52, .ref q60, .ref q69, .ref q78, .ref q87])), (q7, .inl (g 0, 8, .inl (fun _ => 0))), (q14, .inl (g 0, 4, .inl (upd (upd (upd (upd (fun _ => 0) 0 0) 1 1000) 2 (-800)) 3 (-600)))), (q44, .inl (g 0, 24, .inl (go0))), (q52, .inl (g 0, 64, .inl (fun _ => 0))), (q60, .inl (g 4, 6, .inr (.inr (.inr (.inr (fun _ => none)))))), (q69, .inl (g 2, 8, .inr (.inr (.inr (.inr (fun _ => none)))))), (q78, .inl (g 0, 6, .inl (fun _ => 0))), (q87, .inl (g 0, 160, .inl (fun _ => 0))), (q106, .inr (5, [.null, .null])), (q111, .inl (g 0, 3, .inl (upd (fun _ => 0) 0 100)))]) A s _ _ := ⟨hP, hD, hS⟩
  clear hP hD hS
  refine lv_dup hx hb dX8_init_118 rfl ?_
  refine lv_iconst (v := 1) hx hb dX8_init_119 (by decide) ?_
  refine lv_iconst (v := 4) hx hb dX8_init_120 (by decide) ?_
  refine va_iast hx hb hK hd.1 hd.2.1 hd.2.2 (ws.length + 10) 0 (at_pl ws _ 10 rfl) rfl (by unfold vp_in; decide) dX8_init_121 (fun H locs hP hD hS => ?_)
  rw [set_pl, kk1] at hP hD
  have hd : Hd D (ws ++ [(o, .inr (8, [.int 0, .int 0, .int 0, .ref q7, .ref q14, .ref q44, .ref q52, .ref q60, .ref q69, .ref q78, .ref q87])), (q7, .inl (g 0, 8, .inl (fun _ => 0))), (q14, .inl (g 0, 4, .inl (upd (upd (upd (upd (fun _ => 0) 0 0) 1 1000) 2 (-800)) 3 (-600)))), (q44, .inl (g 0, 24, .inl (go0))), (q52, .inl (g 0, 64, .inl (fun _ => 0))), (q60, .inl (g 4, 6, .inr (.inr (.inr (.inr (fun _ => none)))))), (q69, .inl (g 2, 8, .inr (.inr (.inr (.inr (fun _ => none)))))), (q78, .inl (g 0, 6, .inl (fun _ => 0))), (q87, .inl (g 0, 160, .inl (fun _ => 0))), (q106, .inr (5, [.null, .null])), (q111, .inl (g 0, 3, .inl (upd (upd (fun _ => 0) 0 100) 1 4)))]) A s _ _ := ⟨hP, hD, hS⟩
  clear hP hD hS
  refine lv_dup hx hb dX8_init_122 rfl ?_
  refine lv_iconst (v := 2) hx hb dX8_init_123 (by decide) ?_
  refine lv_bipush (v := -2) hx hb dX8_init_124 (by decide) ?_
  refine va_iast hx hb hK hd.1 hd.2.1 hd.2.2 (ws.length + 10) 0 (at_pl ws _ 10 rfl) rfl (by unfold vp_in; decide) dX8_init_126 (fun H locs hP hD hS => ?_)
  rw [set_pl, kk2] at hP hD
  have hd : Hd D (ws ++ [(o, .inr (8, [.int 0, .int 0, .int 0, .ref q7, .ref q14, .ref q44, .ref q52, .ref q60, .ref q69, .ref q78, .ref q87])), (q7, .inl (g 0, 8, .inl (fun _ => 0))), (q14, .inl (g 0, 4, .inl (upd (upd (upd (upd (fun _ => 0) 0 0) 1 1000) 2 (-800)) 3 (-600)))), (q44, .inl (g 0, 24, .inl (go0))), (q52, .inl (g 0, 64, .inl (fun _ => 0))), (q60, .inl (g 4, 6, .inr (.inr (.inr (.inr (fun _ => none)))))), (q69, .inl (g 2, 8, .inr (.inr (.inr (.inr (fun _ => none)))))), (q78, .inl (g 0, 6, .inl (fun _ => 0))), (q87, .inl (g 0, 160, .inl (fun _ => 0))), (q106, .inr (5, [.null, .null])), (q111, .inl (g 0, 3, .inl (upd (upd (upd (fun _ => 0) 0 100) 1 4) 2 (-2))))]) A s _ _ := ⟨hP, hD, hS⟩
  clear hP hD hS
  refine lv_iconst (v := 4) hx hb dX8_init_127 (by decide) ?_
  refine va_newa (atype := .int) (ty := .int) (N' := 4) (a0 := (4, .inl (fun _ => 0))) hx hb (hts _ q_53) rfl hK hd.1 hd.2.1 hd.2.2 hA (fun _ => rfl) (by decide) (by decide) (by decide) (by show 10 + 1 ≤ 11; omega) (by show 285 + 4 ≤ 289; omega) dX8_init_128 (fun q128 cA H hK1 hP hD hS => ?_)
  have hc := K_same hK1
  subst hc
  rw [List.append_assoc] at hP hD
  have hd : Hd D (ws ++ [(o, .inr (8, [.int 0, .int 0, .int 0, .ref q7, .ref q14, .ref q44, .ref q52, .ref q60, .ref q69, .ref q78, .ref q87])), (q7, .inl (g 0, 8, .inl (fun _ => 0))), (q14, .inl (g 0, 4, .inl (upd (upd (upd (upd (fun _ => 0) 0 0) 1 1000) 2 (-800)) 3 (-600)))), (q44, .inl (g 0, 24, .inl (go0))), (q52, .inl (g 0, 64, .inl (fun _ => 0))), (q60, .inl (g 4, 6, .inr (.inr (.inr (.inr (fun _ => none)))))), (q69, .inl (g 2, 8, .inr (.inr (.inr (.inr (fun _ => none)))))), (q78, .inl (g 0, 6, .inl (fun _ => 0))), (q87, .inl (g 0, 160, .inl (fun _ => 0))), (q106, .inr (5, [.null, .null])), (q111, .inl (g 0, 3, .inl (upd (upd (upd (fun _ => 0) 0 100) 1 4) 2 (-2)))), (q128, .inl (g 0, 4, .inl (fun _ => 0)))]) A s _ _ := ⟨hP, hD, hS⟩
  clear hP hD hS hK1
  refine W.widen (k := 11) (n := 289) (by omega) (by omega) ?_
  refine lv_dup hx hb dX8_init_130 rfl ?_
  refine lv_iconst (v := 0) hx hb dX8_init_131 (by decide) ?_
  refine lv_iconst (v := 0) hx hb dX8_init_132 (by decide) ?_
  refine va_iast hx hb hK hd.1 hd.2.1 hd.2.2 (ws.length + 11) 0 (at_pl ws _ 11 rfl) rfl (by unfold vp_in; decide) dX8_init_133 (fun H locs hP hD hS => ?_)
  rw [set_pl, kk0] at hP hD
  have hd : Hd D (ws ++ [(o, .inr (8, [.int 0, .int 0, .int 0, .ref q7, .ref q14, .ref q44, .ref q52, .ref q60, .ref q69, .ref q78, .ref q87])), (q7, .inl (g 0, 8, .inl (fun _ => 0))), (q14, .inl (g 0, 4, .inl (upd (upd (upd (upd (fun _ => 0) 0 0) 1 1000) 2 (-800)) 3 (-600)))), (q44, .inl (g 0, 24, .inl (go0))), (q52, .inl (g 0, 64, .inl (fun _ => 0))), (q60, .inl (g 4, 6, .inr (.inr (.inr (.inr (fun _ => none)))))), (q69, .inl (g 2, 8, .inr (.inr (.inr (.inr (fun _ => none)))))), (q78, .inl (g 0, 6, .inl (fun _ => 0))), (q87, .inl (g 0, 160, .inl (fun _ => 0))), (q106, .inr (5, [.null, .null])), (q111, .inl (g 0, 3, .inl (upd (upd (upd (fun _ => 0) 0 100) 1 4) 2 (-2)))), (q128, .inl (g 0, 4, .inl (upd (fun _ => 0) 0 0)))]) A s _ _ := ⟨hP, hD, hS⟩
  clear hP hD hS
  refine lv_dup hx hb dX8_init_134 rfl ?_
  refine lv_iconst (v := 1) hx hb dX8_init_135 (by decide) ?_
  refine lv_iconst (v := 1) hx hb dX8_init_136 (by decide) ?_
  refine va_iast hx hb hK hd.1 hd.2.1 hd.2.2 (ws.length + 11) 0 (at_pl ws _ 11 rfl) rfl (by unfold vp_in; decide) dX8_init_137 (fun H locs hP hD hS => ?_)
  rw [set_pl, kk1] at hP hD
  have hd : Hd D (ws ++ [(o, .inr (8, [.int 0, .int 0, .int 0, .ref q7, .ref q14, .ref q44, .ref q52, .ref q60, .ref q69, .ref q78, .ref q87])), (q7, .inl (g 0, 8, .inl (fun _ => 0))), (q14, .inl (g 0, 4, .inl (upd (upd (upd (upd (fun _ => 0) 0 0) 1 1000) 2 (-800)) 3 (-600)))), (q44, .inl (g 0, 24, .inl (go0))), (q52, .inl (g 0, 64, .inl (fun _ => 0))), (q60, .inl (g 4, 6, .inr (.inr (.inr (.inr (fun _ => none)))))), (q69, .inl (g 2, 8, .inr (.inr (.inr (.inr (fun _ => none)))))), (q78, .inl (g 0, 6, .inl (fun _ => 0))), (q87, .inl (g 0, 160, .inl (fun _ => 0))), (q106, .inr (5, [.null, .null])), (q111, .inl (g 0, 3, .inl (upd (upd (upd (fun _ => 0) 0 100) 1 4) 2 (-2)))), (q128, .inl (g 0, 4, .inl (upd (upd (fun _ => 0) 0 0) 1 1)))]) A s _ _ := ⟨hP, hD, hS⟩
  clear hP hD hS
  refine lv_dup hx hb dX8_init_138 rfl ?_
  refine lv_iconst (v := 2) hx hb dX8_init_139 (by decide) ?_
  refine lv_iconst (v := 2) hx hb dX8_init_140 (by decide) ?_
  refine va_iast hx hb hK hd.1 hd.2.1 hd.2.2 (ws.length + 11) 0 (at_pl ws _ 11 rfl) rfl (by unfold vp_in; decide) dX8_init_141 (fun H locs hP hD hS => ?_)
  rw [set_pl, kk2] at hP hD
  have hd : Hd D (ws ++ [(o, .inr (8, [.int 0, .int 0, .int 0, .ref q7, .ref q14, .ref q44, .ref q52, .ref q60, .ref q69, .ref q78, .ref q87])), (q7, .inl (g 0, 8, .inl (fun _ => 0))), (q14, .inl (g 0, 4, .inl (upd (upd (upd (upd (fun _ => 0) 0 0) 1 1000) 2 (-800)) 3 (-600)))), (q44, .inl (g 0, 24, .inl (go0))), (q52, .inl (g 0, 64, .inl (fun _ => 0))), (q60, .inl (g 4, 6, .inr (.inr (.inr (.inr (fun _ => none)))))), (q69, .inl (g 2, 8, .inr (.inr (.inr (.inr (fun _ => none)))))), (q78, .inl (g 0, 6, .inl (fun _ => 0))), (q87, .inl (g 0, 160, .inl (fun _ => 0))), (q106, .inr (5, [.null, .null])), (q111, .inl (g 0, 3, .inl (upd (upd (upd (fun _ => 0) 0 100) 1 4) 2 (-2)))), (q128, .inl (g 0, 4, .inl (upd (upd (upd (fun _ => 0) 0 0) 1 1) 2 2)))]) A s _ _ := ⟨hP, hD, hS⟩
  clear hP hD hS
  refine lv_dup hx hb dX8_init_142 rfl ?_
  refine lv_iconst (v := 3) hx hb dX8_init_143 (by decide) ?_
  refine lv_iconst (v := 3) hx hb dX8_init_144 (by decide) ?_
  refine va_iast hx hb hK hd.1 hd.2.1 hd.2.2 (ws.length + 11) 0 (at_pl ws _ 11 rfl) rfl (by unfold vp_in; decide) dX8_init_145 (fun H locs hP hD hS => ?_)
  rw [set_pl, kk3] at hP hD
  have hd : Hd D (ws ++ [(o, .inr (8, [.int 0, .int 0, .int 0, .ref q7, .ref q14, .ref q44, .ref q52, .ref q60, .ref q69, .ref q78, .ref q87])), (q7, .inl (g 0, 8, .inl (fun _ => 0))), (q14, .inl (g 0, 4, .inl (upd (upd (upd (upd (fun _ => 0) 0 0) 1 1000) 2 (-800)) 3 (-600)))), (q44, .inl (g 0, 24, .inl (go0))), (q52, .inl (g 0, 64, .inl (fun _ => 0))), (q60, .inl (g 4, 6, .inr (.inr (.inr (.inr (fun _ => none)))))), (q69, .inl (g 2, 8, .inr (.inr (.inr (.inr (fun _ => none)))))), (q78, .inl (g 0, 6, .inl (fun _ => 0))), (q87, .inl (g 0, 160, .inl (fun _ => 0))), (q106, .inr (5, [.null, .null])), (q111, .inl (g 0, 3, .inl (upd (upd (upd (fun _ => 0) 0 100) 1 4) 2 (-2)))), (q128, .inl (g 0, 4, .inl (upd (upd (upd (upd (fun _ => 0) 0 0) 1 1) 2 2) 3 3)))]) A s _ _ := ⟨hP, hD, hS⟩
  clear hP hD hS
  have hd1 : Hd D ((ws ++ ([(o, .inr (8, [.int 0, .int 0, .int 0, .ref q7, .ref q14, .ref q44, .ref q52, .ref q60, .ref q69, .ref q78, .ref q87])), (q7, .inl (g 0, 8, .inl (fun _ => 0))), (q14, .inl (g 0, 4, .inl (upd (upd (upd (upd (fun _ => 0) 0 0) 1 1000) 2 (-800)) 3 (-600)))), (q44, .inl (g 0, 24, .inl (go0))), (q52, .inl (g 0, 64, .inl (fun _ => 0))), (q60, .inl (g 4, 6, .inr (.inr (.inr (.inr (fun _ => none)))))), (q69, .inl (g 2, 8, .inr (.inr (.inr (.inr (fun _ => none)))))), (q78, .inl (g 0, 6, .inl (fun _ => 0))), (q87, .inl (g 0, 160, .inl (fun _ => 0)))] ++ [(q111, .inl (g 0, 3, .inl (upd (upd (upd (fun _ => 0) 0 100) 1 4) 2 (-2)))), (q128, .inl (g 0, 4, .inl (upd (upd (upd (upd (fun _ => 0) 0 0) 1 1) 2 2) 3 3)))])) ++ [(q106, .inr (5, [.null, .null]))]) A s _ _ := hd.perm (pm3 ws [(o, .inr (8, [.int 0, .int 0, .int 0, .ref q7, .ref q14, .ref q44, .ref q52, .ref q60, .ref q69, .ref q78, .ref q87])), (q7, .inl (g 0, 8, .inl (fun _ => 0))), (q14, .inl (g 0, 4, .inl (upd (upd (upd (upd (fun _ => 0) 0 0) 1 1000) 2 (-800)) 3 (-600)))), (q44, .inl (g 0, 24, .inl (go0))), (q52, .inl (g 0, 64, .inl (fun _ => 0))), (q60, .inl (g 4, 6, .inr (.inr (.inr (.inr (fun _ => none)))))), (q69, .inl (g 2, 8, .inr (.inr (.inr (.inr (fun _ => none)))))), (q78, .inl (g 0, 6, .inl (fun _ => 0))), (q87, .inl (g 0, 160, .inl (fun _ => 0)))] _ _ _)
  refine ci_v C hd1 cwX8_X5 (Cn.of (c_X5_init (P := P) (D := D) (g := g) (x1 := q111) (x2 := q128))) Evw.tr trivial rfl rfl ⟨by decide, by decide⟩ hl.1 rfl rfl (Nat.le_of_ble_eq_true rfl) ⟨by show 11 + 0 ≤ 11; omega, by show 289 + 0 ≤ 289; omega⟩ dX8_init_146 (fun u H locs _ hd1 => ?_)
  have hd : Hd D (ws ++ [(o, .inr (8, [.int 0, .int 0, .int 0, .ref q7, .ref q14, .ref q44, .ref q52, .ref q60, .ref q69, .ref q78, .ref q87])), (q7, .inl (g 0, 8, .inl (fun _ => 0))), (q14, .inl (g 0, 4, .inl (upd (upd (upd (upd (fun _ => 0) 0 0) 1 1000) 2 (-800)) 3 (-600)))), (q44, .inl (g 0, 24, .inl (go0))), (q52, .inl (g 0, 64, .inl (fun _ => 0))), (q60, .inl (g 4, 6, .inr (.inr (.inr (.inr (fun _ => none)))))), (q69, .inl (g 2, 8, .inr (.inr (.inr (.inr (fun _ => none)))))), (q78, .inl (g 0, 6, .inl (fun _ => 0))), (q87, .inl (g 0, 160, .inl (fun _ => 0))), (q106, .inr (5, [.ref q111, .ref q128])), (q111, .inl (g 0, 3, .inl (upd (upd (upd (fun _ => 0) 0 100) 1 4) 2 (-2)))), (q128, .inl (g 0, 4, .inl (upd (upd (upd (upd (fun _ => 0) 0 0) 1 1) 2 2) 3 3)))]) A s _ _ := Hd.perm hd1 (pm3 ws [(o, .inr (8, [.int 0, .int 0, .int 0, .ref q7, .ref q14, .ref q44, .ref q52, .ref q60, .ref q69, .ref q78, .ref q87])), (q7, .inl (g 0, 8, .inl (fun _ => 0))), (q14, .inl (g 0, 4, .inl (upd (upd (upd (upd (fun _ => 0) 0 0) 1 1000) 2 (-800)) 3 (-600)))), (q44, .inl (g 0, 24, .inl (go0))), (q52, .inl (g 0, 64, .inl (fun _ => 0))), (q60, .inl (g 4, 6, .inr (.inr (.inr (.inr (fun _ => none)))))), (q69, .inl (g 2, 8, .inr (.inr (.inr (.inr (fun _ => none)))))), (q78, .inl (g 0, 6, .inl (fun _ => 0))), (q87, .inl (g 0, 160, .inl (fun _ => 0)))] (q106, .inr (5, [.ref q111, .ref q128])) (q111, .inl (g 0, 3, .inl (upd (upd (upd (fun _ => 0) 0 100) 1 4) 2 (-2)))) (q128, .inl (g 0, 4, .inl (upd (upd (upd (upd (fun _ => 0) 0 0) 1 1) 2 2) 3 3)))).symm
  refine va_astq hx hb hK hd.1 hd.2.1 hd.2.2 (ws.length + 5) 4 (ws.length + 9) 5 (r := (RX5, TX5, 2)) (at_pl ws _ 5 rfl) rfl (at_pl ws _ 9 rfl) rfl (by unfold vp_in; decide) dX8_init_149 (fun H locs hP hD hS => ?_)
  rw [set_pl, kk0] at hP hD
  have hd : Hd D (ws ++ [(o, .inr (8, [.int 0, .int 0, .int 0, .ref q7, .ref q14, .ref q44, .ref q52, .ref q60, .ref q69, .ref q78, .ref q87])), (q7, .inl (g 0, 8, .inl (fun _ => 0))), (q14, .inl (g 0, 4, .inl (upd (upd (upd (upd (fun _ => 0) 0 0) 1 1000) 2 (-800)) 3 (-600)))), (q44, .inl (g 0, 24, .inl (go0))), (q52, .inl (g 0, 64, .inl (fun _ => 0))), (q60, .inl (g 4, 6, .inr (.inr (.inr (.inr (va_up (fun _ => none) 0 (some q106))))))), (q69, .inl (g 2, 8, .inr (.inr (.inr (.inr (fun _ => none)))))), (q78, .inl (g 0, 6, .inl (fun _ => 0))), (q87, .inl (g 0, 160, .inl (fun _ => 0))), (q106, .inr (5, [.ref q111, .ref q128])), (q111, .inl (g 0, 3, .inl (upd (upd (upd (fun _ => 0) 0 100) 1 4) 2 (-2)))), (q128, .inl (g 0, 4, .inl (upd (upd (upd (upd (fun _ => 0) 0 0) 1 1) 2 2) 3 3)))]) A s _ _ := ⟨hP, hD, hS⟩
  clear hP hD hS
  refine lv_aload_n hx hb dX8_init_150 rfl (lv_at hl 0 rfl) ?_
  refine lv_iconst (v := 1) hx hb dX8_init_151 (by decide) ?_
  refine va_put (D := D) (ci := 8) (v := .int 1) (ty := .int) (C := RX8) (T := TX8) (N := 11) hx hb hts twX8 tyX8 tyX8_ok nmX8 hown hK hd.1 hd.2.1 hd.2.2 ws.length (at_end ws _ _) rfl 1 (Nat.le_of_ble_eq_true rfl) (hts _ q_57) (fun _ h9 => h9) rfl (by decide +kernel) rfl rfl (Nat.le_of_ble_eq_true rfl) dX8_init_152 (fun H locs hP hD hS => ?_)
  rw [set_end] at hP hD
  have hd : Hd D (ws ++ [(o, .inr (8, [.int 0, .int 1, .int 0, .ref q7, .ref q14, .ref q44, .ref q52, .ref q60, .ref q69, .ref q78, .ref q87])), (q7, .inl (g 0, 8, .inl (fun _ => 0))), (q14, .inl (g 0, 4, .inl (upd (upd (upd (upd (fun _ => 0) 0 0) 1 1000) 2 (-800)) 3 (-600)))), (q44, .inl (g 0, 24, .inl (go0))), (q52, .inl (g 0, 64, .inl (fun _ => 0))), (q60, .inl (g 4, 6, .inr (.inr (.inr (.inr (va_up (fun _ => none) 0 (some q106))))))), (q69, .inl (g 2, 8, .inr (.inr (.inr (.inr (fun _ => none)))))), (q78, .inl (g 0, 6, .inl (fun _ => 0))), (q87, .inl (g 0, 160, .inl (fun _ => 0))), (q106, .inr (5, [.ref q111, .ref q128])), (q111, .inl (g 0, 3, .inl (upd (upd (upd (fun _ => 0) 0 100) 1 4) 2 (-2)))), (q128, .inl (g 0, 4, .inl (upd (upd (upd (upd (fun _ => 0) 0 0) 1 1) 2 2) 3 3)))]) A s _ _ := ⟨hP, hD, hS⟩
  clear hP hD hS
  exact W.vret hx hb B.returns (fun t ht hW => ⟨⟨((fun j => bif Nat.beq j 3 then q7 else bif Nat.beq j 4 then q14 else bif Nat.beq j 5 then q44 else bif Nat.beq j 6 then q52 else bif Nat.beq j 7 then q60 else bif Nat.beq j 8 then q69 else bif Nat.beq j 9 then q78 else bif Nat.beq j 10 then q87 else 0), q106, q111, q128), rfl, trivial, by rw [ht]; exact hd.1, va_K.moved hW.alike hK, hd.2.1⟩, hd.2.2.F ht⟩) hd.2.2.2.2 dX8_init_155 C.2.2.2.2.2.2.2.1
