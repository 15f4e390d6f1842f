/-! ===== constructors that make their own rows ===== -/
theorem K_sameZ {D : va_G} {cl : List vw_C} {g : Nat → ClassId} {s : State} {cA : ClassId} (h : va_K D cl (tyA g ++ [(cA, .boolean)]) s) : cA = g 1 := by
  have h1 : s.vm.findClass ("[" ++ FieldType.boolean.toString) = some (g 1) := (h.2 1 (g 1, .boolean) rfl).2
  have h2 : s.vm.findClass ("[" ++ FieldType.boolean.toString) = some cA := (h.2 5 (cA, .boolean) rfl).2
  exact Option.some.inj (h2.symm.trans h1)
def wI0 (g : Nat → ClassId) (ws : va_W) (o x1 : Nat) (al : Nat → Nat) : va_W := ws ++ [(o, .inr (0, [.ref x1, .ref (al 1), .ref (al 2), .ref (al 3), .ref (al 4), .ref (al 5), .ref (al 6), .int 0, .int 0, .int 30, .int 0])), (al 1, .inl (g 0, 8, .inl (fun _ => 0))), (al 2, .inl (g 0, 8, .inl (fun _ => 0))), (al 3, .inl (g 0, 32, .inl (fun _ => 0))), (al 4, .inl (g 0, 4, .inl (fun _ => 0))), (al 5, .inl (g 0, 8, .inl (fun _ => 0))), (al 6, .inl (g 0, 8, .inl (fun _ => 0)))]
set_option maxHeartbeats 4000000 in
set_option maxRecDepth 100000 in
theorem c_X0_init {l : Launch} {P : EP} {D : va_G} {g : Nat → ClassId} {ws : va_W} {o x1 : Nat} (sz : Nat) : Met l yX0_init (.code yX0_init cX0_init 2 none :: Tw) { frames := 6, cells := 6, slots := 68, locals := 200 } (va_Pc [.ref o, .ref x1] (ctPreE P D (tyA g) (ws ++ [(o, .inr (0, [.null, .null, .null, .null, .null, .null, .null, .int 0, .int 0, .int 0, .int 0]))]) sz)) (va_Qv (fun _ : Nat → Nat => True) (ctPostE P D (tyA g) (wI0 g ws o x1) (va_A (ws ++ [(o, .inr (0, [.null, .null, .null, .null, .null, .null, .null, .int 0, .int 0, .int 0, .int 0]))]) sz)) (va_A (ws ++ [(o, .inr (0, [.null, .null, .null, .null, .null, .null, .null, .int 0, .int 0, .int 0, .int 0]))]) sz)) 6 68 (va_A (ws ++ [(o, .inr (0, [.null, .null, .null, .null, .null, .null, .null, .int 0, .int 0, .int 0, .int 0]))]) sz) := by
  refine Met.ofW (cc := cX0_init) (maxL := 2) (ret := none) (by decide) rfl ?_
  intro p e s m args below meth c s₁ B hml hv
  obtain ⟨rfl, hsz, hP, hK, hD0, hEC⟩ := hv
  subst hsz
  have hD := hD0.self (sz := s.heap.size)
  have hA : ∀ z : Nat, s.heap.size ≤ z → va_A (ws ++ [(o, .inr (0, [.null, .null, .null, .null, .null, .null, .null, .int 0, .int 0, .int 0, .int 0]))]) s.heap.size z := fun z h => Or.inr h
  generalize va_A (ws ++ [(o, .inr (0, [.null, .null, .null, .null, .null, .null, .null, .int 0, .int 0, .int 0, .int 0]))]) s.heap.size = A at hD hA hEC ⊢
  have C := CxE_of B hml hK hA hEC
  have hx := C.1
  have hb := C.2.1
  have hown := C.2.2.2.1
  have hts := C.2.2.2.2.1
  have hin : meth.name = "<init>" := (name_of_methodNamed B.named B.method).1
  have hS : va_S A s.heap s.heap [] := va_S.rf
  have hl := lv_entry ([.ref o, .ref x1]) (n := 2) (Nat.le_of_ble_eq_true rfl)
  rw [lg_entry_eq]
  generalize (lg_sl ([.ref o, .ref x1]) ++ List.replicate (2 - (lg_sl ([.ref o, .ref x1])).length) Slot.unset).toArray = ls at hl ⊢
  have hl : lv_has ls 2 [(0, .ref o), (1, .ref x1)] := hl
  refine lv_aload_n hx hb dX0_init_0 rfl (lv_at hl 0 rfl) ?_
  refine W.objInit hx hb hown (hts (.methodLink RX0 3 objectInit) q_109) (hts (.instanceMethod objectInit) q_26) (hts (.code objectInit ⟨#[0xb1]⟩ 1 none) q_27) rfl (by rw [hml]; exact hl.1) rfl dX0_init_1 (by show _ ≤ 6; omega) (by show _ ≤ 200; exact Nat.le_of_ble_eq_true rfl) ?_
  refine W.eq (g2 := F0 m 4 ls []) rfl ?_
  refine lv_aload_n hx hb dX0_init_4 rfl (lv_at hl 0 rfl) ?_
  refine lv_bipush (v := 8) hx hb dX0_init_5 (by decide) ?_
  refine va_newa (atype := .int) (ty := .int) (N' := 8) (a0 := (8, .inl (fun _ => 0))) hx hb (hts _ q_53) rfl hK hP hD hS hA (fun _ => rfl) (by decide) (by decide) (by decide) (by show 0 + 1 ≤ 6; omega) (by show 0 + 8 ≤ 68; omega) dX0_init_7 (fun q7 cA H hK1 hP hD hS => ?_)
  have hc := K_same hK1
  subst hc
  rw [List.append_assoc] at hP hD
  have hP : va_P D vwCl (ws ++ [(o, .inr (0, [.null, .null, .null, .null, .null, .null, .null, .int 0, .int 0, .int 0, .int 0])), (q7, .inl (g 0, 8, .inl (fun _ => 0)))]) H := hP
  have hD : va_D A (ws ++ [(o, .inr (0, [.null, .null, .null, .null, .null, .null, .null, .int 0, .int 0, .int 0, .int 0])), (q7, .inl (g 0, 8, .inl (fun _ => 0)))]) := hD
  refine W.widen (k := 1) (n := 8) (by omega) (by omega) ?_
  refine va_putF (D := D) (ci := 0) (v := .ref q7) (ty := .array .int) (C := RX0) (T := TX0) (N := 11) hx hb hts twX0 tyX0 tyX0_ok nmX0 hown hK hP hD hS ws.length (at_end ws _ _) rfl 1 (Nat.le_of_ble_eq_true rfl) (hts _ q_111) (fun _ h9 => h9) rfl hin rfl (by decide +kernel) rfl rfl (Nat.le_of_ble_eq_true rfl) dX0_init_9 (fun H locs hP hD hS => ?_)
  rw [set_end] at hP hD
  have hP : va_P D vwCl (ws ++ [(o, .inr (0, [.null, .ref q7, .null, .null, .null, .null, .null, .int 0, .int 0, .int 0, .int 0])), (q7, .inl (g 0, 8, .inl (fun _ => 0)))]) H := hP
  have hD : va_D A (ws ++ [(o, .inr (0, [.null, .ref q7, .null, .null, .null, .null, .null, .int 0, .int 0, .int 0, .int 0])), (q7, .inl (g 0, 8, .inl (fun _ => 0)))]) := hD
  refine lv_aload_n hx hb dX0_init_12 rfl (lv_at hl 0 rfl) ?_
  refine lv_bipush (v := 8) hx hb dX0_init_13 (by decide) ?_
  refine va_newa (atype := .int) (ty := .int) (N' := 8) (a0 := (8, .inl (fun _ => 0))) hx hb (hts _ q_53) rfl hK hP hD hS hA (fun _ => rfl) (by decide) (by decide) (by decide) (by show 1 + 1 ≤ 6; omega) (by show 8 + 8 ≤ 68; omega) dX0_init_15 (fun q15 cA H hK1 hP hD hS => ?_)
  have hc := K_same hK1
  subst hc
  rw [List.append_assoc] at hP hD
  have hP : va_P D vwCl (ws ++ [(o, .inr (0, [.null, .ref q7, .null, .null, .null, .null, .null, .int 0, .int 0, .int 0, .int 0])), (q7, .inl (g 0, 8, .inl (fun _ => 0))), (q15, .inl (g 0, 8, .inl (fun _ => 0)))]) H := hP
  have hD : va_D A (ws ++ [(o, .inr (0, [.null, .ref q7, .null, .null, .null, .null, .null, .int 0, .int 0, .int 0, .int 0])), (q7, .inl (g 0, 8, .inl (fun _ => 0))), (q15, .inl (g 0, 8, .inl (fun _ => 0)))]) := hD
  refine W.widen (k := 2) (n := 16) (by omega) (by omega) ?_
  refine va_putF (D := D) (ci := 0) (v := .ref q15) (ty := .array .int) (C := RX0) (T := TX0) (N := 11) hx hb hts twX0 tyX0 tyX0_ok nmX0 hown hK hP hD hS ws.length (at_end ws _ _) rfl 2 (Nat.le_of_ble_eq_true rfl) (hts _ q_113) (fun _ h9 => h9) rfl hin rfl (by decide +kernel) rfl rfl (Nat.le_of_ble_eq_true rfl) dX0_init_17 (fun H locs hP hD hS => ?_)
  rw [set_end] at hP hD
  have hP : va_P D vwCl (ws ++ [(o, .inr (0, [.null, .ref q7, .ref q15, .null, .null, .null, .null, .int 0, .int 0, .int 0, .int 0])), (q7, .inl (g 0, 8, .inl (fun _ => 0))), (q15, .inl (g 0, 8, .inl (fun _ => 0)))]) H := hP
  have hD : va_D A (ws ++ [(o, .inr (0, [.null, .ref q7, .ref q15, .null, .null, .null, .null, .int 0, .int 0, .int 0, .int 0])), (q7, .inl (g 0, 8, .inl (fun _ => 0))), (q15, .inl (g 0, 8, .inl (fun _ => 0)))]) := hD
  refine lv_aload_n hx hb dX0_init_20 rfl (lv_at hl 0 rfl) ?_
  refine lv_bipush (v := 32) hx hb dX0_init_21 (by decide) ?_
  refine va_newa (atype := .int) (ty := .int) (N' := 32) (a0 := (32, .inl (fun _ => 0))) hx hb (hts _ q_53) rfl hK hP hD hS hA (fun _ => rfl) (by decide) (by decide) (by decide) (by show 2 + 1 ≤ 6; omega) (by show 16 + 32 ≤ 68; omega) dX0_init_23 (fun q23 cA H hK1 hP hD hS => ?_)
  have hc := K_same hK1
  subst hc
  rw [List.append_assoc] at hP hD
  have hP : va_P D vwCl (ws ++ [(o, .inr (0, [.null, .ref q7, .ref q15, .null, .null, .null, .null, .int 0, .int 0, .int 0, .int 0])), (q7, .inl (g 0, 8, .inl (fun _ => 0))), (q15, .inl (g 0, 8, .inl (fun _ => 0))), (q23, .inl (g 0, 32, .inl (fun _ => 0)))]) H := hP
  have hD : va_D A (ws ++ [(o, .inr (0, [.null, .ref q7, .ref q15, .null, .null, .null, .null, .int 0, .int 0, .int 0, .int 0])), (q7, .inl (g 0, 8, .inl (fun _ => 0))), (q15, .inl (g 0, 8, .inl (fun _ => 0))), (q23, .inl (g 0, 32, .inl (fun _ => 0)))]) := hD
  refine W.widen (k := 3) (n := 48) (by omega) (by omega) ?_
  refine va_putF (D := D) (ci := 0) (v := .ref q23) (ty := .array .int) (C := RX0) (T := TX0) (N := 11) hx hb hts twX0 tyX0 tyX0_ok nmX0 hown hK hP hD hS ws.length (at_end ws _ _) rfl 3 (Nat.le_of_ble_eq_true rfl) (hts _ q_115) (fun _ h9 => h9) rfl hin rfl (by decide +kernel) rfl rfl (Nat.le_of_ble_eq_true rfl) dX0_init_25 (fun H locs hP hD hS => ?_)
  rw [set_end] at hP hD
  have hP : va_P D vwCl (ws ++ [(o, .inr (0, [.null, .ref q7, .ref q15, .ref q23, .null, .null, .null, .int 0, .int 0, .int 0, .int 0])), (q7, .inl (g 0, 8, .inl (fun _ => 0))), (q15, .inl (g 0, 8, .inl (fun _ => 0))), (q23, .inl (g 0, 32, .inl (fun _ => 0)))]) H := hP
  have hD : va_D A (ws ++ [(o, .inr (0, [.null, .ref q7, .ref q15, .ref q23, .null, .null, .null, .int 0, .int 0, .int 0, .int 0])), (q7, .inl (g 0, 8, .inl (fun _ => 0))), (q15, .inl (g 0, 8, .inl (fun _ => 0))), (q23, .inl (g 0, 32, .inl (fun _ => 0)))]) := hD
  refine lv_aload_n hx hb dX0_init_28 rfl (lv_at hl 0 rfl) ?_
  refine lv_iconst (v := 4) hx hb dX0_init_29 (by decide) ?_
  refine va_newa (atype := .int) (ty := .int) (N' := 4) (a0 := (4, .inl (fun _ => 0))) hx hb (hts _ q_53) rfl hK hP hD hS hA (fun _ => rfl) (by decide) (by decide) (by decide) (by show 3 + 1 ≤ 6; omega) (by show 48 + 4 ≤ 68; omega) dX0_init_30 (fun q30 cA H hK1 hP hD hS => ?_)
  have hc := K_same hK1
  subst hc
  rw [List.append_assoc] at hP hD
  have hP : va_P D vwCl (ws ++ [(o, .inr (0, [.null, .ref q7, .ref q15, .ref q23, .null, .null, .null, .int 0, .int 0, .int 0, .int 0])), (q7, .inl (g 0, 8, .inl (fun _ => 0))), (q15, .inl (g 0, 8, .inl (fun _ => 0))), (q23, .inl (g 0, 32, .inl (fun _ => 0))), (q30, .inl (g 0, 4, .inl (fun _ => 0)))]) H := hP
  have hD : va_D A (ws ++ [(o, .inr (0, [.null, .ref q7, .ref q15, .ref q23, .null, .null, .null, .int 0, .int 0, .int 0, .int 0])), (q7, .inl (g 0, 8, .inl (fun _ => 0))), (q15, .inl (g 0, 8, .inl (fun _ => 0))), (q23, .inl (g 0, 32, .inl (fun _ => 0))), (q30, .inl (g 0, 4, .inl (fun _ => 0)))]) := hD
  refine W.widen (k := 4) (n := 52) (by omega) (by omega) ?_
  refine va_putF (D := D) (ci := 0) (v := .ref q30) (ty := .array .int) (C := RX0) (T := TX0) (N := 11) hx hb hts twX0 tyX0 tyX0_ok nmX0 hown hK hP hD hS ws.length (at_end ws _ _) rfl 4 (Nat.le_of_ble_eq_true rfl) (hts _ q_117) (fun _ h9 => h9) rfl hin rfl (by decide +kernel) rfl rfl (Nat.le_of_ble_eq_true rfl) dX0_init_32 (fun H locs hP hD hS => ?_)
  rw [set_end] at hP hD
  have hP : va_P D vwCl (ws ++ [(o, .inr (0, [.null, .ref q7, .ref q15, .ref q23, .ref q30, .null, .null, .int 0, .int 0, .int 0, .int 0])), (q7, .inl (g 0, 8, .inl (fun _ => 0))), (q15, .inl (g 0, 8, .inl (fun _ => 0))), (q23, .inl (g 0, 32, .inl (fun _ => 0))), (q30, .inl (g 0, 4, .inl (fun _ => 0)))]) H := hP
  have hD : va_D A (ws ++ [(o, .inr (0, [.null, .ref q7, .ref q15, .ref q23, .ref q30, .null, .null, .int 0, .int 0, .int 0, .int 0])), (q7, .inl (g 0, 8, .inl (fun _ => 0))), (q15, .inl (g 0, 8, .inl (fun _ => 0))), (q23, .inl (g 0, 32, .inl (fun _ => 0))), (q30, .inl (g 0, 4, .inl (fun _ => 0)))]) := hD
  refine lv_aload_n hx hb dX0_init_35 rfl (lv_at hl 0 rfl) ?_
  refine lv_bipush (v := 8) hx hb dX0_init_36 (by decide) ?_
  refine va_newa (atype := .int) (ty := .int) (N' := 8) (a0 := (8, .inl (fun _ => 0))) hx hb (hts _ q_53) rfl hK hP hD hS hA (fun _ => rfl) (by decide) (by decide) (by decide) (by show 4 + 1 ≤ 6; omega) (by show 52 + 8 ≤ 68; omega) dX0_init_38 (fun q38 cA H hK1 hP hD hS => ?_)
  have hc := K_same hK1
  subst hc
  rw [List.append_assoc] at hP hD
  have hP : va_P D vwCl (ws ++ [(o, .inr (0, [.null, .ref q7, .ref q15, .ref q23, .ref q30, .null, .null, .int 0, .int 0, .int 0, .int 0])), (q7, .inl (g 0, 8, .inl (fun _ => 0))), (q15, .inl (g 0, 8, .inl (fun _ => 0))), (q23, .inl (g 0, 32, .inl (fun _ => 0))), (q30, .inl (g 0, 4, .inl (fun _ => 0))), (q38, .inl (g 0, 8, .inl (fun _ => 0)))]) H := hP
  have hD : va_D A (ws ++ [(o, .inr (0, [.null, .ref q7, .ref q15, .ref q23, .ref q30, .null, .null, .int 0, .int 0, .int 0, .int 0])), (q7, .inl (g 0, 8, .inl (fun _ => 0))), (q15, .inl (g 0, 8, .inl (fun _ => 0))), (q23, .inl (g 0, 32, .inl (fun _ => 0))), (q30, .inl (g 0, 4, .inl (fun _ => 0))), (q38, .inl (g 0, 8, .inl (fun _ => 0)))]) := hD
  refine W.widen (k := 5) (n := 60) (by omega) (by omega) ?_
  refine va_putF (D := D) (ci := 0) (v := .ref q38) (ty := .array .int) (C := RX0) (T := TX0) (N := 11) hx hb hts twX0 tyX0 tyX0_ok nmX0 hown hK hP hD hS ws.length (at_end ws _ _) rfl 5 (Nat.le_of_ble_eq_true rfl) (hts _ q_119) (fun _ h9 => h9) rfl hin rfl (by decide +kernel) rfl rfl (Nat.le_of_ble_eq_true rfl) dX0_init_40 (fun H locs hP hD hS => ?_)
  rw [set_end] at hP hD
  have hP : va_P D vwCl (ws ++ [(o, .inr (0, [.null, .ref q7, .ref q15, .ref q23, .ref q30, .ref q38, .null, .int 0, .int 0, .int 0, .int 0])), (q7, .inl (g 0, 8, .inl (fun _ => 0))), (q15, .inl (g 0, 8, .inl (fun _ => 0))), (q23, .inl (g 0, 32, .inl (fun _ => 0))), (q30, .inl (g 0, 4, .inl (fun _ => 0))), (q38, .inl (g 0, 8, .inl (fun _ => 0)))]) H := hP
  have hD : va_D A (ws ++ [(o, .inr (0, [.null, .ref q7, .ref q15, .ref q23, .ref q30, .ref q38, .null, .int 0, .int 0, .int 0, .int 0])), (q7, .inl (g 0, 8, .inl (fun _ => 0))), (q15, .inl (g 0, 8, .inl (fun _ => 0))), (q23, .inl (g 0, 32, .inl (fun _ => 0))), (q30, .inl (g 0, 4, .inl (fun _ => 0))), (q38, .inl (g 0, 8, .inl (fun _ => 0)))]) := hD
  refine lv_aload_n hx hb dX0_init_43 rfl (lv_at hl 0 rfl) ?_
  refine lv_bipush (v := 8) hx hb dX0_init_44 (by decide) ?_
  refine va_newa (atype := .int) (ty := .int) (N' := 8) (a0 := (8, .inl (fun _ => 0))) hx hb (hts _ q_53) rfl hK hP hD hS hA (fun _ => rfl) (by decide) (by decide) (by decide) (by show 5 + 1 ≤ 6; omega) (by show 60 + 8 ≤ 68; omega) dX0_init_46 (fun q46 cA H hK1 hP hD hS => ?_)
  have hc := K_same hK1
  subst hc
  rw [List.append_assoc] at hP hD
  have hP : va_P D vwCl (ws ++ [(o, .inr (0, [.null, .ref q7, .ref q15, .ref q23, .ref q30, .ref q38, .null, .int 0, .int 0, .int 0, .int 0])), (q7, .inl (g 0, 8, .inl (fun _ => 0))), (q15, .inl (g 0, 8, .inl (fun _ => 0))), (q23, .inl (g 0, 32, .inl (fun _ => 0))), (q30, .inl (g 0, 4, .inl (fun _ => 0))), (q38, .inl (g 0, 8, .inl (fun _ => 0))), (q46, .inl (g 0, 8, .inl (fun _ => 0)))]) H := hP
  have hD : va_D A (ws ++ [(o, .inr (0, [.null, .ref q7, .ref q15, .ref q23, .ref q30, .ref q38, .null, .int 0, .int 0, .int 0, .int 0])), (q7, .inl (g 0, 8, .inl (fun _ => 0))), (q15, .inl (g 0, 8, .inl (fun _ => 0))), (q23, .inl (g 0, 32, .inl (fun _ => 0))), (q30, .inl (g 0, 4, .inl (fun _ => 0))), (q38, .inl (g 0, 8, .inl (fun _ => 0))), (q46, .inl (g 0, 8, .inl (fun _ => 0)))]) := hD
  refine W.widen (k := 6) (n := 68) (by omega) (by omega) ?_
  refine va_putF (D := D) (ci := 0) (v := .ref q46) (ty := .array .int) (C := RX0) (T := TX0) (N := 11) hx hb hts twX0 tyX0 tyX0_ok nmX0 hown hK hP hD hS ws.length (at_end ws _ _) rfl 6 (Nat.le_of_ble_eq_true rfl) (hts _ q_120) (fun _ h9 => h9) rfl hin rfl (by decide +kernel) rfl rfl (Nat.le_of_ble_eq_true rfl) dX0_init_48 (fun H locs hP hD hS => ?_)
  rw [set_end] at hP hD
  have hP : va_P D vwCl (ws ++ [(o, .inr (0, [.null, .ref q7, .ref q15, .ref q23, .ref q30, .ref q38, .ref q46, .int 0, .int 0, .int 0, .int 0])), (q7, .inl (g 0, 8, .inl (fun _ => 0))), (q15, .inl (g 0, 8, .inl (fun _ => 0))), (q23, .inl (g 0, 32, .inl (fun _ => 0))), (q30, .inl (g 0, 4, .inl (fun _ => 0))), (q38, .inl (g 0, 8, .inl (fun _ => 0))), (q46, .inl (g 0, 8, .inl (fun _ => 0)))]) H := hP
  have hD : va_D A (ws ++ [(o, .inr (0, [.null, .ref q7, .ref q15, .ref q23, .ref q30, .ref q38, .ref q46, .int 0, .int 0, .int 0, .int 0])), (q7, .inl (g 0, 8, .inl (fun _ => 0))), (q15, .inl (g 0, 8, .inl (fun _ => 0))), (q23, .inl (g 0, 32, .inl (fun _ => 0))), (q30, .inl (g 0, 4, .inl (fun _ => 0))), (q38, .inl (g 0, 8, .inl (fun _ => 0))), (q46, .inl (g 0, 8, .inl (fun _ => 0)))]) := hD
  refine lv_aload_n hx hb dX0_init_51 rfl (lv_at hl 0 rfl) ?_
  refine lv_bipush (v := 30) hx hb dX0_init_52 (by decide) ?_
  refine va_put (D := D) (ci := 0) (v := .int 30) (ty := .int) (C := RX0) (T := TX0) (N := 11) hx hb hts twX0 tyX0 tyX0_ok nmX0 hown hK hP hD hS ws.length (at_end ws _ _) rfl 9 (Nat.le_of_ble_eq_true rfl) (hts _ q_124) (fun _ h9 => h9) rfl (by decide +kernel) rfl rfl (Nat.le_of_ble_eq_true rfl) dX0_init_54 (fun H locs hP hD hS => ?_)
  rw [set_end] at hP hD
  have hP : va_P D vwCl (ws ++ [(o, .inr (0, [.null, .ref q7, .ref q15, .ref q23, .ref q30, .ref q38, .ref q46, .int 0, .int 0, .int 30, .int 0])), (q7, .inl (g 0, 8, .inl (fun _ => 0))), (q15, .inl (g 0, 8, .inl (fun _ => 0))), (q23, .inl (g 0, 32, .inl (fun _ => 0))), (q30, .inl (g 0, 4, .inl (fun _ => 0))), (q38, .inl (g 0, 8, .inl (fun _ => 0))), (q46, .inl (g 0, 8, .inl (fun _ => 0)))]) H := hP
  have hD : va_D A (ws ++ [(o, .inr (0, [.null, .ref q7, .ref q15, .ref q23, .ref q30, .ref q38, .ref q46, .int 0, .int 0, .int 30, .int 0])), (q7, .inl (g 0, 8, .inl (fun _ => 0))), (q15, .inl (g 0, 8, .inl (fun _ => 0))), (q23, .inl (g 0, 32, .inl (fun _ => 0))), (q30, .inl (g 0, 4, .inl (fun _ => 0))), (q38, .inl (g 0, 8, .inl (fun _ => 0))), (q46, .inl (g 0, 8, .inl (fun _ => 0)))]) := hD
  refine lv_aload_n hx hb dX0_init_57 rfl (lv_at hl 0 rfl) ?_
  refine lv_aload_n hx hb dX0_init_58 rfl (lv_at hl 1 rfl) ?_
  refine va_putF (D := D) (ci := 0) (v := .ref x1) (ty := .object RX8) (C := RX0) (T := TX0) (N := 11) hx hb hts twX0 tyX0 tyX0_ok nmX0 hown hK hP hD hS ws.length (at_end ws _ _) rfl 0 (Nat.le_of_ble_eq_true rfl) (hts _ q_110) (fun _ h9 => h9) rfl hin rfl (by decide +kernel) rfl rfl (Nat.le_of_ble_eq_true rfl) dX0_init_59 (fun H locs hP hD hS => ?_)
  rw [set_end] at hP hD
  have hP : va_P D vwCl (ws ++ [(o, .inr (0, [.ref x1, .ref q7, .ref q15, .ref q23, .ref q30, .ref q38, .ref q46, .int 0, .int 0, .int 30, .int 0])), (q7, .inl (g 0, 8, .inl (fun _ => 0))), (q15, .inl (g 0, 8, .inl (fun _ => 0))), (q23, .inl (g 0, 32, .inl (fun _ => 0))), (q30, .inl (g 0, 4, .inl (fun _ => 0))), (q38, .inl (g 0, 8, .inl (fun _ => 0))), (q46, .inl (g 0, 8, .inl (fun _ => 0)))]) H := hP
  have hD : va_D A (ws ++ [(o, .inr (0, [.ref x1, .ref q7, .ref q15, .ref q23, .ref q30, .ref q38, .ref q46, .int 0, .int 0, .int 30, .int 0])), (q7, .inl (g 0, 8, .inl (fun _ => 0))), (q15, .inl (g 0, 8, .inl (fun _ => 0))), (q23, .inl (g 0, 32, .inl (fun _ => 0))), (q30, .inl (g 0, 4, .inl (fun _ => 0))), (q38, .inl (g 0, 8, .inl (fun _ => 0))), (q46, .inl (g 0, 8, .inl (fun _ => 0)))]) := hD
  exact W.vret hx hb B.returns (fun t ht hW => ⟨⟨(fun j => bif Nat.beq j 1 then q7 else bif Nat.beq j 2 then q15 else bif Nat.beq j 3 then q23 else bif Nat.beq j 4 then q30 else bif Nat.beq j 5 then q38 else bif Nat.beq j 6 then q46 else 0), rfl, trivial, by rw [ht]; exact hP, va_K.moved hW.alike hK, hD⟩, hS.F ht⟩) hS.2.2 dX0_init_62 C.2.2.2.2.2.2.2.1
def wI2 (g : Nat → ClassId) (ws : va_W) (o : Nat) (al : Nat → Nat) : va_W := ws ++ [(o, .inr (2, [.ref (al 0), .ref (al 1), .int 0])), (al 0, .inl (g 0, 24, .inl (fun _ => 0))), (al 1, .inl (g 0, 24, .inl (fun _ => 0)))]
set_option maxHeartbeats 4000000 in
set_option maxRecDepth 100000 in
theorem c_X2_init {l : Launch} {P : EP} {D : va_G} {g : Nat → ClassId} {ws : va_W} {o : Nat} (sz : Nat) : Met l yX2_init (.code yX2_init cX2_init 1 none :: Tw) { frames := 6, cells := 2, slots := 48, locals := 200 } (va_Pc [.ref o] (ctPreE P D (tyA g) (ws ++ [(o, .inr (2, [.null, .null, .int 0]))]) sz)) (va_Qv (fun _ : Nat → Nat => True) (ctPostE P D (tyA g) (wI2 g ws o) (va_A (ws ++ [(o, .inr (2, [.null, .null, .int 0]))]) sz)) (va_A (ws ++ [(o, .inr (2, [.null, .null, .int 0]))]) sz)) 2 48 (va_A (ws ++ [(o, .inr (2, [.null, .null, .int 0]))]) sz) := by
  refine Met.ofW (cc := cX2_init) (maxL := 1) (ret := none) (by decide) rfl ?_
  intro p e s m args below meth c s₁ B hml hv
  obtain ⟨rfl, hsz, hP, hK, hD0, hEC⟩ := hv
  subst hsz
  have hD := hD0.self (sz := s.heap.size)
  have hA : ∀ z : Nat, s.heap.size ≤ z → va_A (ws ++ [(o, .inr (2, [.null, .null, .int 0]))]) s.heap.size z := fun z h => Or.inr h
  generalize va_A (ws ++ [(o, .inr (2, [.null, .null, .int 0]))]) s.heap.size = A at hD hA hEC ⊢
  have C := CxE_of B hml hK hA hEC
  have hx := C.1
  have hb := C.2.1
  have hown := C.2.2.2.1
  have hts := C.2.2.2.2.1
  have hin : meth.name = "<init>" := (name_of_methodNamed B.named B.method).1
  have hS : va_S A s.heap s.heap [] := va_S.rf
  have hl := lv_entry ([.ref o]) (n := 1) (Nat.le_of_ble_eq_true rfl)
  rw [lg_entry_eq]
  generalize (lg_sl ([.ref o]) ++ List.replicate (1 - (lg_sl ([.ref o])).length) Slot.unset).toArray = ls at hl ⊢
  have hl : lv_has ls 1 [(0, .ref o)] := hl
  refine lv_aload_n hx hb dX2_init_0 rfl (lv_at hl 0 rfl) ?_
  refine W.objInit hx hb hown (hts (.methodLink RX2 3 objectInit) q_203) (hts (.instanceMethod objectInit) q_26) (hts (.code objectInit ⟨#[0xb1]⟩ 1 none) q_27) rfl (by rw [hml]; exact hl.1) rfl dX2_init_1 (by show _ ≤ 6; omega) (by show _ ≤ 200; exact Nat.le_of_ble_eq_true rfl) ?_
  refine W.eq (g2 := F0 m 4 ls []) rfl ?_
  refine lv_aload_n hx hb dX2_init_4 rfl (lv_at hl 0 rfl) ?_
  refine lv_bipush (v := 24) hx hb dX2_init_5 (by decide) ?_
  refine va_newa (atype := .int) (ty := .int) (N' := 24) (a0 := (24, .inl (fun _ => 0))) hx hb (hts _ q_53) rfl hK hP hD hS hA (fun _ => rfl) (by decide) (by decide) (by decide) (by show 0 + 1 ≤ 2; omega) (by show 0 + 24 ≤ 48; omega) dX2_init_7 (fun q7 cA H hK1 hP hD hS => ?_)
  have hc := K_same hK1
  subst hc
  rw [List.append_assoc] at hP hD
  have hP : va_P D vwCl (ws ++ [(o, .inr (2, [.null, .null, .int 0])), (q7, .inl (g 0, 24, .inl (fun _ => 0)))]) H := hP
  have hD : va_D A (ws ++ [(o, .inr (2, [.null, .null, .int 0])), (q7, .inl (g 0, 24, .inl (fun _ => 0)))]) := hD
  refine W.widen (k := 1) (n := 24) (by omega) (by omega) ?_
  refine va_putF (D := D) (ci := 2) (v := .ref q7) (ty := .array .int) (C := RX2) (T := TX2) (N := 3) hx hb hts twX2 tyX2 tyX2_ok nmX2 hown hK hP hD hS ws.length (at_end ws _ _) rfl 0 (Nat.le_of_ble_eq_true rfl) (hts _ q_204) (fun _ h9 => h9) rfl hin rfl (by decide +kernel) rfl rfl (Nat.le_of_ble_eq_true rfl) dX2_init_9 (fun H locs hP hD hS => ?_)
  rw [set_end] at hP hD
  have hP : va_P D vwCl (ws ++ [(o, .inr (2, [.ref q7, .null, .int 0])), (q7, .inl (g 0, 24, .inl (fun _ => 0)))]) H := hP
  have hD : va_D A (ws ++ [(o, .inr (2, [.ref q7, .null, .int 0])), (q7, .inl (g 0, 24, .inl (fun _ => 0)))]) := hD
  refine lv_aload_n hx hb dX2_init_12 rfl (lv_at hl 0 rfl) ?_
  refine lv_bipush (v := 24) hx hb dX2_init_13 (by decide) ?_
  refine va_newa (atype := .int) (ty := .int) (N' := 24) (a0 := (24, .inl (fun _ => 0))) hx hb (hts _ q_53) rfl hK hP hD hS hA (fun _ => rfl) (by decide) (by decide) (by decide) (by show 1 + 1 ≤ 2; omega) (by show 24 + 24 ≤ 48; omega) dX2_init_15 (fun q15 cA H hK1 hP hD hS => ?_)
  have hc := K_same hK1
  subst hc
  rw [List.append_assoc] at hP hD
  have hP : va_P D vwCl (ws ++ [(o, .inr (2, [.ref q7, .null, .int 0])), (q7, .inl (g 0, 24, .inl (fun _ => 0))), (q15, .inl (g 0, 24, .inl (fun _ => 0)))]) H := hP
  have hD : va_D A (ws ++ [(o, .inr (2, [.ref q7, .null, .int 0])), (q7, .inl (g 0, 24, .inl (fun _ => 0))), (q15, .inl (g 0, 24, .inl (fun _ => 0)))]) := hD
  refine W.widen (k := 2) (n := 48) (by omega) (by omega) ?_
  refine va_putF (D := D) (ci := 2) (v := .ref q15) (ty := .array .int) (C := RX2) (T := TX2) (N := 3) hx hb hts twX2 tyX2 tyX2_ok nmX2 hown hK hP hD hS ws.length (at_end ws _ _) rfl 1 (Nat.le_of_ble_eq_true rfl) (hts _ q_205) (fun _ h9 => h9) rfl hin rfl (by decide +kernel) rfl rfl (Nat.le_of_ble_eq_true rfl) dX2_init_17 (fun H locs hP hD hS => ?_)
  rw [set_end] at hP hD
  have hP : va_P D vwCl (ws ++ [(o, .inr (2, [.ref q7, .ref q15, .int 0])), (q7, .inl (g 0, 24, .inl (fun _ => 0))), (q15, .inl (g 0, 24, .inl (fun _ => 0)))]) H := hP
  have hD : va_D A (ws ++ [(o, .inr (2, [.ref q7, .ref q15, .int 0])), (q7, .inl (g 0, 24, .inl (fun _ => 0))), (q15, .inl (g 0, 24, .inl (fun _ => 0)))]) := hD
  exact W.vret hx hb B.returns (fun t ht hW => ⟨⟨(fun j => bif Nat.beq j 0 then q7 else bif Nat.beq j 1 then q15 else 0), rfl, trivial, by rw [ht]; exact hP, va_K.moved hW.alike hK, hD⟩, hS.F ht⟩) hS.2.2 dX2_init_20 C.2.2.2.2.2.2.2.1
def wI3 (g : Nat → ClassId) (ws : va_W) (o : Nat) (al : Nat → Nat) : va_W := ws ++ [(o, .inr (3, [.int (-1), .int 0, .ref (al 2)])), (al 2, .inl (g 0, 40, .inl (fun _ => 0)))]
set_option maxHeartbeats 4000000 in
set_option maxRecDepth 100000 in
theorem c_X3_init {l : Launch} {P : EP} {D : va_G} {g : Nat → ClassId} {ws : va_W} {o : Nat} (sz : Nat) : Met l yX3_init (.code yX3_init cX3_init 1 none :: Tw) { frames := 6, cells := 1, slots := 40, locals := 200 } (va_Pc [.ref o] (ctPreE P D (tyA g) (ws ++ [(o, .inr (3, [.int 0, .int 0, .null]))]) sz)) (va_Qv (fun _ : Nat → Nat => True) (ctPostE P D (tyA g) (wI3 g ws o) (va_A (ws ++ [(o, .inr (3, [.int 0, .int 0, .null]))]) sz)) (va_A (ws ++ [(o, .inr (3, [.int 0, .int 0, .null]))]) sz)) 1 40 (va_A (ws ++ [(o, .inr (3, [.int 0, .int 0, .null]))]) sz) := by
  refine Met.ofW (cc := cX3_init) (maxL := 1) (ret := none) (by decide) rfl ?_
  intro p e s m args below meth c s₁ B hml hv
  obtain ⟨rfl, hsz, hP, hK, hD0, hEC⟩ := hv
  subst hsz
  have hD := hD0.self (sz := s.heap.size)
  have hA : ∀ z : Nat, s.heap.size ≤ z → va_A (ws ++ [(o, .inr (3, [.int 0, .int 0, .null]))]) s.heap.size z := fun z h => Or.inr h
  generalize va_A (ws ++ [(o, .inr (3, [.int 0, .int 0, .null]))]) s.heap.size = A at hD hA hEC ⊢
  have C := CxE_of B hml hK hA hEC
  have hx := C.1
  have hb := C.2.1
  have hown := C.2.2.2.1
  have hts := C.2.2.2.2.1
  have hin : meth.name = "<init>" := (name_of_methodNamed B.named B.method).1
  have hS : va_S A s.heap s.heap [] := va_S.rf
  have hl := lv_entry ([.ref o]) (n := 1) (Nat.le_of_ble_eq_true rfl)
  rw [lg_entry_eq]
  generalize (lg_sl ([.ref o]) ++ List.replicate (1 - (lg_sl ([.ref o])).length) Slot.unset).toArray = ls at hl ⊢
  have hl : lv_has ls 1 [(0, .ref o)] := hl
  refine lv_aload_n hx hb dX3_init_0 rfl (lv_at hl 0 rfl) ?_
  refine W.objInit hx hb hown (hts (.methodLink RX3 3 objectInit) q_266) (hts (.instanceMethod objectInit) q_26) (hts (.code objectInit ⟨#[0xb1]⟩ 1 none) q_27) rfl (by rw [hml]; exact hl.1) rfl dX3_init_1 (by show _ ≤ 6; omega) (by show _ ≤ 200; exact Nat.le_of_ble_eq_true rfl) ?_
  refine W.eq (g2 := F0 m 4 ls []) rfl ?_
  refine lv_aload_n hx hb dX3_init_4 rfl (lv_at hl 0 rfl) ?_
  refine lv_iconst (v := -1) hx hb dX3_init_5 (by decide) ?_
  refine va_put (D := D) (ci := 3) (v := .int (-1)) (ty := .int) (C := RX3) (T := TX3) (N := 3) hx hb hts twX3 tyX3 tyX3_ok nmX3 hown hK hP hD hS ws.length (at_end ws _ _) rfl 0 (Nat.le_of_ble_eq_true rfl) (hts _ q_267) (fun _ h9 => h9) rfl (by decide +kernel) rfl rfl (Nat.le_of_ble_eq_true rfl) dX3_init_6 (fun H locs hP hD hS => ?_)
  rw [set_end] at hP hD
  have hP : va_P D vwCl (ws ++ [(o, .inr (3, [.int (-1), .int 0, .null]))]) H := hP
  have hD : va_D A (ws ++ [(o, .inr (3, [.int (-1), .int 0, .null]))]) := hD
  refine lv_aload_n hx hb dX3_init_9 rfl (lv_at hl 0 rfl) ?_
  refine lv_bipush (v := 40) hx hb dX3_init_10 (by decide) ?_
  refine va_newa (atype := .int) (ty := .int) (N' := 40) (a0 := (40, .inl (fun _ => 0))) hx hb (hts _ q_53) rfl hK hP hD hS hA (fun _ => rfl) (by decide) (by decide) (by decide) (by show 0 + 1 ≤ 1; omega) (by show 0 + 40 ≤ 40; omega) dX3_init_12 (fun q12 cA H hK1 hP hD hS => ?_)
  have hc := K_same hK1
  subst hc
  rw [List.append_assoc] at hP hD
  have hP : va_P D vwCl (ws ++ [(o, .inr (3, [.int (-1), .int 0, .null])), (q12, .inl (g 0, 40, .inl (fun _ => 0)))]) H := hP
  have hD : va_D A (ws ++ [(o, .inr (3, [.int (-1), .int 0, .null])), (q12, .inl (g 0, 40, .inl (fun _ => 0)))]) := hD
  refine W.widen (k := 1) (n := 40) (by omega) (by omega) ?_
  refine va_putF (D := D) (ci := 3) (v := .ref q12) (ty := .array .int) (C := RX3) (T := TX3) (N := 3) hx hb hts twX3 tyX3 tyX3_ok nmX3 hown hK hP hD hS ws.length (at_end ws _ _) rfl 2 (Nat.le_of_ble_eq_true rfl) (hts _ q_270) (fun _ h9 => h9) rfl hin rfl (by decide +kernel) rfl rfl (Nat.le_of_ble_eq_true rfl) dX3_init_14 (fun H locs hP hD hS => ?_)
  rw [set_end] at hP hD
  have hP : va_P D vwCl (ws ++ [(o, .inr (3, [.int (-1), .int 0, .ref q12])), (q12, .inl (g 0, 40, .inl (fun _ => 0)))]) H := hP
  have hD : va_D A (ws ++ [(o, .inr (3, [.int (-1), .int 0, .ref q12])), (q12, .inl (g 0, 40, .inl (fun _ => 0)))]) := hD
  exact W.vret hx hb B.returns (fun t ht hW => ⟨⟨(fun j => bif Nat.beq j 2 then q12 else 0), rfl, trivial, by rw [ht]; exact hP, va_K.moved hW.alike hK, hD⟩, hS.F ht⟩) hS.2.2 dX3_init_17 C.2.2.2.2.2.2.2.1
def wI4 (g : Nat → ClassId) (ws : va_W) (o : Nat) (al : Nat → Nat) : va_W := ws ++ [(o, .inr (4, [.ref (al 0), .int 0])), (al 0, .inl (g 0, 160, .inl (fun _ => 0)))]
set_option maxHeartbeats 4000000 in
set_option maxRecDepth 100000 in
theorem c_X4_init {l : Launch} {P : EP} {D : va_G} {g : Nat → ClassId} {ws : va_W} {o : Nat} (sz : Nat) : Met l yX4_init (.code yX4_init cX4_init 1 none :: Tw) { frames := 6, cells := 1, slots := 160, locals := 200 } (va_Pc [.ref o] (ctPreE P D (tyA g) (ws ++ [(o, .inr (4, [.null, .int 0]))]) sz)) (va_Qv (fun _ : Nat → Nat => True) (ctPostE P D (tyA g) (wI4 g ws o) (va_A (ws ++ [(o, .inr (4, [.null, .int 0]))]) sz)) (va_A (ws ++ [(o, .inr (4, [.null, .int 0]))]) sz)) 1 160 (va_A (ws ++ [(o, .inr (4, [.null, .int 0]))]) sz) := by
  refine Met.ofW (cc := cX4_init) (maxL := 1) (ret := none) (by decide) rfl ?_
  intro p e s m args below meth c s₁ B hml hv
  obtain ⟨rfl, hsz, hP, hK, hD0, hEC⟩ := hv
  subst hsz
  have hD := hD0.self (sz := s.heap.size)
  have hA : ∀ z : Nat, s.heap.size ≤ z → va_A (ws ++ [(o, .inr (4, [.null, .int 0]))]) s.heap.size z := fun z h => Or.inr h
  generalize va_A (ws ++ [(o, .inr (4, [.null, .int 0]))]) s.heap.size = A at hD hA hEC ⊢
  have C := CxE_of B hml hK hA hEC
  have hx := C.1
  have hb := C.2.1
  have hown := C.2.2.2.1
  have hts := C.2.2.2.2.1
  have hin : meth.name = "<init>" := (name_of_methodNamed B.named B.method).1
  have hS : va_S A s.heap s.heap [] := va_S.rf
  have hl := lv_entry ([.ref o]) (n := 1) (Nat.le_of_ble_eq_true rfl)
  rw [lg_entry_eq]
  generalize (lg_sl ([.ref o]) ++ List.replicate (1 - (lg_sl ([.ref o])).length) Slot.unset).toArray = ls at hl ⊢
  have hl : lv_has ls 1 [(0, .ref o)] := hl
  refine lv_aload_n hx hb dX4_init_0 rfl (lv_at hl 0 rfl) ?_
  refine W.objInit hx hb hown (hts (.methodLink RX4 3 objectInit) q_156) (hts (.instanceMethod objectInit) q_26) (hts (.code objectInit ⟨#[0xb1]⟩ 1 none) q_27) rfl (by rw [hml]; exact hl.1) rfl dX4_init_1 (by show _ ≤ 6; omega) (by show _ ≤ 200; exact Nat.le_of_ble_eq_true rfl) ?_
  refine W.eq (g2 := F0 m 4 ls []) rfl ?_
  refine lv_aload_n hx hb dX4_init_4 rfl (lv_at hl 0 rfl) ?_
  refine lv_sipush (v := 160) hx hb dX4_init_5 (by decide) ?_
  refine va_newa (atype := .int) (ty := .int) (N' := 160) (a0 := (160, .inl (fun _ => 0))) hx hb (hts _ q_53) rfl hK hP hD hS hA (fun _ => rfl) (by decide) (by decide) (by decide) (by show 0 + 1 ≤ 1; omega) (by show 0 + 160 ≤ 160; omega) dX4_init_8 (fun q8 cA H hK1 hP hD hS => ?_)
  have hc := K_same hK1
  subst hc
  rw [List.append_assoc] at hP hD
  have hP : va_P D vwCl (ws ++ [(o, .inr (4, [.null, .int 0])), (q8, .inl (g 0, 160, .inl (fun _ => 0)))]) H := hP
  have hD : va_D A (ws ++ [(o, .inr (4, [.null, .int 0])), (q8, .inl (g 0, 160, .inl (fun _ => 0)))]) := hD
  refine W.widen (k := 1) (n := 160) (by omega) (by omega) ?_
  refine va_putF (D := D) (ci := 4) (v := .ref q8) (ty := .array .int) (C := RX4) (T := TX4) (N := 2) hx hb hts twX4 tyX4 tyX4_ok nmX4 hown hK hP hD hS ws.length (at_end ws _ _) rfl 0 (Nat.le_of_ble_eq_true rfl) (hts _ q_157) (fun _ h9 => h9) rfl hin rfl (by decide +kernel) rfl rfl (Nat.le_of_ble_eq_true rfl) dX4_init_10 (fun H locs hP hD hS => ?_)
  rw [set_end] at hP hD
  have hP : va_P D vwCl (ws ++ [(o, .inr (4, [.ref q8, .int 0])), (q8, .inl (g 0, 160, .inl (fun _ => 0)))]) H := hP
  have hD : va_D A (ws ++ [(o, .inr (4, [.ref q8, .int 0])), (q8, .inl (g 0, 160, .inl (fun _ => 0)))]) := hD
  exact W.vret hx hb B.returns (fun t ht hW => ⟨⟨(fun j => bif Nat.beq j 0 then q8 else 0), rfl, trivial, by rw [ht]; exact hP, va_K.moved hW.alike hK, hD⟩, hS.F ht⟩) hS.2.2 dX4_init_13 C.2.2.2.2.2.2.2.1
def wI6 (g : Nat → ClassId) (ws : va_W) (o : Nat) (al : Nat → Nat) : va_W := ws ++ [(o, .inr (6, [.null, .int 0, .int 0, .int 0, .int 0, .ref (al 5), .int 0, .int 0])), (al 5, .inl (g 0, 160, .inl (fun _ => 0)))]
set_option maxHeartbeats 4000000 in
set_option maxRecDepth 100000 in
theorem c_X6_init {l : Launch} {P : EP} {D : va_G} {g : Nat → ClassId} {ws : va_W} {o : Nat} (sz : Nat) : Met l yX6_init (.code yX6_init cX6_init 1 none :: Tw) { frames := 6, cells := 1, slots := 160, locals := 200 } (va_Pc [.ref o] (ctPreE P D (tyA g) (ws ++ [(o, .inr (6, [.null, .int 0, .int 0, .int 0, .int 0, .null, .int 0, .int 0]))]) sz)) (va_Qv (fun _ : Nat → Nat => True) (ctPostE P D (tyA g) (wI6 g ws o) (va_A (ws ++ [(o, .inr (6, [.null, .int 0, .int 0, .int 0, .int 0, .null, .int 0, .int 0]))]) sz)) (va_A (ws ++ [(o, .inr (6, [.null, .int 0, .int 0, .int 0, .int 0, .null, .int 0, .int 0]))]) sz)) 1 160 (va_A (ws ++ [(o, .inr (6, [.null, .int 0, .int 0, .int 0, .int 0, .null, .int 0, .int 0]))]) sz) := by
  refine Met.ofW (cc := cX6_init) (maxL := 1) (ret := none) (by decide) rfl ?_
  intro p e s m args below meth c s₁ B hml hv
  obtain ⟨rfl, hsz, hP, hK, hD0, hEC⟩ := hv
  subst hsz
  have hD := hD0.self (sz := s.heap.size)
  have hA : ∀ z : Nat, s.heap.size ≤ z → va_A (ws ++ [(o, .inr (6, [.null, .int 0, .int 0, .int 0, .int 0, .null, .int 0, .int 0]))]) s.heap.size z := fun z h => Or.inr h
  generalize va_A (ws ++ [(o, .inr (6, [.null, .int 0, .int 0, .int 0, .int 0, .null, .int 0, .int 0]))]) s.heap.size = A at hD hA hEC ⊢
  have C := CxE_of B hml hK hA hEC
  have hx := C.1
  have hb := C.2.1
  have hown := C.2.2.2.1
  have hts := C.2.2.2.2.1
  have hin : meth.name = "<init>" := (name_of_methodNamed B.named B.method).1
  have hS : va_S A s.heap s.heap [] := va_S.rf
  have hl := lv_entry ([.ref o]) (n := 1) (Nat.le_of_ble_eq_true rfl)
  rw [lg_entry_eq]
  generalize (lg_sl ([.ref o]) ++ List.replicate (1 - (lg_sl ([.ref o])).length) Slot.unset).toArray = ls at hl ⊢
  have hl : lv_has ls 1 [(0, .ref o)] := hl
  refine lv_aload_n hx hb dX6_init_0 rfl (lv_at hl 0 rfl) ?_
  refine W.objInit hx hb hown (hts (.methodLink RX6 3 objectInit) q_171) (hts (.instanceMethod objectInit) q_26) (hts (.code objectInit ⟨#[0xb1]⟩ 1 none) q_27) rfl (by rw [hml]; exact hl.1) rfl dX6_init_1 (by show _ ≤ 6; omega) (by show _ ≤ 200; exact Nat.le_of_ble_eq_true rfl) ?_
  refine W.eq (g2 := F0 m 4 ls []) rfl ?_
  refine lv_aload_n hx hb dX6_init_4 rfl (lv_at hl 0 rfl) ?_
  refine lv_sipush (v := 160) hx hb dX6_init_5 (by decide) ?_
  refine va_newa (atype := .int) (ty := .int) (N' := 160) (a0 := (160, .inl (fun _ => 0))) hx hb (hts _ q_53) rfl hK hP hD hS hA (fun _ => rfl) (by decide) (by decide) (by decide) (by show 0 + 1 ≤ 1; omega) (by show 0 + 160 ≤ 160; omega) dX6_init_8 (fun q8 cA H hK1 hP hD hS => ?_)
  have hc := K_same hK1
  subst hc
  rw [List.append_assoc] at hP hD
  have hP : va_P D vwCl (ws ++ [(o, .inr (6, [.null, .int 0, .int 0, .int 0, .int 0, .null, .int 0, .int 0])), (q8, .inl (g 0, 160, .inl (fun _ => 0)))]) H := hP
  have hD : va_D A (ws ++ [(o, .inr (6, [.null, .int 0, .int 0, .int 0, .int 0, .null, .int 0, .int 0])), (q8, .inl (g 0, 160, .inl (fun _ => 0)))]) := hD
  refine W.widen (k := 1) (n := 160) (by omega) (by omega) ?_
  refine va_putF (D := D) (ci := 6) (v := .ref q8) (ty := .array .int) (C := RX6) (T := TX6) (N := 8) hx hb hts twX6 tyX6 tyX6_ok nmX6 hown hK hP hD hS ws.length (at_end ws _ _) rfl 5 (Nat.le_of_ble_eq_true rfl) (hts _ q_177) (fun _ h9 => h9) rfl hin rfl (by decide +kernel) rfl rfl (Nat.le_of_ble_eq_true rfl) dX6_init_10 (fun H locs hP hD hS => ?_)
  rw [set_end] at hP hD
  have hP : va_P D vwCl (ws ++ [(o, .inr (6, [.null, .int 0, .int 0, .int 0, .int 0, .ref q8, .int 0, .int 0])), (q8, .inl (g 0, 160, .inl (fun _ => 0)))]) H := hP
  have hD : va_D A (ws ++ [(o, .inr (6, [.null, .int 0, .int 0, .int 0, .int 0, .ref q8, .int 0, .int 0])), (q8, .inl (g 0, 160, .inl (fun _ => 0)))]) := hD
  exact W.vret hx hb B.returns (fun t ht hW => ⟨⟨(fun j => bif Nat.beq j 5 then q8 else 0), rfl, trivial, by rw [ht]; exact hP, va_K.moved hW.alike hK, hD⟩, hS.F ht⟩) hS.2.2 dX6_init_13 C.2.2.2.2.2.2.2.1
def wI7 (g : Nat → ClassId) (ws : va_W) (o : Nat) (al : Nat → Nat) : va_W := ws ++ [(o, .inr (7, [.ref (al 0), .ref (al 1), .ref (al 2), .int 0, .int 0, .int 0, .int 0, .int 0, .int 0, .int 0])), (al 0, .inl (g 0, 20, .inl (fun _ => 0))), (al 1, .inl (g 0, 20, .inl (fun _ => 0))), (al 2, .inl (g 0, 20, .inl (fun _ => 0)))]
set_option maxHeartbeats 4000000 in
set_option maxRecDepth 100000 in
theorem c_X7_init {l : Launch} {P : EP} {D : va_G} {g : Nat → ClassId} {ws : va_W} {o : Nat} (sz : Nat) : Met l yX7_init (.code yX7_init cX7_init 1 none :: Tw) { frames := 6, cells := 3, slots := 60, locals := 200 } (va_Pc [.ref o] (ctPreE P D (tyA g) (ws ++ [(o, .inr (7, [.null, .null, .null, .int 0, .int 0, .int 0, .int 0, .int 0, .int 0, .int 0]))]) sz)) (va_Qv (fun _ : Nat → Nat => True) (ctPostE P D (tyA g) (wI7 g ws o) (va_A (ws ++ [(o, .inr (7, [.null, .null, .null, .int 0, .int 0, .int 0, .int 0, .int 0, .int 0, .int 0]))]) sz)) (va_A (ws ++ [(o, .inr (7, [.null, .null, .null, .int 0, .int 0, .int 0, .int 0, .int 0, .int 0, .int 0]))]) sz)) 3 60 (va_A (ws ++ [(o, .inr (7, [.null, .null, .null, .int 0, .int 0, .int 0, .int 0, .int 0, .int 0, .int 0]))]) sz) := by
  refine Met.ofW (cc := cX7_init) (maxL := 1) (ret := none) (by decide) rfl ?_
  intro p e s m args below meth c s₁ B hml hv
  obtain ⟨rfl, hsz, hP, hK, hD0, hEC⟩ := hv
  subst hsz
  have hD := hD0.self (sz := s.heap.size)
  have hA : ∀ z : Nat, s.heap.size ≤ z → va_A (ws ++ [(o, .inr (7, [.null, .null, .null, .int 0, .int 0, .int 0, .int 0, .int 0, .int 0, .int 0]))]) s.heap.size z := fun z h => Or.inr h
  generalize va_A (ws ++ [(o, .inr (7, [.null, .null, .null, .int 0, .int 0, .int 0, .int 0, .int 0, .int 0, .int 0]))]) s.heap.size = A at hD hA hEC ⊢
  have C := CxE_of B hml hK hA hEC
  have hx := C.1
  have hb := C.2.1
  have hown := C.2.2.2.1
  have hts := C.2.2.2.2.1
  have hin : meth.name = "<init>" := (name_of_methodNamed B.named B.method).1
  have hS : va_S A s.heap s.heap [] := va_S.rf
  have hl := lv_entry ([.ref o]) (n := 1) (Nat.le_of_ble_eq_true rfl)
  rw [lg_entry_eq]
  generalize (lg_sl ([.ref o]) ++ List.replicate (1 - (lg_sl ([.ref o])).length) Slot.unset).toArray = ls at hl ⊢
  have hl : lv_has ls 1 [(0, .ref o)] := hl
  refine lv_aload_n hx hb dX7_init_0 rfl (lv_at hl 0 rfl) ?_
  refine W.objInit hx hb hown (hts (.methodLink RX7 3 objectInit) q_220) (hts (.instanceMethod objectInit) q_26) (hts (.code objectInit ⟨#[0xb1]⟩ 1 none) q_27) rfl (by rw [hml]; exact hl.1) rfl dX7_init_1 (by show _ ≤ 6; omega) (by show _ ≤ 200; exact Nat.le_of_ble_eq_true rfl) ?_
  refine W.eq (g2 := F0 m 4 ls []) rfl ?_
  refine lv_aload_n hx hb dX7_init_4 rfl (lv_at hl 0 rfl) ?_
  refine lv_bipush (v := 20) hx hb dX7_init_5 (by decide) ?_
  refine va_newa (atype := .int) (ty := .int) (N' := 20) (a0 := (20, .inl (fun _ => 0))) hx hb (hts _ q_53) rfl hK hP hD hS hA (fun _ => rfl) (by decide) (by decide) (by decide) (by show 0 + 1 ≤ 3; omega) (by show 0 + 20 ≤ 60; omega) dX7_init_7 (fun q7 cA H hK1 hP hD hS => ?_)
  have hc := K_same hK1
  subst hc
  rw [List.append_assoc] at hP hD
  have hP : va_P D vwCl (ws ++ [(o, .inr (7, [.null, .null, .null, .int 0, .int 0, .int 0, .int 0, .int 0, .int 0, .int 0])), (q7, .inl (g 0, 20, .inl (fun _ => 0)))]) H := hP
  have hD : va_D A (ws ++ [(o, .inr (7, [.null, .null, .null, .int 0, .int 0, .int 0, .int 0, .int 0, .int 0, .int 0])), (q7, .inl (g 0, 20, .inl (fun _ => 0)))]) := hD
  refine W.widen (k := 1) (n := 20) (by omega) (by omega) ?_
  refine va_putF (D := D) (ci := 7) (v := .ref q7) (ty := .array .int) (C := RX7) (T := TX7) (N := 10) hx hb hts twX7 tyX7 tyX7_ok nmX7 hown hK hP hD hS ws.length (at_end ws _ _) rfl 0 (Nat.le_of_ble_eq_true rfl) (hts _ q_221) (fun _ h9 => h9) rfl hin rfl (by decide +kernel) rfl rfl (Nat.le_of_ble_eq_true rfl) dX7_init_9 (fun H locs hP hD hS => ?_)
  rw [set_end] at hP hD
  have hP : va_P D vwCl (ws ++ [(o, .inr (7, [.ref q7, .null, .null, .int 0, .int 0, .int 0, .int 0, .int 0, .int 0, .int 0])), (q7, .inl (g 0, 20, .inl (fun _ => 0)))]) H := hP
  have hD : va_D A (ws ++ [(o, .inr (7, [.ref q7, .null, .null, .int 0, .int 0, .int 0, .int 0, .int 0, .int 0, .int 0])), (q7, .inl (g 0, 20, .inl (fun _ => 0)))]) := hD
  refine lv_aload_n hx hb dX7_init_12 rfl (lv_at hl 0 rfl) ?_
  refine lv_bipush (v := 20) hx hb dX7_init_13 (by decide) ?_
  refine va_newa (atype := .int) (ty := .int) (N' := 20) (a0 := (20, .inl (fun _ => 0))) hx hb (hts _ q_53) rfl hK hP hD hS hA (fun _ => rfl) (by decide) (by decide) (by decide) (by show 1 + 1 ≤ 3; omega) (by show 20 + 20 ≤ 60; omega) dX7_init_15 (fun q15 cA H hK1 hP hD hS => ?_)
  have hc := K_same hK1
  subst hc
  rw [List.append_assoc] at hP hD
  have hP : va_P D vwCl (ws ++ [(o, .inr (7, [.ref q7, .null, .null, .int 0, .int 0, .int 0, .int 0, .int 0, .int 0, .int 0])), (q7, .inl (g 0, 20, .inl (fun _ => 0))), (q15, .inl (g 0, 20, .inl (fun _ => 0)))]) H := hP
  have hD : va_D A (ws ++ [(o, .inr (7, [.ref q7, .null, .null, .int 0, .int 0, .int 0, .int 0, .int 0, .int 0, .int 0])), (q7, .inl (g 0, 20, .inl (fun _ => 0))), (q15, .inl (g 0, 20, .inl (fun _ => 0)))]) := hD
  refine W.widen (k := 2) (n := 40) (by omega) (by omega) ?_
  refine va_putF (D := D) (ci := 7) (v := .ref q15) (ty := .array .int) (C := RX7) (T := TX7) (N := 10) hx hb hts twX7 tyX7 tyX7_ok nmX7 hown hK hP hD hS ws.length (at_end ws _ _) rfl 1 (Nat.le_of_ble_eq_true rfl) (hts _ q_223) (fun _ h9 => h9) rfl hin rfl (by decide +kernel) rfl rfl (Nat.le_of_ble_eq_true rfl) dX7_init_17 (fun H locs hP hD hS => ?_)
  rw [set_end] at hP hD
  have hP : va_P D vwCl (ws ++ [(o, .inr (7, [.ref q7, .ref q15, .null, .int 0, .int 0, .int 0, .int 0, .int 0, .int 0, .int 0])), (q7, .inl (g 0, 20, .inl (fun _ => 0))), (q15, .inl (g 0, 20, .inl (fun _ => 0)))]) H := hP
  have hD : va_D A (ws ++ [(o, .inr (7, [.ref q7, .ref q15, .null, .int 0, .int 0, .int 0, .int 0, .int 0, .int 0, .int 0])), (q7, .inl (g 0, 20, .inl (fun _ => 0))), (q15, .inl (g 0, 20, .inl (fun _ => 0)))]) := hD
  refine lv_aload_n hx hb dX7_init_20 rfl (lv_at hl 0 rfl) ?_
  refine lv_bipush (v := 20) hx hb dX7_init_21 (by decide) ?_
  refine va_newa (atype := .int) (ty := .int) (N' := 20) (a0 := (20, .inl (fun _ => 0))) hx hb (hts _ q_53) rfl hK hP hD hS hA (fun _ => rfl) (by decide) (by decide) (by decide) (by show 2 + 1 ≤ 3; omega) (by show 40 + 20 ≤ 60; omega) dX7_init_23 (fun q23 cA H hK1 hP hD hS => ?_)
  have hc := K_same hK1
  subst hc
  rw [List.append_assoc] at hP hD
  have hP : va_P D vwCl (ws ++ [(o, .inr (7, [.ref q7, .ref q15, .null, .int 0, .int 0, .int 0, .int 0, .int 0, .int 0, .int 0])), (q7, .inl (g 0, 20, .inl (fun _ => 0))), (q15, .inl (g 0, 20, .inl (fun _ => 0))), (q23, .inl (g 0, 20, .inl (fun _ => 0)))]) H := hP
  have hD : va_D A (ws ++ [(o, .inr (7, [.ref q7, .ref q15, .null, .int 0, .int 0, .int 0, .int 0, .int 0, .int 0, .int 0])), (q7, .inl (g 0, 20, .inl (fun _ => 0))), (q15, .inl (g 0, 20, .inl (fun _ => 0))), (q23, .inl (g 0, 20, .inl (fun _ => 0)))]) := hD
  refine W.widen (k := 3) (n := 60) (by omega) (by omega) ?_
  refine va_putF (D := D) (ci := 7) (v := .ref q23) (ty := .array .int) (C := RX7) (T := TX7) (N := 10) hx hb hts twX7 tyX7 tyX7_ok nmX7 hown hK hP hD hS ws.length (at_end ws _ _) rfl 2 (Nat.le_of_ble_eq_true rfl) (hts _ q_225) (fun _ h9 => h9) rfl hin rfl (by decide +kernel) rfl rfl (Nat.le_of_ble_eq_true rfl) dX7_init_25 (fun H locs hP hD hS => ?_)
  rw [set_end] at hP hD
  have hP : va_P D vwCl (ws ++ [(o, .inr (7, [.ref q7, .ref q15, .ref q23, .int 0, .int 0, .int 0, .int 0, .int 0, .int 0, .int 0])), (q7, .inl (g 0, 20, .inl (fun _ => 0))), (q15, .inl (g 0, 20, .inl (fun _ => 0))), (q23, .inl (g 0, 20, .inl (fun _ => 0)))]) H := hP
  have hD : va_D A (ws ++ [(o, .inr (7, [.ref q7, .ref q15, .ref q23, .int 0, .int 0, .int 0, .int 0, .int 0, .int 0, .int 0])), (q7, .inl (g 0, 20, .inl (fun _ => 0))), (q15, .inl (g 0, 20, .inl (fun _ => 0))), (q23, .inl (g 0, 20, .inl (fun _ => 0)))]) := hD
  exact W.vret hx hb B.returns (fun t ht hW => ⟨⟨(fun j => bif Nat.beq j 0 then q7 else bif Nat.beq j 1 then q15 else bif Nat.beq j 2 then q23 else 0), rfl, trivial, by rw [ht]; exact hP, va_K.moved hW.alike hK, hD⟩, hS.F ht⟩) hS.2.2 dX7_init_28 C.2.2.2.2.2.2.2.1
