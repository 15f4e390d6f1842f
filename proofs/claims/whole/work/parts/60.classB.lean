set_option maxHeartbeats 4000000 in
set_option maxRecDepth 100000 in
theorem c_X9_init {l : Launch} {P : EP} {D : va_G} {g : Nat → ClassId} {o : Nat} : Cn l P D (tyA g) E9 ([(o, .inr (9, [.null, .null, .null, .null, .null, .null, .null, .null, .null, .int 0]))]) (fun u : (Nat → Nat) × (Nat → Nat → Nat) × KC => wC u.1 u.2.1 g u.2.2) yX9_init cX9_init 2 { frames := 10, cells := 53, slots := 1164, locals := 400 } [.ref o] (fun u => u.1 0 = o ∧ K0ok u.2.2) 53 1164 := by
  intro sz
  refine Met.ofW (cc := cX9_init) (maxL := 2) (ret := none) (by decide) rfl ?_
  intro p e s m args below meth c s₁ B hml hv
  obtain ⟨rfl, ⟨hsz, hP, hK, hD0, hEC⟩, hE⟩ := hv
  subst hsz
  have hD := hD0.self (sz := s.heap.size)
  have hA : ∀ z : Nat, s.heap.size ≤ z → va_A ([(o, .inr (9, [.null, .null, .null, .null, .null, .null, .null, .null, .null, .int 0]))]) s.heap.size z := fun z h => Or.inr h
  generalize va_A ([(o, .inr (9, [.null, .null, .null, .null, .null, .null, .null, .null, .null, .int 0]))]) s.heap.size = A at hD hA hEC ⊢
  have C := CxE_of B hml hK hA hEC
  have hx := C.1
  have hb := C.2.1
  have hown := C.2.2.2.1
  have hts := C.2.2.2.2.1
  have hin : meth.name = "<init>" := (name_of_methodNamed B.named B.method).1
  have hS : va_S A s.heap s.heap [] := va_S.rf
  have hl := lv_entry ([.ref o]) (n := 2) (Nat.le_of_ble_eq_true rfl)
  rw [lg_entry_eq]
  generalize (lg_sl ([.ref o]) ++ List.replicate (2 - (lg_sl ([.ref o])).length) Slot.unset).toArray = ls at hl ⊢
  have hl : lv_has ls 2 [(0, .ref o)] := hl
  have hd : Hd D ([(o, .inr (9, [.null, .null, .null, .null, .null, .null, .null, .null, .null, .int 0]))]) A s s.heap [] := ⟨hP, hD, hS⟩
  clear hP hD hS
  refine lv_aload_n hx hb dX9_init_0 rfl (lv_at hl 0 rfl) ?_
  refine W.objInit hx hb hown (hts (.methodLink RX9 1 objectInit) q_25) (hts (.instanceMethod objectInit) q_26) (hts (.code objectInit ⟨#[0xb1]⟩ 1 none) q_27) rfl (by rw [hml]; exact hl.1) rfl dX9_init_1 (by show _ ≤ 10; omega) (by show _ ≤ 400; exact Nat.le_of_ble_eq_true rfl) ?_
  refine W.eq (g2 := F0 m 4 ls []) rfl ?_
  refine lv_aload_n hx hb dX9_init_4 rfl (lv_at hl 0 rfl) ?_
  refine va_new (ci := 8) (fs := [.int 0, .int 0, .int 0, .null, .null, .null, .null, .null, .null, .null, .null]) (C := RX8) (T := TX8) (N := 11) hx hb hts twX8 tyX8 tyX8_ok hown (hts _ q_28) (hts _ q_29) (hts _ q_2) hK hd.1 hd.2.1 hd.2.2 hA rfl (fun j hj => dfl_8 hj) (by show 0 + 1 ≤ 53; omega) (by show 0 + 11 ≤ 1164; omega) dX9_init_5 (fun q5 H hP hD hS => ?_)
  have hd : Hd D (((o, .inr (9, [.null, .null, .null, .null, .null, .null, .null, .null, .null, .int 0])) :: []) ++ [(q5, .inr (8, [.int 0, .int 0, .int 0, .null, .null, .null, .null, .null, .null, .null, .null]))]) A s _ _ := ⟨hP, hD, hS⟩
  clear hP hD hS
  refine lv_dup hx hb dX9_init_8 rfl ?_
  refine ci_v C hd cwX9_X8 (c_X8_init (P := P) (D := D) (g := g)) E8_ev hE.1 rfl rfl ⟨by decide, by decide⟩ hl.1 rfl rfl (Nat.le_of_ble_eq_true rfl) ⟨by show 0 + 1 + 11 ≤ 53; omega, by show 0 + 11 + 289 ≤ 1164; omega⟩ dX9_init_9 (fun u5 H locs _ hd => ?_)
  obtain ⟨V1, eV1⟩ : ∃ z, z = [] ++ cl8 g q5 u5 := ⟨_, rfl⟩
  have hd : Hd D ((o, .inr (9, [.null, .null, .null, .null, .null, .null, .null, .null, .null, .int 0])) :: V1) A s H locs := by rw [eV1]; exact hd
  refine W.widen (k := 12) (n := 300) (by omega) (by omega) ?_
  refine va_putF (D := D) (ci := 9) (v := .ref q5) (ty := .object RX8) (C := RX9) (T := TX9) (N := 10) hx hb hts twX9 tyX9 tyX9_ok nmX9 hown hK hd.1 hd.2.1 hd.2.2 0 rfl rfl 0 (Nat.le_of_ble_eq_true rfl) (hts _ q_279) (fun _ h9 => h9) rfl hin rfl (by decide +kernel) rfl rfl (Nat.le_of_ble_eq_true rfl) dX9_init_12 (fun H locs hP hD hS => ?_)
  have hd : Hd D ((o, .inr (9, [.ref q5, .null, .null, .null, .null, .null, .null, .null, .null, .int 0])) :: V1) A s _ _ := ⟨hP, hD, hS⟩
  clear hP hD hS
  refine lv_aload_n hx hb dX9_init_15 rfl (lv_at hl 0 rfl) ?_
  refine va_new (ci := 0) (fs := [.null, .null, .null, .null, .null, .null, .null, .int 0, .int 0, .int 0, .int 0]) (C := RX0) (T := TX0) (N := 11) hx hb hts twX0 tyX0 tyX0_ok hown (hts _ q_104) (hts _ q_105) (hts _ q_5) hK hd.1 hd.2.1 hd.2.2 hA rfl (fun j hj => dfl_0 hj) (by show 12 + 1 ≤ 53; omega) (by show 300 + 11 ≤ 1164; omega) dX9_init_16 (fun q16 H hP hD hS => ?_)
  have hd : Hd D (((o, .inr (9, [.ref q5, .null, .null, .null, .null, .null, .null, .null, .null, .int 0])) :: V1) ++ [(q16, .inr (0, [.null, .null, .null, .null, .null, .null, .null, .int 0, .int 0, .int 0, .int 0]))]) A s _ _ := ⟨hP, hD, hS⟩
  clear hP hD hS
  refine lv_dup hx hb dX9_init_19 rfl ?_
  refine lv_aload_n hx hb dX9_init_20 rfl (lv_at hl 0 rfl) ?_
  refine va_get (D := D) (ci := 9) (v := .ref q5) (C := RX9) (T := TX9) (N := 10) hx hb hts twX9 hown hK hd.1 0 rfl rfl 0 (Nat.le_of_ble_eq_true rfl) (hts _ q_279) (fun _ h9 => h9) rfl dX9_init_21 ?_
  refine ci_v C hd cwX9_X0 (Cn.of (c_X0_init (P := P) (D := D) (g := g) (x1 := q5))) Evw.tr trivial rfl rfl ⟨by decide, by decide⟩ hl.1 rfl rfl (Nat.le_of_ble_eq_true rfl) ⟨by show 12 + 1 + 6 ≤ 53; omega, by show 300 + 11 + 68 ≤ 1164; omega⟩ dX9_init_24 (fun u16 H locs _ hd => ?_)
  obtain ⟨V2, eV2⟩ : ∃ z, z = V1 ++ cl0 g q16 q5 u16 := ⟨_, rfl⟩
  have hd : Hd D ((o, .inr (9, [.ref q5, .null, .null, .null, .null, .null, .null, .null, .null, .int 0])) :: V2) A s H locs := by rw [eV2]; exact hd
  refine W.widen (k := 19) (n := 379) (by omega) (by omega) ?_
  refine va_putF (D := D) (ci := 9) (v := .ref q16) (ty := .object RX0) (C := RX9) (T := TX9) (N := 10) hx hb hts twX9 tyX9 tyX9_ok nmX9 hown hK hd.1 hd.2.1 hd.2.2 0 rfl rfl 1 (Nat.le_of_ble_eq_true rfl) (hts _ q_280) (fun _ h9 => h9) rfl hin rfl (by decide +kernel) rfl rfl (Nat.le_of_ble_eq_true rfl) dX9_init_27 (fun H locs hP hD hS => ?_)
  have hd : Hd D ((o, .inr (9, [.ref q5, .ref q16, .null, .null, .null, .null, .null, .null, .null, .int 0])) :: V2) A s _ _ := ⟨hP, hD, hS⟩
  clear hP hD hS
  refine lv_aload_n hx hb dX9_init_30 rfl (lv_at hl 0 rfl) ?_
  refine va_new (ci := 0) (fs := [.null, .null, .null, .null, .null, .null, .null, .int 0, .int 0, .int 0, .int 0]) (C := RX0) (T := TX0) (N := 11) hx hb hts twX0 tyX0 tyX0_ok hown (hts _ q_104) (hts _ q_105) (hts _ q_5) hK hd.1 hd.2.1 hd.2.2 hA rfl (fun j hj => dfl_0 hj) (by show 19 + 1 ≤ 53; omega) (by show 379 + 11 ≤ 1164; omega) dX9_init_31 (fun q31 H hP hD hS => ?_)
  have hd : Hd D (((o, .inr (9, [.ref q5, .ref q16, .null, .null, .null, .null, .null, .null, .null, .int 0])) :: V2) ++ [(q31, .inr (0, [.null, .null, .null, .null, .null, .null, .null, .int 0, .int 0, .int 0, .int 0]))]) A s _ _ := ⟨hP, hD, hS⟩
  clear hP hD hS
  refine lv_dup hx hb dX9_init_34 rfl ?_
  refine lv_aload_n hx hb dX9_init_35 rfl (lv_at hl 0 rfl) ?_
  refine va_get (D := D) (ci := 9) (v := .ref q5) (C := RX9) (T := TX9) (N := 10) hx hb hts twX9 hown hK hd.1 0 rfl rfl 0 (Nat.le_of_ble_eq_true rfl) (hts _ q_279) (fun _ h9 => h9) rfl dX9_init_36 ?_
  refine ci_v C hd cwX9_X0 (Cn.of (c_X0_init (P := P) (D := D) (g := g) (x1 := q5))) Evw.tr trivial rfl rfl ⟨by decide, by decide⟩ hl.1 rfl rfl (Nat.le_of_ble_eq_true rfl) ⟨by show 19 + 1 + 6 ≤ 53; omega, by show 379 + 11 + 68 ≤ 1164; omega⟩ dX9_init_39 (fun u31 H locs _ hd => ?_)
  obtain ⟨V3, eV3⟩ : ∃ z, z = V2 ++ cl0 g q31 q5 u31 := ⟨_, rfl⟩
  have hd : Hd D ((o, .inr (9, [.ref q5, .ref q16, .null, .null, .null, .null, .null, .null, .null, .int 0])) :: V3) A s H locs := by rw [eV3]; exact hd
  refine W.widen (k := 26) (n := 458) (by omega) (by omega) ?_
  refine va_putF (D := D) (ci := 9) (v := .ref q31) (ty := .object RX0) (C := RX9) (T := TX9) (N := 10) hx hb hts twX9 tyX9 tyX9_ok nmX9 hown hK hd.1 hd.2.1 hd.2.2 0 rfl rfl 2 (Nat.le_of_ble_eq_true rfl) (hts _ q_281) (fun _ h9 => h9) rfl hin rfl (by decide +kernel) rfl rfl (Nat.le_of_ble_eq_true rfl) dX9_init_42 (fun H locs hP hD hS => ?_)
  have hd : Hd D ((o, .inr (9, [.ref q5, .ref q16, .ref q31, .null, .null, .null, .null, .null, .null, .int 0])) :: V3) A s _ _ := ⟨hP, hD, hS⟩
  clear hP hD hS
  refine lv_aload_n hx hb dX9_init_45 rfl (lv_at hl 0 rfl) ?_
  refine va_new (ci := 0) (fs := [.null, .null, .null, .null, .null, .null, .null, .int 0, .int 0, .int 0, .int 0]) (C := RX0) (T := TX0) (N := 11) hx hb hts twX0 tyX0 tyX0_ok hown (hts _ q_104) (hts _ q_105) (hts _ q_5) hK hd.1 hd.2.1 hd.2.2 hA rfl (fun j hj => dfl_0 hj) (by show 26 + 1 ≤ 53; omega) (by show 458 + 11 ≤ 1164; omega) dX9_init_46 (fun q46 H hP hD hS => ?_)
  have hd : Hd D (((o, .inr (9, [.ref q5, .ref q16, .ref q31, .null, .null, .null, .null, .null, .null, .int 0])) :: V3) ++ [(q46, .inr (0, [.null, .null, .null, .null, .null, .null, .null, .int 0, .int 0, .int 0, .int 0]))]) A s _ _ := ⟨hP, hD, hS⟩
  clear hP hD hS
  refine lv_dup hx hb dX9_init_49 rfl ?_
  refine lv_aload_n hx hb dX9_init_50 rfl (lv_at hl 0 rfl) ?_
  refine va_get (D := D) (ci := 9) (v := .ref q5) (C := RX9) (T := TX9) (N := 10) hx hb hts twX9 hown hK hd.1 0 rfl rfl 0 (Nat.le_of_ble_eq_true rfl) (hts _ q_279) (fun _ h9 => h9) rfl dX9_init_51 ?_
  refine ci_v C hd cwX9_X0 (Cn.of (c_X0_init (P := P) (D := D) (g := g) (x1 := q5))) Evw.tr trivial rfl rfl ⟨by decide, by decide⟩ hl.1 rfl rfl (Nat.le_of_ble_eq_true rfl) ⟨by show 26 + 1 + 6 ≤ 53; omega, by show 458 + 11 + 68 ≤ 1164; omega⟩ dX9_init_54 (fun u46 H locs _ hd => ?_)
  obtain ⟨V4, eV4⟩ : ∃ z, z = V3 ++ cl0 g q46 q5 u46 := ⟨_, rfl⟩
  have hd : Hd D ((o, .inr (9, [.ref q5, .ref q16, .ref q31, .null, .null, .null, .null, .null, .null, .int 0])) :: V4) A s H locs := by rw [eV4]; exact hd
  refine W.widen (k := 33) (n := 537) (by omega) (by omega) ?_
  refine va_putF (D := D) (ci := 9) (v := .ref q46) (ty := .object RX0) (C := RX9) (T := TX9) (N := 10) hx hb hts twX9 tyX9 tyX9_ok nmX9 hown hK hd.1 hd.2.1 hd.2.2 0 rfl rfl 3 (Nat.le_of_ble_eq_true rfl) (hts _ q_282) (fun _ h9 => h9) rfl hin rfl (by decide +kernel) rfl rfl (Nat.le_of_ble_eq_true rfl) dX9_init_57 (fun H locs hP hD hS => ?_)
  have hd : Hd D ((o, .inr (9, [.ref q5, .ref q16, .ref q31, .ref q46, .null, .null, .null, .null, .null, .int 0])) :: V4) A s _ _ := ⟨hP, hD, hS⟩
  clear hP hD hS
  refine lv_aload_n hx hb dX9_init_60 rfl (lv_at hl 0 rfl) ?_
  refine va_new (ci := 4) (fs := [.null, .int 0]) (C := RX4) (T := TX4) (N := 2) hx hb hts twX4 tyX4 tyX4_ok hown (hts _ q_151) (hts _ q_152) (hts _ q_6) hK hd.1 hd.2.1 hd.2.2 hA rfl (fun j hj => dfl_4 hj) (by show 33 + 1 ≤ 53; omega) (by show 537 + 2 ≤ 1164; omega) dX9_init_61 (fun q61 H hP hD hS => ?_)
  have hd : Hd D (((o, .inr (9, [.ref q5, .ref q16, .ref q31, .ref q46, .null, .null, .null, .null, .null, .int 0])) :: V4) ++ [(q61, .inr (4, [.null, .int 0]))]) A s _ _ := ⟨hP, hD, hS⟩
  clear hP hD hS
  refine lv_dup hx hb dX9_init_64 rfl ?_
  refine ciN_v C hd cwX9_X4 (Cn.of (c_X4_init (P := P) (D := D) (g := g))) Evw.tr trivial rfl rfl ⟨by decide, by decide⟩ hl.1 rfl rfl (Nat.le_of_ble_eq_true rfl) ⟨by show 33 + 1 + 1 ≤ 53; omega, by show 537 + 2 + 160 ≤ 1164; omega⟩ dX9_init_65 (fun u61 H locs _ hd => ?_)
  obtain ⟨V5, eV5⟩ : ∃ z, z = V4 ++ cl4 g q61 u61 := ⟨_, rfl⟩
  have hd : Hd D ((o, .inr (9, [.ref q5, .ref q16, .ref q31, .ref q46, .null, .null, .null, .null, .null, .int 0])) :: V5) A s H locs := by rw [eV5]; exact hd
  refine W.widen (k := 35) (n := 699) (by omega) (by omega) ?_
  refine va_putF (D := D) (ci := 9) (v := .ref q61) (ty := .object RX4) (C := RX9) (T := TX9) (N := 10) hx hb hts twX9 tyX9 tyX9_ok nmX9 hown hK hd.1 hd.2.1 hd.2.2 0 rfl rfl 4 (Nat.le_of_ble_eq_true rfl) (hts _ q_283) (fun _ h9 => h9) rfl hin rfl (by decide +kernel) rfl rfl (Nat.le_of_ble_eq_true rfl) dX9_init_68 (fun H locs hP hD hS => ?_)
  have hd : Hd D ((o, .inr (9, [.ref q5, .ref q16, .ref q31, .ref q46, .ref q61, .null, .null, .null, .null, .int 0])) :: V5) A s _ _ := ⟨hP, hD, hS⟩
  clear hP hD hS
  refine lv_aload_n hx hb dX9_init_71 rfl (lv_at hl 0 rfl) ?_
  refine va_new (ci := 6) (fs := [.null, .int 0, .int 0, .int 0, .int 0, .null, .int 0, .int 0]) (C := RX6) (T := TX6) (N := 8) hx hb hts twX6 tyX6 tyX6_ok hown (hts _ q_166) (hts _ q_167) (hts _ q_7) hK hd.1 hd.2.1 hd.2.2 hA rfl (fun j hj => dfl_6 hj) (by show 35 + 1 ≤ 53; omega) (by show 699 + 8 ≤ 1164; omega) dX9_init_72 (fun q72 H hP hD hS => ?_)
  have hd : Hd D (((o, .inr (9, [.ref q5, .ref q16, .ref q31, .ref q46, .ref q61, .null, .null, .null, .null, .int 0])) :: V5) ++ [(q72, .inr (6, [.null, .int 0, .int 0, .int 0, .int 0, .null, .int 0, .int 0]))]) A s _ _ := ⟨hP, hD, hS⟩
  clear hP hD hS
  refine lv_dup hx hb dX9_init_75 rfl ?_
  refine ciN_v C hd cwX9_X6 (Cn.of (c_X6_init (P := P) (D := D) (g := g))) Evw.tr trivial rfl rfl ⟨by decide, by decide⟩ hl.1 rfl rfl (Nat.le_of_ble_eq_true rfl) ⟨by show 35 + 1 + 1 ≤ 53; omega, by show 699 + 8 + 160 ≤ 1164; omega⟩ dX9_init_76 (fun u72 H locs _ hd => ?_)
  obtain ⟨V6, eV6⟩ : ∃ z, z = V5 ++ cl6 g q72 u72 := ⟨_, rfl⟩
  have hd : Hd D ((o, .inr (9, [.ref q5, .ref q16, .ref q31, .ref q46, .ref q61, .null, .null, .null, .null, .int 0])) :: V6) A s H locs := by rw [eV6]; exact hd
  refine W.widen (k := 37) (n := 867) (by omega) (by omega) ?_
  refine va_putF (D := D) (ci := 9) (v := .ref q72) (ty := .object RX6) (C := RX9) (T := TX9) (N := 10) hx hb hts twX9 tyX9 tyX9_ok nmX9 hown hK hd.1 hd.2.1 hd.2.2 0 rfl rfl 5 (Nat.le_of_ble_eq_true rfl) (hts _ q_284) (fun _ h9 => h9) rfl hin rfl (by decide +kernel) rfl rfl (Nat.le_of_ble_eq_true rfl) dX9_init_79 (fun H locs hP hD hS => ?_)
  have hd : Hd D ((o, .inr (9, [.ref q5, .ref q16, .ref q31, .ref q46, .ref q61, .ref q72, .null, .null, .null, .int 0])) :: V6) A s _ _ := ⟨hP, hD, hS⟩
  clear hP hD hS
  refine lv_aload_n hx hb dX9_init_82 rfl (lv_at hl 0 rfl) ?_
  refine va_new (ci := 2) (fs := [.null, .null, .int 0]) (C := RX2) (T := TX2) (N := 3) hx hb hts twX2 tyX2 tyX2_ok hown (hts _ q_198) (hts _ q_199) (hts _ q_8) hK hd.1 hd.2.1 hd.2.2 hA rfl (fun j hj => dfl_2 hj) (by show 37 + 1 ≤ 53; omega) (by show 867 + 3 ≤ 1164; omega) dX9_init_83 (fun q83 H hP hD hS => ?_)
  have hd : Hd D (((o, .inr (9, [.ref q5, .ref q16, .ref q31, .ref q46, .ref q61, .ref q72, .null, .null, .null, .int 0])) :: V6) ++ [(q83, .inr (2, [.null, .null, .int 0]))]) A s _ _ := ⟨hP, hD, hS⟩
  clear hP hD hS
  refine lv_dup hx hb dX9_init_86 rfl ?_
  refine ciN_v C hd cwX9_X2 (Cn.of (c_X2_init (P := P) (D := D) (g := g))) Evw.tr trivial rfl rfl ⟨by decide, by decide⟩ hl.1 rfl rfl (Nat.le_of_ble_eq_true rfl) ⟨by show 37 + 1 + 2 ≤ 53; omega, by show 867 + 3 + 48 ≤ 1164; omega⟩ dX9_init_87 (fun u83 H locs _ hd => ?_)
  obtain ⟨V7, eV7⟩ : ∃ z, z = V6 ++ cl2 g q83 u83 := ⟨_, rfl⟩
  have hd : Hd D ((o, .inr (9, [.ref q5, .ref q16, .ref q31, .ref q46, .ref q61, .ref q72, .null, .null, .null, .int 0])) :: V7) A s H locs := by rw [eV7]; exact hd
  refine W.widen (k := 40) (n := 918) (by omega) (by omega) ?_
  refine va_putF (D := D) (ci := 9) (v := .ref q83) (ty := .object RX2) (C := RX9) (T := TX9) (N := 10) hx hb hts twX9 tyX9 tyX9_ok nmX9 hown hK hd.1 hd.2.1 hd.2.2 0 rfl rfl 6 (Nat.le_of_ble_eq_true rfl) (hts _ q_285) (fun _ h9 => h9) rfl hin rfl (by decide +kernel) rfl rfl (Nat.le_of_ble_eq_true rfl) dX9_init_90 (fun H locs hP hD hS => ?_)
  have hd : Hd D ((o, .inr (9, [.ref q5, .ref q16, .ref q31, .ref q46, .ref q61, .ref q72, .ref q83, .null, .null, .int 0])) :: V7) A s _ _ := ⟨hP, hD, hS⟩
  clear hP hD hS
  refine lv_aload_n hx hb dX9_init_93 rfl (lv_at hl 0 rfl) ?_
  refine va_new (ci := 7) (fs := [.null, .null, .null, .int 0, .int 0, .int 0, .int 0, .int 0, .int 0, .int 0]) (C := RX7) (T := TX7) (N := 10) hx hb hts twX7 tyX7 tyX7_ok hown (hts _ q_215) (hts _ q_216) (hts _ q_9) hK hd.1 hd.2.1 hd.2.2 hA rfl (fun j hj => dfl_7 hj) (by show 40 + 1 ≤ 53; omega) (by show 918 + 10 ≤ 1164; omega) dX9_init_94 (fun q94 H hP hD hS => ?_)
  have hd : Hd D (((o, .inr (9, [.ref q5, .ref q16, .ref q31, .ref q46, .ref q61, .ref q72, .ref q83, .null, .null, .int 0])) :: V7) ++ [(q94, .inr (7, [.null, .null, .null, .int 0, .int 0, .int 0, .int 0, .int 0, .int 0, .int 0]))]) A s _ _ := ⟨hP, hD, hS⟩
  clear hP hD hS
  refine lv_dup hx hb dX9_init_97 rfl ?_
  refine ciN_v C hd cwX9_X7 (Cn.of (c_X7_init (P := P) (D := D) (g := g))) Evw.tr trivial rfl rfl ⟨by decide, by decide⟩ hl.1 rfl rfl (Nat.le_of_ble_eq_true rfl) ⟨by show 40 + 1 + 3 ≤ 53; omega, by show 918 + 10 + 60 ≤ 1164; omega⟩ dX9_init_98 (fun u94 H locs _ hd => ?_)
  obtain ⟨V8, eV8⟩ : ∃ z, z = V7 ++ cl7 g q94 u94 := ⟨_, rfl⟩
  have hd : Hd D ((o, .inr (9, [.ref q5, .ref q16, .ref q31, .ref q46, .ref q61, .ref q72, .ref q83, .null, .null, .int 0])) :: V8) A s H locs := by rw [eV8]; exact hd
  refine W.widen (k := 44) (n := 988) (by omega) (by omega) ?_
  refine va_putF (D := D) (ci := 9) (v := .ref q94) (ty := .object RX7) (C := RX9) (T := TX9) (N := 10) hx hb hts twX9 tyX9 tyX9_ok nmX9 hown hK hd.1 hd.2.1 hd.2.2 0 rfl rfl 7 (Nat.le_of_ble_eq_true rfl) (hts _ q_286) (fun _ h9 => h9) rfl hin rfl (by decide +kernel) rfl rfl (Nat.le_of_ble_eq_true rfl) dX9_init_101 (fun H locs hP hD hS => ?_)
  have hd : Hd D ((o, .inr (9, [.ref q5, .ref q16, .ref q31, .ref q46, .ref q61, .ref q72, .ref q83, .ref q94, .null, .int 0])) :: V8) A s _ _ := ⟨hP, hD, hS⟩
  clear hP hD hS
  refine lv_aload_n hx hb dX9_init_104 rfl (lv_at hl 0 rfl) ?_
  refine lv_iconst (v := 4) hx hb dX9_init_105 (by decide) ?_
  refine va_newq (C := RX3) hx hb hown (hts _ q_260) hE.2 hK hd.1 hd.2.1 hd.2.2 hA (N' := 4) (by decide) (by decide) (by decide) (by show 44 + 1 ≤ 53; omega) (by show 988 + 4 ≤ 1164; omega) dX9_init_106 (fun r cA H hK1 hP hD hS => ?_)
  have hc := K_obj (i := 5) (j := 3) hK1 rfl rfl
  subst hc
  have hd : Hd D ((o, .inr (9, [.ref q5, .ref q16, .ref q31, .ref q46, .ref q61, .ref q72, .ref q83, .ref q94, .null, .int 0])) :: (r, .inl (g 3, 4, .inr (.inr (.inr (.inr (fun _ => none)))))) :: V8) A s _ _ := Hd.perm ⟨hP, hD, hS⟩ (pmS _ _ _)
  clear hP hD hS hK1
  refine W.widen (k := 45) (n := 992) (by omega) (by omega) ?_
  refine va_putF (D := D) (ci := 9) (v := .ref r) (ty := .array (.object RX3)) (C := RX9) (T := TX9) (N := 10) hx hb hts twX9 tyX9 tyX9_ok nmX9 hown hK hd.1 hd.2.1 hd.2.2 0 rfl rfl 8 (Nat.le_of_ble_eq_true rfl) (hts _ q_287) (fun _ h9 => h9) rfl hin rfl (by decide +kernel) rfl rfl (Nat.le_of_ble_eq_true rfl) dX9_init_109 (fun H locs hP hD hS => ?_)
  have hd : Hd D ((o, .inr (9, [.ref q5, .ref q16, .ref q31, .ref q46, .ref q61, .ref q72, .ref q83, .ref q94, .ref r, .int 0])) :: (r, .inl (g 3, 4, .inr (.inr (.inr (.inr (fun _ => none)))))) :: V8) A s _ _ := ⟨hP, hD, hS⟩
  clear hP hD hS
  refine lv_iconst (v := 0) hx hb dX9_init_112 (by decide) ?_
  refine lv_istore_n (lv' := [(1, .int (nI 0)), (0, .ref o)]) hx hb dX9_init_113 rfl hl (by decide) rfl (fun ls hl => ?_)
  replace hl := lv_sub hl [1, 0] rfl
  refine sheetStep (i := 0) C hA (by decide) hd hl (by omega) (by omega) (fun s0 y0 H locs ls hd hl => ?_)
  refine W.widen (k := 47) (n := 1035) (by omega) (by omega) ?_
  refine sheetStep (i := 1) C hA (by decide) hd hl (by omega) (by omega) (fun s1 y1 H locs ls hd hl => ?_)
  refine W.widen (k := 49) (n := 1078) (by omega) (by omega) ?_
  refine sheetStep (i := 2) C hA (by decide) hd hl (by omega) (by omega) (fun s2 y2 H locs ls hd hl => ?_)
  refine W.widen (k := 51) (n := 1121) (by omega) (by omega) ?_
  refine sheetStep (i := 3) C hA (by decide) hd hl (by omega) (by omega) (fun s3 y3 H locs ls hd hl => ?_)
  refine W.widen (k := 53) (n := 1164) (by omega) (by omega) ?_
  refine lv_iload_n hx hb dX9_init_114 rfl (lv_at hl 1 rfl) ?_
  refine lv_iconst (v := 4) hx hb dX9_init_115 (by decide) ?_
  refine lv_icmp_ge (tgt := 138) hx hb dX9_init_116 (by decide) (fun _ => ?_) (fun c1 => absurd (by decide) c1)
  refine lv_aload_n hx hb dX9_init_138 rfl (lv_at hl 0 rfl) ?_
  refine lv_iconst (v := -1) hx hb dX9_init_139 (by decide) ?_
  refine va_put (D := D) (ci := 9) (v := .int (-1)) (ty := .int) (C := RX9) (T := TX9) (N := 10) hx hb hts twX9 tyX9 tyX9_ok nmX9 hown hK hd.1 hd.2.1 hd.2.2 0 rfl rfl 9 (Nat.le_of_ble_eq_true rfl) (hts _ q_288) (fun _ h9 => h9) rfl (by decide +kernel) rfl rfl (Nat.le_of_ble_eq_true rfl) dX9_init_140 (fun H locs hP hD hS => ?_)
  have hd : Hd D ((o, .inr (9, [.ref q5, .ref q16, .ref q31, .ref q46, .ref q61, .ref q72, .ref q83, .ref q94, .ref r, .int (-1)])) :: (r, .inl (g 3, 4, .inr (.inr (.inr (.inr (va_up (va_up (va_up (va_up (fun _ => none) 0 (some s0)) 1 (some s1)) 2 (some s2)) 3 (some s3))))))) :: ((((V8 ++ cl3 g s0 y0) ++ cl3 g s1 y1) ++ cl3 g s2 y2) ++ cl3 g s3 y3)) A s _ _ := ⟨hP, hD, hS⟩
  clear hP hD hS
  replace hd := Hd.swap1 (y' := (r, .inl (g 3, 4, .inr (.inr (.inr (.inr (fun n => some ((aC0 o q5 q16 q31 q46 q61 q72 q83 q94 s0 s1 s2 s3) (9 + n))))))))) hd rfl (sheets_f (f := (va_up (va_up (va_up (va_up (fun _ => none) 0 (some s0)) 1 (some s1)) 2 (some s2)) 3 (some s3))) ((aC0 o q5 q16 q31 q46 q61 q72 q83 q94 s0 s1 s2 s3)) (fun n hn => co_4 (P := fun n => (va_up (va_up (va_up (va_up (fun _ => none) 0 (some s0)) 1 (some s1)) 2 (some s2)) 3 (some s3)) n = some ((aC0 o q5 q16 q31 q46 q61 q72 q83 q94 s0 s1 s2 s3) (9 + n))) rfl rfl rfl rfl hn))
  have hd := Hd.perm hd (worldC eV1 eV2 eV3 eV4 eV5 eV6 eV7 eV8)
  exact W.vret hx hb B.returns (fun t ht hW => ⟨⟨(_, _, kC0 (u5.2.1, u5.2.2.1, u5.2.2.2, 3, tx0, bg0)), rfl, ⟨rfl, _, rfl, rfl⟩, by rw [ht]; exact hd.1, va_K.moved hW.alike hK, hd.2.1⟩, hd.2.2.F ht⟩) hd.2.2.2.2 dX9_init_143 C.2.2.2.2.2.2.2.1
