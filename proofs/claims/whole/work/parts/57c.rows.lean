def r00 : Nat → Value := fun j => ([.int 0, .null, .null, .int 0, .int 0, .null, .int 0, .null, .null, .null, .int 0, .null, .null, .null, .int 0, .int 0, .int 0, .int 0, .int 0, .int 0, .int 0, .long 0, .int 0, .int 0, .int 0, .int 0, .int 0, .int 0, .int 0, .int 0, .null, .null, .null, .int 0, .null, .null, .null, .null, .null, .int 0, .int 0, .int 0, .null, .null, .null, .null, .int 0, .int 0, .int 0, .int 0, .int 0, .null, .null, .null, .null, .int 0, .int 0, .int 0, .int 0, .int 0, .int 0, .null, .null, .null, .null] : List Value).getD j .null
theorem r00_fN : ([.int 0, .null, .null, .int 0, .int 0, .null, .int 0, .null, .null, .null, .int 0, .null, .null, .null, .int 0, .int 0, .int 0, .int 0, .int 0, .int 0, .int 0, .long 0, .int 0, .int 0, .int 0, .int 0, .int 0, .int 0, .int 0, .int 0, .null, .null, .null, .int 0, .null, .null, .null, .null, .null, .int 0, .int 0, .int 0, .null, .null, .null, .null, .int 0, .int 0, .int 0, .int 0, .int 0, .null, .null, .null, .null, .int 0, .int 0, .int 0, .int 0, .int 0, .int 0, .null, .null, .null, .null] : List Value) = fN r00 := rfl
set_option maxHeartbeats 4000000 in
set_option maxRecDepth 100000 in
theorem rows_0 {p : Program} {l : Launch} {e : Env} {s : State} {m : MethodId} {args : Array Value} {below : List Frame} {meth : Method} {c : Code} {H : Heap} {locs : List Loc} {Q : State → Prop} {P : EP} {D : va_G} {A : Nat → Prop} {ls : Array Slot} {o : Nat} {g : Nat → ClassId} (C : CxE P D (tyA g) RX10 cX10_init 2 none p s m args meth c A) (hA : ∀ q, s.heap.size ≤ q → A q) (hin : meth.name = "<init>") {r : Nat → Value} {arrs : va_W} (hd : Hd D ((o, .inr (10, fN r)) :: arrs) A s H locs) (hl : lv_has ls 2 [(0, .ref o)])
    (kk : ∀ (q8 q16 q25 q33 q41 : Nat) (H1 : Heap) (locs1 : List Loc) (r1 : Nat → Value) (arrs1 : va_W), r1 = upV (upV (upV (upV (upV (r) 1 (.ref q8)) 2 (.ref q16)) 5 (.ref q25)) 7 (.ref q33)) 8 (.ref q41) → arrs1 = arrs ++ [(q8, .inl (g 0, 960, .inl (fun _ => 0))), (q16, .inl (g 0, 6, .inl (fun _ => 0))), (q25, .inl (g 0, 160, .inl (fun _ => 0))), (q33, .inl (g 0, 8, .inl (fun _ => 0))), (q41, .inl (g 0, 8, .inl (fun _ => 0)))] → Hd D ((o, .inr (10, fN r1)) :: arrs1) A s H1 locs1 → W p l e { frames := 6, cells := 29, slots := 1986, locals := 200 } s m args below meth c H1 locs1 5 1142 Q (F0 m 46 ls [])) : W p l e { frames := 6, cells := 29, slots := 1986, locals := 200 } s m args below meth c H locs 0 0 Q (F0 m 4 ls []) := by
  have hx := C.1
  have hb := C.2.1
  refine lv_aload_n hx hb dX10_init_4 rfl (lv_at hl 0 rfl) ?_
  refine lv_sipush (v := 960) hx hb dX10_init_5 (by decide) ?_
  refine newRow C hA hin 960 1 1 960 hd (by decide) (by decide) (by decide) (by decide) q_896 rfl rfl (by decide +kernel) (Nat.le_of_ble_eq_true rfl) (Nat.le_of_ble_eq_true rfl) rfl rfl dX10_init_8 dX10_init_10 (fun q8 H locs r8 a8 er8 ea8 hd => ?_)
  refine lv_aload_n hx hb dX10_init_13 rfl (lv_at hl 0 rfl) ?_
  refine lv_bipush (v := 6) hx hb dX10_init_14 (by decide) ?_
  refine newRow C hA hin 6 2 2 966 hd (by decide) (by decide) (by decide) (by decide) q_897 rfl rfl (by decide +kernel) (Nat.le_of_ble_eq_true rfl) (Nat.le_of_ble_eq_true rfl) rfl rfl dX10_init_16 dX10_init_18 (fun q16 H locs r16 a16 er16 ea16 hd => ?_)
  refine lv_aload_n hx hb dX10_init_21 rfl (lv_at hl 0 rfl) ?_
  refine lv_sipush (v := 160) hx hb dX10_init_22 (by decide) ?_
  refine newRow C hA hin 160 5 3 1126 hd (by decide) (by decide) (by decide) (by decide) q_900 rfl rfl (by decide +kernel) (Nat.le_of_ble_eq_true rfl) (Nat.le_of_ble_eq_true rfl) rfl rfl dX10_init_25 dX10_init_27 (fun q25 H locs r25 a25 er25 ea25 hd => ?_)
  refine lv_aload_n hx hb dX10_init_30 rfl (lv_at hl 0 rfl) ?_
  refine lv_bipush (v := 8) hx hb dX10_init_31 (by decide) ?_
  refine newRow C hA hin 8 7 4 1134 hd (by decide) (by decide) (by decide) (by decide) q_902 rfl rfl (by decide +kernel) (Nat.le_of_ble_eq_true rfl) (Nat.le_of_ble_eq_true rfl) rfl rfl dX10_init_33 dX10_init_35 (fun q33 H locs r33 a33 er33 ea33 hd => ?_)
  refine lv_aload_n hx hb dX10_init_38 rfl (lv_at hl 0 rfl) ?_
  refine lv_bipush (v := 8) hx hb dX10_init_39 (by decide) ?_
  refine newRow C hA hin 8 8 5 1142 hd (by decide) (by decide) (by decide) (by decide) q_903 rfl rfl (by decide +kernel) (Nat.le_of_ble_eq_true rfl) (Nat.le_of_ble_eq_true rfl) rfl rfl dX10_init_41 dX10_init_43 (fun q41 H locs r41 a41 er41 ea41 hd => ?_)
  refine kk q8 q16 q25 q33 q41 H locs r41 a41 (by rw [er41, er33, er25, er16, er8]) (by rw [ea41, ea33, ea25, ea16, ea8]; simp only [List.append_assoc, List.cons_append, List.nil_append]) hd
set_option maxHeartbeats 4000000 in
set_option maxRecDepth 100000 in
theorem rows_1 {p : Program} {l : Launch} {e : Env} {s : State} {m : MethodId} {args : Array Value} {below : List Frame} {meth : Method} {c : Code} {H : Heap} {locs : List Loc} {Q : State → Prop} {P : EP} {D : va_G} {A : Nat → Prop} {ls : Array Slot} {o : Nat} {g : Nat → ClassId} (C : CxE P D (tyA g) RX10 cX10_init 2 none p s m args meth c A) (hA : ∀ q, s.heap.size ≤ q → A q) (hin : meth.name = "<init>") {r : Nat → Value} {arrs : va_W} (hd : Hd D ((o, .inr (10, fN r)) :: arrs) A s H locs) (hl : lv_has ls 2 [(0, .ref o)])
    (kk : ∀ (q49 q56 q64 q72 q80 : Nat) (H1 : Heap) (locs1 : List Loc) (r1 : Nat → Value) (arrs1 : va_W), r1 = upV (upV (upV (upV (upV (r) 9 (.ref q49)) 11 (.ref q56)) 12 (.ref q64)) 13 (.ref q72)) 30 (.ref q80) → arrs1 = arrs ++ [(q49, .inl (g 0, 8, .inl (fun _ => 0))), (q56, .inl (g 0, 4, .inl (fun _ => 0))), (q64, .inl (g 0, 24, .inl (fun _ => 0))), (q72, .inl (g 0, 64, .inl (fun _ => 0))), (q80, .inl (g 0, 8, .inl (fun _ => 0)))] → Hd D ((o, .inr (10, fN r1)) :: arrs1) A s H1 locs1 → W p l e { frames := 6, cells := 29, slots := 1986, locals := 200 } s m args below meth c H1 locs1 10 1250 Q (F0 m 85 ls [])) : W p l e { frames := 6, cells := 29, slots := 1986, locals := 200 } s m args below meth c H locs 5 1142 Q (F0 m 46 ls []) := by
  have hx := C.1
  have hb := C.2.1
  refine lv_aload_n hx hb dX10_init_46 rfl (lv_at hl 0 rfl) ?_
  refine lv_bipush (v := 8) hx hb dX10_init_47 (by decide) ?_
  refine newRow C hA hin 8 9 6 1150 hd (by decide) (by decide) (by decide) (by decide) q_904 rfl rfl (by decide +kernel) (Nat.le_of_ble_eq_true rfl) (Nat.le_of_ble_eq_true rfl) rfl rfl dX10_init_49 dX10_init_51 (fun q49 H locs r49 a49 er49 ea49 hd => ?_)
  refine lv_aload_n hx hb dX10_init_54 rfl (lv_at hl 0 rfl) ?_
  refine lv_iconst (v := 4) hx hb dX10_init_55 (by decide) ?_
  refine newRow C hA hin 4 11 7 1154 hd (by decide) (by decide) (by decide) (by decide) q_906 rfl rfl (by decide +kernel) (Nat.le_of_ble_eq_true rfl) (Nat.le_of_ble_eq_true rfl) rfl rfl dX10_init_56 dX10_init_58 (fun q56 H locs r56 a56 er56 ea56 hd => ?_)
  refine lv_aload_n hx hb dX10_init_61 rfl (lv_at hl 0 rfl) ?_
  refine lv_bipush (v := 24) hx hb dX10_init_62 (by decide) ?_
  refine newRow C hA hin 24 12 8 1178 hd (by decide) (by decide) (by decide) (by decide) q_907 rfl rfl (by decide +kernel) (Nat.le_of_ble_eq_true rfl) (Nat.le_of_ble_eq_true rfl) rfl rfl dX10_init_64 dX10_init_66 (fun q64 H locs r64 a64 er64 ea64 hd => ?_)
  refine lv_aload_n hx hb dX10_init_69 rfl (lv_at hl 0 rfl) ?_
  refine lv_bipush (v := 64) hx hb dX10_init_70 (by decide) ?_
  refine newRow C hA hin 64 13 9 1242 hd (by decide) (by decide) (by decide) (by decide) q_908 rfl rfl (by decide +kernel) (Nat.le_of_ble_eq_true rfl) (Nat.le_of_ble_eq_true rfl) rfl rfl dX10_init_72 dX10_init_74 (fun q72 H locs r72 a72 er72 ea72 hd => ?_)
  refine lv_aload_n hx hb dX10_init_77 rfl (lv_at hl 0 rfl) ?_
  refine lv_bipush (v := 8) hx hb dX10_init_78 (by decide) ?_
  refine newRow C hA hin 8 30 10 1250 hd (by decide) (by decide) (by decide) (by decide) q_925 rfl rfl (by decide +kernel) (Nat.le_of_ble_eq_true rfl) (Nat.le_of_ble_eq_true rfl) rfl rfl dX10_init_80 dX10_init_82 (fun q80 H locs r80 a80 er80 ea80 hd => ?_)
  refine kk q49 q56 q64 q72 q80 H locs r80 a80 (by rw [er80, er72, er64, er56, er49]) (by rw [ea80, ea72, ea64, ea56, ea49]; simp only [List.append_assoc, List.cons_append, List.nil_append]) hd
set_option maxHeartbeats 4000000 in
set_option maxRecDepth 100000 in
theorem rows_2 {p : Program} {l : Launch} {e : Env} {s : State} {m : MethodId} {args : Array Value} {below : List Frame} {meth : Method} {c : Code} {H : Heap} {locs : List Loc} {Q : State → Prop} {P : EP} {D : va_G} {A : Nat → Prop} {ls : Array Slot} {o : Nat} {g : Nat → ClassId} (C : CxE P D (tyA g) RX10 cX10_init 2 none p s m args meth c A) (hA : ∀ q, s.heap.size ≤ q → A q) (hin : meth.name = "<init>") {r : Nat → Value} {arrs : va_W} (hd : Hd D ((o, .inr (10, fN r)) :: arrs) A s H locs) (hl : lv_has ls 2 [(0, .ref o)])
    (kk : ∀ (q89 q98 q106 q113 q121 : Nat) (H1 : Heap) (locs1 : List Loc) (r1 : Nat → Value) (arrs1 : va_W), r1 = upV (upV (upV (upV (upV (r) 31 (.ref q89)) 32 (.ref q98)) 34 (.ref q106)) 35 (.ref q113)) 36 (.ref q121) → arrs1 = arrs ++ [(q89, .inl (g 0, 192, .inl (fun _ => 0))), (q98, .inl (g 0, 192, .inl (fun _ => 0))), (q106, .inl (g 0, 8, .inl (fun _ => 0))), (q113, .inl (g 0, 4, .inl (fun _ => 0))), (q121, .inl (g 0, 32, .inl (fun _ => 0)))] → Hd D ((o, .inr (10, fN r1)) :: arrs1) A s H1 locs1 → W p l e { frames := 6, cells := 29, slots := 1986, locals := 200 } s m args below meth c H1 locs1 15 1678 Q (F0 m 126 ls [])) : W p l e { frames := 6, cells := 29, slots := 1986, locals := 200 } s m args below meth c H locs 10 1250 Q (F0 m 85 ls []) := by
  have hx := C.1
  have hb := C.2.1
  refine lv_aload_n hx hb dX10_init_85 rfl (lv_at hl 0 rfl) ?_
  refine lv_sipush (v := 192) hx hb dX10_init_86 (by decide) ?_
  refine newRow C hA hin 192 31 11 1442 hd (by decide) (by decide) (by decide) (by decide) q_926 rfl rfl (by decide +kernel) (Nat.le_of_ble_eq_true rfl) (Nat.le_of_ble_eq_true rfl) rfl rfl dX10_init_89 dX10_init_91 (fun q89 H locs r89 a89 er89 ea89 hd => ?_)
  refine lv_aload_n hx hb dX10_init_94 rfl (lv_at hl 0 rfl) ?_
  refine lv_sipush (v := 192) hx hb dX10_init_95 (by decide) ?_
  refine newRow C hA hin 192 32 12 1634 hd (by decide) (by decide) (by decide) (by decide) q_927 rfl rfl (by decide +kernel) (Nat.le_of_ble_eq_true rfl) (Nat.le_of_ble_eq_true rfl) rfl rfl dX10_init_98 dX10_init_100 (fun q98 H locs r98 a98 er98 ea98 hd => ?_)
  refine lv_aload_n hx hb dX10_init_103 rfl (lv_at hl 0 rfl) ?_
  refine lv_bipush (v := 8) hx hb dX10_init_104 (by decide) ?_
  refine newRow C hA hin 8 34 13 1642 hd (by decide) (by decide) (by decide) (by decide) q_929 rfl rfl (by decide +kernel) (Nat.le_of_ble_eq_true rfl) (Nat.le_of_ble_eq_true rfl) rfl rfl dX10_init_106 dX10_init_108 (fun q106 H locs r106 a106 er106 ea106 hd => ?_)
  refine lv_aload_n hx hb dX10_init_111 rfl (lv_at hl 0 rfl) ?_
  refine lv_iconst (v := 4) hx hb dX10_init_112 (by decide) ?_
  refine newRow C hA hin 4 35 14 1646 hd (by decide) (by decide) (by decide) (by decide) q_930 rfl rfl (by decide +kernel) (Nat.le_of_ble_eq_true rfl) (Nat.le_of_ble_eq_true rfl) rfl rfl dX10_init_113 dX10_init_115 (fun q113 H locs r113 a113 er113 ea113 hd => ?_)
  refine lv_aload_n hx hb dX10_init_118 rfl (lv_at hl 0 rfl) ?_
  refine lv_bipush (v := 32) hx hb dX10_init_119 (by decide) ?_
  refine newRow C hA hin 32 36 15 1678 hd (by decide) (by decide) (by decide) (by decide) q_931 rfl rfl (by decide +kernel) (Nat.le_of_ble_eq_true rfl) (Nat.le_of_ble_eq_true rfl) rfl rfl dX10_init_121 dX10_init_123 (fun q121 H locs r121 a121 er121 ea121 hd => ?_)
  refine kk q89 q98 q106 q113 q121 H locs r121 a121 (by rw [er121, er113, er106, er98, er89]) (by rw [ea121, ea113, ea106, ea98, ea89]; simp only [List.append_assoc, List.cons_append, List.nil_append]) hd
set_option maxHeartbeats 4000000 in
set_option maxRecDepth 100000 in
theorem rows_3 {p : Program} {l : Launch} {e : Env} {s : State} {m : MethodId} {args : Array Value} {below : List Frame} {meth : Method} {c : Code} {H : Heap} {locs : List Loc} {Q : State → Prop} {P : EP} {D : va_G} {A : Nat → Prop} {ls : Array Slot} {o : Nat} {g : Nat → ClassId} (C : CxE P D (tyA g) RX10 cX10_init 2 none p s m args meth c A) (hA : ∀ q, s.heap.size ≤ q → A q) (hin : meth.name = "<init>") {r : Nat → Value} {arrs : va_W} (hd : Hd D ((o, .inr (10, fN r)) :: arrs) A s H locs) (hl : lv_has ls 2 [(0, .ref o)])
    (kk : ∀ (q129 q137 q145 q153 q161 : Nat) (H1 : Heap) (locs1 : List Loc) (r1 : Nat → Value) (arrs1 : va_W), r1 = upV (upV (upV (upV (upV (r) 37 (.ref q129)) 38 (.ref q137)) 42 (.ref q145)) 43 (.ref q153)) 44 (.ref q161) → arrs1 = arrs ++ [(q129, .inl (g 0, 8, .inl (fun _ => 0))), (q137, .inl (g 0, 8, .inl (fun _ => 0))), (q145, .inl (g 0, 8, .inl (fun _ => 0))), (q153, .inl (g 0, 20, .inl (fun _ => 0))), (q161, .inl (g 0, 20, .inl (fun _ => 0)))] → Hd D ((o, .inr (10, fN r1)) :: arrs1) A s H1 locs1 → W p l e { frames := 6, cells := 29, slots := 1986, locals := 200 } s m args below meth c H1 locs1 20 1742 Q (F0 m 166 ls [])) : W p l e { frames := 6, cells := 29, slots := 1986, locals := 200 } s m args below meth c H locs 15 1678 Q (F0 m 126 ls []) := by
  have hx := C.1
  have hb := C.2.1
  refine lv_aload_n hx hb dX10_init_126 rfl (lv_at hl 0 rfl) ?_
  refine lv_bipush (v := 8) hx hb dX10_init_127 (by decide) ?_
  refine newRow C hA hin 8 37 16 1686 hd (by decide) (by decide) (by decide) (by decide) q_932 rfl rfl (by decide +kernel) (Nat.le_of_ble_eq_true rfl) (Nat.le_of_ble_eq_true rfl) rfl rfl dX10_init_129 dX10_init_131 (fun q129 H locs r129 a129 er129 ea129 hd => ?_)
  refine lv_aload_n hx hb dX10_init_134 rfl (lv_at hl 0 rfl) ?_
  refine lv_bipush (v := 8) hx hb dX10_init_135 (by decide) ?_
  refine newRow C hA hin 8 38 17 1694 hd (by decide) (by decide) (by decide) (by decide) q_933 rfl rfl (by decide +kernel) (Nat.le_of_ble_eq_true rfl) (Nat.le_of_ble_eq_true rfl) rfl rfl dX10_init_137 dX10_init_139 (fun q137 H locs r137 a137 er137 ea137 hd => ?_)
  refine lv_aload_n hx hb dX10_init_142 rfl (lv_at hl 0 rfl) ?_
  refine lv_bipush (v := 8) hx hb dX10_init_143 (by decide) ?_
  refine newRow C hA hin 8 42 18 1702 hd (by decide) (by decide) (by decide) (by decide) q_937 rfl rfl (by decide +kernel) (Nat.le_of_ble_eq_true rfl) (Nat.le_of_ble_eq_true rfl) rfl rfl dX10_init_145 dX10_init_147 (fun q145 H locs r145 a145 er145 ea145 hd => ?_)
  refine lv_aload_n hx hb dX10_init_150 rfl (lv_at hl 0 rfl) ?_
  refine lv_bipush (v := 20) hx hb dX10_init_151 (by decide) ?_
  refine newRow C hA hin 20 43 19 1722 hd (by decide) (by decide) (by decide) (by decide) q_938 rfl rfl (by decide +kernel) (Nat.le_of_ble_eq_true rfl) (Nat.le_of_ble_eq_true rfl) rfl rfl dX10_init_153 dX10_init_155 (fun q153 H locs r153 a153 er153 ea153 hd => ?_)
  refine lv_aload_n hx hb dX10_init_158 rfl (lv_at hl 0 rfl) ?_
  refine lv_bipush (v := 20) hx hb dX10_init_159 (by decide) ?_
  refine newRow C hA hin 20 44 20 1742 hd (by decide) (by decide) (by decide) (by decide) q_939 rfl rfl (by decide +kernel) (Nat.le_of_ble_eq_true rfl) (Nat.le_of_ble_eq_true rfl) rfl rfl dX10_init_161 dX10_init_163 (fun q161 H locs r161 a161 er161 ea161 hd => ?_)
  refine kk q129 q137 q145 q153 q161 H locs r161 a161 (by rw [er161, er153, er145, er137, er129]) (by rw [ea161, ea153, ea145, ea137, ea129]; simp only [List.append_assoc, List.cons_append, List.nil_append]) hd
set_option maxHeartbeats 4000000 in
set_option maxRecDepth 100000 in
theorem rows_4 {p : Program} {l : Launch} {e : Env} {s : State} {m : MethodId} {args : Array Value} {below : List Frame} {meth : Method} {c : Code} {H : Heap} {locs : List Loc} {Q : State → Prop} {P : EP} {D : va_G} {A : Nat → Prop} {ls : Array Slot} {o : Nat} {g : Nat → ClassId} (C : CxE P D (tyA g) RX10 cX10_init 2 none p s m args meth c A) (hA : ∀ q, s.heap.size ≤ q → A q) (hin : meth.name = "<init>") {r : Nat → Value} {arrs : va_W} (hd : Hd D ((o, .inr (10, fN r)) :: arrs) A s H locs) (hl : lv_has ls 2 [(0, .ref o)])
    (kk : ∀ (q169 q177 q185 q192 q200 : Nat) (H1 : Heap) (locs1 : List Loc) (r1 : Nat → Value) (arrs1 : va_W), r1 = upV (upV (upV (upV (upV (r) 45 (.ref q169)) 51 (.ref q177)) 52 (.ref q185)) 53 (.ref q192)) 54 (.ref q200) → arrs1 = arrs ++ [(q169, .inl (g 0, 20, .inl (fun _ => 0))), (q177, .inl (g 0, 8, .inl (fun _ => 0))), (q185, .inl (g 0, 8, .inl (fun _ => 0))), (q192, .inl (g 0, 4, .inl (fun _ => 0))), (q200, .inl (g 0, 32, .inl (fun _ => 0)))] → Hd D ((o, .inr (10, fN r1)) :: arrs1) A s H1 locs1 → W p l e { frames := 6, cells := 29, slots := 1986, locals := 200 } s m args below meth c H1 locs1 25 1814 Q (F0 m 205 ls [])) : W p l e { frames := 6, cells := 29, slots := 1986, locals := 200 } s m args below meth c H locs 20 1742 Q (F0 m 166 ls []) := by
  have hx := C.1
  have hb := C.2.1
  refine lv_aload_n hx hb dX10_init_166 rfl (lv_at hl 0 rfl) ?_
  refine lv_bipush (v := 20) hx hb dX10_init_167 (by decide) ?_
  refine newRow C hA hin 20 45 21 1762 hd (by decide) (by decide) (by decide) (by decide) q_940 rfl rfl (by decide +kernel) (Nat.le_of_ble_eq_true rfl) (Nat.le_of_ble_eq_true rfl) rfl rfl dX10_init_169 dX10_init_171 (fun q169 H locs r169 a169 er169 ea169 hd => ?_)
  refine lv_aload_n hx hb dX10_init_174 rfl (lv_at hl 0 rfl) ?_
  refine lv_bipush (v := 8) hx hb dX10_init_175 (by decide) ?_
  refine newRow C hA hin 8 51 22 1770 hd (by decide) (by decide) (by decide) (by decide) q_946 rfl rfl (by decide +kernel) (Nat.le_of_ble_eq_true rfl) (Nat.le_of_ble_eq_true rfl) rfl rfl dX10_init_177 dX10_init_179 (fun q177 H locs r177 a177 er177 ea177 hd => ?_)
  refine lv_aload_n hx hb dX10_init_182 rfl (lv_at hl 0 rfl) ?_
  refine lv_bipush (v := 8) hx hb dX10_init_183 (by decide) ?_
  refine newRow C hA hin 8 52 23 1778 hd (by decide) (by decide) (by decide) (by decide) q_947 rfl rfl (by decide +kernel) (Nat.le_of_ble_eq_true rfl) (Nat.le_of_ble_eq_true rfl) rfl rfl dX10_init_185 dX10_init_187 (fun q185 H locs r185 a185 er185 ea185 hd => ?_)
  refine lv_aload_n hx hb dX10_init_190 rfl (lv_at hl 0 rfl) ?_
  refine lv_iconst (v := 4) hx hb dX10_init_191 (by decide) ?_
  refine newRow C hA hin 4 53 24 1782 hd (by decide) (by decide) (by decide) (by decide) q_948 rfl rfl (by decide +kernel) (Nat.le_of_ble_eq_true rfl) (Nat.le_of_ble_eq_true rfl) rfl rfl dX10_init_192 dX10_init_194 (fun q192 H locs r192 a192 er192 ea192 hd => ?_)
  refine lv_aload_n hx hb dX10_init_197 rfl (lv_at hl 0 rfl) ?_
  refine lv_bipush (v := 32) hx hb dX10_init_198 (by decide) ?_
  refine newRow C hA hin 32 54 25 1814 hd (by decide) (by decide) (by decide) (by decide) q_949 rfl rfl (by decide +kernel) (Nat.le_of_ble_eq_true rfl) (Nat.le_of_ble_eq_true rfl) rfl rfl dX10_init_200 dX10_init_202 (fun q200 H locs r200 a200 er200 ea200 hd => ?_)
  refine kk q169 q177 q185 q192 q200 H locs r200 a200 (by rw [er200, er192, er185, er177, er169]) (by rw [ea200, ea192, ea185, ea177, ea169]; simp only [List.append_assoc, List.cons_append, List.nil_append]) hd
set_option maxHeartbeats 4000000 in
set_option maxRecDepth 100000 in
theorem rows_5 {p : Program} {l : Launch} {e : Env} {s : State} {m : MethodId} {args : Array Value} {below : List Frame} {meth : Method} {c : Code} {H : Heap} {locs : List Loc} {Q : State → Prop} {P : EP} {D : va_G} {A : Nat → Prop} {ls : Array Slot} {o : Nat} {g : Nat → ClassId} (C : CxE P D (tyA g) RX10 cX10_init 2 none p s m args meth c A) (hA : ∀ q, s.heap.size ≤ q → A q) (hin : meth.name = "<init>") {r : Nat → Value} {arrs : va_W} (hd : Hd D ((o, .inr (10, fN r)) :: arrs) A s H locs) (hl : lv_has ls 2 [(0, .ref o)])
    (kk : ∀ (q207 q214 q221 q230 : Nat) (H1 : Heap) (locs1 : List Loc) (r1 : Nat → Value) (arrs1 : va_W), r1 = upV (upV (upV (upV (r) 61 (.ref q207)) 62 (.ref q214)) 63 (.ref q221)) 64 (.ref q230) → arrs1 = arrs ++ [(q207, .inl (g 1, 4, .inl (fun _ => 0))), (q214, .inl (g 0, 4, .inl (fun _ => 0))), (q221, .inl (g 0, 4, .inl (fun _ => 0))), (q230, .inl (g 0, 160, .inl (fun _ => 0)))] → Hd D ((o, .inr (10, fN r1)) :: arrs1) A s H1 locs1 → W p l e { frames := 6, cells := 29, slots := 1986, locals := 200 } s m args below meth c H1 locs1 29 1986 Q (F0 m 235 ls [])) : W p l e { frames := 6, cells := 29, slots := 1986, locals := 200 } s m args below meth c H locs 25 1814 Q (F0 m 205 ls []) := by
  have hx := C.1
  have hb := C.2.1
  refine lv_aload_n hx hb dX10_init_205 rfl (lv_at hl 0 rfl) ?_
  refine lv_iconst (v := 4) hx hb dX10_init_206 (by decide) ?_
  refine newRowZ C hA hin 4 61 26 1818 hd (by decide) (by decide) (by decide) (by decide) q_956 rfl rfl (by decide +kernel) (Nat.le_of_ble_eq_true rfl) (Nat.le_of_ble_eq_true rfl) rfl rfl dX10_init_207 dX10_init_209 (fun q207 H locs r207 a207 er207 ea207 hd => ?_)
  refine lv_aload_n hx hb dX10_init_212 rfl (lv_at hl 0 rfl) ?_
  refine lv_iconst (v := 4) hx hb dX10_init_213 (by decide) ?_
  refine newRow C hA hin 4 62 27 1822 hd (by decide) (by decide) (by decide) (by decide) q_957 rfl rfl (by decide +kernel) (Nat.le_of_ble_eq_true rfl) (Nat.le_of_ble_eq_true rfl) rfl rfl dX10_init_214 dX10_init_216 (fun q214 H locs r214 a214 er214 ea214 hd => ?_)
  refine lv_aload_n hx hb dX10_init_219 rfl (lv_at hl 0 rfl) ?_
  refine lv_iconst (v := 4) hx hb dX10_init_220 (by decide) ?_
  refine newRow C hA hin 4 63 28 1826 hd (by decide) (by decide) (by decide) (by decide) q_958 rfl rfl (by decide +kernel) (Nat.le_of_ble_eq_true rfl) (Nat.le_of_ble_eq_true rfl) rfl rfl dX10_init_221 dX10_init_223 (fun q221 H locs r221 a221 er221 ea221 hd => ?_)
  refine lv_aload_n hx hb dX10_init_226 rfl (lv_at hl 0 rfl) ?_
  refine lv_sipush (v := 160) hx hb dX10_init_227 (by decide) ?_
  refine newRow C hA hin 160 64 29 1986 hd (by decide) (by decide) (by decide) (by decide) q_959 rfl rfl (by decide +kernel) (Nat.le_of_ble_eq_true rfl) (Nat.le_of_ble_eq_true rfl) rfl rfl dX10_init_230 dX10_init_232 (fun q230 H locs r230 a230 er230 ea230 hd => ?_)
  refine kk q207 q214 q221 q230 H locs r230 a230 (by rw [er230, er221, er214, er207]) (by rw [ea230, ea221, ea214, ea207]; simp only [List.append_assoc, List.cons_append, List.nil_append]) hd
