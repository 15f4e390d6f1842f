set_option maxHeartbeats 4000000 in
set_option maxRecDepth 100000 in
theorem law_20 {p : Program} {l : Launch} {e : Env} {s : State} {m : MethodId} {args : Array Value} {below : List Frame} {meth : Method} {c : Code} {H : Heap} {locs : List Loc} {Q : State → Prop} {P : EP} {D : va_G} {A : Nat → Prop} {cells slots : Nat} {rt : Option FieldType} {ls : Array Slot} {a : Nat → Nat} {b : Nat → Nat → Nat} {g : Nat → ClassId} {o : Nat} {al : Nat → Nat} {k : KC} {gm : GM} {t q L i : Nat} {xs : Nat → Int32} (C : CxE P D (tyA g) RL cL_law 4 rt p s m args meth c A) (hX : va_X q L xs s s.heap) (hbl : q < s.heap.size) (hbA : ¬ A q) (hL : L ≤ 384) (hd : Hd D (wC a b g k ++ wM o al g gm) A s H locs) (hr : Rel t k gm) (ht : t < 2000) (hl : lv_has ls 4 [(0, .ref q), (1, .ref (a 0)), (2, .ref o), (3, .int (nI i))]) (hi : i + 6 ≤ L) (hcb : cells + 3 ≤ 600000) (hsb : slots + 166 ≤ 7302250)
    (kk : ∀ (k1 : KC) (g1 : GM) (H : Heap) (locs : List Loc) (c1 s1 : Nat), c1 ≤ cells + 3 → s1 ≤ slots + 166 → Rel (t + 1) k1 g1 → Hd D (wC a b g k1 ++ wM o al g g1) A s H locs → W p l e room_1 s m args below meth c H locs c1 s1 Q (F0 m 1212 ls [])) : W p l e room_1 s m args below meth c H locs cells slots Q (F0 m 822 ls []) := by
  have hx := C.1
  have hb := C.2.1
  have hown := C.2.2.2.1
  have hts := C.2.2.2.2.1
  refine lv_aload_n hx hb dL_law_822 rfl (lv_at hl 1 rfl) ?_
  refine lawArg C hX hbl hbA hd.2.2 (j := 1) (v := 1) (by decide) rfl (by omega) hL hl dL_law_823 dL_law_824 dL_law_825 dL_law_826 dL_law_827 ?_
  refine lawArg C hX hbl hbA hd.2.2 (j := 2) (v := 2) (by decide) rfl (by omega) hL hl dL_law_828 dL_law_829 dL_law_830 dL_law_831 dL_law_832 ?_
  refine lawArg C hX hbl hbA hd.2.2 (j := 3) (v := 3) (by decide) rfl (by omega) hL hl dL_law_833 dL_law_834 dL_law_835 dL_law_836 dL_law_837 ?_
  refine ev_i (w := fun u => wC a b g u ++ wM o al g gm) (k := k) C hd kwL_X9_next ((cC_next _ _ _ (op_next (nt := 0) (N := 0) _ _ _ hr)).frame _) ⟨rfl, rfl⟩ ⟨Nat.le_of_ble_eq_true rfl, Nat.le_of_ble_eq_true rfl⟩ (rcC9.left _) hl.1 rfl rfl (Nat.le_of_ble_eq_true rfl) ⟨by show cells ≤ 600000; omega, by show slots ≤ 7302250; omega⟩ dL_law_838 (fun r1 k1 H locs h hd => ?_)
  replace hd := hd.swap
  obtain ⟨n2, h⟩ := h
  refine lv_aload_n hx hb dL_law_841 rfl (lv_at hl 2 rfl) ?_
  refine lawArg C hX hbl hbA hd.2.2 (j := 1) (v := 1) (by decide) rfl (by omega) hL hl dL_law_842 dL_law_843 dL_law_844 dL_law_845 dL_law_846 ?_
  refine lawArg C hX hbl hbA hd.2.2 (j := 2) (v := 2) (by decide) rfl (by omega) hL hl dL_law_847 dL_law_848 dL_law_849 dL_law_850 dL_law_851 ?_
  refine lawArg C hX hbl hbA hd.2.2 (j := 3) (v := 3) (by decide) rfl (by omega) hL hl dL_law_852 dL_law_853 dL_law_854 dL_law_855 dL_law_856 ?_
  refine xv_i (w := fun u => wM o al g u ++ wC a b g k1) (k := gm) C.cx hd kwL_X10_next_ ((cM_next_ _ _ _ _ h).frame _) ⟨rfl, rfl⟩ ⟨Nat.le_of_ble_eq_true rfl, Nat.le_of_ble_eq_true rfl⟩ (wM_rcv.left _) hl.1 rfl rfl (Nat.le_of_ble_eq_true rfl) ⟨by show cells ≤ 600000; omega, by show slots ≤ 7302250; omega⟩ dL_law_857 (fun r2 g1 H locs h hd => ?_)
  obtain ⟨e1, hr⟩ := h
  subst e1
  refine lv_icmp_eq (tgt := 1212) hx hb dL_law_860 (by decide) (fun _ => ?_) (fun c1 => absurd rfl c1)
  exact kk k1 g1 H locs cells slots (by omega) (by omega) hr hd.swap
set_option maxHeartbeats 4000000 in
set_option maxRecDepth 100000 in
theorem law_21 {p : Program} {l : Launch} {e : Env} {s : State} {m : MethodId} {args : Array Value} {below : List Frame} {meth : Method} {c : Code} {H : Heap} {locs : List Loc} {Q : State → Prop} {P : EP} {D : va_G} {A : Nat → Prop} {cells slots : Nat} {rt : Option FieldType} {ls : Array Slot} {a : Nat → Nat} {b : Nat → Nat → Nat} {g : Nat → ClassId} {o : Nat} {al : Nat → Nat} {k : KC} {gm : GM} {t q L i : Nat} {xs : Nat → Int32} (C : CxE P D (tyA g) RL cL_law 4 rt p s m args meth c A) (hX : va_X q L xs s s.heap) (hbl : q < s.heap.size) (hbA : ¬ A q) (hL : L ≤ 384) (hd : Hd D (wC a b g k ++ wM o al g gm) A s H locs) (hr : Rel t k gm) (ht : t < 2000) (hl : lv_has ls 4 [(0, .ref q), (1, .ref (a 0)), (2, .ref o), (3, .int (nI i))]) (hi : i + 6 ≤ L) (hcb : cells + 3 ≤ 600000) (hsb : slots + 166 ≤ 7302250)
    (kk : ∀ (k1 : KC) (g1 : GM) (H : Heap) (locs : List Loc) (c1 s1 : Nat), c1 ≤ cells + 3 → s1 ≤ slots + 166 → Rel (t + 1) k1 g1 → Hd D (wC a b g k1 ++ wM o al g g1) A s H locs → W p l e room_1 s m args below meth c H locs c1 s1 Q (F0 m 1212 ls [])) : W p l e room_1 s m args below meth c H locs cells slots Q (F0 m 865 ls []) := by
  have hx := C.1
  have hb := C.2.1
  have hown := C.2.2.2.1
  have hts := C.2.2.2.2.1
  refine lv_aload_n hx hb dL_law_865 rfl (lv_at hl 1 rfl) ?_
  refine lawArg C hX hbl hbA hd.2.2 (j := 1) (v := 1) (by decide) rfl (by omega) hL hl dL_law_866 dL_law_867 dL_law_868 dL_law_869 dL_law_870 ?_
  refine lawArg C hX hbl hbA hd.2.2 (j := 2) (v := 2) (by decide) rfl (by omega) hL hl dL_law_871 dL_law_872 dL_law_873 dL_law_874 dL_law_875 ?_
  refine lawArg C hX hbl hbA hd.2.2 (j := 3) (v := 3) (by decide) rfl (by omega) hL hl dL_law_876 dL_law_877 dL_law_878 dL_law_879 dL_law_880 ?_
  refine lawArg C hX hbl hbA hd.2.2 (j := 4) (v := 4) (by decide) rfl (by omega) hL hl dL_law_881 dL_law_882 dL_law_883 dL_law_884 dL_law_885 ?_
  refine lawArg C hX hbl hbA hd.2.2 (j := 5) (v := 5) (by decide) rfl (by omega) hL hl dL_law_886 dL_law_887 dL_law_888 dL_law_889 dL_law_890 ?_
  obtain ⟨n1, h1⟩ := op_near _ _ _ _ _ hr
  refine ev_i (w := fun u => wC a b g u ++ wM o al g gm) (k := k) C hd kwL_X9_near ((cC_near n1 _ _ _ _ _ h1).frame _) ⟨rfl, rfl⟩ ⟨Nat.le_of_ble_eq_true rfl, Nat.le_of_ble_eq_true rfl⟩ (rcC9.left _) hl.1 rfl rfl (Nat.le_of_ble_eq_true rfl) ⟨by show cells ≤ 600000; omega, by show slots ≤ 7302250; omega⟩ dL_law_891 (fun r1 k1 H locs h hd => ?_)
  replace hd := hd.swap
  obtain ⟨n2, h⟩ := h
  refine lv_aload_n hx hb dL_law_894 rfl (lv_at hl 2 rfl) ?_
  refine lawArg C hX hbl hbA hd.2.2 (j := 1) (v := 1) (by decide) rfl (by omega) hL hl dL_law_895 dL_law_896 dL_law_897 dL_law_898 dL_law_899 ?_
  refine lawArg C hX hbl hbA hd.2.2 (j := 2) (v := 2) (by decide) rfl (by omega) hL hl dL_law_900 dL_law_901 dL_law_902 dL_law_903 dL_law_904 ?_
  refine lawArg C hX hbl hbA hd.2.2 (j := 3) (v := 3) (by decide) rfl (by omega) hL hl dL_law_905 dL_law_906 dL_law_907 dL_law_908 dL_law_909 ?_
  refine lawArg C hX hbl hbA hd.2.2 (j := 4) (v := 4) (by decide) rfl (by omega) hL hl dL_law_910 dL_law_911 dL_law_912 dL_law_913 dL_law_914 ?_
  refine lawArg C hX hbl hbA hd.2.2 (j := 5) (v := 5) (by decide) rfl (by omega) hL hl dL_law_915 dL_law_916 dL_law_917 dL_law_918 dL_law_919 ?_
  refine xv_i (w := fun u => wM o al g u ++ wC a b g k1) (k := gm) C.cx hd kwL_X10_near ((cM_near _ _ _ _ _ _ h).frame _) ⟨rfl, rfl⟩ ⟨Nat.le_of_ble_eq_true rfl, Nat.le_of_ble_eq_true rfl⟩ (wM_rcv.left _) hl.1 rfl rfl (Nat.le_of_ble_eq_true rfl) ⟨by show cells ≤ 600000; omega, by show slots ≤ 7302250; omega⟩ dL_law_920 (fun r2 g1 H locs h hd => ?_)
  obtain ⟨e1, hr⟩ := h
  subst e1
  refine lv_icmp_eq (tgt := 1212) hx hb dL_law_923 (by decide) (fun _ => ?_) (fun c1 => absurd rfl c1)
  exact kk k1 g1 H locs cells slots (by omega) (by omega) hr hd.swap
set_option maxHeartbeats 4000000 in
set_option maxRecDepth 100000 in
theorem law_22 {p : Program} {l : Launch} {e : Env} {s : State} {m : MethodId} {args : Array Value} {below : List Frame} {meth : Method} {c : Code} {H : Heap} {locs : List Loc} {Q : State → Prop} {P : EP} {D : va_G} {A : Nat → Prop} {cells slots : Nat} {rt : Option FieldType} {ls : Array Slot} {a : Nat → Nat} {b : Nat → Nat → Nat} {g : Nat → ClassId} {o : Nat} {al : Nat → Nat} {k : KC} {gm : GM} {t q L i : Nat} {xs : Nat → Int32} (C : CxE P D (tyA g) RL cL_law 4 rt p s m args meth c A) (hX : va_X q L xs s s.heap) (hbl : q < s.heap.size) (hbA : ¬ A q) (hL : L ≤ 384) (hd : Hd D (wC a b g k ++ wM o al g gm) A s H locs) (hr : Rel t k gm) (ht : t < 2000) (hl : lv_has ls 4 [(0, .ref q), (1, .ref (a 0)), (2, .ref o), (3, .int (nI i))]) (hi : i + 6 ≤ L) (hcb : cells + 3 ≤ 600000) (hsb : slots + 166 ≤ 7302250)
    (kk : ∀ (k1 : KC) (g1 : GM) (H : Heap) (locs : List Loc) (c1 s1 : Nat), c1 ≤ cells + 3 → s1 ≤ slots + 166 → Rel (t + 1) k1 g1 → Hd D (wC a b g k1 ++ wM o al g g1) A s H locs → W p l e room_1 s m args below meth c H locs c1 s1 Q (F0 m 1212 ls [])) : W p l e room_1 s m args below meth c H locs cells slots Q (F0 m 928 ls []) := by
  have hx := C.1
  have hb := C.2.1
  have hown := C.2.2.2.1
  have hts := C.2.2.2.2.1
  refine lv_aload_n hx hb dL_law_928 rfl (lv_at hl 1 rfl) ?_
  refine ev_i (w := fun u => wC a b g u ++ wM o al g gm) (k := k) C hd kwL_X9_image ((cC_image (op_image hr)).frame _) ⟨rfl, rfl⟩ ⟨Nat.le_of_ble_eq_true rfl, Nat.le_of_ble_eq_true rfl⟩ (rcC9.left _) hl.1 rfl rfl (Nat.le_of_ble_eq_true rfl) ⟨by show cells ≤ 600000; omega, by show slots ≤ 7302250; omega⟩ dL_law_929 (fun r1 k1 H locs h hd => ?_)
  replace hd := hd.swap
  obtain ⟨n2, h⟩ := h
  refine lv_aload_n hx hb dL_law_932 rfl (lv_at hl 2 rfl) ?_
  refine xv_i (w := fun u => wM o al g u ++ wC a b g k1) (k := gm) C.cx hd kwL_X10_image ((cM_image _ h).frame _) ⟨rfl, rfl⟩ ⟨Nat.le_of_ble_eq_true rfl, Nat.le_of_ble_eq_true rfl⟩ (wM_rcv.left _) hl.1 rfl rfl (Nat.le_of_ble_eq_true rfl) ⟨by show cells ≤ 600000; omega, by show slots ≤ 7302250; omega⟩ dL_law_933 (fun r2 g1 H locs h hd => ?_)
  obtain ⟨e1, hr⟩ := h
  subst e1
  refine lv_icmp_eq (tgt := 1212) hx hb dL_law_936 (by decide) (fun _ => ?_) (fun c1 => absurd rfl c1)
  exact kk k1 g1 H locs cells slots (by omega) (by omega) hr hd.swap
set_option maxHeartbeats 4000000 in
set_option maxRecDepth 100000 in
theorem law_23 {p : Program} {l : Launch} {e : Env} {s : State} {m : MethodId} {args : Array Value} {below : List Frame} {meth : Method} {c : Code} {H : Heap} {locs : List Loc} {Q : State → Prop} {P : EP} {D : va_G} {A : Nat → Prop} {cells slots : Nat} {rt : Option FieldType} {ls : Array Slot} {a : Nat → Nat} {b : Nat → Nat → Nat} {g : Nat → ClassId} {o : Nat} {al : Nat → Nat} {k : KC} {gm : GM} {t q L i : Nat} {xs : Nat → Int32} (C : CxE P D (tyA g) RL cL_law 4 rt p s m args meth c A) (hX : va_X q L xs s s.heap) (hbl : q < s.heap.size) (hbA : ¬ A q) (hL : L ≤ 384) (hd : Hd D (wC a b g k ++ wM o al g gm) A s H locs) (hr : Rel t k gm) (ht : t < 2000) (hl : lv_has ls 4 [(0, .ref q), (1, .ref (a 0)), (2, .ref o), (3, .int (nI i))]) (hi : i + 6 ≤ L) (hcb : cells + 3 ≤ 600000) (hsb : slots + 166 ≤ 7302250)
    (kk : ∀ (k1 : KC) (g1 : GM) (H : Heap) (locs : List Loc) (c1 s1 : Nat), c1 ≤ cells + 3 → s1 ≤ slots + 166 → Rel (t + 1) k1 g1 → Hd D (wC a b g k1 ++ wM o al g g1) A s H locs → W p l e room_1 s m args below meth c H locs c1 s1 Q (F0 m 1212 ls [])) : W p l e room_1 s m args below meth c H locs cells slots Q (F0 m 941 ls []) := by
  have hx := C.1
  have hb := C.2.1
  have hown := C.2.2.2.1
  have hts := C.2.2.2.2.1
  refine lv_aload_n hx hb dL_law_941 rfl (lv_at hl 1 rfl) ?_
  refine ev_i (w := fun u => wC a b g u ++ wM o al g gm) (k := k) C hd kwL_X9_back ((cC_back (op_back hr)).frame _) ⟨rfl, rfl⟩ ⟨Nat.le_of_ble_eq_true rfl, Nat.le_of_ble_eq_true rfl⟩ (rcC9.left _) hl.1 rfl rfl (Nat.le_of_ble_eq_true rfl) ⟨by show cells ≤ 600000; omega, by show slots ≤ 7302250; omega⟩ dL_law_942 (fun r1 k1 H locs h hd => ?_)
  replace hd := hd.swap
  obtain ⟨n2, h⟩ := h
  refine lv_aload_n hx hb dL_law_945 rfl (lv_at hl 2 rfl) ?_
  refine xv_i (w := fun u => wM o al g u ++ wC a b g k1) (k := gm) C.cx hd kwL_X10_back ((cM_back _ h).frame _) ⟨rfl, rfl⟩ ⟨Nat.le_of_ble_eq_true rfl, Nat.le_of_ble_eq_true rfl⟩ (wM_rcv.left _) hl.1 rfl rfl (Nat.le_of_ble_eq_true rfl) ⟨by show cells ≤ 600000; omega, by show slots ≤ 7302250; omega⟩ dL_law_946 (fun r2 g1 H locs h hd => ?_)
  obtain ⟨e1, hr⟩ := h
  subst e1
  refine lv_icmp_eq (tgt := 1212) hx hb dL_law_949 (by decide) (fun _ => ?_) (fun c1 => absurd rfl c1)
  exact kk k1 g1 H locs cells slots (by omega) (by omega) hr hd.swap
set_option maxHeartbeats 4000000 in
set_option maxRecDepth 100000 in
theorem law_24 {p : Program} {l : Launch} {e : Env} {s : State} {m : MethodId} {args : Array Value} {below : List Frame} {meth : Method} {c : Code} {H : Heap} {locs : List Loc} {Q : State → Prop} {P : EP} {D : va_G} {A : Nat → Prop} {cells slots : Nat} {rt : Option FieldType} {ls : Array Slot} {a : Nat → Nat} {b : Nat → Nat → Nat} {g : Nat → ClassId} {o : Nat} {al : Nat → Nat} {k : KC} {gm : GM} {t q L i : Nat} {xs : Nat → Int32} (C : CxE P D (tyA g) RL cL_law 4 rt p s m args meth c A) (hX : va_X q L xs s s.heap) (hbl : q < s.heap.size) (hbA : ¬ A q) (hL : L ≤ 384) (hd : Hd D (wC a b g k ++ wM o al g gm) A s H locs) (hr : Rel t k gm) (ht : t < 2000) (hl : lv_has ls 4 [(0, .ref q), (1, .ref (a 0)), (2, .ref o), (3, .int (nI i))]) (hi : i + 6 ≤ L) (hcb : cells + 3 ≤ 600000) (hsb : slots + 166 ≤ 7302250)
    (kk : ∀ (k1 : KC) (g1 : GM) (H : Heap) (locs : List Loc) (c1 s1 : Nat), c1 ≤ cells + 3 → s1 ≤ slots + 166 → Rel (t + 1) k1 g1 → Hd D (wC a b g k1 ++ wM o al g g1) A s H locs → W p l e room_1 s m args below meth c H locs c1 s1 Q (F0 m 1212 ls [])) : W p l e room_1 s m args below meth c H locs cells slots Q (F0 m 954 ls []) := by
  have hx := C.1
  have hb := C.2.1
  have hown := C.2.2.2.1
  have hts := C.2.2.2.2.1
  refine lv_aload_n hx hb dL_law_954 rfl (lv_at hl 1 rfl) ?_
  refine lawArg C hX hbl hbA hd.2.2 (j := 1) (v := 1) (by decide) rfl (by omega) hL hl dL_law_955 dL_law_956 dL_law_957 dL_law_958 dL_law_959 ?_
  refine ev_i (w := fun u => wC a b g u ++ wM o al g gm) (k := k) C hd kwL_X9_count ((cC_count _ (op_count _ hr)).frame _) ⟨rfl, rfl⟩ ⟨Nat.le_of_ble_eq_true rfl, Nat.le_of_ble_eq_true rfl⟩ (rcC9.left _) hl.1 rfl rfl (Nat.le_of_ble_eq_true rfl) ⟨by show cells ≤ 600000; omega, by show slots ≤ 7302250; omega⟩ dL_law_960 (fun r1 k1 H locs h hd => ?_)
  replace hd := hd.swap
  refine lv_aload_n hx hb dL_law_963 rfl (lv_at hl 2 rfl) ?_
  refine lawArg C hX hbl hbA hd.2.2 (j := 1) (v := 1) (by decide) rfl (by omega) hL hl dL_law_964 dL_law_965 dL_law_966 dL_law_967 dL_law_968 ?_
  refine xv_i (w := fun u => wM o al g u ++ wC a b g k1) (k := gm) C.cx hd kwL_X10_count ((cM_count _ h).frame _) ⟨rfl, rfl⟩ ⟨Nat.le_of_ble_eq_true rfl, Nat.le_of_ble_eq_true rfl⟩ (wM_rcv.left _) hl.1 rfl rfl (Nat.le_of_ble_eq_true rfl) ⟨by show cells ≤ 600000; omega, by show slots ≤ 7302250; omega⟩ dL_law_969 (fun r2 g1 H locs h hd => ?_)
  obtain ⟨e1, hr⟩ := h
  subst e1
  refine lv_icmp_eq (tgt := 1212) hx hb dL_law_972 (by decide) (fun _ => ?_) (fun c1 => absurd rfl c1)
  exact kk k1 g1 H locs cells slots (by omega) (by omega) hr hd.swap
set_option maxHeartbeats 4000000 in
set_option maxRecDepth 100000 in
theorem law_25 {p : Program} {l : Launch} {e : Env} {s : State} {m : MethodId} {args : Array Value} {below : List Frame} {meth : Method} {c : Code} {H : Heap} {locs : List Loc} {Q : State → Prop} {P : EP} {D : va_G} {A : Nat → Prop} {cells slots : Nat} {rt : Option FieldType} {ls : Array Slot} {a : Nat → Nat} {b : Nat → Nat → Nat} {g : Nat → ClassId} {o : Nat} {al : Nat → Nat} {k : KC} {gm : GM} {t q L i : Nat} {xs : Nat → Int32} (C : CxE P D (tyA g) RL cL_law 4 rt p s m args meth c A) (hX : va_X q L xs s s.heap) (hbl : q < s.heap.size) (hbA : ¬ A q) (hL : L ≤ 384) (hd : Hd D (wC a b g k ++ wM o al g gm) A s H locs) (hr : Rel t k gm) (ht : t < 2000) (hl : lv_has ls 4 [(0, .ref q), (1, .ref (a 0)), (2, .ref o), (3, .int (nI i))]) (hi : i + 6 ≤ L) (hcb : cells + 3 ≤ 600000) (hsb : slots + 166 ≤ 7302250)
    (kk : ∀ (k1 : KC) (g1 : GM) (H : Heap) (locs : List Loc) (c1 s1 : Nat), c1 ≤ cells + 3 → s1 ≤ slots + 166 → Rel (t + 1) k1 g1 → Hd D (wC a b g k1 ++ wM o al g g1) A s H locs → W p l e room_1 s m args below meth c H locs c1 s1 Q (F0 m 1212 ls [])) : W p l e room_1 s m args below meth c H locs cells slots Q (F0 m 977 ls []) := by
  have hx := C.1
  have hb := C.2.1
  have hown := C.2.2.2.1
  have hts := C.2.2.2.2.1
  refine lv_aload_n hx hb dL_law_977 rfl (lv_at hl 1 rfl) ?_
  refine lawArg C hX hbl hbA hd.2.2 (j := 1) (v := 1) (by decide) rfl (by omega) hL hl dL_law_978 dL_law_979 dL_law_980 dL_law_981 dL_law_982 ?_
  refine lawArg C hX hbl hbA hd.2.2 (j := 2) (v := 2) (by decide) rfl (by omega) hL hl dL_law_983 dL_law_984 dL_law_985 dL_law_986 dL_law_987 ?_
  refine lawArg C hX hbl hbA hd.2.2 (j := 3) (v := 3) (by decide) rfl (by omega) hL hl dL_law_988 dL_law_989 dL_law_990 dL_law_991 dL_law_992 ?_
  obtain ⟨n1, h1⟩ := op_sheet _ _ _ hr
  refine ev_i (w := fun u => wC a b g u ++ wM o al g gm) (k := k) C hd kwL_X9_sheet ((cC_sheet n1 _ _ _ h1).frame _) ⟨rfl, rfl⟩ ⟨Nat.le_of_ble_eq_true rfl, Nat.le_of_ble_eq_true rfl⟩ (rcC9.left _) hl.1 rfl rfl (Nat.le_of_ble_eq_true rfl) ⟨by show cells ≤ 600000; omega, by show slots ≤ 7302250; omega⟩ dL_law_993 (fun r1 k1 H locs h hd => ?_)
  replace hd := hd.swap
  obtain ⟨n2, h⟩ := h
  refine lv_aload_n hx hb dL_law_996 rfl (lv_at hl 2 rfl) ?_
  refine lawArg C hX hbl hbA hd.2.2 (j := 1) (v := 1) (by decide) rfl (by omega) hL hl dL_law_997 dL_law_998 dL_law_999 dL_law_1000 dL_law_1001 ?_
  refine lawArg C hX hbl hbA hd.2.2 (j := 2) (v := 2) (by decide) rfl (by omega) hL hl dL_law_1002 dL_law_1003 dL_law_1004 dL_law_1005 dL_law_1006 ?_
  refine lawArg C hX hbl hbA hd.2.2 (j := 3) (v := 3) (by decide) rfl (by omega) hL hl dL_law_1007 dL_law_1008 dL_law_1009 dL_law_1010 dL_law_1011 ?_
  refine xv_i (w := fun u => wM o al g u ++ wC a b g k1) (k := gm) C.cx hd kwL_X10_sheet ((cM_sheet _ _ _ _ h).frame _) ⟨rfl, rfl⟩ ⟨Nat.le_of_ble_eq_true rfl, Nat.le_of_ble_eq_true rfl⟩ (wM_rcv.left _) hl.1 rfl rfl (Nat.le_of_ble_eq_true rfl) ⟨by show cells ≤ 600000; omega, by show slots ≤ 7302250; omega⟩ dL_law_1012 (fun r2 g1 H locs h hd => ?_)
  obtain ⟨e1, hr⟩ := h
  subst e1
  refine lv_icmp_eq (tgt := 1212) hx hb dL_law_1015 (by decide) (fun _ => ?_) (fun c1 => absurd rfl c1)
  exact kk k1 g1 H locs cells slots (by omega) (by omega) hr hd.swap
set_option maxHeartbeats 4000000 in
set_option maxRecDepth 100000 in
theorem law_26 {p : Program} {l : Launch} {e : Env} {s : State} {m : MethodId} {args : Array Value} {below : List Frame} {meth : Method} {c : Code} {H : Heap} {locs : List Loc} {Q : State → Prop} {P : EP} {D : va_G} {A : Nat → Prop} {cells slots : Nat} {rt : Option FieldType} {ls : Array Slot} {a : Nat → Nat} {b : Nat → Nat → Nat} {g : Nat → ClassId} {o : Nat} {al : Nat → Nat} {k : KC} {gm : GM} {t q L i : Nat} {xs : Nat → Int32} (C : CxE P D (tyA g) RL cL_law 4 rt p s m args meth c A) (hX : va_X q L xs s s.heap) (hbl : q < s.heap.size) (hbA : ¬ A q) (hL : L ≤ 384) (hd : Hd D (wC a b g k ++ wM o al g gm) A s H locs) (hr : Rel t k gm) (ht : t < 2000) (hl : lv_has ls 4 [(0, .ref q), (1, .ref (a 0)), (2, .ref o), (3, .int (nI i))]) (hi : i + 6 ≤ L) (hcb : cells + 3 ≤ 600000) (hsb : slots + 166 ≤ 7302250)
    (kk : ∀ (k1 : KC) (g1 : GM) (H : Heap) (locs : List Loc) (c1 s1 : Nat), c1 ≤ cells + 3 → s1 ≤ slots + 166 → Rel (t + 1) k1 g1 → Hd D (wC a b g k1 ++ wM o al g g1) A s H locs → W p l e room_1 s m args below meth c H locs c1 s1 Q (F0 m 1212 ls [])) : W p l e room_1 s m args below meth c H locs cells slots Q (F0 m 1020 ls []) := by
  have hx := C.1
  have hb := C.2.1
  have hown := C.2.2.2.1
  have hts := C.2.2.2.2.1
  refine lv_aload_n hx hb dL_law_1020 rfl (lv_at hl 1 rfl) ?_
  refine lawArg C hX hbl hbA hd.2.2 (j := 1) (v := 1) (by decide) rfl (by omega) hL hl dL_law_1021 dL_law_1022 dL_law_1023 dL_law_1024 dL_law_1025 ?_
  refine lawArg C hX hbl hbA hd.2.2 (j := 2) (v := 2) (by decide) rfl (by omega) hL hl dL_law_1026 dL_law_1027 dL_law_1028 dL_law_1029 dL_law_1030 ?_
  refine lawArg C hX hbl hbA hd.2.2 (j := 3) (v := 3) (by decide) rfl (by omega) hL hl dL_law_1031 dL_law_1032 dL_law_1033 dL_law_1034 dL_law_1035 ?_
  refine ev_i (w := fun u => wC a b g u ++ wM o al g gm) (k := k) C hd kwL_X9_cell ((cC_cell _ _ _ (op_cell _ _ _ hr)).frame _) ⟨rfl, rfl⟩ ⟨Nat.le_of_ble_eq_true rfl, Nat.le_of_ble_eq_true rfl⟩ (rcC9.left _) hl.1 rfl rfl (Nat.le_of_ble_eq_true rfl) ⟨by show cells ≤ 600000; omega, by show slots ≤ 7302250; omega⟩ dL_law_1036 (fun r1 k1 H locs h hd => ?_)
  replace hd := hd.swap
  refine lv_aload_n hx hb dL_law_1039 rfl (lv_at hl 2 rfl) ?_
  refine lawArg C hX hbl hbA hd.2.2 (j := 1) (v := 1) (by decide) rfl (by omega) hL hl dL_law_1040 dL_law_1041 dL_law_1042 dL_law_1043 dL_law_1044 ?_
  refine lawArg C hX hbl hbA hd.2.2 (j := 2) (v := 2) (by decide) rfl (by omega) hL hl dL_law_1045 dL_law_1046 dL_law_1047 dL_law_1048 dL_law_1049 ?_
  refine lawArg C hX hbl hbA hd.2.2 (j := 3) (v := 3) (by decide) rfl (by omega) hL hl dL_law_1050 dL_law_1051 dL_law_1052 dL_law_1053 dL_law_1054 ?_
  refine xv_i (w := fun u => wM o al g u ++ wC a b g k1) (k := gm) C.cx hd kwL_X10_cell ((cM_cell _ _ _ h).frame _) ⟨rfl, rfl⟩ ⟨Nat.le_of_ble_eq_true rfl, Nat.le_of_ble_eq_true rfl⟩ (wM_rcv.left _) hl.1 rfl rfl (Nat.le_of_ble_eq_true rfl) ⟨by show cells ≤ 600000; omega, by show slots ≤ 7302250; omega⟩ dL_law_1055 (fun r2 g1 H locs h hd => ?_)
  obtain ⟨e1, hr⟩ := h
  subst e1
  refine lv_icmp_eq (tgt := 1212) hx hb dL_law_1058 (by decide) (fun _ => ?_) (fun c1 => absurd rfl c1)
  exact kk k1 g1 H locs cells slots (by omega) (by omega) hr hd.swap
set_option maxHeartbeats 4000000 in
set_option maxRecDepth 100000 in
theorem law_27 {p : Program} {l : Launch} {e : Env} {s : State} {m : MethodId} {args : Array Value} {below : List Frame} {meth : Method} {c : Code} {H : Heap} {locs : List Loc} {Q : State → Prop} {P : EP} {D : va_G} {A : Nat → Prop} {cells slots : Nat} {rt : Option FieldType} {ls : Array Slot} {a : Nat → Nat} {b : Nat → Nat → Nat} {g : Nat → ClassId} {o : Nat} {al : Nat → Nat} {k : KC} {gm : GM} {t q L i : Nat} {xs : Nat → Int32} (C : CxE P D (tyA g) RL cL_law 4 rt p s m args meth c A) (hX : va_X q L xs s s.heap) (hbl : q < s.heap.size) (hbA : ¬ A q) (hL : L ≤ 384) (hd : Hd D (wC a b g k ++ wM o al g gm) A s H locs) (hr : Rel t k gm) (ht : t < 2000) (hl : lv_has ls 4 [(0, .ref q), (1, .ref (a 0)), (2, .ref o), (3, .int (nI i))]) (hi : i + 6 ≤ L) (hcb : cells + 3 ≤ 600000) (hsb : slots + 166 ≤ 7302250)
    (kk : ∀ (k1 : KC) (g1 : GM) (H : Heap) (locs : List Loc) (c1 s1 : Nat), c1 ≤ cells + 3 → s1 ≤ slots + 166 → Rel (t + 1) k1 g1 → Hd D (wC a b g k1 ++ wM o al g g1) A s H locs → W p l e room_1 s m args below meth c H locs c1 s1 Q (F0 m 1212 ls [])) : W p l e room_1 s m args below meth c H locs cells slots Q (F0 m 1063 ls []) := by
  have hx := C.1
  have hb := C.2.1
  have hown := C.2.2.2.1
  have hts := C.2.2.2.2.1
  refine lv_aload_n hx hb dL_law_1063 rfl (lv_at hl 1 rfl) ?_
  refine lawArg C hX hbl hbA hd.2.2 (j := 1) (v := 1) (by decide) rfl (by omega) hL hl dL_law_1064 dL_law_1065 dL_law_1066 dL_law_1067 dL_law_1068 ?_
  refine lawArg C hX hbl hbA hd.2.2 (j := 2) (v := 2) (by decide) rfl (by omega) hL hl dL_law_1069 dL_law_1070 dL_law_1071 dL_law_1072 dL_law_1073 ?_
  refine lawArg C hX hbl hbA hd.2.2 (j := 3) (v := 3) (by decide) rfl (by omega) hL hl dL_law_1074 dL_law_1075 dL_law_1076 dL_law_1077 dL_law_1078 ?_
  refine lawArg C hX hbl hbA hd.2.2 (j := 4) (v := 4) (by decide) rfl (by omega) hL hl dL_law_1079 dL_law_1080 dL_law_1081 dL_law_1082 dL_law_1083 ?_
  refine lawArg C hX hbl hbA hd.2.2 (j := 5) (v := 5) (by decide) rfl (by omega) hL hl dL_law_1084 dL_law_1085 dL_law_1086 dL_law_1087 dL_law_1088 ?_
  refine ev_i (w := fun u => wC a b g u ++ wM o al g gm) (k := k) C hd kwL_X9_copy ((cC_copy _ _ _ _ _ (op_copy _ _ _ _ _ hr)).frame _) ⟨rfl, rfl⟩ ⟨Nat.le_of_ble_eq_true rfl, Nat.le_of_ble_eq_true rfl⟩ (rcC9.left _) hl.1 rfl rfl (Nat.le_of_ble_eq_true rfl) ⟨by show cells ≤ 600000; omega, by show slots ≤ 7302250; omega⟩ dL_law_1089 (fun r1 k1 H locs h hd => ?_)
  replace hd := hd.swap
  obtain ⟨n2, h⟩ := h
  refine lv_aload_n hx hb dL_law_1092 rfl (lv_at hl 2 rfl) ?_
  refine lawArg C hX hbl hbA hd.2.2 (j := 1) (v := 1) (by decide) rfl (by omega) hL hl dL_law_1093 dL_law_1094 dL_law_1095 dL_law_1096 dL_law_1097 ?_
  refine lawArg C hX hbl hbA hd.2.2 (j := 2) (v := 2) (by decide) rfl (by omega) hL hl dL_law_1098 dL_law_1099 dL_law_1100 dL_law_1101 dL_law_1102 ?_
  refine lawArg C hX hbl hbA hd.2.2 (j := 3) (v := 3) (by decide) rfl (by omega) hL hl dL_law_1103 dL_law_1104 dL_law_1105 dL_law_1106 dL_law_1107 ?_
  refine lawArg C hX hbl hbA hd.2.2 (j := 4) (v := 4) (by decide) rfl (by omega) hL hl dL_law_1108 dL_law_1109 dL_law_1110 dL_law_1111 dL_law_1112 ?_
  refine lawArg C hX hbl hbA hd.2.2 (j := 5) (v := 5) (by decide) rfl (by omega) hL hl dL_law_1113 dL_law_1114 dL_law_1115 dL_law_1116 dL_law_1117 ?_
  refine xv_i (w := fun u => wM o al g u ++ wC a b g k1) (k := gm) C.cx hd kwL_X10_copy ((cM_copy _ _ _ _ _ _ h).frame _) ⟨rfl, rfl⟩ ⟨Nat.le_of_ble_eq_true rfl, Nat.le_of_ble_eq_true rfl⟩ (wM_rcv.left _) hl.1 rfl rfl (Nat.le_of_ble_eq_true rfl) ⟨by show cells ≤ 600000; omega, by show slots ≤ 7302250; omega⟩ dL_law_1118 (fun r2 g1 H locs h hd => ?_)
  obtain ⟨e1, hr⟩ := h
  subst e1
  refine lv_icmp_eq (tgt := 1212) hx hb dL_law_1121 (by decide) (fun _ => ?_) (fun c1 => absurd rfl c1)
  exact kk k1 g1 H locs cells slots (by omega) (by omega) hr hd.swap
set_option maxHeartbeats 4000000 in
set_option maxRecDepth 100000 in
theorem law_28 {p : Program} {l : Launch} {e : Env} {s : State} {m : MethodId} {args : Array Value} {below : List Frame} {meth : Method} {c : Code} {H : Heap} {locs : List Loc} {Q : State → Prop} {P : EP} {D : va_G} {A : Nat → Prop} {cells slots : Nat} {rt : Option FieldType} {ls : Array Slot} {a : Nat → Nat} {b : Nat → Nat → Nat} {g : Nat → ClassId} {o : Nat} {al : Nat → Nat} {k : KC} {gm : GM} {t q L i : Nat} {xs : Nat → Int32} (C : CxE P D (tyA g) RL cL_law 4 rt p s m args meth c A) (hX : va_X q L xs s s.heap) (hbl : q < s.heap.size) (hbA : ¬ A q) (hL : L ≤ 384) (hd : Hd D (wC a b g k ++ wM o al g gm) A s H locs) (hr : Rel t k gm) (ht : t < 2000) (hl : lv_has ls 4 [(0, .ref q), (1, .ref (a 0)), (2, .ref o), (3, .int (nI i))]) (hi : i + 6 ≤ L) (hcb : cells + 3 ≤ 600000) (hsb : slots + 166 ≤ 7302250)
    (kk : ∀ (k1 : KC) (g1 : GM) (H : Heap) (locs : List Loc) (c1 s1 : Nat), c1 ≤ cells + 3 → s1 ≤ slots + 166 → Rel (t + 1) k1 g1 → Hd D (wC a b g k1 ++ wM o al g g1) A s H locs → W p l e room_1 s m args below meth c H locs c1 s1 Q (F0 m 1212 ls [])) : W p l e room_1 s m args below meth c H locs cells slots Q (F0 m 1126 ls []) := by
  have hx := C.1
  have hb := C.2.1
  have hown := C.2.2.2.1
  have hts := C.2.2.2.2.1
  refine lv_aload_n hx hb dL_law_1126 rfl (lv_at hl 1 rfl) ?_
  refine lawArg C hX hbl hbA hd.2.2 (j := 1) (v := 1) (by decide) rfl (by omega) hL hl dL_law_1127 dL_law_1128 dL_law_1129 dL_law_1130 dL_law_1131 ?_
  refine lawArg C hX hbl hbA hd.2.2 (j := 2) (v := 2) (by decide) rfl (by omega) hL hl dL_law_1132 dL_law_1133 dL_law_1134 dL_law_1135 dL_law_1136 ?_
  refine lawArg C hX hbl hbA hd.2.2 (j := 3) (v := 3) (by decide) rfl (by omega) hL hl dL_law_1137 dL_law_1138 dL_law_1139 dL_law_1140 dL_law_1141 ?_
  refine lawArg C hX hbl hbA hd.2.2 (j := 4) (v := 4) (by decide) rfl (by omega) hL hl dL_law_1142 dL_law_1143 dL_law_1144 dL_law_1145 dL_law_1146 ?_
  obtain ⟨n1, h1⟩ := op_trials _ _ _ _ ht hr
  refine ev_i (w := fun u => wC a b g u ++ wM o al g gm) (k := k) C hd kwL_X9_trials ((cC_trials n1 _ _ _ _ h1).frame _) ⟨rfl, rfl⟩ ⟨Nat.le_of_ble_eq_true rfl, Nat.le_of_ble_eq_true rfl⟩ (rcC9.left _) hl.1 rfl rfl (Nat.le_of_ble_eq_true rfl) ⟨by show cells ≤ 600000; omega, by show slots ≤ 7302250; omega⟩ dL_law_1147 (fun r1 k1 H locs h hd => ?_)
  replace hd := hd.swap
  obtain ⟨n2, h⟩ := h
  refine lv_aload_n hx hb dL_law_1150 rfl (lv_at hl 2 rfl) ?_
  refine lawArg C hX hbl hbA hd.2.2 (j := 1) (v := 1) (by decide) rfl (by omega) hL hl dL_law_1151 dL_law_1152 dL_law_1153 dL_law_1154 dL_law_1155 ?_
  refine lawArg C hX hbl hbA hd.2.2 (j := 2) (v := 2) (by decide) rfl (by omega) hL hl dL_law_1156 dL_law_1157 dL_law_1158 dL_law_1159 dL_law_1160 ?_
  refine lawArg C hX hbl hbA hd.2.2 (j := 3) (v := 3) (by decide) rfl (by omega) hL hl dL_law_1161 dL_law_1162 dL_law_1163 dL_law_1164 dL_law_1165 ?_
  refine lawArg C hX hbl hbA hd.2.2 (j := 4) (v := 4) (by decide) rfl (by omega) hL hl dL_law_1166 dL_law_1167 dL_law_1168 dL_law_1169 dL_law_1170 ?_
  refine xv_i (w := fun u => wM o al g u ++ wC a b g k1) (k := gm) C.cx hd kwL_X10_trials ((cM_trials _ _ _ _ _ h).frame _) ⟨rfl, rfl⟩ ⟨Nat.le_of_ble_eq_true rfl, Nat.le_of_ble_eq_true rfl⟩ (wM_rcv.left _) hl.1 rfl rfl (Nat.le_of_ble_eq_true rfl) ⟨by show cells ≤ 600000; omega, by show slots ≤ 7302250; omega⟩ dL_law_1171 (fun r2 g1 H locs h hd => ?_)
  obtain ⟨e1, hr⟩ := h
  subst e1
  refine lv_icmp_eq (tgt := 1212) hx hb dL_law_1174 (by decide) (fun _ => ?_) (fun c1 => absurd rfl c1)
  exact kk k1 g1 H locs cells slots (by omega) (by omega) hr hd.swap
set_option maxHeartbeats 4000000 in
set_option maxRecDepth 100000 in
theorem law_29 {p : Program} {l : Launch} {e : Env} {s : State} {m : MethodId} {args : Array Value} {below : List Frame} {meth : Method} {c : Code} {H : Heap} {locs : List Loc} {Q : State → Prop} {P : EP} {D : va_G} {A : Nat → Prop} {cells slots : Nat} {rt : Option FieldType} {ls : Array Slot} {a : Nat → Nat} {b : Nat → Nat → Nat} {g : Nat → ClassId} {o : Nat} {al : Nat → Nat} {k : KC} {gm : GM} {t q L i : Nat} {xs : Nat → Int32} (C : CxE P D (tyA g) RL cL_law 4 rt p s m args meth c A) (hX : va_X q L xs s s.heap) (hbl : q < s.heap.size) (hbA : ¬ A q) (hL : L ≤ 384) (hd : Hd D (wC a b g k ++ wM o al g gm) A s H locs) (hr : Rel t k gm) (ht : t < 2000) (hl : lv_has ls 4 [(0, .ref q), (1, .ref (a 0)), (2, .ref o), (3, .int (nI i))]) (hi : i + 6 ≤ L) (hcb : cells + 3 ≤ 600000) (hsb : slots + 166 ≤ 7302250)
    (kk : ∀ (k1 : KC) (g1 : GM) (H : Heap) (locs : List Loc) (c1 s1 : Nat), c1 ≤ cells + 3 → s1 ≤ slots + 166 → Rel (t + 1) k1 g1 → Hd D (wC a b g k1 ++ wM o al g g1) A s H locs → W p l e room_1 s m args below meth c H locs c1 s1 Q (F0 m 1212 ls [])) : W p l e room_1 s m args below meth c H locs cells slots Q (F0 m 1179 ls []) := by
  have hx := C.1
  have hb := C.2.1
  have hown := C.2.2.2.1
  have hts := C.2.2.2.2.1
  refine lv_aload_n hx hb dL_law_1179 rfl (lv_at hl 1 rfl) ?_
  refine lawArg C hX hbl hbA hd.2.2 (j := 1) (v := 1) (by decide) rfl (by omega) hL hl dL_law_1180 dL_law_1181 dL_law_1182 dL_law_1183 dL_law_1184 ?_
  refine lawArg C hX hbl hbA hd.2.2 (j := 2) (v := 2) (by decide) rfl (by omega) hL hl dL_law_1185 dL_law_1186 dL_law_1187 dL_law_1188 dL_law_1189 ?_
  refine ev_i (w := fun u => wC a b g u ++ wM o al g gm) (k := k) C hd kwL_X9_taken ((cC_taken _ _ (op_taken _ _ hr)).frame _) ⟨rfl, rfl⟩ ⟨Nat.le_of_ble_eq_true rfl, Nat.le_of_ble_eq_true rfl⟩ (rcC9.left _) hl.1 rfl rfl (Nat.le_of_ble_eq_true rfl) ⟨by show cells ≤ 600000; omega, by show slots ≤ 7302250; omega⟩ dL_law_1190 (fun r1 k1 H locs h hd => ?_)
  replace hd := hd.swap
  obtain ⟨n2, h⟩ := h
  refine lv_aload_n hx hb dL_law_1193 rfl (lv_at hl 2 rfl) ?_
  refine lawArg C hX hbl hbA hd.2.2 (j := 1) (v := 1) (by decide) rfl (by omega) hL hl dL_law_1194 dL_law_1195 dL_law_1196 dL_law_1197 dL_law_1198 ?_
  refine lawArg C hX hbl hbA hd.2.2 (j := 2) (v := 2) (by decide) rfl (by omega) hL hl dL_law_1199 dL_law_1200 dL_law_1201 dL_law_1202 dL_law_1203 ?_
  refine xv_i (w := fun u => wM o al g u ++ wC a b g k1) (k := gm) C.cx hd kwL_X10_taken ((cM_taken _ _ _ h).frame _) ⟨rfl, rfl⟩ ⟨Nat.le_of_ble_eq_true rfl, Nat.le_of_ble_eq_true rfl⟩ (wM_rcv.left _) hl.1 rfl rfl (Nat.le_of_ble_eq_true rfl) ⟨by show cells ≤ 600000; omega, by show slots ≤ 7302250; omega⟩ dL_law_1204 (fun r2 g1 H locs h hd => ?_)
  obtain ⟨e1, hr⟩ := h
  subst e1
  refine lv_icmp_eq (tgt := 1212) hx hb dL_law_1207 (by decide) (fun _ => ?_) (fun c1 => absurd rfl c1)
  exact kk k1 g1 H locs cells slots (by omega) (by omega) hr hd.swap
