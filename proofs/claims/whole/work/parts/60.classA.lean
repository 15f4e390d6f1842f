/-! ===== the class, made anew ===== -/
def cl0 (g : Nat → ClassId) (o x1 : Nat) (al : Nat → Nat) : va_W := [(o, .inr (0, [.ref x1, .ref (al 1), .ref (al 2), .ref (al 3), .ref (al 4), .ref (al 5), .ref (al 6), .int 0, .int 0, .int 30, .int 0])), (al 1, .inl (g 0, 8, .inl (fun _ => 0))), (al 2, .inl (g 0, 8, .inl (fun _ => 0))), (al 3, .inl (g 0, 32, .inl (fun _ => 0))), (al 4, .inl (g 0, 4, .inl (fun _ => 0))), (al 5, .inl (g 0, 8, .inl (fun _ => 0))), (al 6, .inl (g 0, 8, .inl (fun _ => 0)))]
def cl2 (g : Nat → ClassId) (o : Nat) (al : Nat → Nat) : va_W := [(o, .inr (2, [.ref (al 0), .ref (al 1), .int 0])), (al 0, .inl (g 0, 24, .inl (fun _ => 0))), (al 1, .inl (g 0, 24, .inl (fun _ => 0)))]
def cl3 (g : Nat → ClassId) (o : Nat) (al : Nat → Nat) : va_W := [(o, .inr (3, [.int (-1), .int 0, .ref (al 2)])), (al 2, .inl (g 0, 40, .inl (fun _ => 0)))]
def cl4 (g : Nat → ClassId) (o : Nat) (al : Nat → Nat) : va_W := [(o, .inr (4, [.ref (al 0), .int 0])), (al 0, .inl (g 0, 160, .inl (fun _ => 0)))]
def cl6 (g : Nat → ClassId) (o : Nat) (al : Nat → Nat) : va_W := [(o, .inr (6, [.null, .int 0, .int 0, .int 0, .int 0, .ref (al 5), .int 0, .int 0])), (al 5, .inl (g 0, 160, .inl (fun _ => 0)))]
def cl7 (g : Nat → ClassId) (o : Nat) (al : Nat → Nat) : va_W := [(o, .inr (7, [.ref (al 0), .ref (al 1), .ref (al 2), .int 0, .int 0, .int 0, .int 0, .int 0, .int 0, .int 0])), (al 0, .inl (g 0, 20, .inl (fun _ => 0))), (al 1, .inl (g 0, 20, .inl (fun _ => 0))), (al 2, .inl (g 0, 20, .inl (fun _ => 0)))]
def cl8 (g : Nat → ClassId) (o : Nat) (u : (Nat → Nat) × Nat × Nat × Nat) : va_W := [(o, .inr (8, [.int 0, .int 1, .int 0, .ref (u.1 3), .ref (u.1 4), .ref (u.1 5), .ref (u.1 6), .ref (u.1 7), .ref (u.1 8), .ref (u.1 9), .ref (u.1 10)])), ((u.1 3), .inl (g 0, 8, .inl (fun _ => 0))), ((u.1 4), .inl (g 0, 4, .inl (wr0))), ((u.1 5), .inl (g 0, 24, .inl (go0))), ((u.1 6), .inl (g 0, 64, .inl (fun _ => 0))), ((u.1 7), .inl (g 4, 6, .inr (.inr (.inr (.inr (va_up (fun _ => none) 0 (some u.2.1))))))), ((u.1 8), .inl (g 2, 8, .inr (.inr (.inr (.inr (fun _ => none)))))), ((u.1 9), .inl (g 0, 6, .inl (fun _ => 0))), ((u.1 10), .inl (g 0, 160, .inl (fun _ => 0))), (u.2.1, .inr (5, [.ref u.2.2.1, .ref u.2.2.2])), (u.2.2.1, .inl (g 0, 3, .inl (tx0))), (u.2.2.2, .inl (g 0, 4, .inl (bg0)))]
theorem cwX9_X8 : CWi RX9 9 yX8_init cX8_init 1 0 := ⟨q_32, q_30, q_2, q_31, rfl, by decide +kernel⟩
theorem cwX9_X0 : CWi RX9 18 yX0_init cX0_init 2 1 := ⟨q_108, q_106, q_5, q_107, rfl, by decide +kernel⟩
theorem cwX9_X4 : CWin RX9 33 yX4_init RX9 cX4_init 1 0 := ⟨q_155, List.mem_of_getElem? (i := 0) rfl, q_6, q_154, rfl, by decide +kernel⟩
theorem cwX9_X6 : CWin RX9 40 yX6_init RX9 cX6_init 1 0 := ⟨q_170, List.mem_of_getElem? (i := 1) rfl, q_7, q_169, rfl, by decide +kernel⟩
theorem cwX9_X2 : CWin RX9 47 yX2_init RX9 cX2_init 1 0 := ⟨q_202, List.mem_of_getElem? (i := 2) rfl, q_8, q_201, rfl, by decide +kernel⟩
theorem cwX9_X7 : CWin RX9 54 yX7_init RX9 cX7_init 1 0 := ⟨q_219, List.mem_of_getElem? (i := 3) rfl, q_9, q_218, rfl, by decide +kernel⟩
theorem cwX9_X3 : CWin RX9 65 yX3_init RX9 cX3_init 1 0 := ⟨q_265, List.mem_of_getElem? (i := 4) rfl, q_10, q_264, rfl, by decide +kernel⟩
theorem pmS (x y : Nat × va_E) (V : va_W) : (x :: (V ++ [y])).Perm (x :: y :: V) := List.Perm.cons _ (List.perm_append_comm (l₁ := V) (l₂ := [y]))
theorem pmT (X T B : va_W) : ((X ++ T) ++ B).Perm ((X ++ B) ++ T) := by
  rw [List.append_assoc, List.append_assoc]
  exact List.Perm.append_left _ List.perm_append_comm
def E9 (U : State) : Prop := E8 U ∧ va_AO RX3 U
theorem E9_ev : Evw E9 := Evw.and E8_ev Evw.ao
theorem dfl_0 {j : Nat} (hj : j < 11) : defaultValue (tyX0 j) = vp_V [.null, .null, .null, .null, .null, .null, .null, .int 0, .int 0, .int 0, .int 0] j := by
  match j, hj with
  | 0, _ => rfl
  | 1, _ => rfl
  | 2, _ => rfl
  | 3, _ => rfl
  | 4, _ => rfl
  | 5, _ => rfl
  | 6, _ => rfl
  | 7, _ => rfl
  | 8, _ => rfl
  | 9, _ => rfl
  | 10, _ => rfl
theorem dfl_2 {j : Nat} (hj : j < 3) : defaultValue (tyX2 j) = vp_V [.null, .null, .int 0] j := by
  match j, hj with
  | 0, _ => rfl
  | 1, _ => rfl
  | 2, _ => rfl
theorem dfl_3 {j : Nat} (hj : j < 3) : defaultValue (tyX3 j) = vp_V [.int 0, .int 0, .null] j := by
  match j, hj with
  | 0, _ => rfl
  | 1, _ => rfl
  | 2, _ => rfl
theorem dfl_4 {j : Nat} (hj : j < 2) : defaultValue (tyX4 j) = vp_V [.null, .int 0] j := by
  match j, hj with
  | 0, _ => rfl
  | 1, _ => rfl
theorem dfl_6 {j : Nat} (hj : j < 8) : defaultValue (tyX6 j) = vp_V [.null, .int 0, .int 0, .int 0, .int 0, .null, .int 0, .int 0] j := by
  match j, hj with
  | 0, _ => rfl
  | 1, _ => rfl
  | 2, _ => rfl
  | 3, _ => rfl
  | 4, _ => rfl
  | 5, _ => rfl
  | 6, _ => rfl
  | 7, _ => rfl
theorem dfl_7 {j : Nat} (hj : j < 10) : defaultValue (tyX7 j) = vp_V [.null, .null, .null, .int 0, .int 0, .int 0, .int 0, .int 0, .int 0, .int 0] j := by
  match j, hj with
  | 0, _ => rfl
  | 1, _ => rfl
  | 2, _ => rfl
  | 3, _ => rfl
  | 4, _ => rfl
  | 5, _ => rfl
  | 6, _ => rfl
  | 7, _ => rfl
  | 8, _ => rfl
  | 9, _ => rfl
theorem dfl_8 {j : Nat} (hj : j < 11) : defaultValue (tyX8 j) = vp_V [.int 0, .int 0, .int 0, .null, .null, .null, .null, .null, .null, .null, .null] j := by
  match j, hj with
  | 0, _ => rfl
  | 1, _ => rfl
  | 2, _ => rfl
  | 3, _ => rfl
  | 4, _ => rfl
  | 5, _ => rfl
  | 6, _ => rfl
  | 7, _ => rfl
  | 8, _ => rfl
  | 9, _ => rfl
  | 10, _ => rfl
set_option maxHeartbeats 4000000 in
set_option maxRecDepth 100000 in
theorem sheetStep {p : Program} {l : Launch} {e : Env} {s : State} {m : MethodId} {args : Array Value} {below : List Frame} {meth : Method} {c : Code} {H : Heap} {locs : List Loc} {Q : State → Prop} {P : EP} {D : va_G} {A : Nat → Prop} {ls : Array Slot} {o : Nat} {g : Nat → ClassId} {x1 x2 x3 x4 x5 x6 x7 x8 r i k1 n1 : Nat} {f : Nat → Option Nat} {V : va_W} (C : CxE P D (tyA g) RX9 cX9_init 2 none p s m args meth c A) (hA : ∀ q, s.heap.size ≤ q → A q) (hi : i < 4) (hd : Hd D ((o, .inr (9, [.ref x1, .ref x2, .ref x3, .ref x4, .ref x5, .ref x6, .ref x7, .ref x8, .ref r, .int 0])) :: (r, .inl (g 3, 4, .inr (.inr (.inr (.inr f))))) :: V) A s H locs) (hl : lv_has ls 2 [(0, .ref o), (1, .int (nI i))]) (hk : k1 + 2 ≤ 53) (hn : n1 + 43 ≤ 1164)
    (kk : ∀ (q : Nat) (al : Nat → Nat) (H : Heap) (locs : List Loc) (ls : Array Slot), Hd D ((o, .inr (9, [.ref x1, .ref x2, .ref x3, .ref x4, .ref x5, .ref x6, .ref x7, .ref x8, .ref r, .int 0])) :: (r, .inl (g 3, 4, .inr (.inr (.inr (.inr (va_up f i (some q))))))) :: (V ++ cl3 g q al)) A s H locs → lv_has ls 2 [(0, .ref o), (1, .int (nI (i + 1)))] → W p l e { frames := 10, cells := 53, slots := 1164, locals := 400 } s m args below meth c H locs (k1 + 2) (n1 + 43) Q (F0 m 114 ls [])) : W p l e { frames := 10, cells := 53, slots := 1164, locals := 400 } s m args below meth c H locs k1 n1 Q (F0 m 114 ls []) := by
  have hx := C.1
  have hb := C.2.1
  have hown := C.2.2.2.1
  have hts := C.2.2.2.2.1
  have hK := C.2.2.2.2.2.1
  refine lv_iload_n hx hb dX9_init_114 rfl (lv_at hl 1 rfl) ?_
  refine lv_iconst (v := 4) hx hb dX9_init_115 (by decide) ?_
  refine lv_icmp_ge (tgt := 138) hx hb dX9_init_116 (by decide) (fun c1 => absurd c1 (nI_ge (a := i) (b := 4) hi (by decide))) (fun _ => ?_)
  refine lv_aload_n hx hb dX9_init_119 rfl (lv_at hl 0 rfl) ?_
  refine va_get (D := D) (ci := 9) (v := .ref r) (C := RX9) (T := TX9) (N := 10) hx hb hts twX9 hown hK hd.1 0 rfl rfl 8 (Nat.le_of_ble_eq_true rfl) (hts _ q_287) (fun _ h9 => h9) rfl dX9_init_120 ?_
  refine lv_iload_n hx hb dX9_init_123 rfl (lv_at hl 1 rfl) ?_
  refine va_new (ci := 3) (fs := [.int 0, .int 0, .null]) (C := RX3) (T := TX3) (N := 3) hx hb hts twX3 tyX3 tyX3_ok hown (hts _ q_260) (hts _ q_262) (hts _ q_10) hK hd.1 hd.2.1 hd.2.2 hA rfl (fun j hj => dfl_3 hj) (by show k1 + 1 ≤ 53; omega) (by show n1 + 3 ≤ 1164; omega) dX9_init_124 (fun q H hP hD hS => ?_)
  have hd : Hd D (((o, .inr (9, [.ref x1, .ref x2, .ref x3, .ref x4, .ref x5, .ref x6, .ref x7, .ref x8, .ref r, .int 0])) :: (r, .inl (g 3, 4, .inr (.inr (.inr (.inr f))))) :: V) ++ [(q, .inr (3, [.int 0, .int 0, .null]))]) A s H locs := ⟨hP, hD, hS⟩
  clear hP hD hS
  refine lv_dup hx hb dX9_init_127 rfl ?_
  refine ciN_v C hd cwX9_X3 (Cn.of (c_X3_init (P := P) (D := D) (g := g))) Evw.tr trivial rfl rfl ⟨by decide, by decide⟩ hl.1 rfl rfl (Nat.le_of_ble_eq_true rfl) ⟨by show k1 + 1 + 1 ≤ 53; omega, by show n1 + 3 + 40 ≤ 1164; omega⟩ dX9_init_128 (fun al H locs _ hd => ?_)
  replace hd : Hd D (((o, .inr (9, [.ref x1, .ref x2, .ref x3, .ref x4, .ref x5, .ref x6, .ref x7, .ref x8, .ref r, .int 0])) :: (r, .inl (g 3, 4, .inr (.inr (.inr (.inr f))))) :: V) ++ cl3 g q al) A s H locs := hd
  refine va_astq hx hb hK hd.1 hd.2.1 hd.2.2 1 3 (V.length + 1 + 1 + 0) 3 (r := (RX3, TX3, 3)) rfl rfl (at_pl ((o, .inr (9, [.ref x1, .ref x2, .ref x3, .ref x4, .ref x5, .ref x6, .ref x7, .ref x8, .ref r, .int 0])) :: (r, .inl (g 3, 4, .inr (.inr (.inr (.inr f))))) :: V) (cl3 g q al) 0 rfl) rfl (vp_in_nI hi (by decide)) dX9_init_131 (fun H locs hP hD hS => ?_)
  rw [nI_clamp (n := i) (by omega)] at hP hD
  have hd : Hd D ((o, .inr (9, [.ref x1, .ref x2, .ref x3, .ref x4, .ref x5, .ref x6, .ref x7, .ref x8, .ref r, .int 0])) :: (r, .inl (g 3, 4, .inr (.inr (.inr (.inr (va_up f i (some q))))))) :: (V ++ cl3 g q al)) A s H locs := ⟨hP, hD, hS⟩
  clear hP hD hS
  refine lv_iinc (v := nI i + 1) (lv' := [(1, .int (nI i + 1)), (0, .ref o)]) hx hb dX9_init_132 hl (k := 1) rfl rfl (by decide) rfl (fun ls hl => ?_)
  refine lv_goto (tgt := 114) hx hb dX9_init_135 (by decide) ?_
  rw [nI_1 i] at hl
  exact kk q al H locs ls hd (lv_sub hl [1, 0] rfl)
def aC0 (o w m1 m2 m3 t x pp v s0 s1 s2 s3 : Nat) (i : Nat) : Nat := bif Nat.beq i 0 then o else bif Nat.beq i 1 then w else bif Nat.beq i 2 then m1 else bif Nat.beq i 3 then m2 else bif Nat.beq i 4 then m3 else bif Nat.beq i 5 then t else bif Nat.beq i 6 then x else bif Nat.beq i 7 then pp else bif Nat.beq i 8 then v else bif Nat.beq i 9 then s0 else bif Nat.beq i 10 then s1 else bif Nat.beq i 11 then s2 else s3
def bC0 (r : Nat) (u5 : (Nat → Nat) × Nat × Nat × Nat) (a2 a3 a4 a5 a6 a7 a8 y0 y1 y2 y3 : Nat → Nat) (i : Nat) : Nat → Nat := bif Nat.beq i 0 then fun _ => r else bif Nat.beq i 1 then u5.1 else bif Nat.beq i 2 then a2 else bif Nat.beq i 3 then a3 else bif Nat.beq i 4 then a4 else bif Nat.beq i 5 then a5 else bif Nat.beq i 6 then a6 else bif Nat.beq i 7 then a7 else bif Nat.beq i 8 then a8 else bif Nat.beq i 9 then y0 else bif Nat.beq i 10 then y1 else bif Nat.beq i 11 then y2 else y3
def sc0 (x y : Nat) : Int32 := bif Nat.beq y 9 then (bif Nat.beq x 0 then -1 else bif Nat.beq x 2 || (Nat.beq x 3 || Nat.beq x 4) then 30 else 0) else bif Nat.beq y 0 && (Nat.beq x 9 || (Nat.beq x 10 || (Nat.beq x 11 || Nat.beq x 12))) then -1 else bif Nat.beq x 1 && Nat.beq y 1 then 1 else 0
def ar0 (x y : Nat) : Nat → Int32 := bif Nat.beq x 1 && Nat.beq y 4 then wr0 else bif Nat.beq x 1 && Nat.beq y 5 then go0 else fun _ => 0
def kC0 (d : Dn) : KC := (sc0, ar0, none, va_up (fun _ => none) 0 (some d.1), fun _ => none, [d], [])
def K0ok (k : KC) : Prop := ∃ d : Dn, k = kC0 d ∧ d.2.2.2 = (3, tx0, bg0)
theorem sheets_f {f : Nat → Option Nat} (a : Nat → Nat) (h : ∀ n, n < 4 → f n = some (a (9 + n))) {D : va_G} {g : Nat → ClassId} {r : Nat} {H : Heap} (hh : va_at D vwCl (r, .inl (g 3, 4, .inr (.inr (.inr (.inr f))))) H) : va_at D vwCl (r, .inl (g 3, 4, .inr (.inr (.inr (.inr (fun n => some (a (9 + n)))))))) H := by
  have e : vp_cell (g 3) (4, .inr (.inr (.inr (.inr f)))) = vp_cell (g 3) (4, .inr (.inr (.inr (.inr (fun n => some (a (9 + n))))))) := by
    rw [vp_cell_q, vp_cell_q]
    unfold arrV
    congr 2
    funext j
    show va_rf (f j.1) = va_rf (some (a (9 + j.1)))
    rw [h j.1 j.2]
  show H[r]? = some (vp_cell (g 3) (4, .inr (.inr (.inr (.inr (fun n => some (a (9 + n))))))))
  rw [← e]
  exact hh
theorem Hd.swap1 {D : va_G} {x y y' : Nat × va_E} {V : va_W} {A : Nat → Prop} {s : State} {H : Heap} {locs : List Loc} (h : Hd D (x :: y :: V) A s H locs) (hy : y'.1 = y.1) (hh : va_at D vwCl y H → va_at D vwCl y' H) : Hd D (x :: y' :: V) A s H locs := by
  obtain ⟨h1, h2, h3⟩ := h
  rw [va_P_iff] at h1
  rw [va_D_iff] at h2
  refine ⟨va_P_iff.mpr (fun q hq => ?_), va_D_iff.mpr ⟨?_, fun q hq => ?_⟩, h3⟩
  · rcases List.mem_cons.mp hq with rfl | hq
    · exact h1 _ List.mem_cons_self
    · rcases List.mem_cons.mp hq with rfl | hq
      · exact hh (h1 _ (List.mem_cons_of_mem _ List.mem_cons_self))
      · exact h1 _ (List.mem_cons_of_mem _ (List.mem_cons_of_mem _ hq))
  · have z := h2.1
    simp only [List.map_cons] at z ⊢
    rw [hy]
    exact z
  · rcases List.mem_cons.mp hq with rfl | hq
    · exact h2.2 _ List.mem_cons_self
    · rcases List.mem_cons.mp hq with rfl | hq
      · rw [hy]; exact h2.2 _ (List.mem_cons_of_mem _ List.mem_cons_self)
      · exact h2.2 _ (List.mem_cons_of_mem _ (List.mem_cons_of_mem _ hq))
set_option maxHeartbeats 4000000 in
set_option maxRecDepth 100000 in
theorem worldC {g : Nat → ClassId} {o r w m1 m2 m3 t x pp v s0 s1 s2 s3 : Nat} {u5 : (Nat → Nat) × Nat × Nat × Nat} {u16 u31 u46 u61 u72 u83 u94 y0 y1 y2 y3 : Nat → Nat} {V1 V2 V3 V4 V5 V6 V7 V8 : va_W} (h1 : V1 = [] ++ cl8 g w u5) (h2 : V2 = V1 ++ cl0 g m1 w u16) (h3 : V3 = V2 ++ cl0 g m2 w u31) (h4 : V4 = V3 ++ cl0 g m3 w u46) (h5 : V5 = V4 ++ cl4 g t u61) (h6 : V6 = V5 ++ cl6 g x u72) (h7 : V7 = V6 ++ cl2 g pp u83) (h8 : V8 = V7 ++ cl7 g v u94) : List.Perm ((o, .inr (9, [.ref w, .ref m1, .ref m2, .ref m3, .ref t, .ref x, .ref pp, .ref v, .ref r, .int (-1)])) :: (r, .inl (g 3, 4, .inr (.inr (.inr (.inr (fun n => some ((aC0 o w m1 m2 m3 t x pp v s0 s1 s2 s3) (9 + n)))))))) :: ((((V8 ++ cl3 g s0 y0) ++ cl3 g s1 y1) ++ cl3 g s2 y2) ++ cl3 g s3 y3)) (wC (aC0 o w m1 m2 m3 t x pp v s0 s1 s2 s3) (bC0 r u5 u16 u31 u46 u61 u72 u83 u94 y0 y1 y2 y3) g (kC0 (u5.2.1, u5.2.2.1, u5.2.2.2, 3, tx0, bg0))) := by
  subst h8
  subst h7
  subst h6
  subst h5
  subst h4
  subst h3
  subst h2
  subst h1
  refine List.Perm.trans (List.Perm.of_eq ?_) ((pmT ((o, .inr (9, [.ref w, .ref m1, .ref m2, .ref m3, .ref t, .ref x, .ref pp, .ref v, .ref r, .int (-1)])) :: (r, .inl (g 3, 4, .inr (.inr (.inr (.inr (fun n => some ((aC0 o w m1 m2 m3 t x pp v s0 s1 s2 s3) (9 + n)))))))) :: (cl8 g w u5).take 9) ((cl8 g w u5).drop 9) (cl0 g m1 w u16 ++ (cl0 g m2 w u31 ++ (cl0 g m3 w u46 ++ (cl4 g t u61 ++ (cl6 g x u72 ++ (cl2 g pp u83 ++ (cl7 g v u94 ++ (cl3 g s0 y0 ++ (cl3 g s1 y1 ++ (cl3 g s2 y2 ++ (cl3 g s3 y3)))))))))))).trans (List.Perm.of_eq ?_))
  · rfl
  · rfl
