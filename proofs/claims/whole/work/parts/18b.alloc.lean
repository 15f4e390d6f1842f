theorem at_end (ws : va_W) (x : Nat × va_E) (r : va_W) : (ws ++ x :: r)[ws.length]? = some x := by simp
theorem set_end (ws : va_W) (x y : Nat × va_E) (r : va_W) : (ws ++ x :: r).set ws.length y = ws ++ y :: r := by
  rw [List.set_append]
  simp
theorem at_left {ws : va_W} {i : Nat} {x : Nat × va_E} (h : ws[i]? = some x) (r : va_W) : (ws ++ r)[i]? = some x := by
  rw [List.getElem?_append_left (List.getElem?_eq_some_iff.mp h).1]
  exact h
theorem nI_back {n : Int32} (h0 : ¬ n < 0) : nI n.toNatClampNeg = n := by
  have h2 : 0 ≤ n.toInt := by
    rw [Int32.lt_iff_toInt_lt] at h0
    simpa using h0
  have hb := Int32.toInt_lt n
  apply Int32.toInt_inj.mp
  rw [nI_toInt (by rw [Int32.toNatClampNeg]; omega), Int32.toNatClampNeg]
  omega
theorem one_P {D : va_G} {ws : va_W} {H : Heap} {q0 : Nat} {x : Nat × va_E} (h : va_P D vwCl ws H) (he : ws[q0]? = some x) : va_P D vwCl [x] H := va_P_iff.mpr (fun z hz => by
  rw [List.mem_singleton] at hz
  subst hz
  exact h q0 _ he)
theorem one_D (x : Nat × va_E) : va_D (fun _ => True) [x] := va_D_iff.mpr ⟨by simp, fun _ _ => trivial⟩
theorem one_A {x : Nat × va_E} {sz z : Nat} (h : va_A [x] sz z) : z = x.1 ∨ sz ≤ z := by
  rcases va_A_iff.mp h with ⟨e, he⟩ | h
  · rw [List.mem_singleton] at he
    exact Or.inl (by rw [← he])
  · exact Or.inr h
theorem Hd.left {D : va_G} {w1 w2 : va_W} {A : Nat → Prop} {s : State} {H : Heap} {locs : List Loc} (h : Hd D (w1 ++ w2) A s H locs) : Hd D w1 A s H locs := by
  obtain ⟨h1, h2, h3⟩ := h
  have hx := va_D_iff.mp h2
  rw [List.map_append, List.nodup_append] at hx
  exact ⟨va_P_iff.mpr (fun q hq => va_P_iff.mp h1 q (List.mem_append_left _ hq)), va_D_iff.mpr ⟨hx.1.1, fun q hq => hx.2 q (List.mem_append_left _ hq)⟩, h3⟩
section AL
variable {p : Program} {l : Launch} {e : Env} {R : Room} {s : State} {m : MethodId} {args : Array Value} {below : List Frame} {meth : Method} {c : Code} {H : Heap} {locs : List Loc} {Q : State → Prop} {P : EP} {D : va_G} {A : Nat → Prop} {cells slots : Nat}
variable {cc : ByteArray} {nL pc idx : Nat} {rt : Option FieldType} {rest : List Value} {ls : Array Slot} {g : Nat → ClassId} {own : String}
/-- copyOf in any world that holds the row -/
theorem cpO (C : CxE P D (tyA g) own cc nL rt p s m args meth c A) {ws : va_W} (h : Hd D ws A s H locs) {q0 q N : Nat} {f : Nat → Int32} (he : ws[q0]? = some (q, .inl (g 0, N, .inl f))) {n : Int32} (hn0 : ¬ n < 0) (hnN : n.toNatClampNeg ≤ N) (hN : N ≤ 1000) (hlink : Cond.methodLink own idx yJ7_copyOf_59c91 ∈ Tw) (hls : ls.size = nL) (hR : 1 + 1 ≤ R.frames ∧ 8 + (3 + 11) + 80 ≤ R.locals) (hW : (rest.map fun v => v.category).sum ≤ 8) (hcs : cells + 1 ≤ R.cells ∧ slots + n.toNatClampNeg ≤ R.slots) (hdg : decode cc pc = .ok (.invokestatic idx, 3))
    (kk : ∀ (a' : Nat) (f' : Nat → Int32) (H1 : Heap) (locs1 : List Loc), (∀ j, j < n.toNatClampNeg → f' j = f j) → Hd D (ws ++ [(a', .inl (g 0, n.toNatClampNeg, .inl f'))]) A s H1 locs1 → W p l e R s m args below meth c H1 locs1 (cells + 1) (slots + n.toNatClampNeg) Q (F0 m (pc + 3) ls (.ref a' :: rest))) : W p l e R s m args below meth c H locs cells slots Q (F0 m pc ls (.int n :: .ref q :: rest)) := by
  have ht := C.2.2.2.2.1
  have hF : ∀ z, va_A [(q, .inl (g 0, N, .inl f))] H.size z → A z := fun z hz => by
    rcases one_A hz with hz | hge
    · rw [hz]; exact h.2.1.2 _ _ he
    · exact C.2.2.2.2.2.2.2.2.1 z (Nat.le_trans h.2.2.1 hge)
  have kwb : CallB R s args own idx yJ7_copyOf_59c91 cJ7_copyOf_59c91 3 (some (.array .int)) (.code yJ7_copyOf_59c91 cJ7_copyOf_59c91 3 (some (.array .int)) :: Tw) { frames := 1, cells := 1, slots := n.toNatClampNeg, locals := 80 } 1 n.toNatClampNeg 2 := callB_of 2 ht (Tw_code q_596) rfl rfl rfl (ht _ q_3) (ht _ hlink) (by decide +kernel) hR
  refine va_callr (va_runS (As := [.ref q, .int n]) (rest := rest) ⟨C.1, C.2.1, C.2.2.1, C.2.2.2.1, ht⟩ (c_copyOf (P := P) (D := D) (g := g) (q := q) (f := f) hn0 hnN hN H.size) ⟨kwb, ht _ q_595⟩ ⟨ctBlindE, fun U hU hW => ⟨rfl, by rw [hU], by rw [hU]; exact one_P h.1 he, va_K.moved hW.alike C.2.2.2.2.2.1, one_D _, C.2.2.2.2.2.2.2.2.2.call h.2.2 hU hW hF⟩⟩ rfl rfl hls rfl (lv_room hW) hdg hcs) h.2.2 (fun z _ hz => hF z hz) hF (fun u ra t H1 locs1 ht hvm hw hB hz1 hk1 hS => ?_)
  obtain ⟨rfl, hB⟩ := hB
  refine kk u.1 u.2 H1 locs1 hw ?_
  have hb1 := va_P_iff.mp hB.1
  rw [ht] at hb1
  have hb2 := va_D_iff.mp hB.2.2
  have hne : u.1 ≠ q := by
    have h3 := hb2.1
    simp only [List.map_cons, List.map_nil, List.nodup_cons, List.mem_singleton] at h3
    exact fun z => h3.1 z.symm
  have hge : H.size ≤ u.1 := by
    rcases one_A (hb2.2 (u.1, .inl (g 0, n.toNatClampNeg, .inl u.2)) (List.mem_cons_of_mem _ List.mem_cons_self)) with hz | hz
    · exact absurd hz hne
    · exact hz
  have hd0 := va_D_iff.mp h.2.1
  refine ⟨va_P_iff.mpr (fun z hz => ?_), va_D_iff.mpr ⟨?_, fun z hz => ?_⟩, hS⟩
  · rcases List.mem_append.mp hz with hz | hz
    · by_cases hzq : z.1 = q
      · obtain ⟨i, hi⟩ := List.getElem?_of_mem hz
        have hiq := h.2.1.1 i q0 z _ hi he hzq
        subst hiq
        rw [he] at hi
        cases hi
        exact hb1 _ List.mem_cons_self
      · have hlt := (va_P_iff.mp h.1 z hz).lt
        exact (va_P_iff.mp h.1 z hz).kept (hk1 z.1 hlt (fun hA => by
          rcases one_A hA with hz | hz
          · exact hzq hz
          · omega))
    · rw [List.mem_singleton] at hz
      subst hz
      exact hb1 _ (List.mem_cons_of_mem _ List.mem_cons_self)
  · rw [List.map_append, List.nodup_append]
    refine ⟨hd0.1, by simp, fun x hx y hy exy => ?_⟩
    simp only [List.map_cons, List.map_nil, List.mem_singleton] at hy
    obtain ⟨z, hz, rfl⟩ := List.mem_map.mp hx
    have hlt := (va_P_iff.mp h.1 z hz).lt
    omega
  · rcases List.mem_append.mp hz with hz | hz
    · exact hd0.2 z hz
    · rw [List.mem_singleton] at hz
      subst hz
      exact hF _ (Or.inr hge)
end AL
/-- contracts of constructors: the words ahead -/
theorem CxE_of {l : Launch} {P : EP} {D : va_G} {tys : List (ClassId × FieldType)} {y : MethodName} {cc : ByteArray} {maxL : Nat} {rt : Option FieldType} {rm : Room} {p : Program} {e : Env} {s s₁ : State} {m : MethodId} {args : Array Value} {below : List Frame} {meth : Method} {c : Code} {A : Nat → Prop} (B : BodyLoose p l y (headSpec (Cond.code y cc maxL rt :: Tw) rm) cc maxL rt e s m args below meth c s₁) (hml : c.maxLocals = maxL) (hK : va_K D vwCl tys s) (hA : ∀ q : Nat, s.heap.size ≤ q → A q) (hEC : EC P A s) : CxE P D tys y.cls cc maxL rt p s m args meth c A :=
  ⟨B.exec, B.bytes, hml, findClass_of_methodNamed B.named, fun w hw => atoms_spec (ws := Cond.code y cc maxL rt :: Tw) B.pre w (List.mem_cons_of_mem _ hw), hK, B.returns, B.notSynchronized, hA, hEC⟩
set_option maxHeartbeats 4000000 in
set_option maxRecDepth 100000 in
/-- Text(code, begins) -/
theorem c_X5_init {l : Launch} {P : EP} {D : va_G} {g : Nat → ClassId} {ws : va_W} {o x1 x2 : Nat} (sz : Nat) : Met l yX5_init (.code yX5_init cX5_init 3 none :: Tw) { frames := 1, cells := 0, slots := 0, locals := 20 } (va_Pc [.ref o, .ref x1, .ref x2] (ctPreE P D (tyA g) (ws ++ [(o, .inr (5, [.null, .null]))]) sz)) (va_Qv (fun _ : Unit => True) (ctPostE P D (tyA g) (fun _ : Unit => ws ++ [(o, .inr (5, [.ref x1, .ref x2]))]) (va_A (ws ++ [(o, .inr (5, [.null, .null]))]) sz)) (va_A (ws ++ [(o, .inr (5, [.null, .null]))]) sz)) 0 0 (va_A (ws ++ [(o, .inr (5, [.null, .null]))]) sz) := by
  refine Met.ofW (cc := cX5_init) (maxL := 3) (ret := none) (by decide) rfl ?_
  intro p e s m args below meth c s₁ B hml hv
  obtain ⟨rfl, hsz, hP, hK, hD0, hEC⟩ := hv
  subst hsz
  have hD := hD0.self (sz := s.heap.size)
  have hA : ∀ z : Nat, s.heap.size ≤ z → va_A (ws ++ [(o, .inr (5, [.null, .null]))]) s.heap.size z := fun z h => Or.inr h
  generalize va_A (ws ++ [(o, .inr (5, [.null, .null]))]) s.heap.size = A at hD hA hEC ⊢
  have C := CxE_of B hml hK hA hEC
  have hx := C.1
  have hb := C.2.1
  have hown := C.2.2.2.1
  have hts := C.2.2.2.2.1
  have hin : meth.name = "<init>" := (name_of_methodNamed B.named B.method).1
  have hS : va_S A s.heap s.heap [] := va_S.rf
  have hl := lv_entry ([.ref o, .ref x1, .ref x2]) (n := 3) (Nat.le_of_ble_eq_true rfl)
  rw [lg_entry_eq]
  generalize (lg_sl ([.ref o, .ref x1, .ref x2]) ++ List.replicate (3 - (lg_sl ([.ref o, .ref x1, .ref x2])).length) Slot.unset).toArray = ls at hl ⊢
  have hl : lv_has ls 3 [(0, .ref o), (1, .ref x1), (2, .ref x2)] := hl
  refine lv_aload_n hx hb dX5_init_0 rfl (lv_at hl 0 rfl) ?_
  refine W.objInit hx hb hown (hts (.methodLink RX5 3 objectInit) q_45) (hts (.instanceMethod objectInit) q_26) (hts (.code objectInit ⟨#[0xb1]⟩ 1 none) q_27) rfl (by rw [hml]; exact hl.1) rfl dX5_init_1 (Nat.le_of_ble_eq_true rfl) (Nat.le_of_ble_eq_true rfl) ?_
  refine W.eq (g2 := F0 m 4 ls []) rfl ?_
  refine lv_aload_n hx hb dX5_init_4 rfl (lv_at hl 0 rfl) ?_
  refine lv_aload_n hx hb dX5_init_5 rfl (lv_at hl 1 rfl) ?_
  refine va_putF (D := D) (ci := 5) (v := .ref x1) (ty := .array .int) (C := RX5) (T := TX5) (N := 2) hx hb hts twX5 tyX5 tyX5_ok nmX5 hown hK hP hD hS ws.length (at_end ws _ []) rfl 0 (by decide) (hts _ q_46) (fun _ h9 => h9) rfl hin rfl (by decide +kernel) rfl rfl (Nat.le_of_ble_eq_true rfl) dX5_init_6 (fun H locs hP hD hS => ?_)
  rw [set_end] at hP hD
  refine lv_aload_n hx hb dX5_init_9 rfl (lv_at hl 0 rfl) ?_
  refine lv_aload_n hx hb dX5_init_10 rfl (lv_at hl 2 rfl) ?_
  refine va_putF (D := D) (ci := 5) (v := .ref x2) (ty := .array .int) (C := RX5) (T := TX5) (N := 2) hx hb hts twX5 tyX5 tyX5_ok nmX5 hown hK hP hD hS ws.length (at_end ws _ []) rfl 1 (by decide) (hts _ q_47) (fun _ h9 => h9) rfl hin rfl (by decide +kernel) rfl rfl (Nat.le_of_ble_eq_true rfl) dX5_init_11 (fun H locs hP hD hS => ?_)
  rw [set_end] at hP hD
  exact W.vret hx hb B.returns (fun t ht hW => ⟨⟨(), rfl, trivial, by rw [ht]; exact hP, va_K.moved hW.alike hK, hD⟩, hS.F ht⟩) hS.2.2 dX5_init_14 C.2.2.2.2.2.2.2.1
set_option maxHeartbeats 4000000 in
set_option maxRecDepth 100000 in
/-- Plan(sets, ends, size): two rows come -/
theorem c_X1_init {l : Launch} {P : EP} {D : va_G} {g : Nat → ClassId} {ws : va_W} {o x1 x2 i1 i2 N : Nat} {f1 f2 : Nat → Int32} {n : Int32} (e1 : ws[i1]? = some (x1, .inl (g 0, N, .inl f1))) (e2 : ws[i2]? = some (x2, .inl (g 0, N, .inl f2))) (hn0 : ¬ n < 0) (hnN : n.toNatClampNeg ≤ N) (hN : N ≤ 1000) (sz : Nat) : Met l yX1_init (.code yX1_init cX1_init 4 none :: Tw) { frames := 2, cells := 2, slots := 2 * n.toNatClampNeg, locals := 110 } (va_Pc [.ref o, .ref x1, .ref x2, .int n] (ctPreE P D (tyA g) (ws ++ [(o, .inr (1, [.null, .null, .int 0]))]) sz)) (va_Qv (fun d : Dn => d.1 = o ∧ d.2.2.2.1 = n.toNatClampNeg ∧ (∀ j, j < n.toNatClampNeg → d.2.2.2.2.1 j = f1 j) ∧ ∀ j, j < n.toNatClampNeg → d.2.2.2.2.2 j = f2 j) (ctPostE P D (tyA g) (fun d : Dn => ws ++ cellP g d) (va_A (ws ++ [(o, .inr (1, [.null, .null, .int 0]))]) sz)) (va_A (ws ++ [(o, .inr (1, [.null, .null, .int 0]))]) sz)) 2 (2 * n.toNatClampNeg) (va_A (ws ++ [(o, .inr (1, [.null, .null, .int 0]))]) sz) := by
  refine Met.ofW (cc := cX1_init) (maxL := 4) (ret := none) (by decide) rfl ?_
  intro p e s m args below meth c s₁ B hml hv
  obtain ⟨rfl, hsz, hP, hK, hD0, hEC⟩ := hv
  subst hsz
  have hD := hD0.self (sz := s.heap.size)
  have hA : ∀ z : Nat, s.heap.size ≤ z → va_A (ws ++ [(o, .inr (1, [.null, .null, .int 0]))]) s.heap.size z := fun z h => Or.inr h
  generalize va_A (ws ++ [(o, .inr (1, [.null, .null, .int 0]))]) s.heap.size = A at hD hA hEC ⊢
  have C := CxE_of B hml hK hA hEC
  have hx := C.1
  have hb := C.2.1
  have hown := C.2.2.2.1
  have hts := C.2.2.2.2.1
  have hin : meth.name = "<init>" := (name_of_methodNamed B.named B.method).1
  have hS : va_S A s.heap s.heap [] := va_S.rf
  have hl := lv_entry ([.ref o, .ref x1, .ref x2, .int n]) (n := 4) (Nat.le_of_ble_eq_true rfl)
  rw [lg_entry_eq]
  generalize (lg_sl ([.ref o, .ref x1, .ref x2, .int n]) ++ List.replicate (4 - (lg_sl ([.ref o, .ref x1, .ref x2, .int n])).length) Slot.unset).toArray = ls at hl ⊢
  have hl : lv_has ls 4 [(0, .ref o), (1, .ref x1), (2, .ref x2), (3, .int n)] := hl
  refine lv_aload_n hx hb dX1_init_0 rfl (lv_at hl 0 rfl) ?_
  refine W.objInit hx hb hown (hts (.methodLink RX1 1 objectInit) q_639) (hts (.instanceMethod objectInit) q_26) (hts (.code objectInit ⟨#[0xb1]⟩ 1 none) q_27) rfl (by rw [hml]; exact hl.1) rfl dX1_init_1 (by show _ ≤ 2; omega) (by show _ ≤ 110; exact Nat.le_of_ble_eq_true rfl) ?_
  refine W.eq (g2 := F0 m 4 ls []) rfl ?_
  refine lv_aload_n hx hb dX1_init_4 rfl (lv_at hl 0 rfl) ?_
  refine lv_aload_n hx hb dX1_init_5 rfl (lv_at hl 1 rfl) ?_
  refine lv_iload_n hx hb dX1_init_6 rfl (lv_at hl 3 rfl) ?_
  refine cpO C ⟨hP, hD, hS⟩ (at_left e1 _) hn0 hnN hN q_640 hl.1 ⟨by show 1 + 1 ≤ 2; omega, by show 8 + (3 + 11) + 80 ≤ 110; omega⟩ (Nat.le_of_ble_eq_true rfl) ⟨by show 0 + 1 ≤ 2; omega, by show 0 + n.toNatClampNeg ≤ 2 * n.toNatClampNeg; omega⟩ dX1_init_7 (fun a1 g1 H locs hg1 hd => ?_)
  obtain ⟨hP, hD, hS⟩ := hd
  rw [List.append_assoc] at hP hD
  refine va_putF (D := D) (ci := 1) (v := .ref a1) (ty := .array .int) (C := RX1) (T := TX1) (N := 3) hx hb hts twX1 tyX1 tyX1_ok nmX1 hown hK hP hD hS ws.length (at_end ws _ _) rfl 0 (by decide) (hts _ q_641) (fun _ h9 => h9) rfl hin rfl (by decide +kernel) rfl rfl (Nat.le_of_ble_eq_true rfl) dX1_init_10 (fun H locs hP hD hS => ?_)
  rw [List.singleton_append, set_end] at hP hD
  refine lv_aload_n hx hb dX1_init_13 rfl (lv_at hl 0 rfl) ?_
  refine lv_aload_n hx hb dX1_init_14 rfl (lv_at hl 2 rfl) ?_
  refine lv_iload_n hx hb dX1_init_15 rfl (lv_at hl 3 rfl) ?_
  refine cpO C ⟨hP, hD, hS⟩ (at_left e2 _) hn0 hnN hN q_640 hl.1 ⟨by show 1 + 1 ≤ 2; omega, by show 8 + (3 + 11) + 80 ≤ 110; omega⟩ (Nat.le_of_ble_eq_true rfl) ⟨by show 0 + 1 + 1 ≤ 2; omega, by show 0 + n.toNatClampNeg + n.toNatClampNeg ≤ 2 * n.toNatClampNeg; omega⟩ dX1_init_16 (fun a2 g2 H locs hg2 hd => ?_)
  obtain ⟨hP, hD, hS⟩ := hd
  rw [List.append_assoc, List.cons_append] at hP hD
  refine va_putF (D := D) (ci := 1) (v := .ref a2) (ty := .array .int) (C := RX1) (T := TX1) (N := 3) hx hb hts twX1 tyX1 tyX1_ok nmX1 hown hK hP hD hS ws.length (at_end ws _ _) rfl 1 (by decide) (hts _ q_644) (fun _ h9 => h9) rfl hin rfl (by decide +kernel) rfl rfl (Nat.le_of_ble_eq_true rfl) dX1_init_19 (fun H locs hP hD hS => ?_)
  rw [set_end] at hP hD
  refine lv_aload_n hx hb dX1_init_22 rfl (lv_at hl 0 rfl) ?_
  refine lv_iload_n hx hb dX1_init_23 rfl (lv_at hl 3 rfl) ?_
  refine va_putF (D := D) (ci := 1) (v := .int n) (ty := .int) (C := RX1) (T := TX1) (N := 3) hx hb hts twX1 tyX1 tyX1_ok nmX1 hown hK hP hD hS ws.length (at_end ws _ _) rfl 2 (by decide) (hts _ q_647) (fun _ h9 => h9) rfl hin rfl (by decide +kernel) rfl rfl (Nat.le_of_ble_eq_true rfl) dX1_init_24 (fun H locs hP hD hS => ?_)
  rw [set_end] at hP hD
  have e3 : ws ++ (o, .inr (1, [.ref a1, .ref a2, .int n])) :: ([(a1, .inl (g 0, n.toNatClampNeg, .inl g1))] ++ [(a2, .inl (g 0, n.toNatClampNeg, .inl g2))]) = ws ++ cellP g (o, a1, a2, n.toNatClampNeg, g1, g2) := by
    show _ = ws ++ [(o, .inr (1, [.ref a1, .ref a2, .int (nI n.toNatClampNeg)])), _, _]
    rw [nI_back hn0]
    rfl
  have hP : va_P D vwCl (ws ++ cellP g (o, a1, a2, n.toNatClampNeg, g1, g2)) H := by rw [← e3]; exact hP
  have hD : va_D A (ws ++ cellP g (o, a1, a2, n.toNatClampNeg, g1, g2)) := by rw [← e3]; exact hD
  refine W.widen (k := 2) (n := 2 * n.toNatClampNeg) (by omega) (by omega) ?_
  exact W.vret hx hb B.returns (fun t ht hW => ⟨⟨(o, a1, a2, n.toNatClampNeg, g1, g2), rfl, ⟨rfl, rfl, hg1, hg2⟩, by rw [ht]; exact hP, va_K.moved hW.alike hK, hD⟩, hS.F ht⟩) hS.2.2 dX1_init_27 C.2.2.2.2.2.2.2.1
