/-! ===== text(), plan(): what came becomes one of the texts, of the plans ===== -/
def addX (k : KC) (d : Dn) : KC := (k.1, k.2.1, k.2.2.1, k.2.2.2.1, k.2.2.2.2.1, k.2.2.2.2.2.1 ++ [d], k.2.2.2.2.2.2)
def addL (k : KC) (d : Dn) : KC := (k.1, k.2.1, k.2.2.1, k.2.2.2.1, k.2.2.2.2.1, k.2.2.2.2.2.1, k.2.2.2.2.2.2 ++ [d])
def cTR (k : KC) (f : Nat → Option Nat) : KC := (k.1, k.2.1, k.2.2.1, f, k.2.2.2.2)
def cPR (k : KC) (f : Nat → Option Nat) : KC := (k.1, k.2.1, k.2.2.1, k.2.2.2.1, f, k.2.2.2.2.2)
theorem addX_mem (k : KC) (d : Dn) : d ∈ txC (addX k d) := List.mem_append_right _ List.mem_cons_self
theorem addL_mem (k : KC) (d : Dn) : d ∈ plC (addL k d) := List.mem_append_right _ List.mem_cons_self
theorem addX_perm (a : Nat → Nat) (b : Nat → Nat → Nat) (g : Nat → ClassId) (k : KC) (d : Dn) : (wTx a b g (k, some d)).Perm (wC a b g (addX k d)) := by
  show ((fxC a b g k ++ ((txC k).flatMap (cellT g) ++ (plC k).flatMap (cellP g))) ++ cellT g d).Perm (fxC a b g k ++ ((txC k ++ [d]).flatMap (cellT g) ++ (plC k).flatMap (cellP g)))
  rw [List.flatMap_append, List.append_assoc, List.append_assoc, List.append_assoc, List.flatMap_singleton]
  exact List.Perm.append_left _ (List.Perm.append_left _ List.perm_append_comm)
theorem addL_perm (a : Nat → Nat) (b : Nat → Nat → Nat) (g : Nat → ClassId) (k : KC) (d : Dn) : (wPl a b g (k, some d)).Perm (wC a b g (addL k d)) := by
  show ((fxC a b g k ++ ((txC k).flatMap (cellT g) ++ (plC k).flatMap (cellP g))) ++ cellP g d).Perm (fxC a b g k ++ ((txC k).flatMap (cellT g) ++ (plC k ++ [d]).flatMap (cellP g)))
  rw [List.flatMap_append, List.append_assoc, List.append_assoc, List.flatMap_singleton]
def DiA (l : Launch) (P : EP) (D : va_G) (tys : List (ClassId × FieldType)) {S : Type} (w : S → va_W) (y : MethodName) (cc : ByteArray) (maxL : Nat) (rm : Room) (av : List Value) (k : S) (Q : Int32 → S → Prop) (mc ms : Nat) : Prop :=
  ∀ sz : Nat, Met l y (.code y cc maxL (some .int) :: Tw) rm (va_Pc av (ctPreE P D tys (w k) sz)) (va_Qi Q (ctPostE P D tys w (va_A (w k) sz)) (va_A (w k) sz)) mc ms (va_A (w k) sz)
theorem DiA_of {l : Launch} {P : EP} {D : va_G} {tys : List (ClassId × FieldType)} {S : Type} {w : S → va_W} {k : S} {y : MethodName} {cc : ByteArray} {maxL : Nat} {rm : Room} {av : List Value} {Qp : Int32 → S → Prop} {mc ms : Nat} (hy : plainName y.cls = true) (hn : (lg_sl av).length ≤ maxL)
    (body : ∀ (p : Program) (e : Env) (s : State) (m : MethodId) (args : Array Value) (below : List Frame) (meth : Method) (c : Code) (A : Nat → Prop) (Z : State → Prop) (ls : Array Slot), CxE P D tys y.cls cc maxL (some .int) p s m args meth c A → (∀ {v : Int32} {u : S} {H : Heap} {locs : List Loc} {pc : Nat} {ls : Array Slot} {cells slots : Nat}, Hd D (w u) A s H locs → Qp v u → cells ≤ mc → slots ≤ ms → decode cc pc = .ok (.ireturn, 1) → W p l e rm s m args below meth c H locs cells slots Z (F0 m pc ls [.int v])) → Hd D (w k) A s s.heap [] → lv_has ls maxL (lv_args 0 av) → W p l e rm s m args below meth c s.heap [] 0 0 Z (F0 m 0 ls [])) : DiA l P D tys w y cc maxL rm av k Qp mc ms := by
  intro sz
  refine Met.ofW (cc := cc) (maxL := maxL) (ret := some .int) hy rfl ?_
  intro p e s m args below meth c s₁ B hml hv
  obtain ⟨rfl, hsz, hP, hK, hD0, hEC⟩ := hv
  subst hsz
  have hD := hD0.self (sz := s.heap.size)
  have hA : ∀ q : Nat, s.heap.size ≤ q → va_A (w k) s.heap.size q := fun q h => Or.inr h
  generalize va_A (w k) s.heap.size = A at hD hA hEC ⊢
  have C := CxE_of B hml hK hA hEC
  have hl := lv_entry av (n := maxL) hn
  rw [lg_entry_eq]
  exact body p e s m _ below meth c A _ _ C (fun hd hq h1 h2 hdg => W.widen (k := mc) (n := ms) h1 h2 (W.iret C.1 C.2.1 C.2.2.2.2.2.2.1 (fun t ht hW => ⟨⟨_, _, rfl, hq, by rw [ht]; exact hd.1, va_K.moved hW.alike C.2.2.2.2.2.1, hd.2.1⟩, hd.2.2.F ht⟩) hd.2.2.2.2 hdg C.2.2.2.2.2.2.2.1)) ⟨hP, hD, va_S.rf⟩ hl
theorem DiA.frame {l : Launch} {P : EP} {D : va_G} {tys : List (ClassId × FieldType)} {S : Type} {w : S → va_W} {k : S} {y : MethodName} {cc : ByteArray} {maxL : Nat} {rm : Room} {av : List Value} {mc ms : Nat} {Q : Int32 → S → Prop} (h : DiA l P D tys w y cc maxL rm av k Q mc ms) (wr : va_W) : DiA l P D tys (fun u => w u ++ wr) y cc maxL rm av k Q mc ms := by
  intro sz
  refine MetFree.mono (h sz) (fun a st hp => ⟨hp.1, ctPreE_left hp.2⟩) (fun _ _ _ _ _ x => x) (fun a st o t hp hq => ?_)
  obtain ⟨hsz, h2, h3, h4, -⟩ := hp.2
  subst hsz
  obtain ⟨⟨⟨r, u, e1, e2, b1, b2, b3⟩, hF⟩, L, hL1, hL2⟩ := hq
  obtain ⟨g1, g2⟩ := fr_post (wr := wr) ⟨rfl, h2, h3, h4⟩ hF b1 b3
  exact ⟨⟨⟨r, u, e1, e2, g1, b2, g2⟩, ⟨hF.1, fun q hq1 hq2 => hF.2 q hq1 (fun hA => hq2 (va_A_left hA))⟩⟩, L, hL1, fun q hq => va_A_left (hL2 q hq)⟩
section StR
variable {p : Program} {l : Launch} {e : Env} {R : Room} {s : State} {m : MethodId} {args : Array Value} {below : List Frame} {meth : Method} {c : Code} {H : Heap} {locs : List Loc} {Q : State → Prop} {P : EP} {D : va_G} {A : Nat → Prop} {cells slots : Nat}
variable {cc : ByteArray} {nL pc : Nat} {rt : Option FieldType} {rest : List Value} {ls : Array Slot} {a : Nat → Nat} {b : Nat → Nat → Nat} {g : Nat → ClassId} {k : KC} {own : String}
theorem stC8_7 (C : CxE P D (tyA g) own cc nL rt p s m args meth c A) (h : Hd D (wC a b g k) A s H locs) {d : Dn} (hm : d ∈ txC k) {x : Int32} (hin : vp_in x 6) (hdg : decode cc pc = .ok (.aastore, 1)) (kk : ∀ (H1 : Heap) (locs1 : List Loc), Hd D (wC a b g (cTR k (va_up (k.2.2.2.1) x.toNatClampNeg (some d.1)))) A s H1 locs1 → W p l e R s m args below meth c H1 locs1 cells slots Q (F0 m (pc + 1) ls rest)) : W p l e R s m args below meth c H locs cells slots Q (F0 m pc ls (.ref d.1 :: .int x :: .ref (b 1 7) :: rest)) := by
  obtain ⟨q0, he⟩ := wC_text (a := a) (b := b) (g := g) hm (q := (d.1, .inr (5, [.ref d.2.1, .ref d.2.2.1]))) List.mem_cons_self
  exact va_astq C.1 C.2.1 C.2.2.2.2.2.1 h.1 h.2.1 h.2.2 7 4 q0 5 (r := (RX5, TX5, 2)) rfl rfl he rfl hin hdg (fun H1 locs1 hP hD hS => kk H1 locs1 ⟨hP, hD, hS⟩)
theorem stC8_8 (C : CxE P D (tyA g) own cc nL rt p s m args meth c A) (h : Hd D (wC a b g k) A s H locs) {d : Dn} (hm : d ∈ plC k) {x : Int32} (hin : vp_in x 8) (hdg : decode cc pc = .ok (.aastore, 1)) (kk : ∀ (H1 : Heap) (locs1 : List Loc), Hd D (wC a b g (cPR k (va_up (k.2.2.2.2.1) x.toNatClampNeg (some d.1)))) A s H1 locs1 → W p l e R s m args below meth c H1 locs1 cells slots Q (F0 m (pc + 1) ls rest)) : W p l e R s m args below meth c H locs cells slots Q (F0 m pc ls (.ref d.1 :: .int x :: .ref (b 1 8) :: rest)) := by
  obtain ⟨q0, he⟩ := wC_plan (a := a) (b := b) (g := g) hm (q := (d.1, .inr (1, [.ref d.2.1, .ref d.2.2.1, .int (nI d.2.2.2.1)]))) List.mem_cons_self
  exact va_astq C.1 C.2.1 C.2.2.2.2.2.1 h.1 h.2.1 h.2.2 8 2 q0 1 (r := (RX1, TX1, 3)) rfl rfl he rfl hin hdg (fun H1 locs1 hP hD hS => kk H1 locs1 ⟨hP, hD, hS⟩)
end StR
theorem kwRX9_X6_read_134 : CWv RX9 134 yX6_read cX6_read 4 (some (.object "BellAndDrop$Text")) 1 := ⟨⟨q_400, q_397, q_7, by decide +kernel⟩, q_398, q_399⟩
theorem kwRX9_X2_read_151 : CWv RX9 151 yX2_read cX2_read 8 (some (.object "BellAndDrop$Plan")) 2 := ⟨⟨q_621, q_618, q_8, by decide +kernel⟩, q_619, q_620⟩
def wC_text_ (a : Nat → Nat)  (k : KC) (Q : Int32 → KC → Prop) : Prop := (((k.1 1 1) < (6 : Int32) → (wC_X6_read a k (fun od_2 k_2 => ((od_2 = none → Q ((-100 : Int32) - (k_2.1 6 7)) (cI k_2 5 1 (0 : Int32))) ∧ (∀ d_2 : Dn, od_2 = some d_2 → (vp_in (k_2.1 1 1) 6 ∧ Q (((k_2.1 1 1) + (1 : Int32)) - (1 : Int32)) (cI (cTR (cI (addX k_2 d_2) 5 1 (0 : Int32)) (va_up ((cI (addX k_2 d_2) 5 1 (0 : Int32)).2.2.2.1) (k_2.1 1 1).toNatClampNeg (some d_2.1))) 1 1 ((k_2.1 1 1) + (1 : Int32))))))))) ∧ (¬ (k.1 1 1) < (6 : Int32) → Q (-4 : Int32) k))
set_option maxHeartbeats 4000000 in
set_option maxRecDepth 100000 in
theorem cC_text_ {l : Launch} {P : EP} {D : va_G} {a : Nat → Nat} {b : Nat → Nat → Nat} {g : Nat → ClassId} {k : KC} {Qp : Int32 → KC → Prop}  (h : wC_text_ a k Qp) : DiA l P D (tyA g) (wC a b g) yX9_text cX9_text 2 ({ frames := 58, cells := 3, slots := 166, locals := 2205 }) [.ref (a 0)] k Qp 3 166 := by
  refine DiA_of (by decide) (Nat.le_of_ble_eq_true rfl) ?_
  intro p e s m args below meth c A Z ls C ret hd hl
  have hx := C.1
  have hb := C.2.1
  have hl : lv_has ls 2 [(0, .ref (a 0))] := hl
  replace h : (((k.1 1 1) < (6 : Int32) → (wC_X6_read a k (fun od_2 k_2 => ((od_2 = none → Qp ((-100 : Int32) - (k_2.1 6 7)) (cI k_2 5 1 (0 : Int32))) ∧ (∀ d_2 : Dn, od_2 = some d_2 → (vp_in (k_2.1 1 1) 6 ∧ Qp (((k_2.1 1 1) + (1 : Int32)) - (1 : Int32)) (cI (cTR (cI (addX k_2 d_2) 5 1 (0 : Int32)) (va_up ((cI (addX k_2 d_2) 5 1 (0 : Int32)).2.2.2.1) (k_2.1 1 1).toNatClampNeg (some d_2.1))) 1 1 ((k_2.1 1 1) + (1 : Int32))))))))) ∧ (¬ (k.1 1 1) < (6 : Int32) → Qp (-4 : Int32) k)) := h
  refine lv_aload_n hx hb dX9_text_0 rfl (lv_at hl 0 rfl) ?_
  refine gC9_9_0 C hd dX9_text_1 ?_
  refine gC9_8_1 C hd (v := k.1 1 1) rfl dX9_text_4 ?_
  refine lv_bipush (v := 6) hx hb dX9_text_7 (by decide) ?_
  refine lv_icmp_lt (tgt := 15) hx hb dX9_text_9 (by decide) (fun c_1 => ?_) (fun c_1 => ?_)
  · replace h := h.1 c_1
    refine lv_aload_n hx hb dX9_text_15 rfl (lv_at hl 0 rfl) ?_
    refine gC9_9_5 C hd dX9_text_16 ?_
    refine lv_aload_n hx hb dX9_text_19 rfl (lv_at hl 0 rfl) ?_
    refine gC9_9_4 C hd dX9_text_20 ?_
    refine ev_qA (w := wTx a b g) (k := (k, none)) C (by rw [wTx_none]; exact hd) kwRX9_X6_read_134 (cC_X6_read h) rfl rfl ⟨by decide, by decide⟩ (by rw [wTx_none]; exact rcC6) hl.1 rfl rfl (Nat.le_of_ble_eq_true rfl) ⟨by decide, by decide⟩ dX9_text_23 (fun r_2 u_2 H locs h hd => ?_)
    obtain ⟨k_2, od_2⟩ := u_2
    obtain ⟨er_2, h⟩ := h
    cases od_2 with
    | none =>
      subst er_2
      replace h := h.1 rfl
      rw [wTx_none] at hd
      refine lv_astore_nN (lv' := [(1, .null), (0, .ref (a 0))]) hx hb dX9_text_26 rfl hl (by decide) rfl (fun ls hl => ?_)
      refine lv_aload_n hx hb dX9_text_27 rfl (lv_at hl 1 rfl) ?_
      refine gC9_9_4 C hd dX9_text_28 ?_
      refine lv_iconst (v := 0) hx hb dX9_text_31 (by decide) ?_
      refine pC9_4_1 C hd dX9_text_32 (fun H locs hd => ?_)
      refine lv_aload_nN hx hb dX9_text_35 rfl (lv_at hl 0 rfl) ?_
      refine lv_ifnonnullN hx hb dX9_text_36 ?_
      refine lv_bipush (v := -100) hx hb dX9_text_39 (by decide) ?_
      refine lv_aload_n hx hb dX9_text_41 rfl (lv_at hl 1 rfl) ?_
      refine gC9_9_5 C hd dX9_text_42 ?_
      refine gC9_6_7 C hd (v := k_2.1 6 7) rfl dX9_text_45 ?_
      refine lv_isub hx hb dX9_text_48 ?_
      exact ret hd h (by decide) (by decide) dX9_text_49
    | some d_2 =>
      subst er_2
      replace h := h.2 d_2 rfl
      replace hd := hd.perm (addX_perm a b g k_2 d_2)
      refine lv_astore_n (lv' := [(1, .ref d_2.1), (0, .ref (a 0))]) hx hb dX9_text_26 rfl hl (by decide) rfl (fun ls hl => ?_)
      refine lv_aload_n hx hb dX9_text_27 rfl (lv_at hl 1 rfl) ?_
      refine gC9_9_4 C hd dX9_text_28 ?_
      refine lv_iconst (v := 0) hx hb dX9_text_31 (by decide) ?_
      refine pC9_4_1 C hd dX9_text_32 (fun H locs hd => ?_)
      refine lv_aload_n hx hb dX9_text_35 rfl (lv_at hl 0 rfl) ?_
      refine lv_ifnonnull (tgt := 50) hx hb dX9_text_36 (by decide) ?_
      refine lv_aload_n hx hb dX9_text_50 rfl (lv_at hl 1 rfl) ?_
      refine gC9_9_0 C hd dX9_text_51 ?_
      refine gC9_8_7 C hd dX9_text_54 ?_
      refine lv_aload_n hx hb dX9_text_57 rfl (lv_at hl 1 rfl) ?_
      refine gC9_9_0 C hd dX9_text_58 ?_
      refine gC9_8_1 C hd (v := k_2.1 1 1) rfl dX9_text_61 ?_
      refine lv_aload_n hx hb dX9_text_64 rfl (lv_at hl 0 rfl) ?_
      refine stC8_7 C hd (addX_mem _ _) h.1 dX9_text_65 (fun H locs hd => ?_)
      replace h := h.2
      refine lv_aload_n hx hb dX9_text_66 rfl (lv_at hl 1 rfl) ?_
      refine gC9_9_0 C hd dX9_text_67 ?_
      refine lv_dup hx hb dX9_text_70 rfl ?_
      refine gC9_8_1 C hd (v := k_2.1 1 1) rfl dX9_text_71 ?_
      refine lv_iconst (v := 1) hx hb dX9_text_74 (by decide) ?_
      refine lv_iadd hx hb dX9_text_75 ?_
      refine pC9_8_1 C hd dX9_text_76 (fun H locs hd => ?_)
      refine lv_aload_n hx hb dX9_text_79 rfl (lv_at hl 1 rfl) ?_
      refine gC9_9_0 C hd dX9_text_80 ?_
      refine gC9_8_1 C hd (v := ((k_2.1 1 1) + (1 : Int32))) rfl dX9_text_83 ?_
      refine lv_iconst (v := 1) hx hb dX9_text_86 (by decide) ?_
      refine lv_isub hx hb dX9_text_87 ?_
      exact ret hd h (by decide) (by decide) dX9_text_88
  · replace h := h.2 c_1
    refine lv_bipush (v := -4) hx hb dX9_text_12 (by decide) ?_
    exact ret hd h (by decide) (by decide) dX9_text_14
def wC_plan_  (k : KC) (Q : Int32 → KC → Prop) : Prop := (((k.1 1 2) < (8 : Int32) → (∃ n_2 : Nat, wC_X2_read n_2 0 (k.1 1 0) 0 0 0 k (fun od_2 k_2 => ((od_2 = none → Q ((-100 : Int32) - (k_2.1 7 2)) (cI k_2 5 1 (0 : Int32))) ∧ (∀ d_2 : Dn, od_2 = some d_2 → (vp_in (k_2.1 1 2) 8 ∧ Q (((k_2.1 1 2) + (1 : Int32)) - (1 : Int32)) (cI (cPR (cI (addL k_2 d_2) 5 1 (0 : Int32)) (va_up ((cI (addL k_2 d_2) 5 1 (0 : Int32)).2.2.2.2.1) (k_2.1 1 2).toNatClampNeg (some d_2.1))) 1 2 ((k_2.1 1 2) + (1 : Int32))))))))) ∧ (¬ (k.1 1 2) < (8 : Int32) → Q (-4 : Int32) k))
set_option maxHeartbeats 4000000 in
set_option maxRecDepth 100000 in
theorem cC_plan_ {l : Launch} {P : EP} {D : va_G} {a : Nat → Nat} {b : Nat → Nat → Nat} {g : Nat → ClassId} {k : KC} {Qp : Int32 → KC → Prop}  (h : wC_plan_ k Qp) : DiA l P D (tyA g) (wC a b g) yX9_plan cX9_plan 2 ({ frames := 4, cells := 3, slots := 51, locals := 167 }) [.ref (a 0)] k Qp 3 51 := by
  refine DiA_of (by decide) (Nat.le_of_ble_eq_true rfl) ?_
  intro p e s m args below meth c A Z ls C ret hd hl
  have hx := C.1
  have hb := C.2.1
  have hl : lv_has ls 2 [(0, .ref (a 0))] := hl
  replace h : (((k.1 1 2) < (8 : Int32) → (∃ n_2 : Nat, wC_X2_read n_2 0 (k.1 1 0) 0 0 0 k (fun od_2 k_2 => ((od_2 = none → Qp ((-100 : Int32) - (k_2.1 7 2)) (cI k_2 5 1 (0 : Int32))) ∧ (∀ d_2 : Dn, od_2 = some d_2 → (vp_in (k_2.1 1 2) 8 ∧ Qp (((k_2.1 1 2) + (1 : Int32)) - (1 : Int32)) (cI (cPR (cI (addL k_2 d_2) 5 1 (0 : Int32)) (va_up ((cI (addL k_2 d_2) 5 1 (0 : Int32)).2.2.2.2.1) (k_2.1 1 2).toNatClampNeg (some d_2.1))) 1 2 ((k_2.1 1 2) + (1 : Int32))))))))) ∧ (¬ (k.1 1 2) < (8 : Int32) → Qp (-4 : Int32) k)) := h
  refine lv_aload_n hx hb dX9_plan_0 rfl (lv_at hl 0 rfl) ?_
  refine gC9_9_0 C hd dX9_plan_1 ?_
  refine gC9_8_2 C hd (v := k.1 1 2) rfl dX9_plan_4 ?_
  refine lv_bipush (v := 8) hx hb dX9_plan_7 (by decide) ?_
  refine lv_icmp_lt (tgt := 15) hx hb dX9_plan_9 (by decide) (fun c_1 => ?_) (fun c_1 => ?_)
  · replace h := h.1 c_1
    refine lv_aload_n hx hb dX9_plan_15 rfl (lv_at hl 0 rfl) ?_
    refine gC9_9_6 C hd dX9_plan_16 ?_
    refine lv_aload_n hx hb dX9_plan_19 rfl (lv_at hl 0 rfl) ?_
    refine gC9_9_4 C hd dX9_plan_20 ?_
    refine lv_aload_n hx hb dX9_plan_23 rfl (lv_at hl 0 rfl) ?_
    refine gC9_9_0 C hd dX9_plan_24 ?_
    refine gC9_8_0 C hd (v := k.1 1 0) rfl dX9_plan_27 ?_
    obtain ⟨n_2, h⟩ := h
    refine ev_qA (w := wPl a b g) (k := (k, none)) C (by rw [wPl_none]; exact hd) kwRX9_X2_read_151 (cC_X2_read n_2 _ h) rfl rfl ⟨by decide, by decide⟩ (by rw [wPl_none]; exact rcC2) hl.1 rfl rfl (Nat.le_of_ble_eq_true rfl) ⟨by decide, by decide⟩ dX9_plan_30 (fun r_2 u_2 H locs h hd => ?_)
    obtain ⟨k_2, od_2⟩ := u_2
    obtain ⟨er_2, h⟩ := h
    cases od_2 with
    | none =>
      subst er_2
      replace h := h.1 rfl
      rw [wPl_none] at hd
      refine lv_astore_nN (lv' := [(1, .null), (0, .ref (a 0))]) hx hb dX9_plan_33 rfl hl (by decide) rfl (fun ls hl => ?_)
      refine lv_aload_n hx hb dX9_plan_34 rfl (lv_at hl 1 rfl) ?_
      refine gC9_9_4 C hd dX9_plan_35 ?_
      refine lv_iconst (v := 0) hx hb dX9_plan_38 (by decide) ?_
      refine pC9_4_1 C hd dX9_plan_39 (fun H locs hd => ?_)
      refine lv_aload_nN hx hb dX9_plan_42 rfl (lv_at hl 0 rfl) ?_
      refine lv_ifnonnullN hx hb dX9_plan_43 ?_
      refine lv_bipush (v := -100) hx hb dX9_plan_46 (by decide) ?_
      refine lv_aload_n hx hb dX9_plan_48 rfl (lv_at hl 1 rfl) ?_
      refine gC9_9_6 C hd dX9_plan_49 ?_
      refine gC9_2_2 C hd (v := k_2.1 7 2) rfl dX9_plan_52 ?_
      refine lv_isub hx hb dX9_plan_55 ?_
      exact ret hd h (by decide) (by decide) dX9_plan_56
    | some d_2 =>
      subst er_2
      replace h := h.2 d_2 rfl
      replace hd := hd.perm (addL_perm a b g k_2 d_2)
      refine lv_astore_n (lv' := [(1, .ref d_2.1), (0, .ref (a 0))]) hx hb dX9_plan_33 rfl hl (by decide) rfl (fun ls hl => ?_)
      refine lv_aload_n hx hb dX9_plan_34 rfl (lv_at hl 1 rfl) ?_
      refine gC9_9_4 C hd dX9_plan_35 ?_
      refine lv_iconst (v := 0) hx hb dX9_plan_38 (by decide) ?_
      refine pC9_4_1 C hd dX9_plan_39 (fun H locs hd => ?_)
      refine lv_aload_n hx hb dX9_plan_42 rfl (lv_at hl 0 rfl) ?_
      refine lv_ifnonnull (tgt := 57) hx hb dX9_plan_43 (by decide) ?_
      refine lv_aload_n hx hb dX9_plan_57 rfl (lv_at hl 1 rfl) ?_
      refine gC9_9_0 C hd dX9_plan_58 ?_
      refine gC9_8_8 C hd dX9_plan_61 ?_
      refine lv_aload_n hx hb dX9_plan_64 rfl (lv_at hl 1 rfl) ?_
      refine gC9_9_0 C hd dX9_plan_65 ?_
      refine gC9_8_2 C hd (v := k_2.1 1 2) rfl dX9_plan_68 ?_
      refine lv_aload_n hx hb dX9_plan_71 rfl (lv_at hl 0 rfl) ?_
      refine stC8_8 C hd (addL_mem _ _) h.1 dX9_plan_72 (fun H locs hd => ?_)
      replace h := h.2
      refine lv_aload_n hx hb dX9_plan_73 rfl (lv_at hl 1 rfl) ?_
      refine gC9_9_0 C hd dX9_plan_74 ?_
      refine lv_dup hx hb dX9_plan_77 rfl ?_
      refine gC9_8_2 C hd (v := k_2.1 1 2) rfl dX9_plan_78 ?_
      refine lv_iconst (v := 1) hx hb dX9_plan_81 (by decide) ?_
      refine lv_iadd hx hb dX9_plan_82 ?_
      refine pC9_8_2 C hd dX9_plan_83 (fun H locs hd => ?_)
      refine lv_aload_n hx hb dX9_plan_86 rfl (lv_at hl 1 rfl) ?_
      refine gC9_9_0 C hd dX9_plan_87 ?_
      refine gC9_8_2 C hd (v := ((k_2.1 1 2) + (1 : Int32))) rfl dX9_plan_90 ?_
      refine lv_iconst (v := 1) hx hb dX9_plan_93 (by decide) ?_
      refine lv_isub hx hb dX9_plan_94 ?_
      exact ret hd h (by decide) (by decide) dX9_plan_95
  · replace h := h.2 c_1
    refine lv_bipush (v := -4) hx hb dX9_plan_12 (by decide) ?_
    exact ret hd h (by decide) (by decide) dX9_plan_14
