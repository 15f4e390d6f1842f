/-! ===== the base with an environment: nest words, text constants, the static row UNDER ===== -/
abbrev EP : Type := (Nat → Nat) × (Nat → Nat) × Nat
def NT : List (String × Nat × MethodName × String) := [(RX9, 33, yX4_init, RX9), (RX9, 40, yX6_init, RX9), (RX9, 47, yX2_init, RX9), (RX9, 54, yX7_init, RX9), (RX9, 65, yX3_init, RX9), (RX8, 58, yX9_within, RX9), (RX0, 64, yX9_bounded, RX9), (RX6, 152, yX9_within, RX9), (RX2, 35, yX9_within, RX9), (RX2, 39, yX9_isOn, RX9), (RX0, 75, yX9_isOn, RX9), (RX0, 86, yX9_leastOf, RX9), (RX3, 28, yX9_within, RX9)]
def lenS : List Nat := [8, 3, 5, 4, 3, 5, 4, 4, 4, 2, 3, 3, 8]
def bytS : List (List Int32) := [[115, 116, 114, 101, 110, 103, 116, 104], [115, 117, 109], [119, 111, 114, 116, 104], [107, 105, 110, 100], [100, 97, 121], [116, 114, 105, 97, 108], [103, 97, 105, 110], [102, 97, 100, 101], [100, 114, 111, 112], [111, 114], [97, 110, 100], [110, 111, 116], [40, 41, 59, 43, 45, 42, 60, 61]]
def idxS : List Nat := [128, 130, 132, 134, 136, 138, 140, 142, 144, 146, 148, 150, 103]
def txtS : List String := ["strength", "sum", "worth", "kind", "day", "trial", "gain", "fade", "drop", "or", "and", "not", "();+-*<="]
def undS (j : Nat) : Int32 := [-1, 0, 0, 1, 1, 2].getD j 0
def EC (P : EP) (A : Nat → Prop) (U : State) : Prop :=
  (∀ t ∈ NT, va_Nw (.methodLinkNest t.1 t.2.1 t.2.2.1 t.2.2.2) U) ∧ vk_S 13 lenS bytS P.1 P.2.1 A U U.heap ∧ (∀ i : Nat, i < 13 → vk_R RX6 (idxS.getD i 0) (txtS.getD i "") (P.1 i) U) ∧ va_Z "java/lang/String" "COMPACT_STRINGS" "Z" (.int 1) A U U.heap ∧ va_Zq "jdk/internal/util/Preconditions" "SIOOBE_FORMATTER" "Ljava/util/function/BiFunction;" A U U.heap ∧ va_Z RX9 "UNDER" "[I" (.ref P.2.2) A U U.heap ∧ va_T .int P.2.2 6 (fun j => .int (undS j)) A U U.heap ∧ va_Nw (.castable "[I" "java/lang/Cloneable") U
theorem EC.call {P : EP} {A B : Nat → Prop} {s U : State} {H : Heap} {locs : List Loc} (h : EC P A s) (hS : va_S A s.heap H locs) (hU : U.heap = H) (hW : s.WarmedH U.vm) (hAB : ∀ q, B q → A q) : EC P B U := by
  subst hU
  obtain ⟨h1, h2, h3, h4, h5, h6, h7, h8⟩ := h
  refine ⟨fun t ht => (h1 t ht).warmM hW, ((h2.kept hS.2.1).narrow hAB).moved hW.alike, fun i hi => (h3 i hi).warm hW, ((h4.kept hS.2.1).narrow hAB).moved hW.alike, ?_, ((h6.kept hS.2.1).narrow hAB).moved hW.alike, ((h7.kept hS.2.1).narrow hAB).moved hW.alike, h8.warmC hW⟩
  rcases h5 with h5 | ⟨t, h5⟩
  · exact Or.inl (((h5.kept hS.2.1).narrow hAB).moved hW.alike)
  · exact Or.inr ⟨t, ((h5.kept hS.2.1).narrow hAB).moved hW.alike⟩
theorem EC.blind {P : EP} {A : Nat → Prop} {U : State} {g : JFrame} {mk : MethodId} {a : Array Value} (h : EC P A U) : EC P A (U.calling g mk a) := by
  obtain ⟨h1, h2, h3, h4, h5, h6, h7, h8⟩ := h
  refine ⟨fun t ht => (h1 t ht).same rfl rfl, h2.moved (U := U.calling g mk a) (Vm.Alike.refl U.vm), fun i hi => (h3 i hi).same rfl, h4.moved (U := U.calling g mk a) (Vm.Alike.refl U.vm), ?_, h6.moved (U := U.calling g mk a) (Vm.Alike.refl U.vm), h7.moved (U := U.calling g mk a) (Vm.Alike.refl U.vm), h8.same rfl rfl⟩
  rcases h5 with h5 | ⟨t, h5⟩
  · exact Or.inl (h5.moved (U := U.calling g mk a) (Vm.Alike.refl U.vm))
  · exact Or.inr ⟨t, h5.moved (U := U.calling g mk a) (Vm.Alike.refl U.vm)⟩
/-- the context of a walk: the machine, the code, the words, the classes, the answer's type, what may be written -/
def CxE (P : EP) (D : va_G) (tys : List (ClassId × FieldType)) (own : String) (cc : ByteArray) (nL : Nat) (rt : Option FieldType) (p : Program) (s : State) (m : MethodId) (args : Array Value) (meth : Method) (c : Code) (A : Nat → Prop) : Prop :=
  p.tables.exec = Jvm.exec ∧ c.code = cc ∧ c.maxLocals = nL ∧ s.vm.findClass own = some m.cls ∧ (∀ w ∈ Tw, w.before args s = true) ∧ va_K D vwCl tys s ∧ meth.sig.returnType = rt ∧ meth.locks = false ∧ (∀ q : Nat, s.heap.size ≤ q → A q) ∧ EC P A s
def ctPreE (P : EP) (D : va_G) (tys : List (ClassId × FieldType)) (ws : va_W) (sz : Nat) : State → Prop := fun U => U.heap.size = sz ∧ va_P D vwCl ws U.heap ∧ va_K D vwCl tys U ∧ va_D (fun _ => True) ws ∧ EC P (va_A ws sz) U
def ctPostE (P : EP) (D : va_G) (tys : List (ClassId × FieldType)) {S : Type} (w : S → va_W) (A : Nat → Prop) : S → State → Prop := fun u t => va_P D vwCl (w u) t.heap ∧ va_K D vwCl tys t ∧ va_D A (w u)
/-- contracts over a whole world: an int, a boolean, a long, nothing -/
def Di (l : Launch) (P : EP) (D : va_G) (tys : List (ClassId × FieldType)) {S : Type} (w : S → va_W) (y : MethodName) (cc : ByteArray) (maxL : Nat) (rm : Room) (av : List Value) (k : S) (Q : Int32 → S → Prop) : Prop :=
  ∀ sz : Nat, Met l y (.code y cc maxL (some .int) :: Tw) rm (va_Pc av (ctPreE P D tys (w k) sz)) (va_Qi Q (ctPostE P D tys w (va_A (w k) sz)) (va_A (w k) sz)) 0 0 (va_A (w k) sz)
def Dq (l : Launch) (P : EP) (D : va_G) (tys : List (ClassId × FieldType)) {S : Type} (w : S → va_W) (y : MethodName) (cc : ByteArray) (maxL : Nat) (rm : Room) (C : String) (av : List Value) (k : S) (Q : Option Nat → S → Prop) : Prop :=
  ∀ sz : Nat, Met l y (.code y cc maxL (some (.object C)) :: Tw) rm (va_Pc av (ctPreE P D tys (w k) sz)) (va_Qq Q (ctPostE P D tys w (va_A (w k) sz)) (va_A (w k) sz)) 0 0 (va_A (w k) sz)
def Dz (l : Launch) (P : EP) (D : va_G) (tys : List (ClassId × FieldType)) {S : Type} (w : S → va_W) (y : MethodName) (cc : ByteArray) (maxL : Nat) (rm : Room) (av : List Value) (k : S) (Q : Int32 → S → Prop) : Prop :=
  ∀ sz : Nat, Met l y (.code y cc maxL (some .boolean) :: Tw) rm (va_Pc av (ctPreE P D tys (w k) sz)) (va_Qi (fun r u => (r = 0 ∨ r = 1) ∧ Q r u) (ctPostE P D tys w (va_A (w k) sz)) (va_A (w k) sz)) 0 0 (va_A (w k) sz)
def Dl (l : Launch) (P : EP) (D : va_G) (tys : List (ClassId × FieldType)) {S : Type} (w : S → va_W) (y : MethodName) (cc : ByteArray) (maxL : Nat) (rm : Room) (av : List Value) (k : S) (Q : Int64 → S → Prop) : Prop :=
  ∀ sz : Nat, Met l y (.code y cc maxL (some .long) :: Tw) rm (va_Pc av (ctPreE P D tys (w k) sz)) (va_Ql Q (ctPostE P D tys w (va_A (w k) sz)) (va_A (w k) sz)) 0 0 (va_A (w k) sz)
def Dv (l : Launch) (P : EP) (D : va_G) (tys : List (ClassId × FieldType)) {S : Type} (w : S → va_W) (y : MethodName) (cc : ByteArray) (maxL : Nat) (rm : Room) (av : List Value) (k : S) (Q : S → Prop) : Prop :=
  ∀ sz : Nat, Met l y (.code y cc maxL none :: Tw) rm (va_Pc av (ctPreE P D tys (w k) sz)) (va_Qv Q (ctPostE P D tys w (va_A (w k) sz)) (va_A (w k) sz)) 0 0 (va_A (w k) sz)
theorem ctBlindE {P : EP} {D : va_G} {tys : List (ClassId × FieldType)} {ws : va_W} {sz : Nat} {av : List Value} : FrameBlind (va_Pc av (ctPreE P D tys ws sz)) := fun a U g mk q => by
  obtain ⟨q0, q1, qP, qK, qD, qE⟩ := q
  exact ⟨q0, q1, qP, va_K.moved (u := U) (U := U.calling g mk a) (Vm.Alike.refl U.vm) qK, qD, qE.blind⟩

section BaseE
variable {p : Program} {l : Launch} {e : Env} {R : Room} {s : State} {m : MethodId} {args : Array Value} {below : List Frame} {meth : Method} {c : Code} {H : Heap} {locs : List Loc} {Q : State → Prop} {P : EP} {D : va_G} {tys : List (ClassId × FieldType)} {A : Nat → Prop} {cells slots : Nat}
variable {own : String} {cc bytes : ByteArray} {nL maxL n idx pc : Nat} {rt ret : Option FieldType} {y : MethodName} {rm : Room} {b : Addr} {As rest st : List Value} {ls : Array Slot} {S : Type} {w : S → va_W} {k : S}
theorem HdE_free (C : CxE P D tys own cc nL rt p s m args meth c A) (h : Hd D (w k) A s H locs) : ∀ q, va_A (w k) H.size q → A q := fun q hq => by
  rcases hq with ⟨j, e', hk⟩ | hge
  · exact h.2.1.2 _ _ hk
  · exact C.2.2.2.2.2.2.2.2.1 q (Nat.le_trans h.2.2.1 hge)
theorem HdE_pre (C : CxE P D tys own cc nL rt p s m args meth c A) (h : Hd D (w k) A s H locs) (av : List Value) : ∀ U : State, U.heap = H → s.WarmedH U.vm → va_Pc av (ctPreE P D tys (w k) H.size) av.toArray U := fun U hU hW =>
  ⟨rfl, by rw [hU], by rw [hU]; exact h.1, va_K.moved hW.alike C.2.2.2.2.2.1, h.2.1.weaken (fun _ _ _ _ => trivial), C.2.2.2.2.2.2.2.2.2.call h.2.2 hU hW (HdE_free C h)⟩
theorem HdE_post (C : CxE P D tys own cc nL rt p s m args meth c A) (h : Hd D (w k) A s H locs) {u : S} {t : State} {H1 : Heap} {locs1 : List Loc} (ht : t.heap = H1) (hB : ctPostE P D tys w (va_A (w k) H.size) u t) (hS : va_S A s.heap H1 locs1) : Hd D (w u) A s H1 locs1 :=
  ⟨by rw [← ht]; exact hB.1, hB.2.2.weaken (fun _ q _ h1 => HdE_free C h q.1 h1), hS⟩
theorem ev_i {Qp : Int32 → S → Prop} (C : CxE P D tys own cc nL rt p s m args meth c A) (h : Hd D (w k) A s H locs) (kw : CWv own idx y bytes maxL (some .int) n) (hC : Di l P D tys w y bytes maxL rm (.ref b :: As) k Qp) (hrc : rm.cells = 0 ∧ rm.slots = 0) (hR : rm.frames + 1 ≤ R.frames ∧ 8 + (maxL + 11) + rm.locals ≤ R.locals) (hv : Rcv (w k) b y.cls) (hls : ls.size = nL) (hn : As.length = n) (hst : st = As.reverse ++ .ref b :: rest) (hW : (rest.map fun v => v.category).sum ≤ 8) (hcs : cells ≤ R.cells ∧ slots ≤ R.slots) (hdg : decode cc pc = .ok (.invokevirtual idx, 3))
    (kk : ∀ (r : Int32) (u : S) (H1 : Heap) (locs1 : List Loc), Qp r u → Hd D (w u) A s H1 locs1 → W p l e R s m args below meth c H1 locs1 cells slots Q (F0 m (pc + 3) ls (.int r :: rest))) : W p l e R s m args below meth c H locs cells slots Q (F0 m pc ls st) := by
  subst hst
  have ht := C.2.2.2.2.1
  exact va_calli (va_runV (As := As) (rest := rest) ⟨C.1, C.2.1, C.2.2.1, C.2.2.2.1, ht⟩ (hC H.size) ⟨CWd_b kw.1 ht hrc.1 hrc.2 hR, ht _ kw.2.1, ht _ kw.2.2⟩ ⟨ctBlindE, hv.at C.2.2.2.2.2.1 h.1, HdE_pre C h _⟩ rfl hn hls rfl (lv_room hW) hdg hcs) h.2.2 (fun q _ hq => HdE_free C h q hq) (HdE_free C h) (fun r u t H1 locs1 ht hvm hw hB hz1 hk1 hS => kk r u H1 locs1 hw (HdE_post C h ht hB hS))
theorem ev_q {Qp : Option Nat → S → Prop} {C0 : String} (C : CxE P D tys own cc nL rt p s m args meth c A) (h : Hd D (w k) A s H locs) (kw : CWv own idx y bytes maxL (some (.object C0)) n) (hC : Dq l P D tys w y bytes maxL rm C0 (.ref b :: As) k Qp) (hrc : rm.cells = 0 ∧ rm.slots = 0) (hR : rm.frames + 1 ≤ R.frames ∧ 8 + (maxL + 11) + rm.locals ≤ R.locals) (hv : Rcv (w k) b y.cls) (hls : ls.size = nL) (hn : As.length = n) (hst : st = As.reverse ++ .ref b :: rest) (hW : (rest.map fun v => v.category).sum ≤ 8) (hcs : cells ≤ R.cells ∧ slots ≤ R.slots) (hdg : decode cc pc = .ok (.invokevirtual idx, 3))
    (kk : ∀ (r : Option Nat) (u : S) (H1 : Heap) (locs1 : List Loc), Qp r u → Hd D (w u) A s H1 locs1 → W p l e R s m args below meth c H1 locs1 cells slots Q (F0 m (pc + 3) ls (va_rf r :: rest))) : W p l e R s m args below meth c H locs cells slots Q (F0 m pc ls st) := by
  subst hst
  have ht := C.2.2.2.2.1
  exact va_callq (va_runV (As := As) (rest := rest) ⟨C.1, C.2.1, C.2.2.1, C.2.2.2.1, ht⟩ (hC H.size) ⟨CWd_b kw.1 ht hrc.1 hrc.2 hR, ht _ kw.2.1, ht _ kw.2.2⟩ ⟨ctBlindE, hv.at C.2.2.2.2.2.1 h.1, HdE_pre C h _⟩ rfl hn hls rfl (lv_room hW) hdg hcs) h.2.2 (fun q _ hq => HdE_free C h q hq) (HdE_free C h) (fun r u t H1 locs1 ht hvm hw hB hz1 hk1 hS => kk r u H1 locs1 hw (HdE_post C h ht hB hS))
theorem ev_z {Qp : Int32 → S → Prop} (C : CxE P D tys own cc nL rt p s m args meth c A) (h : Hd D (w k) A s H locs) (kw : CWv own idx y bytes maxL (some .boolean) n) (hC : Dz l P D tys w y bytes maxL rm (.ref b :: As) k Qp) (hrc : rm.cells = 0 ∧ rm.slots = 0) (hR : rm.frames + 1 ≤ R.frames ∧ 8 + (maxL + 11) + rm.locals ≤ R.locals) (hv : Rcv (w k) b y.cls) (hls : ls.size = nL) (hn : As.length = n) (hst : st = As.reverse ++ .ref b :: rest) (hW : (rest.map fun v => v.category).sum ≤ 8) (hcs : cells ≤ R.cells ∧ slots ≤ R.slots) (hdg : decode cc pc = .ok (.invokevirtual idx, 3))
    (kk : ∀ (r : Int32) (u : S) (H1 : Heap) (locs1 : List Loc), (r = 0 ∨ r = 1) → Qp r u → Hd D (w u) A s H1 locs1 → W p l e R s m args below meth c H1 locs1 cells slots Q (F0 m (pc + 3) ls (.int r :: rest))) : W p l e R s m args below meth c H locs cells slots Q (F0 m pc ls st) := by
  subst hst
  have ht := C.2.2.2.2.1
  exact va_calli (va_runV (As := As) (rest := rest) ⟨C.1, C.2.1, C.2.2.1, C.2.2.2.1, ht⟩ (hC H.size) ⟨CWd_b kw.1 ht hrc.1 hrc.2 hR, ht _ kw.2.1, ht _ kw.2.2⟩ ⟨ctBlindE, hv.at C.2.2.2.2.2.1 h.1, HdE_pre C h _⟩ rfl hn hls rfl (lv_room hW) hdg hcs) h.2.2 (fun q _ hq => HdE_free C h q hq) (HdE_free C h) (fun r u t H1 locs1 ht hvm hw hB hz1 hk1 hS => kk r u H1 locs1 hw.1 hw.2 (HdE_post C h ht hB hS))
theorem ev_l {Qp : Int64 → S → Prop} (C : CxE P D tys own cc nL rt p s m args meth c A) (h : Hd D (w k) A s H locs) (kw : CWv own idx y bytes maxL (some .long) n) (hC : Dl l P D tys w y bytes maxL rm (.ref b :: As) k Qp) (hrc : rm.cells = 0 ∧ rm.slots = 0) (hR : rm.frames + 1 ≤ R.frames ∧ 8 + (maxL + 11) + rm.locals ≤ R.locals) (hv : Rcv (w k) b y.cls) (hls : ls.size = nL) (hn : As.length = n) (hst : st = As.reverse ++ .ref b :: rest) (hW : (rest.map fun v => v.category).sum ≤ 8) (hcs : cells ≤ R.cells ∧ slots ≤ R.slots) (hdg : decode cc pc = .ok (.invokevirtual idx, 3))
    (kk : ∀ (r : Int64) (u : S) (H1 : Heap) (locs1 : List Loc), Qp r u → Hd D (w u) A s H1 locs1 → W p l e R s m args below meth c H1 locs1 cells slots Q (F0 m (pc + 3) ls (.long r :: rest))) : W p l e R s m args below meth c H locs cells slots Q (F0 m pc ls st) := by
  subst hst
  have ht := C.2.2.2.2.1
  exact va_calll (va_runV (As := As) (rest := rest) ⟨C.1, C.2.1, C.2.2.1, C.2.2.2.1, ht⟩ (hC H.size) ⟨CWd_b kw.1 ht hrc.1 hrc.2 hR, ht _ kw.2.1, ht _ kw.2.2⟩ ⟨ctBlindE, hv.at C.2.2.2.2.2.1 h.1, HdE_pre C h _⟩ rfl hn hls rfl (lv_room hW) hdg hcs) h.2.2 (fun q _ hq => HdE_free C h q hq) (HdE_free C h) (fun r u t H1 locs1 ht hvm hw hB hz1 hk1 hS => kk r u H1 locs1 hw (HdE_post C h ht hB hS))
theorem ev_v {Qp : S → Prop} (C : CxE P D tys own cc nL rt p s m args meth c A) (h : Hd D (w k) A s H locs) (kw : CWv own idx y bytes maxL none n) (hC : Dv l P D tys w y bytes maxL rm (.ref b :: As) k Qp) (hrc : rm.cells = 0 ∧ rm.slots = 0) (hR : rm.frames + 1 ≤ R.frames ∧ 8 + (maxL + 11) + rm.locals ≤ R.locals) (hv : Rcv (w k) b y.cls) (hls : ls.size = nL) (hn : As.length = n) (hst : st = As.reverse ++ .ref b :: rest) (hW : (rest.map fun v => v.category).sum ≤ 8) (hcs : cells ≤ R.cells ∧ slots ≤ R.slots) (hdg : decode cc pc = .ok (.invokevirtual idx, 3))
    (kk : ∀ (u : S) (H1 : Heap) (locs1 : List Loc), Qp u → Hd D (w u) A s H1 locs1 → W p l e R s m args below meth c H1 locs1 cells slots Q (F0 m (pc + 3) ls rest)) : W p l e R s m args below meth c H locs cells slots Q (F0 m pc ls st) := by
  subst hst
  have ht := C.2.2.2.2.1
  exact va_callv (va_runV (As := As) (rest := rest) ⟨C.1, C.2.1, C.2.2.1, C.2.2.2.1, ht⟩ (hC H.size) ⟨CWd_b kw.1 ht hrc.1 hrc.2 hR, ht _ kw.2.1, ht _ kw.2.2⟩ ⟨ctBlindE, hv.at C.2.2.2.2.2.1 h.1, HdE_pre C h _⟩ rfl hn hls rfl (lv_room hW) hdg hcs) h.2.2 (fun q _ hq => HdE_free C h q hq) (HdE_free C h) (fun u t H1 locs1 ht hvm hw hB hz1 hk1 hS => kk u H1 locs1 hw (HdE_post C h ht hB hS))
theorem es_i {Qp : Int32 → S → Prop} (C : CxE P D tys own cc nL rt p s m args meth c A) (h : Hd D (w k) A s H locs) (kw : CWs own idx y bytes maxL (some .int) n) (hC : Di l P D tys w y bytes maxL rm As k Qp) (hrc : rm.cells = 0 ∧ rm.slots = 0) (hR : rm.frames + 1 ≤ R.frames ∧ 8 + (maxL + 11) + rm.locals ≤ R.locals) (hls : ls.size = nL) (hn : As.length = n) (hst : st = As.reverse ++ rest) (hW : (rest.map fun v => v.category).sum ≤ 8) (hcs : cells ≤ R.cells ∧ slots ≤ R.slots) (hdg : decode cc pc = .ok (.invokestatic idx, 3))
    (kk : ∀ (r : Int32) (u : S) (H1 : Heap) (locs1 : List Loc), Qp r u → Hd D (w u) A s H1 locs1 → W p l e R s m args below meth c H1 locs1 cells slots Q (F0 m (pc + 3) ls (.int r :: rest))) : W p l e R s m args below meth c H locs cells slots Q (F0 m pc ls st) := by
  subst hst
  have ht := C.2.2.2.2.1
  exact va_calli (va_runS (As := As) (rest := rest) ⟨C.1, C.2.1, C.2.2.1, C.2.2.2.1, ht⟩ (hC H.size) ⟨CWd_b kw.1 ht hrc.1 hrc.2 hR, ht _ kw.2⟩ ⟨ctBlindE, HdE_pre C h _⟩ rfl hn hls rfl (lv_room hW) hdg hcs) h.2.2 (fun q _ hq => HdE_free C h q hq) (HdE_free C h) (fun r u t H1 locs1 ht hvm hw hB hz1 hk1 hS => kk r u H1 locs1 hw (HdE_post C h ht hB hS))
theorem es_z {Qp : Int32 → S → Prop} (C : CxE P D tys own cc nL rt p s m args meth c A) (h : Hd D (w k) A s H locs) (kw : CWs own idx y bytes maxL (some .boolean) n) (hC : Dz l P D tys w y bytes maxL rm As k Qp) (hrc : rm.cells = 0 ∧ rm.slots = 0) (hR : rm.frames + 1 ≤ R.frames ∧ 8 + (maxL + 11) + rm.locals ≤ R.locals) (hls : ls.size = nL) (hn : As.length = n) (hst : st = As.reverse ++ rest) (hW : (rest.map fun v => v.category).sum ≤ 8) (hcs : cells ≤ R.cells ∧ slots ≤ R.slots) (hdg : decode cc pc = .ok (.invokestatic idx, 3))
    (kk : ∀ (r : Int32) (u : S) (H1 : Heap) (locs1 : List Loc), (r = 0 ∨ r = 1) → Qp r u → Hd D (w u) A s H1 locs1 → W p l e R s m args below meth c H1 locs1 cells slots Q (F0 m (pc + 3) ls (.int r :: rest))) : W p l e R s m args below meth c H locs cells slots Q (F0 m pc ls st) := by
  subst hst
  have ht := C.2.2.2.2.1
  exact va_calli (va_runS (As := As) (rest := rest) ⟨C.1, C.2.1, C.2.2.1, C.2.2.2.1, ht⟩ (hC H.size) ⟨CWd_b kw.1 ht hrc.1 hrc.2 hR, ht _ kw.2⟩ ⟨ctBlindE, HdE_pre C h _⟩ rfl hn hls rfl (lv_room hW) hdg hcs) h.2.2 (fun q _ hq => HdE_free C h q hq) (HdE_free C h) (fun r u t H1 locs1 ht hvm hw hB hz1 hk1 hS => kk r u H1 locs1 hw.1 hw.2 (HdE_post C h ht hB hS))
theorem es_l {Qp : Int64 → S → Prop} (C : CxE P D tys own cc nL rt p s m args meth c A) (h : Hd D (w k) A s H locs) (kw : CWs own idx y bytes maxL (some .long) n) (hC : Dl l P D tys w y bytes maxL rm As k Qp) (hrc : rm.cells = 0 ∧ rm.slots = 0) (hR : rm.frames + 1 ≤ R.frames ∧ 8 + (maxL + 11) + rm.locals ≤ R.locals) (hls : ls.size = nL) (hn : As.length = n) (hst : st = As.reverse ++ rest) (hW : (rest.map fun v => v.category).sum ≤ 8) (hcs : cells ≤ R.cells ∧ slots ≤ R.slots) (hdg : decode cc pc = .ok (.invokestatic idx, 3))
    (kk : ∀ (r : Int64) (u : S) (H1 : Heap) (locs1 : List Loc), Qp r u → Hd D (w u) A s H1 locs1 → W p l e R s m args below meth c H1 locs1 cells slots Q (F0 m (pc + 3) ls (.long r :: rest))) : W p l e R s m args below meth c H locs cells slots Q (F0 m pc ls st) := by
  subst hst
  have ht := C.2.2.2.2.1
  exact va_calll (va_runS (As := As) (rest := rest) ⟨C.1, C.2.1, C.2.2.1, C.2.2.2.1, ht⟩ (hC H.size) ⟨CWd_b kw.1 ht hrc.1 hrc.2 hR, ht _ kw.2⟩ ⟨ctBlindE, HdE_pre C h _⟩ rfl hn hls rfl (lv_room hW) hdg hcs) h.2.2 (fun q _ hq => HdE_free C h q hq) (HdE_free C h) (fun r u t H1 locs1 ht hvm hw hB hz1 hk1 hS => kk r u H1 locs1 hw (HdE_post C h ht hB hS))
/-- ends -/
theorem er_i {Qp : Int32 → S → Prop} {v : Int32} {u : S} (C : CxE P D tys own cc nL (some .int) p s m args meth c A) (h : Hd D (w u) A s H locs) (hq : Qp v u) (hdg : decode cc pc = .ok (.ireturn, 1)) : W p l e R s m args below meth c H locs 0 0 (MQ below (va_Qi Qp (ctPostE P D tys w A) A) args s 0 0 A) (F0 m pc ls [.int v]) :=
  W.iret (v := v) C.1 C.2.1 C.2.2.2.2.2.2.1 (fun t ht hW => ⟨⟨v, u, rfl, hq, by rw [ht]; exact h.1, va_K.moved hW.alike C.2.2.2.2.2.1, h.2.1⟩, h.2.2.F ht⟩) h.2.2.2.2 hdg C.2.2.2.2.2.2.2.1
theorem er_q {Qp : Option Nat → S → Prop} {v : Option Nat} {C0 : String} {u : S} (C : CxE P D tys own cc nL (some (.object C0)) p s m args meth c A) (h : Hd D (w u) A s H locs) (hq : Qp v u) (hdg : decode cc pc = .ok (.areturn, 1)) : W p l e R s m args below meth c H locs 0 0 (MQ below (va_Qq Qp (ctPostE P D tys w A) A) args s 0 0 A) (F0 m pc ls [va_rf v]) :=
  W.aret (v := va_rf v) (rt := .object C0) C.1 C.2.1 C.2.2.2.2.2.2.1 (Or.inl ⟨_, rfl⟩) (by cases v with | none => exact Or.inl rfl | some z => exact Or.inr ⟨z, rfl⟩) (fun t ht hW => ⟨⟨v, u, rfl, hq, by rw [ht]; exact h.1, va_K.moved hW.alike C.2.2.2.2.2.1, h.2.1⟩, h.2.2.F ht⟩) h.2.2.2.2 hdg C.2.2.2.2.2.2.2.1
theorem er_z {Qp : Int32 → S → Prop} {v : Int32} {u : S} (C : CxE P D tys own cc nL (some .boolean) p s m args meth c A) (h : Hd D (w u) A s H locs) (hz : v = 0 ∨ v = 1) (hq : Qp v u) (hdg : decode cc pc = .ok (.ireturn, 1)) : W p l e R s m args below meth c H locs 0 0 (MQ below (va_Qi (fun r u => (r = 0 ∨ r = 1) ∧ Qp r u) (ctPostE P D tys w A) A) args s 0 0 A) (F0 m pc ls [.int v]) :=
  W.zret (v := v) (ty := .boolean) C.1 C.2.1 C.2.2.2.2.2.2.1 (by rcases hz with rfl | rfl <;> decide +kernel) (fun t ht hW => ⟨⟨v, u, rfl, ⟨hz, hq⟩, by rw [ht]; exact h.1, va_K.moved hW.alike C.2.2.2.2.2.1, h.2.1⟩, h.2.2.F ht⟩) h.2.2.2.2 hdg C.2.2.2.2.2.2.2.1
theorem er_l {Qp : Int64 → S → Prop} {v : Int64} {u : S} (C : CxE P D tys own cc nL (some .long) p s m args meth c A) (h : Hd D (w u) A s H locs) (hq : Qp v u) (hdg : decode cc pc = .ok (.lreturn, 1)) : W p l e R s m args below meth c H locs 0 0 (MQ below (va_Ql Qp (ctPostE P D tys w A) A) args s 0 0 A) (F0 m pc ls [.long v]) :=
  W.lret (v := v) C.1 C.2.1 C.2.2.2.2.2.2.1 (fun t ht hW => ⟨⟨v, u, rfl, hq, by rw [ht]; exact h.1, va_K.moved hW.alike C.2.2.2.2.2.1, h.2.1⟩, h.2.2.F ht⟩) h.2.2.2.2 hdg C.2.2.2.2.2.2.2.1
theorem er_v {Qp : S → Prop} {u : S} (C : CxE P D tys own cc nL none p s m args meth c A) (h : Hd D (w u) A s H locs) (hq : Qp u) (hdg : decode cc pc = .ok (.return_, 1)) : W p l e R s m args below meth c H locs 0 0 (MQ below (va_Qv Qp (ctPostE P D tys w A) A) args s 0 0 A) (F0 m pc ls []) :=
  W.vret C.1 C.2.1 C.2.2.2.2.2.2.1 (fun t ht hW => ⟨⟨u, rfl, hq, by rw [ht]; exact h.1, va_K.moved hW.alike C.2.2.2.2.2.1, h.2.1⟩, h.2.2.F ht⟩) h.2.2.2.2 hdg C.2.2.2.2.2.2.2.1
end BaseE

section EntryE
variable {l : Launch} {P : EP} {D : va_G} {tys : List (ClassId × FieldType)} {S : Type} {w : S → va_W} {k : S} {y : MethodName} {cc : ByteArray} {maxL : Nat} {rm : Room} {av : List Value}
theorem Di_of {Qp : Int32 → S → Prop} (hy : plainName y.cls = true) (hn : (lg_sl av).length ≤ maxL)
    (body : ∀ (p : Program) (e : Env) (s : State) (m : MethodId) (args : Array Value) (below : List Frame) (meth : Method) (c : Code) (A : Nat → Prop) (Z : State → Prop) (ls : Array Slot), CxE P D tys y.cls cc maxL (some .int) p s m args meth c A → (∀ {v : Int32} {u : S} {H : Heap} {locs : List Loc} {pc : Nat} {ls : Array Slot}, Hd D (w u) A s H locs → Qp v u → decode cc pc = .ok (.ireturn, 1) → W p l e rm s m args below meth c H locs 0 0 Z (F0 m pc ls [.int v])) → Hd D (w k) A s s.heap [] → lv_has ls maxL (lv_args 0 av) → W p l e rm s m args below meth c s.heap [] 0 0 Z (F0 m 0 ls [])) : Di l P D tys w y cc maxL rm av k Qp := by
  intro sz
  refine Met.ofW (cc := cc) (maxL := maxL) (ret := some .int) hy rfl ?_
  intro p e s m args below meth c s₁ B hml hv
  obtain ⟨rfl, hsz, hP, hK, hD0, hEC⟩ := hv
  subst hsz
  have hts := atoms_spec (ws := Cond.code y cc maxL (some .int) :: Tw) B.pre
  have hD := hD0.self (sz := s.heap.size)
  have hA : ∀ q : Nat, s.heap.size ≤ q → va_A (w k) s.heap.size q := fun q h => Or.inr h
  generalize va_A (w k) s.heap.size = A at hD hA hEC ⊢
  have C : CxE P D tys y.cls cc maxL (some .int) p s m av.toArray meth c A := ⟨B.exec, B.bytes, hml, findClass_of_methodNamed B.named, fun w hw => hts w (List.mem_cons_of_mem _ hw), hK, B.returns, B.notSynchronized, hA, hEC⟩
  have hl := lv_entry av (n := maxL) hn
  rw [lg_entry_eq]
  exact body p e s m _ below meth c A _ _ C (fun hd hq hdg => er_i C hd hq hdg) ⟨hP, hD, va_S.rf⟩ hl
theorem Dq_of {Qp : Option Nat → S → Prop} {C0 : String} (hy : plainName y.cls = true) (hn : (lg_sl av).length ≤ maxL)
    (body : ∀ (p : Program) (e : Env) (s : State) (m : MethodId) (args : Array Value) (below : List Frame) (meth : Method) (c : Code) (A : Nat → Prop) (Z : State → Prop) (ls : Array Slot), CxE P D tys y.cls cc maxL (some (.object C0)) p s m args meth c A → (∀ {v : Option Nat} {u : S} {H : Heap} {locs : List Loc} {pc : Nat} {ls : Array Slot}, Hd D (w u) A s H locs → Qp v u → decode cc pc = .ok (.areturn, 1) → W p l e rm s m args below meth c H locs 0 0 Z (F0 m pc ls [va_rf v])) → Hd D (w k) A s s.heap [] → lv_has ls maxL (lv_args 0 av) → W p l e rm s m args below meth c s.heap [] 0 0 Z (F0 m 0 ls [])) : Dq l P D tys w y cc maxL rm C0 av k Qp := by
  intro sz
  refine Met.ofW (cc := cc) (maxL := maxL) (ret := some (.object C0)) hy rfl ?_
  intro p e s m args below meth c s₁ B hml hv
  obtain ⟨rfl, hsz, hP, hK, hD0, hEC⟩ := hv
  subst hsz
  have hts := atoms_spec (ws := Cond.code y cc maxL (some (.object C0)) :: Tw) B.pre
  have hD := hD0.self (sz := s.heap.size)
  have hA : ∀ q : Nat, s.heap.size ≤ q → va_A (w k) s.heap.size q := fun q h => Or.inr h
  generalize va_A (w k) s.heap.size = A at hD hA hEC ⊢
  have C : CxE P D tys y.cls cc maxL (some (.object C0)) p s m av.toArray meth c A := ⟨B.exec, B.bytes, hml, findClass_of_methodNamed B.named, fun w hw => hts w (List.mem_cons_of_mem _ hw), hK, B.returns, B.notSynchronized, hA, hEC⟩
  have hl := lv_entry av (n := maxL) hn
  rw [lg_entry_eq]
  exact body p e s m _ below meth c A _ _ C (fun hd hq hdg => er_q C hd hq hdg) ⟨hP, hD, va_S.rf⟩ hl
theorem Dz_of {Qp : Int32 → S → Prop} (hy : plainName y.cls = true) (hn : (lg_sl av).length ≤ maxL)
    (body : ∀ (p : Program) (e : Env) (s : State) (m : MethodId) (args : Array Value) (below : List Frame) (meth : Method) (c : Code) (A : Nat → Prop) (Z : State → Prop) (ls : Array Slot), CxE P D tys y.cls cc maxL (some .boolean) p s m args meth c A → (∀ {v : Int32} {u : S} {H : Heap} {locs : List Loc} {pc : Nat} {ls : Array Slot}, Hd D (w u) A s H locs → (v = 0 ∨ v = 1) → Qp v u → decode cc pc = .ok (.ireturn, 1) → W p l e rm s m args below meth c H locs 0 0 Z (F0 m pc ls [.int v])) → Hd D (w k) A s s.heap [] → lv_has ls maxL (lv_args 0 av) → W p l e rm s m args below meth c s.heap [] 0 0 Z (F0 m 0 ls [])) : Dz l P D tys w y cc maxL rm av k Qp := by
  intro sz
  refine Met.ofW (cc := cc) (maxL := maxL) (ret := some .boolean) hy rfl ?_
  intro p e s m args below meth c s₁ B hml hv
  obtain ⟨rfl, hsz, hP, hK, hD0, hEC⟩ := hv
  subst hsz
  have hts := atoms_spec (ws := Cond.code y cc maxL (some .boolean) :: Tw) B.pre
  have hD := hD0.self (sz := s.heap.size)
  have hA : ∀ q : Nat, s.heap.size ≤ q → va_A (w k) s.heap.size q := fun q h => Or.inr h
  generalize va_A (w k) s.heap.size = A at hD hA hEC ⊢
  have C : CxE P D tys y.cls cc maxL (some .boolean) p s m av.toArray meth c A := ⟨B.exec, B.bytes, hml, findClass_of_methodNamed B.named, fun w hw => hts w (List.mem_cons_of_mem _ hw), hK, B.returns, B.notSynchronized, hA, hEC⟩
  have hl := lv_entry av (n := maxL) hn
  rw [lg_entry_eq]
  exact body p e s m _ below meth c A _ _ C (fun hd hz hq hdg => er_z C hd hz hq hdg) ⟨hP, hD, va_S.rf⟩ hl
theorem Dl_of {Qp : Int64 → S → Prop} (hy : plainName y.cls = true) (hn : (lg_sl av).length ≤ maxL)
    (body : ∀ (p : Program) (e : Env) (s : State) (m : MethodId) (args : Array Value) (below : List Frame) (meth : Method) (c : Code) (A : Nat → Prop) (Z : State → Prop) (ls : Array Slot), CxE P D tys y.cls cc maxL (some .long) p s m args meth c A → (∀ {v : Int64} {u : S} {H : Heap} {locs : List Loc} {pc : Nat} {ls : Array Slot}, Hd D (w u) A s H locs → Qp v u → decode cc pc = .ok (.lreturn, 1) → W p l e rm s m args below meth c H locs 0 0 Z (F0 m pc ls [.long v])) → Hd D (w k) A s s.heap [] → lv_has ls maxL (lv_args 0 av) → W p l e rm s m args below meth c s.heap [] 0 0 Z (F0 m 0 ls [])) : Dl l P D tys w y cc maxL rm av k Qp := by
  intro sz
  refine Met.ofW (cc := cc) (maxL := maxL) (ret := some .long) hy rfl ?_
  intro p e s m args below meth c s₁ B hml hv
  obtain ⟨rfl, hsz, hP, hK, hD0, hEC⟩ := hv
  subst hsz
  have hts := atoms_spec (ws := Cond.code y cc maxL (some .long) :: Tw) B.pre
  have hD := hD0.self (sz := s.heap.size)
  have hA : ∀ q : Nat, s.heap.size ≤ q → va_A (w k) s.heap.size q := fun q h => Or.inr h
  generalize va_A (w k) s.heap.size = A at hD hA hEC ⊢
  have C : CxE P D tys y.cls cc maxL (some .long) p s m av.toArray meth c A := ⟨B.exec, B.bytes, hml, findClass_of_methodNamed B.named, fun w hw => hts w (List.mem_cons_of_mem _ hw), hK, B.returns, B.notSynchronized, hA, hEC⟩
  have hl := lv_entry av (n := maxL) hn
  rw [lg_entry_eq]
  exact body p e s m _ below meth c A _ _ C (fun hd hq hdg => er_l C hd hq hdg) ⟨hP, hD, va_S.rf⟩ hl
theorem Dv_of {Qp : S → Prop} (hy : plainName y.cls = true) (hn : (lg_sl av).length ≤ maxL)
    (body : ∀ (p : Program) (e : Env) (s : State) (m : MethodId) (args : Array Value) (below : List Frame) (meth : Method) (c : Code) (A : Nat → Prop) (Z : State → Prop) (ls : Array Slot), CxE P D tys y.cls cc maxL none p s m args meth c A → (∀ {u : S} {H : Heap} {locs : List Loc} {pc : Nat} {ls : Array Slot}, Hd D (w u) A s H locs → Qp u → decode cc pc = .ok (.return_, 1) → W p l e rm s m args below meth c H locs 0 0 Z (F0 m pc ls [])) → Hd D (w k) A s s.heap [] → lv_has ls maxL (lv_args 0 av) → W p l e rm s m args below meth c s.heap [] 0 0 Z (F0 m 0 ls [])) : Dv l P D tys w y cc maxL rm av k Qp := by
  intro sz
  refine Met.ofW (cc := cc) (maxL := maxL) (ret := none) hy rfl ?_
  intro p e s m args below meth c s₁ B hml hv
  obtain ⟨rfl, hsz, hP, hK, hD0, hEC⟩ := hv
  subst hsz
  have hts := atoms_spec (ws := Cond.code y cc maxL none :: Tw) B.pre
  have hD := hD0.self (sz := s.heap.size)
  have hA : ∀ q : Nat, s.heap.size ≤ q → va_A (w k) s.heap.size q := fun q h => Or.inr h
  generalize va_A (w k) s.heap.size = A at hD hA hEC ⊢
  have C : CxE P D tys y.cls cc maxL none p s m av.toArray meth c A := ⟨B.exec, B.bytes, hml, findClass_of_methodNamed B.named, fun w hw => hts w (List.mem_cons_of_mem _ hw), hK, B.returns, B.notSynchronized, hA, hEC⟩
  have hl := lv_entry av (n := maxL) hn
  rw [lg_entry_eq]
  exact body p e s m _ below meth c A _ _ C (fun hd hq hdg => er_v C hd hq hdg) ⟨hP, hD, va_S.rf⟩ hl
end EntryE

