/-! ===== contracts that answer a char, a byte; calls on text constants; static ones that answer a reference ===== -/
def Dc (l : Launch) (P : EP) (D : va_G) (tys : List (ClassId × FieldType)) {S : Type} (w : S → va_W) (y : MethodName) (cc : ByteArray) (maxL : Nat) (rm : Room) (av : List Value) (k : S) (Q : Int32 → S → Prop) : Prop :=
  ∀ sz : Nat, Met l y (.code y cc maxL (some .char) :: Tw) rm (va_Pc av (ctPreE P D tys (w k) sz)) (va_Qi (fun r u => (narrow .char (.int r) = .int r) ∧ Q r u) (ctPostE P D tys w (va_A (w k) sz)) (va_A (w k) sz)) 0 0 (va_A (w k) sz)
def Dy (l : Launch) (P : EP) (D : va_G) (tys : List (ClassId × FieldType)) {S : Type} (w : S → va_W) (y : MethodName) (cc : ByteArray) (maxL : Nat) (rm : Room) (av : List Value) (k : S) (Q : Int32 → S → Prop) : Prop :=
  ∀ sz : Nat, Met l y (.code y cc maxL (some .byte) :: Tw) rm (va_Pc av (ctPreE P D tys (w k) sz)) (va_Qi (fun r u => (narrow .byte (.int r) = .int r) ∧ Q r u) (ctPostE P D tys w (va_A (w k) sz)) (va_A (w k) sz)) 0 0 (va_A (w k) sz)
/-- a receiver outside the world -/
def RcvH (s : State) (H : Heap) (b : Nat) (C : String) : Prop := ∃ cell : Cell, H[b]? = some cell ∧ cell.vm.isStatics = false ∧ s.vm.findClass C = some cell.cls
section BaseS
variable {p : Program} {l : Launch} {e : Env} {R : Room} {s : State} {m : MethodId} {args : Array Value} {below : List Frame} {meth : Method} {c : Code} {H : Heap} {locs : List Loc} {Q : State → Prop} {P : EP} {D : va_G} {tys : List (ClassId × FieldType)} {A : Nat → Prop} {cells slots : Nat}
variable {own : String} {cc bytes : ByteArray} {nL maxL n idx pc : Nat} {rt ret : Option FieldType} {y : MethodName} {rm : Room} {b : Addr} {As rest st : List Value} {ls : Array Slot} {S : Type} {w : S → va_W} {k : S}

theorem es_c {Qp : Int32 → S → Prop} (C : CxE P D tys own cc nL rt p s m args meth c A) (h : Hd D (w k) A s H locs) (kw : CWs own idx y bytes maxL (some .char) n) (hC : Dc l P D tys w y bytes maxL rm As k Qp) (hrc : rm.cells = 0 ∧ rm.slots = 0) (hR : rm.frames + 1 ≤ R.frames ∧ 8 + (maxL + 11) + rm.locals ≤ R.locals) (hls : ls.size = nL) (hn : As.length = n) (hst : st = As.reverse ++ rest) (hW : (rest.map fun v => v.category).sum ≤ 8) (hcs : cells ≤ R.cells ∧ slots ≤ R.slots) (hdg : decode cc pc = .ok (.invokestatic idx, 3))
    (kk : ∀ (r : Int32) (u : S) (H1 : Heap) (locs1 : List Loc), (narrow .char (.int r) = .int r) → Qp r u → Hd D (w u) A s H1 locs1 → W p l e R s m args below meth c H1 locs1 cells slots Q (F0 m (pc + 3) ls (.int r :: rest))) : W p l e R s m args below meth c H locs cells slots Q (F0 m pc ls st) := by
  subst hst
  have ht := C.2.2.2.2.1
  exact va_calli (va_runS (As := As) (rest := rest) ⟨C.1, C.2.1, C.2.2.1, C.2.2.2.1, ht⟩ (hC H.size) ⟨CWd_b kw.1 ht hrc.1 hrc.2 hR, ht _ kw.2⟩ ⟨ctBlindE, HdE_pre C h _⟩ rfl hn hls rfl (lv_room hW) hdg hcs) h.2.2 (fun q _ hq => HdE_free C h q hq) (HdE_free C h) (fun r u t H1 locs1 ht hvm hw hB hz1 hk1 hS => kk r u H1 locs1 hw.1 hw.2 (HdE_post C h ht hB hS))
theorem eu_c {Qp : Int32 → S → Prop} (C : CxE P D tys own cc nL rt p s m args meth c A) (h : Hd D (w k) A s H locs) (kw : CWv own idx y bytes maxL (some .char) n) (hC : Dc l P D tys w y bytes maxL rm (.ref b :: As) k Qp) (hrc : rm.cells = 0 ∧ rm.slots = 0) (hR : rm.frames + 1 ≤ R.frames ∧ 8 + (maxL + 11) + rm.locals ≤ R.locals) (hv : RcvH s H b y.cls) (hls : ls.size = nL) (hn : As.length = n) (hst : st = As.reverse ++ .ref b :: rest) (hW : (rest.map fun v => v.category).sum ≤ 8) (hcs : cells ≤ R.cells ∧ slots ≤ R.slots) (hdg : decode cc pc = .ok (.invokevirtual idx, 3))
    (kk : ∀ (r : Int32) (u : S) (H1 : Heap) (locs1 : List Loc), (narrow .char (.int r) = .int r) → Qp r u → Hd D (w u) A s H1 locs1 → W p l e R s m args below meth c H1 locs1 cells slots Q (F0 m (pc + 3) ls (.int r :: rest))) : W p l e R s m args below meth c H locs cells slots Q (F0 m pc ls st) := by
  subst hst
  have ht := C.2.2.2.2.1
  exact va_calli (va_runV (As := As) (rest := rest) ⟨C.1, C.2.1, C.2.2.1, C.2.2.2.1, ht⟩ (hC H.size) ⟨CWd_b kw.1 ht hrc.1 hrc.2 hR, ht _ kw.2.1, ht _ kw.2.2⟩ ⟨ctBlindE, hv, HdE_pre C h _⟩ rfl hn hls rfl (lv_room hW) hdg hcs) h.2.2 (fun q _ hq => HdE_free C h q hq) (HdE_free C h) (fun r u t H1 locs1 ht hvm hw hB hz1 hk1 hS => kk r u H1 locs1 hw.1 hw.2 (HdE_post C h ht hB hS))
theorem er_c {Qp : Int32 → S → Prop} {v : Int32} {u : S} (C : CxE P D tys own cc nL (some .char) p s m args meth c A) (h : Hd D (w u) A s H locs) (hz : narrow .char (.int v) = .int v) (hq : Qp v u) (hdg : decode cc pc = .ok (.ireturn, 1)) : W p l e R s m args below meth c H locs 0 0 (MQ below (va_Qi (fun r u => (narrow .char (.int r) = .int r) ∧ Qp r u) (ctPostE P D tys w A) A) args s 0 0 A) (F0 m pc ls [.int v]) :=
  W.zret (v := v) (ty := .char) C.1 C.2.1 C.2.2.2.2.2.2.1 hz (fun t ht hW => ⟨⟨v, u, rfl, ⟨hz, hq⟩, by rw [ht]; exact h.1, va_K.moved hW.alike C.2.2.2.2.2.1, h.2.1⟩, h.2.2.F ht⟩) h.2.2.2.2 hdg C.2.2.2.2.2.2.2.1
theorem es_y {Qp : Int32 → S → Prop} (C : CxE P D tys own cc nL rt p s m args meth c A) (h : Hd D (w k) A s H locs) (kw : CWs own idx y bytes maxL (some .byte) n) (hC : Dy l P D tys w y bytes maxL rm As k Qp) (hrc : rm.cells = 0 ∧ rm.slots = 0) (hR : rm.frames + 1 ≤ R.frames ∧ 8 + (maxL + 11) + rm.locals ≤ R.locals) (hls : ls.size = nL) (hn : As.length = n) (hst : st = As.reverse ++ rest) (hW : (rest.map fun v => v.category).sum ≤ 8) (hcs : cells ≤ R.cells ∧ slots ≤ R.slots) (hdg : decode cc pc = .ok (.invokestatic idx, 3))
    (kk : ∀ (r : Int32) (u : S) (H1 : Heap) (locs1 : List Loc), (narrow .byte (.int r) = .int r) → Qp r u → Hd D (w u) A s H1 locs1 → W p l e R s m args below meth c H1 locs1 cells slots Q (F0 m (pc + 3) ls (.int r :: rest))) : W p l e R s m args below meth c H locs cells slots Q (F0 m pc ls st) := by
  subst hst
  have ht := C.2.2.2.2.1
  exact va_calli (va_runS (As := As) (rest := rest) ⟨C.1, C.2.1, C.2.2.1, C.2.2.2.1, ht⟩ (hC H.size) ⟨CWd_b kw.1 ht hrc.1 hrc.2 hR, ht _ kw.2⟩ ⟨ctBlindE, HdE_pre C h _⟩ rfl hn hls rfl (lv_room hW) hdg hcs) h.2.2 (fun q _ hq => HdE_free C h q hq) (HdE_free C h) (fun r u t H1 locs1 ht hvm hw hB hz1 hk1 hS => kk r u H1 locs1 hw.1 hw.2 (HdE_post C h ht hB hS))
theorem eu_y {Qp : Int32 → S → Prop} (C : CxE P D tys own cc nL rt p s m args meth c A) (h : Hd D (w k) A s H locs) (kw : CWv own idx y bytes maxL (some .byte) n) (hC : Dy l P D tys w y bytes maxL rm (.ref b :: As) k Qp) (hrc : rm.cells = 0 ∧ rm.slots = 0) (hR : rm.frames + 1 ≤ R.frames ∧ 8 + (maxL + 11) + rm.locals ≤ R.locals) (hv : RcvH s H b y.cls) (hls : ls.size = nL) (hn : As.length = n) (hst : st = As.reverse ++ .ref b :: rest) (hW : (rest.map fun v => v.category).sum ≤ 8) (hcs : cells ≤ R.cells ∧ slots ≤ R.slots) (hdg : decode cc pc = .ok (.invokevirtual idx, 3))
    (kk : ∀ (r : Int32) (u : S) (H1 : Heap) (locs1 : List Loc), (narrow .byte (.int r) = .int r) → Qp r u → Hd D (w u) A s H1 locs1 → W p l e R s m args below meth c H1 locs1 cells slots Q (F0 m (pc + 3) ls (.int r :: rest))) : W p l e R s m args below meth c H locs cells slots Q (F0 m pc ls st) := by
  subst hst
  have ht := C.2.2.2.2.1
  exact va_calli (va_runV (As := As) (rest := rest) ⟨C.1, C.2.1, C.2.2.1, C.2.2.2.1, ht⟩ (hC H.size) ⟨CWd_b kw.1 ht hrc.1 hrc.2 hR, ht _ kw.2.1, ht _ kw.2.2⟩ ⟨ctBlindE, hv, HdE_pre C h _⟩ rfl hn hls rfl (lv_room hW) hdg hcs) h.2.2 (fun q _ hq => HdE_free C h q hq) (HdE_free C h) (fun r u t H1 locs1 ht hvm hw hB hz1 hk1 hS => kk r u H1 locs1 hw.1 hw.2 (HdE_post C h ht hB hS))
theorem er_y {Qp : Int32 → S → Prop} {v : Int32} {u : S} (C : CxE P D tys own cc nL (some .byte) p s m args meth c A) (h : Hd D (w u) A s H locs) (hz : narrow .byte (.int v) = .int v) (hq : Qp v u) (hdg : decode cc pc = .ok (.ireturn, 1)) : W p l e R s m args below meth c H locs 0 0 (MQ below (va_Qi (fun r u => (narrow .byte (.int r) = .int r) ∧ Qp r u) (ctPostE P D tys w A) A) args s 0 0 A) (F0 m pc ls [.int v]) :=
  W.zret (v := v) (ty := .byte) C.1 C.2.1 C.2.2.2.2.2.2.1 hz (fun t ht hW => ⟨⟨v, u, rfl, ⟨hz, hq⟩, by rw [ht]; exact h.1, va_K.moved hW.alike C.2.2.2.2.2.1, h.2.1⟩, h.2.2.F ht⟩) h.2.2.2.2 hdg C.2.2.2.2.2.2.2.1
theorem eu_i {Qp : Int32 → S → Prop} (C : CxE P D tys own cc nL rt p s m args meth c A) (h : Hd D (w k) A s H locs) (kw : CWv own idx y bytes maxL (some .int) n) (hC : Di l P D tys w y bytes maxL rm (.ref b :: As) k Qp) (hrc : rm.cells = 0 ∧ rm.slots = 0) (hR : rm.frames + 1 ≤ R.frames ∧ 8 + (maxL + 11) + rm.locals ≤ R.locals) (hv : RcvH s H b y.cls) (hls : ls.size = nL) (hn : As.length = n) (hst : st = As.reverse ++ .ref b :: rest) (hW : (rest.map fun v => v.category).sum ≤ 8) (hcs : cells ≤ R.cells ∧ slots ≤ R.slots) (hdg : decode cc pc = .ok (.invokevirtual idx, 3))
    (kk : ∀ (r : Int32) (u : S) (H1 : Heap) (locs1 : List Loc), Qp r u → Hd D (w u) A s H1 locs1 → W p l e R s m args below meth c H1 locs1 cells slots Q (F0 m (pc + 3) ls (.int r :: rest))) : W p l e R s m args below meth c H locs cells slots Q (F0 m pc ls st) := by
  subst hst
  have ht := C.2.2.2.2.1
  exact va_calli (va_runV (As := As) (rest := rest) ⟨C.1, C.2.1, C.2.2.1, C.2.2.2.1, ht⟩ (hC H.size) ⟨CWd_b kw.1 ht hrc.1 hrc.2 hR, ht _ kw.2.1, ht _ kw.2.2⟩ ⟨ctBlindE, hv, HdE_pre C h _⟩ rfl hn hls rfl (lv_room hW) hdg hcs) h.2.2 (fun q _ hq => HdE_free C h q hq) (HdE_free C h) (fun r u t H1 locs1 ht hvm hw hB hz1 hk1 hS => kk r u H1 locs1 hw (HdE_post C h ht hB hS))
theorem eu_z {Qp : Int32 → S → Prop} (C : CxE P D tys own cc nL rt p s m args meth c A) (h : Hd D (w k) A s H locs) (kw : CWv own idx y bytes maxL (some .boolean) n) (hC : Dz l P D tys w y bytes maxL rm (.ref b :: As) k Qp) (hrc : rm.cells = 0 ∧ rm.slots = 0) (hR : rm.frames + 1 ≤ R.frames ∧ 8 + (maxL + 11) + rm.locals ≤ R.locals) (hv : RcvH s H b y.cls) (hls : ls.size = nL) (hn : As.length = n) (hst : st = As.reverse ++ .ref b :: rest) (hW : (rest.map fun v => v.category).sum ≤ 8) (hcs : cells ≤ R.cells ∧ slots ≤ R.slots) (hdg : decode cc pc = .ok (.invokevirtual idx, 3))
    (kk : ∀ (r : Int32) (u : S) (H1 : Heap) (locs1 : List Loc), (r = 0 ∨ r = 1) → Qp r u → Hd D (w u) A s H1 locs1 → W p l e R s m args below meth c H1 locs1 cells slots Q (F0 m (pc + 3) ls (.int r :: rest))) : W p l e R s m args below meth c H locs cells slots Q (F0 m pc ls st) := by
  subst hst
  have ht := C.2.2.2.2.1
  exact va_calli (va_runV (As := As) (rest := rest) ⟨C.1, C.2.1, C.2.2.1, C.2.2.2.1, ht⟩ (hC H.size) ⟨CWd_b kw.1 ht hrc.1 hrc.2 hR, ht _ kw.2.1, ht _ kw.2.2⟩ ⟨ctBlindE, hv, HdE_pre C h _⟩ rfl hn hls rfl (lv_room hW) hdg hcs) h.2.2 (fun q _ hq => HdE_free C h q hq) (HdE_free C h) (fun r u t H1 locs1 ht hvm hw hB hz1 hk1 hS => kk r u H1 locs1 hw.1 hw.2 (HdE_post C h ht hB hS))
theorem es_q {Qp : Option Nat → S → Prop} {C0 : String} (C : CxE P D tys own cc nL rt p s m args meth c A) (h : Hd D (w k) A s H locs) (kw : CWs own idx y bytes maxL (some (.object C0)) n) (hC : Dq l P D tys w y bytes maxL rm C0 As k Qp) (hrc : rm.cells = 0 ∧ rm.slots = 0) (hR : rm.frames + 1 ≤ R.frames ∧ 8 + (maxL + 11) + rm.locals ≤ R.locals) (hls : ls.size = nL) (hn : As.length = n) (hst : st = As.reverse ++ rest) (hW : (rest.map fun v => v.category).sum ≤ 8) (hcs : cells ≤ R.cells ∧ slots ≤ R.slots) (hdg : decode cc pc = .ok (.invokestatic idx, 3))
    (kk : ∀ (r : Option Nat) (u : S) (H1 : Heap) (locs1 : List Loc), Qp r u → Hd D (w u) A s H1 locs1 → W p l e R s m args below meth c H1 locs1 cells slots Q (F0 m (pc + 3) ls (va_rf r :: rest))) : W p l e R s m args below meth c H locs cells slots Q (F0 m pc ls st) := by
  subst hst
  have ht := C.2.2.2.2.1
  exact va_callq (va_runS (As := As) (rest := rest) ⟨C.1, C.2.1, C.2.2.1, C.2.2.2.1, ht⟩ (hC H.size) ⟨CWd_b kw.1 ht hrc.1 hrc.2 hR, ht _ kw.2⟩ ⟨ctBlindE, HdE_pre C h _⟩ rfl hn hls rfl (lv_room hW) hdg hcs) h.2.2 (fun q _ hq => HdE_free C h q hq) (HdE_free C h) (fun r u t H1 locs1 ht hvm hw hB hz1 hk1 hS => kk r u H1 locs1 hw (HdE_post C h ht hB hS))
theorem es_v {Qp : S → Prop} (C : CxE P D tys own cc nL rt p s m args meth c A) (h : Hd D (w k) A s H locs) (kw : CWs own idx y bytes maxL none n) (hC : Dv l P D tys w y bytes maxL rm As k Qp) (hrc : rm.cells = 0 ∧ rm.slots = 0) (hR : rm.frames + 1 ≤ R.frames ∧ 8 + (maxL + 11) + rm.locals ≤ R.locals) (hls : ls.size = nL) (hn : As.length = n) (hst : st = As.reverse ++ rest) (hW : (rest.map fun v => v.category).sum ≤ 8) (hcs : cells ≤ R.cells ∧ slots ≤ R.slots) (hdg : decode cc pc = .ok (.invokestatic idx, 3))
    (kk : ∀ (u : S) (H1 : Heap) (locs1 : List Loc), Qp u → Hd D (w u) A s H1 locs1 → W p l e R s m args below meth c H1 locs1 cells slots Q (F0 m (pc + 3) ls rest)) : W p l e R s m args below meth c H locs cells slots Q (F0 m pc ls st) := by
  subst hst
  have ht := C.2.2.2.2.1
  exact va_callv (va_runS (As := As) (rest := rest) ⟨C.1, C.2.1, C.2.2.1, C.2.2.2.1, ht⟩ (hC H.size) ⟨CWd_b kw.1 ht hrc.1 hrc.2 hR, ht _ kw.2⟩ ⟨ctBlindE, HdE_pre C h _⟩ rfl hn hls rfl (lv_room hW) hdg hcs) h.2.2 (fun q _ hq => HdE_free C h q hq) (HdE_free C h) (fun u t H1 locs1 ht hvm hw hB hz1 hk1 hS => kk u H1 locs1 hw (HdE_post C h ht hB hS))
theorem RcvH.str (C : CxE P D tys own cc nL rt p s m args meth c A) (h : Hd D (w k) A s H locs) {i : Nat} (hi : i < 13) : RcvH s H (P.1 i) RJ0 := vk_recv C.2.2.2.2.2.2.2.2.2.2.1 hi h.2.2
theorem ldcS (C : CxE P D tys RX6 cc nL rt p s m args meth c A) (i : Nat) (hi : i < 13) (hdg : decode cc pc = .ok (.ldc (idxS.getD i 0), 2)) (kk : W p l e R s m args below meth c H locs cells slots Q (F0 m (pc + 2) ls (.ref (P.1 i) :: rest))) : W p l e R s m args below meth c H locs cells slots Q (F0 m pc ls rest) := va_ldcS C.1 C.2.1 C.2.2.2.1 (C.2.2.2.2.2.2.2.2.2.2.2.1 i hi) hdg kk
end BaseS
section EntryS
variable {l : Launch} {P : EP} {D : va_G} {tys : List (ClassId × FieldType)} {S : Type} {w : S → va_W} {k : S} {y : MethodName} {cc : ByteArray} {maxL : Nat} {rm : Room} {av : List Value}

theorem Dc_of {Qp : Int32 → S → Prop} (hy : plainName y.cls = true) (hn : (lg_sl av).length ≤ maxL)
    (body : ∀ (p : Program) (e : Env) (s : State) (m : MethodId) (args : Array Value) (below : List Frame) (meth : Method) (c : Code) (A : Nat → Prop) (Z : State → Prop) (ls : Array Slot), CxE P D tys y.cls cc maxL (some .char) p s m args meth c A → (∀ {v : Int32} {u : S} {H : Heap} {locs : List Loc} {pc : Nat} {ls : Array Slot}, Hd D (w u) A s H locs → (narrow .char (.int v) = .int v) → Qp v u → decode cc pc = .ok (.ireturn, 1) → W p l e rm s m args below meth c H locs 0 0 Z (F0 m pc ls [.int v])) → Hd D (w k) A s s.heap [] → lv_has ls maxL (lv_args 0 av) → W p l e rm s m args below meth c s.heap [] 0 0 Z (F0 m 0 ls [])) : Dc l P D tys w y cc maxL rm av k Qp := by
  intro sz
  refine Met.ofW (cc := cc) (maxL := maxL) (ret := some .char) hy rfl ?_
  intro p e s m args below meth c s₁ B hml hv
  obtain ⟨rfl, hsz, hP, hK, hD0, hEC⟩ := hv
  subst hsz
  have hts := atoms_spec (ws := Cond.code y cc maxL (some .char) :: Tw) B.pre
  have hD := hD0.self (sz := s.heap.size)
  have hA : ∀ q : Nat, s.heap.size ≤ q → va_A (w k) s.heap.size q := fun q h => Or.inr h
  generalize va_A (w k) s.heap.size = A at hD hA hEC ⊢
  have C : CxE P D tys y.cls cc maxL (some .char) p s m av.toArray meth c A := ⟨B.exec, B.bytes, hml, findClass_of_methodNamed B.named, fun w hw => hts w (List.mem_cons_of_mem _ hw), hK, B.returns, B.notSynchronized, hA, hEC⟩
  have hl := lv_entry av (n := maxL) hn
  rw [lg_entry_eq]
  exact body p e s m _ below meth c A _ _ C (fun hd hz hq hdg => er_c C hd hz hq hdg) ⟨hP, hD, va_S.rf⟩ hl
theorem Dy_of {Qp : Int32 → S → Prop} (hy : plainName y.cls = true) (hn : (lg_sl av).length ≤ maxL)
    (body : ∀ (p : Program) (e : Env) (s : State) (m : MethodId) (args : Array Value) (below : List Frame) (meth : Method) (c : Code) (A : Nat → Prop) (Z : State → Prop) (ls : Array Slot), CxE P D tys y.cls cc maxL (some .byte) p s m args meth c A → (∀ {v : Int32} {u : S} {H : Heap} {locs : List Loc} {pc : Nat} {ls : Array Slot}, Hd D (w u) A s H locs → (narrow .byte (.int v) = .int v) → Qp v u → decode cc pc = .ok (.ireturn, 1) → W p l e rm s m args below meth c H locs 0 0 Z (F0 m pc ls [.int v])) → Hd D (w k) A s s.heap [] → lv_has ls maxL (lv_args 0 av) → W p l e rm s m args below meth c s.heap [] 0 0 Z (F0 m 0 ls [])) : Dy l P D tys w y cc maxL rm av k Qp := by
  intro sz
  refine Met.ofW (cc := cc) (maxL := maxL) (ret := some .byte) hy rfl ?_
  intro p e s m args below meth c s₁ B hml hv
  obtain ⟨rfl, hsz, hP, hK, hD0, hEC⟩ := hv
  subst hsz
  have hts := atoms_spec (ws := Cond.code y cc maxL (some .byte) :: Tw) B.pre
  have hD := hD0.self (sz := s.heap.size)
  have hA : ∀ q : Nat, s.heap.size ≤ q → va_A (w k) s.heap.size q := fun q h => Or.inr h
  generalize va_A (w k) s.heap.size = A at hD hA hEC ⊢
  have C : CxE P D tys y.cls cc maxL (some .byte) p s m av.toArray meth c A := ⟨B.exec, B.bytes, hml, findClass_of_methodNamed B.named, fun w hw => hts w (List.mem_cons_of_mem _ hw), hK, B.returns, B.notSynchronized, hA, hEC⟩
  have hl := lv_entry av (n := maxL) hn
  rw [lg_entry_eq]
  exact body p e s m _ below meth c A _ _ C (fun hd hz hq hdg => er_y C hd hz hq hdg) ⟨hP, hD, va_S.rf⟩ hl
end EntryS
