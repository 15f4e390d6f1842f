/-! ===== the base: one word list for all contracts; contexts, worlds, calls, ends ===== -/
theorem Tw_code {y : MethodName} {cc : ByteArray} {n : Nat} {r : Option FieldType} (h : Cond.code y cc n r ∈ Tw) : GoodIn Tw (Cond.code y cc n r :: Tw) := fun w hw => (List.mem_cons.mp hw).elim (fun e => by rw [e]; exact Tw_good _ h) (Tw_good w)
/-- the context of a walk: the machine, the code, the words, the classes, the answer's type, what may be written -/
def Cx (D : va_G) (tys : List (ClassId × FieldType)) (own : String) (cc : ByteArray) (nL : Nat) (rt : Option FieldType) (p : Program) (s : State) (m : MethodId) (args : Array Value) (meth : Method) (c : Code) (A : Nat → Prop) : Prop :=
  p.tables.exec = Jvm.exec ∧ c.code = cc ∧ c.maxLocals = nL ∧ s.vm.findClass own = some m.cls ∧ (∀ w ∈ Tw, w.before args s = true) ∧ va_K D vwCl tys s ∧ meth.sig.returnType = rt ∧ meth.locks = false ∧ (∀ q : Nat, s.heap.size ≤ q → A q)
/-- the world in the heap -/
def Hd (D : va_G) (ws : va_W) (A : Nat → Prop) (s : State) (H : Heap) (locs : List Loc) : Prop := va_P D vwCl ws H ∧ va_D A ws ∧ va_S A s.heap H locs
def ctPre (D : va_G) (tys : List (ClassId × FieldType)) (ws : va_W) (sz : Nat) : State → Prop := fun U => U.heap.size = sz ∧ va_P D vwCl ws U.heap ∧ va_K D vwCl tys U ∧ va_D (fun _ => True) ws
def ctPost (D : va_G) (tys : List (ClassId × FieldType)) {S : Type} (w : S → va_W) (A : Nat → Prop) : S → State → Prop := fun u t => va_P D vwCl (w u) t.heap ∧ va_K D vwCl tys t ∧ va_D A (w u)
/-- contracts over a whole world: an int, a boolean, a long, nothing -/
def Ci (l : Launch) (D : va_G) (tys : List (ClassId × FieldType)) {S : Type} (w : S → va_W) (y : MethodName) (cc : ByteArray) (maxL : Nat) (rm : Room) (av : List Value) (k : S) (Q : Int32 → S → Prop) : Prop :=
  ∀ sz : Nat, Met l y (.code y cc maxL (some .int) :: Tw) rm (va_Pc av (ctPre D tys (w k) sz)) (va_Qi Q (ctPost D tys w (va_A (w k) sz)) (va_A (w k) sz)) 0 0 (va_A (w k) sz)
def Cz (l : Launch) (D : va_G) (tys : List (ClassId × FieldType)) {S : Type} (w : S → va_W) (y : MethodName) (cc : ByteArray) (maxL : Nat) (rm : Room) (av : List Value) (k : S) (Q : Int32 → S → Prop) : Prop :=
  ∀ sz : Nat, Met l y (.code y cc maxL (some .boolean) :: Tw) rm (va_Pc av (ctPre D tys (w k) sz)) (va_Qi (fun r u => (r = 0 ∨ r = 1) ∧ Q r u) (ctPost D tys w (va_A (w k) sz)) (va_A (w k) sz)) 0 0 (va_A (w k) sz)
def Cl (l : Launch) (D : va_G) (tys : List (ClassId × FieldType)) {S : Type} (w : S → va_W) (y : MethodName) (cc : ByteArray) (maxL : Nat) (rm : Room) (av : List Value) (k : S) (Q : Int64 → S → Prop) : Prop :=
  ∀ sz : Nat, Met l y (.code y cc maxL (some .long) :: Tw) rm (va_Pc av (ctPre D tys (w k) sz)) (va_Ql Q (ctPost D tys w (va_A (w k) sz)) (va_A (w k) sz)) 0 0 (va_A (w k) sz)
def Cv (l : Launch) (D : va_G) (tys : List (ClassId × FieldType)) {S : Type} (w : S → va_W) (y : MethodName) (cc : ByteArray) (maxL : Nat) (rm : Room) (av : List Value) (k : S) (Q : S → Prop) : Prop :=
  ∀ sz : Nat, Met l y (.code y cc maxL none :: Tw) rm (va_Pc av (ctPre D tys (w k) sz)) (va_Qv Q (ctPost D tys w (va_A (w k) sz)) (va_A (w k) sz)) 0 0 (va_A (w k) sz)
theorem ctBlind {D : va_G} {tys : List (ClassId × FieldType)} {ws : va_W} {sz : Nat} {av : List Value} : FrameBlind (va_Pc av (ctPre D tys ws sz)) := fun a U g mk q => by
  obtain ⟨q0, q1, qP, qK, qD⟩ := q
  exact ⟨q0, q1, qP, va_K.moved (u := U) (U := U.calling g mk a) (Vm.Alike.refl U.vm) qK, qD⟩
/-- the words of a call -/
def CWd (own : String) (idx : Nat) (y : MethodName) (bytes : ByteArray) (maxL : Nat) (ret : Option FieldType) (n : Nat) : Prop :=
  Cond.code y bytes maxL ret ∈ Tw ∧ Cond.methodLink own idx y ∈ Tw ∧ Cond.initialized y.cls ∈ Tw ∧ (y.cls ≠ "java/lang/invoke/MethodHandle" ∧ y.cls ≠ "java/lang/invoke/VarHandle" ∧ (parseMethodDescriptor y.desc).map (fun d => d.parameters.length) = some n)
def CWv (own : String) (idx : Nat) (y : MethodName) (bytes : ByteArray) (maxL : Nat) (ret : Option FieldType) (n : Nat) : Prop :=
  CWd own idx y bytes maxL ret n ∧ Cond.instanceMethod y ∈ Tw ∧ Cond.selects y.cls y y ∈ Tw
def CWs (own : String) (idx : Nat) (y : MethodName) (bytes : ByteArray) (maxL : Nat) (ret : Option FieldType) (n : Nat) : Prop :=
  CWd own idx y bytes maxL ret n ∧ Cond.static y ∈ Tw
section Base
variable {p : Program} {l : Launch} {e : Env} {R : Room} {s : State} {m : MethodId} {args : Array Value} {below : List Frame} {meth : Method} {c : Code} {H : Heap} {locs : List Loc} {Q : State → Prop} {D : va_G} {tys : List (ClassId × FieldType)} {A : Nat → Prop} {cells slots : Nat}
variable {own : String} {cc bytes : ByteArray} {nL maxL n idx pc : Nat} {rt ret : Option FieldType} {y : MethodName} {rm : Room} {b : Addr} {As rest st : List Value} {ls : Array Slot} {S : Type} {w : S → va_W} {k : S}
theorem CWd_b (h : CWd own idx y bytes maxL ret n) (ht : ∀ w ∈ Tw, w.before args s = true) (hrc : rm.cells = 0) (hrs : rm.slots = 0) (hR : rm.frames + 1 ≤ R.frames ∧ 8 + (maxL + 11) + rm.locals ≤ R.locals) : CallB R s args own idx y bytes maxL ret (.code y bytes maxL ret :: Tw) rm 0 0 n :=
  callB_of n ht (Tw_code h.1) rfl hrc hrs (ht _ h.2.2.1) (ht _ h.2.1) h.2.2.2 hR
theorem Hd.free (C : Cx D tys own cc nL rt p s m args meth c A) (h : Hd D (w k) A s H locs) : ∀ q, va_A (w k) H.size q → A q := fun q hq => by
  rcases hq with ⟨j, e', hk⟩ | hge
  · exact h.2.1.2 _ _ hk
  · exact C.2.2.2.2.2.2.2.2 q (Nat.le_trans h.2.2.1 hge)
theorem Hd.pre (C : Cx D tys own cc nL rt p s m args meth c A) (h : Hd D (w k) A s H locs) (av : List Value) : ∀ U : State, U.heap = H → s.WarmedH U.vm → va_Pc av (ctPre D tys (w k) H.size) av.toArray U := fun U hU hW =>
  ⟨rfl, by rw [hU], by rw [hU]; exact h.1, va_K.moved hW.alike C.2.2.2.2.2.1, h.2.1.weaken (fun _ _ _ _ => trivial)⟩
theorem Hd.post (C : Cx D tys own cc nL rt p s m args meth c A) (h : Hd D (w k) A s H locs) {u : S} {t : State} {H1 : Heap} {locs1 : List Loc} (ht : t.heap = H1) (hB : ctPost D tys w (va_A (w k) H.size) u t) (hS : va_S A s.heap H1 locs1) : Hd D (w u) A s H1 locs1 :=
  ⟨by rw [← ht]; exact hB.1, hB.2.2.weaken (fun _ q _ h1 => Hd.free C h q.1 h1), hS⟩
/-- a receiver of a class of the world -/
def Rcv (ws : va_W) (b : Nat) (C : String) : Prop := ∃ (ci q0 N : Nat) (T : u_T) (fs : List Value), vwCl[ci]? = some (C, T, N) ∧ ws[q0]? = some (b, .inr (ci, fs))
theorem Rcv.at {ws : va_W} {C : String} (h : Rcv ws b C) (hK : va_K D vwCl tys s) (hP : va_P D vwCl ws H) : ∃ cell : Cell, H[b]? = some cell ∧ cell.vm.isStatics = false ∧ s.vm.findClass C = some cell.cls := by
  obtain ⟨ci, q0, N, T, fs, h1, h2⟩ := h
  exact va_recv hK hP h1 h2
theorem xv_i {Qp : Int32 → S → Prop} (C : Cx D tys own cc nL rt p s m args meth c A) (h : Hd D (w k) A s H locs) (kw : CWv own idx y bytes maxL (some .int) n) (hC : Ci l D tys w y bytes maxL rm (.ref b :: As) k Qp) (hrc : rm.cells = 0 ∧ rm.slots = 0) (hR : rm.frames + 1 ≤ R.frames ∧ 8 + (maxL + 11) + rm.locals ≤ R.locals) (hv : Rcv (w k) b y.cls) (hls : ls.size = nL) (hn : As.length = n) (hst : st = As.reverse ++ .ref b :: rest) (hW : (rest.map fun v => v.category).sum ≤ 8) (hcs : cells ≤ R.cells ∧ slots ≤ R.slots) (hdg : decode cc pc = .ok (.invokevirtual idx, 3))
    (kk : ∀ (r : Int32) (u : S) (H1 : Heap) (locs1 : List Loc), Qp r u → Hd D (w u) A s H1 locs1 → W p l e R s m args below meth c H1 locs1 cells slots Q (F0 m (pc + 3) ls (.int r :: rest))) : W p l e R s m args below meth c H locs cells slots Q (F0 m pc ls st) := by
  subst hst
  have ht := C.2.2.2.2.1
  exact va_calli (va_runV (As := As) (rest := rest) ⟨C.1, C.2.1, C.2.2.1, C.2.2.2.1, ht⟩ (hC H.size) ⟨CWd_b kw.1 ht hrc.1 hrc.2 hR, ht _ kw.2.1, ht _ kw.2.2⟩ ⟨ctBlind, hv.at C.2.2.2.2.2.1 h.1, Hd.pre C h _⟩ rfl hn hls rfl (lv_room hW) hdg hcs) h.2.2 (fun q _ hq => Hd.free C h q hq) (Hd.free C h) (fun r u t H1 locs1 ht hvm hw hB hz1 hk1 hS => kk r u H1 locs1 hw (Hd.post C h ht hB hS))
theorem xv_z {Qp : Int32 → S → Prop} (C : Cx D tys own cc nL rt p s m args meth c A) (h : Hd D (w k) A s H locs) (kw : CWv own idx y bytes maxL (some .boolean) n) (hC : Cz l D tys w y bytes maxL rm (.ref b :: As) k Qp) (hrc : rm.cells = 0 ∧ rm.slots = 0) (hR : rm.frames + 1 ≤ R.frames ∧ 8 + (maxL + 11) + rm.locals ≤ R.locals) (hv : Rcv (w k) b y.cls) (hls : ls.size = nL) (hn : As.length = n) (hst : st = As.reverse ++ .ref b :: rest) (hW : (rest.map fun v => v.category).sum ≤ 8) (hcs : cells ≤ R.cells ∧ slots ≤ R.slots) (hdg : decode cc pc = .ok (.invokevirtual idx, 3))
    (kk : ∀ (r : Int32) (u : S) (H1 : Heap) (locs1 : List Loc), (r = 0 ∨ r = 1) → Qp r u → Hd D (w u) A s H1 locs1 → W p l e R s m args below meth c H1 locs1 cells slots Q (F0 m (pc + 3) ls (.int r :: rest))) : W p l e R s m args below meth c H locs cells slots Q (F0 m pc ls st) := by
  subst hst
  have ht := C.2.2.2.2.1
  exact va_calli (va_runV (As := As) (rest := rest) ⟨C.1, C.2.1, C.2.2.1, C.2.2.2.1, ht⟩ (hC H.size) ⟨CWd_b kw.1 ht hrc.1 hrc.2 hR, ht _ kw.2.1, ht _ kw.2.2⟩ ⟨ctBlind, hv.at C.2.2.2.2.2.1 h.1, Hd.pre C h _⟩ rfl hn hls rfl (lv_room hW) hdg hcs) h.2.2 (fun q _ hq => Hd.free C h q hq) (Hd.free C h) (fun r u t H1 locs1 ht hvm hw hB hz1 hk1 hS => kk r u H1 locs1 hw.1 hw.2 (Hd.post C h ht hB hS))
theorem xv_l {Qp : Int64 → S → Prop} (C : Cx D tys own cc nL rt p s m args meth c A) (h : Hd D (w k) A s H locs) (kw : CWv own idx y bytes maxL (some .long) n) (hC : Cl l D tys w y bytes maxL rm (.ref b :: As) k Qp) (hrc : rm.cells = 0 ∧ rm.slots = 0) (hR : rm.frames + 1 ≤ R.frames ∧ 8 + (maxL + 11) + rm.locals ≤ R.locals) (hv : Rcv (w k) b y.cls) (hls : ls.size = nL) (hn : As.length = n) (hst : st = As.reverse ++ .ref b :: rest) (hW : (rest.map fun v => v.category).sum ≤ 8) (hcs : cells ≤ R.cells ∧ slots ≤ R.slots) (hdg : decode cc pc = .ok (.invokevirtual idx, 3))
    (kk : ∀ (r : Int64) (u : S) (H1 : Heap) (locs1 : List Loc), Qp r u → Hd D (w u) A s H1 locs1 → W p l e R s m args below meth c H1 locs1 cells slots Q (F0 m (pc + 3) ls (.long r :: rest))) : W p l e R s m args below meth c H locs cells slots Q (F0 m pc ls st) := by
  subst hst
  have ht := C.2.2.2.2.1
  exact va_calll (va_runV (As := As) (rest := rest) ⟨C.1, C.2.1, C.2.2.1, C.2.2.2.1, ht⟩ (hC H.size) ⟨CWd_b kw.1 ht hrc.1 hrc.2 hR, ht _ kw.2.1, ht _ kw.2.2⟩ ⟨ctBlind, hv.at C.2.2.2.2.2.1 h.1, Hd.pre C h _⟩ rfl hn hls rfl (lv_room hW) hdg hcs) h.2.2 (fun q _ hq => Hd.free C h q hq) (Hd.free C h) (fun r u t H1 locs1 ht hvm hw hB hz1 hk1 hS => kk r u H1 locs1 hw (Hd.post C h ht hB hS))
theorem xv_v {Qp : S → Prop} (C : Cx D tys own cc nL rt p s m args meth c A) (h : Hd D (w k) A s H locs) (kw : CWv own idx y bytes maxL none n) (hC : Cv l D tys w y bytes maxL rm (.ref b :: As) k Qp) (hrc : rm.cells = 0 ∧ rm.slots = 0) (hR : rm.frames + 1 ≤ R.frames ∧ 8 + (maxL + 11) + rm.locals ≤ R.locals) (hv : Rcv (w k) b y.cls) (hls : ls.size = nL) (hn : As.length = n) (hst : st = As.reverse ++ .ref b :: rest) (hW : (rest.map fun v => v.category).sum ≤ 8) (hcs : cells ≤ R.cells ∧ slots ≤ R.slots) (hdg : decode cc pc = .ok (.invokevirtual idx, 3))
    (kk : ∀ (u : S) (H1 : Heap) (locs1 : List Loc), Qp u → Hd D (w u) A s H1 locs1 → W p l e R s m args below meth c H1 locs1 cells slots Q (F0 m (pc + 3) ls rest)) : W p l e R s m args below meth c H locs cells slots Q (F0 m pc ls st) := by
  subst hst
  have ht := C.2.2.2.2.1
  exact va_callv (va_runV (As := As) (rest := rest) ⟨C.1, C.2.1, C.2.2.1, C.2.2.2.1, ht⟩ (hC H.size) ⟨CWd_b kw.1 ht hrc.1 hrc.2 hR, ht _ kw.2.1, ht _ kw.2.2⟩ ⟨ctBlind, hv.at C.2.2.2.2.2.1 h.1, Hd.pre C h _⟩ rfl hn hls rfl (lv_room hW) hdg hcs) h.2.2 (fun q _ hq => Hd.free C h q hq) (Hd.free C h) (fun u t H1 locs1 ht hvm hw hB hz1 hk1 hS => kk u H1 locs1 hw (Hd.post C h ht hB hS))
theorem xs_i {Qp : Int32 → S → Prop} (C : Cx D tys own cc nL rt p s m args meth c A) (h : Hd D (w k) A s H locs) (kw : CWs own idx y bytes maxL (some .int) n) (hC : Ci l D tys w y bytes maxL rm As k Qp) (hrc : rm.cells = 0 ∧ rm.slots = 0) (hR : rm.frames + 1 ≤ R.frames ∧ 8 + (maxL + 11) + rm.locals ≤ R.locals) (hls : ls.size = nL) (hn : As.length = n) (hst : st = As.reverse ++ rest) (hW : (rest.map fun v => v.category).sum ≤ 8) (hcs : cells ≤ R.cells ∧ slots ≤ R.slots) (hdg : decode cc pc = .ok (.invokestatic idx, 3))
    (kk : ∀ (r : Int32) (u : S) (H1 : Heap) (locs1 : List Loc), Qp r u → Hd D (w u) A s H1 locs1 → W p l e R s m args below meth c H1 locs1 cells slots Q (F0 m (pc + 3) ls (.int r :: rest))) : W p l e R s m args below meth c H locs cells slots Q (F0 m pc ls st) := by
  subst hst
  have ht := C.2.2.2.2.1
  exact va_calli (va_runS (As := As) (rest := rest) ⟨C.1, C.2.1, C.2.2.1, C.2.2.2.1, ht⟩ (hC H.size) ⟨CWd_b kw.1 ht hrc.1 hrc.2 hR, ht _ kw.2⟩ ⟨ctBlind, Hd.pre C h _⟩ rfl hn hls rfl (lv_room hW) hdg hcs) h.2.2 (fun q _ hq => Hd.free C h q hq) (Hd.free C h) (fun r u t H1 locs1 ht hvm hw hB hz1 hk1 hS => kk r u H1 locs1 hw (Hd.post C h ht hB hS))
theorem xs_z {Qp : Int32 → S → Prop} (C : Cx D tys own cc nL rt p s m args meth c A) (h : Hd D (w k) A s H locs) (kw : CWs own idx y bytes maxL (some .boolean) n) (hC : Cz l D tys w y bytes maxL rm As k Qp) (hrc : rm.cells = 0 ∧ rm.slots = 0) (hR : rm.frames + 1 ≤ R.frames ∧ 8 + (maxL + 11) + rm.locals ≤ R.locals) (hls : ls.size = nL) (hn : As.length = n) (hst : st = As.reverse ++ rest) (hW : (rest.map fun v => v.category).sum ≤ 8) (hcs : cells ≤ R.cells ∧ slots ≤ R.slots) (hdg : decode cc pc = .ok (.invokestatic idx, 3))
    (kk : ∀ (r : Int32) (u : S) (H1 : Heap) (locs1 : List Loc), (r = 0 ∨ r = 1) → Qp r u → Hd D (w u) A s H1 locs1 → W p l e R s m args below meth c H1 locs1 cells slots Q (F0 m (pc + 3) ls (.int r :: rest))) : W p l e R s m args below meth c H locs cells slots Q (F0 m pc ls st) := by
  subst hst
  have ht := C.2.2.2.2.1
  exact va_calli (va_runS (As := As) (rest := rest) ⟨C.1, C.2.1, C.2.2.1, C.2.2.2.1, ht⟩ (hC H.size) ⟨CWd_b kw.1 ht hrc.1 hrc.2 hR, ht _ kw.2⟩ ⟨ctBlind, Hd.pre C h _⟩ rfl hn hls rfl (lv_room hW) hdg hcs) h.2.2 (fun q _ hq => Hd.free C h q hq) (Hd.free C h) (fun r u t H1 locs1 ht hvm hw hB hz1 hk1 hS => kk r u H1 locs1 hw.1 hw.2 (Hd.post C h ht hB hS))
theorem xs_l {Qp : Int64 → S → Prop} (C : Cx D tys own cc nL rt p s m args meth c A) (h : Hd D (w k) A s H locs) (kw : CWs own idx y bytes maxL (some .long) n) (hC : Cl l D tys w y bytes maxL rm As k Qp) (hrc : rm.cells = 0 ∧ rm.slots = 0) (hR : rm.frames + 1 ≤ R.frames ∧ 8 + (maxL + 11) + rm.locals ≤ R.locals) (hls : ls.size = nL) (hn : As.length = n) (hst : st = As.reverse ++ rest) (hW : (rest.map fun v => v.category).sum ≤ 8) (hcs : cells ≤ R.cells ∧ slots ≤ R.slots) (hdg : decode cc pc = .ok (.invokestatic idx, 3))
    (kk : ∀ (r : Int64) (u : S) (H1 : Heap) (locs1 : List Loc), Qp r u → Hd D (w u) A s H1 locs1 → W p l e R s m args below meth c H1 locs1 cells slots Q (F0 m (pc + 3) ls (.long r :: rest))) : W p l e R s m args below meth c H locs cells slots Q (F0 m pc ls st) := by
  subst hst
  have ht := C.2.2.2.2.1
  exact va_calll (va_runS (As := As) (rest := rest) ⟨C.1, C.2.1, C.2.2.1, C.2.2.2.1, ht⟩ (hC H.size) ⟨CWd_b kw.1 ht hrc.1 hrc.2 hR, ht _ kw.2⟩ ⟨ctBlind, Hd.pre C h _⟩ rfl hn hls rfl (lv_room hW) hdg hcs) h.2.2 (fun q _ hq => Hd.free C h q hq) (Hd.free C h) (fun r u t H1 locs1 ht hvm hw hB hz1 hk1 hS => kk r u H1 locs1 hw (Hd.post C h ht hB hS))
/-- ends -/
theorem xr_i {Qp : Int32 → S → Prop} {v : Int32} {u : S} (C : Cx D tys own cc nL (some .int) p s m args meth c A) (h : Hd D (w u) A s H locs) (hq : Qp v u) (hdg : decode cc pc = .ok (.ireturn, 1)) : W p l e R s m args below meth c H locs 0 0 (MQ below (va_Qi Qp (ctPost D tys w A) A) args s 0 0 A) (F0 m pc ls [.int v]) :=
  W.iret (v := v) C.1 C.2.1 C.2.2.2.2.2.2.1 (fun t ht hW => ⟨⟨v, u, rfl, hq, by rw [ht]; exact h.1, va_K.moved hW.alike C.2.2.2.2.2.1, h.2.1⟩, h.2.2.F ht⟩) h.2.2.2.2 hdg C.2.2.2.2.2.2.2.1
theorem xr_z {Qp : Int32 → S → Prop} {v : Int32} {u : S} (C : Cx D tys own cc nL (some .boolean) p s m args meth c A) (h : Hd D (w u) A s H locs) (hz : v = 0 ∨ v = 1) (hq : Qp v u) (hdg : decode cc pc = .ok (.ireturn, 1)) : W p l e R s m args below meth c H locs 0 0 (MQ below (va_Qi (fun r u => (r = 0 ∨ r = 1) ∧ Qp r u) (ctPost D tys w A) A) args s 0 0 A) (F0 m pc ls [.int v]) :=
  W.zret (v := v) (ty := .boolean) C.1 C.2.1 C.2.2.2.2.2.2.1 (by rcases hz with rfl | rfl <;> decide +kernel) (fun t ht hW => ⟨⟨v, u, rfl, ⟨hz, hq⟩, by rw [ht]; exact h.1, va_K.moved hW.alike C.2.2.2.2.2.1, h.2.1⟩, h.2.2.F ht⟩) h.2.2.2.2 hdg C.2.2.2.2.2.2.2.1
theorem xr_l {Qp : Int64 → S → Prop} {v : Int64} {u : S} (C : Cx D tys own cc nL (some .long) p s m args meth c A) (h : Hd D (w u) A s H locs) (hq : Qp v u) (hdg : decode cc pc = .ok (.lreturn, 1)) : W p l e R s m args below meth c H locs 0 0 (MQ below (va_Ql Qp (ctPost D tys w A) A) args s 0 0 A) (F0 m pc ls [.long v]) :=
  W.lret (v := v) C.1 C.2.1 C.2.2.2.2.2.2.1 (fun t ht hW => ⟨⟨v, u, rfl, hq, by rw [ht]; exact h.1, va_K.moved hW.alike C.2.2.2.2.2.1, h.2.1⟩, h.2.2.F ht⟩) h.2.2.2.2 hdg C.2.2.2.2.2.2.2.1
theorem xr_v {Qp : S → Prop} {u : S} (C : Cx D tys own cc nL none p s m args meth c A) (h : Hd D (w u) A s H locs) (hq : Qp u) (hdg : decode cc pc = .ok (.return_, 1)) : W p l e R s m args below meth c H locs 0 0 (MQ below (va_Qv Qp (ctPost D tys w A) A) args s 0 0 A) (F0 m pc ls []) :=
  W.vret C.1 C.2.1 C.2.2.2.2.2.2.1 (fun t ht hW => ⟨⟨u, rfl, hq, by rw [ht]; exact h.1, va_K.moved hW.alike C.2.2.2.2.2.1, h.2.1⟩, h.2.2.F ht⟩) h.2.2.2.2 hdg C.2.2.2.2.2.2.2.1
end Base
