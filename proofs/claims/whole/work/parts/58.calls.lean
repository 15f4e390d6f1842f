/-! ===== calls of constructors; array classes; places in a world behind another ===== -/
def Cn (l : Launch) (P : EP) (D : va_G) (tys : List (ClassId × FieldType)) (E : State → Prop) {S : Type} (w0 : va_W) (w1 : S → va_W) (y : MethodName) (cc : ByteArray) (maxL : Nat) (rm : Room) (av : List Value) (Qp : S → Prop) (mc ms : Nat) : Prop :=
  ∀ sz : Nat, Met l y (.code y cc maxL none :: Tw) rm (va_Pc av (fun U => ctPreE P D tys w0 sz U ∧ E U)) (va_Qv Qp (ctPostE P D tys w1 (va_A w0 sz)) (va_A w0 sz)) mc ms (va_A w0 sz)
def Evw (E : State → Prop) : Prop := ∀ u U : State, u.vm.Alike U.vm → E u → E U
theorem Evw.tr : Evw (fun _ => True) := fun _ _ _ h => h
theorem Evw.ao {C : String} : Evw (va_AO C) := fun _ _ h1 h2 => va_AO.moved h1 h2
theorem Evw.and {E F : State → Prop} (h : Evw E) (h2 : Evw F) : Evw (fun U => E U ∧ F U) := fun u U ha hq => ⟨h u U ha hq.1, h2 u U ha hq.2⟩
theorem Cn.of {l : Launch} {P : EP} {D : va_G} {tys : List (ClassId × FieldType)} {E : State → Prop} {S : Type} {w0 : va_W} {w1 : S → va_W} {y : MethodName} {cc : ByteArray} {maxL : Nat} {rm : Room} {av : List Value} {Qp : S → Prop} {mc ms : Nat} (h : ∀ sz : Nat, Met l y (.code y cc maxL none :: Tw) rm (va_Pc av (ctPreE P D tys w0 sz)) (va_Qv Qp (ctPostE P D tys w1 (va_A w0 sz)) (va_A w0 sz)) mc ms (va_A w0 sz)) : Cn l P D tys E w0 w1 y cc maxL rm av Qp mc ms := fun sz =>
  MetFree.mono (h sz) (fun _ _ hp => ⟨hp.1, hp.2.1⟩) (fun _ _ _ _ _ x => x) (fun _ _ _ _ _ hq => hq)
theorem Cn.frame {l : Launch} {P : EP} {D : va_G} {tys : List (ClassId × FieldType)} {E : State → Prop} {S : Type} {w0 : va_W} {w1 : S → va_W} {y : MethodName} {cc : ByteArray} {maxL : Nat} {rm : Room} {av : List Value} {Qp : S → Prop} {mc ms : Nat} (h : Cn l P D tys E w0 w1 y cc maxL rm av Qp mc ms) (wr : va_W) : Cn l P D tys E (w0 ++ wr) (fun u => w1 u ++ wr) y cc maxL rm av Qp mc ms := by
  intro sz
  refine MetFree.mono (h sz) (fun a st hp => ⟨hp.1, ctPreE_left hp.2.1, hp.2.2⟩) (fun _ _ _ _ _ x => x) (fun a st o t hp hq => ?_)
  obtain ⟨⟨hsz, h2, h3, h4, -⟩, -⟩ := hp.2
  subst hsz
  obtain ⟨⟨⟨u, e1, e2, b1, b2, b3⟩, hF⟩, L, hL1, hL2⟩ := hq
  obtain ⟨g1, g2⟩ := fr_post (wr := wr) ⟨rfl, h2, h3, h4⟩ hF b1 b3
  exact ⟨⟨⟨u, e1, e2, g1, b2, g2⟩, ⟨hF.1, fun q hq1 hq2 => hF.2 q hq1 (fun hA => hq2 (va_A_left hA))⟩⟩, L, hL1, fun q hq => va_A_left (hL2 q hq)⟩
def CWi (own : String) (idx : Nat) (y : MethodName) (bytes : ByteArray) (maxL n : Nat) : Prop :=
  Cond.code y bytes maxL none ∈ Tw ∧ Cond.methodLink own idx y ∈ Tw ∧ Cond.initialized y.cls ∈ Tw ∧ Cond.instanceMethod y ∈ Tw ∧ y.name = "<init>" ∧ (y.cls ≠ "java/lang/invoke/MethodHandle" ∧ y.cls ≠ "java/lang/invoke/VarHandle" ∧ (parseMethodDescriptor y.desc).map (fun d => d.parameters.length) = some n)
def CWin (own : String) (idx : Nat) (y : MethodName) (host : String) (bytes : ByteArray) (maxL n : Nat) : Prop :=
  Cond.code y bytes maxL none ∈ Tw ∧ (own, idx, y, host) ∈ NT ∧ Cond.initialized y.cls ∈ Tw ∧ Cond.instanceMethod y ∈ Tw ∧ y.name = "<init>" ∧ (y.cls ≠ "java/lang/invoke/MethodHandle" ∧ y.cls ≠ "java/lang/invoke/VarHandle" ∧ (parseMethodDescriptor y.desc).map (fun d => d.parameters.length) = some n)
section CI
variable {p : Program} {l : Launch} {e : Env} {R : Room} {s : State} {m : MethodId} {args : Array Value} {below : List Frame} {meth : Method} {c : Code} {H : Heap} {locs : List Loc} {Q : State → Prop} {P : EP} {D : va_G} {tys : List (ClassId × FieldType)} {A : Nat → Prop} {cells slots mc ms : Nat}
variable {own host : String} {cc bytes : ByteArray} {nL maxL n idx pc : Nat} {rt : Option FieldType} {y : MethodName} {rm : Room} {b : Addr} {As rest st : List Value} {ls : Array Slot} {S : Type} {w0 : va_W} {w1 : S → va_W} {E : State → Prop}
theorem ci_v {Qp : S → Prop} (C : CxE P D tys own cc nL rt p s m args meth c A) (h : Hd D w0 A s H locs) (kw : CWi own idx y bytes maxL n) (hM : Cn l P D tys E w0 w1 y bytes maxL rm (.ref b :: As) Qp mc ms) (hE : Evw E) (hs : E s) (hrc : rm.cells = mc) (hrs : rm.slots = ms) (hR : rm.frames + 1 ≤ R.frames ∧ 8 + (maxL + 11) + rm.locals ≤ R.locals) (hls : ls.size = nL) (hn : As.length = n) (hst : st = As.reverse ++ .ref b :: rest) (hW : (rest.map fun v => v.category).sum ≤ 8) (hcs : cells + mc ≤ R.cells ∧ slots + ms ≤ R.slots) (hdg : decode cc pc = .ok (.invokespecial idx, 3))
    (kk : ∀ (u : S) (H1 : Heap) (locs1 : List Loc), Qp u → Hd D (w1 u) A s H1 locs1 → W p l e R s m args below meth c H1 locs1 (cells + mc) (slots + ms) Q (F0 m (pc + 3) ls rest)) : W p l e R s m args below meth c H locs cells slots Q (F0 m pc ls st) := by
  subst hst
  have ht := C.2.2.2.2.1
  have h' : Hd D ((fun _ : Unit => w0) ()) A s H locs := h
  have hF : ∀ q, va_A w0 H.size q → A q := HdE_free (w := fun _ : Unit => w0) (k := ()) C h'
  refine va_callv (va_runI (As := As) (rest := rest) ⟨C.1, C.2.1, C.2.2.1, C.2.2.2.1, ht⟩ (hM H.size) (cwI n ht (Tw_code kw.1) rfl hrc hrs (ht _ kw.2.2.1) (ht _ kw.2.1) (ht _ kw.2.2.2.1) kw.2.2.2.2.1 kw.2.2.2.2.2 hR) ⟨fun a U g mk q => ?_, fun U hU hW => ?_⟩ rfl hn hls rfl (lv_room hW) hdg hcs) h.2.2 (fun q _ hq => hF q hq) hF (fun u t H1 locs1 ht hvm hw hB hz1 hk1 hS => kk u H1 locs1 hw ⟨by rw [← ht]; exact hB.1, hB.2.2.weaken (fun _ q _ h1 => hF q.1 h1), hS⟩)
  · obtain ⟨q0, q1, q2⟩ := q
    exact ⟨q0, (ctBlindE a U g mk ⟨q0, q1⟩).2, hE U _ (Vm.Alike.refl U.vm) q2⟩
  · have z := HdE_pre (w := fun _ : Unit => w0) (k := ()) C h' (.ref b :: As) U hU hW
    exact ⟨z.1, z.2, hE s U hW.alike hs⟩
theorem ciN_v {Qp : S → Prop} (C : CxE P D tys own cc nL rt p s m args meth c A) (h : Hd D w0 A s H locs) (kw : CWin own idx y host bytes maxL n) (hM : Cn l P D tys E w0 w1 y bytes maxL rm (.ref b :: As) Qp mc ms) (hE : Evw E) (hs : E s) (hrc : rm.cells = mc) (hrs : rm.slots = ms) (hR : rm.frames + 1 ≤ R.frames ∧ 8 + (maxL + 11) + rm.locals ≤ R.locals) (hls : ls.size = nL) (hn : As.length = n) (hst : st = As.reverse ++ .ref b :: rest) (hW : (rest.map fun v => v.category).sum ≤ 8) (hcs : cells + mc ≤ R.cells ∧ slots + ms ≤ R.slots) (hdg : decode cc pc = .ok (.invokespecial idx, 3))
    (kk : ∀ (u : S) (H1 : Heap) (locs1 : List Loc), Qp u → Hd D (w1 u) A s H1 locs1 → W p l e R s m args below meth c H1 locs1 (cells + mc) (slots + ms) Q (F0 m (pc + 3) ls rest)) : W p l e R s m args below meth c H locs cells slots Q (F0 m pc ls st) := by
  subst hst
  have ht := C.2.2.2.2.1
  have h' : Hd D ((fun _ : Unit => w0) ()) A s H locs := h
  have hF : ∀ q, va_A w0 H.size q → A q := HdE_free (w := fun _ : Unit => w0) (k := ()) C h'
  refine va_callv (va_runIN (As := As) (rest := rest) ⟨C.1, C.2.1, C.2.2.1, C.2.2.2.1, ht⟩ (hM H.size) ⟨va_cnB n ht (Tw_code kw.1) rfl hrc hrs (C.2.2.2.2.2.2.2.2.2.1 _ kw.2.1) (ht _ kw.2.2.1) kw.2.2.2.2.2 hR, kw.2.2.2.2.1, ht _ kw.2.2.2.1⟩ ⟨fun a U g mk q => ?_, fun U hU hW => ?_⟩ rfl hn hls rfl (lv_room hW) hdg hcs) h.2.2 (fun q _ hq => hF q hq) hF (fun u t H1 locs1 ht hvm hw hB hz1 hk1 hS => kk u H1 locs1 hw ⟨by rw [← ht]; exact hB.1, hB.2.2.weaken (fun _ q _ h1 => hF q.1 h1), hS⟩)
  · obtain ⟨q0, q1, q2⟩ := q
    exact ⟨q0, (ctBlindE a U g mk ⟨q0, q1⟩).2, hE U _ (Vm.Alike.refl U.vm) q2⟩
  · have z := HdE_pre (w := fun _ : Unit => w0) (k := ()) C h' (.ref b :: As) U hU hW
    exact ⟨z.1, z.2, hE s U hW.alike hs⟩
/-- Arrays.fill in any world that holds the row -/
theorem flO {g : Nat → ClassId} (C : CxE P D (tyA g) own cc nL rt p s m args meth c A) {ws : va_W} (h : Hd D ws A s H locs) {q0 q N : Nat} {f : Nat → Int32} (he : ws[q0]? = some (q, .inl (g 0, N, .inl f))) (hN : N < 2 ^ 31) {v : Int32} (hlink : Cond.methodLink own idx yJ7_fill_53178 ∈ Tw) (hls : ls.size = nL) (hR : 1 ≤ R.frames ∧ 23 ≤ R.locals) (hW : (rest.map fun v => v.category).sum ≤ 8) (hcs : cells ≤ R.cells ∧ slots ≤ R.slots) (hdg : decode cc pc = .ok (.invokestatic idx, 3))
    (kk : ∀ (H1 : Heap) (locs1 : List Loc), Hd D (ws.set q0 (q, .inl (g 0, N, .inl (fun x => if x < N then v else f x)))) A s H1 locs1 → W p l e R s m args below meth c H1 locs1 cells slots Q (F0 m (pc + 3) ls rest)) : W p l e R s m args below meth c H locs cells slots Q (F0 m pc ls (.int v :: .ref q :: rest)) := by
  have ht := C.2.2.2.2.1
  have hF : ∀ z, va_A [(q, .inl (g 0, N, .inl f))] H.size z → A z := fun z hz => by
    rcases one_A hz with hz | hge
    · rw [hz]; exact h.2.1.2 _ _ he
    · exact C.2.2.2.2.2.2.2.2.1 z (Nat.le_trans h.2.2.1 hge)
  have kw : CWd own idx yJ7_fill_53178 cJ7_fill_53178 4 none 2 := ⟨q_40, hlink, q_3, by decide +kernel⟩
  refine va_callv (va_runS (As := [.ref q, .int v]) (rest := rest) ⟨C.1, C.2.1, C.2.2.1, C.2.2.2.1, ht⟩ (c_fill (D := D) (g := g) (q := q) hN f v H.size) ⟨CWd_b kw ht rfl rfl hR, ht _ q_39⟩ ⟨ctBlind, fun U hU hW => ⟨rfl, by rw [hU], by rw [hU]; exact one_P h.1 he, va_K.moved hW.alike C.2.2.2.2.2.1, one_D _⟩⟩ rfl rfl hls rfl (lv_room hW) hdg hcs) h.2.2 (fun z _ hz => hF z hz) hF (fun u t H1 locs1 ht hvm hw hB hz1 hk1 hS => ?_)
  refine kk H1 locs1 ?_
  have hat : va_at D vwCl (q, .inl (g 0, N, .inl u)) H1 := by rw [← ht]; exact hB.1 0 _ rfl
  have hPn := va_P_set' h.1 h.2.1 he hat (fun z hz1 hz2 => hk1 z hz1 (fun hz => by
    rcases one_A hz with hz | hge
    · exact hz2 hz
    · omega))
  have hDn := h.2.1.set (e := .inl (g 0, N, .inl u)) he
  rw [hw] at hPn hDn
  exact ⟨hPn, hDn, hS⟩
end CI
theorem at_pl (ws L : va_W) (i : Nat) {x : Nat × va_E} (h : L[i]? = some x) : (ws ++ L)[ws.length + i]? = some x := by
  rw [List.getElem?_append_right (Nat.le_add_right _ _), Nat.add_sub_cancel_left]
  exact h
theorem set_pl (ws L : va_W) (i : Nat) (y : Nat × va_E) : (ws ++ L).set (ws.length + i) y = ws ++ L.set i y := by
  rw [List.set_append, if_neg (Nat.not_lt.mpr (Nat.le_add_right _ _)), Nat.add_sub_cancel_left]
theorem K_obj {D : va_G} {cl : List vw_C} {tys : List (ClassId × FieldType)} {s : State} {c1 c2 : ClassId} {C : String} {i j : Nat} (h : va_K D cl tys s) (h1 : tys[i]? = some (c1, .object C)) (h2 : tys[j]? = some (c2, .object C)) : c1 = c2 := by
  obtain ⟨-, k1, m1, -, -, -, e1⟩ := h.2 i _ h1
  obtain ⟨-, k2, m2, -, -, -, e2⟩ := h.2 j _ h2
  exact Option.some.inj (e1.symm.trans e2)
theorem kk0 : (0 : Int32).toNatClampNeg = 0 := by decide
theorem kk1 : (1 : Int32).toNatClampNeg = 1 := by decide
theorem kk2 : (2 : Int32).toNatClampNeg = 2 := by decide
theorem kk3 : (3 : Int32).toNatClampNeg = 3 := by decide
