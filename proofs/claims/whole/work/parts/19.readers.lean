/-! ===== the readers: plans and texts that come ===== -/
def DqA (l : Launch) (P : EP) (D : va_G) (tys : List (ClassId × FieldType)) {S : Type} (w : S → va_W) (y : MethodName) (cc : ByteArray) (maxL : Nat) (rm : Room) (C0 : String) (av : List Value) (k : S) (Q : Option Nat → S → Prop) (mc ms : Nat) : Prop :=
  ∀ sz : Nat, Met l y (.code y cc maxL (some (.object C0)) :: Tw) rm (va_Pc av (ctPreE P D tys (w k) sz)) (va_Qq Q (ctPostE P D tys w (va_A (w k) sz)) (va_A (w k) sz)) mc ms (va_A (w k) sz)
theorem DqA_of {l : Launch} {P : EP} {D : va_G} {tys : List (ClassId × FieldType)} {S : Type} {w : S → va_W} {k : S} {y : MethodName} {cc : ByteArray} {maxL : Nat} {rm : Room} {av : List Value} {Qp : Option Nat → S → Prop} {C0 : String} {mc ms : Nat} (hy : plainName y.cls = true) (hn : (lg_sl av).length ≤ maxL)
    (body : ∀ (p : Program) (e : Env) (s : State) (m : MethodId) (args : Array Value) (below : List Frame) (meth : Method) (c : Code) (A : Nat → Prop) (Z : State → Prop) (ls : Array Slot), CxE P D tys y.cls cc maxL (some (.object C0)) p s m args meth c A → (∀ {v : Option Nat} {u : S} {H : Heap} {locs : List Loc} {pc : Nat} {ls : Array Slot} {cells slots : Nat}, Hd D (w u) A s H locs → Qp v u → cells ≤ mc → slots ≤ ms → decode cc pc = .ok (.areturn, 1) → W p l e rm s m args below meth c H locs cells slots Z (F0 m pc ls [va_rf v])) → Hd D (w k) A s s.heap [] → lv_has ls maxL (lv_args 0 av) → W p l e rm s m args below meth c s.heap [] 0 0 Z (F0 m 0 ls [])) : DqA l P D tys w y cc maxL rm C0 av k Qp mc ms := by
  intro sz
  refine Met.ofW (cc := cc) (maxL := maxL) (ret := some (.object C0)) hy rfl ?_
  intro p e s m args below meth c s₁ B hml hv
  obtain ⟨rfl, hsz, hP, hK, hD0, hEC⟩ := hv
  subst hsz
  have hD := hD0.self (sz := s.heap.size)
  have hA : ∀ q : Nat, s.heap.size ≤ q → va_A (w k) s.heap.size q := fun q h => Or.inr h
  generalize va_A (w k) s.heap.size = A at hD hA hEC ⊢
  have C := CxE_of B hml hK hA hEC
  have hl := lv_entry av (n := maxL) hn
  rw [lg_entry_eq]
  exact body p e s m _ below meth c A _ _ C (fun hd hq h1 h2 hdg => W.widen (k := mc) (n := ms) h1 h2 (W.aret (v := va_rf _) (rt := .object C0) C.1 C.2.1 C.2.2.2.2.2.2.1 (Or.inl ⟨_, rfl⟩) (by rename_i v _ _ _ _ _ _ _; cases v with | none => exact Or.inl rfl | some z => exact Or.inr ⟨z, rfl⟩) (fun t ht hW => ⟨⟨_, _, rfl, hq, by rw [ht]; exact hd.1, va_K.moved hW.alike C.2.2.2.2.2.1, hd.2.1⟩, hd.2.2.F ht⟩) hd.2.2.2.2 hdg C.2.2.2.2.2.2.2.1)) ⟨hP, hD, va_S.rf⟩ hl
section EvA
variable {p : Program} {l : Launch} {e : Env} {R : Room} {s : State} {m : MethodId} {args : Array Value} {below : List Frame} {meth : Method} {c : Code} {H : Heap} {locs : List Loc} {Q : State → Prop} {P : EP} {D : va_G} {tys : List (ClassId × FieldType)} {A : Nat → Prop} {cells slots : Nat}
variable {own : String} {cc bytes : ByteArray} {nL maxL n idx pc : Nat} {rt ret : Option FieldType} {y : MethodName} {rm : Room} {b : Addr} {As rest st : List Value} {ls : Array Slot} {S : Type} {w : S → va_W} {k : S}
theorem ev_qA {Qp : Option Nat → S → Prop} {C0 : String} {mc ms : Nat} (C : CxE P D tys own cc nL rt p s m args meth c A) (h : Hd D (w k) A s H locs) (kw : CWv own idx y bytes maxL (some (.object C0)) n) (hC : DqA l P D tys w y bytes maxL rm C0 (.ref b :: As) k Qp mc ms) (hrc : rm.cells = mc) (hrs : rm.slots = ms) (hR : rm.frames + 1 ≤ R.frames ∧ 8 + (maxL + 11) + rm.locals ≤ R.locals) (hv : Rcv (w k) b y.cls) (hls : ls.size = nL) (hn : As.length = n) (hst : st = As.reverse ++ .ref b :: rest) (hW : (rest.map fun v => v.category).sum ≤ 8) (hcs : cells + mc ≤ R.cells ∧ slots + ms ≤ R.slots) (hdg : decode cc pc = .ok (.invokevirtual idx, 3))
    (kk : ∀ (r : Option Nat) (u : S) (H1 : Heap) (locs1 : List Loc), Qp r u → Hd D (w u) A s H1 locs1 → W p l e R s m args below meth c H1 locs1 (cells + mc) (slots + ms) Q (F0 m (pc + 3) ls (va_rf r :: rest))) : W p l e R s m args below meth c H locs cells slots Q (F0 m pc ls st) := by
  subst hst
  have ht := C.2.2.2.2.1
  exact va_callq (va_runV (As := As) (rest := rest) ⟨C.1, C.2.1, C.2.2.1, C.2.2.2.1, ht⟩ (hC H.size) ⟨callB_of n ht (Tw_code kw.1.1) rfl hrc hrs (ht _ kw.1.2.2.1) (ht _ kw.1.2.1) kw.1.2.2.2 hR, ht _ kw.2.1, ht _ kw.2.2⟩ ⟨ctBlindE, hv.at C.2.2.2.2.2.1 h.1, HdE_pre C h _⟩ rfl hn hls rfl (lv_room hW) hdg hcs) h.2.2 (fun q _ hq => HdE_free C h q hq) (HdE_free C h) (fun r u t H1 locs1 ht hvm hw hB hz1 hk1 hS => kk r u H1 locs1 hw (HdE_post C h ht hB hS))
end EvA
def wPl (a : Nat → Nat) (b : Nat → Nat → Nat) (g : Nat → ClassId) (u : KC × Option Dn) : va_W := wC a b g u.1 ++ u.2.elim [] (cellP g)
def wTx (a : Nat → Nat) (b : Nat → Nat → Nat) (g : Nat → ClassId) (u : KC × Option Dn) : va_W := wC a b g u.1 ++ u.2.elim [] (cellT g)
theorem wPl_none (a : Nat → Nat) (b : Nat → Nat → Nat) (g : Nat → ClassId) (k : KC) : wPl a b g (k, none) = wC a b g k := List.append_nil _
theorem wTx_none (a : Nat → Nat) (b : Nat → Nat → Nat) (g : Nat → ClassId) (k : KC) : wTx a b g (k, none) = wC a b g k := List.append_nil _
def nplan (k : KC) (x3 : Int32) (Q : Option Dn → KC → Prop) : Prop := ¬ x3 < 0 ∧ x3.toNatClampNeg ≤ 24 ∧ ∀ d : Dn, d.2.2.2.1 = x3.toNatClampNeg → (∀ j, j < d.2.2.2.1 → d.2.2.2.2.1 j = k.2.1 7 0 j) → (∀ j, j < d.2.2.2.1 → d.2.2.2.2.2 j = k.2.1 7 1 j) → Q (some d) k
def ntext (fb : Nat → Int32) (k : KC) (Q : Option Dn → KC → Prop) : Prop := ¬ k.1 6 6 < 0 ∧ (k.1 6 6).toNatClampNeg ≤ 160 ∧ ∀ d : Dn, d.2.2.2.1 = (k.1 6 6).toNatClampNeg → (∀ j, j < d.2.2.2.1 → d.2.2.2.2.1 j = k.2.1 6 5 j) → d.2.2.2.2.2 = fb → Q (some d) k
section Tail
variable {p : Program} {l : Launch} {e : Env} {R : Room} {s : State} {m : MethodId} {args : Array Value} {below : List Frame} {meth : Method} {c : Code} {H : Heap} {locs : List Loc} {Z : State → Prop} {P : EP} {D : va_G} {A : Nat → Prop} {rt : Option FieldType} {ls : Array Slot} {a : Nat → Nat} {b : Nat → Nat → Nat} {g : Nat → ClassId} {k : KC} {Qp : Option Dn → KC → Prop}
set_option maxHeartbeats 4000000 in
set_option maxRecDepth 100000 in
theorem tailP {x3 : Int32} (C : CxE P D (tyA g) RX2 cX2_read 8 rt p s m args meth c A) (ret : ∀ {v : Option Nat} {u : KC × Option Dn} {H : Heap} {locs : List Loc} {pc : Nat} {ls : Array Slot} {cells slots : Nat}, Hd D (wPl a b g u) A s H locs → (v = u.2.map (fun d => d.1) ∧ Qp u.2 u.1) → cells ≤ 3 → slots ≤ 51 → decode cX2_read pc = .ok (.areturn, 1) → W p l e R s m args below meth c H locs cells slots Z (F0 m pc ls [va_rf v])) (hRf : 3 ≤ R.frames ∧ 140 ≤ R.locals ∧ R.cells = 3 ∧ R.slots = 51) (hd : Hd D (wC a b g k) A s H locs) (hls : ls.size = 8) (h0 : ls[0]? = some (.val (.ref (a 7)))) (h3 : ls[3]? = some (.val (.int x3))) (h : nplan k x3 Qp) : W p l e R s m args below meth c H locs 0 0 Z (F0 m 148 ls []) := by
  obtain ⟨hn0, hn24, h⟩ := h
  obtain ⟨hF1, hF2, hF3, hF4⟩ := hRf
  have hx := C.1
  have hb := C.2.1
  have hown := C.2.2.2.1
  have hts := C.2.2.2.2.1
  have hK := C.2.2.2.2.2.1
  have hA := C.2.2.2.2.2.2.2.2.1
  obtain ⟨hP, hD, hS⟩ := hd
  refine va_new (ci := 1) (fs := [.null, .null, .int 0]) (C := RX1) (T := TX1) (N := 3) hx hb hts twX1 tyX1 tyX1_ok hown (hts _ q_634) (hts _ q_635) (hts _ q_19) hK hP hD hS hA rfl (fun j hj => by rcases (show j = 0 ∨ j = 1 ∨ j = 2 by omega) with rfl | rfl | rfl <;> rfl) (by rw [hF3]; omega) (by rw [hF4]; omega) dX2_read_148 (fun o H hP hD hS => ?_)
  refine lv_dup hx hb dX2_read_151 rfl ?_
  refine lv_aload_n hx hb dX2_read_152 rfl h0 ?_
  refine va_get (D := D) (ci := 2) (C := RX2) (T := TX2) (N := 3) hx hb hts twX2 hown hK hP 36 rfl rfl 0 (Nat.le_of_ble_eq_true rfl) (hts _ q_204) (fun _ h9 => h9) rfl dX2_read_153 ?_
  refine lv_aload_n hx hb dX2_read_156 rfl h0 ?_
  refine va_get (D := D) (ci := 2) (C := RX2) (T := TX2) (N := 3) hx hb hts twX2 hown hK hP 36 rfl rfl 1 (Nat.le_of_ble_eq_true rfl) (hts _ q_205) (fun _ h9 => h9) rfl dX2_read_157 ?_
  refine lv_iload_n hx hb dX2_read_160 rfl h3 ?_
  have hd1 : Hd D ((fun _ : Unit => wC a b g k ++ [(o, .inr (1, [.null, .null, .int 0]))]) ()) A s H locs := ⟨hP, hD, hS⟩
  refine va_callv (va_runI (As := [.ref (b 7 0), .ref (b 7 1), .int x3]) (rest := [.ref o]) ⟨hx, hb, C.2.2.1, hown, hts⟩ (c_X1_init (P := P) (D := D) (g := g) (ws := wC a b g k) (o := o) (i1 := 37) (i2 := 38) (N := 24) rfl rfl hn0 hn24 (by omega) H.size) (cwI 3 hts (Tw_code q_638) rfl rfl rfl (hts _ q_19) (hts _ q_636) (hts _ q_637) rfl (by decide +kernel) ⟨by show 2 + 1 ≤ _; omega, by show 8 + (4 + 11) + 110 ≤ _; omega⟩) ⟨ctBlindE, HdE_pre C hd1 _⟩ rfl rfl hls rfl (lv_room (Nat.le_of_ble_eq_true rfl)) dX2_read_161 ⟨by rw [hF3]; omega, by rw [hF4]; omega⟩) hS (fun q _ hq => HdE_free C hd1 q hq) (HdE_free C hd1) (fun d t H1 locs ht hvm hw hB hz1 hk1 hS => ?_)
  obtain ⟨e1, e2, e3, e4⟩ := hw
  subst e1
  refine ret (v := some d.1) (u := (k, some d)) ⟨by rw [← ht]; exact hB.1, hB.2.2.weaken (fun _ q _ h1 => HdE_free C hd1 q.1 h1), hS⟩ ⟨rfl, h d e2 (fun j hj => e3 j (by rw [← e2]; exact hj)) (fun j hj => e4 j (by rw [← e2]; exact hj))⟩ (by omega) (by omega) dX2_read_164
end Tail
theorem kwRX2_X2_refused_31 : CWv RX2 31 yX2_refused cX2_refused 2 (some (.object "BellAndDrop$Plan")) 1 := ⟨⟨q_629, q_626, q_8, by decide +kernel⟩, q_628, qs_14⟩
theorem kwRX2_X4_byteAt_24 : CWv RX2 24 yX4_byteAt cX4_byteAt 2 (some .int) 1 := ⟨⟨q_408, q_622, q_6, by decide +kernel⟩, q_406, q_407⟩
theorem kwRX2_X2_endOf_28 : CWs RX2 28 yX2_endOf cX2_endOf 1 (some .int) 1 := ⟨⟨q_625, q_623, q_8, by decide +kernel⟩, q_624⟩
theorem kwRX2_X9_within_35 : CWn RX2 35 yX9_within RX9 cX9_within 3 (some .boolean) 3 := ⟨q_316, List.mem_of_getElem? (i := 8) rfl, q_1, by decide +kernel, q_315⟩
theorem kwRX2_X9_isOn_39 : CWn RX2 39 yX9_isOn RX9 cX9_isOn 2 (some .boolean) 2 := ⟨q_633, List.mem_of_getElem? (i := 9) rfl, q_1, by decide +kernel, q_632⟩
def wC_X2_read : Nat → Nat → Int32 → Int32 → Int32 → Int32 → KC → (Option Dn → KC → Prop) → Prop
  | 0, _, _, _, _, _, _, _ => False
  | n + 1, c, x2, x3, x4, x5, k, Q => match c with
    | 0 => wC_X2_read n 1 x2 (0 : Int32) (0 : Int32) (0 : Int32) k Q
    | _ => (((k.1 5 1) ≤ x5 → ((x3 = 0 → (wC_X2_refused (k.1 5 1) k (fun r_3 k_3 => (r_3 = none ∧ Q none k_3)))) ∧ (¬ x3 = 0 → ((x4 = 0 → nplan k x3 Q) ∧ (¬ x4 = 0 → (wC_X2_refused (k.1 5 1) k (fun r_5 k_5 => (r_5 = none ∧ Q none k_5)))))))) ∧ (¬ (k.1 5 1) ≤ x5 → (wC_X4_byteAt x5 k (fun r_6 k_6 => (wC_X4_byteAt x5 k_6 (fun r_7 k_7 => (wC_X2_endOf r_7 k_7 (fun r_8 k_8 => ((¬ x3 = (24 : Int32) → (wC_within (r_6 - (97 : Int32)) (0 : Int32) (x2 - (1 : Int32)) k_8 (fun r_10 k_10 => ((r_10 = 0 → ((r_8 = (-1 : Int32) → (wC_X2_refused x5 k_10 (fun r_13 k_13 => (r_13 = none ∧ Q none k_13)))) ∧ (¬ r_8 = (-1 : Int32) → (vp_in x3 24 ∧ (vp_in x3 24 ∧ wC_X2_read n 1 x2 (x3 + (1 : Int32)) (0 : Int32) (x5 + (1 : Int32)) (cA (cA k_10 7 0 (upd (k_10.2.1 7 0) x3.toNatClampNeg x4)) 7 1 (upd (k_10.2.1 7 1) x3.toNatClampNeg r_8)) Q))))) ∧ (¬ r_10 = 0 → (wC_isOn x4 (r_6 - (97 : Int32)) k_10 (fun r_14 k_14 => ((¬ r_14 = 0 → ((r_8 = (-1 : Int32) → (wC_X2_refused x5 k_14 (fun r_17 k_17 => (r_17 = none ∧ Q none k_17)))) ∧ (¬ r_8 = (-1 : Int32) → (vp_in x3 24 ∧ (vp_in x3 24 ∧ wC_X2_read n 1 x2 (x3 + (1 : Int32)) (0 : Int32) (x5 + (1 : Int32)) (cA (cA k_14 7 0 (upd (k_14.2.1 7 0) x3.toNatClampNeg x4)) 7 1 (upd (k_14.2.1 7 1) x3.toNatClampNeg r_8)) Q))))) ∧ (r_14 = 0 → wC_X2_read n 1 x2 x3 (x4 ||| ((1 : Int32) <<< ((r_6 - (97 : Int32)) &&& 31))) (x5 + (1 : Int32)) k_14 Q))))))))) ∧ (x3 = (24 : Int32) → (wC_X2_refused x5 k_8 (fun r_18 k_18 => (r_18 = none ∧ Q none k_18)))))))))))))
set_option maxHeartbeats 4000000 in
set_option maxRecDepth 100000 in
theorem cC_X2_read {l : Launch} {P : EP} {D : va_G} {a : Nat → Nat} {b : Nat → Nat → Nat} {g : Nat → ClassId} {k : KC} {Qp : Option Dn → KC → Prop} (n : Nat) (x2 : Int32) (h : wC_X2_read n 0 x2 0 0 0 k Qp) : DqA l P D (tyA g) (wPl a b g) yX2_read cX2_read 8 ({ frames := 3, cells := 3, slots := 51, locals := 140 }) "BellAndDrop$Plan" [.ref (a 7), .ref (a 5), .int x2] (k, none) (fun r u => r = u.2.map (fun d => d.1) ∧ Qp u.2 u.1) 3 51 := by
  refine DqA_of (by decide) (Nat.le_of_ble_eq_true rfl) ?_
  intro p e s m args below meth c A Z ls C ret hd hl
  rw [wPl_none] at hd
  have hx := C.1
  have hb := C.2.1
  have hl : lv_has ls 8 [(0, .ref (a 7)), (1, .ref (a 5)), (2, .int x2)] := hl
  have L : ∀ n : Nat, (∀ (x2 : Int32) (x3 : Int32) (x4 : Int32) (x5 : Int32) (k : KC) (H : Heap) (locs : List Loc) (ls : Array Slot), wC_X2_read n 1 x2 x3 x4 x5 k Qp → Hd D (wC a b g k) A s H locs → lv_has ls 8 [(0, .ref (a 7)), (1, .ref (a 5)), (2, .int x2), (3, .int x3), (4, .int x4), (5, .int x5)] → W p l e ({ frames := 3, cells := 3, slots := 51, locals := 140 }) s m args below meth c H locs 0 0 Z (F0 m 8 ls [])) := by
    intro n
    induction n with
    | zero => exact fun _ _ _ _ _ _ _ _ h => h.elim
    | succ n ih =>
      intro x2 x3 x4 x5 k H locs ls h hd hl
      replace h : (((k.1 5 1) ≤ x5 → ((x3 = 0 → (wC_X2_refused (k.1 5 1) k (fun r_3 k_3 => (r_3 = none ∧ Qp none k_3)))) ∧ (¬ x3 = 0 → ((x4 = 0 → nplan k x3 Qp) ∧ (¬ x4 = 0 → (wC_X2_refused (k.1 5 1) k (fun r_5 k_5 => (r_5 = none ∧ Qp none k_5)))))))) ∧ (¬ (k.1 5 1) ≤ x5 → (wC_X4_byteAt x5 k (fun r_6 k_6 => (wC_X4_byteAt x5 k_6 (fun r_7 k_7 => (wC_X2_endOf r_7 k_7 (fun r_8 k_8 => ((¬ x3 = (24 : Int32) → (wC_within (r_6 - (97 : Int32)) (0 : Int32) (x2 - (1 : Int32)) k_8 (fun r_10 k_10 => ((r_10 = 0 → ((r_8 = (-1 : Int32) → (wC_X2_refused x5 k_10 (fun r_13 k_13 => (r_13 = none ∧ Qp none k_13)))) ∧ (¬ r_8 = (-1 : Int32) → (vp_in x3 24 ∧ (vp_in x3 24 ∧ wC_X2_read n 1 x2 (x3 + (1 : Int32)) (0 : Int32) (x5 + (1 : Int32)) (cA (cA k_10 7 0 (upd (k_10.2.1 7 0) x3.toNatClampNeg x4)) 7 1 (upd (k_10.2.1 7 1) x3.toNatClampNeg r_8)) Qp))))) ∧ (¬ r_10 = 0 → (wC_isOn x4 (r_6 - (97 : Int32)) k_10 (fun r_14 k_14 => ((¬ r_14 = 0 → ((r_8 = (-1 : Int32) → (wC_X2_refused x5 k_14 (fun r_17 k_17 => (r_17 = none ∧ Qp none k_17)))) ∧ (¬ r_8 = (-1 : Int32) → (vp_in x3 24 ∧ (vp_in x3 24 ∧ wC_X2_read n 1 x2 (x3 + (1 : Int32)) (0 : Int32) (x5 + (1 : Int32)) (cA (cA k_14 7 0 (upd (k_14.2.1 7 0) x3.toNatClampNeg x4)) 7 1 (upd (k_14.2.1 7 1) x3.toNatClampNeg r_8)) Qp))))) ∧ (r_14 = 0 → wC_X2_read n 1 x2 x3 (x4 ||| ((1 : Int32) <<< ((r_6 - (97 : Int32)) &&& 31))) (x5 + (1 : Int32)) k_14 Qp))))))))) ∧ (x3 = (24 : Int32) → (wC_X2_refused x5 k_8 (fun r_18 k_18 => (r_18 = none ∧ Qp none k_18))))))))))))) := h
      refine lv_iload hx hb dX2_read_8 (lv_at hl 5 rfl) ?_
      refine lv_aload_n hx hb dX2_read_10 rfl (lv_at hl 1 rfl) ?_
      refine gC2_4_1 C hd (v := k.1 5 1) rfl dX2_read_11 ?_
      refine lv_icmp_ge (tgt := 130) hx hb dX2_read_14 (by decide) (fun c_1 => ?_) (fun c_1 => ?_)
      · replace h := h.1 c_1
        refine lv_iload_n hx hb dX2_read_130 rfl (lv_at hl 3 rfl) ?_
        refine lv_if_eq (tgt := 139) hx hb dX2_read_131 (by decide) (fun c_2 => ?_) (fun c_2 => ?_)
        · replace h := h.1 c_2
          refine lv_aload_n hx hb dX2_read_139 rfl (lv_at hl 0 rfl) ?_
          refine lv_aload_n hx hb dX2_read_140 rfl (lv_at hl 1 rfl) ?_
          refine gC2_4_1 C hd (v := k.1 5 1) rfl dX2_read_141 ?_
          refine ev_q C hd kwRX2_X2_refused_31 (cC_X2_refused _ h) ⟨rfl, rfl⟩ ⟨by decide, by decide⟩ rcC2 hl.1 rfl rfl (Nat.le_of_ble_eq_true rfl) ⟨Nat.zero_le _, Nat.zero_le _⟩ dX2_read_144 (fun r_3 k_3 H locs h hd => ?_)
          exact ret (v := r_3) (u := (k_3, none)) (by rw [wPl_none]; exact hd) ⟨h.1, h.2⟩ (Nat.zero_le _) (Nat.zero_le _) dX2_read_147
        · replace h := h.2 c_2
          refine lv_iload hx hb dX2_read_134 (lv_at hl 4 rfl) ?_
          refine lv_if_eq (tgt := 148) hx hb dX2_read_136 (by decide) (fun c_4 => ?_) (fun c_4 => ?_)
          · replace h := h.1 c_4
            exact tailP C ret ⟨by decide, by decide, rfl, rfl⟩ hd hl.1 (lv_at hl 0 rfl) (lv_at hl 3 rfl) h
          · replace h := h.2 c_4
            refine lv_aload_n hx hb dX2_read_139 rfl (lv_at hl 0 rfl) ?_
            refine lv_aload_n hx hb dX2_read_140 rfl (lv_at hl 1 rfl) ?_
            refine gC2_4_1 C hd (v := k.1 5 1) rfl dX2_read_141 ?_
            refine ev_q C hd kwRX2_X2_refused_31 (cC_X2_refused _ h) ⟨rfl, rfl⟩ ⟨by decide, by decide⟩ rcC2 hl.1 rfl rfl (Nat.le_of_ble_eq_true rfl) ⟨Nat.zero_le _, Nat.zero_le _⟩ dX2_read_144 (fun r_5 k_5 H locs h hd => ?_)
            exact ret (v := r_5) (u := (k_5, none)) (by rw [wPl_none]; exact hd) ⟨h.1, h.2⟩ (Nat.zero_le _) (Nat.zero_le _) dX2_read_147
      · replace h := h.2 c_1
        refine lv_aload_n hx hb dX2_read_17 rfl (lv_at hl 1 rfl) ?_
        refine lv_iload hx hb dX2_read_18 (lv_at hl 5 rfl) ?_
        refine ev_i C hd kwRX2_X4_byteAt_24 (cC_X4_byteAt _ h) ⟨rfl, rfl⟩ ⟨by decide, by decide⟩ rcC4 hl.1 rfl rfl (Nat.le_of_ble_eq_true rfl) ⟨Nat.zero_le _, Nat.zero_le _⟩ dX2_read_20 (fun r_6 k_6 H locs h hd => ?_)
        refine lv_bipush (v := 97) hx hb dX2_read_23 (by decide) ?_
        refine lv_isub hx hb dX2_read_25 ?_
        refine lv_istore (lv' := [(6, .int (r_6 - (97 : Int32))), (0, .ref (a 7)), (1, .ref (a 5)), (2, .int x2), (3, .int x3), (4, .int x4), (5, .int x5)]) hx hb dX2_read_26 hl (by decide) rfl (fun ls hl => ?_)
        refine lv_aload_n hx hb dX2_read_28 rfl (lv_at hl 2 rfl) ?_
        refine lv_iload hx hb dX2_read_29 (lv_at hl 6 rfl) ?_
        refine ev_i C hd kwRX2_X4_byteAt_24 (cC_X4_byteAt _ h) ⟨rfl, rfl⟩ ⟨by decide, by decide⟩ rcC4 hl.1 rfl rfl (Nat.le_of_ble_eq_true rfl) ⟨Nat.zero_le _, Nat.zero_le _⟩ dX2_read_31 (fun r_7 k_7 H locs h hd => ?_)
        refine es_i C hd kwRX2_X2_endOf_28 (cC_X2_endOf _ h) ⟨rfl, rfl⟩ ⟨by decide, by decide⟩ hl.1 rfl rfl (Nat.le_of_ble_eq_true rfl) ⟨Nat.zero_le _, Nat.zero_le _⟩ dX2_read_34 (fun r_8 k_8 H locs h hd => ?_)
        refine lv_istore (lv' := [(7, .int r_8), (6, .int (r_6 - (97 : Int32))), (0, .ref (a 7)), (1, .ref (a 5)), (2, .int x2), (3, .int x3), (4, .int x4), (5, .int x5)]) hx hb dX2_read_37 hl (by decide) rfl (fun ls hl => ?_)
        refine lv_iload_n hx hb dX2_read_39 rfl (lv_at hl 5 rfl) ?_
        refine lv_bipush (v := 24) hx hb dX2_read_40 (by decide) ?_
        refine lv_icmp_ne (tgt := 52) hx hb dX2_read_42 (by decide) (fun c_9 => ?_) (fun c_9 => ?_)
        · replace h := h.1 c_9
          refine lv_iload hx hb dX2_read_52 (lv_at hl 1 rfl) ?_
          refine lv_iconst (v := 0) hx hb dX2_read_54 (by decide) ?_
          refine lv_iload_n hx hb dX2_read_55 rfl (lv_at hl 4 rfl) ?_
          refine lv_iconst (v := 1) hx hb dX2_read_56 (by decide) ?_
          refine lv_isub hx hb dX2_read_57 ?_
          refine en_z C hd kwRX2_X9_within_35 (cC_within _ _ _ h) ⟨rfl, rfl⟩ ⟨by decide, by decide⟩ hl.1 rfl rfl (Nat.le_of_ble_eq_true rfl) ⟨Nat.zero_le _, Nat.zero_le _⟩ dX2_read_58 (fun r_10 k_10 H locs hz_10 h hd => ?_)
          refine lv_if_eq (tgt := 86) hx hb dX2_read_61 (by decide) (fun c_11 => ?_) (fun c_11 => ?_)
          · replace h := h.1 c_11
            refine lv_iload hx hb dX2_read_86 (lv_at hl 0 rfl) ?_
            refine lv_iconst (v := -1) hx hb dX2_read_88 (by decide) ?_
            refine lv_icmp_eq (tgt := 117) hx hb dX2_read_89 (by decide) (fun c_12 => ?_) (fun c_12 => ?_)
            · replace h := h.1 c_12
              refine lv_aload_n hx hb dX2_read_117 rfl (lv_at hl 2 rfl) ?_
              refine lv_iload hx hb dX2_read_118 (lv_at hl 7 rfl) ?_
              refine ev_q C hd kwRX2_X2_refused_31 (cC_X2_refused _ h) ⟨rfl, rfl⟩ ⟨by decide, by decide⟩ rcC2 hl.1 rfl rfl (Nat.le_of_ble_eq_true rfl) ⟨Nat.zero_le _, Nat.zero_le _⟩ dX2_read_120 (fun r_13 k_13 H locs h hd => ?_)
              exact ret (v := r_13) (u := (k_13, none)) (by rw [wPl_none]; exact hd) ⟨h.1, h.2⟩ (Nat.zero_le _) (Nat.zero_le _) dX2_read_123
            · replace h := h.2 c_12
              refine lv_aload_n hx hb dX2_read_92 rfl (lv_at hl 2 rfl) ?_
              refine gC2_2_0 C hd dX2_read_93 ?_
              refine lv_iload_n hx hb dX2_read_96 rfl (lv_at hl 5 rfl) ?_
              refine lv_iload hx hb dX2_read_97 (lv_at hl 6 rfl) ?_
              refine stC2_0 C hd h.1 dX2_read_99 (fun H locs hd => ?_)
              replace h := h.2
              refine lv_aload_n hx hb dX2_read_100 rfl (lv_at hl 2 rfl) ?_
              refine gC2_2_1 C hd dX2_read_101 ?_
              refine lv_iload_n hx hb dX2_read_104 rfl (lv_at hl 5 rfl) ?_
              refine lv_iload hx hb dX2_read_105 (lv_at hl 0 rfl) ?_
              refine stC2_1 C hd h.1 dX2_read_107 (fun H locs hd => ?_)
              replace h := h.2
              refine lv_iinc (v := (x3 + (1 : Int32))) (lv' := [(3, .int (x3 + (1 : Int32))), (7, .int r_8), (6, .int (r_6 - (97 : Int32))), (0, .ref (a 7)), (1, .ref (a 5)), (2, .int x2), (4, .int x4), (5, .int x5)]) hx hb dX2_read_108 hl (k := 5) rfl rfl (by decide) rfl (fun ls hl => ?_)
              refine lv_iconst (v := 0) hx hb dX2_read_111 (by decide) ?_
              refine lv_istore (lv' := [(4, .int (0 : Int32)), (3, .int (x3 + (1 : Int32))), (7, .int r_8), (6, .int (r_6 - (97 : Int32))), (0, .ref (a 7)), (1, .ref (a 5)), (2, .int x2), (5, .int x5)]) hx hb dX2_read_112 hl (by decide) rfl (fun ls hl => ?_)
              refine lv_goto (tgt := 124) hx hb dX2_read_114 (by decide) ?_
              refine lv_iinc (v := (x5 + (1 : Int32))) (lv' := [(5, .int (x5 + (1 : Int32))), (4, .int (0 : Int32)), (3, .int (x3 + (1 : Int32))), (7, .int r_8), (6, .int (r_6 - (97 : Int32))), (0, .ref (a 7)), (1, .ref (a 5)), (2, .int x2)]) hx hb dX2_read_124 hl (k := 7) rfl rfl (by decide) rfl (fun ls hl => ?_)
              refine lv_goto (tgt := 8) hx hb dX2_read_127 (by decide) ?_
              exact ih x2 (x3 + (1 : Int32)) (0 : Int32) (x5 + (1 : Int32))  _ _ _ _ h hd (lv_sub hl [5, 6, 7, 2, 1, 0] rfl)
          · replace h := h.2 c_11
            refine lv_iload hx hb dX2_read_64 (lv_at hl 6 rfl) ?_
            refine lv_iload hx hb dX2_read_66 (lv_at hl 1 rfl) ?_
            refine en_z C hd kwRX2_X9_isOn_39 (cC_isOn _ _ h) ⟨rfl, rfl⟩ ⟨by decide, by decide⟩ hl.1 rfl rfl (Nat.le_of_ble_eq_true rfl) ⟨Nat.zero_le _, Nat.zero_le _⟩ dX2_read_68 (fun r_14 k_14 H locs hz_14 h hd => ?_)
            refine lv_if_ne (tgt := 86) hx hb dX2_read_71 (by decide) (fun c_15 => ?_) (fun c_15 => ?_)
            · replace h := h.1 c_15
              refine lv_iload hx hb dX2_read_86 (lv_at hl 0 rfl) ?_
              refine lv_iconst (v := -1) hx hb dX2_read_88 (by decide) ?_
              refine lv_icmp_eq (tgt := 117) hx hb dX2_read_89 (by decide) (fun c_16 => ?_) (fun c_16 => ?_)
              · replace h := h.1 c_16
                refine lv_aload_n hx hb dX2_read_117 rfl (lv_at hl 2 rfl) ?_
                refine lv_iload hx hb dX2_read_118 (lv_at hl 7 rfl) ?_
                refine ev_q C hd kwRX2_X2_refused_31 (cC_X2_refused _ h) ⟨rfl, rfl⟩ ⟨by decide, by decide⟩ rcC2 hl.1 rfl rfl (Nat.le_of_ble_eq_true rfl) ⟨Nat.zero_le _, Nat.zero_le _⟩ dX2_read_120 (fun r_17 k_17 H locs h hd => ?_)
                exact ret (v := r_17) (u := (k_17, none)) (by rw [wPl_none]; exact hd) ⟨h.1, h.2⟩ (Nat.zero_le _) (Nat.zero_le _) dX2_read_123
              · replace h := h.2 c_16
                refine lv_aload_n hx hb dX2_read_92 rfl (lv_at hl 2 rfl) ?_
                refine gC2_2_0 C hd dX2_read_93 ?_
                refine lv_iload_n hx hb dX2_read_96 rfl (lv_at hl 5 rfl) ?_
                refine lv_iload hx hb dX2_read_97 (lv_at hl 6 rfl) ?_
                refine stC2_0 C hd h.1 dX2_read_99 (fun H locs hd => ?_)
                replace h := h.2
                refine lv_aload_n hx hb dX2_read_100 rfl (lv_at hl 2 rfl) ?_
                refine gC2_2_1 C hd dX2_read_101 ?_
                refine lv_iload_n hx hb dX2_read_104 rfl (lv_at hl 5 rfl) ?_
                refine lv_iload hx hb dX2_read_105 (lv_at hl 0 rfl) ?_
                refine stC2_1 C hd h.1 dX2_read_107 (fun H locs hd => ?_)
                replace h := h.2
                refine lv_iinc (v := (x3 + (1 : Int32))) (lv' := [(3, .int (x3 + (1 : Int32))), (7, .int r_8), (6, .int (r_6 - (97 : Int32))), (0, .ref (a 7)), (1, .ref (a 5)), (2, .int x2), (4, .int x4), (5, .int x5)]) hx hb dX2_read_108 hl (k := 5) rfl rfl (by decide) rfl (fun ls hl => ?_)
                refine lv_iconst (v := 0) hx hb dX2_read_111 (by decide) ?_
                refine lv_istore (lv' := [(4, .int (0 : Int32)), (3, .int (x3 + (1 : Int32))), (7, .int r_8), (6, .int (r_6 - (97 : Int32))), (0, .ref (a 7)), (1, .ref (a 5)), (2, .int x2), (5, .int x5)]) hx hb dX2_read_112 hl (by decide) rfl (fun ls hl => ?_)
                refine lv_goto (tgt := 124) hx hb dX2_read_114 (by decide) ?_
                refine lv_iinc (v := (x5 + (1 : Int32))) (lv' := [(5, .int (x5 + (1 : Int32))), (4, .int (0 : Int32)), (3, .int (x3 + (1 : Int32))), (7, .int r_8), (6, .int (r_6 - (97 : Int32))), (0, .ref (a 7)), (1, .ref (a 5)), (2, .int x2)]) hx hb dX2_read_124 hl (k := 7) rfl rfl (by decide) rfl (fun ls hl => ?_)
                refine lv_goto (tgt := 8) hx hb dX2_read_127 (by decide) ?_
                exact ih x2 (x3 + (1 : Int32)) (0 : Int32) (x5 + (1 : Int32))  _ _ _ _ h hd (lv_sub hl [5, 6, 7, 2, 1, 0] rfl)
            · replace h := h.2 c_15
              refine lv_iload hx hb dX2_read_74 (lv_at hl 6 rfl) ?_
              refine lv_iconst (v := 1) hx hb dX2_read_76 (by decide) ?_
              refine lv_iload hx hb dX2_read_77 (lv_at hl 1 rfl) ?_
              refine lv_ishl hx hb dX2_read_79 ?_
              refine lv_ior hx hb dX2_read_80 ?_
              refine lv_istore (lv' := [(4, .int (x4 ||| ((1 : Int32) <<< ((r_6 - (97 : Int32)) &&& 31)))), (7, .int r_8), (6, .int (r_6 - (97 : Int32))), (0, .ref (a 7)), (1, .ref (a 5)), (2, .int x2), (3, .int x3), (5, .int x5)]) hx hb dX2_read_81 hl (by decide) rfl (fun ls hl => ?_)
              refine lv_goto (tgt := 124) hx hb dX2_read_83 (by decide) ?_
              refine lv_iinc (v := (x5 + (1 : Int32))) (lv' := [(5, .int (x5 + (1 : Int32))), (4, .int (x4 ||| ((1 : Int32) <<< ((r_6 - (97 : Int32)) &&& 31)))), (7, .int r_8), (6, .int (r_6 - (97 : Int32))), (0, .ref (a 7)), (1, .ref (a 5)), (2, .int x2), (3, .int x3)]) hx hb dX2_read_124 hl (k := 7) rfl rfl (by decide) rfl (fun ls hl => ?_)
              refine lv_goto (tgt := 8) hx hb dX2_read_127 (by decide) ?_
              exact ih x2 x3 (x4 ||| ((1 : Int32) <<< ((r_6 - (97 : Int32)) &&& 31))) (x5 + (1 : Int32))  _ _ _ _ h hd (lv_sub hl [4, 5, 6, 7, 1, 0] rfl)
        · replace h := h.2 c_9
          refine lv_aload_n hx hb dX2_read_45 rfl (lv_at hl 2 rfl) ?_
          refine lv_iload hx hb dX2_read_46 (lv_at hl 7 rfl) ?_
          refine ev_q C hd kwRX2_X2_refused_31 (cC_X2_refused _ h) ⟨rfl, rfl⟩ ⟨by decide, by decide⟩ rcC2 hl.1 rfl rfl (Nat.le_of_ble_eq_true rfl) ⟨Nat.zero_le _, Nat.zero_le _⟩ dX2_read_48 (fun r_18 k_18 H locs h hd => ?_)
          exact ret (v := r_18) (u := (k_18, none)) (by rw [wPl_none]; exact hd) ⟨h.1, h.2⟩ (Nat.zero_le _) (Nat.zero_le _) dX2_read_51
  cases n with
  | zero => exact h.elim
  | succ n =>
    replace h : wC_X2_read n 1 x2 (0 : Int32) (0 : Int32) (0 : Int32) k Qp := h
    refine lv_iconst (v := 0) hx hb dX2_read_0 (by decide) ?_
    refine lv_istore_n (lv' := [(3, .int (0 : Int32)), (0, .ref (a 7)), (1, .ref (a 5)), (2, .int x2)]) hx hb dX2_read_1 rfl hl (by decide) rfl (fun ls hl => ?_)
    refine lv_iconst (v := 0) hx hb dX2_read_2 (by decide) ?_
    refine lv_istore (lv' := [(4, .int (0 : Int32)), (3, .int (0 : Int32)), (0, .ref (a 7)), (1, .ref (a 5)), (2, .int x2)]) hx hb dX2_read_3 hl (by decide) rfl (fun ls hl => ?_)
    refine lv_iconst (v := 0) hx hb dX2_read_5 (by decide) ?_
    refine lv_istore (lv' := [(5, .int (0 : Int32)), (4, .int (0 : Int32)), (3, .int (0 : Int32)), (0, .ref (a 7)), (1, .ref (a 5)), (2, .int x2)]) hx hb dX2_read_6 hl (by decide) rfl (fun ls hl => ?_)
    exact L n x2 (0 : Int32) (0 : Int32) (0 : Int32)  _ _ _ _ h hd (lv_sub hl [3, 4, 5, 2, 1, 0] rfl)
