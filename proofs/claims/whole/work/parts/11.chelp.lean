/-! ===== helpers of the class's walks: rows in the world, copying, filling, null ===== -/
def IxA (a : Nat → Nat) (b : Nat → Nat → Nat) (g : Nat → ClassId) (k : KC) (i j q n : Nat) : Prop := ∃ q0 : Nat, (wC a b g k)[q0]? = some (q, .inl (g 0, n, .inl (k.2.1 i j))) ∧ ∀ f : Nat → Int32, (wC a b g k).set q0 (q, .inl (g 0, n, .inl f)) = wC a b g (cA k i j f)
theorem va_P_set' {D : va_G} {cl : List vw_C} {A : Nat → Prop} {p : Nat} {ws : va_W} {a : Nat} {e0 e : va_E} {H H1 : Heap} (h : va_P D cl ws H) (hD : va_D A ws) (hp : ws[p]? = some (a, e0)) (he : va_at D cl (a, e) H1) (oq : ∀ q : Nat, q < H.size → q ≠ a → H1[q]? = H[q]?) : va_P D cl (ws.set p (a, e)) H1 := by
  have hl := (List.getElem?_eq_some_iff.mp hp).1
  intro k q hk
  by_cases hkp : k = p
  · subst hkp
    rw [List.getElem?_set_self hl] at hk
    cases hk
    exact he
  · rw [List.getElem?_set_ne (Ne.symm hkp)] at hk
    exact (h k q hk).kept (oq q.1 (h k q hk).lt (fun z => hkp (hD.1 k p q (a, e0) hk hp z)))
section CH
variable {p : Program} {l : Launch} {e : Env} {R : Room} {s : State} {m : MethodId} {args : Array Value} {below : List Frame} {meth : Method} {c : Code} {H : Heap} {locs : List Loc} {Q : State → Prop} {P : EP} {D : va_G} {A : Nat → Prop} {cells slots : Nat}
variable {cc : ByteArray} {nL pc idx : Nat} {rt : Option FieldType} {rest : List Value} {ls : Array Slot} {a : Nat → Nat} {b : Nat → Nat → Nat} {g : Nat → ClassId} {k : KC} {own : String}
theorem rf_split {r : Option Nat} (k0 : r = none → W p l e R s m args below meth c H locs cells slots Q (F0 m pc ls (.null :: rest))) (k1 : ∀ x : Nat, r = some x → W p l e R s m args below meth c H locs cells slots Q (F0 m pc ls (.ref x :: rest))) : W p l e R s m args below meth c H locs cells slots Q (F0 m pc ls (va_rf r :: rest)) := by
  cases r with
  | none => exact k0 rfl
  | some x => exact k1 x rfl
theorem top_a {f : Nat → Nat} {x : Nat} (kk : ∀ y : Nat, y = x → W p l e R s m args below meth c H locs cells slots Q (F0 m pc ls (.ref (f y) :: rest))) : W p l e R s m args below meth c H locs cells slots Q (F0 m pc ls (.ref (f x) :: rest)) := kk x rfl
def cpOk (sp dp n : Int32) (n0 n1 : Nat) : Prop := ¬ sp < 0 ∧ ¬ dp < 0 ∧ ¬ n < 0 ∧ sp.toNatClampNeg + n.toNatClampNeg ≤ n0 ∧ dp.toNatClampNeg + n.toNatClampNeg ≤ n1
theorem cpC (C : CxE P D (tyA g) own cc nL rt p s m args meth c A) (h : Hd D (wC a b g k) A s H locs) {i j i' j' n0 n1 q q' : Nat} (src : IxA a b g k i j q n0) (dst : IxA a b g k i' j' q' n1) (hls : ls.size = nL) (hlink : Cond.methodLink own idx arraycopyName ∈ Tw) (hnat : Cond.native arraycopyName ∈ Tw) (hstat : Cond.static arraycopyName ∈ Tw) (hini : Cond.initialized "java/lang/System" ∈ Tw) {sp dp n : Int32} (hok : cpOk sp dp n n0 n1) (hframes : 1 ≤ R.frames) (hlocals : (rest.map fun v => v.category).sum + (nativeFrameWords "java/lang/System" "arraycopy" 5 + 11) ≤ R.locals) (hdg : decode cc pc = .ok (.invokestatic idx, 3))
    (kk : ∀ (H1 : Heap) (locs1 : List Loc), Hd D (wC a b g (cA k i' j' (va_cpy (k.2.1 i j) (k.2.1 i' j') sp.toNatClampNeg dp.toNatClampNeg n.toNatClampNeg))) A s H1 locs1 → W p l e R s m args below meth c H1 locs1 cells slots Q (F0 m (pc + 3) ls rest)) : W p l e R s m args below meth c H locs cells slots Q (F0 m pc ls (.int n :: .int dp :: .ref q' :: .int sp :: .ref q :: rest)) := by
  obtain ⟨x0, e0, -⟩ := src
  obtain ⟨x1, e1, hset⟩ := dst
  have ht := C.2.2.2.2.1
  exact va_copyi C.1 C.2.1 (C.2.2.1.trans hls.symm) C.2.2.2.1 (ht _ hlink) (ht _ hnat) (ht _ hstat) (ht _ hini) C.2.2.2.2.2.1 h.1 h.2.1 h.2.2 x0 x1 0 0 e0 e1 rfl rfl rfl hok.1 hok.2.1 hok.2.2.1 hok.2.2.2.1 hok.2.2.2.2 (fun _ _ => rfl) hframes hlocals hdg (fun H1 locs1 hP hD hS => kk H1 locs1 (by rw [hset] at hP hD; exact ⟨hP, hD, hS⟩))
theorem ixC0_1 {i : Nat} (hi : i = 2 ∨ i = 3 ∨ i = 4) : IxA a b g k i 1 (b i 1) 8 := by
  rcases hi with rfl | rfl | rfl
  · exact ⟨12, rfl, fun _ => rfl⟩
  · exact ⟨19, rfl, fun _ => rfl⟩
  · exact ⟨26, rfl, fun _ => rfl⟩
theorem ixC0_2 {i : Nat} (hi : i = 2 ∨ i = 3 ∨ i = 4) : IxA a b g k i 2 (b i 2) 8 := by
  rcases hi with rfl | rfl | rfl
  · exact ⟨13, rfl, fun _ => rfl⟩
  · exact ⟨20, rfl, fun _ => rfl⟩
  · exact ⟨27, rfl, fun _ => rfl⟩
theorem ixC0_3 {i : Nat} (hi : i = 2 ∨ i = 3 ∨ i = 4) : IxA a b g k i 3 (b i 3) 32 := by
  rcases hi with rfl | rfl | rfl
  · exact ⟨14, rfl, fun _ => rfl⟩
  · exact ⟨21, rfl, fun _ => rfl⟩
  · exact ⟨28, rfl, fun _ => rfl⟩
theorem ixC0_4 {i : Nat} (hi : i = 2 ∨ i = 3 ∨ i = 4) : IxA a b g k i 4 (b i 4) 4 := by
  rcases hi with rfl | rfl | rfl
  · exact ⟨15, rfl, fun _ => rfl⟩
  · exact ⟨22, rfl, fun _ => rfl⟩
  · exact ⟨29, rfl, fun _ => rfl⟩
theorem ixC0_5 {i : Nat} (hi : i = 2 ∨ i = 3 ∨ i = 4) : IxA a b g k i 5 (b i 5) 8 := by
  rcases hi with rfl | rfl | rfl
  · exact ⟨16, rfl, fun _ => rfl⟩
  · exact ⟨23, rfl, fun _ => rfl⟩
  · exact ⟨30, rfl, fun _ => rfl⟩
theorem ixC0_6 {i : Nat} (hi : i = 2 ∨ i = 3 ∨ i = 4) : IxA a b g k i 6 (b i 6) 8 := by
  rcases hi with rfl | rfl | rfl
  · exact ⟨17, rfl, fun _ => rfl⟩
  · exact ⟨24, rfl, fun _ => rfl⟩
  · exact ⟨31, rfl, fun _ => rfl⟩
theorem ixC3_2 {i : Nat} (hi : i = 9 ∨ i = 10 ∨ i = 11 ∨ i = 12) : IxA a b g k i 2 (b i 2) 40 := by
  rcases hi with rfl | rfl | rfl | rfl
  · exact ⟨44, rfl, fun _ => rfl⟩
  · exact ⟨46, rfl, fun _ => rfl⟩
  · exact ⟨48, rfl, fun _ => rfl⟩
  · exact ⟨50, rfl, fun _ => rfl⟩
theorem ixC8_5 : IxA a b g k 1 5 (b 1 5) 24 := ⟨5, rfl, fun _ => rfl⟩
end CH
set_option maxHeartbeats 4000000 in
set_option maxRecDepth 100000 in
theorem c_fill {l : Launch} {D : va_G} {g : Nat → ClassId} {q n : Nat} (hn : n < 2 ^ 31) (f : Nat → Int32) (v : Int32) : Cv l D (tyA g) (fun u : Nat → Int32 => [(q, .inl (g 0, n, .inl u))]) yJ7_fill_53178 cJ7_fill_53178 4 { frames := 0, cells := 0, slots := 0, locals := 0 } [.ref q, .int v] f (fun u => u = fun j => if j < n then v else f j) := by
  refine Cv_of (by decide) (Nat.le_of_ble_eq_true rfl) ?_
  intro p e s m args below meth c A Z ls C ret hd hl
  have hx := C.1
  have hb := C.2.1
  have hl : lv_has ls 4 [(0, .ref q), (1, .int v)] := hl
  have L : ∀ (t i : Nat) (fu : Nat → Int32) (H : Heap) (locs : List Loc) (ls : Array Slot), i + t = n → (fu = fun j => if j < i then v else f j) → Hd D [(q, .inl (g 0, n, .inl fu))] A s H locs → lv_has ls 4 [(0, .ref q), (1, .int v), (2, .int (nI i)), (3, .int (nI n))] → W p l e { frames := 0, cells := 0, slots := 0, locals := 0 } s m args below meth c H locs 0 0 Z (F0 m 5 ls []) := by
    intro t
    induction t with
    | zero =>
      intro i fu H locs ls hi hf hd hl
      refine lv_iload_n hx hb dJ7_fill_53178_5 rfl (lv_at hl 2 rfl) ?_
      refine lv_iload_n hx hb dJ7_fill_53178_6 rfl (lv_at hl 3 rfl) ?_
      refine lv_icmp_ge (tgt := 20) hx hb dJ7_fill_53178_7 (by decide) (fun _ => ?_) (fun z => ?_)
      · exact ret (u := fu) hd (by rw [hf, show i = n by omega]) dJ7_fill_53178_20
      · exact absurd (nI_le (by omega) (by omega)) z
    | succ t ih =>
      intro i fu H locs ls hi hf hd hl
      refine lv_iload_n hx hb dJ7_fill_53178_5 rfl (lv_at hl 2 rfl) ?_
      refine lv_iload_n hx hb dJ7_fill_53178_6 rfl (lv_at hl 3 rfl) ?_
      refine lv_icmp_ge (tgt := 20) hx hb dJ7_fill_53178_7 (by decide) (fun z => ?_) (fun _ => ?_)
      · exact absurd z (nI_ge (by omega) hn)
      · refine lv_aload_n hx hb dJ7_fill_53178_10 rfl (lv_at hl 0 rfl) ?_
        refine lv_iload_n hx hb dJ7_fill_53178_11 rfl (lv_at hl 2 rfl) ?_
        refine lv_iload_n hx hb dJ7_fill_53178_12 rfl (lv_at hl 1 rfl) ?_
        refine va_iast hx hb C.2.2.2.2.2.1 hd.1 hd.2.1 hd.2.2 0 0 rfl rfl (vp_in_nI (by omega) hn) dJ7_fill_53178_13 (fun H locs hP hD hS => ?_)
        refine lv_iinc (v := nI (i + 1)) (lv' := [(2, .int (nI (i + 1))), (0, .ref q), (1, .int v), (3, .int (nI n))]) hx hb dJ7_fill_53178_14 hl (k := 2) rfl (nI_succ i).symm (by decide) rfl (fun ls hl => ?_)
        refine lv_goto (tgt := 5) hx hb dJ7_fill_53178_17 (by decide) ?_
        refine ih (i + 1) _ _ _ _ (by omega) ?_ ⟨hP, hD, hS⟩ (lv_sub hl [1, 2, 0, 3] rfl)
        rw [nI_clamp (by omega), hf]
        funext j
        simp only [upd]
        by_cases h1 : j = i
        · subst h1; simp
        · by_cases h2 : j < i
          · simp [h1, h2, Nat.lt_succ_of_lt h2]
          · have h3 : ¬ j < i + 1 := by omega
            simp [h1, h2, h3]
  refine lv_iconst (v := nI 0) hx hb dJ7_fill_53178_0 (by decide) ?_
  refine lv_istore_n (lv' := [(2, .int (nI 0)), (0, .ref q), (1, .int v)]) hx hb dJ7_fill_53178_1 rfl hl (by decide) rfl (fun ls hl => ?_)
  refine lv_aload_n hx hb dJ7_fill_53178_2 rfl (lv_at hl 1 rfl) ?_
  refine va_alen hx hb C.2.2.2.2.2.1 hd.1 0 0 rfl rfl (v := nI n) rfl dJ7_fill_53178_3 ?_
  refine lv_istore_n (lv' := [(3, .int (nI n)), (2, .int (nI 0)), (0, .ref q), (1, .int v)]) hx hb dJ7_fill_53178_4 rfl hl (by decide) rfl (fun ls hl => ?_)
  exact L n 0 f _ _ _ (by omega) (by funext j; simp) hd (lv_sub hl [2, 3, 1, 0] rfl)
section CF
variable {p : Program} {l : Launch} {e : Env} {R : Room} {s : State} {m : MethodId} {args : Array Value} {below : List Frame} {meth : Method} {c : Code} {H : Heap} {locs : List Loc} {Q : State → Prop} {P : EP} {D : va_G} {A : Nat → Prop} {cells slots : Nat}
variable {cc : ByteArray} {nL pc idx : Nat} {rt : Option FieldType} {rest : List Value} {ls : Array Slot} {a : Nat → Nat} {b : Nat → Nat → Nat} {g : Nat → ClassId} {k : KC} {own : String}
theorem flC (C : CxE P D (tyA g) own cc nL rt p s m args meth c A) (h : Hd D (wC a b g k) A s H locs) {i j n q : Nat} (ix : IxA a b g k i j q n) (hn : n < 2 ^ 31) {v : Int32} (hlink : Cond.methodLink own idx yJ7_fill_53178 ∈ Tw) (hls : ls.size = nL) (hR : 1 ≤ R.frames ∧ 23 ≤ R.locals) (hW : (rest.map fun v => v.category).sum ≤ 8) (hcs : cells ≤ R.cells ∧ slots ≤ R.slots) (hdg : decode cc pc = .ok (.invokestatic idx, 3))
    (kk : ∀ (H1 : Heap) (locs1 : List Loc), Hd D (wC a b g (cA k i j (fun x => if x < n then v else k.2.1 i j x))) A s H1 locs1 → W p l e R s m args below meth c H1 locs1 cells slots Q (F0 m (pc + 3) ls rest)) : W p l e R s m args below meth c H locs cells slots Q (F0 m pc ls (.int v :: .ref q :: rest)) := by
  obtain ⟨q0, he, hset⟩ := ix
  have ht := C.2.2.2.2.1
  have hP1 : va_P D vwCl [(q, .inl (g 0, n, .inl (k.2.1 i j)))] H := fun x y hx => by
    cases x with
    | zero => cases hx; exact h.1 q0 _ he
    | succ x => simp at hx
  have hD1 : va_D (fun _ => True) [(q, .inl (g 0, n, .inl (k.2.1 i j)))] := ⟨fun x y p1 p2 h1 h2 _ => by
    cases x with
    | zero => cases y with
      | zero => rfl
      | succ y => simp at h2
    | succ x => simp at h1, fun _ _ _ => trivial⟩
  have hF : ∀ z, va_A [(q, .inl (g 0, n, .inl (k.2.1 i j)))] H.size z → A z := fun z hz => by
    rcases hz with ⟨x, e', hx⟩ | hge
    · cases x with
      | zero => cases hx; exact h.2.1.2 _ _ he
      | succ x => simp at hx
    · exact C.2.2.2.2.2.2.2.2.1 z (Nat.le_trans h.2.2.1 hge)
  have kw : CWd own idx yJ7_fill_53178 cJ7_fill_53178 4 none 2 := ⟨q_40, hlink, q_3, by decide +kernel⟩
  refine va_callv (va_runS (As := [.ref q, .int v]) (rest := rest) ⟨C.1, C.2.1, C.2.2.1, C.2.2.2.1, ht⟩ (c_fill (D := D) (g := g) (q := q) hn (k.2.1 i j) v H.size) ⟨CWd_b kw ht rfl rfl hR, ht _ q_39⟩ ⟨ctBlind, fun U hU hW => ⟨rfl, by rw [hU], by rw [hU]; exact hP1, va_K.moved hW.alike C.2.2.2.2.2.1, hD1⟩⟩ rfl rfl hls rfl (lv_room hW) hdg hcs) h.2.2 (fun z _ hz => hF z hz) hF (fun u t H1 locs1 ht hvm hw hB hz1 hk1 hS => ?_)
  refine kk H1 locs1 ?_
  have hat : va_at D vwCl (q, .inl (g 0, n, .inl u)) H1 := by rw [← ht]; exact hB.1 0 _ rfl
  have hPn := va_P_set' h.1 h.2.1 he hat (fun z hz1 hz2 => hk1 z hz1 (fun hz => by
    rcases hz with ⟨x, e', hx⟩ | hge
    · cases x with
      | zero => cases hx; exact hz2 rfl
      | succ x => simp at hx
    · omega))
  have hDn := h.2.1.set (e := .inl (g 0, n, .inl u)) he
  rw [hset, hw] at hPn hDn
  exact ⟨hPn, hDn, hS⟩
end CF
