def fN (r : Nat → Value) : List Value := (List.range 65).map r
def upV (r : Nat → Value) (j : Nat) (v : Value) : Nat → Value := fun i => bif Nat.beq i j then v else r i
theorem fN_len (r : Nat → Value) : (fN r).length = 65 := by
  unfold fN
  rw [List.length_map, List.length_range]
theorem fN_set (r : Nat → Value) (j : Nat) (v : Value) : (fN r).set j v = fN (upV r j v) := by
  unfold fN
  apply List.ext_getElem
  · rw [List.length_set, List.length_map, List.length_map]
  · intro i h1 h2
    rw [List.getElem_set, List.getElem_map, List.getElem_map, List.getElem_range]
    by_cases e : j = i
    · rw [if_pos e]
      subst e
      show v = bif Nat.beq j j then v else r j
      rw [Nat.beq_refl]; rfl
    · rw [if_neg e]
      show r i = bif Nat.beq i j then v else r i
      cases hb : Nat.beq i j with
      | false => rfl
      | true => exact absurd (Nat.eq_of_beq_eq_true hb).symm e
section NR
variable {p : Program} {l : Launch} {e : Env} {R : Room} {s : State} {m : MethodId} {args : Array Value} {below : List Frame} {meth : Method} {c : Code} {H : Heap} {locs : List Loc} {Q : State → Prop} {P : EP} {D : va_G} {A : Nat → Prop} {cells slots : Nat}
variable {pc : Nat} {rest : List Value} {ls : Array Slot} {o : Nat} {g : Nat → ClassId}
theorem newRow (C : CxE P D (tyA g) RX10 cX10_init 2 none p s m args meth c A) (hA : ∀ q, s.heap.size ≤ q → A q) (hin : meth.name = "<init>") {n : Int32} (N j k1 n1 : Nat) {r : Nat → Value} {arrs : va_W} {idx : Nat} (h : Hd D ((o, .inr (10, fN r)) :: arrs) A s H locs) (hn : ¬ n < 0) (hN : n.toNatClampNeg = N) (hb4 : N * 4 ≤ 536870912) (hj : j < 65) (hlink : Cond.fieldLink RX10 idx RX10 (TX10 j).2.1 (TX10 j).2.2.1 ∈ Tw) (hfin : (TX10 j).2.2.2 = true) (hdecl : (TX10 j).1 = RX10) (hd0 : parseFieldDescriptor (TX10 j).2.2.1 = some (.array .int)) (hc : cells + 1 ≤ R.cells) (hs : slots + N ≤ R.slots) (hk1 : cells + 1 = k1) (hn1 : slots + N = n1) (hd1 : decode cX10_init pc = .ok (.newarray .int, 2)) (hd2 : decode cX10_init (pc + 2) = .ok (.putfield idx, 3))
    (kk : ∀ (q : Nat) (H1 : Heap) (locs1 : List Loc) (r1 : Nat → Value) (arrs1 : va_W), r1 = upV r j (.ref q) → arrs1 = arrs ++ [(q, .inl (g 0, N, .inl (fun _ => 0)))] → Hd D ((o, .inr (10, fN r1)) :: arrs1) A s H1 locs1 → W p l e R s m args below meth c H1 locs1 k1 n1 Q (F0 m (pc + 2 + 3) ls rest)) : W p l e R s m args below meth c H locs cells slots Q (F0 m pc ls (.int n :: .ref o :: rest)) := by
  subst hk1
  subst hn1
  obtain ⟨hP, hD, hS⟩ := h
  have hK := C.2.2.2.2.2.1
  have hts := C.2.2.2.2.1
  refine va_newa (atype := .int) (ty := .int) (N' := N) (a0 := (N, .inl (fun _ => 0))) C.1 C.2.1 (hts _ q_53) rfl hK hP hD hS hA (fun _ => rfl) hn hN hb4 hc hs hd1 (fun q cA H hK1 hP hD hS => ?_)
  have hc := K_same hK1
  subst hc
  refine va_putF (D := D) (ci := 10) (v := .ref q) (ty := .array .int) (C := RX10) (T := TX10) (N := 65) C.1 C.2.1 hts twX10 tyX10 tyX10_ok nmX10 C.2.2.2.1 hK hP hD hS 0 rfl rfl j hj (hts _ hlink) (fun _ h9 => by rw [hdecl] at h9; exact h9) hfin hin hdecl hd0 rfl rfl (by rw [fN_len]; exact hj) hd2 (fun H locs hP hD hS => ?_)
  rw [fN_set] at hP hD
  exact kk q H locs _ _ rfl rfl ⟨hP, hD, hS⟩
theorem newRowZ (C : CxE P D (tyA g) RX10 cX10_init 2 none p s m args meth c A) (hA : ∀ q, s.heap.size ≤ q → A q) (hin : meth.name = "<init>") {n : Int32} (N j k1 n1 : Nat) {r : Nat → Value} {arrs : va_W} {idx : Nat} (h : Hd D ((o, .inr (10, fN r)) :: arrs) A s H locs) (hn : ¬ n < 0) (hN : n.toNatClampNeg = N) (hb4 : N * 1 ≤ 536870912) (hj : j < 65) (hlink : Cond.fieldLink RX10 idx RX10 (TX10 j).2.1 (TX10 j).2.2.1 ∈ Tw) (hfin : (TX10 j).2.2.2 = true) (hdecl : (TX10 j).1 = RX10) (hd0 : parseFieldDescriptor (TX10 j).2.2.1 = some (.array .boolean)) (hc : cells + 1 ≤ R.cells) (hs : slots + N ≤ R.slots) (hk1 : cells + 1 = k1) (hn1 : slots + N = n1) (hd1 : decode cX10_init pc = .ok (.newarray .boolean, 2)) (hd2 : decode cX10_init (pc + 2) = .ok (.putfield idx, 3))
    (kk : ∀ (q : Nat) (H1 : Heap) (locs1 : List Loc) (r1 : Nat → Value) (arrs1 : va_W), r1 = upV r j (.ref q) → arrs1 = arrs ++ [(q, .inl (g 1, N, .inl (fun _ => 0)))] → Hd D ((o, .inr (10, fN r1)) :: arrs1) A s H1 locs1 → W p l e R s m args below meth c H1 locs1 k1 n1 Q (F0 m (pc + 2 + 3) ls rest)) : W p l e R s m args below meth c H locs cells slots Q (F0 m pc ls (.int n :: .ref o :: rest)) := by
  subst hk1
  subst hn1
  obtain ⟨hP, hD, hS⟩ := h
  have hK := C.2.2.2.2.2.1
  have hts := C.2.2.2.2.1
  refine va_newa (atype := .boolean) (ty := .boolean) (N' := N) (a0 := (N, .inl (fun _ => 0))) C.1 C.2.1 (hts _ q_1091) rfl hK hP hD hS hA (fun _ => rfl) hn hN hb4 hc hs hd1 (fun q cA H hK1 hP hD hS => ?_)
  have hc := K_sameZ hK1
  subst hc
  refine va_putF (D := D) (ci := 10) (v := .ref q) (ty := .array .boolean) (C := RX10) (T := TX10) (N := 65) C.1 C.2.1 hts twX10 tyX10 tyX10_ok nmX10 C.2.2.2.1 hK hP hD hS 0 rfl rfl j hj (hts _ hlink) (fun _ h9 => by rw [hdecl] at h9; exact h9) hfin hin hdecl hd0 rfl rfl (by rw [fN_len]; exact hj) hd2 (fun H locs hP hD hS => ?_)
  rw [fN_set] at hP hD
  exact kk q H locs _ _ rfl rfl ⟨hP, hD, hS⟩
end NR
