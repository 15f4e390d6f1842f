/-! ===== what makes cells: copyOf, the plans' and the texts' constructors ===== -/
theorem K_same {D : va_G} {cl : List vw_C} {g : Nat → ClassId} {s : State} {cA : ClassId} (h : va_K D cl (tyA g ++ [(cA, .int)]) s) : cA = g 0 := by
  have h1 : s.vm.findClass ("[" ++ FieldType.int.toString) = some (g 0) := (h.2 0 (g 0, .int) rfl).2
  have h2 : s.vm.findClass ("[" ++ FieldType.int.toString) = some cA := (h.2 5 (cA, .int) rfl).2
  exact Option.some.inj (h2.symm.trans h1)
theorem K_nm {D : va_G} {cl : List vw_C} {g : Nat → ClassId} {s : State} (h : va_K D cl (tyA g) s) : s.vm.findClass "[I" = some (g 0) := by
  have h1 : s.vm.findClass ("[" ++ FieldType.int.toString) = some (g 0) := (h.2 0 (g 0, .int) rfl).2
  have e : "[" ++ FieldType.int.toString = "[I" := by decide +kernel
  rw [e] at h1
  exact h1
theorem i32_le_of {n : Int32} {N : Nat} (h0 : ¬ n < 0) (h : n.toNatClampNeg ≤ N) (hN : N ≤ 1000) : n ≤ nI N := by
  have h1 : n.toInt = (n.toNatClampNeg : Int) := by
    have h2 : 0 ≤ n.toInt := by
      rw [Int32.lt_iff_toInt_lt] at h0
      simpa using h0
    rw [Int32.toNatClampNeg]
    omega
  rw [Int32.le_iff_toInt_le, h1, nI_toInt (by omega)]
  omega
set_option maxHeartbeats 4000000 in
set_option maxRecDepth 100000 in
theorem c_copyOf {l : Launch} {P : EP} {D : va_G} {g : Nat → ClassId} {q N : Nat} {f : Nat → Int32} {n : Int32} (hn0 : ¬ n < 0) (hnN : n.toNatClampNeg ≤ N) (hN : N ≤ 1000) (sz : Nat) : Met l yJ7_copyOf_59c91 (.code yJ7_copyOf_59c91 cJ7_copyOf_59c91 3 (some (.array .int)) :: Tw) { frames := 1, cells := 1, slots := n.toNatClampNeg, locals := 80 } (va_Pc [.ref q, .int n] (ctPreE P D (tyA g) [(q, .inl (g 0, N, .inl f))] sz)) (va_Qr (fun u : Nat × (Nat → Int32) => ∀ j, j < n.toNatClampNeg → u.2 j = f j) (fun u ra t => ra = u.1 ∧ ctPostE P D (tyA g) (fun u : Nat × (Nat → Int32) => [(q, .inl (g 0, N, .inl f)), (u.1, .inl (g 0, n.toNatClampNeg, .inl u.2))]) (va_A [(q, .inl (g 0, N, .inl f))] sz) u t) (va_A [(q, .inl (g 0, N, .inl f))] sz)) 1 n.toNatClampNeg (va_A [(q, .inl (g 0, N, .inl f))] sz) := by
  refine Met.ofW (cc := cJ7_copyOf_59c91) (maxL := 3) (ret := some (.array .int)) (by decide) rfl ?_
  intro p e s m args below meth c s₁ B hml hv
  obtain ⟨rfl, hsz, hP, hK, hD0, hEC⟩ := hv
  subst hsz
  have hts0 := atoms_spec (ws := Cond.code yJ7_copyOf_59c91 cJ7_copyOf_59c91 3 (some (.array .int)) :: Tw) B.pre
  have hts : ∀ w ∈ Tw, w.before _ s = true := fun w hw => hts0 w (List.mem_cons_of_mem _ hw)
  have hD := hD0.self (sz := s.heap.size)
  have hA : ∀ z : Nat, s.heap.size ≤ z → va_A [(q, .inl (g 0, N, .inl f))] s.heap.size z := fun z h => Or.inr h
  generalize va_A [(q, .inl (g 0, N, .inl f))] s.heap.size = A at hD hA hEC ⊢
  have hx := B.exec
  have hb := B.bytes
  have hr := B.returns
  have hown : s.vm.findClass RJ7 = some m.cls := findClass_of_methodNamed B.named
  have hlocks := B.notSynchronized
  have hS : va_S A s.heap s.heap [] := va_S.rf
  have hnm := K_nm hK
  have hl := lv_entry ([.ref q, .int n]) (n := 3) (Nat.le_of_ble_eq_true rfl)
  rw [lg_entry_eq]
  generalize (lg_sl ([.ref q, .int n]) ++ List.replicate (3 - (lg_sl ([.ref q, .int n])).length) Slot.unset).toArray = ls at hl ⊢
  have hl : lv_has ls 3 [(0, .ref q), (1, .int n)] := hl
  refine lv_iload_n hx hb dJ7_copyOf_59c91_0 rfl (lv_at hl 1 rfl) ?_
  refine lv_aload_n hx hb dJ7_copyOf_59c91_1 rfl (lv_at hl 0 rfl) ?_
  refine va_alen hx hb hK hP 0 0 rfl rfl (v := nI N) rfl dJ7_copyOf_59c91_2 ?_
  refine lv_icmp_ne (tgt := 14) hx hb dJ7_copyOf_59c91_3 (by decide) (fun c1 => ?_) (fun c1 => ?_)
  · refine lv_iload_n hx hb dJ7_copyOf_59c91_14 rfl (lv_at hl 1 rfl) ?_
    refine va_newa (atype := .int) (ty := .int) (N' := n.toNatClampNeg) (a0 := (n.toNatClampNeg, .inl (fun _ => 0))) hx hb (hts _ q_53) rfl hK hP hD hS hA (fun _ => rfl) hn0 rfl (by show n.toNatClampNeg * 4 ≤ 536870912; omega) (by show 0 + 1 ≤ 1; omega) (by show 0 + n.toNatClampNeg ≤ n.toNatClampNeg; omega) dJ7_copyOf_59c91_15 (fun a' cA H hK1 hP hD hS => ?_)
    have hc := K_same hK1
    subst hc
    have hP : va_P D vwCl [(q, .inl (g 0, N, .inl f)), (a', .inl (g 0, n.toNatClampNeg, .inl (fun _ => 0)))] H := hP
    have hD : va_D A [(q, .inl (g 0, N, .inl f)), (a', .inl (g 0, n.toNatClampNeg, .inl (fun _ => 0)))] := hD
    refine lv_astore_n (lv' := [(2, .ref a'), (0, .ref q), (1, .int n)]) hx hb dJ7_copyOf_59c91_17 rfl hl (by decide) rfl (fun ls hl => ?_)
    refine lv_aload_n hx hb dJ7_copyOf_59c91_18 rfl (lv_at hl 1 rfl) ?_
    refine lv_iconst (v := 0) hx hb dJ7_copyOf_59c91_19 (by decide) ?_
    refine lv_aload_n hx hb dJ7_copyOf_59c91_20 rfl (lv_at hl 0 rfl) ?_
    refine lv_iconst (v := 0) hx hb dJ7_copyOf_59c91_21 (by decide) ?_
    refine lv_aload_n hx hb dJ7_copyOf_59c91_22 rfl (lv_at hl 1 rfl) ?_
    refine va_alen hx hb hK hP 0 0 rfl rfl (v := nI N) rfl dJ7_copyOf_59c91_23 ?_
    refine lv_iload_n hx hb dJ7_copyOf_59c91_24 rfl (lv_at hl 2 rfl) ?_
    refine va_mmin hx hb (hml.trans hl.1.symm) hown (hts _ q_604) (hts _ q_517) (hts _ q_16) (hts _ q_518) (by show 1 ≤ 1; omega) (by show _ ≤ 80; exact Nat.le_of_ble_eq_true rfl) (by show 0 + 1 ≤ 1; omega) (by show 0 + n.toNatClampNeg ≤ n.toNatClampNeg; omega) dJ7_copyOf_59c91_25 ?_
    have hle := i32_le_of hn0 hnN hN
    have hmin : (if n < nI N then n else nI N) = n := by
      by_cases hq : n < nI N
      · rw [if_pos hq]
      · rw [if_neg hq]
        exact Int32.le_antisymm (Int32.not_lt.mp hq) hle
    rw [hmin]
    refine va_copyi hx hb (hml.trans hl.1.symm) hown (hts _ q_605) (hts _ q_607) (hts _ q_606) (hts _ q_18) hK hP hD hS 0 1 0 0 rfl rfl rfl rfl rfl (by decide) (by decide) hn0 (by show 0 + n.toNatClampNeg ≤ N; omega) (by show 0 + n.toNatClampNeg ≤ n.toNatClampNeg; omega) (fun _ _ => rfl) (by show 1 ≤ 1; omega) (by show _ ≤ 80; exact Nat.le_of_ble_eq_true rfl) dJ7_copyOf_59c91_28 (fun H locs hP hD hS => ?_)
    refine lv_aload_n hx hb dJ7_copyOf_59c91_31 rfl (lv_at hl 0 rfl) ?_
    refine W.widen (k := 1) (n := n.toNatClampNeg) (by omega) (by omega) ?_
    refine W.aret (v := .ref a') (rt := .array .int) hx hb hr (Or.inr ⟨_, rfl⟩) (Or.inr ⟨_, rfl⟩) (fun t ht hW => ⟨⟨(a', va_cpy f (fun _ => 0) 0 0 n.toNatClampNeg), a', rfl, fun j hj => ?_, rfl, by rw [ht]; exact hP, va_K.moved hW.alike hK, hD⟩, hS.F ht⟩) hS.2.2 dJ7_copyOf_59c91_32 hlocks
    show va_cpy f (fun _ => 0) 0 0 n.toNatClampNeg j = f j
    simp [va_cpy, hj]
  · have hnn : n.toNatClampNeg = N := by rw [c1]; exact nI_clamp (by omega)
    refine lv_aload_n hx hb dJ7_copyOf_59c91_6 rfl (lv_at hl 0 rfl) ?_
    refine va_clone hx hb (hml.trans hl.1.symm) hown (hts _ q_597) (hts _ q_598) (hts _ q_599) (hts _ q_600) (hts _ q_601) hEC.2.2.2.2.2.2.2 hK hP hD hS hA 0 0 rfl rfl hnm (fun i v hv => ?_) (by show 1 ≤ 1; omega) (by show _ ≤ 80; exact Nat.le_of_ble_eq_true rfl) (by show 0 + 1 ≤ 1; omega) (by show 0 + N ≤ n.toNatClampNeg; omega) dJ7_copyOf_59c91_7 (fun a' H hK1 hP hD hS => ?_)
    · have hsz : (arrV (g 0) N (fun j => .int (f j))).slots[i]? = some v := hv
      rcases Nat.lt_or_ge i N with hi | hi
      · rw [arrV_read _ _ hi] at hsz
        cases hsz
        rfl
      · rw [Array.getElem?_eq_none (by rw [arrV_size]; exact hi)] at hsz
        cases hsz
    · have hP : va_P D vwCl [(q, .inl (g 0, N, .inl f)), (a', .inl (g 0, N, .inl f))] H := hP
      have hD : va_D A [(q, .inl (g 0, N, .inl f)), (a', .inl (g 0, N, .inl f))] := hD
      refine va_castA hx hb hown (hts _ q_603) hP 1 rfl hnm dJ7_copyOf_59c91_10 ?_
      refine W.widen (k := 1) (n := n.toNatClampNeg) (by omega) (by show 0 + N ≤ n.toNatClampNeg; omega) ?_
      exact W.aret (v := .ref a') (rt := .array .int) hx hb hr (Or.inr ⟨_, rfl⟩) (Or.inr ⟨_, rfl⟩) (fun t ht hW => ⟨⟨(a', f), a', rfl, fun _ _ => rfl, rfl, by rw [ht, hnn]; exact hP, va_K.moved hW.alike hK, by rw [hnn]; exact hD⟩, hS.F ht⟩) hS.2.2 dJ7_copyOf_59c91_13 hlocks
