/-! ===== the start: classes, array classes ===== -/
theorem K_prim {s : State} {args : Array Value} {ty : FieldType} (h : (Cond.arrayClass ty).before args s = true) (hra : ∀ cA : ClassId, s.vm.findClass ("[" ++ ty.toString) = some cA → va_RA s cA ty) : ∃ cA : ClassId, ArrOfT s cA ty ∧ va_RA s cA ty := by
  obtain ⟨cA, kA, comp, h1, h2, h3⟩ := Cond.arrayClass_spec h
  exact ⟨cA, fun _ _ => ⟨(fun _ h => by cases h), kA, h2, comp, h3⟩, hra cA h1⟩
theorem K_refs {s : State} {args : Array Value} {C : String} (h : (Cond.arrayOver (.object C)).before args s = true) : ∃ cA : ClassId, ArrOfT s cA (.object C) ∧ va_RA s cA (.object C) := by
  obtain ⟨comp, cA, kA, h1, h2, h3, h4, h5⟩ := Cond.arrayOver_spec h
  exact ⟨cA, fun _ _ => ⟨(fun _ h => by cases h), kA, h3, comp, h4⟩, kA, comp, h3, h4, h1, h5⟩
def gS (c0 c1 c2 c3 c4 : ClassId) (i : Nat) : ClassId := bif Nat.beq i 0 then c0 else bif Nat.beq i 1 then c1 else bif Nat.beq i 2 then c2 else bif Nat.beq i 3 then c3 else c4
theorem tbl {s : State} {args : Array Value} (hts : ∀ w ∈ lw_tbl, w.before args s = true) {w : Cond} (i : Nat) (h : tables_1[i]? = some w) : w.before args s = true := hts w (List.mem_append_right _ (List.mem_of_getElem? h))
theorem Tw_tbl {s : State} {args : Array Value} (hts : ∀ w ∈ lw_tbl, w.before args s = true) : ∀ w ∈ Tw, w.before args s = true := fun w h => hts w (Tw_in w h)
theorem K_classes {s : State} {args : Array Value} (hts : ∀ w ∈ Tw, w.before args s = true) : ∃ D : va_G, ∀ (k : Nat) (q : vw_C), vwCl[k]? = some q → u_Kn s q.1 q.2.1 q.2.2 (D.1 k) (D.2 k) := by
  have h0 : ∀ k : Nat, ∃ z : ClassId × (Nat → Nat), ∀ q : vw_C, vwCl[k]? = some q → u_Kn s q.1 q.2.1 q.2.2 z.1 z.2 := by
    intro k
    match k with
    | 0 =>
      obtain ⟨c, f, h⟩ := u_known (C := RX0) (T := TX0) (N := 11) (n := 11) hts twX0 (hts _ q_105)
      exact ⟨(c, f), fun q hq => by cases hq; exact h⟩
    | 1 =>
      obtain ⟨c, f, h⟩ := u_known (C := RX1) (T := TX1) (N := 3) (n := 3) hts twX1 (hts _ q_635)
      exact ⟨(c, f), fun q hq => by cases hq; exact h⟩
    | 2 =>
      obtain ⟨c, f, h⟩ := u_known (C := RX2) (T := TX2) (N := 3) (n := 3) hts twX2 (hts _ q_199)
      exact ⟨(c, f), fun q hq => by cases hq; exact h⟩
    | 3 =>
      obtain ⟨c, f, h⟩ := u_known (C := RX3) (T := TX3) (N := 3) (n := 3) hts twX3 (hts _ q_262)
      exact ⟨(c, f), fun q hq => by cases hq; exact h⟩
    | 4 =>
      obtain ⟨c, f, h⟩ := u_known (C := RX4) (T := TX4) (N := 2) (n := 2) hts twX4 (hts _ q_152)
      exact ⟨(c, f), fun q hq => by cases hq; exact h⟩
    | 5 =>
      obtain ⟨c, f, h⟩ := u_known (C := RX5) (T := TX5) (N := 2) (n := 2) hts twX5 (hts _ q_41)
      exact ⟨(c, f), fun q hq => by cases hq; exact h⟩
    | 6 =>
      obtain ⟨c, f, h⟩ := u_known (C := RX6) (T := TX6) (N := 8) (n := 8) hts twX6 (hts _ q_167)
      exact ⟨(c, f), fun q hq => by cases hq; exact h⟩
    | 7 =>
      obtain ⟨c, f, h⟩ := u_known (C := RX7) (T := TX7) (N := 10) (n := 10) hts twX7 (hts _ q_216)
      exact ⟨(c, f), fun q hq => by cases hq; exact h⟩
    | 8 =>
      obtain ⟨c, f, h⟩ := u_known (C := RX8) (T := TX8) (N := 11) (n := 11) hts twX8 (hts _ q_29)
      exact ⟨(c, f), fun q hq => by cases hq; exact h⟩
    | 9 =>
      obtain ⟨c, f, h⟩ := u_known (C := RX9) (T := TX9) (N := 10) (n := 10) hts twX9 (hts _ q_21)
      exact ⟨(c, f), fun q hq => by cases hq; exact h⟩
    | 10 =>
      obtain ⟨c, f, h⟩ := u_known (C := RX10) (T := TX10) (N := 65) (n := 65) hts twX10 (hts _ q_882)
      exact ⟨(c, f), fun q hq => by cases hq; exact h⟩
    | k + 11 => exact ⟨(0, fun _ => 0), fun q hq => by simp [vwCl] at hq⟩
  obtain ⟨f, hf⟩ := Classical.axiomOfChoice h0
  exact ⟨(fun k => (f k).1, fun k => (f k).2), fun k q hq => hf k q hq⟩
theorem K_start {s : State} {args : Array Value} (hts : ∀ w ∈ lw_tbl, w.before args s = true) : ∃ (D : va_G) (g : Nat → ClassId), va_K D vwCl (tyA g) s := by
  have ht := Tw_tbl hts
  obtain ⟨D, hD⟩ := K_classes ht
  obtain ⟨c0, a0, b0⟩ := K_prim (ty := .int) (ht _ q_53) (fun _ h => h)
  obtain ⟨c1, a1, b1⟩ := K_prim (ty := .boolean) (ht _ q_1091) (fun _ h => h)
  obtain ⟨c2, a2, b2⟩ := K_refs (C := RX1) (tbl hts 37 (by decide +kernel))
  obtain ⟨c3, a3, b3⟩ := K_refs (C := RX3) (tbl hts 261 (by decide +kernel))
  obtain ⟨c4, a4, b4⟩ := K_refs (C := RX5) (tbl hts 35 (by decide +kernel))
  refine ⟨D, gS c0 c1 c2 c3 c4, hD, fun k q hq => ?_⟩
  match k, hq with
  | 0, hq => cases hq; exact ⟨a0, b0⟩
  | 1, hq => cases hq; exact ⟨a1, b1⟩
  | 2, hq => cases hq; exact ⟨a2, b2⟩
  | 3, hq => cases hq; exact ⟨a3, b3⟩
  | 4, hq => cases hq; exact ⟨a4, b4⟩
  | k + 5, hq => simp [tyA] at hq
