/-! ===== taken ===== -/
section Tk
variable {t n nt np nw N : Nat} {k k' : KC} {g g' : GM}
def Path : Nat → List Nat → Prop
  | j, [] => j < 6 ∧ undS j = -1
  | j, a :: l => j < 6 ∧ undS j = nI a ∧ Path a l
theorem Path.lt {j : Nat} {l : List Nat} (h : Path j l) : j < 6 := by
  cases l with
  | nil => exact h.1
  | cons a l => exact h.1
theorem path_of {j : Nat} (h : j < 6) : ∃ l, l.length ≤ 2 ∧ Path j l := by
  match j, h with
  | 0, _ => exact ⟨[], by decide, by decide, rfl⟩
  | 1, _ => exact ⟨[0], by decide, by decide, rfl, by decide, rfl⟩
  | 2, _ => exact ⟨[0], by decide, by decide, rfl, by decide, rfl⟩
  | 3, _ => exact ⟨[1, 0], by decide, by decide, rfl, by decide, rfl, by decide, rfl⟩
  | 4, _ => exact ⟨[1, 0], by decide, by decide, rfl, by decide, rfl, by decide, rfl⟩
  | 5, _ => exact ⟨[2, 0], by decide, by decide, rfl, by decide, rfl, by decide, rfl⟩
theorem nI_n1 {j : Nat} (h : j < 2 ^ 31) : ¬ nI j = -1 := fun e => nI_pos h (by rw [e]; decide)
theorem cUnd {of : Int32} {Q : Int32 → KC → Prop} (ho : ¬ of < 0) : ∀ (l : List Nat) (j c : Nat), Path j l → c + l.length < 5 → ((∃ a, a ∈ j :: l ∧ nI a = of) → Q 1 k) → ((∀ a, a ∈ j :: l → ¬ nI a = of) → Q 0 k) → wC_isUnder (l.length + 2) 1 0 of (nI j) (nI c) k Q
  | l, j, c, hp, hc, q1, q0 => by
    have hj := hp.lt
    have x1 : ¬ (6 : Int32) ≤ nI c := nI_ge (b := 6) (by omega) (by decide)
    by_cases e : nI j = of
    · rw [wC_isUnder]
      any_goals (intro h9; exact absurd h9 (by decide))
      refine br_f x1 (br_f (nI_pos (by omega)) (br_t e ⟨fun z => absurd e z, fun _ => q1 ⟨j, List.mem_cons_self, e⟩⟩))
    · cases l with
      | nil =>
        rw [wC_isUnder]
        any_goals (intro h9; exact absurd h9 (by decide))
        have hin : vp_in (nI j) 6 := vp_in_nI hj (by decide)
        refine br_f x1 (br_f (nI_pos (by omega)) (br_f e ⟨hin, ?_⟩))
        rw [nI_clamp (by omega), hp.2]
        show wC_isUnder 1 1 0 of (-1) (nI c + 1) k Q
        rw [wC_isUnder]
        any_goals (intro h9; exact absurd h9 (by decide))
        have nq : ¬ (-1 : Int32) = of := fun z => ho (by rw [← z]; decide)
        have q := q0 (fun a ha => by
          rcases List.mem_cons.mp ha with z | z
          · rw [z]; exact e
          · exact absurd z List.not_mem_nil)
        rw [nI_1]
        exact br_f (nI_ge (b := 6) (by simp only [List.length_nil] at hc; omega) (by decide)) (br_t (by decide) ⟨fun _ => q, fun z => absurd z nq⟩)
      | cons a l =>
        show wC_isUnder (l.length + 1 + 2) 1 0 of (nI j) (nI c) k Q
        rw [show l.length + 1 + 2 = l.length + 2 + 1 by omega, wC_isUnder]
        any_goals (intro h9; exact absurd h9 (by decide))
        have hin : vp_in (nI j) 6 := vp_in_nI hj (by decide)
        refine br_f x1 (br_f (nI_pos (by omega)) (br_f e ⟨hin, ?_⟩))
        rw [nI_clamp (by omega), hp.2.1, nI_1]
        refine cUnd ho l a (c + 1) hp.2.2 (by simp only [List.length_cons] at hc; omega) (fun ⟨b, h1, h2⟩ => q1 ⟨b, List.mem_cons_of_mem _ h1, h2⟩) (fun hb => q0 (fun b h1 => ?_))
        rcases List.mem_cons.mp h1 with z | z
        · rw [z]; exact e
        · exact hb b z
theorem mOver {j : Nat} {P : Int32 → GM → Prop} (hj : j < 6) (q : P (undS j) g) : wM_over (nI j) g P := by
  unfold wM_over
  match j, hj, q with
  | 0, _, q => exact ⟨fun z => absurd rfl z, fun _ => q⟩
  | 1, _, q => exact ⟨fun _ => ⟨fun z => absurd z (by decide), fun _ => ⟨fun _ => ⟨fun _ => q, fun z => absurd z (by decide)⟩, fun z => absurd z (by decide)⟩⟩, fun z => absurd z (by decide)⟩
  | 2, _, q => exact ⟨fun _ => ⟨fun z => absurd z (by decide), fun _ => ⟨fun _ => ⟨fun _ => q, fun z => absurd z (by decide)⟩, fun z => absurd z (by decide)⟩⟩, fun z => absurd z (by decide)⟩
  | 3, _, q => exact ⟨fun _ => ⟨fun _ => q, fun z => absurd rfl z⟩, fun z => absurd z (by decide)⟩
  | 4, _, q => exact ⟨fun _ => ⟨fun z => absurd z (by decide), fun _ => ⟨fun z => absurd rfl z, fun _ => q⟩⟩, fun z => absurd z (by decide)⟩
  | 5, _, q => exact ⟨fun _ => ⟨fun z => absurd z (by decide), fun _ => ⟨fun _ => ⟨fun z => absurd rfl z, fun _ => q⟩, fun z => absurd z (by decide)⟩⟩, fun z => absurd z (by decide)⟩
theorem mUnd {of : Int32} {s : Nat} {P : Int32 → GM → Prop} (hs : s < 8) (ho : ¬ of < 0) : ∀ (l : List Nat) (j : Nat), Path j l → ((∃ a, a ∈ j :: l ∧ nI a = of) → P (g.2.1 9 s) g) → ((∀ a, a ∈ j :: l → ¬ nI a = of) → P (-13) g) → wM_taken (l.length + 2) 1 (nI s) of (nI j) g P
  | l, j, hp, q1, q0 => by
    have hj := hp.lt
    have hin : vp_in (nI s) 8 := vp_in_nI hs (by decide)
    by_cases e : nI j = of
    · rw [wM_taken]
      any_goals (intro h9; exact absurd h9 (by decide))
      rw [nI_clamp (by omega)]
      refine br_f (nI_n1 (by omega)) (br_t e ⟨fun z => absurd e z, fun _ => ⟨hin, q1 ⟨j, List.mem_cons_self, e⟩⟩⟩)
    · cases l with
      | nil =>
        rw [wM_taken]
        any_goals (intro h9; exact absurd h9 (by decide))
        refine br_f (nI_n1 (by omega)) (br_f e (mOver hj ?_))
        rw [hp.2]
        show wM_taken 1 1 (nI s) of (-1) g P
        rw [wM_taken]
        any_goals (intro h9; exact absurd h9 (by decide))
        have nq : ¬ (-1 : Int32) = of := fun z => ho (by rw [← z]; decide)
        have q := q0 (fun a ha => by
          rcases List.mem_cons.mp ha with z | z
          · rw [z]; exact e
          · exact absurd z List.not_mem_nil)
        exact br_t rfl ⟨fun _ => q, fun z => absurd z nq⟩
      | cons a l =>
        show wM_taken (l.length + 1 + 2) 1 (nI s) of (nI j) g P
        rw [show l.length + 1 + 2 = l.length + 2 + 1 by omega, wM_taken]
        any_goals (intro h9; exact absurd h9 (by decide))
        refine br_f (nI_n1 (by omega)) (br_f e (mOver hj ?_))
        rw [hp.2.1]
        refine mUnd hs ho l a hp.2.2 (fun ⟨b, h1, h2⟩ => q1 ⟨b, List.mem_cons_of_mem _ h1, h2⟩) (fun hb => q0 (fun b h1 => ?_))
        rcases List.mem_cons.mp h1 with z | z
        · rw [z]; exact e
        · exact hb b z
theorem op_taken (x1 x2 : Int32) (h : Rel t k g) : wC_taken x1 x2 k (fun r k' => ∃ y, wM_taken y 0 x1 x2 0 g (fun r' g' => r = r' ∧ Rel (t + 1) k' g')) := by
  obtain ⟨n, nt, np, nw, N, h⟩ := h
  have hu := h.up
  obtain ⟨w1, w2, w3, w4, w5, w6, w7, w8, w9⟩ := h.1
  unfold wC_taken
  refine cWithin ?_
  have Z : ∀ P : Int32 → GM → Prop, (ini x2 0 5 = 0 → P (-2) g) → (ini x2 0 5 = 1 → ini x1 0 (nI n - 1) = 0 → P (-11) g) → (ini x2 0 5 = 1 → ini x1 0 (nI n - 1) = 1 → vp_in x1 8 ∧ ∃ y, wM_taken y 1 x1 x2 (g.2.1 7 x1.toNatClampNeg) g P) → ∃ y, wM_taken y 0 x1 x2 0 g P := by
    intro P p0 p1 p2
    rcases ini_c x2 0 5 with e | e
    · refine ⟨1, ?_⟩
      rw [wM_taken]
      refine mIn (lo := 0) (hi := 5) rfl rfl ?_
      rw [e]
      exact br1 rfl (p0 e)
    · rcases ini_c x1 0 (nI n - 1) with e1 | e1
      · refine ⟨1, ?_⟩
        rw [wM_taken]
        refine mIn (lo := 0) (hi := 5) rfl rfl ?_
        rw [e]
        refine br0 n10 (mOne w3 ?_)
        rw [e1]
        exact br1 rfl (p1 e e1)
      · obtain ⟨hin, y, hy⟩ := p2 e e1
        refine ⟨y + 1, ?_⟩
        rw [wM_taken]
        refine mIn (lo := 0) (hi := 5) rfl rfl ?_
        rw [e]
        refine br0 n10 (mOne w3 ?_)
        rw [e1]
        exact br0 n10 ⟨hin, hy⟩
  have fin : ∀ v : Int32, v = v ∧ Rel (t + 1) k g := fun v => ⟨rfl, _, _, _, _, _, hu⟩
  rcases ini_c x2 0 5 with e | e
  · rw [e]
    exact br1 rfl (Z _ (fun _ => fin _) (fun z => absurd (e.symm.trans z) (by decide)) (fun z => absurd (e.symm.trans z) (by decide)))
  rw [e]
  refine br0 n10 (cHas w2 ?_)
  rcases ini_c x1 0 (nI n - 1) with e1 | e1
  · rw [e1]
    exact br1 rfl (Z _ (fun z => absurd (e.symm.trans z) (by decide)) (fun _ _ => fin _) (fun _ z => absurd (e1.symm.trans z) (by decide)))
  rw [e1]
  obtain ⟨s, hs, ex⟩ := ini_idx (by omega) e1
  obtain ⟨o, _, o2, o3⟩ := ini_rng (a := 0) (b := 5) (by decide) (by decide) e
  obtain ⟨j, hj, ej⟩ := w8 s (by omega)
  obtain ⟨l, hl, hp⟩ := path_of hj
  have ho : ¬ x2 < 0 := by rw [o3]; exact nI_pos (by omega)
  have hin : vp_in x1 8 := by rw [ex]; exact vp_in_nI (by omega) (by decide)
  have hcl : x1.toNatClampNeg = s := by rw [ex]; exact nI_clamp (by omega)
  refine br0 n10 ⟨hin, l.length + 2 + 1, ?_⟩
  rw [wC_isUnder, hcl, w4, ej]
  refine cUnd ho l j 0 hp (by omega) (fun hy => br_f n10 ⟨hin, Z _ (fun z => absurd (e.symm.trans z) (by decide)) (fun _ z => absurd (e1.symm.trans z) (by decide)) (fun _ _ => ⟨hin, l.length + 2, ?_⟩)⟩) (fun hy => br_t rfl (Z _ (fun z => absurd (e.symm.trans z) (by decide)) (fun _ z => absurd (e1.symm.trans z) (by decide)) (fun _ _ => ⟨hin, l.length + 2, ?_⟩)))
  · rw [hcl, ej, ex]
    refine mUnd (by omega) ho l j hp (fun _ => ⟨by rw [h.2.2.2.1.2.1], _, _, _, _, _, hu⟩) (fun z => ?_)
    obtain ⟨a, h1, h2⟩ := hy
    exact absurd h2 (z a h1)
  · rw [hcl, ej, ex]
    exact mUnd (by omega) ho l j hp (fun ⟨a, h1, h2⟩ => absurd h2 (hy a h1)) (fun _ => fin _)
end Tk
