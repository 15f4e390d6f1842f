/-! ===== copy ===== -/
section Cp
variable {t n nt np nw N : Nat} {k k' : KC} {g g' : GM}
def a64 (j : Nat) : Bool := bor j 64 false
theorem a64_Sh {j : Nat} (h : aShM j = false) : a64 j = false := (bor_f (bor_f (bor_f h).2).2).2
theorem RS.put2 {s : Nat} {f G : Nat → Int32} (h : RS k g) (fg : FrH sNo a64 g g') (hG : g'.2.1 64 = G) (hs : s < 4) (h1 : ∀ z, z ≤ 40 → k.1 (9 + s) 1 = nI z → (∀ i, i < z → k.2.1 (9 + s) 2 i = g.2.1 64 (40 * s + i)) → ∀ i, i < z → f i = G (40 * s + i)) (h2 : ∀ x, (x < 40 * s ∨ 40 * s + 40 ≤ x) → G x = g.2.1 64 x) : RS (cA k (9 + s) 2 f) g' := fun s' h4 => by
  have q := RS.put (f := f) (G := G) h hs h1 h2 s' h4
  exact q.eq2 rfl rfl rfl (fg.2 61 rfl) (fg.2 62 rfl) (fg.2 63 rfl) hG
def runOk (x m : Int32) (z : Nat) : Prop := ∃ a b : Nat, a + b ≤ z ∧ x = nI a ∧ m = nI b
theorem cRun {i z : Nat} {x m : Int32} {Q : Int32 → KC → Prop} (h : k.1 i 1 = nI z) (hz : z ≤ 40) (q1 : runOk x m z → Q 1 k) (q0 : ¬ runOk x m z → Q 0 k) : wC_X3_hasRun i x m k Q := by
  unfold wC_X3_hasRun
  by_cases c1 : x < 0
  · exact br_t c1 (q0 (fun ⟨a, b, h1, h2, h3⟩ => absurd c1 (by rw [h2]; exact nI_pos (by omega))))
  refine br_f c1 ?_
  by_cases c2 : m < 0
  · exact br_t c2 (q0 (fun ⟨a, b, h1, h2, h3⟩ => absurd c2 (by rw [h3]; exact nI_pos (by omega))))
  refine br_f c2 ?_
  obtain ⟨a, ha, ea⟩ := nI_of c1
  obtain ⟨b, hb, eb⟩ := nI_of c2
  rw [h, ea, eb, nI_l ha, nI_l hb, nI_l (by omega), lN_add]
  simp only [lg_cmp_gt]
  by_cases c3 : a + b ≤ z
  · exact br_f (fun y => by have := (pk_lLT (a := z) (b := a + b) (by omega) (by omega)).mp y; omega) (q1 ⟨a, b, c3, ea, eb⟩)
  · refine br_t ((pk_lLT (a := z) (b := a + b) (by omega) (by omega)).mpr (by omega)) (q0 (fun ⟨a', b', h1, h2, h3⟩ => c3 ?_))
    have y1 := (nI_eq ha (by omega)).mp (ea.symm.trans h2)
    have y2 := (nI_eq hb (by omega)).mp (eb.symm.trans h3)
    omega
theorem i_sub {a b : Int32} (h1 : -2147483648 ≤ a.toInt - b.toInt) (h2 : a.toInt - b.toInt < 2147483648) : (a - b).toInt = a.toInt - b.toInt := by
  rw [Int32.toInt_sub]
  exact Int.bmod_eq_of_le (by omega) (by omega)
def cpR (D S m : Nat) (A : Nat → Int32) : Nat → Int32 := fun z => if D ≤ z ∧ z < D + m then A (z - D + S) else A z
def cpD (D S m j : Nat) (A : Nat → Int32) : Nat → Int32 := fun z => if D + m - j ≤ z ∧ z < D + m then A (z - D + S) else A z
theorem cpR_s {D S m j : Nat} {A : Nat → Int32} (hj : j < m) (h : D ≤ S ∨ S + m ≤ D) : upd (cpR D S j A) (D + j) (cpR D S j A (S + j)) = cpR D S (j + 1) A := by
  funext z
  have e : cpR D S j A (S + j) = A (S + j) := if_neg (by omega)
  rw [e]
  by_cases c : z = D + j
  · rw [c, upd_0]
    show _ = if _ then _ else _
    rw [if_pos (by omega)]; congr 1; omega
  · rw [upd_n c]
    show (if _ then _ else _) = if _ then _ else _
    by_cases c2 : D ≤ z ∧ z < D + j
    · rw [if_pos c2, if_pos (by omega)]
    · rw [if_neg c2, if_neg (by omega)]
theorem cpD_s {D S m j : Nat} {A : Nat → Int32} (hj : j < m) (h : S ≤ D) : upd (cpD D S m j A) (D + (m - 1 - j)) (cpD D S m j A (S + (m - 1 - j))) = cpD D S m (j + 1) A := by
  funext z
  have e : cpD D S m j A (S + (m - 1 - j)) = A (S + (m - 1 - j)) := if_neg (by omega)
  rw [e]
  by_cases c : z = D + (m - 1 - j)
  · rw [c, upd_0]
    show _ = if _ then _ else _
    rw [if_pos (by omega)]; congr 1; omega
  · rw [upd_n c]
    show (if _ then _ else _) = if _ then _ else _
    by_cases c2 : D + m - j ≤ z ∧ z < D + m
    · rw [if_pos c2, if_pos (by omega)]
    · rw [if_neg c2, if_neg (by omega)]
theorem cpD_m {D S m : Nat} {A : Nat → Int32} : cpD D S m m A = cpR D S m A := by
  funext z
  show (if _ then _ else _) = if _ then _ else _
  by_cases c : D ≤ z ∧ z < D + m
  · rw [if_pos c, if_pos (by omega)]
  · rw [if_neg c, if_neg (by omega)]
theorem mCpy {a b x y m : Nat} {Q : Int32 → GM → Prop} (ha : a < 4) (hb : b < 4) (hx : x + m ≤ 40) (hy : y + m ≤ 40) (q : ∀ g', FrH sNo a64 g g' → g'.2.1 64 = cpR (40 * b + y) (40 * a + x) m (g.2.1 64) → Q (nI m) g') : (¬ nI a = nI b → ∃ u, wM_copy u 1 (nI a) (nI x) (nI b) (nI y) (nI m) 0 0 g Q) ∧ (nI a = nI b → (nI y ≤ nI x → ∃ u, wM_copy u 1 (nI a) (nI x) (nI b) (nI y) (nI m) 0 0 g Q) ∧ (¬ nI y ≤ nI x → ∃ u, wM_copy u 1 (nI a) (nI x) (nI b) (nI y) (nI m) 1 0 g Q)) := by
  have e40 : ∀ a x j, (40 : Int32) * nI a + nI x + nI j = nI (40 * a + x + j) := fun a x j => by
    rw [show (40 : Int32) = nI 40 from rfl, pk_mul, nI_add, nI_add]
  have U : (40 * b + y ≤ 40 * a + x ∨ 40 * a + x + m ≤ 40 * b + y) → ∃ u, wM_copy u 1 (nI a) (nI x) (nI b) (nI y) (nI m) 0 0 g Q := by
    intro hc
    have L : ∀ (c j : Nat) (g1 : GM), m - j = c → j ≤ m → FrH sNo a64 g g1 → g1.2.1 64 = cpR (40 * b + y) (40 * a + x) j (g.2.1 64) → wM_copy (c + 1) 1 (nI a) (nI x) (nI b) (nI y) (nI m) 0 (nI j) g1 Q := by
      intro c
      induction c with
      | zero =>
        intro j g1 hm hj f a1
        have ej : j = m := by omega
        subst ej
        rw [wM_copy]
        any_goals (intro h9; exact absurd h9 (by decide))
        exact br_t (nI_le (Nat.le_refl _) (by omega)) (q g1 f a1)
      | succ c ih =>
        intro j g1 hm hj f a1
        rw [wM_copy, e40 a x j, e40 b y j, nI_1 j, nI_clamp (n := 40 * a + x + j) (by omega), nI_clamp (n := 40 * b + y + j) (by omega)]
        any_goals (intro h9; exact absurd h9 (by decide))
        refine br_f (nI_ge (by omega) (by omega)) (br_t rfl ⟨vp_in_nI (by omega) (by decide), vp_in_nI (by omega) (by decide), ih (j + 1) _ (by omega) (by omega) (f.a_ rfl) ?_⟩)
        show upd (g1.2.1 64) _ (g1.2.1 64 _) = _
        rw [a1]; exact cpR_s (by omega) hc
    exact ⟨m - 0 + 1, L _ 0 g rfl (Nat.zero_le _) FrH.rf (by funext z; exact (if_neg (by omega)).symm)⟩
  have V : 40 * a + x ≤ 40 * b + y → ∃ u, wM_copy u 1 (nI a) (nI x) (nI b) (nI y) (nI m) 1 0 g Q := by
    intro hc
    have L : ∀ (c j : Nat) (g1 : GM), m - j = c → j ≤ m → FrH sNo a64 g g1 → g1.2.1 64 = cpD (40 * b + y) (40 * a + x) m j (g.2.1 64) → wM_copy (c + 1) 1 (nI a) (nI x) (nI b) (nI y) (nI m) 1 (nI j) g1 Q := by
      intro c
      induction c with
      | zero =>
        intro j g1 hm hj f a1
        have ej : j = m := by omega
        subst ej
        rw [wM_copy]
        any_goals (intro h9; exact absurd h9 (by decide))
        exact br_t (nI_le (Nat.le_refl _) (by omega)) (q g1 f (by rw [a1, cpD_m]))
      | succ c ih =>
        intro j g1 hm hj f a1
        have em : nI m - (1 : Int32) - nI j = nI (m - 1 - j) := by
          rw [show (1 : Int32) = nI 1 from rfl, pk_sub (by omega), pk_sub (by omega)]
        rw [wM_copy, em, e40 a x (m - 1 - j), e40 b y (m - 1 - j), nI_1 j, nI_clamp (n := 40 * a + x + (m - 1 - j)) (by omega), nI_clamp (n := 40 * b + y + (m - 1 - j)) (by omega)]
        any_goals (intro h9; exact absurd h9 (by decide))
        refine br_f (nI_ge (by omega) (by omega)) (br_f n10 ⟨vp_in_nI (by omega) (by decide), vp_in_nI (by omega) (by decide), ih (j + 1) _ (by omega) (by omega) (f.a_ rfl) ?_⟩)
        show upd (g1.2.1 64) _ (g1.2.1 64 _) = _
        rw [a1]; exact cpD_s (by omega) hc
    exact ⟨m - 0 + 1, L _ 0 g rfl (Nat.zero_le _) FrH.rf (by funext z; exact (if_neg (by omega)).symm)⟩
  refine ⟨fun c => U ?_, fun c => ⟨fun d => U ?_, fun d => V ?_⟩⟩
  · have : a ≠ b := fun y => c (by rw [y])
    omega
  · have := (nI_eq (by omega) (by omega)).mp c
    have := (nI_leI (by omega) (by omega)).mp d
    omega
  · have := (nI_eq (by omega) (by omega)).mp c
    have : ¬ y ≤ x := fun z => d (nI_le z (by omega))
    omega
end Cp
