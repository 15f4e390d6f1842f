/-! ===== copy ===== -/
section Cp
variable {t n nt np nw N : Nat} {k k' : KC} {g g' : GM}
def a64 (j : Nat) : Bool := bor j 64 false
theorem a64_Sh {j : Nat} (h : aShM j = false) : a64 j = false := (bor_f (bor_f (bor_f h).2).2).2
theorem RS.put2 {s : Nat} {f G : Nat → Int32} (h : RS k g) (fg : FrH sNo a64 g g') (hG : g'.2.1 64 = G) (hs : s < 4) (h1 : ∀ z, z ≤ 40 → k.1 (9 + s) 1 = nI z → (∀ i, i < z → k.2.1 (9 + s) 2 i = g.2.1 64 (40 * s + i)) → ∀ i, i < z → f i = G (40 * s + i)) (h2 : ∀ x, (x < 40 * s ∨ 40 * s + 40 ≤ x) → G x = g.2.1 64 x) : RS (cA k (9 + s) 2 f) g' := fun s' h4 => by
  have q := RS.put (f := f) (G := G) h hs h1 h2 s' h4
  exact q.eq2 rfl rfl rfl (fg.2 61 rfl) (fg.2 62 rfl) (fg.2 63 rfl) hG
def runOk (x m : Int32) (z : Nat) : Prop := ∃ a b : Nat, a + b ≤ z ∧ x = nI a ∧ m = nI b
theorem cRun {i z : Nat} {x m : Int32} {Q : Int32 → KC → Prop} (h : k.1 i 1 = nI z) (hz : z ≤ 40) (q1 : runOk x m z → Q 1 k) (q0 : ¬ runOk x m z → Q 0 k) : wC_X3_hasRun i x m k Q := by
  unfold wC_X3_hasRun
  by_cases c1 : x < 0
  · exact br_t c1 (q0 (fun ⟨a, b, h1, h2, h3⟩ => absurd c1 (by rw [h2]; exact nI_pos (by omega))))
  refine br_f c1 ?_
  by_cases c2 : m < 0
  · exact br_t c2 (q0 (fun ⟨a, b, h1, h2, h3⟩ => absurd c2 (by rw [h3]; exact nI_pos (by omega))))
  refine br_f c2 ?_
  obtain ⟨a, ha, ea⟩ := nI_of c1
  obtain ⟨b, hb, eb⟩ := nI_of c2
  rw [h, ea, eb, nI_l ha, nI_l hb, nI_l (by omega), lN_add]
  simp only [lg_cmp_gt]
  by_cases c3 : a + b ≤ z
  · exact br_f (fun y => by have := (pk_lLT (a := z) (b := a + b) (by omega) (by omega)).mp y; omega) (q1 ⟨a, b, c3, ea, eb⟩)
  · refine br_t ((pk_lLT (a := z) (b := a + b) (by omega) (by omega)).mpr (by omega)) (q0 (fun ⟨a', b', h1, h2, h3⟩ => c3 ?_))
    have y1 := (nI_eq ha (by omega)).mp (ea.symm.trans h2)
    have y2 := (nI_eq hb (by omega)).mp (eb.symm.trans h3)
    omega
theorem i_sub {a b : Int32} (h1 : -2147483648 ≤ a.toInt - b.toInt) (h2 : a.toInt - b.toInt < 2147483648) : (a - b).toInt = a.toInt - b.toInt := by
  rw [Int32.toInt_sub]
  exact Int.bmod_eq_of_le (by omega) (by omega)
def cpR (D S m : Nat) (A : Nat → Int32) : Nat → Int32 := fun z => if D ≤ z ∧ z < D + m then A (z - D + S) else A z
def cpD (D S m j : Nat) (A : Nat → Int32) : Nat → Int32 := fun z => if D + m - j ≤ z ∧ z < D + m then A (z - D + S) else A z
theorem cpR_s {D S m j : Nat} {A : Nat → Int32} (hj : j < m) (h : D ≤ S ∨ S + m ≤ D) : upd (cpR D S j A) (D + j) (cpR D S j A (S + j)) = cpR D S (j + 1) A := by
  funext z
  have e : cpR D S j A (S + j) = A (S + j) := if_neg (by omega)
  rw [e]
  by_cases c : z = D + j
  · rw [c, upd_0]
    show _ = if _ then _ else _
    rw [if_pos (by omega)]; congr 1; omega
  · rw [upd_n c]
    show (if _ then _ else _) = if _ then _ else _
    by_cases c2 : D ≤ z ∧ z < D + j
    · rw [if_pos c2, if_pos (by omega)]
    · rw [if_neg c2, if_neg (by omega)]
theorem cpD_s {D S m j : Nat} {A : Nat → Int32} (hj : j < m) (h : S ≤ D) : upd (cpD D S m j A) (D + (m - 1 - j)) (cpD D S m j A (S + (m - 1 - j))) = cpD D S m (j + 1) A := by
  funext z
  have e : cpD D S m j A (S + (m - 1 - j)) = A (S + (m - 1 - j)) := if_neg (by omega)
  rw [e]
  by_cases c : z = D + (m - 1 - j)
  · rw [c, upd_0]
    show _ = if _ then _ else _
    rw [if_pos (by omega)]; congr 1; omega
  · rw [upd_n c]
    show (if _ then _ else _) = if _ then _ else _
    by_cases c2 : D + m - j ≤ z ∧ z < D + m
    · rw [if_pos c2, if_pos (by omega)]
    · rw [if_neg c2, if_neg (by omega)]
theorem cpD_m {D S m : Nat} {A : Nat → Int32} : cpD D S m m A = cpR D S m A := by
  funext z
  show (if _ then _ else _) = if _ then _ else _
  by_cases c : D ≤ z ∧ z < D + m
  · rw [if_pos c, if_pos (by omega)]
  · rw [if_neg c, if_neg (by omega)]
theorem mCpy {a b x y m : Nat} {Q : Int32 → GM → Prop} (ha : a < 4) (hb : b < 4) (hx : x + m ≤ 40) (hy : y + m ≤ 40) (q : ∀ g', FrH sNo a64 g g' → g'.2.1 64 = cpR (40 * b + y) (40 * a + x) m (g.2.1 64) → Q (nI m) g') : (¬ nI a = nI b → ∃ u, wM_copy u 1 (nI a) (nI x) (nI b) (nI y) (nI m) 0 0 g Q) ∧ (nI a = nI b → (nI y ≤ nI x → ∃ u, wM_copy u 1 (nI a) (nI x) (nI b) (nI y) (nI m) 0 0 g Q) ∧ (¬ nI y ≤ nI x → ∃ u, wM_copy u 1 (nI a) (nI x) (nI b) (nI y) (nI m) 1 0 g Q)) := by
  have e40 : ∀ a x j, (40 : Int32) * nI a + nI x + nI j = nI (40 * a + x + j) := fun a x j => by
    rw [show (40 : Int32) = nI 40 from rfl, pk_mul, nI_add, nI_add]
  have U : (40 * b + y ≤ 40 * a + x ∨ 40 * a + x + m ≤ 40 * b + y) → ∃ u, wM_copy u 1 (nI a) (nI x) (nI b) (nI y) (nI m) 0 0 g Q := by
    intro hc
    have L : ∀ (c j : Nat) (g1 : GM), m - j = c → j ≤ m → FrH sNo a64 g g1 → g1.2.1 64 = cpR (40 * b + y) (40 * a + x) j (g.2.1 64) → wM_copy (c + 1) 1 (nI a) (nI x) (nI b) (nI y) (nI m) 0 (nI j) g1 Q := by
      intro c
      induction c with
      | zero =>
        intro j g1 hm hj f a1
        have ej : j = m := by omega
        subst ej
        rw [wM_copy]
        any_goals (intro h9; exact absurd h9 (by decide))
        exact br_t (nI_le (Nat.le_refl _) (by omega)) (q g1 f a1)
      | succ c ih =>
        intro j g1 hm hj f a1
        rw [wM_copy, e40 a x j, e40 b y j, nI_1 j, nI_clamp (n := 40 * a + x + j) (by omega), nI_clamp (n := 40 * b + y + j) (by omega)]
        any_goals (intro h9; exact absurd h9 (by decide))
        refine br_f (nI_ge (by omega) (by omega)) (br_t rfl ⟨vp_in_nI (by omega) (by decide), vp_in_nI (by omega) (by decide), ih (j + 1) _ (by omega) (by omega) (f.a_ rfl) ?_⟩)
        show upd (g1.2.1 64) _ (g1.2.1 64 _) = _
        rw [a1]; exact cpR_s (by omega) hc
    exact ⟨m - 0 + 1, L _ 0 g rfl (Nat.zero_le _) FrH.rf (by funext z; exact (if_neg (by omega)).symm)⟩
  have V : 40 * a + x ≤ 40 * b + y → ∃ u, wM_copy u 1 (nI a) (nI x) (nI b) (nI y) (nI m) 1 0 g Q := by
    intro hc
    have L : ∀ (c j : Nat) (g1 : GM), m - j = c → j ≤ m → FrH sNo a64 g g1 → g1.2.1 64 = cpD (40 * b + y) (40 * a + x) m j (g.2.1 64) → wM_copy (c + 1) 1 (nI a) (nI x) (nI b) (nI y) (nI m) 1 (nI j) g1 Q := by
      intro c
      induction c with
      | zero =>
        intro j g1 hm hj f a1
        have ej : j = m := by omega
        subst ej
        rw [wM_copy]
        any_goals (intro h9; exact absurd h9 (by decide))
        exact br_t (nI_le (Nat.le_refl _) (by omega)) (q g1 f (by rw [a1, cpD_m]))
      | succ c ih =>
        intro j g1 hm hj f a1
        have em : nI m - (1 : Int32) - nI j = nI (m - 1 - j) := by
          rw [show (1 : Int32) = nI 1 from rfl, pk_sub (by omega), pk_sub (by omega)]
        rw [wM_copy, em, e40 a x (m - 1 - j), e40 b y (m - 1 - j), nI_1 j, nI_clamp (n := 40 * a + x + (m - 1 - j)) (by omega), nI_clamp (n := 40 * b + y + (m - 1 - j)) (by omega)]
        any_goals (intro h9; exact absurd h9 (by decide))
        refine br_f (nI_ge (by omega) (by omega)) (br_f n10 ⟨vp_in_nI (by omega) (by decide), vp_in_nI (by omega) (by decide), ih (j + 1) _ (by omega) (by omega) (f.a_ rfl) ?_⟩)
        show upd (g1.2.1 64) _ (g1.2.1 64 _) = _
        rw [a1]; exact cpD_s (by omega) hc
    exact ⟨m - 0 + 1, L _ 0 g rfl (Nat.zero_le _) FrH.rf (by funext z; exact (if_neg (by omega)).symm)⟩
  refine ⟨fun c => U ?_, fun c => ⟨fun d => U ?_, fun d => V ?_⟩⟩
  · have : a ≠ b := fun y => c (by rw [y])
    omega
  · have := (nI_eq (by omega) (by omega)).mp c
    have := (nI_leI (by omega) (by omega)).mp d
    omega
  · have := (nI_eq (by omega) (by omega)).mp c
    have : ¬ y ≤ x := fun z => d (nI_le z (by omega))
    omega
theorem mRun {x m : Int32} {z : Nat} {A B : Prop} (hz : z ≤ 40) (hm : ¬ m < 0) (q1 : ∀ a b, a + b ≤ z → x = nI a → m = nI b → A) (q0 : ¬ runOk x m z → B) : ((x < 0 → B) ∧ (¬ x < 0 → ((nI z - m < x → B) ∧ (¬ nI z - m < x → A)))) := by
  obtain ⟨b, hb, eb⟩ := nI_of hm
  refine ⟨fun c1 => q0 (fun ⟨a, b, h1, h2, h3⟩ => absurd c1 (by rw [h2]; exact nI_pos (by omega))), fun c1 => ?_⟩
  obtain ⟨a, ha, ea⟩ := nI_of c1
  have e1 : (nI z).toInt = z := nI_toInt (by omega)
  have e2 : m.toInt = b := by rw [eb]; exact nI_toInt hb
  have e3 : x.toInt = a := by rw [ea]; exact nI_toInt ha
  have e4 : (nI z - m).toInt = (nI z).toInt - m.toInt := i_sub (by omega) (by omega)
  refine ⟨fun c2 => q0 (fun ⟨a', b', h1, h2, h3⟩ => ?_), fun c2 => q1 a b ?_ ea eb⟩
  · have y1 := (nI_eq ha (by omega)).mp (ea.symm.trans h2)
    have y2 := (nI_eq hb (by omega)).mp (eb.symm.trans h3)
    have := Int32.lt_iff_toInt_lt.mp c2
    omega
  · have : ¬ (nI z - m).toInt < x.toInt := fun y => c2 (Int32.lt_iff_toInt_lt.mpr y)
    omega
theorem mCopy {a b za zb : Nat} {x2 x4 x5 : Int32} {P : Int32 → GM → Prop} (ha : a < 4) (hb : b < 4) (hza : ¬ g.2.1 61 a = 0 → za ≤ 40 ∧ g.2.1 63 a = nI za) (hzb : ¬ g.2.1 61 b = 0 → zb ≤ 40 ∧ g.2.1 63 b = nI zb) (p1 : g.2.1 61 a = 0 → P (-11) g) (p2 : g.2.1 61 b = 0 → P (-11) g) (p3 : ¬ g.2.1 61 a = 0 → ¬ g.2.1 61 b = 0 → ¬ g.2.1 62 a = g.2.1 62 b → P (-13) g) (p4 : ¬ g.2.1 61 a = 0 → ¬ g.2.1 61 b = 0 → g.2.1 62 a = g.2.1 62 b → ¬ (runOk x2 x5 za ∧ runOk x4 x5 zb) → P (-12) g) (p5 : ∀ x y m, ¬ g.2.1 61 a = 0 → ¬ g.2.1 61 b = 0 → g.2.1 62 a = g.2.1 62 b → x + m ≤ za → y + m ≤ zb → x2 = nI x → x4 = nI y → x5 = nI m → ∀ g', FrH sNo a64 g g' → g'.2.1 64 = cpR (40 * b + y) (40 * a + x) m (g.2.1 64) → P (nI m) g') : ∃ u, wM_copy u 0 (nI a) x2 (nI b) x4 x5 0 0 g P := by
  have ia : ini (nI a) 0 3 = 1 := by rw [show ini (nI a) 0 3 = ini (nI a) (nI 0) (nI 3) from rfl, ini_nI (by omega) (by decide) (by decide), if_pos (by omega)]
  have ib : ini (nI b) 0 3 = 1 := by rw [show ini (nI b) 0 3 = ini (nI b) (nI 0) (nI 3) from rfl, ini_nI (by omega) (by decide) (by decide), if_pos (by omega)]
  have va : vp_in (nI a) 4 := vp_in_nI (by omega) (by decide)
  have vb : vp_in (nI b) 4 := vp_in_nI (by omega) (by decide)
  have ca : (nI a).toNatClampNeg = a := nI_clamp (by omega)
  have cb : (nI b).toNatClampNeg = b := nI_clamp (by omega)
  have S : ∀ u, (∀ x y m, ¬ g.2.1 61 a = 0 → ¬ g.2.1 61 b = 0 → g.2.1 62 a = g.2.1 62 b → x + m ≤ za → y + m ≤ zb → x2 = nI x → x4 = nI y → x5 = nI m → ((¬ nI a = nI b → wM_copy u 1 (nI a) (nI x) (nI b) (nI y) (nI m) 0 0 g P) ∧ (nI a = nI b → ((nI y ≤ nI x → wM_copy u 1 (nI a) (nI x) (nI b) (nI y) (nI m) 0 0 g P) ∧ (¬ nI y ≤ nI x → wM_copy u 1 (nI a) (nI x) (nI b) (nI y) (nI m) 1 0 g P))))) → wM_copy (u + 1) 0 (nI a) x2 (nI b) x4 x5 0 0 g P := by
    intro u hk
    rw [wM_copy]
    unfold wM_isSheet
    refine mIn (lo := 0) (hi := 3) rfl rfl ?_
    rw [ia]
    refine br_f n10 (mIn (lo := 0) (hi := 3) rfl rfl ?_)
    rw [ib, ca, cb]
    refine br0 n10 ⟨va, p1, fun na => ⟨vb, fun nb => ⟨va, vb, fun eq => ?_, p3 na nb⟩, p2⟩⟩
    obtain ⟨z1, z2⟩ := hza na
    obtain ⟨y1, y2⟩ := hzb nb
    rw [z2, y2]
    refine ⟨fun c5 => p4 na nb eq (fun ⟨⟨a', b', h1, h2, h3⟩, _⟩ => absurd c5 (by rw [h3]; exact nI_pos (by omega))), fun c5 => ?_⟩
    have r4 := fun (A B : Prop) => mRun (x := x4) (A := A) (B := B) y1 c5
    have r2 := fun (A B : Prop) => mRun (x := x2) (A := A) (B := B) z1 c5
    by_cases k2 : runOk x2 x5 za
    · by_cases k4 : runOk x4 x5 zb
      · obtain ⟨x, m, h1, h2, h3⟩ := k2
        obtain ⟨y, m', h4, h5, h6⟩ := k4
        have em : m' = m := (nI_eq (by omega) (by omega)).mp (h6.symm.trans h3)
        subst em
        have w := hk x y m' na nb eq h1 h4 h2 h5 h3
        rw [h2, h5, h3]
        have f1 : nI za - nI m' = nI (za - m') := pk_sub (by omega)
        have f2 : nI zb - nI m' = nI (zb - m') := pk_sub (by omega)
        rw [f1, f2]
        exact br_f (nI_pos (by omega)) (br_f (nI_pos (by omega)) ⟨va, br_f (nI_nlt (by omega) (by omega)) ⟨vb, br_t (nI_le (by omega) (by omega)) w⟩⟩)
      · have w := p4 na nb eq (fun q => k4 q.2)
        refine ⟨fun _ => w, fun _ => ⟨fun _ => w, fun n4 => ⟨va, fun _ => w, fun _ => ⟨vb, fun c => ?_, fun _ => w⟩⟩⟩⟩
        have := ((r4 False (¬ runOk x4 x5 zb) (fun a b h1 h2 h3 => k4 ⟨a, b, h1, h2, h3⟩) (fun q => q)).2 n4).2 (by
          rw [i_nlt]; exact c)
        exact absurd this id
    · have w := p4 na nb eq (fun q => k2 q.1)
      refine ⟨fun _ => w, fun n2 => ⟨fun _ => w, fun n4 => ⟨va, fun _ => w, fun c => ?_⟩⟩⟩
      exact absurd (((r2 False (¬ runOk x2 x5 za) (fun a b h1 h2 h3 => k2 ⟨a, b, h1, h2, h3⟩) (fun q => q)).2 n2).2 c) id
  by_cases na : g.2.1 61 a = 0
  · exact ⟨1, S 0 (fun _ _ _ n1 => absurd na n1)⟩
  by_cases nb : g.2.1 61 b = 0
  · exact ⟨1, S 0 (fun _ _ _ _ n1 => absurd nb n1)⟩
  by_cases eq : g.2.1 62 a = g.2.1 62 b
  · by_cases kk : ∃ x y m, x + m ≤ za ∧ y + m ≤ zb ∧ x2 = nI x ∧ x4 = nI y ∧ x5 = nI m
    · obtain ⟨x, y, m, h1, h2, h3, h4, h5⟩ := kk
      obtain ⟨z1, z2⟩ := hza na
      obtain ⟨y1, y2⟩ := hzb nb
      have q := mCpy (g := g) (x := x) (y := y) (m := m) ha hb (by omega) (by omega) (fun g' f e => p5 x y m na nb eq h1 h2 h3 h4 h5 g' f e)
      have un : ∀ u, ((¬ nI a = nI b → wM_copy u 1 (nI a) (nI x) (nI b) (nI y) (nI m) 0 0 g P) ∧ (nI a = nI b → ((nI y ≤ nI x → wM_copy u 1 (nI a) (nI x) (nI b) (nI y) (nI m) 0 0 g P) ∧ (¬ nI y ≤ nI x → wM_copy u 1 (nI a) (nI x) (nI b) (nI y) (nI m) 1 0 g P)))) → wM_copy (u + 1) 0 (nI a) x2 (nI b) x4 x5 0 0 g P := by
        intro u w
        refine S u (fun x' y' m' _ _ _ g1 g2 g3 g4 g5 => ?_)
        have e1 : x' = x := (nI_eq (by omega) (by omega)).mp (g3.symm.trans h3)
        have e2 : y' = y := (nI_eq (by omega) (by omega)).mp (g4.symm.trans h4)
        have e3 : m' = m := (nI_eq (by omega) (by omega)).mp (g5.symm.trans h5)
        rw [e1, e2, e3]; exact w
      by_cases c1 : nI a = nI b
      · by_cases c2 : nI y ≤ nI x
        · obtain ⟨u, hu⟩ := (q.2 c1).1 c2
          exact ⟨u + 1, un u (br1 c1 (br_t c2 hu))⟩
        · obtain ⟨u, hu⟩ := (q.2 c1).2 c2
          exact ⟨u + 1, un u (br1 c1 (br_f c2 hu))⟩
      · obtain ⟨u, hu⟩ := q.1 c1
        exact ⟨u + 1, un u (br0 c1 hu)⟩
    · exact ⟨1, S 0 (fun x y m _ _ _ h1 h2 h3 h4 h5 => absurd ⟨x, y, m, h1, h2, h3, h4, h5⟩ kk)⟩
  · exact ⟨1, S 0 (fun _ _ _ _ _ n1 => absurd n1 eq)⟩
theorem op_copy (x1 x2 x3 x4 x5 : Int32) (h : Rel t k g) : wC_copy x1 x2 x3 x4 x5 k (fun r k' => ∃ y, wM_copy y 0 x1 x2 x3 x4 x5 0 0 g (fun r' g' => r = r' ∧ Rel (t + 1) k' g')) := by
  obtain ⟨n, nt, np, nw, N, h⟩ := h
  have hu := h.up
  have hs := h.2.2.2.2.2.2.2.1
  have fin : ∀ v : Int32, v = v ∧ Rel (t + 1) k g := fun v => ⟨rfl, _, _, _, _, _, hu⟩
  unfold wC_copy wC_isSheet
  refine cWithin ?_
  rcases ini_c x1 0 3 with e | e
  · rw [e]
    refine br_t rfl ⟨1, ?_⟩
    rw [wM_copy]
    unfold wM_isSheet
    refine mIn (lo := 0) (hi := 3) rfl rfl ?_
    rw [e]
    exact br_t rfl (fin _)
  rw [e]
  refine br_f n10 (cWithin ?_)
  rcases ini_c x3 0 3 with e3 | e3
  · rw [e3]
    refine br1 rfl ⟨1, ?_⟩
    rw [wM_copy]
    unfold wM_isSheet
    refine mIn (lo := 0) (hi := 3) rfl rfl ?_
    rw [e]
    refine br_f n10 (mIn (lo := 0) (hi := 3) rfl rfl ?_)
    rw [e3]
    exact br1 rfl (fin _)
  rw [e3]
  obtain ⟨a, _, a2, a3⟩ := ini_rng (a := 0) (b := 3) (by decide) (by decide) e
  obtain ⟨b, _, b2, b3⟩ := ini_rng (a := 0) (b := 3) (by decide) (by decide) e3
  subst a3 b3
  have va : vp_in (nI a) 4 := vp_in_nI (by omega) (by decide)
  have vb : vp_in (nI b) 4 := vp_in_nI (by omega) (by decide)
  have ca : (nI a).toNatClampNeg = a := nI_clamp (by omega)
  have cb : (nI b).toNatClampNeg = b := nI_clamp (by omega)
  rw [ca, cb]
  refine br0 n10 ⟨va, fun i5 e5 => ⟨vb, fun i6 e6 => ?_⟩⟩
  subst e5 e6
  -- what both hold of a SHEET
  have W : ∀ s, s < 4 → (g.2.1 61 s = 0 ∧ k.1 (9 + s) 0 = -1) ∨ (g.2.1 61 s = 1 ∧ ¬ k.1 (9 + s) 0 = -1 ∧ g.2.1 62 s = k.1 (9 + s) 0 ∧ ∃ z, z ≤ 40 ∧ k.1 (9 + s) 1 = nI z ∧ g.2.1 63 s = nI z ∧ ∀ i, i < z → k.2.1 (9 + s) 2 i = g.2.1 64 (40 * s + i)) := by
    intro s h4
    rcases hs s h4 with q | ⟨q1, ⟨so, q2, q2'⟩, q3, q4⟩
    · exact Or.inl q
    · exact Or.inr ⟨q1, by rw [q2']; exact nI_n1 (by omega), q3, q4⟩
  have Zs : ∀ s, s < 4 → ∃ z, ¬ g.2.1 61 s = 0 → z ≤ 40 ∧ g.2.1 63 s = nI z := by
    intro s h4
    rcases W s h4 with ⟨q, _⟩ | ⟨_, _, _, z, z1, _, z2, _⟩
    · exact ⟨0, fun y => absurd q y⟩
    · exact ⟨z, fun _ => ⟨z1, z2⟩⟩
  obtain ⟨za, hza⟩ := Zs a (by omega)
  obtain ⟨zb, hzb⟩ := Zs b (by omega)
  unfold wC_X3_isMissing
  rcases W a (by omega) with ⟨q1, q2⟩ | ⟨q1, q2, q3, za', q4, q5, q6, q7⟩
  · exact br1 q2 (br0 n10 (mCopy (by omega) (by omega) hza hzb (fun _ => fin _) (fun _ => fin _) (fun y => absurd q1 y) (fun y => absurd q1 y) (fun _ _ _ y => absurd q1 y)))
  have na : ¬ g.2.1 61 a = 0 := by rw [q1]; exact n10
  have ez : za' = za := (nI_eq (by omega) (by have := (hza na).1; omega)).mp (q6.symm.trans (hza na).2)
  subst ez
  refine br0 q2 (br1 rfl ?_)
  rcases W b (by omega) with ⟨p1, p2⟩ | ⟨p1, p2, p3, zb', p4, p5, p6, p7⟩
  · exact br1 p2 (br_f n10 (mCopy (by omega) (by omega) hza hzb (fun _ => fin _) (fun _ => fin _) (fun _ y => absurd p1 y) (fun _ y => absurd p1 y) (fun _ _ _ _ y => absurd p1 y)))
  have nb : ¬ g.2.1 61 b = 0 := by rw [p1]; exact n10
  have ez2 : zb' = zb := (nI_eq (by omega) (by have := (hzb nb).1; omega)).mp (p6.symm.trans (hzb nb).2)
  subst ez2
  refine br0 p2 (br_t rfl ?_)
  by_cases eq : k.1 (9 + a) 0 = k.1 (9 + b) 0
  · have eq' : g.2.1 62 a = g.2.1 62 b := by rw [q3, p3]; exact eq
    refine br_t eq (cRun q5 q4 (fun r2 => br_f n10 (cRun p5 p4 (fun r4 => br0 n10 ?_) (fun r4 => br1 rfl ?_))) (fun r2 => br_t rfl ?_))
    · obtain ⟨x, m, h1, h2, h3⟩ := r2
      obtain ⟨y, m', h4, h5, h6⟩ := r4
      have em : m' = m := (nI_eq (by omega) (by omega)).mp (h6.symm.trans h3)
      subst em
      subst h2 h5 h3
      rw [nI_clamp (n := x) (by omega), nI_clamp (n := y) (by omega), nI_clamp (n := m') (by omega)]
      refine ⟨⟨nI_pos (by omega), nI_pos (by omega), nI_pos (by omega), by rw [nI_clamp (n := x) (by omega), nI_clamp (n := m') (by omega)]; omega, by rw [nI_clamp (n := y) (by omega), nI_clamp (n := m') (by omega)]; omega⟩, mCopy (by omega) (by omega) hza hzb (fun y => absurd y na) (fun y => absurd y nb) (fun _ _ y => absurd eq' y) (fun _ _ _ yy => absurd ⟨⟨x, m', h1, rfl, rfl⟩, ⟨y, m', h4, rfl, rfl⟩⟩ yy) (fun x1 y1 m1 _ _ _ g1 g2 g3 g4 g5 g' f eg => ?_)⟩
      have e1 : x1 = x := (nI_eq (by omega) (by omega)).mp g3.symm
      have e2 : y1 = y := (nI_eq (by omega) (by omega)).mp g4.symm
      have e3 : m1 = m' := (nI_eq (by omega) (by omega)).mp g5.symm
      subst e1 e2 e3
      refine ⟨rfl, n, nt, np, nw, N, hu.sheets (FrC.rf.a_ ble9) (f.mono (fun _ q => q) (fun _ q => a64_Sh q)) (RS.put2 hs f eg (by omega) (fun z z40 ez zz i hi => ?_) (fun x hx => if_neg (by omega)))⟩
      have e4 : z = zb' := (nI_eq (by omega) (by omega)).mp (ez.symm.trans p5)
      subst e4
      show (if y1 ≤ i ∧ i < y1 + m1 then k.2.1 (9 + a) 2 (x1 + (i - y1)) else k.2.1 (9 + b) 2 i) = if 40 * b + y1 ≤ 40 * b + i ∧ 40 * b + i < 40 * b + y1 + m1 then g.2.1 64 (40 * b + i - (40 * b + y1) + (40 * a + x1)) else g.2.1 64 (40 * b + i)
      by_cases c : y1 ≤ i ∧ i < y1 + m1
      · rw [if_pos c, if_pos (by omega), q7 (x1 + (i - y1)) (by omega)]; exact congrArg (g.2.1 64) (by omega)
      · rw [if_neg c, if_neg (by omega)]; exact zz i hi
    · exact mCopy (by omega) (by omega) hza hzb (fun y => absurd y na) (fun y => absurd y nb) (fun _ _ y => absurd eq' y) (fun _ _ _ _ => fin _) (fun x1 y1 m1 _ _ _ g1 g2 g3 g4 g5 g' f eg => absurd ⟨y1, m1, g2, g4, g5⟩ r4)
    · exact mCopy (by omega) (by omega) hza hzb (fun y => absurd y na) (fun y => absurd y nb) (fun _ _ y => absurd eq' y) (fun _ _ _ _ => fin _) (fun x1 y1 m1 _ _ _ g1 g2 g3 g4 g5 g' f eg => absurd ⟨x1, m1, g1, g3, g5⟩ r2)
  · have eq' : ¬ g.2.1 62 a = g.2.1 62 b := by rw [q3, p3]; exact eq
    exact br_f eq (mCopy (by omega) (by omega) hza hzb (fun y => absurd y na) (fun y => absurd y nb) (fun _ _ _ => fin _) (fun _ _ y => absurd y eq') (fun x1 y1 m1 _ _ y => absurd y eq'))
end Cp
