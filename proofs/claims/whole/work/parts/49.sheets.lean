/-! ===== sheets ===== -/
section Sh
variable {t n nt np nw N : Nat} {k k' : KC} {g g' : GM}
def sSh (x _ : Nat) : Bool := Nat.ble 9 x
def aShM (j : Nat) : Bool := bor j 61 (bor j 62 (bor j 63 (bor j 64 false)))
def sNo (_ : Nat) : Bool := false
theorem ble9 {s y : Nat} : sSh (9 + s) y = true := Nat.ble_eq.mpr (by omega)
theorem RelA.sheets (h : RelA t n nt np nw N k g) (f : FrC sSh sSh k k') (fg : FrH sNo aShM g g') (hs' : RS k' g') : RelA t n nt np nw N k' g' := by
  obtain ⟨⟨w1, w2, w3, w4, w5, w6, w7, w8, w9⟩, ⟨t1, t2, t3, t4⟩, ⟨p1, p2, p3, p4⟩, ⟨m1, m2, m3, m4, m5, m6, m7, m8⟩, ⟨b1, b2, b3, b4⟩, hi, ⟨v1, v2, v3, v4⟩, hs, ⟨c1, c2, c3, c4⟩, hd0⟩ := h
  have hpr : k'.2.2.2.2.1 = k.2.2.2.2.1 := congrArg (fun z => z.2.2.1) f.2.2
  refine ⟨⟨w1, (f.1 1 0 rfl).trans w2, (fg.1 10 rfl).trans w3, (f.2.1 1 3 rfl).trans (w4.trans (fg.2 7 rfl).symm), (f.2.1 1 4 rfl).trans (w5.trans (fg.2 11 rfl).symm), (f.2.1 1 5 rfl).trans (w6.trans (fg.2 12 rfl).symm), (f.2.1 1 6 rfl).trans (w7.trans (fg.2 13 rfl).symm), by rw [fg.2 7 rfl]; exact w8, by rw [fg.2 13 rfl]; exact w9⟩, ⟨t1, (f.1 1 1 rfl).trans t2, (fg.1 3 rfl).trans t3, fun x hx => ?_⟩, ⟨p1, (f.1 1 2 rfl).trans p2, (fg.1 33 rfl).trans p3, fun x hx => ?_⟩, ⟨(f.2.1 2 1 rfl).trans (m1.trans (fg.2 8 rfl).symm), (f.2.1 2 2 rfl).trans (m2.trans (fg.2 9 rfl).symm), (f.1 2 7 rfl).trans (m3.trans (fg.1 15 rfl).symm), (f.1 2 8 rfl).trans (m4.trans (fg.1 16 rfl).symm), (f.1 2 9 rfl).trans (m5.trans (fg.1 14 rfl).symm), (f.1 2 10 rfl).trans (m6.trans (fg.1 4 rfl).symm), (f.2.1 2 3 rfl).trans (m7.trans (fg.2 36 rfl).symm), (f.2.1 2 4 rfl).trans (m8.trans (fg.2 35 rfl).symm)⟩, ⟨by rw [fg.1 4 rfl]; exact b1, by rw [fg.2 8 rfl, fg.2 9 rfl]; exact b2, by rw [fg.1 15 rfl]; exact b3, by rw [fg.2 9 rfl, fg.2 36 rfl, fg.2 35 rfl]; exact b4⟩, ?_, ⟨v1, (f.1 8 3 rfl).trans v2, (fg.1 46 rfl).trans v3, fun i hi => ?_⟩, hs', ⟨c1, (f.1 5 1 rfl).trans c2, (fg.1 6 rfl).trans c3, fun i hi => ?_⟩, fun s hs => by rw [f.2.1 4 1 rfl, f.2.1 4 2 rfl]; exact hd0 s hs⟩
  · obtain ⟨B, M, cs, a1, a2, ⟨x1, x2, x3⟩, a4⟩ := t4 x hx
    exact ⟨B, M, cs, a1.z f, a2, ⟨x1, by rw [fg.2 2 rfl]; exact x2, by rw [fg.2 1 rfl]; exact x3⟩, a4⟩
  · obtain ⟨d, p, a1, a2, x1, x2, x3, x4⟩ := p4 x hx
    exact ⟨d, p, by rw [hpr]; exact a1, a2.fr f, x1, by rw [fg.2 30 rfl]; exact x2, x3, by rw [fg.2 31 rfl, fg.2 32 rfl]; exact x4⟩
  · unfold RI
    rw [f.1 0 9 rfl, f.2.1 3 1 rfl, f.2.1 3 2 rfl, f.2.1 3 3 rfl, f.2.1 3 4 rfl, f.1 3 7 rfl, f.1 3 8 rfl, f.1 3 9 rfl, f.1 3 10 rfl, fg.1 55 rfl, fg.1 56 rfl, fg.2 51 rfl, fg.2 52 rfl, fg.2 54 rfl, fg.2 53 rfl, fg.1 57 rfl, fg.1 58 rfl, fg.1 59 rfl, fg.1 60 rfl]
    exact hi
  · rw [f.2.1 8 0 rfl, f.2.1 8 1 rfl, f.2.1 8 2 rfl, fg.2 43 rfl, fg.2 44 rfl, fg.2 45 rfl]; exact v4 i hi
  · rw [f.2.1 5 0 rfl, fg.2 5 rfl]; exact c4 i hi
theorem cI_n {k : KC} {i j x y : Nat} {v : Int32} (h : ¬ (x = i ∧ y = j)) : (cI k i j v).1 x y = k.1 x y := by
  show (bif Nat.beq x i && Nat.beq y j then v else k.1 x y) = k.1 x y
  cases hb : (Nat.beq x i && Nat.beq y j) with
  | false => rfl
  | true => exact absurd ⟨Nat.eq_of_beq_eq_true (Bool.and_eq_true_iff.mp hb).1, Nat.eq_of_beq_eq_true (Bool.and_eq_true_iff.mp hb).2⟩ h
theorem cI_e {k : KC} {i j : Nat} {v : Int32} : (cI k i j v).1 i j = v := by
  show (bif Nat.beq i i && Nat.beq j j then v else k.1 i j) = v
  rw [Nat.beq_refl, Nat.beq_refl]; rfl
theorem cA_n {k : KC} {i j x y : Nat} {v : Nat → Int32} (h : ¬ (x = i ∧ y = j)) : (cA k i j v).2.1 x y = k.2.1 x y := by
  show (bif Nat.beq x i && Nat.beq y j then v else k.2.1 x y) = k.2.1 x y
  cases hb : (Nat.beq x i && Nat.beq y j) with
  | false => rfl
  | true => exact absurd ⟨Nat.eq_of_beq_eq_true (Bool.and_eq_true_iff.mp hb).1, Nat.eq_of_beq_eq_true (Bool.and_eq_true_iff.mp hb).2⟩ h
theorem cA_e {k : KC} {i j : Nat} {v : Nat → Int32} : (cA k i j v).2.1 i j = v := by
  show (bif Nat.beq i i && Nat.beq j j then v else k.2.1 i j) = v
  rw [Nat.beq_refl, Nat.beq_refl]; rfl
theorem nar0 : vp_nar .boolean (0 : Int32) = 0 := by decide
theorem nar1 : vp_nar .boolean (1 : Int32) = 1 := by decide
theorem upd_0 {f : Nat → Int32} {i : Nat} {v : Int32} : upd f i v i = v := if_pos rfl
theorem upd_n {f : Nat → Int32} {i j : Nat} {v : Int32} (h : j ≠ i) : upd f i v j = f j := if_neg h
/-- which answer, which sheet: as both say it -/
theorem op_sheet (x1 x2 x3 : Int32) (h : Rel t k g) : ∃ x, wC_sheet x 0 x1 x2 x3 k (fun r k' => ∃ y, wM_sheet y 0 x1 x2 x3 0 g (fun r' g' => r = r' ∧ Rel (t + 1) k' g')) := by
  obtain ⟨n, nt, np, nw, N, h⟩ := h
  have hu := h.up
  have hs := h.2.2.2.2.2.2.2.1
  refine ⟨2, ?_⟩
  rw [wC_sheet]
  unfold wC_isSheet
  refine cWithin ?_
  have fin : ∀ v : Int32, v = v ∧ Rel (t + 1) k g := fun v => ⟨rfl, _, _, _, _, _, hu⟩
  rcases ini_c x1 0 3 with e | e
  · rw [e]
    refine br_t rfl ⟨1, ?_⟩
    rw [wM_sheet]
    unfold wM_isSheet
    refine mIn (lo := 0) (hi := 3) rfl rfl ?_
    rw [e]
    exact br_t rfl (fin _)
  rw [e]
  refine br_f n10 (cWithin ?_)
  rcases ini_c x2 (-1) 2 with e2 | e2
  · rw [e2]
    refine br1 rfl ⟨1, ?_⟩
    rw [wM_sheet]
    unfold wM_isSheet
    refine mIn (lo := 0) (hi := 3) rfl rfl ?_
    rw [e]
    refine br_f n10 (mIn (lo := -1) (hi := 2) rfl rfl ?_)
    rw [e2]
    exact br_t rfl (fin _)
  rw [e2]
  refine br0 n10 ?_
  obtain ⟨s, _, s2, s3⟩ := ini_rng (a := 0) (b := 3) (by decide) (by decide) e
  have hin : vp_in x1 4 := by rw [s3]; exact vp_in_nI (by omega) (by decide)
  have hcl : x1.toNatClampNeg = s := by rw [s3]; exact nI_clamp (by omega)
  have rest : ∀ (kk : KC) (gg : GM) (b : Int32) (z : Nat) (so : Int32), FrC sSh sSh k kk → FrH sNo aShM g gg → (∀ s', s' < 4 → s' ≠ s → kk.1 (9 + s') 0 = k.1 (9 + s') 0 ∧ kk.1 (9 + s') 1 = k.1 (9 + s') 1 ∧ kk.2.1 (9 + s') 2 = k.2.1 (9 + s') 2 ∧ gg.2.1 61 s' = g.2.1 61 s' ∧ gg.2.1 62 s' = g.2.1 62 s' ∧ gg.2.1 63 s' = g.2.1 63 s' ∧ ∀ i, i < 40 → gg.2.1 64 (40 * s' + i) = g.2.1 64 (40 * s' + i)) → ShR kk gg s → RelA (t + 1) n nt np nw N kk gg := by
    intro kk gg b z so f fg ho hss
    refine hu.sheets f fg (fun s' h4 => ?_)
    by_cases es : s' = s
    · rw [es]; exact hss
    · obtain ⟨o0, o1, o2, o3, o4, o5, o6⟩ := ho s' h4 es
      have q := hs s' h4
      unfold ShR at q ⊢
      rw [o0, o1, o2, o3, o4, o5]
      rcases q with q | ⟨q1, q2, q3, z, q4, q5, q6, q7⟩
      · exact Or.inl q
      · exact Or.inr ⟨q1, q2, q3, z, q4, q5, q6, fun i hi => (q7 i hi).trans (o6 i (by omega)).symm⟩
  have a64 : ∀ j, bor j 64 false = false → aShM j = false → True := fun _ _ _ => trivial
  have M0 : ∀ P : Int32 → GM → Prop, (x2 = -1 → P 1 (sA (sA (sA g 61 (upd (g.2.1 61) s 0)) 62 (upd (g.2.1 62) s x2)) 63 (upd (g.2.1 63) s x3))) → (¬ x2 = -1 → ¬ x3 ≤ 40 → P (-2) g) → (¬ x2 = -1 → x3 ≤ 40 → ¬ 0 ≤ x3 → P (-14) g) → (∀ z, ¬ x2 = -1 → z ≤ 40 → x3 = nI z → ∀ g', FrH sNo (fun j => bor j 64 false) (sA (sA (sA g 61 (upd (g.2.1 61) s 1)) 62 (upd (g.2.1 62) s x2)) 63 (upd (g.2.1 63) s x3)) g' → (∀ i, i < z → g'.2.1 64 (40 * s + i) = 0) → (∀ x, (x < 40 * s ∨ 40 * s + 40 ≤ x) → g'.2.1 64 x = g.2.1 64 x) → P 1 g') → ∃ y, wM_sheet y 0 x1 x2 x3 0 g P := by
    intro P p0 p1 p2 p3
    have S0 : ∀ y, (¬ x2 = -1 → ¬ x3 ≤ 40 → P (-2) g) → (¬ x2 = -1 → x3 ≤ 40 → ¬ 0 ≤ x3 → P (-14) g) → ((x2 = -1 ∨ (0 ≤ x3 ∧ x3 ≤ 40)) → wM_sheet y 1 x1 x2 x3 0 g P) → wM_sheet (y + 1) 0 x1 x2 x3 0 g P := by
      intro y q1 q2 q3
      rw [wM_sheet]
      unfold wM_isSheet
      refine mIn (lo := 0) (hi := 3) rfl rfl ?_
      rw [e]
      refine br_f n10 (mIn (lo := -1) (hi := 2) rfl rfl ?_)
      rw [e2]
      refine br_f n10 ?_
      by_cases c : x2 = -1
      · have : x2 < 0 := by rw [c]; decide
        exact br_t this (br_t this (q3 (Or.inl c)))
      · have hx : ¬ x2 < 0 := fun z => c (by
          have r := e2
          rw [ini_iff] at r
          by_cases r2 : (-1 : Int32).toInt ≤ x2.toInt ∧ x2.toInt ≤ (2 : Int32).toInt
          · have e1 : (-1 : Int32).toInt = -1 := by decide
            have z1 := Int32.lt_iff_toInt_lt.mp z
            have z2 : (0 : Int32).toInt = 0 := by decide
            apply Int32.toInt_inj.mp
            omega
          · rw [if_neg r2] at r; exact absurd r (by decide))
        refine br_f hx ?_
        by_cases c1 : x3 ≤ 40
        · refine br_t c1 (br_f hx ?_)
          by_cases c2 : 0 ≤ x3
          · exact br_t c2 (q3 (Or.inr ⟨c2, c1⟩))
          · exact br_f c2 (q2 c c1 c2)
        · exact br_f c1 (q1 c c1)
    by_cases c : x2 = -1
    · refine ⟨3, S0 2 p1 p2 (fun _ => ?_)⟩
      have hx : x2 < 0 := by rw [c]; decide
      rw [wM_sheet, nar0, hcl]
      refine br_t hx ⟨hin, hin, hin, ?_⟩
      rw [wM_sheet]
      any_goals (intro h9; exact absurd h9 (by decide))
      refine ⟨fun _ => p0 c, fun _ => br_t hx (p0 c)⟩
    by_cases c1 : 0 ≤ x3 ∧ x3 ≤ 40
    · obtain ⟨z, hz, ez⟩ := nI_of2 (M := 40) (n := 40) (by decide) (fun y => absurd c1.1 (by rw [i_nle]; exact y)) c1.2
      have hx : ¬ x2 < 0 := fun y => c (by
          have r := e2
          rw [ini_iff] at r
          by_cases r2 : (-1 : Int32).toInt ≤ x2.toInt ∧ x2.toInt ≤ (2 : Int32).toInt
          · have e1 : (-1 : Int32).toInt = -1 := by decide
            have z1 := Int32.lt_iff_toInt_lt.mp y
            have z2 : (0 : Int32).toInt = 0 := by decide
            apply Int32.toInt_inj.mp
            omega
          · rw [if_neg r2] at r; exact absurd r (by decide))
      have L : ∀ (m j : Nat) (g1 : GM), z - j = m → j ≤ z → FrH sNo (fun j => bor j 64 false) (sA (sA (sA g 61 (upd (g.2.1 61) s 1)) 62 (upd (g.2.1 62) s x2)) 63 (upd (g.2.1 63) s x3)) g1 → (∀ i, i < j → g1.2.1 64 (40 * s + i) = 0) → (∀ x, (x < 40 * s ∨ 40 * s + 40 ≤ x) → g1.2.1 64 x = g.2.1 64 x) → wM_sheet (m + 1) 2 x1 x2 x3 (nI j) g1 P := by
        intro m
        induction m with
        | zero =>
          intro j g1 hm hj f a1 a2
          have ej : j = z := by omega
          subst ej
          rw [wM_sheet, ez]
          any_goals (intro h9; exact absurd h9 (by decide))
          exact br_t (nI_le (Nat.le_refl _) (by omega)) (p3 j c hz ez g1 f a1 a2)
        | succ m ih =>
          intro j g1 hm hj f a1 a2
          have hin2 : vp_in (nI (40 * s + j)) 160 := vp_in_nI (by omega) (by decide)
          have e40 : (40 : Int32) * x1 + nI j = nI (40 * s + j) := by
            rw [s3, show (40 : Int32) = nI 40 from rfl, pk_mul, nI_add]
          rw [wM_sheet, e40, nI_1, nI_clamp (by omega)]
          any_goals (intro h9; exact absurd h9 (by decide))
          refine br_f (by rw [ez]; exact nI_ge (by omega) (by omega)) (br_f hx ⟨hin2, ?_⟩)
          refine ih (j + 1) _ (by omega) (by omega) (f.a_ rfl) (fun i hi => ?_) (fun x hx => ?_)
          · show upd (g1.2.1 64) (40 * s + j) 0 (40 * s + i) = 0
            by_cases ei : i = j
            · rw [ei, pk_us]
            · rw [pk_un (by omega)]; exact a1 i (by omega)
          · show upd (g1.2.1 64) (40 * s + j) 0 x = _
            rw [pk_un (by omega)]; exact a2 x hx
      refine ⟨z - 0 + 1 + 1 + 1, S0 _ p1 p2 (fun _ => ?_)⟩
      rw [wM_sheet, nar1, hcl]
      exact br_f hx ⟨hin, hin, hin, L _ 0 _ rfl (Nat.zero_le _) FrH.rf (fun i hi => absurd hi (Nat.not_lt_zero i)) (fun _ _ => rfl)⟩
    · exact ⟨1, S0 0 p1 p2 (fun y => absurd (y.resolve_left c) c1)⟩
  have oth : ∀ (kk : KC) (v0 v1 : Int32) (f : Nat → Int32) (s' : Nat), s' ≠ s → (cA (cI (cI kk (9 + s) 0 v0) (9 + s) 1 v1) (9 + s) 2 f).1 (9 + s') 0 = kk.1 (9 + s') 0 ∧ (cA (cI (cI kk (9 + s) 0 v0) (9 + s) 1 v1) (9 + s) 2 f).1 (9 + s') 1 = kk.1 (9 + s') 1 ∧ (cA (cI (cI kk (9 + s) 0 v0) (9 + s) 1 v1) (9 + s) 2 f).2.1 (9 + s') 2 = kk.2.1 (9 + s') 2 := by
    intro kk v0 v1 f s' hne
    refine ⟨?_, ?_, cA_n (fun z => hne (by omega))⟩
    · show (cI (cI kk (9 + s) 0 v0) (9 + s) 1 v1).1 (9 + s') 0 = _
      rw [cI_n (fun z => hne (by omega)), cI_n (fun z => hne (by omega))]
    · show (cI (cI kk (9 + s) 0 v0) (9 + s) 1 v1).1 (9 + s') 1 = _
      rw [cI_n (fun z => hne (by omega)), cI_n (fun z => hne (by omega))]
  by_cases c : x2 = -1
  · -- the SHEET is taken away
    refine br_t c (br_t c ?_)
    rw [wC_sheet]
    any_goals (intro h9; exact absurd h9 (by decide))
    unfold wC_X3_become
    rw [hcl]
    refine ⟨hin, fun i11 e11 => br1 c (M0 _ (fun _ => ⟨rfl, n, nt, np, nw, N, ?_⟩) (fun z => absurd c z) (fun z => absurd c z) (fun _ z => absurd c z))⟩
    subst e11
    refine rest _ _ 0 0 0 (((FrC.rf.i_ ble9).i_ ble9).a_ ble9) (((FrH.rf.a_ rfl).a_ rfl).a_ rfl) (fun s' h4 hne => ?_) (Or.inl ⟨upd_0, c ▸ ?_⟩)
    · obtain ⟨z1, z2, z3⟩ := oth k x2 0 (fun x => if x < 40 then (0 : Int32) else k.2.1 (9 + s) 2 x) s' hne
      exact ⟨z1, z2, z3, upd_n hne, upd_n hne, upd_n hne, fun _ _ => rfl⟩
    · show (cI (cI k (9 + s) 0 x2) (9 + s) 1 0).1 (9 + s) 0 = x2
      rw [cI_n (by omega), cI_e]
  have c0 : ∀ z : Prop, x2 = -1 → z := fun z y => absurd y c
  refine br_f c ?_
  by_cases c1 : x3 ≤ 40
  · refine br_t c1 (br_f c ?_)
    by_cases c2 : 0 ≤ x3
    · obtain ⟨z, hz, ez⟩ := nI_of2 (M := 40) (n := 40) (by decide) (fun y => absurd c2 (by rw [i_nle]; exact y)) c1
      refine br_t c2 ?_
      rw [wC_sheet]
      any_goals (intro h9; exact absurd h9 (by decide))
      unfold wC_X3_become
      rw [hcl]
      refine ⟨hin, fun i11 e11 => br0 c (M0 _ (fun y => absurd y c) (fun _ y => absurd c1 y) (fun _ _ y => absurd c2 y) (fun z' _ hz' ez' g' f d1 d2 => ⟨rfl, n, nt, np, nw, N, ?_⟩))⟩
      subst e11
      have ezz : z' = z := (nI_eq (by omega) (by omega)).mp (ez'.symm.trans ez)
      subst ezz
      obtain ⟨so, hso, eso⟩ : ∃ so, so < 3 ∧ x2 = nI so := by
        have r := e2
        rw [ini_iff] at r
        by_cases r2 : (-1 : Int32).toInt ≤ x2.toInt ∧ x2.toInt ≤ (2 : Int32).toInt
        · have e1 : (-1 : Int32).toInt = -1 := by decide
          have z2 : (2 : Int32).toInt = 2 := by decide
          have z3 : x2.toInt ≠ -1 := fun y => c (Int32.toInt_inj.mp (y.trans e1.symm))
          refine ⟨x2.toInt.toNat, by omega, Int32.toInt_inj.mp ?_⟩
          rw [nI_toInt (by omega)]; omega
        · rw [if_neg r2] at r; exact absurd r (by decide)
      have f' : FrH sNo aShM g g' := ⟨fun j q => f.1 j q, fun j q => by
        have q1 := bor_f q
        have q2 := bor_f q1.2
        have q3 := bor_f q2.2
        have ne : ∀ a, Nat.beq j a = false → j ≠ a := fun a y w => by rw [w, Nat.beq_refl] at y; exact absurd y (by decide)
        rw [f.2 j q3.2]
        show (bif Nat.beq j 63 then upd (g.2.1 63) s x3 else bif Nat.beq j 62 then upd (g.2.1 62) s x2 else bif Nat.beq j 61 then upd (g.2.1 61) s 1 else g.2.1 j) = g.2.1 j
        rw [q3.1, q2.1, q1.1]; rfl⟩
      refine rest _ _ 0 0 0 (((FrC.rf.i_ ble9).i_ ble9).a_ ble9) f' (fun s' h4 hne => ?_) (Or.inr ⟨?_, ⟨so, hso, ?_⟩, ?_, z', hz', ?_, ?_, fun i hi => ?_⟩)
      · obtain ⟨z1, z2, z3⟩ := oth k x2 x3 (fun x => if x < 40 then (0 : Int32) else k.2.1 (9 + s) 2 x) s' hne
        refine ⟨z1, z2, z3, ?_, ?_, ?_, fun i hi => d2 _ (by omega)⟩
        · rw [f.2 61 rfl]; exact upd_n hne
        · rw [f.2 62 rfl]; exact upd_n hne
        · rw [f.2 63 rfl]; exact upd_n hne
      · rw [f.2 61 rfl]; exact upd_0
      · show (cI (cI k (9 + s) 0 x2) (9 + s) 1 x3).1 (9 + s) 0 = nI so
        rw [cI_n (by omega), cI_e]; exact eso
      · rw [f.2 62 rfl]
        show upd (g.2.1 62) s x2 s = (cI (cI k (9 + s) 0 x2) (9 + s) 1 x3).1 (9 + s) 0
        rw [cI_n (by omega), cI_e]; exact upd_0
      · show (cI (cI k (9 + s) 0 x2) (9 + s) 1 x3).1 (9 + s) 1 = _
        rw [cI_e]; exact ez
      · rw [f.2 63 rfl]
        show upd (g.2.1 63) s x3 s = _
        rw [upd_0]; exact ez
      · rw [d1 i hi, cA_e, if_pos (by omega)]
    · exact br_f c2 (M0 _ (fun y => absurd y c) (fun _ y => absurd c1 y) (fun _ _ _ => fin _) (fun z _ _ ez _ _ _ _ => absurd (by rw [ez]; exact nI_pos' (by omega)) c2))
  · refine br_f c1 (M0 _ (fun y => absurd y c) (fun _ _ => fin _) (fun _ y => absurd y c1) (fun z _ hz ez _ _ _ _ => absurd (by rw [ez]; exact nI_le (b := 40) hz (by decide)) c1))
end Sh
