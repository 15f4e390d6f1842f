/-! ===== trials ===== -/
section Ts
variable {t n nt np nw N : Nat} {k k' : KC} {g g' : GM}
theorem RelA.ups {u : Nat} (h : RelA t n nt np nw N k g) (hu : t ≤ u) : RelA u n nt np nw N k g := by
  induction u with
  | zero => rw [Nat.le_zero.mp hu] at h; exact h
  | succ u ih =>
    rcases Nat.eq_or_lt_of_le hu with e | e
    · rw [← e]; exact h
    · exact (ih (by omega)).up
theorem Rel.ups {u : Nat} (h : Rel t k g) (hu : t ≤ u) : Rel u k g := by
  obtain ⟨n, nt, np, nw, N, h⟩ := h
  exact ⟨n, nt, np, nw, N, h.ups hu⟩
theorem noL {x : Int32} : ¬ (lg_cmp x.toInt64 (-4611686018427387904 : Int64)) = 0 := fun z => by
  rw [lg_cmp_eq] at z
  have e := congrArg Int64.toInt z
  rw [Int32.toInt_toInt64] at e
  have : (-4611686018427387904 : Int64).toInt = -4611686018427387904 := by decide
  have h1 := Int32.le_toInt x
  omega
theorem yesL : (lg_cmp (-4611686018427387904 : Int64) (-4611686018427387904 : Int64)) = 0 := by decide
theorem mTrStep {s z j c cnt : Nat} {x3 r : Int32} {P : Int32 → GM → Prop} (hs : s < 4) (hz : z ≤ 40) (h63 : g.2.1 63 s = nI z) (hj : j < cnt) (hc : cnt ≤ 20) (q0 : ¬ runOk x3 (nI (2 * j + 2)) z → P (-12) g) (q1 : ∀ a, x3 = nI a → a + (2 * j + 2) ≤ z → wM_trial (g.2.1 64 (40 * s + a + 2 * j)) (g.2.1 64 (40 * s + a + 2 * j + 1)) g (fun r_14 k_14 => (((lg_cmp r_14 (-4611686018427387904 : Int64)) = 0 → wM_trials c 1 (nI s) 0 x3 (nI cnt) r (nI (j + 1)) k_14 P) ∧ (¬ (lg_cmp r_14 (-4611686018427387904 : Int64)) = 0 → wM_trials c 1 (nI s) 0 x3 (nI cnt) (r + 1) (nI (j + 1)) k_14 P)))) : wM_trials (c + 1) 1 (nI s) 0 x3 (nI cnt) r (nI j) g P := by
  rw [wM_trials]
  any_goals (intro h9; exact absurd h9 (by decide))
  have e2 : (2 : Int32) * nI j = nI (2 * j) := pk_mul 2 j
  have w2 : (nI (2 * j)).toInt = 2 * j := nI_toInt (by omega)
  have wz : (nI z).toInt = z := nI_toInt (by omega)
  have w3 : (nI z - nI (2 * j)).toInt = (nI z).toInt - (nI (2 * j)).toInt := i_sub (by omega) (by omega)
  have wt : (2 : Int32).toInt = 2 := by decide
  have w4 : (nI z - nI (2 * j) - 2).toInt = (nI z - nI (2 * j)).toInt - (2 : Int32).toInt := i_sub (by omega) (by omega)
  rw [e2, nI_1 j, nI_clamp (n := s) (by omega), h63, Int32.add_zero]
  refine br_f (nI_ge hj (by omega)) ⟨fun c1 => q0 (fun ⟨a, b, h1, h2, h3⟩ => absurd c1 (by rw [h2]; exact nI_pos (by omega))), fun c1 => ⟨vp_in_nI hs (by decide), fun c2 => ?_, fun c2 => q0 (fun ⟨a, b, h1, h2, h3⟩ => c2 ?_)⟩⟩
  · obtain ⟨a, ha, ea⟩ := nI_of c1
    have e3 : x3.toInt = a := by rw [ea]; exact nI_toInt ha
    have := Int32.le_iff_toInt_le.mp c2
    have haz : a + (2 * j + 2) ≤ z := by omega
    have f1 : (40 : Int32) * nI s + x3 + nI (2 * j) = nI (40 * s + a + 2 * j) := by
      rw [ea, show (40 : Int32) = nI 40 from rfl, pk_mul, nI_add, nI_add]
    rw [f1, nI_1 (40 * s + a + 2 * j), nI_clamp (n := 40 * s + a + 2 * j) (by omega), nI_clamp (n := 40 * s + a + 2 * j + 1) (by omega)]
    exact ⟨vp_in_nI (by omega) (by decide), vp_in_nI (by omega) (by decide), q1 a ea haz⟩
  · have e5 := (nI_eq (by omega) (by omega)).mp h3
    have e3 : x3.toInt = a := by rw [h2]; exact nI_toInt (by omega)
    apply Int32.le_iff_toInt_le.mpr
    omega
abbrev Tm := Md × (Nat → Int32) × (Nat → Int32)
def T1 (w : Wd) (x : Tm) (set : Int32) (e : Nat) : Tm := (trM w x.1 set e, trE (wn w) set e x.2.1, upd x.2.2 e (x.2.2 e + 1))
def vld (w : Wd) (a b : Int32) : Bool := decide (ini a 0 (nI (2 ^ wn w) - 1) = 1) && decide (ini b 0 3 = 1)
def sq (w : Wd) (S : Nat → Int32) (o : Nat) (x : Tm) : Nat → Tm × Int32
  | 0 => (x, 0)
  | j + 1 => if vld w (S (o + 2 * j)) (S (o + 2 * j + 1)) = true then (T1 w (sq w S o x j).1 (S (o + 2 * j)) (S (o + 2 * j + 1)).toNatClampNeg, (sq w S o x j).2 + 1) else sq w S o x j
def CA (w : Wd) (r : Nat) (k : KC) (x : Tm) (k1 : KC) : Prop := FrC (oMd 2) (aMd 2) k k1 ∧ WC w r k1 ∧ MC 2 r x.1 k1 ∧ k1.2.1 2 3 = x.2.1 ∧ k1.2.1 2 4 = x.2.2
def GA (w : Wd) (B : Nat → Nat) (M r : Nat) (g : GM) (x : Tm) (g1 : GM) : Prop := FrH sDy aDy g g1 ∧ WM w B M r g1 ∧ MM x.1 g1 ∧ g1.2.1 36 = x.2.1 ∧ g1.2.1 35 = x.2.2
theorem vld_t {w : Wd} {a b : Int32} (h : vld w a b = true) : ini a 0 (nI (2 ^ wn w) - 1) = 1 ∧ ini b 0 3 = 1 ∧ b.toNatClampNeg < 4 ∧ b = nI b.toNatClampNeg := by
  have h2 := Bool.and_eq_true_iff.mp h
  have e := of_decide_eq_true h2.2
  obtain ⟨f, _, hf, ef⟩ := ini_rng (a := 0) (b := 3) (by decide) (by decide) e
  have ec : b.toNatClampNeg = f := by rw [ef]; exact nI_clamp (by omega)
  exact ⟨of_decide_eq_true h2.1, e, by omega, by rw [ec]; exact ef⟩
theorem vld_f {w : Wd} {a b : Int32} (h : ¬ vld w a b = true) : ini a 0 (nI (2 ^ wn w) - 1) = 0 ∨ (ini a 0 (nI (2 ^ wn w) - 1) = 1 ∧ ini b 0 3 = 0) := by
  rcases ini_c a 0 (nI (2 ^ wn w) - 1) with e | e
  · exact Or.inl e
  rcases ini_c b 0 3 with e2 | e2
  · exact Or.inr ⟨e, e2⟩
  · exact absurd (Bool.and_eq_true_iff.mpr ⟨decide_eq_true e, decide_eq_true e2⟩) h
theorem sq_t {w : Wd} {S : Nat → Int32} {o : Nat} {x : Tm} {j : Nat} (h : vld w (S (o + 2 * j)) (S (o + 2 * j + 1)) = true) : sq w S o x (j + 1) = (T1 w (sq w S o x j).1 (S (o + 2 * j)) (S (o + 2 * j + 1)).toNatClampNeg, (sq w S o x j).2 + 1) := if_pos h
theorem sq_f {w : Wd} {S : Nat → Int32} {o : Nat} {x : Tm} {j : Nat} (h : ¬ vld w (S (o + 2 * j)) (S (o + 2 * j + 1)) = true) : sq w S o x (j + 1) = sq w S o x j := if_neg h
theorem sq_ok {w : Wd} {S : Nat → Int32} {o : Nat} {x : Tm} {u : Nat} (h : MOk u x.1) : ∀ j, MOk (u + j) (sq w S o x j).1.1
  | 0 => h
  | j + 1 => by
    by_cases c : vld w (S (o + 2 * j)) (S (o + 2 * j + 1)) = true
    · rw [sq_t c]; exact trM_ok (sq_ok h j)
    · rw [sq_f c]; exact (sq_ok h j).mono (by omega)
theorem sq_cnt {w : Wd} {S : Nat → Int32} {o : Nat} {x : Tm} {U : Nat} (hw : wn w ≤ 8) (h : Cnt U (mon x.1) x.2.1 x.2.2) : ∀ j, Cnt (U + j) (mon (sq w S o x j).1.1) (sq w S o x j).1.2.1 (sq w S o x j).1.2.2
  | 0 => h
  | j + 1 => by
    by_cases c : vld w (S (o + 2 * j)) (S (o + 2 * j + 1)) = true
    · rw [sq_t c]; exact (sq_cnt hw h j).tr (vld_t c).2.2.1 hw
    · rw [sq_f c]; exact (sq_cnt hw h j).mono (by omega)
theorem sq_z {w : Wd} {S : Nat → Int32} {o : Nat} {x : Tm} {s : Nat} (hs : wn w ≤ s) : ∀ j, mst (sq w S o x j).1.1 s = mst x.1 s ∧ mon (sq w S o x j).1.1 s = mon x.1 s
  | 0 => ⟨rfl, rfl⟩
  | j + 1 => by
    by_cases c : vld w (S (o + 2 * j)) (S (o + 2 * j + 1)) = true
    · rw [sq_t c]; exact ⟨(trM_z hs).1.trans (sq_z hs j).1, (trM_z hs).2.trans (sq_z hs j).2⟩
    · rw [sq_f c]; exact sq_z hs j
theorem sq_dy {w : Wd} {S : Nat → Int32} {o : Nat} {x : Tm} : ∀ j, mdy (sq w S o x j).1.1 = mdy x.1
  | 0 => rfl
  | j + 1 => by
    by_cases c : vld w (S (o + 2 * j)) (S (o + 2 * j + 1)) = true
    · rw [sq_t c]; exact sq_dy j
    · rw [sq_f c]; exact sq_dy j
section TL
variable {w : Wd} {r M : Nat} {B : Nat → Nat} {k0 : KC} {g0 : GM} {x : Tm} {s z cnt a u : Nat}
/-- where the walk ends, and with which answer -/
def EndT (w : Wd) (S : Nat → Int32) (o : Nat) (x : Tm) (a z cnt J : Nat) (v : Int32) : Prop := J ≤ cnt ∧ (∀ i, i < J → a + (2 * i + 2) ≤ z) ∧ ((J = cnt ∧ v = (sq w S o x J).2) ∨ (J < cnt ∧ ¬ a + (2 * J + 2) ≤ z ∧ v = -12))
theorem runN {a m z : Nat} (ha : a < 2 ^ 31) (hm : m < 2 ^ 31) (hz : z < 2 ^ 31) : runOk (nI a) (nI m) z ↔ a + m ≤ z := by
  constructor
  · rintro ⟨a', m', h1, h2, h3⟩
    have e1 := (nI_eq ha (by omega)).mp h2
    have e2 := (nI_eq hm (by omega)).mp h3
    omega
  · intro h; exact ⟨a, m, h, rfl, rfl⟩
theorem cTrL {Q : Int32 → KC → Prop} (hw : WOk w) (ho : MOk u x.1) (hu : u + 20 < 2 ^ 30) (hs : s < 4) (hz : z ≤ 40) (hc : cnt ≤ 20) (ha : a < 2 ^ 31) (h1 : k0.1 (9 + s) 1 = nI z) (S : Nat → Int32) (hS : ∀ i, i < z → k0.2.1 (9 + s) 2 i = S (40 * s + i)) (q : ∀ J v k', EndT w S (40 * s + a) x a z cnt J v → CA w r k0 (sq w S (40 * s + a) x J).1 k' → Q v k') : ∀ (c j : Nat) (k : KC), cnt - j = c → j ≤ cnt → (∀ i, i < j → a + (2 * i + 2) ≤ z) → CA w r k0 (sq w S (40 * s + a) x j).1 k → wC_trials (c + 1) 1 0 0 (nI a) (nI cnt) (9 + s) (sq w S (40 * s + a) x j).2 (nI j) k Q := by
  intro c
  induction c with
  | zero =>
    intro j k hm hj hr hk
    have ej : j = cnt := by omega
    subst ej
    rw [wC_trials]
    any_goals (intro h9; exact absurd h9 (by decide))
    exact br_t (nI_le (Nat.le_refl _) (by omega)) (q _ _ _ ⟨Nat.le_refl _, hr, Or.inl ⟨rfl, rfl⟩⟩ hk)
  | succ c ih =>
    intro j k hm hj hr hk
    obtain ⟨f, hwc, hmc, e3, e4⟩ := hk
    have s1 : k.1 (9 + s) 1 = nI z := (f.1 (9 + s) 1 (co_4 (P := fun s => oMd 2 (9 + s) 1 = false) rfl rfl rfl rfl hs)).trans h1
    have s2 : k.2.1 (9 + s) 2 = k0.2.1 (9 + s) 2 := f.2.1 (9 + s) 2 (co_4 (P := fun s => aMd 2 (9 + s) 2 = false) rfl rfl rfl rfl hs)
    rw [wC_trials]
    any_goals (intro h9; exact absurd h9 (by decide))
    have e2 : (2 : Int32) * nI j = nI (2 * j) := pk_mul 2 j
    have e22 : nI (2 * j) + (2 : Int32) = nI (2 * j + 2) := nI_add (2 * j) 2
    rw [e2, e22, nI_1 j]
    refine br_f (nI_ge (a := j) (b := cnt) (by omega) (by omega)) (cRun s1 hz (fun ro => br0 n10 ?_) (fun ro => br1 rfl (q j _ _ ⟨hj, hr, Or.inr ⟨by omega, fun y => ro ((runN ha (by omega) (by omega)).mpr y), rfl⟩⟩ ⟨f, hwc, hmc, e3, e4⟩)))
    have ra := (runN ha (by omega) (by omega)).mp ro
    rw [nI_add, nI_1 (a + 2 * j), nI_clamp (n := a + 2 * j) (by omega), nI_clamp (n := a + 2 * j + 1) (by omega)]
    refine ⟨vp_in_nI (by omega) (by decide), vp_in_nI (by omega) (by decide), fun v14 ev => ?_⟩
    have v1 : k.2.1 (9 + s) 2 (a + 2 * j) = S (40 * s + a + 2 * j) := by rw [s2, hS (a + 2 * j) (by omega), Nat.add_assoc]
    have v2 : k.2.1 (9 + s) 2 (a + 2 * j + 1) = S (40 * s + a + 2 * j + 1) := by rw [s2, hS (a + 2 * j + 1) (by omega)]; exact congrArg S (by omega)
    rw [v2] at ev
    subst ev
    rw [v1]
    have hr' : ∀ i, i < j + 1 → a + (2 * i + 2) ≤ z := fun i hi => by omega
    have hn := hw.1
    refine cSet hn hwc.1 ?_
    by_cases cv : vld w (S (40 * s + a + 2 * j)) (S (40 * s + a + 2 * j + 1)) = true
    · obtain ⟨y1, y2, y3, y4⟩ := vld_t cv
      rw [y1]
      unfold wC_isEnd
      refine br_f n10 (cWithin ?_)
      rw [y2]
      refine br_f n10 ?_
      rw [y4]
      refine cTrial hw hwc hmc (Or.inl rfl) (sq_ok ho j) (by omega) y3 (fun k' f' hm' z3 z4 z6 _ => ?_)
      have hx := ih (j + 1) k' (by omega) (by omega) hr'
      rw [sq_t cv] at hx
      exact hx ⟨f.tr f', hwc.fr (Or.inl rfl) f', hm', by rw [z3, e3]; rfl, by rw [z4, e4]; rfl⟩
    · have hx := ih (j + 1) k (by omega) (by omega) hr'
      rw [sq_f cv] at hx
      replace hx := hx ⟨f, hwc, hmc, e3, e4⟩
      rcases vld_f cv with y | ⟨y1, y2⟩
      · rw [y]
        exact br_t rfl hx
      · rw [y1]
        unfold wC_isEnd
        refine br_f n10 (cWithin ?_)
        rw [y2]
        exact br_t rfl hx
theorem mTrL {P : Int32 → GM → Prop} (hw : WOk w) (hs : s < 4) (hz : z ≤ 40) (hc : cnt ≤ 20) (ha : a < 2 ^ 31) (h63 : g0.2.1 63 s = nI z) {J : Nat} {v : Int32} (hJ : EndT w (g0.2.1 64) (40 * s + a) x a z cnt J v) (q : ∀ g', GA w B M r g0 (sq w (g0.2.1 64) (40 * s + a) x J).1 g' → P v g') : ∀ (c j : Nat) (g : GM), J - j = c → j ≤ J → GA w B M r g0 (sq w (g0.2.1 64) (40 * s + a) x j).1 g → wM_trials (c + 1) 1 (nI s) 0 (nI a) (nI cnt) (sq w (g0.2.1 64) (40 * s + a) x j).2 (nI j) g P := by
  have hJ' := hJ
  obtain ⟨j1, j2, j3⟩ := hJ'
  intro c
  induction c with
  | zero =>
    intro j g hm hj hg
    have ej : j = J := by omega
    subst ej
    rcases j3 with ⟨j4, j5⟩ | ⟨j4, j5, j6⟩
    · rw [wM_trials]
      any_goals (intro h9; exact absurd h9 (by decide))
      rw [← j4, ← j5]
      exact br_t (nI_le (Nat.le_refl _) (by omega)) (q g hg)
    · exact mTrStep hs hz (by rw [hg.1.2 63 rfl]; exact h63) j4 hc (fun _ => j6 ▸ q g hg) (fun a' e1 e2 => absurd ((nI_eq ha (by omega)).mp e1 ▸ e2) j5)
  | succ c ih =>
    intro j g hm hj hg
    have ra := j2 j (by omega)
    obtain ⟨f, hwm, hmm, e3, e4⟩ := hg
    have s64 : g.2.1 64 = g0.2.1 64 := f.2 64 rfl
    have hn := hw.1
    -- one step
    have one : wM_trial (g0.2.1 64 (40 * s + a + 2 * j)) (g0.2.1 64 (40 * s + a + 2 * j + 1)) g (fun r_14 k_14 => (((lg_cmp r_14 (-4611686018427387904 : Int64)) = 0 → wM_trials (c + 1) 1 (nI s) 0 (nI a) (nI cnt) (sq w (g0.2.1 64) (40 * s + a) x j).2 (nI (j + 1)) k_14 P) ∧ (¬ (lg_cmp r_14 (-4611686018427387904 : Int64)) = 0 → wM_trials (c + 1) 1 (nI s) 0 (nI a) (nI cnt) ((sq w (g0.2.1 64) (40 * s + a) x j).2 + 1) (nI (j + 1)) k_14 P))) → wM_trials (c + 1 + 1) 1 (nI s) 0 (nI a) (nI cnt) (sq w (g0.2.1 64) (40 * s + a) x j).2 (nI j) g P := by
      intro hF
      refine mTrStep hs hz (by rw [f.2 63 rfl]; exact h63) (by omega) hc (fun y => absurd ((runN ha (by omega) (by omega)).mpr ra) y) (fun a' e1 e2 => ?_)
      have ea : a' = a := ((nI_eq ha (by omega)).mp e1).symm
      rw [ea, s64]
      exact hF
    refine one ?_
    unfold wM_trial
    refine mSet hn hwm.1 ?_
    by_cases cv : vld w (g0.2.1 64 (40 * s + a + 2 * j)) (g0.2.1 64 (40 * s + a + 2 * j + 1)) = true
    · obtain ⟨y1, y2, y3, y4⟩ := vld_t cv
      rw [y1]
      refine br_f n10 (mIn (lo := 0) (hi := 3) rfl rfl ?_)
      rw [y2]
      refine br0 n10 ?_
      rw [y4]
      refine mCounts hw hwm.1 y3 ?_
      have f0 : FrH sDy aDy g (sA (sA g 35 (upd (g.2.1 35) (g0.2.1 64 (40 * s + a + 2 * j + 1)).toNatClampNeg (g.2.1 35 (g0.2.1 64 (40 * s + a + 2 * j + 1)).toNatClampNeg + 1))) 36 (trE (wn w) (g0.2.1 64 (40 * s + a + 2 * j)) (g0.2.1 64 (40 * s + a + 2 * j + 1)).toNatClampNeg (g.2.1 36))) := (FrH.rf.a_ rfl).a_ rfl
      refine mTrial hw (hwm.dy f0) hmm y3 (fun g' f' hm' z5 z6 _ => br_f noL ?_)
      have hx := ih (j + 1) g' (by omega) (by omega)
      rw [sq_t cv] at hx
      refine hx ⟨f.tr (f0.tr f'), (hwm.dy f0).dy f', hm', ?_, ?_⟩
      · rw [z6]
        show trE _ _ _ (g.2.1 36) = _
        rw [e3]; rfl
      · rw [z5]
        show upd (g.2.1 35) _ _ = _
        rw [e4]; rfl
    · have hF := ih (j + 1) g (by omega) (by omega) (by rw [sq_f cv]; exact ⟨f, hwm, hmm, e3, e4⟩)
      rw [sq_f cv] at hF
      rcases vld_f cv with y | ⟨y1, y2⟩
      · rw [y]
        exact br_t rfl (br_t yesL hF)
      · rw [y1]
        refine br_f n10 (mIn (lo := 0) (hi := 3) rfl rfl ?_)
        rw [y2]
        exact br1 rfl (br_t yesL hF)
end TL
theorem op_trials (x1 x2 x3 x4 : Int32) (ht : t < 2000) (h : Rel t k g) : ∃ x, wC_trials x 0 x1 x2 x3 x4 0 0 0 k (fun r k' => ∃ y, wM_trials y 0 x1 x2 x3 x4 0 0 g (fun r' g' => r = r' ∧ Rel (t + 1) k' g')) := by
  obtain ⟨n, nt, np, nw, N, h⟩ := h
  have hu := h.up
  have hs := h.2.2.2.2.2.2.2.1
  have fin : ∀ v : Int32, v = v ∧ Rel (t + 1) k g := fun v => ⟨rfl, _, _, _, _, _, hu⟩
  rcases ini_c x1 0 3 with e | e
  · refine ⟨1, ?_⟩
    rw [wC_trials]
    unfold wC_isSheet
    refine cWithin ?_
    rw [e]
    refine br_t rfl ⟨1, ?_⟩
    rw [wM_trials]
    unfold wM_isSheet
    refine mIn (lo := 0) (hi := 3) rfl rfl ?_
    rw [e]
    exact br_t rfl (fin _)
  obtain ⟨s, _, s2, s3⟩ := ini_rng (a := 0) (b := 3) (by decide) (by decide) e
  subst s3
  have hcl : (nI s).toNatClampNeg = s := nI_clamp (by omega)
  have hin : vp_in (nI s) 4 := vp_in_nI (by omega) (by decide)
  have M0 : ∀ P : Int32 → GM → Prop, (ini x2 0 2 = 0 → P (-2) g) → (ini x2 0 2 = 1 → ini x4 0 20 = 0 → P (-2) g) → (ini x2 0 2 = 1 → ini x4 0 20 = 1 → g.2.1 61 s = 0 → P (-11) g) → (ini x2 0 2 = 1 → ini x4 0 20 = 1 → ¬ g.2.1 61 s = 0 → ¬ g.2.1 62 s = x2 → P (-13) g) → (ini x2 0 2 = 1 → ini x4 0 20 = 1 → ¬ g.2.1 61 s = 0 → g.2.1 62 s = x2 → ∃ F, wM_trials F 1 (nI s) 0 x3 x4 0 0 g P) → ∃ y, wM_trials y 0 (nI s) x2 x3 x4 0 0 g P := by
    intro P p0 p1 p2 p3 p4
    have S : ∀ F, (ini x2 0 2 = 1 → ini x4 0 20 = 1 → ¬ g.2.1 61 s = 0 → g.2.1 62 s = x2 → wM_trials F 1 (nI s) 0 x3 x4 0 0 g P) → wM_trials (F + 1) 0 (nI s) x2 x3 x4 0 0 g P := by
      intro F hF
      rw [wM_trials]
      unfold wM_isSheet
      refine mIn (lo := 0) (hi := 3) rfl rfl ?_
      rw [e]
      refine br_f n10 (mIn (lo := 0) (hi := 2) rfl rfl ?_)
      rcases ini_c x2 0 2 with e2 | e2
      · rw [e2]; exact br_t rfl (p0 e2)
      rw [e2]
      refine br_f n10 (mIn (lo := 0) (hi := 20) rfl rfl ?_)
      rcases ini_c x4 0 20 with e4 | e4
      · rw [e4]; exact br1 rfl (p1 e2 e4)
      rw [e4, hcl]
      refine br0 n10 ⟨hin, fun c => ⟨hin, fun d => absurd c d, fun _ => p2 e2 e4 c⟩, fun c => ⟨hin, fun d => ⟨hin, fun _ => hF e2 e4 c d, fun y => absurd y c⟩, fun d => p3 e2 e4 c d⟩⟩
    by_cases c : ini x2 0 2 = 1 ∧ ini x4 0 20 = 1 ∧ ¬ g.2.1 61 s = 0 ∧ g.2.1 62 s = x2
    · obtain ⟨F, hF⟩ := p4 c.1 c.2.1 c.2.2.1 c.2.2.2
      exact ⟨F + 1, S F (fun _ _ _ _ => hF)⟩
    · exact ⟨1, S 0 (fun a1 a2 a3 a4 => absurd ⟨a1, a2, a3, a4⟩ c)⟩
  have C0 : ∀ F (Q : Int32 → KC → Prop), (ini x2 0 2 = 0 → Q (-2) k) → (ini x2 0 2 = 1 → ini x4 0 20 = 0 → Q (-2) k) → (ini x2 0 2 = 1 → ini x4 0 20 = 1 → k.1 (9 + s) 0 = -1 → Q (-11) k) → (ini x2 0 2 = 1 → ini x4 0 20 = 1 → ¬ k.1 (9 + s) 0 = -1 → ¬ k.1 (9 + s) 0 = x2 → Q (-13) k) → (ini x2 0 2 = 1 → ini x4 0 20 = 1 → ¬ k.1 (9 + s) 0 = -1 → k.1 (9 + s) 0 = x2 → wC_trials F 1 0 0 x3 x4 (9 + s) 0 0 k Q) → wC_trials (F + 1) 0 (nI s) x2 x3 x4 0 0 0 k Q := by
    intro F Q p0 p1 p2 p3 p4
    rw [wC_trials]
    unfold wC_isSheet
    refine cWithin ?_
    rw [e]
    refine br_f n10 (cWithin ?_)
    rcases ini_c x2 0 2 with e2 | e2
    · rw [e2]; exact br_t rfl (p0 e2)
    rw [e2]
    refine br_f n10 (cWithin ?_)
    rcases ini_c x4 0 20 with e4 | e4
    · rw [e4]; exact br1 rfl (p1 e2 e4)
    rw [e4, hcl]
    refine br0 n10 ⟨hin, fun i7 e7 => ?_⟩
    subst e7
    unfold wC_X3_isMissing
    exact ⟨fun c => br_t rfl ⟨fun d => p4 e2 e4 c d, fun d => p3 e2 e4 c d⟩, fun c => br_f n10 (p2 e2 e4 c)⟩
  have W := hs s (by omega)
  have W1 : g.2.1 61 s = 0 ↔ k.1 (9 + s) 0 = -1 := by
    rcases W with ⟨a, b⟩ | ⟨a, ⟨so, b1, b2⟩, c⟩
    · exact ⟨fun _ => b, fun _ => a⟩
    · rw [a, b2]; exact ⟨fun y => absurd y n10, fun y => absurd y (nI_n1 (by omega))⟩
  have W2 : ¬ g.2.1 61 s = 0 → g.2.1 62 s = k.1 (9 + s) 0 := by
    intro y
    rcases W with ⟨a, b⟩ | ⟨a, _, c, _⟩
    · exact absurd a y
    · exact c
  -- the five ways that answer at once
  have x20 : ∀ {P : Prop}, ini x2 0 2 = 0 → ini x2 0 2 = 1 → P := fun a b => absurd (a.symm.trans b) (by decide)
  have x40 : ∀ {P : Prop}, ini x4 0 20 = 0 → ini x4 0 20 = 1 → P := fun a b => absurd (a.symm.trans b) (by decide)
  have B1 : ∀ F, (ini x2 0 2 = 1 → ini x4 0 20 = 1 → ¬ k.1 (9 + s) 0 = -1 → k.1 (9 + s) 0 = x2 → wC_trials F 1 0 0 x3 x4 (9 + s) 0 0 k (fun r k' => ∃ y, wM_trials y 0 (nI s) x2 x3 x4 0 0 g (fun r' g' => r = r' ∧ Rel (t + 1) k' g'))) → wC_trials (F + 1) 0 (nI s) x2 x3 x4 0 0 0 k (fun r k' => ∃ y, wM_trials y 0 (nI s) x2 x3 x4 0 0 g (fun r' g' => r = r' ∧ Rel (t + 1) k' g')) := fun F hF =>
    C0 F _ (fun a => M0 _ (fun _ => fin _) (fun b => x20 a b) (fun b => x20 a b) (fun b => x20 a b) (fun b => x20 a b))
      (fun a1 a => M0 _ (fun b => x20 b a1) (fun _ _ => fin _) (fun _ b => x40 a b) (fun _ b => x40 a b) (fun _ b => x40 a b))
      (fun a1 a2 a => M0 _ (fun b => x20 b a1) (fun _ b => x40 b a2) (fun _ _ _ => fin _) (fun _ _ b => absurd (W1.mpr a) b) (fun _ _ b => absurd (W1.mpr a) b))
      (fun a1 a2 a3 a4 => M0 _ (fun b => x20 b a1) (fun _ b => x40 b a2) (fun _ _ b => absurd (W1.mp b) a3) (fun _ _ _ _ => fin _) (fun _ _ b1 b2 => absurd ((W2 b1).symm.trans b2) a4))
      hF
  rcases Classical.em (ini x2 0 2 = 1 ∧ ini x4 0 20 = 1 ∧ ¬ k.1 (9 + s) 0 = -1 ∧ k.1 (9 + s) 0 = x2) with cc | cc
  rotate_left
  · exact ⟨1, B1 0 (fun a1 a2 a3 a4 => absurd ⟨a1, a2, a3, a4⟩ cc)⟩
  obtain ⟨c1, c2, c3, c4⟩ := cc
  have na : ¬ g.2.1 61 s = 0 := fun y => c3 (W1.mp y)
  obtain ⟨q1, ⟨so, q2, q2'⟩, q3, z, q4, q5, q6, q7⟩ := W.resolve_left (fun y => na y.1)
  obtain ⟨cnt, _, hc, ecnt⟩ := ini_rng (a := 0) (b := 20) (by decide) (by decide) c2
  have MM0 : ∀ P : Int32 → GM → Prop, (∃ F, wM_trials F 1 (nI s) 0 x3 x4 0 0 g P) → ∃ y, wM_trials y 0 (nI s) x2 x3 x4 0 0 g P := fun P hP => M0 P (fun b => x20 b c1) (fun _ b => x40 b c2) (fun _ _ b => absurd b na) (fun _ _ b1 b2 => absurd ((W2 b1).trans c4) b2) (fun _ _ _ _ => hP)
  subst ecnt
  by_cases neg : x3 < 0
  · have nr : ∀ m, ¬ runOk x3 m z := fun m ⟨a, b, h1, h2, h3⟩ => absurd neg (by rw [h2]; exact nI_pos (by omega))
    refine ⟨2, B1 1 (fun _ _ _ _ => ?_)⟩
    rw [wC_trials]
    any_goals (intro h9; exact absurd h9 (by decide))
    rcases Nat.eq_zero_or_pos cnt with z0 | z0
    · subst z0
      refine br_t (by decide) (MM0 _ ⟨1, ?_⟩)
      rw [wM_trials]
      any_goals (intro h9; exact absurd h9 (by decide))
      exact br_t (by decide) (fin _)
    · refine br_f (nI_ge (a := 0) (b := cnt) (by omega) (by omega)) (cRun q5 q4 (fun y => absurd y (nr _)) (fun _ => br1 rfl (MM0 _ ⟨0 + 1, mTrStep (j := 0) (by omega) q4 q6 z0 hc (fun _ => fin _) (fun a e1 e2 => absurd ⟨a, 2 * 0 + 2, e2, e1, rfl⟩ (nr _))⟩)))
  obtain ⟨a, ha, ea⟩ := nI_of neg
  subst ea
  obtain ⟨w, m, r, B, M, en, hw, hk, hm, ho, hg, hmg, ekd, ewo, ego, eli, em⟩ := h.wm
  have hU : UU t = 2000 * t := rfl
  have h8 : n ≤ 8 := h.1.1
  refine ⟨cnt - 0 + 1 + 1, B1 _ (fun _ _ _ _ => ?_)⟩
  refine cTrL (x := (m, k.2.1 2 3, k.2.1 2 4)) (r := r) hw ho (by omega) (by omega) q4 hc ha q5 (g.2.1 64) q7 (fun J v k' hJ hk' => MM0 _ ⟨J - 0 + 1, mTrL (B := B) (M := M) (r := r) (x := (m, k.2.1 2 3, k.2.1 2 4)) hw (by omega) q4 hc ha q6 hJ (fun g' hg' => ⟨rfl, n, nt, np, nw, N, ?_⟩) (J - 0) 0 g rfl (Nat.zero_le _) ⟨FrH.rf, hg, hmg, h.2.2.2.1.2.2.2.2.2.2.1.symm, h.2.2.2.1.2.2.2.2.2.2.2.symm⟩⟩) (cnt - 0) 0 k rfl (Nat.zero_le _) (fun i hi => absurd hi (Nat.not_lt_zero i)) ⟨FrC.rf, hk, hm, rfl, rfl⟩
  obtain ⟨f, hwc, hmc, e3, e4⟩ := hk'
  obtain ⟨fg, hwm, hmm, d3, d4⟩ := hg'
  have hJ2 : J ≤ cnt := hJ.1
  refine h.mind f fg hmc hmm hg.2.2.2.2.2.2.2 (e3.trans d3.symm) (e4.trans d4.symm) (fun s hs => ?_) ?_ ?_
  · rw [(sq_z (by omega) J).1, (sq_z (by omega) J).2, em]
    exact h.2.2.2.2.1.2.1 s hs
  · rw [sq_dy J]
    show ∃ dy, dy ≤ 400 ∧ mdy m = nI dy
    rw [em]
    exact h.2.2.2.2.1.2.2.1
  · rw [d3, d4]
    refine (sq_cnt (x := (m, k.2.1 2 3, k.2.1 2 4)) (U := UU t) (by omega) ?_ J).mono (by show 2000 * t + J ≤ 2000 * (t + 1); omega)
    show Cnt (UU t) (mon m) (k.2.1 2 3) (k.2.1 2 4)
    rw [em, h.2.2.2.1.2.2.2.2.2.2.1, h.2.2.2.1.2.2.2.2.2.2.2]
    exact h.2.2.2.2.1.2.2.2
end Ts
