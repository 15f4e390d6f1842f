/-! ===== days, watched, taken ===== -/
section Mo
variable {t n nt np nw N : Nat} {k : KC} {g : GM}
def dyN (w : Wd) (p : Pl) (m : Md) : Nat → Md
  | 0 => m
  | j + 1 => dyM w p (dyN w p m j)
def ewN (n : Nat) (p : Pl) (f : Nat → Int32) : Nat → Nat → Int32
  | 0 => f
  | j + 1 => ewT n p (ewN n p f j) p.1
def enN (p : Pl) (f : Nat → Int32) : Nat → Nat → Int32
  | 0 => f
  | j + 1 => enT p (enN p f j) p.1
theorem dyN_ok {w : Wd} {p : Pl} {m : Md} {u : Nat} (h : MOk u m) : ∀ j, MOk (u + j * p.1) (dyN w p m j)
  | 0 => by rw [Nat.zero_mul]; exact h
  | j + 1 => by
    have := dyM_ok (w := w) (p := p) (dyN_ok (w := w) (p := p) h j)
    rw [show u + (j + 1) * p.1 = u + j * p.1 + p.1 by rw [Nat.succ_mul, Nat.add_assoc]]
    exact this
theorem dyN_z {w : Wd} {p : Pl} {m : Md} {s : Nat} (hs : wn w ≤ s) : ∀ j, mst (dyN w p m j) s = mst m s ∧ mon (dyN w p m j) s = mon m s
  | 0 => ⟨rfl, rfl⟩
  | j + 1 => ⟨(dyM_z hs).1.trans (dyN_z hs j).1, (dyM_z hs).2.trans (dyN_z hs j).2⟩
theorem dyN_dy {w : Wd} {p : Pl} {m : Md} {d : Nat} (h : mdy m = nI d) : ∀ j, mdy (dyN w p m j) = nI (d + j)
  | 0 => h
  | j + 1 => by
    show mdy (tsM w p (dyN w p m j) p.1) + 1 = _
    rw [tsM_dy, dyN_dy h j, nI_1]; rfl
theorem MOk.mono {u v : Nat} {m : Md} (h : MOk u m) (hv : u ≤ v) : MOk v m := fun s hs => by
  obtain ⟨j, hj, e⟩ := h s hs
  exact ⟨j, Nat.le_trans hj hv, e⟩
theorem op_days (x1 x2 : Int32) (ht : t < 2000) (h : Rel t k g) : ∃ n, wC_days n 0 x1 x2 dn0 0 k (fun r k' => ∃ m, wM_days m 0 x1 x2 0 g (fun r' g' => r = r' ∧ Rel (t + 1) k' g')) := by
  obtain ⟨n, nt, np, nw, N, h⟩ := h
  have hu : Rel (t + 1) k g := ⟨n, nt, np, nw, N, h.up⟩
  have hnp := h.2.2.1.1
  have hU : UU t = 2000 * t := rfl
  obtain ⟨w, m, r, B, M, en, hw, hk, hm, ho, hg, hmg, ekd, ewo, ego, eli, em⟩ := h.wm
  subst en
  obtain ⟨dy, hdy, edy⟩ := h.2.2.2.2.1.2.2.1
  have edc : k.1 2 7 = nI dy := (h.2.2.2.1.2.2.1).trans edy
  have emd : mdy m = nI dy := by rw [em]; exact edy
  -- the loops
  have LC : ∀ (Q : Int32 → KC → Prop) (d : Dn) (p : Pl) (z : Nat), PlanC k d p → z ≤ 50 → (∀ k', FrC (oMd 2) (aMd 2) k k' → MC 2 r (dyN w p m z) k' → k'.2.1 2 3 = ewN (wn w) p (k.2.1 2 3) z → k'.2.1 2 4 = enN p (k.2.1 2 4) z → Q (nI (dy + z)) k') → ∃ n, wC_days n 1 0 (nI z) d (nI 0) k Q := by
    intro Q d p z hp hz q
    have L : ∀ (c j : Nat) (k1 : KC), z - j = c → j ≤ z → FrC (oMd 2) (aMd 2) k k1 → MC 2 r (dyN w p m j) k1 → k1.2.1 2 3 = ewN (wn w) p (k.2.1 2 3) j → k1.2.1 2 4 = enN p (k.2.1 2 4) j → wC_days (c + 1) 1 0 (nI z) d (nI j) k1 Q := by
      intro c
      induction c with
      | zero =>
        intro j k1 hc hj f hm1 e3 e4
        rw [wC_days]
        any_goals (intro h9; exact absurd h9 (by decide))
        have ej : j = z := by omega
        subst ej
        refine br_t (nI_le (Nat.le_refl _) (by omega)) ?_
        rw [hm1.2.2.1, dyN_dy emd]
        exact q k1 f hm1 e3 e4
      | succ c ih =>
        intro j k1 hc hj f hm1 e3 e4
        rw [wC_days]
        any_goals (intro h9; exact absurd h9 (by decide))
        rw [nI_1]
        have hp24 := hp.2.2.1
        have hb : 4 * UU t + j * p.1 ≤ 4 * UU t + 50 * 24 := by
          have : j * p.1 ≤ 50 * 24 := Nat.mul_le_mul (by omega) hp24
          omega
        refine br_f (nI_ge (by omega) (by omega)) (cDay hw (hk.fr (Or.inl rfl) f) hm1 (Or.inl rfl) ((dyN_ok ho j).mono hb) (by omega) (hp.fr f) (fun k2 f' hm2 z3 z4 z6 => ?_))
        exact ih (j + 1) k2 (by omega) (by omega) (f.tr f') hm2 (by rw [z3, e3]; rfl) (by rw [z4, e4]; rfl)
    exact ⟨z - 0 + 1, L _ 0 k rfl (Nat.zero_le _) FrC.rf hm rfl rfl⟩
  have LM : ∀ (Q : Int32 → GM → Prop) (x : Nat) (p : Pl) (z : Nat), PlanM g x p → z ≤ 50 → (∀ g', FrH sDy aDy g g' → MM (dyN w p m z) g' → g'.2.1 36 = ewN (wn w) p (g.2.1 36) z → g'.2.1 35 = enN p (g.2.1 35) z → Q (nI (dy + z)) g') → ∃ n, wM_days n 1 (nI x) (nI z) (nI 0) g Q := by
    intro Q x p z hp hz q
    have L : ∀ (c j : Nat) (g1 : GM), z - j = c → j ≤ z → FrH sDy aDy g g1 → MM (dyN w p m j) g1 → g1.2.1 36 = ewN (wn w) p (g.2.1 36) j → g1.2.1 35 = enN p (g.2.1 35) j → wM_days (c + 1) 1 (nI x) (nI z) (nI j) g1 Q := by
      intro c
      induction c with
      | zero =>
        intro j g1 hc hj f hm1 e3 e4
        rw [wM_days]
        any_goals (intro h9; exact absurd h9 (by decide))
        have ej : j = z := by omega
        subst ej
        refine br_t (nI_le (Nat.le_refl _) (by omega)) ?_
        rw [hm1.2.2.1, dyN_dy emd]
        exact q g1 f hm1 e3 e4
      | succ c ih =>
        intro j g1 hc hj f hm1 e3 e4
        rw [wM_days]
        any_goals (intro h9; exact absurd h9 (by decide))
        rw [nI_1]
        refine br_f (nI_ge (by omega) (by omega)) (mDay true hw (hg.dy f) hm1 (hp.dy f) (fun g2 f' hm2 z3 z4 => ?_))
        rw [if_pos rfl] at z3 z4
        exact ih (j + 1) g2 (by omega) (by omega) (f.tr f') hm2 (by rw [z3, e3]; rfl) (by rw [z4, e4]; rfl)
    exact ⟨z - 0 + 1, L _ 0 g rfl (Nat.zero_le _) FrH.rf hmg rfl rfl⟩
  -- the reference's head
  have MH : ∀ P : Int32 → GM → Prop, (ini x1 0 (nI np - 1) = 0 → P (-2) g) → (ini x1 0 (nI np - 1) = 1 → ini x2 1 50 = 0 → P (-2) g) → (ini x1 0 (nI np - 1) = 1 → ini x2 1 50 = 1 → ¬ nI dy + x2 ≤ 400 → P (-4) g) → (ini x1 0 (nI np - 1) = 1 → ini x2 1 50 = 1 → nI dy + x2 ≤ 400 → ∃ n, wM_days n 1 x1 x2 (nI 0) g P) → ∃ n, wM_days n 0 x1 x2 0 g P := by
    intro P p0 p1 p2 p3
    rcases ini_c x1 0 (nI np - 1) with e | e
    · refine ⟨1, ?_⟩
      rw [wM_days]
      refine mPlan h.2.2.1.2.2.1 ?_
      rw [e]; exact br_t rfl (p0 e)
    rcases ini_c x2 1 50 with e2 | e2
    · refine ⟨1, ?_⟩
      rw [wM_days]
      refine mPlan h.2.2.1.2.2.1 ?_
      rw [e]
      refine br_f n10 (mIn (lo := 1) (hi := 50) rfl rfl ?_)
      rw [e2]; exact br1 rfl (p1 e e2)
    by_cases c : nI dy + x2 ≤ 400
    · obtain ⟨n, hn⟩ := p3 e e2 c
      refine ⟨n + 1, ?_⟩
      rw [wM_days]
      refine mPlan h.2.2.1.2.2.1 ?_
      rw [e]
      refine br_f n10 (mIn (lo := 1) (hi := 50) rfl rfl ?_)
      rw [e2, edy]; exact br0 n10 (br_t c hn)
    · refine ⟨1, ?_⟩
      rw [wM_days]
      refine mPlan h.2.2.1.2.2.1 ?_
      rw [e]
      refine br_f n10 (mIn (lo := 1) (hi := 50) rfl rfl ?_)
      rw [e2, edy]; exact br0 n10 (br_f c (p2 e e2 c))
  have CH : ∀ P : Int32 → KC → Prop, (ini x1 0 (nI np - 1) = 0 → P (-2) k) → (∀ y d p, ini x1 0 (nI np - 1) = 1 → y < np → x1 = nI y → PlanC k d p → PlanM g y p → (ini x2 1 50 = 0 → P (-2) k) ∧ (ini x2 1 50 = 1 → (¬ nI dy + x2 ≤ 400 → P (-4) k) ∧ (nI dy + x2 ≤ 400 → ∃ n, wC_days n 1 0 x2 d (nI 0) k P))) → ∃ n, wC_days n 0 x1 x2 dn0 0 k P := by
    intro P p0 p1
    rcases ini_c x1 0 (nI np - 1) with e | e
    · refine ⟨1, ?_⟩
      rw [wC_days]
      exact cPlanAt h (fun e => ⟨fun _ => p0 e, fun x z => by simp at z⟩) (fun e' => by rw [e] at e'; exact absurd e' (by decide))
    obtain ⟨y, hy, ey⟩ := ini_idx (by omega) e
    obtain ⟨d, p, d1, d2, d3⟩ := h.2.2.1.2.2.2 y hy
    obtain ⟨q1, q2⟩ := p1 y d p e hy ey d2 d3
    have go : ∀ n, (wC_within x2 (1 : Int32) (50 : Int32) k (fun r_3 k_3 => ((¬ r_3 = 0 → ((((k_3.1 2 7) + x2) ≤ (400 : Int32) → wC_days n 1 0 x2 d (0 : Int32) k_3 P) ∧ (¬ ((k_3.1 2 7) + x2) ≤ (400 : Int32) → P (-4 : Int32) k_3))) ∧ (r_3 = 0 → P (-2 : Int32) k_3)))) → wC_days (n + 1) 0 x1 x2 dn0 0 k P := by
      intro n hh
      rw [wC_days]
      unfold wC_X8_planAt
      rw [h.2.2.1.2.1]
      refine cWithin ?_
      rw [e]
      rw [ey]
      refine br_f n10 ⟨vp_in_nI (by omega) (by decide), ?_⟩
      rw [nI_clamp (by omega), d1]
      exact ⟨fun z => by simp at z, fun x hx => ⟨d, by injection hx, hh⟩⟩
    rcases ini_c x2 1 50 with e2 | e2
    · refine ⟨0 + 1, go 0 (cWithin ?_)⟩
      rw [e2]; exact br1 rfl (q1 e2)
    by_cases c : nI dy + x2 ≤ 400
    · obtain ⟨n, hn⟩ := (q2 e2).2 c
      refine ⟨n + 1, go n (cWithin ?_)⟩
      rw [e2, edc]; exact br0 n10 (br_t c hn)
    · refine ⟨0 + 1, go 0 (cWithin ?_)⟩
      rw [e2, edc]; exact br0 n10 (br_f c ((q2 e2).1 c))
  refine CH _ (fun e => MH _ (fun _ => ⟨rfl, hu⟩) (fun e' => by rw [e] at e'; exact absurd e' (by decide)) (fun e' => by rw [e] at e'; exact absurd e' (by decide)) (fun e' => by rw [e] at e'; exact absurd e' (by decide))) (fun y d p e hy ey d2 d3 => ⟨fun e2 => MH _ (fun z => by rw [e] at z; exact absurd z n10) (fun _ _ => ⟨rfl, hu⟩) (fun _ z => by rw [e2] at z; exact absurd z (by decide)) (fun _ z => by rw [e2] at z; exact absurd z (by decide)), fun e2 => ⟨fun c => MH _ (fun z => by rw [e] at z; exact absurd z n10) (fun _ z => by rw [e2] at z; exact absurd z n10) (fun _ _ _ => ⟨rfl, hu⟩) (fun _ _ z => absurd z c), fun c => ?_⟩⟩)
  obtain ⟨z, hz1, hz2, ez⟩ := ini_rng (a := 1) (b := 50) (by decide) (by decide) e2
  subst ez
  have c4 : dy + z ≤ 400 := by
    rw [nI_add] at c
    have : (nI (dy + z) ≤ nI 400) := c
    exact (nI_leI (by omega) (by decide)).mp this
  refine LC _ d p z d2 hz2 (fun k' f hk' a1 a2 => MH _ (fun z => by rw [e] at z; exact absurd z n10) (fun _ z => by rw [e2] at z; exact absurd z n10) (fun _ _ z => absurd c z) (fun _ _ _ => ?_))
  subst ey
  refine LM _ y p z d3 hz2 (fun g' fg hm' b1 b2 => ⟨rfl, wn w, nt, np, nw, N, ?_⟩)
  have cn : ∀ j, Cnt (UU t + j * p.1) (mon (dyN w p m j)) (ewN (wn w) p (g.2.1 36) j) (enN p (g.2.1 35) j) := by
    intro j
    induction j with
    | zero =>
      rw [Nat.zero_mul]
      have : mon (dyN w p m 0) = g.2.1 9 := by
        show mon m = _
        rw [em]; rfl
      rw [this]
      exact h.2.2.2.2.1.2.2.2
    | succ j ih =>
      have := Cnt.day (w := w) (p := p) ih hw.1 (fun i hi => (d2.2.2.2 i hi).2.2) p.1 (Nat.le_refl _)
      rw [show UU t + (j + 1) * p.1 = UU t + j * p.1 + p.1 by rw [Nat.succ_mul, Nat.add_assoc]]
      exact this
  have hp24 := d2.2.2.1
  have hzp : z * p.1 ≤ 50 * 24 := Nat.mul_le_mul hz2 hp24
  refine h.mind f fg hk' hm' hg.2.2.2.2.2.2.2 (by rw [a1, b1, h.2.2.2.1.2.2.2.2.2.2.1]) (by rw [a2, b2, h.2.2.2.1.2.2.2.2.2.2.2]) (fun s hs => ?_) ⟨dy + z, c4, dyN_dy emd z⟩ ?_
  · rw [(dyN_z hs z).1, (dyN_z hs z).2, em]
    exact h.2.2.2.2.1.2.1 s hs
  · rw [b1, b2]
    exact (cn z).mono (by show UU t + z * p.1 ≤ 2000 * (t + 1); omega)
theorem cSome {x : Int32} {Q : Int32 → KC → Prop} (hn : n ≤ 8) (h : k.1 1 0 = nI n) (q0 : (x = 0 ∨ ini x 0 (nI (2 ^ n) - 1) = 0) → Q 0 k) (q1 : x ≠ 0 → ini x 0 (nI (2 ^ n) - 1) = 1 → Q 1 k) : wC_isSomeSet x k Q := by
  unfold wC_isSomeSet
  refine ⟨fun z => q0 (Or.inl z), fun nz => cSet hn h ?_⟩
  rcases ini_c x 0 (nI (2 ^ n) - 1) with e | e
  · rw [e]; exact br_t rfl (q0 (Or.inr e))
  · rw [e]; exact br_f n10 (q1 nz e)
theorem op_watched (x1 x2 x3 : Int32) (h : Rel t k g) : wC_watched x1 x2 x3 k (fun r k' => wM_watched x1 x2 x3 g (fun r' g' => r = r' ∧ Rel (t + 1) k' g')) := by
  obtain ⟨n, nt, np, nw, N, h⟩ := h
  have hu : Rel (t + 1) k g := ⟨n, nt, np, nw, N, h.up⟩
  have hn := h.1.1
  have hnw := h.2.2.2.2.2.2.1.1
  have MB : ∀ P : Int32 → GM → Prop, (ini x1 0 (nI np - 1) = 0 ∨ x2 = 0 ∨ ini x2 0 (nI (2 ^ n) - 1) = 0 ∨ ini x3 0 99 = 0) → P (-2) g → wM_watched x1 x2 x3 g P := by
    intro P hh p
    unfold wM_watched
    refine mPlan h.2.2.1.2.2.1 ?_
    rcases ini_c x1 0 (nI np - 1) with e | e
    · rw [e]; exact br_t rfl p
    rw [e]
    refine br_f n10 ⟨fun _ => p, fun nz => mSet hn h.1.2.2.1 ?_⟩
    rcases ini_c x2 0 (nI (2 ^ n) - 1) with e2 | e2
    · rw [e2]; exact br_t rfl p
    rw [e2]
    refine br_f n10 (mIn (lo := 0) (hi := 99) rfl rfl ?_)
    rcases ini_c x3 0 99 with e3 | e3
    · rw [e3]; exact br1 rfl p
    exfalso
    rcases hh with z | z | z | z
    · rw [e] at z; exact absurd z n10
    · exact nz z
    · rw [e2] at z; exact absurd z n10
    · rw [e3] at z; exact absurd z n10
  unfold wC_watched
  refine cPlanAt h (fun e => ⟨fun _ => MB _ (Or.inl e) ⟨rfl, hu⟩, fun x z => by simp at z⟩) (fun e y d p hy ey d1 d2 d3 => ⟨fun z => by simp at z, fun x hx => ⟨d, by injection hx, ?_⟩⟩)
  refine cSome hn h.1.2.1 (fun hz => br_t rfl (MB _ (hz.elim (fun z => Or.inr (Or.inl z)) (fun z => Or.inr (Or.inr (Or.inl z)))) ⟨rfl, hu⟩)) (fun nz e2 => br_f n10 (cWithin ?_))
  rcases ini_c x3 0 99 with e3 | e3
  · rw [e3]; exact br1 rfl (MB _ (Or.inr (Or.inr (Or.inr e3))) ⟨rfl, hu⟩)
  rw [e3, h.2.2.2.2.2.2.1.2.1]
  have e20 : nI nw < (20 : Int32) ↔ nw < 20 := nI_ltI (b := 20) (by omega) (by decide)
  have e20' : nI nw = (20 : Int32) ↔ nw = 20 := nI_eq (b := 20) (by omega) (by decide)
  rw [e20]
  have MH : ∀ P : Int32 → GM → Prop, ((¬ (g.1 46) = (20 : Int32) → (vp_in (g.1 46) 20 ∧ (vp_in (g.1 46) 20 ∧ (vp_in (g.1 46) 20 ∧ P (((g.1 46) + (1 : Int32)) - (1 : Int32)) (sI (sA (sA (sA g 43 (upd (g.2.1 43) (g.1 46).toNatClampNeg x1)) 44 (upd (g.2.1 44) (g.1 46).toNatClampNeg x2)) 45 (upd (g.2.1 45) (g.1 46).toNatClampNeg x3)) 46 ((g.1 46) + (1 : Int32))))))) ∧ ((g.1 46) = (20 : Int32) → P (-4 : Int32) g)) → wM_watched x1 x2 x3 g P := by
    intro P hh
    unfold wM_watched
    refine mPlan h.2.2.1.2.2.1 ?_
    rw [e]
    refine br_f n10 ⟨fun z => absurd z nz, fun _ => mSet hn h.1.2.2.1 ?_⟩
    rw [e2]
    refine br_f n10 (mIn (lo := 0) (hi := 99) rfl rfl ?_)
    rw [e3]
    exact br0 n10 hh
  rw [h.2.2.2.2.2.2.1.2.2.1, e20'] at MH
  obtain ⟨b, hb1, hb2, eb⟩ := set_idx hn e2
  obtain ⟨dd, hd1, hd2, ed⟩ := ini_rng (a := 0) (b := 99) (by decide) (by decide) e3
  by_cases c : nw < 20
  · have hin : vp_in (nI nw) 20 := vp_in_nI c (by decide)
    refine br0 n10 (br_t c ?_)
    unfold wC_X7_add
    rw [h.2.2.2.2.2.2.1.2.1]
    refine ⟨hin, hin, hin, MH _ ⟨fun _ => ⟨hin, hin, hin, rfl, n, nt, np, nw + 1, N, ?_⟩, fun z => by omega⟩⟩
    obtain ⟨h1, h2, h3, h4, h5, h6, ⟨v1, v2, v3, v4⟩, h8, h9, h10⟩ := h.up
    rw [nI_clamp (by omega), nI_1]
    refine ⟨h1, h2, h3, h4, h5, h6, ⟨by omega, rfl, rfl, fun i hi => ?_⟩, h8.eq (fun s y => sh1 (by decide)) (fun s y => (sh2 (by decide)).trans ((sh2 (by decide)).trans (sh2 (by decide)))) rfl rfl rfl rfl, h9, h10⟩
    show (upd (k.2.1 8 0) nw x1 i = upd (g.2.1 43) nw x1 i ∧ upd (k.2.1 8 1) nw x2 i = upd (g.2.1 44) nw x2 i ∧ upd (k.2.1 8 2) nw x3 i = upd (g.2.1 45) nw x3 i) ∧ (∃ x, x < np ∧ upd (g.2.1 43) nw x1 i = nI x) ∧ (∃ b, b < 2 ^ n ∧ 0 < b ∧ upd (g.2.1 44) nw x2 i = nI b) ∧ ∃ dd, dd ≤ 99 ∧ upd (g.2.1 45) nw x3 i = nI dd
    by_cases ei : i = nw
    · subst ei
      simp only [pk_us]
      refine ⟨⟨trivial, trivial, trivial⟩, ⟨y, hy, ey⟩, ⟨b, hb1, ?_, eb⟩, ⟨dd, hd2, ed⟩⟩
      rcases Nat.eq_zero_or_pos b with z | z
      · rw [z] at eb; exact absurd eb nz
      · exact z
    · simp only [pk_un ei]
      exact v4 i (by omega)
  · exact br0 n10 (br_f c (MH _ ⟨fun z => absurd (by omega) z, fun _ => ⟨rfl, hu⟩⟩))
end Mo
