/-! ===== told, sum, trial, days, planned, watched, taken ===== -/
section Mi
variable {t n nt np nw N : Nat} {k : KC} {g : GM}
theorem FrC.scrZ {k k' : KC} (f : FrC aNo sScr k k') : FrC sZ aZ k k' := f.mono (fun _ _ _ => rfl) (fun _ _ h => (Bool.or_eq_false_iff.mp (Bool.or_eq_false_iff.mp (Bool.or_eq_false_iff.mp h).2).2).2)
theorem RelA.scr {k' : KC} (h : RelA t n nt np nw N k g) (f : FrC aNo sScr k k') : RelA t n nt np nw N k' g :=
  h.zC f.scrZ (fun s hs => by rw [f.2.1 4 1 rfl, f.2.1 4 2 rfl]; exact h.2.2.2.2.2.2.2.2.2 s hs)
theorem RelA.rd {g' : GM} (h : RelA t n nt np nw N k g) (f : FrG sRd g g') : RelA t n nt np nw N k g' := h.zM f.z
theorem op_told (x1 x2 : Int32) (ht : t < 2000) (h : Rel t k g) : wC_told x1 x2 k (fun r k' => wM_told x1 x2 g (fun r' g' => r = r' ∧ Rel (t + 1) k' g')) := by
  obtain ⟨n, nt, np, nw, N, h⟩ := h
  have hu := h.up
  obtain ⟨w, m, r, B, M, en, hw, hk, hm, ho, hg, hmg, ekd, ewo, ego, eli, em⟩ := h.wm
  have hn := h.1.1
  unfold wC_told wM_told
  refine cHas h.1.2.1 ?_
  rcases ini_c x1 0 (nI n - 1) with e | e
  · rw [e]
    refine br1 rfl (mOne h.1.2.2.1 ?_)
    rw [e]
    exact br1 rfl ⟨rfl, n, nt, np, nw, N, hu⟩
  rw [e]
  obtain ⟨s, hs, es⟩ := ini_idx (by omega) e
  subst es
  have hin : vp_in (nI s) 8 := vp_in_nI (by omega) (by decide)
  have R0 : Rel (t + 1) k g := ⟨n, nt, np, nw, N, hu⟩
  refine br0 n10 ⟨fun z => ?_, fun z => ?_, fun z => ?_, fun z => ?_, fun z => ?_, fun z0 z1 z2 z3 z4 => ?_⟩
  · refine ⟨hin, mOne h.1.2.2.1 ?_⟩
    rw [e]
    subst z
    exact br0 n10 ⟨fun _ => ⟨hin, by rw [h.1.2.2.2.1], R0⟩, fun z => absurd z (by decide), fun z => absurd z (by decide), fun z => absurd z (by decide), fun z => absurd z (by decide), fun z => absurd rfl z⟩
  · refine ⟨hin, mOne h.1.2.2.1 ?_⟩
    rw [e]
    subst z
    exact br0 n10 ⟨fun z => absurd z (by decide), fun _ => ⟨hin, by rw [h.2.2.2.1.1], R0⟩, fun z => absurd z (by decide), fun z => absurd z (by decide), fun z => absurd z (by decide), fun _ z => absurd rfl z⟩
  · refine ⟨hin, mOne h.1.2.2.1 ?_⟩
    rw [e]
    subst z
    exact br0 n10 ⟨fun z => absurd z (by decide), fun z => absurd z (by decide), fun _ => ⟨hin, by rw [h.2.2.2.1.2.1], R0⟩, fun z => absurd z (by decide), fun z => absurd z (by decide), fun _ _ z => absurd rfl z⟩
  · obtain ⟨o, ho1, ho2⟩ := ho s (by omega)
    have hU : UU t = 2000 * t := rfl
    refine cLoud hk.2.1 hm.2.1 (by omega) ⟨o, by omega, ho2⟩ (mOne h.1.2.2.1 ?_)
    rw [e]
    subst z
    exact br0 n10 ⟨fun z => absurd z (by decide), fun z => absurd z (by decide), fun z => absurd z (by decide), fun _ => mLoud hg.2.1 hmg.2.1 (by omega) ⟨rfl, R0⟩, fun z => absurd z (by decide), fun _ _ _ z => absurd rfl z⟩
  · refine cFades hw hk hm.1 hm.2.2.1 hm.2.2.2.2.2 (by decide) (by omega) (fun k' f => mOne h.1.2.2.1 ?_)
    rw [e]
    subst z
    exact br0 n10 ⟨fun z => absurd z (by decide), fun z => absurd z (by decide), fun z => absurd z (by decide), fun z => absurd z (by decide), fun _ => mFades hg hmg.1 hmg.2.2.1 (by omega) (fun g' f' => ⟨rfl, n, nt, np, nw, N, (hu.scr f).rd f'⟩), fun _ _ _ _ z => absurd rfl z⟩
  · refine mOne h.1.2.2.1 ?_
    rw [e]
    exact br0 n10 ⟨fun z => absurd z z0, fun z => absurd z z1, fun z => absurd z z2, fun z => absurd z z3, fun z => absurd z z4, fun _ _ _ _ _ => ⟨rfl, R0⟩⟩
theorem op_sum (x1 x2 : Int32) (h : Rel t k g) : wC_sum x1 x2 k (fun r k' => wM_sum x1 x2 g (fun r' g' => r = r' ∧ Rel (t + 1) k' g')) := by
  obtain ⟨n, nt, np, nw, N, h⟩ := h
  have hu := h.up
  obtain ⟨w, m, r, B, M, en, hw, hk, hm, ho, hg, hmg, ekd, ewo, ego, eli, em⟩ := h.wm
  have hn := h.1.1
  unfold wC_sum wM_sum
  refine cSet hn h.1.2.1 ?_
  rcases ini_c x1 0 (nI (2 ^ n) - 1) with e | e
  · rw [e]
    refine br_t rfl (mSet hn h.1.2.2.1 ?_)
    rw [e]
    exact br_t rfl ⟨rfl, n, nt, np, nw, N, hu⟩
  rw [e]
  refine br_f n10 (cWithin ?_)
  obtain ⟨b, hb1, hb2, eb⟩ := set_idx hn e
  rcases ini_c x2 0 1 with e2 | e2
  · rw [e2]
    refine br1 rfl (mSet hn h.1.2.2.1 ?_)
    rw [e]
    refine br_f n10 (mIn (lo := 0) (hi := 1) rfl rfl ?_)
    rw [e2]
    exact br1 rfl ⟨rfl, n, nt, np, nw, N, hu⟩
  rw [e2]
  refine br0 n10 ⟨fun n0 => cDrops hw hk hm (by decide) (fun k' f => mSet hn h.1.2.2.1 ?_), fun y0 => cSum hw hk hm.1 (mSet hn h.1.2.2.1 ?_)⟩
  · rw [e]
    refine br_f n10 (mIn (lo := 0) (hi := 1) rfl rfl ?_)
    rw [e2]
    refine br0 n10 ⟨fun _ => mDrops hw hg hmg (fun z => ?_) (fun g' f' => ⟨rfl, n, nt, np, nw, N, (hu.scr f).rd f'⟩), fun z => absurd z n0⟩
    subst eb
    exact set_some b hb2 (fun z2 => z (by rw [z2]; rfl))
  · rw [e]
    refine br_f n10 (mIn (lo := 0) (hi := 1) rfl rfl ?_)
    rw [e2]
    exact br0 n10 ⟨fun z => absurd y0 z, fun _ => mSum hw hg.1 hmg.1 hg.2.2.2.2.1 ⟨rfl, n, nt, np, nw, N, hu⟩⟩
/-- behind a change of the mind and of what is counted -/
theorem RelA.mind {m' : Md} {r : Nat} {k' : KC} {g' : GM} (h : RelA t n nt np nw N k g) (f : FrC (oMd 2) (aMd 2) k k') (fg : FrH sDy aDy g g') (hk' : MC 2 r m' k') (hm' : MM m' g') (hr : g.1 4 = nI r) (e3 : k'.2.1 2 3 = g'.2.1 36) (e4 : k'.2.1 2 4 = g'.2.1 35) (hz : ∀ s, n ≤ s → mst m' s = 0 ∧ mon m' s = 0) (hd : ∃ dy, dy ≤ 400 ∧ mdy m' = nI dy) (hc : Cnt (UU (t + 1)) (mon m') (g'.2.1 36) (g'.2.1 35)) : RelA (t + 1) n nt np nw N k' g' := by
  obtain ⟨⟨w1, w2, w3, w4, w5, w6, w7, w8, w9⟩, ⟨t1, t2, t3, t4⟩, ⟨p1, p2, p3, p4⟩, _, ⟨b1, b2, b3, b4⟩, hi, ⟨v1, v2, v3, v4⟩, hs, ⟨c1, c2, c3, c4⟩, hd0⟩ := h.up
  have hpr : k'.2.2.2.2.1 = k.2.2.2.2.1 := congrArg (fun z => z.2.2.1) f.2.2
  have r4 : g'.1 4 = g.1 4 := fg.1 4 rfl
  refine ⟨⟨w1, (f.1 1 0 rfl).trans w2, (fg.1 10 rfl).trans w3, (f.2.1 1 3 rfl).trans (w4.trans (fg.2 7 rfl).symm), (f.2.1 1 4 rfl).trans (w5.trans (fg.2 11 rfl).symm), (f.2.1 1 5 rfl).trans (w6.trans (fg.2 12 rfl).symm), (f.2.1 1 6 rfl).trans (w7.trans (fg.2 13 rfl).symm), by rw [fg.2 7 rfl]; exact w8, by rw [fg.2 13 rfl]; exact w9⟩, ⟨t1, (f.1 1 1 rfl).trans t2, (fg.1 3 rfl).trans t3, fun x hx => ?_⟩, ⟨p1, (f.1 1 2 rfl).trans p2, (fg.1 33 rfl).trans p3, fun x hx => ?_⟩, ⟨hk'.1.trans hm'.1.symm, hk'.2.1.trans hm'.2.1.symm, hk'.2.2.1.trans hm'.2.2.1.symm, hk'.2.2.2.1.trans hm'.2.2.2.1.symm, hk'.2.2.2.2.1.trans hm'.2.2.2.2.symm, hk'.2.2.2.2.2.trans (r4.trans hr).symm, e3, e4⟩, ⟨by rw [r4]; exact b1, by rw [hm'.1, hm'.2.1]; exact hz, by rw [hm'.2.2.1]; exact hd, by rw [hm'.2.1]; exact hc⟩, ?_, ⟨v1, (f.1 8 3 rfl).trans v2, (fg.1 46 rfl).trans v3, fun i hi => ?_⟩, fun s h4 => ?_, ⟨c1, (f.1 5 1 rfl).trans c2, (fg.1 6 rfl).trans c3, fun i hi => ?_⟩, fun s hs => by rw [f.2.1 4 1 rfl, f.2.1 4 2 rfl]; exact hd0 s hs⟩
  · obtain ⟨B, M, cs, a1, a2, ⟨x1, x2, x3⟩, a4⟩ := t4 x hx
    exact ⟨B, M, cs, a1.z f, a2, ⟨x1, by rw [fg.2 2 rfl]; exact x2, by rw [fg.2 1 rfl]; exact x3⟩, a4⟩
  · obtain ⟨d, p, a1, a2, a3⟩ := p4 x hx
    exact ⟨d, p, by rw [hpr]; exact a1, a2.fr f, a3.dy fg⟩
  · unfold RI
    rw [f.1 0 9 rfl, f.2.1 3 1 rfl, f.2.1 3 2 rfl, f.2.1 3 3 rfl, f.2.1 3 4 rfl, f.1 3 7 rfl, f.1 3 8 rfl, f.1 3 9 rfl, f.1 3 10 rfl, fg.1 55 rfl, fg.1 56 rfl, fg.2 51 rfl, fg.2 52 rfl, fg.2 54 rfl, fg.2 53 rfl, fg.1 57 rfl, fg.1 58 rfl, fg.1 59 rfl, fg.1 60 rfl]
    exact hi
  · rw [f.2.1 8 0 rfl, f.2.1 8 1 rfl, f.2.1 8 2 rfl, fg.2 43 rfl, fg.2 44 rfl, fg.2 45 rfl]; exact v4 i hi
  · have z := hs s h4
    have q0 : k'.1 (9 + s) 0 = k.1 (9 + s) 0 := f.1 (9 + s) 0 (co_4 (P := fun s => oMd 2 (9 + s) 0 = false) rfl rfl rfl rfl h4)
    have q1 : k'.1 (9 + s) 1 = k.1 (9 + s) 1 := f.1 (9 + s) 1 (co_4 (P := fun s => oMd 2 (9 + s) 1 = false) rfl rfl rfl rfl h4)
    have q2 : k'.2.1 (9 + s) 2 = k.2.1 (9 + s) 2 := f.2.1 (9 + s) 2 (co_4 (P := fun s => aMd 2 (9 + s) 2 = false) rfl rfl rfl rfl h4)
    unfold ShR at z ⊢
    rw [q0, q1, q2, fg.2 61 rfl, fg.2 62 rfl, fg.2 63 rfl, fg.2 64 rfl]; exact z
  · rw [f.2.1 5 0 rfl, fg.2 5 rfl]; exact c4 i hi
theorem trM_z {w : Wd} {m : Md} {e : Nat} {set : Int32} {s : Nat} (hs : wn w ≤ s) : mst (trM w m set e) s = mst m s ∧ mon (trM w m set e) s = mon m s := ⟨if_neg (fun z => absurd z.1 (Nat.not_lt.mpr hs)), if_neg (fun z => absurd z.1 (Nat.not_lt.mpr hs))⟩
theorem tsM_z {w : Wd} {p : Pl} {m : Md} {s : Nat} (hs : wn w ≤ s) : ∀ j, mst (tsM w p m j) s = mst m s ∧ mon (tsM w p m j) s = mon m s
  | 0 => ⟨rfl, rfl⟩
  | j + 1 => ⟨(trM_z hs).1.trans (tsM_z hs j).1, (trM_z hs).2.trans (tsM_z hs j).2⟩
theorem dyM_z {w : Wd} {p : Pl} {m : Md} {s : Nat} (hs : wn w ≤ s) : mst (dyM w p m) s = mst m s ∧ mon (dyM w p m) s = mon m s :=
  ⟨(if_neg (Nat.not_lt.mpr hs)).trans (tsM_z hs p.1).1, (tsM_z hs p.1).2⟩
theorem tsM_dy {w : Wd} {p : Pl} {m : Md} : ∀ j, mdy (tsM w p m j) = mdy m
  | 0 => rfl
  | j + 1 => tsM_dy j
theorem Cnt.day {U : Nat} {w : Wd} {p : Pl} {m : Md} {wi en : Nat → Int32} (h : Cnt U (mon m) wi en) (hw : wn w ≤ 8) (hp : ∀ i, i < p.1 → p.2.2 i < 4) : ∀ j, j ≤ p.1 → Cnt (U + j) (mon (tsM w p m j)) (ewT (wn w) p wi j) (enT p en j)
  | 0, _ => h
  | j + 1, hj => (Cnt.day h hw hp j (by omega)).tr (hp j (by omega)) hw
/-- one TRIAL of all days -/
theorem relTrial {b e : Nat} {Q : Int32 → KC → Prop} {P : Int32 → GM → Prop} (ht : t < 2000) (h : RelA t n nt np nw N k g) (he : e < 4) (q : ∀ r k', FrC (oMd 2) (aMd 2) k k' → (∀ P : Int32 → GM → Prop, (∀ g', RelA (t + 1) n nt np nw N k' g' → P r g') → ∃ n5, wM_counts n5 0 (nI b) (nI e) 0 g (fun k_5 => (∃ n_6 : Nat, wM_tries n_6 0 (nI b) (nI e) 0 0 0 k_5 (fun r_6 k_6 => P r_6 k_6)))) → Q r k') : ∃ n, wC_X0_goThroughTrial 2 n 0 (nI b) (nI e) 0 0 0 k Q := by
  obtain ⟨w, m, r, B, M, en, hw, hk, hm, ho, hg, hmg, ekd, ewo, ego, eli, em⟩ := h.wm
  subst en
  have hU : UU t = 2000 * t := rfl
  refine cTrial hw hk hm (Or.inl rfl) ho (by omega) he (fun k' f hk' e3 e4 e6 _ => q _ k' f (fun P hP => mCounts hw hg.1 he ?_))
  have f0 : FrH sDy aDy g (sA (sA g 35 (upd (g.2.1 35) e (g.2.1 35 e + 1))) 36 (trE (wn w) (nI b) e (g.2.1 36))) := (FrH.rf.a_ rfl).a_ rfl
  refine mTrial hw (hg.dy f0) hmg he (fun g' f' hm' z5 z6 _ => hP g' ?_)
  have a36 : g'.2.1 36 = trE (wn w) (nI b) e (g.2.1 36) := z6
  have a35 : g'.2.1 35 = upd (g.2.1 35) e (g.2.1 35 e + 1) := z5
  refine h.mind f (f0.tr f') hk' hm' hg.2.2.2.2.2.2.2 ?_ ?_ (fun s hs => ?_) ?_ ?_
  · rw [e3, a36, h.2.2.2.1.2.2.2.2.2.2.1]
  · rw [e4, a35, h.2.2.2.1.2.2.2.2.2.2.2]
  · rw [(trM_z hs).1, (trM_z hs).2, em]
    exact h.2.2.2.2.1.2.1 s hs
  · show ∃ dy, dy ≤ 400 ∧ mdy m = nI dy
    rw [em]
    exact h.2.2.2.2.1.2.2.1
  · rw [a36, a35]
    have c := (h.2.2.2.2.1.2.2.2).tr (n := wn w) (set := nI b) he hw.1
    have e9 : mon (trM w m (nI b) e) = onU (wn w) (nI b) (g.2.1 9) (fun s => g.2.1 9 s + 1) := by rw [em]; rfl
    rw [e9]
    exact c.mono (by show UU t + 1 ≤ 2000 * (t + 1); omega)
theorem op_trial (x1 x2 : Int32) (ht : t < 2000) (h : Rel t k g) : wC_trial x1 x2 k (fun r k' => wM_trial x1 x2 g (fun r' g' => r = r' ∧ Rel (t + 1) k' g')) := by
  obtain ⟨n, nt, np, nw, N, h⟩ := h
  have hu := h.up
  have hn := h.1.1
  unfold wC_trial wM_trial wC_isEnd
  refine cSet hn h.1.2.1 ?_
  rcases ini_c x1 0 (nI (2 ^ n) - 1) with e | e
  · rw [e]
    refine br_t rfl (mSet hn h.1.2.2.1 ?_)
    rw [e]
    exact br_t rfl ⟨rfl, n, nt, np, nw, N, hu⟩
  rw [e]
  refine br_f n10 (cWithin ?_)
  obtain ⟨b, hb1, hb2, eb⟩ := set_idx hn e
  rcases ini_c x2 0 3 with e2 | e2
  · rw [e2]
    refine br1 rfl (mSet hn h.1.2.2.1 ?_)
    rw [e]
    refine br_f n10 (mIn (lo := 0) (hi := 3) rfl rfl ?_)
    rw [e2]
    exact br1 rfl ⟨rfl, n, nt, np, nw, N, hu⟩
  rw [e2]
  obtain ⟨f, hf1, hf2, ef⟩ := ini_rng (a := 0) (b := 3) (by decide) (by decide) e2
  subst eb ef
  refine br0 n10 (relTrial (P := fun _ _ => True) ht h (by omega) (fun r k' _ hP => mSet hn h.1.2.2.1 ?_))
  rw [e]
  refine br_f n10 (mIn (lo := 0) (hi := 3) rfl rfl ?_)
  rw [e2]
  exact br0 n10 (hP _ (fun g' hr => ⟨rfl, n, nt, np, nw, N, hr⟩))
/-- the PLAN of a number -/
theorem cPlanAt {x : Int32} {Q : Option Nat → KC → Prop} (h : RelA t n nt np nw N k g) (q0 : ini x 0 (nI np - 1) = 0 → Q none k) (q1 : ini x 0 (nI np - 1) = 1 → ∀ y d p, y < np → x = nI y → k.2.2.2.2.1 y = some d.1 → PlanC k d p → PlanM g y p → Q (some d.1) k) : wC_X8_planAt x k Q := by
  unfold wC_X8_planAt
  rw [h.2.2.1.2.1]
  refine cWithin ?_
  rcases ini_c x 0 (nI np - 1) with e | e
  · rw [e]; exact br_t rfl (q0 e)
  · rw [e]
    have hnp := h.2.2.1.1
    obtain ⟨y, hy, ey⟩ := ini_idx (by omega) e
    obtain ⟨d, p, d1, d2, d3⟩ := h.2.2.1.2.2.2 y hy
    have q := q1 e y d p hy ey d1 d2 d3
    subst ey
    refine br_f n10 ⟨vp_in_nI (by omega) (by decide), ?_⟩
    rw [nI_clamp (by omega), d1]
    exact q
theorem op_planned (x1 x2 x3 : Int32) (h : Rel t k g) : wC_planned x1 x2 x3 k (fun r k' => wM_planned x1 x2 x3 g (fun r' g' => r = r' ∧ Rel (t + 1) k' g')) := by
  obtain ⟨n, nt, np, nw, N, h⟩ := h
  have hu : Rel (t + 1) k g := ⟨n, nt, np, nw, N, h.up⟩
  have hnp := h.2.2.1.1
  unfold wC_planned
  refine cPlanAt h (fun e => ⟨fun _ => ?_, fun x z => by simp at z⟩) (fun e y d p hy ey d1 d2 d3 => ⟨fun z => by simp at z, fun x hx => ⟨d, by injection hx, ?_⟩⟩)
  · show wM_planned x1 x2 x3 g _
    unfold wM_planned
    refine mPlan h.2.2.1.2.2.1 ?_
    rw [e]; exact br_t rfl ⟨rfl, hu⟩
  obtain ⟨p1, p2, p3, p4⟩ := d2
  obtain ⟨q1, q2, q3, q4⟩ := d3
  subst ey
  have hin : vp_in (nI y) 8 := vp_in_nI q1 (by decide)
  rw [p2]
  have M : ∀ P : Int32 → GM → Prop, (ini x2 (-1) (nI p.1 - 1) = 0 → P (-1) g) → (ini x2 (-1) (nI p.1 - 1) = 1 → ((¬ x2 = (-1 : Int32) → ((¬ x3 = 0 → ((¬ x3 = (1 : Int32) → P (-1) g) ∧ (x3 = (1 : Int32) → (vp_in (((24 : Int32) * nI y) + x2) 192 ∧ P (g.2.1 32 (((24 : Int32) * nI y) + x2).toNatClampNeg) g)))) ∧ (x3 = 0 → (vp_in (((24 : Int32) * nI y) + x2) 192 ∧ P (g.2.1 31 (((24 : Int32) * nI y) + x2).toNatClampNeg) g)))) ∧ (x2 = (-1 : Int32) → (vp_in (nI y) 8 ∧ P (nI p.1) g)))) → wM_planned (nI y) x2 x3 g P := by
    intro P m0 m1
    unfold wM_planned
    refine mPlan h.2.2.1.2.2.1 ?_
    rw [e, nI_clamp (by omega), q2]
    refine br_f n10 ⟨hin, mIn (lo := -1) (hi := nI p.1 - 1) rfl rfl ?_⟩
    rw [q2]
    rcases ini_c x2 (-1) (nI p.1 - 1) with z | z
    · rw [z]; exact br1 rfl (m0 z)
    · rw [z]; exact br0 n10 (m1 z)
  have m1i : (-1 : Int32).toInt = -1 := by decide
  have pm1 : (nI p.1 - 1).toInt = (p.1 : Int) - 1 := pk_sub_toInt (b := 1) (by omega) (by decide)
  refine ⟨fun nm => ⟨p1, cWithin ?_⟩, fun ym => ⟨p1, M _ (fun z => ?_) (fun z => ⟨fun w => absurd ym w, fun _ => ⟨hin, rfl, hu⟩⟩)⟩⟩
  · rcases ini_c x2 0 (nI p.1 - 1) with e2 | e2
    · rw [e2]
      refine br_t rfl (M _ (fun _ => ⟨rfl, hu⟩) (fun z => ?_))
      exfalso
      rw [ini_iff, i0, pm1] at e2
      rw [ini_iff, m1i, pm1] at z
      by_cases c : 0 ≤ x2.toInt ∧ x2.toInt ≤ (p.1 : Int) - 1
      · rw [if_pos c] at e2; exact absurd e2 n10
      · by_cases c2 : -1 ≤ x2.toInt ∧ x2.toInt ≤ (p.1 : Int) - 1
        · exact nm (Int32.toInt_inj.mp (by rw [m1i]; omega))
        · rw [if_neg c2] at z; exact absurd z (by decide)
    · rw [e2]
      obtain ⟨i, hi, ei⟩ := ini_idx (by omega) e2
      have z1 : ini x2 (-1) (nI p.1 - 1) = 1 := ini_1 (by rw [m1i, pm1, ei, nI_toInt (by omega)]; omega)
      obtain ⟨a1, a2, a3⟩ := p4 i hi
      obtain ⟨b1, b2, b3⟩ := q4 i hi
      subst ei
      have e24 : (24 : Int32) * nI y + nI i = nI (24 * y + i) := by
        show nI 24 * nI y + nI i = _
        rw [pk_mul, nI_add]
      have i24 : vp_in (nI (24 * y + i)) 192 := vp_in_nI (by omega) (by decide)
      have iip : vp_in (nI i) p.1 := vp_in_nI hi (by omega)
      rw [e24, nI_clamp (n := 24 * y + i) (by omega)] at M
      refine br_f n10 (cWithin ?_)
      rw [nI_clamp (n := i) (by omega), a1, a2]
      rcases ini_c x3 0 1 with e3 | e3
      · rw [e3]
        refine br1 rfl ?_
        refine M _ (fun z => by rw [z1] at z; exact absurd z n10) (fun _ => ⟨fun _ => ⟨fun n0 => ⟨fun n1 => ⟨rfl, hu⟩, fun y1 => ?_⟩, fun y0 => ?_⟩, fun w => absurd w nm⟩)
        · rw [y1] at e3; exact absurd e3 (by decide)
        · rw [y0] at e3; exact absurd e3 (by decide)
      · rw [e3]
        obtain ⟨c, hc1, hc2, ec⟩ := ini_rng (a := 0) (b := 1) (by decide) (by decide) e3
        refine br0 n10 ⟨fun n0 => ⟨p1, iip, M _ (fun z => by rw [z1] at z; exact absurd z n10) (fun _ => ⟨fun _ => ⟨fun _ => ⟨fun n1 => ?_, fun y1 => ⟨i24, b2.symm, hu⟩⟩, fun y0 => absurd y0 n0⟩, fun w => absurd w nm⟩)⟩, fun y0 => ⟨p1, iip, M _ (fun z => by rw [z1] at z; exact absurd z n10) (fun _ => ⟨fun _ => ⟨fun n0 => absurd y0 n0, fun _ => ⟨i24, b1.symm, hu⟩⟩, fun w => absurd w nm⟩)⟩⟩
        exfalso
        have : c = 0 ∨ c = 1 := by omega
        rcases this with q | q
        · rw [q] at ec; exact n0 ec
        · rw [q] at ec; exact n1 ec
  · exfalso
    rw [ini_iff, m1i, pm1, ym, m1i] at z
    rw [if_pos ⟨by omega, by omega⟩] at z
    exact absurd z n10
end Mi
