/-! ===== rests, blocked ===== -/
section Re
variable {t n nt np nw N : Nat} {k : KC} {g : GM}
noncomputable def stB (w : Wd) (p : Pl) (m : Md) : Bool := @decide (∀ s, s < 8 → mst (dyM w p m) s = mst m s) (Classical.propDecidable _)
theorem stB_t {w : Wd} {p : Pl} {m : Md} : stB w p m = true ↔ ∀ s, s < 8 → mst (dyM w p m) s = mst m s := by
  unfold stB
  exact @decide_eq_true_iff _ (Classical.propDecidable _)
theorem cStay {w : Wd} {m : Md} {r u : Nat} {p : Pl} {d : Dn} {Q : Int32 → KC → Prop} (hw : WOk w) (hk : WC w r k) (hm : MC 4 r m k) (ho : MOk u m) (hu : u + 24 < 2 ^ 30) (hp : PlanC k d p)
    (q : ∀ k', FrC (oMd 4) (aMd 4) k k' → MC 4 r (dyM w p m) k' → Q (if stB w p m = true then 1 else 0) k') : ∃ x, wC_X0_staysThroughDay 4 d x 0 0 k Q := by
  refine ⟨8 - 0 + 1 + 1, ?_⟩
  rw [wC_X0_staysThroughDay]
  refine ⟨by unfold cpOk; decide, ?_⟩
  have f0 : FrC (oMd 4) (aMd 4) k (cA k 4 6 (va_cpy (k.2.1 4 1) (k.2.1 4 6) 0 0 8)) := FrC.rf.a_ aMd_i
  refine cDay hw (hk.fr (Or.inr rfl) f0) (m := m) ⟨hm.1, hm.2.1, hm.2.2.1, hm.2.2.2.1, hm.2.2.2.2.1, hm.2.2.2.2.2⟩ (Or.inr rfl) ho hu (hp.fr f0) (fun k1 f1 hm1 _ _ e6 => ?_)
  have e6' : k1.2.1 4 6 = cpU 8 (mst m) (k.2.1 4 6) := by
    rw [e6]
    show va_cpy (k.2.1 4 1) (k.2.1 4 6) 0 0 8 = _
    rw [cpy8, hm.1]
  have qq := q k1 (f0.tr f1) hm1
  have L : ∀ (c j : Nat), 8 - j = c → j ≤ 8 → (∀ s, s < j → mst (dyM w p m) s = mst m s) → wC_X0_staysThroughDay 4 d (c + 1) 1 (nI j) k1 Q := by
    intro c
    induction c with
    | zero =>
      intro j hc hj hs
      rw [wC_X0_staysThroughDay]
      any_goals (intro h9; exact absurd h9 (by decide))
      have ej : j = 8 := by omega
      subst ej
      have hb : stB w p m = true := stB_t.mpr hs
      rw [if_pos hb] at qq
      exact br_t (by decide) qq
    | succ c ih =>
      intro j hc hj hs
      rw [wC_X0_staysThroughDay]
      any_goals (intro h9; exact absurd h9 (by decide))
      have hin : vp_in (nI j) 8 := vp_in_nI (by omega) (by decide)
      rw [nI_1, nI_clamp (by omega), hm1.1, e6', cpU_in (by omega)]
      refine br_f (nI_ge (a := j) (b := 8) (by omega) (by decide)) ⟨hin, hin, fun y => ih (j + 1) (by omega) (by omega) (lt_s hs y), fun nn => ?_⟩
      have hb : ¬ stB w p m = true := fun z => nn (stB_t.mp z j (by omega))
      rw [if_neg hb] at qq
      exact qq
  exact L _ 0 rfl (Nat.zero_le _) (fun s hs => absurd hs (Nat.not_lt_zero s))
theorem AsOk.a42 {g0 g1 : GM} {f : Nat → Int32} (h : AsOk n g0 g1) : AsOk n g0 (sA g1 42 f) := ⟨h.1.a_ rfl, h.2.1, h.2.2.1, h.2.2.2.1, h.2.2.2.2.1, h.2.2.2.2.2⟩
theorem WM.a42 {w : Wd} {B : Nat → Nat} {M r : Nat} {g1 : GM} {f : Nat → Int32} (h : WM w B M r g1) : WM w B M r (sA g1 42 f) := h
theorem mRest {w : Wd} {m : Md} {B : Nat → Nat} {M r F x : Nat} {g0 g1 : GM} {p : Pl} {x2 x4 : Int32} {Q : Int32 → GM → Prop} (hw : WOk w) (ha : AsOk (wn w) g0 g1) (hk : WM w B M r g1) (hm : MM m g1) (hp : PlanM g1 x p)
    (q : ∀ g2 F', F ≤ F' → AsOk (wn w) g0 g2 → WM w B M r g2 → MM (dyM w p m) g2 → PlanM g2 x p → wM_rests F' 1 (nI x) x2 (if stB w p m = true then x4 else -1) (x4 + 1) 0 0 g2 Q) : wM_rests (F + 2 * (wn w) + 2) 2 (nI x) x2 0 x4 (nI 0) 0 g1 Q := by
  have h8 := hw.1
  have stn : stB w p m = true ↔ ∀ s, s < wn w → mst (dyM w p m) s = mst m s := by
    rw [stB_t]
    exact ⟨fun z s hs => z s (by omega), fun z s hs => by
      rcases Nat.lt_or_ge s (wn w) with y | y
      · exact z s y
      · exact (dyM_z y).1⟩
  have L3 : ∀ (c j : Nat) (g2 : GM) (b : Bool), wn w - j = c → j ≤ wn w → AsOk (wn w) g0 g2 → WM w B M r g2 → MM (dyM w p m) g2 → PlanM g2 x p → (∀ s, s < wn w → g2.2.1 42 s = mst m s) → (b = true ↔ ∀ s, s < j → mst (dyM w p m) s = mst m s) → wM_rests (F + c + 1) 3 (nI x) x2 0 x4 (if b = true then 1 else 0) (nI j) g2 Q := by
    intro c
    induction c with
    | zero =>
      intro j g2 b hc hj ha hk hm hp h42 hb
      have ej : j = wn w := by omega
      subst ej
      rw [wM_rests]
      any_goals (intro h9; exact absurd h9 (by decide))
      rw [hk.1]
      refine br_t (nI_le (Nat.le_refl _) (by omega)) ?_
      have qq := q g2 F (Nat.le_refl _) ha hk hm hp
      have ebs : (b = true) = (stB w p m = true) := propext (hb.trans stn.symm)
      cases hbb : b with
      | true =>
        rw [if_pos (by rw [← ebs]; exact hbb)] at qq
        exact br_f n10 qq
      | false =>
        rw [if_neg (by rw [← ebs, hbb]; decide)] at qq
        exact br_t rfl qq
    | succ c ih =>
      intro j g2 b hc hj ha hk hm hp h42 hb
      rw [show F + (c + 1) + 1 = F + c + 1 + 1 by omega, wM_rests]
      any_goals (intro h9; exact absurd h9 (by decide))
      have hin : vp_in (nI j) 8 := vp_in_nI (by omega) (by decide)
      rw [hk.1, nI_1, nI_clamp (by omega), h42 j (by omega), hm.1]
      refine br_f (nI_ge (by omega) (by omega)) ?_
      have no : ∀ (hn : ¬ ∀ s, s < j + 1 → mst (dyM w p m) s = mst m s), wM_rests (F + c + 1) 3 (nI x) x2 0 x4 0 (nI (j + 1)) g2 Q := fun hn => ih (j + 1) g2 false (by omega) (by omega) ha hk hm hp h42 ⟨fun z => absurd z (by decide), fun z => absurd z hn⟩
      cases hbb : b with
      | false => exact br_t rfl (no (fun z => by have := hb.mpr (fun s hs => z s (by omega)); rw [hbb] at this; exact absurd this (by decide)))
      | true =>
        refine br_f n10 ⟨hin, hin, fun nn => no (fun z => nn (z j (by omega)).symm), fun y => ?_⟩
        exact ih (j + 1) g2 true (by omega) (by omega) ha hk hm hp h42 ⟨fun _ => lt_s (hb.mp hbb) y.symm, fun _ => rfl⟩
  have L2 : ∀ (c j : Nat) (g2 : GM), wn w - j = c → j ≤ wn w → AsOk (wn w) g0 g2 → WM w B M r g2 → MM m g2 → PlanM g2 x p → (∀ s, s < j → g2.2.1 42 s = mst m s) → wM_rests (F + (wn w) + 1 + c + 1) 2 (nI x) x2 0 x4 (nI j) 0 g2 Q := by
    intro c
    induction c with
    | zero =>
      intro j g2 hc hj ha hk hm hp h42
      have ej : j = wn w := by omega
      subst ej
      rw [wM_rests, hk.1]
      refine br_t (nI_le (Nat.le_refl _) (by omega)) (mDay false hw hk hm hp (fun g3 f hm3 e36 e35 => ?_))
      rw [if_neg (by decide)] at e36 e35
      have a3 := ha.day f e35 e36 (fun s hs => by rw [hm3.1, hm3.2.1, hm.1, hm.2.1]; exact dyM_z hs)
      exact L3 (wn w - 0) 0 g3 true rfl (Nat.zero_le _) a3 (hk.dy f) hm3 (hp.dy f) (fun s hs => by rw [f.2 42 rfl]; exact h42 s hs) ⟨fun _ s hs => absurd hs (Nat.not_lt_zero s), fun _ => rfl⟩
    | succ c ih =>
      intro j g2 hc hj ha hk hm hp h42
      rw [show F + (wn w) + 1 + (c + 1) + 1 = F + (wn w) + 1 + c + 1 + 1 by omega, wM_rests, hk.1, nI_1, nI_clamp (by omega)]
      have hin : vp_in (nI j) 8 := vp_in_nI (by omega) (by decide)
      refine br_f (nI_ge (by omega) (by omega)) ⟨hin, hin, ih (j + 1) _ (by omega) (by omega) ha.a42 hk.a42 hm hp (fun s hs => ?_)⟩
      show upd (g2.2.1 42) j (g2.2.1 8 j) s = _
      by_cases es : s = j
      · rw [es, pk_us, hm.1]
      · rw [pk_un es]; exact h42 s (by omega)
  have fin := L2 (wn w - 0) 0 g1 rfl (Nat.zero_le _) ha hk hm hp (fun s hs => absurd hs (Nat.not_lt_zero s))
  rw [show F + (wn w) + 1 + (wn w - 0) + 1 = F + 2 * (wn w) + 2 by omega] at fin
  exact fin
/-- the first day behind which one more changes nothing -/
noncomputable def rsT (w : Wd) (p : Pl) (m : Md) (z i : Nat) : Nat := skp (fun j => decide (j < z + 1) && !stB w p (dyN w p m j)) (z + 1) i
theorem rs_N {w : Wd} {p : Pl} {m : Md} {z : Nat} : ∀ j, z + 1 ≤ j → (decide (j < z + 1) && !stB w p (dyN w p m j)) = false := fun j h => by
  rw [decide_eq_false (Nat.not_lt.mpr h)]; rfl
theorem op_rests (x1 x2 : Int32) (ht : t < 2000) (h : Rel t k g) : ∃ x, wC_rests x 0 x1 x2 dn0 0 k (fun r k' => ∃ y, wM_rests y 0 x1 x2 0 0 0 0 g (fun r' g' => r = r' ∧ Rel (t + 1) k' g')) := by
  obtain ⟨n, nt, np, nw, N, h⟩ := h
  have hu := h.up
  have hnp := h.2.2.1.1
  have hU : UU t = 2000 * t := rfl
  obtain ⟨w, m, r, B, M, en, hw, hk, hm, ho, hg, hmg, ekd, ewo, ego, eli, em⟩ := h.wm
  subst en
  have h8 := hw.1
  have hz : ∀ s, 8 ≤ s → mst m s = 0 ∧ mon m s = 0 := fun s hs => by
    rw [em]; exact h.2.2.2.2.1.2.1 s (by omega)
  have MB : ∀ P : Int32 → GM → Prop, (ini x1 0 (nI np - 1) = 0 ∨ ini x2 0 100 = 0) → P (-2) g → ∃ y, wM_rests y 0 x1 x2 0 0 0 0 g P := by
    intro P hh p
    refine ⟨1, ?_⟩
    rw [wM_rests]
    refine mPlan h.2.2.1.2.2.1 ?_
    rcases ini_c x1 0 (nI np - 1) with e | e
    · rw [e]; exact br_t rfl p
    rw [e]
    refine br_f n10 (mIn (lo := 0) (hi := 100) rfl rfl ?_)
    rcases ini_c x2 0 100 with e2 | e2
    · rw [e2]; exact br1 rfl p
    exfalso
    rcases hh with z | z
    · rw [e] at z; exact absurd z n10
    · rw [e2] at z; exact absurd z n10
  rcases ini_c x1 0 (nI np - 1) with e | e
  · refine ⟨1, ?_⟩
    rw [wC_rests]
    exact cPlanAt h (fun _ => ⟨fun _ => MB _ (Or.inl e) ⟨rfl, _, _, _, _, _, hu⟩, fun x z => by simp at z⟩) (fun e' => by rw [e] at e'; exact absurd e' (by decide))
  obtain ⟨y, hy, ey⟩ := ini_idx (by omega) e
  obtain ⟨d, p, d1, d2, d3⟩ := h.2.2.1.2.2.2 y hy
  have go : ∀ x (P : Int32 → KC → Prop), (wC_within x2 (0 : Int32) (100 : Int32) k (fun r_3 k_3 => ((¬ r_3 = 0 → (wC_X0_becomeLike 4 2 (8 : Int32) k_3 (fun k_5 => wC_rests x 1 0 x2 d (0 : Int32) k_5 P))) ∧ (r_3 = 0 → P (-2 : Int32) k_3)))) → wC_rests (x + 1) 0 x1 x2 dn0 0 k P := by
    intro x P hh
    rw [wC_rests]
    unfold wC_X8_planAt
    rw [h.2.2.1.2.1]
    refine cWithin ?_
    rw [e, ey]
    refine br_f n10 ⟨vp_in_nI (by omega) (by decide), ?_⟩
    rw [nI_clamp (by omega), d1]
    exact ⟨fun z => by simp at z, fun x hx => ⟨d, by injection hx, hh⟩⟩
  rcases ini_c x2 0 100 with e2 | e2
  · refine ⟨0 + 1, go 0 _ (cWithin ?_)⟩
    rw [e2]; exact br1 rfl (MB _ (Or.inr e2) ⟨rfl, _, _, _, _, _, hu⟩)
  obtain ⟨z, hz1, hz2, ez⟩ := ini_rng (a := 0) (b := 100) (by decide) (by decide) e2
  -- the reference
  have MR : ∀ P : Int32 → GM → Prop, (∀ g', FrH sZm aZm g g' → P (if rsT w p m z 0 ≤ z then nI (rsT w p m z 0) else -1) g') → ∃ y, wM_rests y 0 x1 x2 0 0 0 0 g P := by
    intro P hP
    have fin : ∀ (F' : Nat) (v : Int32) (i : Nat) (g1 : GM), 1 ≤ F' → AsOk (wn w) g g1 → v = (if rsT w p m z 0 ≤ z then nI (rsT w p m z 0) else -1) → (v = -1 → z < i) → i ≤ 1000 → wM_rests F' 1 x1 x2 v (nI i) 0 0 g1 P := by
      intro F' v i g1 hF ha hv hvi hi
      obtain ⟨F', rfl⟩ : ∃ f, F' = f + 1 := ⟨F' - 1, by omega⟩
      rw [wM_rests]
      have bk : ∃ n_9 : Nat, wM_laysBack n_9 0 0 g1 (fun k_9 => P v k_9) := mBack h8 ha hg.1 (fun g' f _ => by rw [hv]; exact hP g' f)
      rw [ez]
      refine ⟨fun _ => bk, fun nl => ⟨fun _ => bk, fun y => ?_⟩⟩
      exact absurd (nI_lt (hvi y) (by omega)) nl
    have L : ∀ (c i F : Nat) (g1 : GM), z + 1 - i = c → i ≤ z + 1 → c * 19 + 1 ≤ F → AsOk (wn w) g g1 → WM w B M r g1 → MM (dyN w p m i) g1 → PlanM g1 y p → rsT w p m z 0 = rsT w p m z i → wM_rests F 1 x1 x2 (-1) (nI i) 0 0 g1 P := by
      intro c
      induction c with
      | zero =>
        intro i F g1 hc hi hF ha hk1 hm1 hp1 er
        have ei : i = z + 1 := by omega
        refine fin F (-1) i g1 (by omega) ha ?_ (fun _ => by omega) (by omega)
        rw [if_neg]
        rw [er]
        have := skp_ge (fun j => decide (j < z + 1) && !stB w p (dyN w p m j)) (z + 1) i
        have e9 : rsT w p m z i = skp (fun j => decide (j < z + 1) && !stB w p (dyN w p m j)) (z + 1) i := rfl
        omega
      | succ c ih =>
        intro i F g1 hc hi hF ha hk1 hm1 hp1 er
        obtain ⟨F, rfl⟩ : ∃ f, F = f + 2 * (wn w) + 2 + 1 := ⟨F - (2 * (wn w) + 3), by omega⟩
        rw [wM_rests]
        have nl : ¬ x2 < nI i := by rw [ez]; exact nI_nlt (by omega) (by omega)
        refine br_f nl ⟨fun n => absurd rfl n, fun _ => ?_⟩
        rw [ey]
        refine mRest hw ha hk1 hm1 hp1 (fun g2 F' hF' ha2 hk2 hm2 hp2 => ?_)
        rw [nI_1, ← ey]
        cases hb : stB w p (dyN w p m i) with
        | true =>
          rw [if_pos rfl]
          have e9 : rsT w p m z i = i := skp_halt _ _ (by rw [hb]; simp)
          refine fin F' _ (i + 1) g2 (by omega) ha2 ?_ (fun e8 => ?_) (by omega)
          · rw [er, e9, if_pos (by omega)]
          · have e7 := congrArg Int32.toInt e8
            rw [nI_toInt (by omega)] at e7
            have : (-1 : Int32).toInt = -1 := by decide
            omega
        | false =>
          rw [if_neg (by decide)]
          refine ih (i + 1) F' g2 (by omega) (by omega) (by omega) ha2 hk2 hm2 hp2 ?_
          rw [er]
          exact skp_step _ (z + 1) rs_N (by rw [hb, decide_eq_true (by omega)]; rfl)
    have st : ∃ x, wM_laysAside x 0 (if false = true then 1 else 0) 0 g (fun k_5 => wM_rests ((z + 1) * 19 + 1) 1 x1 x2 (-1 : Int32) (0 : Int32) 0 0 k_5 P) := by
      refine mAside false h8 hg.1 (fun g1 ha e8 e9 e15 e16 e14 ff => ?_)
      rw [if_neg (by decide)] at e8 e9 e15 e16
      have hk1 : WM w B M r g1 := by
        obtain ⟨a1, a2, a3, a4, a5, ⟨a6, a7, a8⟩, a9, a10⟩ := hg
        exact ⟨(ff.1 10 rfl).trans a1, (ff.2 7 rfl).trans a2, (ff.2 11 rfl).trans a3, (ff.2 12 rfl).trans a4, (ff.2 13 rfl).trans a5, ⟨a6, by rw [ff.2 2 rfl]; exact a7, by rw [ff.2 1 rfl]; exact a8⟩, a9, (ff.1 4 rfl).trans a10⟩
      have hp1 : PlanM g1 y p := ⟨d3.1, by rw [ff.2 30 rfl]; exact d3.2.1, d3.2.2.1, fun i hi => by rw [ff.2 31 rfl, ff.2 32 rfl]; exact d3.2.2.2 i hi⟩
      exact L (z + 1) 0 _ g1 rfl (by omega) (by omega) ha hk1 ⟨e8.trans hmg.1, e9.trans hmg.2.1, e15.trans hmg.2.2.1, e16.trans hmg.2.2.2.1, e14.trans hmg.2.2.2.2⟩ hp1 rfl
    refine ⟨(z + 1) * 19 + 1 + 1, ?_⟩
    rw [wM_rests]
    refine mPlan h.2.2.1.2.2.1 ?_
    rw [e]
    refine br_f n10 (mIn (lo := 0) (hi := 100) rfl rfl ?_)
    rw [e2]
    exact br0 n10 st
  -- the class
  have fin : ∀ k', FrC (oMd 4) (aMd 4) k k' → RD k' → ∃ y, wM_rests y 0 x1 x2 0 0 0 0 g (fun r' g' => (if rsT w p m z 0 ≤ z then nI (rsT w p m z 0) else -1) = r' ∧ Rel (t + 1) k' g') := fun k' f hd => MR _ (fun g' f' => ⟨rfl, _, _, _, _, _, (hu.zC f.o4 hd).zM f'⟩)
  have L : ∀ (c i : Nat) (k1 : KC), z + 1 - i = c → i ≤ z + 1 → FrC (oMd 4) (aMd 4) k k1 → MC 4 r (dyN w p m i) k1 → rsT w p m z 0 = rsT w p m z i → wC_rests (c + 1) 1 0 x2 d (nI i) k1 (fun r k' => ∃ y, wM_rests y 0 x1 x2 0 0 0 0 g (fun r' g' => r = r' ∧ Rel (t + 1) k' g')) := by
    intro c
    have hz2' : ∀ i s, 8 ≤ s → mst (dyN w p m i) s = 0 ∧ mon (dyN w p m i) s = 0 := fun i s hs => by
      rw [(dyN_z (by omega) i).1, (dyN_z (by omega) i).2]; exact hz s hs
    induction c with
    | zero =>
      intro i k1 hc hi f hm1 er
      have ei : i = z + 1 := by omega
      rw [wC_rests]
      any_goals (intro h9; exact absurd h9 (by decide))
      have nl : x2 < nI i := by rw [ez]; exact nI_lt (by omega) (by omega)
      refine br_t nl ?_
      have ff := fin k1 f (RD.mc hm1 (hz2' i))
      have ng : ¬ rsT w p m z 0 ≤ z := by
        rw [er]
        have := skp_ge (fun j => decide (j < z + 1) && !stB w p (dyN w p m j)) (z + 1) i
        have e9 : rsT w p m z i = skp (fun j => decide (j < z + 1) && !stB w p (dyN w p m j)) (z + 1) i := rfl
        omega
      rw [if_neg ng] at ff
      exact ff
    | succ c ih =>
      intro i k1 hc hi f hm1 er
      rw [wC_rests]
      any_goals (intro h9; exact absurd h9 (by decide))
      have nl : ¬ x2 < nI i := by rw [ez]; exact nI_nlt (by omega) (by omega)
      have hp24 := d2.2.2.1
      have hb0 : i * p.1 ≤ 101 * 24 := Nat.mul_le_mul (by omega) hp24
      refine br_f nl (cStay hw (hk.fr (Or.inr rfl) f) hm1 ((dyN_ok ho i).mono (v := 4 * UU t + 101 * 24) (by omega)) (by omega) (d2.fr f) (fun k2 f2 hm2 => ?_))
      cases hb : stB w p (dyN w p m i) with
      | true =>
        rw [if_pos rfl]
        have e9 : rsT w p m z i = i := skp_halt _ _ (by rw [hb]; simp)
        have ff := fin k2 (f.tr f2) (RD.mc (m := dyN w p m (i + 1)) hm2 (hz2' (i + 1)))
        rw [er, e9, if_pos (by omega)] at ff
        exact br_f n10 ff
      | false =>
        rw [if_neg (by decide), nI_1]
        refine br_t rfl (ih (i + 1) k2 (by omega) (by omega) (f.tr f2) hm2 ?_)
        rw [er]
        exact skp_step _ (z + 1) rs_N (by rw [hb, decide_eq_true (by omega)]; rfl)
  refine ⟨z + 1 - 0 + 1 + 1, go _ _ (cWithin ?_)⟩
  rw [e2]
  refine br0 n10 (cLike4 h.2.2.2.2.2.2.2.2.2 hm hz (fun k1 f1 hm1 => ?_))
  exact L _ 0 k1 rfl (by omega) f1 hm1 rfl
end Re
