/-! ===== a DAY on both sides ===== -/
abbrev Pl : Type := Nat × (Nat → Int32) × (Nat → Nat)
def PlanC (k : KC) (d : Dn) (p : Pl) : Prop := d ∈ plC k ∧ d.2.2.2.1 = p.1 ∧ p.1 ≤ 24 ∧ ∀ i, i < p.1 → d.2.2.2.2.1 i = p.2.1 i ∧ d.2.2.2.2.2 i = nI (p.2.2 i) ∧ p.2.2 i < 4
def PlanM (g : GM) (x : Nat) (p : Pl) : Prop := x < 8 ∧ g.2.1 30 x = nI p.1 ∧ p.1 ≤ 24 ∧ ∀ i, i < p.1 → g.2.1 31 (24 * x + i) = p.2.1 i ∧ g.2.1 32 (24 * x + i) = nI (p.2.2 i) ∧ p.2.2 i < 4
def tsM (w : Wd) (p : Pl) (m : Md) : Nat → Md
  | 0 => m
  | j + 1 => trM w (tsM w p m j) (p.2.1 j) (p.2.2 j)
def ewT (n : Nat) (p : Pl) (f : Nat → Int32) : Nat → Nat → Int32
  | 0 => f
  | j + 1 => trE n (p.2.1 j) (p.2.2 j) (ewT n p f j)
def enT (p : Pl) (f : Nat → Int32) : Nat → Nat → Int32
  | 0 => f
  | j + 1 => upd (enT p f j) (p.2.2 j) (enT p f j (p.2.2 j) + 1)
def faS (w : Wd) (m : Md) (j : Nat) : Nat → Int32 := fun s => if s < j then mst m s * (100 - fadV w m s) / 100 else mst m s
def faM (w : Wd) (m : Md) : Md := (faS w m (wn w), mon m, mdy m + 1, 0, mpc m)
def dyM (w : Wd) (p : Pl) (m : Md) : Md := faM w (tsM w p m p.1)
theorem tsM_ok {w : Wd} {p : Pl} {m : Md} {u : Nat} (h : MOk u m) : ∀ j, MOk (u + j) (tsM w p m j)
  | 0 => h
  | j + 1 => trM_ok (tsM_ok h j)
theorem dyM_ok {w : Wd} {p : Pl} {m : Md} {u : Nat} (h : MOk u m) : MOk (u + p.1) (dyM w p m) := tsM_ok h p.1
theorem faS_0 {w : Wd} {m : Md} : faS w m 0 = mst m := by
  funext s
  exact if_neg (Nat.not_lt_zero s)
theorem faS_s {w : Wd} {m : Md} {j : Nat} : upd (faS w m j) j (mst m j * (100 - fadV w m j) / 100) = faS w m (j + 1) := by
  funext s
  show (if s = j then _ else if s < j then _ else _) = if s < j + 1 then _ else _
  by_cases e : s = j
  · subst e
    rw [if_pos rfl, if_pos (Nat.lt_succ_self s)]
  · rw [if_neg e]
    by_cases c : s < j
    · rw [if_pos c, if_pos (by omega)]
    · rw [if_neg c, if_neg (by omega)]
theorem faS_j {w : Wd} {m : Md} {j : Nat} : faS w m j j = mst m j := if_neg (Nat.lt_irrefl j)
theorem fadV_j {w : Wd} {m : Md} {j : Nat} : fadV w (faS w m j, mon m, mdy m, mtd m, mpc m) j = fadV w m j := by
  unfold fadV
  have e : mst (faS w m j, mon m, mdy m, mtd m, mpc m) j = mst m j := faS_j
  rw [e]; rfl
theorem plC_fr {S A : Nat → Nat → Bool} {k k' : KC} (f : FrC S A k k') : plC k' = plC k := by unfold plC; rw [f.2.2]
theorem PlanC.fr {S A : Nat → Nat → Bool} {k k' : KC} {d : Dn} {p : Pl} (h : PlanC k d p) (f : FrC S A k k') : PlanC k' d p := ⟨by rw [plC_fr f]; exact h.1, h.2⟩
theorem PlanM.dy {g g' : GM} {x : Nat} {p : Pl} (h : PlanM g x p) (f : FrH sDy aDy g g') : PlanM g' x p :=
  ⟨h.1, by rw [f.2 30 rfl]; exact h.2.1, h.2.2.1, fun i hi => by rw [f.2 31 rfl, f.2 32 rfl]; exact h.2.2.2 i hi⟩
section CDy
variable {w : Wd} {m : Md} {r i u : Nat} {k : KC} {p : Pl} {d : Dn}
theorem cFadeL {Q : KC → Prop} (hw : WOk w) (hi : i = 2 ∨ i = 4) : ∀ (c j : Nat) (k2 : KC), wn w - j = c → j ≤ wn w → WC w r k2 → MC i r (faS w m j, mon m, mdy m, mtd m, mpc m) k2 →
    (∀ k', FrC (oMd i) (aMd i) k2 k' → MC i r (faM w m) k' → k'.2.1 i 3 = k2.2.1 i 3 → k'.2.1 i 4 = k2.2.1 i 4 → k'.2.1 i 6 = k2.2.1 i 6 → Q k') → wC_X0_goThroughDay i d (c + 1) 2 (nI j) k2 Q := by
  have h8 := hw.1
  have hi1 : i ≠ 1 := by rcases hi with rfl | rfl <;> decide
  intro c
  induction c with
  | zero =>
    intro j k2 hc hj hk hm q
    rw [wC_X0_goThroughDay]
    any_goals (intro h9; exact absurd h9 (by decide))
    have ej : j = wn w := by omega
    subst ej
    rw [hk.1]
    refine br_t (nI_le (Nat.le_refl _) (by omega)) (q _ ((FrC.rf.i_ oMd_i).i_ oMd_i) ⟨hm.1, hm.2.1, ?_, ?_, ?_, ?_⟩ rfl rfl rfl)
    · rw [cI_y rfl, cI_s, hm.2.2.1]; rfl
    · rw [cI_s]; rfl
    · rw [cI_y rfl, cI_y rfl]; exact hm.2.2.2.2.1
    · rw [cI_y rfl, cI_y rfl]; exact hm.2.2.2.2.2
  | succ c ih =>
    intro j k2 hc hj hk hm q
    rw [wC_X0_goThroughDay]
    any_goals (intro h9; exact absurd h9 (by decide))
    rw [hk.1]
    refine br_f (nI_ge (by omega) (by omega)) ⟨vp_in_nI (by omega) (by decide), cFades hw hk hm.1 hm.2.2.1 hm.2.2.2.2.2 hi1 (by omega) (fun k3 f3 => ⟨vp_in_nI (by omega) (by decide), ?_⟩)⟩
    have hk3 := hk.fr hi f3.scr
    have hm3 := hm.fr hi f3
    rw [nI_1, nI_clamp (by omega), hm.1, hm3.1, fadV_j]
    have ef : mst (faS w m j, mon m, mdy m, mtd m, mpc m) = faS w m j := rfl
    rw [ef, faS_j, faS_s]
    have fz : FrC (oMd i) (aMd i) k3 (cA k3 i 1 (faS w m (j + 1))) := FrC.rf.a_ aMd_i
    have g3 : ∀ y, k3.2.1 i y = k2.2.1 i y := fun y => f3.2.1 i y (sScr_i hi)
    refine ih (j + 1) _ (by omega) (by omega) (hk3.fr hi fz) ⟨cA_s, ?_, hm3.2.2.1, hm3.2.2.2.1, hm3.2.2.2.2.1, hm3.2.2.2.2.2⟩ (fun k' f' hm' e3 e4 e6 => q k' (f3.scr.tr (fz.tr f')) hm' ?_ ?_ ?_)
    · rw [cA_y rfl]; exact hm3.2.1
    · rw [e3, cA_y rfl, g3]
    · rw [e4, cA_y rfl, g3]
    · rw [e6, cA_y rfl, g3]
theorem cDay {Q : KC → Prop} (hw : WOk w) (hk : WC w r k) (hm : MC i r m k) (hi : i = 2 ∨ i = 4) (ho : MOk u m) (hu : u + 24 < 2 ^ 30) (hp : PlanC k d p)
    (q : ∀ k', FrC (oMd i) (aMd i) k k' → MC i r (dyM w p m) k' → k'.2.1 i 3 = ewT (wn w) p (k.2.1 i 3) p.1 → k'.2.1 i 4 = enT p (k.2.1 i 4) p.1 → k'.2.1 i 6 = k.2.1 i 6 → Q k') : ∃ n, wC_X0_goThroughDay i d n 0 0 k Q := by
  have h8 := hw.1
  obtain ⟨hp1, hp2, hp3, hp4⟩ := hp
  have L : ∀ (c j : Nat) (k1 : KC), p.1 - j = c → j ≤ p.1 → FrC (oMd i) (aMd i) k k1 → WC w r k1 → MC i r (tsM w p m j) k1 → k1.2.1 i 3 = ewT (wn w) p (k.2.1 i 3) j → k1.2.1 i 4 = enT p (k.2.1 i 4) j → k1.2.1 i 6 = k.2.1 i 6 → wC_X0_goThroughDay i d (c + (wn w + 2)) 1 (nI j) k1 Q := by
    intro c
    induction c with
    | zero =>
      intro j k1 hc hj f hk1 hm1 e3 e4 e6
      rw [show 0 + (wn w + 2) = wn w + 1 + 1 by omega, wC_X0_goThroughDay]
      have ej : j = p.1 := by omega
      subst ej
      rw [hp2]
      refine ⟨by rw [plC_fr f]; exact hp1, br_t (nI_le (Nat.le_refl _) (by omega)) ?_⟩
      refine cFadeL (m := tsM w p m p.1) (r := r) hw hi (wn w - 0) 0 k1 rfl (Nat.zero_le _) hk1 ?_ (fun k' f' hm' z3 z4 z6 => q k' (f.tr f') hm' (z3.trans e3) (z4.trans e4) (z6.trans e6))
      rw [faS_0]; exact hm1
    | succ c ih =>
      intro j k1 hc hj f hk1 hm1 e3 e4 e6
      rw [show c + 1 + (wn w + 2) = c + (wn w + 2) + 1 by omega, wC_X0_goThroughDay, hp2, nI_1, nI_clamp (by omega)]
      obtain ⟨r1, r2, r3⟩ := hp4 j (by omega)
      rw [r1, r2]
      refine ⟨by rw [plC_fr f]; exact hp1, br_f (nI_ge (by omega) (by omega)) ⟨vp_in_nI (by omega) (by omega), vp_in_nI (by omega) (by omega), ?_⟩⟩
      refine cTrial hw hk1 hm1 hi (tsM_ok ho j) (by omega) r3 (fun k2 f2 hm2 z3 z4 z6 _ => ?_)
      exact ih (j + 1) k2 (by omega) (by omega) (f.tr f2) (hk1.fr hi f2) hm2 (by rw [z3, e3]; rfl) (by rw [z4, e4]; rfl) (z6.trans e6)
  refine ⟨p.1 - 0 + (wn w + 2) + 1, ?_⟩
  rw [wC_X0_goThroughDay]
  exact L _ 0 k rfl (Nat.zero_le _) FrC.rf hk hm rfl rfl rfl
end CDy
section MDy
variable {w : Wd} {m : Md} {r N x : Nat} {B : Nat → Nat} {g : GM} {p : Pl}
theorem mFadeL {Q : GM → Prop} (hw : WOk w) : ∀ (c j : Nat) (g2 : GM), wn w - j = c → j ≤ wn w → WM w B N r g2 → MM (faS w m j, mon m, mdy m, mtd m, mpc m) g2 →
    (∀ g', FrH sDy aDy g2 g' → MM (faM w m) g' → g'.2.1 35 = g2.2.1 35 → g'.2.1 36 = g2.2.1 36 → Q g') → wM_fades (c + 1) 1 (nI j) g2 Q := by
  have h8 := hw.1
  intro c
  induction c with
  | zero =>
    intro j g2 hc hj hk hm q
    rw [wM_fades]
    any_goals (intro h9; exact absurd h9 (by decide))
    have ej : j = wn w := by omega
    subst ej
    rw [hk.1]
    exact br_t (nI_le (Nat.le_refl _) (by omega)) (q _ ((FrH.rf.i_ rfl).i_ rfl) ⟨hm.1, hm.2.1, by show g2.1 15 + 1 = _; rw [hm.2.2.1]; rfl, rfl, hm.2.2.2.2⟩ rfl rfl)
  | succ c ih =>
    intro j g2 hc hj hk hm q
    rw [wM_fades]
    any_goals (intro h9; exact absurd h9 (by decide))
    rw [hk.1]
    refine br_f (nI_ge (by omega) (by omega)) ⟨vp_in_nI (by omega) (by decide), mFades hk hm.1 hm.2.2.1 (by omega) (fun g3 f3 => ⟨vp_in_nI (by omega) (by decide), ?_⟩)⟩
    have hk3 := hk.fr f3
    have hm3 := hm.fr f3
    rw [nI_1, nI_clamp (by omega), hm.1, hm3.1, fadV_j]
    have ef : mst (faS w m j, mon m, mdy m, mtd m, mpc m) = faS w m j := rfl
    rw [ef, faS_j, faS_s]
    have fz : FrH sDy aDy g3 (sA g3 8 (faS w m (j + 1))) := FrH.rf.a_ rfl
    refine ih (j + 1) _ (by omega) (by omega) (hk3.dy fz) ⟨rfl, hm3.2.1, hm3.2.2.1, hm3.2.2.2.1, hm3.2.2.2.2⟩ (fun g' f' hm' e3 e4 => q g' (f3.dy.tr (fz.tr f')) hm' ?_ ?_)
    · rw [e3]
      show g3.2.1 35 = _
      rw [f3.2]
    · rw [e4]
      show g3.2.1 36 = _
      rw [f3.2]
theorem mFade {Q : GM → Prop} (hw : WOk w) (hk : WM w B N r g) (hm : MM m g) (q : ∀ g', FrH sDy aDy g g' → MM (faM w m) g' → g'.2.1 35 = g.2.1 35 → g'.2.1 36 = g.2.1 36 → Q g') : ∃ n, wM_fades n 0 0 g Q := by
  refine ⟨wn w - 0 + 1 + 1, ?_⟩
  rw [wM_fades]
  exact mFadeL (m := m) (r := r) (B := B) (N := N) hw _ 0 g rfl (Nat.zero_le _) hk (by rw [faS_0]; exact hm) q
theorem mDay {Q : GM → Prop} (b : Bool) (hw : WOk w) (hk : WM w B N r g) (hm : MM m g) (hp : PlanM g x p)
    (q : ∀ g', FrH sDy aDy g g' → MM (dyM w p m) g' → g'.2.1 36 = (if b = true then ewT (wn w) p (g.2.1 36) p.1 else g.2.1 36) → g'.2.1 35 = (if b = true then enT p (g.2.1 35) p.1 else g.2.1 35) → Q g') : ∃ n, wM_goesBy n 0 (nI x) (if b = true then 1 else 0) 0 g Q := by
  have h8 := hw.1
  have hx := hp.1
  have h24 := hp.2.2.1
  have L : ∀ (c j : Nat) (g1 : GM), p.1 - j = c → j ≤ p.1 → FrH sDy aDy g g1 → WM w B N r g1 → MM (tsM w p m j) g1 → g1.2.1 36 = (if b = true then ewT (wn w) p (g.2.1 36) j else g.2.1 36) → g1.2.1 35 = (if b = true then enT p (g.2.1 35) j else g.2.1 35) → wM_goesBy (c + 1) 1 (nI x) (if b = true then 1 else 0) (nI j) g1 Q := by
    intro c
    induction c with
    | zero =>
      intro j g1 hc hj f hk1 hm1 e6 e5
      rw [wM_goesBy]
      any_goals (intro h9; exact absurd h9 (by decide))
      have ej : j = p.1 := by omega
      subst ej
      obtain ⟨p1, p2, p3, p4⟩ := hp.dy f
      rw [nI_clamp (by omega), p2]
      refine ⟨vp_in_nI hx (by decide), br_t (nI_le (Nat.le_refl _) (by omega)) ?_⟩
      exact mFade hw hk1 hm1 (fun g' f' hm' z5 z6 => q g' (f.tr f') hm' (z6.trans e6) (z5.trans e5))
    | succ c ih =>
      intro j g1 hc hj f hk1 hm1 e6 e5
      rw [wM_goesBy]
      any_goals (intro h9; exact absurd h9 (by decide))
      obtain ⟨p1, p2, p3, p4⟩ := hp.dy f
      obtain ⟨r1, r2, r3⟩ := p4 j (by omega)
      have ei : (24 : Int32) * nI x + nI j = nI (24 * x + j) := by
        show nI 24 * nI x + nI j = _
        rw [pk_mul, nI_add]
      rw [nI_clamp (by omega), p2, ei, nI_clamp (by omega), r1, r2, nI_1]
      have hin : vp_in (nI (24 * x + j)) 192 := vp_in_nI (by omega) (by decide)
      refine ⟨vp_in_nI hx (by decide), br_f (nI_ge (by omega) (by omega)) ⟨hin, hin, ?_⟩⟩
      refine mTrial hw hk1 hm1 r3 (fun g2 f2 hm2 z5 z6 _ => ?_)
      cases b with
      | false =>
        refine br_t rfl ?_
        exact ih (j + 1) g2 (by omega) (by omega) (f.tr f2) (hk1.dy f2) hm2 (z6.trans e6) (z5.trans e5)
      | true =>
        refine br_f n10 ⟨hin, hin, ?_⟩
        obtain ⟨q1, q2, q3, q4⟩ := hp.dy (f.tr f2)
        obtain ⟨s1, s2, s3⟩ := q4 j (by omega)
        rw [s1, s2]
        refine mCounts hw (hk1.dy f2).1 r3 ?_
        have fz : FrH sDy aDy g2 (sA (sA g2 35 (upd (g2.2.1 35) (p.2.2 j) (g2.2.1 35 (p.2.2 j) + 1))) 36 (trE (wn w) (p.2.1 j) (p.2.2 j) (g2.2.1 36))) := (FrH.rf.a_ rfl).a_ rfl
        refine ih (j + 1) _ (by omega) (by omega) (f.tr (f2.tr fz)) ((hk1.dy f2).dy fz) hm2 ?_ ?_
        · show trE (wn w) (p.2.1 j) (p.2.2 j) (g2.2.1 36) = _
          rw [z6, e6]; rfl
        · show upd (g2.2.1 35) (p.2.2 j) (g2.2.1 35 (p.2.2 j) + 1) = _
          rw [z5, e5]; rfl
  refine ⟨p.1 - 0 + 1 + 1, ?_⟩
  rw [wM_goesBy]
  refine L _ 0 g rfl (Nat.zero_le _) FrH.rf hk hm ?_ ?_
  · cases b <;> rfl
  · cases b <;> rfl
end MDy
