/-! ===== blocked ===== -/
section Bl
variable {t n nt np nw N : Nat} {k : KC} {g : GM}
def gaN (w : Wd) (m : Md) (set : Int32) (e : Nat) (x : Int32) : Nat → Int32
  | 0 => x
  | j + 1 => if isO set j = true ∧ ¬ gainV w m e (smV w m set) j = 0 then gaN w m set e x j ||| ((1 : Int32) <<< (nI j &&& 31)) else gaN w m set e x j
theorem gaN_or {w : Wd} {m : Md} {set x : Int32} {e : Nat} : ∀ j, gaN w m set e x j = x ||| gaN w m set e 0 j
  | 0 => (Int32.or_zero).symm
  | j + 1 => by
    show (if isO set j = true ∧ ¬ gainV w m e (smV w m set) j = 0 then gaN w m set e x j ||| ((1 : Int32) <<< (nI j &&& 31)) else gaN w m set e x j) = x ||| (if isO set j = true ∧ ¬ gainV w m e (smV w m set) j = 0 then gaN w m set e 0 j ||| ((1 : Int32) <<< (nI j &&& 31)) else gaN w m set e 0 j)
    by_cases c : isO set j = true ∧ ¬ gainV w m e (smV w m set) j = 0
    · rw [if_pos c, if_pos c, gaN_or j, Int32.or_assoc]
    · rw [if_neg c, if_neg c, gaN_or j]
theorem cGainers {w : Wd} {m : Md} {set : Int32} {e : Nat} {Q : Int32 → KC → Prop} (h8 : wn w ≤ 8) (h10 : k.1 1 0 = nI (wn w)) (h5 : ∀ s, s < wn w → isO set s = true → k.2.1 4 5 s = gainV w m e (smV w m set) s) (q : Q (gaN w m set e 0 (wn w)) k) : ∃ x, wC_X0_gainers 4 x 0 set 0 0 k Q := by
  have L : ∀ (c j : Nat), wn w - j = c → j ≤ wn w → wC_X0_gainers 4 (c + 1) 1 set (gaN w m set e 0 j) (nI j) k Q := by
    intro c
    induction c with
    | zero =>
      intro j hc hj
      rw [wC_X0_gainers]
      any_goals (intro h9; exact absurd h9 (by decide))
      have ej : j = wn w := by omega
      subst ej
      rw [h10]
      exact br_t (nI_le (Nat.le_refl _) (by omega)) q
    | succ c ih =>
      intro j hc hj
      rw [wC_X0_gainers]
      any_goals (intro h9; exact absurd h9 (by decide))
      have nx := ih (j + 1) (by omega) (by omega)
      have eg : gaN w m set e 0 (j + 1) = if isO set j = true ∧ ¬ gainV w m e (smV w m set) j = 0 then gaN w m set e 0 j ||| ((1 : Int32) <<< (nI j &&& 31)) else gaN w m set e 0 j := rfl
      rw [h10, nI_1, nI_clamp (by omega)]
      refine br_f (nI_ge (by omega) (by omega)) (cIsOn ?_)
      by_cases h : isO set j = true
      · rw [if_pos h, h5 j (by omega) h]
        refine br_f n10 ⟨vp_in_nI (by omega) (by decide), fun z => ?_, fun z => ?_⟩
        · rw [eg, if_neg (fun y => y.2 z)] at nx; exact nx
        · rw [eg, if_pos ⟨h, z⟩] at nx; exact nx
      · rw [if_neg h]
        rw [eg, if_neg (fun y => h y.1)] at nx
        exact br_t rfl nx
  refine ⟨wn w - 0 + 1 + 1, ?_⟩
  rw [wC_X0_gainers]
  exact L _ 0 rfl (Nat.zero_le _)
def blS (p : Pl) : Nat → Int32
  | 0 => 0
  | j + 1 => if p.2.2 j = 0 then blS p j else blS p j ||| p.2.1 j
def blG (w : Wd) (p : Pl) (m : Md) : Nat → Int32
  | 0 => 0
  | j + 1 => if p.2.2 j = 0 then blG w p m j else blG w p m j ||| gaN w (tsM w p m j) (p.2.1 j) (p.2.2 j) 0 (wn w)
theorem op_blocked (x1 : Int32) (ht : t < 2000) (h : Rel t k g) : ∃ x, wC_blocked x 0 x1 dn0 0 0 0 k (fun r k' => ∃ y, wM_blocked y 0 x1 0 0 0 0 g (fun r' g' => r = r' ∧ Rel (t + 1) k' g')) := by
  obtain ⟨n, nt, np, nw, N, h⟩ := h
  have hu := h.up
  have hnp := h.2.2.1.1
  have hU : UU t = 2000 * t := rfl
  obtain ⟨w, m, r, B, M, en, hw, hk, hm, ho, hg, hmg, ekd, ewo, ego, eli, em⟩ := h.wm
  subst en
  have h8 := hw.1
  have hz : ∀ s, 8 ≤ s → mst m s = 0 ∧ mon m s = 0 := fun s hs => by
    rw [em]; exact h.2.2.2.2.1.2.1 s (by omega)
  rcases ini_c x1 0 (nI np - 1) with e | e
  · refine ⟨1, ?_⟩
    rw [wC_blocked]
    refine cPlanAt h (fun _ => ⟨fun _ => ⟨1, ?_⟩, fun x z => by simp at z⟩) (fun e' => by rw [e] at e'; exact absurd e' (by decide))
    rw [wM_blocked]
    refine mPlan h.2.2.1.2.2.1 ?_
    rw [e]; exact br1 rfl ⟨rfl, _, _, _, _, _, hu⟩
  obtain ⟨y, hy, ey⟩ := ini_idx (by omega) e
  obtain ⟨d, p, d1, d2, d3⟩ := h.2.2.1.2.2.2 y hy
  have hp24 := d2.2.2.1
  -- the reference
  have MR : ∀ P : Int32 → GM → Prop, (∀ g', FrH sZm aZm g g' → P (blS p p.1 &&& (blG w p m p.1 ^^^ (-1 : Int32))) g') → ∃ y, wM_blocked y 0 x1 0 0 0 0 g P := by
    intro P hP
    have L : ∀ (c j F : Nat) (g1 : GM), p.1 - j = c → j ≤ p.1 → c * 11 + 1 ≤ F → AsOk (wn w) g g1 → WM w B M r g1 → MM (tsM w p m j) g1 → PlanM g1 y p → wM_blocked F 1 x1 (blS p j) (blG w p m j) (nI j) 0 g1 P := by
      intro c
      induction c with
      | zero =>
        intro j F g1 hc hj hF ha hk1 hm1 hp1
        obtain ⟨F, rfl⟩ : ∃ f, F = f + 1 := ⟨F - 1, by omega⟩
        have ej : j = p.1 := by omega
        subst ej
        rw [wM_blocked, ey, nI_clamp (by omega), hp1.2.1]
        exact ⟨vp_in_nI hp1.1 (by decide), br_t (nI_le (Nat.le_refl _) (by omega)) (mBack h8 ha hg.1 (fun g' f _ => hP g' f))⟩
      | succ c ih =>
        intro j F g1 hc hj hF ha hk1 hm1 hp1
        obtain ⟨F, rfl⟩ : ∃ f, F = f + 1 := ⟨F - 1, by omega⟩
        obtain ⟨r1, r2, r3⟩ := hp1.2.2.2 j (by omega)
        have hy8 := hp1.1
        rw [wM_blocked, ey, nI_clamp (by omega), hp1.2.1]
        have e24 : (24 : Int32) * nI y + nI j = nI (24 * y + j) := by
          show nI 24 * nI y + nI j = _
          rw [pk_mul, nI_add]
        have i24 : vp_in (nI (24 * y + j)) 192 := vp_in_nI (by omega) (by decide)
        rw [e24, nI_clamp (by omega), r1, r2, nI_1]
        refine ⟨vp_in_nI hp1.1 (by decide), br_f (nI_ge (by omega) (by omega)) ⟨i24, i24, mTrial hw hk1 hm1 r3 (fun g2 f2 hm2 e35 e36 h34 => ?_)⟩⟩
        have a2 := ha.day f2 e35 e36 (fun s hs => by rw [hm2.1, hm2.2.1, hm1.1, hm1.2.1]; exact trM_z hs)
        have hk2 := hk1.dy f2
        have hp2 := hp1.dy f2
        have ez : nI (p.2.2 j) = (0 : Int32) ↔ p.2.2 j = 0 := nI_eq (b := 0) (by omega) (by decide)
        rw [ez]
        rw [← ey]
        have sS : blS p (j + 1) = if p.2.2 j = 0 then blS p j else blS p j ||| p.2.1 j := rfl
        have sG : blG w p m (j + 1) = if p.2.2 j = 0 then blG w p m j else blG w p m j ||| gaN w (tsM w p m j) (p.2.1 j) (p.2.2 j) 0 (wn w) := rfl
        refine ⟨fun nz => ?_, fun yz => ?_⟩
        · have I : ∀ (c' s F' : Nat), wn w - s = c' → s ≤ wn w → c' + 1 + (c * 11 + 1) ≤ F' → wM_blocked F' 2 x1 (blS p j ||| p.2.1 j) (gaN w (tsM w p m j) (p.2.1 j) (p.2.2 j) (blG w p m j) s) (nI j) (nI s) g2 P := by
            intro c'
            induction c' with
            | zero =>
              intro s F' hc' hs hF'
              obtain ⟨F', rfl⟩ : ∃ f, F' = f + 1 := ⟨F' - 1, by omega⟩
              have es : s = wn w := by omega
              subst es
              rw [wM_blocked]
              any_goals (intro h9; exact absurd h9 (by decide))
              rw [hk2.1, nI_1]
              refine br_t (nI_le (Nat.le_refl _) (by omega)) ?_
              have nx := ih (j + 1) F' g2 (by omega) (by omega) (by omega) a2 hk2 hm2 hp2
              rw [sS, sG, if_neg nz, if_neg nz] at nx
              rw [gaN_or]; exact nx
            | succ c' ih' =>
              intro s F' hc' hs hF'
              obtain ⟨F', rfl⟩ : ∃ f, F' = f + 1 := ⟨F' - 1, by omega⟩
              rw [wM_blocked]
              any_goals (intro h9; exact absurd h9 (by decide))
              have nx := ih' (s + 1) F' (by omega) (by omega) (by omega)
              have eg : gaN w (tsM w p m j) (p.2.1 j) (p.2.2 j) (blG w p m j) (s + 1) = if isO (p.2.1 j) s = true ∧ ¬ gainV w (tsM w p m j) (p.2.2 j) (smV w (tsM w p m j) (p.2.1 j)) s = 0 then gaN w (tsM w p m j) (p.2.1 j) (p.2.2 j) (blG w p m j) s ||| ((1 : Int32) <<< (nI s &&& 31)) else gaN w (tsM w p m j) (p.2.1 j) (p.2.2 j) (blG w p m j) s := rfl
              rw [hk2.1, nI_1 s, nI_clamp (by omega), h34 s (by omega)]
              refine br_f (nI_ge (by omega) (by omega)) ⟨vp_in_nI (by omega) (by decide), fun z => ?_, fun z => ?_⟩
              · rw [eg, if_neg (fun y => by rw [if_pos y.1] at z; exact y.2 z)] at nx
                rw [Int32.or_zero]; exact nx
              · by_cases ho' : isO (p.2.1 j) s = true
                · rw [if_pos ho'] at z
                  rw [eg, if_pos ⟨ho', z⟩] at nx; exact nx
                · rw [if_neg ho'] at z; exact absurd rfl z
          exact I (wn w - 0) 0 F rfl (Nat.zero_le _) (by omega)
        · have nx := ih (j + 1) F g2 (by omega) (by omega) (by omega) a2 hk2 hm2 hp2
          rw [sS, sG, if_pos yz, if_pos yz] at nx
          exact nx
    have st : ∃ x, wM_laysAside x 0 (if false = true then 1 else 0) 0 g (fun k_5 => wM_blocked (p.1 * 11 + 1) 1 x1 (0 : Int32) (0 : Int32) (0 : Int32) 0 k_5 P) := by
      refine mAside false h8 hg.1 (fun g1 ha e8 e9 e15 e16 e14 ff => ?_)
      rw [if_neg (by decide)] at e8 e9 e15 e16
      have hk1 : WM w B M r g1 := by
        obtain ⟨a1, a2, a3, a4, a5, ⟨a6, a7, a8⟩, a9, a10⟩ := hg
        exact ⟨(ff.1 10 rfl).trans a1, (ff.2 7 rfl).trans a2, (ff.2 11 rfl).trans a3, (ff.2 12 rfl).trans a4, (ff.2 13 rfl).trans a5, ⟨a6, by rw [ff.2 2 rfl]; exact a7, by rw [ff.2 1 rfl]; exact a8⟩, a9, (ff.1 4 rfl).trans a10⟩
      have hp1 : PlanM g1 y p := ⟨d3.1, by rw [ff.2 30 rfl]; exact d3.2.1, d3.2.2.1, fun i hi => by rw [ff.2 31 rfl, ff.2 32 rfl]; exact d3.2.2.2 i hi⟩
      exact L p.1 0 _ g1 rfl (by omega) (by omega) ha hk1 ⟨e8.trans hmg.1, e9.trans hmg.2.1, e15.trans hmg.2.2.1, e16.trans hmg.2.2.2.1, e14.trans hmg.2.2.2.2⟩ hp1
    refine ⟨p.1 * 11 + 1 + 1, ?_⟩
    rw [wM_blocked]
    refine mPlan h.2.2.1.2.2.1 ?_
    rw [e]
    exact br0 n10 st
  -- the class
  have L : ∀ (c j : Nat) (k1 : KC), p.1 - j = c → j ≤ p.1 → FrC (oMd 4) (aMd 4) k k1 → MC 4 r (tsM w p m j) k1 → wC_blocked (c + 1) 1 0 d (blS p j) (blG w p m j) (nI j) k1 (fun r k' => ∃ y, wM_blocked y 0 x1 0 0 0 0 g (fun r' g' => r = r' ∧ Rel (t + 1) k' g')) := by
    intro c
    induction c with
    | zero =>
      intro j k1 hc hj f hm1
      rw [wC_blocked]
      any_goals (intro h9; exact absurd h9 (by decide))
      have ej : j = p.1 := by omega
      subst ej
      rw [d2.2.1]
      refine ⟨(d2.fr f).1, br_t (nI_le (Nat.le_refl _) (by omega)) (MR _ (fun g' f' => ⟨rfl, _, _, _, _, _, (hu.zC f.o4 (RD.mc hm1 (fun s hs => ?_))).zM f'⟩))⟩
      rw [(tsM_z (by omega) p.1).1, (tsM_z (by omega) p.1).2]; exact hz s hs
    | succ c ih =>
      intro j k1 hc hj f hm1
      rw [wC_blocked]
      any_goals (intro h9; exact absurd h9 (by decide))
      obtain ⟨q1, q2, q3, q4⟩ := d2.fr f
      obtain ⟨r1, r2, r3⟩ := q4 j (by omega)
      have hin : vp_in (nI j) p.1 := vp_in_nI (by omega) (by omega)
      rw [q2, nI_clamp (by omega), r1, r2, nI_1]
      refine ⟨q1, br_f (nI_ge (by omega) (by omega)) ⟨hin, hin, cTrial hw (hk.fr (Or.inr rfl) f) hm1 (Or.inr rfl) (tsM_ok ho j) (by omega) r3 (fun k2 f2 hm2 _ _ _ h5 => ?_)⟩⟩
      have ez : nI (p.2.2 j) = (0 : Int32) ↔ p.2.2 j = 0 := nI_eq (b := 0) (by omega) (by decide)
      have sS : blS p (j + 1) = if p.2.2 j = 0 then blS p j else blS p j ||| p.2.1 j := rfl
      have sG : blG w p m (j + 1) = if p.2.2 j = 0 then blG w p m j else blG w p m j ||| gaN w (tsM w p m j) (p.2.1 j) (p.2.2 j) 0 (wn w) := rfl
      have nx := ih (j + 1) k2 (by omega) (by omega) (f.tr f2) hm2
      rw [sS, sG] at nx
      rw [ez]
      refine ⟨(d2.fr (f.tr f2)).1, hin, fun z => ?_, fun z => ⟨hin, hin, cGainers (w := w) (m := tsM w p m j) (e := p.2.2 j) h8 (hk.fr (Or.inr rfl) (f.tr f2)).1 h5 ?_⟩⟩
      · rw [if_pos z, if_pos z] at nx; exact nx
      · rw [if_neg z, if_neg z] at nx; exact nx
  refine ⟨p.1 - 0 + 1 + 1, ?_⟩
  rw [wC_blocked]
  unfold wC_X8_planAt
  rw [h.2.2.1.2.1]
  refine cWithin ?_
  rw [e, ey]
  refine br_f n10 ⟨vp_in_nI (by omega) (by decide), ?_⟩
  rw [nI_clamp (by omega), d1, ← ey]
  refine ⟨fun z => by simp at z, fun x hx => ⟨d, by injection hx, cLike4 h.2.2.2.2.2.2.2.2.2 hm hz (fun k1 f1 hm1 => ?_)⟩⟩
  exact L _ 0 k1 rfl (Nat.zero_le _) f1 hm1
end Bl
