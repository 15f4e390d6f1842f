/-! ===== all paces; lets, thrownOut ===== -/
def pcS (off : Nat → Nat) (nw : Nat) : Nat → Nat × Int32 × Int32
  | 0 => (0, -1, -1)
  | j + 1 => if off j = nw then ((pcS off nw j).1 + 1, (if (pcS off nw j).2.1 = -1 then nI (5 * (j + 1)) else (pcS off nw j).2.1), nI (5 * (j + 1))) else pcS off nw j
def loS (off : Nat → Nat) (nw : Nat) : Nat → Int32
  | 0 => -1
  | j + 1 => if off j = nw then loS off nw j else if loS off nw j < nI (off j) then nI (off j) else loS off nw j
def lgS (off : Nat → Nat) : Nat → Nat
  | 0 => 0
  | j + 1 => if lgS off j < off j then off j else lgS off j
theorem pcS_le (off : Nat → Nat) (nw : Nat) : ∀ j, (pcS off nw j).1 ≤ j
  | 0 => Nat.le_refl 0
  | j + 1 => by
    have ih := pcS_le off nw j
    show (if off j = nw then ((pcS off nw j).1 + 1, _, _) else pcS off nw j : Nat × Int32 × Int32).1 ≤ j + 1
    by_cases c : off j = nw
    · rw [if_pos c]
      show (pcS off nw j).1 + 1 ≤ j + 1
      omega
    · rw [if_neg c]; omega
theorem lgS_le {off : Nat → Nat} {nw : Nat} (h : ∀ j, off j ≤ nw) : ∀ j, lgS off j ≤ nw
  | 0 => Nat.zero_le _
  | j + 1 => by
    show (if lgS off j < off j then off j else lgS off j) ≤ nw
    by_cases c : lgS off j < off j
    · rw [if_pos c]; exact h j
    · rw [if_neg c]; exact lgS_le h j
theorem pcS_0 {off : Nat → Nat} {nw : Nat} : ∀ j, (pcS off nw j).1 = 0 → ∀ i, i < j → off i ≠ nw
  | 0, _, i, hi => absurd hi (Nat.not_lt_zero i)
  | j + 1, h, i, hi => by
    replace h : (if off j = nw then ((pcS off nw j).1 + 1, _, _) else pcS off nw j : Nat × Int32 × Int32).1 = 0 := h
    by_cases c : off j = nw
    · rw [if_pos c] at h
      replace h : (pcS off nw j).1 + 1 = 0 := h
      omega
    · rw [if_neg c] at h
      rcases Nat.lt_or_ge i j with z | z
      · exact pcS_0 j h i z
      · rw [show i = j by omega]; exact c
theorem loS_lg {off : Nat → Nat} {nw : Nat} (hb : ∀ j, off j ≤ nw) (hw : nw ≤ 20) : ∀ j, (∀ i, i < j + 1 → off i ≠ nw) → loS off nw (j + 1) = nI (lgS off (j + 1))
  | 0, h => by
    show (if off 0 = nw then (-1 : Int32) else if (-1 : Int32) < nI (off 0) then nI (off 0) else -1) = nI (if 0 < off 0 then off 0 else 0)
    have := hb 0
    have m1 : (-1 : Int32) < nI (off 0) := by
      rw [Int32.lt_iff_toInt_lt, nI_toInt (by omega)]
      have : (-1 : Int32).toInt = -1 := by decide
      omega
    rw [if_neg (h 0 (by omega)), if_pos m1]
    by_cases c : 0 < off 0
    · rw [if_pos c]
    · rw [if_neg c, show off 0 = 0 by omega]
  | j + 1, h => by
    have ih := loS_lg hb hw j (fun i hi => h i (by omega))
    have h1 := hb (j + 1)
    have h2 := lgS_le hb (j + 1)
    show (if off (j + 1) = nw then loS off nw (j + 1) else if loS off nw (j + 1) < nI (off (j + 1)) then nI (off (j + 1)) else loS off nw (j + 1)) = nI (if lgS off (j + 1) < off (j + 1) then off (j + 1) else lgS off (j + 1))
    rw [if_neg (h (j + 1) (by omega)), ih]
    have e : nI (lgS off (j + 1)) < nI (off (j + 1)) ↔ lgS off (j + 1) < off (j + 1) := nI_ltI (by omega) (by omega)
    by_cases c : lgS off (j + 1) < off (j + 1)
    · rw [if_pos (e.mpr c), if_pos c]
    · rw [if_neg (fun z => c (e.mp z)), if_neg c]
section Pa
variable {w : Wd} {r n np nw M : Nat} {B : Nat → Nat} {pl : Nat → Pl} {dn : Nat → Dn} {wx wb wd : Nat → Nat} {k : KC} {g : GM}
def offA (w : Wd) (nw : Nat) (pl : Nat → Pl) (wx wb wd : Nat → Nat) (sl j : Nat) : Nat := offT w nw pl wx wb wd sl (anew (nI (5 * (j + 1))))
theorem cPaces {Q : KC → Prop} {sl : Nat} (hw : WOk w) (hc : CE w r np nw pl dn wx wb wd k) (hv : VE (wn w) np nw wx wb wd) (hsl : sl ≤ 99) (h24 : ∀ i, (pl (wx i)).1 ≤ 24)
    (q : ∀ k', FrC sZ aZ k k' → RD k' → k'.1 8 4 = nI (pcS (offA w nw pl wx wb wd sl) nw 20).1 → k'.1 8 5 = (pcS (offA w nw pl wx wb wd sl) nw 20).2.1 → k'.1 8 6 = (pcS (offA w nw pl wx wb wd sl) nw 20).2.2 → k'.1 8 7 = loS (offA w nw pl wx wb wd sl) nw 20 → Q k') : ∃ x, wC_findPaces x 0 (nI sl) 0 k Q := by
  have hnw := hv.2.1
  have L : ∀ (c j : Nat) (k1 : KC), 20 - j = c → j ≤ 20 → FrC sZ aZ k k1 → RD k1 → k1.1 8 4 = nI (pcS (offA w nw pl wx wb wd sl) nw j).1 → k1.1 8 5 = (pcS (offA w nw pl wx wb wd sl) nw j).2.1 → k1.1 8 6 = (pcS (offA w nw pl wx wb wd sl) nw j).2.2 → k1.1 8 7 = loS (offA w nw pl wx wb wd sl) nw j → wC_findPaces (c + 1) 1 (nI sl) (nI (5 * (j + 1))) k1 Q := by
    intro c
    induction c with
    | zero =>
      intro j k1 hc' hj f hd e4 e5 e6 e7
      have ej : j = 20 := by omega
      subst ej
      rw [wC_findPaces]
      any_goals (intro h9; exact absurd h9 (by decide))
      exact br_t (by decide) (q k1 f hd e4 e5 e6 e7)
    | succ c ih =>
      intro j k1 hc' hj f hd e4 e5 e6 e7
      rw [wC_findPaces]
      any_goals (intro h9; exact absurd h9 (by decide))
      have n100 : ¬ (100 : Int32) < nI (5 * (j + 1)) := nI_nlt (b := 5 * (j + 1)) (a := 100) (by omega) (by decide)
      have e5' : nI (5 * (j + 1)) + (5 : Int32) = nI (5 * (j + 1 + 1)) := by
        show nI (5 * (j + 1)) + nI 5 = _
        rw [nI_add]; congr 1
      rw [e5']
      refine br_f n100 (cOff hw (hc.z f hd) hv hsl h24 (fun k2 f2 hd2 => ?_))
      have fz := f.tr f2.o4
      have o8 : ∀ y, k2.1 8 y = k1.1 8 y := fun y => f2.1 8 y rfl
      have eo : offA w nw pl wx wb wd sl j = offT w nw pl wx wb wd sl (anew (nI (5 * (j + 1)))) := rfl
      have hol := off_le (w := w) (nw := nw) (pl := pl) (wx := wx) (wb := wb) (wd := wd) (sl := sl) (m := anew (nI (5 * (j + 1))))
      have sP : pcS (offA w nw pl wx wb wd sl) nw (j + 1) = if offA w nw pl wx wb wd sl j = nw then ((pcS (offA w nw pl wx wb wd sl) nw j).1 + 1, (if (pcS (offA w nw pl wx wb wd sl) nw j).2.1 = -1 then nI (5 * (j + 1)) else (pcS (offA w nw pl wx wb wd sl) nw j).2.1), nI (5 * (j + 1))) else pcS (offA w nw pl wx wb wd sl) nw j := rfl
      have sL : loS (offA w nw pl wx wb wd sl) nw (j + 1) = if offA w nw pl wx wb wd sl j = nw then loS (offA w nw pl wx wb wd sl) nw j else if loS (offA w nw pl wx wb wd sl) nw j < nI (offA w nw pl wx wb wd sl j) then nI (offA w nw pl wx wb wd sl j) else loS (offA w nw pl wx wb wd sl) nw j := rfl
      rw [← eo]
      rw [← eo] at hol
      by_cases y : offA w nw pl wx wb wd sl j = nw
      · rw [if_pos y]
        rw [if_pos y] at sP sL
        refine br1 rfl ?_
        unfold wC_X7_addPace
        rw [o8 5, e5, o8 4, e4]
        refine ⟨fun z => ?_, fun z => ?_⟩
        · have fy : FrC sZ aZ k2 (cI (cI k2 8 4 (nI (pcS (offA w nw pl wx wb wd sl) nw j).1 + 1)) 8 6 (nI (5 * (j + 1)))) := (FrC.rf.i_ rfl).i_ rfl
          refine ih (j + 1) _ (by omega) (by omega) (fz.tr fy) hd2 ?_ ?_ ?_ ?_
          · rw [sP]
            show nI _ + 1 = nI (_ + 1)
            rw [nI_1]
          · rw [sP]
            show k2.1 8 5 = if (pcS (offA w nw pl wx wb wd sl) nw j).2.1 = -1 then _ else _
            rw [if_neg z, o8 5, e5]
          · rw [sP]; rfl
          · rw [sL]
            show k2.1 8 7 = _
            rw [o8 7, e7]
        · have fy : FrC sZ aZ k2 (cI (cI (cI k2 8 4 (nI (pcS (offA w nw pl wx wb wd sl) nw j).1 + 1)) 8 5 (nI (5 * (j + 1)))) 8 6 (nI (5 * (j + 1)))) := ((FrC.rf.i_ rfl).i_ rfl).i_ rfl
          refine ih (j + 1) _ (by omega) (by omega) (fz.tr fy) hd2 ?_ ?_ ?_ ?_
          · rw [sP]
            show nI _ + 1 = nI (_ + 1)
            rw [nI_1]
          · rw [sP]
            show nI (5 * (j + 1)) = if (pcS (offA w nw pl wx wb wd sl) nw j).2.1 = -1 then _ else _
            rw [if_pos z]
          · rw [sP]; rfl
          · rw [sL]
            show k2.1 8 7 = _
            rw [o8 7, e7]
      · rw [if_neg y]
        rw [if_neg y] at sP sL
        have nm : ¬ nI (offA w nw pl wx wb wd sl j) = -1 := fun z => by
          have e8 := congrArg Int32.toInt z
          rw [nI_toInt (by omega)] at e8
          have : (-1 : Int32).toInt = -1 := by decide
          omega
        refine br0 nm ?_
        have fy : FrC sZ aZ k2 (cI k2 8 7 (if (k2.1 8 7) < nI (offA w nw pl wx wb wd sl j) then nI (offA w nw pl wx wb wd sl j) else (k2.1 8 7))) := FrC.rf.i_ rfl
        refine ih (j + 1) _ (by omega) (by omega) (fz.tr fy) hd2 ?_ ?_ ?_ ?_
        · rw [sP]
          show k2.1 8 4 = _
          rw [o8 4, e4]
        · rw [sP]
          show k2.1 8 5 = _
          rw [o8 5, e5]
        · rw [sP]
          show k2.1 8 6 = _
          rw [o8 6, e6]
        · rw [sL]
          show (if (k2.1 8 7) < nI (offA w nw pl wx wb wd sl j) then nI (offA w nw pl wx wb wd sl j) else (k2.1 8 7)) = _
          rw [o8 7, e7]
  refine ⟨20 - 0 + 1 + 1, ?_⟩
  rw [wC_findPaces]
  unfold wC_X7_forgetPaces
  have fy : FrC sZ aZ k (cI (cI (cI (cI k 8 4 (0 : Int32)) 8 5 (-1 : Int32)) 8 6 (-1 : Int32)) 8 7 (-1 : Int32)) := (((FrC.rf.i_ rfl).i_ rfl).i_ rfl).i_ rfl
  exact L _ 0 _ rfl (by omega) fy hc.2.1 rfl rfl rfl rfl
theorem mPaces {Q : GM → Prop} {sl : Nat} (hw : WOk w) (hc : ME w B M r np nw pl wx wb wd g) (hv : VE (wn w) np nw wx wb wd) (hsl : sl ≤ 99) (hz : ∀ s, wn w ≤ s → g.2.1 8 s = 0 ∧ g.2.1 9 s = 0)
    (q : ∀ g', FrH sZm aZm g g' → g'.1 47 = nI (pcS (offA w nw pl wx wb wd sl) nw 20).1 → g'.1 48 = (pcS (offA w nw pl wx wb wd sl) nw 20).2.1 → g'.1 49 = (pcS (offA w nw pl wx wb wd sl) nw 20).2.2 → g'.1 50 = nI (lgS (offA w nw pl wx wb wd sl) 20) → Q g') : ∃ x, wM_letsAll x 0 (nI sl) 0 g Q := by
  have hnw := hv.2.1
  have hol : ∀ j, offA w nw pl wx wb wd sl j ≤ nw := fun j => off_le
  have L : ∀ (c j : Nat) (g1 : GM), 20 - j = c → j ≤ 20 → FrH sZm aZm g g1 → g1.1 47 = nI (pcS (offA w nw pl wx wb wd sl) nw j).1 → g1.1 48 = (pcS (offA w nw pl wx wb wd sl) nw j).2.1 → g1.1 49 = (pcS (offA w nw pl wx wb wd sl) nw j).2.2 → g1.1 50 = nI (lgS (offA w nw pl wx wb wd sl) j) → wM_letsAll (c + 1) 1 (nI sl) (nI (5 * (j + 1))) g1 Q := by
    intro c
    induction c with
    | zero =>
      intro j g1 hc' hj f e4 e5 e6 e7
      have ej : j = 20 := by omega
      subst ej
      rw [wM_letsAll]
      any_goals (intro h9; exact absurd h9 (by decide))
      exact br_t (by decide) (q g1 f e4 e5 e6 e7)
    | succ c ih =>
      intro j g1 hc' hj f e4 e5 e6 e7
      rw [wM_letsAll]
      any_goals (intro h9; exact absurd h9 (by decide))
      have n100 : ¬ (100 : Int32) < nI (5 * (j + 1)) := nI_nlt (b := 5 * (j + 1)) (a := 100) (by omega) (by decide)
      have e5' : nI (5 * (j + 1)) + (5 : Int32) = nI (5 * (j + 1 + 1)) := by
        show nI (5 * (j + 1)) + nI 5 = _
        rw [nI_add]; congr 1
      rw [e5']
      have hm1 := hc.as (zm_as f)
      refine br_f n100 (mOff hw hm1 hv hsl (fun s hs => by rw [f.2 8 rfl, f.2 9 rfl]; exact hz s hs) (fun g2 f2 h4 => ?_))
      obtain ⟨o47, o48, o49, o50⟩ := h4
      have hm2 := hm1.as (zm_as f2)
      have eo : offT w nw pl wx wb wd sl (anew (nI (5 * (j + 1)))) = offA w nw pl wx wb wd sl j := rfl
      have sP : pcS (offA w nw pl wx wb wd sl) nw (j + 1) = if offA w nw pl wx wb wd sl j = nw then ((pcS (offA w nw pl wx wb wd sl) nw j).1 + 1, (if (pcS (offA w nw pl wx wb wd sl) nw j).2.1 = -1 then nI (5 * (j + 1)) else (pcS (offA w nw pl wx wb wd sl) nw j).2.1), nI (5 * (j + 1))) else pcS (offA w nw pl wx wb wd sl) nw j := rfl
      have sL : lgS (offA w nw pl wx wb wd sl) (j + 1) = if lgS (offA w nw pl wx wb wd sl) j < offA w nw pl wx wb wd sl j then offA w nw pl wx wb wd sl j else lgS (offA w nw pl wx wb wd sl) j := rfl
      have h1 := hol j
      have h2 := lgS_le hol j
      rw [eo, o50, e7, hm2.2.1, o48, e5, o47, e4]
      have ele : nI (offA w nw pl wx wb wd sl j) ≤ nI (lgS (offA w nw pl wx wb wd sl) j) ↔ offA w nw pl wx wb wd sl j ≤ lgS (offA w nw pl wx wb wd sl) j := nI_leI (by omega) (by omega)
      have enw : nI nw ≤ nI (offA w nw pl wx wb wd sl j) ↔ nw ≤ offA w nw pl wx wb wd sl j := nI_leI (by omega) (by omega)
      rw [ele, enw]
      have let3 : ∀ v, v = nI (lgS (offA w nw pl wx wb wd sl) (j + 1)) → offA w nw pl wx wb wd sl j = nw → ((¬ (pcS (offA w nw pl wx wb wd sl) nw j).2.1 = (-1 : Int32) → wM_letsAll (c + 1) 1 (nI sl) (nI (5 * (j + 1 + 1))) (sI (sI (sI (sI g2 50 v) 47 (nI (pcS (offA w nw pl wx wb wd sl) nw j).1 + 1)) 48 (pcS (offA w nw pl wx wb wd sl) nw j).2.1) 49 (nI (5 * (j + 1)))) Q) ∧ ((pcS (offA w nw pl wx wb wd sl) nw j).2.1 = (-1 : Int32) → wM_letsAll (c + 1) 1 (nI sl) (nI (5 * (j + 1 + 1))) (sI (sI (sI (sI g2 50 v) 47 (nI (pcS (offA w nw pl wx wb wd sl) nw j).1 + 1)) 48 (nI (5 * (j + 1)))) 49 (nI (5 * (j + 1)))) Q)) := by
        intro v ev y
        rw [if_pos y] at sP
        refine ⟨fun z => ?_, fun z => ?_⟩
        · refine ih (j + 1) _ (by omega) (by omega) (f.tr (f2.tr ((((FrH.rf.i_ rfl).i_ rfl).i_ rfl).i_ rfl))) ?_ ?_ ?_ ev
          · rw [sP]
            show nI _ + 1 = nI (_ + 1)
            rw [nI_1]
          · rw [sP]
            show _ = if (pcS (offA w nw pl wx wb wd sl) nw j).2.1 = -1 then _ else _
            rw [if_neg z]; rfl
          · rw [sP]; rfl
        · refine ih (j + 1) _ (by omega) (by omega) (f.tr (f2.tr ((((FrH.rf.i_ rfl).i_ rfl).i_ rfl).i_ rfl))) ?_ ?_ ?_ ev
          · rw [sP]
            show nI _ + 1 = nI (_ + 1)
            rw [nI_1]
          · rw [sP]
            show _ = if (pcS (offA w nw pl wx wb wd sl) nw j).2.1 = -1 then _ else _
            rw [if_pos z]; rfl
          · rw [sP]; rfl
      have skip : ∀ v, v = nI (lgS (offA w nw pl wx wb wd sl) (j + 1)) → ¬ offA w nw pl wx wb wd sl j = nw → wM_letsAll (c + 1) 1 (nI sl) (nI (5 * (j + 1 + 1))) (sI g2 50 v) Q := by
        intro v ev y
        rw [if_neg y] at sP
        exact ih (j + 1) _ (by omega) (by omega) (f.tr (f2.tr (FrH.rf.i_ rfl))) (by rw [sP]; exact o47.trans e4) (by rw [sP]; exact o48.trans e5) (by rw [sP]; exact o49.trans e6) ev
      refine ⟨fun y => ⟨fun z => let3 _ (by rw [sL, if_neg (by omega)]) (by omega), fun z => skip _ (by rw [sL, if_neg (by omega)]) (by omega)⟩, fun y => ⟨fun z => let3 _ (by rw [sL, if_pos (by omega)]) (by omega), fun z => skip _ (by rw [sL, if_pos (by omega)]) (by omega)⟩⟩
  refine ⟨20 - 0 + 1 + 1, ?_⟩
  rw [wM_letsAll]
  exact L _ 0 _ rfl (by omega) ((((FrH.rf.i_ rfl).i_ rfl).i_ rfl).i_ rfl) rfl rfl rfl rfl
end Pa
section Op
variable {t n nt np nw N : Nat} {k : KC} {g : GM}
/-- plans and watched days, taken out -/
theorem RelA.env {w : Wd} {r M : Nat} {B : Nat → Nat} (h : RelA t n nt np nw N k g) (en : wn w = n) (hk : WC w r k) (hg : WM w B M r g) : ∃ pl dn wx wb wd, CE w r np nw pl dn wx wb wd k ∧ ME w B M r np nw pl wx wb wd g ∧ VE (wn w) np nw wx wb wd ∧ ∀ i, (pl (wx i)).1 ≤ 24 := by
  have hp : ∀ x, ∃ q : Dn × Pl, q.2.1 ≤ 24 ∧ (x < np → k.2.2.2.2.1 x = some q.1.1 ∧ PlanC k q.1 q.2 ∧ PlanM g x q.2) := fun x => by
    by_cases c : x < np
    · obtain ⟨d, p, d1, d2, d3⟩ := h.2.2.1.2.2.2 x c
      exact ⟨(d, p), d2.2.2.1, fun _ => ⟨d1, d2, d3⟩⟩
    · exact ⟨(dn0, (0, fun _ => 0, fun _ => 0)), Nat.zero_le _, fun z => absurd z c⟩
  have hv : ∀ i, ∃ q : Nat × Nat × Nat, i < nw → g.2.1 43 i = nI q.1 ∧ q.1 < np ∧ g.2.1 44 i = nI q.2.1 ∧ q.2.1 < 2 ^ n ∧ 0 < q.2.1 ∧ g.2.1 45 i = nI q.2.2 ∧ q.2.2 ≤ 99 := fun i => by
    by_cases c : i < nw
    · obtain ⟨_, ⟨x, x1, x2⟩, ⟨b, b1, b2, b3⟩, ⟨d, d1, d2⟩⟩ := h.2.2.2.2.2.2.1.2.2.2 i c
      exact ⟨(x, b, d), fun _ => ⟨x2, x1, b3, b1, b2, d2, d1⟩⟩
    · exact ⟨(0, 0, 0), fun z => absurd z c⟩
  obtain ⟨f, hf⟩ := Classical.axiomOfChoice hp
  obtain ⟨v, hv⟩ := Classical.axiomOfChoice hv
  refine ⟨fun x => (f x).2, fun x => (f x).1, fun i => (v i).1, fun i => (v i).2.1, fun i => (v i).2.2, ⟨hk, h.2.2.2.2.2.2.2.2.2, h.2.2.2.2.2.2.1.2.1, (h.2.2.2.1.2.2.2.2.2.1).trans hg.2.2.2.2.2.2.2, fun i hi => ?_, h.2.2.1.2.1, fun x hx => ⟨((hf x).2 hx).1, ((hf x).2 hx).2.1⟩⟩, ⟨hg, h.2.2.2.2.2.2.1.2.2.1, fun i hi => ⟨(hv i hi).1, (hv i hi).2.2.1, (hv i hi).2.2.2.2.2.1⟩, h.2.2.1.2.2.1, fun x hx => ((hf x).2 hx).2.2⟩, ⟨h.2.2.1.1, h.2.2.2.2.2.2.1.1, fun i hi => ⟨(hv i hi).2.1, by rw [en]; exact (hv i hi).2.2.2.1, (hv i hi).2.2.2.2.1, (hv i hi).2.2.2.2.2.2⟩⟩, fun i => (hf _).1⟩
  obtain ⟨⟨a1, a2, a3⟩, _⟩ := h.2.2.2.2.2.2.1.2.2.2 i hi
  exact ⟨a1.trans (hv i hi).1, a2.trans (hv i hi).2.2.1, a3.trans (hv i hi).2.2.2.2.2.1⟩
theorem op_lets (x1 x2 : Int32) (h : Rel t k g) : wC_lets x1 x2 k (fun r k' => wM_lets x1 x2 g (fun r' g' => r = r' ∧ Rel (t + 1) k' g')) := by
  obtain ⟨n, nt, np, nw, N, h⟩ := h
  have hu := h.up
  obtain ⟨w, m, r, B, M, en, hw, hk, hm, ho, hg, hmg, ekd, ewo, ego, eli, em⟩ := h.wm
  obtain ⟨pl, dn, wx, wb, wd, hC, hM, hV, h24⟩ := h.env en hk hg
  unfold wC_lets
  refine cWithin ?_
  have MB : ∀ P : Int32 → GM → Prop, (ini x1 0 99 = 0 ∨ ini x2 0 2 = 0) → P (-2) g → wM_lets x1 x2 g P := by
    intro P hh p
    unfold wM_lets
    refine mIn (lo := 0) (hi := 99) rfl rfl ?_
    rcases ini_c x1 0 99 with e | e
    · rw [e]; exact br_t rfl p
    rw [e]
    refine br_f n10 (mIn (lo := 0) (hi := 2) rfl rfl ?_)
    rcases ini_c x2 0 2 with e2 | e2
    · rw [e2]; exact br1 rfl p
    exfalso
    rcases hh with z | z
    · rw [e] at z; exact absurd z n10
    · rw [e2] at z; exact absurd z n10
  rcases ini_c x1 0 99 with e | e
  · rw [e]; exact br_t rfl (MB _ (Or.inl e) ⟨rfl, _, _, _, _, _, hu⟩)
  rw [e]
  refine br_f n10 (cWithin ?_)
  rcases ini_c x2 0 2 with e2 | e2
  · rw [e2]; exact br1 rfl (MB _ (Or.inr e2) ⟨rfl, _, _, _, _, _, hu⟩)
  rw [e2]
  obtain ⟨sl, _, hsl, esl⟩ := ini_rng (a := 0) (b := 99) (by decide) (by decide) e
  subst esl
  refine br0 n10 (cPaces hw hC hV hsl h24 (fun k' f hd c4 c5 c6 c7 => ?_))
  have MH : ∀ P : Int32 → GM → Prop, (∀ g', FrH sZm aZm g g' → g'.1 47 = k'.1 8 4 → g'.1 48 = k'.1 8 5 → g'.1 49 = k'.1 8 6 → ((¬ x2 = 0 → ((¬ x2 = (1 : Int32) → P (g'.1 49) g') ∧ (x2 = (1 : Int32) → P (g'.1 48) g'))) ∧ (x2 = 0 → P (g'.1 47) g'))) → wM_lets (nI sl) x2 g P := by
    intro P hP
    unfold wM_lets
    refine mIn (lo := 0) (hi := 99) rfl rfl ?_
    rw [e]
    refine br_f n10 (mIn (lo := 0) (hi := 2) rfl rfl ?_)
    rw [e2]
    exact br0 n10 (mPaces hw hM hV hsl (fun s hs => h.2.2.2.2.1.2.1 s (by omega)) (fun g' f' d4 d5 d6 _ => hP g' f' (d4.trans c4.symm) (d5.trans c5.symm) (d6.trans c6.symm)))
  have R : ∀ g', FrH sZm aZm g g' → Rel (t + 1) k' g' := fun g' f' => ⟨_, _, _, _, _, (hu.zC f hd).zM f'⟩
  refine ⟨fun n0 => ⟨fun n1 => MH _ (fun g' f' a b c => ⟨fun _ => ⟨fun _ => ⟨c.symm, R g' f'⟩, fun z => absurd z n1⟩, fun z => absurd z n0⟩), fun y1 => MH _ (fun g' f' a b c => ⟨fun _ => ⟨fun z => absurd y1 z, fun _ => ⟨b.symm, R g' f'⟩⟩, fun z => absurd z n0⟩)⟩, fun y0 => MH _ (fun g' f' a b c => ⟨fun z => absurd y0 z, fun _ => ⟨a.symm, R g' f'⟩⟩)⟩
theorem op_thrownOut (x1 : Int32) (h : Rel t k g) : wC_thrownOut x1 k (fun r k' => wM_thrownOut x1 g (fun r' g' => r = r' ∧ Rel (t + 1) k' g')) := by
  obtain ⟨n, nt, np, nw, N, h⟩ := h
  have hu := h.up
  obtain ⟨w, m, r, B, M, en, hw, hk, hm, ho, hg, hmg, ekd, ewo, ego, eli, em⟩ := h.wm
  obtain ⟨pl, dn, wx, wb, wd, hC, hM, hV, h24⟩ := h.env en hk hg
  unfold wC_thrownOut wM_thrownOut
  refine cWithin ?_
  rcases ini_c x1 0 99 with e | e
  · rw [e]
    refine br1 rfl (mIn (lo := 0) (hi := 99) rfl rfl ?_)
    rw [e]; exact br1 rfl ⟨rfl, _, _, _, _, _, hu⟩
  rw [e]
  obtain ⟨sl, _, hsl, esl⟩ := ini_rng (a := 0) (b := 99) (by decide) (by decide) e
  subst esl
  have hol : ∀ j, offA w nw pl wx wb wd sl j ≤ nw := fun j => off_le
  have hnw := hV.2.1
  have hm20 := pcS_le (offA w nw pl wx wb wd sl) nw 20
  refine br0 n10 (cPaces hw hC hV hsl h24 (fun k' f hd c4 c5 c6 c7 => ?_))
  have R : ∀ g', FrH sZm aZm g g' → Rel (t + 1) k' g' := fun g' f' => ⟨_, _, _, _, _, (hu.zC f hd).zM f'⟩
  have e0 : nI (pcS (offA w nw pl wx wb wd sl) nw 20).1 ≤ 0 ↔ (pcS (offA w nw pl wx wb wd sl) nw 20).1 ≤ 0 := nI_leI (b := 0) (by omega) (by decide)
  rw [c4, e0]
  refine ⟨fun y => mIn (lo := 0) (hi := 99) rfl rfl ?_, fun y => mIn (lo := 0) (hi := 99) rfl rfl ?_⟩
  · rw [e]
    refine br0 n10 (mPaces hw hM hV hsl (fun s hs => h.2.2.2.2.1.2.1 s (by omega)) (fun g' f' d4 d5 d6 d7 => ?_))
    rw [d4, e0]
    refine br_t y ⟨?_, R g' f'⟩
    rw [c7, d7]
    exact loS_lg hol hnw 19 (fun i hi => pcS_0 20 (by omega) i hi)
  · rw [e]
    refine br0 n10 (mPaces hw hM hV hsl (fun s hs => h.2.2.2.2.1.2.1 s (by omega)) (fun g' f' d4 d5 d6 d7 => ?_))
    rw [d4, e0]
    exact br_f y ⟨rfl, R g' f'⟩
end Op
