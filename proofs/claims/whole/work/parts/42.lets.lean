/-! ===== paces that watched days let ===== -/
def adf (a b : Nat) : Nat := if b ≤ a then a - b else b - a
theorem absI {a b : Nat} (ha : a < 2 ^ 30) (hb : b < 2 ^ 30) : (if (0 : Int32) ≤ nI a - nI b then nI a - nI b else 0 - (nI a - nI b)) = nI (adf a b) := by
  have e := pk_sub_toInt ha hb
  have c : (0 : Int32) ≤ nI a - nI b ↔ b ≤ a := by
    rw [Int32.le_iff_toInt_le, e, i0]; omega
  unfold adf
  by_cases h : b ≤ a
  · rw [if_pos (c.mpr h), if_pos h, pk_sub h]
  · rw [if_neg (fun z => h (c.mp z)), if_neg h]
    refine Int32.toInt_inj.mp ?_
    rw [Int32.toInt_sub, e, i0, nI_toInt (by omega)]
    rw [Int.bmod_eq_of_le (by omega) (by omega)]
    omega
theorem inAbs {a b s : Nat} (ha : a < 2 ^ 30) (hb : b < 2 ^ 30) (hs : s < 2 ^ 30) : ini (nI a - nI b) (-nI s) (nI s) = if adf a b ≤ s then 1 else 0 := by
  have e := pk_sub_toInt ha hb
  have es : (-nI s).toInt = -(s : Int) := by
    rw [Int32.toInt_neg, nI_toInt (by omega)]
    exact Int.bmod_eq_of_le (by omega) (by omega)
  rw [ini_iff, e, es, nI_toInt (by omega)]
  unfold adf
  by_cases h : b ≤ a
  · rw [if_pos h]
    by_cases c : a - b ≤ s
    · rw [if_pos c, if_pos (by omega)]
    · rw [if_neg c, if_neg (by omega)]
  · rw [if_neg h]
    by_cases c : b - a ≤ s
    · rw [if_pos c, if_pos (by omega)]
    · rw [if_neg c, if_neg (by omega)]
def drN (w : Wd) (m : Md) (set : Int32) : Nat := (drpV w m set).toNatClampNeg
theorem drN_e (w : Wd) (m : Md) (set : Int32) : drpV w m set = nI (drN w m set) ∧ drN w m set ≤ 99 := by
  unfold drN
  have : ∃ j, j ≤ 99 ∧ drpV w m set = nI j := by
    unfold drpV
    by_cases h : set = 0
    · rw [if_pos h]; exact ⟨0, by omega, rfl⟩
    · rw [if_neg h]; exact bounI_nI (b := 99) (by decide)
  obtain ⟨j, hj, e⟩ := this
  rw [e, nI_clamp (by omega)]
  exact ⟨rfl, hj⟩
/-- days by the watched plans -/
def wdM (w : Wd) (pl : Nat → Pl) (wx : Nat → Nat) (m : Md) : Nat → Md
  | 0 => m
  | i + 1 => dyM w (pl (wx i)) (wdM w pl wx m i)
theorem wdM_z {w : Wd} {pl : Nat → Pl} {wx : Nat → Nat} {m : Md} {s : Nat} (hs : wn w ≤ s) : ∀ j, mst (wdM w pl wx m j) s = mst m s ∧ mon (wdM w pl wx m j) s = mon m s
  | 0 => ⟨rfl, rfl⟩
  | j + 1 => ⟨(dyM_z hs).1.trans (wdM_z hs j).1, (dyM_z hs).2.trans (wdM_z hs j).2⟩
theorem wdM_ok {w : Wd} {pl : Nat → Pl} {wx : Nat → Nat} {m : Md} {u : Nat} (h : MOk u m) (h24 : ∀ i, (pl (wx i)).1 ≤ 24) : ∀ j, MOk (u + j * 24) (wdM w pl wx m j)
  | 0 => by rw [Nat.zero_mul]; exact h
  | j + 1 => by
    have := dyM_ok (w := w) (p := pl (wx j)) (wdM_ok (w := w) (pl := pl) (wx := wx) h h24 j)
    exact this.mono (by have := h24 j; omega)
/-- what both sides know of plans and watched days -/
def CE (w : Wd) (r np nw : Nat) (pl : Nat → Pl) (dn : Nat → Dn) (wx wb wd : Nat → Nat) (k : KC) : Prop := WC w r k ∧ RD k ∧ k.1 8 3 = nI nw ∧ k.1 2 10 = nI r ∧ (∀ i, i < nw → k.2.1 8 0 i = nI (wx i) ∧ k.2.1 8 1 i = nI (wb i) ∧ k.2.1 8 2 i = nI (wd i)) ∧ k.1 1 2 = nI np ∧ ∀ x, x < np → k.2.2.2.2.1 x = some (dn x).1 ∧ PlanC k (dn x) (pl x)
def ME (w : Wd) (B : Nat → Nat) (M r np nw : Nat) (pl : Nat → Pl) (wx wb wd : Nat → Nat) (g : GM) : Prop := WM w B M r g ∧ g.1 46 = nI nw ∧ (∀ i, i < nw → g.2.1 43 i = nI (wx i) ∧ g.2.1 44 i = nI (wb i) ∧ g.2.1 45 i = nI (wd i)) ∧ g.1 33 = nI np ∧ ∀ x, x < np → PlanM g x (pl x)
def VE (n np nw : Nat) (wx wb wd : Nat → Nat) : Prop := np ≤ 8 ∧ nw ≤ 20 ∧ ∀ i, i < nw → wx i < np ∧ wb i < 2 ^ n ∧ 0 < wb i ∧ wd i ≤ 99
theorem CE.z {w : Wd} {r np nw : Nat} {pl : Nat → Pl} {dn : Nat → Dn} {wx wb wd : Nat → Nat} {k k' : KC} (h : CE w r np nw pl dn wx wb wd k) (f : FrC sZ aZ k k') (hd : RD k') : CE w r np nw pl dn wx wb wd k' := by
  obtain ⟨⟨h1, h2, h3, h4, h5, h6, h7⟩, _, a3, a4, a5, a6, a7⟩ := h
  have hpr : k'.2.2.2.2.1 = k.2.2.2.2.1 := congrArg (fun z => z.2.2.1) f.2.2
  exact ⟨⟨(f.1 1 0 rfl).trans h1, (f.2.1 1 3 rfl).trans h2, (f.2.1 1 4 rfl).trans h3, (f.2.1 1 5 rfl).trans h4, (f.2.1 1 6 rfl).trans h5, h6.z f, h7⟩, hd, (f.1 8 3 rfl).trans a3, (f.1 2 10 rfl).trans a4, fun i hi => by rw [f.2.1 8 0 rfl, f.2.1 8 1 rfl, f.2.1 8 2 rfl]; exact a5 i hi, (f.1 1 2 rfl).trans a6, fun x hx => ⟨by rw [hpr]; exact (a7 x hx).1, (a7 x hx).2.fr f⟩⟩
theorem ME.dy {w : Wd} {B : Nat → Nat} {M r np nw : Nat} {pl : Nat → Pl} {wx wb wd : Nat → Nat} {g g' : GM} (h : ME w B M r np nw pl wx wb wd g) (f : FrH sDy aDy g g') : ME w B M r np nw pl wx wb wd g' :=
  ⟨h.1.dy f, (f.1 46 rfl).trans h.2.1, fun i hi => by rw [f.2 43 rfl, f.2 44 rfl, f.2 45 rfl]; exact h.2.2.1 i hi, (f.1 33 rfl).trans h.2.2.2.1, fun x hx => (h.2.2.2.2 x hx).dy f⟩
theorem ME.as {w : Wd} {B : Nat → Nat} {M r np nw : Nat} {pl : Nat → Pl} {wx wb wd : Nat → Nat} {g g' : GM} (h : ME w B M r np nw pl wx wb wd g) (f : FrH sAs aAs g g') : ME w B M r np nw pl wx wb wd g' := by
  obtain ⟨⟨a1, a2, a3, a4, a5, ⟨a6, a7, a8⟩, a9, a10⟩, b1, b2, b3, b4⟩ := h
  exact ⟨⟨(f.1 10 rfl).trans a1, (f.2 7 rfl).trans a2, (f.2 11 rfl).trans a3, (f.2 12 rfl).trans a4, (f.2 13 rfl).trans a5, ⟨a6, by rw [f.2 2 rfl]; exact a7, by rw [f.2 1 rfl]; exact a8⟩, a9, (f.1 4 rfl).trans a10⟩, (f.1 46 rfl).trans b1, fun i hi => by rw [f.2 43 rfl, f.2 44 rfl, f.2 45 rfl]; exact b2 i hi, (f.1 33 rfl).trans b3, fun x hx => ⟨(b4 x hx).1, by rw [f.2 30 rfl]; exact (b4 x hx).2.1, (b4 x hx).2.2.1, fun i hi => by rw [f.2 31 rfl, f.2 32 rfl]; exact (b4 x hx).2.2.2 i hi⟩⟩
theorem zm_as {g g' : GM} (f : FrH sZm aZm g g') : FrH sAs aAs g g' := f.mono (fun _ h => (bor_f (bor_f (bor_f h).2).2).2) (fun _ h => (bor_f (bor_f h).2).2)
/-- off by more than a slip -/
def okB (w : Wd) (pl : Nat → Pl) (wx wb wd : Nat → Nat) (sl : Nat) (m : Md) (i : Nat) : Bool := decide (adf (drN w (wdM w pl wx m (i + 1)) (nI (wb i))) (wd i) ≤ sl)
def offP (w : Wd) (nw : Nat) (pl : Nat → Pl) (wx wb wd : Nat → Nat) (sl : Nat) (m : Md) (i : Nat) : Bool := decide (i < nw) && okB w pl wx wb wd sl m i
def offT (w : Wd) (nw : Nat) (pl : Nat → Pl) (wx wb wd : Nat → Nat) (sl : Nat) (m : Md) : Nat := skp (offP w nw pl wx wb wd sl m) nw 0
theorem off_N {w : Wd} {nw : Nat} {pl : Nat → Pl} {wx wb wd : Nat → Nat} {sl : Nat} {m : Md} : ∀ j, nw ≤ j → offP w nw pl wx wb wd sl m j = false := fun j h => by
  unfold offP
  rw [decide_eq_false (Nat.not_lt.mpr h)]; rfl
theorem off_le {w : Wd} {nw : Nat} {pl : Nat → Pl} {wx wb wd : Nat → Nat} {sl : Nat} {m : Md} : offT w nw pl wx wb wd sl m ≤ nw := skp_top _ nw off_N nw 0 (Nat.zero_le _)
section Le
variable {w : Wd} {r n np nw M : Nat} {B : Nat → Nat} {pl : Nat → Pl} {dn : Nat → Dn} {wx wb wd : Nat → Nat} {k : KC} {g : GM}
theorem cPlAt {x : Nat} {Q : Option Nat → KC → Prop} (hc : CE w r np nw pl dn wx wb wd k) (hn : np ≤ 8) (hx : x < np) (q : Q (some (dn x).1) k) : wC_X8_planAt (nI x) k Q := by
  unfold wC_X8_planAt
  rw [hc.2.2.2.2.2.1]
  refine cWithin ?_
  rw [ini_pred (by omega) (by omega), if_pos hx]
  refine br_f n10 ⟨vp_in_nI (by omega) (by decide), ?_⟩
  rw [nI_clamp (by omega), (hc.2.2.2.2.2.2 x hx).1]; exact q
theorem cOff {Q : Int32 → KC → Prop} {sl : Nat} {pc : Int32} (hw : WOk w) (hc : CE w r np nw pl dn wx wb wd k) (hv : VE (wn w) np nw wx wb wd) (hsl : sl ≤ 99) (h24 : ∀ i, (pl (wx i)).1 ≤ 24)
    (q : ∀ k', FrC (oMd 4) (aMd 4) k k' → RD k' → Q (if offT w nw pl wx wb wd sl (anew pc) = nw then -1 else nI (offT w nw pl wx wb wd sl (anew pc))) k') : ∃ x, wC_firstOff x 0 pc (nI sl) 0 k Q := by
  obtain ⟨v1, v2, v3⟩ := hv
  have hz : ∀ i s, 8 ≤ s → mst (wdM w pl wx (anew pc) i) s = 0 ∧ mon (wdM w pl wx (anew pc) i) s = 0 := fun i s hs => by
    rw [(wdM_z (by have := hw.1; omega) i).1, (wdM_z (by have := hw.1; omega) i).2]; exact ⟨rfl, rfl⟩
  have L : ∀ (c i : Nat) (k1 : KC), nw - i = c → i ≤ nw → FrC (oMd 4) (aMd 4) k k1 → MC 4 r (wdM w pl wx (anew pc) i) k1 → offT w nw pl wx wb wd sl (anew pc) = skp (offP w nw pl wx wb wd sl (anew pc)) nw i → wC_firstOff (c + 1) 1 0 (nI sl) (nI i) k1 Q := by
    intro c
    induction c with
    | zero =>
      intro i k1 hc' hi f hm eo
      have ei : i = nw := by omega
      subst ei
      have hd1 := RD.mc hm (hz i)
      have hc1 := hc.z f.o4 hd1
      rw [wC_firstOff]
      any_goals (intro h9; exact absurd h9 (by decide))
      rw [hc1.2.2.1]
      rw [skp_halt _ _ (off_N i (Nat.le_refl _))] at eo
      have qq := q k1 f hd1
      rw [if_pos eo] at qq
      exact br_t (nI_le (Nat.le_refl _) (by omega)) qq
    | succ c ih =>
      intro i k1 hc' hi f hm eo
      have hd1 := RD.mc hm (hz i)
      have hc1 := hc.z f.o4 hd1
      obtain ⟨x1, x2, x3, x4⟩ := v3 i (by omega)
      obtain ⟨y1, y2, y3⟩ := hc1.2.2.2.2.1 i (by omega)
      rw [wC_firstOff]
      any_goals (intro h9; exact absurd h9 (by decide))
      have hin : vp_in (nI i) 20 := vp_in_nI (by omega) (by decide)
      rw [hc1.2.2.1, nI_clamp (by omega), y1, nI_1]
      refine br_f (nI_ge (by omega) (by omega)) ⟨hin, cPlAt hc1 v1 x1 ⟨fun z => by simp at z, fun x hx => ⟨dn (wx i), by injection hx, ?_⟩⟩⟩
      have hb : i * 24 ≤ 20 * 24 := Nat.mul_le_mul (by omega) (Nat.le_refl _)
      refine cDay hw hc1.1 hm (Or.inr rfl) ((wdM_ok (w := w) (pl := pl) (wx := wx) (anew_ok (pc := pc)) h24 i).mono (v := 20 * 24) (by omega)) (by omega) (hc1.2.2.2.2.2.2 (wx i) x1).2 (fun k2 f2 hm2 _ _ _ => ⟨hin, ?_⟩)
      have hm2' : MC 4 r (wdM w pl wx (anew pc) (i + 1)) k2 := hm2
      have hd2 := RD.mc hm2' (hz (i + 1))
      have hc2 := hc1.z f2.o4 hd2
      obtain ⟨z1, z2, z3⟩ := hc2.2.2.2.2.1 i (by omega)
      rw [z2]
      refine cDrops hw hc2.1 hm2' (by decide) (fun k3 f3 => ⟨hin, ?_⟩)
      have hd3 : RD k3 := fun s hs => by rw [f3.2.1 4 1 rfl, f3.2.1 4 2 rfl]; exact hd2 s hs
      have hc3 := hc2.z f3.scrZ hd3
      obtain ⟨u1, u2, u3⟩ := hc3.2.2.2.2.1 i (by omega)
      obtain ⟨e1, e2⟩ := drN_e w (wdM w pl wx (anew pc) (i + 1)) (nI (wb i))
      rw [u3, e1, absI (by omega) (by omega)]
      have ele : nI (adf (drN w (wdM w pl wx (anew pc) (i + 1)) (nI (wb i))) (wd i)) ≤ nI sl ↔ adf (drN w (wdM w pl wx (anew pc) (i + 1)) (nI (wb i))) (wd i) ≤ sl := nI_leI (by unfold adf; split <;> omega) (by omega)
      rw [ele]
      have f03 : FrC (oMd 4) (aMd 4) k k3 := f.tr (f2.tr f3.scr)
      refine ⟨fun y => ?_, fun nn => ?_⟩
      · refine ih (i + 1) k3 (by omega) (by omega) f03 (hm2'.fr (Or.inr rfl) f3) ?_
        rw [eo]
        refine skp_step _ nw off_N ?_
        unfold offP okB
        rw [decide_eq_true (show i < nw by omega), decide_eq_true y]; rfl
      · have hp : offP w nw pl wx wb wd sl (anew pc) i = false := by
          unfold offP okB
          rw [decide_eq_false nn, Bool.and_false]
        rw [skp_halt _ _ hp] at eo
        have qq := q k3 f03 hd3
        rw [eo, if_neg (by omega)] at qq
        exact qq
  refine ⟨nw - 0 + 1 + 1, ?_⟩
  rw [wC_firstOff, hc.2.2.2.1]
  refine cAnew hc.2.1 (fun k1 f1 hm1 => ?_)
  exact L _ 0 k1 rfl (Nat.zero_le _) f1 hm1 rfl
/-- the reference's four results -/
def R4 (g g' : GM) : Prop := g'.1 47 = g.1 47 ∧ g'.1 48 = g.1 48 ∧ g'.1 49 = g.1 49 ∧ g'.1 50 = g.1 50
theorem R4.tr {g g' g'' : GM} (h : R4 g g') (h2 : R4 g' g'') : R4 g g'' := ⟨h2.1.trans h.1, h2.2.1.trans h.2.1, h2.2.2.1.trans h.2.2.1, h2.2.2.2.trans h.2.2.2⟩
theorem R4.dy {g g' : GM} (f : FrH sDy aDy g g') : R4 g g' := ⟨f.1 47 rfl, f.1 48 rfl, f.1 49 rfl, f.1 50 rfl⟩
theorem R4.rd {g g' : GM} (f : FrG sRd g g') : R4 g g' := ⟨f.1 47 rfl, f.1 48 rfl, f.1 49 rfl, f.1 50 rfl⟩
/-- from nothing on, with a pace -/
theorem mAnew {Q : GM → Prop} {pc : Int32} (hw : WOk w) (hg : WM w B M r g) (hz : ∀ s, wn w ≤ s → g.2.1 8 s = 0 ∧ g.2.1 9 s = 0) (q : ∀ g', AsOk (wn w) g g' → MM (anew pc) g' → R4 g g' → FrH sAs aAs g g' → Q g') : ∃ x, wM_laysAside x 0 (1 : Int32) 0 g (fun k_1 => Q (sI k_1 14 pc)) := by
  refine mAside true hw.1 hg.1 (fun g1 ha e8 e9 e15 e16 e14 ff => ?_)
  rw [if_pos rfl] at e8 e9 e15 e16
  have fz : FrH sAs aAs g1 (sI g1 14 pc) := FrH.rf.i_ rfl
  have z8 : g1.2.1 8 = fun _ => 0 := by
    rw [e8]
    funext s
    rcases Nat.lt_or_ge s (wn w) with z | z
    · exact cpU_in z
    · rw [cpU_out z]; exact (hz s z).1
  have z9 : g1.2.1 9 = fun _ => 0 := by
    rw [e9]
    funext s
    rcases Nat.lt_or_ge s (wn w) with z | z
    · exact cpU_in z
    · rw [cpU_out z]; exact (hz s z).2
  exact q _ ⟨ha.1.tr fz, ha.2.1, ha.2.2.1, ha.2.2.2.1, ha.2.2.2.2.1, ha.2.2.2.2.2⟩ ⟨z8, z9, e15, e16, rfl⟩ ⟨ff.1 47 rfl, ff.1 48 rfl, ff.1 49 rfl, ff.1 50 rfl⟩ (ha.1.tr fz)
theorem mOff {Q : Int32 → GM → Prop} {sl : Nat} {pc : Int32} (hw : WOk w) (hc : ME w B M r np nw pl wx wb wd g) (hv : VE (wn w) np nw wx wb wd) (hsl : sl ≤ 99) (hz : ∀ s, wn w ≤ s → g.2.1 8 s = 0 ∧ g.2.1 9 s = 0)
    (q : ∀ g', FrH sZm aZm g g' → R4 g g' → Q (nI (offT w nw pl wx wb wd sl (anew pc))) g') : ∃ x, wM_letsTill x 0 pc (nI sl) 0 0 g Q := by
  obtain ⟨v1, v2, v3⟩ := hv
  have h8 := hw.1
  have hol := off_le (w := w) (nw := nw) (pl := pl) (wx := wx) (wb := wb) (wd := wd) (sl := sl) (m := anew pc)
  have fin : ∀ (g1 : GM) (v : Int32), AsOk (wn w) g g1 → R4 g g1 → v = nI (offT w nw pl wx wb wd sl (anew pc)) → ∃ x, wM_laysBack x 0 0 g1 (fun k_3 => Q v k_3) := fun g1 v ha h4 e => mBack h8 ha hc.1.1 (fun g' f f4 => by
    rw [e]
    exact q g' f ⟨(f4 47 rfl rfl).trans h4.1, (f4 48 rfl rfl).trans h4.2.1, (f4 49 rfl rfl).trans h4.2.2.1, (f4 50 rfl rfl).trans h4.2.2.2⟩)
  have L : ∀ (c i : Nat) (g1 : GM), nw - i = c → i ≤ nw → AsOk (wn w) g g1 → R4 g g1 → ME w B M r np nw pl wx wb wd g1 → MM (wdM w pl wx (anew pc) i) g1 → offT w nw pl wx wb wd sl (anew pc) = skp (offP w nw pl wx wb wd sl (anew pc)) nw i → wM_letsTill (c + 2) 1 0 (nI sl) (nI nw) (nI i) g1 Q := by
    intro c
    induction c with
    | zero =>
      intro i g1 hc' hi ha h4 hm1 hm eo
      have ei : i = nw := by omega
      subst ei
      rw [wM_letsTill]
      any_goals (intro h9; exact absurd h9 (by decide))
      rw [hm1.2.1]
      rw [skp_halt _ _ (off_N i (Nat.le_refl _))] at eo
      exact br_t (nI_le (Nat.le_refl _) (by omega)) (fin g1 _ ha h4 (by rw [eo]))
    | succ c ih =>
      intro i g1 hc' hi ha h4 hm1 hm eo
      obtain ⟨x1, x2, x3, x4⟩ := v3 i (by omega)
      obtain ⟨y1, y2, y3⟩ := hm1.2.2.1 i (by omega)
      rw [show c + 1 + 2 = c + 2 + 1 by omega, wM_letsTill]
      any_goals (intro h9; exact absurd h9 (by decide))
      have hin : vp_in (nI i) 20 := vp_in_nI (by omega) (by decide)
      rw [hm1.2.1, nI_clamp (by omega), y1, nI_1]
      refine br_f (nI_ge (by omega) (by omega)) ⟨fun z => absurd rfl z, fun _ => ⟨hin, mDay false hw hm1.1 hm (hm1.2.2.2.2 (wx i) x1) (fun g2 f2 hm2 e36 e35 => ⟨hin, ?_⟩)⟩⟩
      rw [if_neg (by decide)] at e36 e35
      have hm2' : MM (wdM w pl wx (anew pc) (i + 1)) g2 := hm2
      have a2 := ha.day f2 e35 e36 (fun s hs => by rw [hm2.1, hm2.2.1, hm.1, hm.2.1]; exact dyM_z hs)
      have hM2 := hm1.dy f2
      obtain ⟨z1, z2, z3⟩ := hM2.2.2.1 i (by omega)
      rw [z2]
      have hb256 := pw8 h8
      refine mDrops hw hM2.1 hm2' (fun _ => set_some (wb i) (by omega) (by omega)) (fun g3 f3 => ⟨hin, ?_⟩)
      obtain ⟨e1, e2⟩ := drN_e w (wdM w pl wx (anew pc) (i + 1)) (nI (wb i))
      have hM3 := hM2.dy f3.dy
      have a3 := a2.rd f3
      have h43 := h4.tr ((R4.dy f2).tr (R4.rd f3))
      obtain ⟨u1, u2, u3⟩ := hM3.2.2.1 i (by omega)
      rw [u3, e1]
      refine mIn (lo := -nI sl) (hi := nI sl) rfl rfl ?_
      rw [inAbs (by omega) (by omega) (by omega)]
      by_cases y : adf (drN w (wdM w pl wx (anew pc) (i + 1)) (nI (wb i))) (wd i) ≤ sl
      · rw [if_pos y]
        refine br0 n10 (ih (i + 1) g3 (by omega) (by omega) a3 h43 hM3 (hm2'.fr f3) ?_)
        rw [eo]
        refine skp_step _ nw off_N ?_
        unfold offP okB
        rw [decide_eq_true (show i < nw by omega), decide_eq_true y]; rfl
      · rw [if_neg y]
        have hp : offP w nw pl wx wb wd sl (anew pc) i = false := by
          unfold offP okB
          rw [decide_eq_false y, Bool.and_false]
        rw [skp_halt _ _ hp] at eo
        refine br1 rfl ?_
        rw [wM_letsTill]
        any_goals (intro h9; exact absurd h9 (by decide))
        have bk := fin g3 (nI i) a3 h43 (by rw [eo])
        rw [hM3.2.1]
        have ne : ¬ nI i = nI nw := fun z => by have := (nI_eq (by omega) (by omega)).mp z; omega
        exact ⟨fun _ => bk, fun _ => ⟨fun _ => bk, fun z => absurd z ne⟩⟩
  have st := mAnew (Q := fun k_1 => wM_letsTill (nw - 0 + 2) 1 0 (nI sl) (k_1.1 46) (0 : Int32) k_1 Q) (pc := pc) hw hc.1 hz (fun g1 ha hm h4 ff => by
    have hm1 := hc.as ff
    rw [hm1.2.1]
    exact L _ 0 g1 rfl (Nat.zero_le _) ha h4 hm1 hm rfl)
  exact ⟨nw - 0 + 2 + 1, by rw [wM_letsTill]; exact st⟩
end Le
