/-! ===== next ===== -/
theorem adf_c (a b : Nat) : adf a b = adf b a := by
  unfold adf
  split <;> split <;> omega
def behV (w : Wd) (nw : Nat) (pl : Nat → Pl) (wx : Nat → Nat) (pc : Int32) (x : Nat) (set : Int32) : Nat := drN w (dyM w (pl x) (wdM w pl wx (anew pc) nw)) set
def fS (b0 : Int32) (ap : Nat → Nat) : Nat → Int32 × Int32
  | 0 => (b0, -1)
  | j + 1 => if nI (ap j) ≤ (fS b0 ap j).2 then fS b0 ap j else (nI j, nI (ap j))
theorem fS_1 {b0 : Int32} {ap : Nat → Nat} (h : ap 0 < 1000) : fS b0 ap 1 = (nI 0, nI (ap 0)) := by
  show (if nI (ap 0) ≤ (-1 : Int32) then _ else (nI 0, nI (ap 0))) = _
  rw [if_neg]
  rw [Int32.le_iff_toInt_le, nI_toInt (by omega)]
  have : (-1 : Int32).toInt = -1 := by decide
  omega
theorem fS_eq {b0 b1 : Int32} {ap : Nat → Nat} (h : ap 0 < 1000) : ∀ j, fS b0 ap (j + 1) = fS b1 ap (j + 1)
  | 0 => by rw [fS_1 h, fS_1 h]
  | j + 1 => by
    show (if nI (ap (j + 1)) ≤ (fS b0 ap (j + 1)).2 then fS b0 ap (j + 1) else _) = (if nI (ap (j + 1)) ≤ (fS b1 ap (j + 1)).2 then fS b1 ap (j + 1) else _)
    rw [fS_eq h j]
section Nx
variable {w : Wd} {r n np nw M : Nat} {B : Nat → Nat} {pl : Nat → Pl} {dn : Nat → Dn} {wx wb wd : Nat → Nat} {k : KC} {g : GM}
theorem cBehind {Q : Int32 → KC → Prop} {pc set : Int32} {x : Nat} (hw : WOk w) (hc : CE w r np nw pl dn wx wb wd k) (hv : VE (wn w) np nw wx wb wd) (h24 : ∀ i, (pl (wx i)).1 ≤ 24) (hx : x < np)
    (q : ∀ k', FrC (oMd 4) (aMd 4) k k' → RD k' → Q (nI (behV w nw pl wx pc x set)) k') : ∃ y, wC_dropsBehind y 0 pc (nI x) set 0 k Q := by
  obtain ⟨v1, v2, v3⟩ := hv
  have h8 := hw.1
  have hz : ∀ i s, 8 ≤ s → mst (wdM w pl wx (anew pc) i) s = 0 ∧ mon (wdM w pl wx (anew pc) i) s = 0 := fun i s hs => by
    rw [(wdM_z (by omega) i).1, (wdM_z (by omega) i).2]; exact ⟨rfl, rfl⟩
  have ok : ∀ i, i ≤ nw → MOk (20 * 24) (wdM w pl wx (anew pc) i) := fun i hi => (wdM_ok (w := w) (pl := pl) (wx := wx) (anew_ok (pc := pc)) h24 i).mono (by have : i * 24 ≤ 20 * 24 := Nat.mul_le_mul (by omega) (Nat.le_refl _); omega)
  have L : ∀ (c i : Nat) (k1 : KC), nw - i = c → i ≤ nw → FrC (oMd 4) (aMd 4) k k1 → MC 4 r (wdM w pl wx (anew pc) i) k1 → wC_dropsBehind (c + 1) 1 0 (nI x) set (nI i) k1 Q := by
    intro c
    induction c with
    | zero =>
      intro i k1 hc' hi f hm
      have ei : i = nw := by omega
      subst ei
      have hd1 := RD.mc hm (hz i)
      have hc1 := hc.z f.o4 hd1
      rw [wC_dropsBehind]
      any_goals (intro h9; exact absurd h9 (by decide))
      rw [hc1.2.2.1]
      refine br_t (nI_le (Nat.le_refl _) (by omega)) (cPlAt hc1 v1 hx ⟨fun z => by simp at z, fun y hy => ⟨dn x, by injection hy, ?_⟩⟩)
      refine cDay hw hc1.1 hm (Or.inr rfl) (ok i (Nat.le_refl _)) (by omega) (hc1.2.2.2.2.2.2 x hx).2 (fun k2 f2 hm2 _ _ _ => ?_)
      have hd2 : RD k2 := RD.mc hm2 (fun s hs => by rw [(dyM_z (by omega)).1, (dyM_z (by omega)).2]; exact hz i s hs)
      have hc2 := hc1.z f2.o4 hd2
      refine cDrops hw hc2.1 hm2 (by decide) (fun k3 f3 => ?_)
      have hd3 : RD k3 := fun s hs => by rw [f3.2.1 4 1 rfl, f3.2.1 4 2 rfl]; exact hd2 s hs
      rw [(drN_e _ _ _).1]
      exact q k3 (f.tr (f2.tr f3.scr)) hd3
    | succ c ih =>
      intro i k1 hc' hi f hm
      have hd1 := RD.mc hm (hz i)
      have hc1 := hc.z f.o4 hd1
      obtain ⟨x1, x2, x3, x4⟩ := v3 i (by omega)
      obtain ⟨y1, y2, y3⟩ := hc1.2.2.2.2.1 i (by omega)
      rw [wC_dropsBehind]
      any_goals (intro h9; exact absurd h9 (by decide))
      have hin : vp_in (nI i) 20 := vp_in_nI (by omega) (by decide)
      rw [hc1.2.2.1, nI_clamp (by omega), y1, nI_1]
      refine br_f (nI_ge (by omega) (by omega)) ⟨hin, cPlAt hc1 v1 x1 ⟨fun z => by simp at z, fun y hy => ⟨dn (wx i), by injection hy, ?_⟩⟩⟩
      exact cDay hw hc1.1 hm (Or.inr rfl) (ok i (by omega)) (by omega) (hc1.2.2.2.2.2.2 (wx i) x1).2 (fun k2 f2 hm2 _ _ _ => ih (i + 1) k2 (by omega) (by omega) (f.tr f2) hm2)
  refine ⟨nw - 0 + 1 + 1, ?_⟩
  rw [wC_dropsBehind, hc.2.2.2.1]
  refine cAnew hc.2.1 (fun k1 f1 hm1 => ?_)
  exact L _ 0 k1 rfl (Nat.zero_le _) f1 hm1
theorem mBehind {Q : Int32 → GM → Prop} {pc set : Int32} {x : Nat} (hw : WOk w) (hc : ME w B M r np nw pl wx wb wd g) (hv : VE (wn w) np nw wx wb wd) (hx : x < np) (hs : set ≠ 0 → ∃ s, s < 8 ∧ isO set s = true) (hz : ∀ s, wn w ≤ s → g.2.1 8 s = 0 ∧ g.2.1 9 s = 0)
    (q : ∀ g', FrH sZm aZm g g' → R4 g g' → Q (nI (behV w nw pl wx pc x set)) g') : ∃ y, wM_behind y 0 pc (nI x) set 0 g Q := by
  obtain ⟨v1, v2, v3⟩ := hv
  have h8 := hw.1
  have L : ∀ (c i : Nat) (g1 : GM), nw - i = c → i ≤ nw → AsOk (wn w) g g1 → R4 g g1 → ME w B M r np nw pl wx wb wd g1 → MM (wdM w pl wx (anew pc) i) g1 → wM_behind (c + 1) 1 0 (nI x) set (nI i) g1 Q := by
    intro c
    induction c with
    | zero =>
      intro i g1 hc' hi ha h4 hm1 hm
      have ei : i = nw := by omega
      subst ei
      rw [wM_behind]
      any_goals (intro h9; exact absurd h9 (by decide))
      rw [hm1.2.1]
      refine br_t (nI_le (Nat.le_refl _) (by omega)) (mDay false hw hm1.1 hm (hm1.2.2.2.2 x hx) (fun g2 f2 hm2 e36 e35 => ?_))
      rw [if_neg (by decide)] at e36 e35
      have a2 := ha.day f2 e35 e36 (fun s hs => by rw [hm2.1, hm2.2.1, hm.1, hm.2.1]; exact dyM_z hs)
      refine mDrops hw (hm1.1.dy f2) hm2 hs (fun g3 f3 => ?_)
      have h43 := h4.tr ((R4.dy f2).tr (R4.rd f3))
      rw [(drN_e _ _ _).1]
      exact mBack h8 (a2.rd f3) hc.1.1 (fun g' f f4 => q g' f ⟨(f4 47 rfl rfl).trans h43.1, (f4 48 rfl rfl).trans h43.2.1, (f4 49 rfl rfl).trans h43.2.2.1, (f4 50 rfl rfl).trans h43.2.2.2⟩)
    | succ c ih =>
      intro i g1 hc' hi ha h4 hm1 hm
      obtain ⟨x1, x2, x3, x4⟩ := v3 i (by omega)
      obtain ⟨y1, y2, y3⟩ := hm1.2.2.1 i (by omega)
      rw [wM_behind]
      any_goals (intro h9; exact absurd h9 (by decide))
      have hin : vp_in (nI i) 20 := vp_in_nI (by omega) (by decide)
      rw [hm1.2.1, nI_clamp (by omega), y1, nI_1]
      refine br_f (nI_ge (by omega) (by omega)) ⟨hin, mDay false hw hm1.1 hm (hm1.2.2.2.2 (wx i) x1) (fun g2 f2 hm2 e36 e35 => ?_)⟩
      rw [if_neg (by decide)] at e36 e35
      have a2 := ha.day f2 e35 e36 (fun s hs => by rw [hm2.1, hm2.2.1, hm.1, hm.2.1]; exact dyM_z hs)
      exact ih (i + 1) g2 (by omega) (by omega) a2 (h4.tr (R4.dy f2)) (hm1.dy f2) hm2
  refine ⟨nw - 0 + 1 + 1, ?_⟩
  rw [wM_behind]
  exact mAnew (Q := fun k_1 => wM_behind (nw - 0 + 1) 1 0 (nI x) set (0 : Int32) k_1 Q) (pc := pc) hw hc.1 hz (fun g1 ha hm h4 ff => L _ 0 g1 rfl (Nat.zero_le _) ha h4 (hc.as ff) hm)
def apV (w : Wd) (nw : Nat) (pl : Nat → Pl) (wx : Nat → Nat) (p1 p2 set : Int32) (j : Nat) : Nat := adf (behV w nw pl wx p2 j set) (behV w nw pl wx p1 j set)
theorem apV_le {w : Wd} {nw : Nat} {pl : Nat → Pl} {wx : Nat → Nat} {p1 p2 set : Int32} {j : Nat} : apV w nw pl wx p1 p2 set j ≤ 99 := by
  have h1 : behV w nw pl wx p2 j set ≤ 99 := (drN_e _ _ _).2
  have h2 : behV w nw pl wx p1 j set ≤ 99 := (drN_e _ _ _).2
  unfold apV adf
  split <;> omega
theorem cFar {Q : KC → Prop} {set p1 p2 : Int32} (hw : WOk w) (hc : CE w r np nw pl dn wx wb wd k) (hv : VE (wn w) np nw wx wb wd) (h24 : ∀ i, (pl (wx i)).1 ≤ 24) (e5 : k.1 8 5 = p1) (e6 : k.1 8 6 = p2)
    (q : ∀ k', FrC sZ aZ k k' → RD k' → k'.1 8 8 = (fS (-1) (apV w nw pl wx p1 p2 set) np).1 → k'.1 8 9 = (fS (-1) (apV w nw pl wx p1 p2 set) np).2 → Q k') : ∃ y, wC_findFarthest y 0 set 0 k Q := by
  have hnp := hv.1
  have L : ∀ (c j : Nat) (k1 : KC), np - j = c → j ≤ np → FrC sZ aZ k k1 → RD k1 → k1.1 8 5 = p1 → k1.1 8 6 = p2 → k1.1 8 8 = (fS (-1) (apV w nw pl wx p1 p2 set) j).1 → k1.1 8 9 = (fS (-1) (apV w nw pl wx p1 p2 set) j).2 → wC_findFarthest (c + 1) 1 set (nI j) k1 Q := by
    intro c
    induction c with
    | zero =>
      intro j k1 hc' hj f hd e5 e6 e8 e9
      have ej : j = np := by omega
      subst ej
      rw [wC_findFarthest]
      any_goals (intro h9; exact absurd h9 (by decide))
      rw [(hc.z f hd).2.2.2.2.2.1]
      exact br_t (nI_le (Nat.le_refl _) (by omega)) (q k1 f hd e8 e9)
    | succ c ih =>
      intro j k1 hc' hj f hd e5 e6 e8 e9
      rw [wC_findFarthest]
      any_goals (intro h9; exact absurd h9 (by decide))
      rw [(hc.z f hd).2.2.2.2.2.1, e5, nI_1]
      refine br_f (nI_ge (by omega) (by omega)) (cBehind hw (hc.z f hd) hv h24 (by omega) (fun k2 f2 hd2 => ?_))
      have f02 := f.tr f2.o4
      rw [f2.1 8 6 rfl, e6]
      refine cBehind hw (hc.z f02 hd2) hv h24 (by omega) (fun k3 f3 hd3 => ?_)
      have f03 := f02.tr f3.o4
      have o8 : ∀ y, k3.1 8 y = k1.1 8 y := fun y => (f3.1 8 y rfl).trans (f2.1 8 y rfl)
      have b1 : behV w nw pl wx p2 j set ≤ 99 := (drN_e _ _ _).2
      have b2 : behV w nw pl wx p1 j set ≤ 99 := (drN_e _ _ _).2
      rw [absI (by omega) (by omega), o8 9, e9]
      have sF : fS (-1) (apV w nw pl wx p1 p2 set) (j + 1) = if nI (apV w nw pl wx p1 p2 set j) ≤ (fS (-1) (apV w nw pl wx p1 p2 set) j).2 then fS (-1) (apV w nw pl wx p1 p2 set) j else (nI j, nI (apV w nw pl wx p1 p2 set j)) := rfl
      have ea : nI (adf (behV w nw pl wx p2 j set) (behV w nw pl wx p1 j set)) = nI (apV w nw pl wx p1 p2 set j) := rfl
      rw [ea]
      refine ⟨fun y => ?_, fun y => ?_⟩
      · rw [if_pos y] at sF
        exact ih (j + 1) k3 (by omega) (by omega) f03 hd3 ((o8 5).trans e5) ((o8 6).trans e6) (by rw [sF]; exact (o8 8).trans e8) (by rw [sF]; exact (o8 9).trans e9)
      · rw [if_neg y] at sF
        exact ih (j + 1) _ (by omega) (by omega) (f03.tr ((FrC.rf.i_ rfl).i_ rfl)) hd3 ((o8 5).trans e5) ((o8 6).trans e6) (by rw [sF]; rfl) (by rw [sF]; rfl)
  refine ⟨np - 0 + 1 + 1, ?_⟩
  rw [wC_findFarthest]
  exact L _ 0 _ rfl (Nat.zero_le _) ((FrC.rf.i_ rfl).i_ rfl) hc.2.1 e5 e6 rfl rfl
theorem op_next {t nt N : Nat} (x1 x2 x3 : Int32) (h : Rel t k g) : wC_next x1 x2 x3 k (fun r k' => ∃ y, wM_next_ y 0 x1 x2 x3 0 0 0 g (fun r' g' => r = r' ∧ Rel (t + 1) k' g')) := by
  obtain ⟨n, nt, np, nw, N, h⟩ := h
  have hu := h.up
  have hn := h.1.1
  obtain ⟨w, m, r, B, M, en, hw, hk, hm, ho, hg, hmg, ekd, ewo, ego, eli, em⟩ := h.wm
  obtain ⟨pl, dn, wx, wb, wd, hC, hM, hV, h24⟩ := h.env en hk hg
  have hz : ∀ s, wn w ≤ s → g.2.1 8 s = 0 ∧ g.2.1 9 s = 0 := fun s hs => h.2.2.2.2.1.2.1 s (by omega)
  have hnp := hV.1
  have MB : ∀ P : Int32 → GM → Prop, (ini x1 0 99 = 0 ∨ x2 = 0 ∨ ini x2 0 (nI (2 ^ n) - 1) = 0 ∨ ini x3 0 1 = 0) → P (-2) g → ∃ y, wM_next_ y 0 x1 x2 x3 0 0 0 g P := by
    intro P hh p
    refine ⟨1, ?_⟩
    rw [wM_next_]
    refine mIn (lo := 0) (hi := 99) rfl rfl ?_
    rcases ini_c x1 0 99 with e | e
    · rw [e]; exact br_t rfl p
    rw [e]
    refine br_f n10 ⟨fun _ => p, fun nz => mSet hn h.1.2.2.1 ?_⟩
    rcases ini_c x2 0 (nI (2 ^ n) - 1) with e2 | e2
    · rw [e2]; exact br_t rfl p
    rw [e2]
    refine br_f n10 (mIn (lo := 0) (hi := 1) rfl rfl ?_)
    rcases ini_c x3 0 1 with e3 | e3
    · rw [e3]; exact br1 rfl p
    exfalso
    rcases hh with z | z | z | z
    · rw [e] at z; exact absurd z n10
    · exact nz z
    · rw [e2] at z; exact absurd z n10
    · rw [e3] at z; exact absurd z n10
  unfold wC_next
  refine cWithin ?_
  rcases ini_c x1 0 99 with e | e
  · rw [e]; exact br_t rfl (MB _ (Or.inl e) ⟨rfl, _, _, _, _, _, hu⟩)
  rw [e]
  refine br_f n10 (cSome hn h.1.2.1 (fun hz => br_t rfl (MB _ (hz.elim (fun z => Or.inr (Or.inl z)) (fun z => Or.inr (Or.inr (Or.inl z)))) ⟨rfl, _, _, _, _, _, hu⟩)) (fun nz e2 => br_f n10 (cWithin ?_)))
  rcases ini_c x3 0 1 with e3 | e3
  · rw [e3]; exact br1 rfl (MB _ (Or.inr (Or.inr (Or.inr e3))) ⟨rfl, _, _, _, _, _, hu⟩)
  rw [e3]
  obtain ⟨sl, _, hsl, esl⟩ := ini_rng (a := 0) (b := 99) (by decide) (by decide) e
  subst esl
  obtain ⟨b, hb1, hb2, eb⟩ := set_idx hn e2
  have hset : x2 ≠ 0 → ∃ s, s < 8 ∧ isO x2 s = true := fun z => by
    subst eb
    exact set_some b hb2 (fun y => z (by rw [y]; rfl))
  have hm20 := pcS_le (offA w nw pl wx wb wd sl) nw 20
  -- the reference: its head
  have MH : ∀ (P : Int32 → GM → Prop) (F : Nat), (∀ g', FrH sZm aZm g g' → g'.1 47 = nI (pcS (offA w nw pl wx wb wd sl) nw 20).1 → g'.1 48 = (pcS (offA w nw pl wx wb wd sl) nw 20).2.1 → g'.1 49 = (pcS (offA w nw pl wx wb wd sl) nw 20).2.2 → (((g'.1 47) = 0 → P (-3 : Int32) g') ∧ (¬ (g'.1 47) = 0 → ((¬ (g'.1 33) = 0 → wM_next_ F 1 0 x2 x3 (0 : Int32) (-1 : Int32) (0 : Int32) g' P) ∧ ((g'.1 33) = 0 → P (-3 : Int32) g'))))) → ∃ y, wM_next_ y 0 (nI sl) x2 x3 0 0 0 g P := by
    intro P F hP
    refine ⟨F + 1, ?_⟩
    rw [wM_next_]
    refine mIn (lo := 0) (hi := 99) rfl rfl ?_
    rw [e]
    refine br_f n10 ⟨fun z => absurd z nz, fun _ => mSet hn h.1.2.2.1 ?_⟩
    rw [e2]
    refine br_f n10 (mIn (lo := 0) (hi := 1) rfl rfl ?_)
    rw [e3]
    exact br0 n10 (mPaces hw hM hV hsl hz (fun g' f' d4 d5 d6 _ => hP g' f' d4 d5 d6))
  have R : ∀ k' g', FrC sZ aZ k k' → RD k' → FrH sZm aZm g g' → Rel (t + 1) k' g' := fun k' g' f hd f' => ⟨_, _, _, _, _, (hu.zC f hd).zM f'⟩
  have enp : nI np = (0 : Int32) ↔ np = 0 := nI_eq (b := 0) (by omega) (by decide)
  have emn : nI (pcS (offA w nw pl wx wb wd sl) nw 20).1 = (0 : Int32) ↔ (pcS (offA w nw pl wx wb wd sl) nw 20).1 = 0 := nI_eq (b := 0) (by omega) (by decide)
  rw [h.2.2.1.2.1, enp]
  refine br0 n10 ⟨fun np0 => cPaces hw hC hV hsl h24 (fun k1 f1 hd1 c4 c5 c6 c7 => ?_), fun np0 => MH _ 0 (fun g' f' d4 d5 d6 => ?_)⟩
  · rw [c4, emn]
    refine ⟨fun m0 => cFar hw (hC.z f1 hd1) hV h24 c5 c6 (fun k2 f2 hd2 c8 c9 => ?_), fun m0 => MH _ 0 (fun g' f' d4 d5 d6 => ?_)⟩
    · -- far on both sides
      have ap99 : apV w nw pl wx (pcS (offA w nw pl wx wb wd sl) nw 20).2.1 (pcS (offA w nw pl wx wb wd sl) nw 20).2.2 x2 0 < 1000 := Nat.lt_of_le_of_lt apV_le (by decide)
      obtain ⟨npm, rfl⟩ : ∃ z, np = z + 1 := ⟨np - 1, by omega⟩
      have key : ∀ P : Int32 → GM → Prop, (∀ g', FrH sZm aZm g g' → ((¬ x3 = 0 → P (k2.1 8 9) g') ∧ (x3 = 0 → P (k2.1 8 8) g'))) → ∃ y, wM_next_ y 0 (nI sl) x2 x3 0 0 0 g P := by
        intro P hP
        refine MH P (npm + 1 + 1) (fun g' f' d4 d5 d6 => ?_)
        have hM' := hM.as (zm_as f')
        rw [d4, emn, hM'.2.2.2.1, enp]
        refine ⟨fun z => absurd z m0, fun _ => ⟨fun _ => ?_, fun z => absurd z np0⟩⟩
        have L : ∀ (c j : Nat) (g1 : GM), npm + 1 - j = c → j ≤ npm + 1 → FrH sZm aZm g g1 → g1.1 48 = (pcS (offA w nw pl wx wb wd sl) nw 20).2.1 → g1.1 49 = (pcS (offA w nw pl wx wb wd sl) nw 20).2.2 → wM_next_ (c + 1) 1 0 x2 x3 (fS 0 (apV w nw pl wx (pcS (offA w nw pl wx wb wd sl) nw 20).2.1 (pcS (offA w nw pl wx wb wd sl) nw 20).2.2 x2) j).1 (fS 0 (apV w nw pl wx (pcS (offA w nw pl wx wb wd sl) nw 20).2.1 (pcS (offA w nw pl wx wb wd sl) nw 20).2.2 x2) j).2 (nI j) g1 P := by
          intro c
          induction c with
          | zero =>
            intro j g1 hc' hj f e8 e9
            have ej : j = npm + 1 := by omega
            subst ej
            rw [wM_next_]
            any_goals (intro h9; exact absurd h9 (by decide))
            rw [(hM.as (zm_as f)).2.2.2.1]
            have pp := hP g1 f
            rw [c8, c9, fS_eq (b1 := 0) ap99 npm] at pp
            exact br_t (nI_le (Nat.le_refl _) (by omega)) pp
          | succ c ih =>
            intro j g1 hc' hj f e8 e9
            rw [wM_next_]
            any_goals (intro h9; exact absurd h9 (by decide))
            have hM1 := hM.as (zm_as f)
            have z1 : ∀ s, wn w ≤ s → g1.2.1 8 s = 0 ∧ g1.2.1 9 s = 0 := fun s hs => by rw [f.2 8 rfl, f.2 9 rfl]; exact hz s hs
            rw [hM1.2.2.2.1, e8, nI_1]
            refine br_f (nI_ge (by omega) (by omega)) (mBehind hw hM1 hV (by omega) hset z1 (fun g2 f2 h42 => ?_))
            have hM2 := hM1.as (zm_as f2)
            have z2 : ∀ s, wn w ≤ s → g2.2.1 8 s = 0 ∧ g2.2.1 9 s = 0 := fun s hs => by rw [f2.2 8 rfl, f2.2 9 rfl]; exact z1 s hs
            rw [h42.2.2.1, e9]
            refine mBehind hw hM2 hV (by omega) hset z2 (fun g3 f3 h43 => ?_)
            have f03 := f.tr (f2.tr f3)
            have r8 : g3.1 48 = (pcS (offA w nw pl wx wb wd sl) nw 20).2.1 := (h43.2.1.trans h42.2.1).trans e8
            have r9 : g3.1 49 = (pcS (offA w nw pl wx wb wd sl) nw 20).2.2 := (h43.2.2.1.trans h42.2.2.1).trans e9
            generalize hp1 : (pcS (offA w nw pl wx wb wd sl) nw 20).2.1 = p1 at *
            generalize hp2 : (pcS (offA w nw pl wx wb wd sl) nw 20).2.2 = p2 at *
            have b1 : behV w nw pl wx p2 j x2 ≤ 99 := (drN_e _ _ _).2
            have b2 : behV w nw pl wx p1 j x2 ≤ 99 := (drN_e _ _ _).2
            have ab := absI (a := behV w nw pl wx p1 j x2) (b := behV w nw pl wx p2 j x2) (by omega) (by omega)
            have ea : adf (behV w nw pl wx p1 j x2) (behV w nw pl wx p2 j x2) = apV w nw pl wx p1 p2 x2 j := adf_c _ _
            rw [ea] at ab
            have sF : fS 0 (apV w nw pl wx p1 p2 x2) (j + 1) = if nI (apV w nw pl wx p1 p2 x2 j) ≤ (fS 0 (apV w nw pl wx p1 p2 x2) j).2 then fS 0 (apV w nw pl wx p1 p2 x2) j else (nI j, nI (apV w nw pl wx p1 p2 x2 j)) := rfl
            have step : ∀ v, v = nI (apV w nw pl wx p1 p2 x2 j) → (((fS 0 (apV w nw pl wx p1 p2 x2) j).2 < v → wM_next_ (c + 1) 1 0 x2 x3 (nI j) v (nI (j + 1)) g3 P) ∧ (¬ (fS 0 (apV w nw pl wx p1 p2 x2) j).2 < v → wM_next_ (c + 1) 1 0 x2 x3 (fS 0 (apV w nw pl wx p1 p2 x2) j).1 (fS 0 (apV w nw pl wx p1 p2 x2) j).2 (nI (j + 1)) g3 P)) := by
              intro v ev
              subst ev
              have nx := ih (j + 1) g3 (by omega) (by omega) f03 r8 r9
              refine ⟨fun y => ?_, fun y => ?_⟩
              · rw [sF, if_neg ((i_nle _ _).mpr y)] at nx; exact nx
              · rw [sF, if_pos ((i_nlt _ _).mp y)] at nx; exact nx
            by_cases c0 : (0 : Int32) ≤ nI (behV w nw pl wx p1 j x2) - nI (behV w nw pl wx p2 j x2)
            · rw [if_pos c0] at ab
              exact br_t c0 (step _ ab)
            · rw [if_neg c0, Int32.zero_sub] at ab
              exact br_f c0 (step _ ab)
        exact L (npm + 1) 0 g' rfl (Nat.zero_le _) f' d5 d6
      refine ⟨fun n0 => key _ (fun g' f' => ⟨fun _ => ⟨rfl, R k2 g' (f1.tr f2) hd2 f'⟩, fun z => absurd z n0⟩), fun y0 => key _ (fun g' f' => ⟨fun z => absurd y0 z, fun _ => ⟨rfl, R k2 g' (f1.tr f2) hd2 f'⟩⟩)⟩
    · rw [d4, emn]
      exact br_t m0 ⟨rfl, R k1 g' f1 hd1 f'⟩
  · rw [(hM.as (zm_as f')).2.2.2.1, enp]
    exact ⟨fun _ => ⟨rfl, R k g' FrC.rf hC.2.1 f'⟩, fun _ => ⟨fun z => absurd np0 z, fun _ => ⟨rfl, R k g' FrC.rf hC.2.1 f'⟩⟩⟩
end Nx
