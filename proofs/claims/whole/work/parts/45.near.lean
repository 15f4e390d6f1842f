/-! ===== near ===== -/
def setL (f : Nat → Int32) (a b : Nat) (v : Int32) : Nat → Int32 := upd (upd f (8 * a + b) v) (8 * b + a) v
theorem setL_ov {f h : Nat → Int32} {a b : Nat} {v : Int32} (e : ∀ x, x ≠ 8 * a + b → x ≠ 8 * b + a → h x = f x) : setL h a b v = setL f a b v := by
  funext x
  show (if x = 8 * b + a then v else if x = 8 * a + b then v else h x) = (if x = 8 * b + a then v else if x = 8 * a + b then v else f x)
  by_cases c1 : x = 8 * b + a
  · rw [if_pos c1, if_pos c1]
  · rw [if_neg c1, if_neg c1]
    by_cases c2 : x = 8 * a + b
    · rw [if_pos c2, if_pos c2]
    · rw [if_neg c2, if_neg c2, e x c2 c1]
theorem setL_o {f : Nat → Int32} {a b : Nat} {v : Int32} {x : Nat} (h1 : x ≠ 8 * a + b) (h2 : x ≠ 8 * b + a) : setL f a b v x = f x := by
  unfold setL
  rw [pk_un h2, pk_un h1]
def wset (w : Wd) (f : Nat → Int32) : Wd := (w.1, w.2.1, w.2.2.1, w.2.2.2.1, f, w.2.2.2.2.2)
def vI : Nat → Int32
  | 0 => 100
  | i + 1 => vI i + (-5)
theorem vI_ok : ∀ i, i < 21 → ¬ vI i < 0 ∧ vI i = nI (100 - 5 * i) := by decide
theorem vI_21 : vI 21 < 0 := by decide
def nrV (w : Wd) (p : Pl) (pc : Int32) (z a b : Nat) : Nat := adf (drN w (dyN w p (anew pc) z) (nI (2 ^ a))) (drN w (dyN w p (anew pc) z) (nI (2 ^ b)))
theorem cA_tw {k : KC} {i j : Nat} {f h : Nat → Int32} : cA (cA k i j f) i j h = cA k i j h := by
  refine Prod.ext rfl (Prod.ext ?_ rfl)
  funext x y
  show (bif Nat.beq x i && Nat.beq y j then h else (bif Nat.beq x i && Nat.beq y j then f else k.2.1 x y)) = (bif Nat.beq x i && Nat.beq y j then h else k.2.1 x y)
  cases (Nat.beq x i && Nat.beq y j) <;> rfl
theorem sA_tw {g : GM} {j : Nat} {f h : Nat → Int32} : sA (sA g j f) j h = sA g j h := by
  refine Prod.ext rfl (Prod.ext ?_ rfl)
  funext x
  show (bif Nat.beq x j then h else (bif Nat.beq x j then f else g.2.1 x)) = (bif Nat.beq x j then h else g.2.1 x)
  cases Nat.beq x j <;> rfl
theorem FrC.lk {k k1 : KC} {f h : Nat → Int32} (q : FrC sZ aZ (cA k 1 6 f) k1) : FrC sZ aZ (cA k 1 6 h) (cA k1 1 6 h) := by
  refine ⟨q.1, fun x y e => ?_, q.2.2⟩
  show (bif Nat.beq x 1 && Nat.beq y 6 then h else k1.2.1 x y) = (bif Nat.beq x 1 && Nat.beq y 6 then h else k.2.1 x y)
  have z := q.2.1 x y e
  replace z : k1.2.1 x y = (bif Nat.beq x 1 && Nat.beq y 6 then f else k.2.1 x y) := z
  cases c : (Nat.beq x 1 && Nat.beq y 6) with
  | true => rfl
  | false => rw [c] at z; exact z
theorem FrH.lk {g g1 : GM} {f h : Nat → Int32} (q : FrH sZm aZm (sA g 13 f) g1) : FrH sZm aZm (sA g 13 h) (sA g1 13 h) := by
  refine ⟨q.1, fun x e => ?_⟩
  show (bif Nat.beq x 13 then h else g1.2.1 x) = (bif Nat.beq x 13 then h else g.2.1 x)
  have z := q.2 x e
  replace z : g1.2.1 x = (bif Nat.beq x 13 then f else g.2.1 x) := z
  cases c : Nat.beq x 13 with
  | true => rfl
  | false => rw [c] at z; exact z
theorem cA_id {k : KC} {i j : Nat} : cA k i j (k.2.1 i j) = k := by
  refine Prod.ext rfl (Prod.ext ?_ rfl)
  funext x y
  show (bif Nat.beq x i && Nat.beq y j then k.2.1 i j else k.2.1 x y) = k.2.1 x y
  cases c : (Nat.beq x i && Nat.beq y j) with
  | false => rfl
  | true =>
    obtain ⟨c1, c2⟩ := Bool.and_eq_true_iff.mp c
    rw [Nat.eq_of_beq_eq_true c1, Nat.eq_of_beq_eq_true c2]; rfl
theorem sA_id {g : GM} {j : Nat} : sA g j (g.2.1 j) = g := by
  refine Prod.ext rfl (Prod.ext ?_ rfl)
  funext x
  show (bif Nat.beq x j then g.2.1 j else g.2.1 x) = g.2.1 x
  cases c : Nat.beq x j with
  | false => rfl
  | true => rw [Nat.eq_of_beq_eq_true c]; rfl
section Ne
variable {t n nt np nw N : Nat} {k : KC} {g : GM}
theorem RelA.lk {f : Nat → Int32} (h : RelA t n nt np nw N k g) (hs : ∀ s q, s < 8 → q < 8 → f (8 * s + q) = f (8 * q + s)) : RelA t n nt np nw N (cA k 1 6 f) (sA g 13 f) := by
  obtain ⟨⟨w1, w2, w3, w4, w5, w6, w7, w8, w9⟩, h2, h3, h4, h5, h6, h7, h8, h9, h10⟩ := h
  exact ⟨⟨w1, w2, w3, w4, w5, w6, rfl, w8, hs⟩, h2, h3, h4, h5, h6, h7, h8.eq (fun s y => rfl) (fun s y => sh2 (by decide)) rfl rfl rfl rfl, h9, h10⟩
theorem cApart {w : Wd} {r : Nat} {d : Dn} {p : Pl} {pc : Int32} {a b z : Nat} {Q : Int32 → KC → Prop} (hw : WOk w) (hk : WC w r k) (hd : RD k) (h9 : k.1 2 9 = pc) (h10 : k.1 2 10 = nI r) (hp : PlanC k d p) (ha : a < 8) (hb : b < 8) (hz : z ≤ 20)
    (q : ∀ k', FrC (oMd 4) (aMd 4) k k' → RD k' → Q (nI (nrV w p pc z a b)) k') : ∃ x, wC_dropsApart d x 0 (nI a) (nI b) (nI z) 0 k Q := by
  have h8 := hw.1
  have zz : ∀ i s, 8 ≤ s → mst (dyN w p (anew pc) i) s = 0 ∧ mon (dyN w p (anew pc) i) s = 0 := fun i s hs => by
    rw [(dyN_z (by omega) i).1, (dyN_z (by omega) i).2]; exact ⟨rfl, rfl⟩
  have hp24 := hp.2.2.1
  have L : ∀ (c i : Nat) (k1 : KC), z - i = c → i ≤ z → FrC (oMd 4) (aMd 4) k k1 → MC 4 r (dyN w p (anew pc) i) k1 → wC_dropsApart d (c + 1) 1 (nI a) (nI b) (nI z) (nI i) k1 Q := by
    intro c
    induction c with
    | zero =>
      intro i k1 hc' hi f hm
      have ei : i = z := by omega
      subst ei
      rw [wC_dropsApart]
      any_goals (intro h9; exact absurd h9 (by decide))
      rw [shl1 a (by omega), shl1 b (by omega)]
      refine br_t (nI_le (Nat.le_refl _) (by omega)) (cDrops hw (hk.fr (Or.inr rfl) f) hm (by decide) (fun k2 f2 => ?_))
      have f02 := f.tr f2.scr
      have hm2 := hm.fr (Or.inr rfl) f2
      refine cDrops hw (hk.fr (Or.inr rfl) f02) hm2 (by decide) (fun k3 f3 => ?_)
      have b1 := (drN_e w (dyN w p (anew pc) i) (nI (2 ^ a))).2
      have b2 := (drN_e w (dyN w p (anew pc) i) (nI (2 ^ b))).2
      rw [(drN_e w (dyN w p (anew pc) i) (nI (2 ^ a))).1, (drN_e w (dyN w p (anew pc) i) (nI (2 ^ b))).1, absI (by omega) (by omega)]
      exact q k3 (f02.tr f3.scr) (RD.mc (hm2.fr (Or.inr rfl) f3) (zz i))
    | succ c ih =>
      intro i k1 hc' hi f hm
      rw [wC_dropsApart]
      any_goals (intro h9; exact absurd h9 (by decide))
      rw [nI_1]
      have hb0 : i * p.1 ≤ 20 * 24 := Nat.mul_le_mul (by omega) hp24
      exact br_f (nI_ge (by omega) (by omega)) (cDay hw (hk.fr (Or.inr rfl) f) hm (Or.inr rfl) ((dyN_ok (w := w) (p := p) (anew_ok (pc := pc)) i).mono (v := 20 * 24) (by omega)) (by omega) (hp.fr f) (fun k2 f2 hm2 _ _ _ => ih (i + 1) k2 (by omega) (by omega) (f.tr f2) hm2))
  refine ⟨z - 0 + 1 + 1, ?_⟩
  rw [wC_dropsApart, h9, h10]
  exact cAnew hd (fun k1 f1 hm1 => L _ 0 k1 rfl (Nat.zero_le _) f1 hm1)
/-- the reference's look at one LIKE -/
theorem mLook {w : Wd} {r M x a b z x5 F : Nat} {B : Nat → Nat} {p : Pl} {x6 x8 : Int32} {Q : Int32 → GM → Prop} (hw : WOk w) (hg : WM w B M r g) (hzz : ∀ s, wn w ≤ s → g.2.1 8 s = 0 ∧ g.2.1 9 s = 0) (hp : PlanM g x p) (ha : a < 8) (hb : b < 8) (hz : z ≤ 20) (h5 : x5 ≤ 99)
    (q : ∀ g', FrH sZm aZm g g' → wM_near F 1 (nI a) (nI b) (nI x) (nI z) (nI x5) x6 (if x5 ≤ nrV w p (g.1 14) z a b then x8 else -1) (x8 + (-5)) 0 g' Q) : ∃ y, wM_laysAside y 0 (1 : Int32) 0 g (fun k_14 => wM_near (F + z + 1) 2 (nI a) (nI b) (nI x) (nI z) (nI x5) x6 0 x8 (0 : Int32) k_14 Q) := by
  have h8 := hw.1
  have L : ∀ (c i : Nat) (g1 : GM), z - i = c → i ≤ z → AsOk (wn w) g g1 → WM w B M r g1 → MM (dyN w p (anew (g.1 14)) i) g1 → PlanM g1 x p → wM_near (F + c + 1) 2 (nI a) (nI b) (nI x) (nI z) (nI x5) x6 0 x8 (nI i) g1 Q := by
    intro c
    induction c with
    | zero =>
      intro i g1 hc' hi has hk1 hm hp1
      have ei : i = z := by omega
      subst ei
      rw [wM_near]
      any_goals (intro h9; exact absurd h9 (by decide))
      rw [shl1 a (by omega), shl1 b (by omega)]
      have sa : nI (2 ^ a) ≠ 0 → ∃ s, s < 8 ∧ isO (nI (2 ^ a)) s = true := fun _ => by
        have : 2 ^ a ≤ 2 ^ 7 := Nat.pow_le_pow_right (by decide) (by omega)
        have : 0 < 2 ^ a := Nat.pow_pos (by decide)
        exact set_some _ (by omega) (by omega)
      have sb : nI (2 ^ b) ≠ 0 → ∃ s, s < 8 ∧ isO (nI (2 ^ b)) s = true := fun _ => by
        have : 2 ^ b ≤ 2 ^ 7 := Nat.pow_le_pow_right (by decide) (by omega)
        have : 0 < 2 ^ b := Nat.pow_pos (by decide)
        exact set_some _ (by omega) (by omega)
      refine br_t (nI_le (Nat.le_refl _) (by omega)) (mDrops hw hk1 hm sa (fun g2 f2 => mDrops hw (hk1.fr f2) (hm.fr f2) sb (fun g3 f3 => ?_)))
      obtain ⟨e1, b1⟩ := drN_e w (dyN w p (anew (g.1 14)) i) (nI (2 ^ a))
      obtain ⟨e2, b2⟩ := drN_e w (dyN w p (anew (g.1 14)) i) (nI (2 ^ b))
      rw [e1, e2]
      have a3 := (has.rd f2).rd f3
      have bk : ∀ v, v = (if x5 ≤ nrV w p (g.1 14) i a b then x8 else -1) → ∃ n_19 : Nat, wM_laysBack n_19 0 0 g3 (fun k_19 => wM_near F 1 (nI a) (nI b) (nI x) (nI i) (nI x5) x6 v (x8 + (-5 : Int32)) 0 k_19 Q) := fun v ev => mBack h8 a3 hg.1 (fun g' f _ => by rw [ev]; exact q g' f)
      have d := pk_sub_toInt (a := drN w (dyN w p (anew (g.1 14)) i) (nI (2 ^ a))) (b := drN w (dyN w p (anew (g.1 14)) i) (nI (2 ^ b))) (by omega) (by omega)
      have en : nrV w p (g.1 14) i a b = adf (drN w (dyN w p (anew (g.1 14)) i) (nI (2 ^ a))) (drN w (dyN w p (anew (g.1 14)) i) (nI (2 ^ b))) := rfl
      rw [en] at bk
      generalize drN w (dyN w p (anew (g.1 14)) i) (nI (2 ^ a)) = da at *
      generalize drN w (dyN w p (anew (g.1 14)) i) (nI (2 ^ b)) = db at *
      have m5 : (-nI x5).toInt = -(x5 : Int) := by
        rw [Int32.toInt_neg, nI_toInt (by omega)]
        exact Int.bmod_eq_of_le (by omega) (by omega)
      refine ⟨fun y => bk _ ?_, fun y => ⟨fun y2 => bk _ ?_, fun y2 => bk _ ?_⟩⟩
      · rw [Int32.le_iff_toInt_le, d, nI_toInt (by omega)] at y
        rw [if_pos]
        unfold adf
        split <;> omega
      · rw [Int32.le_iff_toInt_le, d, nI_toInt (by omega)] at y
        rw [Int32.lt_iff_toInt_lt, d, m5] at y2
        rw [if_neg]
        unfold adf
        split <;> omega
      · rw [Int32.lt_iff_toInt_lt, d, m5] at y2
        rw [if_pos]
        unfold adf
        split <;> omega
    | succ c ih =>
      intro i g1 hc' hi has hk1 hm hp1
      rw [show F + (c + 1) + 1 = F + c + 1 + 1 by omega, wM_near]
      any_goals (intro h9; exact absurd h9 (by decide))
      rw [nI_1]
      refine br_f (nI_ge (by omega) (by omega)) (mDay false hw hk1 hm hp1 (fun g2 f2 hm2 e36 e35 => ?_))
      rw [if_neg (by decide)] at e36 e35
      have a2 := has.day f2 e35 e36 (fun s hs => by rw [hm2.1, hm2.2.1, hm.1, hm.2.1]; exact dyM_z hs)
      exact ih (i + 1) g2 (by omega) (by omega) a2 (hk1.dy f2) hm2 (hp1.dy f2)
  have st : ∃ y, wM_laysAside y 0 (if true = true then 1 else 0) 0 g (fun k_14 => wM_near (F + z + 1) 2 (nI a) (nI b) (nI x) (nI z) (nI x5) x6 0 x8 (0 : Int32) k_14 Q) := by
    refine mAside true h8 hg.1 (fun g1 has e8 e9 e15 e16 e14 ff => ?_)
    rw [if_pos rfl] at e8 e9 e15 e16
    have z8 : g1.2.1 8 = fun _ => 0 := by
      rw [e8]
      funext s
      rcases Nat.lt_or_ge s (wn w) with y | y
      · exact cpU_in y
      · rw [cpU_out y]; exact (hzz s y).1
    have z9 : g1.2.1 9 = fun _ => 0 := by
      rw [e9]
      funext s
      rcases Nat.lt_or_ge s (wn w) with y | y
      · exact cpU_in y
      · rw [cpU_out y]; exact (hzz s y).2
    have hk1 : WM w B M r g1 := by
      obtain ⟨a1, a2, a3, a4, a5, ⟨a6, a7, a8⟩, a9, a10⟩ := hg
      exact ⟨(ff.1 10 rfl).trans a1, (ff.2 7 rfl).trans a2, (ff.2 11 rfl).trans a3, (ff.2 12 rfl).trans a4, (ff.2 13 rfl).trans a5, ⟨a6, by rw [ff.2 2 rfl]; exact a7, by rw [ff.2 1 rfl]; exact a8⟩, a9, (ff.1 4 rfl).trans a10⟩
    have hp1 : PlanM g1 x p := ⟨hp.1, by rw [ff.2 30 rfl]; exact hp.2.1, hp.2.2.1, fun i hi => by rw [ff.2 31 rfl, ff.2 32 rfl]; exact hp.2.2.2 i hi⟩
    have fin := L z 0 g1 rfl (Nat.zero_le _) has hk1 ⟨z8, z9, e15, e16, e14⟩ hp1
    exact fin
  exact st
def nrA (w : Wd) (p : Pl) (pc : Int32) (li : Nat → Int32) (z a b x5 i : Nat) : Bool := decide (i < 21) && !(decide (x5 ≤ nrV (wset w (setL li a b (vI i))) p pc z a b))
theorem nrA_N {w : Wd} {p : Pl} {pc : Int32} {li : Nat → Int32} {z a b x5 : Nat} : ∀ j, 21 ≤ j → nrA w p pc li z a b x5 j = false := fun j h => by
  unfold nrA
  rw [decide_eq_false (Nat.not_lt.mpr h)]; rfl
def nrF (w : Wd) (p : Pl) (pc : Int32) (li : Nat → Int32) (z a b x5 : Nat) : Nat := skp (nrA w p pc li z a b x5) 21 0
theorem op_near (x1 x2 x3 x4 x5 : Int32) (h : Rel t k g) : ∃ x, wC_near x 0 x1 x2 x3 x4 x5 dn0 0 0 0 k (fun r k' => ∃ y, wM_near y 0 x1 x2 x3 x4 x5 0 0 0 0 g (fun r' g' => r = r' ∧ Rel (t + 1) k' g')) := by
  obtain ⟨n, nt, np, nw, N, h⟩ := h
  have hu := h.up
  have hn := h.1.1
  obtain ⟨w, m, r, B, M, en, hw, hk, hm, ho, hg, hmg, ekd, ewo, ego, eli, em⟩ := h.wm
  subst en
  have hnp := h.2.2.1.1
  have hz : ∀ s, wn w ≤ s → g.2.1 8 s = 0 ∧ g.2.1 9 s = 0 := fun s hs => h.2.2.2.2.1.2.1 s hs
  have hsym := h.1.2.2.2.2.2.2.2.2
  have R0 : Rel (t + 1) k g := ⟨_, _, _, _, _, hu⟩
  have MB : ∀ P : Int32 → GM → Prop, ((ini x1 0 (nI (wn w) - 1) = 0 ∨ ini x2 0 (nI (wn w) - 1) = 0 ∨ x1 = x2) ∨ ini x3 0 (nI np - 1) = 0 ∨ ini x4 1 20 = 0 ∨ ini x5 1 99 = 0) → P (-2) g → ∃ y, wM_near y 0 x1 x2 x3 x4 x5 0 0 0 0 g P := by
    intro P hh p
    refine ⟨1, ?_⟩
    rw [wM_near]
    refine mTwo h.1.2.2.1 (fun _ => p) (fun e1 e2 e12 => mPlan h.2.2.1.2.2.1 ?_)
    rcases ini_c x3 0 (nI np - 1) with e3 | e3
    · rw [e3]; exact br_t rfl p
    rw [e3]
    refine br_f n10 (mIn (lo := 1) (hi := 20) rfl rfl ?_)
    rcases ini_c x4 1 20 with e4 | e4
    · rw [e4]; exact br_t rfl p
    rw [e4]
    refine br_f n10 (mIn (lo := 1) (hi := 99) rfl rfl ?_)
    rcases ini_c x5 1 99 with e5 | e5
    · rw [e5]; exact br1 rfl p
    exfalso
    rcases hh with (z | z | z) | z | z | z
    · rw [e1] at z; exact absurd z n10
    · rw [e2] at z; exact absurd z n10
    · exact e12 z
    · rw [e3] at z; exact absurd z n10
    · rw [e4] at z; exact absurd z n10
    · rw [e5] at z; exact absurd z n10
  rcases ini_c x3 0 (nI np - 1) with e3 | e3
  · refine ⟨1, ?_⟩
    rw [wC_near]
    exact cPlanAt h (fun _ => ⟨fun _ => cTwo h.1.2.1 (fun z => br_t rfl (MB _ (Or.inl z) ⟨rfl, R0⟩)) (fun _ _ _ => br_f n10 (MB _ (Or.inr (Or.inl e3)) ⟨rfl, R0⟩)), fun x z => by simp at z⟩) (fun e' => by rw [e3] at e'; exact absurd e' (by decide))
  obtain ⟨y, hy, ey⟩ := ini_idx (by omega) e3
  obtain ⟨d, p, d1, d2, d3⟩ := h.2.2.1.2.2.2 y hy
  -- the class's head
  have go : ∀ x (P : Int32 → KC → Prop), (((ini x1 0 (nI (wn w) - 1) = 0 ∨ ini x2 0 (nI (wn w) - 1) = 0 ∨ x1 = x2) ∨ ini x4 1 20 = 0 ∨ ini x5 1 99 = 0) → P (-2) k) → (ini x1 0 (nI (wn w) - 1) = 1 → ini x2 0 (nI (wn w) - 1) = 1 → x1 ≠ x2 → ini x4 1 20 = 1 → ini x5 1 99 = 1 → wC_X8_likeOf x1 x2 k (fun r_11 k_11 => wC_near x 1 x1 x2 0 x4 x5 d r_11 (-1 : Int32) (100 : Int32) k_11 P)) → wC_near (x + 1) 0 x1 x2 x3 x4 x5 dn0 0 0 0 k P := by
    intro x P p0 p1
    rw [wC_near]
    unfold wC_X8_planAt
    rw [h.2.2.1.2.1]
    refine cWithin ?_
    rw [e3, ey]
    refine br_f n10 ⟨vp_in_nI (by omega) (by decide), ?_⟩
    rw [nI_clamp (by omega), d1]
    refine ⟨fun z => by simp at z, fun x hx => ⟨d, by injection hx, cTwo h.1.2.1 (fun z => br_t rfl (p0 (Or.inl z))) (fun e1 e2 e12 => br_f n10 (cWithin ?_))⟩⟩
    rcases ini_c x4 1 20 with e4 | e4
    · rw [e4]; exact br_t rfl (p0 (Or.inr (Or.inl e4)))
    rw [e4]
    refine br_f n10 (cWithin ?_)
    rcases ini_c x5 1 99 with e5 | e5
    · rw [e5]; exact br1 rfl (p0 (Or.inr (Or.inr e5)))
    rw [e5]
    exact br0 n10 (p1 e1 e2 e12 e4 e5)
  by_cases bad : (ini x1 0 (nI (wn w) - 1) = 0 ∨ ini x2 0 (nI (wn w) - 1) = 0 ∨ x1 = x2) ∨ ini x4 1 20 = 0 ∨ ini x5 1 99 = 0
  · refine ⟨0 + 1, go 0 _ (fun z => MB _ (z.elim Or.inl (fun z => Or.inr (Or.inr z))) ⟨rfl, R0⟩) (fun e1 e2 e12 e4 e5 => ?_)⟩
    exfalso
    rcases bad with (z | z | z) | z | z
    · rw [e1] at z; exact absurd z n10
    · rw [e2] at z; exact absurd z n10
    · exact e12 z
    · rw [e4] at z; exact absurd z n10
    · rw [e5] at z; exact absurd z n10
  have e1 : ini x1 0 (nI (wn w) - 1) = 1 := (ini_c _ _ _).resolve_left (fun z => bad (Or.inl (Or.inl z)))
  have e2 : ini x2 0 (nI (wn w) - 1) = 1 := (ini_c _ _ _).resolve_left (fun z => bad (Or.inl (Or.inr (Or.inl z))))
  have e12 : x1 ≠ x2 := fun z => bad (Or.inl (Or.inr (Or.inr z)))
  have e4 : ini x4 1 20 = 1 := (ini_c _ _ _).resolve_left (fun z => bad (Or.inr (Or.inl z)))
  have e5 : ini x5 1 99 = 1 := (ini_c _ _ _).resolve_left (fun z => bad (Or.inr (Or.inr z)))
  obtain ⟨a, ha, ea⟩ := ini_idx (by omega) e1
  obtain ⟨b, hb, eb⟩ := ini_idx (by omega) e2
  obtain ⟨z, hz1, hz2, ez⟩ := ini_rng (a := 1) (b := 20) (by decide) (by decide) e4
  obtain ⟨q, hq1, hq2, eq⟩ := ini_rng (a := 1) (b := 99) (by decide) (by decide) e5
  subst ea eb ez eq
  have i1 : vp_in (nI (8 * a + b)) 64 := vp_in_nI (by omega) (by decide)
  have i2 : vp_in (nI (8 * b + a)) 64 := vp_in_nI (by omega) (by decide)
  have wv : ∀ v, WOk (wset w (setL (wli w) a b v)) := fun v => ⟨hw.1, hw.2.1, likeSym (by omega) (by omega) hw.2.2.1, hw.2.2.2⟩
  have hwl : wli w (8 * a + b) = g.2.1 13 (8 * a + b) := by rw [eli]
  -- the reference
  have MR : ∀ P : Int32 → GM → Prop, (∀ g', FrH sZm aZm (sA g 13 (setL (wli w) a b (wli w (8 * a + b)))) g' → P (if nrF w p (mpc m) (wli w) z a b q < 21 then vI (nrF w p (mpc m) (wli w) z a b q) else -1) g') → ∃ x, wM_near x 0 (nI a) (nI b) x3 (nI z) (nI q) 0 0 0 0 g P := by
    intro P hP
    have fin : ∀ (F' : Nat) (v : Int32) (vv : Int32) (g1 : GM) (f : Nat → Int32), 1 ≤ F' → FrH sZm aZm (sA g 13 f) g1 → (∀ x, x ≠ 8 * a + b → x ≠ 8 * b + a → f x = wli w x) → v = (if nrF w p (mpc m) (wli w) z a b q < 21 then vI (nrF w p (mpc m) (wli w) z a b q) else -1) → (v = -1 → vv < 0) → wM_near F' 1 (nI a) (nI b) x3 (nI z) (nI q) (wli w (8 * a + b)) v vv 0 g1 P := by
      intro F' v vv g1 f hF hf ef hv hvv
      obtain ⟨F', rfl⟩ : ∃ f, F' = f + 1 := ⟨F' - 1, by omega⟩
      rw [wM_near]
      have g13 : g1.2.1 13 = f := (hf.2 13 rfl).trans rfl
      have e13 : setL (g1.2.1 13) a b (wli w (8 * a + b)) = setL (wli w) a b (wli w (8 * a + b)) := by
        rw [g13]; exact setL_ov ef
      have pp : P v (sA g1 13 (setL (wli w) a b (wli w (8 * a + b)))) := by
        rw [hv]; exact hP _ hf.lk
      have go : vp_in (((8 : Int32) * nI a) + nI b) 64 ∧ (vp_in (((8 : Int32) * nI b) + nI a) 64 ∧ P v (sA (sA g1 13 (upd (g1.2.1 13) (((8 : Int32) * nI a) + nI b).toNatClampNeg (wli w (8 * a + b)))) 13 (upd (upd (g1.2.1 13) (((8 : Int32) * nI a) + nI b).toNatClampNeg (wli w (8 * a + b))) (((8 : Int32) * nI b) + nI a).toNatClampNeg (wli w (8 * a + b))))) := by
        rw [ix8', ix8', nI_clamp (by omega), nI_clamp (by omega), sA_tw]
        have e14 : upd (upd (g1.2.1 13) (8 * a + b) (wli w (8 * a + b))) (8 * b + a) (wli w (8 * a + b)) = setL (wli w) a b (wli w (8 * a + b)) := e13
        rw [e14]
        exact ⟨i1, i2, pp⟩
      exact ⟨fun _ => go, fun nl => ⟨fun _ => go, fun y => absurd (hvv y) nl⟩⟩
    have L : ∀ (c i F : Nat) (g1 : GM) (f : Nat → Int32), 21 - i = c → i ≤ 21 → c * 30 + 1 ≤ F → FrH sZm aZm (sA g 13 f) g1 → (∀ x, x ≠ 8 * a + b → x ≠ 8 * b + a → f x = wli w x) → nrF w p (mpc m) (wli w) z a b q = skp (nrA w p (mpc m) (wli w) z a b q) 21 i → wM_near F 1 (nI a) (nI b) x3 (nI z) (nI q) (wli w (8 * a + b)) (-1) (vI i) 0 g1 P := by
      intro c
      induction c with
      | zero =>
        intro i F g1 f hc hi hF hf ef er
        have ei : i = 21 := by omega
        subst ei
        rw [skp_halt _ _ (nrA_N 21 (by omega))] at er
        exact fin F (-1) (vI 21) g1 f (by omega) hf ef (by rw [er, if_neg (by decide)]) (fun _ => vI_21)
      | succ c ih =>
        intro i F g1 f hc hi hF hf ef er
        obtain ⟨F, rfl⟩ : ∃ f, F = f + z + 1 + 1 := ⟨F - (z + 2), by omega⟩
        rw [wM_near]
        have nl := (vI_ok i (by omega)).1
        refine br_f nl ⟨fun nn => absurd rfl nn, fun _ => ?_⟩
        rw [ix8', ix8', nI_clamp (by omega), nI_clamp (by omega), sA_tw]
        have g13 : g1.2.1 13 = f := (hf.2 13 rfl).trans rfl
        have e13 : upd (upd (g1.2.1 13) (8 * a + b) (vI i)) (8 * b + a) (vI i) = setL (wli w) a b (vI i) := by
          rw [g13]; exact setL_ov ef
        rw [e13]
        have hf2 : FrH sZm aZm (sA g 13 (setL (wli w) a b (vI i))) (sA g1 13 (setL (wli w) a b (vI i))) := hf.lk
        have as2 := zm_as hf2
        have hk2 : WM (wset w (setL (wli w) a b (vI i))) B M r (sA g1 13 (setL (wli w) a b (vI i))) := by
          obtain ⟨a1, a2, a3, a4, a5, ⟨a6, a7, a8⟩, a9, a10⟩ := hg
          exact ⟨(hf2.1 10 rfl).trans a1, (hf2.2 7 rfl).trans a2, (hf2.2 11 rfl).trans a3, (hf2.2 12 rfl).trans a4, rfl, ⟨a6, by rw [hf2.2 2 rfl]; exact a7, by rw [hf2.2 1 rfl]; exact a8⟩, a9, (hf2.1 4 rfl).trans a10⟩
        have hp2 : PlanM (sA g1 13 (setL (wli w) a b (vI i))) y p := ⟨d3.1, by rw [hf2.2 30 rfl]; exact d3.2.1, d3.2.2.1, fun i hi => by rw [hf2.2 31 rfl, hf2.2 32 rfl]; exact d3.2.2.2 i hi⟩
        have p14 : (sA g1 13 (setL (wli w) a b (vI i))).1 14 = mpc m := (hf2.1 14 rfl).trans hmg.2.2.2.2
        rw [ey]
        refine ⟨i1, i2, mLook (wv (vI i)) hk2 (fun s hs => by rw [hf2.2 8 rfl, hf2.2 9 rfl]; exact hz s hs) hp2 (by omega) (by omega) hz2 hq2 (fun g2 f2 => ?_)⟩
        rw [p14, ← ey]
        have f02 := hf2.tr f2
        have eS : ∀ x, x ≠ 8 * a + b → x ≠ 8 * b + a → setL (wli w) a b (vI i) x = wli w x := fun x h1 h2 => setL_o h1 h2
        by_cases hb' : q ≤ nrV (wset w (setL (wli w) a b (vI i))) p (mpc m) z a b
        · rw [if_pos hb']
          have hp : nrA w p (mpc m) (wli w) z a b q i = false := by
            unfold nrA
            rw [decide_eq_true hb']; simp
          rw [skp_halt _ _ hp] at er
          refine fin F _ _ g2 _ (by omega) f02 eS (by rw [er, if_pos (by omega)]) (fun e8 => ?_)
          have e7 := congrArg Int32.toInt e8
          rw [(vI_ok i (by omega)).2, nI_toInt (by omega)] at e7
          have : (-1 : Int32).toInt = -1 := by decide
          omega
        · rw [if_neg hb']
          refine ih (i + 1) F g2 _ (by omega) (by omega) (by omega) f02 eS ?_
          rw [er]
          refine skp_step _ 21 nrA_N ?_
          unfold nrA
          rw [decide_eq_true (show i < 21 by omega), decide_eq_false hb']; rfl
    refine ⟨21 * 30 + 1 + 1, ?_⟩
    rw [wM_near]
    refine mTwo h.1.2.2.1 (fun hh => ?_) (fun _ _ _ => mPlan h.2.2.1.2.2.1 ?_)
    · exfalso
      rcases hh with zz | zz | zz
      · rw [e1] at zz; exact absurd zz n10
      · rw [e2] at zz; exact absurd zz n10
      · exact e12 zz
    rw [e3]
    refine br_f n10 (mIn (lo := 1) (hi := 20) rfl rfl ?_)
    rw [e4]
    refine br_f n10 (mIn (lo := 1) (hi := 99) rfl rfl ?_)
    rw [e5, ix8', nI_clamp (by omega)]
    refine br0 n10 ⟨i1, ?_⟩
    rw [← hwl]
    refine L 21 0 _ g (g.2.1 13) rfl (by omega) (by omega) ?_ (fun x _ _ => by rw [eli]) rfl
    rw [sA_id]; exact FrH.rf
  -- the class
  have fin : ∀ k' f, FrC sZ aZ (cA k 1 6 f) k' → f = setL (wli w) a b (wli w (8 * a + b)) → RD k' → ∃ x, wM_near x 0 (nI a) (nI b) x3 (nI z) (nI q) 0 0 0 0 g (fun r' g' => (if nrF w p (mpc m) (wli w) z a b q < 21 then vI (nrF w p (mpc m) (wli w) z a b q) else -1) = r' ∧ Rel (t + 1) k' g') := fun k' f hf ef hd => MR _ (fun g' f' => ⟨rfl, _, _, _, _, _, ((hu.lk (f := setL (wli w) a b (wli w (8 * a + b))) (likeSym (by omega) (by omega) hw.2.2.1)).zC (by rw [← ef]; exact hf) hd).zM f'⟩)
  have stop : ∀ (P : Int32 → KC → Prop) (v : Int32) (k1 : KC) (f : Nat → Int32), FrC sZ aZ (cA k 1 6 f) k1 → (∀ x, x ≠ 8 * a + b → x ≠ 8 * b + a → f x = wli w x) → (∀ k', FrC sZ aZ (cA k 1 6 (setL (wli w) a b (wli w (8 * a + b)))) k' → k'.2.1 4 = k1.2.1 4 → P v k') → wC_X8_setLike (nI a) (nI b) (wli w (8 * a + b)) k1 (fun k_13 => P v k_13) := by
    intro P v k1 f hf ef pp
    unfold wC_X8_setLike
    rw [ix8, ix8, nI_clamp (by omega), nI_clamp (by omega), cA_tw]
    have g6 : k1.2.1 1 6 = f := (hf.2.1 1 6 rfl).trans rfl
    have e6 : upd (upd (k1.2.1 1 6) (8 * a + b) (wli w (8 * a + b))) (8 * b + a) (wli w (8 * a + b)) = setL (wli w) a b (wli w (8 * a + b)) := by
      rw [g6]; exact setL_ov ef
    rw [e6]
    exact ⟨i1, i2, pp _ hf.lk rfl⟩
  have L : ∀ (c i : Nat) (k1 : KC) (f : Nat → Int32), 21 - i = c → i ≤ 21 → FrC sZ aZ (cA k 1 6 f) k1 → (∀ x, x ≠ 8 * a + b → x ≠ 8 * b + a → f x = wli w x) → RD k1 → nrF w p (mpc m) (wli w) z a b q = skp (nrA w p (mpc m) (wli w) z a b q) 21 i → wC_near (c + 2) 1 (nI a) (nI b) 0 (nI z) (nI q) d (wli w (8 * a + b)) (-1) (vI i) k1 (fun r k' => ∃ x, wM_near x 0 (nI a) (nI b) x3 (nI z) (nI q) 0 0 0 0 g (fun r' g' => r = r' ∧ Rel (t + 1) k' g')) := by
    intro c
    induction c with
    | zero =>
      intro i k1 f hc hi hf ef hd er
      have ei : i = 21 := by omega
      subst ei
      rw [skp_halt _ _ (nrA_N 21 (by omega))] at er
      rw [wC_near]
      any_goals (intro h9; exact absurd h9 (by decide))
      refine br_t vI_21 (stop (fun r k' => ∃ x, wM_near x 0 (nI a) (nI b) x3 (nI z) (nI q) 0 0 0 0 g (fun r' g' => r = r' ∧ Rel (t + 1) k' g')) (-1) k1 f hf ef (fun k' f' e4 => ?_))
      have ff := fin k' _ f' rfl (fun s hs => by rw [show k'.2.1 4 1 = k1.2.1 4 1 from congrFun e4 1, show k'.2.1 4 2 = k1.2.1 4 2 from congrFun e4 2]; exact hd s hs)
      rw [er, if_neg (by decide)] at ff
      exact ff
    | succ c ih =>
      intro i k1 f hc hi hf ef hd er
      rw [show c + 1 + 2 = c + 2 + 1 by omega, wC_near]
      any_goals (intro h9; exact absurd h9 (by decide))
      have nl := (vI_ok i (by omega)).1
      refine br_f nl ⟨fun nn => absurd rfl nn, fun _ => ?_⟩
      unfold wC_X8_setLike
      rw [ix8, ix8, nI_clamp (by omega), nI_clamp (by omega), cA_tw]
      have g6 : k1.2.1 1 6 = f := (hf.2.1 1 6 rfl).trans rfl
      have e6 : upd (upd (k1.2.1 1 6) (8 * a + b) (vI i)) (8 * b + a) (vI i) = setL (wli w) a b (vI i) := by
        rw [g6]; exact setL_ov ef
      rw [e6]
      have hf2 : FrC sZ aZ (cA k 1 6 (setL (wli w) a b (vI i))) (cA k1 1 6 (setL (wli w) a b (vI i))) := hf.lk
      have hk2 : WC (wset w (setL (wli w) a b (vI i))) r (cA k1 1 6 (setL (wli w) a b (vI i))) := by
        obtain ⟨a1, a2, a3, a4, a5, a6, a7⟩ := hk
        have tx : TextC (cA k 1 6 (setL (wli w) a b (vI i))) r (wcs w) := a6
        exact ⟨(hf2.1 1 0 rfl).trans a1, (hf2.2.1 1 3 rfl).trans a2, (hf2.2.1 1 4 rfl).trans a3, (hf2.2.1 1 5 rfl).trans a4, rfl, tx.z hf2, a7⟩
      have pc2 : PlanC (cA k 1 6 (setL (wli w) a b (vI i))) d p := d2
      have e9 : (cA k1 1 6 (setL (wli w) a b (vI i))).1 2 9 = mpc m := (hf2.1 2 9 rfl).trans hm.2.2.2.2.1
      have e10 : (cA k1 1 6 (setL (wli w) a b (vI i))).1 2 10 = nI r := (hf2.1 2 10 rfl).trans hm.2.2.2.2.2
      have eS : ∀ x, x ≠ 8 * a + b → x ≠ 8 * b + a → setL (wli w) a b (vI i) x = wli w x := fun x h1 h2 => setL_o h1 h2
      refine ⟨i1, i2, cApart (wv (vI i)) hk2 hd e9 e10 (pc2.fr hf2) (by omega) (by omega) hz2 (fun k2 f2 hd2 => ?_)⟩
      have f02 := hf2.tr f2.o4
      have nb : nrV (wset w (setL (wli w) a b (vI i))) p (mpc m) z a b < 1000 := by
        have b1 := (drN_e (wset w (setL (wli w) a b (vI i))) (dyN (wset w (setL (wli w) a b (vI i))) p (anew (mpc m)) z) (nI (2 ^ a))).2
        have b2 := (drN_e (wset w (setL (wli w) a b (vI i))) (dyN (wset w (setL (wli w) a b (vI i))) p (anew (mpc m)) z) (nI (2 ^ b))).2
        unfold nrV adf
        split <;> omega
      have elt : nI (nrV (wset w (setL (wli w) a b (vI i))) p (mpc m) z a b) < nI q ↔ nrV (wset w (setL (wli w) a b (vI i))) p (mpc m) z a b < q := nI_ltI (by omega) (by omega)
      rw [elt]
      refine ⟨fun lt => ?_, fun nlt => ?_⟩
      · refine ih (i + 1) k2 _ (by omega) (by omega) f02 eS hd2 ?_
        rw [er]
        refine skp_step _ 21 nrA_N ?_
        unfold nrA
        rw [decide_eq_true (show i < 21 by omega), decide_eq_false (show ¬ q ≤ nrV (wset w (setL (wli w) a b (vI i))) p (mpc m) z a b by omega)]; rfl
      · have hp : nrA w p (mpc m) (wli w) z a b q i = false := by
          unfold nrA
          rw [decide_eq_true (show q ≤ nrV (wset w (setL (wli w) a b (vI i))) p (mpc m) z a b by omega)]; simp
        rw [skp_halt _ _ hp] at er
        rw [wC_near]
        any_goals (intro h9; exact absurd h9 (by decide))
        have nm : ¬ vI i = -1 := fun e8 => by
          have e7 := congrArg Int32.toInt e8
          rw [(vI_ok i (by omega)).2, nI_toInt (by omega)] at e7
          have : (-1 : Int32).toInt = -1 := by decide
          omega
        have st := stop (fun r k' => ∃ x, wM_near x 0 (nI a) (nI b) x3 (nI z) (nI q) 0 0 0 0 g (fun r' g' => r = r' ∧ Rel (t + 1) k' g')) (vI i) k2 _ f02 eS (fun k' f' e4 => by
          have ff := fin k' _ f' rfl (fun s hs => by rw [show k'.2.1 4 1 = k2.2.1 4 1 from congrFun e4 1, show k'.2.1 4 2 = k2.2.1 4 2 from congrFun e4 2]; exact hd2 s hs)
          rw [er, if_pos (by omega)] at ff
          exact ff)
        exact ⟨fun _ => st, fun _ => ⟨fun _ => st, fun y => absurd y nm⟩⟩
  refine ⟨21 + 2 + 1, go (21 + 2) _ (fun zz => absurd zz bad) (fun _ _ _ _ _ => ?_)⟩
  unfold wC_X8_likeOf
  rw [ix8, nI_clamp (by omega), hk.2.2.2.2.1]
  refine ⟨i1, L 21 0 k (k.2.1 1 6) rfl (by omega) ?_ (fun x _ _ => by rw [hk.2.2.2.2.1]) h.2.2.2.2.2.2.2.2.2 rfl⟩
  rw [cA_id]; exact FrC.rf
end Ne
