/-! ===== says and read as values; minds and worlds as numbers ===== -/
def nmT (a b c d e f : Int32) (j : Nat) : Int32 := match j with
  | 0 => a
  | 1 => b
  | 2 => c
  | 3 => d
  | 4 => e
  | _ => f
def evt (cs : Nat → List Int32) (w : Nat) (a b c d e f : Int32) : Int32 := evT (nmT a b c d e f) (cs w)
theorem nmC_T (k : KC) (i : Nat) (s sum worth trial : Int32) : nmC k i s sum worth trial = nmT (k.2.1 i 1 s.toNatClampNeg) sum worth (k.2.1 1 3 s.toNatClampNeg) (k.1 i 7) trial := by
  funext j
  match j with
  | 0 => rfl
  | 1 => rfl
  | 2 => rfl
  | 3 => rfl
  | 4 => rfl
  | n + 5 => rfl
theorem nmR_T (g : GM) (s sum worth trial : Int32) : nmR g s sum worth trial = nmT (g.2.1 8 s.toNatClampNeg) sum worth (g.2.1 7 s.toNatClampNeg) (g.1 15) trial := by
  funext j
  match j with
  | 0 => rfl
  | 1 => rfl
  | 2 => rfl
  | 3 => rfl
  | 4 => rfl
  | n + 5 => rfl
theorem cSays {cs : Nat → List Int32} {k : KC} {i r w s : Nat} {sum worth trial : Int32} {Q : Int32 → KC → Prop} (ht : TextC k r cs) (hwf : ∀ w, WfC (cs w)) (hr : k.1 i 10 = nI r) (hr6 : r < 6) (hi : i ≠ 1) (hw : w < 3) (hs : s < 8) (q : ∀ k', FrC aNo sScr k k' → Q (evt cs w (k.2.1 i 1 s) sum worth (k.2.1 1 3 s) (k.1 i 7) trial) k') : wC_X0_says i (nI w) (nI s) sum worth trial k Q := by
  obtain ⟨d, d1, d2, hx⟩ := ht
  obtain ⟨hl, hsz, hrow, hb0, hb1, hb2, hb3⟩ := hx
  unfold wC_X0_says
  rw [hr, nI_clamp (by omega), nI_clamp (by omega), d1]
  refine ⟨vp_in_nI hs (by decide), vp_in_nI hs (by decide), vp_in_nI hr6 (by decide), fun e => absurd e (by simp), fun x hx => ⟨d, by injection hx, d2, ?_⟩⟩
  have lw : ∃ b, d.2.2.2.2.2 w = nI b ∧ d.2.2.2.2.2 (w + 1) = nI (b + (cs w).length) ∧ b + (cs w).length ≤ (cs 0 ++ cs 1 ++ cs 2).length ∧ (∀ j, j < (cs w).length → (cs 0 ++ cs 1 ++ cs 2).getD (b + j) 0 = (cs w).getD j 0) := by
    have gdr : ∀ (l m : List Int32) (j : Nat), (l ++ m).getD (l.length + j) 0 = m.getD j 0 := fun l m j => by
      rw [List.getD_eq_getElem?_getD, List.getElem?_append_right (by omega), List.getD_eq_getElem?_getD]
      congr 2; omega
    match w, hw with
    | 0, _ =>
      refine ⟨0, hb0, by rw [Nat.zero_add (cs 0).length]; exact hb1, by simp only [List.length_append]; omega, fun j hj => ?_⟩
      rw [Nat.zero_add, gd_l (by rw [List.length_append]; omega), gd_l hj]
    | 1, _ =>
      refine ⟨(cs 0).length, hb1, by rw [← List.length_append]; exact hb2, by simp only [List.length_append]; omega, fun j hj => ?_⟩
      rw [gd_l (by rw [List.length_append]; omega), gdr]
    | 2, _ =>
      refine ⟨(cs 0 ++ cs 1).length, hb2, by rw [← List.length_append]; exact hb3, by simp only [List.length_append]; omega, fun j hj => ?_⟩
      rw [gdr]
  obtain ⟨b, w1, w2, w3, w4⟩ := lw
  have hend : d.2.2.2.1 ≤ 160 := by omega
  refine ⟨2 * (cs w).length + 1 + 1, ?_⟩
  rw [wC_X5_reckon, nI_clamp (by omega), w1]
  refine ⟨d2, vp_in_nI (by omega) (by decide), ?_⟩
  generalize hk1 : (cA (cA (cA (cA (cA (cA k 1 9 (upd (k.2.1 1 9) 0 (k.2.1 i 1 s))) 1 9 (upd (upd (k.2.1 1 9) 0 (k.2.1 i 1 s)) 1 sum)) 1 9 (upd (upd (upd (k.2.1 1 9) 0 (k.2.1 i 1 s)) 1 sum) 2 worth)) 1 9 (upd (upd (upd (upd (k.2.1 1 9) 0 (k.2.1 i 1 s)) 1 sum) 2 worth) 3 (k.2.1 1 3 s))) 1 9 (upd (upd (upd (upd (upd (k.2.1 1 9) 0 (k.2.1 i 1 s)) 1 sum) 2 worth) 3 (k.2.1 1 3 s)) 4 (k.1 i 7))) 1 9 (upd (upd (upd (upd (upd (upd (k.2.1 1 9) 0 (k.2.1 i 1 s)) 1 sum) 2 worth) 3 (k.2.1 1 3 s)) 4 (k.1 i 7)) 5 trial)) = k1
  have f1 : FrC aNo sScr k k1 := by
    rw [← hk1]
    exact (((((FrC.rf.a_ rfl).a_ rfl).a_ rfl).a_ rfl).a_ rfl).a_ rfl
  have n9 : ∀ j, j < 6 → k1.2.1 1 9 j = nmT (k.2.1 i 1 s) sum worth (k.2.1 1 3 s) (k.1 i 7) trial j := by
    intro j hj
    rw [← hk1]
    match j, hj with
    | 0, _ => rfl
    | 1, _ => rfl
    | 2, _ => rfl
    | 3, _ => rfl
    | 4, _ => rfl
    | 5, _ => rfl
  have hd1 : d ∈ txC k1 := by
    rw [show txC k1 = txC k by unfold txC; rw [f1.2.2]]; exact d2
  have fin := rkLoop (d := d) (k := k1) (Q := fun r_3 k_3 => Q r_3 k_3) (v := evt cs w (k.2.1 i 1 s) sum worth (k.2.1 1 3 s) (k.1 i 7) trial) (w := w) (b := b) (e := b + (cs w).length) hd1 hw w2 (by omega) hend n9 (fun k' f => q k' (f1.tr f)) (cs w) [] 0 (2 * (cs w).length + 1) k1 (Nat.le_refl _) (Nat.le_refl _) (by omega) (by omega) (fun j hj => by rw [Nat.add_zero, hrow (b + j) (by omega)]; exact w4 j hj) trivial FrC.rf rfl ((hwf w).one _)
  exact fin
theorem mRead {B : Nat → Nat} {N x s w : Nat} {cs : Nat → List Int32} {g : GM} {sum worth trial : Int32} {Q : Int32 → GM → Prop} (hR : RdOk B N cs) (hr : RowM B N x g) (hw : w < 3) (hs : s < 8) (q : ∀ g', FrG sRd g g' → Q (evt cs w (g.2.1 8 s) sum worth (g.2.1 7 s) (g.1 15) trial) g') : ∃ n, wM_read n 0 (nI x) (nI s) sum worth trial (nI w) 0 0 0 g Q := by
  refine hR x (nI s) sum worth trial w g Q hr (vp_in_nI hs (by decide)) hw (fun v g' f _ ev => ?_)
  rw [nmR_T, nI_clamp (by omega)] at ev
  have := q g' f
  unfold evt at this
  rw [ev.val] at this
  exact this
/-! ## sums -/
def sumN (f : Nat → Int32) : Nat → Int32
  | 0 => 0
  | n + 1 => sumN f n + f n
theorem sumN_congr {f h : Nat → Int32} : ∀ n, (∀ j, j < n → f j = h j) → sumN f n = sumN h n
  | 0, _ => rfl
  | n + 1, e => by
    show sumN f n + f n = sumN h n + h n
    rw [sumN_congr n (fun j hj => e j (by omega)), e n (by omega)]
theorem i_add4 (a b c d : Int32) : a + b + (c + d) = a + c + (b + d) := by
  rw [Int32.add_assoc, ← Int32.add_assoc b c d, Int32.add_comm b c, Int32.add_assoc c b d, ← Int32.add_assoc]
theorem sumN_add (f h : Nat → Int32) : ∀ n, sumN (fun j => f j + h j) n = sumN f n + sumN h n
  | 0 => by
    show (0 : Int32) = 0 + 0
    decide
  | n + 1 => by
    show sumN (fun j => f j + h j) n + (f n + h n) = sumN f n + f n + (sumN h n + h n)
    rw [sumN_add f h n, i_add4]
theorem sumN_0 : ∀ n, sumN (fun _ => 0) n = 0
  | 0 => rfl
  | n + 1 => by
    show sumN (fun _ => 0) n + 0 = 0
    rw [sumN_0 n]; decide
theorem sumN_swap (f : Nat → Nat → Int32) (m : Nat) : ∀ n, sumN (fun i => sumN (fun j => f i j) m) n = sumN (fun j => sumN (fun i => f i j) n) m
  | 0 => by
    show (0 : Int32) = sumN (fun _ => 0) m
    rw [sumN_0]
  | n + 1 => by
    show sumN (fun i => sumN (fun j => f i j) m) n + sumN (fun j => f n j) m = sumN (fun j => sumN (fun i => f i j) n + f n j) m
    rw [sumN_swap f m n, sumN_add]
def isO (set : Int32) (s : Nat) : Bool := decide ((set >>> (nI s &&& 31)) &&& 1 = 1)
theorem and1 (x : Int32) : x &&& 1 = 0 ∨ x &&& 1 = 1 := by
  obtain ⟨j, hj, e⟩ := pk_andE x (m := 1) 1 (by decide)
  rw [e]
  match j, hj with
  | 0, _ => exact Or.inl rfl
  | 1, _ => exact Or.inr rfl
theorem isO_t {set : Int32} {s : Nat} : isO set s = true ↔ (set >>> (nI s &&& 31)) &&& 1 = 1 := decide_eq_true_iff
theorem isO_f {set : Int32} {s : Nat} : isO set s = false ↔ (set >>> (nI s &&& 31)) &&& 1 = 0 := by
  unfold isO
  rw [decide_eq_false_iff_not]
  rcases and1 (set >>> (nI s &&& 31)) with h | h
  · rw [h]; exact ⟨fun _ => rfl, fun _ => by decide⟩
  · rw [h]; exact ⟨fun e => absurd rfl e, fun e => absurd e n10⟩
theorem cIsOn {set : Int32} {s : Nat} {k : KC} {Q : Int32 → KC → Prop} (q : Q (if isO set s = true then 1 else 0) k) : wC_isOn set (nI s) k Q := by
  unfold wC_isOn
  refine ⟨fun n => ?_, fun y => ?_⟩
  · rw [if_neg (fun z => n (isO_t.mp z))] at q; exact q
  · rw [if_pos (isO_t.mpr y)] at q; exact q
/-- SUM, as the class adds, as the reference adds -/
def sumC (n : Nat) (str li : Nat → Int32) (set : Int32) : Int32 := sumN (fun s => if isO set s = true then str s + sumN (fun q => if isO set q = true then 0 else str q * li (8 * s + q) / 100) n else 0) n
def sumT (n : Nat) (str li : Nat → Int32) (set : Int32) : Int32 := sumN (fun s => if isO set s = true then str s else sumN (fun q => if isO set q = true then str s * li (8 * s + q) / 100 else 0) n) n
theorem i_zadd (a : Int32) : 0 + a = a := Int32.zero_add a
theorem i_addz (a : Int32) : a + 0 = a := Int32.add_zero a
theorem sumCT {n : Nat} {str li : Nat → Int32} {set : Int32} (hs : ∀ s q, s < n → q < n → li (8 * s + q) = li (8 * q + s)) : sumC n str li set = sumT n str li set := by
  have e1 : sumC n str li set = sumN (fun s => if isO set s = true then str s else 0) n + sumN (fun s => sumN (fun q => if isO set s = true then (if isO set q = true then 0 else str q * li (8 * s + q) / 100) else 0) n) n := by
    rw [← sumN_add]
    refine sumN_congr n (fun s _ => ?_)
    by_cases h : isO set s = true
    · rw [if_pos h, if_pos h]
      congr 1
      exact sumN_congr n (fun q _ => by rw [if_pos h])
    · rw [if_neg h, if_neg h, sumN_congr n (h := fun _ => 0) (fun q _ => by rw [if_neg h]), sumN_0]; decide
  have e2 : sumT n str li set = sumN (fun s => if isO set s = true then str s else 0) n + sumN (fun s => sumN (fun q => if isO set s = true then 0 else (if isO set q = true then str s * li (8 * s + q) / 100 else 0)) n) n := by
    rw [← sumN_add]
    refine sumN_congr n (fun s _ => ?_)
    by_cases h : isO set s = true
    · rw [if_pos h, if_pos h, sumN_congr n (h := fun _ => 0) (fun q _ => by rw [if_pos h]), sumN_0, i_addz]
    · rw [if_neg h, if_neg h, i_zadd]
      exact sumN_congr n (fun q _ => by rw [if_neg h])
  rw [e1, e2, sumN_swap]
  congr 1
  refine sumN_congr n (fun q hq => sumN_congr n (fun s hs' => ?_))
  by_cases h : isO set q = true
  · by_cases h2 : isO set s = true
    · rw [if_pos h2, if_pos h, if_pos h]
    · rw [if_neg h2, if_pos h]
  · by_cases h2 : isO set s = true
    · rw [if_pos h2, if_neg h, if_neg h, if_pos h2, hs s q hs' hq]
    · rw [if_neg h2, if_neg h, if_neg h2]
/-! ## worlds and minds -/
abbrev Wd : Type := Nat × (Nat → Int32) × (Nat → Int32) × (Nat → Int32) × (Nat → Int32) × (Nat → List Int32)
abbrev Md : Type := (Nat → Int32) × (Nat → Int32) × Int32 × Int32 × Int32
def wn (w : Wd) : Nat := w.1
def wkd (w : Wd) : Nat → Int32 := w.2.1
def wwo (w : Wd) : Nat → Int32 := w.2.2.1
def wgo (w : Wd) : Nat → Int32 := w.2.2.2.1
def wli (w : Wd) : Nat → Int32 := w.2.2.2.2.1
def wcs (w : Wd) : Nat → List Int32 := w.2.2.2.2.2
def mst (m : Md) : Nat → Int32 := m.1
def mon (m : Md) : Nat → Int32 := m.2.1
def mdy (m : Md) : Int32 := m.2.2.1
def mtd (m : Md) : Int32 := m.2.2.2.1
def mpc (m : Md) : Int32 := m.2.2.2.2
def WOk (w : Wd) : Prop := wn w ≤ 8 ∧ (∀ s, s < 8 → ∃ j, j < 6 ∧ wkd w s = nI j) ∧ (∀ s q, s < 8 → q < 8 → wli w (8 * s + q) = wli w (8 * q + s)) ∧ ∀ c, WfC (wcs w c)
def MOk (u : Nat) (m : Md) : Prop := ∀ s, s < 8 → ∃ j, j ≤ u ∧ mon m s = nI j
/-- the class's world, and its mind i -/
def WC (w : Wd) (r : Nat) (k : KC) : Prop := k.1 1 0 = nI (wn w) ∧ k.2.1 1 3 = wkd w ∧ k.2.1 1 4 = wwo w ∧ k.2.1 1 5 = wgo w ∧ k.2.1 1 6 = wli w ∧ TextC k r (wcs w) ∧ r < 6
def MC (i r : Nat) (m : Md) (k : KC) : Prop := k.2.1 i 1 = mst m ∧ k.2.1 i 2 = mon m ∧ k.1 i 7 = mdy m ∧ k.1 i 8 = mtd m ∧ k.1 i 9 = mpc m ∧ k.1 i 10 = nI r
def WM (w : Wd) (B : Nat → Nat) (N r : Nat) (g : GM) : Prop := g.1 10 = nI (wn w) ∧ g.2.1 7 = wkd w ∧ g.2.1 11 = wwo w ∧ g.2.1 12 = wgo w ∧ g.2.1 13 = wli w ∧ RowM B N r g ∧ RdOk B N (wcs w) ∧ g.1 4 = nI r
def MM (m : Md) (g : GM) : Prop := g.2.1 8 = mst m ∧ g.2.1 9 = mon m ∧ g.1 15 = mdy m ∧ g.1 16 = mtd m ∧ g.1 14 = mpc m
/-- object i, and the scratch rows of the world -/
def oMd (i x _ : Nat) : Bool := Nat.beq x i
def aMd (i x y : Nat) : Bool := Nat.beq x i || sScr x y
theorem sScr_aMd {i x y : Nat} (h : aMd i x y = false) : sScr x y = false := (Bool.or_eq_false_iff.mp h).2
theorem FrC.scr {k k' : KC} {i : Nat} (h : FrC aNo sScr k k') : FrC (oMd i) (aMd i) k k' := h.mono (fun _ _ _ => rfl) (fun _ _ => sScr_aMd)
theorem WC.fr {w : Wd} {r i : Nat} {k k' : KC} (h : WC w r k) (hi : i = 2 ∨ i = 4) (f : FrC (oMd i) (aMd i) k k') : WC w r k' := by
  have hx : txC k' = txC k := by unfold txC; rw [f.2.2]
  have ht : k'.2.2.2.1 = k.2.2.2.1 := congrArg (fun z => z.2.1) f.2.2
  obtain ⟨h1, h2, h3, h4, h5, ⟨d, d1, d2, d3⟩, h7⟩ := h
  rcases hi with rfl | rfl
  · exact ⟨(f.1 1 0 rfl).trans h1, (f.2.1 1 3 rfl).trans h2, (f.2.1 1 4 rfl).trans h3, (f.2.1 1 5 rfl).trans h4, (f.2.1 1 6 rfl).trans h5, ⟨d, by rw [ht]; exact d1, by rw [hx]; exact d2, d3⟩, h7⟩
  · exact ⟨(f.1 1 0 rfl).trans h1, (f.2.1 1 3 rfl).trans h2, (f.2.1 1 4 rfl).trans h3, (f.2.1 1 5 rfl).trans h4, (f.2.1 1 6 rfl).trans h5, ⟨d, by rw [ht]; exact d1, by rw [hx]; exact d2, d3⟩, h7⟩
theorem MC.fr {m : Md} {r i : Nat} {k k' : KC} (h : MC i r m k) (hi : i = 2 ∨ i = 4) (f : FrC aNo sScr k k') : MC i r m k' := by
  obtain ⟨h1, h2, h3, h4, h5, h6⟩ := h
  rcases hi with rfl | rfl
  · exact ⟨(f.2.1 2 1 rfl).trans h1, (f.2.1 2 2 rfl).trans h2, (f.1 2 7 rfl).trans h3, (f.1 2 8 rfl).trans h4, (f.1 2 9 rfl).trans h5, (f.1 2 10 rfl).trans h6⟩
  · exact ⟨(f.2.1 4 1 rfl).trans h1, (f.2.1 4 2 rfl).trans h2, (f.1 4 7 rfl).trans h3, (f.1 4 8 rfl).trans h4, (f.1 4 9 rfl).trans h5, (f.1 4 10 rfl).trans h6⟩
theorem WM.fr {w : Wd} {B : Nat → Nat} {N r : Nat} {g g' : GM} (h : WM w B N r g) (f : FrG sRd g g') : WM w B N r g' := by
  obtain ⟨h1, h2, h3, h4, h5, ⟨h6, h7, h8⟩, h9, h10⟩ := h
  exact ⟨(f.1 10 rfl).trans h1, by rw [f.2]; exact h2, by rw [f.2]; exact h3, by rw [f.2]; exact h4, by rw [f.2]; exact h5, ⟨h6, by rw [f.2]; exact h7, by rw [f.2]; exact h8⟩, h9, (f.1 4 rfl).trans h10⟩
theorem MM.fr {m : Md} {g g' : GM} (h : MM m g) (f : FrG sRd g g') : MM m g' := by
  obtain ⟨h1, h2, h3, h4, h5⟩ := h
  exact ⟨by rw [f.2]; exact h1, by rw [f.2]; exact h2, (f.1 15 rfl).trans h3, (f.1 16 rfl).trans h4, (f.1 14 rfl).trans h5⟩
