/-! ===== SUM, LOUD, FADES, DROPS of both sides ===== -/
section Sums
variable {w : Wd} {m : Md} {r i u : Nat} {k : KC} {B : Nat → Nat} {N : Nat} {g : GM} {set : Int32}
theorem cLent {Q : Int32 → KC → Prop} {s : Nat} (hw : WOk w) (hk : WC w r k) (hm : k.2.1 i 1 = mst m) (hs : s < 8) (q : Q (sumN (fun q => if isO set q = true then 0 else mst m q * wli w (8 * s + q) / 100) (wn w)) k) : ∃ n, wC_X0_lentTo i n 0 (nI s) set 0 0 k Q := by
  have h8 := hw.1
  have L : ∀ (c j : Nat), wn w - j = c → j ≤ wn w → wC_X0_lentTo i (c + 1) 1 (nI s) set (sumN (fun q => if isO set q = true then 0 else mst m q * wli w (8 * s + q) / 100) j) (nI j) k Q := by
    intro c
    induction c with
    | zero =>
      intro j hc hj
      rw [wC_X0_lentTo]
      any_goals (intro h9; exact absurd h9 (by decide))
      have e : j = wn w := by omega
      subst e
      rw [hk.1]
      exact br_t (nI_le (Nat.le_refl _) (by omega)) q
    | succ c ih =>
      intro j hc hj
      rw [wC_X0_lentTo]
      any_goals (intro h9; exact absurd h9 (by decide))
      rw [hk.1]
      refine br_f (nI_ge (by omega) (by omega)) (cIsOn ?_)
      rw [nI_1]
      have nx := ih (j + 1) (by omega) (by omega)
      by_cases h : isO set j = true
      · rw [if_pos h]
        refine br0 n10 ?_ |> fun (z : _ ∧ (1 = (0 : Int32) → True)) => ⟨z.1, fun e => absurd e n10⟩
        have e : sumN (fun q => if isO set q = true then 0 else mst m q * wli w (8 * s + q) / 100) (j + 1) = sumN (fun q => if isO set q = true then 0 else mst m q * wli w (8 * s + q) / 100) j := by
          show sumN _ j + (if isO set j = true then 0 else _) = _
          rw [if_pos h, i_addz]
        rw [e] at nx; exact nx
      · rw [if_neg h]
        refine br1 rfl ⟨vp_in_nI (by omega) (by decide), ?_⟩
        have e8 : nI s * (8 : Int32) + nI j = nI (8 * s + j) := by
          show nI s * nI 8 + nI j = _
          rw [pk_mul, nI_add, Nat.mul_comm]
        rw [e8, nI_clamp (by omega), nI_clamp (by omega), hm, hk.2.2.2.2.1]
        refine ⟨vp_in_nI (by omega) (by decide), fun v hv => ?_⟩
        subst hv
        have e : sumN (fun q => if isO set q = true then 0 else mst m q * wli w (8 * s + q) / 100) (j + 1) = sumN (fun q => if isO set q = true then 0 else mst m q * wli w (8 * s + q) / 100) j + mst m j * wli w (8 * s + j) / 100 := by
          show sumN _ j + (if isO set j = true then 0 else _) = _
          rw [if_neg h]
        rw [e] at nx; exact nx
  refine ⟨wn w - 0 + 1 + 1, ?_⟩
  rw [wC_X0_lentTo]
  exact L _ 0 rfl (Nat.zero_le _)
theorem cSum {Q : Int32 → KC → Prop} (hw : WOk w) (hk : WC w r k) (hm : k.2.1 i 1 = mst m) (q : Q (sumT (wn w) (mst m) (wli w) set) k) : ∃ n, wC_X0_sumOf i n 0 set 0 0 k Q := by
  have h8 := hw.1
  rw [← sumCT (fun s q hs hq => hw.2.2.1 s q (by omega) (by omega))] at q
  have L : ∀ (c j : Nat), wn w - j = c → j ≤ wn w → wC_X0_sumOf i (c + 1) 1 set (sumN (fun s => if isO set s = true then mst m s + sumN (fun q => if isO set q = true then 0 else mst m q * wli w (8 * s + q) / 100) (wn w) else 0) j) (nI j) k Q := by
    intro c
    induction c with
    | zero =>
      intro j hc hj
      rw [wC_X0_sumOf]
      any_goals (intro h9; exact absurd h9 (by decide))
      have e : j = wn w := by omega
      subst e
      rw [hk.1]
      exact br_t (nI_le (Nat.le_refl _) (by omega)) q
    | succ c ih =>
      intro j hc hj
      rw [wC_X0_sumOf]
      any_goals (intro h9; exact absurd h9 (by decide))
      rw [hk.1]
      refine br_f (nI_ge (by omega) (by omega)) (cIsOn ?_)
      rw [nI_1]
      have nx := ih (j + 1) (by omega) (by omega)
      by_cases h : isO set j = true
      · rw [if_pos h]
        refine br_f n10 ⟨vp_in_nI (by omega) (by decide), cLent hw hk hm (by omega) ?_⟩
        rw [nI_clamp (by omega), hm]
        have e : sumN (fun s => if isO set s = true then mst m s + sumN (fun q => if isO set q = true then 0 else mst m q * wli w (8 * s + q) / 100) (wn w) else 0) (j + 1) = sumN (fun s => if isO set s = true then mst m s + sumN (fun q => if isO set q = true then 0 else mst m q * wli w (8 * s + q) / 100) (wn w) else 0) j + (mst m j + sumN (fun q => if isO set q = true then 0 else mst m q * wli w (8 * j + q) / 100) (wn w)) := by
          show sumN _ j + (if isO set j = true then _ else 0) = _
          rw [if_pos h]
        rw [e] at nx; exact nx
      · rw [if_neg h]
        refine br_t rfl ?_
        have e : sumN (fun s => if isO set s = true then mst m s + sumN (fun q => if isO set q = true then 0 else mst m q * wli w (8 * s + q) / 100) (wn w) else 0) (j + 1) = sumN (fun s => if isO set s = true then mst m s + sumN (fun q => if isO set q = true then 0 else mst m q * wli w (8 * s + q) / 100) (wn w) else 0) j := by
          show sumN _ j + (if isO set j = true then _ else 0) = _
          rw [if_neg h, i_addz]
        rw [e] at nx; exact nx
  refine ⟨wn w - 0 + 1 + 1, ?_⟩
  rw [wC_X0_sumOf]
  exact L _ 0 rfl (Nat.zero_le _)
theorem isO_nt {s : Nat} : (set >>> (nI s &&& 31)) &&& 1 = (1 : Int32) ↔ isO set s = true := isO_t.symm
/-- the reference's sum: its two loops take one from the other, so fuel is told for both -/
theorem mSum {Q : Int32 → GM → Prop} (hw : WOk w) (h10 : g.1 10 = nI (wn w)) (h8 : g.2.1 8 = mst m) (h13 : g.2.1 13 = wli w) (q : Q (sumT (wn w) (mst m) (wli w) set) g) : ∃ n, wM_sumOf n 0 set 0 0 0 g Q := by
  have hn := hw.1
  have I : ∀ (c j s n : Nat) (x : Int32), wn w - j = c → j ≤ wn w → s < wn w → c + 1 ≤ n → (∀ n', n ≤ n' + c + 1 → wM_sumOf n' 1 set (x + sumN (fun q => if isO set q = true then mst m s * wli w (8 * s + q) / 100 else 0) (wn w)) (nI (s + 1)) 0 g Q) → wM_sumOf n 2 set (x + sumN (fun q => if isO set q = true then mst m s * wli w (8 * s + q) / 100 else 0) j) (nI s) (nI j) g Q := by
    intro c
    induction c with
    | zero =>
      intro j s n x hc hj hs hn kk
      obtain ⟨n, rfl⟩ : ∃ n', n = n' + 1 := ⟨n - 1, by omega⟩
      rw [wM_sumOf]
      any_goals (intro h9; exact absurd h9 (by decide))
      have e : j = wn w := by omega
      subst e
      rw [h10, nI_1 s]
      exact br_t (nI_le (by omega) (by omega)) (kk n (by omega))
    | succ c ih =>
      intro j s n x hc hj hs hn kk
      obtain ⟨n, rfl⟩ : ∃ n', n = n' + 1 := ⟨n - 1, by omega⟩
      rw [wM_sumOf]
      any_goals (intro h9; exact absurd h9 (by decide))
      rw [h10, nI_1 j]
      have nx := ih (j + 1) s n x (by omega) (by omega) hs (by omega) (fun n' h => kk n' (by omega))
      refine br_f (nI_ge (by omega) (by omega)) ?_
      rw [isO_nt]
      refine ⟨fun h => ?_, fun h => ⟨vp_in_nI (by omega) (by decide), ?_⟩⟩
      · have e : sumN (fun q => if isO set q = true then mst m s * wli w (8 * s + q) / 100 else 0) (j + 1) = sumN (fun q => if isO set q = true then mst m s * wli w (8 * s + q) / 100 else 0) j + 0 := by
          show sumN _ j + (if isO set j = true then _ else 0) = _
          rw [if_neg h]
        rw [e, ← Int32.add_assoc] at nx; exact nx
      · have e8 : (8 : Int32) * nI s + nI j = nI (8 * s + j) := by
          show nI 8 * nI s + nI j = _
          rw [pk_mul, nI_add]
        rw [e8, nI_clamp (by omega), nI_clamp (by omega), h8, h13]
        refine ⟨vp_in_nI (by omega) (by decide), fun v hv => ?_⟩
        subst hv
        have e : sumN (fun q => if isO set q = true then mst m s * wli w (8 * s + q) / 100 else 0) (j + 1) = sumN (fun q => if isO set q = true then mst m s * wli w (8 * s + q) / 100 else 0) j + mst m s * wli w (8 * s + j) / 100 := by
          show sumN _ j + (if isO set j = true then _ else 0) = _
          rw [if_pos h]
        rw [e, ← Int32.add_assoc] at nx; exact nx
  have L : ∀ (c j n : Nat), wn w - j = c → j ≤ wn w → c * 12 + 1 ≤ n → wM_sumOf n 1 set (sumN (fun s => if isO set s = true then mst m s else sumN (fun q => if isO set q = true then mst m s * wli w (8 * s + q) / 100 else 0) (wn w)) j) (nI j) 0 g Q := by
    intro c
    induction c with
    | zero =>
      intro j n hc hj hn
      obtain ⟨n, rfl⟩ : ∃ n', n = n' + 1 := ⟨n - 1, by omega⟩
      rw [wM_sumOf]
      have e : j = wn w := by omega
      subst e
      rw [h10]
      exact br_t (nI_le (Nat.le_refl _) (by omega)) q
    | succ c ih =>
      intro j n hc hj hn
      obtain ⟨n, rfl⟩ : ∃ n', n = n' + 1 := ⟨n - 1, by omega⟩
      rw [wM_sumOf, h10, nI_1 j, isO_nt]
      have e : ∀ z, z = (if isO set j = true then mst m j else sumN (fun q => if isO set q = true then mst m j * wli w (8 * j + q) / 100 else 0) (wn w)) → sumN (fun s => if isO set s = true then mst m s else sumN (fun q => if isO set q = true then mst m s * wli w (8 * s + q) / 100 else 0) (wn w)) (j + 1) = sumN (fun s => if isO set s = true then mst m s else sumN (fun q => if isO set q = true then mst m s * wli w (8 * s + q) / 100 else 0) (wn w)) j + z := fun z hz => by rw [hz]; rfl
      refine br_f (nI_ge (by omega) (by omega)) ⟨fun h => ?_, fun h => ⟨vp_in_nI (by omega) (by decide), ?_⟩⟩
      · have e2 := e _ (by rw [if_neg h])
        have st := I (wn w) 0 j n (sumN (fun s => if isO set s = true then mst m s else sumN (fun q => if isO set q = true then mst m s * wli w (8 * s + q) / 100 else 0) (wn w)) j) rfl (Nat.zero_le _) (by omega) (by omega) (fun n' hn' => by
          have nx := ih (j + 1) n' (by omega) (by omega) (by omega)
          rw [e2] at nx; exact nx)
        have z : sumN (fun q => if isO set q = true then mst m j * wli w (8 * j + q) / 100 else 0) 0 = 0 := rfl
        rw [z, i_addz] at st; exact st
      · have nx := ih (j + 1) n (by omega) (by omega) (by omega)
        rw [e _ (by rw [if_pos h])] at nx
        rw [nI_clamp (by omega), h8]; exact nx
  refine ⟨wn w * 12 + 1 + 1, ?_⟩
  rw [wM_sumOf]
  exact L _ 0 _ rfl (Nat.zero_le _) (Nat.le_refl _)
/-- LOUD -/
def loudT (kd o : Int32) : Int32 := if kd = 1 then 30 else if kd = 3 then 15 else if kd = 4 then (if (29 : Int32) ≤ o / 4 then 1 else 30 - o / 4) else if kd = 5 then 5 else 20
theorem loud_b {o : Nat} (h : o < 2 ^ 31) : bounI ((20 + 10 : Int32) - nI o / 4) 1 (20 + 10) = if (29 : Int32) ≤ nI o / 4 then 1 else 30 - nI o / 4 := by
  have e : nI o / (4 : Int32) = nI (o / 4) := pk_div (d := 4) h (by decide) (by decide)
  rw [e]
  have e30 : (20 + 10 : Int32) = nI 30 := by decide
  have e29 : (29 : Int32) ≤ nI (o / 4) ↔ 29 ≤ o / 4 := nI_leI (a := 29) (by decide) (by omega)
  rw [e30]
  unfold bounI
  have t1 : (nI 30 - nI (o / 4)).toInt = 30 - ((o / 4 : Nat) : Int) := by
    rw [Int32.toInt_sub, nI_toInt (by decide), nI_toInt (by omega)]
    exact Int.bmod_eq_of_le (by omega) (by omega)
  by_cases h29 : 29 ≤ o / 4
  · rw [if_pos (e29.mpr h29)]
    by_cases h30 : 30 ≤ o / 4
    · rw [if_pos]
      rw [Int32.lt_iff_toInt_lt, t1]
      have : (1 : Int32).toInt = 1 := by decide
      omega
    · have : o / 4 = 29 := by omega
      rw [this]; decide
  · rw [if_neg (fun z => h29 (e29.mp z)), if_neg, if_neg]
    · rfl
    · rw [Int32.lt_iff_toInt_lt, t1]
      have : (nI 30).toInt = 30 := by decide
      omega
    · rw [Int32.lt_iff_toInt_lt, t1]
      have : (1 : Int32).toInt = 1 := by decide
      omega
theorem cLoud {Q : Int32 → KC → Prop} {s : Nat} (h3 : k.2.1 1 3 = wkd w) (h2 : k.2.1 i 2 = mon m) (hs : s < 8) (ho : ∃ j, j < 2 ^ 31 ∧ mon m s = nI j) (q : Q (loudT (wkd w s) (mon m s)) k) : wC_X0_loudOf i (nI s) k Q := by
  unfold wC_X0_loudOf
  rw [nI_clamp (by omega), h3, h2]
  unfold loudT at q
  refine ⟨vp_in_nI hs (by decide), fun e => ?_, fun e => ?_, fun e => ?_, fun e => ?_, fun e1 e3 e4 e5 => ?_⟩
  · rw [if_pos e] at q; exact q
  · rw [e] at q; exact q
  · rw [e] at q
    obtain ⟨j, hj, ej⟩ := ho
    refine ⟨vp_in_nI hs (by decide), cBounded ?_⟩
    rw [ej] at q
    rw [ej, loud_b hj]; exact q
  · rw [e] at q; exact q
  · rw [if_neg e1, if_neg e3, if_neg e4, if_neg e5] at q; exact q
theorem mLoud {Q : Int32 → GM → Prop} {s : Nat} (h3 : g.2.1 7 = wkd w) (h2 : g.2.1 9 = mon m) (hs : s < 8) (q : Q (loudT (wkd w s) (mon m s)) g) : wM_loudOf (nI s) g Q := by
  unfold wM_loudOf
  rw [nI_clamp (by omega), h3, h2]
  unfold loudT at q
  refine ⟨vp_in_nI hs (by decide), fun e => ?_, fun e => ?_, fun e => ?_, fun e => ?_, fun e1 e3 e4 e5 => ?_⟩
  · rw [if_pos e] at q; exact q
  · rw [e] at q; exact q
  · rw [e] at q
    refine ⟨vp_in_nI hs (by decide), fun z => ?_, fun z => ⟨vp_in_nI hs (by decide), ?_⟩⟩
    · have q2 : Q (if (29 : Int32) ≤ mon m s / 4 then 1 else 30 - mon m s / 4) g := q
      rw [if_pos z] at q2; exact q2
    · have q2 : Q (if (29 : Int32) ≤ mon m s / 4 then 1 else 30 - mon m s / 4) g := q
      rw [if_neg z] at q2; exact q2
  · rw [e] at q; exact q
  · rw [if_neg e1, if_neg e3, if_neg e4, if_neg e5] at q; exact q
/-- FADES -/
def fadT (kd v : Int32) : Int32 := if kd = 1 then v / 2 else if kd = 2 then (if (98 : Int32) ≤ v then 100 else v + 2) else if kd = 3 then v / 2 + 1 else if kd = 4 then v / 2 else if kd = 5 then 0 else v
theorem bounI_nI {x : Int32} {b : Nat} (hb : b < 2 ^ 31) : ∃ j, j ≤ b ∧ bounI x 0 (nI b) = nI j := by
  unfold bounI
  by_cases h : x < 0
  · rw [if_pos h]; exact ⟨0, by omega, rfl⟩
  · rw [if_neg h]
    by_cases h2 : nI b < x
    · rw [if_pos h2]; exact ⟨b, Nat.le_refl _, rfl⟩
    · rw [if_neg h2]
      obtain ⟨j, hj, e⟩ := nI_of2 (n := b) (nI_toInt hb) h ((i_nlt _ _).mp h2)
      exact ⟨j, hj, e⟩
theorem fad_b {v : Nat} (h : v ≤ 100) : bounI (nI v + 2) 0 100 = if (98 : Int32) ≤ nI v then 100 else nI v + 2 := by
  have e2 : nI v + (2 : Int32) = nI (v + 2) := nI_add v 2
  have e98 : (98 : Int32) ≤ nI v ↔ 98 ≤ v := nI_leI (a := 98) (by decide) (by omega)
  rw [e2]
  unfold bounI
  rw [if_neg (nI_pos (by omega))]
  have e100 : (100 : Int32) < nI (v + 2) ↔ 100 < v + 2 := nI_ltI (a := 100) (by decide) (by omega)
  by_cases h98 : 98 ≤ v
  · rw [if_pos (e98.mpr h98)]
    by_cases h3 : 100 < v + 2
    · rw [if_pos (e100.mpr h3)]
    · rw [if_neg (fun z => h3 (e100.mp z)), show v + 2 = 100 by omega]; rfl
  · rw [if_neg (fun z => h98 (e98.mp z)), if_neg (fun z => absurd (e100.mp z) (by omega))]
def fadV (w : Wd) (m : Md) (s : Nat) : Int32 := fadT (wkd w s) (bounI (evt (wcs w) 1 (mst m s) 0 0 (wkd w s) (mdy m) 0) 0 100)
theorem cFades {Q : Int32 → KC → Prop} {s : Nat} (hw : WOk w) (hk : WC w r k) (hm1 : k.2.1 i 1 = mst m) (hm7 : k.1 i 7 = mdy m) (hm10 : k.1 i 10 = nI r) (hi : i ≠ 1) (hs : s < 8) (q : ∀ k', FrC aNo sScr k k' → Q (fadV w m s) k') : wC_X0_fadesOf i (nI s) k Q := by
  unfold wC_X0_fadesOf
  refine cSays (w := 1) hk.2.2.2.2.2.1 hw.2.2.2 hm10 hk.2.2.2.2.2.2 hi (by decide) hs (fun k' f => cBounded ?_)
  rw [hm1, hk.2.1, hm7]
  have q := q k' f
  unfold fadV at q
  have h3 : k'.2.1 1 3 = wkd w := (f.2.1 1 3 rfl).trans hk.2.1
  generalize hv : bounI (evt (wcs w) 1 (mst m s) 0 0 (wkd w s) (mdy m) 0) 0 100 = v at *
  rw [nI_clamp (by omega), h3]
  unfold fadT at q
  refine ⟨vp_in_nI hs (by decide), fun e => ?_, fun e => ?_, fun e => ?_, fun e => ?_, fun e => ?_, fun e1 e2 e3 e4 e5 => ?_⟩
  · rw [e] at q; exact q
  · rw [e] at q
    obtain ⟨j, hj, ej⟩ := bounI_nI (x := evt (wcs w) 1 (mst m s) 0 0 (wkd w s) (mdy m) 0) (b := 100) (by decide)
    have ev : v = nI j := by rw [← hv]; exact ej
    subst ev
    refine cBounded ?_
    rw [fad_b hj]; exact q
  · rw [e] at q; exact q
  · rw [e] at q; exact q
  · rw [e] at q; exact q
  · rw [if_neg e1, if_neg e2, if_neg e3, if_neg e4, if_neg e5] at q; exact q
theorem mFades {Q : Int32 → GM → Prop} {s : Nat} (hk : WM w B N r g) (hm8 : g.2.1 8 = mst m) (hm15 : g.1 15 = mdy m) (hs : s < 8) (q : ∀ g', FrG sRd g g' → Q (fadV w m s) g') : wM_fadesOf (nI s) g Q := by
  unfold wM_fadesOf
  rw [hk.2.2.2.2.2.2.2]
  refine mRead (w := 1) hk.2.2.2.2.2.2.1 hk.2.2.2.2.2.1 (by decide) hs (fun g' f => mWithin ?_)
  rw [hm8, hk.2.1, hm15]
  have q := q g' f
  unfold fadV at q
  have h3 : g'.2.1 7 = wkd w := by rw [f.2]; exact hk.2.1
  generalize hv : bounI (evt (wcs w) 1 (mst m s) 0 0 (wkd w s) (mdy m) 0) 0 100 = v at *
  rw [nI_clamp (by omega), h3]
  unfold fadT at q
  refine ⟨vp_in_nI hs (by decide), fun e => ?_, fun e => ?_, fun e => ?_, fun e => ?_, fun e => ?_, fun e1 e2 e3 e4 e5 => ?_⟩
  · rw [e] at q; exact q
  · rw [e] at q
    have q2 : Q (if (98 : Int32) ≤ v then 100 else v + 2) g' := q
    refine ⟨fun z => ?_, fun z => ?_⟩
    · rw [if_pos z] at q2; exact q2
    · rw [if_neg z] at q2; exact q2
  · rw [e] at q; exact q
  · rw [e] at q; exact q
  · rw [e] at q; exact q
  · rw [if_neg e1, if_neg e2, if_neg e3, if_neg e4, if_neg e5] at q; exact q
/-- the least of a set -/
def lstT (set : Int32) : Nat := skp (fun s => decide (s < 7) && !isO set s) 7 0
theorem lst_N {set : Int32} : ∀ s, 7 ≤ s → (decide (s < 7) && !isO set s) = false := fun s h => by
  rw [decide_eq_false (Nat.not_lt.mpr h)]; rfl
theorem lst_le : lstT set ≤ 7 := skp_top _ 7 lst_N 7 0 (by omega)
theorem cLeast {Q : Int32 → KC → Prop} (q : Q (nI (lstT set)) k) : ∃ n, wC_leastOf n 0 set 0 k Q := by
  have L : ∀ (c j : Nat), 7 - j = c → j ≤ 7 → lstT set = skp (fun s => decide (s < 7) && !isO set s) 7 j → wC_leastOf (c + 1) 1 set (nI j) k Q := by
    intro c
    induction c with
    | zero =>
      intro j hc hj e
      rw [wC_leastOf]
      any_goals (intro h9; exact absurd h9 (by decide))
      have : j = 7 := by omega
      subst this
      rw [skp_halt _ _ (lst_N 7 (by omega))] at e
      rw [e] at q
      exact br_t (by decide) q
    | succ c ih =>
      intro j hc hj e
      rw [wC_leastOf]
      any_goals (intro h9; exact absurd h9 (by decide))
      refine br_f (nI_ge (a := j) (b := 7) (by omega) (by decide)) (cIsOn ?_)
      rw [nI_1]
      by_cases h : isO set j = true
      · rw [if_pos h]
        have hp : (decide (j < 7) && !isO set j) = false := by rw [h]; simp
        rw [skp_halt _ _ hp] at e
        rw [e] at q
        exact ⟨fun _ => q, fun z => absurd z n10⟩
      · rw [if_neg h]
        have hp : (decide (j < 7) && !isO set j) = true := by rw [Bool.eq_false_iff.mpr h, decide_eq_true (by omega)]; rfl
        exact ⟨fun z => absurd rfl z, fun _ => ih (j + 1) (by omega) (by omega) (by rw [e]; exact skp_step _ 7 lst_N hp)⟩
  refine ⟨7 - 0 + 1 + 1, ?_⟩
  rw [wC_leastOf]
  exact L _ 0 rfl (by omega) rfl
theorem mLeast {Q : Int32 → GM → Prop} (hs : ∃ s, s < 8 ∧ isO set s = true) (q : Q (nI (lstT set)) g) : ∃ n, wM_leastOf n 0 set 0 g Q := by
  obtain ⟨s0, hs0, ho⟩ := hs
  have L : ∀ (c j : Nat), 7 - j = c → j ≤ 7 → lstT set = skp (fun s => decide (s < 7) && !isO set s) 7 j → (∀ i, i < j → isO set i = false) → wM_leastOf (c + 1) 1 set (nI j) g Q := by
    intro c
    induction c with
    | zero =>
      intro j hc hj e hf
      rw [wM_leastOf]
      any_goals (intro h9; exact absurd h9 (by decide))
      have : j = 7 := by omega
      subst this
      rw [skp_halt _ _ (lst_N 7 (by omega))] at e
      rw [e] at q
      have h7 : isO set 7 = true := by
        rcases Nat.lt_or_ge s0 7 with z | z
        · rw [hf s0 z] at ho; exact absurd ho (by decide)
        · rw [show (7 : Nat) = s0 by omega]; exact ho
      exact ⟨fun _ => q, fun z => by rw [isO_f.mpr z] at h7; exact absurd h7 (by decide)⟩
    | succ c ih =>
      intro j hc hj e hf
      rw [wM_leastOf]
      any_goals (intro h9; exact absurd h9 (by decide))
      rw [nI_1]
      refine ⟨fun z => ?_, fun z => ?_⟩
      · have h : isO set j = true := by
          cases h : isO set j with
          | true => rfl
          | false => exact absurd (isO_f.mp h) z
        have hp : (decide (j < 7) && !isO set j) = false := by rw [h]; simp
        rw [skp_halt _ _ hp] at e
        rw [e] at q
        exact q
      · have h := isO_f.mpr z
        have hp : (decide (j < 7) && !isO set j) = true := by rw [h, decide_eq_true (by omega)]; rfl
        exact ih (j + 1) (by omega) (by omega) (by rw [e]; exact skp_step _ 7 lst_N hp) (lt_s hf h)
  refine ⟨7 - 0 + 1 + 1, ?_⟩
  rw [wM_leastOf]
  exact L _ 0 rfl (by omega) rfl (fun i hi => absurd hi (Nat.not_lt_zero i))
/-- DROPS -/
def drpV (w : Wd) (m : Md) (set : Int32) : Int32 := if set = 0 then 0 else bounI (evt (wcs w) 2 (mst m (lstT set)) (sumT (wn w) (mst m) (wli w) set) 0 (wkd w (lstT set)) (mdy m) 0 / 10) 0 99
theorem cDrops {Q : Int32 → KC → Prop} (hw : WOk w) (hk : WC w r k) (hm : MC i r m k) (hi : i ≠ 1) (q : ∀ k', FrC aNo sScr k k' → Q (drpV w m set) k') : wC_X0_dropsOf i set k Q := by
  have hl := lst_le (set := set)
  unfold wC_X0_dropsOf
  unfold drpV at q
  refine ⟨fun n0 => cLeast (cSum hw hk hm.1 (cSays (w := 2) hk.2.2.2.2.2.1 hw.2.2.2 hm.2.2.2.2.2 hk.2.2.2.2.2.2 hi (by decide) (by omega) (fun k' f => cBounded ?_))), fun y0 => ?_⟩
  · have q := q k' f
    rw [if_neg n0] at q
    rw [hm.1, hk.2.1, hm.2.2.1]; exact q
  · have q := q k FrC.rf
    rw [if_pos y0] at q; exact q
theorem mDrops {Q : Int32 → GM → Prop} (hw : WOk w) (hk : WM w B N r g) (hm : MM m g) (hs : set ≠ 0 → ∃ s, s < 8 ∧ isO set s = true) (q : ∀ g', FrG sRd g g' → Q (drpV w m set) g') : wM_dropsOf set g Q := by
  have hl := lst_le (set := set)
  unfold wM_dropsOf
  unfold drpV at q
  rw [hk.2.2.2.2.2.2.2]
  refine ⟨fun n0 => mLeast (hs n0) (mSum hw hk.1 hm.1 hk.2.2.2.2.1 (mRead (w := 2) hk.2.2.2.2.2.2.1 hk.2.2.2.2.2.1 (by decide) (by omega) (fun g' f => mWithin ?_))), fun y0 => ?_⟩
  · have q := q g' f
    rw [if_neg n0] at q
    rw [hm.1, hk.2.1, hm.2.2.1]; exact q
  · have q := q g FrG.rf
    rw [if_pos y0] at q; exact q
end Sums
