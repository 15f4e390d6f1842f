/-! ===== a TRIAL in the reference ===== -/
def FrH (S A : Nat → Bool) (g g' : GM) : Prop := (∀ j, S j = false → g'.1 j = g.1 j) ∧ ∀ j, A j = false → g'.2.1 j = g.2.1 j
theorem FrH.rf {S A : Nat → Bool} {g : GM} : FrH S A g g := ⟨fun _ _ => rfl, fun _ _ => rfl⟩
theorem FrH.tr {S A : Nat → Bool} {g g' g'' : GM} (h : FrH S A g g') (h2 : FrH S A g' g'') : FrH S A g g'' := ⟨fun j e => (h2.1 j e).trans (h.1 j e), fun j e => (h2.2 j e).trans (h.2 j e)⟩
theorem FrH.mono {S A S' A' : Nat → Bool} {g g' : GM} (h : FrH S A g g') (hS : ∀ j, S' j = false → S j = false) (hA : ∀ j, A' j = false → A j = false) : FrH S' A' g g' := ⟨fun j e => h.1 j (hS j e), fun j e => h.2 j (hA j e)⟩
theorem FrH.i_ {S A : Nat → Bool} {g g' : GM} {j : Nat} {v : Int32} (h : FrH S A g g') (hs : S j = true) : FrH S A g (sI g' j v) := by
  refine ⟨fun i e => ?_, h.2⟩
  show (bif Nat.beq i j then v else g'.1 i) = g.1 i
  cases hb : Nat.beq i j with
  | false => exact h.1 i e
  | true =>
    rw [Nat.eq_of_beq_eq_true hb, hs] at e
    exact absurd e (by decide)
theorem FrH.a_ {S A : Nat → Bool} {g g' : GM} {j : Nat} {f : Nat → Int32} (h : FrH S A g g') (hs : A j = true) : FrH S A g (sA g' j f) := by
  refine ⟨h.1, fun i e => ?_⟩
  show (bif Nat.beq i j then f else g'.2.1 i) = g.2.1 i
  cases hb : Nat.beq i j with
  | false => exact h.2 i e
  | true =>
    rw [Nat.eq_of_beq_eq_true hb, hs] at e
    exact absurd e (by decide)
/-- DAY, how many TRIALS, what reading writes -/
def sDy (j : Nat) : Bool := bor j 15 (bor j 16 (sRd j))
def aDy (j : Nat) : Bool := bor j 8 (bor j 9 (bor j 34 (bor j 35 (bor j 36 false))))
theorem sRd_Dy {j : Nat} (h : sDy j = false) : sRd j = false := (bor_f (bor_f h).2).2
theorem FrG.dy {g g' : GM} (h : FrG sRd g g') : FrH sDy aDy g g' := ⟨fun j e => h.1 j (sRd_Dy e), fun j _ => by rw [h.2]⟩
theorem WM.dy {w : Wd} {B : Nat → Nat} {N r : Nat} {g g' : GM} (h : WM w B N r g) (f : FrH sDy aDy g g') : WM w B N r g' := by
  obtain ⟨h1, h2, h3, h4, h5, ⟨h6, h7, h8⟩, h9, h10⟩ := h
  exact ⟨(f.1 10 rfl).trans h1, (f.2 7 rfl).trans h2, (f.2 11 rfl).trans h3, (f.2 12 rfl).trans h4, (f.2 13 rfl).trans h5, ⟨h6, by rw [f.2 2 rfl]; exact h7, by rw [f.2 1 rfl]; exact h8⟩, h9, (f.1 4 rfl).trans h10⟩
theorem isO_nf {set : Int32} {s : Nat} : (set >>> (nI s &&& 31)) &&& 1 = (0 : Int32) ↔ ¬ isO set s = true := by
  rw [Bool.not_eq_true]; exact isO_f.symm
section MTr
variable {w : Wd} {m : Md} {r u e N : Nat} {B : Nat → Nat} {g : GM} {set : Int32}
theorem mTrial {Q : Int32 → GM → Prop} (hw : WOk w) (hk : WM w B N r g) (hm : MM m g) (he : e < 4)
    (q : ∀ g', FrH sDy aDy g g' → MM (trM w m set e) g' → g'.2.1 35 = g.2.1 35 → g'.2.1 36 = g.2.1 36 → (∀ s, s < wn w → g'.2.1 34 s = if isO set s = true then gainV w m e (smV w m set) s else 0) → Q (wwo w e - smV w m set) g') : ∃ n, wM_tries n 0 set (nI e) 0 0 0 g Q := by
  have h8 := hw.1
  have L2 : ∀ (c j : Nat) (g2 : GM), wn w - j = c → j ≤ wn w → FrH sDy aDy g g2 → WM w B N r g2 →
      g2.2.1 8 = onU j set (mst m) (fun s => bounI (mst m s + gainV w m e (smV w m set) s) (-9999) 9999) → g2.2.1 9 = onU j set (mon m) (fun s => mon m s + 1) → g2.2.1 35 = g.2.1 35 → g2.2.1 36 = g.2.1 36 → (∀ s, s < wn w → g2.2.1 34 s = if isO set s = true then gainV w m e (smV w m set) s else 0) → g2.1 15 = mdy m → g2.1 16 = mtd m → g2.1 14 = mpc m →
      wM_tries (c + 1) 2 set 0 0 (wwo w e - smV w m set) (nI j) g2 Q := by
    intro c
    induction c with
    | zero =>
      intro j g2 hc hj f hk2 e1 e2 e3 e4 e5 e7 e8 e9
      rw [wM_tries]
      any_goals (intro h9; exact absurd h9 (by decide))
      have ej : j = wn w := by omega
      subst ej
      rw [hk2.1]
      exact br_t (nI_le (Nat.le_refl _) (by omega)) (q _ (f.i_ rfl) ⟨e1, e2, e7, by show g2.1 16 + 1 = _; rw [e8]; rfl, e9⟩ e3 e4 e5)
    | succ c ih =>
      intro j g2 hc hj f hk2 e1 e2 e3 e4 e5 e7 e8 e9
      rw [wM_tries]
      any_goals (intro h9; exact absurd h9 (by decide))
      rw [hk2.1, nI_1, nI_clamp (by omega), isO_nf]
      refine br_f (nI_ge (by omega) (by omega)) ⟨fun h => ⟨vp_in_nI (by omega) (by decide), vp_in_nI (by omega) (by decide), mWithin ⟨vp_in_nI (by omega) (by decide), vp_in_nI (by omega) (by decide), vp_in_nI (by omega) (by decide), ?_⟩⟩, fun h => ih (j + 1) g2 (by omega) (by omega) f hk2 (by rw [e1, onU_off h]) (by rw [e2, onU_off h]) e3 e4 e5 e7 e8 e9⟩
      have h : isO set j = true := Classical.byContradiction h
      have fz : FrH sDy aDy g2 (sA (sA g2 8 (upd (g2.2.1 8) j (bounI (g2.2.1 8 j + g2.2.1 34 j) (-9999) 9999))) 9 (upd (g2.2.1 9) j (g2.2.1 9 j + 1))) := (FrH.rf.a_ rfl).a_ rfl
      refine ih (j + 1) _ (by omega) (by omega) (f.tr fz) (hk2.dy fz) ?_ ?_ e3 e4 e5 e7 e8 e9
      · show upd (g2.2.1 8) j (bounI (g2.2.1 8 j + g2.2.1 34 j) (-9999) 9999) = _
        rw [e1, e5 j (by omega), if_pos h, onU_j]
        exact onU_on (h := fun s => bounI (mst m s + gainV w m e (smV w m set) s) (-9999) 9999) h
      · show upd (g2.2.1 9) j (g2.2.1 9 j + 1) = _
        rw [e2, onU_j]
        exact onU_on (h := fun s => mon m s + 1) h
  have L1 : ∀ (c j : Nat) (g1 : GM), wn w - j = c → j ≤ wn w → FrH sDy aDy g g1 → WM w B N r g1 → MM m g1 → g1.2.1 35 = g.2.1 35 → g1.2.1 36 = g.2.1 36 → (∀ s, s < j → g1.2.1 34 s = if isO set s = true then gainV w m e (smV w m set) s else 0) →
      wM_tries (c + (wn w + 2)) 1 set (nI e) (smV w m set) (wwo w e - smV w m set) (nI j) g1 Q := by
    intro c
    induction c with
    | zero =>
      intro j g1 hc hj f hk1 hm1 e3 e4 e5
      rw [show 0 + (wn w + 2) = wn w + 1 + 1 by omega, wM_tries]
      have ej : j = wn w := by omega
      subst ej
      rw [hk1.1]
      refine br_t (nI_le (Nat.le_refl _) (by omega)) ?_
      exact L2 (wn w - 0) 0 g1 rfl (Nat.zero_le _) f hk1 (by rw [onU_0]; exact hm1.1) (by rw [onU_0]; exact hm1.2.1) e3 e4 e5 hm1.2.2.1 hm1.2.2.2.1 hm1.2.2.2.2
    | succ c ih =>
      intro j g1 hc hj f hk1 hm1 e3 e4 e5
      rw [show c + 1 + (wn w + 2) = c + (wn w + 2) + 1 by omega, wM_tries, hk1.1, nI_1, nI_clamp (n := j) (by omega), nI_clamp (n := e) (by omega), isO_nf]
      have f0 : FrH sDy aDy g1 (sA g1 34 (upd (g1.2.1 34) j 0)) := FrH.rf.a_ rfl
      have hk0 := hk1.dy f0
      have hm0 : MM m (sA g1 34 (upd (g1.2.1 34) j 0)) := hm1
      refine br_f (nI_ge (by omega) (by omega)) ⟨vp_in_nI (by omega) (by decide), fun h => ⟨vp_in_nI he (by decide), ?_⟩, fun h => ih (j + 1) _ (by omega) (by omega) (f.tr f0) hk0 hm0 e3 e4 (fun s hs => ?_)⟩
      · have h : isO set j = true := Classical.byContradiction h
        rw [hk1.2.2.2.2.2.2.2, hk1.2.2.1, hm1.2.2.2.1]
        refine mRead (w := 0) hk0.2.2.2.2.2.2.1 hk0.2.2.2.2.2.1 (by decide) (by omega) (fun g2 f2 => mWithin ?_)
        have hk2 := hk0.fr f2
        have hm2 := hm0.fr f2
        refine mLoud hk2.2.1 hm2.2.1 (by omega) (fun v7 e7 => ?_)
        subst e7
        obtain ⟨c6, hc6, ec6⟩ := hw.2.1 j (by omega)
        rw [hm2.2.2.2.2, hk2.2.1, hk2.2.2.2.1]
        have ei : (4 : Int32) * wkd w j + nI e = wkd w j * 4 + nI e := by rw [Int32.mul_comm]
        have ei2 : wkd w j * 4 + nI e = nI (c6 * 4 + e) := by
          rw [ec6]
          show nI c6 * nI 4 + nI e = _
          rw [pk_mul, nI_add]
        rw [ei]
        refine ⟨vp_in_nI (by omega) (by decide), by rw [ei2]; exact vp_in_nI (by omega) (by decide), fun v8 e8 => ⟨vp_in_nI (by omega) (by decide), ?_⟩⟩
        subst e8
        have q8 : (sA g1 34 (upd (g1.2.1 34) j 0)).2.1 8 = mst m := hm1.1
        have q7 : (sA g1 34 (upd (g1.2.1 34) j 0)).2.1 7 = wkd w := hk1.2.1
        have q15 : (sA g1 34 (upd (g1.2.1 34) j 0)).1 15 = mdy m := hm1.2.2.1
        rw [q8, q7, q15]
        have fz : FrH sDy aDy g2 (sA g2 34 (upd (g2.2.1 34) j (gainV w m e (smV w m set) j))) := FrH.rf.a_ rfl
        have ar : g2.2.1 = (sA g1 34 (upd (g1.2.1 34) j 0)).2.1 := f2.2
        refine ih (j + 1) (sA g2 34 (upd (g2.2.1 34) j (gainV w m e (smV w m set) j))) (by omega) (by omega) (f.tr (f0.tr (f2.dy.tr fz))) (hk2.dy fz) hm2 ?_ ?_ (fun s hs => ?_)
        · show g2.2.1 35 = _
          rw [ar]; exact e3
        · show g2.2.1 36 = _
          rw [ar]; exact e4
        · show upd (g2.2.1 34) j _ s = _
          by_cases es : s = j
          · rw [es, pk_us, if_pos h]
          · rw [pk_un es, ar]
            show upd (g1.2.1 34) j 0 s = _
            rw [pk_un es]; exact e5 s (by omega)
      · show upd (g1.2.1 34) j 0 s = _
        by_cases es : s = j
        · rw [es, pk_us, if_neg h]
        · rw [pk_un es]; exact e5 s (by omega)
  refine ⟨wn w - 0 + (wn w + 2) + 1, ?_⟩
  rw [wM_tries]
  refine mSum hw hk.1 hm.1 hk.2.2.2.2.1 ⟨vp_in_nI he (by decide), ?_⟩
  rw [nI_clamp (by omega), hk.2.2.1]
  exact L1 _ 0 g rfl (Nat.zero_le _) FrH.rf hk hm rfl rfl (fun s hs => absurd hs (Nat.not_lt_zero s))
/-- what is counted of a TRIAL -/
theorem mCounts {Q : GM → Prop} (hw : WOk w) (h10 : g.1 10 = nI (wn w)) (he : e < 4) (q : Q (sA (sA g 35 (upd (g.2.1 35) e (g.2.1 35 e + 1))) 36 (trE (wn w) set e (g.2.1 36)))) : ∃ n, wM_counts n 0 set (nI e) 0 g Q := by
  have h8 := hw.1
  have bit : ∀ j, (set >>> (nI j &&& 31)) &&& (1 : Int32) = if isO set j = true then 1 else 0 := fun j => by
    by_cases h : isO set j = true
    · rw [if_pos h]; exact isO_t.mp h
    · rw [if_neg h]; exact isO_nf.mpr h
  have L : ∀ (c j : Nat) (g1 : GM), wn w - j = c → j ≤ wn w → g1 = sA (sA g 35 (upd (g.2.1 35) e (g.2.1 35 e + 1))) 36 (trE j set e (g.2.1 36)) → wM_counts (c + 1) 1 set (nI e) (nI j) g1 Q := by
    intro c
    induction c with
    | zero =>
      intro j g1 hc hj e1
      rw [wM_counts]
      any_goals (intro h9; exact absurd h9 (by decide))
      have ej : j = wn w := by omega
      subst ej
      rw [e1]
      have h10' : (sA (sA g 35 (upd (g.2.1 35) e (g.2.1 35 e + 1))) 36 (trE (wn w) set e (g.2.1 36))).1 10 = nI (wn w) := h10
      rw [h10']
      exact br_t (nI_le (Nat.le_refl _) (by omega)) q
    | succ c ih =>
      intro j g1 hc hj e1
      rw [wM_counts]
      any_goals (intro h9; exact absurd h9 (by decide))
      have h10' : g1.1 10 = nI (wn w) := by rw [e1]; exact h10
      have h36 : g1.2.1 36 = trE j set e (g.2.1 36) := by rw [e1]; rfl
      have ei : (4 : Int32) * nI j + nI e = nI (4 * j + e) := by
        show nI 4 * nI j + nI e = _
        rw [pk_mul, nI_add]
      rw [h10', nI_1, ei, nI_clamp (by omega), h36, trE_j he, bit]
      refine br_f (nI_ge (by omega) (by omega)) ⟨vp_in_nI (by omega) (by decide), vp_in_nI (by omega) (by decide), ih (j + 1) _ (by omega) (by omega) ?_⟩
      rw [e1]
      have two : ∀ (a b : Nat → Int32), a = b → sA (sA (sA g 35 (upd (g.2.1 35) e (g.2.1 35 e + 1))) 36 (trE j set e (g.2.1 36))) 36 a = sA (sA g 35 (upd (g.2.1 35) e (g.2.1 35 e + 1))) 36 b := fun a b hab => by
        subst hab
        show (_, _, _) = (_, _, _)
        refine Prod.ext rfl (Prod.ext ?_ rfl)
        funext x
        show (bif Nat.beq x 36 then a else (bif Nat.beq x 36 then _ else _)) = (bif Nat.beq x 36 then a else _)
        cases Nat.beq x 36 <;> rfl
      refine two _ _ ?_
      by_cases h : isO set j = true
      · rw [if_pos h]; exact trE_on he h
      · rw [if_neg h, i_addz, trE_off h]
        funext x
        show (if x = 4 * j + e then g.2.1 36 (4 * j + e) else trE j set e (g.2.1 36) x) = _
        by_cases ex : x = 4 * j + e
        · rw [if_pos ex, ex, trE_j he]
        · rw [if_neg ex]
  refine ⟨wn w - 0 + 1 + 1, ?_⟩
  rw [wM_counts, nI_clamp (by omega)]
  refine ⟨vp_in_nI he (by decide), vp_in_nI he (by decide), L _ 0 _ rfl (Nat.zero_le _) ?_⟩
  rw [trE_0]
  refine Prod.ext rfl (Prod.ext ?_ rfl)
  funext x
  show (bif Nat.beq x 35 then _ else g.2.1 x) = (bif Nat.beq x 36 then g.2.1 36 else (bif Nat.beq x 35 then _ else g.2.1 x))
  cases h36 : Nat.beq x 36 with
  | false => rfl
  | true =>
    have := Nat.eq_of_beq_eq_true h36
    subst this
    rfl
end MTr
