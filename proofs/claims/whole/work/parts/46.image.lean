/-! ===== image, back ===== -/
section Im
variable {t n nt np nw N : Nat} {k k' : KC} {g g' : GM}
def sGC (x y : Nat) : Bool := Nat.beq x 3 || (Nat.beq x 0 && Nat.beq y 9)
def aGC (x _ : Nat) : Bool := Nat.beq x 3
def sGM (j : Nat) : Bool := bor j 55 (bor j 56 (bor j 57 (bor j 58 (bor j 59 (bor j 60 false)))))
def aGM (j : Nat) : Bool := bor j 51 (bor j 52 (bor j 53 (bor j 54 false)))
theorem ShR.eq2 {s : Nat} (h : ShR k g s) (e0 : k'.1 (9 + s) 0 = k.1 (9 + s) 0) (e1 : k'.1 (9 + s) 1 = k.1 (9 + s) 1) (e2 : k'.2.1 (9 + s) 2 = k.2.1 (9 + s) 2) (r1 : g'.2.1 61 = g.2.1 61) (r2 : g'.2.1 62 = g.2.1 62) (r3 : g'.2.1 63 = g.2.1 63) (r4 : g'.2.1 64 = g.2.1 64) : ShR k' g' s := by
  unfold ShR at h ⊢
  rw [e0, e1, e2, r1, r2, r3, r4]; exact h
theorem RelA.img (h : RelA t n nt np nw N k g) (f : FrC sGC aGC k k') (fg : FrH sGM aGM g g') (hi : RI t n nt k' g') : RelA t n nt np nw N k' g' := by
  obtain ⟨⟨w1, w2, w3, w4, w5, w6, w7, w8, w9⟩, ⟨t1, t2, t3, t4⟩, ⟨p1, p2, p3, p4⟩, ⟨m1, m2, m3, m4, m5, m6, m7, m8⟩, ⟨b1, b2, b3, b4⟩, _, ⟨v1, v2, v3, v4⟩, hs, ⟨c1, c2, c3, c4⟩, hd0⟩ := h
  have hpr : k'.2.2.2.2.1 = k.2.2.2.2.1 := congrArg (fun z => z.2.2.1) f.2.2
  refine ⟨⟨w1, (f.1 1 0 rfl).trans w2, (fg.1 10 rfl).trans w3, (f.2.1 1 3 rfl).trans (w4.trans (fg.2 7 rfl).symm), (f.2.1 1 4 rfl).trans (w5.trans (fg.2 11 rfl).symm), (f.2.1 1 5 rfl).trans (w6.trans (fg.2 12 rfl).symm), (f.2.1 1 6 rfl).trans (w7.trans (fg.2 13 rfl).symm), by rw [fg.2 7 rfl]; exact w8, by rw [fg.2 13 rfl]; exact w9⟩, ⟨t1, (f.1 1 1 rfl).trans t2, (fg.1 3 rfl).trans t3, fun x hx => ?_⟩, ⟨p1, (f.1 1 2 rfl).trans p2, (fg.1 33 rfl).trans p3, fun x hx => ?_⟩, ⟨(f.2.1 2 1 rfl).trans (m1.trans (fg.2 8 rfl).symm), (f.2.1 2 2 rfl).trans (m2.trans (fg.2 9 rfl).symm), (f.1 2 7 rfl).trans (m3.trans (fg.1 15 rfl).symm), (f.1 2 8 rfl).trans (m4.trans (fg.1 16 rfl).symm), (f.1 2 9 rfl).trans (m5.trans (fg.1 14 rfl).symm), (f.1 2 10 rfl).trans (m6.trans (fg.1 4 rfl).symm), (f.2.1 2 3 rfl).trans (m7.trans (fg.2 36 rfl).symm), (f.2.1 2 4 rfl).trans (m8.trans (fg.2 35 rfl).symm)⟩, ⟨by rw [fg.1 4 rfl]; exact b1, by rw [fg.2 8 rfl, fg.2 9 rfl]; exact b2, by rw [fg.1 15 rfl]; exact b3, by rw [fg.2 9 rfl, fg.2 36 rfl, fg.2 35 rfl]; exact b4⟩, hi, ⟨v1, (f.1 8 3 rfl).trans v2, (fg.1 46 rfl).trans v3, fun i hi => ?_⟩, fun s h4 => ?_, ⟨c1, (f.1 5 1 rfl).trans c2, (fg.1 6 rfl).trans c3, fun i hi => ?_⟩, fun s hs => by rw [f.2.1 4 1 rfl, f.2.1 4 2 rfl]; exact hd0 s hs⟩
  · obtain ⟨B, M, cs, a1, a2, ⟨x1, x2, x3⟩, a4⟩ := t4 x hx
    exact ⟨B, M, cs, a1.z f, a2, ⟨x1, by rw [fg.2 2 rfl]; exact x2, by rw [fg.2 1 rfl]; exact x3⟩, a4⟩
  · obtain ⟨d, p, a1, a2, x1, x2, x3, x4⟩ := p4 x hx
    exact ⟨d, p, by rw [hpr]; exact a1, a2.fr f, x1, by rw [fg.2 30 rfl]; exact x2, x3, by rw [fg.2 31 rfl, fg.2 32 rfl]; exact x4⟩
  · rw [f.2.1 8 0 rfl, f.2.1 8 1 rfl, f.2.1 8 2 rfl, fg.2 43 rfl, fg.2 44 rfl, fg.2 45 rfl]; exact v4 i hi
  · exact (hs s h4).eq2 (f.1 (9 + s) 0 (co_4 (P := fun s => sGC (9 + s) 0 = false) rfl rfl rfl rfl h4)) (f.1 (9 + s) 1 (co_4 (P := fun s => sGC (9 + s) 1 = false) rfl rfl rfl rfl h4)) (f.2.1 (9 + s) 2 (co_4 (P := fun s => aGC (9 + s) 2 = false) rfl rfl rfl rfl h4)) (fg.2 61 rfl) (fg.2 62 rfl) (fg.2 63 rfl) (fg.2 64 rfl)
  · rw [f.2.1 5 0 rfl, fg.2 5 rfl]; exact c4 i hi
theorem mImage {Q : Int32 → GM → Prop} (hn : n ≤ 8) (h10 : g.1 10 = nI n) (q : ∀ g', FrH sGM aGM g g' → g'.1 55 = 1 → g'.1 56 = nI n → g'.1 57 = g.1 15 → g'.1 58 = g.1 16 → g'.1 59 = g.1 14 → g'.1 60 = g.1 4 → (∀ s, s < n → g'.2.1 51 s = g.2.1 8 s ∧ g'.2.1 52 s = g.2.1 9 s) → (∀ e, e < 4 → g'.2.1 53 e = g.2.1 35 e) → (∀ x, x < 32 → g'.2.1 54 x = g.2.1 36 x) → Q (g.1 15) g') : ∃ x, wM_image x 0 0 g Q := by
  -- the scalars
  have S0 : ∀ g1, (FrH sGM aGM g g1 → g1.1 55 = 1 → g1.1 56 = nI n → g1.1 57 = g.1 15 → g1.1 58 = g.1 16 → g1.1 59 = g.1 14 → g1.1 60 = g.1 4 → (∀ s, s < n → g1.2.1 51 s = g.2.1 8 s ∧ g1.2.1 52 s = g.2.1 9 s) → (∀ e, e < 4 → g1.2.1 53 e = g.2.1 35 e) → (∀ x, x < 32 → g1.2.1 54 x = g.2.1 36 x) → Q (g.1 15) g1) := fun g1 => q g1
  have L3 : ∀ (c j : Nat) (g1 : GM), 32 - j = c → j ≤ 32 → FrH sGM aGM g g1 → g1.1 55 = 1 → g1.1 56 = nI n → g1.1 57 = g.1 15 → g1.1 58 = g.1 16 → g1.1 59 = g.1 14 → g1.1 60 = g.1 4 → (∀ s, s < n → g1.2.1 51 s = g.2.1 8 s ∧ g1.2.1 52 s = g.2.1 9 s) → (∀ e, e < 4 → g1.2.1 53 e = g.2.1 35 e) → (∀ x, x < j → g1.2.1 54 x = g.2.1 36 x) → wM_image (c + 1) 3 (nI j) g1 Q := by
    intro c
    induction c with
    | zero =>
      intro j g1 hc hj f a1 a2 a3 a4 a5 a6 a7 a8 a9
      have ej : j = 32 := by omega
      subst ej
      rw [wM_image]
      any_goals (intro h9; exact absurd h9 (by decide))
      rw [f.1 15 rfl]
      exact br_t (by decide) (q g1 f a1 a2 a3 a4 a5 a6 a7 a8 a9)
    | succ c ih =>
      intro j g1 hc hj f a1 a2 a3 a4 a5 a6 a7 a8 a9
      rw [wM_image]
      any_goals (intro h9; exact absurd h9 (by decide))
      have hin : vp_in (nI j) 32 := vp_in_nI (by omega) (by decide)
      rw [nI_1, nI_clamp (by omega)]
      refine br_f (nI_ge (a := j) (b := 32) (by omega) (by decide)) ⟨hin, hin, ih (j + 1) _ (by omega) (by omega) (f.a_ rfl) a1 a2 a3 a4 a5 a6 a7 a8 (fun x hx => ?_)⟩
      show upd (g1.2.1 54) j (g1.2.1 36 j) x = _
      by_cases ex : x = j
      · rw [ex, pk_us, f.2 36 rfl]
      · rw [pk_un ex]; exact a9 x (by omega)
  have L2 : ∀ (c j : Nat) (g1 : GM), 4 - j = c → j ≤ 4 → FrH sGM aGM g g1 → g1.1 55 = 1 → g1.1 56 = nI n → g1.1 57 = g.1 15 → g1.1 58 = g.1 16 → g1.1 59 = g.1 14 → g1.1 60 = g.1 4 → (∀ s, s < n → g1.2.1 51 s = g.2.1 8 s ∧ g1.2.1 52 s = g.2.1 9 s) → (∀ e, e < j → g1.2.1 53 e = g.2.1 35 e) → wM_image (c + 34) 2 (nI j) g1 Q := by
    intro c
    induction c with
    | zero =>
      intro j g1 hc hj f a1 a2 a3 a4 a5 a6 a7 a8
      have ej : j = 4 := by omega
      subst ej
      rw [show 0 + 34 = 33 + 1 by omega, wM_image]
      exact br_t (by decide) (L3 32 0 g1 rfl (by omega) f a1 a2 a3 a4 a5 a6 a7 a8 (fun x hx => absurd hx (Nat.not_lt_zero x)))
    | succ c ih =>
      intro j g1 hc hj f a1 a2 a3 a4 a5 a6 a7 a8
      rw [show c + 1 + 34 = c + 34 + 1 by omega, wM_image]
      have hin : vp_in (nI j) 4 := vp_in_nI (by omega) (by decide)
      rw [nI_1, nI_clamp (by omega)]
      refine br_f (nI_ge (a := j) (b := 4) (by omega) (by decide)) ⟨hin, hin, ih (j + 1) _ (by omega) (by omega) (f.a_ rfl) a1 a2 a3 a4 a5 a6 a7 (fun x hx => ?_)⟩
      show upd (g1.2.1 53) j (g1.2.1 35 j) x = _
      by_cases ex : x = j
      · rw [ex, pk_us, f.2 35 rfl]
      · rw [pk_un ex]; exact a8 x (by omega)
  have L1 : ∀ (c j : Nat) (g1 : GM), n - j = c → j ≤ n → FrH sGM aGM g g1 → g1.1 55 = 1 → g1.1 56 = nI n → g1.1 57 = g.1 15 → g1.1 58 = g.1 16 → g1.1 59 = g.1 14 → g1.1 60 = g.1 4 → (∀ s, s < j → g1.2.1 51 s = g.2.1 8 s ∧ g1.2.1 52 s = g.2.1 9 s) → wM_image (c + 39) 1 (nI j) g1 Q := by
    intro c
    induction c with
    | zero =>
      intro j g1 hc hj f a1 a2 a3 a4 a5 a6 a7
      have ej : j = n := by omega
      subst ej
      rw [show 0 + 39 = 38 + 1 by omega, wM_image, f.1 10 rfl, h10]
      exact br_t (nI_le (Nat.le_refl _) (by omega)) (L2 4 0 g1 rfl (by omega) f a1 a2 a3 a4 a5 a6 a7 (fun x hx => absurd hx (Nat.not_lt_zero x)))
    | succ c ih =>
      intro j g1 hc hj f a1 a2 a3 a4 a5 a6 a7
      rw [show c + 1 + 39 = c + 39 + 1 by omega, wM_image, f.1 10 rfl, h10]
      have hin : vp_in (nI j) 8 := vp_in_nI (by omega) (by decide)
      rw [nI_1, nI_clamp (by omega)]
      refine br_f (nI_ge (by omega) (by omega)) ⟨hin, hin, hin, hin, ih (j + 1) _ (by omega) (by omega) ((f.a_ rfl).a_ rfl) a1 a2 a3 a4 a5 a6 (fun s hs => ?_)⟩
      show upd (g1.2.1 51) j (g1.2.1 8 j) s = _ ∧ upd (g1.2.1 52) j (g1.2.1 9 j) s = _
      by_cases ex : s = j
      · rw [ex, pk_us, pk_us, f.2 8 rfl, f.2 9 rfl]; exact ⟨rfl, rfl⟩
      · rw [pk_un ex, pk_un ex]; exact a7 s (by omega)
  refine ⟨n - 0 + 39 + 1, ?_⟩
  rw [wM_image]
  exact L1 _ 0 _ rfl (Nat.zero_le _) ((((((FrH.rf.i_ rfl).i_ rfl).i_ rfl).i_ rfl).i_ rfl).i_ rfl) rfl h10 rfl rfl rfl rfl (fun s hs => absurd hs (Nat.not_lt_zero s))
theorem op_image (h : Rel t k g) : wC_image k (fun r k' => ∃ y, wM_image y 0 0 g (fun r' g' => r = r' ∧ Rel (t + 1) k' g')) := by
  obtain ⟨n, nt, np, nw, N, h⟩ := h
  have hu := h.up
  obtain ⟨m1, m2, m3, m4, m5, m6, m7, m8⟩ := h.2.2.2.1
  obtain ⟨b1, b2, b3, b4⟩ := hu.2.2.2.2.1
  unfold wC_image wC_X0_becomeLike
  refine ⟨by unfold cpOk; decide, by unfold cpOk; decide, by unfold cpOk; decide, by unfold cpOk; decide, mImage h.1.1 h.1.2.2.1 (fun g' f a1 a2 a3 a4 a5 a6 a7 a8 a9 => ?_)⟩
  refine ⟨m3, n, nt, np, nw, N, ?_⟩
  have r1 : va_cpy (k.2.1 2 1) (k.2.1 3 1) 0 0 8 = cpU 8 (g.2.1 8) (k.2.1 3 1) := by rw [cpy8, m1]
  have r2 : va_cpy (k.2.1 2 2) (k.2.1 3 2) 0 0 8 = cpU 8 (g.2.1 9) (k.2.1 3 2) := by rw [cpy8, m2]
  have r3 : va_cpy (k.2.1 2 3) (k.2.1 3 3) 0 0 32 = cpU 32 (g.2.1 36) (k.2.1 3 3) := by rw [cpy8, m7]
  have r4 : va_cpy (k.2.1 2 4) (k.2.1 3 4) 0 0 4 = cpU 4 (g.2.1 35) (k.2.1 3 4) := by rw [cpy8, m8]
  have hn := h.1.1
  refine hu.img ((((((((((FrC.rf.a_ rfl).a_ rfl).a_ rfl).a_ rfl).i_ rfl).i_ rfl).i_ rfl).i_ rfl)).i_ rfl) f (Or.inr ⟨n, Nat.le_refl n, h.1.2.1, a1, a2, fun s hs => ?_, fun s hs1 hs2 => ?_, fun x hx => ?_, fun e he => ?_, ?_, ?_, ?_, ?_, ?_, ?_, ?_⟩)
  · show va_cpy (k.2.1 2 1) (k.2.1 3 1) 0 0 8 s = _ ∧ va_cpy (k.2.1 2 2) (k.2.1 3 2) 0 0 8 s = _
    rw [r1, r2, cpU_in (by omega), cpU_in (by omega), (a7 s hs).1, (a7 s hs).2]; exact ⟨rfl, rfl⟩
  · show va_cpy (k.2.1 2 2) (k.2.1 3 2) 0 0 8 s = _
    rw [r2, cpU_in hs2]; exact (b2 s hs1).2
  · show va_cpy (k.2.1 2 3) (k.2.1 3 3) 0 0 32 x = _
    rw [r3, cpU_in hx, a9 x hx]
  · show va_cpy (k.2.1 2 4) (k.2.1 3 4) 0 0 4 e = _
    rw [r4, cpU_in he, a8 e he]
  · rw [a3]; exact m3
  · rw [a4]; exact m4
  · rw [a5]; exact m5
  · rw [a6]; exact m6
  · rw [a6]; exact b1
  · rw [a3]; exact b3
  · show Cnt _ (va_cpy (k.2.1 2 2) (k.2.1 3 2) 0 0 8) (va_cpy (k.2.1 2 3) (k.2.1 3 3) 0 0 32) (va_cpy (k.2.1 2 4) (k.2.1 3 4) 0 0 4)
    rw [r2, r3, r4]
    exact b4.congr (fun s hs => cpU_in hs) (fun x hx => cpU_in hx) (fun e he => cpU_in he)
/-! ## back -/
def sBk (j : Nat) : Bool := bor j 14 (bor j 15 (bor j 16 (bor j 4 false)))
def aBk (j : Nat) : Bool := bor j 8 (bor j 9 (bor j 35 (bor j 36 false)))
theorem RelA.now (h : RelA t n nt np nw N k g) (f : FrC (oMd 2) (aMd 2) k k') (fg : FrH sBk aBk g g') (ha : RMa k' g') (hb : RMb t n nt g') : RelA t n nt np nw N k' g' := by
  obtain ⟨⟨w1, w2, w3, w4, w5, w6, w7, w8, w9⟩, ⟨t1, t2, t3, t4⟩, ⟨p1, p2, p3, p4⟩, _, _, hi, ⟨v1, v2, v3, v4⟩, hs, ⟨c1, c2, c3, c4⟩, hd0⟩ := h
  have hpr : k'.2.2.2.2.1 = k.2.2.2.2.1 := congrArg (fun z => z.2.2.1) f.2.2
  refine ⟨⟨w1, (f.1 1 0 rfl).trans w2, (fg.1 10 rfl).trans w3, (f.2.1 1 3 rfl).trans (w4.trans (fg.2 7 rfl).symm), (f.2.1 1 4 rfl).trans (w5.trans (fg.2 11 rfl).symm), (f.2.1 1 5 rfl).trans (w6.trans (fg.2 12 rfl).symm), (f.2.1 1 6 rfl).trans (w7.trans (fg.2 13 rfl).symm), by rw [fg.2 7 rfl]; exact w8, by rw [fg.2 13 rfl]; exact w9⟩, ⟨t1, (f.1 1 1 rfl).trans t2, (fg.1 3 rfl).trans t3, fun x hx => ?_⟩, ⟨p1, (f.1 1 2 rfl).trans p2, (fg.1 33 rfl).trans p3, fun x hx => ?_⟩, ha, hb, ?_, ⟨v1, (f.1 8 3 rfl).trans v2, (fg.1 46 rfl).trans v3, fun i hi => ?_⟩, fun s h4 => ?_, ⟨c1, (f.1 5 1 rfl).trans c2, (fg.1 6 rfl).trans c3, fun i hi => ?_⟩, fun s hs => by rw [f.2.1 4 1 rfl, f.2.1 4 2 rfl]; exact hd0 s hs⟩
  · obtain ⟨B, M, cs, a1, a2, ⟨x1, x2, x3⟩, a4⟩ := t4 x hx
    exact ⟨B, M, cs, a1.z f, a2, ⟨x1, by rw [fg.2 2 rfl]; exact x2, by rw [fg.2 1 rfl]; exact x3⟩, a4⟩
  · obtain ⟨d, p, a1, a2, x1, x2, x3, x4⟩ := p4 x hx
    exact ⟨d, p, by rw [hpr]; exact a1, a2.fr f, x1, by rw [fg.2 30 rfl]; exact x2, x3, by rw [fg.2 31 rfl, fg.2 32 rfl]; exact x4⟩
  · unfold RI
    rw [f.1 0 9 rfl, f.2.1 3 1 rfl, f.2.1 3 2 rfl, f.2.1 3 3 rfl, f.2.1 3 4 rfl, f.1 3 7 rfl, f.1 3 8 rfl, f.1 3 9 rfl, f.1 3 10 rfl, fg.1 55 rfl, fg.1 56 rfl, fg.2 51 rfl, fg.2 52 rfl, fg.2 54 rfl, fg.2 53 rfl, fg.1 57 rfl, fg.1 58 rfl, fg.1 59 rfl, fg.1 60 rfl]
    exact hi
  · rw [f.2.1 8 0 rfl, f.2.1 8 1 rfl, f.2.1 8 2 rfl, fg.2 43 rfl, fg.2 44 rfl, fg.2 45 rfl]; exact v4 i hi
  · exact (hs s h4).eq2 (f.1 (9 + s) 0 (co_4 (P := fun s => oMd 2 (9 + s) 0 = false) rfl rfl rfl rfl h4)) (f.1 (9 + s) 1 (co_4 (P := fun s => oMd 2 (9 + s) 1 = false) rfl rfl rfl rfl h4)) (f.2.1 (9 + s) 2 (co_4 (P := fun s => aMd 2 (9 + s) 2 = false) rfl rfl rfl rfl h4)) (fg.2 61 rfl) (fg.2 62 rfl) (fg.2 63 rfl) (fg.2 64 rfl)
  · rw [f.2.1 5 0 rfl, fg.2 5 rfl]; exact c4 i hi
/-- cells from i on to n are 0 -/
def zrU (a b : Nat) (f : Nat → Int32) : Nat → Int32 := fun s => if a ≤ s ∧ s < b then 0 else f s
theorem zrU_0 {a : Nat} {f : Nat → Int32} : zrU a a f = f := by
  funext s
  exact if_neg (fun z => by omega)
theorem zrU_s {a b : Nat} {f : Nat → Int32} (h : a ≤ b) : upd (zrU a b f) b 0 = zrU a (b + 1) f := by
  funext s
  show (if s = b then (0 : Int32) else if a ≤ s ∧ s < b then 0 else f s) = if a ≤ s ∧ s < b + 1 then 0 else f s
  by_cases e : s = b
  · rw [if_pos e, if_pos (by omega)]
  · rw [if_neg e]
    by_cases c : a ≤ s ∧ s < b
    · rw [if_pos c, if_pos (by omega)]
    · rw [if_neg c, if_neg (by omega)]
theorem mBackI {ni : Nat} {Q : Int32 → GM → Prop} (hn : n ≤ 8) (hni : ni ≤ n) (h10 : g.1 10 = nI n) (h55 : g.1 55 = 1) (h56 : g.1 56 = nI ni) (q : ∀ g', FrH sBk aBk g g' → g'.1 15 = g.1 57 → g'.1 16 = g.1 58 → g'.1 14 = g.1 59 → g'.1 4 = g.1 60 → g'.2.1 8 = cpU ni (g.2.1 51) (g.2.1 8) → g'.2.1 9 = zrU ni n (cpU ni (g.2.1 52) (g.2.1 9)) → g'.2.1 35 = cpU 4 (g.2.1 53) (g.2.1 35) → g'.2.1 36 = cpU 32 (g.2.1 54) (g.2.1 36) → Q (g.1 57) g') : ∃ x, wM_back x 0 0 g Q := by
  have L4 : ∀ (c j : Nat) (g1 : GM), 32 - j = c → j ≤ 32 → FrH sBk aBk g g1 → g1.1 15 = g.1 57 → g1.1 16 = g.1 58 → g1.1 14 = g.1 59 → g1.1 4 = g.1 60 → g1.2.1 8 = cpU ni (g.2.1 51) (g.2.1 8) → g1.2.1 9 = zrU ni n (cpU ni (g.2.1 52) (g.2.1 9)) → g1.2.1 35 = cpU 4 (g.2.1 53) (g.2.1 35) → g1.2.1 36 = cpU j (g.2.1 54) (g.2.1 36) → wM_back (c + 1) 4 (nI j) g1 Q := by
    intro c
    induction c with
    | zero =>
      intro j g1 hc hj f a1 a2 a3 a4 a5 a6 a7 a8
      have ej : j = 32 := by omega
      subst ej
      rw [wM_back]
      any_goals (intro h9; exact absurd h9 (by decide))
      rw [a1]
      exact br_t (by decide) (q g1 f a1 a2 a3 a4 a5 a6 a7 a8)
    | succ c ih =>
      intro j g1 hc hj f a1 a2 a3 a4 a5 a6 a7 a8
      rw [wM_back]
      any_goals (intro h9; exact absurd h9 (by decide))
      have hin : vp_in (nI j) 32 := vp_in_nI (by omega) (by decide)
      rw [nI_1, nI_clamp (by omega), f.2 54 rfl, a8, cpU_s]
      exact br_f (nI_ge (a := j) (b := 32) (by omega) (by decide)) ⟨hin, hin, ih (j + 1) _ (by omega) (by omega) (f.a_ rfl) a1 a2 a3 a4 a5 a6 a7 rfl⟩
  have L3 : ∀ (c j : Nat) (g1 : GM), 4 - j = c → j ≤ 4 → FrH sBk aBk g g1 → g1.1 15 = g.1 57 → g1.1 16 = g.1 58 → g1.1 14 = g.1 59 → g1.1 4 = g.1 60 → g1.2.1 8 = cpU ni (g.2.1 51) (g.2.1 8) → g1.2.1 9 = zrU ni n (cpU ni (g.2.1 52) (g.2.1 9)) → g1.2.1 35 = cpU j (g.2.1 53) (g.2.1 35) → g1.2.1 36 = g.2.1 36 → wM_back (c + 34) 3 (nI j) g1 Q := by
    intro c
    induction c with
    | zero =>
      intro j g1 hc hj f a1 a2 a3 a4 a5 a6 a7 a8
      have ej : j = 4 := by omega
      subst ej
      rw [show 0 + 34 = 33 + 1 by omega, wM_back]
      exact br_t (by decide) (L4 32 0 g1 rfl (by omega) f a1 a2 a3 a4 a5 a6 a7 (by rw [cpU_0]; exact a8))
    | succ c ih =>
      intro j g1 hc hj f a1 a2 a3 a4 a5 a6 a7 a8
      rw [show c + 1 + 34 = c + 34 + 1 by omega, wM_back]
      have hin : vp_in (nI j) 4 := vp_in_nI (by omega) (by decide)
      rw [nI_1, nI_clamp (by omega), f.2 53 rfl, a7, cpU_s]
      exact br_f (nI_ge (a := j) (b := 4) (by omega) (by decide)) ⟨hin, hin, ih (j + 1) _ (by omega) (by omega) (f.a_ rfl) a1 a2 a3 a4 a5 a6 rfl a8⟩
  have L2 : ∀ (c j : Nat) (g1 : GM), n - j = c → ni ≤ j → j ≤ n → FrH sBk aBk g g1 → g1.1 15 = g.1 57 → g1.1 16 = g.1 58 → g1.1 14 = g.1 59 → g1.1 4 = g.1 60 → g1.2.1 8 = cpU ni (g.2.1 51) (g.2.1 8) → g1.2.1 9 = zrU ni j (cpU ni (g.2.1 52) (g.2.1 9)) → g1.2.1 35 = g.2.1 35 → g1.2.1 36 = g.2.1 36 → wM_back (c + 39) 2 (nI j) g1 Q := by
    intro c
    induction c with
    | zero =>
      intro j g1 hc hj0 hj f a1 a2 a3 a4 a5 a6 a7 a8
      have ej : j = n := by omega
      subst ej
      rw [show 0 + 39 = 38 + 1 by omega, wM_back, f.1 10 rfl, h10]
      exact br_t (nI_le (Nat.le_refl _) (by omega)) (L3 4 0 g1 rfl (by omega) f a1 a2 a3 a4 a5 a6 (by rw [cpU_0]; exact a7) a8)
    | succ c ih =>
      intro j g1 hc hj0 hj f a1 a2 a3 a4 a5 a6 a7 a8
      rw [show c + 1 + 39 = c + 39 + 1 by omega, wM_back, f.1 10 rfl, h10]
      have hin : vp_in (nI j) 8 := vp_in_nI (by omega) (by decide)
      rw [nI_1, nI_clamp (by omega), a6, zrU_s hj0]
      exact br_f (nI_ge (by omega) (by omega)) ⟨hin, ih (j + 1) _ (by omega) (by omega) (by omega) (f.a_ rfl) a1 a2 a3 a4 a5 rfl a7 a8⟩
  have L1 : ∀ (c j : Nat) (g1 : GM), ni - j = c → j ≤ ni → FrH sBk aBk g g1 → g1.1 15 = g.1 57 → g1.1 16 = g.1 58 → g1.1 14 = g.1 59 → g1.1 4 = g.1 60 → g1.2.1 8 = cpU j (g.2.1 51) (g.2.1 8) → g1.2.1 9 = cpU j (g.2.1 52) (g.2.1 9) → g1.2.1 35 = g.2.1 35 → g1.2.1 36 = g.2.1 36 → wM_back (c + (n - ni) + 40) 1 (nI j) g1 Q := by
    intro c
    induction c with
    | zero =>
      intro j g1 hc hj f a1 a2 a3 a4 a5 a6 a7 a8
      have ej : j = ni := by omega
      subst ej
      rw [show 0 + (n - j) + 40 = (n - j) + 39 + 1 by omega, wM_back, f.1 56 rfl, h56]
      exact br_t (nI_le (Nat.le_refl _) (by omega)) (L2 (n - j) j g1 rfl (Nat.le_refl _) hni f a1 a2 a3 a4 a5 (by rw [zrU_0]; exact a6) a7 a8)
    | succ c ih =>
      intro j g1 hc hj f a1 a2 a3 a4 a5 a6 a7 a8
      rw [show c + 1 + (n - ni) + 40 = c + (n - ni) + 40 + 1 by omega, wM_back, f.1 56 rfl, h56]
      have hin : vp_in (nI j) 8 := vp_in_nI (by omega) (by decide)
      rw [nI_1, nI_clamp (by omega), f.2 51 rfl, f.2 52 rfl, a5, a6, cpU_s, cpU_s]
      exact br_f (nI_ge (by omega) (by omega)) ⟨hin, hin, hin, hin, ih (j + 1) _ (by omega) (by omega) ((f.a_ rfl).a_ rfl) a1 a2 a3 a4 rfl rfl a7 a8⟩
  refine ⟨ni - 0 + (n - ni) + 40 + 1, ?_⟩
  rw [wM_back, h55]
  refine br0 n10 ?_
  exact L1 _ 0 _ rfl (Nat.zero_le _) ((((FrH.rf.i_ rfl).i_ rfl).i_ rfl).i_ rfl) rfl rfl rfl rfl (by rw [cpU_0]; rfl) (by rw [cpU_0]; rfl) rfl rfl
theorem op_back (h : Rel t k g) : wC_back k (fun r k' => ∃ y, wM_back y 0 0 g (fun r' g' => r = r' ∧ Rel (t + 1) k' g')) := by
  obtain ⟨n, nt, np, nw, N, h⟩ := h
  have hu := h.up
  have hn := h.1.1
  unfold wC_back
  rcases h.2.2.2.2.2.1 with ⟨c1, c2⟩ | ⟨ni, c1, c2, c3, c4, c5, c6, c7, c8, c9, c10, c11, c12, c13, c14, c15⟩
  · refine br1 c1 ⟨1, ?_⟩
    rw [wM_back, c2]
    exact br1 rfl ⟨rfl, _, _, _, _, _, hu⟩
  have nm : ¬ k.1 0 9 = -1 := fun e => by
    rw [c2] at e
    have e8 := congrArg Int32.toInt e
    rw [nI_toInt (by omega)] at e8
    have : (-1 : Int32).toInt = -1 := by decide
    omega
  refine br0 nm ?_
  unfold wC_X0_becomeLike
  rw [c2, nI_clamp (by omega)]
  have cp1 : cpOk 0 0 (nI ni) 8 8 := ⟨by decide, by decide, nI_pos (by omega), by rw [nI_clamp (by omega)]; show 0 + ni ≤ 8; omega, by rw [nI_clamp (by omega)]; show 0 + ni ≤ 8; omega⟩
  refine ⟨cp1, by unfold cpOk; decide, by unfold cpOk; decide, by unfold cpOk; decide, mBackI hn c1 h.1.2.2.1 c3 c4 (fun g' f a1 a2 a3 a4 a5 a6 a7 a8 => ?_)⟩
  obtain ⟨m1, m2, m3, m4, m5, m6, m7, m8⟩ := h.2.2.2.1
  obtain ⟨b1, b2, b3, b4⟩ := h.2.2.2.2.1
  refine ⟨c9, n, nt, np, nw, N, hu.now ((((((((FrC.rf.a_ rfl).a_ rfl).a_ rfl).a_ rfl).i_ rfl).i_ rfl).i_ rfl).i_ rfl) f ⟨?_, ?_, ?_, ?_, ?_, ?_, ?_, ?_⟩ ⟨?_, fun s hs => ?_, ?_, ?_⟩⟩
  · show va_cpy (k.2.1 3 1) (k.2.1 2 1) 0 0 ni = _
    rw [cpy8, a5, m1]
    funext s
    rcases Nat.lt_or_ge s ni with z | z
    · rw [cpU_in z, cpU_in z]; exact (c5 s z).1
    · rw [cpU_out z, cpU_out z]
  · show va_cpy (k.2.1 3 2) (k.2.1 2 2) 0 0 8 = _
    rw [cpy8, a6, m2]
    funext s
    show (if s < 8 then k.2.1 3 2 s else g.2.1 9 s) = if ni ≤ s ∧ s < n then 0 else if s < ni then g.2.1 52 s else g.2.1 9 s
    rcases Nat.lt_or_ge s 8 with z | z
    · rw [if_pos z]
      rcases Nat.lt_or_ge s ni with y | y
      · rw [if_neg (by omega), if_pos y]; exact (c5 s y).2
      · rw [c6 s y z]
        rcases Nat.lt_or_ge s n with x | x
        · rw [if_pos ⟨y, x⟩]
        · rw [if_neg (by omega), if_neg (by omega), (b2 s x).2]
    · rw [if_neg (by omega), if_neg (by omega), if_neg (by omega)]
  · rw [a1]; exact c9
  · rw [a2]; exact c10
  · rw [a3]; exact c11
  · rw [a4]; exact c12
  · show va_cpy (k.2.1 3 3) (k.2.1 2 3) 0 0 32 = _
    rw [cpy8, a8, m7]
    funext s
    rcases Nat.lt_or_ge s 32 with z | z
    · rw [cpU_in z, cpU_in z]; exact c7 s z
    · rw [cpU_out z, cpU_out z]
  · show va_cpy (k.2.1 3 4) (k.2.1 2 4) 0 0 4 = _
    rw [cpy8, a7, m8]
    funext s
    rcases Nat.lt_or_ge s 4 with z | z
    · rw [cpU_in z, cpU_in z]; exact c8 s z
    · rw [cpU_out z, cpU_out z]
  · rw [a4]; exact c13
  · rw [a5, a6]
    refine ⟨?_, ?_⟩
    · rw [cpU_out (by omega)]; exact (b2 s hs).1
    · show (if ni ≤ s ∧ s < n then 0 else if s < ni then g.2.1 52 s else g.2.1 9 s) = 0
      rw [if_neg (by omega), if_neg (by omega)]; exact (b2 s hs).2
  · rw [a1]; exact c14
  · rw [a6, a7, a8]
    refine (c15.mono UU_le).congr (fun s hs => ?_) (fun x hx => ?_) (fun e he => ?_)
    · show (if ni ≤ s ∧ s < n then 0 else if s < ni then g.2.1 52 s else g.2.1 9 s) = _
      rcases Nat.lt_or_ge s ni with y | y
      · rw [if_neg (by omega), if_pos y]; exact (c5 s y).2.symm
      · rw [c6 s y hs]
        rcases Nat.lt_or_ge s n with x | x
        · rw [if_pos ⟨y, x⟩]
        · rw [if_neg (by omega), if_neg (by omega), (b2 s x).2]
    · rw [cpU_in hx]; exact (c7 x hx).symm
    · rw [cpU_in he]; exact (c8 e he).symm
end Im
