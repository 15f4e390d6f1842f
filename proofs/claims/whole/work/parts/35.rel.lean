/-! ===== the two states side by side ===== -/
def UU (t : Nat) : Nat := 2000 * t
def Cnt (U : Nat) (on wi en : Nat → Int32) : Prop := ∃ (ew ee : Nat → Nat), (∀ x, x < 32 → wi x = nI (ew x)) ∧ (∀ e, e < 4 → en e = nI (ee e) ∧ ee e ≤ U) ∧ (∀ s e, s < 8 → e < 4 → ew (4 * s + e) ≤ ee e) ∧ ∀ s, s < 8 → on s = nI (ew (4 * s) + ew (4 * s + 1) + ew (4 * s + 2) + ew (4 * s + 3))
theorem Cnt.mono {U V : Nat} {on wi en : Nat → Int32} (h : Cnt U on wi en) (hv : U ≤ V) : Cnt V on wi en := by
  obtain ⟨ew, ee, h1, h2, h3, h4⟩ := h
  exact ⟨ew, ee, h1, fun e he => ⟨(h2 e he).1, Nat.le_trans (h2 e he).2 hv⟩, h3, h4⟩
theorem Cnt.congr {U : Nat} {on wi en on' wi' en' : Nat → Int32} (h : Cnt U on wi en) (h1 : ∀ s, s < 8 → on' s = on s) (h2 : ∀ x, x < 32 → wi' x = wi x) (h3 : ∀ e, e < 4 → en' e = en e) : Cnt U on' wi' en' := by
  obtain ⟨ew, ee, g1, g2, g3, g4⟩ := h
  exact ⟨ew, ee, fun x hx => (h2 x hx).trans (g1 x hx), fun e he => ⟨(h3 e he).trans (g2 e he).1, (g2 e he).2⟩, g3, fun s hs => (h1 s hs).trans (g4 s hs)⟩
theorem Cnt.ok {U : Nat} {on wi en : Nat → Int32} (h : Cnt U on wi en) : ∀ s, s < 8 → ∃ j, j ≤ 4 * U ∧ on s = nI j := by
  obtain ⟨ew, ee, h1, h2, h3, h4⟩ := h
  intro s hs
  have a0 := h3 s 0 hs (by omega)
  have a1 := h3 s 1 hs (by omega)
  have a2 := h3 s 2 hs (by omega)
  have a3 := h3 s 3 hs (by omega)
  have b0 := (h2 0 (by omega)).2
  have b1 := (h2 1 (by omega)).2
  have b2 := (h2 2 (by omega)).2
  have b3 := (h2 3 (by omega)).2
  rw [Nat.add_zero] at a0
  exact ⟨_, by omega, h4 s hs⟩
theorem Cnt.tr {U n e : Nat} {on wi en : Nat → Int32} {set : Int32} (h : Cnt U on wi en) (he : e < 4) (hn : n ≤ 8) : Cnt (U + 1) (onU n set on (fun s => on s + 1)) (trE n set e wi) (upd en e (en e + 1)) := by
  obtain ⟨ew, ee, h1, h2, h3, h4⟩ := h
  refine ⟨fun x => if x % 4 = e ∧ x / 4 < n ∧ isO set (x / 4) = true then ew x + 1 else ew x, fun f => if f = e then ee e + 1 else ee f, fun x hx => ?_, fun f hf => ?_, fun s f hs hf => ?_, fun s hs => ?_⟩
  · show (if x % 4 = e ∧ x / 4 < n ∧ isO set (x / 4) = true then wi x + 1 else wi x) = nI (if x % 4 = e ∧ x / 4 < n ∧ isO set (x / 4) = true then ew x + 1 else ew x)
    by_cases c : x % 4 = e ∧ x / 4 < n ∧ isO set (x / 4) = true
    · rw [if_pos c, if_pos c, h1 x hx, nI_1]
    · rw [if_neg c, if_neg c, h1 x hx]
  · show (if f = e then en e + 1 else en f) = nI (if f = e then ee e + 1 else ee f) ∧ (if f = e then ee e + 1 else ee f) ≤ U + 1
    by_cases c : f = e
    · rw [if_pos c, if_pos c, (h2 e he).1, nI_1]
      exact ⟨rfl, by have := (h2 e he).2; omega⟩
    · rw [if_neg c, if_neg c, (h2 f hf).1]
      exact ⟨rfl, by have := (h2 f hf).2; omega⟩
  · show (if (4 * s + f) % 4 = e ∧ (4 * s + f) / 4 < n ∧ isO set ((4 * s + f) / 4) = true then ew (4 * s + f) + 1 else ew (4 * s + f)) ≤ if f = e then ee e + 1 else ee f
    have := h3 s f hs hf
    by_cases c : f = e
    · rw [if_pos c]
      subst c
      split <;> omega
    · rw [if_neg c, if_neg (fun z => c (by have := z.1; omega))]; exact this
  · have q : ∀ f, f < 4 → (4 * s + f) % 4 = f ∧ (4 * s + f) / 4 = s := fun f hf => ⟨by omega, by omega⟩
    have q0 : (4 * s) % 4 = 0 ∧ (4 * s) / 4 = s := ⟨by omega, by omega⟩
    show (if s < n ∧ isO set s = true then on s + 1 else on s) = nI ((if (4 * s) % 4 = e ∧ (4 * s) / 4 < n ∧ isO set ((4 * s) / 4) = true then ew (4 * s) + 1 else ew (4 * s)) + (if (4 * s + 1) % 4 = e ∧ (4 * s + 1) / 4 < n ∧ isO set ((4 * s + 1) / 4) = true then ew (4 * s + 1) + 1 else ew (4 * s + 1)) + (if (4 * s + 2) % 4 = e ∧ (4 * s + 2) / 4 < n ∧ isO set ((4 * s + 2) / 4) = true then ew (4 * s + 2) + 1 else ew (4 * s + 2)) + (if (4 * s + 3) % 4 = e ∧ (4 * s + 3) / 4 < n ∧ isO set ((4 * s + 3) / 4) = true then ew (4 * s + 3) + 1 else ew (4 * s + 3)))
    rw [q0.1, q0.2, (q 1 (by omega)).1, (q 1 (by omega)).2, (q 2 (by omega)).1, (q 2 (by omega)).2, (q 3 (by omega)).1, (q 3 (by omega)).2]
    by_cases c : s < n ∧ isO set s = true
    · rw [if_pos c, h4 s hs, nI_1]
      congr 1
      have cc : (s < n ∧ isO set s = true) = True := eq_true c
      match e, he with
      | 0, _ => rw [if_pos ⟨rfl, c⟩, if_neg (fun z => absurd z.1 (by decide)), if_neg (fun z => absurd z.1 (by decide)), if_neg (fun z => absurd z.1 (by decide))]; omega
      | 1, _ => rw [if_neg (fun z => absurd z.1 (by decide)), if_pos ⟨rfl, c⟩, if_neg (fun z => absurd z.1 (by decide)), if_neg (fun z => absurd z.1 (by decide))]; omega
      | 2, _ => rw [if_neg (fun z => absurd z.1 (by decide)), if_neg (fun z => absurd z.1 (by decide)), if_pos ⟨rfl, c⟩, if_neg (fun z => absurd z.1 (by decide))]; omega
      | 3, _ => rw [if_neg (fun z => absurd z.1 (by decide)), if_neg (fun z => absurd z.1 (by decide)), if_neg (fun z => absurd z.1 (by decide)), if_pos ⟨rfl, c⟩]; omega
    · rw [if_neg c, if_neg (fun z => c z.2), if_neg (fun z => c z.2), if_neg (fun z => c z.2), if_neg (fun z => c z.2), h4 s hs]
def RW (n : Nat) (k : KC) (g : GM) : Prop := n ≤ 8 ∧ k.1 1 0 = nI n ∧ g.1 10 = nI n ∧ k.2.1 1 3 = g.2.1 7 ∧ k.2.1 1 4 = g.2.1 11 ∧ k.2.1 1 5 = g.2.1 12 ∧ k.2.1 1 6 = g.2.1 13 ∧ (∀ s, s < 8 → ∃ j, j < 6 ∧ g.2.1 7 s = nI j) ∧ ∀ s q, s < 8 → q < 8 → g.2.1 13 (8 * s + q) = g.2.1 13 (8 * q + s)
def TxR (k : KC) (g : GM) (x : Nat) : Prop := ∃ B N cs, TextC k x cs ∧ (∀ c, WfC (cs c)) ∧ RowM B N x g ∧ RdOk B N cs
def RT (nt : Nat) (k : KC) (g : GM) : Prop := nt ≤ 6 ∧ k.1 1 1 = nI nt ∧ g.1 3 = nI nt ∧ ∀ x, x < nt → TxR k g x
def PlR (k : KC) (g : GM) (x : Nat) : Prop := ∃ d p, k.2.2.2.2.1 x = some d.1 ∧ PlanC k d p ∧ PlanM g x p
def RP (np : Nat) (k : KC) (g : GM) : Prop := np ≤ 8 ∧ k.1 1 2 = nI np ∧ g.1 33 = nI np ∧ ∀ x, x < np → PlR k g x
def RMa (k : KC) (g : GM) : Prop := k.2.1 2 1 = g.2.1 8 ∧ k.2.1 2 2 = g.2.1 9 ∧ k.1 2 7 = g.1 15 ∧ k.1 2 8 = g.1 16 ∧ k.1 2 9 = g.1 14 ∧ k.1 2 10 = g.1 4 ∧ k.2.1 2 3 = g.2.1 36 ∧ k.2.1 2 4 = g.2.1 35
def RMb (t n nt : Nat) (g : GM) : Prop := (∃ r, r < nt ∧ g.1 4 = nI r) ∧ (∀ s, n ≤ s → g.2.1 8 s = 0 ∧ g.2.1 9 s = 0) ∧ (∃ dy, dy ≤ 400 ∧ g.1 15 = nI dy) ∧ Cnt (UU t) (g.2.1 9) (g.2.1 36) (g.2.1 35)
def RI (t n nt : Nat) (k : KC) (g : GM) : Prop := (k.1 0 9 = -1 ∧ g.1 55 = 0) ∨ (∃ ni, ni ≤ n ∧ k.1 0 9 = nI ni ∧ g.1 55 = 1 ∧ g.1 56 = nI ni ∧ (∀ s, s < ni → k.2.1 3 1 s = g.2.1 51 s ∧ k.2.1 3 2 s = g.2.1 52 s) ∧ (∀ s, ni ≤ s → s < 8 → k.2.1 3 2 s = 0) ∧ (∀ x, x < 32 → k.2.1 3 3 x = g.2.1 54 x) ∧ (∀ e, e < 4 → k.2.1 3 4 e = g.2.1 53 e) ∧ k.1 3 7 = g.1 57 ∧ k.1 3 8 = g.1 58 ∧ k.1 3 9 = g.1 59 ∧ k.1 3 10 = g.1 60 ∧ (∃ r, r < nt ∧ g.1 60 = nI r) ∧ (∃ dy, dy ≤ 400 ∧ g.1 57 = nI dy) ∧ Cnt (UU t) (k.2.1 3 2) (k.2.1 3 3) (k.2.1 3 4))
def RV (n np nw : Nat) (k : KC) (g : GM) : Prop := nw ≤ 20 ∧ k.1 8 3 = nI nw ∧ g.1 46 = nI nw ∧ ∀ i, i < nw → (k.2.1 8 0 i = g.2.1 43 i ∧ k.2.1 8 1 i = g.2.1 44 i ∧ k.2.1 8 2 i = g.2.1 45 i) ∧ (∃ x, x < np ∧ g.2.1 43 i = nI x) ∧ (∃ b, b < 2 ^ n ∧ 0 < b ∧ g.2.1 44 i = nI b) ∧ ∃ dd, dd ≤ 99 ∧ g.2.1 45 i = nI dd
def ShR (k : KC) (g : GM) (s : Nat) : Prop := (g.2.1 61 s = 0 ∧ k.1 (9 + s) 0 = -1) ∨ (g.2.1 61 s = 1 ∧ (∃ so, so < 3 ∧ k.1 (9 + s) 0 = nI so) ∧ g.2.1 62 s = k.1 (9 + s) 0 ∧ ∃ z, z ≤ 40 ∧ k.1 (9 + s) 1 = nI z ∧ g.2.1 63 s = nI z ∧ ∀ i, i < z → k.2.1 (9 + s) 2 i = g.2.1 64 (40 * s + i))
def RS (k : KC) (g : GM) : Prop := ∀ s, s < 4 → ShR k g s
def RB (N : Nat) (k : KC) (g : GM) : Prop := N ≤ 160 ∧ k.1 5 1 = nI N ∧ g.1 6 = nI N ∧ ∀ i, i < N → k.2.1 5 0 i = g.2.1 5 i ∧ ∃ b, b < 256 ∧ g.2.1 5 i = nI b
def RD (k : KC) : Prop := ∀ s, 8 ≤ s → k.2.1 4 1 s = 0 ∧ k.2.1 4 2 s = 0
def RelA (t n nt np nw N : Nat) (k : KC) (g : GM) : Prop := RW n k g ∧ RT nt k g ∧ RP np k g ∧ RMa k g ∧ RMb t n nt g ∧ RI t n nt k g ∧ RV n np nw k g ∧ RS k g ∧ RB N k g ∧ RD k
def Rel (t : Nat) (k : KC) (g : GM) : Prop := ∃ n nt np nw N, RelA t n nt np nw N k g
theorem UU_le {t : Nat} : UU t ≤ UU (t + 1) := by
  show 2000 * t ≤ 2000 * (t + 1)
  omega
theorem RelA.up {t n nt np nw N : Nat} {k : KC} {g : GM} (h : RelA t n nt np nw N k g) : RelA (t + 1) n nt np nw N k g := by
  obtain ⟨h1, h2, h3, h4, ⟨b1, b2, b3, b4⟩, h6, h7, h8, h9, h10⟩ := h
  refine ⟨h1, h2, h3, h4, ⟨b1, b2, b3, b4.mono UU_le⟩, ?_, h7, h8, h9, h10⟩
  rcases h6 with h6 | ⟨ni, c1, c2, c3, c4, c5, c6, c7, c8, c9, c10, c11, c12, c13, c14, c15⟩
  · exact Or.inl h6
  · exact Or.inr ⟨ni, c1, c2, c3, c4, c5, c6, c7, c8, c9, c10, c11, c12, c13, c14, c15.mono UU_le⟩
/-! ## what a call may write that no later call sees -/
def sZ (x y : Nat) : Bool := Nat.beq x 4 || (Nat.beq x 6 || (Nat.beq x 7 || (Nat.beq x 8 && Nat.ble 4 y)))
def aZ (x y : Nat) : Bool := Nat.beq x 4 || (Nat.beq x 6 || (Nat.beq x 7 || sScr x y))
def sZm (j : Nat) : Bool := bor j 39 (bor j 40 (bor j 41 (bor j 47 (bor j 48 (bor j 49 (bor j 50 (sRd j)))))))
def aZm (j : Nat) : Bool := bor j 34 (bor j 37 (bor j 38 (bor j 42 false)))
theorem sRd_Zm {j : Nat} (h : sZm j = false) : sRd j = false := (bor_f (bor_f (bor_f (bor_f (bor_f (bor_f (bor_f h).2).2).2).2).2).2).2
theorem FrG.z {g g' : GM} (h : FrG sRd g g') : FrH sZm aZm g g' := ⟨fun j e => h.1 j (sRd_Zm e), fun j _ => by rw [h.2]⟩
theorem TextC.z {S A : Nat → Nat → Bool} {k k' : KC} {x : Nat} {cs : Nat → List Int32} (h : TextC k x cs) (f : FrC S A k k') : TextC k' x cs := by
  obtain ⟨d, d1, d2, d3⟩ := h
  have hx : txC k' = txC k := by unfold txC; rw [f.2.2]
  have ht : k'.2.2.2.1 = k.2.2.2.1 := congrArg (fun z => z.2.1) f.2.2
  exact ⟨d, by rw [ht]; exact d1, by rw [hx]; exact d2, d3⟩
theorem ShR.zC {k k' : KC} {g : GM} {s : Nat} (hs : s < 4) (h : ShR k g s) (f : FrC sZ aZ k k') : ShR k' g s := by
  have e0 : k'.1 (9 + s) 0 = k.1 (9 + s) 0 := f.1 (9 + s) 0 (co_4 (P := fun s => sZ (9 + s) 0 = false) rfl rfl rfl rfl hs)
  have e1 : k'.1 (9 + s) 1 = k.1 (9 + s) 1 := f.1 (9 + s) 1 (co_4 (P := fun s => sZ (9 + s) 1 = false) rfl rfl rfl rfl hs)
  have e2 : k'.2.1 (9 + s) 2 = k.2.1 (9 + s) 2 := f.2.1 (9 + s) 2 (co_4 (P := fun s => aZ (9 + s) 2 = false) rfl rfl rfl rfl hs)
  unfold ShR
  rw [e0, e1, e2]; exact h
theorem RelA.zC {t n nt np nw N : Nat} {k k' : KC} {g : GM} (h : RelA t n nt np nw N k g) (f : FrC sZ aZ k k') (hd : RD k') : RelA t n nt np nw N k' g := by
  obtain ⟨⟨w1, w2, w3, w4, w5, w6, w7, w8⟩, ⟨t1, t2, t3, t4⟩, ⟨p1, p2, p3, p4⟩, ⟨m1, m2, m3, m4, m5, m6, m7, m8⟩, hb, hi, ⟨v1, v2, v3, v4⟩, hs, ⟨b1, b2, b3, b4⟩, _⟩ := h
  have hpr : k'.2.2.2.2.1 = k.2.2.2.2.1 := congrArg (fun z => z.2.2.1) f.2.2
  refine ⟨⟨w1, (f.1 1 0 rfl).trans w2, w3, (f.2.1 1 3 rfl).trans w4, (f.2.1 1 4 rfl).trans w5, (f.2.1 1 5 rfl).trans w6, (f.2.1 1 6 rfl).trans w7, w8⟩, ⟨t1, (f.1 1 1 rfl).trans t2, t3, fun x hx => ?_⟩, ⟨p1, (f.1 1 2 rfl).trans p2, p3, fun x hx => ?_⟩, ⟨(f.2.1 2 1 rfl).trans m1, (f.2.1 2 2 rfl).trans m2, (f.1 2 7 rfl).trans m3, (f.1 2 8 rfl).trans m4, (f.1 2 9 rfl).trans m5, (f.1 2 10 rfl).trans m6, (f.2.1 2 3 rfl).trans m7, (f.2.1 2 4 rfl).trans m8⟩, hb, ?_, ⟨v1, (f.1 8 3 rfl).trans v2, v3, fun i hi => ?_⟩, fun s h4 => (hs s h4).zC h4 f, ⟨b1, (f.1 5 1 rfl).trans b2, b3, fun i hi => ?_⟩, hd⟩
  · obtain ⟨B, M, cs, a1, a2, a3, a4⟩ := t4 x hx
    exact ⟨B, M, cs, a1.z f, a2, a3, a4⟩
  · obtain ⟨d, p, a1, a2, a3⟩ := p4 x hx
    exact ⟨d, p, by rw [hpr]; exact a1, a2.fr f, a3⟩
  · unfold RI
    rw [f.1 0 9 rfl, f.2.1 3 1 rfl, f.2.1 3 2 rfl, f.2.1 3 3 rfl, f.2.1 3 4 rfl, f.1 3 7 rfl, f.1 3 8 rfl, f.1 3 9 rfl, f.1 3 10 rfl]
    exact hi
  · rw [f.2.1 8 0 rfl, f.2.1 8 1 rfl, f.2.1 8 2 rfl]; exact v4 i hi
  · rw [f.2.1 5 0 rfl]; exact b4 i hi
theorem RelA.zM {t n nt np nw N : Nat} {k : KC} {g g' : GM} (h : RelA t n nt np nw N k g) (f : FrH sZm aZm g g') : RelA t n nt np nw N k g' := by
  obtain ⟨⟨w1, w2, w3, w4, w5, w6, w7, w8, w9⟩, ⟨t1, t2, t3, t4⟩, ⟨p1, p2, p3, p4⟩, ⟨m1, m2, m3, m4, m5, m6, m7, m8⟩, ⟨b1, b2, b3, b4⟩, hi, ⟨v1, v2, v3, v4⟩, hs, ⟨c1, c2, c3, c4⟩, hd⟩ := h
  refine ⟨⟨w1, w2, (f.1 10 rfl).trans w3, w4.trans (f.2 7 rfl).symm, w5.trans (f.2 11 rfl).symm, w6.trans (f.2 12 rfl).symm, w7.trans (f.2 13 rfl).symm, by rw [f.2 7 rfl]; exact w8, by rw [f.2 13 rfl]; exact w9⟩, ⟨t1, t2, (f.1 3 rfl).trans t3, fun x hx => ?_⟩, ⟨p1, p2, (f.1 33 rfl).trans p3, fun x hx => ?_⟩, ⟨m1.trans (f.2 8 rfl).symm, m2.trans (f.2 9 rfl).symm, m3.trans (f.1 15 rfl).symm, m4.trans (f.1 16 rfl).symm, m5.trans (f.1 14 rfl).symm, m6.trans (f.1 4 rfl).symm, m7.trans (f.2 36 rfl).symm, m8.trans (f.2 35 rfl).symm⟩, ⟨by rw [f.1 4 rfl]; exact b1, by rw [f.2 8 rfl, f.2 9 rfl]; exact b2, by rw [f.1 15 rfl]; exact b3, by rw [f.2 9 rfl, f.2 36 rfl, f.2 35 rfl]; exact b4⟩, ?_, ⟨v1, v2, (f.1 46 rfl).trans v3, fun i hi => ?_⟩, fun s h4 => ?_, ⟨c1, c2, (f.1 6 rfl).trans c3, fun i hi => ?_⟩, hd⟩
  · obtain ⟨B, M, cs, a1, a2, ⟨x1, x2, x3⟩, a4⟩ := t4 x hx
    exact ⟨B, M, cs, a1, a2, ⟨x1, by rw [f.2 2 rfl]; exact x2, by rw [f.2 1 rfl]; exact x3⟩, a4⟩
  · obtain ⟨d, p, a1, a2, x1, x2, x3, x4⟩ := p4 x hx
    exact ⟨d, p, a1, a2, x1, by rw [f.2 30 rfl]; exact x2, x3, by rw [f.2 31 rfl, f.2 32 rfl]; exact x4⟩
  · unfold RI
    rw [f.1 55 rfl, f.1 56 rfl, f.2 51 rfl, f.2 52 rfl, f.2 54 rfl, f.2 53 rfl, f.1 57 rfl, f.1 58 rfl, f.1 59 rfl, f.1 60 rfl]
    exact hi
  · rw [f.2 43 rfl, f.2 44 rfl, f.2 45 rfl]; exact v4 i hi
  · have := hs s h4
    unfold ShR at this ⊢
    rw [f.2 61 rfl, f.2 62 rfl, f.2 63 rfl, f.2 64 rfl]; exact this
  · rw [f.2 5 rfl]; exact c4 i hi
/-- the world and the mind that both hold -/
theorem RelA.wm {t n nt np nw N : Nat} {k : KC} {g : GM} (h : RelA t n nt np nw N k g) : ∃ (w : Wd) (m : Md) (r : Nat) (B : Nat → Nat) (M : Nat), wn w = n ∧ WOk w ∧ WC w r k ∧ MC 2 r m k ∧ MOk (4 * UU t) m ∧ WM w B M r g ∧ MM m g ∧ wkd w = g.2.1 7 ∧ wwo w = g.2.1 11 ∧ wgo w = g.2.1 12 ∧ wli w = g.2.1 13 ∧ m = (g.2.1 8, g.2.1 9, g.1 15, g.1 16, g.1 14) := by
  obtain ⟨⟨w1, w2, w3, w4, w5, w6, w7, w8, w9⟩, ⟨t1, t2, t3, t4⟩, hp, ⟨m1, m2, m3, m4, m5, m6, m7, m8⟩, ⟨⟨r, b1, b1'⟩, b2, b3, b4⟩, _⟩ := h
  obtain ⟨B, M, cs, a1, a2, a3, a4⟩ := t4 r b1
  exact ⟨(n, g.2.1 7, g.2.1 11, g.2.1 12, g.2.1 13, cs), (g.2.1 8, g.2.1 9, g.1 15, g.1 16, g.1 14), r, B, M, rfl, ⟨w1, w8, w9, a2⟩, ⟨w2, w4, w5, w6, w7, a1, by omega⟩, ⟨m1, m2, m3, m4, m5, m6.trans b1'⟩, b4.ok, ⟨w3, rfl, rfl, rfl, rfl, a3, a4, b1'⟩, ⟨rfl, rfl, rfl, rfl, rfl⟩, rfl, rfl, rfl, rfl, rfl⟩
