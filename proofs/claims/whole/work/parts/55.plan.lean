/-! ===== plan ===== -/
section Pn
variable {t n nt np nw N : Nat} {k k' : KC} {g g' g0 : GM}
def s6 (j : Nat) : Bool := bor j 6 false
def aPn (j : Nat) : Bool := bor j 30 (bor j 31 (bor j 32 false))
def aPl (j : Nat) : Bool := bor j 31 (bor j 32 false)
def oSv (x _ : Nat) : Bool := Nat.beq x 7
theorem RelA.pln0 (h : RelA t n nt np nw N k g) (f : FrC sFC aFC k k') (fg : FrH s6 aPn g g') (hr : ∀ x, x < np → g'.2.1 30 x = g.2.1 30 x ∧ ∀ i, i < 24 → g'.2.1 31 (24 * x + i) = g.2.1 31 (24 * x + i) ∧ g'.2.1 32 (24 * x + i) = g.2.1 32 (24 * x + i)) (hb : RB 0 k' g') : RelA t n nt np nw 0 k' g' := by
  obtain ⟨⟨w1, w2, w3, w4, w5, w6, w7, w8, w9⟩, ⟨t1, t2, t3, t4⟩, ⟨p1, p2, p3, p4⟩, ⟨m1, m2, m3, m4, m5, m6, m7, m8⟩, ⟨b1, b2, b3, b4⟩, hi, ⟨v1, v2, v3, v4⟩, hs, _, hd0⟩ := h
  have hpr : k'.2.2.2.2.1 = k.2.2.2.2.1 := congrArg (fun z => z.2.2.1) f.2.2
  refine ⟨⟨w1, (f.1 1 0 rfl).trans w2, (fg.1 10 rfl).trans w3, (f.2.1 1 3 rfl).trans (w4.trans (fg.2 7 rfl).symm), (f.2.1 1 4 rfl).trans (w5.trans (fg.2 11 rfl).symm), (f.2.1 1 5 rfl).trans (w6.trans (fg.2 12 rfl).symm), (f.2.1 1 6 rfl).trans (w7.trans (fg.2 13 rfl).symm), by rw [fg.2 7 rfl]; exact w8, by rw [fg.2 13 rfl]; exact w9⟩, ⟨t1, (f.1 1 1 rfl).trans t2, (fg.1 3 rfl).trans t3, fun x hx => ?_⟩, ⟨p1, (f.1 1 2 rfl).trans p2, (fg.1 33 rfl).trans p3, fun x hx => ?_⟩, ⟨(f.2.1 2 1 rfl).trans (m1.trans (fg.2 8 rfl).symm), (f.2.1 2 2 rfl).trans (m2.trans (fg.2 9 rfl).symm), (f.1 2 7 rfl).trans (m3.trans (fg.1 15 rfl).symm), (f.1 2 8 rfl).trans (m4.trans (fg.1 16 rfl).symm), (f.1 2 9 rfl).trans (m5.trans (fg.1 14 rfl).symm), (f.1 2 10 rfl).trans (m6.trans (fg.1 4 rfl).symm), (f.2.1 2 3 rfl).trans (m7.trans (fg.2 36 rfl).symm), (f.2.1 2 4 rfl).trans (m8.trans (fg.2 35 rfl).symm)⟩, ⟨by rw [fg.1 4 rfl]; exact b1, by rw [fg.2 8 rfl, fg.2 9 rfl]; exact b2, by rw [fg.1 15 rfl]; exact b3, by rw [fg.2 9 rfl, fg.2 36 rfl, fg.2 35 rfl]; exact b4⟩, ?_, ⟨v1, (f.1 8 3 rfl).trans v2, (fg.1 46 rfl).trans v3, fun i hi => ?_⟩, fun s h4 => ?_, hb, fun s hs => by rw [f.2.1 4 1 rfl, f.2.1 4 2 rfl]; exact hd0 s hs⟩
  · obtain ⟨B, M, cs, a1, a2, ⟨x1, x2, x3⟩, a4⟩ := t4 x hx
    exact ⟨B, M, cs, a1.z f, a2, ⟨x1, by rw [fg.2 2 rfl]; exact x2, by rw [fg.2 1 rfl]; exact x3⟩, a4⟩
  · obtain ⟨d, p, a1, a2, x1, x2, x3, x4⟩ := p4 x hx
    obtain ⟨r1, r2⟩ := hr x hx
    exact ⟨d, p, by rw [hpr]; exact a1, a2.fr f, x1, r1.trans x2, x3, fun i hi => ⟨(r2 i (by omega)).1.trans (x4 i hi).1, (r2 i (by omega)).2.trans (x4 i hi).2.1, (x4 i hi).2.2⟩⟩
  · unfold RI
    rw [f.1 0 9 rfl, f.2.1 3 1 rfl, f.2.1 3 2 rfl, f.2.1 3 3 rfl, f.2.1 3 4 rfl, f.1 3 7 rfl, f.1 3 8 rfl, f.1 3 9 rfl, f.1 3 10 rfl, fg.1 55 rfl, fg.1 56 rfl, fg.2 51 rfl, fg.2 52 rfl, fg.2 54 rfl, fg.2 53 rfl, fg.1 57 rfl, fg.1 58 rfl, fg.1 59 rfl, fg.1 60 rfl]
    exact hi
  · rw [f.2.1 8 0 rfl, f.2.1 8 1 rfl, f.2.1 8 2 rfl, fg.2 43 rfl, fg.2 44 rfl, fg.2 45 rfl]; exact v4 i hi
  · exact (hs s h4).eq2 (f.1 (9 + s) 0 (co_4 (P := fun s => sFC (9 + s) 0 = false) rfl rfl rfl rfl h4)) (f.1 (9 + s) 1 (co_4 (P := fun s => sFC (9 + s) 1 = false) rfl rfl rfl rfl h4)) (f.2.1 (9 + s) 2 (co_4 (P := fun s => aFC (9 + s) 2 = false) rfl rfl rfl rfl h4)) (fg.2 61 rfl) (fg.2 62 rfl) (fg.2 63 rfl) (fg.2 64 rfl)
/-- one more PLAN -/
theorem RelA.pln1 {d : Dn} {p : Pl} (h : RelA t n nt np nw N k g) (hn : np < 8) (hd1 : d.2.2.2.1 = p.1) (hd2 : p.1 ≤ 24) (hd3 : ∀ i, i < p.1 → d.2.2.2.2.1 i = p.2.1 i ∧ d.2.2.2.2.2 i = nI (p.2.2 i) ∧ p.2.2 i < 4) (hm : PlanM g np p) : RelA t n nt (np + 1) nw N (cI (cPR (addL k d) (va_up (k.2.2.2.2.1) np (some d.1))) 1 2 (nI (np + 1))) (sI g 33 (nI (np + 1))) := by
  obtain ⟨w, ⟨t1, t2, t3, t4⟩, ⟨p1, p2, p3, p4⟩, m, hb0, hi, ⟨v1, v2, v3, v4⟩, hs, b, hd0⟩ := h
  refine ⟨w, ⟨t1, t2, t3, fun x hx => ?_⟩, ⟨by omega, rfl, rfl, fun x hx => ?_⟩, m, hb0, hi, ⟨v1, v2, v3, fun i hi => ?_⟩, fun s h4 => (hs s h4).eq2 ?_ ?_ rfl rfl rfl rfl rfl, b, hd0⟩
  · obtain ⟨B', M', cs', ⟨d', d1, d2, d3⟩, a2, a3, a4⟩ := t4 x hx
    exact ⟨B', M', cs', ⟨d', d1, d2, d3⟩, a2, a3, a4⟩
  · by_cases e : x = np
    · subst e
      exact ⟨d, p, if_pos rfl, ⟨addL_mem k d, hd1, hd2, hd3⟩, hm⟩
    · obtain ⟨d', p', a1, ⟨a2, a2'⟩, a3⟩ := p4 x (by omega)
      exact ⟨d', p', (if_neg e).trans a1, ⟨List.mem_append_left _ a2, a2'⟩, a3⟩
  · obtain ⟨c1, ⟨x, c2, c2'⟩, c3⟩ := v4 i hi
    exact ⟨c1, ⟨x, by omega, c2'⟩, c3⟩
  · exact cI_n (by omega)
  · exact cI_n (by omega)
/-! ## the ENDS -/
def enB (b : Nat) : Int32 := if b = 33 then 2 else if b = 43 then 1 else if b = 45 then 0 else if b = 63 then 3 else -1
theorem cEnd {b : Nat} {Q : Int32 → KC → Prop} (hb : b < 256) (q : Q (enB b) k) : wC_X2_endOf (nI b) k Q := by
  unfold wC_X2_endOf
  unfold enB at q
  have e : ∀ c : Nat, c < 256 → (nI b = nI c ↔ b = c) := fun c hc => nI_eq (by omega) (by omega)
  have e1 := e 33 (by decide)
  have e2 := e 43 (by decide)
  have e3 := e 45 (by decide)
  have e4 := e 63 (by decide)
  refine ⟨fun y => ?_, fun y => ?_, fun y => ?_, fun y => ?_, fun y1 y2 y3 y4 => ?_⟩
  · rw [if_pos (e1.mp y)] at q; exact q
  · have z := e2.mp y
    subst z; exact q
  · have z := e3.mp y
    subst z; exact q
  · have z := e4.mp y
    subst z; exact q
  · rw [if_neg (fun z => y1 (e1.mpr z)), if_neg (fun z => y2 (e2.mpr z)), if_neg (fun z => y3 (e3.mpr z)), if_neg (fun z => y4 (e4.mpr z))] at q; exact q
theorem mEnd {b : Nat} {Q : Int32 → GM → Prop} (hb : b < 256) (q : Q (enB b) g) : wM_endOf (nI b) g Q := by
  unfold wM_endOf
  unfold enB at q
  have e : ∀ c : Nat, c < 256 → (nI b = nI c ↔ b = c) := fun c hc => nI_eq (by omega) (by omega)
  have e1 := e 33 (by decide)
  have e2 := e 43 (by decide)
  have e3 := e 45 (by decide)
  have e4 := e 63 (by decide)
  refine ⟨fun y3 => ⟨fun y2 => ⟨fun y1 => ⟨fun y4 => ?_, fun y => ?_⟩, fun y => ?_⟩, fun y => ?_⟩, fun y => ?_⟩
  · rw [if_neg (fun z => y1 (e1.mpr z)), if_neg (fun z => y2 (e2.mpr z)), if_neg (fun z => y3 (e3.mpr z)), if_neg (fun z => y4 (e4.mpr z))] at q; exact q
  · have z := e4.mp y
    subst z; exact q
  · have z := e1.mp y
    subst z; exact q
  · have z := e2.mp y
    subst z; exact q
  · have z := e3.mp y
    subst z; exact q
theorem enB_c {b n : Nat} (hb : b < 256) (hn : n ≤ 8) : (∃ e, e < 4 ∧ enB b = nI e ∧ ini (nI b - 97) 0 (nI n - 1) = 0) ∨ enB b = -1 := by
  have lo : b < 97 → ini (nI b - 97) 0 (nI n - 1) = 0 := fun h => by
    apply ini_0
    have e1 : (nI b - 97).toInt = (b : Int) - 97 := pk_sub_toInt (b := 97) (by omega) (by decide)
    have e2 : (0 : Int32).toInt = 0 := by decide
    omega
  unfold enB
  by_cases h1 : b = 33
  · exact Or.inl ⟨2, by decide, by rw [if_pos h1]; rfl, lo (by omega)⟩
  by_cases h2 : b = 43
  · exact Or.inl ⟨1, by decide, by rw [if_neg h1, if_pos h2]; rfl, lo (by omega)⟩
  by_cases h3 : b = 45
  · exact Or.inl ⟨0, by decide, by rw [if_neg h1, if_neg h2, if_pos h3]; rfl, lo (by omega)⟩
  by_cases h4 : b = 63
  · exact Or.inl ⟨3, by decide, by rw [if_neg h1, if_neg h2, if_neg h3, if_pos h4]; rfl, lo (by omega)⟩
  · exact Or.inr (by rw [if_neg h1, if_neg h2, if_neg h3, if_neg h4])
theorem or_bit : ∀ b, b < 256 → ∀ s, s < 8 → nI b ||| ((1 : Int32) <<< (nI s &&& 31)) = nI (b ||| 2 ^ s) ∧ (b ||| 2 ^ s) < 256 ∧ (b ||| 2 ^ s) ≠ 0 := by decide +kernel
/-! ## what the reference does from a place on -/
def GI (g0 : GM) (np c : Nat) (S : Nat → Int32) (E : Nat → Nat) (g1 : GM) : Prop := FrH sNo aPl g0 g1 ∧ (∀ y, y < 24 * np → g1.2.1 31 y = g0.2.1 31 y ∧ g1.2.1 32 y = g0.2.1 32 y) ∧ ∀ i, i < c → g1.2.1 31 (24 * np + i) = S i ∧ g1.2.1 32 (24 * np + i) = nI (E i)
def flB (b : Nat) : Int32 := if b = 0 then 0 else 1
def PlOk (g0 : GM) (np j c b : Nat) (S : Nat → Int32) (E : Nat → Nat) (c' : Nat) (S' : Nat → Int32) (E' : Nat → Nat) : Prop := ∀ g1 (P : Int32 → GM → Prop), GI g0 np c S E g1 → (∀ g', GI g0 np c' S' E' g' → ∃ F, wM_plan F 2 (nI c') 0 0 (-1) 0 g' P) → ∃ F, wM_plan F 1 (nI c) (nI b) (flB b) (-1) (nI j) g1 P
def PlBad (g0 : GM) (np j c b : Nat) (S : Nat → Int32) (E : Nat → Nat) (f : Nat) : Prop := ∀ g1 (P : Int32 → GM → Prop), GI g0 np c S E g1 → (∀ g' x1 c2 S2 E2, GI g0 np c2 S2 E2 g' → ∃ F, wM_plan F 2 x1 0 0 (nI f) 0 g' P) → ∃ F, wM_plan F 1 (nI c) (nI b) (flB b) (-1) (nI j) g1 P
end Pn
