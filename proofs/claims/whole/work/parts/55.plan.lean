/-! ===== plan ===== -/
section Pn
variable {t n nt np nw N : Nat} {k k' : KC} {g g' g0 : GM}
def s6 (j : Nat) : Bool := bor j 6 false
def aPn (j : Nat) : Bool := bor j 30 (bor j 31 (bor j 32 false))
def aPl (j : Nat) : Bool := bor j 31 (bor j 32 false)
def oSv (x _ : Nat) : Bool := Nat.beq x 7
theorem RelA.pln0 (h : RelA t n nt np nw N k g) (f : FrC sFC aFC k k') (fg : FrH s6 aPn g g') (hr : ∀ x, x < np → g'.2.1 30 x = g.2.1 30 x ∧ ∀ i, i < 24 → g'.2.1 31 (24 * x + i) = g.2.1 31 (24 * x + i) ∧ g'.2.1 32 (24 * x + i) = g.2.1 32 (24 * x + i)) (hb : RB 0 k' g') : RelA t n nt np nw 0 k' g' := by
  obtain ⟨⟨w1, w2, w3, w4, w5, w6, w7, w8, w9⟩, ⟨t1, t2, t3, t4⟩, ⟨p1, p2, p3, p4⟩, ⟨m1, m2, m3, m4, m5, m6, m7, m8⟩, ⟨b1, b2, b3, b4⟩, hi, ⟨v1, v2, v3, v4⟩, hs, _, hd0⟩ := h
  have hpr : k'.2.2.2.2.1 = k.2.2.2.2.1 := congrArg (fun z => z.2.2.1) f.2.2
  refine ⟨⟨w1, (f.1 1 0 rfl).trans w2, (fg.1 10 rfl).trans w3, (f.2.1 1 3 rfl).trans (w4.trans (fg.2 7 rfl).symm), (f.2.1 1 4 rfl).trans (w5.trans (fg.2 11 rfl).symm), (f.2.1 1 5 rfl).trans (w6.trans (fg.2 12 rfl).symm), (f.2.1 1 6 rfl).trans (w7.trans (fg.2 13 rfl).symm), by rw [fg.2 7 rfl]; exact w8, by rw [fg.2 13 rfl]; exact w9⟩, ⟨t1, (f.1 1 1 rfl).trans t2, (fg.1 3 rfl).trans t3, fun x hx => ?_⟩, ⟨p1, (f.1 1 2 rfl).trans p2, (fg.1 33 rfl).trans p3, fun x hx => ?_⟩, ⟨(f.2.1 2 1 rfl).trans (m1.trans (fg.2 8 rfl).symm), (f.2.1 2 2 rfl).trans (m2.trans (fg.2 9 rfl).symm), (f.1 2 7 rfl).trans (m3.trans (fg.1 15 rfl).symm), (f.1 2 8 rfl).trans (m4.trans (fg.1 16 rfl).symm), (f.1 2 9 rfl).trans (m5.trans (fg.1 14 rfl).symm), (f.1 2 10 rfl).trans (m6.trans (fg.1 4 rfl).symm), (f.2.1 2 3 rfl).trans (m7.trans (fg.2 36 rfl).symm), (f.2.1 2 4 rfl).trans (m8.trans (fg.2 35 rfl).symm)⟩, ⟨by rw [fg.1 4 rfl]; exact b1, by rw [fg.2 8 rfl, fg.2 9 rfl]; exact b2, by rw [fg.1 15 rfl]; exact b3, by rw [fg.2 9 rfl, fg.2 36 rfl, fg.2 35 rfl]; exact b4⟩, ?_, ⟨v1, (f.1 8 3 rfl).trans v2, (fg.1 46 rfl).trans v3, fun i hi => ?_⟩, fun s h4 => ?_, hb, fun s hs => by rw [f.2.1 4 1 rfl, f.2.1 4 2 rfl]; exact hd0 s hs⟩
  · obtain ⟨B, M, cs, a1, a2, ⟨x1, x2, x3⟩, a4⟩ := t4 x hx
    exact ⟨B, M, cs, a1.z f, a2, ⟨x1, by rw [fg.2 2 rfl]; exact x2, by rw [fg.2 1 rfl]; exact x3⟩, a4⟩
  · obtain ⟨d, p, a1, a2, x1, x2, x3, x4⟩ := p4 x hx
    obtain ⟨r1, r2⟩ := hr x hx
    exact ⟨d, p, by rw [hpr]; exact a1, a2.fr f, x1, r1.trans x2, x3, fun i hi => ⟨(r2 i (by omega)).1.trans (x4 i hi).1, (r2 i (by omega)).2.trans (x4 i hi).2.1, (x4 i hi).2.2⟩⟩
  · unfold RI
    rw [f.1 0 9 rfl, f.2.1 3 1 rfl, f.2.1 3 2 rfl, f.2.1 3 3 rfl, f.2.1 3 4 rfl, f.1 3 7 rfl, f.1 3 8 rfl, f.1 3 9 rfl, f.1 3 10 rfl, fg.1 55 rfl, fg.1 56 rfl, fg.2 51 rfl, fg.2 52 rfl, fg.2 54 rfl, fg.2 53 rfl, fg.1 57 rfl, fg.1 58 rfl, fg.1 59 rfl, fg.1 60 rfl]
    exact hi
  · rw [f.2.1 8 0 rfl, f.2.1 8 1 rfl, f.2.1 8 2 rfl, fg.2 43 rfl, fg.2 44 rfl, fg.2 45 rfl]; exact v4 i hi
  · exact (hs s h4).eq2 (f.1 (9 + s) 0 (co_4 (P := fun s => sFC (9 + s) 0 = false) rfl rfl rfl rfl h4)) (f.1 (9 + s) 1 (co_4 (P := fun s => sFC (9 + s) 1 = false) rfl rfl rfl rfl h4)) (f.2.1 (9 + s) 2 (co_4 (P := fun s => aFC (9 + s) 2 = false) rfl rfl rfl rfl h4)) (fg.2 61 rfl) (fg.2 62 rfl) (fg.2 63 rfl) (fg.2 64 rfl)
/-- one more PLAN -/
theorem RelA.pln1 {d : Dn} {p : Pl} (h : RelA t n nt np nw N k g) (hn : np < 8) (hd1 : d.2.2.2.1 = p.1) (hd2 : p.1 ≤ 24) (hd3 : ∀ i, i < p.1 → d.2.2.2.2.1 i = p.2.1 i ∧ d.2.2.2.2.2 i = nI (p.2.2 i) ∧ p.2.2 i < 4) (hm : PlanM g np p) : RelA t n nt (np + 1) nw N (cI (cPR (addL k d) (va_up (k.2.2.2.2.1) np (some d.1))) 1 2 (nI (np + 1))) (sI g 33 (nI (np + 1))) := by
  obtain ⟨w, ⟨t1, t2, t3, t4⟩, ⟨p1, p2, p3, p4⟩, m, hb0, hi, ⟨v1, v2, v3, v4⟩, hs, b, hd0⟩ := h
  refine ⟨w, ⟨t1, t2, t3, fun x hx => ?_⟩, ⟨by omega, rfl, rfl, fun x hx => ?_⟩, m, hb0, hi, ⟨v1, v2, v3, fun i hi => ?_⟩, fun s h4 => (hs s h4).eq2 ?_ ?_ rfl rfl rfl rfl rfl, b, hd0⟩
  · obtain ⟨B', M', cs', ⟨d', d1, d2, d3⟩, a2, a3, a4⟩ := t4 x hx
    exact ⟨B', M', cs', ⟨d', d1, d2, d3⟩, a2, a3, a4⟩
  · by_cases e : x = np
    · subst e
      exact ⟨d, p, if_pos rfl, ⟨addL_mem k d, hd1, hd2, hd3⟩, hm⟩
    · obtain ⟨d', p', a1, ⟨a2, a2'⟩, a3⟩ := p4 x (by omega)
      exact ⟨d', p', (if_neg e).trans a1, ⟨List.mem_append_left _ a2, a2'⟩, a3⟩
  · obtain ⟨c1, ⟨x, c2, c2'⟩, c3⟩ := v4 i hi
    exact ⟨c1, ⟨x, by omega, c2'⟩, c3⟩
  · exact cI_n (by omega)
  · exact cI_n (by omega)
/-! ## the ENDS -/
def enB (b : Nat) : Int32 := if b = 33 then 2 else if b = 43 then 1 else if b = 45 then 0 else if b = 63 then 3 else -1
theorem cEnd {b : Nat} {Q : Int32 → KC → Prop} (hb : b < 256) (q : Q (enB b) k) : wC_X2_endOf (nI b) k Q := by
  unfold wC_X2_endOf
  unfold enB at q
  have e : ∀ c : Nat, c < 256 → (nI b = nI c ↔ b = c) := fun c hc => nI_eq (by omega) (by omega)
  have e1 := e 33 (by decide)
  have e2 := e 43 (by decide)
  have e3 := e 45 (by decide)
  have e4 := e 63 (by decide)
  refine ⟨fun y => ?_, fun y => ?_, fun y => ?_, fun y => ?_, fun y1 y2 y3 y4 => ?_⟩
  · rw [if_pos (e1.mp y)] at q; exact q
  · have z := e2.mp y
    subst z; exact q
  · have z := e3.mp y
    subst z; exact q
  · have z := e4.mp y
    subst z; exact q
  · rw [if_neg (fun z => y1 (e1.mpr z)), if_neg (fun z => y2 (e2.mpr z)), if_neg (fun z => y3 (e3.mpr z)), if_neg (fun z => y4 (e4.mpr z))] at q; exact q
theorem mEnd {b : Nat} {Q : Int32 → GM → Prop} (hb : b < 256) (q : Q (enB b) g) : wM_endOf (nI b) g Q := by
  unfold wM_endOf
  unfold enB at q
  have e : ∀ c : Nat, c < 256 → (nI b = nI c ↔ b = c) := fun c hc => nI_eq (by omega) (by omega)
  have e1 := e 33 (by decide)
  have e2 := e 43 (by decide)
  have e3 := e 45 (by decide)
  have e4 := e 63 (by decide)
  refine ⟨fun y3 => ⟨fun y2 => ⟨fun y1 => ⟨fun y4 => ?_, fun y => ?_⟩, fun y => ?_⟩, fun y => ?_⟩, fun y => ?_⟩
  · rw [if_neg (fun z => y1 (e1.mpr z)), if_neg (fun z => y2 (e2.mpr z)), if_neg (fun z => y3 (e3.mpr z)), if_neg (fun z => y4 (e4.mpr z))] at q; exact q
  · have z := e4.mp y
    subst z; exact q
  · have z := e1.mp y
    subst z; exact q
  · have z := e2.mp y
    subst z; exact q
  · have z := e3.mp y
    subst z; exact q
theorem enB_c {b n : Nat} (hb : b < 256) (hn : n ≤ 8) : (∃ e, e < 4 ∧ enB b = nI e ∧ ini (nI b - 97) 0 (nI n - 1) = 0) ∨ enB b = -1 := by
  have lo : b < 97 → ini (nI b - 97) 0 (nI n - 1) = 0 := fun h => by
    apply ini_0
    have e1 : (nI b - 97).toInt = (b : Int) - 97 := pk_sub_toInt (b := 97) (by omega) (by decide)
    have e2 : (0 : Int32).toInt = 0 := by decide
    omega
  unfold enB
  by_cases h1 : b = 33
  · exact Or.inl ⟨2, by decide, by rw [if_pos h1]; rfl, lo (by omega)⟩
  by_cases h2 : b = 43
  · exact Or.inl ⟨1, by decide, by rw [if_neg h1, if_pos h2]; rfl, lo (by omega)⟩
  by_cases h3 : b = 45
  · exact Or.inl ⟨0, by decide, by rw [if_neg h1, if_neg h2, if_pos h3]; rfl, lo (by omega)⟩
  by_cases h4 : b = 63
  · exact Or.inl ⟨3, by decide, by rw [if_neg h1, if_neg h2, if_neg h3, if_pos h4]; rfl, lo (by omega)⟩
  · exact Or.inr (by rw [if_neg h1, if_neg h2, if_neg h3, if_neg h4])
theorem or_bit : ∀ b, b < 256 → ∀ s, s < 8 → nI b ||| ((1 : Int32) <<< (nI s &&& 31)) = nI (b ||| 2 ^ s) ∧ (b ||| 2 ^ s) < 256 ∧ (b ||| 2 ^ s) ≠ 0 := by decide +kernel
/-! ## what the reference does from a place on -/
def GI (g0 : GM) (np c : Nat) (S : Nat → Int32) (E : Nat → Nat) (g1 : GM) : Prop := FrH sNo aPl g0 g1 ∧ (∀ y, y < 24 * np → g1.2.1 31 y = g0.2.1 31 y ∧ g1.2.1 32 y = g0.2.1 32 y) ∧ ∀ i, i < c → g1.2.1 31 (24 * np + i) = S i ∧ g1.2.1 32 (24 * np + i) = nI (E i)
def flB (b : Nat) : Int32 := if b = 0 then 0 else 1
def PlOk (g0 : GM) (np j c b : Nat) (S : Nat → Int32) (E : Nat → Nat) (c' : Nat) (S' : Nat → Int32) (E' : Nat → Nat) : Prop := ∀ g1 (P : Int32 → GM → Prop), GI g0 np c S E g1 → (∀ g', GI g0 np c' S' E' g' → ∃ F, wM_plan F 2 (nI c') 0 0 (-1) 0 g' P) → ∃ F, wM_plan F 1 (nI c) (nI b) (flB b) (-1) (nI j) g1 P
def PlBad (g0 : GM) (np j c b : Nat) (S : Nat → Int32) (E : Nat → Nat) (f : Nat) : Prop := ∀ g1 (P : Int32 → GM → Prop), GI g0 np c S E g1 → (∀ g' x1 c2 S2 E2, GI g0 np c2 S2 E2 g' → ∃ F, wM_plan F 2 x1 0 0 (nI f) 0 g' P) → ∃ F, wM_plan F 1 (nI c) (nI b) (flB b) (-1) (nI j) g1 P
theorem GI.six {c : Nat} {S : Nat → Int32} {E : Nat → Nat} {g1 : GM} (h : GI g0 np c S E g1) : ∀ j, g1.1 j = g0.1 j := fun j => h.1.1 j rfl
section St
variable {B : Nat → Nat} {j c b : Nat} {S : Nat → Int32} {E : Nat → Nat}
theorem plErr (hN : N ≤ 160) (hj : j < N) {F : Nat} {g1 : GM} {x1 x2 x3 : Int32} {P : Int32 → GM → Prop} (h : wM_plan F 2 x1 0 0 (nI j) 0 g1 P) : wM_plan (F + 1) 1 x1 x2 x3 (nI j) (nI (j + 1)) g1 P := by
  rw [wM_plan]
  have n1 : ¬ nI j = -1 := nI_n1 (by omega)
  exact ⟨fun _ => ⟨fun _ => h, fun y => absurd y n1⟩, fun _ => ⟨fun _ => ⟨fun _ => h, fun y => absurd y n1⟩, fun y => absurd y n1⟩⟩
theorem plEndOk (h6 : g0.1 6 = nI N) (hN : N ≤ 160) (hc : c ≤ 24) (c0 : c ≠ 0) : PlOk g0 np N c 0 S E c S E := by
  intro g1 P hg hP
  obtain ⟨F, hF⟩ := hP g1 hg
  refine ⟨F + 1, ?_⟩
  rw [wM_plan, hg.six 6, h6]
  have n1 : ¬ nI c = 0 := nI_ne0 (by omega) (by omega)
  exact br_t (nI_le (Nat.le_refl _) (by omega)) ⟨fun y => absurd rfl y, fun _ => ⟨fun y => absurd rfl y, fun _ => ⟨fun _ => hF, fun y => absurd y n1⟩⟩⟩
theorem plEndBad (h6 : g0.1 6 = nI N) (hN : N ≤ 160) (hc : c ≤ 24) (cb : c = 0 ∨ b ≠ 0) : PlBad g0 np N c b S E N := by
  intro g1 P hg hP
  obtain ⟨F, hF⟩ := hP g1 (nI c) c S E hg
  refine ⟨F + 1, ?_⟩
  rw [wM_plan, hg.six 6, h6]
  refine br_t (nI_le (Nat.le_refl _) (by omega)) ⟨fun y => absurd rfl y, fun _ => ⟨fun _ => hF, fun y => ⟨fun y2 => ?_, fun _ => hF⟩⟩⟩
  rcases cb with z | z
  · exact absurd (by rw [z]; rfl) y2
  · have : flB b = 1 := if_neg z
    rw [this] at y; exact absurd y n10
/-- at a byte -/
theorem plByte (h6 : g0.1 6 = nI N) (h10 : g0.1 10 = nI n) (h33 : g0.1 33 = nI np) (hB : g0.2.1 5 j = nI (B j)) (hBj : B j < 256) (hN : N ≤ 160) (hj : j < N) (hnp : np < 8) (hc : c ≤ 24) {F : Nat} {g1 : GM} {P : Int32 → GM → Prop} (hg : GI g0 np c S E g1)
    (q24 : c = 24 → wM_plan F 1 (nI c) (nI b) (flB b) (nI j) (nI (j + 1)) g1 P)
    (qE : ∀ e, c < 24 → e < 4 → enB (B j) = nI e → wM_plan F 1 (nI (c + 1)) 0 0 (-1) (nI (j + 1)) (sA (sA g1 31 (upd (g1.2.1 31) (24 * np + c) (nI b))) 32 (upd (g1.2.1 32) (24 * np + c) (nI e))) P)
    (qN : c < 24 → enB (B j) = -1 → ini (nI (B j) - 97) 0 (nI n - 1) = 0 → wM_plan F 1 (nI c) (nI b) (flB b) (nI j) (nI (j + 1)) g1 P)
    (qO : c < 24 → enB (B j) = -1 → ini (nI (B j) - 97) 0 (nI n - 1) = 1 → ((nI b >>> ((nI (B j) - 97) &&& 31)) &&& 1) = 1 → wM_plan F 1 (nI c) (nI b) (flB b) (nI j) (nI (j + 1)) g1 P)
    (qS : c < 24 → enB (B j) = -1 → ini (nI (B j) - 97) 0 (nI n - 1) = 1 → ¬ ((nI b >>> ((nI (B j) - 97) &&& 31)) &&& 1) = 1 → wM_plan F 1 (nI c) (nI b ||| ((1 : Int32) <<< ((nI (B j) - 97) &&& 31))) 1 (-1) (nI (j + 1)) g1 P) (hn : n ≤ 8) : wM_plan (F + 1) 1 (nI c) (nI b) (flB b) (-1) (nI j) g1 P := by
  rw [wM_plan, hg.six 6, h6, nI_1 j, nI_1 c, nI_clamp (n := j) (by omega), hg.1.2 5 rfl, hB]
  have hin : vp_in (nI j) 160 := vp_in_nI (by omega) (by decide)
  refine br_f (nI_ge (by omega) (by omega)) ⟨fun y => absurd rfl y, fun _ => ⟨hin, hin, mEnd hBj ?_⟩⟩
  have e24 : nI c = (24 : Int32) ↔ c = 24 := nI_eq (b := 24) (by omega) (by decide)
  refine ⟨fun y => q24 (e24.mp y), fun y => ?_⟩
  have c24 : c < 24 := by
    have z2 : ¬ c = 24 := fun z => y (e24.mpr z)
    omega
  have ix : (24 : Int32) * g1.1 33 + nI c = nI (24 * np + c) := by
    rw [hg.six 33, h33, show (24 : Int32) = nI 24 from rfl, pk_mul, nI_add]
  have hin2 : vp_in (nI (24 * np + c)) 192 := vp_in_nI (by omega) (by decide)
  rw [ix, nI_clamp (n := 24 * np + c) (by omega)]
  rcases enB_c hBj hn with ⟨e, he, ee, _⟩ | ee
  · have n1 : ¬ nI e = -1 := nI_n1 (by omega)
    rw [ee]
    exact ⟨fun _ => ⟨fun _ => ⟨hin2, hin2, qE e c24 he ee⟩, fun z => absurd z n1⟩, fun z => absurd z n1⟩
  · rw [ee]
    refine ⟨fun z => absurd rfl z, fun _ => mOne ((hg.six 10).trans h10) ⟨fun z => qN c24 ee z, fun z => ?_⟩⟩
    have i1 : ini (nI (B j) - 97) 0 (nI n - 1) = 1 := (ini_c _ _ _).resolve_left z
    refine ⟨fun z2 => ⟨fun z3 => absurd rfl z3, fun _ v ev => by rw [ev]; exact qS c24 ee i1 z2⟩, fun z2 => qO c24 ee i1 z2⟩
theorem plBad (h6 : g0.1 6 = nI N) (h10 : g0.1 10 = nI n) (h33 : g0.1 33 = nI np) (hB : g0.2.1 5 j = nI (B j)) (hBj : B j < 256) (hN : N ≤ 160) (hj : j < N) (hnp : np < 8) (hc : c ≤ 24) (hn : n ≤ 8) (hz : c = 24 ∨ (enB (B j) = -1 ∧ (ini (nI (B j) - 97) 0 (nI n - 1) = 0 ∨ ((nI b >>> ((nI (B j) - 97) &&& 31)) &&& 1) = 1))) : PlBad g0 np j c b S E j := by
  intro g1 P hg hP
  obtain ⟨F, hF⟩ := hP g1 (nI c) c S E hg
  have ab : ¬ c = 24 → (enB (B j) = -1 ∧ (ini (nI (B j) - 97) 0 (nI n - 1) = 0 ∨ ((nI b >>> ((nI (B j) - 97) &&& 31)) &&& 1) = 1)) := fun y => hz.resolve_left y
  refine ⟨F + 1 + 1, plByte h6 h10 h33 hB hBj hN hj hnp hc hg (fun _ => plErr hN hj hF) (fun e y he ee => ?_) (fun _ _ _ => plErr hN hj hF) (fun _ _ _ _ => plErr hN hj hF) (fun y ee i1 z => ?_) hn⟩
  · have := (ab (by omega)).1
    rw [ee] at this
    exact absurd this (nI_n1 (by omega))
  · rcases (ab (by omega)).2 with w | w
    · rw [i1] at w; exact absurd w n10
    · exact absurd w z
/-- an END: the TRIAL is written down -/
theorem GI.put {g1 : GM} {e : Nat} (hg : GI g0 np c S E g1) : GI g0 np (c + 1) (upd S c (nI b)) (fun i => if i = c then e else E i) (sA (sA g1 31 (upd (g1.2.1 31) (24 * np + c) (nI b))) 32 (upd (g1.2.1 32) (24 * np + c) (nI e))) := by
  refine ⟨(hg.1.a_ rfl).a_ rfl, fun y hy => ?_, fun i hi => ?_⟩
  · show upd (g1.2.1 31) (24 * np + c) (nI b) y = _ ∧ upd (g1.2.1 32) (24 * np + c) (nI e) y = _
    rw [pk_un (by omega), pk_un (by omega)]; exact hg.2.1 y hy
  · show upd (g1.2.1 31) (24 * np + c) (nI b) (24 * np + i) = upd S c (nI b) i ∧ upd (g1.2.1 32) (24 * np + c) (nI e) (24 * np + i) = nI (if i = c then e else E i)
    by_cases y : i = c
    · rw [y, pk_us, pk_us, pk_us, if_pos rfl]; exact ⟨rfl, rfl⟩
    · have a1 : upd (g1.2.1 31) (24 * np + c) (nI b) (24 * np + i) = g1.2.1 31 (24 * np + i) := pk_un (by omega)
      have a2 : upd (g1.2.1 32) (24 * np + c) (nI e) (24 * np + i) = g1.2.1 32 (24 * np + i) := pk_un (by omega)
      rw [a1, a2, pk_un y, if_neg y]; exact hg.2.2 i (by omega)
/-- the state behind a byte, where the reading goes on -/
def NxP (B : Nat → Nat) (n j c b : Nat) (S : Nat → Int32) (E : Nat → Nat) (c2 b2 : Nat) (S2 : Nat → Int32) (E2 : Nat → Nat) : Prop := c < 24 ∧ ((∃ e, e < 4 ∧ enB (B j) = nI e ∧ c2 = c + 1 ∧ b2 = 0 ∧ S2 = upd S c (nI b) ∧ E2 = fun i => if i = c then e else E i) ∨ (enB (B j) = -1 ∧ ini (nI (B j) - 97) 0 (nI n - 1) = 1 ∧ ¬ ((nI b >>> ((nI (B j) - 97) &&& 31)) &&& 1) = 1 ∧ c2 = c ∧ S2 = S ∧ E2 = E ∧ b2 ≠ 0 ∧ nI b ||| ((1 : Int32) <<< ((nI (B j) - 97) &&& 31)) = nI b2))
theorem plGo {c2 b2 : Nat} {S2 : Nat → Int32} {E2 : Nat → Nat} (h6 : g0.1 6 = nI N) (h10 : g0.1 10 = nI n) (h33 : g0.1 33 = nI np) (hB : g0.2.1 5 j = nI (B j)) (hBj : B j < 256) (hN : N ≤ 160) (hj : j < N) (hnp : np < 8) (hn : n ≤ 8) (hx : NxP B n j c b S E c2 b2 S2 E2) {g1 : GM} {P : Int32 → GM → Prop} (hg : GI g0 np c S E g1) (q : ∀ g2, GI g0 np c2 S2 E2 g2 → ∃ F, wM_plan F 1 (nI c2) (nI b2) (flB b2) (-1) (nI (j + 1)) g2 P) : ∃ F, wM_plan F 1 (nI c) (nI b) (flB b) (-1) (nI j) g1 P := by
  obtain ⟨c24, ⟨e, he, ee, rfl, rfl, rfl, rfl⟩ | ⟨ee, i1, z, rfl, rfl, rfl, b0, eb⟩⟩ := hx
  · obtain ⟨F, hF⟩ := q _ (hg.put (b := b) (e := e))
    refine ⟨F + 1, plByte h6 h10 h33 hB hBj hN hj hnp (by omega) hg (fun y => by omega) (fun e' _ he' ee' => ?_) (fun _ y => ?_) (fun _ y => ?_) (fun _ y => ?_) hn⟩
    · have : e' = e := (nI_eq (by omega) (by omega)).mp (ee'.symm.trans ee)
      subst this; exact hF
    all_goals exact absurd (ee.symm.trans y) (nI_n1 (by omega))
  · obtain ⟨F, hF⟩ := q _ hg
    have f1 : flB b2 = 1 := if_neg b0
    rw [f1, ← eb] at hF
    refine ⟨F + 1, plByte h6 h10 h33 hB hBj hN hj hnp (by omega) hg (fun y => by omega) (fun e' _ he' ee' => absurd (ee'.symm.trans ee) (nI_n1 (by omega))) (fun _ _ y => absurd (i1.symm.trans y) n10) (fun _ _ _ y => absurd y z) (fun _ _ _ _ => hF) hn⟩
end St
section Lc
variable {B : Nat → Nat}
theorem cByteP {j : Nat} {Q : Int32 → KC → Prop} (h5 : k.1 5 1 = nI N) (hN : N ≤ 160) (hj : j < N) (hB : k.2.1 5 0 j = nI (B j)) (q : Q (nI (B j)) k) : wC_X4_byteAt (nI j) k Q := by
  unfold wC_X4_byteAt
  rw [h5, nI_clamp (n := j) (by omega), hB]
  refine br_f (nI_pos (by omega)) (br_f (fun z => ?_) ⟨vp_in_nI (by omega) (by decide), q⟩)
  have := (nI_leI (a := N) (b := j) (by omega) (by omega)).mp z
  omega
theorem cPlL {Q : Option Dn → KC → Prop} (h5 : k.1 5 1 = nI N) (hk : ∀ i, i < N → k.2.1 5 0 i = nI (B i)) (h6 : g0.1 6 = nI N) (h10 : g0.1 10 = nI n) (h33 : g0.1 33 = nI np) (hB : ∀ i, i < N → g0.2.1 5 i = nI (B i)) (hB8 : ∀ i, B i < 256) (hN : N ≤ 160) (hnp : np < 8) (hn : n ≤ 8) : ∀ (m j c b : Nat) (S : Nat → Int32) (E : Nat → Nat) (k1 : KC), N - j = m → j ≤ N → c ≤ 24 → b < 256 → (∀ i, i < c → E i < 4) → FrC oSv oSv k k1 → (∀ i, i < c → k1.2.1 7 0 i = S i ∧ k1.2.1 7 1 i = nI (E i)) →
    (∀ (d : Dn) c' S' E' k2, c' ≤ 24 → d.2.2.2.1 = c' → (∀ i, i < c' → d.2.2.2.2.1 i = S' i ∧ d.2.2.2.2.2 i = nI (E' i) ∧ E' i < 4) → PlOk g0 np j c b S E c' S' E' → FrC oSv oSv k k2 → Q (some d) k2) →
    (∀ f k2, f ≤ 160 → FrC oSv oSv k k2 → k2.1 7 2 = nI f → PlBad g0 np j c b S E f → Q none k2) → wC_X2_read (m + 1) 1 (nI n) (nI c) (nI b) (nI j) k1 Q := by
  intro m
  induction m with
  | zero =>
    intro j c b S E k1 hm hj hc hb hE f hr qk qb
    have ej : j = N := by omega
    subst ej
    rw [wC_X2_read]
    any_goals (intro h9; exact absurd h9 (by decide))
    rw [f.1 5 1 rfl, h5]
    refine br_t (nI_le (Nat.le_refl _) (by omega)) ⟨fun y => ?_, fun y => ⟨fun y2 => ?_, fun y2 => ?_⟩⟩
    · have c0 : c = 0 := (nI_eq (b := 0) (by omega) (by decide)).mp y
      exact ⟨rfl, qb j _ (by omega) (f.i_ rfl) rfl (plEndBad h6 hN hc (Or.inl c0))⟩
    · have c0 : c ≠ 0 := fun z => y (by rw [z]; rfl)
      have b0 : b = 0 := (nI_eq (b := 0) (by omega) (by decide)).mp y2
      subst b0
      unfold nplan
      rw [nI_clamp (n := c) (by omega)]
      exact ⟨nI_pos (by omega), hc, fun d d1 d2 d3 => qk d c S E k1 hc d1 (fun i hi => ⟨(d2 i (by omega)).trans (hr i hi).1, (d3 i (by omega)).trans (hr i hi).2, hE i hi⟩) (plEndOk h6 hN hc c0) f⟩
    · have b0 : b ≠ 0 := fun z => y2 (by rw [z]; rfl)
      exact ⟨rfl, qb j _ (by omega) (f.i_ rfl) rfl (plEndBad h6 hN hc (Or.inr b0))⟩
  | succ m ih =>
    intro j c b S E k1 hm hj hc hb hE f hr qk qb
    have hjN : j < N := by omega
    rw [wC_X2_read]
    any_goals (intro h9; exact absurd h9 (by decide))
    have k5 : k1.1 5 1 = nI N := (f.1 5 1 rfl).trans h5
    have kb : k1.2.1 5 0 j = nI (B j) := by rw [f.2.1 5 0 rfl]; exact hk j hjN
    rw [k5]
    refine br_f (nI_ge (a := j) (b := N) (by omega) (by omega)) (cByteP k5 hN hjN kb (cByteP k5 hN hjN kb (cEnd (hB8 j) ?_)))
    have e24 : nI c = (24 : Int32) ↔ c = 24 := nI_eq (b := 24) (by omega) (by decide)
    have gB := hB j hjN
    have ref : ∀ {A : Prop}, (c = 24 ∨ (enB (B j) = -1 ∧ (ini (nI (B j) - 97) 0 (nI n - 1) = 0 ∨ ((nI b >>> ((nI (B j) - 97) &&& 31)) &&& 1) = 1))) → wC_X2_refused (nI j) k1 (fun r_18 k_18 => (r_18 = none ∧ Q none k_18)) := fun hz => ⟨rfl, qb j _ (by omega) (f.i_ rfl) rfl (plBad h6 h10 h33 gB (hB8 j) hN hjN hnp hc hn hz)⟩
    refine ⟨fun y => ?_, fun y => ref (A := True) (Or.inl (e24.mp y))⟩
    have c24 : c < 24 := by
      have z2 : ¬ c = 24 := fun z => y (e24.mpr z)
      omega
    -- what follows, where the reading goes on
    have go : ∀ c2 b2 S2 E2 k2, NxP B n j c b S E c2 b2 S2 E2 → c2 ≤ 24 → b2 < 256 → (∀ i, i < c2 → E2 i < 4) → FrC oSv oSv k k2 → (∀ i, i < c2 → k2.2.1 7 0 i = S2 i ∧ k2.2.1 7 1 i = nI (E2 i)) → wC_X2_read (m + 1) 1 (nI n) (nI c2) (nI b2) (nI (j + 1)) k2 Q := by
      intro c2 b2 S2 E2 k2 hx h2 hb2 hE2 f2 hr2
      refine ih (j + 1) c2 b2 S2 E2 k2 (by omega) (by omega) h2 hb2 hE2 f2 hr2 (fun d c' S' E' k3 z1 z2 z3 z4 z5 => qk d c' S' E' k3 z1 z2 z3 ?_ z5) (fun f' k3 z0 z1 z2 z3 => qb f' k3 z0 z1 z2 ?_)
      · intro g1 P hg hP
        exact plGo h6 h10 h33 gB (hB8 j) hN hjN hnp hn hx hg (fun g2 hg2 => z4 g2 P hg2 hP)
      · intro g1 P hg hP
        exact plGo h6 h10 h33 gB (hB8 j) hN hjN hnp hn hx hg (fun g2 hg2 => z3 g2 P hg2 hP)
    rw [nI_1 j, nI_1 c, nI_clamp (n := c) (by omega)]
    have hin : vp_in (nI c) 24 := vp_in_nI c24 (by decide)
    refine cWithin ?_
    rcases enB_c (hB8 j) hn with ⟨e, he, ee, i0⟩ | ee
    · rw [i0, ee]
      refine br_t rfl (br_f (nI_n1 (by omega)) ⟨hin, hin, ?_⟩)
      refine go (c + 1) 0 (upd S c (nI b)) (fun i => if i = c then e else E i) _ ⟨c24, Or.inl ⟨e, he, ee, rfl, rfl, rfl, rfl⟩⟩ (by omega) (by decide) (fun i hi => ?_) ((f.a_ rfl).a_ rfl) (fun i hi => ?_)
      · show (if i = c then e else E i) < 4
        by_cases z : i = c
        · rw [if_pos z]; exact he
        · rw [if_neg z]; exact hE i (by omega)
      · show upd (k1.2.1 7 0) c (nI b) i = upd S c (nI b) i ∧ upd (k1.2.1 7 1) c (nI e) i = nI (if i = c then e else E i)
        by_cases z : i = c
        · rw [z, pk_us, pk_us, pk_us, if_pos rfl]; exact ⟨rfl, rfl⟩
        · rw [pk_un z, pk_un z, pk_un z, if_neg z]; exact hr i (by omega)
    · rw [ee]
      rcases ini_c (nI (B j) - 97) 0 (nI n - 1) with i0 | i1
      · rw [i0]
        exact br_t rfl (br_t rfl (ref (A := True) (Or.inr ⟨ee, Or.inl i0⟩)))
      · rw [i1]
        refine br_f n10 ?_
        unfold wC_isOn
        refine ⟨fun z => br1 rfl ?_, fun z => br0 n10 (br_t rfl (ref (A := True) (Or.inr ⟨ee, Or.inr z⟩)))⟩
        obtain ⟨s, hs, es⟩ := ini_idx (by omega) i1
        obtain ⟨o1, o2, o3⟩ := or_bit b hb s (by omega)
        rw [es, o1]
        exact go c (b ||| 2 ^ s) S E k1 ⟨c24, Or.inr ⟨ee, i1, z, rfl, rfl, rfl, o3, by rw [es]; exact o1⟩⟩ hc o2 hE f hr
end Lc
theorem op_plan (h : Rel t k g) : wC_plan_ k (fun r k' => ∃ y, wM_plan y 0 0 0 0 0 0 g (fun r' g' => r = r' ∧ Rel (t + 1) k' g')) := by
  obtain ⟨n, nt, np, nw, N, h⟩ := h
  have hu := h.up
  obtain ⟨p1, p2, p3, p4⟩ := h.2.2.1
  obtain ⟨b1, b2, b3, b4⟩ := h.2.2.2.2.2.2.2.2.1
  have hn8 : n ≤ 8 := h.1.1
  have fin : ∀ v : Int32, v = v ∧ Rel (t + 1) k g := fun v => ⟨rfl, _, _, _, _, _, hu⟩
  unfold wC_plan_
  rw [p2]
  refine ⟨fun c => ?_, fun c => ?_⟩
  rotate_left
  · have e6 : np = 8 := by
      have : ¬ np < 8 := fun y => c (nI_lt (b := 8) y (by decide))
      omega
    refine ⟨1, ?_⟩
    rw [wM_plan, p3, e6]
    exact br1 rfl (fin _)
  have hn : np < 8 := (nI_ltI (a := np) (b := 8) (by omega) (by decide)).mp c
  have hB8 : ∀ i, (g.2.1 5 i).toNatClampNeg % 256 < 256 := fun i => Nat.mod_lt _ (by decide)
  have hB : ∀ i, i < N → g.2.1 5 i = nI ((g.2.1 5 i).toNatClampNeg % 256) := fun i hi => by
    obtain ⟨_, b, hb, eb⟩ := b4 i hi
    rw [eb, nI_clamp (by omega), Nat.mod_eq_of_lt hb]
  have M0 : ∀ P : Int32 → GM → Prop, (∃ y, wM_plan y 1 (nI 0) (nI 0) (flB 0) (-1) (nI 0) g P) → ∃ y, wM_plan y 0 0 0 0 0 0 g P := fun P ⟨y, hy⟩ => ⟨y + 1, by
    rw [wM_plan, p3]
    refine br0 (fun e => ?_) hy
    have := (nI_eq (a := np) (b := 8) (by omega) (by decide)).mp e
    omega⟩
  have seven : ∀ k2, FrC oSv oSv k k2 → RelA (t + 1) n nt np nw N k2 g ∧ k2.1 1 2 = nI np := fun k2 f => ⟨hu.zC (f.mono (fun x y e => by
    unfold sZ at e
    exact (Bool.or_eq_false_iff.mp (Bool.or_eq_false_iff.mp (Bool.or_eq_false_iff.mp e).2).2).1) (fun x y e => by
    unfold aZ at e
    exact (Bool.or_eq_false_iff.mp (Bool.or_eq_false_iff.mp (Bool.or_eq_false_iff.mp e).2).2).1)) (fun s hs => by rw [f.2.1 4 1 rfl, f.2.1 4 2 rfl]; exact h.2.2.2.2.2.2.2.2.2 s hs), (f.1 1 2 rfl).trans p2⟩
  have g00 : GI g np 0 (fun _ => 0) (fun _ => 0) g := ⟨FrH.rf, fun _ _ => ⟨rfl, rfl⟩, fun i hi => absurd hi (Nat.not_lt_zero i)⟩
  have fr6 : ∀ {c S E g'}, GI g np c S E g' → ∀ x1 : Int32, FrH s6 aPn g (sI (sA (sI g' 6 0) 30 (upd (g'.2.1 30) np x1)) 33 (nI (np + 1))) → True := fun _ _ _ => trivial
  refine ⟨N - 0 + 1 + 1, ?_⟩
  rw [wC_X2_read, h.1.2.1]
  refine cPlL (B := fun i => (g.2.1 5 i).toNatClampNeg % 256) (g0 := g) b2 (fun i hi => (b4 i hi).1.trans (hB i hi)) b3 h.1.2.2.1 p3 hB hB8 b1 hn hn8 (N - 0) 0 0 0 (fun _ => 0) (fun _ => 0) k rfl (Nat.zero_le _) (by decide) (by decide) (fun i hi => absurd hi (Nat.not_lt_zero i)) FrC.rf (fun i hi => absurd hi (Nat.not_lt_zero i)) (fun d c' S' E' k2 z1 z2 z3 z4 f => ⟨(fun e => by cases e), fun d2 ed => ?_⟩) (fun f1 k2 f160 f e7 z3 => ⟨fun _ => ?_, (fun d2 ed => by cases ed)⟩)
  · have ed2 : d = d2 := Option.some.inj ed
    subst ed2
    obtain ⟨r2, n2⟩ := seven k2 f
    rw [n2, nI_clamp (n := np) (by omega), nI_1 np]
    refine ⟨vp_in_nI hn (by decide), M0 _ (z4 g _ g00 (fun g' hg => ⟨1, ?_⟩))⟩
    rw [wM_plan]
    any_goals (intro h9; exact absurd h9 (by decide))
    have e33 : g'.1 33 = nI np := (hg.six 33).trans p3
    rw [e33, nI_clamp (n := np) (by omega), nI_1 np]
    refine br_t rfl ⟨vp_in_nI hn (by decide), rfl, n, nt, np + 1, nw, 0, ?_⟩
    have q0 := r2.pln0 (k' := cI k2 5 1 0) (g' := sA (sI g' 6 0) 30 (upd (g'.2.1 30) np (nI c'))) (FrC.rf.i_ rfl) ⟨fun j e => ?_, fun j e => ?_⟩ (fun x hx => ⟨?_, fun i hi => ?_⟩) ⟨Nat.zero_le _, rfl, rfl, fun i hi => absurd hi (Nat.not_lt_zero i)⟩
    · exact q0.pln1 (d := d) (p := (c', S', E')) hn z2 z1 z3 ⟨hn, pk_us, z1, fun i hi => ⟨(hg.2.2 i hi).1, (hg.2.2 i hi).2, (z3 i hi).2.2⟩⟩
    · have e1 := bor_f e
      show (bif Nat.beq j 6 then (0 : Int32) else g'.1 j) = _
      rw [e1.1]; exact hg.six j
    · have e1 := bor_f e
      show (bif Nat.beq j 30 then upd (g'.2.1 30) np (nI c') else g'.2.1 j) = _
      rw [e1.1]; exact hg.1.2 j e1.2
    · show upd (g'.2.1 30) np (nI c') x = _
      rw [pk_un (by omega), hg.1.2 30 rfl]
    · exact hg.2.1 (24 * x + i) (by omega)
  · obtain ⟨r2, n2⟩ := seven k2 f
    rw [e7]
    refine M0 _ (z3 g _ g00 (fun g' x1 c2 S2 E2 hg => ⟨1, ?_⟩))
    rw [wM_plan]
    any_goals (intro h9; exact absurd h9 (by decide))
    refine br_f (nI_n1 (by omega)) ⟨rfl, n, nt, np, nw, 0, ?_⟩
    exact r2.pln0 (k' := cI k2 5 1 0) (g' := sI g' 6 0) (FrC.rf.i_ rfl) ⟨fun j e => by
      have e1 := bor_f e
      show (bif Nat.beq j 6 then (0 : Int32) else g'.1 j) = _
      rw [e1.1]; exact hg.six j, fun j e => hg.1.2 j (bor_f e).2⟩ (fun x hx => ⟨by
      show g'.2.1 30 x = _
      rw [hg.1.2 30 rfl], fun i hi => hg.2.1 (24 * x + i) (by omega)⟩) ⟨Nat.zero_le _, rfl, rfl, fun i hi => absurd hi (Nat.not_lt_zero i)⟩
end Pn
