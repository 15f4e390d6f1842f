/-! ===== days that are only thought through ===== -/
def cpU (j : Nat) (a b : Nat → Int32) : Nat → Int32 := fun s => if s < j then a s else b s
theorem cpU_0 {a b : Nat → Int32} : cpU 0 a b = b := by
  funext s
  exact if_neg (Nat.not_lt_zero s)
theorem cpU_s {j : Nat} {a b : Nat → Int32} : upd (cpU j a b) j (a j) = cpU (j + 1) a b := by
  funext s
  show (if s = j then a j else if s < j then a s else b s) = if s < j + 1 then a s else b s
  by_cases e : s = j
  · subst e
    rw [if_pos rfl, if_pos (Nat.lt_succ_self s)]
  · rw [if_neg e]
    by_cases c : s < j
    · rw [if_pos c, if_pos (by omega)]
    · rw [if_neg c, if_neg (by omega)]
theorem cpU_j {j : Nat} {a b : Nat → Int32} : cpU j a b j = b j := if_neg (Nat.lt_irrefl j)
theorem cpU_in {j s : Nat} {a b : Nat → Int32} (h : s < j) : cpU j a b s = a s := if_pos h
theorem cpU_out {j s : Nat} {a b : Nat → Int32} (h : j ≤ s) : cpU j a b s = b s := if_neg (Nat.not_lt.mpr h)
def sAs (j : Nat) : Bool := bor j 14 (bor j 15 (bor j 16 (sZm j)))
def aAs (j : Nat) : Bool := bor j 8 (bor j 9 (aZm j))
theorem sDy_As {j : Nat} (h : sAs j = false) : sDy j = false := by
  obtain ⟨h1, h⟩ := bor_f h
  obtain ⟨h2, h⟩ := bor_f h
  obtain ⟨h3, h⟩ := bor_f h
  exact bor_i h2 (bor_i h3 (sRd_Zm h))
def AsOk (n : Nat) (g0 g : GM) : Prop := FrH sAs aAs g0 g ∧ (∀ s, s < n → g.2.1 37 s = g0.2.1 8 s ∧ g.2.1 38 s = g0.2.1 9 s) ∧ (∀ s, n ≤ s → g.2.1 8 s = g0.2.1 8 s ∧ g.2.1 9 s = g0.2.1 9 s) ∧ g.1 39 = g0.1 15 ∧ g.1 40 = g0.1 16 ∧ g.1 41 = g0.1 14
theorem FrH.dyAs {g g' : GM} (f : FrH sDy aDy g g') (h35 : g'.2.1 35 = g.2.1 35) (h36 : g'.2.1 36 = g.2.1 36) : FrH sAs aAs g g' := by
  refine ⟨fun j e => f.1 j (sDy_As e), fun j e => ?_⟩
  cases h : Nat.beq j 35 with
  | true => rw [Nat.eq_of_beq_eq_true h]; exact h35
  | false =>
    cases h' : Nat.beq j 36 with
    | true => rw [Nat.eq_of_beq_eq_true h']; exact h36
    | false =>
      obtain ⟨a1, e⟩ := bor_f e
      obtain ⟨a2, e⟩ := bor_f e
      obtain ⟨a3, e⟩ := bor_f e
      exact f.2 j (bor_i a1 (bor_i a2 (bor_i a3 (bor_i h (bor_i h' rfl)))))
theorem AsOk.day {n : Nat} {g0 g g' : GM} (h : AsOk n g0 g) (f : FrH sDy aDy g g') (h35 : g'.2.1 35 = g.2.1 35) (h36 : g'.2.1 36 = g.2.1 36) (hz : ∀ s, n ≤ s → g'.2.1 8 s = g.2.1 8 s ∧ g'.2.1 9 s = g.2.1 9 s) : AsOk n g0 g' :=
  ⟨h.1.tr (f.dyAs h35 h36), fun s hs => by rw [f.2 37 rfl, f.2 38 rfl]; exact h.2.1 s hs, fun s hs => ⟨(hz s hs).1.trans (h.2.2.1 s hs).1, (hz s hs).2.trans (h.2.2.1 s hs).2⟩, (f.1 39 rfl).trans h.2.2.2.1, (f.1 40 rfl).trans h.2.2.2.2.1, (f.1 41 rfl).trans h.2.2.2.2.2⟩
theorem sAs_Rd {j : Nat} (h : sAs j = false) : sRd j = false := sRd_Zm (bor_f (bor_f (bor_f h).2).2).2
theorem AsOk.rd {n : Nat} {g0 g g' : GM} (h : AsOk n g0 g) (f : FrG sRd g g') : AsOk n g0 g' :=
  ⟨h.1.tr ⟨fun j e => f.1 j (sAs_Rd e), fun j _ => by rw [f.2]⟩, by rw [f.2]; exact h.2.1, by rw [f.2]; exact h.2.2.1, (f.1 39 rfl).trans h.2.2.2.1, (f.1 40 rfl).trans h.2.2.2.2.1, (f.1 41 rfl).trans h.2.2.2.2.2⟩
section As
variable {w : Wd} {m : Md} {r n N : Nat} {B : Nat → Nat} {g g0 : GM} {k : KC}
theorem mAside {Q : GM → Prop} (b : Bool) (hn : n ≤ 8) (h10 : g.1 10 = nI n) (q : ∀ g', AsOk n g g' → g'.2.1 8 = (if b = true then cpU n (fun _ => 0) (g.2.1 8) else g.2.1 8) → g'.2.1 9 = (if b = true then cpU n (fun _ => 0) (g.2.1 9) else g.2.1 9) → g'.1 15 = (if b = true then 0 else g.1 15) → g'.1 16 = (if b = true then 0 else g.1 16) → g'.1 14 = g.1 14 → FrH (fun j => bor j 15 (bor j 16 (bor j 39 (bor j 40 (bor j 41 false))))) (fun j => bor j 8 (bor j 9 (bor j 37 (bor j 38 false)))) g g' → Q g') : ∃ x, wM_laysAside x 0 (if b = true then 1 else 0) 0 g Q := by
  have L : ∀ (c j : Nat) (g1 : GM), n - j = c → j ≤ n → FrH (fun j => bor j 15 (bor j 16 (bor j 39 (bor j 40 (bor j 41 false))))) (fun j => bor j 8 (bor j 9 (bor j 37 (bor j 38 false)))) g g1 → g1.2.1 8 = (if b = true then cpU j (fun _ => 0) (g.2.1 8) else g.2.1 8) → g1.2.1 9 = (if b = true then cpU j (fun _ => 0) (g.2.1 9) else g.2.1 9) → (∀ s, s < j → g1.2.1 37 s = g.2.1 8 s ∧ g1.2.1 38 s = g.2.1 9 s) → g1.1 15 = g.1 15 → g1.1 16 = g.1 16 → wM_laysAside (c + 1) 1 (if b = true then 1 else 0) (nI j) g1 Q := by
    intro c
    induction c with
    | zero =>
      intro j g1 hc hj f e8 e9 e37 e15 e16
      have ej : j = n := by omega
      subst ej
      rw [wM_laysAside]
      any_goals (intro h9; exact absurd h9 (by decide))
      have h10' : g1.1 10 = nI j := (f.1 10 rfl).trans h10
      rw [h10']
      have fin : ∀ (v15 v16 : Int32), v15 = (if b = true then 0 else g.1 15) → v16 = (if b = true then 0 else g.1 16) → Q (sI (sI (sI (sI (sI g1 39 (g1.1 15)) 40 (g1.1 16)) 41 (g1.1 14)) 15 v15) 16 v16) := by
        intro v15 v16 z15 z16
        have ff : FrH (fun j => bor j 15 (bor j 16 (bor j 39 (bor j 40 (bor j 41 false))))) (fun j => bor j 8 (bor j 9 (bor j 37 (bor j 38 false)))) g (sI (sI (sI (sI (sI g1 39 (g1.1 15)) 40 (g1.1 16)) 41 (g1.1 14)) 15 v15) 16 v16) := ((((f.i_ rfl).i_ rfl).i_ rfl).i_ rfl).i_ rfl
        refine q _ ⟨ff.mono (fun i e => ?_) (fun i e => ?_), e37, fun s hs => ?_, e15, e16, (f.1 14 rfl)⟩ e8 e9 z15 z16 (f.1 14 rfl) ff
        · obtain ⟨a1, e⟩ := bor_f e
          obtain ⟨a2, e⟩ := bor_f e
          obtain ⟨a3, e⟩ := bor_f e
          obtain ⟨a4, e⟩ := bor_f e
          obtain ⟨a5, e⟩ := bor_f e
          obtain ⟨a6, e⟩ := bor_f e
          exact bor_i a2 (bor_i a3 (bor_i a4 (bor_i a5 (bor_i a6 rfl))))
        · obtain ⟨a1, e⟩ := bor_f e
          obtain ⟨a2, e⟩ := bor_f e
          obtain ⟨a3, e⟩ := bor_f e
          obtain ⟨a4, e⟩ := bor_f e
          obtain ⟨a5, e⟩ := bor_f e
          exact bor_i a1 (bor_i a2 (bor_i a4 (bor_i a5 rfl)))
        · show g1.2.1 8 s = _ ∧ g1.2.1 9 s = _
          rw [e8, e9]
          cases b with
          | false => exact ⟨rfl, rfl⟩
          | true => rw [if_pos rfl, if_pos rfl]; exact ⟨cpU_out hs, cpU_out hs⟩
      refine br_t (nI_le (Nat.le_refl _) (by omega)) ?_
      cases b with
      | false => exact br_t rfl (br_t rfl (fin _ _ e15 e16))
      | true => exact br_f n10 (br_f n10 (fin _ _ rfl rfl))
    | succ c ih =>
      intro j g1 hc hj f e8 e9 e37 e15 e16
      rw [wM_laysAside]
      any_goals (intro h9; exact absurd h9 (by decide))
      have h10' : g1.1 10 = nI n := (f.1 10 rfl).trans h10
      rw [h10', nI_1, nI_clamp (by omega)]
      have hin : vp_in (nI j) 8 := vp_in_nI (by omega) (by decide)
      refine br_f (nI_ge (by omega) (by omega)) ⟨hin, hin, hin, hin, ?_⟩
      have old8 : g1.2.1 8 j = g.2.1 8 j := by
        rw [e8]
        cases b with
        | false => rfl
        | true => rw [if_pos rfl]; exact cpU_j
      have old9 : g1.2.1 9 j = g.2.1 9 j := by
        rw [e9]
        cases b with
        | false => rfl
        | true => rw [if_pos rfl]; exact cpU_j
      cases b with
      | false =>
        refine br_t rfl ⟨hin, hin, br_t rfl ⟨hin, hin, ?_⟩⟩
        refine ih (j + 1) _ (by omega) (by omega) ((((f.a_ rfl).a_ rfl).a_ rfl).a_ rfl) ?_ ?_ (fun s hs => ?_) e15 e16
        · show upd (g1.2.1 8) j (g1.2.1 8 j) = _
          rw [updz rfl]; exact e8
        · show upd (g1.2.1 9) j (g1.2.1 9 j) = _
          rw [updz rfl]; exact e9
        · show upd (g1.2.1 37) j (g1.2.1 8 j) s = _ ∧ upd (g1.2.1 38) j (g1.2.1 9 j) s = _
          by_cases es : s = j
          · rw [es, pk_us, pk_us]; exact ⟨old8, old9⟩
          · rw [pk_un es, pk_un es]; exact e37 s (by omega)
      | true =>
        refine br_f n10 ⟨hin, br_f n10 ⟨hin, ?_⟩⟩
        refine ih (j + 1) _ (by omega) (by omega) ((((f.a_ rfl).a_ rfl).a_ rfl).a_ rfl) ?_ ?_ (fun s hs => ?_) e15 e16
        · show upd (g1.2.1 8) j 0 = _
          rw [e8]
          exact cpU_s (a := fun _ => 0)
        · show upd (g1.2.1 9) j 0 = _
          rw [e9]
          exact cpU_s (a := fun _ => 0)
        · show upd (g1.2.1 37) j (g1.2.1 8 j) s = _ ∧ upd (g1.2.1 38) j (g1.2.1 9 j) s = _
          by_cases es : s = j
          · rw [es, pk_us, pk_us]; exact ⟨old8, old9⟩
          · rw [pk_un es, pk_un es]; exact e37 s (by omega)
  refine ⟨n - 0 + 1 + 1, ?_⟩
  rw [wM_laysAside]
  refine L _ 0 g rfl (Nat.zero_le _) FrH.rf ?_ ?_ (fun s hs => absurd hs (Nat.not_lt_zero s)) rfl rfl
  · cases b with
    | false => rfl
    | true => exact cpU_0.symm
  · cases b with
    | false => rfl
    | true => exact cpU_0.symm
theorem mBack {Q : GM → Prop} (hn : n ≤ 8) (h : AsOk n g0 g) (h10 : g0.1 10 = nI n) (q : ∀ g', FrH sZm aZm g0 g' → (∀ j, sAs j = true → sZm j = true → g'.1 j = g.1 j) → Q g') : ∃ x, wM_laysBack x 0 0 g Q := by
  obtain ⟨hf, h37, h8, h39, h40, h41⟩ := h
  have L : ∀ (c j : Nat) (g1 : GM), n - j = c → j ≤ n → g1.1 = g.1 → (∀ i, aAs i = false → g1.2.1 i = g0.2.1 i) → (∀ s, s < j → g1.2.1 8 s = g0.2.1 8 s ∧ g1.2.1 9 s = g0.2.1 9 s) → (∀ s, n ≤ s → g1.2.1 8 s = g0.2.1 8 s ∧ g1.2.1 9 s = g0.2.1 9 s) → (∀ s, s < n → g1.2.1 37 s = g0.2.1 8 s ∧ g1.2.1 38 s = g0.2.1 9 s) → wM_laysBack (c + 1) 1 (nI j) g1 Q := by
    intro c
    induction c with
    | zero =>
      intro j g1 hc hj e1 e2 e3 e4 e5
      have ej : j = n := by omega
      subst ej
      rw [wM_laysBack]
      any_goals (intro h9; exact absurd h9 (by decide))
      have h10' : g1.1 10 = nI j := by rw [e1]; exact (hf.1 10 rfl).trans h10
      rw [h10']
      have f8 : g1.2.1 8 = g0.2.1 8 := funext fun s => by
        rcases Nat.lt_or_ge s j with z | z
        · exact (e3 s z).1
        · exact (e4 s z).1
      have f9 : g1.2.1 9 = g0.2.1 9 := funext fun s => by
        rcases Nat.lt_or_ge s j with z | z
        · exact (e3 s z).2
        · exact (e4 s z).2
      refine br_t (nI_le (Nat.le_refl _) (by omega)) (q _ ⟨fun i e => ?_, fun i e => ?_⟩ (fun i e e' => ?_))
      · show (bif Nat.beq i 14 then g1.1 41 else (bif Nat.beq i 16 then g1.1 40 else (bif Nat.beq i 15 then g1.1 39 else g1.1 i))) = g0.1 i
        rw [e1]
        cases c14 : Nat.beq i 14 with
        | true => rw [Nat.eq_of_beq_eq_true c14]; exact h41
        | false =>
          cases c16 : Nat.beq i 16 with
          | true => rw [Nat.eq_of_beq_eq_true c16]; exact h40
          | false =>
            cases c15 : Nat.beq i 15 with
            | true => rw [Nat.eq_of_beq_eq_true c15]; exact h39
            | false => exact hf.1 i (bor_i c14 (bor_i c15 (bor_i c16 e)))
      · show g1.2.1 i = g0.2.1 i
        cases c8 : Nat.beq i 8 with
        | true => rw [Nat.eq_of_beq_eq_true c8]; exact f8
        | false =>
          cases c9 : Nat.beq i 9 with
          | true => rw [Nat.eq_of_beq_eq_true c9]; exact f9
          | false => exact e2 i (bor_i c8 (bor_i c9 e))
      · show (bif Nat.beq i 14 then g1.1 41 else (bif Nat.beq i 16 then g1.1 40 else (bif Nat.beq i 15 then g1.1 39 else g1.1 i))) = g.1 i
        rw [e1]
        have n14 : Nat.beq i 14 = false := Bool.eq_false_iff.mpr (fun z => by rw [Nat.eq_of_beq_eq_true z] at e'; exact absurd e' (by decide))
        have n15 : Nat.beq i 15 = false := Bool.eq_false_iff.mpr (fun z => by rw [Nat.eq_of_beq_eq_true z] at e'; exact absurd e' (by decide))
        have n16 : Nat.beq i 16 = false := Bool.eq_false_iff.mpr (fun z => by rw [Nat.eq_of_beq_eq_true z] at e'; exact absurd e' (by decide))
        rw [n14, n15, n16]; rfl
    | succ c ih =>
      intro j g1 hc hj e1 e2 e3 e4 e5
      rw [wM_laysBack]
      any_goals (intro h9; exact absurd h9 (by decide))
      have h10' : g1.1 10 = nI n := by rw [e1]; exact (hf.1 10 rfl).trans h10
      rw [h10', nI_1, nI_clamp (by omega)]
      have hin : vp_in (nI j) 8 := vp_in_nI (by omega) (by decide)
      refine br_f (nI_ge (by omega) (by omega)) ⟨hin, hin, hin, hin, ih (j + 1) _ (by omega) (by omega) e1 (fun i e => ?_) (fun s hs => ?_) (fun s hs => ?_) e5⟩
      · have a8 : Nat.beq i 8 = false := (bor_f e).1
        have a9 : Nat.beq i 9 = false := (bor_f (bor_f e).2).1
        show (bif Nat.beq i 9 then _ else (bif Nat.beq i 8 then _ else g1.2.1 i)) = g0.2.1 i
        rw [a8, a9]
        exact e2 i e
      · show upd (g1.2.1 8) j (g1.2.1 37 j) s = _ ∧ upd (g1.2.1 9) j (g1.2.1 38 j) s = _
        by_cases es : s = j
        · rw [es, pk_us, pk_us]; exact e5 j (by omega)
        · rw [pk_un es, pk_un es]; exact e3 s (by omega)
      · show upd (g1.2.1 8) j (g1.2.1 37 j) s = _ ∧ upd (g1.2.1 9) j (g1.2.1 38 j) s = _
        rw [pk_un (by omega), pk_un (by omega)]; exact e4 s hs
  refine ⟨n - 0 + 1 + 1, ?_⟩
  rw [wM_laysBack]
  exact L _ 0 g rfl (Nat.zero_le _) rfl (fun i e => hf.2 i e) (fun s hs => absurd hs (Nat.not_lt_zero s)) h8 h37
/-- a mind with nothing in it -/
def anew (pc : Int32) : Md := (fun _ => 0, fun _ => 0, 0, 0, pc)
theorem anew_ok {pc : Int32} : MOk 0 (anew pc) := fun s _ => ⟨0, Nat.le_refl 0, rfl⟩
theorem cAnew {Q : KC → Prop} {pc : Int32} (hd : RD k) (q : ∀ k', FrC (oMd 4) (aMd 4) k k' → MC 4 r (anew pc) k' → Q k') : wC_X0_startAnew 4 pc (nI r) k Q := by
  unfold wC_X0_startAnew
  refine q _ ((((((FrC.rf.a_ aMd_i).a_ aMd_i).i_ oMd_i).i_ oMd_i).i_ oMd_i).i_ oMd_i) ⟨?_, ?_, rfl, rfl, rfl, rfl⟩
  · funext s
    show (if s < 8 then (0 : Int32) else k.2.1 4 1 s) = 0
    by_cases c : s < 8
    · rw [if_pos c]
    · rw [if_neg c]; exact (hd s (by omega)).1
  · funext s
    show (if s < 8 then (0 : Int32) else k.2.1 4 2 s) = 0
    by_cases c : s < 8
    · rw [if_pos c]
    · rw [if_neg c]; exact (hd s (by omega)).2
theorem cpy8 {f h : Nat → Int32} {b : Nat} : va_cpy f h 0 0 b = cpU b f h := by
  funext s
  by_cases c : s < b
  · rw [pk_cpy_in (Nat.zero_le _) (by omega), cpU_in c]
    congr 1; omega
  · rw [pk_cpy_out (by omega), cpU_out (by omega)]
theorem cLike4 {Q : KC → Prop} (hd : RD k) (hm : MC 2 r m k) (hz : ∀ s, 8 ≤ s → mst m s = 0 ∧ mon m s = 0) (q : ∀ k', FrC (oMd 4) (aMd 4) k k' → MC 4 r m k' → Q k') : wC_X0_becomeLike 4 2 (8 : Int32) k Q := by
  unfold wC_X0_becomeLike
  refine ⟨by unfold cpOk; decide, by unfold cpOk; decide, by unfold cpOk; decide, by unfold cpOk; decide, ?_⟩
  refine q _ ((((((((FrC.rf.a_ aMd_i).a_ aMd_i).a_ aMd_i).a_ aMd_i).i_ oMd_i).i_ oMd_i).i_ oMd_i).i_ oMd_i) ⟨?_, ?_, hm.2.2.1, hm.2.2.2.1, hm.2.2.2.2.1, hm.2.2.2.2.2⟩
  · show va_cpy (k.2.1 2 1) (k.2.1 4 1) 0 0 8 = mst m
    rw [cpy8, hm.1]
    funext s
    rcases Nat.lt_or_ge s 8 with z | z
    · exact cpU_in z
    · rw [cpU_out z, (hd s z).1, (hz s z).1]
  · show va_cpy (k.2.1 2 2) (k.2.1 4 2) 0 0 8 = mon m
    rw [cpy8, hm.2.1]
    funext s
    rcases Nat.lt_or_ge s 8 with z | z
    · exact cpU_in z
    · rw [cpU_out z, (hd s z).2, (hz s z).2]
theorem RD.mc {k' : KC} (hm : MC 4 r m k') (hz : ∀ s, 8 ≤ s → mst m s = 0 ∧ mon m s = 0) : RD k' := fun s hs => by
  rw [hm.1, hm.2.1]; exact hz s hs
theorem FrC.o4 {k' : KC} (f : FrC (oMd 4) (aMd 4) k k') : FrC sZ aZ k k' := f.mono (fun x y h => (Bool.or_eq_false_iff.mp h).1) (fun x y h => by
  obtain ⟨h1, h2⟩ := Bool.or_eq_false_iff.mp h
  exact Bool.or_eq_false_iff.mpr ⟨h1, (Bool.or_eq_false_iff.mp (Bool.or_eq_false_iff.mp h2).2).2⟩)
end As
