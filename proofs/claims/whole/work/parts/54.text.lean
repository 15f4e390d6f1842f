/-! ===== text ===== -/
section Tx
variable {t n nt np nw N : Nat} {k k' : KC} {g g' : GM}
def sTm (j : Nat) : Bool := bor j 6 (sRd j)
def aTm (j : Nat) : Bool := bor j 1 (bor j 2 false)
/-- the tape is empty again; rows of TEXTS from nt on may have changed -/
theorem RelA.txt0 (h : RelA t n nt np nw N k g) (f : FrC sFC aFC k k') (fg : FrH sTm aTm g g') (hr : ∀ x, x < nt → g'.2.1 2 x = g.2.1 2 x ∧ ∀ i, i < 160 → g'.2.1 1 (160 * x + i) = g.2.1 1 (160 * x + i)) (hb : RB 0 k' g') : RelA t n nt np nw 0 k' g' := by
  obtain ⟨⟨w1, w2, w3, w4, w5, w6, w7, w8, w9⟩, ⟨t1, t2, t3, t4⟩, ⟨p1, p2, p3, p4⟩, ⟨m1, m2, m3, m4, m5, m6, m7, m8⟩, ⟨b1, b2, b3, b4⟩, hi, ⟨v1, v2, v3, v4⟩, hs, _, hd0⟩ := h
  have hpr : k'.2.2.2.2.1 = k.2.2.2.2.1 := congrArg (fun z => z.2.2.1) f.2.2
  refine ⟨⟨w1, (f.1 1 0 rfl).trans w2, (fg.1 10 rfl).trans w3, (f.2.1 1 3 rfl).trans (w4.trans (fg.2 7 rfl).symm), (f.2.1 1 4 rfl).trans (w5.trans (fg.2 11 rfl).symm), (f.2.1 1 5 rfl).trans (w6.trans (fg.2 12 rfl).symm), (f.2.1 1 6 rfl).trans (w7.trans (fg.2 13 rfl).symm), by rw [fg.2 7 rfl]; exact w8, by rw [fg.2 13 rfl]; exact w9⟩, ⟨t1, (f.1 1 1 rfl).trans t2, (fg.1 3 rfl).trans t3, fun x hx => ?_⟩, ⟨p1, (f.1 1 2 rfl).trans p2, (fg.1 33 rfl).trans p3, fun x hx => ?_⟩, ⟨(f.2.1 2 1 rfl).trans (m1.trans (fg.2 8 rfl).symm), (f.2.1 2 2 rfl).trans (m2.trans (fg.2 9 rfl).symm), (f.1 2 7 rfl).trans (m3.trans (fg.1 15 rfl).symm), (f.1 2 8 rfl).trans (m4.trans (fg.1 16 rfl).symm), (f.1 2 9 rfl).trans (m5.trans (fg.1 14 rfl).symm), (f.1 2 10 rfl).trans (m6.trans (fg.1 4 rfl).symm), (f.2.1 2 3 rfl).trans (m7.trans (fg.2 36 rfl).symm), (f.2.1 2 4 rfl).trans (m8.trans (fg.2 35 rfl).symm)⟩, ⟨by rw [fg.1 4 rfl]; exact b1, by rw [fg.2 8 rfl, fg.2 9 rfl]; exact b2, by rw [fg.1 15 rfl]; exact b3, by rw [fg.2 9 rfl, fg.2 36 rfl, fg.2 35 rfl]; exact b4⟩, ?_, ⟨v1, (f.1 8 3 rfl).trans v2, (fg.1 46 rfl).trans v3, fun i hi => ?_⟩, fun s h4 => ?_, hb, fun s hs => by rw [f.2.1 4 1 rfl, f.2.1 4 2 rfl]; exact hd0 s hs⟩
  · obtain ⟨B, M, cs, a1, a2, ⟨x1, x2, x3⟩, a4⟩ := t4 x hx
    have hM : M ≤ 160 := x1.2
    exact ⟨B, M, cs, a1.z f, a2, ⟨x1, (hr x hx).1.trans x2, fun i hi => ((hr x hx).2 i (by omega)).trans (x3 i hi)⟩, a4⟩
  · obtain ⟨d, p, a1, a2, x1, x2, x3, x4⟩ := p4 x hx
    exact ⟨d, p, by rw [hpr]; exact a1, a2.fr f, x1, by rw [fg.2 30 rfl]; exact x2, x3, by rw [fg.2 31 rfl, fg.2 32 rfl]; exact x4⟩
  · unfold RI
    rw [f.1 0 9 rfl, f.2.1 3 1 rfl, f.2.1 3 2 rfl, f.2.1 3 3 rfl, f.2.1 3 4 rfl, f.1 3 7 rfl, f.1 3 8 rfl, f.1 3 9 rfl, f.1 3 10 rfl, fg.1 55 rfl, fg.1 56 rfl, fg.2 51 rfl, fg.2 52 rfl, fg.2 54 rfl, fg.2 53 rfl, fg.1 57 rfl, fg.1 58 rfl, fg.1 59 rfl, fg.1 60 rfl]
    exact hi
  · rw [f.2.1 8 0 rfl, f.2.1 8 1 rfl, f.2.1 8 2 rfl, fg.2 43 rfl, fg.2 44 rfl, fg.2 45 rfl]; exact v4 i hi
  · exact (hs s h4).eq2 (f.1 (9 + s) 0 (co_4 (P := fun s => sFC (9 + s) 0 = false) rfl rfl rfl rfl h4)) (f.1 (9 + s) 1 (co_4 (P := fun s => sFC (9 + s) 1 = false) rfl rfl rfl rfl h4)) (f.2.1 (9 + s) 2 (co_4 (P := fun s => aFC (9 + s) 2 = false) rfl rfl rfl rfl h4)) (fg.2 61 rfl) (fg.2 62 rfl) (fg.2 63 rfl) (fg.2 64 rfl)
/-- one more TEXT -/
theorem RelA.txt1 {d : Dn} {B : Nat → Nat} {M : Nat} {cs : Nat → List Int32} (h : RelA t n nt np nw N k g) (hn : nt < 6) (hr : RowM B M nt g) (ho : RdOk B M cs) (hw : ∀ c, WfC (cs c)) (hd : TxD d cs) : RelA t n (nt + 1) np nw N (cI (cTR (addX k d) (va_up (k.2.2.2.1) nt (some d.1))) 1 1 (nI (nt + 1))) (sI g 3 (nI (nt + 1))) := by
  obtain ⟨w, ⟨t1, t2, t3, t4⟩, ⟨p1, p2, p3, p4⟩, m, ⟨⟨r, b1, b1'⟩, b2, b3, b4⟩, hi, v, hs, b, hd0⟩ := h
  refine ⟨w, ⟨by omega, rfl, rfl, fun x hx => ?_⟩, ⟨p1, p2, p3, fun x hx => ?_⟩, m, ⟨⟨r, by omega, b1'⟩, b2, b3, b4⟩, ?_, v, fun s h4 => (hs s h4).eq2 ?_ ?_ rfl rfl rfl rfl rfl, b, hd0⟩
  · by_cases e : x = nt
    · subst e
      exact ⟨B, M, cs, ⟨d, if_pos rfl, addX_mem k d, hd⟩, hw, hr, ho⟩
    · obtain ⟨B', M', cs', ⟨d', d1, d2, d3⟩, a2, a3, a4⟩ := t4 x (by omega)
      exact ⟨B', M', cs', ⟨d', (if_neg e).trans d1, List.mem_append_left _ d2, d3⟩, a2, a3, a4⟩
  · obtain ⟨d', p, a1, a2, a3⟩ := p4 x hx
    exact ⟨d', p, a1, a2, a3⟩
  · rcases hi with hi | ⟨ni, c1, c2, c3, c4, c5, c6, c7, c8, c9, c10, c11, c12, ⟨r2, c13, c13'⟩, c14, c15⟩
    · exact Or.inl hi
    · exact Or.inr ⟨ni, c1, c2, c3, c4, c5, c6, c7, c8, c9, c10, c11, c12, ⟨r2, by omega, c13'⟩, c14, c15⟩
  · exact cI_n (by omega)
  · exact cI_n (by omega)
theorem mTextL {Q : Int32 → GM → Prop} (hn : nt < 6) (h3 : g.1 3 = nI nt) (h6 : g.1 6 = nI N) (hN : N ≤ 160) (q : ∀ (F : Nat) (g1 : GM), FrH sNo (fun j => bor j 1 false) g g1 → (∀ x, x < 160 * nt → g1.2.1 1 x = g.2.1 1 x) → (∀ i, i < N → g1.2.1 1 (160 * nt + i) = g.2.1 5 i) → wM_text (F + 1) 1 (nI N) g1 Q) : ∃ y, wM_text y 1 0 g Q := by
  have L : ∀ (c j : Nat) (g1 : GM), N - j = c → j ≤ N → FrH sNo (fun j => bor j 1 false) g g1 → (∀ x, x < 160 * nt → g1.2.1 1 x = g.2.1 1 x) → (∀ i, i < j → g1.2.1 1 (160 * nt + i) = g.2.1 5 i) → wM_text (c + 1) 1 (nI j) g1 Q := by
    intro c
    induction c with
    | zero =>
      intro j g1 hm hj f a1 a2
      have ej : j = N := by omega
      subst ej
      exact q 0 g1 f a1 a2
    | succ c ih =>
      intro j g1 hm hj f a1 a2
      rw [wM_text]
      any_goals (intro h9; exact absurd h9 (by decide))
      have e160 : (160 : Int32) * nI nt + nI j = nI (160 * nt + j) := by
        rw [show (160 : Int32) = nI 160 from rfl, pk_mul, nI_add]
      rw [f.1 6 rfl, f.1 3 rfl, h6, h3, e160, nI_1 j, nI_clamp (n := 160 * nt + j) (by omega), nI_clamp (n := j) (by omega)]
      refine br_f (nI_ge (a := j) (b := N) (by omega) (by omega)) ⟨vp_in_nI (by omega) (by decide), vp_in_nI (by omega) (by decide), ih (j + 1) _ (by omega) (by omega) (f.a_ rfl) (fun x hx => ?_) (fun i hi => ?_)⟩
      · show upd (g1.2.1 1) (160 * nt + j) _ x = _
        rw [pk_un (by omega)]; exact a1 x hx
      · show upd (g1.2.1 1) (160 * nt + j) (g1.2.1 5 j) (160 * nt + i) = _
        by_cases ei : i = j
        · rw [ei, pk_us, f.2 5 rfl]
        · rw [pk_un (by omega)]; exact a2 i (by omega)
  exact ⟨N - 0 + 1, L _ 0 g rfl (Nat.zero_le _) FrH.rf (fun _ _ => rfl) (fun i hi => absurd hi (Nat.not_lt_zero i))⟩
theorem op_text (a : Nat → Nat) (h : Rel t k g) : wC_text_ a k (fun r k' => ∃ y, wM_text y 0 0 g (fun r' g' => r = r' ∧ Rel (t + 1) k' g')) := by
  obtain ⟨n, nt, np, nw, N, h⟩ := h
  have hu := h.up
  obtain ⟨t1, t2, t3, t4⟩ := h.2.1
  obtain ⟨b1, b2, b3, b4⟩ := h.2.2.2.2.2.2.2.2.1
  have fin : ∀ v : Int32, v = v ∧ Rel (t + 1) k g := fun v => ⟨rfl, _, _, _, _, _, hu⟩
  unfold wC_text_
  rw [t2]
  refine ⟨fun c => ?_, fun c => ?_⟩
  rotate_left
  · have e6 : nt = 6 := by
      have : ¬ nt < 6 := fun y => c (nI_lt (b := 6) y (by decide))
      omega
    refine ⟨1, ?_⟩
    rw [wM_text, t3, e6]
    exact br1 rfl (fin _)
  have hn : nt < 6 := (nI_ltI (a := nt) (b := 6) (by omega) (by decide)).mp c
  have hbn : BN (fun i => (g.2.1 5 i).toNatClampNeg % 256) N := ⟨fun i => Nat.mod_lt _ (by decide), b1⟩
  have hB : ∀ i, i < N → g.2.1 5 i = nI ((g.2.1 5 i).toNatClampNeg % 256) := fun i hi => by
    obtain ⟨_, b, hb, eb⟩ := b4 i hi
    rw [eb, nI_clamp (by omega), Nat.mod_eq_of_lt hb]
  have M0 : ∀ P : Int32 → GM → Prop, (∃ y, wM_text y 1 0 g P) → ∃ y, wM_text y 0 0 g P := fun P ⟨y, hy⟩ => ⟨y + 1, by
    rw [wM_text, t3]
    refine br0 (fun e => ?_) hy
    have := (nI_eq (a := nt) (b := 6) (by omega) (by decide)).mp e
    omega⟩
  -- what the reference's reading leaves
  have hz : RelA (t + 1) n nt np nw N (cT k (some (a 5))) g := hu
  have six : ∀ k2, FrC oSix oSix (cT k (some (a 5))) k2 → RelA (t + 1) n nt np nw N k2 g ∧ k2.1 1 1 = nI nt := fun k2 f => ⟨hz.zC (f.mono (fun x y e => by
    unfold sZ at e
    exact (Bool.or_eq_false_iff.mp (Bool.or_eq_false_iff.mp e).2).1) (fun x y e => by
    unfold aZ at e
    exact (Bool.or_eq_false_iff.mp (Bool.or_eq_false_iff.mp e).2).1)) (fun s hs => by rw [f.2.1 4 1 rfl, f.2.1 4 2 rfl]; exact h.2.2.2.2.2.2.2.2.2 s hs), (f.1 1 1 rfl).trans t2⟩
  have MR : ∀ P : Int32 → GM → Prop, (∀ g1, FrH sNo (fun j => bor j 1 false) g g1 → (∀ x, x < 160 * nt → g1.2.1 1 x = g.2.1 1 x) → RowM (fun i => (g.2.1 5 i).toNatClampNeg % 256) N nt (sI (sA g1 2 (upd (g1.2.1 2) nt (nI N))) 6 0) → ∃ n_3, wM_read n_3 0 (nI nt) 0 0 0 0 0 0 0 0 (sI (sA g1 2 (upd (g1.2.1 2) nt (nI N))) 6 0) (fun r_3 k_3 => (((k_3.1 24) = 0 → P (((k_3.1 3) + (1 : Int32)) - (1 : Int32)) (sI k_3 3 ((k_3.1 3) + (1 : Int32)))) ∧ (¬ (k_3.1 24) = 0 → P ((-100 : Int32) - (k_3.1 25)) k_3)))) → ∃ y, wM_text y 0 0 g P := by
    intro P hP
    refine M0 P (mTextL hn t3 b3 b1 (fun F g1 f a1 a2 => ?_))
    rw [wM_text]
    any_goals (intro h9; exact absurd h9 (by decide))
    rw [f.1 6 rfl, f.1 3 rfl, b3, t3, nI_clamp (n := nt) (by omega)]
    refine br_t (nI_le (Nat.le_refl _) (by omega)) ⟨vp_in_nI hn (by decide), hP g1 f a1 ⟨⟨hn, b1⟩, pk_us, fun i hi => (a2 i hi).trans (hB i hi)⟩⟩
  have fr3 : ∀ g1 g', FrH sNo (fun j => bor j 1 false) g g1 → FrG sRd (sI (sA g1 2 (upd (g1.2.1 2) nt (nI N))) 6 0) g' → FrH sTm aTm g g' := by
    intro g1 g' f f'
    refine ⟨fun j e => ?_, fun j e => ?_⟩
    · have e1 := bor_f e
      rw [f'.1 j e1.2]
      show (bif Nat.beq j 6 then (0 : Int32) else g1.1 j) = _
      rw [e1.1]; exact f.1 j rfl
    · have e1 := bor_f e
      have e2 := bor_f e1.2
      rw [f'.2]
      show (bif Nat.beq j 2 then upd (g1.2.1 2) nt (nI N) else g1.2.1 j) = _
      rw [e2.1]; exact f.2 j (bor_i e1.1 rfl)
  have rows : ∀ g1 g', FrH sNo (fun j => bor j 1 false) g g1 → (∀ x, x < 160 * nt → g1.2.1 1 x = g.2.1 1 x) → FrG sRd (sI (sA g1 2 (upd (g1.2.1 2) nt (nI N))) 6 0) g' → ∀ x, x < nt → g'.2.1 2 x = g.2.1 2 x ∧ ∀ i, i < 160 → g'.2.1 1 (160 * x + i) = g.2.1 1 (160 * x + i) := by
    intro g1 g' f a1 f' x hx
    rw [f'.2]
    refine ⟨?_, fun i hi => a1 _ (by omega)⟩
    show upd (g1.2.1 2) nt (nI N) x = _
    rw [pk_un (by omega), f.2 2 rfl]
  refine cRead hbn b2 (fun i hi => (b4 i hi).1.trans (hB i hi)) (fun cs d k2 ro wf td f => ⟨(fun e => by cases e), fun d2 ed => ?_⟩) (fun f1 k2 rb f e7 => ⟨fun _ => ?_, (fun d2 ed => by cases ed)⟩)
  · have ed2 : d = d2 := Option.some.inj ed
    subst ed2
    obtain ⟨r2, n2⟩ := six k2 f
    rw [n2, nI_clamp (n := nt) (by omega), nI_1 nt]
    refine ⟨vp_in_nI hn (by decide), MR _ (fun g1 fg a1 rw1 => ro nt 0 0 0 0 0 _ _ rw1 (vp_in_nI (n := 0) (by decide) (by decide)) (by decide) (fun v g' f' e24 _ => ⟨fun _ => ?_, fun y => absurd e24 y⟩))⟩
    have e3 : g'.1 3 = nI nt := (f'.1 3 rfl).trans ((fg.1 3 rfl).trans t3)
    rw [e3, nI_1 nt]
    refine ⟨rfl, n, nt + 1, np, nw, 0, ?_⟩
    have q0 := r2.txt0 (k' := cI k2 5 1 0) (FrC.rf.i_ rfl) (fr3 g1 g' fg f') (rows g1 g' fg a1 f') ⟨Nat.zero_le _, rfl, (f'.1 6 rfl).trans rfl, fun i hi => absurd hi (Nat.not_lt_zero i)⟩
    refine q0.txt1 hn ?_ ro wf td
    exact ⟨rw1.1, by rw [f'.2]; exact rw1.2.1, by rw [f'.2]; exact rw1.2.2⟩
  · obtain ⟨r2, n2⟩ := six k2 f
    rw [e7]
    refine MR _ (fun g1 fg a1 rw1 => rb nt 0 0 0 0 0 _ _ rw1 (vp_in_nI (n := 0) (by decide) (by decide)) (by decide) (fun v g' f' e24 e25 => ⟨fun y => absurd (e24.symm.trans y) n10, fun _ => ?_⟩))
    rw [e25]
    exact ⟨rfl, n, nt, np, nw, 0, r2.txt0 (k' := cI k2 5 1 0) (FrC.rf.i_ rfl) (fr3 g1 g' fg f') (rows g1 g' fg a1 f') ⟨Nat.zero_le _, rfl, (f'.1 6 rfl).trans rfl, fun i hi => absurd hi (Nat.not_lt_zero i)⟩⟩
end Tx
