/-! ===== feed ===== -/
section Fe
variable {t n nt np nw N : Nat} {k k' : KC} {g g' : GM}
theorem byB (y : BitVec 64) (s : Nat) (hs : s ≤ 56) : (y >>> s) &&& 255#64 = (y.sshiftRight s) &&& 255#64 := by
  apply BitVec.eq_of_getLsbD_eq
  intro j hj
  rw [BitVec.getLsbD_and, BitVec.getLsbD_and]
  rcases Nat.lt_or_ge j 8 with h | h
  · rw [BitVec.getLsbD_ushiftRight, BitVec.getLsbD_sshiftRight, if_pos (by omega : s + j < 64)]
    simp only [hj, decide_eq_false (Nat.not_le.mpr hj), Bool.not_false, Bool.true_and]
  · have e : (255#64).getLsbD j = false := by
      show Nat.testBit 255 j = false
      exact Nat.testBit_lt_two_pow (Nat.lt_of_lt_of_le (by decide : 255 < 2 ^ 8) (Nat.pow_le_pow_right (by decide) h))
    rw [e, Bool.and_false, Bool.and_false]
theorem byE (x : Int64) {i : Nat} (hi : i < 8) : (((x.toUInt64 >>> (((8 : Int32) * nI i).toInt64.toUInt64 &&& Int64.toUInt64 63)).toInt64) &&& (255 : Int64)) = ((x >>> (((8 : Int32) * nI i).toInt64 &&& 63)) &&& (255 : Int64)) := by
  apply Int64.toBitVec_inj.mp
  match i, hi with
  | 0, _ => exact byB x.toBitVec 0 (by decide)
  | 1, _ => exact byB x.toBitVec 8 (by decide)
  | 2, _ => exact byB x.toBitVec 16 (by decide)
  | 3, _ => exact byB x.toBitVec 24 (by decide)
  | 4, _ => exact byB x.toBitVec 32 (by decide)
  | 5, _ => exact byB x.toBitVec 40 (by decide)
  | 6, _ => exact byB x.toBitVec 48 (by decide)
  | 7, _ => exact byB x.toBitVec 56 (by decide)
theorem byN (y : Int64) : ∃ b, b < 256 ∧ (y &&& (255 : Int64)).toInt32 = nI b := by
  refine ⟨y.toBitVec.toNat % 256, Nat.mod_lt _ (by decide), ?_⟩
  have e : (y &&& (255 : Int64)) = lN (y.toBitVec.toNat % 256) := by
    apply Int64.toBitVec_inj.mp
    apply BitVec.eq_of_toNat_eq
    have e1 : (y &&& (255 : Int64)).toBitVec.toNat = y.toBitVec.toNat &&& 255 := by
      rw [Int64.toBitVec_and, BitVec.toNat_and]; rfl
    have e2 : (lN (y.toBitVec.toNat % 256)).toBitVec.toNat = y.toBitVec.toNat % 256 := by
      show (y.toBitVec.toNat % 256) % 2 ^ 64 = _
      omega
    rw [e1, e2]
    exact Nat.and_two_pow_sub_one_eq_mod _ 8
  rw [e, lN_i]
def byt (x : Int64) (j : Nat) : Int32 := ((x >>> (((8 : Int32) * nI j).toInt64 &&& 63)) &&& (255 : Int64)).toInt32
def sFC (x y : Nat) : Bool := Nat.beq x 5 && Nat.beq y 1
def aFC (x y : Nat) : Bool := Nat.beq x 5 && Nat.beq y 0
def sFM (j : Nat) : Bool := bor j 6 false
def aFM (j : Nat) : Bool := bor j 5 false
theorem cTake {x2l : Int64} {c : Nat} {Q : KC → Prop} (hc : c ≤ 8) (hN : N + c ≤ 160) (h5 : k.1 5 1 = nI N) (q : ∀ k', FrC sFC aFC k k' → k'.1 5 1 = nI (N + c) → (∀ i, i < N → k'.2.1 5 0 i = k.2.1 5 0 i) → (∀ j, j < c → k'.2.1 5 0 (N + j) = byt x2l j) → Q k') : ∃ n, wC_X4_take n 0 (nI c) x2l 0 k Q := by
  have L : ∀ (m j : Nat) (k1 : KC), c - j = m → j ≤ c → FrC sFC aFC k k1 → k1.1 5 1 = nI (N + j) → (∀ i, i < N → k1.2.1 5 0 i = k.2.1 5 0 i) → (∀ i, i < j → k1.2.1 5 0 (N + i) = byt x2l i) → wC_X4_take (m + 1) 1 (nI c) x2l (nI j) k1 Q := by
    intro m
    induction m with
    | zero =>
      intro j k1 hm hj f a1 a2 a3
      have ej : j = c := by omega
      subst ej
      rw [wC_X4_take]
      any_goals (intro h9; exact absurd h9 (by decide))
      exact br_t (nI_le (Nat.le_refl _) (by omega)) (q k1 f a1 a2 a3)
    | succ m ih =>
      intro j k1 hm hj f a1 a2 a3
      rw [wC_X4_take]
      any_goals (intro h9; exact absurd h9 (by decide))
      have hin : vp_in (nI (N + j)) 160 := vp_in_nI (by omega) (by decide)
      rw [a1, nI_1 j, nI_1 (N + j), nI_clamp (by omega), byE x2l (by omega : j < 8)]
      refine br_f (nI_ge (by omega) (by omega)) (br_f (nI_ge (a := N + j) (b := 160) (by omega) (by decide)) ⟨hin, ih (j + 1) _ (by omega) (by omega) ((f.a_ rfl).i_ rfl) rfl (fun i hi => ?_) (fun i hi => ?_)⟩)
      · show upd (k1.2.1 5 0) (N + j) _ i = _
        rw [pk_un (by omega)]; exact a2 i hi
      · show upd (k1.2.1 5 0) (N + j) (byt x2l j) (N + i) = _
        by_cases e : i = j
        · rw [e, pk_us]
        · rw [pk_un (by omega)]; exact a3 i (by omega)
  refine ⟨c - 0 + 1 + 1, ?_⟩
  rw [wC_X4_take]
  exact L _ 0 k rfl (Nat.zero_le _) FrC.rf h5 (fun _ _ => rfl) (fun i hi => absurd hi (Nat.not_lt_zero i))
theorem mTake {x2l : Int64} {c : Nat} {Q : Int32 → GM → Prop} (hc : c ≤ 8) (hN : N + c ≤ 160) (h5 : g.1 6 = nI N) (q : ∀ g', FrH sFM aFM g g' → g'.1 6 = nI (N + c) → (∀ i, i < N → g'.2.1 5 i = g.2.1 5 i) → (∀ j, j < c → g'.2.1 5 (N + j) = byt x2l j) → Q (nI (N + c)) g') : ∃ n, wM_feed n 1 (nI c) x2l 0 g Q := by
  have L : ∀ (m j : Nat) (k1 : GM), c - j = m → j ≤ c → FrH sFM aFM g k1 → k1.1 6 = nI (N + j) → (∀ i, i < N → k1.2.1 5 i = g.2.1 5 i) → (∀ i, i < j → k1.2.1 5 (N + i) = byt x2l i) → wM_feed (m + 1) 1 (nI c) x2l (nI j) k1 Q := by
    intro m
    induction m with
    | zero =>
      intro j k1 hm hj f a1 a2 a3
      have ej : j = c := by omega
      subst ej
      rw [wM_feed]
      any_goals (intro h9; exact absurd h9 (by decide))
      rw [a1]
      exact br_t (nI_le (Nat.le_refl _) (by omega)) (q k1 f a1 a2 a3)
    | succ m ih =>
      intro j k1 hm hj f a1 a2 a3
      rw [wM_feed]
      any_goals (intro h9; exact absurd h9 (by decide))
      have hin : vp_in (nI (N + j)) 160 := vp_in_nI (by omega) (by decide)
      rw [a1, nI_1 j, nI_1 (N + j), nI_clamp (by omega)]
      refine br_f (nI_ge (by omega) (by omega)) ⟨hin, ih (j + 1) _ (by omega) (by omega) ((f.a_ rfl).i_ rfl) rfl (fun i hi => ?_) (fun i hi => ?_)⟩
      · show upd (k1.2.1 5) (N + j) _ i = _
        rw [pk_un (by omega)]; exact a2 i hi
      · show upd (k1.2.1 5) (N + j) (byt x2l j) (N + i) = _
        by_cases e : i = j
        · rw [e, pk_us]
        · rw [pk_un (by omega)]; exact a3 i (by omega)
  exact ⟨c - 0 + 1, L _ 0 g rfl (Nat.zero_le _) FrH.rf h5 (fun _ _ => rfl) (fun i hi => absurd hi (Nat.not_lt_zero i))⟩
theorem RelA.tape {M : Nat} (h : RelA t n nt np nw N k g) (f : FrC sFC aFC k k') (fg : FrH sFM aFM g g') (hb : RB M k' g') : RelA t n nt np nw M k' g' := by
  obtain ⟨⟨w1, w2, w3, w4, w5, w6, w7, w8, w9⟩, ⟨t1, t2, t3, t4⟩, ⟨p1, p2, p3, p4⟩, ⟨m1, m2, m3, m4, m5, m6, m7, m8⟩, ⟨b1, b2, b3, b4⟩, hi, ⟨v1, v2, v3, v4⟩, hs, _, hd0⟩ := h
  have hpr : k'.2.2.2.2.1 = k.2.2.2.2.1 := congrArg (fun z => z.2.2.1) f.2.2
  refine ⟨⟨w1, (f.1 1 0 rfl).trans w2, (fg.1 10 rfl).trans w3, (f.2.1 1 3 rfl).trans (w4.trans (fg.2 7 rfl).symm), (f.2.1 1 4 rfl).trans (w5.trans (fg.2 11 rfl).symm), (f.2.1 1 5 rfl).trans (w6.trans (fg.2 12 rfl).symm), (f.2.1 1 6 rfl).trans (w7.trans (fg.2 13 rfl).symm), by rw [fg.2 7 rfl]; exact w8, by rw [fg.2 13 rfl]; exact w9⟩, ⟨t1, (f.1 1 1 rfl).trans t2, (fg.1 3 rfl).trans t3, fun x hx => ?_⟩, ⟨p1, (f.1 1 2 rfl).trans p2, (fg.1 33 rfl).trans p3, fun x hx => ?_⟩, ⟨(f.2.1 2 1 rfl).trans (m1.trans (fg.2 8 rfl).symm), (f.2.1 2 2 rfl).trans (m2.trans (fg.2 9 rfl).symm), (f.1 2 7 rfl).trans (m3.trans (fg.1 15 rfl).symm), (f.1 2 8 rfl).trans (m4.trans (fg.1 16 rfl).symm), (f.1 2 9 rfl).trans (m5.trans (fg.1 14 rfl).symm), (f.1 2 10 rfl).trans (m6.trans (fg.1 4 rfl).symm), (f.2.1 2 3 rfl).trans (m7.trans (fg.2 36 rfl).symm), (f.2.1 2 4 rfl).trans (m8.trans (fg.2 35 rfl).symm)⟩, ⟨by rw [fg.1 4 rfl]; exact b1, by rw [fg.2 8 rfl, fg.2 9 rfl]; exact b2, by rw [fg.1 15 rfl]; exact b3, by rw [fg.2 9 rfl, fg.2 36 rfl, fg.2 35 rfl]; exact b4⟩, ?_, ⟨v1, (f.1 8 3 rfl).trans v2, (fg.1 46 rfl).trans v3, fun i hi => ?_⟩, fun s h4 => ?_, hb, fun s hs => by rw [f.2.1 4 1 rfl, f.2.1 4 2 rfl]; exact hd0 s hs⟩
  · obtain ⟨B, M, cs, a1, a2, ⟨x1, x2, x3⟩, a4⟩ := t4 x hx
    exact ⟨B, M, cs, a1.z f, a2, ⟨x1, by rw [fg.2 2 rfl]; exact x2, by rw [fg.2 1 rfl]; exact x3⟩, a4⟩
  · obtain ⟨d, p, a1, a2, x1, x2, x3, x4⟩ := p4 x hx
    exact ⟨d, p, by rw [hpr]; exact a1, a2.fr f, x1, by rw [fg.2 30 rfl]; exact x2, x3, by rw [fg.2 31 rfl, fg.2 32 rfl]; exact x4⟩
  · unfold RI
    rw [f.1 0 9 rfl, f.2.1 3 1 rfl, f.2.1 3 2 rfl, f.2.1 3 3 rfl, f.2.1 3 4 rfl, f.1 3 7 rfl, f.1 3 8 rfl, f.1 3 9 rfl, f.1 3 10 rfl, fg.1 55 rfl, fg.1 56 rfl, fg.2 51 rfl, fg.2 52 rfl, fg.2 54 rfl, fg.2 53 rfl, fg.1 57 rfl, fg.1 58 rfl, fg.1 59 rfl, fg.1 60 rfl]
    exact hi
  · rw [f.2.1 8 0 rfl, f.2.1 8 1 rfl, f.2.1 8 2 rfl, fg.2 43 rfl, fg.2 44 rfl, fg.2 45 rfl]; exact v4 i hi
  · exact (hs s h4).eq2 (f.1 (9 + s) 0 (co_4 (P := fun s => sFC (9 + s) 0 = false) rfl rfl rfl rfl h4)) (f.1 (9 + s) 1 (co_4 (P := fun s => sFC (9 + s) 1 = false) rfl rfl rfl rfl h4)) (f.2.1 (9 + s) 2 (co_4 (P := fun s => aFC (9 + s) 2 = false) rfl rfl rfl rfl h4)) (fg.2 61 rfl) (fg.2 62 rfl) (fg.2 63 rfl) (fg.2 64 rfl)
theorem op_feed {x1 : Int32} {x2l : Int64} (h : Rel t k g) : wC_feed x1 x2l k (fun r k' => ∃ y, wM_feed y 0 x1 x2l 0 g (fun r' g' => r = r' ∧ Rel (t + 1) k' g')) := by
  obtain ⟨n, nt, np, nw, N, h⟩ := h
  have hu := h.up
  obtain ⟨b1, b2, b3, b4⟩ := h.2.2.2.2.2.2.2.2.1
  unfold wC_feed
  refine cWithin ?_
  rcases ini_c x1 1 8 with e | e
  · rw [e]
    refine br1 rfl ⟨1, ?_⟩
    rw [wM_feed]
    refine mIn (lo := 1) (hi := 8) rfl rfl ?_
    rw [e]
    exact br1 rfl ⟨rfl, _, _, _, _, _, hu⟩
  obtain ⟨c, hc, hx⟩ : ∃ c, c ≤ 8 ∧ x1 = nI c := by
    obtain ⟨j, _, j2, j3⟩ := ini_rng (a := 1) (b := 8) (by decide) (by decide) e
    exact ⟨j, j2, j3⟩
  subst hx
  rw [e]
  refine br0 n10 ?_
  have M0 : ∀ P : Int32 → GM → Prop, (N + c ≤ 160 → ∃ y, wM_feed y 1 (nI c) x2l 0 g P) → (¬ N + c ≤ 160 → P (-4) g) → ∃ y, wM_feed y 0 (nI c) x2l 0 g P := by
    intro P h1 h2
    by_cases c1 : N + c ≤ 160
    · obtain ⟨y, hy⟩ := h1 c1
      refine ⟨y + 1, ?_⟩
      rw [wM_feed]
      refine mIn (lo := 1) (hi := 8) rfl rfl ?_
      rw [e]
      refine br0 n10 ?_
      rw [b3, nI_add]
      exact br_t (nI_le (a := N + c) (b := 160) c1 (by decide)) hy
    · refine ⟨1, ?_⟩
      rw [wM_feed]
      refine mIn (lo := 1) (hi := 8) rfl rfl ?_
      rw [e]
      refine br0 n10 ?_
      rw [b3, nI_add]
      exact br_f (nI_ge (a := 160) (b := N + c) (by omega) (by omega)) (h2 c1)
  rw [b2, nI_add]
  by_cases c1 : N + c ≤ 160
  · refine br_t (nI_le (a := N + c) (b := 160) c1 (by decide)) (cTake hc c1 b2 (fun k' f a1 a2 a3 => M0 _ (fun _ => mTake hc c1 b3 (fun g' fg d1 d2 d3 => ?_)) (fun z => absurd c1 z)))
    refine ⟨a1, n, nt, np, nw, N + c, hu.tape f fg ⟨c1, a1, d1, fun i hi => ?_⟩⟩
    rcases Nat.lt_or_ge i N with z | z
    · rw [a2 i z, d2 i z]; exact b4 i z
    · obtain ⟨j, ej⟩ : ∃ j, i = N + j := ⟨i - N, by omega⟩
      subst ej
      rw [a3 j (by omega), d3 j (by omega)]
      exact ⟨rfl, byN _⟩
  · exact br_f (nI_ge (a := 160) (b := N + c) (by omega) (by omega)) (M0 _ (fun z => absurd z c1) (fun _ => ⟨rfl, _, _, _, _, _, hu⟩))
end Fe
