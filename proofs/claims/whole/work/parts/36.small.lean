/-! ===== small calls: told the same, and the states stay side by side ===== -/
theorem updz {f : Nat → Int32} {n : Nat} {v : Int32} (h : f n = v) : upd f n v = f := by
  funext j
  show (if j = n then v else f j) = f j
  by_cases e : j = n
  · rw [if_pos e, e, h]
  · rw [if_neg e]
theorem ini_idx {x : Int32} {n : Nat} (hn : n < 2 ^ 30) (h : ini x 0 (nI n - 1) = 1) : ∃ s, s < n ∧ x = nI s := by
  rw [ini_iff, i0] at h
  have e : (nI n - 1).toInt = (n : Int) - 1 := pk_sub_toInt (b := 1) hn (by decide)
  rw [e] at h
  by_cases c : 0 ≤ x.toInt ∧ x.toInt ≤ (n : Int) - 1
  · exact ⟨x.toInt.toNat, by omega, clampI (by omega)⟩
  · rw [if_neg c] at h; exact absurd h (by decide)
theorem ini_rng {x : Int32} {a b : Nat} (ha : a < 2 ^ 31) (hb : b < 2 ^ 31) (h : ini x (nI a) (nI b) = 1) : ∃ j, a ≤ j ∧ j ≤ b ∧ x = nI j := by
  rw [ini_iff, nI_toInt ha, nI_toInt hb] at h
  by_cases c : (a : Int) ≤ x.toInt ∧ x.toInt ≤ (b : Int)
  · exact ⟨x.toInt.toNat, by omega, by omega, clampI (by omega)⟩
  · rw [if_neg c] at h; exact absurd h (by decide)
theorem sh1 {k : KC} {i j s y : Nat} {v : Int32} (hi : i < 9) : (cI k i j v).1 (9 + s) y = k.1 (9 + s) y := by
  show (bif Nat.beq (9 + s) i && Nat.beq y j then v else k.1 (9 + s) y) = k.1 (9 + s) y
  have e : Nat.beq (9 + s) i = false := Bool.eq_false_iff.mpr (fun z => by have := Nat.eq_of_beq_eq_true z; omega)
  rw [e]; rfl
theorem sh2 {k : KC} {i j s y : Nat} {f : Nat → Int32} (hi : i < 9) : (cA k i j f).2.1 (9 + s) y = k.2.1 (9 + s) y := by
  show (bif Nat.beq (9 + s) i && Nat.beq y j then f else k.2.1 (9 + s) y) = k.2.1 (9 + s) y
  have e : Nat.beq (9 + s) i = false := Bool.eq_false_iff.mpr (fun z => by have := Nat.eq_of_beq_eq_true z; omega)
  rw [e]; rfl
theorem RS.eq {k k' : KC} {g g' : GM} (h : RS k g) (e1 : ∀ s y, k'.1 (9 + s) y = k.1 (9 + s) y) (e2 : ∀ s y, k'.2.1 (9 + s) y = k.2.1 (9 + s) y) (r1 : g'.2.1 61 = g.2.1 61) (r2 : g'.2.1 62 = g.2.1 62) (r3 : g'.2.1 63 = g.2.1 63) (r4 : g'.2.1 64 = g.2.1 64) : RS k' g' := fun s hs => by
  have := h s hs
  unfold ShR at this ⊢
  rw [e1, e1, e2, r1, r2, r3, r4]; exact this
section Sm
variable {t n nt np nw N : Nat} {k : KC} {g : GM}
theorem cHas {x : Int32} {Q : Int32 → KC → Prop} (h : k.1 1 0 = nI n) (q : Q (ini x 0 (nI n - 1)) k) : wC_X8_hasSign x k Q := by
  unfold wC_X8_hasSign
  rw [h]; exact cWithin q
theorem mOne {x : Int32} {Q : Int32 → GM → Prop} (h : g.1 10 = nI n) (q : Q (ini x 0 (nI n - 1)) g) : wM_isOne x g Q := by
  unfold wM_isOne
  rw [h]; exact mIn (lo := 0) (hi := nI n - 1) rfl rfl q
theorem mPlan {x : Int32} {Q : Int32 → GM → Prop} (h : g.1 33 = nI np) (q : Q (ini x 0 (nI np - 1)) g) : wM_isPlan x g Q := by
  unfold wM_isPlan
  rw [h]; exact mIn (lo := 0) (hi := nI np - 1) rfl rfl q
theorem shl1 : ∀ n, n ≤ 8 → (1 : Int32) <<< (nI n &&& 31) = nI (2 ^ n) := by decide +kernel
theorem cSet {x : Int32} {Q : Int32 → KC → Prop} (hn : n ≤ 8) (h : k.1 1 0 = nI n) (q : Q (ini x 0 (nI (2 ^ n) - 1)) k) : wC_X8_isSet x k Q := by
  unfold wC_X8_isSet
  rw [h, shl1 n hn]; exact cWithin q
theorem mSet {x : Int32} {Q : Int32 → GM → Prop} (hn : n ≤ 8) (h : g.1 10 = nI n) (q : Q (ini x 0 (nI (2 ^ n) - 1)) g) : wM_isSet x g Q := by
  unfold wM_isSet
  rw [h, shl1 n hn]; exact mIn (lo := 0) (hi := nI (2 ^ n) - 1) rfl rfl q
theorem pw8 (hn : n ≤ 8) : 2 ^ n ≤ 256 := by
  have : 2 ^ n ≤ 2 ^ 8 := Nat.pow_le_pow_right (by decide) hn
  exact this
theorem set_idx {x : Int32} (hn : n ≤ 8) (h : ini x 0 (nI (2 ^ n) - 1) = 1) : ∃ b, b < 2 ^ n ∧ b < 256 ∧ x = nI b := by
  have h2 := pw8 hn
  obtain ⟨b, hb, e⟩ := ini_idx (by omega) h
  exact ⟨b, hb, by omega, e⟩
theorem set_some : ∀ b, b < 256 → b ≠ 0 → ∃ s, s < 8 ∧ isO (nI b) s = true := by decide +kernel
theorem op_pace (x : Int32) (h : Rel t k g) : wC_pace x k (fun r k' => wM_pace x g (fun r' g' => r = r' ∧ Rel (t + 1) k' g')) := by
  obtain ⟨n, nt, np, nw, N, h⟩ := h
  have hu := h.up
  unfold wC_pace wM_pace
  refine cWithin ?_
  rcases ini_c x 1 100 with e | e
  · rw [e]
    refine ⟨fun z => absurd rfl z, fun _ => mIn (lo := 1) (hi := 100) rfl rfl ?_⟩
    rw [e]
    exact ⟨fun z => absurd rfl z, fun _ => ⟨rfl, n, nt, np, nw, N, hu⟩⟩
  · rw [e]
    refine ⟨fun _ => mIn (lo := 1) (hi := 100) rfl rfl ?_, fun z => absurd z n10⟩
    rw [e]
    obtain ⟨h1, h2, h3, ⟨m1, m2, m3, m4, m5, m6, m7, m8⟩, h5, h6, h7, h8, h9, h10⟩ := hu
    exact ⟨fun _ => ⟨m5, n, nt, np, nw, N, h1, h2, h3, ⟨m1, m2, m3, m4, rfl, m6, m7, m8⟩, h5, h6, h7, h8.eq (fun s y => sh1 (by decide)) (fun s y => rfl) rfl rfl rfl rfl, h9, h10⟩, fun z => absurd z n10⟩
theorem op_force (x : Int32) (h : Rel t k g) : wC_force x k (fun r k' => wM_force x g (fun r' g' => r = r' ∧ Rel (t + 1) k' g')) := by
  obtain ⟨n, nt, np, nw, N, h⟩ := h
  have hu := h.up
  unfold wC_force wM_force
  rw [h.2.1.2.1, h.2.1.2.2.1]
  refine cWithin ?_
  rcases ini_c x 0 (nI nt - 1) with e | e
  · rw [e]
    refine ⟨fun z => absurd rfl z, fun _ => mIn (lo := 0) (hi := nI nt - 1) rfl rfl ?_⟩
    rw [e]
    exact ⟨fun z => absurd rfl z, fun _ => ⟨rfl, n, nt, np, nw, N, hu⟩⟩
  · rw [e]
    refine ⟨fun _ => mIn (lo := 0) (hi := nI nt - 1) rfl rfl ?_, fun z => absurd z n10⟩
    rw [e]
    obtain ⟨r, hr, er⟩ := ini_idx (by have := h.2.1.1; omega) e
    obtain ⟨h1, h2, h3, ⟨m1, m2, m3, m4, m5, m6, m7, m8⟩, ⟨b1, b2, b3, b4⟩, h6, h7, h8, h9, h10⟩ := hu
    exact ⟨fun _ => ⟨m6, n, nt, np, nw, N, h1, h2, h3, ⟨m1, m2, m3, m4, m5, rfl, m7, m8⟩, ⟨⟨r, hr, er⟩, b2, b3, b4⟩, h6, h7, h8.eq (fun s y => sh1 (by decide)) (fun s y => rfl) rfl rfl rfl rfl, h9, h10⟩, fun z => absurd z n10⟩
theorem op_worth (x1 x2 : Int32) (h : Rel t k g) : wC_worth x1 x2 k (fun r k' => wM_worth x1 x2 g (fun r' g' => r = r' ∧ Rel (t + 1) k' g')) := by
  obtain ⟨n, nt, np, nw, N, h⟩ := h
  have hu := h.up
  unfold wC_worth wM_worth
  refine cWithin ?_
  rcases ini_c x1 1 3 with e | e
  · rw [e]
    refine br_t rfl (mIn (lo := 1) (hi := 3) rfl rfl ?_)
    rw [e]
    exact br_t rfl ⟨rfl, n, nt, np, nw, N, hu⟩
  · rw [e]
    refine br_f n10 (cWithin ?_)
    rcases ini_c x2 (-2000) 2000 with e2 | e2
    · rw [e2]
      refine br1 rfl (mIn (lo := 1) (hi := 3) rfl rfl ?_)
      rw [e]
      refine br_f n10 (mIn (lo := -2000) (hi := 2000) rfl rfl ?_)
      rw [e2]
      exact br1 rfl ⟨rfl, n, nt, np, nw, N, hu⟩
    · rw [e2]
      obtain ⟨j, hj1, hj2, ej⟩ := ini_rng (a := 1) (b := 3) (by decide) (by decide) e
      subst ej
      have hin : vp_in (nI j) 4 := vp_in_nI (by omega) (by decide)
      refine br0 n10 ⟨hin, hin, mIn (lo := 1) (hi := 3) rfl rfl ?_⟩
      rw [e]
      refine br_f n10 (mIn (lo := -2000) (hi := 2000) rfl rfl ?_)
      rw [e2]
      obtain ⟨⟨w1, w2, w3, w4, w5, w6, w7, w8⟩, h2, h3, h4, h5, h6, h7, h8, h9, h10⟩ := hu
      refine br0 n10 ⟨hin, hin, by rw [w5], n, nt, np, nw, N, ⟨w1, w2, w3, w4, ?_, w6, w7, w8⟩, h2, h3, h4, h5, h6, h7, h8.eq (fun s y => rfl) (fun s y => sh2 (by decide)) rfl rfl rfl rfl, h9, h10⟩
      show upd (k.2.1 1 4) _ x2 = upd (g.2.1 11) _ x2
      rw [w5]
theorem op_goes (x1 x2 x3 : Int32) (h : Rel t k g) : wC_goes x1 x2 x3 k (fun r k' => wM_goes x1 x2 x3 g (fun r' g' => r = r' ∧ Rel (t + 1) k' g')) := by
  obtain ⟨n, nt, np, nw, N, h⟩ := h
  have hu := h.up
  unfold wC_goes wM_goes wC_isEnd
  refine cWithin ?_
  rcases ini_c x1 0 5 with e | e
  · rw [e]
    refine br_t rfl (mIn (lo := 0) (hi := 5) rfl rfl ?_)
    rw [e]
    exact br_t rfl ⟨rfl, n, nt, np, nw, N, hu⟩
  rw [e]
  refine br_f n10 (cWithin ?_)
  rcases ini_c x2 0 3 with e2 | e2
  · rw [e2]
    refine br_t rfl (mIn (lo := 0) (hi := 5) rfl rfl ?_)
    rw [e]
    refine br_f n10 (mIn (lo := 0) (hi := 3) rfl rfl ?_)
    rw [e2]
    exact br_t rfl ⟨rfl, n, nt, np, nw, N, hu⟩
  rw [e2]
  refine br_f n10 (cWithin ?_)
  rcases ini_c x3 0 100 with e3 | e3
  · rw [e3]
    refine br1 rfl (mIn (lo := 0) (hi := 5) rfl rfl ?_)
    rw [e]
    refine br_f n10 (mIn (lo := 0) (hi := 3) rfl rfl ?_)
    rw [e2]
    refine br_f n10 (mIn (lo := 0) (hi := 100) rfl rfl ?_)
    rw [e3]
    exact br1 rfl ⟨rfl, n, nt, np, nw, N, hu⟩
  rw [e3]
  obtain ⟨a, ha1, ha2, ea⟩ := ini_rng (a := 0) (b := 5) (by decide) (by decide) e
  obtain ⟨b, hb1, hb2, eb⟩ := ini_rng (a := 0) (b := 3) (by decide) (by decide) e2
  subst ea eb
  have ei : nI a * (4 : Int32) + nI b = nI (a * 4 + b) := by
    show nI a * nI 4 + nI b = _
    rw [pk_mul, nI_add]
  have ei2 : (4 : Int32) * nI a + nI b = nI (a * 4 + b) := by rw [Int32.mul_comm, ei]
  have hin : vp_in (nI (a * 4 + b)) 24 := vp_in_nI (by omega) (by decide)
  rw [ei]
  refine br0 n10 ⟨hin, hin, mIn (lo := 0) (hi := 5) rfl rfl ?_⟩
  rw [e]
  refine br_f n10 (mIn (lo := 0) (hi := 3) rfl rfl ?_)
  rw [e2]
  refine br_f n10 (mIn (lo := 0) (hi := 100) rfl rfl ?_)
  rw [e3, ei2]
  obtain ⟨⟨w1, w2, w3, w4, w5, w6, w7, w8⟩, h2, h3, h4, h5, h6, h7, h8, h9, h10⟩ := hu
  refine br0 n10 ⟨hin, hin, by rw [w6], n, nt, np, nw, N, ⟨w1, w2, w3, w4, w5, ?_, w7, w8⟩, h2, h3, h4, h5, h6, h7, h8.eq (fun s y => rfl) (fun s y => sh2 (by decide)) rfl rfl rfl rfl, h9, h10⟩
  show upd (k.2.1 1 5) _ x3 = upd (g.2.1 12) _ x3
  rw [w6]
theorem cTwo {x1 x2 : Int32} {Q : Int32 → KC → Prop} (h : k.1 1 0 = nI n) (q0 : (ini x1 0 (nI n - 1) = 0 ∨ ini x2 0 (nI n - 1) = 0 ∨ x1 = x2) → Q 0 k) (q1 : ini x1 0 (nI n - 1) = 1 → ini x2 0 (nI n - 1) = 1 → x1 ≠ x2 → Q 1 k) : wC_X8_areTwoSigns x1 x2 k Q := by
  unfold wC_X8_areTwoSigns
  refine cHas h ?_
  rcases ini_c x1 0 (nI n - 1) with e | e
  · rw [e]; exact br_t rfl (q0 (Or.inl e))
  rw [e]
  refine br_f n10 (cHas h ?_)
  rcases ini_c x2 0 (nI n - 1) with e2 | e2
  · rw [e2]; exact br_t rfl (q0 (Or.inr (Or.inl e2)))
  rw [e2]
  exact br_f n10 ⟨fun z => q0 (Or.inr (Or.inr z)), fun z => q1 e e2 z⟩
theorem mTwo {x1 x2 : Int32} {A : GM → Prop} {B : GM → Prop} (h : g.1 10 = nI n) (q0 : (ini x1 0 (nI n - 1) = 0 ∨ ini x2 0 (nI n - 1) = 0 ∨ x1 = x2) → A g) (q1 : ini x1 0 (nI n - 1) = 1 → ini x2 0 (nI n - 1) = 1 → x1 ≠ x2 → B g) : wM_isOne x1 g (fun r_1 k_1 => ((r_1 = 0 → A k_1) ∧ (¬ r_1 = 0 → (wM_isOne x2 k_1 (fun r_3 k_3 => ((r_3 = 0 → A k_3) ∧ (¬ r_3 = 0 → ((x1 = x2 → A k_3) ∧ (¬ x1 = x2 → B k_3))))))))) := by
  refine mOne h ?_
  rcases ini_c x1 0 (nI n - 1) with e | e
  · rw [e]; exact br_t rfl (q0 (Or.inl e))
  rw [e]
  refine br_f n10 (mOne h ?_)
  rcases ini_c x2 0 (nI n - 1) with e2 | e2
  · rw [e2]; exact br_t rfl (q0 (Or.inr (Or.inl e2)))
  rw [e2]
  exact br_f n10 ⟨fun z => q0 (Or.inr (Or.inr z)), fun z => q1 e e2 z⟩
theorem likeSym {f : Nat → Int32} {a b : Nat} {v : Int32} (ha : a < 8) (hb : b < 8) (h : ∀ s q, s < 8 → q < 8 → f (8 * s + q) = f (8 * q + s)) : ∀ s q, s < 8 → q < 8 → upd (upd f (8 * a + b) v) (8 * b + a) v (8 * s + q) = upd (upd f (8 * a + b) v) (8 * b + a) v (8 * q + s) := by
  intro s q hs hq
  show (if 8 * s + q = 8 * b + a then v else if 8 * s + q = 8 * a + b then v else f (8 * s + q)) = (if 8 * q + s = 8 * b + a then v else if 8 * q + s = 8 * a + b then v else f (8 * q + s))
  have e1 : (8 * s + q = 8 * b + a) = (8 * q + s = 8 * a + b) := propext ⟨fun z => by omega, fun z => by omega⟩
  have e2 : (8 * s + q = 8 * a + b) = (8 * q + s = 8 * b + a) := propext ⟨fun z => by omega, fun z => by omega⟩
  by_cases c1 : 8 * s + q = 8 * b + a
  · rw [if_pos c1]
    by_cases c2 : 8 * q + s = 8 * b + a
    · rw [if_pos c2]
    · rw [if_neg c2, if_pos (e1 ▸ c1)]
  · rw [if_neg c1]
    have c3 : ¬ 8 * q + s = 8 * a + b := fun z => c1 (by omega)
    by_cases c2 : 8 * s + q = 8 * a + b
    · rw [if_pos c2, if_pos (by omega)]
    · rw [if_neg c2, if_neg (by omega), if_neg c3, h s q hs hq]
theorem ix8 (a b : Nat) : nI a * (8 : Int32) + nI b = nI (8 * a + b) := by
  show nI a * nI 8 + nI b = _
  rw [pk_mul, nI_add, Nat.mul_comm]
theorem ix8' (a b : Nat) : (8 : Int32) * nI a + nI b = nI (8 * a + b) := by
  show nI 8 * nI a + nI b = _
  rw [pk_mul, nI_add]
theorem op_like (x1 x2 x3 : Int32) (h : Rel t k g) : wC_like x1 x2 x3 k (fun r k' => wM_like x1 x2 x3 g (fun r' g' => r = r' ∧ Rel (t + 1) k' g')) := by
  obtain ⟨n, nt, np, nw, N, h⟩ := h
  have hu := h.up
  have hn := h.1.1
  unfold wC_like
  refine cTwo h.1.2.1 (fun hz => br_t rfl ?_) (fun e1 e2 e12 => br_f n10 (cWithin ?_))
  · unfold wM_like
    exact mTwo h.1.2.2.1 (fun _ => ⟨rfl, n, nt, np, nw, N, hu⟩) (fun e1 e2 e3 => by
      rcases hz with z | z | z
      · rw [e1] at z; exact absurd z n10
      · rw [e2] at z; exact absurd z n10
      · exact absurd z e3)
  obtain ⟨a, ha, ea⟩ := ini_idx (by omega) e1
  obtain ⟨b, hb, eb⟩ := ini_idx (by omega) e2
  subst ea eb
  rcases ini_c x3 0 100 with e3 | e3
  · rw [e3]
    refine br1 rfl ?_
    unfold wM_like
    refine mTwo h.1.2.2.1 (fun hz => ⟨rfl, n, nt, np, nw, N, hu⟩) (fun _ _ _ => mIn (lo := 0) (hi := 100) rfl rfl ?_)
    rw [e3]
    exact br1 rfl ⟨rfl, n, nt, np, nw, N, hu⟩
  · rw [e3]
    refine br0 n10 ?_
    unfold wC_X8_likeOf wC_X8_setLike
    rw [ix8, ix8]
    have i1 : vp_in (nI (8 * a + b)) 64 := vp_in_nI (by omega) (by decide)
    have i2 : vp_in (nI (8 * b + a)) 64 := vp_in_nI (by omega) (by decide)
    refine ⟨i1, i1, i2, ?_⟩
    unfold wM_like
    refine mTwo h.1.2.2.1 (fun hz => ?_) (fun _ _ _ => mIn (lo := 0) (hi := 100) rfl rfl ?_)
    · exfalso
      rcases hz with z | z | z
      · rw [e1] at z; exact absurd z n10
      · rw [e2] at z; exact absurd z n10
      · exact absurd z e12
    rw [e3, ix8', ix8']
    obtain ⟨⟨w1, w2, w3, w4, w5, w6, w7, w8, w9⟩, h2, h3, h4, h5, h6, h7, h8, h9, h10⟩ := hu
    rw [nI_clamp (by omega), nI_clamp (by omega)]
    refine br0 n10 ⟨i1, i1, i2, by rw [w7], n, nt, np, nw, N, ⟨w1, w2, w3, w4, w5, w6, ?_, w8, ?_⟩, h2, h3, h4, h5, h6, h7, h8.eq (fun s y => rfl) (fun s y => (sh2 (by decide)).trans (sh2 (by decide))) rfl rfl rfl rfl, h9, h10⟩
    · show upd (upd (k.2.1 1 6) _ x3) _ x3 = upd (upd (g.2.1 13) _ x3) _ x3
      rw [w7]
    · exact likeSym (by omega) (by omega) w9
theorem op_count (x : Int32) (h : Rel t k g) : wC_count x k (fun r k' => wM_count x g (fun r' g' => r = r' ∧ Rel (t + 1) k' g')) := by
  obtain ⟨n, nt, np, nw, N, h⟩ := h
  have hu : Rel (t + 1) k g := ⟨n, nt, np, nw, N, h.up⟩
  obtain ⟨h1, h2, h3, ⟨m1, m2, m3, m4, m5, m6, m7, m8⟩, h5, h6, h7, h8, h9, h10⟩ := h
  have M : ∀ (P : Int32 → GM → Prop), (x = 0 → P (g.1 10) g) → (x = 1 → P (g.1 15) g) → (x = 2 → P (g.1 33) g) → (x = 3 → P (g.1 3) g) → (x = 4 → P (g.1 6) g) → (x = 5 → P (g.1 4) g) → (x = 6 → P (g.1 46) g) → (x = 7 → P ((((g.2.1 35 0) + (g.2.1 35 1)) + (g.2.1 35 2)) + (g.2.1 35 3)) g) → (x = 8 → P (g.1 14) g) → (¬ x = 0 → ¬ x = 1 → ¬ x = 2 → ¬ x = 3 → ¬ x = 4 → ¬ x = 5 → ¬ x = 6 → ¬ x = 7 → ¬ x = 8 → P (-2) g) → wM_count x g P := fun P p0 p1 p2 p3 p4 p5 p6 p7 p8 p9 => ⟨p0, p1, p2, p3, p4, p5, p6, p7, p8, p9⟩
  have nn : ∀ a b : Nat, a < 100 → b < 100 → a ≠ b → ¬ (nI a = nI b) := fun a b ha hb hab z => hab ((nI_eq (by omega) (by omega)).mp z)
  refine ⟨fun e => ?_, fun e => ?_, fun e => ?_, fun e => ?_, fun e => ?_, fun e => ?_, fun e => ?_, fun e => ?_, fun e => ?_, fun e0 e1 e2 e3 e4 e5 e6 e7 e8 => ?_⟩
  · subst e
    exact M _ (fun _ => ⟨h1.2.1.trans h1.2.2.1.symm, hu⟩) (fun z => absurd z (by decide)) (fun z => absurd z (by decide)) (fun z => absurd z (by decide)) (fun z => absurd z (by decide)) (fun z => absurd z (by decide)) (fun z => absurd z (by decide)) (fun z => absurd z (by decide)) (fun z => absurd z (by decide)) (fun z => absurd rfl z)
  · subst e
    exact M _ (fun z => absurd z (by decide)) (fun _ => ⟨m3, hu⟩) (fun z => absurd z (by decide)) (fun z => absurd z (by decide)) (fun z => absurd z (by decide)) (fun z => absurd z (by decide)) (fun z => absurd z (by decide)) (fun z => absurd z (by decide)) (fun z => absurd z (by decide)) (fun _ z => absurd rfl z)
  · subst e
    exact M _ (fun z => absurd z (by decide)) (fun z => absurd z (by decide)) (fun _ => ⟨h3.2.1.trans h3.2.2.1.symm, hu⟩) (fun z => absurd z (by decide)) (fun z => absurd z (by decide)) (fun z => absurd z (by decide)) (fun z => absurd z (by decide)) (fun z => absurd z (by decide)) (fun z => absurd z (by decide)) (fun _ _ z => absurd rfl z)
  · subst e
    exact M _ (fun z => absurd z (by decide)) (fun z => absurd z (by decide)) (fun z => absurd z (by decide)) (fun _ => ⟨h2.2.1.trans h2.2.2.1.symm, hu⟩) (fun z => absurd z (by decide)) (fun z => absurd z (by decide)) (fun z => absurd z (by decide)) (fun z => absurd z (by decide)) (fun z => absurd z (by decide)) (fun _ _ _ z => absurd rfl z)
  · subst e
    exact M _ (fun z => absurd z (by decide)) (fun z => absurd z (by decide)) (fun z => absurd z (by decide)) (fun z => absurd z (by decide)) (fun _ => ⟨h9.2.1.trans h9.2.2.1.symm, hu⟩) (fun z => absurd z (by decide)) (fun z => absurd z (by decide)) (fun z => absurd z (by decide)) (fun z => absurd z (by decide)) (fun _ _ _ _ z => absurd rfl z)
  · subst e
    exact M _ (fun z => absurd z (by decide)) (fun z => absurd z (by decide)) (fun z => absurd z (by decide)) (fun z => absurd z (by decide)) (fun z => absurd z (by decide)) (fun _ => ⟨m6, hu⟩) (fun z => absurd z (by decide)) (fun z => absurd z (by decide)) (fun z => absurd z (by decide)) (fun _ _ _ _ _ z => absurd rfl z)
  · subst e
    exact M _ (fun z => absurd z (by decide)) (fun z => absurd z (by decide)) (fun z => absurd z (by decide)) (fun z => absurd z (by decide)) (fun z => absurd z (by decide)) (fun z => absurd z (by decide)) (fun _ => ⟨h7.2.1.trans h7.2.2.1.symm, hu⟩) (fun z => absurd z (by decide)) (fun z => absurd z (by decide)) (fun _ _ _ _ _ _ z => absurd rfl z)
  · subst e
    unfold wC_X0_allTrials
    exact M _ (fun z => absurd z (by decide)) (fun z => absurd z (by decide)) (fun z => absurd z (by decide)) (fun z => absurd z (by decide)) (fun z => absurd z (by decide)) (fun z => absurd z (by decide)) (fun z => absurd z (by decide)) (fun _ => ⟨by rw [m8], hu⟩) (fun z => absurd z (by decide)) (fun _ _ _ _ _ _ _ z => absurd rfl z)
  · subst e
    exact M _ (fun z => absurd z (by decide)) (fun z => absurd z (by decide)) (fun z => absurd z (by decide)) (fun z => absurd z (by decide)) (fun z => absurd z (by decide)) (fun z => absurd z (by decide)) (fun z => absurd z (by decide)) (fun z => absurd z (by decide)) (fun _ => ⟨m5, hu⟩) (fun _ _ _ _ _ _ _ _ z => absurd rfl z)
  · exact M _ (fun z => absurd z e0) (fun z => absurd z e1) (fun z => absurd z e2) (fun z => absurd z e3) (fun z => absurd z e4) (fun z => absurd z e5) (fun z => absurd z e6) (fun z => absurd z e7) (fun z => absurd z e8) (fun _ _ _ _ _ _ _ _ _ => ⟨rfl, hu⟩)
theorem op_sign (x : Int32) (h : Rel t k g) : wC_sign x k (fun r k' => wM_sign x g (fun r' g' => r = r' ∧ Rel (t + 1) k' g')) := by
  obtain ⟨n, nt, np, nw, N, h⟩ := h
  have hu := h.up
  unfold wC_sign wM_sign
  refine cWithin ?_
  rcases ini_c x 0 5 with e | e
  · rw [e]
    refine br1 rfl (mIn (lo := 0) (hi := 5) rfl rfl ?_)
    rw [e]
    exact br1 rfl ⟨rfl, n, nt, np, nw, N, hu⟩
  rw [e, h.1.2.1]
  have hn := h.1.1
  have e8 : nI n < (8 : Int32) ↔ n < 8 := nI_ltI (b := 8) (by omega) (by decide)
  have e88 : nI n = (8 : Int32) ↔ n = 8 := nI_eq (b := 8) (by omega) (by decide)
  rw [e8]
  by_cases c : n < 8
  · have hin : vp_in (nI n) 8 := vp_in_nI c (by decide)
    refine br0 n10 (br_t c ⟨hin, mIn (lo := 0) (hi := 5) rfl rfl ?_⟩)
    rw [e, h.1.2.2.1, e88]
    obtain ⟨j, hj1, hj2, ej⟩ := ini_rng (a := 0) (b := 5) (by decide) (by decide) e
    obtain ⟨⟨w1, w2, w3, w4, w5, w6, w7, w8, w9⟩, h2, h3, ⟨m1, m2, m3⟩, ⟨b1, b2, b3, b4⟩, h6, ⟨v1, v2, v3, v4⟩, h8, h9, h10⟩ := hu
    rw [nI_clamp (by omega), nI_1]
    have z1 : upd (g.2.1 8) n 0 = g.2.1 8 := updz (b2 n (Nat.le_refl n)).1
    have z2 : upd (g.2.1 9) n 0 = g.2.1 9 := updz (b2 n (Nat.le_refl n)).2
    rw [z1, z2]
    refine br0 n10 ⟨fun _ => ⟨hin, hin, hin, rfl, n + 1, nt, np, nw, N, ⟨by omega, rfl, rfl, ?_, w5, w6, w7, ?_, w9⟩, h2, h3, ⟨m1, m2, m3⟩, ⟨b1, fun s hs => b2 s (by omega), b3, b4⟩, ?_, ⟨v1, v2, v3, fun i hi => ?_⟩, h8.eq (fun s y => sh1 (by decide)) (fun s y => sh2 (by decide)) rfl rfl rfl rfl, h9, h10⟩, fun z => by omega⟩
    · show upd (k.2.1 1 3) n x = upd (g.2.1 7) n x
      rw [w4]
    · intro s hs
      show ∃ j, j < 6 ∧ upd (g.2.1 7) n x s = nI j
      by_cases es : s = n
      · rw [es, pk_us]; exact ⟨j, by omega, ej⟩
      · rw [pk_un es]; exact w8 s hs
    · rcases h6 with h6 | ⟨ni, c1, c2⟩
      · exact Or.inl h6
      · exact Or.inr ⟨ni, by omega, c2⟩
    · obtain ⟨a1, a2, ⟨b, hb1, hb2, hb3⟩, a4⟩ := v4 i hi
      exact ⟨a1, a2, ⟨b, by rw [Nat.pow_succ]; omega, hb2, hb3⟩, a4⟩
  · refine br0 n10 (br_f c (mIn (lo := 0) (hi := 5) rfl rfl ?_))
    rw [e, h.1.2.2.1, e88]
    exact br0 n10 (br1 (by omega) ⟨rfl, n, nt, np, nw, N, hu⟩)
end Sm
