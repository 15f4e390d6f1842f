/-! ===== trials ===== -/
section Ts
variable {t n nt np nw N : Nat} {k k' : KC} {g g' : GM}
theorem RelA.ups {u : Nat} (h : RelA t n nt np nw N k g) (hu : t ≤ u) : RelA u n nt np nw N k g := by
  induction u with
  | zero => rw [Nat.le_zero.mp hu] at h; exact h
  | succ u ih =>
    rcases Nat.eq_or_lt_of_le hu with e | e
    · rw [← e]; exact h
    · exact (ih (by omega)).up
theorem Rel.ups {u : Nat} (h : Rel t k g) (hu : t ≤ u) : Rel u k g := by
  obtain ⟨n, nt, np, nw, N, h⟩ := h
  exact ⟨n, nt, np, nw, N, h.ups hu⟩
theorem noL {x : Int32} : ¬ (lg_cmp x.toInt64 (-4611686018427387904 : Int64)) = 0 := fun z => by
  rw [lg_cmp_eq] at z
  have e := congrArg Int64.toInt z
  rw [Int32.toInt_toInt64] at e
  have : (-4611686018427387904 : Int64).toInt = -4611686018427387904 := by decide
  have h1 := Int32.le_toInt x
  omega
theorem yesL : (lg_cmp (-4611686018427387904 : Int64) (-4611686018427387904 : Int64)) = 0 := by decide
theorem mTrStep {s z j c cnt : Nat} {x3 r : Int32} {P : Int32 → GM → Prop} (hs : s < 4) (hz : z ≤ 40) (h63 : g.2.1 63 s = nI z) (hj : j < cnt) (hc : cnt ≤ 20) (q0 : ¬ runOk x3 (nI (2 * j + 2)) z → P (-12) g) (q1 : ∀ a, x3 = nI a → a + (2 * j + 2) ≤ z → wM_trial (g.2.1 64 (40 * s + a + 2 * j)) (g.2.1 64 (40 * s + a + 2 * j + 1)) g (fun r_14 k_14 => (((lg_cmp r_14 (-4611686018427387904 : Int64)) = 0 → wM_trials c 1 (nI s) 0 x3 (nI cnt) r (nI (j + 1)) k_14 P) ∧ (¬ (lg_cmp r_14 (-4611686018427387904 : Int64)) = 0 → wM_trials c 1 (nI s) 0 x3 (nI cnt) (r + 1) (nI (j + 1)) k_14 P)))) : wM_trials (c + 1) 1 (nI s) 0 x3 (nI cnt) r (nI j) g P := by
  rw [wM_trials]
  any_goals (intro h9; exact absurd h9 (by decide))
  have e2 : (2 : Int32) * nI j = nI (2 * j) := pk_mul 2 j
  have w2 : (nI (2 * j)).toInt = 2 * j := nI_toInt (by omega)
  have wz : (nI z).toInt = z := nI_toInt (by omega)
  have w3 : (nI z - nI (2 * j)).toInt = (nI z).toInt - (nI (2 * j)).toInt := i_sub (by omega) (by omega)
  have wt : (2 : Int32).toInt = 2 := by decide
  have w4 : (nI z - nI (2 * j) - 2).toInt = (nI z - nI (2 * j)).toInt - (2 : Int32).toInt := i_sub (by omega) (by omega)
  rw [e2, nI_1 j, nI_clamp (n := s) (by omega), h63, Int32.add_zero]
  refine br_f (nI_ge hj (by omega)) ⟨fun c1 => q0 (fun ⟨a, b, h1, h2, h3⟩ => absurd c1 (by rw [h2]; exact nI_pos (by omega))), fun c1 => ⟨vp_in_nI hs (by decide), fun c2 => ?_, fun c2 => q0 (fun ⟨a, b, h1, h2, h3⟩ => c2 ?_)⟩⟩
  · obtain ⟨a, ha, ea⟩ := nI_of c1
    have e3 : x3.toInt = a := by rw [ea]; exact nI_toInt ha
    have := Int32.le_iff_toInt_le.mp c2
    have haz : a + (2 * j + 2) ≤ z := by omega
    have f1 : (40 : Int32) * nI s + x3 + nI (2 * j) = nI (40 * s + a + 2 * j) := by
      rw [ea, show (40 : Int32) = nI 40 from rfl, pk_mul, nI_add, nI_add]
    rw [f1, nI_1 (40 * s + a + 2 * j), nI_clamp (n := 40 * s + a + 2 * j) (by omega), nI_clamp (n := 40 * s + a + 2 * j + 1) (by omega)]
    exact ⟨vp_in_nI (by omega) (by decide), vp_in_nI (by omega) (by decide), q1 a ea haz⟩
  · have e5 := (nI_eq (by omega) (by omega)).mp h3
    have e3 : x3.toInt = a := by rw [h2]; exact nI_toInt (by omega)
    apply Int32.le_iff_toInt_le.mpr
    omega
theorem trLoop {s z cnt : Nat} {x3 : Int32} (hs : s < 4) (hz : z ≤ 40) (hc : cnt ≤ 20) : ∀ (c j : Nat) (r : Int32) (k : KC) (g : GM) (t : Nat) (Q : Int32 → KC → Prop), cnt - j = c → j ≤ cnt → t + c < 2000 → RelA t n nt np nw N k g → k.1 (9 + s) 1 = nI z → ¬ k.1 (9 + s) 0 = -1 → (∀ v k', (∀ P : Int32 → GM → Prop, (∀ g', RelA (t + c) n nt np nw N k' g' → P v g') → ∃ F, wM_trials F 1 (nI s) 0 x3 (nI cnt) r (nI j) g P) → Q v k') → wC_trials (c + 1) 1 0 0 x3 (nI cnt) (9 + s) r (nI j) k Q := by
  intro c
  induction c with
  | zero =>
    intro j r k g t Q hm hj ht h h1 h0 q
    have ej : j = cnt := by omega
    subst ej
    rw [wC_trials]
    any_goals (intro h9; exact absurd h9 (by decide))
    refine br_t (nI_le (Nat.le_refl _) (by omega)) (q _ _ (fun P hP => ⟨1, ?_⟩))
    rw [wM_trials]
    any_goals (intro h9; exact absurd h9 (by decide))
    exact br_t (nI_le (Nat.le_refl _) (by omega)) (hP _ h)
  | succ c ih =>
    intro j r k g t Q hm hj ht h h1 h0 q
    have hn := h.1.1
    obtain ⟨q1, ⟨so, q2, q2'⟩, q3, z', q4, q5, q6, q7⟩ : (g.2.1 61 s = 1 ∧ (∃ so, so < 3 ∧ k.1 (9 + s) 0 = nI so) ∧ g.2.1 62 s = k.1 (9 + s) 0 ∧ ∃ z, z ≤ 40 ∧ k.1 (9 + s) 1 = nI z ∧ g.2.1 63 s = nI z ∧ ∀ i, i < z → k.2.1 (9 + s) 2 i = g.2.1 64 (40 * s + i)) := (h.2.2.2.2.2.2.2.1 s hs).resolve_left (fun y => h0 y.2)
    have ez : z' = z := (nI_eq (by omega) (by omega)).mp (q5.symm.trans h1)
    subst ez
    rw [wC_trials]
    any_goals (intro h9; exact absurd h9 (by decide))
    have e2 : (2 : Int32) * nI j = nI (2 * j) := pk_mul 2 j
    have e22 : nI (2 * j) + (2 : Int32) = nI (2 * j + 2) := nI_add (2 * j) 2
    rw [e2, e22, nI_1 j]
    have hf := h.ups (u := t + (c + 1)) (by omega)
    refine br_f (nI_ge (a := j) (b := cnt) (by omega) (by omega)) (cRun q5 q4 (fun ro => br0 n10 ?_) (fun ro => br1 rfl (q _ _ (fun P hP => ⟨0 + 1, mTrStep hs q4 q6 (by omega) hc (fun _ => hP _ hf) (fun a e1 e2 => absurd ⟨a, 2 * j + 2, e2, e1, rfl⟩ ro)⟩))))
    obtain ⟨a, m, r1, r2, r3⟩ := ro
    have em : m = 2 * j + 2 := (nI_eq (by omega) (by omega)).mp r3.symm
    subst em
    subst r2
    rw [nI_add, nI_1 (a + 2 * j), nI_clamp (n := a + 2 * j) (by omega), nI_clamp (n := a + 2 * j + 1) (by omega)]
    refine ⟨vp_in_nI (by omega) (by decide), vp_in_nI (by omega) (by decide), fun v14 ev => ?_⟩
    have v1 : k.2.1 (9 + s) 2 (a + 2 * j) = g.2.1 64 (40 * s + a + 2 * j) := by rw [q7 (a + 2 * j) (by omega), Nat.add_assoc]
    have v2 : k.2.1 (9 + s) 2 (a + 2 * j + 1) = g.2.1 64 (40 * s + a + 2 * j + 1) := by rw [q7 (a + 2 * j + 1) (by omega)]; exact congrArg (g.2.1 64) (by omega)
    rw [v2] at ev
    subst ev
    rw [v1]
    have ro : runOk (nI a) (nI (2 * j + 2)) z' := ⟨a, _, r1, rfl, rfl⟩
    have ea : ∀ a', nI a = nI a' → a' + (2 * j + 2) ≤ z' → a' = a := fun a' y w => (nI_eq (by omega) (by omega)).mp y.symm
    have st : t + 1 + c = t + (c + 1) := by omega
    -- the rest behind a TRIAL that was left out
    have skip : (∀ P : Int64 → GM → Prop, P (-4611686018427387904) g → wM_trial (g.2.1 64 (40 * s + a + 2 * j)) (g.2.1 64 (40 * s + a + 2 * j + 1)) g P) → wC_trials (c + 1) 1 0 0 (nI a) (nI cnt) (9 + s) r (nI (j + 1)) k Q := by
      intro hw
      refine ih (j + 1) r k g (t + 1) Q (by omega) (by omega) (by omega) h.up h1 h0 (fun v k' hv => q v k' (fun P hP => ?_))
      rw [st] at hv
      obtain ⟨F, hF⟩ := hv P hP
      refine ⟨F + 1, mTrStep hs q4 q6 (by omega) hc (fun y => absurd ro y) (fun a' y1 y2 => ?_)⟩
      rw [ea a' y1 y2]
      exact hw _ (br_t yesL hF)
    refine cSet hn h.1.2.1 ?_
    rcases ini_c (g.2.1 64 (40 * s + a + 2 * j)) 0 (nI (2 ^ n) - 1) with e | e
    · rw [e]
      refine br_t rfl (skip (fun P hP => ?_))
      unfold wM_trial
      refine mSet hn h.1.2.2.1 ?_
      rw [e]
      exact br_t rfl hP
    rw [e]
    unfold wC_isEnd
    refine br_f n10 (cWithin ?_)
    rcases ini_c (g.2.1 64 (40 * s + a + 2 * j + 1)) 0 3 with e3 | e3
    · rw [e3]
      refine br_t rfl (skip (fun P hP => ?_))
      unfold wM_trial
      refine mSet hn h.1.2.2.1 ?_
      rw [e]
      refine br_f n10 (mIn (lo := 0) (hi := 3) rfl rfl ?_)
      rw [e3]
      exact br1 rfl hP
    rw [e3]
    obtain ⟨b, hb1, hb2, eb⟩ := set_idx hn e
    obtain ⟨f, hf1, hf2, ef⟩ := ini_rng (a := 0) (b := 3) (by decide) (by decide) e3
    refine br_f n10 ?_
    rw [eb, ef]
    refine relTrial (P := fun _ _ => True) (by omega) h (by omega) (fun v k1 fr hv => ?_)
    have s0 : k1.1 (9 + s) 0 = k.1 (9 + s) 0 := fr.1 (9 + s) 0 (co_4 (P := fun s => oMd 2 (9 + s) 0 = false) rfl rfl rfl rfl hs)
    have s1 : k1.1 (9 + s) 1 = k.1 (9 + s) 1 := fr.1 (9 + s) 1 (co_4 (P := fun s => oMd 2 (9 + s) 1 = false) rfl rfl rfl rfl hs)
    sorry
end Ts
