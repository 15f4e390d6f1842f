/-! ===== cell, copy, trials ===== -/
section Ce
variable {t n nt np nw N : Nat} {k k' : KC} {g g' : GM}
theorem RS.put {s : Nat} {f G : Nat → Int32} (h : RS k g) (hs : s < 4) (h1 : ∀ z, z ≤ 40 → k.1 (9 + s) 1 = nI z → (∀ i, i < z → k.2.1 (9 + s) 2 i = g.2.1 64 (40 * s + i)) → ∀ i, i < z → f i = G (40 * s + i)) (h2 : ∀ x, (x < 40 * s ∨ 40 * s + 40 ≤ x) → G x = g.2.1 64 x) : RS (cA k (9 + s) 2 f) (sA g 64 G) := fun s' h4 => by
  have q := h s' h4
  unfold ShR at q ⊢
  have e0 : (cA k (9 + s) 2 f).1 = k.1 := rfl
  have r1 : (sA g 64 G).2.1 61 = g.2.1 61 := rfl
  have r2 : (sA g 64 G).2.1 62 = g.2.1 62 := rfl
  have r3 : (sA g 64 G).2.1 63 = g.2.1 63 := rfl
  have r4 : (sA g 64 G).2.1 64 = G := rfl
  rw [e0, r1, r2, r3, r4]
  rcases q with q | ⟨q1, q2, q3, z, q4, q5, q6, q7⟩
  · exact Or.inl q
  refine Or.inr ⟨q1, q2, q3, z, q4, q5, q6, fun i hi => ?_⟩
  by_cases es : s' = s
  · subst es
    rw [cA_e]; exact h1 z q4 q5 q7 i hi
  · rw [cA_n (fun y => es (by omega)), q7 i hi]
    exact (h2 _ (by omega)).symm
theorem op_cell (x1 x2 x3 : Int32) (h : Rel t k g) : wC_cell x1 x2 x3 k (fun r k' => wM_cell x1 x2 x3 g (fun r' g' => r = r' ∧ Rel (t + 1) k' g')) := by
  obtain ⟨n, nt, np, nw, N, h⟩ := h
  have hu := h.up
  have hs := h.2.2.2.2.2.2.2.1
  have fin : ∀ v : Int32, v = v ∧ Rel (t + 1) k g := fun v => ⟨rfl, _, _, _, _, _, hu⟩
  unfold wC_cell wC_isSheet
  refine cWithin ?_
  rcases ini_c x1 0 3 with e | e
  · rw [e]
    refine br1 rfl ?_
    unfold wM_cell wM_isSheet
    refine mIn (lo := 0) (hi := 3) rfl rfl ?_
    rw [e]
    exact br1 rfl (fin _)
  rw [e]
  obtain ⟨s, _, s2, s3⟩ := ini_rng (a := 0) (b := 3) (by decide) (by decide) e
  have hin : vp_in x1 4 := by rw [s3]; exact vp_in_nI (by omega) (by decide)
  have hcl : x1.toNatClampNeg = s := by rw [s3]; exact nI_clamp (by omega)
  rw [hcl]
  refine br0 n10 ⟨hin, fun i3 ei => ?_⟩
  subst ei
  unfold wC_X3_isMissing
  rcases hs s (by omega) with ⟨q1, q2⟩ | ⟨q1, ⟨so, q2, q2'⟩, q3, z, q4, q5, q6, q7⟩
  · refine br1 q2 (br_f n10 ?_)
    unfold wM_cell wM_isSheet
    refine mIn (lo := 0) (hi := 3) rfl rfl ?_
    rw [e, hcl]
    exact br0 n10 ⟨hin, br1 q1 (fin _)⟩
  refine br0 (by rw [q2']; exact nI_n1 (by omega)) (br_t rfl ?_)
  unfold wC_X3_has
  refine cWithin ?_
  rw [q5]
  have R : ∀ P : Int32 → GM → Prop, (ini x2 0 (nI z - 1) = 0 → P (-12) g) → (∀ i, ini x2 0 (nI z - 1) = 1 → x2 = nI i → i < z → ((¬ so = 0 → ((¬ so = 1 → P 1 (sA g 64 (upd (g.2.1 64) (40 * s + i) x3))) ∧ (so = 1 → P 1 (sA g 64 (upd (g.2.1 64) (40 * s + i) x3.toInt16.toInt32))))) ∧ (so = 0 → P 1 (sA g 64 (upd (g.2.1 64) (40 * s + i) x3.toInt8.toInt32))))) → wM_cell x1 x2 x3 g P := by
    intro P p0 p1
    unfold wM_cell wM_isSheet
    refine mIn (lo := 0) (hi := 3) rfl rfl ?_
    rw [e, hcl]
    refine br0 n10 ⟨hin, br0 (by rw [q1]; exact n10) ⟨hin, ?_⟩⟩
    rw [q6]
    refine mIn (lo := 0) (hi := nI z - 1) rfl rfl ?_
    rcases ini_c x2 0 (nI z - 1) with e2 | e2
    · rw [e2]
      exact br1 rfl (p0 e2)
    rw [e2]
    obtain ⟨i, hi, ei⟩ := ini_idx (by omega) e2
    have hin2 : vp_in ((40 : Int32) * x1 + x2) 160 := by
      rw [s3, ei, show (40 : Int32) = nI 40 from rfl, pk_mul, nI_add]; exact vp_in_nI (by omega) (by decide)
    have e40 : ((40 : Int32) * x1 + x2).toNatClampNeg = 40 * s + i := by
      rw [s3, ei, show (40 : Int32) = nI 40 from rfl, pk_mul, nI_add, nI_clamp (by omega)]
    rw [q3, q2', e40]
    obtain ⟨pa, pb⟩ := p1 i e2 ei hi
    refine br0 n10 ⟨hin, fun c0 => ⟨hin, fun c1 => ⟨hin2, ?_⟩, fun c1 => ⟨hin2, ?_⟩⟩, fun c0 => ⟨hin2, ?_⟩⟩
    · exact (pa (fun y => c0 (by rw [y]; rfl))).1 (fun y => c1 (by rw [y]; rfl))
    · have y : so = 1 := (nI_eq (a := so) (b := 1) (by omega) (by decide)).mp c1
      exact (pa (by omega)).2 y
    · exact pb ((nI_eq (a := so) (b := 0) (by omega) (by decide)).mp c0)
  rcases ini_c x2 0 (nI z - 1) with e2 | e2
  · rw [e2]
    exact br1 rfl (R _ (fun _ => fin _) (fun _ y => absurd (e2.symm.trans y) (by decide)))
  rw [e2]
  obtain ⟨i, hi, ei⟩ := ini_idx (by omega) e2
  have hin2 : vp_in x2 40 := by rw [ei]; exact vp_in_nI (by omega) (by decide)
  have ci : x2.toNatClampNeg = i := by rw [ei]; exact nI_clamp (by omega)
  have nx : ∀ v : Int32, RelA (t + 1) n nt np nw N (cA k (9 + s) 2 (upd (k.2.1 (9 + s) 2) i v)) (sA g 64 (upd (g.2.1 64) (40 * s + i) v)) := by
    intro v
    refine hu.sheets (FrC.rf.a_ ble9) (FrH.rf.a_ rfl) (RS.put hs (by omega) (fun z' h40 z1 z2 j hj => ?_) (fun x hx => upd_n (by omega)))
    by_cases ej : j = i
    · rw [ej, upd_0, upd_0]
    · rw [upd_n ej, upd_n (by omega)]; exact z2 j hj
  have ie : ∀ j, x2 = nI j → j < z → j = i := fun j y hj => (nI_eq (by omega) (by omega)).mp (y.symm.trans ei)
  refine br0 n10 ?_
  unfold wC_X3_put
  rw [q2', ci]
  refine ⟨fun c0 => ⟨fun c1 => ⟨hin2, R _ (fun y => absurd (e2.symm.trans y) (by decide)) (fun j _ ej hj => ?_)⟩, fun c1 => ⟨hin2, R _ (fun y => absurd (e2.symm.trans y) (by decide)) (fun j _ ej hj => ?_)⟩⟩, fun c0 => ⟨hin2, R _ (fun y => absurd (e2.symm.trans y) (by decide)) (fun j _ ej hj => ?_)⟩⟩
  · rw [ie j ej hj]
    exact ⟨fun _ => ⟨fun _ => ⟨rfl, _, _, _, _, _, nx _⟩, fun y => absurd (by rw [y]; rfl) c1⟩, fun y => absurd (by rw [y]; rfl) c0⟩
  · rw [ie j ej hj]
    exact ⟨fun _ => ⟨fun y => absurd ((nI_eq (a := so) (b := 1) (by omega) (by decide)).mp c1) y, fun _ => ⟨rfl, _, _, _, _, _, nx _⟩⟩, fun y => absurd (by rw [y]; rfl) c0⟩
  · rw [ie j ej hj]
    exact ⟨fun y => absurd ((nI_eq (a := so) (b := 0) (by omega) (by decide)).mp c0) y, fun _ => ⟨rfl, _, _, _, _, _, nx _⟩⟩
end Ce
