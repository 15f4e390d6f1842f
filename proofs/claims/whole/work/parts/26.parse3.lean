/-! ===== ONE and NOT side by side; the whole grammar ===== -/
section POne
variable {a : Nat → Nat} {B : Nat → Nat} {N F s o d : Nat} {g : GM} {k : KC} {l : List Int32}
theorem one1 {E : Nat → GM → (Int32 → GM → Prop) → Prop} {Q : Int32 → GM → Prop} {n : Nat} {v : Int32} (h : Q v g) : wM_one E (n + 1) 1 v g Q := by
  rw [wM_one]
  any_goals (intro h9; exact absurd h9 (by decide))
  exact h
theorem MI.t19 (h : MI B N F s o g) (c : Nat) (hc : c < 100) : g.1 19 = nI c ↔ lxT B N s = c := by
  rw [h.2.2.2.2.2.2.1]
  exact nI_eq (by rcases lxT_cases (B := B) h.2.2.2.2.1 with ⟨t, _⟩ | ⟨t, _⟩ | ⟨t, _⟩ | ⟨t, _⟩ | ⟨t, _⟩ <;> omega) (by omega)
theorem mOneT {E : Nat → GM → (Int32 → GM → Prop) → Prop} {Q : Int32 → GM → Prop} {n : Nat} (h : MI B N F s o g) (n45 : tkN B N s ≠ 45) (n40 : tkN B N s ≠ 40)
    (h2 : lxT B N s = 2 → ∃ n21, wM_next n21 0 0 g (fun k21 => wM_one E n 1 g.2.2.toInt32 k21 Q))
    (h1 : lxT B N s = 1 → wM_name g (fun r_18 k_18 => ((¬ (k_18.1 24) = 0 → wM_one E n 1 r_18 k_18 Q) ∧ ((k_18.1 24) = 0 → (∃ n_20 : Nat, wM_next n_20 0 0 k_18 (fun k_20 => wM_one E n 1 r_18 k_20 Q))))))
    (h0 : lxT B N s ≠ 1 → lxT B N s ≠ 2 → wM_fail g (fun k_17 => wM_one E n 1 (0 : Int32) k_17 Q)) : wM_one E (n + 1) 0 0 g Q := by
  have e24 := h.2.1
  have e2 : g.1 19 = (2 : Int32) ↔ lxT B N s = 2 := h.t19 2 (by decide)
  have e1 : g.1 19 = (1 : Int32) ↔ lxT B N s = 1 := h.t19 1 (by decide)
  rw [wM_one]
  refine mIsSign h 45 rfl (by omega) (by omega) ?_
  rw [if_neg n45]
  refine br_t rfl (mIsSign h 40 rfl (by omega) (by omega) ?_)
  rw [if_neg n40, e2, e1]
  exact br_t rfl ⟨fun e => absurd e24 e, fun _ => ⟨fun z2 => ⟨fun e => absurd e24 e, fun _ => ⟨fun z1 => h0 z1 z2, fun z1 => h1 z1⟩⟩, fun z2 => h2 z2⟩⟩
theorem vD4 (hb : BN B N) (hs : s ≤ N) (h : lxD B N s ≤ s + 4) : vDg B s (lxD B N s - s) < 10000 := by
  have h1 := vDg_lt (B := B) (s := s) (lxD B N s - s) (fun j hj => (pRg_t.mp (skp_in (pRg 48 57 B N) N s (s + j) (by omega) (by have : lxD B N s = skp (pRg 48 57 B N) N s := rfl; omega))).2.2)
  have h2 : (10 : Nat) ^ (lxD B N s - s) ≤ 10 ^ 4 := Nat.pow_le_pow_right (by decide) (by omega)
  have h3 : (10 : Nat) ^ 4 = 10000 := by decide
  omega
theorem lxD4 (h : lxT B N s = 2) : lxD B N s ≤ s + 4 := by
  by_cases hN : N ≤ s
  · rw [(lxT_0 hN).1] at h; exact absurd h (by decide)
  · by_cases c1 : pRg 97 122 B N s = true
    · rw [(lxT_1 c1).1] at h; exact absurd h (by decide)
    · by_cases c2 : pRg 48 57 B N s = true
      · rw [(lxT_2 c2).1] at h
        by_cases c4 : lxD B N s ≤ s + 4
        · exact c4
        · rw [if_neg c4] at h; exact absurd h (by decide)
      · rw [(lxT_3 (by omega) c1 c2).1] at h
        by_cases c3 : isSg (B s) = true
        · rw [if_pos c3] at h; exact absurd h (by decide)
        · rw [if_neg c3] at h; exact absurd h (by decide)
theorem rfNum (hb : BN B N) (d : Nat) (hs : s ≤ N) (h2 : lxT B N s = 2) : RfOk B N (d + 1) 0 o s [nI (vDg B s (lxD B N s - s))] (nxS B N s) := by
  intro F g hg Q hQ
  refine ⟨2, mOneT hg ?_ ?_ (fun _ => ?_) (fun z => by rw [h2] at z; exact absurd z (by decide)) (fun _ z => absurd h2 z)⟩
  · rw [tkN_2 h2]; decide
  · rw [tkN_2 h2]; decide
  · have e : g.2.2.toInt32 = nI (vDg B s (lxD B N s - s)) := by rw [hg.2.2.2.2.2.2.2.2.2.2.1 h2, lN_i]
    rw [e]
    have := vD4 hb hs (lxD4 h2)
    exact mNx hb hg (by rw [h2]; decide) (fun g' f mi => one1 (hQ _ g' f mi (Ev.num (by omega))))
theorem rfNam (hb : BN B N) (d : Nat) (h1 : lxT B N s = 1) (hw : wIx B s (lxW B N s - s) < 6) : RfOk B N (d + 1) 0 o s [(-1 : Int32) - nI (wIx B s (lxW B N s - s))] (nxS B N s) := by
  intro F g hg Q hQ
  have ht : tkN B N s = 3 := (tk_nam hg.2.2.2.2.1).mpr ⟨h1, hw⟩
  refine ⟨2, mOneT hg ?_ ?_ (fun z => by rw [h1] at z; exact absurd z (by decide)) (fun _ => ?_) (fun z _ => absurd h1 z)⟩
  · rw [ht]; decide
  · rw [ht]; decide
  · refine mName hb hg h1 (fun _ => ?_) (fun z => absurd hw z)
    exact ⟨fun z => absurd hg.2.1 z, fun _ => mNx hb hg (by rw [h1]; decide) (fun g' f mi => one1 (hQ _ g' f mi (Ev.nam hw)))⟩
theorem rfNo (hb : BN B N) (d : Nat) (h2 : tkN B N s ≠ 2) (h3 : tkN B N s ≠ 3) (h40 : tkN B N s ≠ 40) (h45 : tkN B N s ≠ 45) : RfBad B N (d + 1) 0 o s s := by
  intro F g hg Q hQ
  have hs := hg.2.2.2.2.1
  refine ⟨2, mOneT hg h45 h40 (fun z => absurd ((tk_num hs).mpr z) h2) (fun z => ?_) (fun _ _ => mFail hg (fun g' mb => one1 (hQ 0 g' mb)))⟩
  have hw : ¬ wIx B s (lxW B N s - s) < 6 := fun w => h3 ((tk_nam hs).mpr ⟨z, w⟩)
  refine mName hb hg z (fun w => absurd w hw) (fun _ g' mb => ?_)
  exact ⟨fun _ => one1 (hQ 0 g' mb), fun e => by rw [mb.2.1] at e; exact absurd e n10⟩
theorem rfDeep (hb : BN B N) (d : Nat) (ht : tkN B N s = 40 ∨ tkN B N s = 45) : RfBad B N (d + 1) 0 5 s s := by
  intro F g hg Q hQ
  have hs := hg.2.2.2.2.1
  refine ⟨2, ?_⟩
  rw [wM_one]
  refine mIsSign hg 45 rfl (by omega) (by omega) ?_
  have h4 : lxT B N s ≠ 4 := fun e => by rw [tkN_4 e] at ht; omega
  rcases ht with e | e
  · rw [if_neg (by omega)]
    refine br_t rfl (mIsSign hg 40 rfl (by omega) (by omega) ?_)
    rw [if_pos e]
    exact br_f n10 (mOpens hb hg h4 (fun z => absurd z (by omega)) (fun _ g' mb => br_t rfl (one1 (hQ 0 g' mb))))
  · rw [if_pos e]
    exact br_f n10 (mOpens hb hg h4 (fun z => absurd z (by omega)) (fun _ g' mb => br_t rfl (one1 (hQ 0 g' mb))))
/-- - ONE -/
theorem rfNeg {c : List Int32} {s' : Nat} (hb : BN B N) (d : Nat) (ht : tkN B N s = 45) (ho : o < 5) (h : RfOk B N d 0 (o + 1) (nxS B N s) c s') : RfOk B N (d + 1) 0 o s (c ++ [-11]) s' := by
  intro F g hg Q hQ
  refine ⟨2, ?_⟩
  rw [wM_one]
  refine mIsSign hg 45 rfl (by omega) (by omega) ?_
  have h4 : lxT B N s ≠ 4 := fun e => by rw [tkN_4 e] at ht; omega
  rw [if_pos ht]
  refine br_f n10 (mOpens hb hg h4 (fun _ g1 f1 m1 => br_f n10 (h F g1 m1 _ (fun v g2 f2 m2 ev => one1 ?_))) (fun z => by omega))
  rw [nmM_fr f1] at ev
  have e := ev.un (x := -11) (by decide) (by decide)
  refine hQ _ _ ((f1.tr f2).i_ rfl) (m2.op (o2 := o) ?_ (by omega)) e
  rw [m2.2.2.1]; exact nI_pred o
theorem rfNegB {f : Nat} (hb : BN B N) (d : Nat) (ht : tkN B N s = 45) (ho : o < 5) (h : RfBad B N d 0 (o + 1) (nxS B N s) f) : RfBad B N (d + 1) 0 o s f := by
  intro F g hg Q hQ
  refine ⟨2, ?_⟩
  rw [wM_one]
  refine mIsSign hg 45 rfl (by omega) (by omega) ?_
  have h4 : lxT B N s ≠ 4 := fun e => by rw [tkN_4 e] at ht; omega
  rw [if_pos ht]
  exact br_f n10 (mOpens hb hg h4 (fun _ g1 f1 m1 => br_f n10 (h F g1 m1 _ (fun v g2 mb => one1 (hQ _ _ ⟨(f1.tr mb.1).i_ rfl, mb.2⟩)))) (fun z => by omega))
/-- ( E ) -/
theorem rfPar {c : List Int32} {s' : Nat} (hb : BN B N) (d : Nat) (ht : tkN B N s = 40) (ho : o < 5) (h : RfOk B N d 5 (o + 1) (nxS B N s) c s') (ht2 : tkN B N s' = 41) : RfOk B N (d + 1) 0 o s c (nxS B N s') := by
  intro F g hg Q hQ
  refine ⟨2, ?_⟩
  rw [wM_one]
  refine mIsSign hg 45 rfl (by omega) (by omega) ?_
  have h4 : lxT B N s ≠ 4 := fun e => by rw [tkN_4 e] at ht; omega
  rw [if_neg (by omega)]
  refine br_t rfl (mIsSign hg 40 rfl (by omega) (by omega) ?_)
  rw [if_pos ht]
  refine br_f n10 (mOpens hb hg h4 (fun _ g1 f1 m1 => br_f n10 (h F g1 m1 _ (fun v g2 f2 m2 ev => ?_))) (fun z => by omega))
  refine mIsSign m2 41 rfl (by omega) (by omega) ?_
  rw [if_pos ht2]
  have h42 : lxT B N s' ≠ 4 := fun e => by rw [tkN_4 e] at ht2; omega
  refine ⟨fun _ => ⟨fun z => absurd m2.2.1 z, fun _ => ?_⟩, fun e => absurd e n10⟩
  have m3 : MI B N F s' o (sI g2 23 (g2.1 23 - 1)) := m2.op (by rw [m2.2.2.1]; exact nI_pred o) (by omega)
  refine mNx hb m3 h42 (fun g4 f4 m4 => one1 ?_)
  rw [nmM_fr f1] at ev
  exact hQ v g4 ((f1.tr f2).tr (FrG.tr (FrG.rf.i_ rfl) f4)) m4 ev
theorem rfParB {f : Nat} (hb : BN B N) (d : Nat) (ht : tkN B N s = 40) (ho : o < 5) (h : RfBad B N d 5 (o + 1) (nxS B N s) f) : RfBad B N (d + 1) 0 o s f := by
  intro F g hg Q hQ
  refine ⟨2, ?_⟩
  rw [wM_one]
  refine mIsSign hg 45 rfl (by omega) (by omega) ?_
  have h4 : lxT B N s ≠ 4 := fun e => by rw [tkN_4 e] at ht; omega
  rw [if_neg (by omega)]
  refine br_t rfl (mIsSign hg 40 rfl (by omega) (by omega) ?_)
  rw [if_pos ht]
  refine br_f n10 (mOpens hb hg h4 (fun _ g1 f1 m1 => br_f n10 (h F g1 m1 _ (fun v g2 mb => ?_))) (fun z => by omega))
  refine mIsSignB mb.2.1 ⟨fun e => absurd rfl e, fun _ => mFailB mb.2.1 ?_⟩
  exact ⟨fun _ => one1 (hQ _ _ ⟨(f1.tr mb.1).i_ rfl, mb.2⟩), fun e => by rw [mb.2.1] at e; exact absurd e n10⟩
theorem rfParC {c : List Int32} {s' : Nat} (hb : BN B N) (d : Nat) (ht : tkN B N s = 40) (ho : o < 5) (h : RfOk B N d 5 (o + 1) (nxS B N s) c s') (ht2 : tkN B N s' ≠ 41) : RfBad B N (d + 1) 0 o s s' := by
  intro F g hg Q hQ
  refine ⟨2, ?_⟩
  rw [wM_one]
  refine mIsSign hg 45 rfl (by omega) (by omega) ?_
  have h4 : lxT B N s ≠ 4 := fun e => by rw [tkN_4 e] at ht; omega
  rw [if_neg (by omega)]
  refine br_t rfl (mIsSign hg 40 rfl (by omega) (by omega) ?_)
  rw [if_pos ht]
  refine br_f n10 (mOpens hb hg h4 (fun _ g1 f1 m1 => br_f n10 (h F g1 m1 _ (fun v g2 f2 m2 ev => ?_))) (fun z => by omega))
  refine mIsSign m2 41 rfl (by omega) (by omega) ?_
  rw [if_neg ht2]
  refine ⟨fun e => absurd rfl e, fun _ => mFail m2 (fun g3 mb => ?_)⟩
  exact ⟨fun _ => one1 (hQ _ _ ⟨((f1.tr f2).tr mb.1).i_ rfl, mb.2⟩), fun e => by rw [mb.2.1] at e; exact absurd e n10⟩
theorem simOne (hb : BN B N) (ho : o ≤ 5) (h0 : o < 5 → Sim a B N d 0 5 (o + 1)) (h5 : o < 5 → Sim a B N d 5 0 (o + 1)) : Sim a B N (d + 1) 5 0 o := by
  intro s k l Q hI hl qk qb
  have hN := hb.2
  have hs := hI.2.2.1
  show wC_X6_readOne a (wCg a d) (nI o) k Q
  unfold wC_X6_readOne
  have e2 : k.1 6 2 = (2 : Int32) ↔ tkN B N s = 2 := cTok (c := 2) hI (by decide)
  have e3 : k.1 6 2 = (3 : Int32) ↔ tkN B N s = 3 := cTok (c := 3) hI (by decide)
  have e45 : k.1 6 2 = (45 : Int32) ↔ tkN B N s = 45 := cTok (c := 45) hI (by decide)
  have e40 : k.1 6 2 = (40 : Int32) ↔ tkN B N s = 40 := cTok (c := 40) hI (by decide)
  have eo : (5 : Int32) ≤ nI o ↔ 5 ≤ o := nI_leI (a := 5) (by decide) (by omega)
  rw [e2, e3, e45, e40, eo]
  have hlt : tkN B N s ≠ 0 → s < N := fun z => by
    rcases Nat.lt_or_ge s N with y | y
    · exact y
    · exact absurd (tkN_0 (lxT_0 y).1) z
  have par : o < 5 → tkN B N s = 40 → ∃ n_10 : Nat, wC_X6_advance a n_10 0 0 k (fun k_10 => (wCg a d 0 (nI o + (1 : Int32)) k_10 (fun k_11 => (wC_X6_expect a (41 : Int32) k_11 (fun k_12 => Q k_12))))) := by
    intro ho5 t40
    have h4 : lxT B N s ≠ 4 := fun e => by rw [tkN_4 e] at t40; omega
    have h00 : lxT B N s ≠ 0 := fun e => by rw [tkN_0 e] at t40; omega
    have hgt := nxS_gt (B := B) (N := N) h00
    refine cAdvI hb hI h4 (fun k1 f1 hI1 => ?_)
    rw [nI_1]
    refine h0 ho5 (nxS B N s) k1 l _ hI1 (by omega) (fun c s' k2 r2 w2 f2 hI2 hle => ?_) (fun f k2 rb f2 hF2 => ?_)
    · have hs' := hI2.2.2.1
      have hlen : (l ++ c).length = l.length + c.length := List.length_append
      unfold wC_X6_expect
      have e41 : k2.1 6 2 = (41 : Int32) ↔ tkN B N s' = 41 := cTok (c := 41) hI2 (by decide)
      rw [e41]
      refine ⟨fun n41 => cRefuse hb hI2 (by omega) (fun k3 f3 hF3 => qb s' k3 (rfParC hb d t40 ho5 r2 n41) (f1.tr (f2.tr f3)) hF3), fun t41 => ?_⟩
      have h42 : lxT B N s' ≠ 4 := fun e => by rw [tkN_4 e] at t41; omega
      have h43 : lxT B N s' ≠ 0 := fun e => by rw [tkN_0 e] at t41; omega
      have hgt2 := nxS_gt (B := B) (N := N) h43
      exact cAdvI hb hI2 h42 (fun k3 f3 hI3 => qk c (nxS B N s') k3 (rfPar hb d t40 ho5 r2 t41) w2 (f1.tr (f2.tr f3)) hI3 (by omega))
    · exact cExpF (by decide) hF2 (fun k3 f3 hF3 => qb f k3 (rfParB hb d t40 ho5 rb) (f1.tr (f2.tr f3)) hF3)
  have ref : tkN B N s ≠ 2 → tkN B N s ≠ 3 → (tkN B N s = 40 ∨ tkN B N s = 45 → 5 ≤ o) → wC_X6_refuse k (fun k_7 => Q k_7) := by
    intro n2 n3 n40
    refine cRefuse hb hI (by omega) (fun k1 f1 hF1 => qb s k1 ?_ f1 hF1)
    by_cases c : tkN B N s = 40 ∨ tkN B N s = 45
    · have : o = 5 := by have := n40 c; omega
      subst this
      exact rfDeep hb d c
    · exact rfNo hb d n2 n3 (fun z => c (Or.inl z)) (fun z => c (Or.inr z))
  refine ⟨fun t2 => ?_, fun n2 => ⟨fun n3 => ⟨fun n45 => ⟨fun n40 => ref n2 n3 (fun z => by omega), fun t40 => ⟨fun o5 => ref n2 n3 (fun _ => o5), fun o5 => par (by omega) t40⟩⟩, fun t45 => ⟨fun o5 => ⟨fun n40 => ref n2 n3 (fun _ => o5), fun t40 => by omega⟩, fun o5 => ?_⟩⟩, fun t3 => ?_⟩⟩
  · have h2 := (tk_num hs).mp t2
    have hsN := hlt (by omega)
    rw [hI.2.2.2.1.2.2.2.2 h2]
    refine cWrite hI (by omega) (fun k1 f1 hI1 => cAdvI hb hI1 (by rw [h2]; decide) (fun k2 f2 hI2 => qk _ (nxS B N s) k2 (rfNum hb d hs h2) (fun nm => ⟨_, Ev.num (by have := vD4 hb hs (lxD4 h2); omega)⟩) (f1.tr f2) hI2 ?_))
    exact nxS_gt (B := B) (N := N) (by rw [h2]; decide)
  · have h4 : lxT B N s ≠ 4 := fun e => by rw [tkN_4 e] at t45; omega
    have h00 : lxT B N s ≠ 0 := fun e => by rw [tkN_0 e] at t45; omega
    have hgt := nxS_gt (B := B) (N := N) h00
    refine cAdvI hb hI h4 (fun k1 f1 hI1 => ?_)
    rw [nI_1]
    refine h5 (by omega) (nxS B N s) k1 l _ hI1 (by omega) (fun c s' k2 r2 w2 f2 hI2 hle => ?_) (fun f k2 rb f2 hF2 => ?_)
    · have hs' := hI2.2.2.1
      have hlen : (l ++ c).length = l.length + c.length := List.length_append
      refine cWrite hI2 (by omega) (fun k3 f3 hI3 => qk (c ++ [-11]) s' k3 (rfNeg hb d t45 (by omega) r2) (w2.un (by decide) (by decide)) (f1.tr (f2.tr f3)) ?_ ?_)
      · rw [← List.append_assoc]; exact hI3
      · simp only [List.length_append, List.length_singleton]
        omega
    · exact cWriteF hF2 (fun k3 f3 hF3 => qb f k3 (rfNegB hb d t45 (by omega) rb) (f1.tr (f2.tr f3)) hF3)
  · obtain ⟨h1, hw⟩ := (tk_nam hs).mp t3
    have hsN := hlt (by omega)
    rw [hI.2.2.2.1.2.2.2.1 h1 hw]
    refine cWrite hI (by omega) (fun k1 f1 hI1 => cAdvI hb hI1 (by rw [h1]; decide) (fun k2 f2 hI2 => qk _ (nxS B N s) k2 (rfNam hb d h1 hw) (fun nm => ⟨_, Ev.nam hw⟩) (f1.tr f2) hI2 ?_))
    exact nxS_gt (B := B) (N := N) (by rw [h1]; decide)
theorem simOneF : SimF a B N (d + 1) 5 := by
  intro x f k Q hF q
  show wC_X6_readOne a (wCg a d) x k Q
  unfold wC_X6_readOne
  rw [hF.2.2.2.1]
  have r : wC_X6_refuse k (fun k_7 => Q k_7) := cRefuseF hF q
  exact ⟨fun e => absurd e (by decide), fun _ => ⟨fun _ => ⟨fun _ => ⟨fun _ => r, fun e => absurd e (by decide)⟩, fun e => absurd e (by decide)⟩, fun e => absurd e (by decide)⟩⟩
theorem noOne1 (hb : BN B N) : NoOne a B N (d + 1) 5 := by
  intro s k l o Q hI hl h2 h3 h40 h45 q
  show wC_X6_readOne a (wCg a d) (nI o) k Q
  unfold wC_X6_readOne
  have e2 : k.1 6 2 = (2 : Int32) ↔ tkN B N s = 2 := cTok (c := 2) hI (by decide)
  have e3 : k.1 6 2 = (3 : Int32) ↔ tkN B N s = 3 := cTok (c := 3) hI (by decide)
  have e45 : k.1 6 2 = (45 : Int32) ↔ tkN B N s = 45 := cTok (c := 45) hI (by decide)
  have e40 : k.1 6 2 = (40 : Int32) ↔ tkN B N s = 40 := cTok (c := 40) hI (by decide)
  rw [e2, e3, e45, e40]
  exact ⟨fun e => absurd e h2, fun _ => ⟨fun _ => ⟨fun _ => ⟨fun _ => cRefuse hb hI hl q, fun e => absurd e h40⟩, fun e => absurd e h45⟩, fun e => absurd e h3⟩⟩
end POne
