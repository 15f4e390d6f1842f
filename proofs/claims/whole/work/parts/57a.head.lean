/-! ===== the reference, made anew ===== -/
theorem kwSpell : CWv RX10 104 yX10_spell cX10_spell 5 none 2 := ⟨⟨q_891, q_888, q_11, by decide +kernel⟩, q_890, qs_23⟩
def k00 : GM := (fun _ => 0, fun _ _ => 0, 0)
def spB (w : Int64) (i : Nat) : Int32 := ((w >>> (((56 : Int32) - ((8 : Int32) * nI i)).toInt64 &&& 63)) &&& (255 : Int64)).toInt32
def SpOk (k : GM) (z : Nat) (w : Int64) (u : GM) : Prop := FrH sNo (fun j => bor j 1 false) k u ∧ (∀ i, i < 8 → u.2.1 1 (z + i) = spB w i) ∧ ∀ x, x < z → u.2.1 1 x = k.2.1 1 x
theorem spellW {k : GM} {z : Nat} {w : Int64} (hz : z + 8 ≤ 960) : wM_spell 10 0 (nI z) w 0 k (SpOk k z w) := by
  have L : ∀ (c j : Nat) (g : GM), 8 - j = c → j ≤ 8 → FrH sNo (fun j => bor j 1 false) k g → (∀ i, i < j → g.2.1 1 (z + i) = spB w i) → (∀ x, x < z → g.2.1 1 x = k.2.1 1 x) → wM_spell (c + 1) 1 (nI z) w (nI j) g (SpOk k z w) := by
    intro c
    induction c with
    | zero =>
      intro j g hm hj f a1 a2
      have ej : j = 8 := by omega
      subst ej
      rw [wM_spell]
      any_goals (intro h9; exact absurd h9 (by decide))
      exact br_t (by decide) ⟨f, a1, a2⟩
    | succ c ih =>
      intro j g hm hj f a1 a2
      rw [wM_spell, nI_add, nI_1 j, nI_clamp (n := z + j) (by omega)]
      any_goals (intro h9; exact absurd h9 (by decide))
      refine br_f (nI_ge (a := j) (b := 8) (by omega) (by decide)) ⟨vp_in_nI (by omega) (by decide), ih (j + 1) _ (by omega) (by omega) (f.a_ rfl) (fun i hi => ?_) (fun x hx => ?_)⟩
      · show upd (g.2.1 1) (z + j) (spB w j) (z + i) = spB w i
        by_cases e : i = j
        · rw [e, pk_us]
        · rw [pk_un (by omega)]; exact a1 i (by omega)
      · show upd (g.2.1 1) (z + j) (spB w j) x = _
        rw [pk_un (by omega)]; exact a2 x hx
  rw [wM_spell]
  exact L 8 0 k rfl (Nat.zero_le _) FrH.rf (fun i hi => absurd hi (Nat.not_lt_zero i)) (fun _ _ => rfl)
theorem sp_0 : ∀ i, i < 8 → spB (7449351180354924592 : Int64) i = nI (B0 i) := by decide +kernel
theorem sp_1 : ∀ i, i < 8 → spB (2322485656932345120 : Int64) i = nI (B0 (8 + i)) := by decide +kernel
theorem sp_2 : ∀ i, i < 8 → spB (3756067099537207152 : Int64) i = nI (B0 (16 + i)) := by decide +kernel
theorem sp_3 : ∀ i, i < 8 → spB (2338341743088050208 : Int64) i = nI (B0 (24 + i)) := by decide +kernel
theorem sp_all {g1 g2 g3 g4 : GM} (h1 : SpOk k00 0 7449351180354924592 g1) (h2 : SpOk g1 8 2322485656932345120 g2) (h3 : SpOk g2 16 3756067099537207152 g3) (h4 : SpOk g3 24 2338341743088050208 g4) : FrH sNo (fun j => bor j 1 false) k00 g4 ∧ ∀ i, i < 32 → g4.2.1 1 i = nI (B0 i) := by
  refine ⟨((h1.1.tr h2.1).tr h3.1).tr h4.1, fun i hi => ?_⟩
  rcases Nat.lt_or_ge i 24 with a | a
  · rw [h4.2.2 i a]
    rcases Nat.lt_or_ge i 16 with b | b
    · rw [h3.2.2 i b]
      rcases Nat.lt_or_ge i 8 with c | c
      · rw [h2.2.2 i c]
        have := h1.2.1 i c
        rw [Nat.zero_add] at this
        rw [this]; exact sp_0 i c
      · obtain ⟨j, rfl⟩ : ∃ j, i = 8 + j := ⟨i - 8, by omega⟩
        rw [h2.2.1 j (by omega)]; exact sp_1 j (by omega)
    · obtain ⟨j, rfl⟩ : ∃ j, i = 16 + j := ⟨i - 16, by omega⟩
      rw [h3.2.1 j (by omega)]; exact sp_2 j (by omega)
  · obtain ⟨j, rfl⟩ : ∃ j, i = 24 + j := ⟨i - 24, by omega⟩
    rw [h4.2.1 j (by omega)]; exact sp_3 j (by omega)
def G0J (j : Nat) (k : GM) : Prop := k.1 10 = 0 ∧ k.1 3 = 1 ∧ k.1 33 = 0 ∧ (k.1 15 = 0 ∧ k.1 16 = 0 ∧ k.1 14 = 30 ∧ k.1 4 = 0) ∧ k.1 55 = 0 ∧ k.1 46 = 0 ∧ k.1 6 = 0 ∧ k.2.1 7 = (fun _ => 0) ∧ k.2.1 11 = wo0 ∧ k.2.1 12 = (fun x => if x < j then 100 else 0) ∧ k.2.1 13 = (fun _ => 0) ∧ (k.2.1 8 = (fun _ => 0) ∧ k.2.1 9 = (fun _ => 0) ∧ k.2.1 36 = (fun _ => 0) ∧ k.2.1 35 = (fun _ => 0)) ∧ k.2.1 61 = (fun _ => 0) ∧ k.2.1 2 0 = 32 ∧ ∀ i, i < 32 → k.2.1 1 i = nI (B0 i)
def G0ok (k : GM) : Prop := G0J 24 k
theorem G0J.nx {j : Nat} {k : GM} (h : G0J j k) : G0J (j + 1) (sA k 12 (upd (k.2.1 12) j 100)) := by
  obtain ⟨h1, h2, h3, h4, h5, h6, h7, h8, h9, h10, h11, h12, h13, h14, h15⟩ := h
  refine ⟨h1, h2, h3, h4, h5, h6, h7, h8, h9, ?_, h11, h12, h13, h14, h15⟩
  show upd (k.2.1 12) j 100 = _
  rw [h10]
  funext x
  by_cases e : x = j
  · rw [e, pk_us, if_pos (Nat.lt_succ_self j)]
  · rw [pk_un e]
    by_cases c : x < j
    · rw [if_pos c, if_pos (by omega)]
    · rw [if_neg c, if_neg (by omega)]
