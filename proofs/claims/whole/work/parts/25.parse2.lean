/-! ===== the loops of both readers ===== -/
def kOr (t : Nat) : Bool := Nat.beq t 7
def kAnd (t : Nat) : Bool := Nat.beq t 8
def kMul (t : Nat) : Bool := Nat.beq t 42
def kAdd (t : Nat) : Bool := Nat.beq t 43 || Nat.beq t 45
def opAdd (t : Nat) : Int32 := if t = 43 then -25 else -26
theorem kt {t c : Nat} : Nat.beq t c = true ↔ t = c := by rw [Nat.beq_eq]
theorem kf {t c : Nat} : Nat.beq t c = false ↔ ¬ t = c := by rw [Bool.eq_false_iff, ne_eq, Nat.beq_eq]
theorem okOr : KOk kOr (fun _ => -21) := ⟨rfl, rfl, fun _ _ => ⟨show ¬ (-6 : Int32) ≤ -21 by decide, show ¬ (-12 : Int32) ≤ -21 by decide⟩⟩
theorem okAnd : KOk kAnd (fun _ => -22) := ⟨rfl, rfl, fun _ _ => ⟨show ¬ (-6 : Int32) ≤ -22 by decide, show ¬ (-12 : Int32) ≤ -22 by decide⟩⟩
theorem okMul : KOk kMul (fun _ => -27) := ⟨rfl, rfl, fun _ _ => ⟨show ¬ (-6 : Int32) ≤ -27 by decide, show ¬ (-12 : Int32) ≤ -27 by decide⟩⟩
theorem okAdd : KOk kAdd opAdd := ⟨rfl, rfl, fun t _ => by
  unfold opAdd
  by_cases h : t = 43
  · rw [if_pos h]; exact ⟨by decide, by decide⟩
  · rw [if_neg h]; exact ⟨by decide, by decide⟩⟩
theorem lcOr (a : Nat → Nat) (d : Nat) : LoopC a d 0 1 (wC_X6_readOr a (wCg a d)) kOr (fun _ => -21) := by
  refine ⟨fun x k Q h => h, fun n x k Q h => ?_, fun n x j k Q t ht ht2 h1 h2 h3 => ?_⟩
  · rw [wC_X6_readOr]; exact h
  · rw [wC_X6_readOr]
    any_goals (intro h9; exact absurd h9 (by decide))
    have e : k.1 6 2 = (7 : Int32) ↔ t = 7 := by rw [ht]; exact nI_eq (b := 7) (by omega) (by decide)
    rw [e]
    exact ⟨h1, fun n160 => ⟨fun z => h2 (kf.mpr z), fun z => h3 n160 (kt.mpr z)⟩⟩
theorem lcAnd (a : Nat → Nat) (d : Nat) : LoopC a d 1 2 (wC_X6_readAnd a (wCg a d)) kAnd (fun _ => -22) := by
  refine ⟨fun x k Q h => h, fun n x k Q h => ?_, fun n x j k Q t ht ht2 h1 h2 h3 => ?_⟩
  · rw [wC_X6_readAnd]; exact h
  · rw [wC_X6_readAnd]
    any_goals (intro h9; exact absurd h9 (by decide))
    have e : k.1 6 2 = (8 : Int32) ↔ t = 8 := by rw [ht]; exact nI_eq (b := 8) (by omega) (by decide)
    rw [e]
    exact ⟨h1, fun n160 => ⟨fun z => h2 (kf.mpr z), fun z => h3 n160 (kt.mpr z)⟩⟩
theorem lcMul (a : Nat → Nat) (d : Nat) : LoopC a d 4 5 (wC_X6_readTerm a (wCg a d)) kMul (fun _ => -27) := by
  refine ⟨fun x k Q h => h, fun n x k Q h => ?_, fun n x j k Q t ht ht2 h1 h2 h3 => ?_⟩
  · rw [wC_X6_readTerm]; exact h
  · rw [wC_X6_readTerm]
    any_goals (intro h9; exact absurd h9 (by decide))
    have e : k.1 6 2 = (42 : Int32) ↔ t = 42 := by rw [ht]; exact nI_eq (b := 42) (by omega) (by decide)
    rw [e]
    exact ⟨h1, fun n160 => ⟨fun z => h2 (kf.mpr z), fun z => h3 n160 (kt.mpr z)⟩⟩
theorem lcAdd (a : Nat → Nat) (d : Nat) : LoopC a d 3 4 (wC_X6_readSum a (wCg a d)) kAdd opAdd := by
  refine ⟨fun x k Q h => h, fun n x k Q h => ?_, fun n x j k Q t ht ht2 h1 h2 h3 => ?_⟩
  · rw [wC_X6_readSum]; exact h
  · rw [wC_X6_readSum]
    any_goals (intro h9; exact absurd h9 (by decide))
    have e : k.1 6 2 = (43 : Int32) ↔ t = 43 := by rw [ht]; exact nI_eq (b := 43) (by omega) (by decide)
    have e2 : k.1 6 2 = (45 : Int32) ↔ t = 45 := by rw [ht]; exact nI_eq (b := 45) (by omega) (by decide)
    rw [e, e2]
    refine ⟨h1, fun n160 => ⟨fun z => ⟨fun z2 => absurd z z2, fun _ => ?_⟩, fun z => ⟨fun z2 => h2 ?_, fun z2 => ⟨fun _ => ?_, fun z3 => absurd z3 z⟩⟩⟩⟩
    · have := h3 n160 (by unfold kAdd; rw [kt.mpr z]; rfl)
      unfold opAdd at this
      rw [if_pos z] at this; exact this
    · unfold kAdd
      rw [kf.mpr z, kf.mpr z2]; rfl
    · have := h3 n160 (by unfold kAdd; rw [kt.mpr z2]; simp)
      unfold opAdd at this
      rw [if_neg z] at this; exact this
section LM
variable {B : Nat → Nat} {N : Nat}
theorem lmOr (hb : BN B N) (d : Nat) : LoopM B N d 5 4 (wM_either (wMg d)) kOr (fun _ => -21) := by
  refine ⟨fun g Q h => h, fun n g Q h => ?_, fun n v g Q h q => ?_, fun n F s o v g Q hi hk q => ?_, fun n => ⟨n + 1, Nat.le_succ n, fun F s o v g Q hi hk => ⟨(fun r_5 k_5 => ((¬ v = 0 → wM_either (wMg d) (n + 1) 1 (1 : Int32) k_5 Q) ∧ (v = 0 → ((r_5 = 0 → wM_either (wMg d) (n + 1) 1 (0 : Int32) k_5 Q) ∧ (¬ r_5 = 0 → wM_either (wMg d) (n + 1) 1 (1 : Int32) k_5 Q))))), fun r k5 h => ?_, fun h => ?_⟩⟩⟩
  · rw [wM_either]; exact h
  · rw [wM_either]
    any_goals (intro h9; exact absurd h9 (by decide))
    exact mIsWordB h (br_t rfl q)
  · rw [wM_either]
    any_goals (intro h9; exact absurd h9 (by decide))
    refine mIsKey hb hi 9 rfl (by omega) (by omega) ?_
    rw [if_neg (kf.mp hk)]
    exact br_t rfl q
  rotate_left 1
  · rw [wM_either]
    any_goals (intro h9; exact absurd h9 (by decide))
    refine mIsKey hb hi 9 rfl (by omega) (by omega) ?_
    rw [if_pos (kt.mp hk)]
    exact br_f n10 h
  · refine ⟨fun z => ?_, fun z => ⟨fun z2 => ?_, fun z2 => ?_⟩⟩
    · have e : biI (-21) v r = 1 := by unfold biI; rw [if_pos rfl, if_pos z]
      rw [e] at h; exact h
    · have e : biI (-21) v r = 0 := by unfold biI; rw [if_pos rfl, if_neg (fun y => y z), if_pos z2]
      rw [e] at h; exact h
    · have e : biI (-21) v r = 1 := by unfold biI; rw [if_pos rfl, if_neg (fun y => y z), if_neg z2]
      rw [e] at h; exact h
theorem lmAnd (hb : BN B N) (d : Nat) : LoopM B N d 4 3 (wM_both (wMg d)) kAnd (fun _ => -22) := by
  refine ⟨fun g Q h => h, fun n g Q h => ?_, fun n v g Q h q => ?_, fun n F s o v g Q hi hk q => ?_, fun n => ⟨n + 1, Nat.le_succ n, fun F s o v g Q hi hk => ⟨(fun r_5 k_5 => ((v = 0 → wM_both (wMg d) (n + 1) 1 (0 : Int32) k_5 Q) ∧ (¬ v = 0 → ((r_5 = 0 → wM_both (wMg d) (n + 1) 1 (0 : Int32) k_5 Q) ∧ (¬ r_5 = 0 → wM_both (wMg d) (n + 1) 1 (1 : Int32) k_5 Q))))), fun r k5 h => ?_, fun h => ?_⟩⟩⟩
  · rw [wM_both]; exact h
  · rw [wM_both]
    any_goals (intro h9; exact absurd h9 (by decide))
    exact mIsWordB h (br_t rfl q)
  · rw [wM_both]
    any_goals (intro h9; exact absurd h9 (by decide))
    refine mIsKey hb hi 10 rfl (by omega) (by omega) ?_
    rw [if_neg (kf.mp hk)]
    exact br_t rfl q
  rotate_left 1
  · rw [wM_both]
    any_goals (intro h9; exact absurd h9 (by decide))
    refine mIsKey hb hi 10 rfl (by omega) (by omega) ?_
    rw [if_pos (kt.mp hk)]
    exact br_f n10 h
  · refine ⟨fun z => ?_, fun z => ⟨fun z2 => ?_, fun z2 => ?_⟩⟩
    · have e : biI (-22) v r = 0 := by unfold biI; rw [if_neg (by decide), if_pos rfl, if_pos z]
      rw [e] at h; exact h
    · have e : biI (-22) v r = 0 := by unfold biI; rw [if_neg (by decide), if_pos rfl, if_neg z, if_pos z2]
      rw [e] at h; exact h
    · have e : biI (-22) v r = 1 := by unfold biI; rw [if_neg (by decide), if_pos rfl, if_neg z, if_neg z2]
      rw [e] at h; exact h
theorem lmMul (d : Nat) : LoopM B N d 1 0 (wM_term (wMg d)) kMul (fun _ => -27) := by
  refine ⟨fun g Q h => h, fun n g Q h => ?_, fun n v g Q h q => ?_, fun n F s o v g Q hi hk q => ?_, fun n => ⟨n + 1, Nat.le_succ n, fun F s o v g Q hi hk => ⟨(fun r_5 k_5 => wM_term (wMg d) (n + 1) 1 (v * r_5) k_5 Q), fun r k5 h => ?_, fun h => ?_⟩⟩⟩
  · rw [wM_term]; exact h
  · rw [wM_term]
    any_goals (intro h9; exact absurd h9 (by decide))
    exact mIsSignB h (br_t rfl q)
  · rw [wM_term]
    any_goals (intro h9; exact absurd h9 (by decide))
    refine mIsSign hi 42 rfl (by omega) (by omega) ?_
    rw [if_neg (kf.mp hk)]
    exact br_t rfl q
  rotate_left 1
  · rw [wM_term]
    any_goals (intro h9; exact absurd h9 (by decide))
    refine mIsSign hi 42 rfl (by omega) (by omega) ?_
    rw [if_pos (kt.mp hk)]
    exact br_f n10 h
  · exact h
theorem MI.long {F s o c : Nat} {g : GM} (h : MI B N F s o g) (hc : 40 ≤ c) (ht : tkN B N s = c) : g.2.2 = lN c := by
  obtain ⟨h3, e⟩ := (tk_sg (B := B) h.2.2.2.2.1 hc).mp ht
  rw [← e]
  exact h.2.2.2.2.2.2.2.2.2.2.2 h3
theorem lmAdd (d : Nat) : LoopM B N d 2 1 (fun n c v g Q => wM_added (wMg d) n c v 0 g Q) kAdd opAdd := by
  refine ⟨fun g Q h => h, fun n g Q h => ?_, fun n v g Q h q => ?_, fun n F s o v g Q hi hk q => ?_, fun n => ⟨n, Nat.le_refl n, fun F s o v g Q hi hk => ⟨if tkN B N s = 43 then (fun r_9 k_9 => (((1 : Int32) = 0 → wM_added (wMg d) n 1 (v - r_9) 0 k_9 Q) ∧ (¬ (1 : Int32) = 0 → wM_added (wMg d) n 1 (v + r_9) 0 k_9 Q))) else (fun r_9 k_9 => (((0 : Int32) = 0 → wM_added (wMg d) n 1 (v - r_9) 0 k_9 Q) ∧ (¬ (0 : Int32) = 0 → wM_added (wMg d) n 1 (v + r_9) 0 k_9 Q))), fun r k5 h => ?_, fun h => ?_⟩⟩⟩
  · show wM_added (wMg d) (n + 1) 0 0 0 g Q
    rw [wM_added]; exact h
  · show wM_added (wMg d) (n + 1) 1 v 0 g Q
    rw [wM_added]
    exact mIsSignB h (br1 rfl (mIsSignB h (br_t rfl q)))
  · show wM_added (wMg d) (n + 1) 1 v 0 g Q
    rw [wM_added]
    have hk2 := Bool.or_eq_false_iff.mp hk
    refine mIsSign hi 43 rfl (by omega) (by omega) ?_
    rw [if_neg (kf.mp hk2.1)]
    refine br1 rfl (mIsSign hi 45 rfl (by omega) (by omega) ?_)
    rw [if_neg (kf.mp hk2.2)]
    exact br_t rfl q
  · by_cases e : tkN B N s = 43
    · rw [if_pos e]
      unfold opAdd at h
      rw [if_pos e] at h
      exact ⟨fun z => absurd z n10, fun _ => h⟩
    · rw [if_neg e]
      unfold opAdd at h
      rw [if_neg e] at h
      exact ⟨fun _ => h, fun z => absurd rfl z⟩
  · show wM_added (wMg d) (n + 1 + 1) 1 v 0 g Q
    rw [wM_added]
    by_cases e : tkN B N s = 43
    · rw [if_pos e] at h
      refine mIsSign hi 43 rfl (by omega) (by omega) ?_
      rw [if_pos e]
      refine br0 n10 ⟨fun z => absurd ((lg_cmp_eq _ _).mpr (hi.long (by omega) e)) z, fun _ => ?_⟩
      rw [wM_added]
      any_goals (intro h9; exact absurd h9 (by decide))
      exact h
    · rw [if_neg e] at h
      have e45 : tkN B N s = 45 := by
        rcases Bool.or_eq_true_iff.mp hk with z | z
        · exact absurd (kt.mp z) e
        · exact kt.mp z
      refine mIsSign hi 43 rfl (by omega) (by omega) ?_
      rw [if_neg e]
      refine br1 rfl (mIsSign hi 45 rfl (by omega) (by omega) ?_)
      rw [if_pos e45]
      refine br_f n10 ⟨fun _ => ?_, fun z => ?_⟩
      · rw [wM_added]
        any_goals (intro h9; exact absurd h9 (by decide))
        exact h
      · have z2 := (lg_cmp_eq _ _).mp z
        rw [hi.long (by omega) e45] at z2
        exact absurd z2 (by decide)
end LM
