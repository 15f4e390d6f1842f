/-! ===== counted ===== -/
section Co
variable {t n nt np nw N : Nat} {k k' : KC} {g g' : GM}
/-- a step of the greatest measure -/
theorem gcd_dn {p q m : Nat} (hq : q < p) (h0 : 0 < q) (h : p * q < 2 ^ (m + 1)) : q * (p % q) < 2 ^ m := by
  have h1 := Nat.mod_lt p h0
  have h2 : q + p % q ≤ p := by
    have := Nat.div_add_mod p q
    have h3 : 1 ≤ p / q := Nat.div_pos (by omega) h0
    have h4 : q * 1 ≤ q * (p / q) := Nat.mul_le_mul_left q h3
    omega
  have h5 : 2 * (p % q) ≤ p := by omega
  have h6 : 2 * (p % q) * q ≤ p * q := Nat.mul_le_mul_right q h5
  have h7 : 2 ^ (m + 1) = 2 * 2 ^ m := by rw [Nat.pow_succ, Nat.mul_comm]
  have h8 : 2 * (p % q) * q = 2 * (q * (p % q)) := by rw [Nat.mul_assoc, Nat.mul_comm (p % q) q]
  omega
theorem lN_0 {q : Nat} (h : q < 2 ^ 63) : (lg_cmp (lN q) (0 : Int64)) = 0 ↔ q = 0 := by
  rw [lg_cmp_eq]
  exact pk_lEQ (b := 0) h (by decide)
theorem cGcdL {Q : Int64 → KC → Prop} : ∀ (m p q c : Nat), q < p → p * q < 2 ^ m → p < 2 ^ 60 → c + m < 198 → Q (lN (Nat.gcd p q)) k → wC_commonDivisor (m + 2) 1 0 0 (lN p) (lN q) (nI c) k Q := by
  intro m
  induction m with
  | zero =>
    intro p q c h1 h2 h3 h4 hQ
    have q0 : q = 0 := by
      have : p * q = 0 := by omega
      rcases Nat.mul_eq_zero.mp this with y | y <;> omega
    subst q0
    rw [wC_commonDivisor]
    any_goals (intro h9; exact absurd h9 (by decide))
    refine br_f (nI_ge (a := c) (b := 200) (by omega) (by decide)) (br_t rfl ?_)
    have : ¬ lN p < (1 : Int64) := fun y => by have := (pk_lLT (a := p) (b := 1) (by omega) (by decide)).mp y; omega
    rw [if_neg this]
    rw [Nat.gcd_zero_right] at hQ; exact hQ
  | succ m ih =>
    intro p q c h1 h2 h3 h4 hQ
    rw [wC_commonDivisor]
    any_goals (intro h9; exact absurd h9 (by decide))
    refine br_f (nI_ge (a := c) (b := 200) (by omega) (by decide)) ?_
    rcases Nat.eq_zero_or_pos q with q0 | q0
    · subst q0
      refine br_t rfl ?_
      have : ¬ lN p < (1 : Int64) := fun y => by have := (pk_lLT (a := p) (b := 1) (by omega) (by decide)).mp y; omega
      rw [if_neg this]
      rw [Nat.gcd_zero_right] at hQ; exact hQ
    · have nz : ¬ lN q = 0 := fun y => by have := (pk_lEQ (a := q) (b := 0) (by omega) (by decide)).mp y; omega
      rw [pk_lRem (by omega) q0 (by omega), nI_1]
      refine br_f (fun y => by have := (lN_0 (by omega)).mp y; omega) ⟨nz, ih q (p % q) (c + 1) (Nat.mod_lt p q0) (gcd_dn h1 q0 h2) (by omega) (by omega) ?_⟩
      rw [Nat.gcd_comm, Nat.gcd_rec, Nat.gcd_comm] at hQ
      rw [Nat.gcd_comm q (p % q)]
      rw [Nat.gcd_comm] at hQ; exact hQ
theorem mGcdL {Q : Int64 → GM → Prop} : ∀ (m p q : Nat), q < p → p * q < 2 ^ m → p < 2 ^ 60 → Q (lN (Nat.gcd p q)) g → wM_common (m + 2) 1 0 0 (lN p) (lN q) g Q := by
  intro m
  induction m with
  | zero =>
    intro p q h1 h2 h3 hQ
    have q0 : q = 0 := by
      have : p * q = 0 := by omega
      rcases Nat.mul_eq_zero.mp this with y | y <;> omega
    subst q0
    rw [wM_common]
    any_goals (intro h9; exact absurd h9 (by decide))
    rw [Nat.gcd_zero_right] at hQ
    exact br_t rfl hQ
  | succ m ih =>
    intro p q h1 h2 h3 hQ
    rw [wM_common]
    any_goals (intro h9; exact absurd h9 (by decide))
    rcases Nat.eq_zero_or_pos q with q0 | q0
    · subst q0
      rw [Nat.gcd_zero_right] at hQ
      exact br_t rfl hQ
    · have nz : ¬ lN q = 0 := fun y => by have := (pk_lEQ (a := q) (b := 0) (by omega) (by decide)).mp y; omega
      rw [pk_lRem (by omega) q0 (by omega)]
      refine br_f (fun y => by have := (lN_0 (by omega)).mp y; omega) ⟨nz, ih q (p % q) (Nat.mod_lt p q0) (gcd_dn h1 q0 h2) (by omega) ?_⟩
      rw [Nat.gcd_comm, Nat.gcd_rec, Nat.gcd_comm] at hQ
      rw [Nat.gcd_comm q (p % q)]
      rw [Nat.gcd_comm] at hQ; exact hQ
/-- both ask for the greatest measure of an amount and of what is below -/
theorem cGcd {Q : Int64 → KC → Prop} {d b : Nat} (hb : 0 < b) (hb2 : b < 2 ^ 48) (hd : d < 2 ^ 48) (q : Q (lN (Nat.gcd d b)) k) : ∃ n, wC_commonDivisor n 0 (lN d) (lN b) 0 0 0 k Q := by
  refine ⟨96 + 2 + 1 + 1, ?_⟩
  rw [wC_commonDivisor, wC_commonDivisor]
  any_goals (intro h9; exact absurd h9 (by decide))
  refine br_f (by decide) ?_
  rcases Nat.eq_zero_or_pos d with d0 | d0
  · subst d0
    refine br_t rfl ?_
    have : ¬ lN b < (1 : Int64) := fun y => by have := (pk_lLT (a := b) (b := 1) (by omega) (by decide)).mp y; omega
    rw [if_neg this]
    rw [Nat.gcd_zero_left] at q; exact q
  · have nz : ¬ lN d = 0 := fun y => by have := (pk_lEQ (a := d) (b := 0) (by omega) (by decide)).mp y; omega
    rw [pk_lRem (by omega) d0 (by omega)]
    have h1 := Nat.mod_lt b d0
    refine br_f (fun y => by have := (lN_0 (by omega)).mp y; omega) ⟨nz, cGcdL 96 d (b % d) 1 h1 ?_ (by omega) (by decide) ?_⟩
    · have : d * (b % d) ≤ d * 2 ^ 48 := Nat.mul_le_mul_left d (by omega)
      have : d * 2 ^ 48 < 2 ^ 48 * 2 ^ 48 := Nat.mul_lt_mul_of_pos_right hd (by decide)
      have : (2 ^ 48 * 2 ^ 48 : Nat) = 2 ^ 96 := by decide
      omega
    · rw [Nat.gcd_rec] at q
      rw [Nat.gcd_comm]; exact q
theorem mGcd {Q : Int64 → GM → Prop} {d b : Nat} (hb : 0 < b) (hb2 : b < 2 ^ 48) (hd : d < 2 ^ 48) (q : Q (lN (Nat.gcd d b)) g) : wM_common (96 + 2 + 1) 1 0 0 (lN d) (lN b) g Q := by
  rw [wM_common]
  any_goals (intro h9; exact absurd h9 (by decide))
  have nz : ¬ lN b = 0 := fun y => by have := (pk_lEQ (a := b) (b := 0) (by omega) (by decide)).mp y; omega
  rw [pk_lRem (by omega) hb (by omega)]
  have h1 := Nat.mod_lt d hb
  refine br_f (fun y => by have := (lN_0 (by omega)).mp y; omega) ⟨nz, mGcdL 96 b (d % b) h1 ?_ (by omega) ?_⟩
  · have : b * (d % b) ≤ b * 2 ^ 48 := Nat.mul_le_mul_left b (by omega)
    have : b * 2 ^ 48 < 2 ^ 48 * 2 ^ 48 := Nat.mul_lt_mul_of_pos_right hb2 (by decide)
    have : (2 ^ 48 * 2 ^ 48 : Nat) = 2 ^ 96 := by decide
    omega
  · rw [Nat.gcd_comm, Nat.gcd_rec] at q
    rw [Nat.gcd_comm]; exact q
theorem lN_T {a : Nat} (h : a < 2 ^ 62) : (lN a).toInt = (a : Int) := pk_lT (by omega)
theorem lN_neg {X Y : Nat} (h : X ≤ Y) : lN X - lN Y = -(lN (Y - X)) := by
  rw [← lN_sub h, Int64.neg_sub]
theorem negT {d : Nat} (h : d < 2 ^ 62) : (-(lN d)).toInt = -(d : Int) := by
  rw [Int64.toInt_neg, lN_T h]
  exact Int.bmod_eq_of_le (by omega) (by omega)
/-- what lies between two numbers, as both take it -/
theorem absC {X Y : Nat} (hX : X < 2 ^ 60) (hY : Y < 2 ^ 60) : ∃ d, (d = X - Y ∨ d = Y - X) ∧ d ≤ X + Y ∧ (if (0 : Int64) < lN X - lN Y then lN X - lN Y else -(lN X - lN Y)) = lN d ∧ ((0 ≤ lg_cmp (lN X - lN Y) (0 : Int64) → lN X - lN Y = lN d) ∧ (¬ 0 ≤ lg_cmp (lN X - lN Y) (0 : Int64) → -(lN X - lN Y) = lN d)) := by
  rcases Nat.lt_or_ge Y X with h | h
  · refine ⟨X - Y, Or.inl rfl, by omega, ?_, fun _ => lN_sub (by omega), fun y => absurd ?_ y⟩
    · have z : (0 : Int64) < lN (X - Y) := (pk_lLT (a := 0) (b := X - Y) (by decide) (by omega)).mpr (by omega)
      rw [lN_sub (by omega), if_pos z]
    · rw [lN_sub (by omega)]
      simp only [lg_cmp_ge]
      exact (pk_lLE (a := 0) (by decide) (by omega)).mpr (by omega)
  · refine ⟨Y - X, Or.inr rfl, by omega, ?_, fun y => ?_, fun _ => ?_⟩
    · rw [lN_neg h, if_neg (fun y => ?_), Int64.neg_neg]
      have := Int64.lt_iff_toInt_lt.mp y
      rw [negT (by omega)] at this
      have z : (0 : Int64).toInt = 0 := by decide
      omega
    · rw [lN_neg h] at y ⊢
      simp only [lg_cmp_ge] at y
      have := Int64.le_iff_toInt_le.mp y
      rw [negT (by omega)] at this
      have z : (0 : Int64).toInt = 0 := by decide
      have e : Y - X = 0 := by omega
      rw [e]; decide
    · rw [lN_neg h, Int64.neg_neg]
def mx1 (a : Nat) : Nat := if a = 0 then 1 else a
theorem mx1_l {a : Nat} (h : a < 2 ^ 60) : (if lN a < (1 : Int64) then (1 : Int64) else lN a) = lN (mx1 a) := by
  unfold mx1
  by_cases c : a = 0
  · subst c; decide
  · have : ¬ lN a < (1 : Int64) := fun y => by have := (pk_lLT (a := a) (b := 1) (by omega) (by decide)).mp y; omega
    rw [if_neg this, if_neg c]
theorem mx1_p {a : Nat} : 0 < mx1 a := by unfold mx1; split <;> omega
theorem mx1_b {a b : Nat} (h : a ≤ b) : mx1 a ≤ b + 1 := by unfold mx1; split <;> omega
/-- the answer, as both make it -/
def cntR (x3 : Int32) (A B w v : Nat) : Int64 := if x3 = 0 then (lN w * lN B - lN v * lN A) / lN (Nat.gcd (if v * A ≤ w * B then w * B - v * A else v * A - w * B) (A * B)) else (lN A * lN B) / lN (Nat.gcd (if v * A ≤ w * B then w * B - v * A else v * A - w * B) (A * B))
theorem absE {X Y d : Nat} (h : d = X - Y ∨ d = Y - X) (hX : X < 2 ^ 60) (hY : Y < 2 ^ 60) (e : (if (0 : Int64) < lN X - lN Y then lN X - lN Y else -(lN X - lN Y)) = lN d) (hd : d ≤ X + Y) : d = if Y ≤ X then X - Y else Y - X := by
  obtain ⟨d', h1, h2, h3, h4⟩ := absC hX hY
  by_cases c : Y ≤ X
  · rw [if_pos c]
    rcases h with h | h
    · exact h
    · rcases Nat.lt_or_ge Y X with z | z
      · exfalso
        have z2 : (0 : Int64) < lN (X - Y) := (pk_lLT (a := 0) (b := X - Y) (by decide) (by omega)).mpr (by omega)
        rw [lN_sub (by omega), if_pos z2] at e
        have := (pk_lEQ (by omega) (by omega)).mp e
        omega
      · omega
  · rw [if_neg c]
    rcases h with h | h
    · exfalso
      rw [lN_neg (by omega), if_neg (fun y => by
        have := Int64.lt_iff_toInt_lt.mp y
        rw [negT (by omega)] at this
        have z : (0 : Int64).toInt = 0 := by decide
        omega), Int64.neg_neg] at e
      have := (pk_lEQ (by omega) (by omega)).mp e
      omega
    · exact h
theorem cCnt {A B w v : Nat} {x3 : Int32} {Q : Int64 → KC → Prop} (hA : 0 < A) (hB : 0 < B) (h1 : A * B < 2 ^ 48) (h2 : w * B < 2 ^ 46) (h3 : v * A < 2 ^ 46) (q : Q (cntR x3 A B w v) k) : ∃ n_12 : Nat, wC_commonDivisor n_12 0 (if 0 < ((lN w * lN B) - (lN v * lN A)) then ((lN w * lN B) - (lN v * lN A)) else -((lN w * lN B) - (lN v * lN A))) (lN A * lN B) 0 0 0 k (fun r_12 k_12 => ((¬ x3 = 0 → (¬ r_12 = 0 ∧ Q ((lN A * lN B) / r_12) k_12)) ∧ (x3 = 0 → (¬ r_12 = 0 ∧ Q (((lN w * lN B) - (lN v * lN A)) / r_12) k_12)))) := by
  unfold cntR at q
  rw [lN_mul, lN_mul, lN_mul] at q ⊢
  obtain ⟨d, d1, d2, d3, d4⟩ := absC (X := w * B) (Y := v * A) (by omega) (by omega)
  rw [← absE d1 (by omega) (by omega) d3 d2] at q
  rw [d3]
  have hp : 0 < A * B := Nat.mul_pos hA hB
  have hg : 0 < Nat.gcd d (A * B) := Nat.gcd_pos_of_pos_right d hp
  have hg2 : Nat.gcd d (A * B) ≤ A * B := Nat.le_of_dvd hp (Nat.gcd_dvd_right d (A * B))
  have nz : ¬ lN (Nat.gcd d (A * B)) = 0 := fun y => by have := (pk_lEQ (b := 0) (by omega) (by decide)).mp y; omega
  refine cGcd hp h1 (by omega) ⟨fun c => ⟨nz, ?_⟩, fun c => ⟨nz, ?_⟩⟩
  · rw [if_neg c] at q; exact q
  · rw [if_pos c] at q; exact q
theorem mCnt {A B w v : Nat} {x3 : Int32} {Q : Int64 → GM → Prop} (hA : 0 < A) (hB : 0 < B) (h1 : A * B < 2 ^ 48) (h2 : w * B < 2 ^ 46) (h3 : v * A < 2 ^ 46) (q : Q (cntR x3 A B w v) g) : ∃ n_14 : Nat, wM_common n_14 0 ((lN w * lN B) - (lN v * lN A)) (lN A * lN B) 0 0 g (fun r_14 k_14 => ((¬ x3 = 0 → (¬ r_14 = 0 ∧ Q ((lN A * lN B) / r_14) k_14)) ∧ (x3 = 0 → (¬ r_14 = 0 ∧ Q (((lN w * lN B) - (lN v * lN A)) / r_14) k_14)))) := by
  unfold cntR at q
  rw [lN_mul, lN_mul, lN_mul] at q ⊢
  obtain ⟨d, d1, d2, d3, d4⟩ := absC (X := w * B) (Y := v * A) (by omega) (by omega)
  rw [← absE d1 (by omega) (by omega) d3 d2] at q
  have hp : 0 < A * B := Nat.mul_pos hA hB
  have hg : 0 < Nat.gcd d (A * B) := Nat.gcd_pos_of_pos_right d hp
  have hg2 : Nat.gcd d (A * B) ≤ A * B := Nat.le_of_dvd hp (Nat.gcd_dvd_right d (A * B))
  have nz : ¬ lN (Nat.gcd d (A * B)) = 0 := fun y => by have := (pk_lEQ (b := 0) (by omega) (by decide)).mp y; omega
  have R : wM_common (96 + 2 + 1) 1 0 0 (lN d) (lN (A * B)) g (fun r_14 k_14 => ((¬ x3 = 0 → (¬ r_14 = 0 ∧ Q (lN (A * B) / r_14) k_14)) ∧ (x3 = 0 → (¬ r_14 = 0 ∧ Q ((lN (w * B) - lN (v * A)) / r_14) k_14)))) := by
    refine mGcd hp h1 (by omega) ⟨fun c => ⟨nz, ?_⟩, fun c => ⟨nz, ?_⟩⟩
    · rw [if_neg c] at q; exact q
    · rw [if_pos c] at q; exact q
  refine ⟨96 + 2 + 1 + 1, ?_⟩
  rw [wM_common]
  have K : ∀ (Qx : Int64 → GM → Prop) (y : Int64), y = lN d → wM_common (96 + 2 + 1) 1 0 0 (lN d) (lN (A * B)) g Qx → wM_common (96 + 2 + 1) 1 0 0 y (lN (A * B)) g Qx := fun Qx y hy hr => by rw [hy]; exact hr
  exact ⟨fun c => K _ _ (d4.1 c) R, fun c => K _ _ (d4.2 c) R⟩
theorem op_counted (x1 x2 x3 : Int32) (ht : t < 2000) (h : Rel t k g) : wC_counted x1 x2 x3 k (fun r k' => ∃ y, wM_counted y 0 x1 x2 x3 0 0 0 0 0 g (fun r' g' => r = r' ∧ Rel (t + 1) k' g')) := by
  obtain ⟨n, nt, np, nw, N, h⟩ := h
  have hu := h.up
  have fin : ∀ v : Int64, v = v ∧ Rel (t + 1) k g := fun v => ⟨rfl, _, _, _, _, _, hu⟩
  have hn := h.1.1
  unfold wC_counted
  refine cHas h.1.2.1 ?_
  rcases ini_c x1 0 (nI n - 1) with e1 | e1
  · rw [e1]
    refine br_t rfl ⟨1, ?_⟩
    rw [wM_counted]
    refine mOne h.1.2.2.1 ?_
    rw [e1]
    exact br_t rfl (fin _)
  rw [e1]
  unfold wC_isEnd
  refine br_f n10 (cWithin ?_)
  rcases ini_c x2 0 3 with e2 | e2
  · rw [e2]
    refine br_t rfl ⟨1, ?_⟩
    rw [wM_counted]
    refine mOne h.1.2.2.1 ?_
    rw [e1]
    refine br_f n10 (mIn (lo := 0) (hi := 3) rfl rfl ?_)
    rw [e2]
    exact br_t rfl (fin _)
  rw [e2]
  refine br_f n10 (cWithin ?_)
  rcases ini_c x3 0 1 with e3 | e3
  · rw [e3]
    refine br1 rfl ⟨1, ?_⟩
    rw [wM_counted]
    refine mOne h.1.2.2.1 ?_
    rw [e1]
    refine br_f n10 (mIn (lo := 0) (hi := 3) rfl rfl ?_)
    rw [e2]
    refine br_f n10 (mIn (lo := 0) (hi := 1) rfl rfl ?_)
    rw [e3]
    exact br1 rfl (fin _)
  rw [e3]
  obtain ⟨s, hs, es⟩ := ini_idx (by omega) e1
  obtain ⟨e, _, he, ee2⟩ := ini_rng (a := 0) (b := 3) (by decide) (by decide) e2
  subst es ee2
  obtain ⟨m1, m2, m3, m4, m5, m6, m7, m8⟩ := h.2.2.2.1
  obtain ⟨ew, ee, c1, c2, c3, c4⟩ := h.2.2.2.2.1.2.2.2
  have hU : UU t = 2000 * t := rfl
  have hs8 : s < 8 := by omega
  have i1 : nI s * (4 : Int32) + nI e = nI (4 * s + e) := by rw [show (4 : Int32) = nI 4 from rfl, pk_mul, nI_add, Nat.mul_comm]
  have i2 : ∀ e, (4 : Int32) * nI s + nI e = nI (4 * s + e) := fun e => by rw [show (4 : Int32) = nI 4 from rfl, pk_mul, nI_add]
  have f0 := c3 s 0 hs8 (by omega)
  have f1 := c3 s 1 hs8 (by omega)
  have f2 := c3 s 2 hs8 (by omega)
  have f3 := c3 s 3 hs8 (by omega)
  have g0 := (c2 0 (by omega)).2
  have g1 := (c2 1 (by omega)).2
  have g2 := (c2 2 (by omega)).2
  have g3 := (c2 3 (by omega)).2
  rw [Nat.add_zero] at f0
  have fe := c3 s e hs8 (by omega)
  have ge := (c2 e (by omega)).2
  obtain ⟨T, hT⟩ : ∃ T, T = ee 0 + ee 1 + ee 2 + ee 3 := ⟨_, rfl⟩
  obtain ⟨a, ha⟩ : ∃ a, a = ew (4 * s) + ew (4 * s + 1) + ew (4 * s + 2) + ew (4 * s + 3) := ⟨_, rfl⟩
  have ewe : e = 0 ∨ e = 1 ∨ e = 2 ∨ e = 3 := by omega
  have wa : ew (4 * s + e) ≤ a := by rcases ewe with z | z | z | z <;> subst z <;> (try rw [Nat.add_zero]) <;> omega
  have va : ee e - ew (4 * s + e) ≤ T - a := by rcases ewe with z | z | z | z <;> subst z <;> (try rw [Nat.add_zero]) <;> omega
  have onE : g.2.1 9 s = nI a := by rw [ha]; exact c4 s hs8
  have toE : g.2.1 35 0 + g.2.1 35 1 + g.2.1 35 2 + g.2.1 35 3 = nI T := by
    rw [(c2 0 (by omega)).1, (c2 1 (by omega)).1, (c2 2 (by omega)).1, (c2 3 (by omega)).1, nI_add, nI_add, nI_add, hT]
  have wiE : g.2.1 36 (4 * s + e) = nI (ew (4 * s + e)) := c1 _ (by omega)
  have enE : g.2.1 35 e = nI (ee e) := (c2 e (by omega)).1
  -- bounds
  have bA : mx1 a ≤ 16000001 := by have := mx1_b (a := a) (b := 16000000) (by omega); omega
  have bB : mx1 (T - a) ≤ 16000001 := by have := mx1_b (a := T - a) (b := 16000000) (by omega); omega
  have b1 : mx1 a * mx1 (T - a) < 2 ^ 48 := Nat.lt_of_le_of_lt (Nat.mul_le_mul bA bB) (by decide)
  have b2 : ew (4 * s + e) * mx1 (T - a) < 2 ^ 46 := Nat.lt_of_le_of_lt (Nat.mul_le_mul (by omega : ew (4 * s + e) ≤ 4000000) bB) (by decide)
  have b3 : (ee e - ew (4 * s + e)) * mx1 a < 2 ^ 46 := Nat.lt_of_le_of_lt (Nat.mul_le_mul (by omega : ee e - ew (4 * s + e) ≤ 4000000) bA) (by decide)
  have M : ∀ P : Int64 → GM → Prop, P (cntR x3 (mx1 a) (mx1 (T - a)) (ew (4 * s + e)) (ee e - ew (4 * s + e))) g → ∃ y, wM_counted y 0 (nI s) (nI e) x3 0 0 0 0 0 g P := by
    intro P hP
    have F2 : wM_counted 1 2 0 0 x3 (lN (mx1 a)) 0 (lN (mx1 (T - a))) (lN (ew (4 * s + e))) (lN (ee e - ew (4 * s + e))) g P := by
      rw [wM_counted]
      any_goals (intro h9; exact absurd h9 (by decide))
      exact mCnt mx1_p mx1_p b1 b2 b3 hP
    have stp1 : ∀ (F acc c : Nat), c < 4 → wM_counted F 1 (nI s) (nI e) x3 (lN (acc + ew (4 * s + c))) (nI (c + 1)) 0 0 0 g P → wM_counted (F + 1) 1 (nI s) (nI e) x3 (lN acc) (nI c) 0 0 0 g P := by
      intro F acc c hc hF
      rw [wM_counted, i2 c, nI_1 c, nI_clamp (n := 4 * s + c) (by omega), c1 (4 * s + c) (by omega)]
      refine br_f (nI_ge (a := c) (b := 4) hc (by decide)) ⟨vp_in_nI (by omega) (by decide), fun v ev => ?_⟩
      have hb := c3 s c hs8 hc
      have hb2 := (c2 c hc).2
      rw [ev, nI_l (by omega), lN_add]
      exact hF
    have F1 : wM_counted 2 1 (nI s) (nI e) x3 (lN a) (nI 4) 0 0 0 g P := by
      rw [wM_counted]
      unfold wM_trialsOfAll
      dsimp only
      rw [i2 e, toE, nI_clamp (n := e) (by omega), nI_clamp (n := 4 * s + e) (by omega), wiE, enE, nI_l (n := T) (by omega), nI_l (n := ew (4 * s + e)) (by omega), nI_l (n := ee e) (by omega), lN_sub (a := T) (b := a) (by omega), lN_sub fe]
      refine br_t (by decide) ⟨vp_in_nI (by omega) (by decide), vp_in_nI (by omega) (by decide), fun v ev => ?_⟩
      subst ev
      have z1 : (lg_cmp (lN a) (0 : Int64)) = 0 ↔ a = 0 := lN_0 (by omega)
      have z2 : (lg_cmp (lN (T - a)) (0 : Int64)) = 0 ↔ T - a = 0 := lN_0 (by omega)
      have A1 : ¬ a = 0 → mx1 a = a := fun y => if_neg y
      have A0 : a = 0 → mx1 a = 1 := fun y => if_pos y
      have B1 : ¬ T - a = 0 → mx1 (T - a) = T - a := fun y => if_neg y
      have B0 : T - a = 0 → mx1 (T - a) = 1 := fun y => if_pos y
      refine ⟨fun y => ⟨fun y2 => ?_, fun y2 => ?_⟩, fun y => ⟨fun y2 => ?_, fun y2 => ?_⟩⟩
      · have ya := fun z => y (z1.mpr z)
        have yb := fun z => y2 (z2.mpr z)
        rw [A1 ya, B1 yb] at F2; exact F2
      · have ya := fun z => y (z1.mpr z)
        have yb := z2.mp y2
        rw [A1 ya, B0 yb, show ee e - ew (4 * s + e) = 0 by omega] at F2; exact F2
      · have ya := z1.mp y
        have yb := fun z => y2 (z2.mpr z)
        rw [A0 ya, B1 yb, show ew (4 * s + e) = 0 by omega] at F2
        rw [show ew (4 * s + e) = 0 by omega]; exact F2
      · have ya := z1.mp y
        have yb := z2.mp y2
        rw [A0 ya, B0 yb, show ee e - ew (4 * s + e) = 0 by omega, show ew (4 * s + e) = 0 by omega] at F2; exact F2
    refine ⟨7, ?_⟩
    rw [wM_counted]
    refine mOne h.1.2.2.1 ?_
    rw [e1]
    refine br_f n10 (mIn (lo := 0) (hi := 3) rfl rfl ?_)
    rw [e2]
    refine br_f n10 (mIn (lo := 0) (hi := 1) rfl rfl ?_)
    rw [e3]
    refine br0 n10 ?_
    refine stp1 5 0 0 (by decide) (stp1 4 _ 1 (by decide) (stp1 3 _ 2 (by decide) (stp1 2 _ 3 (by decide) ?_)))
    rw [show 0 + ew (4 * s + 0) + ew (4 * s + 1) + ew (4 * s + 2) + ew (4 * s + 3) = a by rw [ha, Nat.add_zero]; omega]
    exact F1
  refine br0 n10 ⟨vp_in_nI (by omega) (by decide), ?_⟩
  unfold wC_X0_allTrials
  dsimp only
  rw [i1, nI_clamp (n := s) (by omega), nI_clamp (n := e) (by omega), nI_clamp (n := 4 * s + e) (by omega), m2, m7, m8, toE, onE, wiE, enE, nI_l (n := a) (by omega), nI_l (n := T) (by omega), nI_l (n := ew (4 * s + e)) (by omega), nI_l (n := ee e) (by omega), lN_sub (by omega : a ≤ T), mx1_l (by omega), mx1_l (by omega)]
  refine ⟨vp_in_nI (by omega) (by decide), fun v8 ev8 => ⟨vp_in_nI (by omega) (by decide), fun v9 ev9 v10 ev10 v11 ev11 => ?_⟩⟩
  subst ev11 ev10 ev9 ev8
  rw [lN_sub fe]
  exact cCnt (Q := fun r k' => ∃ y, wM_counted y 0 (nI s) (nI e) x3 0 0 0 0 0 g (fun r' g' => r = r' ∧ Rel (t + 1) k' g')) mx1_p mx1_p b1 b2 b3 (M _ (fin _))
end Co
