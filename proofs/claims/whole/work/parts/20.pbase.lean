/-! ===== pure rows: ints, ranges, frames of the two states ===== -/
/-- an int within bounds, as both sides answer it -/
def ini (x lo hi : Int32) : Int32 := if x < lo then 0 else if hi < x then 0 else 1
theorem ini_iff (x lo hi : Int32) : ini x lo hi = if lo.toInt ≤ x.toInt ∧ x.toInt ≤ hi.toInt then 1 else 0 := by
  unfold ini
  simp only [Int32.lt_iff_toInt_lt]
  by_cases h1 : x.toInt < lo.toInt
  · rw [if_pos h1, if_neg (by omega)]
  · rw [if_neg h1]
    by_cases h2 : hi.toInt < x.toInt
    · rw [if_pos h2, if_neg (by omega)]
    · rw [if_neg h2, if_pos (by omega)]
theorem ini_1 {x lo hi : Int32} (h : lo.toInt ≤ x.toInt ∧ x.toInt ≤ hi.toInt) : ini x lo hi = 1 := by rw [ini_iff, if_pos h]
theorem ini_0 {x lo hi : Int32} (h : ¬ (lo.toInt ≤ x.toInt ∧ x.toInt ≤ hi.toInt)) : ini x lo hi = 0 := by rw [ini_iff, if_neg h]
theorem ini_c (x lo hi : Int32) : ini x lo hi = 0 ∨ ini x lo hi = 1 := by
  rw [ini_iff]
  by_cases h : lo.toInt ≤ x.toInt ∧ x.toInt ≤ hi.toInt
  · rw [if_pos h]; exact Or.inr rfl
  · rw [if_neg h]; exact Or.inl rfl
theorem ini_nI {n a b : Nat} (hn : n < 2 ^ 31) (ha : a < 2 ^ 31) (hb : b < 2 ^ 31) : ini (nI n) (nI a) (nI b) = if a ≤ n ∧ n ≤ b then 1 else 0 := by
  rw [ini_iff, nI_toInt hn, nI_toInt ha, nI_toInt hb]
  by_cases h : a ≤ n ∧ n ≤ b
  · rw [if_pos h, if_pos (by omega)]
  · rw [if_neg h, if_neg (by omega)]
theorem i0 : (0 : Int32).toInt = 0 := by decide
theorem ini_pred {n b : Nat} (hn : n < 2 ^ 30) (hb : b < 2 ^ 30) : ini (nI n) 0 (nI b - 1) = if n < b then 1 else 0 := by
  have e : (nI b - 1).toInt = (b : Int) - 1 := pk_sub_toInt (b := 1) hb (by decide)
  rw [ini_iff, nI_toInt (by omega), e, i0]
  by_cases h : n < b
  · rw [if_pos h, if_pos (by omega)]
  · rw [if_neg h, if_neg (by omega)]
theorem cWithin {x lo hi : Int32} {k : KC} {Q : Int32 → KC → Prop} (h : Q (ini x lo hi) k) : wC_within x lo hi k Q := by
  unfold ini at h
  unfold wC_within
  refine ⟨fun e => ?_, fun e => ⟨fun e2 => ?_, fun e2 => ?_⟩⟩
  · rw [if_pos e] at h; exact h
  · rw [if_neg e, if_pos e2] at h; exact h
  · rw [if_neg e, if_neg e2] at h; exact h
theorem mIn {x lo hi : Int32} {lo' hi' : Int64} {k : GM} {Q : Int32 → GM → Prop} (hl : lo' = lo.toInt64) (hh : hi' = hi.toInt64) (h : Q (ini x lo hi) k) : wM_in x.toInt64 lo' hi' k Q := by
  subst hl hh
  unfold ini at h
  unfold wM_in
  simp only [lg_cmp_lt, lg_cmp_gt, Int64.lt_iff_toInt_lt, Int32.toInt_toInt64]
  simp only [Int32.lt_iff_toInt_lt] at h
  refine ⟨fun e => ?_, fun e => ⟨fun e2 => ?_, fun e2 => ?_⟩⟩
  · rw [if_pos e] at h; exact h
  · rw [if_neg e, if_pos e2] at h; exact h
  · rw [if_neg e, if_neg e2] at h; exact h
/-- the same at a number that is an int by its own -/
theorem mIn64 {x lo hi : Int64} {k : GM} {Q : Int32 → GM → Prop} (h : Q (if x < lo then 0 else if hi < x then 0 else 1) k) : wM_in x lo hi k Q := by
  unfold wM_in
  simp only [lg_cmp_lt, lg_cmp_gt]
  refine ⟨fun e => ?_, fun e => ⟨fun e2 => ?_, fun e2 => ?_⟩⟩
  · rw [if_pos e] at h; exact h
  · rw [if_neg e, if_pos e2] at h; exact h
  · rw [if_neg e, if_neg e2] at h; exact h
def bounI (x lo hi : Int32) : Int32 := if x < lo then lo else if hi < x then hi else x
theorem i_nle (a b : Int32) : ¬ a ≤ b ↔ b < a := by
  rw [Int32.le_iff_toInt_le, Int32.lt_iff_toInt_lt]
  omega
theorem i_nlt (a b : Int32) : ¬ a < b ↔ b ≤ a := by
  rw [Int32.le_iff_toInt_le, Int32.lt_iff_toInt_lt]
  omega
theorem cBounded {x lo hi : Int32} {k : KC} {Q : Int32 → KC → Prop} (h : Q (bounI x lo hi) k) : wC_bounded x lo hi k Q := by
  unfold bounI at h
  unfold wC_bounded
  refine ⟨fun e => ⟨fun e2 => ?_, fun e2 => ?_⟩, fun e => ?_⟩
  · rw [if_neg ((i_nlt _ _).mpr e), if_neg ((i_nlt _ _).mpr e2)] at h; exact h
  · rw [if_neg ((i_nlt _ _).mpr e), if_pos ((i_nle _ _).mp e2)] at h; exact h
  · rw [if_pos ((i_nle _ _).mp e)] at h; exact h
theorem mWithin {x lo hi : Int32} {k : GM} {Q : Int32 → GM → Prop} (h : Q (bounI x lo hi) k) : wM_within x lo hi k Q := by
  unfold bounI at h
  unfold wM_within
  refine ⟨fun e => ⟨fun e2 => ?_, fun e2 => ?_⟩, fun e => ?_⟩
  · rw [if_neg ((i_nlt _ _).mpr e), if_neg ((i_nlt _ _).mpr e2)] at h; exact h
  · rw [if_neg ((i_nlt _ _).mpr e), if_pos ((i_nle _ _).mp e2)] at h; exact h
  · rw [if_pos ((i_nle _ _).mp e)] at h; exact h
/-- branches on a found truth -/
theorem br1 {c A B : Prop} (h : c) (a : A) : (¬ c → B) ∧ (c → A) := ⟨fun z => absurd h z, fun _ => a⟩
theorem br0 {c A B : Prop} (h : ¬ c) (b : B) : (¬ c → B) ∧ (c → A) := ⟨fun _ => b, fun z => absurd z h⟩
theorem n10 : ¬ (1 : Int32) = 0 := by decide
/-- frames: what may have changed -/
def FrC (S A : Nat → Nat → Bool) (k k' : KC) : Prop := (∀ x y, S x y = false → k'.1 x y = k.1 x y) ∧ (∀ x y, A x y = false → k'.2.1 x y = k.2.1 x y) ∧ k'.2.2 = k.2.2
theorem FrC.rf {S A : Nat → Nat → Bool} {k : KC} : FrC S A k k := ⟨fun _ _ _ => rfl, fun _ _ _ => rfl, rfl⟩
theorem FrC.tr {S A : Nat → Nat → Bool} {k k' k'' : KC} (h : FrC S A k k') (h2 : FrC S A k' k'') : FrC S A k k'' := ⟨fun x y e => (h2.1 x y e).trans (h.1 x y e), fun x y e => (h2.2.1 x y e).trans (h.2.1 x y e), h2.2.2.trans h.2.2⟩
theorem FrC.mono {S A S' A' : Nat → Nat → Bool} {k k' : KC} (h : FrC S A k k') (hS : ∀ x y, S' x y = false → S x y = false) (hA : ∀ x y, A' x y = false → A x y = false) : FrC S' A' k k' := ⟨fun x y e => h.1 x y (hS x y e), fun x y e => h.2.1 x y (hA x y e), h.2.2⟩
theorem FrC.i_ {S A : Nat → Nat → Bool} {k k' : KC} {i j : Nat} {v : Int32} (h : FrC S A k k') (hs : S i j = true) : FrC S A k (cI k' i j v) := by
  refine ⟨fun x y e => ?_, h.2.1, h.2.2⟩
  show (bif Nat.beq x i && Nat.beq y j then v else k'.1 x y) = k.1 x y
  cases hb : (Nat.beq x i && Nat.beq y j) with
  | false => exact h.1 x y e
  | true =>
    have h1 : x = i := Nat.eq_of_beq_eq_true (Bool.and_eq_true_iff.mp hb).1
    have h2 : y = j := Nat.eq_of_beq_eq_true (Bool.and_eq_true_iff.mp hb).2
    rw [h1, h2, hs] at e
    exact absurd e (by decide)
theorem FrC.a_ {S A : Nat → Nat → Bool} {k k' : KC} {i j : Nat} {f : Nat → Int32} (h : FrC S A k k') (hs : A i j = true) : FrC S A k (cA k' i j f) := by
  refine ⟨h.1, fun x y e => ?_, h.2.2⟩
  show (bif Nat.beq x i && Nat.beq y j then f else k'.2.1 x y) = k.2.1 x y
  cases hb : (Nat.beq x i && Nat.beq y j) with
  | false => exact h.2.1 x y e
  | true =>
    have h1 : x = i := Nat.eq_of_beq_eq_true (Bool.and_eq_true_iff.mp hb).1
    have h2 : y = j := Nat.eq_of_beq_eq_true (Bool.and_eq_true_iff.mp hb).2
    rw [h1, h2, hs] at e
    exact absurd e (by decide)
def FrG (S : Nat → Bool) (g g' : GM) : Prop := (∀ j, S j = false → g'.1 j = g.1 j) ∧ g'.2.1 = g.2.1
theorem FrG.rf {S : Nat → Bool} {g : GM} : FrG S g g := ⟨fun _ _ => rfl, rfl⟩
theorem FrG.tr {S : Nat → Bool} {g g' g'' : GM} (h : FrG S g g') (h2 : FrG S g' g'') : FrG S g g'' := ⟨fun j e => (h2.1 j e).trans (h.1 j e), h2.2.trans h.2⟩
theorem FrG.mono {S S' : Nat → Bool} {g g' : GM} (h : FrG S g g') (hS : ∀ j, S' j = false → S j = false) : FrG S' g g' := ⟨fun j e => h.1 j (hS j e), h.2⟩
theorem FrG.i_ {S : Nat → Bool} {g g' : GM} {j : Nat} {v : Int32} (h : FrG S g g') (hs : S j = true) : FrG S g (sI g' j v) := by
  refine ⟨fun i e => ?_, h.2⟩
  show (bif Nat.beq i j then v else g'.1 i) = g.1 i
  cases hb : Nat.beq i j with
  | false => exact h.1 i e
  | true =>
    rw [Nat.eq_of_beq_eq_true hb, hs] at e
    exact absurd e (by decide)
theorem FrG.l_ {S : Nat → Bool} {g g' : GM} {v : Int64} (h : FrG S g g') : FrG S g (sL g' v) := h
def bor (j a : Nat) (b : Bool) : Bool := Nat.beq j a || b
/-- what reading a token, a TEXT, a rule writes in the reference -/
def sNx (j : Nat) : Bool := bor j 19 (bor j 20 (bor j 22 false))
def sPar (j : Nat) : Bool := bor j 19 (bor j 20 (bor j 22 (bor j 23 (bor j 24 (bor j 25 false)))))
def sRd (j : Nat) : Bool := bor j 17 (bor j 18 (bor j 26 (bor j 27 (bor j 28 (bor j 29 (sPar j))))))
theorem bor_f {j a : Nat} {b : Bool} (h : bor j a b = false) : Nat.beq j a = false ∧ b = false := Bool.or_eq_false_iff.mp h
theorem bor_i {j a : Nat} {b : Bool} (h : Nat.beq j a = false) (h2 : b = false) : bor j a b = false := Bool.or_eq_false_iff.mpr ⟨h, h2⟩
theorem sNx_Par {j : Nat} (h : sPar j = false) : sNx j = false := by
  obtain ⟨h1, h⟩ := bor_f h
  obtain ⟨h2, h⟩ := bor_f h
  obtain ⟨h3, h⟩ := bor_f h
  exact bor_i h1 (bor_i h2 (bor_i h3 rfl))
theorem sPar_Rd {j : Nat} (h : sRd j = false) : sPar j = false := (bor_f (bor_f (bor_f (bor_f (bor_f (bor_f h).2).2).2).2).2).2
theorem FrG.par {g g' : GM} (h : FrG sNx g g') : FrG sPar g g' := h.mono (fun _ => sNx_Par)
theorem FrG.rd {g g' : GM} (h : FrG sPar g g') : FrG sRd g g' := h.mono (fun _ => sPar_Rd)
/-- what reading writes in the class: object 6 -/
def sTok (x y : Nat) : Bool := Nat.beq x 6 && bor y 1 (bor y 2 (bor y 3 (bor y 4 false)))
def aNo (_ _ : Nat) : Bool := false
def oSix (x _ : Nat) : Bool := Nat.beq x 6
theorem sTok_Six {x y : Nat} (h : oSix x y = false) : sTok x y = false := by
  unfold sTok
  have h1 : Nat.beq x 6 = false := h
  rw [h1]; rfl
theorem FrC.six {k k' : KC} (h : FrC sTok aNo k k') : FrC oSix oSix k k' := h.mono (fun _ _ => sTok_Six) (fun _ _ _ => rfl)
/-! the first place from one on where something does not hold -/
def skp (p : Nat → Bool) : Nat → Nat → Nat
  | 0, i => i
  | n + 1, i => if p i = true then skp p n (i + 1) else i
theorem skp_ge (p : Nat → Bool) : ∀ n i, i ≤ skp p n i
  | 0, i => Nat.le_refl i
  | n + 1, i => by
    show i ≤ if p i = true then skp p n (i + 1) else i
    by_cases h : p i = true
    · rw [if_pos h]; exact Nat.le_trans (Nat.le_succ i) (skp_ge p n (i + 1))
    · rw [if_neg h]; exact Nat.le_refl i
theorem skp_in (p : Nat → Bool) : ∀ n i j, i ≤ j → j < skp p n i → p j = true
  | 0, i, j, h1, h2 => absurd h2 (Nat.not_lt.mpr h1)
  | n + 1, i, j, h1, h2 => by
    replace h2 : j < if p i = true then skp p n (i + 1) else i := h2
    by_cases h : p i = true
    · rw [if_pos h] at h2
      rcases Nat.lt_or_ge i j with h3 | h3
      · exact skp_in p n (i + 1) j h3 h2
      · rw [Nat.le_antisymm h3 h1]; exact h
    · rw [if_neg h] at h2; exact absurd h2 (Nat.not_lt.mpr h1)
theorem skp_stop (p : Nat → Bool) (N : Nat) (hp : ∀ j, N ≤ j → p j = false) : ∀ n i, N ≤ i + n → p (skp p n i) = false
  | 0, i, h => hp i h
  | n + 1, i, h => by
    show p (if p i = true then skp p n (i + 1) else i) = false
    by_cases e : p i = true
    · rw [if_pos e]; exact skp_stop p N hp n (i + 1) (by omega)
    · rw [if_neg e]; exact Bool.eq_false_iff.mpr e
theorem skp_top (p : Nat → Bool) (N : Nat) (hp : ∀ j, N ≤ j → p j = false) : ∀ n i, i ≤ N → skp p n i ≤ N
  | 0, _, h => h
  | n + 1, i, h => by
    show (if p i = true then skp p n (i + 1) else i) ≤ N
    by_cases e : p i = true
    · rw [if_pos e]
      refine skp_top p N hp n (i + 1) ?_
      rcases Nat.lt_or_ge i N with h2 | h2
      · exact h2
      · rw [hp i h2] at e; exact absurd e (by decide)
    · rw [if_neg e]; exact h
theorem skp_fuel (p : Nat → Bool) (N : Nat) (hp : ∀ j, N ≤ j → p j = false) : ∀ n m i, N ≤ i + n → N ≤ i + m → skp p n i = skp p m i
  | 0, 0, _, _, _ => rfl
  | 0, m + 1, i, h, _ => by
    show i = if p i = true then skp p m (i + 1) else i
    rw [hp i (by omega), if_neg (by decide)]
  | n + 1, 0, i, _, h => by
    show (if p i = true then skp p n (i + 1) else i) = i
    rw [hp i (by omega), if_neg (by decide)]
  | n + 1, m + 1, i, h1, h2 => by
    show (if p i = true then skp p n (i + 1) else i) = if p i = true then skp p m (i + 1) else i
    by_cases e : p i = true
    · rw [if_pos e, if_pos e]; exact skp_fuel p N hp n m (i + 1) (by omega) (by omega)
    · rw [if_neg e, if_neg e]
theorem skp_step (p : Nat → Bool) (N : Nat) (hp : ∀ j, N ≤ j → p j = false) {i : Nat} (e : p i = true) : skp p N i = skp p N (i + 1) := by
  cases N with
  | zero => rw [hp i (Nat.zero_le i)] at e; exact absurd e (by decide)
  | succ N =>
    show (if p i = true then skp p N (i + 1) else i) = skp p (N + 1) (i + 1)
    rw [if_pos e]
    exact skp_fuel p (N + 1) hp N (N + 1) (i + 1) (by omega) (by omega)
theorem skp_halt (p : Nat → Bool) (n : Nat) {i : Nat} (e : p i = false) : skp p n i = i := by
  cases n with
  | zero => rfl
  | succ n =>
    show (if p i = true then skp p n (i + 1) else i) = i
    rw [e, if_neg (by decide)]
/-- loops with a counter that is an int -/
theorem nI_m {a b : Nat} : nI (a * b) = nI a * nI b := (pk_mul a b).symm
theorem fa_nI (n : Nat) : (OfNat.ofNat n : Int32) = nI n := rfl
theorem fa_lN (n : Nat) : (OfNat.ofNat n : Int64) = lN n := rfl
