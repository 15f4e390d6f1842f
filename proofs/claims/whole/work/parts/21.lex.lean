/-! ===== tokens: bytes B of a tape of N, and how each side reads one ===== -/
def BN (B : Nat → Nat) (N : Nat) : Prop := (∀ i, B i < 256) ∧ N ≤ 160
def bI (B : Nat → Nat) (N i : Nat) : Int32 := if i < N then nI (B i) else -1
theorem bI_in {B : Nat → Nat} {N i : Nat} (h : i < N) : bI B N i = nI (B i) := if_pos h
theorem bI_out {B : Nat → Nat} {N i : Nat} (h : ¬ i < N) : bI B N i = -1 := if_neg h
theorem bI_eq {B : Nat → Nat} {N i c : Nat} (hb : BN B N) (hc : c < 256) : bI B N i = nI c ↔ i < N ∧ B i = c := by
  have h1 := hb.1 i
  by_cases h : i < N
  · rw [bI_in h, nI_eq (by omega) (by omega)]
    exact ⟨fun e => ⟨h, e⟩, fun e => e.2⟩
  · rw [bI_out h]
    refine ⟨fun e => ?_, fun e => absurd e.1 h⟩
    have e2 := congrArg Int32.toInt e
    rw [nI_toInt (by omega)] at e2
    have e3 : (-1 : Int32).toInt = -1 := by decide
    omega
theorem bI_m1 {B : Nat → Nat} {N i : Nat} (hb : BN B N) : bI B N i = -1 ↔ ¬ i < N := by
  have h1 := hb.1 i
  by_cases h : i < N
  · rw [bI_in h]
    refine ⟨fun e => ?_, fun e => absurd h e⟩
    have e2 := congrArg Int32.toInt e
    rw [nI_toInt (by omega)] at e2
    have e3 : (-1 : Int32).toInt = -1 := by decide
    omega
  · rw [bI_out h]
    exact ⟨fun _ => h, fun _ => rfl⟩
theorem bI_ge {B : Nat → Nat} {N i : Nat} (hb : BN B N) : 0 ≤ bI B N i ↔ i < N := by
  have h1 := hb.1 i
  by_cases h : i < N
  · rw [bI_in h]
    exact ⟨fun _ => h, fun _ => nI_pos' (by omega)⟩
  · rw [bI_out h]
    exact ⟨fun e => absurd e (by decide), fun e => absurd e h⟩
def pBl (B : Nat → Nat) (N i : Nat) : Bool := decide (i < N) && (Nat.beq (B i) 32 || Nat.beq (B i) 10)
def pRg (lo hi : Nat) (B : Nat → Nat) (N i : Nat) : Bool := decide (i < N) && (decide (lo ≤ B i) && decide (B i ≤ hi))
theorem pBl_N {B : Nat → Nat} {N : Nat} : ∀ j, N ≤ j → pBl B N j = false := fun j h => by
  unfold pBl
  rw [decide_eq_false (Nat.not_lt.mpr h)]; rfl
theorem pRg_N {lo hi : Nat} {B : Nat → Nat} {N : Nat} : ∀ j, N ≤ j → pRg lo hi B N j = false := fun j h => by
  unfold pRg
  rw [decide_eq_false (Nat.not_lt.mpr h)]; rfl
theorem pRg_t {lo hi : Nat} {B : Nat → Nat} {N i : Nat} : pRg lo hi B N i = true ↔ i < N ∧ lo ≤ B i ∧ B i ≤ hi := by
  unfold pRg
  simp only [Bool.and_eq_true, decide_eq_true_iff]
theorem pBl_t {B : Nat → Nat} {N i : Nat} : pBl B N i = true ↔ i < N ∧ (B i = 32 ∨ B i = 10) := by
  unfold pBl
  simp only [Bool.and_eq_true, decide_eq_true_iff, Bool.or_eq_true, Nat.beq_eq]
theorem ini_bI {B : Nat → Nat} {N i lo hi : Nat} (hb : BN B N) (hlo : lo < 256) (hhi : hi < 256) : ini (bI B N i) (nI lo) (nI hi) = if pRg lo hi B N i = true then 1 else 0 := by
  have h1 := hb.1 i
  by_cases h : i < N
  · rw [bI_in h, ini_nI (by omega) (by omega) (by omega)]
    by_cases h2 : lo ≤ B i ∧ B i ≤ hi
    · rw [if_pos h2, if_pos (pRg_t.mpr ⟨h, h2⟩)]
    · rw [if_neg h2, if_neg (fun e => h2 (pRg_t.mp e).2)]
  · rw [bI_out h, if_neg (fun e => h (pRg_t.mp e).1)]
    have e3 : (-1 : Int32).toInt = -1 := by decide
    exact ini_0 (by rw [e3, nI_toInt (by omega)]; omega)
/-- where a token begins, how far its letters or digits go, what it is -/
def lxS (B : Nat → Nat) (N i : Nat) : Nat := skp (pBl B N) N i
def lxW (B : Nat → Nat) (N s : Nat) : Nat := skp (pRg 97 122 B N) N s
def lxD (B : Nat → Nat) (N s : Nat) : Nat := skp (pRg 48 57 B N) N s
def isSg (c : Nat) : Bool := bor c 40 (bor c 41 (bor c 59 (bor c 43 (bor c 45 (bor c 42 (bor c 60 (bor c 61 false)))))))
def lxT (B : Nat → Nat) (N s : Nat) : Nat := if N ≤ s then 0 else if pRg 97 122 B N s = true then 1 else if pRg 48 57 B N s = true then (if lxD B N s ≤ s + 4 then 2 else 4) else if isSg (B s) = true then 3 else 4
def lxE (B : Nat → Nat) (N s : Nat) : Nat := if N ≤ s then s else if pRg 97 122 B N s = true then lxW B N s else if pRg 48 57 B N s = true then lxD B N s else s + 1
/-- the worth of n letters, of n digits -/
def vLt (B : Nat → Nat) (s : Nat) : Nat → Nat
  | 0 => 0
  | n + 1 => 27 * vLt B s n + (B (s + n) - 96)
def vDg (B : Nat → Nat) (s : Nat) : Nat → Nat
  | 0 => 0
  | n + 1 => 10 * vDg B s n + (B (s + n) - 48)
theorem lxS_ge {B : Nat → Nat} {N i : Nat} : i ≤ lxS B N i := skp_ge _ _ _
theorem lxS_le {B : Nat → Nat} {N i : Nat} (h : i ≤ N) : lxS B N i ≤ N := skp_top _ N pBl_N _ _ h
theorem lxW_ge {B : Nat → Nat} {N i : Nat} : i ≤ lxW B N i := skp_ge _ _ _
theorem lxW_le {B : Nat → Nat} {N i : Nat} (h : i ≤ N) : lxW B N i ≤ N := skp_top _ N pRg_N _ _ h
theorem lxD_ge {B : Nat → Nat} {N i : Nat} : i ≤ lxD B N i := skp_ge _ _ _
theorem lxD_le {B : Nat → Nat} {N i : Nat} (h : i ≤ N) : lxD B N i ≤ N := skp_top _ N pRg_N _ _ h
theorem lxE_le {B : Nat → Nat} {N s : Nat} (h : s ≤ N) : lxE B N s ≤ N := by
  unfold lxE
  by_cases h1 : N ≤ s
  · rw [if_pos h1]; exact h
  · rw [if_neg h1]
    by_cases h2 : pRg 97 122 B N s = true
    · rw [if_pos h2]; exact lxW_le h
    · rw [if_neg h2]
      by_cases h3 : pRg 48 57 B N s = true
      · rw [if_pos h3]; exact lxD_le h
      · rw [if_neg h3]; omega
theorem lxE_gt {B : Nat → Nat} {N s : Nat} (h : lxT B N s ≠ 0) : s + 1 ≤ lxE B N s := by
  unfold lxT at h
  unfold lxE
  by_cases h1 : N ≤ s
  · rw [if_pos h1] at h; exact absurd rfl h
  · rw [if_neg h1]
    by_cases h2 : pRg 97 122 B N s = true
    · rw [if_pos h2]
      unfold lxW
      rw [skp_step _ N pRg_N h2]; exact skp_ge _ _ _
    · rw [if_neg h2]
      by_cases h3 : pRg 48 57 B N s = true
      · rw [if_pos h3]
        unfold lxD
        rw [skp_step _ N pRg_N h3]; exact skp_ge _ _ _
      · rw [if_neg h3]; exact Nat.le_refl _
theorem lxT_0 {B : Nat → Nat} {N s : Nat} (h : N ≤ s) : lxT B N s = 0 ∧ lxE B N s = s := by
  unfold lxT lxE
  rw [if_pos h, if_pos h]; exact ⟨rfl, rfl⟩
theorem lxT_1 {B : Nat → Nat} {N s : Nat} (h : pRg 97 122 B N s = true) : lxT B N s = 1 ∧ lxE B N s = lxW B N s := by
  have h1 := (pRg_t.mp h).1
  unfold lxT lxE
  have hn : ¬ N ≤ s := by omega
  simp only [if_neg hn, if_pos h, and_self]
theorem lxT_2 {B : Nat → Nat} {N s : Nat} (h : pRg 48 57 B N s = true) : lxT B N s = (if lxD B N s ≤ s + 4 then 2 else 4) ∧ lxE B N s = lxD B N s := by
  have h1 := pRg_t.mp h
  have h2 : ¬ pRg 97 122 B N s = true := fun e => by have := pRg_t.mp e; omega
  unfold lxT lxE
  have hn : ¬ N ≤ s := by omega
  simp only [if_neg hn, if_neg h2, if_pos h, and_self]
theorem lxT_3 {B : Nat → Nat} {N s : Nat} (h : s < N) (h1 : ¬ pRg 97 122 B N s = true) (h2 : ¬ pRg 48 57 B N s = true) : lxT B N s = (if isSg (B s) = true then 3 else 4) ∧ lxE B N s = s + 1 := by
  unfold lxT lxE
  have hn : ¬ N ≤ s := by omega
  simp only [if_neg hn, if_neg h1, if_neg h2, and_self]
theorem vLt_lt {B : Nat → Nat} {s : Nat} (hB : ∀ j, B j < 256) : ∀ n, (∀ j, j < n → B (s + j) ≤ 122) → n ≤ 8 → vLt B s n < 27 ^ n
  | 0, _, _ => Nat.zero_lt_one
  | n + 1, h, hn => by
    have ih := vLt_lt hB n (fun j hj => h j (by omega)) (by omega)
    have h1 := h n (by omega)
    show 27 * vLt B s n + (B (s + n) - 96) < 27 ^ (n + 1)
    rw [Nat.pow_succ]
    omega
theorem vDg_lt {B : Nat → Nat} {s : Nat} : ∀ n, (∀ j, j < n → B (s + j) ≤ 57) → vDg B s n < 10 ^ n
  | 0, _ => Nat.zero_lt_one
  | n + 1, h => by
    have ih := vDg_lt n (fun j hj => h j (by omega))
    have h1 := h n (by omega)
    show 10 * vDg B s n + (B (s + n) - 48) < 10 ^ (n + 1)
    rw [Nat.pow_succ]
    omega
/-! ## the reference's token -/
def PM (B : Nat → Nat) (N F : Nat) (g : GM) : Prop := g.1 17 = nI F ∧ g.1 18 = nI N ∧ F + 160 ≤ 960 ∧ ∀ i, i < N → g.2.1 1 (F + i) = nI (B i)
theorem PM.fr {B : Nat → Nat} {N F : Nat} {g g' : GM} (h : PM B N F g) (f : FrG sPar g g') : PM B N F g' :=
  ⟨(f.1 17 rfl).trans h.1, (f.1 18 rfl).trans h.2.1, h.2.2.1, fun i hi => by rw [f.2]; exact h.2.2.2 i hi⟩
section MLex
variable {B : Nat → Nat} {N F : Nat}
theorem mByte {g : GM} {Q : Int32 → GM → Prop} {x : Int32} (hb : BN B N) (h : PM B N F g) (i : Nat) (hx : x = nI i) (hi : i ≤ 400) (q : Q (bI B N i) g) : wM_byteAt x g Q := by
  subst hx
  have hN := hb.2
  have hF := h.2.2.1
  unfold wM_byteAt
  rw [h.2.1, h.1, nI_leI (by omega) (by omega), nI_add]
  by_cases hlt : i < N
  · refine br_f (by omega) ⟨vp_in_nI (by omega) (by omega), ?_⟩
    rw [nI_clamp (by omega), h.2.2.2 i hlt]
    rw [bI_in hlt] at q; exact q
  · refine br_t (by omega) ?_
    rw [bI_out hlt] at q; exact q
def lLt (B : Nat → Nat) (s n : Nat) : Int64 := if n ≤ 8 then lN (vLt B s n) else -1
theorem mNextW (hb : BN B N) {Q : GM → Prop} {s : Nat} (hs : s ≤ N) : ∀ (m n : Nat) (g : GM), PM B N F g → g.1 22 = nI (s + n) → s + n ≤ lxW B N s → lxW B N s - (s + n) = m → g.2.2 = lLt B s n →
    (∀ g', FrG sNx g g' → g'.1 19 = g.1 19 → g'.1 20 = g.1 20 → g'.1 22 = nI (lxW B N s) → g'.2.2 = lLt B s (lxW B N s - s) → Q g') → wM_next (m + 1) 2 (nI n) g Q := by
  have hW := lxW_le (B := B) hs
  have hN := hb.2
  intro m
  induction m with
  | zero =>
    intro n g hp h22 hle hm hl q
    have e : s + n = lxW B N s := by omega
    rw [wM_next]
    refine mByte hb hp (s + n) h22 (by omega) ?_
    have hf : pRg 97 122 B N (s + n) = false := by rw [e]; exact skp_stop _ N pRg_N N s (by omega)
    refine mIn (lo := 97) (hi := 122) rfl rfl ?_
    have e1 : ini (bI B N (s + n)) 97 122 = 0 := by
      have := ini_bI (B := B) (N := N) (i := s + n) (lo := 97) (hi := 122) hb (by decide) (by decide)
      rw [hf, if_neg (by decide)] at this; exact this
    rw [e1]
    refine br_t rfl ?_
    refine q g FrG.rf rfl rfl (by rw [h22, e]) ?_
    rw [hl]
    congr 1
    omega
  | succ m ih =>
    intro n g hp h22 hle hm hl q
    have hlt : s + n < lxW B N s := by omega
    have ht : pRg 97 122 B N (s + n) = true := skp_in _ N s (s + n) (by omega) hlt
    have ht2 := pRg_t.mp ht
    have e1 : ini (bI B N (s + n)) 97 122 = 1 := by
      have := ini_bI (B := B) (N := N) (i := s + n) (lo := 97) (hi := 122) hb (by decide) (by decide)
      rw [ht, if_pos rfl] at this; exact this
    rw [wM_next]
    refine mByte hb hp (s + n) h22 (by omega) (mIn (lo := 97) (hi := 122) rfl rfl ?_)
    rw [e1]
    refine br_f n10 ?_
    have hn8 : ((8 : Int32) ≤ nI n) ↔ 8 ≤ n := nI_leI (a := 8) (by decide) (by omega)
    rw [hn8]
    have hinc : nI n + 1 = nI (n + 1) := nI_1 n
    refine br_c (fun h8 => ?_) (fun h8 => ?_)
    · rw [hinc]
      refine ih (n + 1) _ (hp.fr (FrG.par ((FrG.rf.l_).i_ rfl))) ?_ (by omega) (by omega) ?_ ?_
      · show g.1 22 + 1 = _
        rw [h22, nI_1]; rfl
      · show (-1 : Int64) = _
        unfold lLt
        rw [if_neg (by omega)]
      · intro g' f h19 h20 h22' hl'
        exact q g' (FrG.tr ((FrG.rf.l_).i_ rfl) f) h19 h20 h22' hl'
    · refine mByte hb hp (s + n) h22 (by omega) ?_
      rw [hinc]
      refine ih (n + 1) _ (hp.fr (FrG.par ((FrG.rf.l_).i_ rfl))) ?_ (by omega) (by omega) ?_ ?_
      · show g.1 22 + 1 = _
        rw [h22, nI_1]; rfl
      · show ((27 : Int64) * g.2.2 + (bI B N (s + n)).toInt64) - (96 : Int64) = _
        rw [hl]
        unfold lLt
        rw [if_pos (by omega), if_pos (by omega), bI_in ht2.1, nI_l (by omega)]
        show lN 27 * lN (vLt B s n) + lN (B (s + n)) - lN 96 = lN (27 * vLt B s n + (B (s + n) - 96))
        rw [lN_mul, lN_add, lN_sub (by omega)]
        congr 1
        omega
      · intro g' f h19 h20 h22' hl'
        exact q g' (FrG.tr ((FrG.rf.l_).i_ rfl) f) h19 h20 h22' hl'
theorem mNextD (hb : BN B N) {Q : GM → Prop} {s : Nat} (hs : s ≤ N) : ∀ (m n : Nat) (g : GM), PM B N F g → g.1 22 = nI (s + n) → s + n ≤ lxD B N s → lxD B N s - (s + n) = m → g.2.2 = lN (vDg B s (if n ≤ 4 then n else 4)) →
    (∀ g', FrG sNx g g' → g'.1 19 = nI (if lxD B N s ≤ s + 4 then 2 else 4) → g'.1 20 = g.1 20 → g'.1 22 = nI (lxD B N s) → (lxD B N s ≤ s + 4 → g'.2.2 = lN (vDg B s (lxD B N s - s))) → Q g') → wM_next (m + 1) 3 (nI n) g Q := by
  have hW := lxD_le (B := B) hs
  have hN := hb.2
  intro m
  induction m with
  | zero =>
    intro n g hp h22 hle hm hl q
    have e : s + n = lxD B N s := by omega
    rw [wM_next]
    any_goals (intro h9; exact absurd h9 (by decide))
    refine mByte hb hp (s + n) h22 (by omega) ?_
    have hf : pRg 48 57 B N (s + n) = false := by rw [e]; exact skp_stop _ N pRg_N N s (by omega)
    refine mIn (lo := 48) (hi := 57) rfl rfl ?_
    have e1 : ini (bI B N (s + n)) 48 57 = 0 := by
      have := ini_bI (B := B) (N := N) (i := s + n) (lo := 48) (hi := 57) hb (by decide) (by decide)
      rw [hf, if_neg (by decide)] at this; exact this
    rw [e1]
    refine br_t rfl ?_
    have hn4 : (nI n ≤ (4 : Int32)) ↔ n ≤ 4 := nI_leI (b := 4) (by omega) (by decide)
    rw [hn4]
    refine br_c (fun h4 => ?_) (fun h4 => ?_)
    · refine q _ (FrG.rf.i_ rfl) ?_ rfl ?_ ?_
      · show (2 : Int32) = _
        rw [if_pos (by omega)]; rfl
      · show g.1 22 = _
        rw [h22, e]
      · intro _
        show g.2.2 = _
        rw [hl, if_pos h4]
        congr 2
        omega
    · refine q _ (FrG.rf.i_ rfl) ?_ rfl ?_ ?_
      · show (4 : Int32) = _
        rw [if_neg (by omega)]; rfl
      · show g.1 22 = _
        rw [h22, e]
      · intro h; omega
  | succ m ih =>
    intro n g hp h22 hle hm hl q
    have hlt : s + n < lxD B N s := by omega
    have ht : pRg 48 57 B N (s + n) = true := skp_in _ N s (s + n) (by omega) hlt
    have ht2 := pRg_t.mp ht
    have e1 : ini (bI B N (s + n)) 48 57 = 1 := by
      have := ini_bI (B := B) (N := N) (i := s + n) (lo := 48) (hi := 57) hb (by decide) (by decide)
      rw [ht, if_pos rfl] at this; exact this
    rw [wM_next]
    any_goals (intro h9; exact absurd h9 (by decide))
    refine mByte hb hp (s + n) h22 (by omega) (mIn (lo := 48) (hi := 57) rfl rfl ?_)
    rw [e1]
    refine br_f n10 ?_
    have hn4 : ((4 : Int32) ≤ nI n) ↔ 4 ≤ n := nI_leI (a := 4) (by decide) (by omega)
    rw [hn4]
    have hinc : nI n + 1 = nI (n + 1) := nI_1 n
    refine br_c (fun h4 => ?_) (fun h4 => ?_)
    · rw [hinc]
      refine ih (n + 1) _ (hp.fr (FrG.par ((FrG.rf.l_).i_ rfl))) ?_ (by omega) (by omega) ?_ ?_
      · show g.1 22 + 1 = _
        rw [h22, nI_1]; rfl
      · show g.2.2 = _
        have e4 : (if n ≤ 4 then n else 4) = 4 := by split <;> omega
        have e5 : (if n + 1 ≤ 4 then n + 1 else 4) = 4 := if_neg (by omega)
        rw [hl, e4, e5]
      · intro g' f h19 h20 h22' hl'
        exact q g' (FrG.tr ((FrG.rf.l_).i_ rfl) f) h19 h20 h22' hl'
    · refine mByte hb hp (s + n) h22 (by omega) ?_
      rw [hinc]
      refine ih (n + 1) _ (hp.fr (FrG.par ((FrG.rf.l_).i_ rfl))) ?_ (by omega) (by omega) ?_ ?_
      · show g.1 22 + 1 = _
        rw [h22, nI_1]; rfl
      · show ((10 : Int64) * g.2.2 + (bI B N (s + n)).toInt64) - (48 : Int64) = _
        rw [hl, if_pos (by omega), if_pos (by omega), bI_in ht2.1, nI_l (by have := hb.1 (s + n); omega)]
        show lN 10 * lN (vDg B s n) + lN (B (s + n)) - lN 48 = lN (10 * vDg B s n + (B (s + n) - 48))
        rw [lN_mul, lN_add, lN_sub (by omega)]
        congr 1
        omega
      · intro g' f h19 h20 h22' hl'
        exact q g' (FrG.tr ((FrG.rf.l_).i_ rfl) f) h19 h20 h22' hl'
/-- the token that the reference holds -/
def MT (B : Nat → Nat) (N s : Nat) (g : GM) : Prop := g.1 19 = nI (lxT B N s) ∧ g.1 20 = nI s ∧ (lxT B N s ≠ 4 → g.1 22 = nI (lxE B N s)) ∧ (lxT B N s = 1 → g.2.2 = lLt B s (lxW B N s - s)) ∧ (lxT B N s = 2 → g.2.2 = lN (vDg B s (lxD B N s - s))) ∧ (lxT B N s = 3 → g.2.2 = lN (B s))
theorem mSg {g : GM} {Q : GM → Prop} {s : Nat} (hb : BN B N) (h : s < N) (h1 : ¬ pRg 97 122 B N s = true) (h2 : ¬ pRg 48 57 B N s = true) (g0 : GM) (f0 : FrG sNx g0 g) (h19 : g.1 19 = 4) (h20 : g.1 20 = nI s) (h22 : g.1 22 = nI s)
    (q : ∀ g', FrG sNx g0 g' → MT B N s g' → Q g') (c : Nat) (hc : isSg c = true) (A : Prop) (kA : B s ≠ c → A) : (bI B N s = nI c → Q (sI (sL (sI g 19 (3 : Int32)) (bI B N s).toInt64) 22 (g.1 22 + 1))) ∧ (¬ bI B N s = nI c → A) := by
  have hc2 : c < 256 := by
    rcases Nat.lt_or_ge c 256 with z | z
    · exact z
    · have : isSg c = false := by
        unfold isSg
        refine bor_i ?_ (bor_i ?_ (bor_i ?_ (bor_i ?_ (bor_i ?_ (bor_i ?_ (bor_i ?_ (bor_i ?_ rfl)))))))
        all_goals exact Bool.eq_false_iff.mpr (fun e => by have := Nat.eq_of_beq_eq_true e; omega)
      rw [this] at hc; exact absurd hc (by decide)
  obtain ⟨t1, t2⟩ := lxT_3 h h1 h2
  rw [bI_eq hb hc2]
  refine ⟨fun e => ?_, fun e => kA (fun z => e ⟨h, z⟩)⟩
  have hB := hb.1 s
  rw [e.2, if_pos hc] at t1
  refine q _ (FrG.tr f0 (((FrG.rf.i_ rfl).l_).i_ rfl)) ⟨?_, h20, fun _ => ?_, fun z => ?_, fun z => ?_, fun _ => ?_⟩
  · rw [t1]; rfl
  · rw [t2]
    show g.1 22 + 1 = _
    rw [h22, nI_1]
  · rw [t1] at z; exact absurd z (by decide)
  · rw [t1] at z; exact absurd z (by decide)
  · show (bI B N s).toInt64 = _
    rw [bI_in h, nI_l (by omega)]
theorem mNext1 (hb : BN B N) {Q : GM → Prop} {i0 : Nat} (hi0 : i0 ≤ N) : ∀ (m i : Nat) (g : GM), PM B N F g → g.1 22 = nI i → i ≤ N → lxS B N i = lxS B N i0 → N - i = m →
    (∀ g', FrG sNx g g' → MT B N (lxS B N i0) g' → Q g') → ∃ n, wM_next n 1 0 g Q := by
  have hN := hb.2
  intro m
  induction m with
  | zero =>
    intro i g hp h22 hi hS hm q
    have hiN : i = N := by omega
    have hnl : ¬ i < N := by omega
    have hbl : pBl B N i = false := pBl_N i (by omega)
    have hs : lxS B N i0 = i := by rw [← hS]; exact skp_halt _ _ hbl
    refine ⟨1, ?_⟩
    rw [wM_next]
    refine mByte hb hp i h22 (by omega) ?_
    have e0 : bI B N i = -1 := bI_out hnl
    rw [e0]
    refine br_f (by decide) ?_
    refine mByte hb hp i h22 (by omega) ?_
    rw [e0]
    refine br0 (by decide) ?_
    refine mByte hb (hp.fr (FrG.par (FrG.rf.i_ rfl))) i h22 (by omega) ?_
    rw [e0]
    refine br_f (by decide) ?_
    obtain ⟨t1, t2⟩ := lxT_0 (B := B) (N := N) (s := i) (by omega)
    refine q _ ((((FrG.rf.i_ rfl).i_ rfl).i_ rfl).i_ rfl) ?_
    rw [hs]
    refine ⟨?_, ?_, fun _ => ?_, fun z => ?_, fun z => ?_, fun z => ?_⟩
    · rw [t1]; rfl
    · show g.1 18 = _
      rw [hp.2.1, hiN]
    · rw [t2]; exact h22
    · rw [t1] at z; exact absurd z (by decide)
    · rw [t1] at z; exact absurd z (by decide)
    · rw [t1] at z; exact absurd z (by decide)
  | succ m ih =>
    intro i g hp h22 hi hS hm q
    have hlt : i < N := by omega
    have hBi := hb.1 i
    have e0 : bI B N i = nI (B i) := bI_in hlt
    cases hbl : pBl B N i with
    | true =>
      have hor := (pBl_t.mp hbl).2
      have hst : lxS B N i = lxS B N (i + 1) := skp_step _ N pBl_N hbl
      have hf : FrG sNx g (sI g 22 (g.1 22 + 1)) := FrG.rf.i_ rfl
      obtain ⟨n, hn⟩ := ih (i + 1) (sI g 22 (g.1 22 + 1)) (hp.fr hf.par) (by show g.1 22 + 1 = _; rw [h22, nI_1]) (by omega) (by rw [← hst]; exact hS) (by omega) (fun g' f ht => q g' (hf.tr f) ht)
      refine ⟨n + 1, ?_⟩
      rw [wM_next]
      refine mByte hb hp i h22 (by omega) ?_
      refine br_c (fun _ => hn) (fun h32 => ?_)
      refine mByte hb hp i h22 (by omega) ?_
      refine br1 ?_ hn
      rcases hor with h | h
      · exact absurd (by rw [e0, h]; rfl) h32
      · rw [e0, h]; rfl
    | false =>
      have hs : lxS B N i0 = i := by rw [← hS]; exact skp_halt _ _ hbl
      have hno : ¬ (B i = 32 ∨ B i = 10) := fun z => by rw [pBl_t.mpr ⟨hlt, z⟩] at hbl; exact absurd hbl (by decide)
      have h32 : ¬ bI B N i = (32 : Int32) := fun z => hno (Or.inl ((bI_eq (c := 32) hb (by decide)).mp z).2)
      have h10 : ¬ bI B N i = (10 : Int32) := fun z => hno (Or.inr ((bI_eq (c := 10) hb (by decide)).mp z).2)
      have hW : ini (bI B N i) 97 122 = if pRg 97 122 B N i = true then 1 else 0 := ini_bI (lo := 97) (hi := 122) hb (by decide) (by decide)
      have hD : ini (bI B N i) 48 57 = if pRg 48 57 B N i = true then 1 else 0 := ini_bI (lo := 48) (hi := 57) hb (by decide) (by decide)
      have hf0 : FrG sNx g (sI g 20 (g.1 22)) := FrG.rf.i_ rfl
      have hf1 : FrG sNx g (sI (sI g 20 (g.1 22)) 19 (4 : Int32)) := hf0.i_ rfl
      rw [hs] at q
      have fin : ∀ n, (pRg 97 122 B N i = true → wM_next n 2 (0 : Int32) (sL (sI (sI (sI g 20 (g.1 22)) 19 (4 : Int32)) 19 (1 : Int32)) (0 : Int64)) Q) → (¬ pRg 97 122 B N i = true → pRg 48 57 B N i = true → wM_next n 3 (0 : Int32) (sL (sI (sI (sI g 20 (g.1 22)) 19 (4 : Int32)) 19 (2 : Int32)) (0 : Int64)) Q) → wM_next (n + 1) 1 0 g Q := by
        intro n k2 k3
        rw [wM_next]
        refine mByte hb hp i h22 (by omega) (br_f h32 (mByte hb hp i h22 (by omega) (br0 h10 (mByte hb (hp.fr hf0.par) i h22 (by omega) (br_t ((bI_ge hb).mpr hlt) (mIn (lo := 97) (hi := 122) rfl rfl ?_))))))
        rw [hW]
        by_cases c1 : pRg 97 122 B N i = true
        · rw [if_pos c1]
          exact br_f n10 (k2 c1)
        · rw [if_neg c1]
          refine br_t rfl (mIn (lo := 48) (hi := 57) rfl rfl ?_)
          rw [hD]
          by_cases c2 : pRg 48 57 B N i = true
          · rw [if_pos c2]
            exact br_f n10 (k3 c1 c2)
          · rw [if_neg c2]
            refine br_t rfl ?_
            have st := fun c hc A kA => mSg (g := sI (sI g 20 (g.1 22)) 19 (4 : Int32)) (Q := Q) hb hlt c1 c2 g hf1 rfl h22 h22 q c hc A kA
            refine st 40 rfl _ (fun n1 => st 41 rfl _ (fun n2 => st 59 rfl _ (fun n3 => st 43 rfl _ (fun n4 => st 45 rfl _ (fun n5 => st 42 rfl _ (fun n6 => st 60 rfl _ (fun n7 => ?_)))))))
            have h8 := st 61 rfl (Q (sI (sI g 20 (g.1 22)) 19 (4 : Int32))) (fun n8 => by
              obtain ⟨t1, t2⟩ := lxT_3 hlt c1 c2
              have hno : isSg (B i) = false := by
                unfold isSg
                refine bor_i ?_ (bor_i ?_ (bor_i ?_ (bor_i ?_ (bor_i ?_ (bor_i ?_ (bor_i ?_ (bor_i ?_ rfl)))))))
                all_goals exact Bool.eq_false_iff.mpr (fun e => by have := Nat.eq_of_beq_eq_true e; omega)
              rw [hno, if_neg (by decide)] at t1
              refine q _ hf1 ⟨?_, h22, fun z => absurd t1 z, fun z => ?_, fun z => ?_, fun z => ?_⟩
              · rw [t1]; rfl
              · rw [t1] at z; exact absurd z (by decide)
              · rw [t1] at z; exact absurd z (by decide)
              · rw [t1] at z; exact absurd z (by decide))
            exact ⟨h8.2, h8.1⟩
      by_cases c1 : pRg 97 122 B N i = true
      · obtain ⟨t1, t2⟩ := lxT_1 c1
        have hf2 : FrG sNx g (sL (sI (sI (sI g 20 (g.1 22)) 19 (4 : Int32)) 19 (1 : Int32)) (0 : Int64)) := (hf1.i_ rfl).l_
        have hw := mNextW (F := F) hb (Q := Q) (s := i) (by omega) (lxW B N i - (i + 0)) 0 (sL (sI (sI (sI g 20 (g.1 22)) 19 (4 : Int32)) 19 (1 : Int32)) (0 : Int64)) (hp.fr hf2.par) h22 lxW_ge rfl rfl (fun g' f h19 h20 h22' hl => q g' (hf2.tr f) ⟨by rw [h19, t1]; rfl, by rw [h20]; exact h22, fun _ => by rw [h22', t2], fun _ => hl, fun z => by rw [t1] at z; exact absurd z (by decide), fun z => by rw [t1] at z; exact absurd z (by decide)⟩)
        exact ⟨_, fin _ (fun _ => hw) (fun z => absurd c1 z)⟩
      · by_cases c2 : pRg 48 57 B N i = true
        · obtain ⟨t1, t2⟩ := lxT_2 c2
          have hf2 : FrG sNx g (sL (sI (sI (sI g 20 (g.1 22)) 19 (4 : Int32)) 19 (2 : Int32)) (0 : Int64)) := (hf1.i_ rfl).l_
          have hw := mNextD (F := F) hb (Q := Q) (s := i) (by omega) (lxD B N i - (i + 0)) 0 (sL (sI (sI (sI g 20 (g.1 22)) 19 (4 : Int32)) 19 (2 : Int32)) (0 : Int64)) (hp.fr hf2.par) h22 lxD_ge rfl rfl (fun g' f h19 h20 h22' hl => q g' (hf2.tr f) ⟨by rw [h19, t1], by rw [h20]; exact h22, fun _ => by rw [h22', t2], fun z => by rw [t1] at z; by_cases c4 : lxD B N i ≤ i + 4 <;> simp [c4] at z, fun z => hl (by rw [t1] at z; by_cases c4 : lxD B N i ≤ i + 4; exact c4; simp [c4] at z), fun z => by rw [t1] at z; by_cases c4 : lxD B N i ≤ i + 4 <;> simp [c4] at z⟩)
          exact ⟨_, fin _ (fun z => absurd z c1) (fun _ _ => hw)⟩
        · exact ⟨1, fin 0 (fun z => absurd z c1) (fun _ z => absurd z c2)⟩
theorem mNext {Q : GM → Prop} {i : Nat} {g : GM} (hb : BN B N) (h : PM B N F g) (h22 : g.1 22 = nI i) (hi : i ≤ N) (q : ∀ g', FrG sNx g g' → MT B N (lxS B N i) g' → Q g') : ∃ n, wM_next n 0 0 g Q := by
  obtain ⟨n, hn⟩ := mNext1 hb hi (N - i) i g h h22 hi rfl rfl q
  exact ⟨n + 1, hn⟩
end MLex
