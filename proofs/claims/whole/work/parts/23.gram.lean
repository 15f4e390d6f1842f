/-! ===== words by their worth; states of both readers ===== -/
def cdN (q : Nat) : Nat := [206756339381, 14431, 12532058, 223456, 2968, 10989714, 138767, 118940, 92275, 423, 1111, 10631].getD q 0
theorem cd_eq : ∀ q, q < 12 → vLt (chN q) 0 (lnN q) = cdN q ∧ cdN q < 2 ^ 40 := by decide +kernel
theorem wd_ne : ∀ p, p < 12 → ∀ q, q < 12 → p ≠ q → ¬ (lnN p = lnN q ∧ ∀ j, j < lnN p → chN p j = chN q j) := by decide +kernel
theorem vLt_inj {B C : Nat → Nat} {s t : Nat} : ∀ n m, (∀ j, j < n → 97 ≤ B (s + j) ∧ B (s + j) ≤ 122) → (∀ j, j < m → 97 ≤ C (t + j) ∧ C (t + j) ≤ 122) → vLt B s n = vLt C t m → n = m ∧ ∀ j, j < n → B (s + j) = C (t + j)
  | 0, 0, _, _, _ => ⟨rfl, fun j hj => absurd hj (Nat.not_lt_zero j)⟩
  | 0, m + 1, _, h2, e => by
    have := h2 m (by omega)
    replace e : 0 = 27 * vLt C t m + (C (t + m) - 96) := e
    omega
  | n + 1, 0, h1, _, e => by
    have := h1 n (by omega)
    replace e : 27 * vLt B s n + (B (s + n) - 96) = 0 := e
    omega
  | n + 1, m + 1, h1, h2, e => by
    have a1 := h1 n (by omega)
    have a2 := h2 m (by omega)
    replace e : 27 * vLt B s n + (B (s + n) - 96) = 27 * vLt C t m + (C (t + m) - 96) := e
    have e1 : vLt B s n = vLt C t m := by omega
    have e2 : B (s + n) = C (t + m) := by omega
    obtain ⟨i1, i2⟩ := vLt_inj n m (fun j hj => h1 j (by omega)) (fun j hj => h2 j (by omega)) e1
    subst i1
    exact ⟨rfl, lt_s i2 e2⟩
theorem wIx_iff {B : Nat → Nat} {s n q : Nat} (hq : q < 12) : wIx B s n = q ↔ eqw B s n q = true := by
  have hd : ∀ p, p < 12 → wIx B s n = p → eqw B s n p = true := fun p hp e => by
    have h := skp_stop (pWd B s n) 12 pWd_N 12 0 (by omega)
    have e2 : skp (pWd B s n) 12 0 = p := e
    rw [e2] at h
    unfold pWd at h
    rw [decide_eq_true hp] at h
    cases hh : eqw B s n p with
    | true => rfl
    | false => rw [hh] at h; exact absurd h (by decide)
  refine ⟨hd q hq, fun h => ?_⟩
  have hf : pWd B s n q = false := by
    unfold pWd
    rw [h]; simp
  rcases Nat.lt_or_ge q (wIx B s n) with z | z
  · have := skp_in (pWd B s n) 12 0 q (Nat.zero_le _) z
    rw [hf] at this; exact absurd this (by decide)
  · by_cases he : wIx B s n = q
    · exact he
    · have h2 := eqw_t.mp (hd (wIx B s n) (by omega) rfl)
      have h3 := eqw_t.mp h
      exact absurd ⟨h2.1.symm.trans h3.1, fun j hj => (h2.2 j (by omega)).symm.trans (h3.2 j (by omega))⟩ (wd_ne (wIx B s n) (by omega) q hq he)
theorem lLt_iff {B : Nat → Nat} {N s q : Nat} (hb : BN B N) (hs : s ≤ N) (hq : q < 12) : lLt B s (lxW B N s - s) = lN (cdN q) ↔ wIx B s (lxW B N s - s) = q := by
  rw [wIx_iff hq, eqw_t]
  obtain ⟨c1, c2⟩ := cd_eq q hq
  obtain ⟨_, l8, _⟩ := ln_eq q hq
  have hlet : ∀ j, j < lxW B N s - s → 97 ≤ B (s + j) ∧ B (s + j) ≤ 122 := fun j hj => (pRg_t.mp (skp_in (pRg 97 122 B N) N s (s + j) (by omega) (by have : lxW B N s = skp (pRg 97 122 B N) N s := rfl; omega))).2
  unfold lLt
  by_cases h8 : lxW B N s - s ≤ 8
  · rw [if_pos h8]
    have hlt := vLt_lt (B := B) (s := s) hb.1 _ (fun j hj => (hlet j hj).2) h8
    have hlt2 : (27 : Nat) ^ (lxW B N s - s) ≤ 27 ^ 8 := Nat.pow_le_pow_right (by decide) h8
    have h27 : (27 : Nat) ^ 8 < 2 ^ 62 := by decide
    rw [pk_lEQ (by omega) (by omega), ← c1]
    refine ⟨fun e => ?_, fun e => ?_⟩
    · obtain ⟨i1, i2⟩ := vLt_inj _ _ hlet (fun j hj => by rw [Nat.zero_add]; exact (ch_eq q hq j hj).2.2) e
      exact ⟨i1, fun j hj => by rw [i2 j hj, Nat.zero_add]⟩
    · have hcong : ∀ m, (∀ j, j < m → B (s + j) = chN q j) → vLt B s m = vLt (chN q) 0 m := by
        intro m
        induction m with
        | zero => exact fun _ => rfl
        | succ m ih =>
          intro h
          show 27 * vLt B s m + (B (s + m) - 96) = 27 * vLt (chN q) 0 m + (chN q (0 + m) - 96)
          rw [ih (fun j hj => h j (by omega)), h m (by omega), Nat.zero_add]
      rw [hcong _ e.2, e.1]
  · rw [if_neg h8]
    refine ⟨fun e => ?_, fun e => by omega⟩
    have e2 := congrArg Int64.toInt e
    rw [pk_lT (by omega)] at e2
    have e3 : (-1 : Int64).toInt = -1 := by decide
    omega
theorem tkW_le (q : Nat) : tkW q ≤ 9 ∧ 1 ≤ tkW q := by
  unfold tkW
  split
  · omega
  · split <;> omega
theorem tkW_key {w q : Nat} (h6 : 6 ≤ q) (h12 : q < 12) : tkW w = q - 2 ↔ w = q := by
  unfold tkW
  split
  · omega
  · split <;> omega
theorem tkW_nm {w : Nat} : tkW w = 3 ↔ w < 6 := by
  unfold tkW
  split
  · omega
  · split <;> omega
theorem isSg_ge {c : Nat} (h : isSg c = true) : 40 ≤ c ∧ c < 62 := by
  rcases Nat.lt_or_ge c 40 with z | z
  · exfalso
    have : isSg c = false := by
      unfold isSg
      refine bor_i ?_ (bor_i ?_ (bor_i ?_ (bor_i ?_ (bor_i ?_ (bor_i ?_ (bor_i ?_ (bor_i ?_ rfl)))))))
      all_goals exact Bool.eq_false_iff.mpr (fun e => by have := Nat.eq_of_beq_eq_true e; omega)
    rw [this] at h; exact absurd h (by decide)
  · rcases Nat.lt_or_ge c 62 with y | y
    · exact ⟨z, y⟩
    · exfalso
      have : isSg c = false := by
        unfold isSg
        refine bor_i ?_ (bor_i ?_ (bor_i ?_ (bor_i ?_ (bor_i ?_ (bor_i ?_ (bor_i ?_ (bor_i ?_ rfl)))))))
        all_goals exact Bool.eq_false_iff.mpr (fun e => by have := Nat.eq_of_beq_eq_true e; omega)
      rw [this] at h; exact absurd h (by decide)
theorem lxT_cases {B : Nat → Nat} {N s : Nat} (hs : s ≤ N) : (lxT B N s = 0 ∧ s = N) ∨ (lxT B N s = 1 ∧ s < N) ∨ (lxT B N s = 2 ∧ s < N) ∨ (lxT B N s = 3 ∧ s < N ∧ isSg (B s) = true) ∨ (lxT B N s = 4 ∧ s < N) := by
  by_cases h : N ≤ s
  · exact Or.inl ⟨(lxT_0 h).1, by omega⟩
  · by_cases c1 : pRg 97 122 B N s = true
    · exact Or.inr (Or.inl ⟨(lxT_1 c1).1, by omega⟩)
    · by_cases c2 : pRg 48 57 B N s = true
      · have := (lxT_2 c2).1
        by_cases c4 : lxD B N s ≤ s + 4
        · rw [if_pos c4] at this; exact Or.inr (Or.inr (Or.inl ⟨this, by omega⟩))
        · rw [if_neg c4] at this; exact Or.inr (Or.inr (Or.inr (Or.inr ⟨this, by omega⟩)))
      · have := (lxT_3 (by omega) c1 c2).1
        cases hg : isSg (B s) with
        | true => rw [hg, if_pos rfl] at this; exact Or.inr (Or.inr (Or.inr (Or.inl ⟨this, by omega, rfl⟩)))
        | false => rw [hg, if_neg (by decide)] at this; exact Or.inr (Or.inr (Or.inr (Or.inr ⟨this, by omega⟩)))
/-- what tkN says of the token -/
theorem tk_key {B : Nat → Nat} {N s q : Nat} (hs : s ≤ N) (h6 : 6 ≤ q) (h12 : q < 12) : tkN B N s = q - 2 ↔ lxT B N s = 1 ∧ wIx B s (lxW B N s - s) = q := by
  rcases lxT_cases (B := B) hs with ⟨t, _⟩ | ⟨t, _⟩ | ⟨t, _⟩ | ⟨t, _, g⟩ | ⟨t, _⟩
  · rw [tkN_0 t, t]; omega
  · rw [tkN_1 t, t, tkW_key h6 h12]; exact ⟨fun e => ⟨rfl, e⟩, fun e => e.2⟩
  · rw [tkN_2 t, t]; omega
  · rw [tkN_3 t, t]
    have := isSg_ge g
    omega
  · rw [tkN_4 t, t]; omega
theorem tk_sg {B : Nat → Nat} {N s c : Nat} (hs : s ≤ N) (hc : 40 ≤ c) : tkN B N s = c ↔ lxT B N s = 3 ∧ B s = c := by
  rcases lxT_cases (B := B) hs with ⟨t, _⟩ | ⟨t, _⟩ | ⟨t, _⟩ | ⟨t, _, g⟩ | ⟨t, _⟩
  · rw [tkN_0 t, t]; omega
  · rw [tkN_1 t, t]
    have := tkW_le (wIx B s (lxW B N s - s))
    omega
  · rw [tkN_2 t, t]; omega
  · rw [tkN_3 t, t]; exact ⟨fun e => ⟨rfl, e⟩, fun e => e.2⟩
  · rw [tkN_4 t, t]; omega
theorem tk_num {B : Nat → Nat} {N s : Nat} (hs : s ≤ N) : tkN B N s = 2 ↔ lxT B N s = 2 := by
  rcases lxT_cases (B := B) hs with ⟨t, _⟩ | ⟨t, _⟩ | ⟨t, _⟩ | ⟨t, _, g⟩ | ⟨t, _⟩
  · rw [tkN_0 t, t]; try omega
  · rw [tkN_1 t, t]
    have : tkW (wIx B s (lxW B N s - s)) ≠ 2 := by
      unfold tkW
      split
      · omega
      · split <;> omega
    omega
  · rw [tkN_2 t, t]
  · rw [tkN_3 t, t]
    have := isSg_ge g
    omega
  · rw [tkN_4 t, t]; omega
theorem tk_nam {B : Nat → Nat} {N s : Nat} (hs : s ≤ N) : tkN B N s = 3 ↔ lxT B N s = 1 ∧ wIx B s (lxW B N s - s) < 6 := by
  rcases lxT_cases (B := B) hs with ⟨t, _⟩ | ⟨t, _⟩ | ⟨t, _⟩ | ⟨t, _, g⟩ | ⟨t, _⟩
  · rw [tkN_0 t, t]; omega
  · rw [tkN_1 t, t, tkW_nm]; exact ⟨fun e => ⟨rfl, e⟩, fun e => e.2⟩
  · rw [tkN_2 t, t]; omega
  · rw [tkN_3 t, t]
    have := isSg_ge g
    omega
  · rw [tkN_4 t, t]; omega
theorem tk_end {B : Nat → Nat} {N s : Nat} (hs : s ≤ N) : tkN B N s = 0 ↔ lxT B N s = 0 := by
  rcases lxT_cases (B := B) hs with ⟨t, _⟩ | ⟨t, _⟩ | ⟨t, _⟩ | ⟨t, _, g⟩ | ⟨t, _⟩
  · rw [tkN_0 t, t]
  · rw [tkN_1 t, t]
    have := tkW_le (wIx B s (lxW B N s - s))
    omega
  · rw [tkN_2 t, t]; try omega
  · rw [tkN_3 t, t]
    have := isSg_ge g
    omega
  · rw [tkN_4 t, t]; omega
theorem tk_lt {B : Nat → Nat} {N s : Nat} (hs : s ≤ N) : tkN B N s < 100 := by
  rcases lxT_cases (B := B) hs with ⟨t, _⟩ | ⟨t, _⟩ | ⟨t, _⟩ | ⟨t, _, g⟩ | ⟨t, _⟩
  · rw [tkN_0 t]; omega
  · rw [tkN_1 t]
    have := tkW_le (wIx B s (lxW B N s - s))
    omega
  · rw [tkN_2 t]; omega
  · rw [tkN_3 t]
    have := isSg_ge g
    omega
  · rw [tkN_4 t]; omega
/-- a token that is taken stands inside, and something stands behind it -/
def nxS (B : Nat → Nat) (N s : Nat) : Nat := lxS B N (lxE B N s)
theorem nxS_le {B : Nat → Nat} {N s : Nat} (hs : s ≤ N) : nxS B N s ≤ N := lxS_le (lxE_le hs)
theorem nxS_gt {B : Nat → Nat} {N s : Nat} (h : lxT B N s ≠ 0) : s + 1 ≤ nxS B N s := Nat.le_trans (lxE_gt h) lxS_ge
/-! ## the reference's state at a token; its answers there -/
def MI (B : Nat → Nat) (N F s o : Nat) (g : GM) : Prop := PM B N F g ∧ g.1 24 = 0 ∧ g.1 23 = nI o ∧ vp_in (g.1 26) 8 ∧ s ≤ N ∧ o ≤ 5 ∧ MT B N s g
def MB (f : Nat) (g g' : GM) : Prop := FrG sPar g g' ∧ g'.1 24 = 1 ∧ g'.1 25 = nI f
def nmM (g : GM) (i : Nat) : Int32 := match i with
  | 0 => g.2.1 8 (g.1 26).toNatClampNeg
  | 1 => g.1 27
  | 2 => g.1 28
  | 3 => g.2.1 7 (g.1 26).toNatClampNeg
  | 4 => g.1 15
  | _ => g.1 29
theorem nmM_fr {g g' : GM} (f : FrG sPar g g') : nmM g' = nmM g := by
  funext i
  match i with
  | 0 => show g'.2.1 8 (g'.1 26).toNatClampNeg = _; rw [f.2, f.1 26 rfl]; rfl
  | 1 => exact f.1 27 rfl
  | 2 => exact f.1 28 rfl
  | 3 => show g'.2.1 7 (g'.1 26).toNatClampNeg = _; rw [f.2, f.1 26 rfl]; rfl
  | 4 => exact f.1 15 rfl
  | n + 5 => exact f.1 29 rfl
section MGram
variable {B : Nat → Nat} {N F s o : Nat} {g : GM}
theorem mIsSign {Q : Int32 → GM → Prop} {x : Int32} (h : MI B N F s o g) (c : Nat) (hx : x = nI c) (hc : 40 ≤ c) (hc2 : c < 100) (q : Q (if tkN B N s = c then 1 else 0) g) : wM_isSign x g Q := by
  subst hx
  obtain ⟨hp, h24, h23, h26, hs, ho, h19, h20, h22, hw, hd, h3⟩ := h
  unfold wM_isSign
  rw [h24, h19, nI_l (by omega)]
  refine ⟨fun e => absurd rfl e, fun _ => ?_⟩
  have e3 : nI (lxT B N s) = (3 : Int32) ↔ lxT B N s = 3 := nI_eq (b := 3) (by rcases lxT_cases (B := B) hs with ⟨t, _⟩ | ⟨t, _⟩ | ⟨t, _⟩ | ⟨t, _⟩ | ⟨t, _⟩ <;> omega) (by decide)
  rw [e3, lg_cmp_eq]
  have ht := tk_sg (B := B) (c := c) hs hc
  refine ⟨fun n3 => ?_, fun y3 => ⟨fun n => ?_, fun y => ?_⟩⟩
  · rw [if_neg (fun z => n3 (ht.mp z).1)] at q; exact q
  · rw [h3 y3, lN_eq (by have := lxT_cases (B := B) hs; rcases this with ⟨t, _⟩ | ⟨t, _⟩ | ⟨t, _⟩ | ⟨t, _, gg⟩ | ⟨t, _⟩ <;> first | (have := isSg_ge gg; omega) | omega) (by omega)] at n
    rw [if_neg (fun z => n (ht.mp z).2)] at q; exact q
  · rw [h3 y3, lN_eq (by have := lxT_cases (B := B) hs; rcases this with ⟨t, _⟩ | ⟨t, _⟩ | ⟨t, _⟩ | ⟨t, _, gg⟩ | ⟨t, _⟩ <;> first | (have := isSg_ge gg; omega) | omega) (by omega)] at y
    rw [if_pos (ht.mpr ⟨y3, y⟩)] at q; exact q
theorem mIsSignB {Q : Int32 → GM → Prop} {x : Int32} (h : g.1 24 = 1) (q : Q 0 g) : wM_isSign x g Q := by
  unfold wM_isSign
  rw [h]
  exact ⟨fun _ => q, fun e => absurd e n10⟩
theorem mIsWord {Q : Int32 → GM → Prop} {x : Int64} (hb : BN B N) (h : MI B N F s o g) (w : Nat) (hx : x = lN (cdN w)) (hw12 : w < 12) (q : Q (if lxT B N s = 1 ∧ wIx B s (lxW B N s - s) = w then 1 else 0) g) : wM_isWord x g Q := by
  subst hx
  obtain ⟨hp, h24, h23, h26, hs, ho, h19, h20, h22, hw, hd, h3⟩ := h
  unfold wM_isWord
  rw [h24, h19]
  refine ⟨fun e => absurd rfl e, fun _ => ?_⟩
  have e3 : nI (lxT B N s) = (1 : Int32) ↔ lxT B N s = 1 := nI_eq (b := 1) (by rcases lxT_cases (B := B) hs with ⟨t, _⟩ | ⟨t, _⟩ | ⟨t, _⟩ | ⟨t, _⟩ | ⟨t, _⟩ <;> omega) (by decide)
  rw [e3, lg_cmp_eq]
  refine ⟨fun n3 => ?_, fun y3 => ?_⟩
  · rw [if_neg (fun z => n3 z.1)] at q; exact q
  · rw [hw y3, lLt_iff hb hs hw12]
    refine ⟨fun n => ?_, fun y => ?_⟩
    · rw [if_neg (fun z => n z.2)] at q; exact q
    · rw [if_pos ⟨y3, y⟩] at q; exact q
theorem mIsKey {Q : Int32 → GM → Prop} {x : Int64} (hb : BN B N) (h : MI B N F s o g) (w : Nat) (hx : x = lN (cdN w)) (h6 : 6 ≤ w) (hw12 : w < 12) (q : Q (if tkN B N s = w - 2 then 1 else 0) g) : wM_isWord x g Q := by
  refine mIsWord hb h w hx hw12 ?_
  have hs := h.2.2.2.2.1
  have e := tk_key (B := B) (N := N) (s := s) hs h6 hw12
  by_cases hc : tkN B N s = w - 2
  · rw [if_pos hc] at q; rw [if_pos (e.mp hc)]; exact q
  · rw [if_neg hc] at q; rw [if_neg (fun z => hc (e.mpr z))]; exact q
theorem mIsWordB {Q : Int32 → GM → Prop} {x : Int64} (h : g.1 24 = 1) (q : Q 0 g) : wM_isWord x g Q := by
  unfold wM_isWord
  rw [h]
  exact ⟨fun _ => q, fun e => absurd e n10⟩
theorem mFail {Q : GM → Prop} (h : MI B N F s o g) (q : ∀ g', MB s g g' → Q g') : wM_fail g Q := by
  unfold wM_fail
  rw [h.2.1]
  exact ⟨fun e => absurd rfl e, fun _ => q _ ⟨(FrG.rf.i_ rfl).i_ rfl, rfl, h.2.2.2.2.2.2.2.1⟩⟩
theorem mFailB {Q : GM → Prop} (h : g.1 24 = 1) (q : Q g) : wM_fail g Q := by
  unfold wM_fail
  rw [h]
  exact ⟨fun _ => q, fun e => absurd e n10⟩
theorem mNx {Q : GM → Prop} (hb : BN B N) (h : MI B N F s o g) (h4 : lxT B N s ≠ 4) (q : ∀ g', FrG sPar g g' → MI B N F (nxS B N s) o g' → Q g') : ∃ n, wM_next n 0 0 g Q := by
  obtain ⟨hp, h24, h23, h26, hs, ho, h19, h20, h22, hw, hd, h3⟩ := h
  exact mNext hb hp (h22 h4) (lxE_le hs) (fun g' f t => q g' f.par ⟨hp.fr f.par, (f.1 24 rfl).trans h24, (f.1 23 rfl).trans h23, by rw [f.1 26 rfl]; exact h26, nxS_le hs, ho, t⟩)
theorem MI.op {o2 : Nat} {v : Int32} (h : MI B N F s o g) (hv : v = nI o2) (ho : o2 ≤ 5) : MI B N F s o2 (sI g 23 v) :=
  ⟨h.1.fr (FrG.rf.i_ rfl), h.2.1, hv, h.2.2.2.1, h.2.2.2.2.1, ho, h.2.2.2.2.2.2⟩
theorem mOpens {Q : Int32 → GM → Prop} (hb : BN B N) (h : MI B N F s o g) (h4 : lxT B N s ≠ 4) (q1 : o < 5 → ∀ g', FrG sPar g g' → MI B N F (nxS B N s) (o + 1) g' → Q 1 g') (q0 : o = 5 → ∀ g', MB s g g' → Q 0 g') : wM_opens g Q := by
  have ho := h.2.2.2.2.2.1
  unfold wM_opens
  have e5 : g.1 23 = (5 : Int32) ↔ o = 5 := by rw [h.2.2.1]; exact nI_eq (b := 5) (by omega) (by decide)
  rw [e5]
  refine ⟨fun n => ?_, fun y => mFail h (q0 y)⟩
  have f0 : FrG sPar g (sI g 23 (g.1 23 + 1)) := FrG.rf.i_ rfl
  exact mNx hb (h.op (o2 := o + 1) (by rw [h.2.2.1, nI_1]) (by omega)) h4 (fun g' f hi => q1 (by omega) g' (f0.tr f) hi)
theorem mName {Q : Int32 → GM → Prop} (hb : BN B N) (h : MI B N F s o g) (h1 : lxT B N s = 1) (q1 : wIx B s (lxW B N s - s) < 6 → Q (nmM g (wIx B s (lxW B N s - s))) g) (q0 : ¬ wIx B s (lxW B N s - s) < 6 → ∀ g', MB s g g' → Q 0 g') : wM_name g Q := by
  have key : ∀ w, w < 6 → (wIx B s (lxW B N s - s) = w → Q (nmM g w) g) := fun w hw e => by rw [← e]; exact q1 (by omega)
  unfold wM_name
  generalize hW : wIx B s (lxW B N s - s) = W at *
  refine mIsWord hb h 0 rfl (by omega) ?_
  rw [h1, hW]
  by_cases c0 : W = 0
  · rw [if_pos ⟨rfl, c0⟩]
    exact br_f n10 ⟨h.2.2.2.1, key 0 (by omega) c0⟩
  rw [if_neg (fun z => c0 z.2)]
  refine br_t rfl (mIsWord hb h 1 rfl (by omega) ?_)
  rw [h1, hW]
  by_cases c1 : W = 1
  · rw [if_pos ⟨rfl, c1⟩]
    exact br_f n10 (key 1 (by omega) c1)
  rw [if_neg (fun z => c1 z.2)]
  refine br_t rfl (mIsWord hb h 2 rfl (by omega) ?_)
  rw [h1, hW]
  by_cases c2 : W = 2
  · rw [if_pos ⟨rfl, c2⟩]
    exact br_f n10 (key 2 (by omega) c2)
  rw [if_neg (fun z => c2 z.2)]
  refine br_t rfl (mIsWord hb h 3 rfl (by omega) ?_)
  rw [h1, hW]
  by_cases c3 : W = 3
  · rw [if_pos ⟨rfl, c3⟩]
    exact br_f n10 ⟨h.2.2.2.1, key 3 (by omega) c3⟩
  rw [if_neg (fun z => c3 z.2)]
  refine br_t rfl (mIsWord hb h 4 rfl (by omega) ?_)
  rw [h1, hW]
  by_cases c4 : W = 4
  · rw [if_pos ⟨rfl, c4⟩]
    exact br_f n10 (key 4 (by omega) c4)
  rw [if_neg (fun z => c4 z.2)]
  refine br_t rfl (mIsWord hb h 5 rfl (by omega) ?_)
  rw [h1, hW]
  by_cases c5 : W = 5
  · rw [if_pos ⟨rfl, c5⟩]
    exact br_f n10 (key 5 (by omega) c5)
  rw [if_neg (fun z => c5 z.2)]
  exact br_t rfl (mFail h (q0 (by omega)))
end MGram
/-! ## the class's state at a token, and behind a fault -/
def CI (a : Nat → Nat) (B : Nat → Nat) (N s : Nat) (k : KC) (l : List Int32) : Prop := TpC a B N k ∧ k.1 6 7 = -1 ∧ s ≤ N ∧ CT B N s k ∧ k.1 6 6 = nI l.length ∧ ∀ j, j < l.length → k.2.1 6 5 j = l.getD j 0
def CF (a : Nat → Nat) (B : Nat → Nat) (N f : Nat) (k : KC) : Prop := TpC a B N k ∧ k.1 6 7 = nI f ∧ f ≤ 160 ∧ k.1 6 2 = 1 ∧ ∃ m, m ≤ 160 ∧ k.1 6 6 = nI m
theorem gd_l {l m : List Int32} {j : Nat} (h : j < l.length) : (l ++ m).getD j 0 = l.getD j 0 := by
  rw [List.getD_eq_getElem?_getD, List.getD_eq_getElem?_getD, List.getElem?_append_left h]
theorem gd_r {l : List Int32} {x : Int32} : (l ++ [x]).getD l.length 0 = x := by
  rw [List.getD_eq_getElem?_getD, List.getElem?_append_right (Nat.le_refl _), Nat.sub_self]; rfl
section CGram
variable {a : Nat → Nat} {B : Nat → Nat} {N s f : Nat} {k : KC} {l : List Int32}
theorem CF.ne (h : CF a B N f k) : ¬ k.1 6 7 = -1 := by
  rw [h.2.1]
  intro e
  have e2 := congrArg Int32.toInt e
  have := h.2.2.1
  rw [nI_toInt (by omega)] at e2
  have e3 : (-1 : Int32).toInt = -1 := by decide
  omega
theorem cAdvI {Q : KC → Prop} (hb : BN B N) (h : CI a B N s k l) (h4 : lxT B N s ≠ 4) (q : ∀ k', FrC oSix oSix k k' → CI a B N (nxS B N s) k' l → Q k') : ∃ n, wC_X6_advance a n 0 0 k Q := by
  obtain ⟨ht, h7, hs, hc, hl, hr⟩ := h
  exact cAdv hb (lxE_le hs) ht h7 (hc.2.2.1 h4) (fun k' f c => q k' f.six ⟨ht.fr f.six, (f.1 6 7 rfl).trans h7, nxS_le hs, c, (f.1 6 6 rfl).trans hl, fun j hj => by rw [f.2.1 6 5 rfl]; exact hr j hj⟩)
theorem cWrite {Q : KC → Prop} {x : Int32} (h : CI a B N s k l) (hl : l.length < 160) (q : ∀ k', FrC oSix oSix k k' → CI a B N s k' (l ++ [x]) → Q k') : wC_X6_write x k Q := by
  obtain ⟨ht, h7, hs, hc, h6, hr⟩ := h
  unfold wC_X6_write
  rw [h6]
  refine br_f (nI_ge (b := 160) hl (by decide)) ⟨vp_in_nI hl (by decide), ?_⟩
  rw [nI_clamp (by omega), nI_1]
  have f1 : FrC oSix oSix k (cI (cA k 6 5 (upd (k.2.1 6 5) l.length x)) 6 6 (nI (l.length + 1))) := (FrC.rf.a_ rfl).i_ rfl
  refine q _ f1 ⟨ht.fr f1, h7, hs, hc, ?_, fun j hj => ?_⟩
  · rw [List.length_append]; rfl
  · show upd (k.2.1 6 5) l.length x j = _
    rw [List.length_append] at hj
    have hj2 : j < l.length + 1 := hj
    by_cases e : j = l.length
    · subst e
      rw [pk_us, gd_r]
    · rw [pk_un e, gd_l (by omega)]
      exact hr j (by omega)
theorem cWriteF {Q : KC → Prop} {x : Int32} (h : CF a B N f k) (q : ∀ k', FrC oSix oSix k k' → CF a B N f k' → Q k') : wC_X6_write x k Q := by
  obtain ⟨ht, h7, hf, h2, m, hm, h6⟩ := h
  unfold wC_X6_write
  rw [h6]
  refine ⟨fun _ => q k FrC.rf ⟨ht, h7, hf, h2, m, hm, h6⟩, fun e => ?_⟩
  have hm2 : m < 160 := by
    rcases Nat.lt_or_ge m 160 with z | z
    · exact z
    · exact absurd (nI_le (a := 160) z (by omega)) e
  refine ⟨vp_in_nI hm2 (by decide), ?_⟩
  rw [nI_1]
  have f1 : FrC oSix oSix k (cI (cA k 6 5 (upd (k.2.1 6 5) (nI m).toNatClampNeg x)) 6 6 (nI (m + 1))) := (FrC.rf.a_ rfl).i_ rfl
  exact q _ f1 ⟨ht.fr f1, h7, hf, h2, m + 1, by omega, rfl⟩
theorem cRefuse {Q : KC → Prop} (hb : BN B N) (h : CI a B N s k l) (hl : l.length ≤ 160) (q : ∀ k', FrC oSix oSix k k' → CF a B N s k' → Q k') : wC_X6_refuse k Q := by
  obtain ⟨ht, h7, hs, hc, h6, hr⟩ := h
  unfold wC_X6_refuse
  refine ⟨fun e => absurd h7 e, fun _ => ?_⟩
  have f1 : FrC oSix oSix k (cI (cI k 6 7 (k.1 6 3)) 6 2 (1 : Int32)) := (FrC.rf.i_ rfl).i_ rfl
  exact q _ f1 ⟨ht.fr f1, hc.1, Nat.le_trans hs hb.2, rfl, l.length, hl, h6⟩
theorem cRefuseF {Q : KC → Prop} (h : CF a B N f k) (q : ∀ k', FrC oSix oSix k k' → CF a B N f k' → Q k') : wC_X6_refuse k Q := by
  have hn := h.ne
  obtain ⟨ht, h7, hf, h2, m, hm, h6⟩ := h
  unfold wC_X6_refuse
  have f1 : FrC oSix oSix k (cI k 6 2 (1 : Int32)) := FrC.rf.i_ rfl
  exact ⟨fun _ => q _ f1 ⟨ht.fr f1, h7, hf, rfl, m, hm, h6⟩, fun e => absurd e hn⟩
theorem cExpF {Q : KC → Prop} {x : Int32} (hx : ¬ (1 : Int32) = x) (h : CF a B N f k) (q : ∀ k', FrC oSix oSix k k' → CF a B N f k' → Q k') : wC_X6_expect a x k Q := by
  unfold wC_X6_expect
  rw [h.2.2.2.1]
  exact ⟨fun _ => cRefuseF h q, fun e => absurd e hx⟩
theorem cTok {c : Nat} (h : CI a B N s k l) (hc : c < 200) : k.1 6 2 = nI c ↔ tkN B N s = c := by
  have := tk_lt (B := B) h.2.2.1
  rw [h.2.2.2.1.2.1]
  exact nI_eq (by omega) (by omega)
end CGram
