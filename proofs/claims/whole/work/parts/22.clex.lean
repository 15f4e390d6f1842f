/-! ===== tokens in the class ===== -/
def wdN : List (List Nat) := [[115, 116, 114, 101, 110, 103, 116, 104], [115, 117, 109], [119, 111, 114, 116, 104], [107, 105, 110, 100], [100, 97, 121], [116, 114, 105, 97, 108], [103, 97, 105, 110], [102, 97, 100, 101], [100, 114, 111, 112], [111, 114], [97, 110, 100], [110, 111, 116]]
def chN (q j : Nat) : Nat := (wdN.getD q []).getD j 0
def lnN (q : Nat) : Nat := (wdN.getD q []).length
theorem ln_eq : ∀ q, q < 12 → lenS.getD q 0 = lnN q ∧ lnN q ≤ 8 ∧ 0 < lnN q := by decide +kernel
theorem ch_eq : ∀ q, q < 12 → ∀ j, j < lnN q → ((((bytS.getD q []).getD j 0) &&& (255 : Int32)).toUInt32 % 65536).toInt32 = nI (chN q j) ∧ chN q j < 256 ∧ 97 ≤ chN q j ∧ chN q j ≤ 122 := by decide +kernel
def eqw (B : Nat → Nat) (s n q : Nat) : Bool := Nat.beq n (lnN q) && decide (∀ j, j < n → B (s + j) = chN q j)
theorem eqw_t {B : Nat → Nat} {s n q : Nat} : eqw B s n q = true ↔ n = lnN q ∧ ∀ j, j < n → B (s + j) = chN q j := by
  unfold eqw
  simp only [Bool.and_eq_true, decide_eq_true_iff, Nat.beq_eq]
def pWd (B : Nat → Nat) (s n q : Nat) : Bool := decide (q < 12) && !eqw B s n q
theorem pWd_N {B : Nat → Nat} {s n : Nat} : ∀ q, 12 ≤ q → pWd B s n q = false := fun q h => by
  unfold pWd
  rw [decide_eq_false (Nat.not_lt.mpr h)]; rfl
/-- which word it is; 12: none -/
def wIx (B : Nat → Nat) (s n : Nat) : Nat := skp (pWd B s n) 12 0
def tkW (q : Nat) : Nat := if q < 6 then 3 else if q < 12 then q - 2 else 1
def tkN (B : Nat → Nat) (N s : Nat) : Nat := if lxT B N s = 0 then 0 else if lxT B N s = 1 then tkW (wIx B s (lxW B N s - s)) else if lxT B N s = 2 then 2 else if lxT B N s = 3 then B s else 1
def TpC (a : Nat → Nat) (B : Nat → Nat) (N : Nat) (k : KC) : Prop := k.2.2.1 = some (a 5) ∧ k.1 5 1 = nI N ∧ ∀ i, i < N → k.2.1 5 0 i = nI (B i)
theorem TpC.fr {a : Nat → Nat} {B : Nat → Nat} {N : Nat} {k k' : KC} (h : TpC a B N k) (f : FrC oSix oSix k k') : TpC a B N k' :=
  ⟨(congrArg (fun z => z.1) f.2.2).trans h.1, (f.1 5 1 rfl).trans h.2.1, fun i hi => by rw [f.2.1 5 0 rfl]; exact h.2.2 i hi⟩
section CLex
variable {a : Nat → Nat} {B : Nat → Nat} {N : Nat}
theorem cByte {k : KC} {Q : Int32 → KC → Prop} {x : Int32} (hb : BN B N) (h : TpC a B N k) (i : Nat) (hx : x = nI i) (hi : i ≤ 400) (q : Q (bI B N i) k) : wC_X4_byteAt x k Q := by
  subst hx
  have hN := hb.2
  unfold wC_X4_byteAt
  rw [h.2.1]
  refine br_f (nI_pos (by omega)) ?_
  by_cases hlt : i < N
  · refine br_f (fun z => ?_) ⟨vp_in_nI (by omega) (by decide), ?_⟩
    · have := (nI_leI (a := N) (b := i) (by omega) (by omega)).mp z
      omega
    · rw [nI_clamp (by omega), h.2.2 i hlt]
      rw [bI_in hlt] at q; exact q
  · refine br_t (nI_le (by omega) (by omega)) ?_
    rw [bI_out hlt] at q; exact q
theorem cBlank {k : KC} {Q : Int32 → KC → Prop} {i : Nat} (hb : BN B N) (q : Q (if pBl B N i = true then 1 else 0) k) : wC_X6_isBlank (bI B N i) k Q := by
  unfold wC_X6_isBlank
  have e1 : bI B N i = (32 : Int32) ↔ i < N ∧ B i = 32 := bI_eq (c := 32) hb (by decide)
  have e2 : bI B N i = (10 : Int32) ↔ i < N ∧ B i = 10 := bI_eq (c := 10) hb (by decide)
  rw [e1, e2]
  refine ⟨fun h => ?_, fun h => ⟨fun h2 => ?_, fun h2 => ?_⟩⟩
  · rw [if_pos (pBl_t.mpr ⟨h.1, Or.inl h.2⟩)] at q; exact q
  · rw [if_neg (fun z => (pBl_t.mp z).2.elim (fun w => h ⟨(pBl_t.mp z).1, w⟩) (fun w => h2 ⟨(pBl_t.mp z).1, w⟩))] at q; exact q
  · rw [if_pos (pBl_t.mpr ⟨h2.1, Or.inr h2.2⟩)] at q; exact q
theorem cLetter {k : KC} {Q : Int32 → KC → Prop} {i : Nat} (hb : BN B N) (q : Q (if pRg 97 122 B N i = true then 1 else 0) k) : wC_X6_isLetter (bI B N i) k Q := by
  have hW : ini (bI B N i) 97 122 = if pRg 97 122 B N i = true then 1 else 0 := ini_bI (lo := 97) (hi := 122) hb (by decide) (by decide)
  unfold wC_X6_isLetter
  refine cWithin ?_
  rw [hW]; exact q
theorem cDigit {k : KC} {Q : Int32 → KC → Prop} {i : Nat} (hb : BN B N) (q : Q (if pRg 48 57 B N i = true then 1 else 0) k) : wC_X6_isDigit (bI B N i) k Q := by
  have hW : ini (bI B N i) 48 57 = if pRg 48 57 B N i = true then 1 else 0 := ini_bI (lo := 48) (hi := 57) hb (by decide) (by decide)
  unfold wC_X6_isDigit
  refine cWithin ?_
  rw [hW]; exact q
theorem shr0 {n : Nat} (h : n < 2 ^ 31) : nI n >>> ((0 : Int32) &&& 31) = nI n := by
  have := pk_shrN h ((0 : Int32) &&& 31) 0 (by decide)
  rw [this]; congr 1; omega
theorem cLen {k : KC} {Q : Int32 → KC → Prop} {i : Nat} (hi : lenS.getD i 0 < 2 ^ 31) (q : Q (nI (lenS.getD i 0)) k) : wC_J0_length_8abf5 i k Q := by
  show Q (nI (lenS.getD i 0) >>> ((0 : Int32) &&& 31)) k
  rw [shr0 hi]; exact q
theorem sg_dec : ∀ c, c < 256 → (isSg c = true ↔ ∃ j, j < 8 ∧ (bytS.getD 12 []).getD j 0 = (nI c).toInt8.toInt32) := by decide +kernel
theorem cIxLoop {k : KC} {Q : Int32 → KC → Prop} {c : Nat} (hc : c < 256) (q : ∀ r : Int32, (r < 0 ↔ isSg c = false) → Q r k) : ∀ (m i : Nat), 8 - i = m → i ≤ 8 → (∀ j, j < i → ¬ (bytS.getD 12 []).getD j 0 = (nI c).toInt8.toInt32) → wC_J1_indexOfChar_4cfef 12 (m + 1) 1 0 0 (nI 8) (nI c).toInt8.toInt32 (nI i) k Q := by
  intro m
  induction m with
  | zero =>
    intro i hm hi hn
    rw [wC_J1_indexOfChar_4cfef]
    any_goals (intro h9; exact absurd h9 (by decide))
    have e : i = 8 := by omega
    subst e
    refine br_t (nI_le (by omega) (by decide)) (q (-1) ⟨fun _ => ?_, fun _ => by decide⟩)
    cases hs : isSg c with
    | false => rfl
    | true => obtain ⟨j, hj, e⟩ := (sg_dec c hc).mp hs; exact absurd e (hn j hj)
  | succ m ih =>
    intro i hm hi hn
    rw [wC_J1_indexOfChar_4cfef]
    any_goals (intro h9; exact absurd h9 (by decide))
    refine br_f (nI_ge (by omega) (by decide)) ⟨vp_in_nI (n := i) (N := 8) (by omega) (by decide), ?_⟩
    rw [nI_clamp (by omega)]
    refine ⟨fun h => ?_, fun h => q (nI i) ⟨fun z => absurd z (nI_pos (by omega)), fun z => ?_⟩⟩
    · rw [nI_1]
      exact ih (i + 1) (by omega) (by omega) (fun j hj => by
        rcases Nat.lt_or_ge j i with z | z
        · exact hn j z
        · rw [show j = i by omega]; exact h)
    · rw [(sg_dec c hc).mpr ⟨i, by omega, h⟩] at z; exact absurd z (by decide)
theorem cIndexOf {k : KC} {Q : Int32 → KC → Prop} {c : Nat} (hc : c < 256) (q : ∀ r : Int32, (r < 0 ↔ isSg c = false) → Q r k) : wC_J0_indexOf_0f7a4 12 (nI c) k Q := by
  unfold wC_J0_indexOf_0f7a4 wC_J0_indexOf_7cf53 wC_J0_isLatin1_aae02
  refine br_f n10 (cLen (by decide) ?_)
  unfold wC_J1_indexOf_4cfef wC_J1_canEncode_9a6ad
  refine br_f (nI_pos (by omega)) (br_f (nI_nlt (b := c) (a := 255) (by omega) (by decide)) ?_)
  refine ⟨fun _ v hv => ?_, fun e => absurd e n10⟩
  rw [ite_self] at hv
  subst hv
  rw [ite_self]
  refine br_t (by decide) ⟨10, ?_⟩
  exact cIxLoop hc q 8 0 rfl (by omega) (fun j hj => absurd hj (Nat.not_lt_zero j))
theorem cChar {k : KC} {Q : Int32 → KC → Prop} {q j : Nat} (hq : q < 12) (hj : j < lnN q) (h : Q (nI (chN q j)) k) : wC_J0_charAt_5068e q (nI j) k Q := by
  obtain ⟨hL, hL8, hL0⟩ := ln_eq q hq
  unfold wC_J0_charAt_5068e wC_J0_isLatin1_aae02
  refine br_f n10 ?_
  unfold wC_J1_charAt_3b067 wC_J0_checkIndex_df160 wC_J3_checkIndex_8e157
  rw [hL]
  refine br_f (nI_pos (by omega)) (br_t (nI_lt hj (by omega)) ⟨vp_in_nI hj (by omega), ?_⟩)
  rw [nI_clamp (by omega)]
  refine ⟨pk_nc _, ?_⟩
  rw [(ch_eq q hq j hj).1]; exact h
theorem cIsWord1 {k : KC} {Q : Int32 → KC → Prop} {q s e : Nat} (hb : BN B N) (ht : TpC a B N k) (hq : q < 12) (hs : k.1 6 3 = nI s) (he : s + lnN q ≤ N) (h1 : (∀ j, j < lnN q → B (s + j) = chN q j) → Q 1 k) (h0 : (¬ ∀ j, j < lnN q → B (s + j) = chN q j) → Q 0 k) : ∀ (m j : Nat), lnN q - j = m → j ≤ lnN q → (∀ i, i < j → B (s + i) = chN q i) → wC_X6_isWord a q (m + 1) 1 (nI j) k Q := by
  obtain ⟨hL, hL8, hL0⟩ := ln_eq q hq
  have hN := hb.2
  intro m
  induction m with
  | zero =>
    intro j hm hj hp
    rw [wC_X6_isWord]
    any_goals (intro h9; exact absurd h9 (by decide))
    refine cLen (by rw [hL]; omega) ?_
    rw [hL]
    refine br_t (nI_le (by omega) (by omega)) (h1 (fun i hi => hp i (by omega)))
  | succ m ih =>
    intro j hm hj hp
    have hlt : j < lnN q := by omega
    rw [wC_X6_isWord]
    any_goals (intro h9; exact absurd h9 (by decide))
    refine cLen (by rw [hL]; omega) ?_
    rw [hL]
    refine br_f (nI_ge hlt (by omega)) ⟨ht.1, ?_⟩
    refine cByte hb ht (s + j) (by rw [hs, nI_add]) (by omega) ?_
    refine cChar hq hlt ?_
    obtain ⟨_, hc, _⟩ := ch_eq q hq j hlt
    have hBj := hb.1 (s + j)
    rw [bI_in (by omega), nI_eq (by omega) (by omega)]
    refine br_c (fun h => ?_) (fun h => h0 (fun z => h (z j hlt)))
    rw [nI_1]
    exact ih (j + 1) (by omega) (by omega) (lt_s hp h)
theorem cIsWord {k : KC} {Q : Int32 → KC → Prop} {q s e : Nat} (hb : BN B N) (ht : TpC a B N k) (hq : q < 12) (hs : k.1 6 3 = nI s) (he : k.1 6 1 = nI e) (hse : s ≤ e) (heN : e ≤ N) (h : Q (if eqw B s (e - s) q = true then 1 else 0) k) : ∃ n, wC_X6_isWord a q n 0 0 k Q := by
  obtain ⟨hL, hL8, hL0⟩ := ln_eq q hq
  have hN := hb.2
  refine ⟨lnN q - 0 + 1 + 1, ?_⟩
  rw [wC_X6_isWord]
  refine cLen (by rw [hL]; omega) ?_
  rw [hL, he, hs, pk_sub hse, nI_eq (by omega) (by omega)]
  refine br_c (fun hl => ?_) (fun hl => ?_)
  · refine cIsWord1 (e := e) hb ht hq hs (by omega) (fun hp => ?_) (fun hp => ?_) _ 0 rfl (by omega) (fun i hi => absurd hi (Nat.not_lt_zero i))
    · rw [if_pos (eqw_t.mpr ⟨hl, fun j hj => hp j (by omega)⟩)] at h; exact h
    · rw [if_neg (fun z => hp (fun j hj => (eqw_t.mp z).2 j (by omega)))] at h; exact h
  · rw [if_neg (fun z => hl (eqw_t.mp z).1)] at h; exact h
/-- the class's name and key tables -/
theorem cName {k : KC} {Q : Nat → KC → Prop} {i : Nat} (hi : i < 6) (h : Q i k) : wC_X6_nameAt (nI i) k Q := by
  unfold wC_X6_nameAt
  have e0 : nI i = (0 : Int32) ↔ i = 0 := nI_eq (b := 0) (by omega) (by decide)
  have e1 : nI i = (1 : Int32) ↔ i = 1 := nI_eq (b := 1) (by omega) (by decide)
  have e2 : nI i = (2 : Int32) ↔ i = 2 := nI_eq (b := 2) (by omega) (by decide)
  have e3 : nI i = (3 : Int32) ↔ i = 3 := nI_eq (b := 3) (by omega) (by decide)
  have e4 : nI i = (4 : Int32) ↔ i = 4 := nI_eq (b := 4) (by omega) (by decide)
  rw [e0, e1, e2, e3, e4]
  refine ⟨fun z => ?_, fun z => ?_, fun z => ?_, fun z => ?_, fun z => ?_, fun z0 z1 z2 z3 z4 => ?_⟩
  · rw [z] at h; exact h
  · rw [z] at h; exact h
  · rw [z] at h; exact h
  · rw [z] at h; exact h
  · rw [z] at h; exact h
  · rw [show i = 5 by omega] at h; exact h
theorem cKey {k : KC} {Q : Nat → KC → Prop} {i : Nat} (h4 : 4 ≤ i) (hi : i < 10) (h : Q (i + 2) k) : wC_X6_keyAt (nI i) k Q := by
  unfold wC_X6_keyAt
  have e4 : nI i = (4 : Int32) ↔ i = 4 := nI_eq (b := 4) (by omega) (by decide)
  have e5 : nI i = (5 : Int32) ↔ i = 5 := nI_eq (b := 5) (by omega) (by decide)
  have e6 : nI i = (6 : Int32) ↔ i = 6 := nI_eq (b := 6) (by omega) (by decide)
  have e7 : nI i = (7 : Int32) ↔ i = 7 := nI_eq (b := 7) (by omega) (by decide)
  have e8 : nI i = (8 : Int32) ↔ i = 8 := nI_eq (b := 8) (by omega) (by decide)
  rw [e4, e5, e6, e7, e8]
  refine ⟨fun z => ?_, fun z => ?_, fun z => ?_, fun z => ?_, fun z => ?_, fun z0 z1 z2 z3 z4 => ?_⟩
  · rw [z] at h; exact h
  · rw [z] at h; exact h
  · rw [z] at h; exact h
  · rw [z] at h; exact h
  · rw [z] at h; exact h
  · rw [show i = 9 by omega] at h; exact h
/-- what the class finds of a word from s to e -/
def WdPost (B : Nat → Nat) (s e : Nat) (k k' : KC) (r : Int32) : Prop := FrC sTok aNo k k' ∧ k'.1 6 1 = nI e ∧ k'.1 6 3 = nI s ∧ r = nI (tkW (wIx B s (e - s))) ∧ (wIx B s (e - s) < 6 → k'.1 6 4 = (-1 : Int32) - nI (wIx B s (e - s)))
theorem cWord3 {k0 k : KC} {Q : Int32 → KC → Prop} {s e : Nat} (hb : BN B N) (ht : TpC a B N k) (hs : k.1 6 3 = nI s) (he : k.1 6 1 = nI e) (hse : s ≤ e) (heN : e ≤ N) (f : FrC sTok aNo k0 k) (q : ∀ k' r, WdPost B s e k0 k' r → Q r k') : ∀ (m i : Nat), 12 - i = m → 6 ≤ i → i ≤ 12 → wIx B s (e - s) = skp (pWd B s (e - s)) 12 i → wC_X6_wordToken a (m + 1) 3 (nI (i - 2)) k Q := by
  intro m
  induction m with
  | zero =>
    intro i hm hi hi2 hw
    have e12 : i = 12 := by omega
    subst e12
    rw [wC_X6_wordToken]
    any_goals (intro h9; exact absurd h9 (by decide))
    have hw2 : wIx B s (e - s) = 12 := by rw [hw]; exact skp_halt _ _ (pWd_N 12 (by omega))
    exact br_t (by decide) (q k 1 ⟨f, he, hs, by rw [hw2]; rfl, fun z => by omega⟩)
  | succ m ih =>
    intro i hm hi hi2 hw
    rw [wC_X6_wordToken]
    any_goals (intro h9; exact absurd h9 (by decide))
    refine br_f (nI_nlt (b := i - 2) (a := 9) (by omega) (by decide)) (cKey (by omega) (by omega) ?_)
    rw [show i - 2 + 2 = i by omega]
    refine cIsWord hb ht (by omega) hs he hse heN ?_
    cases hq : eqw B s (e - s) i with
    | true =>
      rw [if_pos rfl]
      have hw2 : wIx B s (e - s) = i := by
        rw [hw]
        refine skp_halt _ _ ?_
        unfold pWd
        rw [hq]; simp
      refine br_f n10 (q k _ ⟨f, he, hs, ?_, fun z => by omega⟩)
      rw [hw2]
      unfold tkW
      rw [if_neg (by omega), if_pos (by omega)]
    | false =>
      rw [if_neg (by decide)]
      refine br_t rfl ?_
      have hp : pWd B s (e - s) i = true := by
        unfold pWd
        rw [hq, decide_eq_true (by omega)]; rfl
      rw [nI_1, show i - 2 + 1 = i + 1 - 2 by omega]
      exact ih (i + 1) (by omega) (by omega) (by omega) (by rw [hw]; exact skp_step _ 12 pWd_N hp)
theorem cWord2 {k0 k : KC} {Q : Int32 → KC → Prop} {s e : Nat} (hb : BN B N) (ht : TpC a B N k) (hs : k.1 6 3 = nI s) (he : k.1 6 1 = nI e) (hse : s ≤ e) (heN : e ≤ N) (f : FrC sTok aNo k0 k) (q : ∀ k' r, WdPost B s e k0 k' r → Q r k') : ∀ (m i : Nat), 6 - i = m → i ≤ 6 → wIx B s (e - s) = skp (pWd B s (e - s)) 12 i → wC_X6_wordToken a (m + 8) 2 (nI i) k Q := by
  intro m
  induction m with
  | zero =>
    intro i hm hi hw
    have e6 : i = 6 := by omega
    subst e6
    rw [wC_X6_wordToken]
    exact br_t (by decide) (cWord3 hb ht hs he hse heN f q 6 6 rfl (by omega) (by omega) hw)
  | succ m ih =>
    intro i hm hi hw
    rw [show m + 1 + 8 = m + 8 + 1 by omega, wC_X6_wordToken]
    refine br_f (nI_ge (a := i) (b := 6) (by omega) (by decide)) (cName (by omega) ?_)
    refine cIsWord hb ht (by omega) hs he hse heN ?_
    cases hq : eqw B s (e - s) i with
    | true =>
      rw [if_pos rfl]
      have hw2 : wIx B s (e - s) = i := by
        rw [hw]
        refine skp_halt _ _ ?_
        unfold pWd
        rw [hq]; simp
      refine br_f n10 (q _ _ ⟨f.i_ rfl, he, hs, ?_, fun z => ?_⟩)
      · rw [hw2]
        unfold tkW
        rw [if_pos (by omega)]; rfl
      · rw [hw2]; rfl
    | false =>
      rw [if_neg (by decide)]
      refine br_t rfl ?_
      have hp : pWd B s (e - s) i = true := by
        unfold pWd
        rw [hq, decide_eq_true (by omega)]; rfl
      rw [nI_1]
      exact ih (i + 1) (by omega) (by omega) (by rw [hw]; exact skp_step _ 12 pWd_N hp)
theorem cWord1 {k0 : KC} {Q : Int32 → KC → Prop} {s : Nat} (hb : BN B N) (hsN : s ≤ N) (q : ∀ k' r, WdPost B s (lxW B N s) k0 k' r → Q r k') : ∀ (m i : Nat) (k : KC), lxW B N s - (s + i) = m → s + i ≤ lxW B N s → TpC a B N k → k.1 6 3 = nI s → k.1 6 1 = nI (s + i) → FrC sTok aNo k0 k → wC_X6_wordToken a (m + 15) 1 (nI i) k Q := by
  have hN := hb.2
  have hW := lxW_le (B := B) hsN
  intro m
  induction m with
  | zero =>
    intro i k hm hi ht hs he f
    have e : s + i = lxW B N s := by omega
    rw [show 0 + 15 = 14 + 1 by omega, wC_X6_wordToken]
    have hf : pRg 97 122 B N (s + i) = false := by rw [e]; exact skp_stop _ N pRg_N N s (by omega)
    have fin := cWord2 (Q := Q) (k0 := k0) hb ht hs (by rw [he, e]) (lxW_ge (B := B) (N := N)) hW f q 6 0 rfl (by omega) rfl
    refine br_c (fun _ => fin) (fun _ => ⟨ht.1, cByte hb ht (s + i) he (by omega) (cLetter hb ?_)⟩)
    rw [hf, if_neg (by decide)]
    exact br_t rfl fin
  | succ m ih =>
    intro i k hm hi ht hs he f
    have hlt : s + i < lxW B N s := by omega
    have htt : pRg 97 122 B N (s + i) = true := skp_in _ N s (s + i) (by omega) hlt
    rw [show m + 1 + 15 = m + 15 + 1 by omega, wC_X6_wordToken]
    refine br_f (nI_ge (a := i) (b := 160) (by omega) (by decide)) ⟨ht.1, cByte hb ht (s + i) he (by omega) (cLetter hb ?_)⟩
    rw [htt, if_pos rfl]
    refine br_f n10 ?_
    rw [nI_1]
    have f1 : FrC sTok aNo k (cI k 6 1 (k.1 6 1 + 1)) := FrC.rf.i_ rfl
    refine ih (i + 1) _ (by omega) (by omega) (ht.fr f1.six) hs ?_ (f.tr f1)
    show k.1 6 1 + 1 = _
    rw [he, nI_1]; rfl
theorem cWord {k : KC} {Q : Int32 → KC → Prop} {s : Nat} (hb : BN B N) (hsN : s ≤ N) (ht : TpC a B N k) (hs : k.1 6 3 = nI s) (he : k.1 6 1 = nI s) (q : ∀ k' r, WdPost B s (lxW B N s) k k' r → Q r k') : ∃ n, wC_X6_wordToken a n 0 0 k Q := by
  refine ⟨lxW B N s - (s + 0) + 15 + 1, ?_⟩
  rw [wC_X6_wordToken]
  exact cWord1 hb hsN q _ 0 k rfl lxW_ge ht hs he FrC.rf
/-- what the class finds of digits from s on -/
def NmPost (B : Nat → Nat) (N s : Nat) (k k' : KC) (r : Int32) : Prop := FrC sTok aNo k k' ∧ k'.1 6 3 = nI s ∧ r = nI (if lxD B N s ≤ s + 4 then 2 else 1) ∧ (lxD B N s ≤ s + 4 → k'.1 6 1 = nI (lxD B N s) ∧ k'.1 6 4 = nI (vDg B s (lxD B N s - s)))
theorem cNum1 {k0 : KC} {Q : Int32 → KC → Prop} {s : Nat} (hb : BN B N) (hsN : s ≤ N) (q : ∀ k' r, NmPost B N s k0 k' r → Q r k') : ∀ (m i : Nat) (k : KC), 4 - i = m → i ≤ 4 → s + i ≤ lxD B N s → TpC a B N k → k.1 6 3 = nI s → k.1 6 1 = nI (s + i) → k.1 6 4 = nI (vDg B s i) → FrC sTok aNo k0 k → wC_X6_numberToken a (m + 1) 1 (nI i) k Q := by
  have hN := hb.2
  have hD := lxD_le (B := B) hsN
  have stop : ∀ (i : Nat) (k : KC), s + i ≤ lxD B N s → i ≤ 4 → pRg 48 57 B N (s + i) = false → k.1 6 3 = nI s → k.1 6 1 = nI (s + i) → k.1 6 4 = nI (vDg B s i) → FrC sTok aNo k0 k → Q 2 k := by
    intro i k hi h4 hf hs he hv f
    have e : lxD B N s = s + i := by
      rcases Nat.lt_or_ge (s + i) (lxD B N s) with z | z
      · rw [skp_in _ N s (s + i) (by omega) z] at hf; exact absurd hf (by decide)
      · omega
    refine q k 2 ⟨f, hs, ?_, fun _ => ⟨by rw [he, e], by rw [hv, e]; congr 2; omega⟩⟩
    rw [if_pos (by omega)]; rfl
  intro m
  induction m with
  | zero =>
    intro i k hm hi hle ht hs he hv f
    rw [wC_X6_numberToken]
    any_goals (intro h9; exact absurd h9 (by decide))
    refine br_t (nI_le (a := 4) (by omega) (by omega)) ⟨ht.1, cByte hb ht (s + i) he (by omega) (cDigit hb ?_)⟩
    cases hp : pRg 48 57 B N (s + i) with
    | true =>
      rw [if_pos rfl]
      have h5 : s + i < lxD B N s := by
        rcases Nat.lt_or_ge (s + i) (lxD B N s) with z | z
        · exact z
        · have h6 : pRg 48 57 B N (lxD B N s) = false := skp_stop _ N pRg_N N s (by omega)
          rw [show lxD B N s = s + i by omega, hp] at h6; exact absurd h6 (by decide)
      refine br_f n10 (q k 1 ⟨f, hs, ?_, fun z => by omega⟩)
      rw [if_neg (by omega)]; rfl
    | false =>
      rw [if_neg (by decide)]
      exact br_t rfl (stop i k hle hi hp hs he hv f)
  | succ m ih =>
    intro i k hm hi hle ht hs he hv f
    rw [wC_X6_numberToken]
    any_goals (intro h9; exact absurd h9 (by decide))
    refine br_f (nI_ge (b := 4) (by omega) (by omega)) ⟨ht.1, cByte hb ht (s + i) he (by omega) (cDigit hb ?_)⟩
    cases hp : pRg 48 57 B N (s + i) with
    | true =>
      rw [if_pos rfl]
      have ht2 := pRg_t.mp hp
      refine br_f n10 ⟨ht.1, cByte hb ht (s + i) he (by omega) ?_⟩
      rw [nI_1]
      have h5 : s + (i + 1) ≤ lxD B N s := by
        rcases Nat.lt_or_ge (s + i) (lxD B N s) with z | z
        · omega
        · have h6 : pRg 48 57 B N (lxD B N s) = false := skp_stop _ N pRg_N N s (by omega)
          rw [show lxD B N s = s + i by omega, hp] at h6; exact absurd h6 (by decide)
      have f1 : FrC sTok aNo k (cI (cI k 6 4 (((k.1 6 4) * (10 : Int32) + (bI B N (s + i))) - (48 : Int32))) 6 1 ((k.1 6 1) + (1 : Int32))) := (FrC.rf.i_ rfl).i_ rfl
      refine ih (i + 1) _ (by omega) (by omega) h5 (ht.fr f1.six) hs ?_ ?_ (f.tr f1)
      · show k.1 6 1 + 1 = _
        rw [he, nI_1]; rfl
      · show (k.1 6 4) * (10 : Int32) + (bI B N (s + i)) - (48 : Int32) = _
        rw [hv, bI_in ht2.1]
        show nI (vDg B s i) * nI 10 + nI (B (s + i)) - nI 48 = nI (10 * vDg B s i + (B (s + i) - 48))
        rw [pk_mul, nI_add, pk_sub (by omega)]
        congr 1
        omega
    | false =>
      rw [if_neg (by decide)]
      refine br_t rfl ⟨ht.1, cByte hb ht (s + i) he (by omega) (cDigit hb ?_)⟩
      rw [hp, if_neg (by decide)]
      exact br_t rfl (stop i k hle (by omega) hp hs he hv f)
theorem cNum {k : KC} {Q : Int32 → KC → Prop} {s : Nat} (hb : BN B N) (hsN : s ≤ N) (ht : TpC a B N k) (hs : k.1 6 3 = nI s) (he : k.1 6 1 = nI s) (q : ∀ k' r, NmPost B N s k k' r → Q r k') : ∃ n, wC_X6_numberToken a n 0 0 k Q := by
  refine ⟨4 - 0 + 1 + 1, ?_⟩
  rw [wC_X6_numberToken]
  have f1 : FrC sTok aNo k (cI k 6 4 (0 : Int32)) := FrC.rf.i_ rfl
  exact cNum1 hb hsN q _ 0 _ rfl (by omega) lxD_ge (ht.fr f1.six) hs he rfl f1
/-- the token that the class holds -/
def CT (B : Nat → Nat) (N s : Nat) (k : KC) : Prop := k.1 6 3 = nI s ∧ k.1 6 2 = nI (tkN B N s) ∧ (lxT B N s ≠ 4 → k.1 6 1 = nI (lxE B N s)) ∧ (lxT B N s = 1 → wIx B s (lxW B N s - s) < 6 → k.1 6 4 = (-1 : Int32) - nI (wIx B s (lxW B N s - s))) ∧ (lxT B N s = 2 → k.1 6 4 = nI (vDg B s (lxD B N s - s)))
theorem tkN_0 {s : Nat} (h : lxT B N s = 0) : tkN B N s = 0 := if_pos h
theorem tkN_1 {s : Nat} (h : lxT B N s = 1) : tkN B N s = tkW (wIx B s (lxW B N s - s)) := by
  unfold tkN
  rw [h]; rfl
theorem tkN_2 {s : Nat} (h : lxT B N s = 2) : tkN B N s = 2 := by
  unfold tkN
  rw [h]; rfl
theorem tkN_3 {s : Nat} (h : lxT B N s = 3) : tkN B N s = B s := by
  unfold tkN
  rw [h]; rfl
theorem tkN_4 {s : Nat} (h : lxT B N s = 4) : tkN B N s = 1 := by
  unfold tkN
  rw [h]; rfl
def cAdT (a : Nat → Nat) (k_16 : KC) (Q : KC → Prop) : Prop := (tpC a k_16 ∧ (wC_X4_byteAt (k_16.1 6 1) (cI k_16 6 3 (k_16.1 6 1)) (fun r_19 k_19 => ((¬ r_19 = (-1 : Int32) → (wC_X6_isLetter r_19 k_19 (fun r_21 k_21 => ((r_21 = 0 → (wC_X6_isDigit r_19 k_21 (fun r_23 k_23 => ((r_23 = 0 → (wC_J0_indexOf_0f7a4 12 ((r_19.toUInt32 % 65536).toInt32) (cI k_23 6 1 ((k_23.1 6 1) + (1 : Int32))) (fun r_25 k_25 => ((r_25 < 0 → Q (cI k_25 6 2 (1 : Int32))) ∧ (¬ r_25 < 0 → Q (cI k_25 6 2 r_19)))))) ∧ (¬ r_23 = 0 → (∃ n_27 : Nat, wC_X6_numberToken a n_27 0 0 k_23 (fun r_27 k_27 => Q (cI k_27 6 2 r_27)))))))) ∧ (¬ r_21 = 0 → (∃ n_28 : Nat, wC_X6_wordToken a n_28 0 0 k_21 (fun r_28 k_28 => Q (cI k_28 6 2 r_28)))))))) ∧ (r_19 = (-1 : Int32) → Q (cI k_19 6 2 (0 : Int32)))))))
theorem cAdT_ok {k0 k : KC} {Q : KC → Prop} {s : Nat} (hb : BN B N) (hsN : s ≤ N) (ht : TpC a B N k) (he : k.1 6 1 = nI s) (f : FrC sTok aNo k0 k) (q : ∀ k', FrC sTok aNo k0 k' → CT B N s k' → Q k') : cAdT a k Q := by
  have hN := hb.2
  have hBs := hb.1 s
  have f3 : FrC sTok aNo k (cI k 6 3 (k.1 6 1)) := FrC.rf.i_ rfl
  have ht3 := ht.fr f3.six
  refine ⟨ht.1, cByte hb ht3 s he (by omega) ?_⟩
  rw [bI_m1 hb]
  by_cases hlt : s < N
  · refine ⟨fun _ => cLetter hb ?_, fun z => absurd hlt z⟩
    by_cases c1 : pRg 97 122 B N s = true
    · rw [if_pos c1]
      obtain ⟨t1, t2⟩ := lxT_1 c1
      refine br_f n10 (cWord hb hsN ht3 he he (fun k' r hw => ?_))
      obtain ⟨w1, w2, w3, w4, w5⟩ := hw
      refine q _ ((f.tr (f3.tr w1)).i_ rfl) ⟨w3, ?_, fun _ => by rw [t2]; exact w2, fun _ z => w5 z, fun z => by rw [t1] at z; exact absurd z (by decide)⟩
      rw [tkN_1 t1]; exact w4
    · rw [if_neg c1]
      refine br_t rfl (cDigit hb ?_)
      by_cases c2 : pRg 48 57 B N s = true
      · rw [if_pos c2]
        obtain ⟨t1, t2⟩ := lxT_2 c2
        refine br_f n10 (cNum hb hsN ht3 he he (fun k' r hw => ?_))
        obtain ⟨w1, w3, w4, w5⟩ := hw
        by_cases c4 : lxD B N s ≤ s + 4
        · rw [if_pos c4] at t1 w4
          refine q _ ((f.tr (f3.tr w1)).i_ rfl) ⟨w3, ?_, fun _ => by rw [t2]; exact (w5 c4).1, fun z => by rw [t1] at z; exact absurd z (by decide), fun _ => (w5 c4).2⟩
          rw [tkN_2 t1]; exact w4
        · rw [if_neg c4] at t1 w4
          refine q _ ((f.tr (f3.tr w1)).i_ rfl) ⟨w3, ?_, fun z => absurd t1 z, fun z => by rw [t1] at z; exact absurd z (by decide), fun z => by rw [t1] at z; exact absurd z (by decide)⟩
          rw [tkN_4 t1]; exact w4
      · rw [if_neg c2]
        obtain ⟨t1, t2⟩ := lxT_3 hlt c1 c2
        refine br_t rfl ?_
        rw [bI_in hlt, pk_char, pk_tn (by omega), Nat.mod_eq_of_lt (by omega)]
        refine cIndexOf hBs (fun r hr => ?_)
        rw [hr]
        have f4 := f.tr (f3.tr ((FrC.rf (S := sTok) (A := aNo) (k := cI k 6 3 (k.1 6 1))).i_ (i := 6) (j := 1) (v := k.1 6 1 + 1) rfl))
        cases hsg : isSg (B s) with
        | false =>
          rw [hsg, if_neg (by decide)] at t1
          refine br_t rfl (q _ (f4.i_ rfl) ⟨he, ?_, fun z => absurd t1 z, fun z => by rw [t1] at z; exact absurd z (by decide), fun z => by rw [t1] at z; exact absurd z (by decide)⟩)
          rw [tkN_4 t1]; rfl
        | true =>
          rw [hsg, if_pos rfl] at t1
          refine br_f (by decide) (q _ (f4.i_ rfl) ⟨he, ?_, fun _ => ?_, fun z => by rw [t1] at z; exact absurd z (by decide), fun z => by rw [t1] at z; exact absurd z (by decide)⟩)
          · rw [tkN_3 t1]; rfl
          · rw [t2]
            show k.1 6 1 + 1 = _
            rw [he, nI_1]
  · refine ⟨fun z => absurd hlt z, fun _ => ?_⟩
    obtain ⟨t1, t2⟩ := lxT_0 (B := B) (N := N) (s := s) (by omega)
    refine q _ ((f.tr f3).i_ rfl) ⟨he, ?_, fun _ => by rw [t2]; exact he, fun z => by rw [t1] at z; exact absurd z (by decide), fun z => by rw [t1] at z; exact absurd z (by decide)⟩
    rw [tkN_0 t1]; rfl
theorem cAdv1 {k0 : KC} {Q : KC → Prop} {i0 : Nat} (hb : BN B N) (hi0 : i0 ≤ N) (q : ∀ k', FrC sTok aNo k0 k' → CT B N (lxS B N i0) k' → Q k') : ∀ (m i j : Nat) (k : KC), lxS B N i0 - i = m → i ≤ lxS B N i0 → j ≤ i → TpC a B N k → k.1 6 1 = nI i → FrC sTok aNo k0 k → lxS B N i = lxS B N i0 → wC_X6_advance a (m + 1) 1 (nI j) k Q := by
  have hN := hb.2
  have hS := lxS_le (B := B) hi0
  intro m
  induction m with
  | zero =>
    intro i j k hm hi hj ht he f hS
    have e : lxS B N i0 = i := by omega
    rw [e] at q hS
    have hf : pBl B N i = false := by rw [← hS]; exact skp_stop _ N pBl_N N i (by omega)
    rw [wC_X6_advance]
    any_goals (intro h9; exact absurd h9 (by decide))
    have fin : cAdT a k Q := cAdT_ok hb (by omega) ht he f q
    refine br_c (fun _ => fin) (fun _ => ⟨ht.1, cByte hb ht i he (by omega) (cBlank hb ?_)⟩)
    rw [hf, if_neg (by decide)]
    exact br_t rfl fin
  | succ m ih =>
    intro i j k hm hi hj ht he f hS
    have hp : pBl B N i = true := by
      cases hp : pBl B N i with
      | true => rfl
      | false => have : lxS B N i = i := skp_halt _ _ hp; omega
    rw [wC_X6_advance]
    any_goals (intro h9; exact absurd h9 (by decide))
    refine br_f (nI_ge (a := j) (b := 160) (by omega) (by decide)) ⟨ht.1, cByte hb ht i he (by omega) (cBlank hb ?_)⟩
    rw [hp, if_pos rfl]
    refine br_f n10 ?_
    rw [nI_1]
    have f1 : FrC sTok aNo k (cI k 6 1 (k.1 6 1 + 1)) := FrC.rf.i_ rfl
    refine ih (i + 1) (j + 1) _ (by omega) (by omega) (by omega) (ht.fr f1.six) ?_ (f.tr f1) (by rw [← hS]; exact (skp_step _ N pBl_N hp).symm)
    show k.1 6 1 + 1 = _
    rw [he, nI_1]
theorem cAdv {k : KC} {Q : KC → Prop} {i : Nat} (hb : BN B N) (hi : i ≤ N) (ht : TpC a B N k) (h7 : k.1 6 7 = -1) (he : k.1 6 1 = nI i) (q : ∀ k', FrC sTok aNo k k' → CT B N (lxS B N i) k' → Q k') : ∃ n, wC_X6_advance a n 0 0 k Q := by
  refine ⟨lxS B N i - i + 1 + 1, ?_⟩
  rw [wC_X6_advance]
  exact br_t h7 (cAdv1 hb hi q _ i 0 k rfl lxS_ge (Nat.zero_le _) ht he FrC.rf rfl)
theorem cAdvF {k : KC} {Q : KC → Prop} (h7 : ¬ k.1 6 7 = -1) (q : Q k) : ∃ n, wC_X6_advance a n 0 0 k Q := by
  refine ⟨1, ?_⟩
  rw [wC_X6_advance]
  exact br_f h7 q
end CLex
