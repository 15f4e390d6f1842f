/-! ===== what the class reckons of a TEXT ===== -/
def StkC (S : Nat → Int32) : List Int32 → Prop
  | [] => True
  | v :: r => S r.length = v ∧ StkC S r
theorem StkC.upd {S : Nat → Int32} {x : Int32} : ∀ {st : List Int32} {i : Nat}, StkC S st → st.length ≤ i → StkC (upd S i x) st
  | [], _, _, _ => trivial
  | v :: r, i, h, hi => by
    have hi2 : r.length + 1 ≤ i := hi
    exact ⟨by rw [pk_un (by omega)]; exact h.1, StkC.upd h.2 (by omega)⟩
def sScr (x y : Nat) : Bool := Nat.beq x 1 && bor y 9 (bor y 10 false)
theorem i6 (x : Int32) : -6 ≤ x ↔ -6 ≤ x.toInt := Int32.le_iff_toInt_le
theorem i12 (x : Int32) : -12 ≤ x ↔ -12 ≤ x.toInt := Int32.le_iff_toInt_le
theorem cByOne {x a : Int32} {k : KC} {Q : Int32 → KC → Prop} (q : Q (unI x a) k) : wC_X5_byOne x a k Q := by
  unfold unI at q
  unfold wC_X5_byOne
  refine ⟨fun n => ⟨fun n0 => ?_, fun y0 => ?_⟩, fun y => ?_⟩
  · rw [if_neg n, if_neg n0] at q; exact q
  · rw [if_neg n, if_pos y0] at q; exact q
  · rw [if_pos y] at q; exact q
theorem cByTwo {x a b : Int32} {k : KC} {Q : Int32 → KC → Prop} (q : Q (biI x a b) k) : wC_X5_byTwo x a b k Q := by
  unfold biI at q
  unfold wC_X5_byTwo
  refine ⟨fun e => ?_, fun e => ?_, fun e => ?_, fun e => ?_, fun e => ?_, fun e => ?_, fun e1 e2 e3 e4 e5 e6 => ?_⟩
  · subst e
    rw [if_neg (by decide), if_neg (by decide), if_neg (by decide), if_neg (by decide), if_neg (by decide), if_pos rfl] at q; exact q
  · subst e
    rw [if_neg (by decide), if_neg (by decide), if_neg (by decide), if_neg (by decide), if_pos rfl] at q; exact q
  · subst e
    rw [if_neg (by decide), if_neg (by decide), if_neg (by decide), if_pos rfl] at q
    exact ⟨fun n => by rw [if_neg n] at q; exact q, fun y => by rw [if_pos y] at q; exact q⟩
  · subst e
    rw [if_neg (by decide), if_neg (by decide), if_pos rfl] at q
    exact ⟨fun y => by rw [if_pos y] at q; exact q, fun n => by rw [if_neg n] at q; exact q⟩
  · subst e
    rw [if_neg (by decide), if_pos rfl] at q
    exact ⟨fun y => by rw [if_pos y] at q; exact q, fun n => ⟨fun y => by rw [if_neg n, if_pos y] at q; exact q, fun n2 => by rw [if_neg n, if_neg n2] at q; exact q⟩⟩
  · subst e
    rw [if_pos rfl] at q
    exact ⟨fun y => by rw [if_pos y] at q; exact q, fun n => ⟨fun y => by rw [if_neg (fun z => z n), if_pos y] at q; exact q, fun n2 => by rw [if_neg (fun z => z n), if_neg n2] at q; exact q⟩⟩
  · rw [if_neg e6, if_neg e5, if_neg e4, if_neg e3, if_neg e2, if_neg e1] at q; exact q
theorem clampI {x : Int32} {n : Nat} (h : x.toInt = n) : x = nI n := by
  have := x.toInt_lt
  have h2 : (nI n).toInt = (n : Int) := nI_toInt (by omega)
  exact Int32.toInt_inj.mp (h.trans h2.symm)
theorem subm1 {x : Int32} (h : -6 ≤ x) (h0 : x < 0) : ∃ j, j < 6 ∧ (-1 : Int32) - x = nI j := by
  rw [i6] at h
  rw [Int32.lt_iff_toInt_lt] at h0
  have e0 : (0 : Int32).toInt = 0 := by decide
  have e : ((-1 : Int32) - x).toInt = -1 - x.toInt := by
    rw [Int32.toInt_sub]
    have e1 : (-1 : Int32).toInt = -1 := by decide
    rw [e1]
    exact Int.bmod_eq_of_le (by omega) (by omega)
  exact ⟨(-1 - x.toInt).toNat, by omega, clampI (by rw [e]; omega)⟩
theorem exL_cons {nm : Nat → Int32} {x : Int32} {c st : List Int32} : exL nm (x :: c) st = exL nm c (stp nm st x) := rfl
section Rk
variable {d : Dn} {k : KC} {Q : Int32 → KC → Prop} {nm : Nat → Int32} {v : Int32} {w b e : Nat}
theorem rkLoop (hd : d ∈ txC k) (hw : w < 3) (hE : d.2.2.2.2.2 (w + 1) = nI e) (hsz : e ≤ d.2.2.2.1) (hsz2 : d.2.2.2.1 ≤ 160) (hnm : ∀ j, j < 6 → k.2.1 1 9 j = nm j) (q : ∀ k', FrC aNo sScr k k' → Q v k') :
    ∀ (c st : List Int32) (i n : Nat) (k' : KC), 2 * c.length + 1 ≤ n → st.length ≤ i → i + c.length ≤ 160 → b + i + c.length = e → (∀ j, j < c.length → d.2.2.2.2.1 (b + i + j) = c.getD j 0) → StkC (k'.2.1 1 10) st → FrC aNo sScr k k' → k'.2.1 1 9 = k.2.1 1 9 → exL nm c st = [v] → wC_X5_reckon d n 1 (nI w) (nI st.length) (nI (b + i)) 0 k' Q := by
  intro c
  induction c with
  | nil =>
    intro st i n k' hn hst hi he hr hS f f9 hx
    obtain ⟨n, rfl⟩ : ∃ m, n = m + 1 := ⟨n - 1, by omega⟩
    have hx2 : st = [v] := hx
    subst hx2
    rw [wC_X5_reckon, nI_1, nI_clamp (by omega), hE]
    have he2 : b + i = e := by simpa using he
    refine ⟨by rw [show txC k' = txC k by unfold txC; rw [f.2.2]]; exact hd, vp_in_nI (by omega) (by decide), br_t (nI_le (by omega) (by omega)) ?_⟩
    have hS0 : k'.2.1 1 10 0 = v := hS.1
    rw [hS0]
    exact q k' f
  | cons x c ih =>
    intro st i n k' hn hst hi he hr hS f f9 hx
    have hlen : (x :: c).length = c.length + 1 := rfl
    rw [hlen] at hn hi he hr
    obtain ⟨n, rfl⟩ : ∃ m, n = m + 2 := ⟨n - 2, by omega⟩
    have hxr : d.2.2.2.2.1 (b + i) = x := hr 0 (by omega)
    have hr2 : ∀ j, j < c.length → d.2.2.2.2.1 (b + (i + 1) + j) = c.getD j 0 := fun j hj => by
      have := hr (j + 1) (by omega)
      rw [show b + i + (j + 1) = b + (i + 1) + j by omega] at this
      exact this
    have hS6 : (x < (-6 : Int32)) ↔ ¬ -6 ≤ x := (i_nle _ _).symm
    have hS12 : (x < (-12 : Int32)) ↔ ¬ -12 ≤ x := (i_nle _ _).symm
    rw [exL_cons] at hx
    unfold stp at hx
    rw [wC_X5_reckon, nI_1, nI_clamp (by omega), hE]
    refine ⟨by rw [show txC k' = txC k by unfold txC; rw [f.2.2]]; exact hd, vp_in_nI (by omega) (by decide), br_f (nI_ge (by omega) (by omega)) ⟨vp_in_nI (by omega) (by omega), ?_⟩⟩
    rw [nI_clamp (by omega), hxr, hS6, hS12]
    have two : (¬ -6 ≤ x) → (¬ -12 ≤ x) → wC_X5_reckon d (n + 1) 2 (nI w) (nI st.length) (nI (b + i)) x k' Q := by
      intro h6 h12
      rw [if_neg h6, if_neg h12] at hx
      rw [wC_X5_reckon]
      any_goals (intro h9; exact absurd h9 (by decide))
      match st, hst, hS, hx with
      | [], hst, hS, hx =>
        refine br_t (by decide) ?_
        rw [nI_1]
        exact ih [] (i + 1) n k' (by omega) (by omega) (by omega) (by omega) hr2 hS f f9 hx
      | [a1], hst, hS, hx =>
        refine br_t (show nI 1 < 2 by decide) ?_
        rw [nI_1]
        exact ih [a1] (i + 1) n k' (by omega) (Nat.le_succ_of_le hst) (by omega) (by omega) hr2 hS f f9 hx
      | b1 :: a1 :: r, hst, hS, hx =>
        have hst2 : r.length + 2 ≤ i := hst
        have e1 : nI (b1 :: a1 :: r).length + (-1) = nI (r.length + 1) := pk_m1 (r.length + 1)
        have e2 : nI (r.length + 1) - 1 = nI r.length := nI_pred r.length
        refine br_f (nI_nlt (a := (b1 :: a1 :: r).length) (b := 2) (by show 2 ≤ r.length + 2; omega) (by show r.length + 2 < _; omega)) ?_
        rw [e1, e2, nI_clamp (by omega), nI_clamp (by omega)]
        refine ⟨vp_in_nI (by omega) (by decide), vp_in_nI (by omega) (by decide), ?_⟩
        have s1 : k'.2.1 1 10 (r.length + 1) = b1 := hS.1
        have s2 : k'.2.1 1 10 r.length = a1 := hS.2.1
        rw [s1, s2]
        refine cByTwo ⟨vp_in_nI (by omega) (by decide), ?_⟩
        rw [nI_1]
        have fz : FrC aNo sScr k' (cA k' 1 10 (upd (k'.2.1 1 10) r.length (biI x a1 b1))) := FrC.rf.a_ rfl
        refine ih (biI x a1 b1 :: r) (i + 1) n _ (by omega) (by show r.length + 1 ≤ _; omega) (by omega) (by omega) hr2 ⟨?_, hS.2.2.upd (Nat.le_refl _)⟩ (f.tr fz) f9 hx
        show upd (k'.2.1 1 10) r.length _ r.length = _
        rw [pk_us]
    have one : (¬ -6 ≤ x) → (-12 ≤ x) → ((nI st.length < (1 : Int32) → wC_X5_reckon d (n + 1) 2 (nI w) (nI st.length) (nI (b + i)) x k' Q) ∧ (¬ nI st.length < (1 : Int32) → (vp_in (nI st.length - (1 : Int32)) 160 ∧ (wC_X5_byOne x (k'.2.1 1 10 (nI st.length - (1 : Int32)).toNatClampNeg) k' (fun r_7 k_7 => (vp_in (nI st.length - (1 : Int32)) 160 ∧ wC_X5_reckon d (n + 1) 1 (nI w) (nI st.length) (nI (b + i) + (1 : Int32)) 0 (cA k_7 1 10 (upd (k_7.2.1 1 10) (nI st.length - (1 : Int32)).toNatClampNeg r_7)) Q)))))) := by
      intro h6 h12
      rw [if_neg h6, if_pos h12] at hx
      match st, hst, hS, hx with
      | [], hst, hS, hx =>
        refine br_t (by decide) ?_
        rw [wC_X5_reckon]
        any_goals (intro h9; exact absurd h9 (by decide))
        refine br_t (by decide) ?_
        rw [nI_1]
        exact ih [] (i + 1) n k' (by omega) (by omega) (by omega) (by omega) hr2 hS f f9 hx
      | a1 :: r, hst, hS, hx =>
        have hst2 : r.length + 1 ≤ i := hst
        have e2 : nI (a1 :: r).length - 1 = nI r.length := nI_pred r.length
        refine br_f (nI_nlt (a := (a1 :: r).length) (b := 1) (by show 1 ≤ r.length + 1; omega) (by show r.length + 1 < _; omega)) ?_
        rw [e2, nI_clamp (by omega), nI_1]
        have s1 : k'.2.1 1 10 r.length = a1 := hS.1
        rw [s1]
        refine ⟨vp_in_nI (by omega) (by decide), cByOne ⟨vp_in_nI (by omega) (by decide), ?_⟩⟩
        have fz : FrC aNo sScr k' (cA k' 1 10 (upd (k'.2.1 1 10) r.length (unI x a1))) := FrC.rf.a_ rfl
        refine ih (unI x a1 :: r) (i + 1) (n + 1) _ (by omega) (by show r.length + 1 ≤ _; omega) (by omega) (by omega) hr2 ⟨?_, hS.2.upd (Nat.le_refl _)⟩ (f.tr fz) f9 hx
        show upd (k'.2.1 1 10) r.length _ r.length = _
        rw [pk_us]
    refine ⟨fun h6 => ⟨fun h12 => two h6 h12, fun h12 => one h6 (Classical.byContradiction h12)⟩, fun h6 => ?_⟩
    have h6 : -6 ≤ x := Classical.byContradiction h6
    refine br_f (nI_ge (a := st.length) (b := 160) (by omega) (by decide)) ?_
    rw [if_pos h6] at hx
    rw [nI_1, nI_1]
    refine ⟨fun h0 => ?_, fun h0 => ?_⟩
    · obtain ⟨j, hj, ej⟩ := subm1 h6 h0
      rw [if_neg ((i_nle _ _).mpr h0), ej, nI_clamp (by omega)] at hx
      rw [ej, nI_clamp (by omega), nI_clamp (by omega), f9, hnm j hj]
      refine ⟨vp_in_nI hj (by decide), vp_in_nI (by omega) (by decide), ?_⟩
      have fz : FrC aNo sScr k' (cA k' 1 10 (upd (k'.2.1 1 10) st.length (nm j))) := FrC.rf.a_ rfl
      refine ih (nm j :: st) (i + 1) (n + 1) _ (by omega) (by show st.length + 1 ≤ _; omega) (by omega) (by omega) hr2 ⟨?_, hS.upd (Nat.le_refl _)⟩ (f.tr fz) f9 hx
      show upd (k'.2.1 1 10) st.length _ st.length = _
      rw [pk_us]
    · rw [if_pos ((i_nlt _ _).mp h0)] at hx
      rw [nI_clamp (by omega)]
      refine ⟨vp_in_nI (by omega) (by decide), ?_⟩
      have fz : FrC aNo sScr k' (cA k' 1 10 (upd (k'.2.1 1 10) st.length x)) := FrC.rf.a_ rfl
      refine ih (x :: st) (i + 1) (n + 1) _ (by omega) (by show st.length + 1 ≤ _; omega) (by omega) (by omega) hr2 ⟨?_, hS.upd (Nat.le_refl _)⟩ (f.tr fz) f9 hx
      show upd (k'.2.1 1 10) st.length _ st.length = _
      rw [pk_us]
end Rk
/-- the worth of code -/
def evT (nm : Nat → Int32) (c : List Int32) : Int32 := (exL nm c []).headD 0
theorem Ev.val {nm : Nat → Int32} {c : List Int32} {v : Int32} (h : Ev nm c v) : evT nm c = v := by
  unfold evT
  rw [h []]; rfl
theorem WfC.one {c : List Int32} (h : WfC c) (nm : Nat → Int32) : exL nm c [] = [evT nm c] := by
  obtain ⟨v, hv⟩ := h nm
  rw [hv.val, hv []]
/-- a TEXT that the class has -/
def TextC (k : KC) (r : Nat) (cs : Nat → List Int32) : Prop := ∃ d : Dn, k.2.2.2.1 r = some d.1 ∧ d ∈ txC k ∧ TxD d cs
def nmC (k : KC) (i : Nat) (s sum worth trial : Int32) (j : Nat) : Int32 := match j with
  | 0 => k.2.1 i 1 s.toNatClampNeg
  | 1 => sum
  | 2 => worth
  | 3 => k.2.1 1 3 s.toNatClampNeg
  | 4 => k.1 i 7
  | _ => trial
