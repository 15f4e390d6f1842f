/-! ===== a TRIAL on both sides ===== -/
def onU (n : Nat) (set : Int32) (f h : Nat → Int32) : Nat → Int32 := fun s => if s < n ∧ isO set s = true then h s else f s
theorem onU_0 {set : Int32} {f h : Nat → Int32} : onU 0 set f h = f := by
  funext s
  show (if s < 0 ∧ isO set s = true then h s else f s) = f s
  rw [if_neg (fun z => absurd z.1 (Nat.not_lt_zero s))]
theorem onU_on {j : Nat} {set : Int32} {f h : Nat → Int32} (ho : isO set j = true) : upd (onU j set f h) j (h j) = onU (j + 1) set f h := by
  funext s
  show (if s = j then h j else if s < j ∧ isO set s = true then h s else f s) = if s < j + 1 ∧ isO set s = true then h s else f s
  by_cases e : s = j
  · subst e
    rw [if_pos rfl, if_pos ⟨Nat.lt_succ_self s, ho⟩]
  · rw [if_neg e]
    by_cases c : s < j ∧ isO set s = true
    · rw [if_pos c, if_pos ⟨by omega, c.2⟩]
    · rw [if_neg c, if_neg (fun z => c ⟨by omega, z.2⟩)]
theorem onU_off {j : Nat} {set : Int32} {f h : Nat → Int32} (ho : ¬ isO set j = true) : onU (j + 1) set f h = onU j set f h := by
  funext s
  show (if s < j + 1 ∧ isO set s = true then h s else f s) = if s < j ∧ isO set s = true then h s else f s
  by_cases c : s < j ∧ isO set s = true
  · rw [if_pos c, if_pos ⟨by omega, c.2⟩]
  · rw [if_neg c, if_neg (fun z => c ⟨by
      rcases Nat.lt_or_ge s j with y | y
      · exact y
      · have : s = j := by omega
        rw [this] at z; exact absurd z.2 ho, z.2⟩)]
theorem onU_j {j : Nat} {set : Int32} {f h : Nat → Int32} : onU j set f h j = f j := if_neg (fun z => absurd z.1 (Nat.lt_irrefl j))
def trE (n : Nat) (set : Int32) (e : Nat) (f : Nat → Int32) : Nat → Int32 := fun x => if x % 4 = e ∧ x / 4 < n ∧ isO set (x / 4) = true then f x + 1 else f x
theorem trE_0 {set : Int32} {e : Nat} {f : Nat → Int32} : trE 0 set e f = f := by
  funext x
  exact if_neg (fun z => absurd z.2.1 (Nat.not_lt_zero _))
theorem trE_j {j e : Nat} {set : Int32} {f : Nat → Int32} (he : e < 4) : trE j set e f (4 * j + e) = f (4 * j + e) := if_neg (fun z => by have := z.2.1; omega)
theorem trE_on {j e : Nat} {set : Int32} {f : Nat → Int32} (he : e < 4) (ho : isO set j = true) : upd (trE j set e f) (4 * j + e) (f (4 * j + e) + 1) = trE (j + 1) set e f := by
  funext x
  show (if x = 4 * j + e then f (4 * j + e) + 1 else if x % 4 = e ∧ x / 4 < j ∧ isO set (x / 4) = true then f x + 1 else f x) = if x % 4 = e ∧ x / 4 < j + 1 ∧ isO set (x / 4) = true then f x + 1 else f x
  by_cases c : x = 4 * j + e
  · have h1 : x % 4 = e := by omega
    have h2 : x / 4 = j := by omega
    rw [if_pos c, if_pos ⟨h1, by omega, by rw [h2]; exact ho⟩, c]
  · rw [if_neg c]
    by_cases d : x % 4 = e ∧ x / 4 < j ∧ isO set (x / 4) = true
    · rw [if_pos d, if_pos ⟨d.1, by omega, d.2.2⟩]
    · rw [if_neg d, if_neg (fun z => d ⟨z.1, by omega, z.2.2⟩)]
theorem trE_off {j e : Nat} {set : Int32} {f : Nat → Int32} (ho : ¬ isO set j = true) : trE (j + 1) set e f = trE j set e f := by
  funext x
  show (if x % 4 = e ∧ x / 4 < j + 1 ∧ isO set (x / 4) = true then f x + 1 else f x) = if x % 4 = e ∧ x / 4 < j ∧ isO set (x / 4) = true then f x + 1 else f x
  by_cases d : x % 4 = e ∧ x / 4 < j ∧ isO set (x / 4) = true
  · rw [if_pos d, if_pos ⟨d.1, by omega, d.2.2⟩]
  · rw [if_neg d, if_neg (fun z => d ⟨z.1, by
      rcases Nat.lt_or_ge (x / 4) j with y | y
      · exact y
      · have : x / 4 = j := by omega
        rw [this] at z; exact absurd z.2.2 ho, z.2.2⟩)]
def gainV (w : Wd) (m : Md) (e : Nat) (sum : Int32) (s : Nat) : Int32 := ((((wwo w e - sum) * loudT (wkd w s) (mon m s)) / 100 * mpc m) / 100 * wgo w (wkd w s * 4 + nI e).toNatClampNeg) / 100 * bounI (evt (wcs w) 0 (mst m s) sum (wwo w e) (wkd w s) (mdy m) (mtd m)) 0 400 / 100
def smV (w : Wd) (m : Md) (set : Int32) : Int32 := sumT (wn w) (mst m) (wli w) set
def trM (w : Wd) (m : Md) (set : Int32) (e : Nat) : Md := (onU (wn w) set (mst m) (fun s => bounI (mst m s + gainV w m e (smV w m set) s) (-9999) 9999), onU (wn w) set (mon m) (fun s => mon m s + 1), mdy m, mtd m + 1, mpc m)
theorem trM_ok {w : Wd} {m : Md} {u e : Nat} {set : Int32} (h : MOk u m) : MOk (u + 1) (trM w m set e) := by
  intro s hs
  obtain ⟨j, hj, ej⟩ := h s hs
  show ∃ j, j ≤ u + 1 ∧ onU (wn w) set (mon m) (fun s => mon m s + 1) s = nI j
  unfold onU
  by_cases c : s < wn w ∧ isO set s = true
  · rw [if_pos c]
    show ∃ j, j ≤ u + 1 ∧ mon m s + 1 = nI j
    rw [ej, nI_1]; exact ⟨j + 1, by omega, rfl⟩
  · rw [if_neg c]; exact ⟨j, by omega, ej⟩
/-! ## rows of one object -/
theorem cA_s {k : KC} {i j : Nat} {f : Nat → Int32} : (cA k i j f).2.1 i j = f := by
  show (bif Nat.beq i i && Nat.beq j j then f else k.2.1 i j) = f
  rw [Nat.beq_refl, Nat.beq_refl]; rfl
theorem cA_y {k : KC} {i j x y : Nat} {f : Nat → Int32} (h : Nat.beq y j = false) : (cA k i j f).2.1 x y = k.2.1 x y := by
  show (bif Nat.beq x i && Nat.beq y j then f else k.2.1 x y) = k.2.1 x y
  rw [h, Bool.and_false]; rfl
theorem cI_s {k : KC} {i j : Nat} {v : Int32} : (cI k i j v).1 i j = v := by
  show (bif Nat.beq i i && Nat.beq j j then v else k.1 i j) = v
  rw [Nat.beq_refl, Nat.beq_refl]; rfl
theorem cI_y {k : KC} {i j x y : Nat} {v : Int32} (h : Nat.beq y j = false) : (cI k i j v).1 x y = k.1 x y := by
  show (bif Nat.beq x i && Nat.beq y j then v else k.1 x y) = k.1 x y
  rw [h, Bool.and_false]; rfl
theorem oMd_i {i y : Nat} : oMd i i y = true := Nat.beq_refl i
theorem aMd_i {i y : Nat} : aMd i i y = true := by
  unfold aMd
  rw [Nat.beq_refl]; rfl
theorem sScr_i {i y : Nat} (hi : i = 2 ∨ i = 4) : sScr i y = false := by
  rcases hi with rfl | rfl <;> rfl
section CTr
variable {w : Wd} {m : Md} {r i u e : Nat} {k : KC} {set sum : Int32}
theorem cGain {Q : Int32 → KC → Prop} {s : Nat} {v : Int32} (hw : WOk w) (hk : WC w r k) (hm : MC i r m k) (ho : MOk u m) (hu : u < 2 ^ 30) (he : e < 4) (hs : s < 8) (hv : v = bounI (evt (wcs w) 0 (mst m s) sum (wwo w e) (wkd w s) (mdy m) (mtd m)) 0 400) (q : Q (gainV w m e sum s) k) : wC_X0_gainOf i (nI s) (nI e) (wwo w e - sum) v k Q := by
  subst hv
  obtain ⟨c, hc, ec⟩ := hw.2.1 s hs
  unfold wC_X0_gainOf
  obtain ⟨o, ho1, ho2⟩ := ho s hs
  refine cLoud hk.2.1 hm.2.1 hs ⟨o, by omega, ho2⟩ (fun v2 e2 => ?_)
  subst e2
  rw [hm.2.2.2.2.1, nI_clamp (by omega), hk.2.1, hk.2.2.2.1]
  have ei : wkd w s * 4 + nI e = nI (c * 4 + e) := by
    rw [ec]
    show nI c * nI 4 + nI e = _
    rw [pk_mul, nI_add]
  refine ⟨vp_in_nI hs (by decide), by rw [ei]; exact vp_in_nI (by omega) (by decide), fun v3 e3 => ?_⟩
  subst e3
  exact q
theorem cTrial {Q : Int32 → KC → Prop} (hw : WOk w) (hk : WC w r k) (hm : MC i r m k) (hi : i = 2 ∨ i = 4) (ho : MOk u m) (hu : u < 2 ^ 30) (he : e < 4)
    (q : ∀ k', FrC (oMd i) (aMd i) k k' → MC i r (trM w m set e) k' → k'.2.1 i 3 = trE (wn w) set e (k.2.1 i 3) → k'.2.1 i 4 = upd (k.2.1 i 4) e (k.2.1 i 4 e + 1) → k'.2.1 i 6 = k.2.1 i 6 → (∀ s, s < wn w → isO set s = true → k'.2.1 i 5 s = gainV w m e (smV w m set) s) → Q (wwo w e - smV w m set) k') : ∃ n, wC_X0_goThroughTrial i n 0 set (nI e) 0 0 0 k Q := by
  have h8 := hw.1
  have hi1 : i ≠ 1 := by rcases hi with rfl | rfl <;> decide
  -- the second loop
  have L2 : ∀ (c j : Nat) (k1 k2 : KC), wn w - j = c → j ≤ wn w → FrC (oMd i) (aMd i) k k2 → WC w r k2 →
      k2.2.1 i 1 = onU j set (mst m) (fun s => bounI (mst m s + gainV w m e (smV w m set) s) (-9999) 9999) → k2.2.1 i 2 = onU j set (mon m) (fun s => mon m s + 1) → k2.2.1 i 3 = trE j set e (k.2.1 i 3) → k2.2.1 i 4 = k.2.1 i 4 → k2.2.1 i 6 = k.2.1 i 6 → (∀ s, s < wn w → isO set s = true → k2.2.1 i 5 s = gainV w m e (smV w m set) s) → k2.1 i 7 = mdy m → k2.1 i 8 = mtd m → k2.1 i 9 = mpc m → k2.1 i 10 = nI r →
      wC_X0_goThroughTrial i (c + 1) 2 set (nI e) 0 (wwo w e - smV w m set) (nI j) k2 Q := by
    intro c
    induction c with
    | zero =>
      intro j k1 k2 hc hj f hk2 e1 e2 e3 e4 e6 e5 e7 e8 e9 e10
      rw [wC_X0_goThroughTrial]
      any_goals (intro h9; exact absurd h9 (by decide))
      have ej : j = wn w := by omega
      subst ej
      rw [hk2.1, nI_clamp (by omega)]
      refine br_t (nI_le (Nat.le_refl _) (by omega)) ⟨vp_in_nI he (by decide), vp_in_nI he (by decide), q _ ((f.a_ aMd_i).i_ oMd_i) ?_ ?_ ?_ ?_ ?_⟩
      · refine ⟨?_, ?_, ?_, ?_, ?_, ?_⟩
        · show (cA k2 i 4 _).2.1 i 1 = _
          rw [cA_y rfl]; exact e1
        · show (cA k2 i 4 _).2.1 i 2 = _
          rw [cA_y rfl]; exact e2
        · rw [cI_y rfl]; exact e7
        · rw [cI_s, e8]; rfl
        · rw [cI_y rfl]; exact e9
        · rw [cI_y rfl]; exact e10
      · show (cA k2 i 4 _).2.1 i 3 = _
        rw [cA_y rfl]; exact e3
      · show (cA k2 i 4 _).2.1 i 4 = _
        rw [cA_s, e4]
      · show (cA k2 i 4 _).2.1 i 6 = _
        rw [cA_y rfl]; exact e6
      · intro s hs hos
        show (cA k2 i 4 _).2.1 i 5 s = _
        rw [cA_y rfl]; exact e5 s hs hos
    | succ c ih =>
      intro j k1 k2 hc hj f hk2 e1 e2 e3 e4 e6 e5 e7 e8 e9 e10
      rw [wC_X0_goThroughTrial]
      any_goals (intro h9; exact absurd h9 (by decide))
      rw [hk2.1]
      refine br_f (nI_ge (by omega) (by omega)) (cIsOn ?_)
      rw [nI_1, nI_clamp (by omega)]
      by_cases h : isO set j = true
      · rw [if_pos h]
        refine br_f n10 ⟨vp_in_nI (by omega) (by decide), vp_in_nI (by omega) (by decide), cBounded ?_⟩
        have ei : nI j * (4 : Int32) + nI e = nI (4 * j + e) := by
          show nI j * nI 4 + nI e = _
          rw [pk_mul, nI_add, Nat.mul_comm]
        rw [ei, nI_clamp (by omega)]
        refine ⟨vp_in_nI (by omega) (by decide), vp_in_nI (by omega) (by decide), vp_in_nI (by omega) (by decide), vp_in_nI (by omega) (by decide), vp_in_nI (by omega) (by decide), ?_⟩
        have a2 : (cA k2 i 1 (upd (k2.2.1 i 1) j (bounI (k2.2.1 i 1 j + k2.2.1 i 5 j) (-9999) 9999))).2.1 i 2 = k2.2.1 i 2 := cA_y rfl
        rw [a2]
        have a3 : (cA (cA k2 i 1 (upd (k2.2.1 i 1) j (bounI (k2.2.1 i 1 j + k2.2.1 i 5 j) (-9999) 9999))) i 2 (upd (k2.2.1 i 2) j (k2.2.1 i 2 j + 1))).2.1 i 3 = k2.2.1 i 3 := by rw [cA_y rfl, cA_y rfl]
        rw [a3]
        have fz : FrC (oMd i) (aMd i) k2 (cA (cA (cA k2 i 1 (upd (k2.2.1 i 1) j (bounI (k2.2.1 i 1 j + k2.2.1 i 5 j) (-9999) 9999))) i 2 (upd (k2.2.1 i 2) j (k2.2.1 i 2 j + 1))) i 3 (upd (k2.2.1 i 3) (4 * j + e) (k2.2.1 i 3 (4 * j + e) + 1))) := ((FrC.rf.a_ aMd_i).a_ aMd_i).a_ aMd_i
        refine ih (j + 1) k1 _ (by omega) (by omega) (f.tr fz) (hk2.fr hi fz) ?_ ?_ ?_ ?_ ?_ ?_ e7 e8 e9 e10
        · rw [cA_y rfl, cA_y rfl, cA_s, e1, e5 j (by omega) h, onU_j]
          exact onU_on (h := fun s => bounI (mst m s + gainV w m e (smV w m set) s) (-9999) 9999) h
        · rw [cA_y rfl, cA_s, e2, onU_j]
          exact onU_on (h := fun s => mon m s + 1) h
        · rw [cA_s, e3, trE_j he]
          exact trE_on he h
        · rw [cA_y rfl, cA_y rfl, cA_y rfl]; exact e4
        · rw [cA_y rfl, cA_y rfl, cA_y rfl]; exact e6
        · intro s hs hos
          rw [cA_y rfl, cA_y rfl, cA_y rfl]; exact e5 s hs hos
      · rw [if_neg h]
        refine br_t rfl (ih (j + 1) k1 k2 (by omega) (by omega) f hk2 ?_ ?_ ?_ e4 e6 e5 e7 e8 e9 e10)
        · rw [e1, onU_off h]
        · rw [e2, onU_off h]
        · rw [e3, trE_off h]
  -- the first loop
  have L1 : ∀ (c j : Nat) (k1 : KC), wn w - j = c → j ≤ wn w → FrC (oMd i) (aMd i) k k1 → WC w r k1 → MC i r m k1 → k1.2.1 i 3 = k.2.1 i 3 → k1.2.1 i 4 = k.2.1 i 4 → k1.2.1 i 6 = k.2.1 i 6 → (∀ s, s < j → isO set s = true → k1.2.1 i 5 s = gainV w m e (smV w m set) s) → wC_X0_goThroughTrial i (c + (wn w + 2)) 1 set (nI e) (smV w m set) (wwo w e - smV w m set) (nI j) k1 Q := by
    intro c
    induction c with
    | zero =>
      intro j k1 hc hj f hk1 hm1 e3 e4 e6 e5
      rw [show 0 + (wn w + 2) = wn w + 1 + 1 by omega, wC_X0_goThroughTrial]
      have ej : j = wn w := by omega
      subst ej
      rw [hk1.1]
      refine br_t (nI_le (Nat.le_refl _) (by omega)) ?_
      have fin := L2 (wn w - 0) 0 k1 k1 rfl (Nat.zero_le _) f hk1 (by rw [onU_0]; exact hm1.1) (by rw [onU_0]; exact hm1.2.1) (by rw [trE_0]; exact e3) e4 e6 e5 hm1.2.2.1 hm1.2.2.2.1 hm1.2.2.2.2.1 hm1.2.2.2.2.2
      exact fin
    | succ c ih =>
      intro j k1 hc hj f hk1 hm1 e3 e4 e6 e5
      rw [show c + 1 + (wn w + 2) = c + (wn w + 2) + 1 by omega, wC_X0_goThroughTrial, hk1.1]
      refine br_f (nI_ge (by omega) (by omega)) (cIsOn ?_)
      rw [nI_1]
      by_cases h : isO set j = true
      · rw [if_pos h, nI_clamp (n := e) (by omega), hk1.2.2.1, hm1.2.2.2.1]
        refine br_f n10 ⟨vp_in_nI he (by decide), cSays (w := 0) hk1.2.2.2.2.2.1 hw.2.2.2 hm1.2.2.2.2.2 hk1.2.2.2.2.2.2 hi1 (by decide) (by omega) (fun k2 f2 => cBounded ?_)⟩
        rw [hm1.1, hk1.2.1, hm1.2.2.1]
        have hk2 := hk1.fr hi f2.scr
        have hm2 := hm1.fr hi f2
        refine cGain hw hk2 hm2 ho hu he (by omega) rfl ⟨vp_in_nI (by omega) (by decide), ?_⟩
        rw [nI_clamp (by omega)]
        have fz : FrC (oMd i) (aMd i) k2 (cA k2 i 5 (upd (k2.2.1 i 5) j (gainV w m e (smV w m set) j))) := FrC.rf.a_ aMd_i
        have g2 : ∀ y, k2.2.1 i y = k1.2.1 i y := fun y => f2.2.1 i y (sScr_i hi)
        refine ih (j + 1) _ (by omega) (by omega) (f.tr (f2.scr.tr fz)) (hk2.fr hi fz) ⟨?_, ?_, hm2.2.2.1, hm2.2.2.2.1, hm2.2.2.2.2.1, hm2.2.2.2.2.2⟩ ?_ ?_ ?_ ?_
        · rw [cA_y rfl]; exact hm2.1
        · rw [cA_y rfl]; exact hm2.2.1
        · rw [cA_y rfl, g2]; exact e3
        · rw [cA_y rfl, g2]; exact e4
        · rw [cA_y rfl, g2]; exact e6
        · intro s hs hos
          rw [cA_s]
          by_cases es : s = j
          · rw [es, pk_us]
          · rw [pk_un es, g2]; exact e5 s (by omega) hos
      · rw [if_neg h]
        refine br_t rfl (ih (j + 1) k1 (by omega) (by omega) f hk1 hm1 e3 e4 e6 (fun s hs hos => e5 s ?_ hos))
        rcases Nat.lt_or_ge s j with z | z
        · exact z
        · rw [show s = j by omega] at hos; exact absurd hos h
  have start : ∃ n, wC_X0_goThroughTrial i n 0 set (nI e) 0 0 0 k Q := by
    refine ⟨wn w - 0 + (wn w + 2) + 1, ?_⟩
    rw [wC_X0_goThroughTrial]
    refine cSum hw hk hm.1 ⟨vp_in_nI he (by decide), ?_⟩
    rw [nI_clamp (by omega), hk.2.2.1]
    exact L1 _ 0 k rfl (Nat.zero_le _) FrC.rf hk hm rfl rfl rfl (fun s hs => absurd hs (Nat.not_lt_zero s))
  exact start
end CTr
