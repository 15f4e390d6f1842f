/-! ===== NOT; the whole grammar ===== -/
section PNot
variable {a : Nat → Nat} {B : Nat → Nat} {N F s o d : Nat} {g : GM} {k : KC} {l : List Int32}
theorem rfNotX {Q : Int32 → GM → Prop} {n : Nat} (hb : BN B N) (hg : MI B N F s o g) (h9 : tkN B N s ≠ 9) (h : wMg d 2 g (fun r_3 k_3 => (wM_isSign (60 : Int32) k_3 (fun r_4 k_4 => ((¬ r_4 = 0 → ((¬ (lg_cmp k_4.2.2 (60 : Int64)) = 0 → wM_not (wMg d) n 1 r_3 (0 : Int32) k_4 Q) ∧ ((lg_cmp k_4.2.2 (60 : Int64)) = 0 → wM_not (wMg d) n 1 r_3 (1 : Int32) k_4 Q))) ∧ (r_4 = 0 → (wM_isSign (61 : Int32) k_4 (fun r_7 k_7 => ((¬ r_7 = 0 → ((¬ (lg_cmp k_7.2.2 (60 : Int64)) = 0 → wM_not (wMg d) n 1 r_3 (0 : Int32) k_7 Q) ∧ ((lg_cmp k_7.2.2 (60 : Int64)) = 0 → wM_not (wMg d) n 1 r_3 (1 : Int32) k_7 Q))) ∧ (r_7 = 0 → Q r_3 k_7)))))))))) : wM_not (wMg d) (n + 1) 0 0 0 g Q := by
  rw [wM_not]
  refine mIsKey hb hg 11 rfl (by omega) (by omega) ?_
  rw [if_neg h9]
  exact br_t rfl h
theorem rfNot0 {c : List Int32} {s' : Nat} (hb : BN B N) (d : Nat) (h9 : tkN B N s ≠ 9) (h : RfOk B N d 2 o s c s') (n60 : tkN B N s' ≠ 60) (n61 : tkN B N s' ≠ 61) : RfOk B N (d + 1) 3 o s c s' := by
  intro F g hg Q hQ
  refine ⟨2, rfNotX hb hg h9 (h F g hg _ (fun v g1 f1 m1 ev => ?_))⟩
  refine mIsSign m1 60 rfl (by omega) (by omega) ?_
  rw [if_neg n60]
  refine br1 rfl (mIsSign m1 61 rfl (by omega) (by omega) ?_)
  rw [if_neg n61]
  exact br1 rfl (hQ v g1 f1 m1 ev)
theorem rfNot0B {f : Nat} (hb : BN B N) (d : Nat) (h9 : tkN B N s ≠ 9) (h : RfBad B N d 2 o s f) : RfBad B N (d + 1) 3 o s f := by
  intro F g hg Q hQ
  refine ⟨2, rfNotX hb hg h9 (h F g hg _ (fun v g1 mb => ?_))⟩
  exact mIsSignB mb.2.1 (br1 rfl (mIsSignB mb.2.1 (br1 rfl (hQ v g1 mb))))
def opCmp (t : Nat) : Int32 := if t = 60 then -23 else -24
theorem rfNotC (hb : BN B N) (d : Nat) (h9 : tkN B N s ≠ 9) {c : List Int32} {s' : Nat} (h : RfOk B N d 2 o s c s') (hc : tkN B N s' = 60 ∨ tkN B N s' = 61) (F : Nat) (g : GM) (hg : MI B N F s o g) (Q : Int32 → GM → Prop)
    (hQ : ∀ v g1, FrG sPar g g1 → MI B N F (nxS B N s') o g1 → Ev (nmM g) c v → wMg d 2 g1 (fun r g2 => Q (biI (opCmp (tkN B N s')) v r) g2)) : wMg (d + 1) 3 g Q := by
  have h4 : lxT B N s' ≠ 4 := fun e => by rw [tkN_4 e] at hc; omega
  have key : ∀ (g1 : GM) (v : Int32), FrG sPar g g1 → MI B N F s' o g1 → Ev (nmM g) c v → ∀ s0 : Int32, (s0 = if tkN B N s' = 60 then 1 else 0) → wM_not (wMg d) (0 + 1) 1 v s0 g1 Q := by
    intro g1 v f1 m1 ev s0 hs0
    rw [wM_not]
    any_goals (intro h9; exact absurd h9 (by decide))
    refine mNx hb m1 h4 (fun g2 f2 m2 => ?_)
    have z := hQ v g2 (f1.tr f2) m2 ev
    have eP : (fun r g2 => Q (biI (opCmp (tkN B N s')) v r) g2) = (fun r_15 k_15 => ((s0 = 0 → ((¬ v = r_15 → Q (0 : Int32) k_15) ∧ (v = r_15 → Q (1 : Int32) k_15))) ∧ (¬ s0 = 0 → ((r_15 ≤ v → Q (0 : Int32) k_15) ∧ (¬ r_15 ≤ v → Q (1 : Int32) k_15))))) := by
      funext r g3
      by_cases t60 : tkN B N s' = 60
      · rw [if_pos t60] at hs0
        subst hs0
        have e1 : opCmp (tkN B N s') = -23 := if_pos t60
        rw [e1]
        unfold biI
        rw [if_neg (by decide), if_neg (by decide), if_pos rfl]
        by_cases hr : r ≤ v
        · rw [if_pos hr]
          exact propext ⟨fun q => ⟨fun z => absurd z n10, fun _ => ⟨fun _ => q, fun z => absurd hr z⟩⟩, fun q => (q.2 n10).1 hr⟩
        · rw [if_neg hr]
          exact propext ⟨fun q => ⟨fun z => absurd z n10, fun _ => ⟨fun z => absurd z hr, fun _ => q⟩⟩, fun q => (q.2 n10).2 hr⟩
      · rw [if_neg t60] at hs0
        subst hs0
        have e1 : opCmp (tkN B N s') = -24 := if_neg t60
        rw [e1]
        unfold biI
        rw [if_neg (by decide), if_neg (by decide), if_neg (by decide), if_pos rfl]
        by_cases hr : v = r
        · rw [if_pos hr]
          exact propext ⟨fun q => ⟨fun _ => ⟨fun z => absurd hr z, fun _ => q⟩, fun z => absurd rfl z⟩, fun q => (q.1 rfl).2 hr⟩
        · rw [if_neg hr]
          exact propext ⟨fun q => ⟨fun _ => ⟨fun _ => q, fun z => absurd z hr⟩, fun z => absurd rfl z⟩, fun q => (q.1 rfl).1 hr⟩
    rw [eP] at z
    exact z
  refine ⟨2, rfNotX hb hg h9 (h F g hg _ (fun v g1 f1 m1 ev => ?_))⟩
  refine mIsSign m1 60 rfl (by omega) (by omega) ?_
  by_cases t60 : tkN B N s' = 60
  · rw [if_pos t60]
    refine br0 n10 ?_ |> fun (z : _ ∧ (1 = (0 : Int32) → True)) => ⟨z.1, fun e => absurd e n10⟩
    exact ⟨fun z => absurd ((lg_cmp_eq _ _).mpr (m1.long (by omega) t60)) z, fun _ => key g1 v f1 m1 ev 1 (by rw [if_pos t60])⟩
  · rw [if_neg t60]
    have t61 : tkN B N s' = 61 := by omega
    refine br1 rfl (mIsSign m1 61 rfl (by omega) (by omega) ?_)
    rw [if_pos t61]
    refine br0 n10 ?_ |> fun (z : _ ∧ (1 = (0 : Int32) → True)) => ⟨z.1, fun e => absurd e n10⟩
    refine ⟨fun _ => key g1 v f1 m1 ev 0 (by rw [if_neg t60]), fun z => ?_⟩
    have z2 := (lg_cmp_eq _ _).mp z
    rw [m1.long (by omega) t61] at z2
    exact absurd z2 (by decide)
theorem opC_ok (t : Nat) : ¬ (-6 : Int32) ≤ opCmp t ∧ ¬ (-12 : Int32) ≤ opCmp t := by
  unfold opCmp
  by_cases h : t = 60
  · rw [if_pos h]; exact ⟨by decide, by decide⟩
  · rw [if_neg h]; exact ⟨by decide, by decide⟩
/-- not NOT -/
theorem rfNot9 {c : List Int32} {s' : Nat} (hb : BN B N) (d : Nat) (h9 : tkN B N s = 9) (ho : o < 5) (h : RfOk B N d 3 (o + 1) (nxS B N s) c s') : RfOk B N (d + 1) 3 o s (c ++ [-12]) s' := by
  intro F g hg Q hQ
  have h4 : lxT B N s ≠ 4 := fun e => by rw [tkN_4 e] at h9; omega
  refine ⟨1, ?_⟩
  rw [wM_not]
  refine mIsKey hb hg 11 rfl (by omega) (by omega) ?_
  rw [if_pos h9]
  refine br_f n10 (mOpens hb hg h4 (fun _ g1 f1 m1 => ?_) (fun z => by omega))
  refine ⟨fun _ => h F g1 m1 _ (fun v g2 f2 m2 ev => ?_), fun e => absurd e n10⟩
  rw [nmM_fr f1] at ev
  have e := ev.un (x := -12) (by decide) (by decide)
  have fin := hQ _ (sI g2 23 (g2.1 23 - 1)) ((f1.tr f2).i_ rfl) (m2.op (o2 := o) (by rw [m2.2.2.1]; exact nI_pred o) (by omega)) e
  unfold unI at fin
  rw [if_neg (by decide)] at fin
  refine ⟨fun z => ?_, fun z => ?_⟩
  · rw [if_neg z] at fin; exact fin
  · rw [if_pos z] at fin; exact fin
theorem rfNot9B {f : Nat} (hb : BN B N) (d : Nat) (h9 : tkN B N s = 9) (ho : o < 5) (h : RfBad B N d 3 (o + 1) (nxS B N s) f) : RfBad B N (d + 1) 3 o s f := by
  intro F g hg Q hQ
  have h4 : lxT B N s ≠ 4 := fun e => by rw [tkN_4 e] at h9; omega
  refine ⟨1, ?_⟩
  rw [wM_not]
  refine mIsKey hb hg 11 rfl (by omega) (by omega) ?_
  rw [if_pos h9]
  refine br_f n10 (mOpens hb hg h4 (fun _ g1 f1 m1 => ?_) (fun z => by omega))
  refine ⟨fun _ => h F g1 m1 _ (fun v g2 mb => ?_), fun e => absurd e n10⟩
  exact ⟨fun _ => hQ _ _ ⟨(f1.tr mb.1).i_ rfl, mb.2⟩, fun _ => hQ _ _ ⟨(f1.tr mb.1).i_ rfl, mb.2⟩⟩
theorem rfNot9D (hb : BN B N) (d : Nat) (h9 : tkN B N s = 9) : RfBad B N (d + 1) 3 5 s s := by
  intro F g hg Q hQ
  have h4 : lxT B N s ≠ 4 := fun e => by rw [tkN_4 e] at h9; omega
  refine ⟨1, ?_⟩
  rw [wM_not]
  refine mIsKey hb hg 11 rfl (by omega) (by omega) ?_
  rw [if_pos h9]
  exact br_f n10 (mOpens hb hg h4 (fun z => by omega) (fun _ g' mb => ⟨fun z => absurd rfl z, fun _ => hQ 0 g' mb⟩))
theorem simNot (hb : BN B N) (ho : o ≤ 5) (h3 : Sim a B N d 3 2 o) (h2 : o < 5 → Sim a B N d 2 3 (o + 1)) (hno : NoOne a B N d 3) : Sim a B N (d + 1) 2 3 o := by
  intro s k l Q hI hl qk qb
  have hN := hb.2
  have hs := hI.2.2.1
  refine ⟨2, ?_⟩
  rw [wC_X6_readNot]
  have e9 : k.1 6 2 = (9 : Int32) ↔ tkN B N s = 9 := cTok (c := 9) hI (by decide)
  have eo : (5 : Int32) ≤ nI o ↔ 5 ≤ o := nI_leI (a := 5) (by decide) (by omega)
  rw [e9, eo]
  have tailF : ∀ f k2, CF a B N f k2 → Q k2 → (((k2.1 6 2) = (60 : Int32) → wC_X6_readNot a (wCg a d) 1 1 (nI o) k2 Q) ∧ (¬ (k2.1 6 2) = (60 : Int32) → ((¬ (k2.1 6 2) = (61 : Int32) → Q k2) ∧ ((k2.1 6 2) = (61 : Int32) → wC_X6_readNot a (wCg a d) 1 1 (nI o) k2 Q)))) := by
    intro f k2 hF q2
    rw [hF.2.2.2.1]
    exact ⟨fun e => absurd e (by decide), fun _ => ⟨fun _ => q2, fun e => absurd e (by decide)⟩⟩
  refine ⟨fun n9 => ?_, fun t9 => ⟨fun o5 => ?_, fun o5 => ?_⟩⟩
  · refine h3 s k l _ hI hl (fun c s' k1 r1 w1 f1 hI1 hle => ?_) (fun f k1 rb f1 hF1 => tailF f k1 hF1 (qb f k1 (rfNot0B hb d n9 rb) f1 hF1))
    have hs' := hI1.2.2.1
    have hlen : (l ++ c).length = l.length + c.length := List.length_append
    have e60 : k1.1 6 2 = (60 : Int32) ↔ tkN B N s' = 60 := cTok (c := 60) hI1 (by decide)
    have e61 : k1.1 6 2 = (61 : Int32) ↔ tkN B N s' = 61 := cTok (c := 61) hI1 (by decide)
    rw [e60, e61]
    have cmp : tkN B N s' = 60 ∨ tkN B N s' = 61 → wC_X6_readNot a (wCg a d) 1 1 (nI o) k1 Q := by
      intro hc
      have h4 : lxT B N s' ≠ 4 := fun e => by rw [tkN_4 e] at hc; omega
      have h0 : lxT B N s' ≠ 0 := fun e => by rw [tkN_0 e] at hc; omega
      have hgt := nxS_gt (B := B) (N := N) h0
      have body : ∃ n, wC_X6_advance a n 0 0 k1 (fun k_13 => (wCg a d 3 (nI o) k_13 (fun k_14 => (wC_X6_write (opCmp (tkN B N s')) k_14 (fun k_15 => Q k_15))))) := by
        refine cAdvI hb hI1 h4 (fun k2 f2 hI2 => h3 (nxS B N s') k2 (l ++ c) _ hI2 (by omega) (fun c2 s2 k3 r3 w3 f3 hI3 hle3 => ?_) (fun f k3 rb f3 hF3 => ?_))
        · have hs2 := hI3.2.2.1
          have hlen2 : (l ++ c ++ c2).length = l.length + c.length + c2.length := by rw [List.length_append, hlen]
          refine cWrite hI3 (by omega) (fun k4 f4 hI4 => qk (c ++ (c2 ++ [opCmp (tkN B N s')])) s2 k4 ?_ (w1.bin w3 (opC_ok _).1 (opC_ok _).2) (f1.tr (f2.tr (f3.tr f4))) ?_ ?_)
          · intro F g hg Q' hQ'
            refine rfNotC hb d n9 r1 hc F g hg Q' (fun v g1 fg1 m1 ev => r3 F g1 m1 _ (fun w g2 fg2 m2 ev2 => ?_))
            rw [nmM_fr fg1] at ev2
            exact hQ' _ g2 (fg1.tr fg2) m2 (ev.bin ev2 (opC_ok _).1 (opC_ok _).2)
          · have e : l ++ (c ++ (c2 ++ [opCmp (tkN B N s')])) = l ++ c ++ c2 ++ [opCmp (tkN B N s')] := by simp only [List.append_assoc]
            rw [e]; exact hI4
          · simp only [List.length_append, List.length_singleton]
            omega
        · refine cWriteF hF3 (fun k4 f4 hF4 => qb f k4 ?_ (f1.tr (f2.tr (f3.tr f4))) hF4)
          intro F g hg Q' hQ'
          exact rfNotC hb d n9 r1 hc F g hg Q' (fun v g1 fg1 m1 ev => rb F g1 m1 _ (fun w g2 mb => hQ' _ g2 ⟨fg1.tr mb.1, mb.2⟩))
      rw [wC_X6_readNot]
      any_goals (intro h9; exact absurd h9 (by decide))
      rw [e60]
      unfold opCmp at body
      refine ⟨fun n60 => ?_, fun t60 => ?_⟩
      · rw [if_neg n60] at body; exact body
      · rw [if_pos t60] at body; exact body
    exact ⟨fun t => cmp (Or.inl t), fun n60 => ⟨fun n61 => qk c s' k1 (rfNot0 hb d n9 r1 n60 n61) w1 f1 hI1 hle, fun t => cmp (Or.inr t)⟩⟩
  · have o5' : o = 5 := by omega
    subst o5'
    exact hno s k l 5 _ hI (by omega) (by omega) (by omega) (by omega) (by omega) (fun k1 f1 hF1 => tailF s k1 hF1 (qb s k1 (rfNot9D hb d t9) f1 hF1))
  · have h4 : lxT B N s ≠ 4 := fun e => by rw [tkN_4 e] at t9; omega
    have h0 : lxT B N s ≠ 0 := fun e => by rw [tkN_0 e] at t9; omega
    have hgt := nxS_gt (B := B) (N := N) h0
    refine cAdvI hb hI h4 (fun k1 f1 hI1 => ?_)
    rw [nI_1]
    refine h2 (by omega) (nxS B N s) k1 l _ hI1 (by omega) (fun c s' k2 r2 w2 f2 hI2 hle => ?_) (fun f k2 rb f2 hF2 => ?_)
    · have hs' := hI2.2.2.1
      have hlen : (l ++ c).length = l.length + c.length := List.length_append
      refine cWrite hI2 (by omega) (fun k3 f3 hI3 => qk (c ++ [-12]) s' k3 (rfNot9 hb d t9 (by omega) r2) (w2.un (by decide) (by decide)) (f1.tr (f2.tr f3)) ?_ ?_)
      · rw [← List.append_assoc]; exact hI3
      · simp only [List.length_append, List.length_singleton]
        omega
    · exact cWriteF hF2 (fun k3 f3 hF3 => qb f k3 (rfNot9B hb d t9 (by omega) rb) (f1.tr (f2.tr f3)) hF3)
theorem simNotF (h : SimF a B N d 3) : SimF a B N (d + 1) 2 := by
  intro x f k Q hF q
  refine ⟨1, ?_⟩
  rw [wC_X6_readNot]
  have tl : wCg a d 3 x k (fun k_2 => (((k_2.1 6 2) = (60 : Int32) → wC_X6_readNot a (wCg a d) 0 1 x k_2 Q) ∧ (¬ (k_2.1 6 2) = (60 : Int32) → ((¬ (k_2.1 6 2) = (61 : Int32) → Q k_2) ∧ ((k_2.1 6 2) = (61 : Int32) → wC_X6_readNot a (wCg a d) 0 1 x k_2 Q))))) := by
    refine h x f k _ hF (fun k1 f1 hF1 => ?_)
    rw [hF1.2.2.2.1]
    exact ⟨fun e => absurd e (by decide), fun _ => ⟨fun _ => q k1 f1 hF1, fun e => absurd e (by decide)⟩⟩
  rw [hF.2.2.2.1]
  exact ⟨fun _ => tl, fun e => absurd e (by decide)⟩
theorem simF_all : ∀ d ic, ic ≤ 5 → 6 ≤ d + ic → SimF a B N d ic := by
  intro d
  induction d with
  | zero => intro ic h1 h2; omega
  | succ d ih =>
    intro ic h1 h2
    match ic, h1, h2 with
    | 0, _, _ => exact simLoopF (lcOr a d) okOr (ih 1 (by omega) (by omega))
    | 1, _, _ => exact simLoopF (lcAnd a d) okAnd (ih 2 (by omega) (by omega))
    | 2, _, _ => exact simNotF (ih 3 (by omega) (by omega))
    | 3, _, _ => exact simLoopF (lcAdd a d) okAdd (ih 4 (by omega) (by omega))
    | 4, _, _ => exact simLoopF (lcMul a d) okMul (ih 5 (by omega) (by omega))
    | 5, _, _ => exact simOneF
    | n + 6, h, _ => omega
theorem noOne_all (hb : BN B N) : ∀ d ic, ic ≤ 5 → 3 ≤ ic → 6 ≤ d + ic → NoOne a B N d ic := by
  intro d
  induction d with
  | zero => intro ic h1 h2 h3; omega
  | succ d ih =>
    intro ic h1 h2 h3
    match ic, h1, h2, h3 with
    | 3, _, _, _ => exact simLoopN (lcAdd a d) okAdd (ih 4 (by omega) (by omega) (by omega))
    | 4, _, _, _ => exact simLoopN (lcMul a d) okMul (ih 5 (by omega) (by omega) (by omega))
    | 5, _, _, _ => exact noOne1 hb
    | n + 6, h, _, _ => omega
theorem sim_all (hb : BN B N) : ∀ d ic o, ic ≤ 5 → o ≤ 5 → (5 - o) * 6 + (6 - ic) ≤ d → Sim a B N d ic (5 - ic) o := by
  intro d
  induction d with
  | zero => intro ic o h1 h2 h3; omega
  | succ d ih =>
    intro ic o h1 h2 h3
    match ic, h1, h3 with
    | 0, _, h3 => exact simLoop hb (lcOr a d) (lmOr hb d) okOr (ih 1 o (by omega) h2 (by omega))
    | 1, _, h3 => exact simLoop hb (lcAnd a d) (lmAnd hb d) okAnd (ih 2 o (by omega) h2 (by omega))
    | 2, _, h3 => exact simNot hb h2 (ih 3 o (by omega) h2 (by omega)) (fun h => ih 2 (o + 1) (by omega) (by omega) (by omega)) (noOne_all hb d 3 (by omega) (by omega) (by omega))
    | 3, _, h3 => exact simLoop hb (lcAdd a d) (lmAdd d) okAdd (ih 4 o (by omega) h2 (by omega))
    | 4, _, h3 => exact simLoop hb (lcMul a d) (lmMul d) okMul (ih 5 o (by omega) h2 (by omega))
    | 5, _, h3 => exact simOne hb h2 (fun h => ih 0 (o + 1) (by omega) (by omega) (by omega)) (fun h => ih 5 (o + 1) (by omega) (by omega) (by omega))
    | n + 6, h, _ => omega
end PNot
