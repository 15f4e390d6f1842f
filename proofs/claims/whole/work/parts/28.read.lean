/-! ===== a TEXT as a whole, read by both ===== -/
section Rd
variable {a : Nat → Nat} {B : Nat → Nat} {N F s o d p : Nat} {g : GM} {k : KC} {l : List Int32}
def PtOk (B : Nat → Nat) (N p s : Nat) (c : List Int32) (s' : Nat) : Prop := ∀ F g, MI B N F s 0 g → ∀ Q : Int32 → GM → Prop, (∀ v g', FrG sPar g g' → MI B N F s' 0 g' → Ev (nmM g) c v → Q v g') → ∃ n, wM_part n 0 (lN (cdN (6 + p))) 0 g Q
def PtBad (B : Nat → Nat) (N p s f : Nat) : Prop := ∀ F g, MI B N F s 0 g → ∀ Q : Int32 → GM → Prop, (∀ v g', MB f g g' → Q v g') → ∃ n, wM_part n 0 (lN (cdN (6 + p))) 0 g Q
theorem part1B {Q : Int32 → GM → Prop} {n : Nat} {v : Int32} (h : g.1 24 = 1) (q : Q v g) : wM_part (n + 1) 1 0 v g Q := by
  rw [wM_part]
  any_goals (intro h9; exact absurd h9 (by decide))
  exact mIsSignB h ⟨fun e => absurd rfl e, fun _ => mFailB h ⟨fun _ => q, fun e => by rw [h] at e; exact absurd e n10⟩⟩
theorem part1Ok {Q : Int32 → GM → Prop} {n : Nat} {v : Int32} (hb : BN B N) (h : MI B N F s 0 g) (ht : tkN B N s = 59) (q : ∀ g', FrG sPar g g' → MI B N F (nxS B N s) 0 g' → Q v g') : wM_part (n + 1) 1 0 v g Q := by
  have h4 : lxT B N s ≠ 4 := fun e => by rw [tkN_4 e] at ht; omega
  rw [wM_part]
  any_goals (intro h9; exact absurd h9 (by decide))
  refine mIsSign h 59 rfl (by omega) (by omega) ?_
  rw [if_pos ht]
  exact ⟨fun _ => ⟨fun e => absurd h.2.1 e, fun _ => mNx hb h h4 q⟩, fun e => absurd e n10⟩
theorem part1No {Q : Int32 → GM → Prop} {n : Nat} {v : Int32} (h : MI B N F s 0 g) (ht : tkN B N s ≠ 59) (q : ∀ g', MB s g g' → Q v g') : wM_part (n + 1) 1 0 v g Q := by
  rw [wM_part]
  any_goals (intro h9; exact absurd h9 (by decide))
  refine mIsSign h 59 rfl (by omega) (by omega) ?_
  rw [if_neg ht]
  exact ⟨fun e => absurd rfl e, fun _ => mFail h (fun g' mb => ⟨fun _ => q g' mb, fun e => by rw [mb.2.1] at e; exact absurd e n10⟩)⟩
theorem part0Ok {Q : Int32 → GM → Prop} {n : Nat} (hb : BN B N) (hp : p < 3) (h : MI B N F s 0 g) (ht : tkN B N s = 4 + p) (q : ∀ g', FrG sPar g g' → MI B N F (nxS B N s) 0 g' → wMg 44 5 g' (fun r_8 k_8 => wM_part n 1 0 r_8 k_8 Q)) : wM_part (n + 1) 0 (lN (cdN (6 + p))) 0 g Q := by
  have h4 : lxT B N s ≠ 4 := fun e => by rw [tkN_4 e] at ht; omega
  rw [wM_part]
  refine mIsKey hb h (6 + p) rfl (by omega) (by omega) ?_
  rw [if_pos (by omega)]
  exact ⟨fun _ => ⟨fun e => absurd h.2.1 e, fun _ => mNx hb h h4 (fun g' f m => ⟨fun _ => q g' f m, fun e => absurd m.2.1 e⟩)⟩, fun e => absurd e n10⟩
theorem part0No {Q : Int32 → GM → Prop} (hb : BN B N) (hp : p < 3) (ht : tkN B N s ≠ 4 + p) : PtBad B N p s s := by
  intro F g h Q q
  refine ⟨2, ?_⟩
  rw [wM_part]
  refine mIsKey hb h (6 + p) rfl (by omega) (by omega) ?_
  rw [if_neg (by omega)]
  exact ⟨fun e => absurd rfl e, fun _ => mFail h (fun g' mb => ⟨fun _ => ⟨fun e => by rw [mb.2.1] at e; exact absurd e n10, fun _ => part1B mb.2.1 (q 0 g' mb)⟩, fun e => by rw [mb.2.1] at e; exact absurd e n10⟩)⟩
theorem simPart {Q : KC → Prop} (hb : BN B N) (hp : p < 3) (hI : CI a B N s k l) (hl : l.length ≤ s) (qk : ∀ c s' k', PtOk B N p s c s' → WfC c → FrC oSix oSix k k' → CI a B N s' k' (l ++ c) → s + c.length ≤ s' → Q k') (qb : ∀ f k', PtBad B N p s f → FrC oSix oSix k k' → CF a B N f k' → Q k') :
    wC_X6_expect a (nI (4 + p)) k (fun k1 => wCg a 44 0 (0 : Int32) k1 (fun k2 => wC_X6_expect a (59 : Int32) k2 (fun k3 => Q k3))) := by
  have hN := hb.2
  have hs := hI.2.2.1
  have ek : k.1 6 2 = nI (4 + p) ↔ tkN B N s = 4 + p := cTok hI (by omega)
  unfold wC_X6_expect
  rw [ek]
  refine ⟨fun nk => ?_, fun tk => ?_⟩
  · refine cRefuse hb hI (by omega) (fun k1 f1 hF1 => simF_all 44 0 (by omega) (by omega) _ s k1 _ hF1 (fun k2 f2 hF2 => ?_))
    exact cExpF (by decide) hF2 (fun k3 f3 hF3 => qb s k3 (part0No (Q := fun _ _ => True) hb hp nk) (f1.tr (f2.tr f3)) hF3)
  · have h4 : lxT B N s ≠ 4 := fun e => by rw [tkN_4 e] at tk; omega
    have h0 : lxT B N s ≠ 0 := fun e => by rw [tkN_0 e] at tk; omega
    have hgt := nxS_gt (B := B) (N := N) h0
    refine cAdvI hb hI h4 (fun k1 f1 hI1 => sim_all hb 44 0 0 (by omega) (by omega) (by omega) (nxS B N s) k1 l _ hI1 (by omega) (fun c s' k2 r w2 f2 hI2 hle => ?_) (fun f k2 rb f2 hF2 => ?_))
    · have hs' := hI2.2.2.1
      have hlen : (l ++ c).length = l.length + c.length := List.length_append
      have e59 : k2.1 6 2 = (59 : Int32) ↔ tkN B N s' = 59 := cTok (c := 59) hI2 (by decide)
      rw [e59]
      refine ⟨fun n59 => cRefuse hb hI2 (by omega) (fun k3 f3 hF3 => qb s' k3 ?_ (f1.tr (f2.tr f3)) hF3), fun t59 => ?_⟩
      · intro F g hg Q' hQ'
        exact ⟨2, part0Ok hb hp hg tk (fun g1 fg1 m1 => r F g1 m1 _ (fun v g2 fg2 m2 ev => part1No m2 n59 (fun g3 mb => hQ' v g3 ⟨(fg1.tr fg2).tr mb.1, mb.2⟩)))⟩
      · have h42 : lxT B N s' ≠ 4 := fun e => by rw [tkN_4 e] at t59; omega
        have h02 : lxT B N s' ≠ 0 := fun e => by rw [tkN_0 e] at t59; omega
        have hgt2 := nxS_gt (B := B) (N := N) h02
        refine cAdvI hb hI2 h42 (fun k3 f3 hI3 => qk c (nxS B N s') k3 ?_ w2 (f1.tr (f2.tr f3)) hI3 (by omega))
        intro F g hg Q' hQ'
        refine ⟨2, part0Ok hb hp hg tk (fun g1 fg1 m1 => r F g1 m1 _ (fun v g2 fg2 m2 ev => part1Ok hb m2 t59 (fun g3 fg3 m3 => ?_)))⟩
        rw [nmM_fr fg1] at ev
        exact hQ' v g3 ((fg1.tr fg2).tr fg3) m3 ev
    · refine cExpF (by decide) hF2 (fun k3 f3 hF3 => qb f k3 ?_ (f1.tr (f2.tr f3)) hF3)
      intro F g hg Q' hQ'
      exact ⟨2, part0Ok hb hp hg tk (fun g1 fg1 m1 => rb F g1 m1 _ (fun v g2 mb => part1B mb.2.1 (hQ' v g2 ⟨fg1.tr mb.1, mb.2⟩)))⟩
/-! ## the reference's read -/
def nmR (g : GM) (s : Int32) (sum worth trial : Int32) (i : Nat) : Int32 := match i with
  | 0 => g.2.1 8 s.toNatClampNeg
  | 1 => sum
  | 2 => worth
  | 3 => g.2.1 7 s.toNatClampNeg
  | 4 => g.1 15
  | _ => trial
def RowM (B : Nat → Nat) (N x : Nat) (g : GM) : Prop := (x < 6 ∧ N ≤ 160) ∧ g.2.1 2 x = nI N ∧ ∀ i, i < N → g.2.1 1 (160 * x + i) = nI (B i)
def RdOk (B : Nat → Nat) (N : Nat) (cs : Nat → List Int32) : Prop := ∀ x sg sum worth trial w g (Q : Int32 → GM → Prop), RowM B N x g → vp_in sg 8 → w < 3 → (∀ v g', FrG sRd g g' → g'.1 24 = 0 → Ev (nmR g sg sum worth trial) (cs w) v → Q v g') → ∃ n, wM_read n 0 (nI x) sg sum worth trial (nI w) 0 0 0 g Q
def RdBad (B : Nat → Nat) (N f : Nat) : Prop := ∀ x sg sum worth trial w g (Q : Int32 → GM → Prop), RowM B N x g → vp_in sg 8 → w < 3 → (∀ v g', FrG sRd g g' → g'.1 24 = 1 → g'.1 25 = nI f → Q v g') → ∃ n, wM_read n 0 (nI x) sg sum worth trial (nI w) 0 0 0 g Q
theorem rd1B {Q : Int32 → GM → Prop} {n w : Nat} {a1 a2 a3 : Int32} (h : g.1 24 = 1) (q : ∀ v, Q v g) : wM_read (n + 1) 1 0 0 0 0 0 (nI w) a1 a2 a3 g Q := by
  rw [wM_read]
  any_goals (intro h9; exact absurd h9 (by decide))
  exact ⟨fun _ => ⟨fun _ => ⟨fun _ => q _, fun _ => q _⟩, fun _ => q _⟩, fun e => by rw [h] at e; exact absurd e n10⟩
theorem rd0 {Q : Int32 → GM → Prop} {x n : Nat} {sg sum worth trial x6 : Int32} (hb : BN B N) (hr : RowM B N x g) (hsg : vp_in sg 8)
    (q : ∀ g1, FrG sRd g g1 → nmM g1 = nmR g sg sum worth trial → MI B N (160 * x) (lxS B N 0) 0 g1 → ∃ n_2 : Nat, wM_part n_2 0 (138767 : Int64) 0 g1 (fun r_2 k_2 => (((k_2.1 24) = 0 → (∃ n_4 : Nat, wM_part n_4 0 (118940 : Int64) 0 k_2 (fun r_4 k_4 => (((k_4.1 24) = 0 → (∃ n_6 : Nat, wM_part n_6 0 (92275 : Int64) 0 k_4 (fun r_6 k_6 => wM_read n 1 0 0 0 0 0 x6 r_2 r_4 r_6 k_6 Q))) ∧ (¬ (k_4.1 24) = 0 → wM_read n 1 0 0 0 0 0 x6 r_2 r_4 (0 : Int32) k_4 Q))))) ∧ (¬ (k_2.1 24) = 0 → (((k_2.1 24) = 0 → (∃ n_8 : Nat, wM_part n_8 0 (92275 : Int64) 0 k_2 (fun r_8 k_8 => wM_read n 1 0 0 0 0 0 x6 r_2 (0 : Int32) r_8 k_8 Q))) ∧ (¬ (k_2.1 24) = 0 → wM_read n 1 0 0 0 0 0 x6 r_2 (0 : Int32) (0 : Int32) k_2 Q)))))) : wM_read (n + 1) 0 (nI x) sg sum worth trial x6 0 0 0 g Q := by
  have hN := hb.2
  obtain ⟨⟨hx, _⟩, h2, h1⟩ := hr
  rw [wM_read]
  refine ⟨vp_in_nI hx (by decide), ?_⟩
  rw [nI_clamp (by omega), h2]
  have f0 : FrG sRd g (sI (sI (sI (sI (sI (sI (sI (sI (sI g 26 sg) 27 sum) 28 worth) 29 trial) 17 ((160 : Int32) * nI x)) 18 (nI N)) 22 (0 : Int32)) 23 (0 : Int32)) 24 (0 : Int32)) := ((((((((FrG.rf.i_ rfl).i_ rfl).i_ rfl).i_ rfl).i_ rfl).i_ rfl).i_ rfl).i_ rfl).i_ rfl
  have e17 : (160 : Int32) * nI x = nI (160 * x) := pk_mul 160 x
  have hp : PM B N (160 * x) (sI (sI (sI (sI (sI (sI (sI (sI (sI g 26 sg) 27 sum) 28 worth) 29 trial) 17 ((160 : Int32) * nI x)) 18 (nI N)) 22 (0 : Int32)) 23 (0 : Int32)) 24 (0 : Int32)) := ⟨e17, rfl, by omega, h1⟩
  refine mNext (i := 0) hb hp rfl (Nat.zero_le _) (fun g1 f1 t1 => ?_)
  have fp := f1.par
  refine q g1 (f0.tr fp.rd) ?_ ⟨hp.fr fp, (f1.1 24 rfl).trans rfl, (f1.1 23 rfl).trans rfl, by rw [f1.1 26 rfl]; exact hsg, lxS_le (Nat.zero_le _), by omega, t1⟩
  rw [nmM_fr fp]
  funext i
  match i with
  | 0 => rfl
  | 1 => rfl
  | 2 => rfl
  | 3 => rfl
  | 4 => rfl
  | n + 5 => rfl
theorem rdBad0 {f : Nat} (hb : BN B N) (h0 : PtBad B N 0 (lxS B N 0) f) : RdBad B N f := by
  intro x sg sum worth trial w g Q hr hsg hw q
  refine ⟨2, rd0 hb hr hsg (fun g1 f1 e1 m1 => h0 _ g1 m1 _ (fun v g2 mb => ?_))⟩
  have n24 : ¬ g2.1 24 = 0 := fun e => by rw [mb.2.1] at e; exact absurd e n10
  exact ⟨fun e => absurd e n24, fun _ => ⟨fun e => absurd e n24, fun _ => rd1B mb.2.1 (fun v => q v g2 (f1.tr mb.1.rd) mb.2.1 mb.2.2)⟩⟩
theorem rdBad1 {f s1 : Nat} {c0 : List Int32} (hb : BN B N) (h0 : PtOk B N 0 (lxS B N 0) c0 s1) (h1 : PtBad B N 1 s1 f) : RdBad B N f := by
  intro x sg sum worth trial w g Q hr hsg hw q
  refine ⟨2, rd0 hb hr hsg (fun g1 f1 e1 m1 => h0 _ g1 m1 _ (fun v g2 f2 m2 _ => ?_))⟩
  refine ⟨fun _ => h1 _ g2 m2 _ (fun v2 g3 mb => ?_), fun e => absurd m2.2.1 e⟩
  have n24 : ¬ g3.1 24 = 0 := fun e => by rw [mb.2.1] at e; exact absurd e n10
  exact ⟨fun e => absurd e n24, fun _ => rd1B mb.2.1 (fun v => q v g3 ((f1.tr f2.rd).tr mb.1.rd) mb.2.1 mb.2.2)⟩
theorem rdBad2 {f s1 s2 : Nat} {c0 c1 : List Int32} (hb : BN B N) (h0 : PtOk B N 0 (lxS B N 0) c0 s1) (h1 : PtOk B N 1 s1 c1 s2) (h2 : PtBad B N 2 s2 f) : RdBad B N f := by
  intro x sg sum worth trial w g Q hr hsg hw q
  refine ⟨2, rd0 hb hr hsg (fun g1 f1 e1 m1 => h0 _ g1 m1 _ (fun v g2 f2 m2 _ => ?_))⟩
  refine ⟨fun _ => h1 _ g2 m2 _ (fun v2 g3 f3 m3 _ => ⟨fun _ => h2 _ g3 m3 _ (fun v3 g4 mb => ?_), fun e => absurd m3.2.1 e⟩), fun e => absurd m2.2.1 e⟩
  exact rd1B mb.2.1 (fun v => q v g4 (((f1.tr f2.rd).tr f3.rd).tr mb.1.rd) mb.2.1 mb.2.2)
theorem rdBad3 {s1 s2 s3 : Nat} {c0 c1 c2 : List Int32} (hb : BN B N) (h0 : PtOk B N 0 (lxS B N 0) c0 s1) (h1 : PtOk B N 1 s1 c1 s2) (h2 : PtOk B N 2 s2 c2 s3) (he : tkN B N s3 ≠ 0) : RdBad B N s3 := by
  intro x sg sum worth trial w g Q hr hsg hw q
  refine ⟨2, rd0 hb hr hsg (fun g1 f1 e1 m1 => h0 _ g1 m1 _ (fun v g2 f2 m2 _ => ?_))⟩
  refine ⟨fun _ => h1 _ g2 m2 _ (fun v2 g3 f3 m3 _ => ⟨fun _ => h2 _ g3 m3 _ (fun v3 g4 f4 m4 _ => ?_), fun e => absurd m3.2.1 e⟩), fun e => absurd m2.2.1 e⟩
  rw [wM_read]
  any_goals (intro h9; exact absurd h9 (by decide))
  have e19 : g4.1 19 = (0 : Int32) ↔ lxT B N s3 = 0 := m4.t19 0 (by decide)
  have n19 : ¬ g4.1 19 = 0 := fun e => he ((tk_end m4.2.2.2.2.1).mpr (e19.mp e))
  refine ⟨fun e => absurd m4.2.1 e, fun _ => ⟨fun e => absurd e n19, fun _ => mFail m4 (fun g5 mb => ?_)⟩⟩
  have fin : ∀ v, Q v g5 := fun v => q v g5 ((((f1.tr f2.rd).tr f3.rd).tr f4.rd).tr mb.1.rd) mb.2.1 mb.2.2
  exact ⟨fun _ => ⟨fun _ => fin _, fun _ => fin _⟩, fun _ => fin _⟩
def cs3 (c0 c1 c2 : List Int32) (w : Nat) : List Int32 := match w with
  | 0 => c0
  | 1 => c1
  | _ => c2
theorem rdGood {s1 s2 s3 : Nat} {c0 c1 c2 : List Int32} (hb : BN B N) (h0 : PtOk B N 0 (lxS B N 0) c0 s1) (h1 : PtOk B N 1 s1 c1 s2) (h2 : PtOk B N 2 s2 c2 s3) (he : tkN B N s3 = 0) : RdOk B N (cs3 c0 c1 c2) := by
  intro x sg sum worth trial w g Q hr hsg hw q
  refine ⟨2, rd0 hb hr hsg (fun g1 f1 e1 m1 => h0 _ g1 m1 _ (fun v g2 f2 m2 ev0 => ?_))⟩
  refine ⟨fun _ => h1 _ g2 m2 _ (fun v2 g3 f3 m3 ev1 => ⟨fun _ => h2 _ g3 m3 _ (fun v3 g4 f4 m4 ev2 => ?_), fun e => absurd m3.2.1 e⟩), fun e => absurd m2.2.1 e⟩
  rw [wM_read]
  any_goals (intro h9; exact absurd h9 (by decide))
  have e19 : g4.1 19 = (0 : Int32) ↔ lxT B N s3 = 0 := m4.t19 0 (by decide)
  have y19 : g4.1 19 = 0 := e19.mpr ((tk_end m4.2.2.2.2.1).mp he)
  rw [e1] at ev0
  rw [nmM_fr f2, e1] at ev1
  rw [nmM_fr (f2.tr f3), e1] at ev2
  have fr := ((f1.tr f2.rd).tr f3.rd).tr f4.rd
  have ew0 : nI w = (0 : Int32) ↔ w = 0 := nI_eq (b := 0) (by omega) (by decide)
  have ew1 : nI w = (1 : Int32) ↔ w = 1 := nI_eq (b := 1) (by omega) (by decide)
  rw [ew0, ew1]
  refine ⟨fun e => absurd m4.2.1 e, fun _ => ⟨fun _ => ⟨fun n0 => ⟨fun n1 => ?_, fun y1 => ?_⟩, fun y0 => ?_⟩, fun e => absurd y19 e⟩⟩
  · have w2 : w = 2 := by omega
    subst w2
    exact q v3 g4 fr m4.2.1 ev2
  · subst y1
    exact q v2 g4 fr m4.2.1 ev1
  · subst y0
    exact q v g4 fr m4.2.1 ev0
/-! ## the class's read -/
def TxD (d : Dn) (cs : Nat → List Int32) : Prop := (cs 0 ++ cs 1 ++ cs 2).length ≤ 160 ∧ d.2.2.2.1 = (cs 0 ++ cs 1 ++ cs 2).length ∧ (∀ j, j < (cs 0 ++ cs 1 ++ cs 2).length → d.2.2.2.2.1 j = (cs 0 ++ cs 1 ++ cs 2).getD j 0) ∧ d.2.2.2.2.2 0 = 0 ∧ d.2.2.2.2.2 1 = nI (cs 0).length ∧ d.2.2.2.2.2 2 = nI (cs 0 ++ cs 1).length ∧ d.2.2.2.2.2 3 = nI (cs 0 ++ cs 1 ++ cs 2).length
theorem rdLF {Q : Option Dn → KC → Prop} {f : Nat} : ∀ (m p : Nat) (fb : Nat → Int32) (k : KC), p + m = 3 → CF a B N f k → (∀ k', FrC oSix oSix k k' → CF a B N f k' → Q none k') → wRdL a (m + 1) (nI p) fb k Q := by
  intro m
  induction m with
  | zero =>
    intro p fb k hp hF q
    have e3 : p = 3 := by omega
    subst e3
    rw [wRdL]
    refine ⟨fun _ => ⟨fun e => ?_, fun _ => cRefuseF hF (fun k1 f1 hF1 => ?_)⟩, fun e => absurd (by decide) e⟩
    · rw [hF.2.2.2.1] at e; exact absurd e n10
    · exact ⟨fun _ => q k1 f1 hF1, fun e => absurd e hF1.ne⟩
  | succ m ih =>
    intro p fb k hp hF q
    rw [wRdL]
    refine ⟨fun e => absurd e (nI_ge (b := 3) (by omega) (by decide)), fun _ => ⟨vp_in_nI (by omega) (by decide), ?_⟩⟩
    have e4 : (4 : Int32) + nI p = nI (4 + p) := nI_add 4 p
    have n1 : ¬ (1 : Int32) = nI (4 + p) := fun e => by
      have := (nI_eq (a := 1) (b := 4 + p) (by decide) (by omega)).mp e
      omega
    rw [e4]
    refine cExpF n1 hF (fun k1 f1 hF1 => simF_all 44 0 (by omega) (by omega) _ f k1 _ hF1 (fun k2 f2 hF2 => cExpF (by decide) hF2 (fun k3 f3 hF3 => ?_)))
    rw [nI_1]
    exact ih (p + 1) _ k3 (by omega) hF3 (fun k4 f4 hF4 => q k4 (f1.tr (f2.tr (f3.tr f4))) hF4)
theorem cRead {Q : Option Dn → KC → Prop} (hb : BN B N) (h5 : k.1 5 1 = nI N) (hB : ∀ i, i < N → k.2.1 5 0 i = nI (B i)) (qk : ∀ cs d k', RdOk B N cs → (∀ w, WfC (cs w)) → TxD d cs → FrC oSix oSix (cT k (some (a 5))) k' → Q (some d) k') (qb : ∀ f k', RdBad B N f → FrC oSix oSix (cT k (some (a 5))) k' → k'.1 6 7 = nI f → Q none k') : wC_X6_read a k Q := by
  have hN := hb.2
  unfold wC_X6_read
  have f0 : FrC oSix oSix (cT k (some (a 5))) (cI (cI (cI (cT k (some (a 5))) 6 1 (0 : Int32)) 6 6 (0 : Int32)) 6 7 (-1 : Int32)) := ((FrC.rf.i_ rfl).i_ rfl).i_ rfl
  have t0 : TpC a B N (cI (cI (cI (cT k (some (a 5))) 6 1 (0 : Int32)) 6 6 (0 : Int32)) 6 7 (-1 : Int32)) := ⟨rfl, h5, hB⟩
  refine cAdv (i := 0) hb (Nat.zero_le _) t0 rfl rfl (fun k1 f1 c1 => ⟨4, ?_⟩)
  have I1 : CI a B N (lxS B N 0) k1 [] := ⟨t0.fr f1.six, (f1.1 6 7 rfl).trans rfl, lxS_le (Nat.zero_le _), c1, (f1.1 6 6 rfl).trans rfl, fun j hj => absurd hj (Nat.not_lt_zero j)⟩
  have F1 := f0.tr f1.six
  have bad : ∀ (m p : Nat) (fb : Nat → Int32) (k' : KC) (f : Nat), p + m = 3 → RdBad B N f → FrC oSix oSix (cT k (some (a 5))) k' → CF a B N f k' → wRdL a (m + 1) (nI p) fb k' Q := fun m p fb k' f hp rb F hF => rdLF m p fb k' hp hF (fun k2 f2 hF2 => qb f k2 rb (F.tr f2) hF2.2.1)
  rw [wRdL]
  refine ⟨fun e => absurd e (by decide), fun _ => ⟨vp_in_nI (n := 0) (by decide) (by decide), ?_⟩⟩
  refine simPart (p := 0) hb (by omega) I1 (Nat.zero_le _) (fun c0 s1 k2 p0 w0 f2 I2 l0 => ?_) (fun f k2 pb f2 hF => bad 2 1 _ k2 f rfl (rdBad0 hb pb) (F1.tr f2) hF)
  have b0 : k1.1 6 6 = nI 0 := I1.2.2.2.2.1
  rw [List.nil_append] at I2
  have hs1 := I2.2.2.1
  show wRdL a 3 (nI 1) _ k2 Q
  rw [wRdL]
  refine ⟨fun e => absurd e (by decide), fun _ => ⟨vp_in_nI (n := 1) (by decide) (by decide), ?_⟩⟩
  refine simPart (p := 1) hb (by omega) I2 (by omega) (fun c1' s2 k3 p1 w1 f3 I3 l1 => ?_) (fun f k3 pb f3 hF => bad 1 2 _ k3 f rfl (rdBad1 hb p0 pb) ((F1.tr f2).tr f3) hF)
  have b1 : k2.1 6 6 = nI c0.length := I2.2.2.2.2.1
  have hs2 := I3.2.2.1
  have len2 : (c0 ++ c1').length = c0.length + c1'.length := List.length_append
  show wRdL a 2 (nI 2) _ k3 Q
  rw [wRdL]
  refine ⟨fun e => absurd e (by decide), fun _ => ⟨vp_in_nI (n := 2) (by decide) (by decide), ?_⟩⟩
  refine simPart (p := 2) hb (by omega) I3 (by omega) (fun c2 s3 k4 p2 w2 f4 I4 l2 => ?_) (fun f k4 pb f4 hF => bad 0 3 _ k4 f rfl (rdBad2 hb p0 p1 pb) (((F1.tr f2).tr f3).tr f4) hF)
  have b2 : k3.1 6 6 = nI (c0 ++ c1').length := I3.2.2.2.2.1
  have b3 : k4.1 6 6 = nI (c0 ++ c1' ++ c2).length := I4.2.2.2.2.1
  have hs3 := I4.2.2.1
  have len3 : (c0 ++ c1' ++ c2).length = c0.length + c1'.length + c2.length := by rw [List.length_append, len2]
  show wRdL a 1 (nI 3) _ k4 Q
  rw [wRdL]
  have e0 : k4.1 6 2 = (0 : Int32) ↔ tkN B N s3 = 0 := cTok (c := 0) I4 (by decide)
  rw [e0]
  have F4 := ((F1.tr f2).tr f3).tr f4
  refine ⟨fun _ => ⟨fun y0 => ?_, fun n0 => cRefuse hb I4 (by omega) (fun k5 f5 hF5 => ⟨fun _ => qb s3 k5 (rdBad3 hb p0 p1 p2 n0) (F4.tr f5) hF5.2.1, fun e => absurd e hF5.ne⟩)⟩, fun e => absurd (by decide) e⟩
  refine ⟨fun e => absurd I4.2.1 e, fun _ => ?_⟩
  unfold ntext
  rw [b3, nI_clamp (by omega)]
  refine ⟨nI_pos (by omega), by omega, fun d d1 d2 d3 => qk (cs3 c0 c1' c2) d k4 (rdGood hb p0 p1 p2 y0) (fun w => match w with | 0 => w0 | 1 => w1 | n + 2 => w2) ⟨?_, d1, fun j hj => ?_, ?_, ?_, ?_, ?_⟩ F4⟩
  · show (c0 ++ c1' ++ c2).length ≤ 160
    omega
  · rw [d2 j (by rw [d1]; exact hj)]
    exact I4.2.2.2.2.2 j hj
  · rw [d3]; exact b0
  · rw [d3]; exact b1
  · rw [d3]; exact b2
  · rw [d3]; rfl
end Rd
