/-! ===== code of a TEXT and what it is worth ===== -/
def unI (x a : Int32) : Int32 := if x = -11 then -a else if a = 0 then 1 else 0
def biI (x a b : Int32) : Int32 := if x = -21 then (if ¬ a = 0 then 1 else if b = 0 then 0 else 1) else if x = -22 then (if a = 0 then 0 else if b = 0 then 0 else 1) else if x = -23 then (if b ≤ a then 0 else 1) else if x = -24 then (if a = b then 1 else 0) else if x = -25 then a + b else if x = -26 then a - b else a * b
def stp (nm : Nat → Int32) (st : List Int32) (x : Int32) : List Int32 :=
  if -6 ≤ x then (if 0 ≤ x then x else nm ((-1 : Int32) - x).toNatClampNeg) :: st
  else if -12 ≤ x then (match st with
    | a :: r => unI x a :: r
    | [] => [])
  else (match st with
    | b :: a :: r => biI x a b :: r
    | st => st)
def exL (nm : Nat → Int32) (c st : List Int32) : List Int32 := c.foldl (stp nm) st
def Ev (nm : Nat → Int32) (c : List Int32) (v : Int32) : Prop := ∀ st, exL nm c st = v :: st
theorem exL_app {nm : Nat → Int32} {c1 c2 st : List Int32} : exL nm (c1 ++ c2) st = exL nm c2 (exL nm c1 st) := List.foldl_append
theorem Ev.bin {nm : Nat → Int32} {c1 c2 : List Int32} {v w x : Int32} (h1 : Ev nm c1 v) (h2 : Ev nm c2 w) (hx : ¬ -6 ≤ x) (hy : ¬ -12 ≤ x) : Ev nm (c1 ++ (c2 ++ [x])) (biI x v w) := fun st => by
  rw [exL_app, exL_app, h1, h2]
  show stp nm (w :: v :: st) x = _
  unfold stp
  rw [if_neg hx, if_neg hy]
theorem Ev.un {nm : Nat → Int32} {c1 : List Int32} {v x : Int32} (h1 : Ev nm c1 v) (hx : ¬ -6 ≤ x) (hy : -12 ≤ x) : Ev nm (c1 ++ [x]) (unI x v) := fun st => by
  rw [exL_app, h1]
  show stp nm (v :: st) x = _
  unfold stp
  rw [if_neg hx, if_pos hy]
theorem Ev.num {nm : Nat → Int32} {n : Nat} (h : n < 2 ^ 31) : Ev nm [nI n] (nI n) := fun st => by
  show stp nm st (nI n) = _
  unfold stp
  have h0 : (0 : Int32) ≤ nI n := nI_pos' h
  have h6 : (-6 : Int32) ≤ nI n := by
    rw [Int32.le_iff_toInt_le] at *
    have e : (-6 : Int32).toInt = -6 := by decide
    have e2 : (0 : Int32).toInt = 0 := by decide
    omega
  rw [if_pos h6, if_pos h0]
theorem nm_dec : ∀ w, w < 6 → -6 ≤ (-1 : Int32) - nI w ∧ ¬ 0 ≤ (-1 : Int32) - nI w ∧ ((-1 : Int32) - ((-1 : Int32) - nI w)).toNatClampNeg = w := by decide +kernel
theorem Ev.nam_ {nm : Nat → Int32} {x : Int32} {w : Nat} (h1 : -6 ≤ x) (h2 : ¬ 0 ≤ x) (h3 : ((-1 : Int32) - x).toNatClampNeg = w) : Ev nm [x] (nm w) := fun st => by
  show stp nm st x = _
  unfold stp
  rw [if_pos h1, if_neg h2, h3]
theorem Ev.nam {nm : Nat → Int32} {w : Nat} (h : w < 6) : Ev nm [(-1 : Int32) - nI w] (nm w) := Ev.nam_ (nm_dec w h).1 (nm_dec w h).2.1 (nm_dec w h).2.2
def WfC (c : List Int32) : Prop := ∀ nm : Nat → Int32, ∃ v, Ev nm c v
theorem WfC.bin {c1 c2 : List Int32} {x : Int32} (h1 : WfC c1) (h2 : WfC c2) (hx : ¬ -6 ≤ x) (hy : ¬ -12 ≤ x) : WfC (c1 ++ (c2 ++ [x])) := fun nm => by
  obtain ⟨v, hv⟩ := h1 nm
  obtain ⟨w, hw⟩ := h2 nm
  exact ⟨_, hv.bin hw hx hy⟩
theorem WfC.un {c1 : List Int32} {x : Int32} (h1 : WfC c1) (hx : ¬ -6 ≤ x) (hy : -12 ≤ x) : WfC (c1 ++ [x]) := fun nm => by
  obtain ⟨v, hv⟩ := h1 nm
  exact ⟨_, hv.un hx hy⟩
/-! ===== what the reference makes of a part of a TEXT ===== -/
def RfOk (B : Nat → Nat) (N d i o s : Nat) (c : List Int32) (s' : Nat) : Prop := ∀ F g, MI B N F s o g → ∀ Q : Int32 → GM → Prop, (∀ v g', FrG sPar g g' → MI B N F s' o g' → Ev (nmM g) c v → Q v g') → wMg d i g Q
def RfBad (B : Nat → Nat) (N d i o s f : Nat) : Prop := ∀ F g, MI B N F s o g → ∀ Q : Int32 → GM → Prop, (∀ v g', MB f g g' → Q v g') → wMg d i g Q
/-- one side beside the other -/
def Sim (a : Nat → Nat) (B : Nat → Nat) (N d ic ir o : Nat) : Prop := ∀ s k l (Q : KC → Prop), CI a B N s k l → l.length ≤ s → (∀ c s' k', RfOk B N d ir o s c s' → WfC c → FrC oSix oSix k k' → CI a B N s' k' (l ++ c) → s + c.length ≤ s' → Q k') → (∀ f k', RfBad B N d ir o s f → FrC oSix oSix k k' → CF a B N f k' → Q k') → wCg a d ic (nI o) k Q
def SimF (a : Nat → Nat) (B : Nat → Nat) (N d ic : Nat) : Prop := ∀ x f k (Q : KC → Prop), CF a B N f k → (∀ k', FrC oSix oSix k k' → CF a B N f k' → Q k') → wCg a d ic x k Q
/-- a token with which no ONE begins -/
def NoOne (a : Nat → Nat) (B : Nat → Nat) (N d ic : Nat) : Prop := ∀ s k l o (Q : KC → Prop), CI a B N s k l → l.length ≤ 160 → tkN B N s ≠ 2 → tkN B N s ≠ 3 → tkN B N s ≠ 40 → tkN B N s ≠ 45 → (∀ k', FrC oSix oSix k k' → CF a B N s k' → Q k') → wCg a d ic (nI o) k Q
section Loop
variable {a : Nat → Nat} {B : Nat → Nat} {N d ic jc ir jr : Nat}
variable {R : Nat → Nat → Int32 → Int32 → KC → (KC → Prop) → Prop} {W : Nat → Nat → Int32 → GM → (Int32 → GM → Prop) → Prop} {K : Nat → Bool} {op : Nat → Int32}
def LoopC (a : Nat → Nat) (d ic jc : Nat) (R : Nat → Nat → Int32 → Int32 → KC → (KC → Prop) → Prop) (K : Nat → Bool) (op : Nat → Int32) : Prop :=
  (∀ x k (Q : KC → Prop), (∃ n, R n 0 x 0 k Q) → wCg a (d + 1) ic x k Q) ∧ (∀ n x k (Q : KC → Prop), wCg a d jc x k (fun k1 => R n 1 x 0 k1 Q) → R (n + 1) 0 x 0 k Q) ∧
  (∀ n x j k (Q : KC → Prop) t, k.1 6 2 = nI t → t < 100 → ((160 : Int32) ≤ j → Q k) → (K t = false → Q k) → (¬ (160 : Int32) ≤ j → K t = true → ∃ n4, wC_X6_advance a n4 0 0 k (fun k4 => wCg a d jc x k4 (fun k5 => wC_X6_write (op t) k5 (fun k6 => R n 1 x (j + 1) k6 Q)))) → R (n + 1) 1 x j k Q)
def LoopM (B : Nat → Nat) (N d ir jr : Nat) (W : Nat → Nat → Int32 → GM → (Int32 → GM → Prop) → Prop) (K : Nat → Bool) (op : Nat → Int32) : Prop :=
  (∀ g (Q : Int32 → GM → Prop), (∃ n, W n 0 0 g Q) → wMg (d + 1) ir g Q) ∧ (∀ n g (Q : Int32 → GM → Prop), wMg d jr g (fun r k => W n 1 r k Q) → W (n + 1) 0 0 g Q) ∧
  (∀ n v g (Q : Int32 → GM → Prop), g.1 24 = 1 → Q v g → W (n + 1) 1 v g Q) ∧
  (∀ n F s o v g (Q : Int32 → GM → Prop), MI B N F s o g → K (tkN B N s) = false → Q v g → W (n + 1) 1 v g Q) ∧
  (∀ n, ∃ n', n ≤ n' ∧ ∀ F s o v g (Q : Int32 → GM → Prop), MI B N F s o g → K (tkN B N s) = true → ∃ P : Int32 → GM → Prop, (∀ r k5, W n' 1 (biI (op (tkN B N s)) v r) k5 Q → P r k5) ∧ ((∃ n4, wM_next n4 0 0 g (fun k4 => wMg d jr k4 P)) → W (n + 2) 1 v g Q))
def KOk (K : Nat → Bool) (op : Nat → Int32) : Prop := K 0 = false ∧ K 1 = false ∧ ∀ t, K t = true → ¬ (-6 : Int32) ≤ op t ∧ ¬ (-12 : Int32) ≤ op t
theorem simLoopF (hC : LoopC a d ic jc R K op) (hK : KOk K op) (h : SimF a B N d jc) : SimF a B N (d + 1) ic := by
  intro x f k Q hF q
  refine hC.1 x k Q ⟨2, hC.2.1 1 x k Q (h x f k _ hF (fun k1 f1 hF1 => ?_))⟩
  refine hC.2.2 0 x 0 k1 Q 1 hF1.2.2.2.1 (by decide) (fun _ => q k1 f1 hF1) (fun _ => q k1 f1 hF1) (fun _ e => ?_)
  rw [hK.2.1] at e; exact absurd e (by decide)
theorem simLoopN (hC : LoopC a d ic jc R K op) (hK : KOk K op) (h : NoOne a B N d jc) : NoOne a B N (d + 1) ic := by
  intro s k l o Q hI hl h2 h3 h40 h45 q
  refine hC.1 _ k Q ⟨2, hC.2.1 1 _ k Q (h s k l o _ hI hl h2 h3 h40 h45 (fun k1 f1 hF1 => ?_))⟩
  refine hC.2.2 0 _ 0 k1 Q 1 hF1.2.2.2.1 (by decide) (fun _ => q k1 f1 hF1) (fun _ => q k1 f1 hF1) (fun _ e => ?_)
  rw [hK.2.1] at e; exact absurd e (by decide)
/-- the loop of the reference, gone through as far as s1 -/
def RLp (B : Nat → Nat) (N o s : Nat) (W : Nat → Nat → Int32 → GM → (Int32 → GM → Prop) → Prop) (c1 : List Int32) (s1 : Nat) : Prop := ∀ F g, MI B N F s o g → ∀ Q : Int32 → GM → Prop, (∀ v g1, FrG sPar g g1 → MI B N F s1 o g1 → Ev (nmM g) c1 v → ∀ n, 2 * (N + 2) ≤ n + 2 * s1 → W n 1 v g1 Q) → ∀ n, 2 * (N + 2) ≤ n + 2 * s → W (n + 1) 0 0 g Q
theorem tok_in {s : Nat} (hK : KOk K op) (ht : K (tkN B N s) = true) : lxT B N s ≠ 4 ∧ lxT B N s ≠ 0 := by
  refine ⟨fun e => ?_, fun e => ?_⟩
  · rw [tkN_4 e, hK.2.1] at ht; exact absurd ht (by decide)
  · rw [tkN_0 e, hK.1] at ht; exact absurd ht (by decide)
theorem simLoop1 {o s : Nat} {k : KC} {l : List Int32} {Q : KC → Prop} (hb : BN B N) (hC : LoopC a d ic jc R K op) (hM : LoopM B N d ir jr W K op) (hK : KOk K op) (hS : Sim a B N d jc jr o) (hl : l.length ≤ s)
    (qk : ∀ c s' k', RfOk B N (d + 1) ir o s c s' → WfC c → FrC oSix oSix k k' → CI a B N s' k' (l ++ c) → s + c.length ≤ s' → Q k') (qb : ∀ f k', RfBad B N (d + 1) ir o s f → FrC oSix oSix k k' → CF a B N f k' → Q k') :
    ∀ (m j s1 : Nat) (k1 : KC) (c1 : List Int32), 160 - j = m → j ≤ 160 → j ≤ s1 → RLp B N o s W c1 s1 → WfC c1 → FrC oSix oSix k k1 → CI a B N s1 k1 (l ++ c1) → s + c1.length ≤ s1 → R (m + 1) 1 (nI o) (nI j) k1 Q := by
  obtain ⟨hM0, hM1, hMB, hMx, hMs⟩ := hM
  have hN := hb.2
  have exit : ∀ (s1 : Nat) (k1 : KC) (c1 : List Int32), RLp B N o s W c1 s1 → WfC c1 → FrC oSix oSix k k1 → CI a B N s1 k1 (l ++ c1) → s + c1.length ≤ s1 → K (tkN B N s1) = false → Q k1 := by
    intro s1 k1 c1 hRL hw f1 hI1 hle hKf
    have hs1 := hI1.2.2.1
    refine qk c1 s1 k1 (fun F g hg Q' hQ' => hM0 g Q' ⟨2 * (N + 2) + 1, ?_⟩) hw f1 hI1 hle
    refine hRL F g hg Q' (fun v g1 fr mi ev n hn => ?_) _ (by omega)
    obtain ⟨n2, rfl⟩ : ∃ n2, n = n2 + 1 := ⟨n - 1, by omega⟩
    exact hMx n2 F s1 o v g1 Q' mi hKf (hQ' v g1 fr mi ev)
  intro m
  induction m with
  | zero =>
    intro j s1 k1 c1 hm hj hjs hRL hw f1 hI1 hle
    have hs1 := hI1.2.2.1
    have h0 : lxT B N s1 = 0 := (lxT_0 (by omega)).1
    have hKf : K (tkN B N s1) = false := by rw [tkN_0 h0]; exact hK.1
    have ex := exit s1 k1 c1 hRL hw f1 hI1 hle hKf
    exact hC.2.2 0 _ _ k1 Q (tkN B N s1) hI1.2.2.2.1.2.1 (tk_lt hs1) (fun _ => ex) (fun _ => ex) (fun _ e => by rw [hKf] at e; exact absurd e (by decide))
  | succ m ih =>
    intro j s1 k1 c1 hm hj hjs hRL hw f1 hI1 hle
    have hs1 := hI1.2.2.1
    refine hC.2.2 (m + 1) _ _ k1 Q (tkN B N s1) hI1.2.2.2.1.2.1 (tk_lt hs1) (fun e => absurd e (nI_ge (b := 160) (by omega) (by decide))) (fun e => exit s1 k1 c1 hRL hw f1 hI1 hle e) (fun _ hKt => ?_)
    obtain ⟨hT4, hT0⟩ := tok_in hK hKt
    have hgt := nxS_gt (B := B) (N := N) hT0
    have hlen : (l ++ c1).length = l.length + c1.length := List.length_append
    have hop := hK.2.2 _ hKt
    refine cAdvI hb hI1 hT4 (fun k4 f4 hI4 => hS (nxS B N s1) k4 (l ++ c1) _ hI4 (by omega) (fun c2 s2 k5 r2 w2 f5 hI5 hle2 => ?_) (fun fb k5 rb f5 hF5 => ?_))
    · have hs2 := hI5.2.2.1
      have hlen2 : (l ++ c1 ++ c2).length = l.length + c1.length + c2.length := by rw [List.length_append, hlen]
      refine cWrite hI5 (by omega) (fun k6 f6 hI6 => ?_)
      rw [nI_1]
      refine ih (j + 1) s2 k6 (c1 ++ (c2 ++ [op (tkN B N s1)])) (by omega) (by omega) (by omega) ?_ (hw.bin w2 hop.1 hop.2) (f1.tr (f4.tr (f5.tr f6))) ?_ ?_
      · intro F g hg Q' hQ' n hn
        refine hRL F g hg Q' (fun v g1 fr mi ev n1 hn1 => ?_) n hn
        obtain ⟨n2, rfl⟩ : ∃ n2, n1 = n2 + 2 := ⟨n1 - 2, by omega⟩
        obtain ⟨n', hn', hst⟩ := hMs n2
        obtain ⟨P, hP, hst2⟩ := hst F s1 o v g1 Q' mi hKt
        refine hst2 (mNx hb mi hT4 (fun g4 fr4 mi4 => r2 F g4 mi4 P (fun w g5 fr5 mi5 ev5 => hP w g5 ?_)))
        rw [nmM_fr (fr.tr fr4)] at ev5
        exact hQ' _ g5 (fr.tr (fr4.tr fr5)) mi5 (ev.bin ev5 hop.1 hop.2) n' (by omega)
      · have e : l ++ (c1 ++ (c2 ++ [op (tkN B N s1)])) = l ++ c1 ++ c2 ++ [op (tkN B N s1)] := by simp only [List.append_assoc]
        rw [e]; exact hI6
      · simp only [List.length_append, List.length_singleton]
        omega
    · refine cWriteF hF5 (fun k6 f6 hF6 => ?_)
      have qq := qb fb k6 (fun F g hg Q' hQ' => hM0 g Q' ⟨2 * (N + 2) + 1, ?_⟩) (f1.tr (f4.tr (f5.tr f6))) hF6
      · exact hC.2.2 m _ _ k6 Q 1 hF6.2.2.2.1 (by decide) (fun _ => qq) (fun _ => qq) (fun _ e => by rw [hK.2.1] at e; exact absurd e (by decide))
      · refine hRL F g hg Q' (fun v g1 fr mi ev n1 hn1 => ?_) _ (by omega)
        obtain ⟨n2, rfl⟩ : ∃ n2, n1 = n2 + 2 := ⟨n1 - 2, by omega⟩
        obtain ⟨n', hn', hst⟩ := hMs n2
        obtain ⟨P, hP, hst2⟩ := hst F s1 o v g1 Q' mi hKt
        obtain ⟨n3, rfl⟩ : ∃ n3, n' = n3 + 1 := ⟨n' - 1, by omega⟩
        exact hst2 (mNx hb mi hT4 (fun g4 fr4 mi4 => rb F g4 mi4 P (fun w g5 mb => hP w g5 (hMB n3 _ g5 Q' mb.2.1 (hQ' _ g5 ⟨fr.tr (fr4.tr mb.1), mb.2⟩)))))
theorem simLoop {o : Nat} (hb : BN B N) (hC : LoopC a d ic jc R K op) (hM : LoopM B N d ir jr W K op) (hK : KOk K op) (hS : Sim a B N d jc jr o) : Sim a B N (d + 1) ic ir o := by
  intro s k l Q hI hl qk qb
  refine hC.1 _ k Q ⟨160 - 0 + 1 + 1, hC.2.1 _ _ k Q (hS s k l _ hI hl (fun c1 s1 k1 r1 w1 f1 hI1 hle => ?_) (fun fb k1 rb f1 hF1 => ?_))⟩
  · refine simLoop1 (Q := Q) hb hC hM hK hS hl qk qb _ 0 s1 k1 c1 rfl (by omega) (by omega) ?_ w1 f1 hI1 hle
    intro F g hg Q' hQ' n hn
    exact hM.2.1 n g Q' (r1 F g hg _ (fun v g1 fr mi ev => hQ' v g1 fr mi ev n (by omega)))
  · have qq := qb fb k1 (fun F g hg Q' hQ' => hM.1 g Q' ⟨1 + 1, hM.2.1 1 g Q' (rb F g hg _ (fun v g1 mb => hM.2.2.1 0 v g1 Q' mb.2.1 (hQ' v g1 mb)))⟩) f1 hF1
    exact hC.2.2 _ _ _ k1 Q 1 hF1.2.2.2.1 (by decide) (fun _ => qq) (fun _ => qq) (fun _ e => by rw [hK.2.1] at e; exact absurd e (by decide))
end Loop
