/-! ===== TEXT 0, and how both begin ===== -/
def by0 : List Nat := [103, 97, 105, 110, 32, 49, 48, 48, 32, 59, 32, 102, 97, 100, 101, 32, 52, 32, 59, 32, 100, 114, 111, 112, 32, 115, 117, 109, 32, 59, 32, 32]
def B0 (i : Nat) : Nat := by0.getD i 0
theorem B0_256 (i : Nat) : B0 i < 256 := by
  rcases Nat.lt_or_ge i 32 with h | h
  · exact co_dec (N := 32) (P := fun i => B0 i < 256) (by decide +kernel) h
  · have : B0 i = 0 := by
      unfold B0
      rw [List.getD_eq_getElem?_getD, List.getElem?_eq_none (by exact h)]; rfl
    omega
theorem bn0 : BN B0 32 := ⟨B0_256, by decide⟩
section Up
variable {B : Nat → Nat} {N d ir jr o s s' : Nat} {c : List Int32}
theorem rfUp {W : Nat → Nat → Int32 → GM → (Int32 → GM → Prop) → Prop} {K : Nat → Bool} {op : Nat → Int32} (hM : LoopM B N d ir jr W K op) (hK : K (tkN B N s') = false) (r : RfOk B N d jr o s c s') : RfOk B N (d + 1) ir o s c s' := by
  intro F g hg Q hQ
  exact hM.1 g Q ⟨2, hM.2.1 1 g Q (r F g hg _ (fun v g1 f m ev => hM.2.2.2.1 0 F s' o v g1 Q m hK (hQ v g1 f m ev)))⟩
theorem rfAll (hb : BN B N) (h9 : tkN B N s ≠ 9) (h59 : tkN B N s' = 59) (r : RfOk B N (d + 1) 0 o s c s') : RfOk B N (d + 6) 5 o s c s' := by
  have k1 : kMul (tkN B N s') = false := by rw [h59]; rfl
  have k2 : kAdd (tkN B N s') = false := by rw [h59]; rfl
  have k3 : kAnd (tkN B N s') = false := by rw [h59]; rfl
  have k4 : kOr (tkN B N s') = false := by rw [h59]; rfl
  have r1 : RfOk B N (d + 2) 1 o s c s' := rfUp (lmMul (d + 1)) k1 r
  have r2 : RfOk B N (d + 3) 2 o s c s' := rfUp (lmAdd (d + 2)) k2 r1
  have r3 : RfOk B N (d + 4) 3 o s c s' := rfNot0 hb (d + 3) h9 r2 (by rw [h59]; decide) (by rw [h59]; decide)
  have r4 : RfOk B N (d + 5) 4 o s c s' := rfUp (lmAnd hb (d + 4)) k3 r3
  exact rfUp (lmOr hb (d + 5)) k4 r4
theorem ptRule {p s1 : Nat} (hb : BN B N) (hp : p < 3) (tk : tkN B N s = 4 + p) (h9 : tkN B N (nxS B N s) ≠ 9) (h59 : tkN B N s1 = 59) (r0 : RfOk B N 39 0 0 (nxS B N s) c s1) : PtOk B N p s c (nxS B N s1) := by
  have r : RfOk B N 44 5 0 (nxS B N s) c s1 := rfAll (d := 38) hb h9 h59 r0
  intro F g hg Q' hQ'
  refine ⟨2, part0Ok hb hp hg tk (fun g1 fg1 m1 => r F g1 m1 _ (fun v g2 fg2 m2 ev => part1Ok hb m2 h59 (fun g3 fg3 m3 => ?_)))⟩
  rw [nmM_fr fg1] at ev
  exact hQ' v g3 ((fg1.tr fg2).tr fg3) m3 ev
end Up
def cs0 : Nat → List Int32 := cs3 [nI 100] [nI 4] [(-1 : Int32) - nI 1]
theorem pt00 : PtOk B0 32 0 (lxS B0 32 0) [nI 100] 11 := by
  have e0 : lxS B0 32 0 = 0 := by decide +kernel
  have e1 : nxS B0 32 0 = 5 := by decide +kernel
  have e2 : nxS B0 32 5 = 9 := by decide +kernel
  have e3 : nxS B0 32 9 = 11 := by decide +kernel
  have v : vDg B0 5 (lxD B0 32 5 - 5) = 100 := by decide +kernel
  have r : RfOk B0 32 39 0 0 5 [nI 100] 9 := by
    have := rfNum (o := 0) bn0 38 (s := 5) (by decide) (by decide +kernel)
    rw [v, e2] at this; exact this
  rw [e0]
  have q := ptRule (s := 0) (s1 := 9) (p := 0) (c := [nI 100]) bn0 (by decide) (by decide +kernel) (by rw [e1]; decide +kernel) (by decide +kernel) (by rw [e1]; exact r)
  rw [e3] at q; exact q
theorem pt01 : PtOk B0 32 1 11 [nI 4] 20 := by
  have e1 : nxS B0 32 11 = 16 := by decide +kernel
  have e2 : nxS B0 32 16 = 18 := by decide +kernel
  have e3 : nxS B0 32 18 = 20 := by decide +kernel
  have v : vDg B0 16 (lxD B0 32 16 - 16) = 4 := by decide +kernel
  have r : RfOk B0 32 39 0 0 16 [nI 4] 18 := by
    have := rfNum (o := 0) bn0 38 (s := 16) (by decide) (by decide +kernel)
    rw [v, e2] at this; exact this
  have q := ptRule (s := 11) (s1 := 18) (p := 1) (c := [nI 4]) bn0 (by decide) (by decide +kernel) (by rw [e1]; decide +kernel) (by decide +kernel) (by rw [e1]; exact r)
  rw [e3] at q; exact q
theorem pt02 : PtOk B0 32 2 20 [(-1 : Int32) - nI 1] 32 := by
  have e1 : nxS B0 32 20 = 25 := by decide +kernel
  have e2 : nxS B0 32 25 = 29 := by decide +kernel
  have e3 : nxS B0 32 29 = 32 := by decide +kernel
  have v : wIx B0 25 (lxW B0 32 25 - 25) = 1 := by decide +kernel
  have r : RfOk B0 32 39 0 0 25 [(-1 : Int32) - nI 1] 29 := by
    have := rfNam (o := 0) bn0 38 (s := 25) (by decide +kernel) (by rw [v]; decide)
    rw [v, e2] at this; exact this
  have q := ptRule (s := 20) (s1 := 29) (p := 2) (c := [(-1 : Int32) - nI 1]) bn0 (by decide) (by decide +kernel) (by rw [e1]; decide +kernel) (by decide +kernel) (by rw [e1]; exact r)
  rw [e3] at q; exact q
theorem rd_0 : RdOk B0 32 cs0 := rdGood bn0 pt00 pt01 pt02 (by decide +kernel)
theorem wf_0 (c : Nat) : WfC (cs0 c) := match c with
  | 0 => fun _ => ⟨_, Ev.num (by decide)⟩
  | 1 => fun _ => ⟨_, Ev.num (by decide)⟩
  | _ + 2 => fun _ => ⟨_, Ev.nam (by decide)⟩
theorem td_0 {d : Dn} (h1 : d.2.2.2.1 = 3) (h2 : d.2.2.2.2.1 0 = 100 ∧ d.2.2.2.2.1 1 = 4 ∧ d.2.2.2.2.1 2 = -2) (h3 : d.2.2.2.2.2 0 = 0 ∧ d.2.2.2.2.2 1 = 1 ∧ d.2.2.2.2.2 2 = 2 ∧ d.2.2.2.2.2 3 = 3) : TxD d cs0 := by
  refine ⟨by decide, h1, fun j hj => ?_, h3.1, h3.2.1, h3.2.2.1, h3.2.2.2⟩
  have h3' : j < 3 := hj
  match j, h3' with
  | 0, _ => exact h2.1
  | 1, _ => exact h2.2.1
  | 2, _ => exact h2.2.2
def wo0 : Nat → Int32 := upd (upd (upd (fun _ => 0) 1 1000) 2 (-800)) 3 (-600)
def go0 : Nat → Int32 := fun x => if x < 24 then 100 else 0
/-- both, made anew -/
theorem rel_0 {k : KC} {g : GM} (k10 : k.1 1 0 = 0) (k11 : k.1 1 1 = 1) (k12 : k.1 1 2 = 0) (a13 : k.2.1 1 3 = fun _ => 0) (a14 : k.2.1 1 4 = wo0) (a15 : k.2.1 1 5 = go0) (a16 : k.2.1 1 6 = fun _ => 0) (tx : ∃ d : Dn, k.2.2.2.1 0 = some d.1 ∧ d ∈ txC k ∧ d.2.2.2.1 = 3 ∧ (d.2.2.2.2.1 0 = 100 ∧ d.2.2.2.2.1 1 = 4 ∧ d.2.2.2.2.1 2 = -2) ∧ (d.2.2.2.2.2 0 = 0 ∧ d.2.2.2.2.2 1 = 1 ∧ d.2.2.2.2.2 2 = 2 ∧ d.2.2.2.2.2 3 = 3)) (a2 : k.2.1 2 1 = (fun _ => 0) ∧ k.2.1 2 2 = (fun _ => 0) ∧ k.2.1 2 3 = (fun _ => 0) ∧ k.2.1 2 4 = (fun _ => 0)) (k2 : k.1 2 7 = 0 ∧ k.1 2 8 = 0 ∧ k.1 2 9 = 30 ∧ k.1 2 10 = 0) (k09 : k.1 0 9 = -1) (k83 : k.1 8 3 = 0) (ks : ∀ s, s < 4 → k.1 (9 + s) 0 = -1) (k51 : k.1 5 1 = 0) (a4 : k.2.1 4 1 = (fun _ => 0) ∧ k.2.1 4 2 = (fun _ => 0))
    (g10 : g.1 10 = 0) (g3 : g.1 3 = 1) (g33 : g.1 33 = 0) (gm : g.1 15 = 0 ∧ g.1 16 = 0 ∧ g.1 14 = 30 ∧ g.1 4 = 0) (g55 : g.1 55 = 0) (g46 : g.1 46 = 0) (g6 : g.1 6 = 0) (b7 : g.2.1 7 = fun _ => 0) (b11 : g.2.1 11 = wo0) (b12 : g.2.1 12 = go0) (b13 : g.2.1 13 = fun _ => 0) (bm : g.2.1 8 = (fun _ => 0) ∧ g.2.1 9 = (fun _ => 0) ∧ g.2.1 36 = (fun _ => 0) ∧ g.2.1 35 = (fun _ => 0)) (b61 : g.2.1 61 = fun _ => 0) (b2 : g.2.1 2 0 = 32) (b1 : ∀ i, i < 32 → g.2.1 1 i = nI (B0 i)) : Rel 0 k g := by
  refine ⟨0, 1, 0, 0, 0, ⟨Nat.zero_le _, k10, g10, by rw [a13, b7], by rw [a14, b11], by rw [a15, b12], by rw [a16, b13], fun s _ => ⟨0, by decide, by rw [b7]; rfl⟩, fun s q _ _ => by rw [b13]⟩, ⟨by decide, k11, g3, fun x hx => ?_⟩, ⟨by decide, k12, g33, fun x hx => absurd hx (Nat.not_lt_zero x)⟩, ⟨by rw [a2.1, bm.1], by rw [a2.2.1, bm.2.1], by rw [k2.1, gm.1], by rw [k2.2.1, gm.2.1], by rw [k2.2.2.1, gm.2.2.1], by rw [k2.2.2.2, gm.2.2.2], by rw [a2.2.2.1, bm.2.2.1], by rw [a2.2.2.2, bm.2.2.2]⟩, ⟨⟨0, by decide, gm.2.2.2⟩, fun s _ => by rw [bm.1, bm.2.1]; exact ⟨rfl, rfl⟩, ⟨0, by decide, gm.1⟩, ?_⟩, Or.inl ⟨k09, g55⟩, ⟨by decide, k83, g46, fun i hi => absurd hi (Nat.not_lt_zero i)⟩, fun s hs => Or.inl ⟨by rw [b61], ks s hs⟩, ⟨by decide, k51, g6, fun i hi => absurd hi (Nat.not_lt_zero i)⟩, fun s _ => by rw [a4.1, a4.2]; exact ⟨rfl, rfl⟩⟩
  · have x0 : x = 0 := by omega
    subst x0
    obtain ⟨d, d1, d2, d3, d4, d5⟩ := tx
    exact ⟨B0, 32, cs0, ⟨d, d1, d2, td_0 d3 d4 d5⟩, wf_0, ⟨⟨by decide, by decide⟩, b2, fun i hi => by rw [Nat.mul_zero, Nat.zero_add]; exact b1 i hi⟩, rd_0⟩
  · rw [bm.2.1, bm.2.2.1, bm.2.2.2]
    exact ⟨fun _ => 0, fun _ => 0, fun _ _ => rfl, fun _ _ => ⟨rfl, Nat.zero_le _⟩, fun _ _ _ _ => Nat.le_refl _, fun _ _ => rfl⟩
