/-! ===== the start: the environment that the statement gives ===== -/
def FLT : List Cond := flatC (Cond.and given_1 narrow_1)
def tmS (i : Nat) : Term := Term.string RX6 (idxS.getD i 0)
def sIx (i : Nat) : Nat := [423, 424, 425, 426, 427, 428, 484, 485, 486, 487, 488, 489, 497].getD i 0
def nIx (i : Nat) : Nat := [153, 168, 200, 217, 263, 325, 331, 415, 630, 631, 681, 700, 854].getD i 0
def exI (i : Nat) : Nat := [51, 63, 71, 82, 93, 104, 118, 132, 147, 163, 178, 195, 213].getD i 0
def coI (i : Nat) : Nat := [52, 64, 72, 83, 94, 105, 119, 133, 148, 164, 179, 196, 214].getD i 0
def arI (i : Nat) : Nat := [53, 65, 73, 84, 95, 106, 120, 134, 149, 165, 180, 197, 215].getD i 0
def leI (i : Nat) : Nat := [54, 66, 74, 85, 96, 107, 121, 135, 150, 166, 181, 198, 216].getD i 0
def elI (i j : Nat) : Nat := ([[55, 56, 57, 58, 59, 60, 61, 62], [67, 68, 69], [75, 76, 77, 78, 79], [86, 87, 88, 89], [97, 98, 99], [108, 109, 110, 111, 112], [122, 123, 124, 125], [136, 137, 138, 139], [151, 152, 153, 154], [167, 168], [182, 183, 184], [199, 200, 201], [217, 218, 219, 220, 221, 222, 223, 224]].getD i []).getD j 0
def neI (i j : Nat) : Nat := ([[0, 70, 80, 90, 100, 113, 126, 140, 155, 169, 185, 202, 225], [0, 0, 81, 91, 101, 114, 127, 141, 156, 170, 186, 203, 226], [0, 0, 0, 92, 102, 115, 128, 142, 157, 171, 187, 204, 227], [0, 0, 0, 0, 103, 116, 129, 143, 158, 172, 188, 205, 228], [0, 0, 0, 0, 0, 117, 130, 144, 159, 173, 189, 206, 229], [0, 0, 0, 0, 0, 0, 131, 145, 160, 174, 190, 207, 230], [0, 0, 0, 0, 0, 0, 0, 146, 161, 175, 191, 208, 231], [0, 0, 0, 0, 0, 0, 0, 0, 162, 176, 192, 209, 232], [0, 0, 0, 0, 0, 0, 0, 0, 0, 177, 193, 210, 233], [0, 0, 0, 0, 0, 0, 0, 0, 0, 0, 194, 211, 234], [0, 0, 0, 0, 0, 0, 0, 0, 0, 0, 0, 212, 235], [0, 0, 0, 0, 0, 0, 0, 0, 0, 0, 0, 0, 236], [0, 0, 0, 0, 0, 0, 0, 0, 0, 0, 0, 0, 0]].getD i []).getD j 0
def u3I (i : Nat) : Nat := [12, 13, 14, 15, 16, 17].getD i 0
theorem fl_ex : ∀ i, i < 13 → FLT[exI i]? = some (Cond.exactly (tmS i) "java/lang/String") := by decide +kernel
theorem fl_co : ∀ i, i < 13 → FLT[coI i]? = some (Cond.eq (.field (tmS i) "java/lang/String" "coder" "B") (.int 0)) := by decide +kernel
theorem fl_ar : ∀ i, i < 13 → FLT[arI i]? = some (Cond.arrayOf (.field (tmS i) "java/lang/String" "value" "[B") .byte) := by decide +kernel
theorem fl_le : ∀ i, i < 13 → FLT[leI i]? = some (Cond.eq (.length (.field (tmS i) "java/lang/String" "value" "[B")) (.int (Int32.ofNat (lenS.getD i 0)))) := by decide +kernel
theorem fl_el : ∀ i, i < 13 → ∀ j, j < lenS.getD i 0 → FLT[elI i j]? = some (Cond.eq (.elem (.field (tmS i) "java/lang/String" "value" "[B") (.int (Int32.ofNat j))) (.int ((bytS.getD i []).getD j 0))) := by decide +kernel
theorem fl_ne : ∀ i, i < 13 → ∀ j, j < 13 → i < j → FLT[neI i j]? = some (Cond.not (Cond.eq (tmS i) (tmS j))) := by decide +kernel
theorem fl_ln : ∀ i, i < 13 → lenS.getD i 0 < 2 ^ 31 := by decide +kernel
theorem fl_u1 : FLT[10]? = some (Cond.arrayOf (.static RX9 "UNDER" "[I") .int) := by decide +kernel
theorem fl_u2 : FLT[11]? = some (Cond.eq (.length (.static RX9 "UNDER" "[I")) (.int (Int32.ofNat 6))) := by decide +kernel
theorem fl_u3 : ∀ j, j < 6 → FLT[u3I j]? = some (Cond.eq (.elem (.static RX9 "UNDER" "[I") (.int (Int32.ofNat j))) (.int (undS j))) := by decide +kernel
theorem fl_cs : FLT[4]? = some (Cond.eq (.static "java/lang/String" "COMPACT_STRINGS" "Z") (.int 1)) := by decide +kernel
theorem fl_pc : FLT[5]? = some (Cond.isRef (.static "jdk/internal/util/Preconditions" "SIOOBE_FORMATTER" "Ljava/util/function/BiFunction;")) := by decide +kernel
theorem tb_sr : ∀ i, i < 13 → tables_1[sIx i]? = some (Cond.stringRef RX6 (idxS.getD i 0) (txtS.getD i "")) := by decide +kernel
theorem tb_nt : ∀ i, i < 13 → (NT[i]?).map (fun t => Cond.methodLinkNest t.1 t.2.1 t.2.2.1 t.2.2.2) = tables_1[nIx i]? := by decide +kernel
theorem NT_len : NT.length = 13 := rfl

set_option maxHeartbeats 4000000 in
set_option maxRecDepth 100000 in
theorem EC_start {s : State} {args : Array Value} {A : Nat → Prop} (hts : ∀ w ∈ lw_tbl, w.before args s = true) (hgv : (Cond.and given_1 narrow_1).before args s = true) (hA : ∀ a : Nat, a < s.heap.size → ¬ A a) : ∃ P : EP, EC P A s := by
  have ht := Tw_tbl hts
  have hs : ∀ {w : Cond} {i : Nat}, FLT[i]? = some w → w.before args s = true := fun h => flat_of_before _ hgv _ (List.mem_of_getElem? h)
  obtain ⟨adK, adV, hS, hV⟩ := vk_Sof (args := args) (s := s) (N := 13) (tm := tmS) (len := lenS) (byt := bytS) (A := A) fl_ln (fun i hi => hs (fl_ex i hi)) (fun i hi => hs (fl_co i hi)) (fun i hi => hs (fl_ar i hi)) (fun i hi => hs (fl_le i hi)) (fun i hi j hj => hs (fl_el i hi j hj)) (fun i j hi hj hij => by
    rcases Nat.lt_or_gt_of_ne hij with h | h
    · exact Or.inl (hs (fl_ne i hi j hj h))
    · exact Or.inr (hs (fl_ne j hj i hi h))) hA
  obtain ⟨t, hu, hT⟩ := va_Tof (args := args) (s := s) (tm := .static RX9 "UNDER" "[I") (ty := .int) (N := 6) (f := fun j => .int (undS j)) (A := A) (by decide) (hs fl_u1) (va_eqt (hs fl_u2)) (fun j hj => va_eqt (hs (fl_u3 j hj))) hA
  refine ⟨(adK, adV, t), ?_, hS, fun i hi => vk_R.of (tbl hts (sIx i) (tb_sr i hi)) (hV i hi), va_Zof (tbl hts 442 (by decide +kernel)) (ht _ q_12) (va_eqi (hs fl_cs)) hA, va_Zqof (tbl hts 458 (by decide +kernel)) (ht _ q_14) (hs fl_pc) hA, va_Zof (tbl hts 880 (by decide +kernel)) (ht _ q_1) hu hA, hT, va_Nw.of rfl (tbl hts 602 (by decide +kernel))⟩
  intro z hz
  obtain ⟨i, hi⟩ := List.getElem?_of_mem hz
  have hl : i < 13 := by
    have h1 := (List.getElem?_eq_some_iff.mp hi).1
    rw [NT_len] at h1
    exact h1
  have h2 := tb_nt i hl
  rw [hi] at h2
  exact va_Nw.of rfl (tbl hts (nIx i) h2.symm)
