/-! ===== the frame: a contract over a world is one over that world beside another ===== -/
theorem va_P_iff {D : va_G} {cl : List vw_C} {ws : va_W} {H : Heap} : va_P D cl ws H ↔ ∀ q ∈ ws, va_at D cl q H := by
  constructor
  · intro h q hq
    obtain ⟨i, hi⟩ := List.getElem?_of_mem hq
    exact h i q hi
  · intro h k q hk
    exact h q (List.mem_of_getElem? hk)
theorem va_D_iff {A : Nat → Prop} {ws : va_W} : va_D A ws ↔ (ws.map (fun q => q.1)).Nodup ∧ ∀ q ∈ ws, A q.1 := by
  constructor
  · intro h
    refine ⟨?_, fun q hq => ?_⟩
    · show List.Pairwise (fun a b => a ≠ b) (ws.map (fun q => q.1))
      rw [List.pairwise_iff_getElem]
      intro i j hi hj hij he
      rw [List.length_map] at hi hj
      rw [List.getElem_map, List.getElem_map] at he
      have := h.1 i j _ _ (List.getElem?_eq_getElem hi) (List.getElem?_eq_getElem hj) he
      omega
    · obtain ⟨i, hi⟩ := List.getElem?_of_mem hq
      exact h.2 i q hi
  · intro h
    refine ⟨fun i j p q hi hj he => ?_, fun k q hk => h.2 q (List.mem_of_getElem? hk)⟩
    have hn := List.pairwise_iff_getElem.mp (show List.Pairwise (fun a b => a ≠ b) (ws.map (fun q => q.1)) from h.1)
    obtain ⟨hil, hi⟩ := List.getElem?_eq_some_iff.mp hi
    obtain ⟨hjl, hj⟩ := List.getElem?_eq_some_iff.mp hj
    rcases Nat.lt_trichotomy i j with hlt | heq | hgt
    · exact absurd (by rw [List.getElem_map, List.getElem_map, hi, hj]; exact he) (hn i j (by rw [List.length_map]; exact hil) (by rw [List.length_map]; exact hjl) hlt)
    · exact heq
    · exact absurd (by rw [List.getElem_map, List.getElem_map, hi, hj]; exact he.symm) (hn j i (by rw [List.length_map]; exact hjl) (by rw [List.length_map]; exact hil) hgt)
theorem va_A_iff {ws : va_W} {sz q : Nat} : va_A ws sz q ↔ (∃ e : va_E, (q, e) ∈ ws) ∨ sz ≤ q := by
  constructor
  · rintro (⟨k, e, h⟩ | h)
    · exact Or.inl ⟨e, List.mem_of_getElem? h⟩
    · exact Or.inr h
  · rintro (⟨e, h⟩ | h)
    · obtain ⟨i, hi⟩ := List.getElem?_of_mem h
      exact Or.inl ⟨i, e, hi⟩
    · exact Or.inr h
theorem va_A_left {w wr : va_W} {sz q : Nat} (h : va_A w sz q) : va_A (w ++ wr) sz q := by
  rw [va_A_iff] at h ⊢
  rcases h with ⟨e, h⟩ | h
  · exact Or.inl ⟨e, List.mem_append_left _ h⟩
  · exact Or.inr h
theorem EC.narrow {P : EP} {A B : Nat → Prop} {U : State} (h : EC P A U) (hAB : ∀ q, B q → A q) : EC P B U := by
  obtain ⟨h1, h2, h3, h4, h5, h6, h7, h8⟩ := h
  refine ⟨h1, h2.narrow hAB, h3, h4.narrow hAB, ?_, h6.narrow hAB, h7.narrow hAB, h8⟩
  rcases h5 with h5 | ⟨t, h5⟩
  · exact Or.inl (h5.narrow hAB)
  · exact Or.inr ⟨t, h5.narrow hAB⟩
theorem ctPre_left {D : va_G} {tys : List (ClassId × FieldType)} {w wr : va_W} {sz : Nat} {U : State} (h : ctPre D tys (w ++ wr) sz U) : ctPre D tys w sz U := by
  obtain ⟨h1, h2, h3, h4⟩ := h
  refine ⟨h1, ?_, h3, ?_⟩
  · rw [va_P_iff] at h2 ⊢
    exact fun q hq => h2 q (List.mem_append_left _ hq)
  · rw [va_D_iff, List.map_append, List.nodup_append] at h4
    rw [va_D_iff]
    exact ⟨h4.1.1, fun _ _ => trivial⟩
theorem ctPreE_left {P : EP} {D : va_G} {tys : List (ClassId × FieldType)} {w wr : va_W} {sz : Nat} {U : State} (h : ctPreE P D tys (w ++ wr) sz U) : ctPreE P D tys w sz U := by
  obtain ⟨h1, h2, h3, h4, h5⟩ := h
  obtain ⟨g1, g2, g3, g4⟩ := ctPre_left (w := w) (wr := wr) ⟨h1, h2, h3, h4⟩
  exact ⟨g1, g2, g3, g4, h5.narrow (fun q hq => va_A_left hq)⟩
theorem fr_post {D : va_G} {tys : List (ClassId × FieldType)} {w wr w1 : va_W} {st t : State} (hp : ctPre D tys (w ++ wr) st.heap.size st) (hF : va_F (va_A w st.heap.size) st t) (hP1 : va_P D vwCl w1 t.heap) (hD1 : va_D (va_A w st.heap.size) w1) : va_P D vwCl (w1 ++ wr) t.heap ∧ va_D (va_A (w ++ wr) st.heap.size) (w1 ++ wr) := by
  obtain ⟨-, h2, -, h4⟩ := hp
  have hx := va_D_iff.mp h4
  rw [List.map_append, List.nodup_append] at hx
  have hlt : ∀ q ∈ wr, q.1 < st.heap.size := fun q hq => (va_P_iff.mp h2 q (List.mem_append_right _ hq)).lt
  have hnot : ∀ q ∈ wr, ¬ va_A w st.heap.size q.1 := fun q hq hA => by
    rw [va_A_iff] at hA
    rcases hA with ⟨e, he⟩ | hge
    · exact hx.1.2.2 q.1 (List.mem_map.mpr ⟨(q.1, e), he, rfl⟩) q.1 (List.mem_map.mpr ⟨q, hq, rfl⟩) rfl
    · exact absurd hge (Nat.not_le.mpr (hlt q hq))
  have hd1 := va_D_iff.mp hD1
  constructor
  · rw [va_P_iff]
    intro q hq
    rcases List.mem_append.mp hq with hq | hq
    · exact va_P_iff.mp hP1 q hq
    · exact (va_P_iff.mp h2 q (List.mem_append_right _ hq)).kept (hF.2 q.1 (hlt q hq) (hnot q hq))
  · rw [va_D_iff, List.map_append, List.nodup_append]
    refine ⟨⟨hd1.1, hx.1.2.1, fun x hx1 y hy e => ?_⟩, fun q hq => ?_⟩
    · obtain ⟨q1, hq1, rfl⟩ := List.mem_map.mp hx1
      obtain ⟨q2, hq2, rfl⟩ := List.mem_map.mp hy
      exact hnot q2 hq2 (by rw [← e]; exact hd1.2 q1 hq1)
    · rcases List.mem_append.mp hq with hq | hq
      · exact va_A_left (hd1.2 q hq)
      · exact va_A_iff.mpr (Or.inl ⟨q.2, List.mem_append_right _ hq⟩)
section Fr
variable {l : Launch} {P : EP} {D : va_G} {tys : List (ClassId × FieldType)} {S : Type} {w : S → va_W} {k : S} {y : MethodName} {cc : ByteArray} {maxL : Nat} {rm : Room} {av : List Value}
theorem Di.frame {Q : Int32 → S → Prop} (h : Di l P D tys w y cc maxL rm av k Q) (wr : va_W) : Di l P D tys (fun u => w u ++ wr) y cc maxL rm av k Q := by
  intro sz
  refine MetFree.mono (h sz) (fun a st hp => ⟨hp.1, ctPreE_left hp.2⟩) (fun _ _ _ _ _ x => x) (fun a st o t hp hq => ?_)
  obtain ⟨hsz, h2, h3, h4, -⟩ := hp.2
  subst hsz
  obtain ⟨⟨⟨r, u, e1, e2, b1, b2, b3⟩, hF⟩, L, hL1, hL2⟩ := hq
  obtain ⟨g1, g2⟩ := fr_post (wr := wr) ⟨rfl, h2, h3, h4⟩ hF b1 b3
  exact ⟨⟨⟨r, u, e1, e2, g1, b2, g2⟩, ⟨hF.1, fun q hq1 hq2 => hF.2 q hq1 (fun hA => hq2 (va_A_left hA))⟩⟩, L, hL1, fun q hq => va_A_left (hL2 q hq)⟩
theorem Dl.frame {Q : Int64 → S → Prop} (h : Dl l P D tys w y cc maxL rm av k Q) (wr : va_W) : Dl l P D tys (fun u => w u ++ wr) y cc maxL rm av k Q := by
  intro sz
  refine MetFree.mono (h sz) (fun a st hp => ⟨hp.1, ctPreE_left hp.2⟩) (fun _ _ _ _ _ x => x) (fun a st o t hp hq => ?_)
  obtain ⟨hsz, h2, h3, h4, -⟩ := hp.2
  subst hsz
  obtain ⟨⟨⟨r, u, e1, e2, b1, b2, b3⟩, hF⟩, L, hL1, hL2⟩ := hq
  obtain ⟨g1, g2⟩ := fr_post (wr := wr) ⟨rfl, h2, h3, h4⟩ hF b1 b3
  exact ⟨⟨⟨r, u, e1, e2, g1, b2, g2⟩, ⟨hF.1, fun q hq1 hq2 => hF.2 q hq1 (fun hA => hq2 (va_A_left hA))⟩⟩, L, hL1, fun q hq => va_A_left (hL2 q hq)⟩
theorem Ci.frame {Q : Int32 → S → Prop} (h : Ci l D tys w y cc maxL rm av k Q) (wr : va_W) : Ci l D tys (fun u => w u ++ wr) y cc maxL rm av k Q := by
  intro sz
  refine MetFree.mono (h sz) (fun a st hp => ⟨hp.1, ctPre_left hp.2⟩) (fun _ _ _ _ _ x => x) (fun a st o t hp hq => ?_)
  obtain ⟨hsz, h2, h3, h4⟩ := hp.2
  subst hsz
  obtain ⟨⟨⟨r, u, e1, e2, b1, b2, b3⟩, hF⟩, L, hL1, hL2⟩ := hq
  obtain ⟨g1, g2⟩ := fr_post (wr := wr) ⟨rfl, h2, h3, h4⟩ hF b1 b3
  exact ⟨⟨⟨r, u, e1, e2, g1, b2, g2⟩, ⟨hF.1, fun q hq1 hq2 => hF.2 q hq1 (fun hA => hq2 (va_A_left hA))⟩⟩, L, hL1, fun q hq => va_A_left (hL2 q hq)⟩
theorem Cl.frame {Q : Int64 → S → Prop} (h : Cl l D tys w y cc maxL rm av k Q) (wr : va_W) : Cl l D tys (fun u => w u ++ wr) y cc maxL rm av k Q := by
  intro sz
  refine MetFree.mono (h sz) (fun a st hp => ⟨hp.1, ctPre_left hp.2⟩) (fun _ _ _ _ _ x => x) (fun a st o t hp hq => ?_)
  obtain ⟨hsz, h2, h3, h4⟩ := hp.2
  subst hsz
  obtain ⟨⟨⟨r, u, e1, e2, b1, b2, b3⟩, hF⟩, L, hL1, hL2⟩ := hq
  obtain ⟨g1, g2⟩ := fr_post (wr := wr) ⟨rfl, h2, h3, h4⟩ hF b1 b3
  exact ⟨⟨⟨r, u, e1, e2, g1, b2, g2⟩, ⟨hF.1, fun q hq1 hq2 => hF.2 q hq1 (fun hA => hq2 (va_A_left hA))⟩⟩, L, hL1, fun q hq => va_A_left (hL2 q hq)⟩
end Fr
theorem Hd.perm {D : va_G} {w1 w2 : va_W} {A : Nat → Prop} {s : State} {H : Heap} {locs : List Loc} (h : Hd D w1 A s H locs) (hp : w1.Perm w2) : Hd D w2 A s H locs := by
  obtain ⟨h1, h2, h3⟩ := h
  refine ⟨va_P_iff.mpr (fun q hq => va_P_iff.mp h1 q (hp.mem_iff.mpr hq)), va_D_iff.mpr ⟨?_, fun q hq => (va_D_iff.mp h2).2 q (hp.mem_iff.mpr hq)⟩, h3⟩
  exact (hp.map _).nodup_iff.mp (va_D_iff.mp h2).1
theorem Hd.swap {D : va_G} {w1 w2 : va_W} {A : Nat → Prop} {s : State} {H : Heap} {locs : List Loc} (h : Hd D (w1 ++ w2) A s H locs) : Hd D (w2 ++ w1) A s H locs := h.perm List.perm_append_comm
theorem CxE.cx {P : EP} {D : va_G} {tys : List (ClassId × FieldType)} {own : String} {cc : ByteArray} {nL : Nat} {rt : Option FieldType} {p : Program} {s : State} {m : MethodId} {args : Array Value} {meth : Method} {c : Code} {A : Nat → Prop} (C : CxE P D tys own cc nL rt p s m args meth c A) : Cx D tys own cc nL rt p s m args meth c A := ⟨C.1, C.2.1, C.2.2.1, C.2.2.2.1, C.2.2.2.2.1, C.2.2.2.2.2.1, C.2.2.2.2.2.2.1, C.2.2.2.2.2.2.2.1, C.2.2.2.2.2.2.2.2.1⟩
