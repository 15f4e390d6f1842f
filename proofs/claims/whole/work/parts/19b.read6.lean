theorem Dv.frame {l : Launch} {P : EP} {D : va_G} {tys : List (ClassId × FieldType)} {S : Type} {w : S → va_W} {k : S} {y : MethodName} {cc : ByteArray} {maxL : Nat} {rm : Room} {av : List Value} {Q : S → Prop} (h : Dv l P D tys w y cc maxL rm av k Q) (wr : va_W) : Dv l P D tys (fun u => w u ++ wr) y cc maxL rm av k Q := by
  intro sz
  refine MetFree.mono (h sz) (fun a st hp => ⟨hp.1, ctPreE_left hp.2⟩) (fun _ _ _ _ _ x => x) (fun a st o t hp hq => ?_)
  obtain ⟨hsz, h2, h3, h4, -⟩ := hp.2
  subst hsz
  obtain ⟨⟨⟨u, e1, e2, b1, b2, b3⟩, hF⟩, L, hL1, hL2⟩ := hq
  obtain ⟨g1, g2⟩ := fr_post (wr := wr) ⟨rfl, h2, h3, h4⟩ hF b1 b3
  exact ⟨⟨⟨u, e1, e2, g1, b2, g2⟩, ⟨hF.1, fun q hq1 hq2 => hF.2 q hq1 (fun hA => hq2 (va_A_left hA))⟩⟩, L, hL1, fun q hq => va_A_left (hL2 q hq)⟩
theorem Rcv.left {w : va_W} {b : Nat} {C : String} (h : Rcv w b C) (wr : va_W) : Rcv (w ++ wr) b C := by
  obtain ⟨ci, q0, N, T, fs, h1, h2⟩ := h
  exact ⟨ci, q0, N, T, fs, h1, at_left h2 wr⟩
theorem pm1 (X : va_W) (x y z : Nat × va_E) : (((X ++ [x]) ++ [y]) ++ [z]).Perm ((X ++ [x, z]) ++ [y]) := by
  rw [List.append_assoc, List.append_assoc, List.append_assoc]
  exact List.Perm.append_left _ (List.Perm.cons _ (List.Perm.swap _ _ _))
theorem pm2 (X : va_W) (x y z : Nat × va_E) : ((X ++ [x, y]) ++ [z]).Perm (X ++ [z, y, x]) := by
  rw [List.append_assoc]
  exact List.Perm.append_left _ (List.reverse_perm [x, y, z]).symm
def wRdF (fb : Nat → Int32) (k : KC) (Q : Option Dn → KC → Prop) : Prop := (¬ k.1 6 7 = (-1 : Int32) → Q none k) ∧ (k.1 6 7 = (-1 : Int32) → ntext fb k Q)
def wRdL (a : Nat → Nat) : Nat → Int32 → (Nat → Int32) → KC → (Option Dn → KC → Prop) → Prop
  | 0, _, _, _, _ => False
  | n + 1, x3, fb, k, Q => ((3 : Int32) ≤ x3 → ((k.1 6 2 = 0 → wRdF (upd fb (3 : Int32).toNatClampNeg (k.1 6 6)) k Q) ∧ (¬ k.1 6 2 = 0 → wC_X6_refuse k (fun k1 => wRdF (upd fb (3 : Int32).toNatClampNeg (k.1 6 6)) k1 Q)))) ∧ (¬ (3 : Int32) ≤ x3 → (vp_in x3 4 ∧ wC_X6_expect a ((4 : Int32) + x3) k (fun k1 => wCg a 44 0 (0 : Int32) k1 (fun k2 => wC_X6_expect a (59 : Int32) k2 (fun k3 => wRdL a n (x3 + 1) (upd fb x3.toNatClampNeg (k.1 6 6)) k3 Q)))))
def wC_X6_read (a : Nat → Nat) (k : KC) (Q : Option Dn → KC → Prop) : Prop := ∃ n1 : Nat, wC_X6_advance a n1 0 0 (cI (cI (cI (cT k (some (a 5))) 6 1 (0 : Int32)) 6 6 (0 : Int32)) 6 7 (-1 : Int32)) (fun k1 => ∃ n2 : Nat, wRdL a n2 (0 : Int32) (fun _ => 0) k1 Q)
set_option maxHeartbeats 4000000 in
set_option maxRecDepth 100000 in
theorem cC_X6_read {l : Launch} {P : EP} {D : va_G} {a : Nat → Nat} {b : Nat → Nat → Nat} {g : Nat → ClassId} {k : KC} {Qp : Option Dn → KC → Prop} (h : wC_X6_read a k Qp) : DqA l P D (tyA g) (wTx a b g) yX6_read cX6_read 4 ({ frames := 57, cells := 3, slots := 166, locals := 2182 } : Room) "BellAndDrop$Text" [.ref (a 6), .ref (a 5)] (k, none) (fun r u => r = u.2.map (fun d => d.1) ∧ Qp u.2 u.1) 3 166 := by
  refine DqA_of (by decide) (Nat.le_of_ble_eq_true rfl) ?_
  intro p e s m args below meth c A Z ls C ret hd hl
  rw [wTx_none] at hd
  have hx := C.1
  have hb := C.2.1
  have hown := C.2.2.2.1
  have hts := C.2.2.2.2.1
  have hK := C.2.2.2.2.2.1
  have hA := C.2.2.2.2.2.2.2.2.1
  have hl : lv_has ls 4 [(0, .ref (a 6)), (1, .ref (a 5))] := hl
  refine lv_aload_n hx hb dX6_read_0 rfl (lv_at hl 0 rfl) ?_
  refine lv_aload_n hx hb dX6_read_1 rfl (lv_at hl 1 rfl) ?_
  refine pC6_6_0 C hd dX6_read_2 (fun H locs hd => ?_)
  refine lv_aload_n hx hb dX6_read_5 rfl (lv_at hl 0 rfl) ?_
  refine lv_iconst (v := 0) hx hb dX6_read_6 (by decide) ?_
  refine pC6_6_1 C hd dX6_read_7 (fun H locs hd => ?_)
  refine lv_aload_n hx hb dX6_read_10 rfl (lv_at hl 0 rfl) ?_
  refine lv_iconst (v := 0) hx hb dX6_read_11 (by decide) ?_
  refine pC6_6_6 C hd dX6_read_12 (fun H locs hd => ?_)
  refine lv_aload_n hx hb dX6_read_15 rfl (lv_at hl 0 rfl) ?_
  refine lv_iconst (v := -1) hx hb dX6_read_16 (by decide) ?_
  refine pC6_6_7 C hd dX6_read_17 (fun H locs hd => ?_)
  refine lv_iconst (v := 4) hx hb dX6_read_20 (by decide) ?_
  refine va_newa (atype := .int) (ty := .int) (N' := 4) (a0 := (4, .inl (fun _ => 0))) hx hb (hts _ q_53) rfl hK hd.1 hd.2.1 hd.2.2 hA (fun _ => rfl) (by decide) (by decide) (by decide) (by show 0 + 1 ≤ 3; omega) (by show 0 + 4 ≤ 166; omega) dX6_read_21 (fun bq cA H hK1 hP hD hS => ?_)
  have hc := K_same hK1
  subst hc
  have hd : Hd D (wC a b g (cI (cI (cI (cT k (some (a 5))) 6 1 (0 : Int32)) 6 6 (0 : Int32)) 6 7 (-1 : Int32)) ++ [(bq, .inl (g 0, 4, .inl (fun _ => 0)))]) A s H locs := ⟨hP, hD, hS⟩
  have FIN : ∀ (fb : Nat → Int32) (k : KC) (H : Heap) (locs : List Loc) (ls : Array Slot), wRdF fb k Qp → Hd D (wC a b g k ++ [(bq, .inl (g 0, 4, .inl fb))]) A s H locs → lv_has ls 4 [(0, .ref (a 6)), (2, .ref bq)] → W p l e ({ frames := 57, cells := 3, slots := 166, locals := 2182 } : Room) s m args below meth c H locs (0 + 1) (0 + 4) Z (F0 m 84 ls []) := by
    intro fb k H locs ls h hd hl
    refine lv_aload_n hx hb dX6_read_84 rfl (lv_at hl 0 rfl) ?_
    refine gC6_6_7 C hd.left (v := k.1 6 7) rfl dX6_read_85 ?_
    refine lv_iconst (v := -1) hx hb dX6_read_88 (by decide) ?_
    refine lv_icmp_ne (tgt := 114) hx hb dX6_read_89 (by decide) (fun c1 => ?_) (fun c1 => ?_)
    · replace h := h.1 c1
      refine lv_null hx hb dX6_read_114 ?_
      exact ret (v := none) (u := (k, none)) (by rw [wTx_none]; exact hd.left) ⟨rfl, h⟩ (by omega) (by omega) dX6_read_115
    · replace h := h.2 c1
      obtain ⟨hn0, hn1, h⟩ := h
      obtain ⟨hP, hD, hS⟩ := hd
      refine va_new (ci := 5) (fs := [.null, .null]) (C := RX5) (T := TX5) (N := 2) hx hb hts twX5 tyX5 tyX5_ok hown (hts _ q_593) (hts _ q_41) (hts _ q_4) hK hP hD hS hA rfl (fun j hj => by rcases (show j = 0 ∨ j = 1 by omega) with rfl | rfl <;> rfl) (by show 0 + 1 + 1 ≤ 3; omega) (by show 0 + 4 + 2 ≤ 166; omega) dX6_read_92 (fun o H hP hD hS => ?_)
      have hd : Hd D ((wC a b g k ++ [(bq, .inl (g 0, 4, .inl fb))]) ++ [(o, .inr (5, [.null, .null]))]) A s H locs := ⟨hP, hD, hS⟩
      refine lv_dup hx hb dX6_read_95 rfl ?_
      refine lv_aload_n hx hb dX6_read_96 rfl (lv_at hl 0 rfl) ?_
      refine gC6_6_5 C hd.left.left dX6_read_97 ?_
      refine lv_aload_n hx hb dX6_read_100 rfl (lv_at hl 0 rfl) ?_
      refine gC6_6_6 C hd.left.left (v := k.1 6 6) rfl dX6_read_101 ?_
      refine cpO C hd (at_left (at_left (show (wC a b g k)[35]? = some (b 6 5, .inl (g 0, 160, .inl (k.2.1 6 5))) from rfl) _) _) hn0 hn1 (by omega) q_594 hl.1 ⟨by show 1 + 1 ≤ 57; omega, by show 8 + (3 + 11) + 80 ≤ 2182; omega⟩ (Nat.le_of_ble_eq_true rfl) ⟨by show 0 + 1 + 1 + 1 ≤ 3; omega, by show 0 + 4 + 2 + (k.1 6 6).toNatClampNeg ≤ 166; omega⟩ dX6_read_104 (fun a1 f1 H locs hf1 hd => ?_)
      refine lv_aload_n hx hb dX6_read_107 rfl (lv_at hl 1 rfl) ?_
      have hd1 : Hd D ((fun _ : Unit => (wC a b g k ++ [(bq, .inl (g 0, 4, .inl fb)), (a1, .inl (g 0, (k.1 6 6).toNatClampNeg, .inl f1))]) ++ [(o, .inr (5, [.null, .null]))]) ()) A s H locs := hd.perm (pm1 _ _ _ _)
      refine va_callv (va_runI (As := [.ref a1, .ref bq]) (rest := [.ref o]) ⟨hx, hb, C.2.2.1, hown, hts⟩ (c_X5_init (P := P) (D := D) (g := g) (ws := wC a b g k ++ [(bq, .inl (g 0, 4, .inl fb)), (a1, .inl (g 0, (k.1 6 6).toNatClampNeg, .inl f1))]) (o := o) (x1 := a1) (x2 := bq) H.size) (cwI 2 hts (Tw_code q_44) rfl rfl rfl (hts _ q_4) (hts _ q_608) (hts _ q_43) rfl (by decide +kernel) ⟨by show 1 + 1 ≤ 57; omega, by show 8 + (3 + 11) + 20 ≤ 2182; omega⟩) ⟨ctBlindE, HdE_pre C hd1 _⟩ rfl rfl hl.1 rfl (lv_room (Nat.le_of_ble_eq_true rfl)) dX6_read_108 ⟨by show 0 + 1 + 1 + 1 + 0 ≤ 3; omega, by show 0 + 4 + 2 + (k.1 6 6).toNatClampNeg + 0 ≤ 166; omega⟩) hd1.2.2 (fun q _ hq => HdE_free C hd1 q hq) (HdE_free C hd1) (fun u t H1 locs ht hvm hw hB hz1 hk1 hS => ?_)
      have hd2 : Hd D ((wC a b g k ++ [(bq, .inl (g 0, 4, .inl fb)), (a1, .inl (g 0, (k.1 6 6).toNatClampNeg, .inl f1))]) ++ [(o, .inr (5, [.ref a1, .ref bq]))]) A s H1 locs := ⟨by rw [← ht]; exact hB.1, hB.2.2.weaken (fun _ q _ h1 => HdE_free C hd1 q.1 h1), hS⟩
      refine lv_goto (tgt := 115) hx hb dX6_read_111 (by decide) ?_
      exact ret (v := some o) (u := (k, some (o, a1, bq, (k.1 6 6).toNatClampNeg, f1, fb))) (hd2.perm (pm2 _ _ _ _)) ⟨rfl, h (o, a1, bq, (k.1 6 6).toNatClampNeg, f1, fb) rfl hf1 rfl⟩ (by omega) (by omega) dX6_read_115
  have L : ∀ (n : Nat) (x3 : Int32) (fb : Nat → Int32) (k : KC) (H : Heap) (locs : List Loc) (ls : Array Slot), wRdL a n x3 fb k Qp → Hd D (wC a b g k ++ [(bq, .inl (g 0, 4, .inl fb))]) A s H locs → lv_has ls 4 [(0, .ref (a 6)), (2, .ref bq), (3, .int x3)] → W p l e ({ frames := 57, cells := 3, slots := 166, locals := 2182 } : Room) s m args below meth c H locs (0 + 1) (0 + 4) Z (F0 m 30 ls []) := by
    intro n
    induction n with
    | zero => exact fun _ _ _ _ _ _ h => h.elim
    | succ n ih =>
      intro x3 fb k H locs ls h hd hl
      refine lv_iload_n hx hb dX6_read_30 rfl (lv_at hl 2 rfl) ?_
      refine lv_iconst (v := 3) hx hb dX6_read_31 (by decide) ?_
      refine lv_icmp_ge (tgt := 66) hx hb dX6_read_32 (by decide) (fun c1 => ?_) (fun c1 => ?_)
      · replace h := h.1 c1
        refine lv_aload_n hx hb dX6_read_66 rfl (lv_at hl 1 rfl) ?_
        refine lv_iconst (v := 3) hx hb dX6_read_67 (by decide) ?_
        refine lv_aload_n hx hb dX6_read_68 rfl (lv_at hl 0 rfl) ?_
        refine gC6_6_6 C hd.left (v := k.1 6 6) rfl dX6_read_69 ?_
        refine va_iast hx hb hK hd.1 hd.2.1 hd.2.2 (wC a b g k).length 0 (at_end _ _ []) rfl (by unfold vp_in; decide) dX6_read_72 (fun H locs hP hD hS => ?_)
        rw [set_end] at hP hD
        have hd : Hd D (wC a b g k ++ [(bq, .inl (g 0, 4, .inl (upd fb (3 : Int32).toNatClampNeg (k.1 6 6))))]) A s H locs := ⟨hP, hD, hS⟩
        refine lv_aload_n hx hb dX6_read_73 rfl (lv_at hl 0 rfl) ?_
        refine gC6_6_2 C hd.left (v := k.1 6 2) rfl dX6_read_74 ?_
        refine lv_if_eq (tgt := 84) hx hb dX6_read_77 (by decide) (fun c2 => ?_) (fun c2 => ?_)
        · exact FIN _ _ _ _ _ (h.1 c2) hd (lv_sub hl [0, 1] rfl)
        · replace h := h.2 c2
          refine lv_aload_n hx hb dX6_read_80 rfl (lv_at hl 0 rfl) ?_
          refine ev_v (w := fun u => wC a b g u ++ [(bq, .inl (g 0, 4, .inl (upd fb (3 : Int32).toNatClampNeg (k.1 6 6))))]) (k := k) C hd kwRX6_X6_refuse_42 ((cC_X6_refuse h).frame _) ⟨rfl, rfl⟩ ⟨by decide, by decide⟩ (rcC6.left _) hl.1 rfl rfl (Nat.le_of_ble_eq_true rfl) ⟨by show 0 + 1 ≤ 3; omega, by show 0 + 4 ≤ 166; omega⟩ dX6_read_81 (fun k1 H locs h hd => ?_)
          exact FIN _ _ _ _ _ h hd (lv_sub hl [0, 1] rfl)
      · replace h := h.2 c1
        refine lv_aload_n hx hb dX6_read_35 rfl (lv_at hl 1 rfl) ?_
        refine lv_iload_n hx hb dX6_read_36 rfl (lv_at hl 2 rfl) ?_
        refine lv_aload_n hx hb dX6_read_37 rfl (lv_at hl 0 rfl) ?_
        refine gC6_6_6 C hd.left (v := k.1 6 6) rfl dX6_read_38 ?_
        refine va_iast hx hb hK hd.1 hd.2.1 hd.2.2 (wC a b g k).length 0 (at_end _ _ []) rfl h.1 dX6_read_41 (fun H locs hP hD hS => ?_)
        replace h := h.2
        rw [set_end] at hP hD
        have hd : Hd D (wC a b g k ++ [(bq, .inl (g 0, 4, .inl (upd fb x3.toNatClampNeg (k.1 6 6))))]) A s H locs := ⟨hP, hD, hS⟩
        refine lv_aload_n hx hb dX6_read_42 rfl (lv_at hl 0 rfl) ?_
        refine lv_iconst (v := 4) hx hb dX6_read_43 (by decide) ?_
        refine lv_iload_n hx hb dX6_read_44 rfl (lv_at hl 2 rfl) ?_
        refine lv_iadd hx hb dX6_read_45 ?_
        refine ev_v (w := fun u => wC a b g u ++ [(bq, .inl (g 0, 4, .inl (upd fb x3.toNatClampNeg (k.1 6 6))))]) (k := k) C hd kwRX6_X6_expect_32 ((cC_X6_expect _ h).frame _) ⟨rfl, rfl⟩ ⟨by decide, by decide⟩ (rcC6.left _) hl.1 rfl rfl (Nat.le_of_ble_eq_true rfl) ⟨by show 0 + 1 ≤ 3; omega, by show 0 + 4 ≤ 166; omega⟩ dX6_read_46 (fun k1 H locs h hd => ?_)
        refine lv_aload_n hx hb dX6_read_49 rfl (lv_at hl 0 rfl) ?_
        refine lv_iconst (v := 0) hx hb dX6_read_50 (by decide) ?_
        refine ev_v (w := fun u => wC a b g u ++ [(bq, .inl (g 0, 4, .inl (upd fb x3.toNatClampNeg (k.1 6 6))))]) (k := k1) C hd kwRX6_X6_readOr_36 ((cCg_readOr _ h).frame _) ⟨rfl, rfl⟩ ⟨by decide, by decide⟩ (rcC6.left _) hl.1 rfl rfl (Nat.le_of_ble_eq_true rfl) ⟨by show 0 + 1 ≤ 3; omega, by show 0 + 4 ≤ 166; omega⟩ dX6_read_51 (fun k2 H locs h hd => ?_)
        refine lv_aload_n hx hb dX6_read_54 rfl (lv_at hl 0 rfl) ?_
        refine lv_bipush (v := 59) hx hb dX6_read_55 (by decide) ?_
        refine ev_v (w := fun u => wC a b g u ++ [(bq, .inl (g 0, 4, .inl (upd fb x3.toNatClampNeg (k.1 6 6))))]) (k := k2) C hd kwRX6_X6_expect_32 ((cC_X6_expect _ h).frame _) ⟨rfl, rfl⟩ ⟨by decide, by decide⟩ (rcC6.left _) hl.1 rfl rfl (Nat.le_of_ble_eq_true rfl) ⟨by show 0 + 1 ≤ 3; omega, by show 0 + 4 ≤ 166; omega⟩ dX6_read_57 (fun k3 H locs h hd => ?_)
        refine lv_iinc (v := x3 + 1) (lv' := [(3, .int (x3 + 1)), (0, .ref (a 6)), (2, .ref bq)]) hx hb dX6_read_60 hl (k := 2) rfl rfl (by decide) rfl (fun ls hl => ?_)
        refine lv_goto (tgt := 30) hx hb dX6_read_63 (by decide) ?_
        exact ih _ _ _ _ _ _ h hd (lv_sub hl [1, 2, 0] rfl)
  refine lv_astore_n (lv' := [(2, .ref bq), (0, .ref (a 6)), (1, .ref (a 5))]) hx hb dX6_read_23 rfl hl (by decide) rfl (fun ls hl => ?_)
  refine lv_aload_n hx hb dX6_read_24 rfl (lv_at hl 1 rfl) ?_
  obtain ⟨n1, h⟩ := h
  refine ev_v (w := fun u => wC a b g u ++ [(bq, .inl (g 0, 4, .inl (fun _ => 0)))]) (k := cI (cI (cI (cT k (some (a 5))) 6 1 (0 : Int32)) 6 6 (0 : Int32)) 6 7 (-1 : Int32)) C hd kwRX6_X6_advance_29 ((cC_X6_advance n1 h).frame _) ⟨rfl, rfl⟩ ⟨by decide, by decide⟩ (rcC6.left _) hl.1 rfl rfl (Nat.le_of_ble_eq_true rfl) ⟨by show 0 + 1 ≤ 3; omega, by show 0 + 4 ≤ 166; omega⟩ dX6_read_25 (fun k1 H locs h hd => ?_)
  obtain ⟨n2, h⟩ := h
  refine lv_iconst (v := 0) hx hb dX6_read_28 (by decide) ?_
  refine lv_istore_n (lv' := [(3, .int 0), (2, .ref bq), (0, .ref (a 6)), (1, .ref (a 5))]) hx hb dX6_read_29 rfl hl (by decide) rfl (fun ls hl => ?_)
  exact L n2 _ _ _ _ _ _ h hd (lv_sub hl [2, 1, 0] rfl)
