/-! ===== the start: both made anew, side by side ===== -/
theorem wr_wo : wr0 = wo0 := by
  have e : upd (fun _ => 0) 0 0 = fun _ => (0 : Int32) := by
    funext j
    by_cases h : j = 0
    · rw [h, pk_us]
    · rw [pk_un h]
  show upd (upd (upd (upd (fun _ => 0) 0 0) 1 1000) 2 (-800)) 3 (-600) = _
  rw [e]
  rfl
theorem rel_00 {k : KC} {g : GM} (hk : K0ok k) (hg : G0ok g) : Rel 0 k g := by
  obtain ⟨d, rfl, hd⟩ := hk
  obtain ⟨h1, h2, h3, h4, h5, h6, h7, h8, h9, h10, h11, h12, h13, h14, h15⟩ := hg
  exact rel_0 rfl rfl rfl rfl wr_wo rfl rfl ⟨d, rfl, List.mem_cons_self, by rw [hd], by rw [hd]; exact ⟨by decide, by decide, by decide⟩, by rw [hd]; exact ⟨by decide, by decide, by decide, by decide⟩⟩ ⟨rfl, rfl, rfl, rfl⟩ ⟨rfl, rfl, rfl, rfl⟩ rfl rfl (fun s hs => co_4 (P := fun s => (kC0 d).1 (9 + s) 0 = -1) rfl rfl rfl rfl hs) rfl ⟨rfl, rfl⟩ h1 h2 h3 h4 h5 h6 h7 h8 h9 h10 h11 h12 h13 h14 h15
