set_option maxHeartbeats 4000000 in
set_option maxRecDepth 100000 in
theorem ct_X1_stepsDone (l : Launch) (dC : Nat → ClassId) (dI : Nat → Nat → Nat) (cJ cI cB cZ : ClassId) (h0 x_words : Nat) (z_cellKey : Int64) (z_cellPage : Int32) (z_stepsDone : Int32) (sz : Nat) : Met l yX1_stepsDone wsX1_stepsDone { frames := 0, cells := 0, slots := 0, locals := 0 } (va_Pc [.ref h0] (st_B (dC, dI) (ty4 cJ cI cB cZ) [(h0, .inr (1, [.ref x_words, .long z_cellKey, .int z_cellPage, .int z_stepsDone]))] sz)) (va_Qi (fun (r : Int32) (u : Unit) => fn_X1_stepsDone z_stepsDone = r) (fun (u : Unit) t => st_W (dC, dI) (ty4 cJ cI cB cZ) [(h0, .inr (1, [.ref x_words, .long z_cellKey, .int z_cellPage, .int z_stepsDone]))] sz [(h0, .inr (1, [.ref x_words, .long z_cellKey, .int z_cellPage, .int z_stepsDone]))] t) (va_A [(h0, .inr (1, [.ref x_words, .long z_cellKey, .int z_cellPage, .int z_stepsDone]))] sz)) 0 0 (va_A [(h0, .inr (1, [.ref x_words, .long z_cellKey, .int z_cellPage, .int z_stepsDone]))] sz) := by
  refine Met.ofW (cc := cX1_stepsDone) (maxL := 1) (ret := (some .int)) (by decide) rfl ?_
  intro p e s m args below meth c s₁ B hml hv
  obtain ⟨rfl, hsz, hP, hK, hD0, hN⟩ := hv
  have hx := B.exec
  have hb := B.bytes
  have hr := B.returns
  have hts := atoms_spec (ws := wsX1_stepsDone) B.pre
  have hown : s.vm.findClass RX1 = some m.cls := findClass_of_methodNamed B.named
  have hlocks := B.notSynchronized
  subst hsz
  obtain ⟨A, hAe⟩ : ∃ z, z = va_A [(h0, .inr (1, [.ref x_words, .long z_cellKey, .int z_cellPage, .int z_stepsDone]))] s.heap.size := ⟨_, rfl⟩
  have hD : va_D A [(h0, .inr (1, [.ref x_words, .long z_cellKey, .int z_cellPage, .int z_stepsDone]))] := by rw [hAe]; exact hD0.self
  have hA : ∀ q : Nat, s.heap.size ≤ q → A q := fun q h => by rw [hAe]; exact Or.inr h
  have hS : va_S A s.heap s.heap [] := va_S.rf
  have hP : va_P (dC, dI) vwCl [(h0, .inr (1, [.ref x_words, .long z_cellKey, .int z_cellPage, .int z_stepsDone]))] s.heap := hP
  have hl := lv_entry ([.ref h0]) (n := 1) (Nat.le_of_ble_eq_true rfl)
  rw [lg_entry_eq]
  generalize (lg_sl ([.ref h0]) ++ List.replicate (1 - (lg_sl ([.ref h0])).length) Slot.unset).toArray = ls at hl ⊢
  have hl : lv_has ls 1 [(0, .ref h0)] := hl
  obtain ⟨FR, hFR⟩ : ∃ z, z = fn_X1_stepsDone z_stepsDone := ⟨_, rfl⟩
  have hF := hFR
  unfold fn_X1_stepsDone at hF
  refine lv_aload_n hx hb dX1_stepsDone_0 rfl (lv_at hl 0 rfl) ?_
  refine va_get (D := (dC, dI)) (ci := 1) (v := .int z_stepsDone) (C := RX1) (T := TX1) (N := 4) hx hb hts (by decide +kernel) hown hK hP 0 rfl rfl 3 (by decide) (hts (.fieldLink RX1 23 "ShredStore$Disk" "stepsDone" "I") (by decide +kernel)) (fun _ h9 => h9) rfl dX1_stepsDone_1 ?_
  have hP9 := hP.sub (ws' := [(h0, .inr (1, [.ref x_words, .long z_cellKey, .int z_cellPage, .int z_stepsDone]))]) [0] rfl
  have hD9 := hD.sub (ws' := [(h0, .inr (1, [.ref x_words, .long z_cellKey, .int z_cellPage, .int z_stepsDone]))]) [0] (by decide) rfl
  subst hAe
  exact W.iret (v := z_stepsDone) hx hb hr (fun t ht hW => ⟨⟨z_stepsDone, (), rfl, hFR.symm.trans hF, by rw [ht]; exact hP9, va_K.moved hW.alike hK, hD9⟩, hS.F ht⟩) hS.2.2 dX1_stepsDone_4
set_option maxHeartbeats 4000000 in
set_option maxRecDepth 100000 in
theorem ct_X1_cellKey (l : Launch) (dC : Nat → ClassId) (dI : Nat → Nat → Nat) (cJ cI cB cZ : ClassId) (h0 x_words : Nat) (z_cellKey : Int64) (z_cellPage : Int32) (z_stepsDone : Int32) (sz : Nat) : Met l yX1_cellKey wsX1_cellKey { frames := 0, cells := 0, slots := 0, locals := 0 } (va_Pc [.ref h0] (st_B (dC, dI) (ty4 cJ cI cB cZ) [(h0, .inr (1, [.ref x_words, .long z_cellKey, .int z_cellPage, .int z_stepsDone]))] sz)) (va_Ql (fun (r : Int64) (u : Unit) => fn_X1_cellKey z_cellKey = r) (fun (u : Unit) t => st_W (dC, dI) (ty4 cJ cI cB cZ) [(h0, .inr (1, [.ref x_words, .long z_cellKey, .int z_cellPage, .int z_stepsDone]))] sz [(h0, .inr (1, [.ref x_words, .long z_cellKey, .int z_cellPage, .int z_stepsDone]))] t) (va_A [(h0, .inr (1, [.ref x_words, .long z_cellKey, .int z_cellPage, .int z_stepsDone]))] sz)) 0 0 (va_A [(h0, .inr (1, [.ref x_words, .long z_cellKey, .int z_cellPage, .int z_stepsDone]))] sz) := by
  refine Met.ofW (cc := cX1_cellKey) (maxL := 1) (ret := (some .long)) (by decide) rfl ?_
  intro p e s m args below meth c s₁ B hml hv
  obtain ⟨rfl, hsz, hP, hK, hD0, hN⟩ := hv
  have hx := B.exec
  have hb := B.bytes
  have hr := B.returns
  have hts := atoms_spec (ws := wsX1_cellKey) B.pre
  have hown : s.vm.findClass RX1 = some m.cls := findClass_of_methodNamed B.named
  have hlocks := B.notSynchronized
  subst hsz
  obtain ⟨A, hAe⟩ : ∃ z, z = va_A [(h0, .inr (1, [.ref x_words, .long z_cellKey, .int z_cellPage, .int z_stepsDone]))] s.heap.size := ⟨_, rfl⟩
  have hD : va_D A [(h0, .inr (1, [.ref x_words, .long z_cellKey, .int z_cellPage, .int z_stepsDone]))] := by rw [hAe]; exact hD0.self
  have hA : ∀ q : Nat, s.heap.size ≤ q → A q := fun q h => by rw [hAe]; exact Or.inr h
  have hS : va_S A s.heap s.heap [] := va_S.rf
  have hP : va_P (dC, dI) vwCl [(h0, .inr (1, [.ref x_words, .long z_cellKey, .int z_cellPage, .int z_stepsDone]))] s.heap := hP
  have hl := lv_entry ([.ref h0]) (n := 1) (Nat.le_of_ble_eq_true rfl)
  rw [lg_entry_eq]
  generalize (lg_sl ([.ref h0]) ++ List.replicate (1 - (lg_sl ([.ref h0])).length) Slot.unset).toArray = ls at hl ⊢
  have hl : lv_has ls 1 [(0, .ref h0)] := hl
  obtain ⟨FR, hFR⟩ : ∃ z, z = fn_X1_cellKey z_cellKey := ⟨_, rfl⟩
  have hF := hFR
  unfold fn_X1_cellKey at hF
  refine lv_aload_n hx hb dX1_cellKey_0 rfl (lv_at hl 0 rfl) ?_
  refine va_get (D := (dC, dI)) (ci := 1) (v := .long z_cellKey) (C := RX1) (T := TX1) (N := 4) hx hb hts (by decide +kernel) hown hK hP 0 rfl rfl 1 (by decide) (hts (.fieldLink RX1 15 "ShredStore$Disk" "cellKey" "J") (by decide +kernel)) (fun _ h9 => h9) rfl dX1_cellKey_1 ?_
  have hP9 := hP.sub (ws' := [(h0, .inr (1, [.ref x_words, .long z_cellKey, .int z_cellPage, .int z_stepsDone]))]) [0] rfl
  have hD9 := hD.sub (ws' := [(h0, .inr (1, [.ref x_words, .long z_cellKey, .int z_cellPage, .int z_stepsDone]))]) [0] (by decide) rfl
  subst hAe
  exact W.lret (v := z_cellKey) hx hb hr (fun t ht hW => ⟨⟨z_cellKey, (), rfl, hFR.symm.trans hF, by rw [ht]; exact hP9, va_K.moved hW.alike hK, hD9⟩, hS.F ht⟩) hS.2.2 dX1_cellKey_4
set_option maxHeartbeats 4000000 in
set_option maxRecDepth 100000 in
theorem ct_X1_cellPage (l : Launch) (dC : Nat → ClassId) (dI : Nat → Nat → Nat) (cJ cI cB cZ : ClassId) (h0 x_words : Nat) (z_cellKey : Int64) (z_cellPage : Int32) (z_stepsDone : Int32) (sz : Nat) : Met l yX1_cellPage wsX1_cellPage { frames := 0, cells := 0, slots := 0, locals := 0 } (va_Pc [.ref h0] (st_B (dC, dI) (ty4 cJ cI cB cZ) [(h0, .inr (1, [.ref x_words, .long z_cellKey, .int z_cellPage, .int z_stepsDone]))] sz)) (va_Qi (fun (r : Int32) (u : Unit) => fn_X1_cellPage z_cellPage = r) (fun (u : Unit) t => st_W (dC, dI) (ty4 cJ cI cB cZ) [(h0, .inr (1, [.ref x_words, .long z_cellKey, .int z_cellPage, .int z_stepsDone]))] sz [(h0, .inr (1, [.ref x_words, .long z_cellKey, .int z_cellPage, .int z_stepsDone]))] t) (va_A [(h0, .inr (1, [.ref x_words, .long z_cellKey, .int z_cellPage, .int z_stepsDone]))] sz)) 0 0 (va_A [(h0, .inr (1, [.ref x_words, .long z_cellKey, .int z_cellPage, .int z_stepsDone]))] sz) := by
  refine Met.ofW (cc := cX1_cellPage) (maxL := 1) (ret := (some .int)) (by decide) rfl ?_
  intro p e s m args below meth c s₁ B hml hv
  obtain ⟨rfl, hsz, hP, hK, hD0, hN⟩ := hv
  have hx := B.exec
  have hb := B.bytes
  have hr := B.returns
  have hts := atoms_spec (ws := wsX1_cellPage) B.pre
  have hown : s.vm.findClass RX1 = some m.cls := findClass_of_methodNamed B.named
  have hlocks := B.notSynchronized
  subst hsz
  obtain ⟨A, hAe⟩ : ∃ z, z = va_A [(h0, .inr (1, [.ref x_words, .long z_cellKey, .int z_cellPage, .int z_stepsDone]))] s.heap.size := ⟨_, rfl⟩
  have hD : va_D A [(h0, .inr (1, [.ref x_words, .long z_cellKey, .int z_cellPage, .int z_stepsDone]))] := by rw [hAe]; exact hD0.self
  have hA : ∀ q : Nat, s.heap.size ≤ q → A q := fun q h => by rw [hAe]; exact Or.inr h
  have hS : va_S A s.heap s.heap [] := va_S.rf
  have hP : va_P (dC, dI) vwCl [(h0, .inr (1, [.ref x_words, .long z_cellKey, .int z_cellPage, .int z_stepsDone]))] s.heap := hP
  have hl := lv_entry ([.ref h0]) (n := 1) (Nat.le_of_ble_eq_true rfl)
  rw [lg_entry_eq]
  generalize (lg_sl ([.ref h0]) ++ List.replicate (1 - (lg_sl ([.ref h0])).length) Slot.unset).toArray = ls at hl ⊢
  have hl : lv_has ls 1 [(0, .ref h0)] := hl
  obtain ⟨FR, hFR⟩ : ∃ z, z = fn_X1_cellPage z_cellPage := ⟨_, rfl⟩
  have hF := hFR
  unfold fn_X1_cellPage at hF
  refine lv_aload_n hx hb dX1_cellPage_0 rfl (lv_at hl 0 rfl) ?_
  refine va_get (D := (dC, dI)) (ci := 1) (v := .int z_cellPage) (C := RX1) (T := TX1) (N := 4) hx hb hts (by decide +kernel) hown hK hP 0 rfl rfl 2 (by decide) (hts (.fieldLink RX1 19 "ShredStore$Disk" "cellPage" "I") (by decide +kernel)) (fun _ h9 => h9) rfl dX1_cellPage_1 ?_
  have hP9 := hP.sub (ws' := [(h0, .inr (1, [.ref x_words, .long z_cellKey, .int z_cellPage, .int z_stepsDone]))]) [0] rfl
  have hD9 := hD.sub (ws' := [(h0, .inr (1, [.ref x_words, .long z_cellKey, .int z_cellPage, .int z_stepsDone]))]) [0] (by decide) rfl
  subst hAe
  exact W.iret (v := z_cellPage) hx hb hr (fun t ht hW => ⟨⟨z_cellPage, (), rfl, hFR.symm.trans hF, by rw [ht]; exact hP9, va_K.moved hW.alike hK, hD9⟩, hS.F ht⟩) hS.2.2 dX1_cellPage_4
set_option maxHeartbeats 4000000 in
set_option maxRecDepth 100000 in
theorem ct_X1_kindOf (l : Launch) (dC : Nat → ClassId) (dI : Nat → Nat → Nat) (cJ cI cB cZ : ClassId) (h0 h_words : Nat) (z_cellKey : Int64) (z_cellPage : Int32) (z_stepsDone : Int32) (z_words : Nat → Int64) (v1 : Int32) (hp0 : vp_in v1 200) (sz : Nat) : Met l yX1_kindOf wsX1_kindOf { frames := 0, cells := 0, slots := 0, locals := 0 } (va_Pc [.ref h0, .int v1] (st_B (dC, dI) (ty4 cJ cI cB cZ) [(h0, .inr (1, [.ref h_words, .long z_cellKey, .int z_cellPage, .int z_stepsDone])), (h_words, .inl (cJ, 1600, .inr (.inl z_words)))] sz)) (va_Qi (fun (r : Int32) (u : Unit) => fn_X1_kindOf z_words v1 = r) (fun (u : Unit) t => st_W (dC, dI) (ty4 cJ cI cB cZ) [(h0, .inr (1, [.ref h_words, .long z_cellKey, .int z_cellPage, .int z_stepsDone])), (h_words, .inl (cJ, 1600, .inr (.inl z_words)))] sz [(h0, .inr (1, [.ref h_words, .long z_cellKey, .int z_cellPage, .int z_stepsDone])), (h_words, .inl (cJ, 1600, .inr (.inl z_words)))] t) (va_A [(h0, .inr (1, [.ref h_words, .long z_cellKey, .int z_cellPage, .int z_stepsDone])), (h_words, .inl (cJ, 1600, .inr (.inl z_words)))] sz)) 0 0 (va_A [(h0, .inr (1, [.ref h_words, .long z_cellKey, .int z_cellPage, .int z_stepsDone])), (h_words, .inl (cJ, 1600, .inr (.inl z_words)))] sz) := by
  refine Met.ofW (cc := cX1_kindOf) (maxL := 2) (ret := (some .int)) (by decide) rfl ?_
  intro p e s m args below meth c s₁ B hml hv
  obtain ⟨rfl, hsz, hP, hK, hD0, hN⟩ := hv
  have hx := B.exec
  have hb := B.bytes
  have hr := B.returns
  have hts := atoms_spec (ws := wsX1_kindOf) B.pre
  have hown : s.vm.findClass RX1 = some m.cls := findClass_of_methodNamed B.named
  have hlocks := B.notSynchronized
  subst hsz
  obtain ⟨A, hAe⟩ : ∃ z, z = va_A [(h0, .inr (1, [.ref h_words, .long z_cellKey, .int z_cellPage, .int z_stepsDone])), (h_words, .inl (cJ, 1600, .inr (.inl z_words)))] s.heap.size := ⟨_, rfl⟩
  have hD : va_D A [(h0, .inr (1, [.ref h_words, .long z_cellKey, .int z_cellPage, .int z_stepsDone])), (h_words, .inl (cJ, 1600, .inr (.inl z_words)))] := by rw [hAe]; exact hD0.self
  have hA : ∀ q : Nat, s.heap.size ≤ q → A q := fun q h => by rw [hAe]; exact Or.inr h
  have hS : va_S A s.heap s.heap [] := va_S.rf
  have hP : va_P (dC, dI) vwCl [(h0, .inr (1, [.ref h_words, .long z_cellKey, .int z_cellPage, .int z_stepsDone])), (h_words, .inl (cJ, 1600, .inr (.inl z_words)))] s.heap := hP
  have hl := lv_entry ([.ref h0, .int v1]) (n := 2) (Nat.le_of_ble_eq_true rfl)
  rw [lg_entry_eq]
  generalize (lg_sl ([.ref h0, .int v1]) ++ List.replicate (2 - (lg_sl ([.ref h0, .int v1])).length) Slot.unset).toArray = ls at hl ⊢
  have hl : lv_has ls 2 [(0, .ref h0), (1, .int v1)] := hl
  obtain ⟨FR, hFR⟩ : ∃ z, z = fn_X1_kindOf z_words v1 := ⟨_, rfl⟩
  have hF := hFR
  unfold fn_X1_kindOf at hF
  refine lv_aload_n hx hb dX1_kindOf_0 rfl (lv_at hl 0 rfl) ?_
  refine va_get (D := (dC, dI)) (ci := 1) (v := .ref h_words) (C := RX1) (T := TX1) (N := 4) hx hb hts (by decide +kernel) hown hK hP 0 rfl rfl 0 (by decide) (hts (.fieldLink RX1 9 "ShredStore$Disk" "words" "[J") (by decide +kernel)) (fun _ h9 => h9) rfl dX1_kindOf_1 ?_
  refine lv_iload_n hx hb dX1_kindOf_4 rfl (lv_at hl 1 rfl) ?_
  refine lv_bipush (v := 8) hx hb dX1_kindOf_5 (by decide) ?_
  refine lv_imul hx hb dX1_kindOf_7 ?_
  have hr_8 : vp_in (v1 * 8) 1600 := by exact q_p8 hp0
  refine va_lald hx hb hK hP 1 0 rfl rfl hr_8 dX1_kindOf_8 ?_
  refine lv_bipush (v := 56) hx hb dX1_kindOf_9 (by decide) ?_
  refine lv_lushr (v := (ju_lushr (z_words ((v1 * 8) : Int32).toNatClampNeg) 56)) hx hb dX1_kindOf_11 rfl ?_
  refine lv_l2i (v := ((ju_lushr (z_words ((v1 * 8) : Int32).toNatClampNeg) 56) : Int64).toInt32) hx hb dX1_kindOf_12 rfl ?_
  have hP9 := hP.sub (ws' := [(h0, .inr (1, [.ref h_words, .long z_cellKey, .int z_cellPage, .int z_stepsDone])), (h_words, .inl (cJ, 1600, .inr (.inl z_words)))]) [0, 1] rfl
  have hD9 := hD.sub (ws' := [(h0, .inr (1, [.ref h_words, .long z_cellKey, .int z_cellPage, .int z_stepsDone])), (h_words, .inl (cJ, 1600, .inr (.inl z_words)))]) [0, 1] (by decide) rfl
  subst hAe
  exact W.iret (v := ((ju_lushr (z_words ((v1 * 8) : Int32).toNatClampNeg) 56) : Int64).toInt32) hx hb hr (fun t ht hW => ⟨⟨((ju_lushr (z_words ((v1 * 8) : Int32).toNatClampNeg) 56) : Int64).toInt32, (), rfl, hFR.symm.trans hF, by rw [ht]; exact hP9, va_K.moved hW.alike hK, hD9⟩, hS.F ht⟩) hS.2.2 dX1_kindOf_13
set_option maxHeartbeats 4000000 in
set_option maxRecDepth 100000 in
theorem ct_X1_wordBehindHead (l : Launch) (dC : Nat → ClassId) (dI : Nat → Nat → Nat) (cJ cI cB cZ : ClassId) (h0 h_words : Nat) (z_cellKey : Int64) (z_cellPage : Int32) (z_stepsDone : Int32) (z_words : Nat → Int64) (v1 : Int32) (v2 : Int32) (hp0 : vp_in v1 200) (hp1 : vp_in v2 8) (sz : Nat) : Met l yX1_wordBehindHead wsX1_wordBehindHead { frames := 0, cells := 0, slots := 0, locals := 0 } (va_Pc [.ref h0, .int v1, .int v2] (st_B (dC, dI) (ty4 cJ cI cB cZ) [(h0, .inr (1, [.ref h_words, .long z_cellKey, .int z_cellPage, .int z_stepsDone])), (h_words, .inl (cJ, 1600, .inr (.inl z_words)))] sz)) (va_Ql (fun (r : Int64) (u : Unit) => fn_X1_wordBehindHead z_words v1 v2 = r) (fun (u : Unit) t => st_W (dC, dI) (ty4 cJ cI cB cZ) [(h0, .inr (1, [.ref h_words, .long z_cellKey, .int z_cellPage, .int z_stepsDone])), (h_words, .inl (cJ, 1600, .inr (.inl z_words)))] sz [(h0, .inr (1, [.ref h_words, .long z_cellKey, .int z_cellPage, .int z_stepsDone])), (h_words, .inl (cJ, 1600, .inr (.inl z_words)))] t) (va_A [(h0, .inr (1, [.ref h_words, .long z_cellKey, .int z_cellPage, .int z_stepsDone])), (h_words, .inl (cJ, 1600, .inr (.inl z_words)))] sz)) 0 0 (va_A [(h0, .inr (1, [.ref h_words, .long z_cellKey, .int z_cellPage, .int z_stepsDone])), (h_words, .inl (cJ, 1600, .inr (.inl z_words)))] sz) := by
  refine Met.ofW (cc := cX1_wordBehindHead) (maxL := 6) (ret := (some .long)) (by decide) rfl ?_
  intro p e s m args below meth c s₁ B hml hv
  obtain ⟨rfl, hsz, hP, hK, hD0, hN⟩ := hv
  have hx := B.exec
  have hb := B.bytes
  have hr := B.returns
  have hts := atoms_spec (ws := wsX1_wordBehindHead) B.pre
  have hown : s.vm.findClass RX1 = some m.cls := findClass_of_methodNamed B.named
  have hlocks := B.notSynchronized
  subst hsz
  obtain ⟨A, hAe⟩ : ∃ z, z = va_A [(h0, .inr (1, [.ref h_words, .long z_cellKey, .int z_cellPage, .int z_stepsDone])), (h_words, .inl (cJ, 1600, .inr (.inl z_words)))] s.heap.size := ⟨_, rfl⟩
  have hD : va_D A [(h0, .inr (1, [.ref h_words, .long z_cellKey, .int z_cellPage, .int z_stepsDone])), (h_words, .inl (cJ, 1600, .inr (.inl z_words)))] := by rw [hAe]; exact hD0.self
  have hA : ∀ q : Nat, s.heap.size ≤ q → A q := fun q h => by rw [hAe]; exact Or.inr h
  have hS : va_S A s.heap s.heap [] := va_S.rf
  have hP : va_P (dC, dI) vwCl [(h0, .inr (1, [.ref h_words, .long z_cellKey, .int z_cellPage, .int z_stepsDone])), (h_words, .inl (cJ, 1600, .inr (.inl z_words)))] s.heap := hP
  have hl := lv_entry ([.ref h0, .int v1, .int v2]) (n := 6) (Nat.le_of_ble_eq_true rfl)
  rw [lg_entry_eq]
  generalize (lg_sl ([.ref h0, .int v1, .int v2]) ++ List.replicate (6 - (lg_sl ([.ref h0, .int v1, .int v2])).length) Slot.unset).toArray = ls at hl ⊢
  have hl : lv_has ls 6 [(0, .ref h0), (1, .int v1), (2, .int v2)] := hl
  obtain ⟨FR, hFR⟩ : ∃ z, z = fn_X1_wordBehindHead z_words v1 v2 := ⟨_, rfl⟩
  have hF := hFR
  unfold fn_X1_wordBehindHead at hF
  refine lv_iload_n hx hb dX1_wordBehindHead_0 rfl (lv_at hl 1 rfl) ?_
  refine lv_bipush (v := 8) hx hb dX1_wordBehindHead_1 (by decide) ?_
  refine lv_imul hx hb dX1_wordBehindHead_3 ?_
  refine lv_iload_n hx hb dX1_wordBehindHead_4 rfl (lv_at hl 2 rfl) ?_
  refine lv_iadd hx hb dX1_wordBehindHead_5 ?_
  refine lv_istore_n (lv' := [(3, .int ((v1 * 8) + v2)), (0, .ref h0), (1, .int v1), (2, .int v2)]) hx hb dX1_wordBehindHead_6 rfl hl (by decide) rfl (fun ls hl => ?_)
  refine lv_aload_n hx hb dX1_wordBehindHead_7 rfl (lv_at hl 1 rfl) ?_
  refine va_get (D := (dC, dI)) (ci := 1) (v := .ref h_words) (C := RX1) (T := TX1) (N := 4) hx hb hts (by decide +kernel) hown hK hP 0 rfl rfl 0 (by decide) (hts (.fieldLink RX1 9 "ShredStore$Disk" "words" "[J") (by decide +kernel)) (fun _ h9 => h9) rfl dX1_wordBehindHead_8 ?_
  refine lv_iload_n hx hb dX1_wordBehindHead_11 rfl (lv_at hl 0 rfl) ?_
  have hr_12 : vp_in ((v1 * 8) + v2) 1600 := by exact q_p8k hp0 hp1
  refine va_lald hx hb hK hP 1 0 rfl rfl hr_12 dX1_wordBehindHead_12 ?_
  refine lv_bipush (v := 40) hx hb dX1_wordBehindHead_13 (by decide) ?_
  refine lv_lshl (v := (ju_lshl (z_words (((v1 * 8) + v2) : Int32).toNatClampNeg) 40)) hx hb dX1_wordBehindHead_15 rfl ?_
  refine lv_lstore (lv' := [(4, .long (ju_lshl (z_words (((v1 * 8) + v2) : Int32).toNatClampNeg) 40)), (3, .int ((v1 * 8) + v2)), (0, .ref h0), (1, .int v1), (2, .int v2)]) hx hb dX1_wordBehindHead_16 hl (by decide) rfl (fun ls hl => ?_)
  refine lv_iload_n hx hb dX1_wordBehindHead_18 rfl (lv_at hl 4 rfl) ?_
  refine lv_iconst (v := 1) hx hb dX1_wordBehindHead_19 (by decide) ?_
  refine lv_iadd hx hb dX1_wordBehindHead_20 ?_
  refine lv_bipush (v := 8) hx hb dX1_wordBehindHead_21 (by decide) ?_
  refine lv_icmp_ge (tgt := 43) hx hb dX1_wordBehindHead_23 (by decide) (fun c_23 => ?_) (fun c_23 => ?_)
  · have hF := ite_t c_23 hF
    refine lv_lload hx hb dX1_wordBehindHead_43 (lv_at hl 0 rfl) ?_
    have hP9 := hP.sub (ws' := [(h0, .inr (1, [.ref h_words, .long z_cellKey, .int z_cellPage, .int z_stepsDone])), (h_words, .inl (cJ, 1600, .inr (.inl z_words)))]) [0, 1] rfl
    have hD9 := hD.sub (ws' := [(h0, .inr (1, [.ref h_words, .long z_cellKey, .int z_cellPage, .int z_stepsDone])), (h_words, .inl (cJ, 1600, .inr (.inl z_words)))]) [0, 1] (by decide) rfl
    subst hAe
    exact W.lret (v := (ju_lshl (z_words (((v1 * 8) + v2) : Int32).toNatClampNeg) 40)) hx hb hr (fun t ht hW => ⟨⟨(ju_lshl (z_words (((v1 * 8) + v2) : Int32).toNatClampNeg) 40), (), rfl, hFR.symm.trans hF, by rw [ht]; exact hP9, va_K.moved hW.alike hK, hD9⟩, hS.F ht⟩) hS.2.2 dX1_wordBehindHead_45
  · have hF := ite_f c_23 hF
    refine lv_lload hx hb dX1_wordBehindHead_26 (lv_at hl 0 rfl) ?_
    refine lv_aload_n hx hb dX1_wordBehindHead_28 rfl (lv_at hl 2 rfl) ?_
    refine va_get (D := (dC, dI)) (ci := 1) (v := .ref h_words) (C := RX1) (T := TX1) (N := 4) hx hb hts (by decide +kernel) hown hK hP 0 rfl rfl 0 (by decide) (hts (.fieldLink RX1 9 "ShredStore$Disk" "words" "[J") (by decide +kernel)) (fun _ h9 => h9) rfl dX1_wordBehindHead_29 ?_
    refine lv_iload_n hx hb dX1_wordBehindHead_32 rfl (lv_at hl 1 rfl) ?_
    refine lv_iconst (v := 1) hx hb dX1_wordBehindHead_33 (by decide) ?_
    refine lv_iadd hx hb dX1_wordBehindHead_34 ?_
    have hr_35 : vp_in (((v1 * 8) + v2) + 1) 1600 := by exact q_p8k1 hp0 hp1 c_23
    refine va_lald hx hb hK hP 1 0 rfl rfl hr_35 dX1_wordBehindHead_35 ?_
    refine lv_bipush (v := 24) hx hb dX1_wordBehindHead_36 (by decide) ?_
    refine lv_lushr (v := (ju_lushr (z_words ((((v1 * 8) + v2) + 1) : Int32).toNatClampNeg) 24)) hx hb dX1_wordBehindHead_38 rfl ?_
    refine lv_lor hx hb dX1_wordBehindHead_39 ?_
    refine lv_goto (tgt := 45) hx hb dX1_wordBehindHead_40 (by decide) ?_
    have hP9 := hP.sub (ws' := [(h0, .inr (1, [.ref h_words, .long z_cellKey, .int z_cellPage, .int z_stepsDone])), (h_words, .inl (cJ, 1600, .inr (.inl z_words)))]) [0, 1] rfl
    have hD9 := hD.sub (ws' := [(h0, .inr (1, [.ref h_words, .long z_cellKey, .int z_cellPage, .int z_stepsDone])), (h_words, .inl (cJ, 1600, .inr (.inl z_words)))]) [0, 1] (by decide) rfl
    subst hAe
    exact W.lret (v := ((ju_lshl (z_words (((v1 * 8) + v2) : Int32).toNatClampNeg) 40) ||| (ju_lushr (z_words ((((v1 * 8) + v2) + 1) : Int32).toNatClampNeg) 24))) hx hb hr (fun t ht hW => ⟨⟨((ju_lshl (z_words (((v1 * 8) + v2) : Int32).toNatClampNeg) 40) ||| (ju_lushr (z_words ((((v1 * 8) + v2) + 1) : Int32).toNatClampNeg) 24)), (), rfl, hFR.symm.trans hF, by rw [ht]; exact hP9, va_K.moved hW.alike hK, hD9⟩, hS.F ht⟩) hS.2.2 dX1_wordBehindHead_45
set_option maxHeartbeats 4000000 in
set_option maxRecDepth 100000 in
theorem ct_X1_writingOf (l : Launch) (dC : Nat → ClassId) (dI : Nat → Nat → Nat) (cJ cI cB cZ : ClassId) (h0 h_words : Nat) (z_cellKey : Int64) (z_cellPage : Int32) (z_stepsDone : Int32) (z_words : Nat → Int64) (v1 : Int32) (hp0 : vp_in v1 200) (sz : Nat) : Met l yX1_writingOf wsX1_writingOf { frames := 0, cells := 0, slots := 0, locals := 0 } (va_Pc [.ref h0, .int v1] (st_B (dC, dI) (ty4 cJ cI cB cZ) [(h0, .inr (1, [.ref h_words, .long z_cellKey, .int z_cellPage, .int z_stepsDone])), (h_words, .inl (cJ, 1600, .inr (.inl z_words)))] sz)) (va_Ql (fun (r : Int64) (u : Unit) => fn_X1_writingOf z_words v1 = r) (fun (u : Unit) t => st_W (dC, dI) (ty4 cJ cI cB cZ) [(h0, .inr (1, [.ref h_words, .long z_cellKey, .int z_cellPage, .int z_stepsDone])), (h_words, .inl (cJ, 1600, .inr (.inl z_words)))] sz [(h0, .inr (1, [.ref h_words, .long z_cellKey, .int z_cellPage, .int z_stepsDone])), (h_words, .inl (cJ, 1600, .inr (.inl z_words)))] t) (va_A [(h0, .inr (1, [.ref h_words, .long z_cellKey, .int z_cellPage, .int z_stepsDone])), (h_words, .inl (cJ, 1600, .inr (.inl z_words)))] sz)) 0 0 (va_A [(h0, .inr (1, [.ref h_words, .long z_cellKey, .int z_cellPage, .int z_stepsDone])), (h_words, .inl (cJ, 1600, .inr (.inl z_words)))] sz) := by
  refine Met.ofW (cc := cX1_writingOf) (maxL := 2) (ret := (some .long)) (by decide) rfl ?_
  intro p e s m args below meth c s₁ B hml hv
  obtain ⟨rfl, hsz, hP, hK, hD0, hN⟩ := hv
  have hx := B.exec
  have hb := B.bytes
  have hr := B.returns
  have hts := atoms_spec (ws := wsX1_writingOf) B.pre
  have hown : s.vm.findClass RX1 = some m.cls := findClass_of_methodNamed B.named
  have hlocks := B.notSynchronized
  subst hsz
  obtain ⟨A, hAe⟩ : ∃ z, z = va_A [(h0, .inr (1, [.ref h_words, .long z_cellKey, .int z_cellPage, .int z_stepsDone])), (h_words, .inl (cJ, 1600, .inr (.inl z_words)))] s.heap.size := ⟨_, rfl⟩
  have hD : va_D A [(h0, .inr (1, [.ref h_words, .long z_cellKey, .int z_cellPage, .int z_stepsDone])), (h_words, .inl (cJ, 1600, .inr (.inl z_words)))] := by rw [hAe]; exact hD0.self
  have hA : ∀ q : Nat, s.heap.size ≤ q → A q := fun q h => by rw [hAe]; exact Or.inr h
  have hS : va_S A s.heap s.heap [] := va_S.rf
  have hP : va_P (dC, dI) vwCl [(h0, .inr (1, [.ref h_words, .long z_cellKey, .int z_cellPage, .int z_stepsDone])), (h_words, .inl (cJ, 1600, .inr (.inl z_words)))] s.heap := hP
  have hl := lv_entry ([.ref h0, .int v1]) (n := 2) (Nat.le_of_ble_eq_true rfl)
  rw [lg_entry_eq]
  generalize (lg_sl ([.ref h0, .int v1]) ++ List.replicate (2 - (lg_sl ([.ref h0, .int v1])).length) Slot.unset).toArray = ls at hl ⊢
  have hl : lv_has ls 2 [(0, .ref h0), (1, .int v1)] := hl
  obtain ⟨FR, hFR⟩ : ∃ z, z = fn_X1_writingOf z_words v1 := ⟨_, rfl⟩
  have hF := hFR
  unfold fn_X1_writingOf at hF
  refine lv_aload_n hx hb dX1_writingOf_0 rfl (lv_at hl 0 rfl) ?_
  refine va_get (D := (dC, dI)) (ci := 1) (v := .ref h_words) (C := RX1) (T := TX1) (N := 4) hx hb hts (by decide +kernel) hown hK hP 0 rfl rfl 0 (by decide) (hts (.fieldLink RX1 9 "ShredStore$Disk" "words" "[J") (by decide +kernel)) (fun _ h9 => h9) rfl dX1_writingOf_1 ?_
  refine lv_iload_n hx hb dX1_writingOf_4 rfl (lv_at hl 1 rfl) ?_
  refine lv_bipush (v := 8) hx hb dX1_writingOf_5 (by decide) ?_
  refine lv_imul hx hb dX1_writingOf_7 ?_
  have hr_8 : vp_in (v1 * 8) 1600 := by exact q_p8 hp0
  refine va_lald hx hb hK hP 1 0 rfl rfl hr_8 dX1_writingOf_8 ?_
  refine lv_bipush (v := 24) hx hb dX1_writingOf_9 (by decide) ?_
  refine lv_lushr (v := (ju_lushr (z_words ((v1 * 8) : Int32).toNatClampNeg) 24)) hx hb dX1_writingOf_11 rfl ?_
  refine lv_ldc2 (v := 4294967295) hx hb hown (hts (.constantLong RX1 69 4294967295) (by decide +kernel)) dX1_writingOf_12 ?_
  refine lv_land hx hb dX1_writingOf_15 ?_
  have hP9 := hP.sub (ws' := [(h0, .inr (1, [.ref h_words, .long z_cellKey, .int z_cellPage, .int z_stepsDone])), (h_words, .inl (cJ, 1600, .inr (.inl z_words)))]) [0, 1] rfl
  have hD9 := hD.sub (ws' := [(h0, .inr (1, [.ref h_words, .long z_cellKey, .int z_cellPage, .int z_stepsDone])), (h_words, .inl (cJ, 1600, .inr (.inl z_words)))]) [0, 1] (by decide) rfl
  subst hAe
  exact W.lret (v := ((ju_lushr (z_words ((v1 * 8) : Int32).toNatClampNeg) 24) &&& 4294967295)) hx hb hr (fun t ht hW => ⟨⟨((ju_lushr (z_words ((v1 * 8) : Int32).toNatClampNeg) 24) &&& 4294967295), (), rfl, hFR.symm.trans hF, by rw [ht]; exact hP9, va_K.moved hW.alike hK, hD9⟩, hS.F ht⟩) hS.2.2 dX1_writingOf_16
set_option maxHeartbeats 4000000 in
set_option maxRecDepth 100000 in
theorem ct_X1_fits (l : Launch) (dC : Nat → ClassId) (dI : Nat → Nat → Nat) (cJ cI cB cZ : ClassId) (h0 h_words : Nat) (z_cellKey : Int64) (z_cellPage : Int32) (z_stepsDone : Int32) (z_words : Nat → Int64) (v1 : Int64) (v3 : Int32) (v4 : Int32) (sz : Nat) : Met l yX1_fits wsX1_fits { frames := 1, cells := 0, slots := 0, locals := 27 } (va_Pc [.ref h0, .long v1, .int v3, .int v4] (st_B (dC, dI) (ty4 cJ cI cB cZ) [(h0, .inr (1, [.ref h_words, .long z_cellKey, .int z_cellPage, .int z_stepsDone])), (h_words, .inl (cJ, 1600, .inr (.inl z_words)))] sz)) (va_Qi (fun (r : Int32) (u : Unit) => fn_X1_fits z_words v1 v3 v4 = r ∧ narrow .boolean (.int r) = .int r) (fun (u : Unit) t => st_W (dC, dI) (ty4 cJ cI cB cZ) [(h0, .inr (1, [.ref h_words, .long z_cellKey, .int z_cellPage, .int z_stepsDone])), (h_words, .inl (cJ, 1600, .inr (.inl z_words)))] sz [(h0, .inr (1, [.ref h_words, .long z_cellKey, .int z_cellPage, .int z_stepsDone])), (h_words, .inl (cJ, 1600, .inr (.inl z_words)))] t) (va_A [(h0, .inr (1, [.ref h_words, .long z_cellKey, .int z_cellPage, .int z_stepsDone])), (h_words, .inl (cJ, 1600, .inr (.inl z_words)))] sz)) 0 0 (va_A [(h0, .inr (1, [.ref h_words, .long z_cellKey, .int z_cellPage, .int z_stepsDone])), (h_words, .inl (cJ, 1600, .inr (.inl z_words)))] sz) := by
  refine Met.ofW (cc := cX1_fits) (maxL := 5) (ret := (some .boolean)) (by decide) rfl ?_
  intro p e s m args below meth c s₁ B hml hv
  obtain ⟨rfl, hsz, hP, hK, hD0, hN⟩ := hv
  have hx := B.exec
  have hb := B.bytes
  have hr := B.returns
  have hts := atoms_spec (ws := wsX1_fits) B.pre
  have hown : s.vm.findClass RX1 = some m.cls := findClass_of_methodNamed B.named
  have hlocks := B.notSynchronized
  subst hsz
  obtain ⟨A, hAe⟩ : ∃ z, z = va_A [(h0, .inr (1, [.ref h_words, .long z_cellKey, .int z_cellPage, .int z_stepsDone])), (h_words, .inl (cJ, 1600, .inr (.inl z_words)))] s.heap.size := ⟨_, rfl⟩
  have hD : va_D A [(h0, .inr (1, [.ref h_words, .long z_cellKey, .int z_cellPage, .int z_stepsDone])), (h_words, .inl (cJ, 1600, .inr (.inl z_words)))] := by rw [hAe]; exact hD0.self
  have hA : ∀ q : Nat, s.heap.size ≤ q → A q := fun q h => by rw [hAe]; exact Or.inr h
  have hS : va_S A s.heap s.heap [] := va_S.rf
  have hP : va_P (dC, dI) vwCl [(h0, .inr (1, [.ref h_words, .long z_cellKey, .int z_cellPage, .int z_stepsDone])), (h_words, .inl (cJ, 1600, .inr (.inl z_words)))] s.heap := hP
  have hl := lv_entry ([.ref h0, .long v1, .int v3, .int v4]) (n := 5) (Nat.le_of_ble_eq_true rfl)
  rw [lg_entry_eq]
  generalize (lg_sl ([.ref h0, .long v1, .int v3, .int v4]) ++ List.replicate (5 - (lg_sl ([.ref h0, .long v1, .int v3, .int v4])).length) Slot.unset).toArray = ls at hl ⊢
  have hl : lv_has ls 5 [(0, .ref h0), (1, .long v1), (3, .int v3), (4, .int v4)] := hl
  obtain ⟨FR, hFR⟩ : ∃ z, z = fn_X1_fits z_words v1 v3 v4 := ⟨_, rfl⟩
  have hF := hFR
  unfold fn_X1_fits at hF
  refine lv_iload_n hx hb dX1_fits_0 rfl (lv_at hl 2 rfl) ?_
  refine st_calli (wr := [(h0, .inr (1, [.ref h_words, .long z_cellKey, .int z_cellPage, .int z_stepsDone])), (h_words, .inl (cJ, 1600, .inr (.inl z_words)))]) (va_runSN (As := [.int v3]) (rest := []) ⟨hx, hb, hml, hown, hts⟩ (ct_X8_isPage l dC dI cJ cI cB cZ v3 s.heap.size) ⟨va_cnB 1 hts gX1_fits_X8_isPage_n26 rfl rfl rfl (hN _ (List.mem_of_getElem? (i := 0) rfl)) (hts (.initialized RX8) (by decide +kernel)) (by decide +kernel) ⟨Nat.le_of_ble_eq_true rfl, Nat.le_of_ble_eq_true rfl⟩, (hts (.static yX8_isPage) (by decide +kernel)), trivial⟩ (st_preS hK hP hD hN [] rfl (by decide) rfl) rfl rfl hl.1 rfl (lv_room (Nat.le_of_ble_eq_true rfl)) dX1_fits_1 ⟨Nat.le_of_ble_eq_true rfl, Nat.le_of_ble_eq_true rfl⟩) hP hD hS hA [] [0, 1] rfl rfl (by decide) (by decide) (fun r1 u H locs hw hP hD hS => ?_)
  have hP : va_P (dC, dI) vwCl [(h0, .inr (1, [.ref h_words, .long z_cellKey, .int z_cellPage, .int z_stepsDone])), (h_words, .inl (cJ, 1600, .inr (.inl z_words)))] H := hP
  have hD : va_D A [(h0, .inr (1, [.ref h_words, .long z_cellKey, .int z_cellPage, .int z_stepsDone])), (h_words, .inl (cJ, 1600, .inr (.inl z_words)))] := hD
  obtain ⟨hw, hz_r1⟩ := hw
  have hF := bnd1_eq hw hF
  have hpg : ¬ r1 = 0 → vp_in v3 200 := lm_isPage hw
  refine lv_if_eq (tgt := 43) hx hb dX1_fits_4 (by decide) (fun c_4 => ?_) (fun c_4 => ?_)
  · have hF := ite_t c_4 hF
    refine lv_iconst (v := 0) hx hb dX1_fits_43 (by decide) ?_
    have hP9 := hP.sub (ws' := [(h0, .inr (1, [.ref h_words, .long z_cellKey, .int z_cellPage, .int z_stepsDone])), (h_words, .inl (cJ, 1600, .inr (.inl z_words)))]) [0, 1] rfl
    have hD9 := hD.sub (ws' := [(h0, .inr (1, [.ref h_words, .long z_cellKey, .int z_cellPage, .int z_stepsDone])), (h_words, .inl (cJ, 1600, .inr (.inl z_words)))]) [0, 1] (by decide) rfl
    subst hAe
    exact W.zret (v := 0) (ty := .boolean) hx hb hr (by first | rfl | assumption) (fun t ht hW => ⟨⟨0, (), rfl, ⟨hFR.symm.trans hF, (by first | rfl | assumption)⟩, by rw [ht]; exact hP9, va_K.moved hW.alike hK, hD9⟩, hS.F ht⟩) hS.2.2 dX1_fits_44
  · have hF := ite_f c_4 hF
    have hpg2 := hpg c_4
    refine lv_aload_n hx hb dX1_fits_7 rfl (lv_at hl 0 rfl) ?_
    refine lv_iload_n hx hb dX1_fits_8 rfl (lv_at hl 2 rfl) ?_
    have hq_9_0 : vp_in v3 200 := by first | assumption | exact q_z0 (by decide) | decide
    refine st_calli (wr := []) (va_runV (As := [.int v3]) (rest := []) ⟨hx, hb, hml, hown, hts⟩ (ct_X1_kindOf l dC dI cJ cI cB cZ h0 h_words z_cellKey z_cellPage z_stepsDone z_words v3 hq_9_0 H.size) (cwV 1 hts gX1_fits_X1_kindOf rfl rfl rfl (by decide +kernel) ⟨Nat.le_of_ble_eq_true rfl, Nat.le_of_ble_eq_true rfl⟩) (st_preV (ci := 1) (q0 := 0) hK hP hD hN [0, 1] rfl (by decide) rfl rfl rfl) rfl rfl hl.1 rfl (lv_room (Nat.le_of_ble_eq_true rfl)) dX1_fits_9 ⟨Nat.le_of_ble_eq_true rfl, Nat.le_of_ble_eq_true rfl⟩) hP hD hS hA [0, 1] [] rfl rfl (by decide) (by decide) (fun r9 u H locs hw hP hD hS => ?_)
    have hP : va_P (dC, dI) vwCl [(h0, .inr (1, [.ref h_words, .long z_cellKey, .int z_cellPage, .int z_stepsDone])), (h_words, .inl (cJ, 1600, .inr (.inl z_words)))] H := hP
    have hD : va_D A [(h0, .inr (1, [.ref h_words, .long z_cellKey, .int z_cellPage, .int z_stepsDone])), (h_words, .inl (cJ, 1600, .inr (.inl z_words)))] := hD
    have hF := bnd1_eq hw hF
    refine lv_iload hx hb dX1_fits_12 (lv_at hl 3 rfl) ?_
    refine lv_icmp_ne (tgt := 43) hx hb dX1_fits_14 (by decide) (fun c_14 => ?_) (fun c_14 => ?_)
    · have hF := ite_f c_14 hF
      refine lv_iconst (v := 0) hx hb dX1_fits_43 (by decide) ?_
      have hP9 := hP.sub (ws' := [(h0, .inr (1, [.ref h_words, .long z_cellKey, .int z_cellPage, .int z_stepsDone])), (h_words, .inl (cJ, 1600, .inr (.inl z_words)))]) [0, 1] rfl
      have hD9 := hD.sub (ws' := [(h0, .inr (1, [.ref h_words, .long z_cellKey, .int z_cellPage, .int z_stepsDone])), (h_words, .inl (cJ, 1600, .inr (.inl z_words)))]) [0, 1] (by decide) rfl
      subst hAe
      exact W.zret (v := 0) (ty := .boolean) hx hb hr (by first | rfl | assumption) (fun t ht hW => ⟨⟨0, (), rfl, ⟨hFR.symm.trans hF, (by first | rfl | assumption)⟩, by rw [ht]; exact hP9, va_K.moved hW.alike hK, hD9⟩, hS.F ht⟩) hS.2.2 dX1_fits_44
    · have hF := ite_t c_14 hF
      refine lv_aload_n hx hb dX1_fits_17 rfl (lv_at hl 0 rfl) ?_
      refine lv_iload_n hx hb dX1_fits_18 rfl (lv_at hl 2 rfl) ?_
      refine lv_iconst (v := 0) hx hb dX1_fits_19 (by decide) ?_
      have hq_20_0 : vp_in v3 200 := by first | assumption | exact q_z0 (by decide) | decide
      have hq_20_1 : vp_in (0 : Int32) 8 := by first | assumption | exact q_z0 (by decide) | decide
      refine st_calll (wr := []) (va_runV (As := [.int v3, .int 0]) (rest := []) ⟨hx, hb, hml, hown, hts⟩ (ct_X1_wordBehindHead l dC dI cJ cI cB cZ h0 h_words z_cellKey z_cellPage z_stepsDone z_words v3 0 hq_20_0 hq_20_1 H.size) (cwV 2 hts gX1_fits_X1_wordBehindHead rfl rfl rfl (by decide +kernel) ⟨Nat.le_of_ble_eq_true rfl, Nat.le_of_ble_eq_true rfl⟩) (st_preV (ci := 1) (q0 := 0) hK hP hD hN [0, 1] rfl (by decide) rfl rfl rfl) rfl rfl hl.1 rfl (lv_room (Nat.le_of_ble_eq_true rfl)) dX1_fits_20 ⟨Nat.le_of_ble_eq_true rfl, Nat.le_of_ble_eq_true rfl⟩) hP hD hS hA [0, 1] [] rfl rfl (by decide) (by decide) (fun r20 u H locs hw hP hD hS => ?_)
      have hP : va_P (dC, dI) vwCl [(h0, .inr (1, [.ref h_words, .long z_cellKey, .int z_cellPage, .int z_stepsDone])), (h_words, .inl (cJ, 1600, .inr (.inl z_words)))] H := hP
      have hD : va_D A [(h0, .inr (1, [.ref h_words, .long z_cellKey, .int z_cellPage, .int z_stepsDone])), (h_words, .inl (cJ, 1600, .inr (.inl z_words)))] := hD
      have hF := bnd1_eq hw hF
      refine lv_lload_n hx hb dX1_fits_23 rfl (lv_at hl 1 rfl) ?_
      refine lv_aload_n hx hb dX1_fits_24 rfl (lv_at hl 0 rfl) ?_
      refine lv_iload_n hx hb dX1_fits_25 rfl (lv_at hl 2 rfl) ?_
      have hq_26_0 : vp_in v3 200 := by first | assumption | exact q_z0 (by decide) | decide
      refine st_calll (wr := []) (va_runV (As := [.int v3]) (rest := [.long v1, .long r20]) ⟨hx, hb, hml, hown, hts⟩ (ct_X1_writingOf l dC dI cJ cI cB cZ h0 h_words z_cellKey z_cellPage z_stepsDone z_words v3 hq_26_0 H.size) (cwV 1 hts gX1_fits_X1_writingOf rfl rfl rfl (by decide +kernel) ⟨Nat.le_of_ble_eq_true rfl, Nat.le_of_ble_eq_true rfl⟩) (st_preV (ci := 1) (q0 := 0) hK hP hD hN [0, 1] rfl (by decide) rfl rfl rfl) rfl rfl hl.1 rfl (lv_room (Nat.le_of_ble_eq_true rfl)) dX1_fits_26 ⟨Nat.le_of_ble_eq_true rfl, Nat.le_of_ble_eq_true rfl⟩) hP hD hS hA [0, 1] [] rfl rfl (by decide) (by decide) (fun r26 u H locs hw hP hD hS => ?_)
      have hP : va_P (dC, dI) vwCl [(h0, .inr (1, [.ref h_words, .long z_cellKey, .int z_cellPage, .int z_stepsDone])), (h_words, .inl (cJ, 1600, .inr (.inl z_words)))] H := hP
      have hD : va_D A [(h0, .inr (1, [.ref h_words, .long z_cellKey, .int z_cellPage, .int z_stepsDone])), (h_words, .inl (cJ, 1600, .inr (.inl z_words)))] := hD
      have hF := bnd1_eq hw hF
      refine lv_ldc2 (v := 100) hx hb hown (hts (.constantLong RX1 42 100) (by decide +kernel)) dX1_fits_29 ?_
      refine st_calll (wr := [(h0, .inr (1, [.ref h_words, .long z_cellKey, .int z_cellPage, .int z_stepsDone])), (h_words, .inl (cJ, 1600, .inr (.inl z_words)))]) (va_runSN (As := [.long v1, .long r26, .long 100]) (rest := [.long r20]) ⟨hx, hb, hml, hown, hts⟩ (ct_X8_padOf l dC dI cJ cI cB cZ v1 r26 100 H.size) ⟨va_cnB 3 hts gX1_fits_X8_padOf_n44 rfl rfl rfl (hN _ (List.mem_of_getElem? (i := 1) rfl)) (hts (.initialized RX8) (by decide +kernel)) (by decide +kernel) ⟨Nat.le_of_ble_eq_true rfl, Nat.le_of_ble_eq_true rfl⟩, (hts (.static yX8_padOf) (by decide +kernel)), trivial⟩ (st_preS hK hP hD hN [] rfl (by decide) rfl) rfl rfl hl.1 rfl (lv_room (Nat.le_of_ble_eq_true rfl)) dX1_fits_32 ⟨Nat.le_of_ble_eq_true rfl, Nat.le_of_ble_eq_true rfl⟩) hP hD hS hA [] [0, 1] rfl rfl (by decide) (by decide) (fun r32 u H locs hw hP hD hS => ?_)
      have hP : va_P (dC, dI) vwCl [(h0, .inr (1, [.ref h_words, .long z_cellKey, .int z_cellPage, .int z_stepsDone])), (h_words, .inl (cJ, 1600, .inr (.inl z_words)))] H := hP
      have hD : va_D A [(h0, .inr (1, [.ref h_words, .long z_cellKey, .int z_cellPage, .int z_stepsDone])), (h_words, .inl (cJ, 1600, .inr (.inl z_words)))] := hD
      have hF := bnd1_eq hw hF
      refine W.lcmp hx hb dX1_fits_35 ?_
      refine lv_if_ne (tgt := 43) hx hb dX1_fits_36 (by decide) (fun c_36 => ?_) (fun c_36 => ?_)
      · have hF := ite_f c_36 hF
        refine lv_iconst (v := 0) hx hb dX1_fits_43 (by decide) ?_
        have hP9 := hP.sub (ws' := [(h0, .inr (1, [.ref h_words, .long z_cellKey, .int z_cellPage, .int z_stepsDone])), (h_words, .inl (cJ, 1600, .inr (.inl z_words)))]) [0, 1] rfl
        have hD9 := hD.sub (ws' := [(h0, .inr (1, [.ref h_words, .long z_cellKey, .int z_cellPage, .int z_stepsDone])), (h_words, .inl (cJ, 1600, .inr (.inl z_words)))]) [0, 1] (by decide) rfl
        subst hAe
        exact W.zret (v := 0) (ty := .boolean) hx hb hr (by first | rfl | assumption) (fun t ht hW => ⟨⟨0, (), rfl, ⟨hFR.symm.trans hF, (by first | rfl | assumption)⟩, by rw [ht]; exact hP9, va_K.moved hW.alike hK, hD9⟩, hS.F ht⟩) hS.2.2 dX1_fits_44
      · have hF := ite_t c_36 hF
        refine lv_iconst (v := 1) hx hb dX1_fits_39 (by decide) ?_
        refine lv_goto (tgt := 44) hx hb dX1_fits_40 (by decide) ?_
        have hP9 := hP.sub (ws' := [(h0, .inr (1, [.ref h_words, .long z_cellKey, .int z_cellPage, .int z_stepsDone])), (h_words, .inl (cJ, 1600, .inr (.inl z_words)))]) [0, 1] rfl
        have hD9 := hD.sub (ws' := [(h0, .inr (1, [.ref h_words, .long z_cellKey, .int z_cellPage, .int z_stepsDone])), (h_words, .inl (cJ, 1600, .inr (.inl z_words)))]) [0, 1] (by decide) rfl
        subst hAe
        exact W.zret (v := 1) (ty := .boolean) hx hb hr (by first | rfl | assumption) (fun t ht hW => ⟨⟨1, (), rfl, ⟨hFR.symm.trans hF, (by first | rfl | assumption)⟩, by rw [ht]; exact hP9, va_K.moved hW.alike hK, hD9⟩, hS.F ht⟩) hS.2.2 dX1_fits_44
set_option maxHeartbeats 4000000 in
set_option maxRecDepth 100000 in
theorem ct_X1_readBody (l : Launch) (dC : Nat → ClassId) (dI : Nat → Nat → Nat) (cJ cI cB cZ : ClassId) (h0 h_words h_a2 h_a2_words : Nat) (z_cellKey : Int64) (z_cellPage : Int32) (z_stepsDone : Int32) (z_words : Nat → Int64) (z_a2_words : Nat → Int64) (v1 : Int64) (v3 : Int32) (sz : Nat) : Met l yX1_readBody wsX1_readBody { frames := 1, cells := 0, slots := 0, locals := 27 } (va_Pc [.ref h0, .long v1, .int v3, .ref h_a2] (st_B (dC, dI) (ty4 cJ cI cB cZ) [(h0, .inr (1, [.ref h_words, .long z_cellKey, .int z_cellPage, .int z_stepsDone])), (h_words, .inl (cJ, 1600, .inr (.inl z_words))), (h_a2, .inr (0, [.ref h_a2_words])), (h_a2_words, .inl (cJ, 7, .inr (.inl z_a2_words)))] sz)) (va_Qv (fun (u : (Nat → Int64)) => fn_X1_readBody z_words z_a2_words v1 v3 = u) (fun (u : (Nat → Int64)) t => st_W (dC, dI) (ty4 cJ cI cB cZ) [(h0, .inr (1, [.ref h_words, .long z_cellKey, .int z_cellPage, .int z_stepsDone])), (h_words, .inl (cJ, 1600, .inr (.inl z_words))), (h_a2, .inr (0, [.ref h_a2_words])), (h_a2_words, .inl (cJ, 7, .inr (.inl z_a2_words)))] sz [(h0, .inr (1, [.ref h_words, .long z_cellKey, .int z_cellPage, .int z_stepsDone])), (h_words, .inl (cJ, 1600, .inr (.inl z_words))), (h_a2, .inr (0, [.ref h_a2_words])), (h_a2_words, .inl (cJ, 7, .inr (.inl u)))] t) (va_A [(h0, .inr (1, [.ref h_words, .long z_cellKey, .int z_cellPage, .int z_stepsDone])), (h_words, .inl (cJ, 1600, .inr (.inl z_words))), (h_a2, .inr (0, [.ref h_a2_words])), (h_a2_words, .inl (cJ, 7, .inr (.inl z_a2_words)))] sz)) 0 0 (va_A [(h0, .inr (1, [.ref h_words, .long z_cellKey, .int z_cellPage, .int z_stepsDone])), (h_words, .inl (cJ, 1600, .inr (.inl z_words))), (h_a2, .inr (0, [.ref h_a2_words])), (h_a2_words, .inl (cJ, 7, .inr (.inl z_a2_words)))] sz) := by
  refine Met.ofW (cc := cX1_readBody) (maxL := 8) (ret := none) (by decide) rfl ?_
  intro p e s m args below meth c s₁ B hml hv
  obtain ⟨rfl, hsz, hP, hK, hD0, hN⟩ := hv
  have hx := B.exec
  have hb := B.bytes
  have hr := B.returns
  have hts := atoms_spec (ws := wsX1_readBody) B.pre
  have hown : s.vm.findClass RX1 = some m.cls := findClass_of_methodNamed B.named
  have hlocks := B.notSynchronized
  subst hsz
  obtain ⟨A, hAe⟩ : ∃ z, z = va_A [(h0, .inr (1, [.ref h_words, .long z_cellKey, .int z_cellPage, .int z_stepsDone])), (h_words, .inl (cJ, 1600, .inr (.inl z_words))), (h_a2, .inr (0, [.ref h_a2_words])), (h_a2_words, .inl (cJ, 7, .inr (.inl z_a2_words)))] s.heap.size := ⟨_, rfl⟩
  have hD : va_D A [(h0, .inr (1, [.ref h_words, .long z_cellKey, .int z_cellPage, .int z_stepsDone])), (h_words, .inl (cJ, 1600, .inr (.inl z_words))), (h_a2, .inr (0, [.ref h_a2_words])), (h_a2_words, .inl (cJ, 7, .inr (.inl z_a2_words)))] := by rw [hAe]; exact hD0.self
  have hA : ∀ q : Nat, s.heap.size ≤ q → A q := fun q h => by rw [hAe]; exact Or.inr h
  have hS : va_S A s.heap s.heap [] := va_S.rf
  have hP : va_P (dC, dI) vwCl [(h0, .inr (1, [.ref h_words, .long z_cellKey, .int z_cellPage, .int z_stepsDone])), (h_words, .inl (cJ, 1600, .inr (.inl z_words))), (h_a2, .inr (0, [.ref h_a2_words])), (h_a2_words, .inl (cJ, 7, .inr (.inl z_a2_words)))] s.heap := hP
  have hl := lv_entry ([.ref h0, .long v1, .int v3, .ref h_a2]) (n := 8) (Nat.le_of_ble_eq_true rfl)
  rw [lg_entry_eq]
  generalize (lg_sl ([.ref h0, .long v1, .int v3, .ref h_a2]) ++ List.replicate (8 - (lg_sl ([.ref h0, .long v1, .int v3, .ref h_a2])).length) Slot.unset).toArray = ls at hl ⊢
  have hl : lv_has ls 8 [(0, .ref h0), (1, .long v1), (3, .int v3), (4, .ref h_a2)] := hl
  obtain ⟨FR, hFR⟩ : ∃ z, z = fn_X1_readBody z_words z_a2_words v1 v3 := ⟨_, rfl⟩
  have hF := hFR
  unfold fn_X1_readBody at hF
  refine lv_iload_n hx hb dX1_readBody_0 rfl (lv_at hl 2 rfl) ?_
  refine st_calli (wr := [(h0, .inr (1, [.ref h_words, .long z_cellKey, .int z_cellPage, .int z_stepsDone])), (h_words, .inl (cJ, 1600, .inr (.inl z_words))), (h_a2, .inr (0, [.ref h_a2_words])), (h_a2_words, .inl (cJ, 7, .inr (.inl z_a2_words)))]) (va_runSN (As := [.int v3]) (rest := []) ⟨hx, hb, hml, hown, hts⟩ (ct_X8_isPage l dC dI cJ cI cB cZ v3 s.heap.size) ⟨va_cnB 1 hts gX1_readBody_X8_isPage_n26 rfl rfl rfl (hN _ (List.mem_of_getElem? (i := 0) rfl)) (hts (.initialized RX8) (by decide +kernel)) (by decide +kernel) ⟨Nat.le_of_ble_eq_true rfl, Nat.le_of_ble_eq_true rfl⟩, (hts (.static yX8_isPage) (by decide +kernel)), trivial⟩ (st_preS hK hP hD hN [] rfl (by decide) rfl) rfl rfl hl.1 rfl (lv_room (Nat.le_of_ble_eq_true rfl)) dX1_readBody_1 ⟨Nat.le_of_ble_eq_true rfl, Nat.le_of_ble_eq_true rfl⟩) hP hD hS hA [] [0, 1, 2, 3] rfl rfl (by decide) (by decide) (fun r1 u H locs hw hP hD hS => ?_)
  have hP : va_P (dC, dI) vwCl [(h0, .inr (1, [.ref h_words, .long z_cellKey, .int z_cellPage, .int z_stepsDone])), (h_words, .inl (cJ, 1600, .inr (.inl z_words))), (h_a2, .inr (0, [.ref h_a2_words])), (h_a2_words, .inl (cJ, 7, .inr (.inl z_a2_words)))] H := hP
  have hD : va_D A [(h0, .inr (1, [.ref h_words, .long z_cellKey, .int z_cellPage, .int z_stepsDone])), (h_words, .inl (cJ, 1600, .inr (.inl z_words))), (h_a2, .inr (0, [.ref h_a2_words])), (h_a2_words, .inl (cJ, 7, .inr (.inl z_a2_words)))] := hD
  obtain ⟨hw, hz_r1⟩ := hw
  have hF := bnd1_eq hw hF
  have hpg : ¬ r1 = 0 → vp_in v3 200 := lm_isPage hw
  refine lv_if_ne (tgt := 13) hx hb dX1_readBody_4 (by decide) (fun c_4 => ?_) (fun c_4 => ?_)
  · have hF := ite_f c_4 hF
    have hpg2 := hpg c_4
    refine lv_aload_n hx hb dX1_readBody_13 rfl (lv_at hl 0 rfl) ?_
    refine lv_iload_n hx hb dX1_readBody_14 rfl (lv_at hl 2 rfl) ?_
    have hq_15_0 : vp_in v3 200 := by first | assumption | exact q_z0 (by decide) | decide
    refine st_calll (wr := [(h_a2, .inr (0, [.ref h_a2_words])), (h_a2_words, .inl (cJ, 7, .inr (.inl z_a2_words)))]) (va_runV (As := [.int v3]) (rest := []) ⟨hx, hb, hml, hown, hts⟩ (ct_X1_writingOf l dC dI cJ cI cB cZ h0 h_words z_cellKey z_cellPage z_stepsDone z_words v3 hq_15_0 H.size) (cwV 1 hts gX1_readBody_X1_writingOf rfl rfl rfl (by decide +kernel) ⟨Nat.le_of_ble_eq_true rfl, Nat.le_of_ble_eq_true rfl⟩) (st_preV (ci := 1) (q0 := 0) hK hP hD hN [0, 1] rfl (by decide) rfl rfl rfl) rfl rfl hl.1 rfl (lv_room (Nat.le_of_ble_eq_true rfl)) dX1_readBody_15 ⟨Nat.le_of_ble_eq_true rfl, Nat.le_of_ble_eq_true rfl⟩) hP hD hS hA [0, 1] [2, 3] rfl rfl (by decide) (by decide) (fun r15 u H locs hw hP hD hS => ?_)
    have hP : va_P (dC, dI) vwCl [(h_a2, .inr (0, [.ref h_a2_words])), (h_a2_words, .inl (cJ, 7, .inr (.inl z_a2_words))), (h0, .inr (1, [.ref h_words, .long z_cellKey, .int z_cellPage, .int z_stepsDone])), (h_words, .inl (cJ, 1600, .inr (.inl z_words)))] H := hP
    have hD : va_D A [(h_a2, .inr (0, [.ref h_a2_words])), (h_a2_words, .inl (cJ, 7, .inr (.inl z_a2_words))), (h0, .inr (1, [.ref h_words, .long z_cellKey, .int z_cellPage, .int z_stepsDone])), (h_words, .inl (cJ, 1600, .inr (.inl z_words)))] := hD
    have hF := bnd1_eq hw hF
    refine lv_lstore (lv' := [(5, .long r15), (0, .ref h0), (1, .long v1), (3, .int v3), (4, .ref h_a2)]) hx hb dX1_readBody_18 hl (by decide) rfl (fun ls hl => ?_)
    refine lv_iconst (v := 0) hx hb dX1_readBody_20 (by decide) ?_
    refine lv_istore (lv' := [(7, .int 0), (5, .long r15), (0, .ref h0), (1, .long v1), (3, .int v3), (4, .ref h_a2)]) hx hb dX1_readBody_21 hl (by decide) rfl (fun ls hl => ?_)
    have lp_23 : ∀ (n23 : Nat) (z_a2_words_L23 : Nat → Int64) (v7_L23 : Int32), (∃ j23 : Nat, v7_L23 = nI j23 ∧ j23 ≤ 7 ∧ 7 < j23 + n23) → ∀ (H : Heap) (locs : List Loc), va_P (dC, dI) vwCl [(h_a2, .inr (0, [.ref h_a2_words])), (h_a2_words, .inl (cJ, 7, .inr (.inl z_a2_words_L23))), (h0, .inr (1, [.ref h_words, .long z_cellKey, .int z_cellPage, .int z_stepsDone])), (h_words, .inl (cJ, 1600, .inr (.inl z_words)))] H → va_D A [(h_a2, .inr (0, [.ref h_a2_words])), (h_a2_words, .inl (cJ, 7, .inr (.inl z_a2_words_L23))), (h0, .inr (1, [.ref h_words, .long z_cellKey, .int z_cellPage, .int z_stepsDone])), (h_words, .inl (cJ, 1600, .inr (.inl z_words)))] → va_S A s.heap H locs → ∀ (ls : Array Slot), lv_has ls 8 [(0, .ref h0), (1, .long v1), (3, .int v3), (4, .ref h_a2), (5, .long r15), (7, .int v7_L23)] → FR = fn_X1_readBody_L23 n23 z_words z_a2_words_L23 v1 v3 r15 v7_L23 → W p l e (headSpec wsX1_readBody { frames := 1, cells := 0, slots := 0, locals := 27 }).room s m ([.ref h0, .long v1, .int v3, .ref h_a2] : List Value).toArray below meth c H locs 0 0 (MQ below (va_Qv (fun (u : (Nat → Int64)) => fn_X1_readBody z_words z_a2_words v1 v3 = u) (fun (u : (Nat → Int64)) t => st_W (dC, dI) (ty4 cJ cI cB cZ) [(h0, .inr (1, [.ref h_words, .long z_cellKey, .int z_cellPage, .int z_stepsDone])), (h_words, .inl (cJ, 1600, .inr (.inl z_words))), (h_a2, .inr (0, [.ref h_a2_words])), (h_a2_words, .inl (cJ, 7, .inr (.inl z_a2_words)))] s.heap.size [(h0, .inr (1, [.ref h_words, .long z_cellKey, .int z_cellPage, .int z_stepsDone])), (h_words, .inl (cJ, 1600, .inr (.inl z_words))), (h_a2, .inr (0, [.ref h_a2_words])), (h_a2_words, .inl (cJ, 7, .inr (.inl u)))] t) (va_A [(h0, .inr (1, [.ref h_words, .long z_cellKey, .int z_cellPage, .int z_stepsDone])), (h_words, .inl (cJ, 1600, .inr (.inl z_words))), (h_a2, .inr (0, [.ref h_a2_words])), (h_a2_words, .inl (cJ, 7, .inr (.inl z_a2_words)))] s.heap.size)) ([.ref h0, .long v1, .int v3, .ref h_a2] : List Value).toArray s 0 0 (va_A [(h0, .inr (1, [.ref h_words, .long z_cellKey, .int z_cellPage, .int z_stepsDone])), (h_words, .inl (cJ, 1600, .inr (.inl z_words))), (h_a2, .inr (0, [.ref h_a2_words])), (h_a2_words, .inl (cJ, 7, .inr (.inl z_a2_words)))] s.heap.size)) (F0 m 23 ls []) := by
      intro n23
      induction n23 with
      | zero =>
        intro z_a2_words_L23 v7_L23 hI
        exact absurd hI (by rintro ⟨j, -, h1, h2⟩; omega)
      | succ n23 ih_23 =>
        intro z_a2_words_L23 v7_L23 hI H locs hP hD hS ls hl hF
        rw [fn_X1_readBody_L23] at hF
        obtain ⟨j23, ev23, hj23, hn23⟩ := hI
        refine lv_iload hx hb dX1_readBody_23 (lv_at hl 5 rfl) ?_
        refine lv_bipush (v := 7) hx hb dX1_readBody_25 (by decide) ?_
        refine lv_icmp_ge (tgt := 62) hx hb dX1_readBody_27 (by decide) (fun c_27 => ?_) (fun c_27 => ?_)
        · have hF := ite_t c_27 hF
          have hP9 := hP.sub (ws' := [(h0, .inr (1, [.ref h_words, .long z_cellKey, .int z_cellPage, .int z_stepsDone])), (h_words, .inl (cJ, 1600, .inr (.inl z_words))), (h_a2, .inr (0, [.ref h_a2_words])), (h_a2_words, .inl (cJ, 7, .inr (.inl z_a2_words_L23)))]) [2, 3, 0, 1] rfl
          have hD9 := hD.sub (ws' := [(h0, .inr (1, [.ref h_words, .long z_cellKey, .int z_cellPage, .int z_stepsDone])), (h_words, .inl (cJ, 1600, .inr (.inl z_words))), (h_a2, .inr (0, [.ref h_a2_words])), (h_a2_words, .inl (cJ, 7, .inr (.inl z_a2_words_L23)))]) [2, 3, 0, 1] (by decide) rfl
          subst hAe
          exact W.vret hx hb hr (fun t ht hW => ⟨⟨(z_a2_words_L23), rfl, hFR.symm.trans hF, by rw [ht]; exact hP9, va_K.moved hW.alike hK, hD9⟩, hS.F ht⟩) hS.2.2 dX1_readBody_62
        · have hF := ite_f c_27 hF
          have hlt23 : j23 < 7 := q_j ev23 (by omega) (by omega) c_27
          refine lv_aload hx hb dX1_readBody_30 (lv_at hl 3 rfl) ?_
          refine lv_iload hx hb dX1_readBody_32 (lv_at hl 5 rfl) ?_
          refine lv_aload_n hx hb dX1_readBody_34 rfl (lv_at hl 0 rfl) ?_
          refine lv_iload_n hx hb dX1_readBody_35 rfl (lv_at hl 2 rfl) ?_
          refine lv_iload hx hb dX1_readBody_36 (lv_at hl 5 rfl) ?_
          refine lv_iconst (v := 1) hx hb dX1_readBody_38 (by decide) ?_
          refine lv_iadd hx hb dX1_readBody_39 ?_
          have hq_40_0 : vp_in v3 200 := by exact hpg2
          have hq_40_1 : vp_in (v7_L23 + 1) 8 := by rw [ev23, nI_1]; exact vp_in_nI (by omega) (by decide)
          refine st_calll (wr := [(h_a2, .inr (0, [.ref h_a2_words])), (h_a2_words, .inl (cJ, 7, .inr (.inl z_a2_words_L23)))]) (va_runV (As := [.int v3, .int (v7_L23 + 1)]) (rest := [.int v7_L23, .ref h_a2]) ⟨hx, hb, hml, hown, hts⟩ (ct_X1_wordBehindHead l dC dI cJ cI cB cZ h0 h_words z_cellKey z_cellPage z_stepsDone z_words v3 (v7_L23 + 1) hq_40_0 hq_40_1 H.size) (cwV 2 hts gX1_readBody_X1_wordBehindHead rfl rfl rfl (by decide +kernel) ⟨Nat.le_of_ble_eq_true rfl, Nat.le_of_ble_eq_true rfl⟩) (st_preV (ci := 1) (q0 := 2) hK hP hD hN [2, 3] rfl (by decide) rfl rfl rfl) rfl rfl hl.1 rfl (lv_room (Nat.le_of_ble_eq_true rfl)) dX1_readBody_40 ⟨Nat.le_of_ble_eq_true rfl, Nat.le_of_ble_eq_true rfl⟩) hP hD hS hA [2, 3] [0, 1] rfl rfl (by decide) (by decide) (fun r40 u H locs hw hP hD hS => ?_)
          have hP : va_P (dC, dI) vwCl [(h_a2, .inr (0, [.ref h_a2_words])), (h_a2_words, .inl (cJ, 7, .inr (.inl z_a2_words_L23))), (h0, .inr (1, [.ref h_words, .long z_cellKey, .int z_cellPage, .int z_stepsDone])), (h_words, .inl (cJ, 1600, .inr (.inl z_words)))] H := hP
          have hD : va_D A [(h_a2, .inr (0, [.ref h_a2_words])), (h_a2_words, .inl (cJ, 7, .inr (.inl z_a2_words_L23))), (h0, .inr (1, [.ref h_words, .long z_cellKey, .int z_cellPage, .int z_stepsDone])), (h_words, .inl (cJ, 1600, .inr (.inl z_words)))] := hD
          have hF := bnd1_eq hw hF
          refine lv_lload_n hx hb dX1_readBody_43 rfl (lv_at hl 1 rfl) ?_
          refine lv_lload hx hb dX1_readBody_44 (lv_at hl 4 rfl) ?_
          refine lv_iload hx hb dX1_readBody_46 (lv_at hl 5 rfl) ?_
          refine lv_i2l (v := (v7_L23 : Int32).toInt64) hx hb dX1_readBody_48 rfl ?_
          refine st_calll (wr := [(h_a2, .inr (0, [.ref h_a2_words])), (h_a2_words, .inl (cJ, 7, .inr (.inl z_a2_words_L23))), (h0, .inr (1, [.ref h_words, .long z_cellKey, .int z_cellPage, .int z_stepsDone])), (h_words, .inl (cJ, 1600, .inr (.inl z_words)))]) (va_runSN (As := [.long v1, .long r15, .long ((v7_L23 : Int32).toInt64)]) (rest := [.long r40, .int v7_L23, .ref h_a2]) ⟨hx, hb, hml, hown, hts⟩ (ct_X8_padOf l dC dI cJ cI cB cZ v1 r15 ((v7_L23 : Int32).toInt64) H.size) ⟨va_cnB 3 hts gX1_readBody_X8_padOf_n44 rfl rfl rfl (hN _ (List.mem_of_getElem? (i := 1) rfl)) (hts (.initialized RX8) (by decide +kernel)) (by decide +kernel) ⟨Nat.le_of_ble_eq_true rfl, Nat.le_of_ble_eq_true rfl⟩, (hts (.static yX8_padOf) (by decide +kernel)), trivial⟩ (st_preS hK hP hD hN [] rfl (by decide) rfl) rfl rfl hl.1 rfl (lv_room (Nat.le_of_ble_eq_true rfl)) dX1_readBody_49 ⟨Nat.le_of_ble_eq_true rfl, Nat.le_of_ble_eq_true rfl⟩) hP hD hS hA [] [0, 1, 2, 3] rfl rfl (by decide) (by decide) (fun r49 u H locs hw hP hD hS => ?_)
          have hP : va_P (dC, dI) vwCl [(h_a2, .inr (0, [.ref h_a2_words])), (h_a2_words, .inl (cJ, 7, .inr (.inl z_a2_words_L23))), (h0, .inr (1, [.ref h_words, .long z_cellKey, .int z_cellPage, .int z_stepsDone])), (h_words, .inl (cJ, 1600, .inr (.inl z_words)))] H := hP
          have hD : va_D A [(h_a2, .inr (0, [.ref h_a2_words])), (h_a2_words, .inl (cJ, 7, .inr (.inl z_a2_words_L23))), (h0, .inr (1, [.ref h_words, .long z_cellKey, .int z_cellPage, .int z_stepsDone])), (h_words, .inl (cJ, 1600, .inr (.inl z_words)))] := hD
          have hF := bnd1_eq hw hF
          refine lv_lxor hx hb dX1_readBody_52 ?_
          refine st_callv (wr := [(h0, .inr (1, [.ref h_words, .long z_cellKey, .int z_cellPage, .int z_stepsDone])), (h_words, .inl (cJ, 1600, .inr (.inl z_words)))]) (va_runV (As := [.int v7_L23, .long (r40 ^^^ r49)]) (rest := []) ⟨hx, hb, hml, hown, hts⟩ (ct_X0_setWord l dC dI cJ cI cB cZ h_a2 h_a2_words z_a2_words_L23 v7_L23 (r40 ^^^ r49) H.size) (cwV 2 hts gX1_readBody_X0_setWord rfl rfl rfl (by decide +kernel) ⟨Nat.le_of_ble_eq_true rfl, Nat.le_of_ble_eq_true rfl⟩) (st_preV (ci := 0) (q0 := 0) hK hP hD hN [0, 1] rfl (by decide) rfl rfl rfl) rfl rfl hl.1 rfl (lv_room (Nat.le_of_ble_eq_true rfl)) dX1_readBody_53 ⟨Nat.le_of_ble_eq_true rfl, Nat.le_of_ble_eq_true rfl⟩) hP hD hS hA [0, 1] [2, 3] rfl rfl (by decide) (by decide) (fun u H locs hw hP hD hS => ?_)
          obtain ⟨y53_0, hu9⟩ : ∃ z, z = u := ⟨_, rfl⟩
          subst hu9
          have hP : va_P (dC, dI) vwCl [(h0, .inr (1, [.ref h_words, .long z_cellKey, .int z_cellPage, .int z_stepsDone])), (h_words, .inl (cJ, 1600, .inr (.inl z_words))), (h_a2, .inr (0, [.ref h_a2_words])), (h_a2_words, .inl (cJ, 7, .inr (.inl y53_0)))] H := hP
          have hD : va_D A [(h0, .inr (1, [.ref h_words, .long z_cellKey, .int z_cellPage, .int z_stepsDone])), (h_words, .inl (cJ, 1600, .inr (.inl z_words))), (h_a2, .inr (0, [.ref h_a2_words])), (h_a2_words, .inl (cJ, 7, .inr (.inl y53_0)))] := hD
          have hF := bnd1_eq hw hF
          refine lv_iinc (v := (v7_L23 + 1)) (lv' := [(7, .int (v7_L23 + 1)), (0, .ref h0), (1, .long v1), (3, .int v3), (4, .ref h_a2), (5, .long r15)]) hx hb dX1_readBody_56 hl (k := 5) rfl rfl (by decide) rfl (fun ls hl => ?_)
          refine lv_goto (tgt := 23) hx hb dX1_readBody_59 (by decide) ?_
          exact ih_23 y53_0 (v7_L23 + 1) (by exact ⟨j23 + 1, by rw [ev23]; exact nI_1 j23, by omega, by omega⟩) _ _ (hP.sub [2, 3, 0, 1] rfl) (hD.sub [2, 3, 0, 1] (by decide) rfl) hS _ (lv_sub hl [1, 2, 3, 4, 5, 0] rfl) hF
    exact lp_23 8 z_a2_words 0 (by exact ⟨0, rfl, by omega, by omega⟩) _ _ hP hD hS _ (lv_sub hl [2, 3, 4, 5, 1, 0] rfl) hF
  · have hF := ite_t c_4 hF
    refine lv_aload hx hb dX1_readBody_7 (lv_at hl 3 rfl) ?_
    refine st_callv (wr := [(h0, .inr (1, [.ref h_words, .long z_cellKey, .int z_cellPage, .int z_stepsDone])), (h_words, .inl (cJ, 1600, .inr (.inl z_words)))]) (va_runV (As := []) (rest := []) ⟨hx, hb, hml, hown, hts⟩ (ct_X0_clear l dC dI cJ cI cB cZ h_a2 h_a2_words z_a2_words H.size) (cwV 0 hts gX1_readBody_X0_clear rfl rfl rfl (by decide +kernel) ⟨Nat.le_of_ble_eq_true rfl, Nat.le_of_ble_eq_true rfl⟩) (st_preV (ci := 0) (q0 := 2) hK hP hD hN [2, 3] rfl (by decide) rfl rfl rfl) rfl rfl hl.1 rfl (lv_room (Nat.le_of_ble_eq_true rfl)) dX1_readBody_9 ⟨Nat.le_of_ble_eq_true rfl, Nat.le_of_ble_eq_true rfl⟩) hP hD hS hA [2, 3] [0, 1] rfl rfl (by decide) (by decide) (fun u H locs hw hP hD hS => ?_)
    obtain ⟨y9_0, hu9⟩ : ∃ z, z = u := ⟨_, rfl⟩
    subst hu9
    have hP : va_P (dC, dI) vwCl [(h0, .inr (1, [.ref h_words, .long z_cellKey, .int z_cellPage, .int z_stepsDone])), (h_words, .inl (cJ, 1600, .inr (.inl z_words))), (h_a2, .inr (0, [.ref h_a2_words])), (h_a2_words, .inl (cJ, 7, .inr (.inl y9_0)))] H := hP
    have hD : va_D A [(h0, .inr (1, [.ref h_words, .long z_cellKey, .int z_cellPage, .int z_stepsDone])), (h_words, .inl (cJ, 1600, .inr (.inl z_words))), (h_a2, .inr (0, [.ref h_a2_words])), (h_a2_words, .inl (cJ, 7, .inr (.inl y9_0)))] := hD
    have hF := bnd1_eq hw hF
    have hP9 := hP.sub (ws' := [(h0, .inr (1, [.ref h_words, .long z_cellKey, .int z_cellPage, .int z_stepsDone])), (h_words, .inl (cJ, 1600, .inr (.inl z_words))), (h_a2, .inr (0, [.ref h_a2_words])), (h_a2_words, .inl (cJ, 7, .inr (.inl y9_0)))]) [0, 1, 2, 3] rfl
    have hD9 := hD.sub (ws' := [(h0, .inr (1, [.ref h_words, .long z_cellKey, .int z_cellPage, .int z_stepsDone])), (h_words, .inl (cJ, 1600, .inr (.inl z_words))), (h_a2, .inr (0, [.ref h_a2_words])), (h_a2_words, .inl (cJ, 7, .inr (.inl y9_0)))]) [0, 1, 2, 3] (by decide) rfl
    subst hAe
    exact W.vret hx hb hr (fun t ht hW => ⟨⟨(y9_0), rfl, hFR.symm.trans hF, by rw [ht]; exact hP9, va_K.moved hW.alike hK, hD9⟩, hS.F ht⟩) hS.2.2 dX1_readBody_12
set_option maxHeartbeats 4000000 in
set_option maxRecDepth 100000 in
theorem ct_X1_nextWriting (l : Launch) (dC : Nat → ClassId) (dI : Nat → Nat → Nat) (cJ cI cB cZ : ClassId) (h0 h_words : Nat) (z_cellKey : Int64) (z_cellPage : Int32) (z_stepsDone : Int32) (z_words : Nat → Int64) (sz : Nat) : Met l yX1_nextWriting wsX1_nextWriting { frames := 1, cells := 0, slots := 0, locals := 23 } (va_Pc [.ref h0] (st_B (dC, dI) (ty4 cJ cI cB cZ) [(h0, .inr (1, [.ref h_words, .long z_cellKey, .int z_cellPage, .int z_stepsDone])), (h_words, .inl (cJ, 1600, .inr (.inl z_words)))] sz)) (va_Ql (fun (r : Int64) (u : Unit) => fn_X1_nextWriting z_words = r) (fun (u : Unit) t => st_W (dC, dI) (ty4 cJ cI cB cZ) [(h0, .inr (1, [.ref h_words, .long z_cellKey, .int z_cellPage, .int z_stepsDone])), (h_words, .inl (cJ, 1600, .inr (.inl z_words)))] sz [(h0, .inr (1, [.ref h_words, .long z_cellKey, .int z_cellPage, .int z_stepsDone])), (h_words, .inl (cJ, 1600, .inr (.inl z_words)))] t) (va_A [(h0, .inr (1, [.ref h_words, .long z_cellKey, .int z_cellPage, .int z_stepsDone])), (h_words, .inl (cJ, 1600, .inr (.inl z_words)))] sz)) 0 0 (va_A [(h0, .inr (1, [.ref h_words, .long z_cellKey, .int z_cellPage, .int z_stepsDone])), (h_words, .inl (cJ, 1600, .inr (.inl z_words)))] sz) := by
  refine Met.ofW (cc := cX1_nextWriting) (maxL := 4) (ret := (some .long)) (by decide) rfl ?_
  intro p e s m args below meth c s₁ B hml hv
  obtain ⟨rfl, hsz, hP, hK, hD0, hN⟩ := hv
  have hx := B.exec
  have hb := B.bytes
  have hr := B.returns
  have hts := atoms_spec (ws := wsX1_nextWriting) B.pre
  have hown : s.vm.findClass RX1 = some m.cls := findClass_of_methodNamed B.named
  have hlocks := B.notSynchronized
  subst hsz
  obtain ⟨A, hAe⟩ : ∃ z, z = va_A [(h0, .inr (1, [.ref h_words, .long z_cellKey, .int z_cellPage, .int z_stepsDone])), (h_words, .inl (cJ, 1600, .inr (.inl z_words)))] s.heap.size := ⟨_, rfl⟩
  have hD : va_D A [(h0, .inr (1, [.ref h_words, .long z_cellKey, .int z_cellPage, .int z_stepsDone])), (h_words, .inl (cJ, 1600, .inr (.inl z_words)))] := by rw [hAe]; exact hD0.self
  have hA : ∀ q : Nat, s.heap.size ≤ q → A q := fun q h => by rw [hAe]; exact Or.inr h
  have hS : va_S A s.heap s.heap [] := va_S.rf
  have hP : va_P (dC, dI) vwCl [(h0, .inr (1, [.ref h_words, .long z_cellKey, .int z_cellPage, .int z_stepsDone])), (h_words, .inl (cJ, 1600, .inr (.inl z_words)))] s.heap := hP
  have hl := lv_entry ([.ref h0]) (n := 4) (Nat.le_of_ble_eq_true rfl)
  rw [lg_entry_eq]
  generalize (lg_sl ([.ref h0]) ++ List.replicate (4 - (lg_sl ([.ref h0])).length) Slot.unset).toArray = ls at hl ⊢
  have hl : lv_has ls 4 [(0, .ref h0)] := hl
  obtain ⟨FR, hFR⟩ : ∃ z, z = fn_X1_nextWriting z_words := ⟨_, rfl⟩
  have hF := hFR
  unfold fn_X1_nextWriting at hF
  refine lv_lconst (v := 0) hx hb dX1_nextWriting_0 (by decide) ?_
  refine lv_lstore_n (lv' := [(1, .long 0), (0, .ref h0)]) hx hb dX1_nextWriting_1 rfl hl (by decide) rfl (fun ls hl => ?_)
  refine lv_iconst (v := 0) hx hb dX1_nextWriting_2 (by decide) ?_
  refine lv_istore_n (lv' := [(3, .int 0), (1, .long 0), (0, .ref h0)]) hx hb dX1_nextWriting_3 rfl hl (by decide) rfl (fun ls hl => ?_)
  have lp_4 : ∀ (n4 : Nat) (v1_L4 : Int64) (v3_L4 : Int32), (∃ j4 : Nat, v3_L4 = nI j4 ∧ j4 ≤ 200 ∧ 200 < j4 + n4) → ∀ (H : Heap) (locs : List Loc), va_P (dC, dI) vwCl [(h0, .inr (1, [.ref h_words, .long z_cellKey, .int z_cellPage, .int z_stepsDone])), (h_words, .inl (cJ, 1600, .inr (.inl z_words)))] H → va_D A [(h0, .inr (1, [.ref h_words, .long z_cellKey, .int z_cellPage, .int z_stepsDone])), (h_words, .inl (cJ, 1600, .inr (.inl z_words)))] → va_S A s.heap H locs → ∀ (ls : Array Slot), lv_has ls 4 [(0, .ref h0), (1, .long v1_L4), (3, .int v3_L4)] → FR = fn_X1_nextWriting_L4 n4 z_words v1_L4 v3_L4 → W p l e (headSpec wsX1_nextWriting { frames := 1, cells := 0, slots := 0, locals := 23 }).room s m ([.ref h0] : List Value).toArray below meth c H locs 0 0 (MQ below (va_Ql (fun (r : Int64) (u : Unit) => fn_X1_nextWriting z_words = r) (fun (u : Unit) t => st_W (dC, dI) (ty4 cJ cI cB cZ) [(h0, .inr (1, [.ref h_words, .long z_cellKey, .int z_cellPage, .int z_stepsDone])), (h_words, .inl (cJ, 1600, .inr (.inl z_words)))] s.heap.size [(h0, .inr (1, [.ref h_words, .long z_cellKey, .int z_cellPage, .int z_stepsDone])), (h_words, .inl (cJ, 1600, .inr (.inl z_words)))] t) (va_A [(h0, .inr (1, [.ref h_words, .long z_cellKey, .int z_cellPage, .int z_stepsDone])), (h_words, .inl (cJ, 1600, .inr (.inl z_words)))] s.heap.size)) ([.ref h0] : List Value).toArray s 0 0 (va_A [(h0, .inr (1, [.ref h_words, .long z_cellKey, .int z_cellPage, .int z_stepsDone])), (h_words, .inl (cJ, 1600, .inr (.inl z_words)))] s.heap.size)) (F0 m 4 ls []) := by
    intro n4
    induction n4 with
    | zero =>
      intro v1_L4 v3_L4 hI
      exact absurd hI (by rintro ⟨j, -, h1, h2⟩; omega)
    | succ n4 ih_4 =>
      intro v1_L4 v3_L4 hI H locs hP hD hS ls hl hF
      rw [fn_X1_nextWriting_L4] at hF
      obtain ⟨j4, ev4, hj4, hn4⟩ := hI
      refine lv_iload_n hx hb dX1_nextWriting_4 rfl (lv_at hl 2 rfl) ?_
      refine lv_sipush (v := 200) hx hb dX1_nextWriting_5 (by decide) ?_
      refine lv_icmp_ge (tgt := 27) hx hb dX1_nextWriting_8 (by decide) (fun c_8 => ?_) (fun c_8 => ?_)
      · have hF := ite_t c_8 hF
        refine lv_lload_n hx hb dX1_nextWriting_27 rfl (lv_at hl 1 rfl) ?_
        refine lv_lconst (v := 1) hx hb dX1_nextWriting_28 (by decide) ?_
        refine lv_ladd hx hb dX1_nextWriting_29 ?_
        have hP9 := hP.sub (ws' := [(h0, .inr (1, [.ref h_words, .long z_cellKey, .int z_cellPage, .int z_stepsDone])), (h_words, .inl (cJ, 1600, .inr (.inl z_words)))]) [0, 1] rfl
        have hD9 := hD.sub (ws' := [(h0, .inr (1, [.ref h_words, .long z_cellKey, .int z_cellPage, .int z_stepsDone])), (h_words, .inl (cJ, 1600, .inr (.inl z_words)))]) [0, 1] (by decide) rfl
        subst hAe
        exact W.lret (v := (v1_L4 + 1)) hx hb hr (fun t ht hW => ⟨⟨(v1_L4 + 1), (), rfl, hFR.symm.trans hF, by rw [ht]; exact hP9, va_K.moved hW.alike hK, hD9⟩, hS.F ht⟩) hS.2.2 dX1_nextWriting_30
      · have hF := ite_f c_8 hF
        have hlt4 : j4 < 200 := q_j ev4 (by omega) (by omega) c_8
        refine lv_lload_n hx hb dX1_nextWriting_11 rfl (lv_at hl 1 rfl) ?_
        refine lv_aload_n hx hb dX1_nextWriting_12 rfl (lv_at hl 0 rfl) ?_
        refine lv_iload_n hx hb dX1_nextWriting_13 rfl (lv_at hl 2 rfl) ?_
        have hq_14_0 : vp_in v3_L4 200 := by rw [ev4]; exact vp_in_nI (by omega) (by decide)
        refine st_calll (wr := []) (va_runV (As := [.int v3_L4]) (rest := [.long v1_L4]) ⟨hx, hb, hml, hown, hts⟩ (ct_X1_writingOf l dC dI cJ cI cB cZ h0 h_words z_cellKey z_cellPage z_stepsDone z_words v3_L4 hq_14_0 H.size) (cwV 1 hts gX1_nextWriting_X1_writingOf rfl rfl rfl (by decide +kernel) ⟨Nat.le_of_ble_eq_true rfl, Nat.le_of_ble_eq_true rfl⟩) (st_preV (ci := 1) (q0 := 0) hK hP hD hN [0, 1] rfl (by decide) rfl rfl rfl) rfl rfl hl.1 rfl (lv_room (Nat.le_of_ble_eq_true rfl)) dX1_nextWriting_14 ⟨Nat.le_of_ble_eq_true rfl, Nat.le_of_ble_eq_true rfl⟩) hP hD hS hA [0, 1] [] rfl rfl (by decide) (by decide) (fun r14 u H locs hw hP hD hS => ?_)
        have hP : va_P (dC, dI) vwCl [(h0, .inr (1, [.ref h_words, .long z_cellKey, .int z_cellPage, .int z_stepsDone])), (h_words, .inl (cJ, 1600, .inr (.inl z_words)))] H := hP
        have hD : va_D A [(h0, .inr (1, [.ref h_words, .long z_cellKey, .int z_cellPage, .int z_stepsDone])), (h_words, .inl (cJ, 1600, .inr (.inl z_words)))] := hD
        have hF := bnd1_eq hw hF
        refine va_mmax_long hx hb (by rw [hml]; exact hl.1.symm) hown (hts (.methodLink RX1 57 Lib.MathLoose.max_long.x) (by decide +kernel)) (hts (.static Lib.MathLoose.max_long.x) (by decide +kernel)) (hts (.initialized "java/lang/Math") (by decide +kernel)) (hts (.code Lib.MathLoose.max_long.x Lib.MathLoose.max_long.code 4 (some .long)) (by decide +kernel)) (Nat.le_of_ble_eq_true rfl) (Nat.le_of_ble_eq_true rfl) (Nat.le_of_ble_eq_true rfl) (Nat.le_of_ble_eq_true rfl) dX1_nextWriting_17 ?_
        refine lv_lstore_n (lv' := [(1, .long (if r14 < v1_L4 then v1_L4 else r14)), (0, .ref h0), (3, .int v3_L4)]) hx hb dX1_nextWriting_20 rfl hl (by decide) rfl (fun ls hl => ?_)
        refine lv_iinc (v := (v3_L4 + 1)) (lv' := [(3, .int (v3_L4 + 1)), (1, .long (if r14 < v1_L4 then v1_L4 else r14)), (0, .ref h0)]) hx hb dX1_nextWriting_21 hl (k := 2) rfl rfl (by decide) rfl (fun ls hl => ?_)
        refine lv_goto (tgt := 4) hx hb dX1_nextWriting_24 (by decide) ?_
        exact ih_4 (if r14 < v1_L4 then v1_L4 else r14) (v3_L4 + 1) (by exact ⟨j4 + 1, by rw [ev4]; exact nI_1 j4, by omega, by omega⟩) _ _ hP hD hS _ (lv_sub hl [2, 1, 0] rfl) hF
  exact lp_4 201 0 0 (by exact ⟨0, rfl, by omega, by omega⟩) _ _ hP hD hS _ (lv_sub hl [2, 1, 0] rfl) hF
set_option maxHeartbeats 4000000 in
set_option maxRecDepth 100000 in
theorem ct_X1_writePart (l : Launch) (dC : Nat → ClassId) (dI : Nat → Nat → Nat) (cJ cI cB cZ : ClassId) (h0 h_words h_a2 : Nat) (z_cellKey : Int64) (z_cellPage : Int32) (z_stepsDone : Int32) (z_words : Nat → Int64) (z_a2 : Nat → Int64) (v1 : Int32) (v2 : Int32) (sz : Nat) : Met l yX1_writePart wsX1_writePart { frames := 1, cells := 0, slots := 0, locals := 26 } (va_Pc [.ref h0, .int v1, .int v2, .ref h_a2] (st_B (dC, dI) (ty4 cJ cI cB cZ) [(h0, .inr (1, [.ref h_words, .long z_cellKey, .int z_cellPage, .int z_stepsDone])), (h_words, .inl (cJ, 1600, .inr (.inl z_words))), (h_a2, .inl (cJ, 8, .inr (.inl z_a2)))] sz)) (va_Qv (fun (u : Int32 × (Nat → Int64)) => fn_X1_writePart z_stepsDone z_words z_a2 v1 v2 = (u.1, u.2)) (fun (u : Int32 × (Nat → Int64)) t => st_W (dC, dI) (ty4 cJ cI cB cZ) [(h0, .inr (1, [.ref h_words, .long z_cellKey, .int z_cellPage, .int z_stepsDone])), (h_words, .inl (cJ, 1600, .inr (.inl z_words))), (h_a2, .inl (cJ, 8, .inr (.inl z_a2)))] sz [(h0, .inr (1, [.ref h_words, .long z_cellKey, .int z_cellPage, .int u.1])), (h_words, .inl (cJ, 1600, .inr (.inl u.2))), (h_a2, .inl (cJ, 8, .inr (.inl z_a2)))] t) (va_A [(h0, .inr (1, [.ref h_words, .long z_cellKey, .int z_cellPage, .int z_stepsDone])), (h_words, .inl (cJ, 1600, .inr (.inl z_words))), (h_a2, .inl (cJ, 8, .inr (.inl z_a2)))] sz)) 0 0 (va_A [(h0, .inr (1, [.ref h_words, .long z_cellKey, .int z_cellPage, .int z_stepsDone])), (h_words, .inl (cJ, 1600, .inr (.inl z_words))), (h_a2, .inl (cJ, 8, .inr (.inl z_a2)))] sz) := by
  refine Met.ofW (cc := cX1_writePart) (maxL := 5) (ret := none) (by decide) rfl ?_
  intro p e s m args below meth c s₁ B hml hv
  obtain ⟨rfl, hsz, hP, hK, hD0, hN⟩ := hv
  have hx := B.exec
  have hb := B.bytes
  have hr := B.returns
  have hts := atoms_spec (ws := wsX1_writePart) B.pre
  have hown : s.vm.findClass RX1 = some m.cls := findClass_of_methodNamed B.named
  have hlocks := B.notSynchronized
  subst hsz
  obtain ⟨A, hAe⟩ : ∃ z, z = va_A [(h0, .inr (1, [.ref h_words, .long z_cellKey, .int z_cellPage, .int z_stepsDone])), (h_words, .inl (cJ, 1600, .inr (.inl z_words))), (h_a2, .inl (cJ, 8, .inr (.inl z_a2)))] s.heap.size := ⟨_, rfl⟩
  have hD : va_D A [(h0, .inr (1, [.ref h_words, .long z_cellKey, .int z_cellPage, .int z_stepsDone])), (h_words, .inl (cJ, 1600, .inr (.inl z_words))), (h_a2, .inl (cJ, 8, .inr (.inl z_a2)))] := by rw [hAe]; exact hD0.self
  have hA : ∀ q : Nat, s.heap.size ≤ q → A q := fun q h => by rw [hAe]; exact Or.inr h
  have hS : va_S A s.heap s.heap [] := va_S.rf
  have hP : va_P (dC, dI) vwCl [(h0, .inr (1, [.ref h_words, .long z_cellKey, .int z_cellPage, .int z_stepsDone])), (h_words, .inl (cJ, 1600, .inr (.inl z_words))), (h_a2, .inl (cJ, 8, .inr (.inl z_a2)))] s.heap := hP
  have hl := lv_entry ([.ref h0, .int v1, .int v2, .ref h_a2]) (n := 5) (Nat.le_of_ble_eq_true rfl)
  rw [lg_entry_eq]
  generalize (lg_sl ([.ref h0, .int v1, .int v2, .ref h_a2]) ++ List.replicate (5 - (lg_sl ([.ref h0, .int v1, .int v2, .ref h_a2])).length) Slot.unset).toArray = ls at hl ⊢
  have hl : lv_has ls 5 [(0, .ref h0), (1, .int v1), (2, .int v2), (3, .ref h_a2)] := hl
  obtain ⟨FR, hFR⟩ : ∃ z, z = fn_X1_writePart z_stepsDone z_words z_a2 v1 v2 := ⟨_, rfl⟩
  have hF := hFR
  unfold fn_X1_writePart at hF
  refine lv_iload_n hx hb dX1_writePart_0 rfl (lv_at hl 1 rfl) ?_
  refine st_calli (wr := [(h0, .inr (1, [.ref h_words, .long z_cellKey, .int z_cellPage, .int z_stepsDone])), (h_words, .inl (cJ, 1600, .inr (.inl z_words))), (h_a2, .inl (cJ, 8, .inr (.inl z_a2)))]) (va_runSN (As := [.int v1]) (rest := []) ⟨hx, hb, hml, hown, hts⟩ (ct_X8_isPage l dC dI cJ cI cB cZ v1 s.heap.size) ⟨va_cnB 1 hts gX1_writePart_X8_isPage_n26 rfl rfl rfl (hN _ (List.mem_of_getElem? (i := 0) rfl)) (hts (.initialized RX8) (by decide +kernel)) (by decide +kernel) ⟨Nat.le_of_ble_eq_true rfl, Nat.le_of_ble_eq_true rfl⟩, (hts (.static yX8_isPage) (by decide +kernel)), trivial⟩ (st_preS hK hP hD hN [] rfl (by decide) rfl) rfl rfl hl.1 rfl (lv_room (Nat.le_of_ble_eq_true rfl)) dX1_writePart_1 ⟨Nat.le_of_ble_eq_true rfl, Nat.le_of_ble_eq_true rfl⟩) hP hD hS hA [] [0, 1, 2] rfl rfl (by decide) (by decide) (fun r1 u H locs hw hP hD hS => ?_)
  have hP : va_P (dC, dI) vwCl [(h0, .inr (1, [.ref h_words, .long z_cellKey, .int z_cellPage, .int z_stepsDone])), (h_words, .inl (cJ, 1600, .inr (.inl z_words))), (h_a2, .inl (cJ, 8, .inr (.inl z_a2)))] H := hP
  have hD : va_D A [(h0, .inr (1, [.ref h_words, .long z_cellKey, .int z_cellPage, .int z_stepsDone])), (h_words, .inl (cJ, 1600, .inr (.inl z_words))), (h_a2, .inl (cJ, 8, .inr (.inl z_a2)))] := hD
  obtain ⟨hw, hz_r1⟩ := hw
  have hF := bnd1_eq hw hF
  have hpg : ¬ r1 = 0 → vp_in v1 200 := lm_isPage hw
  refine lv_if_eq (tgt := 27) hx hb dX1_writePart_4 (by decide) (fun c_4 => ?_) (fun c_4 => ?_)
  · have hF := ite_t c_4 hF
    have hP9 := hP.sub (ws' := [(h0, .inr (1, [.ref h_words, .long z_cellKey, .int z_cellPage, .int z_stepsDone])), (h_words, .inl (cJ, 1600, .inr (.inl z_words))), (h_a2, .inl (cJ, 8, .inr (.inl z_a2)))]) [0, 1, 2] rfl
    have hD9 := hD.sub (ws' := [(h0, .inr (1, [.ref h_words, .long z_cellKey, .int z_cellPage, .int z_stepsDone])), (h_words, .inl (cJ, 1600, .inr (.inl z_words))), (h_a2, .inl (cJ, 8, .inr (.inl z_a2)))]) [0, 1, 2] (by decide) rfl
    subst hAe
    exact W.vret hx hb hr (fun t ht hW => ⟨⟨(z_stepsDone, z_words), rfl, hFR.symm.trans hF, by rw [ht]; exact hP9, va_K.moved hW.alike hK, hD9⟩, hS.F ht⟩) hS.2.2 dX1_writePart_27
  · have hF := ite_f c_4 hF
    refine lv_iload_n hx hb dX1_writePart_7 rfl (lv_at hl 2 rfl) ?_
    refine lv_if_lt (tgt := 27) hx hb dX1_writePart_8 (by decide) (fun c_8 => ?_) (fun c_8 => ?_)
    · have hF := ite_t c_8 hF
      have hP9 := hP.sub (ws' := [(h0, .inr (1, [.ref h_words, .long z_cellKey, .int z_cellPage, .int z_stepsDone])), (h_words, .inl (cJ, 1600, .inr (.inl z_words))), (h_a2, .inl (cJ, 8, .inr (.inl z_a2)))]) [0, 1, 2] rfl
      have hD9 := hD.sub (ws' := [(h0, .inr (1, [.ref h_words, .long z_cellKey, .int z_cellPage, .int z_stepsDone])), (h_words, .inl (cJ, 1600, .inr (.inl z_words))), (h_a2, .inl (cJ, 8, .inr (.inl z_a2)))]) [0, 1, 2] (by decide) rfl
      subst hAe
      exact W.vret hx hb hr (fun t ht hW => ⟨⟨(z_stepsDone, z_words), rfl, hFR.symm.trans hF, by rw [ht]; exact hP9, va_K.moved hW.alike hK, hD9⟩, hS.F ht⟩) hS.2.2 dX1_writePart_27
    · have hF := ite_f c_8 hF
      refine lv_iload_n hx hb dX1_writePart_11 rfl (lv_at hl 2 rfl) ?_
      refine lv_iconst (v := 4) hx hb dX1_writePart_12 (by decide) ?_
      refine lv_icmp_ge (tgt := 27) hx hb dX1_writePart_13 (by decide) (fun c_13 => ?_) (fun c_13 => ?_)
      · have hF := ite_t c_13 hF
        have hP9 := hP.sub (ws' := [(h0, .inr (1, [.ref h_words, .long z_cellKey, .int z_cellPage, .int z_stepsDone])), (h_words, .inl (cJ, 1600, .inr (.inl z_words))), (h_a2, .inl (cJ, 8, .inr (.inl z_a2)))]) [0, 1, 2] rfl
        have hD9 := hD.sub (ws' := [(h0, .inr (1, [.ref h_words, .long z_cellKey, .int z_cellPage, .int z_stepsDone])), (h_words, .inl (cJ, 1600, .inr (.inl z_words))), (h_a2, .inl (cJ, 8, .inr (.inl z_a2)))]) [0, 1, 2] (by decide) rfl
        subst hAe
        exact W.vret hx hb hr (fun t ht hW => ⟨⟨(z_stepsDone, z_words), rfl, hFR.symm.trans hF, by rw [ht]; exact hP9, va_K.moved hW.alike hK, hD9⟩, hS.F ht⟩) hS.2.2 dX1_writePart_27
      · have hF := ite_f c_13 hF
        refine lv_aload_n hx hb dX1_writePart_16 rfl (lv_at hl 3 rfl) ?_
        refine lv_ifnull hx hb dX1_writePart_17 ?_
        refine lv_aload_n hx hb dX1_writePart_20 rfl (lv_at hl 3 rfl) ?_
        refine va_alen (v := 8) hx hb hK hP 2 0 rfl rfl rfl dX1_writePart_21 ?_
        refine lv_bipush (v := 8) hx hb dX1_writePart_22 (by decide) ?_
        refine lv_icmp_ge (tgt := 28) hx hb dX1_writePart_24 (by decide) (fun c_24 => ?_) (fun c_24 => ?_)
        · skip
          refine lv_iload_n hx hb dX1_writePart_28 rfl (lv_at hl 2 rfl) ?_
          refine lv_iconst (v := 2) hx hb dX1_writePart_29 (by decide) ?_
          refine lv_imul hx hb dX1_writePart_30 ?_
          refine lv_istore (lv' := [(4, .int (v2 * 2)), (0, .ref h0), (1, .int v1), (2, .int v2), (3, .ref h_a2)]) hx hb dX1_writePart_31 hl (by decide) rfl (fun ls hl => ?_)
          refine lv_aload_n hx hb dX1_writePart_33 rfl (lv_at hl 4 rfl) ?_
          refine lv_iload hx hb dX1_writePart_34 (lv_at hl 0 rfl) ?_
          refine lv_aload_n hx hb dX1_writePart_36 rfl (lv_at hl 1 rfl) ?_
          refine va_get (D := (dC, dI)) (ci := 1) (v := .ref h_words) (C := RX1) (T := TX1) (N := 4) hx hb hts (by decide +kernel) hown hK hP 0 rfl rfl 0 (by decide) (hts (.fieldLink RX1 9 "ShredStore$Disk" "words" "[J") (by decide +kernel)) (fun _ h9 => h9) rfl dX1_writePart_37 ?_
          refine lv_iload_n hx hb dX1_writePart_40 rfl (lv_at hl 2 rfl) ?_
          refine lv_bipush (v := 8) hx hb dX1_writePart_41 (by decide) ?_
          refine lv_imul hx hb dX1_writePart_43 ?_
          refine lv_iload hx hb dX1_writePart_44 (lv_at hl 0 rfl) ?_
          refine lv_iadd hx hb dX1_writePart_46 ?_
          refine lv_iconst (v := 2) hx hb dX1_writePart_47 (by decide) ?_
          have h1_48 : ¬ (v2 * 2) < (0 : Int32) := by exact q_w1 c_8 c_13
          have h2_48 : ¬ ((v1 * 8) + (v2 * 2)) < (0 : Int32) := by exact q_w2 (hpg c_4) c_8 c_13
          have h3_48 : ¬ 2 < (0 : Int32) := by decide
          have h4_48 : ((v2 * 2) : Int32).toNatClampNeg + (2 : Int32).toNatClampNeg ≤ 8 := by exact q_w4 c_8 c_13
          have h5_48 : (((v1 * 8) + (v2 * 2)) : Int32).toNatClampNeg + (2 : Int32).toNatClampNeg ≤ 1600 := by exact q_w5 (hpg c_4) c_8 c_13
          refine va_copyl hx hb (by rw [hml]; exact hl.1.symm) hown (hts (.methodLink RX1 63 arraycopyName) (by decide +kernel)) (hts (.native arraycopyName) (by decide +kernel)) (hts (.static arraycopyName) (by decide +kernel)) (hts (.initialized "java/lang/System") (by decide +kernel)) hK hP hD hS 2 1 0 0 rfl rfl rfl rfl rfl h1_48 h2_48 h3_48 h4_48 h5_48 (fun _ _ => rfl) (Nat.le_of_ble_eq_true rfl) (Nat.le_of_ble_eq_true rfl) dX1_writePart_48 (fun H locs hP hD hS => ?_)
          have hP : va_P (dC, dI) vwCl [(h0, .inr (1, [.ref h_words, .long z_cellKey, .int z_cellPage, .int z_stepsDone])), (h_words, .inl (cJ, 1600, .inr (.inl (va_cpy z_a2 z_words ((v2 * 2) : Int32).toNatClampNeg (((v1 * 8) + (v2 * 2)) : Int32).toNatClampNeg (2 : Int32).toNatClampNeg)))), (h_a2, .inl (cJ, 8, .inr (.inl z_a2)))] H := hP
          have hD : va_D A [(h0, .inr (1, [.ref h_words, .long z_cellKey, .int z_cellPage, .int z_stepsDone])), (h_words, .inl (cJ, 1600, .inr (.inl (va_cpy z_a2 z_words ((v2 * 2) : Int32).toNatClampNeg (((v1 * 8) + (v2 * 2)) : Int32).toNatClampNeg (2 : Int32).toNatClampNeg)))), (h_a2, .inl (cJ, 8, .inr (.inl z_a2)))] := hD
          refine lv_aload_n hx hb dX1_writePart_51 rfl (lv_at hl 1 rfl) ?_
          refine lv_dup hx hb dX1_writePart_52 rfl ?_
          refine va_get (D := (dC, dI)) (ci := 1) (v := .int z_stepsDone) (C := RX1) (T := TX1) (N := 4) hx hb hts (by decide +kernel) hown hK hP 0 rfl rfl 3 (by decide) (hts (.fieldLink RX1 23 "ShredStore$Disk" "stepsDone" "I") (by decide +kernel)) (fun _ h9 => h9) rfl dX1_writePart_53 ?_
          refine lv_iconst (v := 1) hx hb dX1_writePart_56 (by decide) ?_
          refine lv_iadd hx hb dX1_writePart_57 ?_
          refine va_put (D := (dC, dI)) (ci := 1) (v := .int (z_stepsDone + 1)) (ty := .int) (C := RX1) (T := TX1) (N := 4) hx hb hts (by decide +kernel) tyX1 tyX1_ok nmX1 hown hK hP hD hS 0 rfl rfl 3 (by decide) (hts (.fieldLink RX1 23 "ShredStore$Disk" "stepsDone" "I") (by decide +kernel)) (fun _ h9 => h9) rfl (by decide +kernel) rfl rfl (Nat.le_of_ble_eq_true rfl) dX1_writePart_58 (fun H locs hP hD hS => ?_)
          have hP : va_P (dC, dI) vwCl [(h0, .inr (1, [.ref h_words, .long z_cellKey, .int z_cellPage, .int (z_stepsDone + 1)])), (h_words, .inl (cJ, 1600, .inr (.inl (va_cpy z_a2 z_words ((v2 * 2) : Int32).toNatClampNeg (((v1 * 8) + (v2 * 2)) : Int32).toNatClampNeg (2 : Int32).toNatClampNeg)))), (h_a2, .inl (cJ, 8, .inr (.inl z_a2)))] H := hP
          have hD : va_D A [(h0, .inr (1, [.ref h_words, .long z_cellKey, .int z_cellPage, .int (z_stepsDone + 1)])), (h_words, .inl (cJ, 1600, .inr (.inl (va_cpy z_a2 z_words ((v2 * 2) : Int32).toNatClampNeg (((v1 * 8) + (v2 * 2)) : Int32).toNatClampNeg (2 : Int32).toNatClampNeg)))), (h_a2, .inl (cJ, 8, .inr (.inl z_a2)))] := hD
          have hP9 := hP.sub (ws' := [(h0, .inr (1, [.ref h_words, .long z_cellKey, .int z_cellPage, .int (z_stepsDone + 1)])), (h_words, .inl (cJ, 1600, .inr (.inl (va_cpy z_a2 z_words ((v2 * 2) : Int32).toNatClampNeg (((v1 * 8) + (v2 * 2)) : Int32).toNatClampNeg (2 : Int32).toNatClampNeg)))), (h_a2, .inl (cJ, 8, .inr (.inl z_a2)))]) [0, 1, 2] rfl
          have hD9 := hD.sub (ws' := [(h0, .inr (1, [.ref h_words, .long z_cellKey, .int z_cellPage, .int (z_stepsDone + 1)])), (h_words, .inl (cJ, 1600, .inr (.inl (va_cpy z_a2 z_words ((v2 * 2) : Int32).toNatClampNeg (((v1 * 8) + (v2 * 2)) : Int32).toNatClampNeg (2 : Int32).toNatClampNeg)))), (h_a2, .inl (cJ, 8, .inr (.inl z_a2)))]) [0, 1, 2] (by decide) rfl
          subst hAe
          exact W.vret hx hb hr (fun t ht hW => ⟨⟨((z_stepsDone + 1), (va_cpy z_a2 z_words ((v2 * 2) : Int32).toNatClampNeg (((v1 * 8) + (v2 * 2)) : Int32).toNatClampNeg (2 : Int32).toNatClampNeg)), rfl, hFR.symm.trans hF, by rw [ht]; exact hP9, va_K.moved hW.alike hK, hD9⟩, hS.F ht⟩) hS.2.2 dX1_writePart_61
        · exact absurd c_24 (by decide)
set_option maxHeartbeats 4000000 in
set_option maxRecDepth 100000 in
theorem ct_X1_writeCell (l : Launch) (dC : Nat → ClassId) (dI : Nat → Nat → Nat) (cJ cI cB cZ : ClassId) (h0 x_words : Nat) (z_cellKey : Int64) (z_cellPage : Int32) (z_stepsDone : Int32) (v1 : Int64) (v3 : Int32) (sz : Nat) : Met l yX1_writeCell wsX1_writeCell { frames := 0, cells := 0, slots := 0, locals := 0 } (va_Pc [.ref h0, .long v1, .int v3] (st_B (dC, dI) (ty4 cJ cI cB cZ) [(h0, .inr (1, [.ref x_words, .long z_cellKey, .int z_cellPage, .int z_stepsDone]))] sz)) (va_Qv (fun (u : Int64 × Int32 × Int32) => fn_X1_writeCell z_cellKey z_cellPage z_stepsDone v1 v3 = (u.1, u.2.1, u.2.2)) (fun (u : Int64 × Int32 × Int32) t => st_W (dC, dI) (ty4 cJ cI cB cZ) [(h0, .inr (1, [.ref x_words, .long z_cellKey, .int z_cellPage, .int z_stepsDone]))] sz [(h0, .inr (1, [.ref x_words, .long u.1, .int u.2.1, .int u.2.2]))] t) (va_A [(h0, .inr (1, [.ref x_words, .long z_cellKey, .int z_cellPage, .int z_stepsDone]))] sz)) 0 0 (va_A [(h0, .inr (1, [.ref x_words, .long z_cellKey, .int z_cellPage, .int z_stepsDone]))] sz) := by
  refine Met.ofW (cc := cX1_writeCell) (maxL := 4) (ret := none) (by decide) rfl ?_
  intro p e s m args below meth c s₁ B hml hv
  obtain ⟨rfl, hsz, hP, hK, hD0, hN⟩ := hv
  have hx := B.exec
  have hb := B.bytes
  have hr := B.returns
  have hts := atoms_spec (ws := wsX1_writeCell) B.pre
  have hown : s.vm.findClass RX1 = some m.cls := findClass_of_methodNamed B.named
  have hlocks := B.notSynchronized
  subst hsz
  obtain ⟨A, hAe⟩ : ∃ z, z = va_A [(h0, .inr (1, [.ref x_words, .long z_cellKey, .int z_cellPage, .int z_stepsDone]))] s.heap.size := ⟨_, rfl⟩
  have hD : va_D A [(h0, .inr (1, [.ref x_words, .long z_cellKey, .int z_cellPage, .int z_stepsDone]))] := by rw [hAe]; exact hD0.self
  have hA : ∀ q : Nat, s.heap.size ≤ q → A q := fun q h => by rw [hAe]; exact Or.inr h
  have hS : va_S A s.heap s.heap [] := va_S.rf
  have hP : va_P (dC, dI) vwCl [(h0, .inr (1, [.ref x_words, .long z_cellKey, .int z_cellPage, .int z_stepsDone]))] s.heap := hP
  have hl := lv_entry ([.ref h0, .long v1, .int v3]) (n := 4) (Nat.le_of_ble_eq_true rfl)
  rw [lg_entry_eq]
  generalize (lg_sl ([.ref h0, .long v1, .int v3]) ++ List.replicate (4 - (lg_sl ([.ref h0, .long v1, .int v3])).length) Slot.unset).toArray = ls at hl ⊢
  have hl : lv_has ls 4 [(0, .ref h0), (1, .long v1), (3, .int v3)] := hl
  obtain ⟨FR, hFR⟩ : ∃ z, z = fn_X1_writeCell z_cellKey z_cellPage z_stepsDone v1 v3 := ⟨_, rfl⟩
  have hF := hFR
  unfold fn_X1_writeCell at hF
  refine lv_aload_n hx hb dX1_writeCell_0 rfl (lv_at hl 0 rfl) ?_
  refine lv_lload_n hx hb dX1_writeCell_1 rfl (lv_at hl 1 rfl) ?_
  refine va_put (D := (dC, dI)) (ci := 1) (v := .long v1) (ty := .long) (C := RX1) (T := TX1) (N := 4) hx hb hts (by decide +kernel) tyX1 tyX1_ok nmX1 hown hK hP hD hS 0 rfl rfl 1 (by decide) (hts (.fieldLink RX1 15 "ShredStore$Disk" "cellKey" "J") (by decide +kernel)) (fun _ h9 => h9) rfl (by decide +kernel) rfl rfl (Nat.le_of_ble_eq_true rfl) dX1_writeCell_2 (fun H locs hP hD hS => ?_)
  have hP : va_P (dC, dI) vwCl [(h0, .inr (1, [.ref x_words, .long v1, .int z_cellPage, .int z_stepsDone]))] H := hP
  have hD : va_D A [(h0, .inr (1, [.ref x_words, .long v1, .int z_cellPage, .int z_stepsDone]))] := hD
  refine lv_aload_n hx hb dX1_writeCell_5 rfl (lv_at hl 0 rfl) ?_
  refine lv_iload_n hx hb dX1_writeCell_6 rfl (lv_at hl 2 rfl) ?_
  refine va_put (D := (dC, dI)) (ci := 1) (v := .int v3) (ty := .int) (C := RX1) (T := TX1) (N := 4) hx hb hts (by decide +kernel) tyX1 tyX1_ok nmX1 hown hK hP hD hS 0 rfl rfl 2 (by decide) (hts (.fieldLink RX1 19 "ShredStore$Disk" "cellPage" "I") (by decide +kernel)) (fun _ h9 => h9) rfl (by decide +kernel) rfl rfl (Nat.le_of_ble_eq_true rfl) dX1_writeCell_7 (fun H locs hP hD hS => ?_)
  have hP : va_P (dC, dI) vwCl [(h0, .inr (1, [.ref x_words, .long v1, .int v3, .int z_stepsDone]))] H := hP
  have hD : va_D A [(h0, .inr (1, [.ref x_words, .long v1, .int v3, .int z_stepsDone]))] := hD
  refine lv_aload_n hx hb dX1_writeCell_10 rfl (lv_at hl 0 rfl) ?_
  refine lv_dup hx hb dX1_writeCell_11 rfl ?_
  refine va_get (D := (dC, dI)) (ci := 1) (v := .int z_stepsDone) (C := RX1) (T := TX1) (N := 4) hx hb hts (by decide +kernel) hown hK hP 0 rfl rfl 3 (by decide) (hts (.fieldLink RX1 23 "ShredStore$Disk" "stepsDone" "I") (by decide +kernel)) (fun _ h9 => h9) rfl dX1_writeCell_12 ?_
  refine lv_iconst (v := 1) hx hb dX1_writeCell_15 (by decide) ?_
  refine lv_iadd hx hb dX1_writeCell_16 ?_
  refine va_put (D := (dC, dI)) (ci := 1) (v := .int (z_stepsDone + 1)) (ty := .int) (C := RX1) (T := TX1) (N := 4) hx hb hts (by decide +kernel) tyX1 tyX1_ok nmX1 hown hK hP hD hS 0 rfl rfl 3 (by decide) (hts (.fieldLink RX1 23 "ShredStore$Disk" "stepsDone" "I") (by decide +kernel)) (fun _ h9 => h9) rfl (by decide +kernel) rfl rfl (Nat.le_of_ble_eq_true rfl) dX1_writeCell_17 (fun H locs hP hD hS => ?_)
  have hP : va_P (dC, dI) vwCl [(h0, .inr (1, [.ref x_words, .long v1, .int v3, .int (z_stepsDone + 1)]))] H := hP
  have hD : va_D A [(h0, .inr (1, [.ref x_words, .long v1, .int v3, .int (z_stepsDone + 1)]))] := hD
  have hP9 := hP.sub (ws' := [(h0, .inr (1, [.ref x_words, .long v1, .int v3, .int (z_stepsDone + 1)]))]) [0] rfl
  have hD9 := hD.sub (ws' := [(h0, .inr (1, [.ref x_words, .long v1, .int v3, .int (z_stepsDone + 1)]))]) [0] (by decide) rfl
  subst hAe
  exact W.vret hx hb hr (fun t ht hW => ⟨⟨(v1, v3, (z_stepsDone + 1)), rfl, hFR.symm.trans hF, by rw [ht]; exact hP9, va_K.moved hW.alike hK, hD9⟩, hS.F ht⟩) hS.2.2 dX1_writeCell_20
set_option maxHeartbeats 4000000 in
set_option maxRecDepth 100000 in
theorem ct_X1_byteAt (l : Launch) (dC : Nat → ClassId) (dI : Nat → Nat → Nat) (cJ cI cB cZ : ClassId) (h0 h_words : Nat) (z_cellKey : Int64) (z_cellPage : Int32) (z_stepsDone : Int32) (z_words : Nat → Int64) (v1 : Int32) (sz : Nat) : Met l yX1_byteAt wsX1_byteAt { frames := 0, cells := 0, slots := 0, locals := 0 } (va_Pc [.ref h0, .int v1] (st_B (dC, dI) (ty4 cJ cI cB cZ) [(h0, .inr (1, [.ref h_words, .long z_cellKey, .int z_cellPage, .int z_stepsDone])), (h_words, .inl (cJ, 1600, .inr (.inl z_words)))] sz)) (va_Qi (fun (r : Int32) (u : Unit) => fn_X1_byteAt z_words v1 = r) (fun (u : Unit) t => st_W (dC, dI) (ty4 cJ cI cB cZ) [(h0, .inr (1, [.ref h_words, .long z_cellKey, .int z_cellPage, .int z_stepsDone])), (h_words, .inl (cJ, 1600, .inr (.inl z_words)))] sz [(h0, .inr (1, [.ref h_words, .long z_cellKey, .int z_cellPage, .int z_stepsDone])), (h_words, .inl (cJ, 1600, .inr (.inl z_words)))] t) (va_A [(h0, .inr (1, [.ref h_words, .long z_cellKey, .int z_cellPage, .int z_stepsDone])), (h_words, .inl (cJ, 1600, .inr (.inl z_words)))] sz)) 0 0 (va_A [(h0, .inr (1, [.ref h_words, .long z_cellKey, .int z_cellPage, .int z_stepsDone])), (h_words, .inl (cJ, 1600, .inr (.inl z_words)))] sz) := by
  refine Met.ofW (cc := cX1_byteAt) (maxL := 2) (ret := (some .int)) (by decide) rfl ?_
  intro p e s m args below meth c s₁ B hml hv
  obtain ⟨rfl, hsz, hP, hK, hD0, hN⟩ := hv
  have hx := B.exec
  have hb := B.bytes
  have hr := B.returns
  have hts := atoms_spec (ws := wsX1_byteAt) B.pre
  have hown : s.vm.findClass RX1 = some m.cls := findClass_of_methodNamed B.named
  have hlocks := B.notSynchronized
  subst hsz
  obtain ⟨A, hAe⟩ : ∃ z, z = va_A [(h0, .inr (1, [.ref h_words, .long z_cellKey, .int z_cellPage, .int z_stepsDone])), (h_words, .inl (cJ, 1600, .inr (.inl z_words)))] s.heap.size := ⟨_, rfl⟩
  have hD : va_D A [(h0, .inr (1, [.ref h_words, .long z_cellKey, .int z_cellPage, .int z_stepsDone])), (h_words, .inl (cJ, 1600, .inr (.inl z_words)))] := by rw [hAe]; exact hD0.self
  have hA : ∀ q : Nat, s.heap.size ≤ q → A q := fun q h => by rw [hAe]; exact Or.inr h
  have hS : va_S A s.heap s.heap [] := va_S.rf
  have hP : va_P (dC, dI) vwCl [(h0, .inr (1, [.ref h_words, .long z_cellKey, .int z_cellPage, .int z_stepsDone])), (h_words, .inl (cJ, 1600, .inr (.inl z_words)))] s.heap := hP
  have hl := lv_entry ([.ref h0, .int v1]) (n := 2) (Nat.le_of_ble_eq_true rfl)
  rw [lg_entry_eq]
  generalize (lg_sl ([.ref h0, .int v1]) ++ List.replicate (2 - (lg_sl ([.ref h0, .int v1])).length) Slot.unset).toArray = ls at hl ⊢
  have hl : lv_has ls 2 [(0, .ref h0), (1, .int v1)] := hl
  obtain ⟨FR, hFR⟩ : ∃ z, z = fn_X1_byteAt z_words v1 := ⟨_, rfl⟩
  have hF := hFR
  unfold fn_X1_byteAt at hF
  refine lv_iload_n hx hb dX1_byteAt_0 rfl (lv_at hl 1 rfl) ?_
  refine lv_if_lt (tgt := 11) hx hb dX1_byteAt_1 (by decide) (fun c_1 => ?_) (fun c_1 => ?_)
  · have hF := ite_t c_1 hF
    refine lv_iconst (v := (-1)) hx hb dX1_byteAt_11 (by decide) ?_
    refine lv_goto (tgt := 36) hx hb dX1_byteAt_12 (by decide) ?_
    have hP9 := hP.sub (ws' := [(h0, .inr (1, [.ref h_words, .long z_cellKey, .int z_cellPage, .int z_stepsDone])), (h_words, .inl (cJ, 1600, .inr (.inl z_words)))]) [0, 1] rfl
    have hD9 := hD.sub (ws' := [(h0, .inr (1, [.ref h_words, .long z_cellKey, .int z_cellPage, .int z_stepsDone])), (h_words, .inl (cJ, 1600, .inr (.inl z_words)))]) [0, 1] (by decide) rfl
    subst hAe
    exact W.iret (v := (-1)) hx hb hr (fun t ht hW => ⟨⟨(-1), (), rfl, hFR.symm.trans hF, by rw [ht]; exact hP9, va_K.moved hW.alike hK, hD9⟩, hS.F ht⟩) hS.2.2 dX1_byteAt_36
  · have hF := ite_f c_1 hF
    refine lv_iload_n hx hb dX1_byteAt_4 rfl (lv_at hl 1 rfl) ?_
    refine lv_sipush (v := 12800) hx hb dX1_byteAt_5 (by decide) ?_
    refine lv_icmp_lt (tgt := 15) hx hb dX1_byteAt_8 (by decide) (fun c_8 => ?_) (fun c_8 => ?_)
    · have hF := ite_t c_8 hF
      refine lv_aload_n hx hb dX1_byteAt_15 rfl (lv_at hl 0 rfl) ?_
      refine va_get (D := (dC, dI)) (ci := 1) (v := .ref h_words) (C := RX1) (T := TX1) (N := 4) hx hb hts (by decide +kernel) hown hK hP 0 rfl rfl 0 (by decide) (hts (.fieldLink RX1 9 "ShredStore$Disk" "words" "[J") (by decide +kernel)) (fun _ h9 => h9) rfl dX1_byteAt_16 ?_
      refine lv_iload_n hx hb dX1_byteAt_19 rfl (lv_at hl 1 rfl) ?_
      refine lv_bipush (v := 8) hx hb dX1_byteAt_20 (by decide) ?_
      refine lv_idiv hx hb dX1_byteAt_22 (by decide) ?_
      have hr_23 : vp_in (v1 / 8) 1600 := by exact q_d8 (q_i1 c_1 c_8 (n := 12800) (by decide)) (by decide)
      refine va_lald hx hb hK hP 1 0 rfl rfl hr_23 dX1_byteAt_23 ?_
      refine lv_bipush (v := 8) hx hb dX1_byteAt_24 (by decide) ?_
      refine lv_iload_n hx hb dX1_byteAt_26 rfl (lv_at hl 1 rfl) ?_
      refine lv_bipush (v := 8) hx hb dX1_byteAt_27 (by decide) ?_
      refine lv_irem hx hb dX1_byteAt_29 (by decide) ?_
      refine lv_imul hx hb dX1_byteAt_30 ?_
      refine lv_lshl (v := (ju_lshl (z_words ((v1 / 8) : Int32).toNatClampNeg) (8 * (v1 - v1 / 8 * 8)))) hx hb dX1_byteAt_31 rfl ?_
      refine lv_bipush (v := 56) hx hb dX1_byteAt_32 (by decide) ?_
      refine lv_lushr (v := (ju_lushr (ju_lshl (z_words ((v1 / 8) : Int32).toNatClampNeg) (8 * (v1 - v1 / 8 * 8))) 56)) hx hb dX1_byteAt_34 rfl ?_
      refine lv_l2i (v := ((ju_lushr (ju_lshl (z_words ((v1 / 8) : Int32).toNatClampNeg) (8 * (v1 - v1 / 8 * 8))) 56) : Int64).toInt32) hx hb dX1_byteAt_35 rfl ?_
      have hP9 := hP.sub (ws' := [(h0, .inr (1, [.ref h_words, .long z_cellKey, .int z_cellPage, .int z_stepsDone])), (h_words, .inl (cJ, 1600, .inr (.inl z_words)))]) [0, 1] rfl
      have hD9 := hD.sub (ws' := [(h0, .inr (1, [.ref h_words, .long z_cellKey, .int z_cellPage, .int z_stepsDone])), (h_words, .inl (cJ, 1600, .inr (.inl z_words)))]) [0, 1] (by decide) rfl
      subst hAe
      exact W.iret (v := ((ju_lushr (ju_lshl (z_words ((v1 / 8) : Int32).toNatClampNeg) (8 * (v1 - v1 / 8 * 8))) 56) : Int64).toInt32) hx hb hr (fun t ht hW => ⟨⟨((ju_lushr (ju_lshl (z_words ((v1 / 8) : Int32).toNatClampNeg) (8 * (v1 - v1 / 8 * 8))) 56) : Int64).toInt32, (), rfl, hFR.symm.trans hF, by rw [ht]; exact hP9, va_K.moved hW.alike hK, hD9⟩, hS.F ht⟩) hS.2.2 dX1_byteAt_36
    · have hF := ite_f c_8 hF
      refine lv_iconst (v := (-1)) hx hb dX1_byteAt_11 (by decide) ?_
      refine lv_goto (tgt := 36) hx hb dX1_byteAt_12 (by decide) ?_
      have hP9 := hP.sub (ws' := [(h0, .inr (1, [.ref h_words, .long z_cellKey, .int z_cellPage, .int z_stepsDone])), (h_words, .inl (cJ, 1600, .inr (.inl z_words)))]) [0, 1] rfl
      have hD9 := hD.sub (ws' := [(h0, .inr (1, [.ref h_words, .long z_cellKey, .int z_cellPage, .int z_stepsDone])), (h_words, .inl (cJ, 1600, .inr (.inl z_words)))]) [0, 1] (by decide) rfl
      subst hAe
      exact W.iret (v := (-1)) hx hb hr (fun t ht hW => ⟨⟨(-1), (), rfl, hFR.symm.trans hF, by rw [ht]; exact hP9, va_K.moved hW.alike hK, hD9⟩, hS.F ht⟩) hS.2.2 dX1_byteAt_36
