set_option maxHeartbeats 4000000 in
set_option maxRecDepth 100000 in
theorem ct_X3_isOn (l : Launch) (dC : Nat → ClassId) (dI : Nat → Nat → Nat) (cJ cI cB cZ : ClassId) (h0 : Nat) (z_on : Int32) (z_stepsLeft : Int32) (hp0 : okb z_on) (sz : Nat) : Met l yX3_isOn wsX3_isOn { frames := 0, cells := 0, slots := 0, locals := 0 } (va_Pc [.ref h0] (st_B (dC, dI) (ty4 cJ cI cB cZ) [(h0, .inr (3, [.int z_on, .int z_stepsLeft]))] sz)) (va_Qi (fun (r : Int32) (u : Unit) => fn_X3_isOn z_on = r ∧ narrow .boolean (.int r) = .int r) (fun (u : Unit) t => st_W (dC, dI) (ty4 cJ cI cB cZ) [(h0, .inr (3, [.int z_on, .int z_stepsLeft]))] sz [(h0, .inr (3, [.int z_on, .int z_stepsLeft]))] t) (va_A [(h0, .inr (3, [.int z_on, .int z_stepsLeft]))] sz)) 0 0 (va_A [(h0, .inr (3, [.int z_on, .int z_stepsLeft]))] sz) := by
  refine Met.ofW (cc := cX3_isOn) (maxL := 1) (ret := (some .boolean)) (by decide) rfl ?_
  intro p e s m args below meth c s₁ B hml hv
  obtain ⟨rfl, hsz, hP, hK, hD0, hN⟩ := hv
  have hx := B.exec
  have hb := B.bytes
  have hr := B.returns
  have hts := atoms_spec (ws := wsX3_isOn) B.pre
  have hown : s.vm.findClass RX3 = some m.cls := findClass_of_methodNamed B.named
  have hlocks := B.notSynchronized
  subst hsz
  obtain ⟨A, hAe⟩ : ∃ z, z = va_A [(h0, .inr (3, [.int z_on, .int z_stepsLeft]))] s.heap.size := ⟨_, rfl⟩
  have hD : va_D A [(h0, .inr (3, [.int z_on, .int z_stepsLeft]))] := by rw [hAe]; exact hD0.self
  have hA : ∀ q : Nat, s.heap.size ≤ q → A q := fun q h => by rw [hAe]; exact Or.inr h
  have hS : va_S A s.heap s.heap [] := va_S.rf
  have hP : va_P (dC, dI) vwCl [(h0, .inr (3, [.int z_on, .int z_stepsLeft]))] s.heap := hP
  have hl := lv_entry ([.ref h0]) (n := 1) (Nat.le_of_ble_eq_true rfl)
  rw [lg_entry_eq]
  generalize (lg_sl ([.ref h0]) ++ List.replicate (1 - (lg_sl ([.ref h0])).length) Slot.unset).toArray = ls at hl ⊢
  have hl : lv_has ls 1 [(0, .ref h0)] := hl
  obtain ⟨FR, hFR⟩ : ∃ z, z = fn_X3_isOn z_on := ⟨_, rfl⟩
  have hF := hFR
  unfold fn_X3_isOn at hF
  refine lv_aload_n hx hb dX3_isOn_0 rfl (lv_at hl 0 rfl) ?_
  refine va_get (D := (dC, dI)) (ci := 3) (v := .int z_on) (C := RX3) (T := TX3) (N := 2) hx hb hts (by decide +kernel) hown hK hP 0 rfl rfl 0 (by decide) (hts (.fieldLink RX3 9 "ShredStore$Power" "on" "Z") (by decide +kernel)) (fun _ h9 => h9) rfl dX3_isOn_1 ?_
  have hP9 := hP.sub (ws' := [(h0, .inr (3, [.int z_on, .int z_stepsLeft]))]) [0] rfl
  have hD9 := hD.sub (ws' := [(h0, .inr (3, [.int z_on, .int z_stepsLeft]))]) [0] (by decide) rfl
  subst hAe
  exact W.zret (v := z_on) (ty := .boolean) hx hb hr (by first | rfl | assumption) (fun t ht hW => ⟨⟨z_on, (), rfl, ⟨hFR.symm.trans hF, (by first | rfl | assumption)⟩, by rw [ht]; exact hP9, va_K.moved hW.alike hK, hD9⟩, hS.F ht⟩) hS.2.2 dX3_isOn_4
set_option maxHeartbeats 4000000 in
set_option maxRecDepth 100000 in
theorem ct_X2_wasSupplied (l : Launch) (dC : Nat → ClassId) (dI : Nat → Nat → Nat) (cJ cI cB cZ : ClassId) (h0 h_remembered x_keys : Nat) (z_length : Int32) (z_rememberedLength : Int32) (z_remembered : Nat → Int64) (v1 : Int64) (hp0 : 0 ≤ z_rememberedLength.toInt) (hp1 : z_rememberedLength.toInt ≤ 3000) (sz : Nat) : Met l yX2_wasSupplied wsX2_wasSupplied { frames := 0, cells := 0, slots := 0, locals := 0 } (va_Pc [.ref h0, .long v1] (st_B (dC, dI) (ty4 cJ cI cB cZ) [(h0, .inr (2, [.ref x_keys, .int z_length, .ref h_remembered, .int z_rememberedLength])), (h_remembered, .inl (cJ, 3000, .inr (.inl z_remembered)))] sz)) (va_Qi (fun (r : Int32) (u : Unit) => fn_X2_wasSupplied z_rememberedLength z_remembered v1 = r ∧ narrow .boolean (.int r) = .int r) (fun (u : Unit) t => st_W (dC, dI) (ty4 cJ cI cB cZ) [(h0, .inr (2, [.ref x_keys, .int z_length, .ref h_remembered, .int z_rememberedLength])), (h_remembered, .inl (cJ, 3000, .inr (.inl z_remembered)))] sz [(h0, .inr (2, [.ref x_keys, .int z_length, .ref h_remembered, .int z_rememberedLength])), (h_remembered, .inl (cJ, 3000, .inr (.inl z_remembered)))] t) (va_A [(h0, .inr (2, [.ref x_keys, .int z_length, .ref h_remembered, .int z_rememberedLength])), (h_remembered, .inl (cJ, 3000, .inr (.inl z_remembered)))] sz)) 0 0 (va_A [(h0, .inr (2, [.ref x_keys, .int z_length, .ref h_remembered, .int z_rememberedLength])), (h_remembered, .inl (cJ, 3000, .inr (.inl z_remembered)))] sz) := by
  refine Met.ofW (cc := cX2_wasSupplied) (maxL := 4) (ret := (some .boolean)) (by decide) rfl ?_
  intro p e s m args below meth c s₁ B hml hv
  obtain ⟨rfl, hsz, hP, hK, hD0, hN⟩ := hv
  have hx := B.exec
  have hb := B.bytes
  have hr := B.returns
  have hts := atoms_spec (ws := wsX2_wasSupplied) B.pre
  have hown : s.vm.findClass RX2 = some m.cls := findClass_of_methodNamed B.named
  have hlocks := B.notSynchronized
  subst hsz
  obtain ⟨A, hAe⟩ : ∃ z, z = va_A [(h0, .inr (2, [.ref x_keys, .int z_length, .ref h_remembered, .int z_rememberedLength])), (h_remembered, .inl (cJ, 3000, .inr (.inl z_remembered)))] s.heap.size := ⟨_, rfl⟩
  have hD : va_D A [(h0, .inr (2, [.ref x_keys, .int z_length, .ref h_remembered, .int z_rememberedLength])), (h_remembered, .inl (cJ, 3000, .inr (.inl z_remembered)))] := by rw [hAe]; exact hD0.self
  have hA : ∀ q : Nat, s.heap.size ≤ q → A q := fun q h => by rw [hAe]; exact Or.inr h
  have hS : va_S A s.heap s.heap [] := va_S.rf
  have hP : va_P (dC, dI) vwCl [(h0, .inr (2, [.ref x_keys, .int z_length, .ref h_remembered, .int z_rememberedLength])), (h_remembered, .inl (cJ, 3000, .inr (.inl z_remembered)))] s.heap := hP
  have hl := lv_entry ([.ref h0, .long v1]) (n := 4) (Nat.le_of_ble_eq_true rfl)
  rw [lg_entry_eq]
  generalize (lg_sl ([.ref h0, .long v1]) ++ List.replicate (4 - (lg_sl ([.ref h0, .long v1])).length) Slot.unset).toArray = ls at hl ⊢
  have hl : lv_has ls 4 [(0, .ref h0), (1, .long v1)] := hl
  obtain ⟨FR, hFR⟩ : ∃ z, z = fn_X2_wasSupplied z_rememberedLength z_remembered v1 := ⟨_, rfl⟩
  have hF := hFR
  unfold fn_X2_wasSupplied at hF
  refine lv_iconst (v := 0) hx hb dX2_wasSupplied_0 (by decide) ?_
  refine lv_istore_n (lv' := [(3, .int 0), (0, .ref h0), (1, .long v1)]) hx hb dX2_wasSupplied_1 rfl hl (by decide) rfl (fun ls hl => ?_)
  have lp_2 : ∀ (n2 : Nat) (v3_L2 : Int32), (∃ j2 : Nat, v3_L2 = nI j2 ∧ j2 ≤ 3000 ∧ 3000 < j2 + n2) → ∀ (H : Heap) (locs : List Loc), va_P (dC, dI) vwCl [(h0, .inr (2, [.ref x_keys, .int z_length, .ref h_remembered, .int z_rememberedLength])), (h_remembered, .inl (cJ, 3000, .inr (.inl z_remembered)))] H → va_D A [(h0, .inr (2, [.ref x_keys, .int z_length, .ref h_remembered, .int z_rememberedLength])), (h_remembered, .inl (cJ, 3000, .inr (.inl z_remembered)))] → va_S A s.heap H locs → ∀ (ls : Array Slot), lv_has ls 4 [(0, .ref h0), (1, .long v1), (3, .int v3_L2)] → FR = fn_X2_wasSupplied_L2 n2 z_rememberedLength z_remembered v1 v3_L2 → W p l e (headSpec wsX2_wasSupplied { frames := 0, cells := 0, slots := 0, locals := 0 }).room s m ([.ref h0, .long v1] : List Value).toArray below meth c H locs 0 0 (MQ below (va_Qi (fun (r : Int32) (u : Unit) => fn_X2_wasSupplied z_rememberedLength z_remembered v1 = r ∧ narrow .boolean (.int r) = .int r) (fun (u : Unit) t => st_W (dC, dI) (ty4 cJ cI cB cZ) [(h0, .inr (2, [.ref x_keys, .int z_length, .ref h_remembered, .int z_rememberedLength])), (h_remembered, .inl (cJ, 3000, .inr (.inl z_remembered)))] s.heap.size [(h0, .inr (2, [.ref x_keys, .int z_length, .ref h_remembered, .int z_rememberedLength])), (h_remembered, .inl (cJ, 3000, .inr (.inl z_remembered)))] t) (va_A [(h0, .inr (2, [.ref x_keys, .int z_length, .ref h_remembered, .int z_rememberedLength])), (h_remembered, .inl (cJ, 3000, .inr (.inl z_remembered)))] s.heap.size)) ([.ref h0, .long v1] : List Value).toArray s 0 0 (va_A [(h0, .inr (2, [.ref x_keys, .int z_length, .ref h_remembered, .int z_rememberedLength])), (h_remembered, .inl (cJ, 3000, .inr (.inl z_remembered)))] s.heap.size)) (F0 m 2 ls []) := by
    intro n2
    induction n2 with
    | zero =>
      intro v3_L2 hI
      exact absurd hI (by rintro ⟨j, -, h1, h2⟩; omega)
    | succ n2 ih_2 =>
      intro v3_L2 hI H locs hP hD hS ls hl hF
      rw [fn_X2_wasSupplied_L2] at hF
      obtain ⟨j2, ev2, hj2, hn2⟩ := hI
      refine lv_iload_n hx hb dX2_wasSupplied_2 rfl (lv_at hl 2 rfl) ?_
      refine lv_aload_n hx hb dX2_wasSupplied_3 rfl (lv_at hl 0 rfl) ?_
      refine va_get (D := (dC, dI)) (ci := 2) (v := .int z_rememberedLength) (C := RX2) (T := TX2) (N := 4) hx hb hts (by decide +kernel) hown hK hP 0 rfl rfl 3 (by decide) (hts (.fieldLink RX2 22 "ShredStore$KeyRow" "rememberedLength" "I") (by decide +kernel)) (fun _ h9 => h9) rfl dX2_wasSupplied_4 ?_
      refine lv_icmp_ge (tgt := 29) hx hb dX2_wasSupplied_7 (by decide) (fun c_7 => ?_) (fun c_7 => ?_)
      · have hF := ite_t c_7 hF
        refine lv_iconst (v := 0) hx hb dX2_wasSupplied_29 (by decide) ?_
        have hP9 := hP.sub (ws' := [(h0, .inr (2, [.ref x_keys, .int z_length, .ref h_remembered, .int z_rememberedLength])), (h_remembered, .inl (cJ, 3000, .inr (.inl z_remembered)))]) [0, 1] rfl
        have hD9 := hD.sub (ws' := [(h0, .inr (2, [.ref x_keys, .int z_length, .ref h_remembered, .int z_rememberedLength])), (h_remembered, .inl (cJ, 3000, .inr (.inl z_remembered)))]) [0, 1] (by decide) rfl
        subst hAe
        exact W.zret (v := 0) (ty := .boolean) hx hb hr (by first | rfl | assumption) (fun t ht hW => ⟨⟨0, (), rfl, ⟨hFR.symm.trans hF, (by first | rfl | assumption)⟩, by rw [ht]; exact hP9, va_K.moved hW.alike hK, hD9⟩, hS.F ht⟩) hS.2.2 dX2_wasSupplied_30
      · have hF := ite_f c_7 hF
        have hlt2 : j2 < 3000 := (by have q9 := q_nle c_7; rw [ev2, nI_toInt (by omega)] at q9; omega)
        refine lv_aload_n hx hb dX2_wasSupplied_10 rfl (lv_at hl 0 rfl) ?_
        refine va_get (D := (dC, dI)) (ci := 2) (v := .ref h_remembered) (C := RX2) (T := TX2) (N := 4) hx hb hts (by decide +kernel) hown hK hP 0 rfl rfl 2 (by decide) (hts (.fieldLink RX2 19 "ShredStore$KeyRow" "remembered" "[J") (by decide +kernel)) (fun _ h9 => h9) rfl dX2_wasSupplied_11 ?_
        refine lv_iload_n hx hb dX2_wasSupplied_14 rfl (lv_at hl 2 rfl) ?_
        have hr_15 : vp_in v3_L2 3000 := by rw [ev2]; exact vp_in_nI (by omega) (by decide)
        refine va_lald hx hb hK hP 1 0 rfl rfl hr_15 dX2_wasSupplied_15 ?_
        refine lv_lload_n hx hb dX2_wasSupplied_16 rfl (lv_at hl 1 rfl) ?_
        refine W.lcmp hx hb dX2_wasSupplied_17 ?_
        refine lv_if_ne (tgt := 23) hx hb dX2_wasSupplied_18 (by decide) (fun c_18 => ?_) (fun c_18 => ?_)
        · have hF := ite_f c_18 hF
          refine lv_iinc (v := (v3_L2 + 1)) (lv' := [(3, .int (v3_L2 + 1)), (0, .ref h0), (1, .long v1)]) hx hb dX2_wasSupplied_23 hl (k := 2) rfl rfl (by decide) rfl (fun ls hl => ?_)
          refine lv_goto (tgt := 2) hx hb dX2_wasSupplied_26 (by decide) ?_
          exact ih_2 (v3_L2 + 1) (by exact ⟨j2 + 1, by rw [ev2]; exact nI_1 j2, by omega, by omega⟩) _ _ hP hD hS _ (lv_sub hl [1, 2, 0] rfl) hF
        · have hF := ite_t c_18 hF
          refine lv_iconst (v := 1) hx hb dX2_wasSupplied_21 (by decide) ?_
          have hP9 := hP.sub (ws' := [(h0, .inr (2, [.ref x_keys, .int z_length, .ref h_remembered, .int z_rememberedLength])), (h_remembered, .inl (cJ, 3000, .inr (.inl z_remembered)))]) [0, 1] rfl
          have hD9 := hD.sub (ws' := [(h0, .inr (2, [.ref x_keys, .int z_length, .ref h_remembered, .int z_rememberedLength])), (h_remembered, .inl (cJ, 3000, .inr (.inl z_remembered)))]) [0, 1] (by decide) rfl
          subst hAe
          exact W.zret (v := 1) (ty := .boolean) hx hb hr (by first | rfl | assumption) (fun t ht hW => ⟨⟨1, (), rfl, ⟨hFR.symm.trans hF, (by first | rfl | assumption)⟩, by rw [ht]; exact hP9, va_K.moved hW.alike hK, hD9⟩, hS.F ht⟩) hS.2.2 dX2_wasSupplied_22
  exact lp_2 3001 0 (by exact ⟨0, rfl, by omega, by omega⟩) _ _ hP hD hS _ (lv_sub hl [1, 2, 0] rfl) hF
set_option maxHeartbeats 4000000 in
set_option maxRecDepth 100000 in
theorem ct_X2_accept (l : Launch) (dC : Nat → ClassId) (dI : Nat → Nat → Nat) (cJ cI cB cZ : ClassId) (h0 h_keys h_remembered : Nat) (z_length : Int32) (z_rememberedLength : Int32) (z_keys : Nat → Int64) (z_remembered : Nat → Int64) (v1 : Int64) (hp0 : 0 ≤ z_length.toInt) (hp1 : 0 ≤ z_rememberedLength.toInt) (hp2 : z_rememberedLength.toInt ≤ 3000) (sz : Nat) : Met l yX2_accept wsX2_accept { frames := 1, cells := 0, slots := 0, locals := 23 } (va_Pc [.ref h0, .long v1] (st_B (dC, dI) (ty4 cJ cI cB cZ) [(h0, .inr (2, [.ref h_keys, .int z_length, .ref h_remembered, .int z_rememberedLength])), (h_keys, .inl (cJ, 40, .inr (.inl z_keys))), (h_remembered, .inl (cJ, 3000, .inr (.inl z_remembered)))] sz)) (va_Qi (fun (r : Int32) (u : Int32 × Int32 × (Nat → Int64) × (Nat → Int64)) => fn_X2_accept z_length z_rememberedLength z_keys z_remembered v1 = (r, u.1, u.2.1, u.2.2.1, u.2.2.2) ∧ narrow .boolean (.int r) = .int r) (fun (u : Int32 × Int32 × (Nat → Int64) × (Nat → Int64)) t => st_W (dC, dI) (ty4 cJ cI cB cZ) [(h0, .inr (2, [.ref h_keys, .int z_length, .ref h_remembered, .int z_rememberedLength])), (h_keys, .inl (cJ, 40, .inr (.inl z_keys))), (h_remembered, .inl (cJ, 3000, .inr (.inl z_remembered)))] sz [(h0, .inr (2, [.ref h_keys, .int u.1, .ref h_remembered, .int u.2.1])), (h_keys, .inl (cJ, 40, .inr (.inl u.2.2.1))), (h_remembered, .inl (cJ, 3000, .inr (.inl u.2.2.2)))] t) (va_A [(h0, .inr (2, [.ref h_keys, .int z_length, .ref h_remembered, .int z_rememberedLength])), (h_keys, .inl (cJ, 40, .inr (.inl z_keys))), (h_remembered, .inl (cJ, 3000, .inr (.inl z_remembered)))] sz)) 0 0 (va_A [(h0, .inr (2, [.ref h_keys, .int z_length, .ref h_remembered, .int z_rememberedLength])), (h_keys, .inl (cJ, 40, .inr (.inl z_keys))), (h_remembered, .inl (cJ, 3000, .inr (.inl z_remembered)))] sz) := by
  refine Met.ofW (cc := cX2_accept) (maxL := 3) (ret := (some .boolean)) (by decide) rfl ?_
  intro p e s m args below meth c s₁ B hml hv
  obtain ⟨rfl, hsz, hP, hK, hD0, hN⟩ := hv
  have hx := B.exec
  have hb := B.bytes
  have hr := B.returns
  have hts := atoms_spec (ws := wsX2_accept) B.pre
  have hown : s.vm.findClass RX2 = some m.cls := findClass_of_methodNamed B.named
  have hlocks := B.notSynchronized
  subst hsz
  obtain ⟨A, hAe⟩ : ∃ z, z = va_A [(h0, .inr (2, [.ref h_keys, .int z_length, .ref h_remembered, .int z_rememberedLength])), (h_keys, .inl (cJ, 40, .inr (.inl z_keys))), (h_remembered, .inl (cJ, 3000, .inr (.inl z_remembered)))] s.heap.size := ⟨_, rfl⟩
  have hD : va_D A [(h0, .inr (2, [.ref h_keys, .int z_length, .ref h_remembered, .int z_rememberedLength])), (h_keys, .inl (cJ, 40, .inr (.inl z_keys))), (h_remembered, .inl (cJ, 3000, .inr (.inl z_remembered)))] := by rw [hAe]; exact hD0.self
  have hA : ∀ q : Nat, s.heap.size ≤ q → A q := fun q h => by rw [hAe]; exact Or.inr h
  have hS : va_S A s.heap s.heap [] := va_S.rf
  have hP : va_P (dC, dI) vwCl [(h0, .inr (2, [.ref h_keys, .int z_length, .ref h_remembered, .int z_rememberedLength])), (h_keys, .inl (cJ, 40, .inr (.inl z_keys))), (h_remembered, .inl (cJ, 3000, .inr (.inl z_remembered)))] s.heap := hP
  have hl := lv_entry ([.ref h0, .long v1]) (n := 3) (Nat.le_of_ble_eq_true rfl)
  rw [lg_entry_eq]
  generalize (lg_sl ([.ref h0, .long v1]) ++ List.replicate (3 - (lg_sl ([.ref h0, .long v1])).length) Slot.unset).toArray = ls at hl ⊢
  have hl : lv_has ls 3 [(0, .ref h0), (1, .long v1)] := hl
  obtain ⟨FR, hFR⟩ : ∃ z, z = fn_X2_accept z_length z_rememberedLength z_keys z_remembered v1 := ⟨_, rfl⟩
  have hF := hFR
  unfold fn_X2_accept at hF
  refine lv_lload_n hx hb dX2_accept_0 rfl (lv_at hl 1 rfl) ?_
  refine lv_lconst (v := 0) hx hb dX2_accept_1 (by decide) ?_
  refine W.lcmp hx hb dX2_accept_2 ?_
  refine lv_if_eq (tgt := 23) hx hb dX2_accept_3 (by decide) (fun c_3 => ?_) (fun c_3 => ?_)
  · have hF := ite_t c_3 hF
    refine lv_iconst (v := 0) hx hb dX2_accept_23 (by decide) ?_
    have hP9 := hP.sub (ws' := [(h0, .inr (2, [.ref h_keys, .int z_length, .ref h_remembered, .int z_rememberedLength])), (h_keys, .inl (cJ, 40, .inr (.inl z_keys))), (h_remembered, .inl (cJ, 3000, .inr (.inl z_remembered)))]) [0, 1, 2] rfl
    have hD9 := hD.sub (ws' := [(h0, .inr (2, [.ref h_keys, .int z_length, .ref h_remembered, .int z_rememberedLength])), (h_keys, .inl (cJ, 40, .inr (.inl z_keys))), (h_remembered, .inl (cJ, 3000, .inr (.inl z_remembered)))]) [0, 1, 2] (by decide) rfl
    subst hAe
    exact W.zret (v := 0) (ty := .boolean) hx hb hr (by first | rfl | assumption) (fun t ht hW => ⟨⟨0, (z_length, z_rememberedLength, z_keys, z_remembered), rfl, ⟨hFR.symm.trans hF, (by first | rfl | assumption)⟩, by rw [ht]; exact hP9, va_K.moved hW.alike hK, hD9⟩, hS.F ht⟩) hS.2.2 dX2_accept_24
  · have hF := ite_f c_3 hF
    refine lv_aload_n hx hb dX2_accept_6 rfl (lv_at hl 0 rfl) ?_
    refine va_get (D := (dC, dI)) (ci := 2) (v := .int z_length) (C := RX2) (T := TX2) (N := 4) hx hb hts (by decide +kernel) hown hK hP 0 rfl rfl 1 (by decide) (hts (.fieldLink RX2 15 "ShredStore$KeyRow" "length" "I") (by decide +kernel)) (fun _ h9 => h9) rfl dX2_accept_7 ?_
    refine lv_bipush (v := 40) hx hb dX2_accept_10 (by decide) ?_
    refine lv_icmp_ge (tgt := 23) hx hb dX2_accept_12 (by decide) (fun c_12 => ?_) (fun c_12 => ?_)
    · have hF := ite_t c_12 hF
      refine lv_iconst (v := 0) hx hb dX2_accept_23 (by decide) ?_
      have hP9 := hP.sub (ws' := [(h0, .inr (2, [.ref h_keys, .int z_length, .ref h_remembered, .int z_rememberedLength])), (h_keys, .inl (cJ, 40, .inr (.inl z_keys))), (h_remembered, .inl (cJ, 3000, .inr (.inl z_remembered)))]) [0, 1, 2] rfl
      have hD9 := hD.sub (ws' := [(h0, .inr (2, [.ref h_keys, .int z_length, .ref h_remembered, .int z_rememberedLength])), (h_keys, .inl (cJ, 40, .inr (.inl z_keys))), (h_remembered, .inl (cJ, 3000, .inr (.inl z_remembered)))]) [0, 1, 2] (by decide) rfl
      subst hAe
      exact W.zret (v := 0) (ty := .boolean) hx hb hr (by first | rfl | assumption) (fun t ht hW => ⟨⟨0, (z_length, z_rememberedLength, z_keys, z_remembered), rfl, ⟨hFR.symm.trans hF, (by first | rfl | assumption)⟩, by rw [ht]; exact hP9, va_K.moved hW.alike hK, hD9⟩, hS.F ht⟩) hS.2.2 dX2_accept_24
    · have hF := ite_f c_12 hF
      refine lv_aload_n hx hb dX2_accept_15 rfl (lv_at hl 0 rfl) ?_
      refine lv_lload_n hx hb dX2_accept_16 rfl (lv_at hl 1 rfl) ?_
      have hq_17_0 : 0 ≤ z_rememberedLength.toInt := by exact hp1
      have hq_17_1 : z_rememberedLength.toInt ≤ 3000 := by exact hp2
      refine st_calli (wr := [(h_keys, .inl (cJ, 40, .inr (.inl z_keys)))]) (va_runV (As := [.long v1]) (rest := []) ⟨hx, hb, hml, hown, hts⟩ (ct_X2_wasSupplied l dC dI cJ cI cB cZ h0 h_remembered h_keys z_length z_rememberedLength z_remembered v1 hq_17_0 hq_17_1 s.heap.size) (cwV 1 hts gX2_accept_X2_wasSupplied rfl rfl rfl (by decide +kernel) ⟨Nat.le_of_ble_eq_true rfl, Nat.le_of_ble_eq_true rfl⟩) (st_preV (ci := 2) (q0 := 0) hK hP hD hN [0, 2] rfl (by decide) rfl rfl rfl) rfl rfl hl.1 rfl (lv_room (Nat.le_of_ble_eq_true rfl)) dX2_accept_17 ⟨Nat.le_of_ble_eq_true rfl, Nat.le_of_ble_eq_true rfl⟩) hP hD hS hA [0, 2] [1] rfl rfl (by decide) (by decide) (fun r17 u H locs hw hP hD hS => ?_)
      have hP : va_P (dC, dI) vwCl [(h_keys, .inl (cJ, 40, .inr (.inl z_keys))), (h0, .inr (2, [.ref h_keys, .int z_length, .ref h_remembered, .int z_rememberedLength])), (h_remembered, .inl (cJ, 3000, .inr (.inl z_remembered)))] H := hP
      have hD : va_D A [(h_keys, .inl (cJ, 40, .inr (.inl z_keys))), (h0, .inr (2, [.ref h_keys, .int z_length, .ref h_remembered, .int z_rememberedLength])), (h_remembered, .inl (cJ, 3000, .inr (.inl z_remembered)))] := hD
      obtain ⟨hw, hz_r17⟩ := hw
      have hF := bnd1_eq hw hF
      refine lv_if_eq (tgt := 25) hx hb dX2_accept_20 (by decide) (fun c_20 => ?_) (fun c_20 => ?_)
      · have hF := ite_t c_20 hF
        refine lv_aload_n hx hb dX2_accept_25 rfl (lv_at hl 0 rfl) ?_
        refine va_get (D := (dC, dI)) (ci := 2) (v := .ref h_keys) (C := RX2) (T := TX2) (N := 4) hx hb hts (by decide +kernel) hown hK hP 1 rfl rfl 0 (by decide) (hts (.fieldLink RX2 9 "ShredStore$KeyRow" "keys" "[J") (by decide +kernel)) (fun _ h9 => h9) rfl dX2_accept_26 ?_
        refine lv_aload_n hx hb dX2_accept_29 rfl (lv_at hl 0 rfl) ?_
        refine va_get (D := (dC, dI)) (ci := 2) (v := .int z_length) (C := RX2) (T := TX2) (N := 4) hx hb hts (by decide +kernel) hown hK hP 1 rfl rfl 1 (by decide) (hts (.fieldLink RX2 15 "ShredStore$KeyRow" "length" "I") (by decide +kernel)) (fun _ h9 => h9) rfl dX2_accept_30 ?_
        refine lv_lload_n hx hb dX2_accept_33 rfl (lv_at hl 1 rfl) ?_
        have hr_34 : vp_in z_length 40 := by exact q_i3 hp0 c_12 (by decide)
        refine va_last hx hb hK hP hD hS 0 0 rfl rfl hr_34 dX2_accept_34 (fun H locs hP hD hS => ?_)
        have hP : va_P (dC, dI) vwCl [(h_keys, .inl (cJ, 40, .inr (.inl (vp_updL z_keys (z_length : Int32).toNatClampNeg v1)))), (h0, .inr (2, [.ref h_keys, .int z_length, .ref h_remembered, .int z_rememberedLength])), (h_remembered, .inl (cJ, 3000, .inr (.inl z_remembered)))] H := hP
        have hD : va_D A [(h_keys, .inl (cJ, 40, .inr (.inl (vp_updL z_keys (z_length : Int32).toNatClampNeg v1)))), (h0, .inr (2, [.ref h_keys, .int z_length, .ref h_remembered, .int z_rememberedLength])), (h_remembered, .inl (cJ, 3000, .inr (.inl z_remembered)))] := hD
        refine lv_aload_n hx hb dX2_accept_35 rfl (lv_at hl 0 rfl) ?_
        refine lv_dup hx hb dX2_accept_36 rfl ?_
        refine va_get (D := (dC, dI)) (ci := 2) (v := .int z_length) (C := RX2) (T := TX2) (N := 4) hx hb hts (by decide +kernel) hown hK hP 1 rfl rfl 1 (by decide) (hts (.fieldLink RX2 15 "ShredStore$KeyRow" "length" "I") (by decide +kernel)) (fun _ h9 => h9) rfl dX2_accept_37 ?_
        refine lv_iconst (v := 1) hx hb dX2_accept_40 (by decide) ?_
        refine lv_iadd hx hb dX2_accept_41 ?_
        refine va_put (D := (dC, dI)) (ci := 2) (v := .int (z_length + 1)) (ty := .int) (C := RX2) (T := TX2) (N := 4) hx hb hts (by decide +kernel) tyX2 tyX2_ok nmX2 hown hK hP hD hS 1 rfl rfl 1 (by decide) (hts (.fieldLink RX2 15 "ShredStore$KeyRow" "length" "I") (by decide +kernel)) (fun _ h9 => h9) rfl (by decide +kernel) rfl rfl (Nat.le_of_ble_eq_true rfl) dX2_accept_42 (fun H locs hP hD hS => ?_)
        have hP : va_P (dC, dI) vwCl [(h_keys, .inl (cJ, 40, .inr (.inl (vp_updL z_keys (z_length : Int32).toNatClampNeg v1)))), (h0, .inr (2, [.ref h_keys, .int (z_length + 1), .ref h_remembered, .int z_rememberedLength])), (h_remembered, .inl (cJ, 3000, .inr (.inl z_remembered)))] H := hP
        have hD : va_D A [(h_keys, .inl (cJ, 40, .inr (.inl (vp_updL z_keys (z_length : Int32).toNatClampNeg v1)))), (h0, .inr (2, [.ref h_keys, .int (z_length + 1), .ref h_remembered, .int z_rememberedLength])), (h_remembered, .inl (cJ, 3000, .inr (.inl z_remembered)))] := hD
        refine lv_aload_n hx hb dX2_accept_45 rfl (lv_at hl 0 rfl) ?_
        refine va_get (D := (dC, dI)) (ci := 2) (v := .int z_rememberedLength) (C := RX2) (T := TX2) (N := 4) hx hb hts (by decide +kernel) hown hK hP 1 rfl rfl 3 (by decide) (hts (.fieldLink RX2 22 "ShredStore$KeyRow" "rememberedLength" "I") (by decide +kernel)) (fun _ h9 => h9) rfl dX2_accept_46 ?_
        refine lv_sipush (v := 3000) hx hb dX2_accept_49 (by decide) ?_
        refine lv_icmp_ge (tgt := 75) hx hb dX2_accept_52 (by decide) (fun c_52 => ?_) (fun c_52 => ?_)
        · have hF := ite_t c_52 hF
          refine lv_iconst (v := 1) hx hb dX2_accept_75 (by decide) ?_
          have hP9 := hP.sub (ws' := [(h0, .inr (2, [.ref h_keys, .int (z_length + 1), .ref h_remembered, .int z_rememberedLength])), (h_keys, .inl (cJ, 40, .inr (.inl (vp_updL z_keys (z_length : Int32).toNatClampNeg v1)))), (h_remembered, .inl (cJ, 3000, .inr (.inl z_remembered)))]) [1, 0, 2] rfl
          have hD9 := hD.sub (ws' := [(h0, .inr (2, [.ref h_keys, .int (z_length + 1), .ref h_remembered, .int z_rememberedLength])), (h_keys, .inl (cJ, 40, .inr (.inl (vp_updL z_keys (z_length : Int32).toNatClampNeg v1)))), (h_remembered, .inl (cJ, 3000, .inr (.inl z_remembered)))]) [1, 0, 2] (by decide) rfl
          subst hAe
          exact W.zret (v := 1) (ty := .boolean) hx hb hr (by first | rfl | assumption) (fun t ht hW => ⟨⟨1, ((z_length + 1), z_rememberedLength, (vp_updL z_keys (z_length : Int32).toNatClampNeg v1), z_remembered), rfl, ⟨hFR.symm.trans hF, (by first | rfl | assumption)⟩, by rw [ht]; exact hP9, va_K.moved hW.alike hK, hD9⟩, hS.F ht⟩) hS.2.2 dX2_accept_76
        · have hF := ite_f c_52 hF
          refine lv_aload_n hx hb dX2_accept_55 rfl (lv_at hl 0 rfl) ?_
          refine va_get (D := (dC, dI)) (ci := 2) (v := .ref h_remembered) (C := RX2) (T := TX2) (N := 4) hx hb hts (by decide +kernel) hown hK hP 1 rfl rfl 2 (by decide) (hts (.fieldLink RX2 19 "ShredStore$KeyRow" "remembered" "[J") (by decide +kernel)) (fun _ h9 => h9) rfl dX2_accept_56 ?_
          refine lv_aload_n hx hb dX2_accept_59 rfl (lv_at hl 0 rfl) ?_
          refine va_get (D := (dC, dI)) (ci := 2) (v := .int z_rememberedLength) (C := RX2) (T := TX2) (N := 4) hx hb hts (by decide +kernel) hown hK hP 1 rfl rfl 3 (by decide) (hts (.fieldLink RX2 22 "ShredStore$KeyRow" "rememberedLength" "I") (by decide +kernel)) (fun _ h9 => h9) rfl dX2_accept_60 ?_
          refine lv_lload_n hx hb dX2_accept_63 rfl (lv_at hl 1 rfl) ?_
          have hr_64 : vp_in z_rememberedLength 3000 := by exact q_i3 hp1 c_52 (by decide)
          refine va_last hx hb hK hP hD hS 2 0 rfl rfl hr_64 dX2_accept_64 (fun H locs hP hD hS => ?_)
          have hP : va_P (dC, dI) vwCl [(h_keys, .inl (cJ, 40, .inr (.inl (vp_updL z_keys (z_length : Int32).toNatClampNeg v1)))), (h0, .inr (2, [.ref h_keys, .int (z_length + 1), .ref h_remembered, .int z_rememberedLength])), (h_remembered, .inl (cJ, 3000, .inr (.inl (vp_updL z_remembered (z_rememberedLength : Int32).toNatClampNeg v1))))] H := hP
          have hD : va_D A [(h_keys, .inl (cJ, 40, .inr (.inl (vp_updL z_keys (z_length : Int32).toNatClampNeg v1)))), (h0, .inr (2, [.ref h_keys, .int (z_length + 1), .ref h_remembered, .int z_rememberedLength])), (h_remembered, .inl (cJ, 3000, .inr (.inl (vp_updL z_remembered (z_rememberedLength : Int32).toNatClampNeg v1))))] := hD
          refine lv_aload_n hx hb dX2_accept_65 rfl (lv_at hl 0 rfl) ?_
          refine lv_dup hx hb dX2_accept_66 rfl ?_
          refine va_get (D := (dC, dI)) (ci := 2) (v := .int z_rememberedLength) (C := RX2) (T := TX2) (N := 4) hx hb hts (by decide +kernel) hown hK hP 1 rfl rfl 3 (by decide) (hts (.fieldLink RX2 22 "ShredStore$KeyRow" "rememberedLength" "I") (by decide +kernel)) (fun _ h9 => h9) rfl dX2_accept_67 ?_
          refine lv_iconst (v := 1) hx hb dX2_accept_70 (by decide) ?_
          refine lv_iadd hx hb dX2_accept_71 ?_
          refine va_put (D := (dC, dI)) (ci := 2) (v := .int (z_rememberedLength + 1)) (ty := .int) (C := RX2) (T := TX2) (N := 4) hx hb hts (by decide +kernel) tyX2 tyX2_ok nmX2 hown hK hP hD hS 1 rfl rfl 3 (by decide) (hts (.fieldLink RX2 22 "ShredStore$KeyRow" "rememberedLength" "I") (by decide +kernel)) (fun _ h9 => h9) rfl (by decide +kernel) rfl rfl (Nat.le_of_ble_eq_true rfl) dX2_accept_72 (fun H locs hP hD hS => ?_)
          have hP : va_P (dC, dI) vwCl [(h_keys, .inl (cJ, 40, .inr (.inl (vp_updL z_keys (z_length : Int32).toNatClampNeg v1)))), (h0, .inr (2, [.ref h_keys, .int (z_length + 1), .ref h_remembered, .int (z_rememberedLength + 1)])), (h_remembered, .inl (cJ, 3000, .inr (.inl (vp_updL z_remembered (z_rememberedLength : Int32).toNatClampNeg v1))))] H := hP
          have hD : va_D A [(h_keys, .inl (cJ, 40, .inr (.inl (vp_updL z_keys (z_length : Int32).toNatClampNeg v1)))), (h0, .inr (2, [.ref h_keys, .int (z_length + 1), .ref h_remembered, .int (z_rememberedLength + 1)])), (h_remembered, .inl (cJ, 3000, .inr (.inl (vp_updL z_remembered (z_rememberedLength : Int32).toNatClampNeg v1))))] := hD
          refine lv_iconst (v := 1) hx hb dX2_accept_75 (by decide) ?_
          have hP9 := hP.sub (ws' := [(h0, .inr (2, [.ref h_keys, .int (z_length + 1), .ref h_remembered, .int (z_rememberedLength + 1)])), (h_keys, .inl (cJ, 40, .inr (.inl (vp_updL z_keys (z_length : Int32).toNatClampNeg v1)))), (h_remembered, .inl (cJ, 3000, .inr (.inl (vp_updL z_remembered (z_rememberedLength : Int32).toNatClampNeg v1))))]) [1, 0, 2] rfl
          have hD9 := hD.sub (ws' := [(h0, .inr (2, [.ref h_keys, .int (z_length + 1), .ref h_remembered, .int (z_rememberedLength + 1)])), (h_keys, .inl (cJ, 40, .inr (.inl (vp_updL z_keys (z_length : Int32).toNatClampNeg v1)))), (h_remembered, .inl (cJ, 3000, .inr (.inl (vp_updL z_remembered (z_rememberedLength : Int32).toNatClampNeg v1))))]) [1, 0, 2] (by decide) rfl
          subst hAe
          exact W.zret (v := 1) (ty := .boolean) hx hb hr (by first | rfl | assumption) (fun t ht hW => ⟨⟨1, ((z_length + 1), (z_rememberedLength + 1), (vp_updL z_keys (z_length : Int32).toNatClampNeg v1), (vp_updL z_remembered (z_rememberedLength : Int32).toNatClampNeg v1)), rfl, ⟨hFR.symm.trans hF, (by first | rfl | assumption)⟩, by rw [ht]; exact hP9, va_K.moved hW.alike hK, hD9⟩, hS.F ht⟩) hS.2.2 dX2_accept_76
      · have hF := ite_f c_20 hF
        refine lv_iconst (v := 0) hx hb dX2_accept_23 (by decide) ?_
        have hP9 := hP.sub (ws' := [(h0, .inr (2, [.ref h_keys, .int z_length, .ref h_remembered, .int z_rememberedLength])), (h_keys, .inl (cJ, 40, .inr (.inl z_keys))), (h_remembered, .inl (cJ, 3000, .inr (.inl z_remembered)))]) [1, 0, 2] rfl
        have hD9 := hD.sub (ws' := [(h0, .inr (2, [.ref h_keys, .int z_length, .ref h_remembered, .int z_rememberedLength])), (h_keys, .inl (cJ, 40, .inr (.inl z_keys))), (h_remembered, .inl (cJ, 3000, .inr (.inl z_remembered)))]) [1, 0, 2] (by decide) rfl
        subst hAe
        exact W.zret (v := 0) (ty := .boolean) hx hb hr (by first | rfl | assumption) (fun t ht hW => ⟨⟨0, (z_length, z_rememberedLength, z_keys, z_remembered), rfl, ⟨hFR.symm.trans hF, (by first | rfl | assumption)⟩, by rw [ht]; exact hP9, va_K.moved hW.alike hK, hD9⟩, hS.F ht⟩) hS.2.2 dX2_accept_24
set_option maxHeartbeats 4000000 in
set_option maxRecDepth 100000 in
theorem ct_X5_append (l : Launch) (dC : Nat → ClassId) (dI : Nat → Nat → Nat) (cJ cI cB cZ : ClassId) (h0 h_bytes : Nat) (z_length : Int32) (z_bytes : Nat → Int32) (v1 : Int32) (hp0 : 0 ≤ z_length.toInt) (hp1 : z_length.toInt ≤ 96) (sz : Nat) : Met l yX5_append wsX5_append { frames := 0, cells := 0, slots := 0, locals := 0 } (va_Pc [.ref h0, .int v1] (st_B (dC, dI) (ty4 cJ cI cB cZ) [(h0, .inr (5, [.ref h_bytes, .int z_length])), (h_bytes, .inl (cB, 96, .inl z_bytes))] sz)) (va_Qi (fun (r : Int32) (u : Int32 × (Nat → Int32)) => fn_X5_append z_length z_bytes v1 = (r, u.1, u.2) ∧ narrow .boolean (.int r) = .int r) (fun (u : Int32 × (Nat → Int32)) t => st_W (dC, dI) (ty4 cJ cI cB cZ) [(h0, .inr (5, [.ref h_bytes, .int z_length])), (h_bytes, .inl (cB, 96, .inl z_bytes))] sz [(h0, .inr (5, [.ref h_bytes, .int u.1])), (h_bytes, .inl (cB, 96, .inl u.2))] t) (va_A [(h0, .inr (5, [.ref h_bytes, .int z_length])), (h_bytes, .inl (cB, 96, .inl z_bytes))] sz)) 0 0 (va_A [(h0, .inr (5, [.ref h_bytes, .int z_length])), (h_bytes, .inl (cB, 96, .inl z_bytes))] sz) := by
  refine Met.ofW (cc := cX5_append) (maxL := 3) (ret := (some .boolean)) (by decide) rfl ?_
  intro p e s m args below meth c s₁ B hml hv
  obtain ⟨rfl, hsz, hP, hK, hD0, hN⟩ := hv
  have hx := B.exec
  have hb := B.bytes
  have hr := B.returns
  have hts := atoms_spec (ws := wsX5_append) B.pre
  have hown : s.vm.findClass RX5 = some m.cls := findClass_of_methodNamed B.named
  have hlocks := B.notSynchronized
  subst hsz
  obtain ⟨A, hAe⟩ : ∃ z, z = va_A [(h0, .inr (5, [.ref h_bytes, .int z_length])), (h_bytes, .inl (cB, 96, .inl z_bytes))] s.heap.size := ⟨_, rfl⟩
  have hD : va_D A [(h0, .inr (5, [.ref h_bytes, .int z_length])), (h_bytes, .inl (cB, 96, .inl z_bytes))] := by rw [hAe]; exact hD0.self
  have hA : ∀ q : Nat, s.heap.size ≤ q → A q := fun q h => by rw [hAe]; exact Or.inr h
  have hS : va_S A s.heap s.heap [] := va_S.rf
  have hP : va_P (dC, dI) vwCl [(h0, .inr (5, [.ref h_bytes, .int z_length])), (h_bytes, .inl (cB, 96, .inl z_bytes))] s.heap := hP
  have hl := lv_entry ([.ref h0, .int v1]) (n := 3) (Nat.le_of_ble_eq_true rfl)
  rw [lg_entry_eq]
  generalize (lg_sl ([.ref h0, .int v1]) ++ List.replicate (3 - (lg_sl ([.ref h0, .int v1])).length) Slot.unset).toArray = ls at hl ⊢
  have hl : lv_has ls 3 [(0, .ref h0), (1, .int v1)] := hl
  obtain ⟨FR, hFR⟩ : ∃ z, z = fn_X5_append z_length z_bytes v1 := ⟨_, rfl⟩
  have hF := hFR
  unfold fn_X5_append at hF
  refine lv_aload_n hx hb dX5_append_0 rfl (lv_at hl 0 rfl) ?_
  refine va_get (D := (dC, dI)) (ci := 5) (v := .int z_length) (C := RX5) (T := TX5) (N := 2) hx hb hts (by decide +kernel) hown hK hP 0 rfl rfl 1 (by decide) (hts (.fieldLink RX5 15 "ShredStore$Tape" "length" "I") (by decide +kernel)) (fun _ h9 => h9) rfl dX5_append_1 ?_
  refine lv_iconst (v := 4) hx hb dX5_append_4 (by decide) ?_
  refine lv_iadd hx hb dX5_append_5 ?_
  refine lv_bipush (v := 96) hx hb dX5_append_6 (by decide) ?_
  refine lv_icmp_le (tgt := 13) hx hb dX5_append_8 (by decide) (fun c_8 => ?_) (fun c_8 => ?_)
  · have hF := ite_t c_8 hF
    refine lv_bipush (v := 24) hx hb dX5_append_13 (by decide) ?_
    refine lv_istore_n (lv' := [(2, .int 24), (0, .ref h0), (1, .int v1)]) hx hb dX5_append_15 rfl hl (by decide) rfl (fun ls hl => ?_)
    have lp_16 : ∀ (n16 : Nat) (z_length_L16 : Int32) (z_bytes_L16 : Nat → Int32) (v2_L16 : Int32), (∃ j : Nat, v2_L16.toInt = 8 * (j : Int) - 8 ∧ j < n16 ∧ 0 ≤ z_length_L16.toInt ∧ z_length_L16.toInt + j ≤ 96) → ∀ (H : Heap) (locs : List Loc), va_P (dC, dI) vwCl [(h0, .inr (5, [.ref h_bytes, .int z_length_L16])), (h_bytes, .inl (cB, 96, .inl z_bytes_L16))] H → va_D A [(h0, .inr (5, [.ref h_bytes, .int z_length_L16])), (h_bytes, .inl (cB, 96, .inl z_bytes_L16))] → va_S A s.heap H locs → ∀ (ls : Array Slot), lv_has ls 3 [(0, .ref h0), (1, .int v1), (2, .int v2_L16)] → FR = fn_X5_append_L16 n16 z_length_L16 z_bytes_L16 v1 v2_L16 → W p l e (headSpec wsX5_append { frames := 0, cells := 0, slots := 0, locals := 0 }).room s m ([.ref h0, .int v1] : List Value).toArray below meth c H locs 0 0 (MQ below (va_Qi (fun (r : Int32) (u : Int32 × (Nat → Int32)) => fn_X5_append z_length z_bytes v1 = (r, u.1, u.2) ∧ narrow .boolean (.int r) = .int r) (fun (u : Int32 × (Nat → Int32)) t => st_W (dC, dI) (ty4 cJ cI cB cZ) [(h0, .inr (5, [.ref h_bytes, .int z_length])), (h_bytes, .inl (cB, 96, .inl z_bytes))] s.heap.size [(h0, .inr (5, [.ref h_bytes, .int u.1])), (h_bytes, .inl (cB, 96, .inl u.2))] t) (va_A [(h0, .inr (5, [.ref h_bytes, .int z_length])), (h_bytes, .inl (cB, 96, .inl z_bytes))] s.heap.size)) ([.ref h0, .int v1] : List Value).toArray s 0 0 (va_A [(h0, .inr (5, [.ref h_bytes, .int z_length])), (h_bytes, .inl (cB, 96, .inl z_bytes))] s.heap.size)) (F0 m 16 ls []) := by
      intro n16
      induction n16 with
      | zero =>
        intro z_length_L16 z_bytes_L16 v2_L16 hI
        exact absurd hI (by rintro ⟨j, h1, h2, h3⟩; omega)
      | succ n16 ih_16 =>
        intro z_length_L16 z_bytes_L16 v2_L16 hI H locs hP hD hS ls hl hF
        rw [fn_X5_append_L16] at hF
        obtain ⟨j, ev, hn, hz0, hz1⟩ := hI
        refine lv_iload_n hx hb dX5_append_16 rfl (lv_at hl 2 rfl) ?_
        refine lv_if_lt (tgt := 49) hx hb dX5_append_17 (by decide) (fun c_17 => ?_) (fun c_17 => ?_)
        · have hF := ite_t c_17 hF
          refine lv_iconst (v := 1) hx hb dX5_append_49 (by decide) ?_
          have hP9 := hP.sub (ws' := [(h0, .inr (5, [.ref h_bytes, .int z_length_L16])), (h_bytes, .inl (cB, 96, .inl z_bytes_L16))]) [0, 1] rfl
          have hD9 := hD.sub (ws' := [(h0, .inr (5, [.ref h_bytes, .int z_length_L16])), (h_bytes, .inl (cB, 96, .inl z_bytes_L16))]) [0, 1] (by decide) rfl
          subst hAe
          exact W.zret (v := 1) (ty := .boolean) hx hb hr (by first | rfl | assumption) (fun t ht hW => ⟨⟨1, (z_length_L16, z_bytes_L16), rfl, ⟨hFR.symm.trans hF, (by first | rfl | assumption)⟩, by rw [ht]; exact hP9, va_K.moved hW.alike hK, hD9⟩, hS.F ht⟩) hS.2.2 dX5_append_50
        · have hF := ite_f c_17 hF
          have q17 : (0 : Int32).toInt ≤ (v2_L16).toInt := q_nlt c_17
          have q18 : (0 : Int32).toInt = 0 := by decide
          refine lv_aload_n hx hb dX5_append_20 rfl (lv_at hl 0 rfl) ?_
          refine va_get (D := (dC, dI)) (ci := 5) (v := .ref h_bytes) (C := RX5) (T := TX5) (N := 2) hx hb hts (by decide +kernel) hown hK hP 0 rfl rfl 0 (by decide) (hts (.fieldLink RX5 9 "ShredStore$Tape" "bytes" "[B") (by decide +kernel)) (fun _ h9 => h9) rfl dX5_append_21 ?_
          refine lv_aload_n hx hb dX5_append_24 rfl (lv_at hl 0 rfl) ?_
          refine va_get (D := (dC, dI)) (ci := 5) (v := .int z_length_L16) (C := RX5) (T := TX5) (N := 2) hx hb hts (by decide +kernel) hown hK hP 0 rfl rfl 1 (by decide) (hts (.fieldLink RX5 15 "ShredStore$Tape" "length" "I") (by decide +kernel)) (fun _ h9 => h9) rfl dX5_append_25 ?_
          refine lv_iload_n hx hb dX5_append_28 rfl (lv_at hl 1 rfl) ?_
          refine lv_iload_n hx hb dX5_append_29 rfl (lv_at hl 2 rfl) ?_
          refine lv_iushr (v := (ju_iushr v1 v2_L16)) hx hb dX5_append_30 rfl ?_
          refine lv_i2b (v := ((ju_iushr v1 v2_L16) : Int32).toInt8.toInt32) hx hb dX5_append_31 rfl ?_
          have hr_32 : vp_in z_length_L16 96 := by exact q_in (by omega) (by omega)
          refine va_bast hx hb hK hP hD hS 1 2 rfl rfl hr_32 dX5_append_32 (fun H locs hP hD hS => ?_)
          have hP : va_P (dC, dI) vwCl [(h0, .inr (5, [.ref h_bytes, .int z_length_L16])), (h_bytes, .inl (cB, 96, .inl (upd z_bytes_L16 (z_length_L16 : Int32).toNatClampNeg (vp_nar .byte (((ju_iushr v1 v2_L16) : Int32).toInt8.toInt32)))))] H := hP
          have hD : va_D A [(h0, .inr (5, [.ref h_bytes, .int z_length_L16])), (h_bytes, .inl (cB, 96, .inl (upd z_bytes_L16 (z_length_L16 : Int32).toNatClampNeg (vp_nar .byte (((ju_iushr v1 v2_L16) : Int32).toInt8.toInt32)))))] := hD
          refine lv_aload_n hx hb dX5_append_33 rfl (lv_at hl 0 rfl) ?_
          refine lv_dup hx hb dX5_append_34 rfl ?_
          refine va_get (D := (dC, dI)) (ci := 5) (v := .int z_length_L16) (C := RX5) (T := TX5) (N := 2) hx hb hts (by decide +kernel) hown hK hP 0 rfl rfl 1 (by decide) (hts (.fieldLink RX5 15 "ShredStore$Tape" "length" "I") (by decide +kernel)) (fun _ h9 => h9) rfl dX5_append_35 ?_
          refine lv_iconst (v := 1) hx hb dX5_append_38 (by decide) ?_
          refine lv_iadd hx hb dX5_append_39 ?_
          refine va_put (D := (dC, dI)) (ci := 5) (v := .int (z_length_L16 + 1)) (ty := .int) (C := RX5) (T := TX5) (N := 2) hx hb hts (by decide +kernel) tyX5 tyX5_ok nmX5 hown hK hP hD hS 0 rfl rfl 1 (by decide) (hts (.fieldLink RX5 15 "ShredStore$Tape" "length" "I") (by decide +kernel)) (fun _ h9 => h9) rfl (by decide +kernel) rfl rfl (Nat.le_of_ble_eq_true rfl) dX5_append_40 (fun H locs hP hD hS => ?_)
          have hP : va_P (dC, dI) vwCl [(h0, .inr (5, [.ref h_bytes, .int (z_length_L16 + 1)])), (h_bytes, .inl (cB, 96, .inl (upd z_bytes_L16 (z_length_L16 : Int32).toNatClampNeg (vp_nar .byte (((ju_iushr v1 v2_L16) : Int32).toInt8.toInt32)))))] H := hP
          have hD : va_D A [(h0, .inr (5, [.ref h_bytes, .int (z_length_L16 + 1)])), (h_bytes, .inl (cB, 96, .inl (upd z_bytes_L16 (z_length_L16 : Int32).toNatClampNeg (vp_nar .byte (((ju_iushr v1 v2_L16) : Int32).toInt8.toInt32)))))] := hD
          refine lv_iinc (v := (v2_L16 + (-8))) (lv' := [(2, .int (v2_L16 + (-8))), (0, .ref h0), (1, .int v1)]) hx hb dX5_append_43 hl (k := 2) rfl rfl (by decide) rfl (fun ls hl => ?_)
          refine lv_goto (tgt := 16) hx hb dX5_append_46 (by decide) ?_
          exact ih_16 (z_length_L16 + 1) (upd z_bytes_L16 (z_length_L16 : Int32).toNatClampNeg (vp_nar .byte (((ju_iushr v1 v2_L16) : Int32).toInt8.toInt32))) (v2_L16 + (-8)) (by exact q_apb (by omega) ev hn hz0 hz1) _ _ hP hD hS _ (lv_sub hl [1, 2, 0] rfl) hF
    exact lp_16 6 z_length z_bytes 24 (by exact ⟨4, by decide, by omega, hp0, by have q1 := q_ap hp0 hp1 c_8; omega⟩) _ _ hP hD hS _ (lv_sub hl [1, 2, 0] rfl) hF
  · have hF := ite_f c_8 hF
    refine lv_iconst (v := 0) hx hb dX5_append_11 (by decide) ?_
    have hP9 := hP.sub (ws' := [(h0, .inr (5, [.ref h_bytes, .int z_length])), (h_bytes, .inl (cB, 96, .inl z_bytes))]) [0, 1] rfl
    have hD9 := hD.sub (ws' := [(h0, .inr (5, [.ref h_bytes, .int z_length])), (h_bytes, .inl (cB, 96, .inl z_bytes))]) [0, 1] (by decide) rfl
    subst hAe
    exact W.zret (v := 0) (ty := .boolean) hx hb hr (by first | rfl | assumption) (fun t ht hW => ⟨⟨0, (z_length, z_bytes), rfl, ⟨hFR.symm.trans hF, (by first | rfl | assumption)⟩, by rw [ht]; exact hP9, va_K.moved hW.alike hK, hD9⟩, hS.F ht⟩) hS.2.2 dX5_append_12
set_option maxHeartbeats 4000000 in
set_option maxRecDepth 100000 in
theorem ct_X5_length (l : Launch) (dC : Nat → ClassId) (dI : Nat → Nat → Nat) (cJ cI cB cZ : ClassId) (h0 x_bytes : Nat) (z_length : Int32) (sz : Nat) : Met l yX5_length wsX5_length { frames := 0, cells := 0, slots := 0, locals := 0 } (va_Pc [.ref h0] (st_B (dC, dI) (ty4 cJ cI cB cZ) [(h0, .inr (5, [.ref x_bytes, .int z_length]))] sz)) (va_Qi (fun (r : Int32) (u : Unit) => fn_X5_length z_length = r) (fun (u : Unit) t => st_W (dC, dI) (ty4 cJ cI cB cZ) [(h0, .inr (5, [.ref x_bytes, .int z_length]))] sz [(h0, .inr (5, [.ref x_bytes, .int z_length]))] t) (va_A [(h0, .inr (5, [.ref x_bytes, .int z_length]))] sz)) 0 0 (va_A [(h0, .inr (5, [.ref x_bytes, .int z_length]))] sz) := by
  refine Met.ofW (cc := cX5_length) (maxL := 1) (ret := (some .int)) (by decide) rfl ?_
  intro p e s m args below meth c s₁ B hml hv
  obtain ⟨rfl, hsz, hP, hK, hD0, hN⟩ := hv
  have hx := B.exec
  have hb := B.bytes
  have hr := B.returns
  have hts := atoms_spec (ws := wsX5_length) B.pre
  have hown : s.vm.findClass RX5 = some m.cls := findClass_of_methodNamed B.named
  have hlocks := B.notSynchronized
  subst hsz
  obtain ⟨A, hAe⟩ : ∃ z, z = va_A [(h0, .inr (5, [.ref x_bytes, .int z_length]))] s.heap.size := ⟨_, rfl⟩
  have hD : va_D A [(h0, .inr (5, [.ref x_bytes, .int z_length]))] := by rw [hAe]; exact hD0.self
  have hA : ∀ q : Nat, s.heap.size ≤ q → A q := fun q h => by rw [hAe]; exact Or.inr h
  have hS : va_S A s.heap s.heap [] := va_S.rf
  have hP : va_P (dC, dI) vwCl [(h0, .inr (5, [.ref x_bytes, .int z_length]))] s.heap := hP
  have hl := lv_entry ([.ref h0]) (n := 1) (Nat.le_of_ble_eq_true rfl)
  rw [lg_entry_eq]
  generalize (lg_sl ([.ref h0]) ++ List.replicate (1 - (lg_sl ([.ref h0])).length) Slot.unset).toArray = ls at hl ⊢
  have hl : lv_has ls 1 [(0, .ref h0)] := hl
  obtain ⟨FR, hFR⟩ : ∃ z, z = fn_X5_length z_length := ⟨_, rfl⟩
  have hF := hFR
  unfold fn_X5_length at hF
  refine lv_aload_n hx hb dX5_length_0 rfl (lv_at hl 0 rfl) ?_
  refine va_get (D := (dC, dI)) (ci := 5) (v := .int z_length) (C := RX5) (T := TX5) (N := 2) hx hb hts (by decide +kernel) hown hK hP 0 rfl rfl 1 (by decide) (hts (.fieldLink RX5 15 "ShredStore$Tape" "length" "I") (by decide +kernel)) (fun _ h9 => h9) rfl dX5_length_1 ?_
  have hP9 := hP.sub (ws' := [(h0, .inr (5, [.ref x_bytes, .int z_length]))]) [0] rfl
  have hD9 := hD.sub (ws' := [(h0, .inr (5, [.ref x_bytes, .int z_length]))]) [0] (by decide) rfl
  subst hAe
  exact W.iret (v := z_length) hx hb hr (fun t ht hW => ⟨⟨z_length, (), rfl, hFR.symm.trans hF, by rw [ht]; exact hP9, va_K.moved hW.alike hK, hD9⟩, hS.F ht⟩) hS.2.2 dX5_length_4
set_option maxHeartbeats 4000000 in
set_option maxRecDepth 100000 in
theorem ct_X8_isObject (l : Launch) (dC : Nat → ClassId) (dI : Nat → Nat → Nat) (cJ cI cB cZ : ClassId) (v0 : Int32) (sz : Nat) : Met l yX8_isObject wsX8_isObject { frames := 0, cells := 0, slots := 0, locals := 0 } (va_Pc [.int v0] (st_B (dC, dI) (ty4 cJ cI cB cZ) [] sz)) (va_Qi (fun (r : Int32) (u : Unit) => fn_X8_isObject v0 = r ∧ narrow .boolean (.int r) = .int r) (fun (u : Unit) t => st_W (dC, dI) (ty4 cJ cI cB cZ) [] sz [] t) (va_A [] sz)) 0 0 (va_A [] sz) := by
  refine Met.ofW (cc := cX8_isObject) (maxL := 1) (ret := (some .boolean)) (by decide) rfl ?_
  intro p e s m args below meth c s₁ B hml hv
  obtain ⟨rfl, hsz, hP, hK, hD0, hN⟩ := hv
  have hx := B.exec
  have hb := B.bytes
  have hr := B.returns
  have hts := atoms_spec (ws := wsX8_isObject) B.pre
  have hown : s.vm.findClass RX8 = some m.cls := findClass_of_methodNamed B.named
  have hlocks := B.notSynchronized
  subst hsz
  obtain ⟨A, hAe⟩ : ∃ z, z = va_A [] s.heap.size := ⟨_, rfl⟩
  have hD : va_D A [] := by rw [hAe]; exact hD0.self
  have hA : ∀ q : Nat, s.heap.size ≤ q → A q := fun q h => by rw [hAe]; exact Or.inr h
  have hS : va_S A s.heap s.heap [] := va_S.rf
  have hP : va_P (dC, dI) vwCl [] s.heap := hP
  have hl := lv_entry ([.int v0]) (n := 1) (Nat.le_of_ble_eq_true rfl)
  rw [lg_entry_eq]
  generalize (lg_sl ([.int v0]) ++ List.replicate (1 - (lg_sl ([.int v0])).length) Slot.unset).toArray = ls at hl ⊢
  have hl : lv_has ls 1 [(0, .int v0)] := hl
  obtain ⟨FR, hFR⟩ : ∃ z, z = fn_X8_isObject v0 := ⟨_, rfl⟩
  have hF := hFR
  unfold fn_X8_isObject at hF
  refine lv_iload_n hx hb dX8_isObject_0 rfl (lv_at hl 0 rfl) ?_
  refine lv_if_lt (tgt := 14) hx hb dX8_isObject_1 (by decide) (fun c_1 => ?_) (fun c_1 => ?_)
  · have hF := ite_t c_1 hF
    refine lv_iconst (v := 0) hx hb dX8_isObject_14 (by decide) ?_
    have hP9 := hP.sub (ws' := []) [] rfl
    have hD9 := hD.sub (ws' := []) [] (by decide) rfl
    subst hAe
    exact W.zret (v := 0) (ty := .boolean) hx hb hr (by first | rfl | assumption) (fun t ht hW => ⟨⟨0, (), rfl, ⟨hFR.symm.trans hF, (by first | rfl | assumption)⟩, by rw [ht]; exact hP9, va_K.moved hW.alike hK, hD9⟩, hS.F ht⟩) hS.2.2 dX8_isObject_15
  · have hF := ite_f c_1 hF
    refine lv_iload_n hx hb dX8_isObject_4 rfl (lv_at hl 0 rfl) ?_
    refine lv_bipush (v := 64) hx hb dX8_isObject_5 (by decide) ?_
    refine lv_icmp_ge (tgt := 14) hx hb dX8_isObject_7 (by decide) (fun c_7 => ?_) (fun c_7 => ?_)
    · have hF := ite_t c_7 hF
      refine lv_iconst (v := 0) hx hb dX8_isObject_14 (by decide) ?_
      have hP9 := hP.sub (ws' := []) [] rfl
      have hD9 := hD.sub (ws' := []) [] (by decide) rfl
      subst hAe
      exact W.zret (v := 0) (ty := .boolean) hx hb hr (by first | rfl | assumption) (fun t ht hW => ⟨⟨0, (), rfl, ⟨hFR.symm.trans hF, (by first | rfl | assumption)⟩, by rw [ht]; exact hP9, va_K.moved hW.alike hK, hD9⟩, hS.F ht⟩) hS.2.2 dX8_isObject_15
    · have hF := ite_f c_7 hF
      refine lv_iconst (v := 1) hx hb dX8_isObject_10 (by decide) ?_
      refine lv_goto (tgt := 15) hx hb dX8_isObject_11 (by decide) ?_
      have hP9 := hP.sub (ws' := []) [] rfl
      have hD9 := hD.sub (ws' := []) [] (by decide) rfl
      subst hAe
      exact W.zret (v := 1) (ty := .boolean) hx hb hr (by first | rfl | assumption) (fun t ht hW => ⟨⟨1, (), rfl, ⟨hFR.symm.trans hF, (by first | rfl | assumption)⟩, by rw [ht]; exact hP9, va_K.moved hW.alike hK, hD9⟩, hS.F ht⟩) hS.2.2 dX8_isObject_15
set_option maxHeartbeats 4000000 in
set_option maxRecDepth 100000 in
theorem ct_X5_has (l : Launch) (dC : Nat → ClassId) (dI : Nat → Nat → Nat) (cJ cI cB cZ : ClassId) (h0 x_bytes : Nat) (z_length : Int32) (v1 : Int32) (sz : Nat) : Met l yX5_has wsX5_has { frames := 0, cells := 0, slots := 0, locals := 0 } (va_Pc [.ref h0, .int v1] (st_B (dC, dI) (ty4 cJ cI cB cZ) [(h0, .inr (5, [.ref x_bytes, .int z_length]))] sz)) (va_Qi (fun (r : Int32) (u : Unit) => fn_X5_has z_length v1 = r ∧ narrow .boolean (.int r) = .int r) (fun (u : Unit) t => st_W (dC, dI) (ty4 cJ cI cB cZ) [(h0, .inr (5, [.ref x_bytes, .int z_length]))] sz [(h0, .inr (5, [.ref x_bytes, .int z_length]))] t) (va_A [(h0, .inr (5, [.ref x_bytes, .int z_length]))] sz)) 0 0 (va_A [(h0, .inr (5, [.ref x_bytes, .int z_length]))] sz) := by
  refine Met.ofW (cc := cX5_has) (maxL := 2) (ret := (some .boolean)) (by decide) rfl ?_
  intro p e s m args below meth c s₁ B hml hv
  obtain ⟨rfl, hsz, hP, hK, hD0, hN⟩ := hv
  have hx := B.exec
  have hb := B.bytes
  have hr := B.returns
  have hts := atoms_spec (ws := wsX5_has) B.pre
  have hown : s.vm.findClass RX5 = some m.cls := findClass_of_methodNamed B.named
  have hlocks := B.notSynchronized
  subst hsz
  obtain ⟨A, hAe⟩ : ∃ z, z = va_A [(h0, .inr (5, [.ref x_bytes, .int z_length]))] s.heap.size := ⟨_, rfl⟩
  have hD : va_D A [(h0, .inr (5, [.ref x_bytes, .int z_length]))] := by rw [hAe]; exact hD0.self
  have hA : ∀ q : Nat, s.heap.size ≤ q → A q := fun q h => by rw [hAe]; exact Or.inr h
  have hS : va_S A s.heap s.heap [] := va_S.rf
  have hP : va_P (dC, dI) vwCl [(h0, .inr (5, [.ref x_bytes, .int z_length]))] s.heap := hP
  have hl := lv_entry ([.ref h0, .int v1]) (n := 2) (Nat.le_of_ble_eq_true rfl)
  rw [lg_entry_eq]
  generalize (lg_sl ([.ref h0, .int v1]) ++ List.replicate (2 - (lg_sl ([.ref h0, .int v1])).length) Slot.unset).toArray = ls at hl ⊢
  have hl : lv_has ls 2 [(0, .ref h0), (1, .int v1)] := hl
  obtain ⟨FR, hFR⟩ : ∃ z, z = fn_X5_has z_length v1 := ⟨_, rfl⟩
  have hF := hFR
  unfold fn_X5_has at hF
  refine lv_iload_n hx hb dX5_has_0 rfl (lv_at hl 1 rfl) ?_
  refine lv_if_lt (tgt := 16) hx hb dX5_has_1 (by decide) (fun c_1 => ?_) (fun c_1 => ?_)
  · have hF := ite_t c_1 hF
    refine lv_iconst (v := 0) hx hb dX5_has_16 (by decide) ?_
    have hP9 := hP.sub (ws' := [(h0, .inr (5, [.ref x_bytes, .int z_length]))]) [0] rfl
    have hD9 := hD.sub (ws' := [(h0, .inr (5, [.ref x_bytes, .int z_length]))]) [0] (by decide) rfl
    subst hAe
    exact W.zret (v := 0) (ty := .boolean) hx hb hr (by first | rfl | assumption) (fun t ht hW => ⟨⟨0, (), rfl, ⟨hFR.symm.trans hF, (by first | rfl | assumption)⟩, by rw [ht]; exact hP9, va_K.moved hW.alike hK, hD9⟩, hS.F ht⟩) hS.2.2 dX5_has_17
  · have hF := ite_f c_1 hF
    refine lv_iload_n hx hb dX5_has_4 rfl (lv_at hl 1 rfl) ?_
    refine lv_aload_n hx hb dX5_has_5 rfl (lv_at hl 0 rfl) ?_
    refine va_get (D := (dC, dI)) (ci := 5) (v := .int z_length) (C := RX5) (T := TX5) (N := 2) hx hb hts (by decide +kernel) hown hK hP 0 rfl rfl 1 (by decide) (hts (.fieldLink RX5 15 "ShredStore$Tape" "length" "I") (by decide +kernel)) (fun _ h9 => h9) rfl dX5_has_6 ?_
    refine lv_icmp_gt (tgt := 16) hx hb dX5_has_9 (by decide) (fun c_9 => ?_) (fun c_9 => ?_)
    · have hF := ite_t c_9 hF
      refine lv_iconst (v := 0) hx hb dX5_has_16 (by decide) ?_
      have hP9 := hP.sub (ws' := [(h0, .inr (5, [.ref x_bytes, .int z_length]))]) [0] rfl
      have hD9 := hD.sub (ws' := [(h0, .inr (5, [.ref x_bytes, .int z_length]))]) [0] (by decide) rfl
      subst hAe
      exact W.zret (v := 0) (ty := .boolean) hx hb hr (by first | rfl | assumption) (fun t ht hW => ⟨⟨0, (), rfl, ⟨hFR.symm.trans hF, (by first | rfl | assumption)⟩, by rw [ht]; exact hP9, va_K.moved hW.alike hK, hD9⟩, hS.F ht⟩) hS.2.2 dX5_has_17
    · have hF := ite_f c_9 hF
      refine lv_iconst (v := 1) hx hb dX5_has_12 (by decide) ?_
      refine lv_goto (tgt := 17) hx hb dX5_has_13 (by decide) ?_
      have hP9 := hP.sub (ws' := [(h0, .inr (5, [.ref x_bytes, .int z_length]))]) [0] rfl
      have hD9 := hD.sub (ws' := [(h0, .inr (5, [.ref x_bytes, .int z_length]))]) [0] (by decide) rfl
      subst hAe
      exact W.zret (v := 1) (ty := .boolean) hx hb hr (by first | rfl | assumption) (fun t ht hW => ⟨⟨1, (), rfl, ⟨hFR.symm.trans hF, (by first | rfl | assumption)⟩, by rw [ht]; exact hP9, va_K.moved hW.alike hK, hD9⟩, hS.F ht⟩) hS.2.2 dX5_has_17
set_option maxHeartbeats 4000000 in
set_option maxRecDepth 100000 in
theorem ct_X2_length (l : Launch) (dC : Nat → ClassId) (dI : Nat → Nat → Nat) (cJ cI cB cZ : ClassId) (h0 x_keys x_remembered : Nat) (z_length : Int32) (z_rememberedLength : Int32) (sz : Nat) : Met l yX2_length wsX2_length { frames := 0, cells := 0, slots := 0, locals := 0 } (va_Pc [.ref h0] (st_B (dC, dI) (ty4 cJ cI cB cZ) [(h0, .inr (2, [.ref x_keys, .int z_length, .ref x_remembered, .int z_rememberedLength]))] sz)) (va_Qi (fun (r : Int32) (u : Unit) => fn_X2_length z_length = r) (fun (u : Unit) t => st_W (dC, dI) (ty4 cJ cI cB cZ) [(h0, .inr (2, [.ref x_keys, .int z_length, .ref x_remembered, .int z_rememberedLength]))] sz [(h0, .inr (2, [.ref x_keys, .int z_length, .ref x_remembered, .int z_rememberedLength]))] t) (va_A [(h0, .inr (2, [.ref x_keys, .int z_length, .ref x_remembered, .int z_rememberedLength]))] sz)) 0 0 (va_A [(h0, .inr (2, [.ref x_keys, .int z_length, .ref x_remembered, .int z_rememberedLength]))] sz) := by
  refine Met.ofW (cc := cX2_length) (maxL := 1) (ret := (some .int)) (by decide) rfl ?_
  intro p e s m args below meth c s₁ B hml hv
  obtain ⟨rfl, hsz, hP, hK, hD0, hN⟩ := hv
  have hx := B.exec
  have hb := B.bytes
  have hr := B.returns
  have hts := atoms_spec (ws := wsX2_length) B.pre
  have hown : s.vm.findClass RX2 = some m.cls := findClass_of_methodNamed B.named
  have hlocks := B.notSynchronized
  subst hsz
  obtain ⟨A, hAe⟩ : ∃ z, z = va_A [(h0, .inr (2, [.ref x_keys, .int z_length, .ref x_remembered, .int z_rememberedLength]))] s.heap.size := ⟨_, rfl⟩
  have hD : va_D A [(h0, .inr (2, [.ref x_keys, .int z_length, .ref x_remembered, .int z_rememberedLength]))] := by rw [hAe]; exact hD0.self
  have hA : ∀ q : Nat, s.heap.size ≤ q → A q := fun q h => by rw [hAe]; exact Or.inr h
  have hS : va_S A s.heap s.heap [] := va_S.rf
  have hP : va_P (dC, dI) vwCl [(h0, .inr (2, [.ref x_keys, .int z_length, .ref x_remembered, .int z_rememberedLength]))] s.heap := hP
  have hl := lv_entry ([.ref h0]) (n := 1) (Nat.le_of_ble_eq_true rfl)
  rw [lg_entry_eq]
  generalize (lg_sl ([.ref h0]) ++ List.replicate (1 - (lg_sl ([.ref h0])).length) Slot.unset).toArray = ls at hl ⊢
  have hl : lv_has ls 1 [(0, .ref h0)] := hl
  obtain ⟨FR, hFR⟩ : ∃ z, z = fn_X2_length z_length := ⟨_, rfl⟩
  have hF := hFR
  unfold fn_X2_length at hF
  refine lv_aload_n hx hb dX2_length_0 rfl (lv_at hl 0 rfl) ?_
  refine va_get (D := (dC, dI)) (ci := 2) (v := .int z_length) (C := RX2) (T := TX2) (N := 4) hx hb hts (by decide +kernel) hown hK hP 0 rfl rfl 1 (by decide) (hts (.fieldLink RX2 15 "ShredStore$KeyRow" "length" "I") (by decide +kernel)) (fun _ h9 => h9) rfl dX2_length_1 ?_
  have hP9 := hP.sub (ws' := [(h0, .inr (2, [.ref x_keys, .int z_length, .ref x_remembered, .int z_rememberedLength]))]) [0] rfl
  have hD9 := hD.sub (ws' := [(h0, .inr (2, [.ref x_keys, .int z_length, .ref x_remembered, .int z_rememberedLength]))]) [0] (by decide) rfl
  subst hAe
  exact W.iret (v := z_length) hx hb hr (fun t ht hW => ⟨⟨z_length, (), rfl, hFR.symm.trans hF, by rw [ht]; exact hP9, va_K.moved hW.alike hK, hD9⟩, hS.F ht⟩) hS.2.2 dX2_length_4
set_option maxHeartbeats 4000000 in
set_option maxRecDepth 100000 in
theorem ct_X8_isPage (l : Launch) (dC : Nat → ClassId) (dI : Nat → Nat → Nat) (cJ cI cB cZ : ClassId) (v0 : Int32) (sz : Nat) : Met l yX8_isPage wsX8_isPage { frames := 0, cells := 0, slots := 0, locals := 0 } (va_Pc [.int v0] (st_B (dC, dI) (ty4 cJ cI cB cZ) [] sz)) (va_Qi (fun (r : Int32) (u : Unit) => fn_X8_isPage v0 = r ∧ narrow .boolean (.int r) = .int r) (fun (u : Unit) t => st_W (dC, dI) (ty4 cJ cI cB cZ) [] sz [] t) (va_A [] sz)) 0 0 (va_A [] sz) := by
  refine Met.ofW (cc := cX8_isPage) (maxL := 1) (ret := (some .boolean)) (by decide) rfl ?_
  intro p e s m args below meth c s₁ B hml hv
  obtain ⟨rfl, hsz, hP, hK, hD0, hN⟩ := hv
  have hx := B.exec
  have hb := B.bytes
  have hr := B.returns
  have hts := atoms_spec (ws := wsX8_isPage) B.pre
  have hown : s.vm.findClass RX8 = some m.cls := findClass_of_methodNamed B.named
  have hlocks := B.notSynchronized
  subst hsz
  obtain ⟨A, hAe⟩ : ∃ z, z = va_A [] s.heap.size := ⟨_, rfl⟩
  have hD : va_D A [] := by rw [hAe]; exact hD0.self
  have hA : ∀ q : Nat, s.heap.size ≤ q → A q := fun q h => by rw [hAe]; exact Or.inr h
  have hS : va_S A s.heap s.heap [] := va_S.rf
  have hP : va_P (dC, dI) vwCl [] s.heap := hP
  have hl := lv_entry ([.int v0]) (n := 1) (Nat.le_of_ble_eq_true rfl)
  rw [lg_entry_eq]
  generalize (lg_sl ([.int v0]) ++ List.replicate (1 - (lg_sl ([.int v0])).length) Slot.unset).toArray = ls at hl ⊢
  have hl : lv_has ls 1 [(0, .int v0)] := hl
  obtain ⟨FR, hFR⟩ : ∃ z, z = fn_X8_isPage v0 := ⟨_, rfl⟩
  have hF := hFR
  unfold fn_X8_isPage at hF
  refine lv_iload_n hx hb dX8_isPage_0 rfl (lv_at hl 0 rfl) ?_
  refine lv_if_lt (tgt := 15) hx hb dX8_isPage_1 (by decide) (fun c_1 => ?_) (fun c_1 => ?_)
  · have hF := ite_t c_1 hF
    refine lv_iconst (v := 0) hx hb dX8_isPage_15 (by decide) ?_
    have hP9 := hP.sub (ws' := []) [] rfl
    have hD9 := hD.sub (ws' := []) [] (by decide) rfl
    subst hAe
    exact W.zret (v := 0) (ty := .boolean) hx hb hr (by first | rfl | assumption) (fun t ht hW => ⟨⟨0, (), rfl, ⟨hFR.symm.trans hF, (by first | rfl | assumption)⟩, by rw [ht]; exact hP9, va_K.moved hW.alike hK, hD9⟩, hS.F ht⟩) hS.2.2 dX8_isPage_16
  · have hF := ite_f c_1 hF
    refine lv_iload_n hx hb dX8_isPage_4 rfl (lv_at hl 0 rfl) ?_
    refine lv_sipush (v := 200) hx hb dX8_isPage_5 (by decide) ?_
    refine lv_icmp_ge (tgt := 15) hx hb dX8_isPage_8 (by decide) (fun c_8 => ?_) (fun c_8 => ?_)
    · have hF := ite_t c_8 hF
      refine lv_iconst (v := 0) hx hb dX8_isPage_15 (by decide) ?_
      have hP9 := hP.sub (ws' := []) [] rfl
      have hD9 := hD.sub (ws' := []) [] (by decide) rfl
      subst hAe
      exact W.zret (v := 0) (ty := .boolean) hx hb hr (by first | rfl | assumption) (fun t ht hW => ⟨⟨0, (), rfl, ⟨hFR.symm.trans hF, (by first | rfl | assumption)⟩, by rw [ht]; exact hP9, va_K.moved hW.alike hK, hD9⟩, hS.F ht⟩) hS.2.2 dX8_isPage_16
    · have hF := ite_f c_8 hF
      refine lv_iconst (v := 1) hx hb dX8_isPage_11 (by decide) ?_
      refine lv_goto (tgt := 16) hx hb dX8_isPage_12 (by decide) ?_
      have hP9 := hP.sub (ws' := []) [] rfl
      have hD9 := hD.sub (ws' := []) [] (by decide) rfl
      subst hAe
      exact W.zret (v := 1) (ty := .boolean) hx hb hr (by first | rfl | assumption) (fun t ht hW => ⟨⟨1, (), rfl, ⟨hFR.symm.trans hF, (by first | rfl | assumption)⟩, by rw [ht]; exact hP9, va_K.moved hW.alike hK, hD9⟩, hS.F ht⟩) hS.2.2 dX8_isPage_16
set_option maxHeartbeats 4000000 in
set_option maxRecDepth 100000 in
theorem ct_X8_padOf (l : Launch) (dC : Nat → ClassId) (dI : Nat → Nat → Nat) (cJ cI cB cZ : ClassId) (v0 : Int64) (v2 : Int64) (v4 : Int64) (sz : Nat) : Met l yX8_padOf wsX8_padOf { frames := 0, cells := 0, slots := 0, locals := 0 } (va_Pc [.long v0, .long v2, .long v4] (st_B (dC, dI) (ty4 cJ cI cB cZ) [] sz)) (va_Ql (fun (r : Int64) (u : Unit) => fn_X8_padOf v0 v2 v4 = r) (fun (u : Unit) t => st_W (dC, dI) (ty4 cJ cI cB cZ) [] sz [] t) (va_A [] sz)) 0 0 (va_A [] sz) := by
  refine Met.ofW (cc := cX8_padOf) (maxL := 8) (ret := (some .long)) (by decide) rfl ?_
  intro p e s m args below meth c s₁ B hml hv
  obtain ⟨rfl, hsz, hP, hK, hD0, hN⟩ := hv
  have hx := B.exec
  have hb := B.bytes
  have hr := B.returns
  have hts := atoms_spec (ws := wsX8_padOf) B.pre
  have hown : s.vm.findClass RX8 = some m.cls := findClass_of_methodNamed B.named
  have hlocks := B.notSynchronized
  subst hsz
  obtain ⟨A, hAe⟩ : ∃ z, z = va_A [] s.heap.size := ⟨_, rfl⟩
  have hD : va_D A [] := by rw [hAe]; exact hD0.self
  have hA : ∀ q : Nat, s.heap.size ≤ q → A q := fun q h => by rw [hAe]; exact Or.inr h
  have hS : va_S A s.heap s.heap [] := va_S.rf
  have hP : va_P (dC, dI) vwCl [] s.heap := hP
  have hl := lv_entry ([.long v0, .long v2, .long v4]) (n := 8) (Nat.le_of_ble_eq_true rfl)
  rw [lg_entry_eq]
  generalize (lg_sl ([.long v0, .long v2, .long v4]) ++ List.replicate (8 - (lg_sl ([.long v0, .long v2, .long v4])).length) Slot.unset).toArray = ls at hl ⊢
  have hl : lv_has ls 8 [(0, .long v0), (2, .long v2), (4, .long v4)] := hl
  obtain ⟨FR, hFR⟩ : ∃ z, z = fn_X8_padOf v0 v2 v4 := ⟨_, rfl⟩
  have hF := hFR
  unfold fn_X8_padOf at hF
  refine lv_lload_n hx hb dX8_padOf_0 rfl (lv_at hl 0 rfl) ?_
  refine lv_ldc2 (v := 7046029254386353131) hx hb hown (hts (.constantLong RX8 184 7046029254386353131) (by decide +kernel)) dX8_padOf_1 ?_
  refine lv_lload_n hx hb dX8_padOf_4 rfl (lv_at hl 1 rfl) ?_
  refine lv_lmul hx hb dX8_padOf_5 ?_
  refine lv_ladd hx hb dX8_padOf_6 ?_
  refine lv_ldc2 (v := 2862933555777941757) hx hb hown (hts (.constantLong RX8 186 2862933555777941757) (by decide +kernel)) dX8_padOf_7 ?_
  refine lv_lload hx hb dX8_padOf_10 (lv_at hl 2 rfl) ?_
  refine lv_lmul hx hb dX8_padOf_12 ?_
  refine lv_ladd hx hb dX8_padOf_13 ?_
  refine lv_lstore (lv' := [(6, .long ((v0 + (7046029254386353131 * v2)) + (2862933555777941757 * v4))), (0, .long v0), (2, .long v2), (4, .long v4)]) hx hb dX8_padOf_14 hl (by decide) rfl (fun ls hl => ?_)
  refine lv_lload hx hb dX8_padOf_16 (lv_at hl 0 rfl) ?_
  refine lv_lload hx hb dX8_padOf_18 (lv_at hl 0 rfl) ?_
  refine lv_bipush (v := 29) hx hb dX8_padOf_20 (by decide) ?_
  refine lv_lushr (v := (ju_lushr ((v0 + (7046029254386353131 * v2)) + (2862933555777941757 * v4)) 29)) hx hb dX8_padOf_22 rfl ?_
  refine lv_lxor hx hb dX8_padOf_23 ?_
  refine lv_ldc2 (v := 4768777513237032717) hx hb hown (hts (.constantLong RX8 188 4768777513237032717) (by decide +kernel)) dX8_padOf_24 ?_
  refine lv_lmul hx hb dX8_padOf_27 ?_
  refine lv_lstore (lv' := [(6, .long ((((v0 + (7046029254386353131 * v2)) + (2862933555777941757 * v4)) ^^^ (ju_lushr ((v0 + (7046029254386353131 * v2)) + (2862933555777941757 * v4)) 29)) * 4768777513237032717)), (0, .long v0), (2, .long v2), (4, .long v4)]) hx hb dX8_padOf_28 hl (by decide) rfl (fun ls hl => ?_)
  refine lv_lload hx hb dX8_padOf_30 (lv_at hl 0 rfl) ?_
  refine lv_lload hx hb dX8_padOf_32 (lv_at hl 0 rfl) ?_
  refine lv_bipush (v := 32) hx hb dX8_padOf_34 (by decide) ?_
  refine lv_lushr (v := (ju_lushr ((((v0 + (7046029254386353131 * v2)) + (2862933555777941757 * v4)) ^^^ (ju_lushr ((v0 + (7046029254386353131 * v2)) + (2862933555777941757 * v4)) 29)) * 4768777513237032717) 32)) hx hb dX8_padOf_36 rfl ?_
  refine lv_lxor hx hb dX8_padOf_37 ?_
  have hP9 := hP.sub (ws' := []) [] rfl
  have hD9 := hD.sub (ws' := []) [] (by decide) rfl
  subst hAe
  exact W.lret (v := (((((v0 + (7046029254386353131 * v2)) + (2862933555777941757 * v4)) ^^^ (ju_lushr ((v0 + (7046029254386353131 * v2)) + (2862933555777941757 * v4)) 29)) * 4768777513237032717) ^^^ (ju_lushr ((((v0 + (7046029254386353131 * v2)) + (2862933555777941757 * v4)) ^^^ (ju_lushr ((v0 + (7046029254386353131 * v2)) + (2862933555777941757 * v4)) 29)) * 4768777513237032717) 32))) hx hb hr (fun t ht hW => ⟨⟨(((((v0 + (7046029254386353131 * v2)) + (2862933555777941757 * v4)) ^^^ (ju_lushr ((v0 + (7046029254386353131 * v2)) + (2862933555777941757 * v4)) 29)) * 4768777513237032717) ^^^ (ju_lushr ((((v0 + (7046029254386353131 * v2)) + (2862933555777941757 * v4)) ^^^ (ju_lushr ((v0 + (7046029254386353131 * v2)) + (2862933555777941757 * v4)) 29)) * 4768777513237032717) 32)), (), rfl, hFR.symm.trans hF, by rw [ht]; exact hP9, va_K.moved hW.alike hK, hD9⟩, hS.F ht⟩) hS.2.2 dX8_padOf_38
set_option maxHeartbeats 4000000 in
set_option maxRecDepth 100000 in
theorem ct_X0_clear (l : Launch) (dC : Nat → ClassId) (dI : Nat → Nat → Nat) (cJ cI cB cZ : ClassId) (h0 h_words : Nat) (z_words : Nat → Int64) (sz : Nat) : Met l yX0_clear wsX0_clear { frames := 0, cells := 0, slots := 0, locals := 0 } (va_Pc [.ref h0] (st_B (dC, dI) (ty4 cJ cI cB cZ) [(h0, .inr (0, [.ref h_words])), (h_words, .inl (cJ, 7, .inr (.inl z_words)))] sz)) (va_Qv (fun (u : (Nat → Int64)) => fn_X0_clear z_words = u) (fun (u : (Nat → Int64)) t => st_W (dC, dI) (ty4 cJ cI cB cZ) [(h0, .inr (0, [.ref h_words])), (h_words, .inl (cJ, 7, .inr (.inl z_words)))] sz [(h0, .inr (0, [.ref h_words])), (h_words, .inl (cJ, 7, .inr (.inl u)))] t) (va_A [(h0, .inr (0, [.ref h_words])), (h_words, .inl (cJ, 7, .inr (.inl z_words)))] sz)) 0 0 (va_A [(h0, .inr (0, [.ref h_words])), (h_words, .inl (cJ, 7, .inr (.inl z_words)))] sz) := by
  refine Met.ofW (cc := cX0_clear) (maxL := 2) (ret := none) (by decide) rfl ?_
  intro p e s m args below meth c s₁ B hml hv
  obtain ⟨rfl, hsz, hP, hK, hD0, hN⟩ := hv
  have hx := B.exec
  have hb := B.bytes
  have hr := B.returns
  have hts := atoms_spec (ws := wsX0_clear) B.pre
  have hown : s.vm.findClass RX0 = some m.cls := findClass_of_methodNamed B.named
  have hlocks := B.notSynchronized
  subst hsz
  obtain ⟨A, hAe⟩ : ∃ z, z = va_A [(h0, .inr (0, [.ref h_words])), (h_words, .inl (cJ, 7, .inr (.inl z_words)))] s.heap.size := ⟨_, rfl⟩
  have hD : va_D A [(h0, .inr (0, [.ref h_words])), (h_words, .inl (cJ, 7, .inr (.inl z_words)))] := by rw [hAe]; exact hD0.self
  have hA : ∀ q : Nat, s.heap.size ≤ q → A q := fun q h => by rw [hAe]; exact Or.inr h
  have hS : va_S A s.heap s.heap [] := va_S.rf
  have hP : va_P (dC, dI) vwCl [(h0, .inr (0, [.ref h_words])), (h_words, .inl (cJ, 7, .inr (.inl z_words)))] s.heap := hP
  have hl := lv_entry ([.ref h0]) (n := 2) (Nat.le_of_ble_eq_true rfl)
  rw [lg_entry_eq]
  generalize (lg_sl ([.ref h0]) ++ List.replicate (2 - (lg_sl ([.ref h0])).length) Slot.unset).toArray = ls at hl ⊢
  have hl : lv_has ls 2 [(0, .ref h0)] := hl
  obtain ⟨FR, hFR⟩ : ∃ z, z = fn_X0_clear z_words := ⟨_, rfl⟩
  have hF := hFR
  unfold fn_X0_clear at hF
  refine lv_iconst (v := 0) hx hb dX0_clear_0 (by decide) ?_
  refine lv_istore_n (lv' := [(1, .int 0), (0, .ref h0)]) hx hb dX0_clear_1 rfl hl (by decide) rfl (fun ls hl => ?_)
  have lp_2 : ∀ (n2 : Nat) (z_words_L2 : Nat → Int64) (v1_L2 : Int32), (∃ j2 : Nat, v1_L2 = nI j2 ∧ j2 ≤ 7 ∧ 7 < j2 + n2) → ∀ (H : Heap) (locs : List Loc), va_P (dC, dI) vwCl [(h0, .inr (0, [.ref h_words])), (h_words, .inl (cJ, 7, .inr (.inl z_words_L2)))] H → va_D A [(h0, .inr (0, [.ref h_words])), (h_words, .inl (cJ, 7, .inr (.inl z_words_L2)))] → va_S A s.heap H locs → ∀ (ls : Array Slot), lv_has ls 2 [(0, .ref h0), (1, .int v1_L2)] → FR = fn_X0_clear_L2 n2 z_words_L2 v1_L2 → W p l e (headSpec wsX0_clear { frames := 0, cells := 0, slots := 0, locals := 0 }).room s m ([.ref h0] : List Value).toArray below meth c H locs 0 0 (MQ below (va_Qv (fun (u : (Nat → Int64)) => fn_X0_clear z_words = u) (fun (u : (Nat → Int64)) t => st_W (dC, dI) (ty4 cJ cI cB cZ) [(h0, .inr (0, [.ref h_words])), (h_words, .inl (cJ, 7, .inr (.inl z_words)))] s.heap.size [(h0, .inr (0, [.ref h_words])), (h_words, .inl (cJ, 7, .inr (.inl u)))] t) (va_A [(h0, .inr (0, [.ref h_words])), (h_words, .inl (cJ, 7, .inr (.inl z_words)))] s.heap.size)) ([.ref h0] : List Value).toArray s 0 0 (va_A [(h0, .inr (0, [.ref h_words])), (h_words, .inl (cJ, 7, .inr (.inl z_words)))] s.heap.size)) (F0 m 2 ls []) := by
    intro n2
    induction n2 with
    | zero =>
      intro z_words_L2 v1_L2 hI
      exact absurd hI (by rintro ⟨j, -, h1, h2⟩; omega)
    | succ n2 ih_2 =>
      intro z_words_L2 v1_L2 hI H locs hP hD hS ls hl hF
      rw [fn_X0_clear_L2] at hF
      obtain ⟨j2, ev2, hj2, hn2⟩ := hI
      refine lv_iload_n hx hb dX0_clear_2 rfl (lv_at hl 1 rfl) ?_
      refine lv_bipush (v := 7) hx hb dX0_clear_3 (by decide) ?_
      refine lv_icmp_ge (tgt := 21) hx hb dX0_clear_5 (by decide) (fun c_5 => ?_) (fun c_5 => ?_)
      · have hF := ite_t c_5 hF
        have hP9 := hP.sub (ws' := [(h0, .inr (0, [.ref h_words])), (h_words, .inl (cJ, 7, .inr (.inl z_words_L2)))]) [0, 1] rfl
        have hD9 := hD.sub (ws' := [(h0, .inr (0, [.ref h_words])), (h_words, .inl (cJ, 7, .inr (.inl z_words_L2)))]) [0, 1] (by decide) rfl
        subst hAe
        exact W.vret hx hb hr (fun t ht hW => ⟨⟨(z_words_L2), rfl, hFR.symm.trans hF, by rw [ht]; exact hP9, va_K.moved hW.alike hK, hD9⟩, hS.F ht⟩) hS.2.2 dX0_clear_21
      · have hF := ite_f c_5 hF
        have hlt2 : j2 < 7 := q_j ev2 (by omega) (by omega) c_5
        refine lv_aload_n hx hb dX0_clear_8 rfl (lv_at hl 0 rfl) ?_
        refine va_get (D := (dC, dI)) (ci := 0) (v := .ref h_words) (C := RX0) (T := TX0) (N := 1) hx hb hts (by decide +kernel) hown hK hP 0 rfl rfl 0 (by decide) (hts (.fieldLink RX0 9 "ShredStore$Body" "words" "[J") (by decide +kernel)) (fun _ h9 => h9) rfl dX0_clear_9 ?_
        refine lv_iload_n hx hb dX0_clear_12 rfl (lv_at hl 1 rfl) ?_
        refine lv_lconst (v := 0) hx hb dX0_clear_13 (by decide) ?_
        have hr_14 : vp_in v1_L2 7 := by rw [ev2]; exact vp_in_nI (by omega) (by decide)
        refine va_last hx hb hK hP hD hS 1 0 rfl rfl hr_14 dX0_clear_14 (fun H locs hP hD hS => ?_)
        have hP : va_P (dC, dI) vwCl [(h0, .inr (0, [.ref h_words])), (h_words, .inl (cJ, 7, .inr (.inl (vp_updL z_words_L2 (v1_L2 : Int32).toNatClampNeg 0))))] H := hP
        have hD : va_D A [(h0, .inr (0, [.ref h_words])), (h_words, .inl (cJ, 7, .inr (.inl (vp_updL z_words_L2 (v1_L2 : Int32).toNatClampNeg 0))))] := hD
        refine lv_iinc (v := (v1_L2 + 1)) (lv' := [(1, .int (v1_L2 + 1)), (0, .ref h0)]) hx hb dX0_clear_15 hl (k := 1) rfl rfl (by decide) rfl (fun ls hl => ?_)
        refine lv_goto (tgt := 2) hx hb dX0_clear_18 (by decide) ?_
        exact ih_2 (vp_updL z_words_L2 (v1_L2 : Int32).toNatClampNeg 0) (v1_L2 + 1) (by exact ⟨j2 + 1, by rw [ev2]; exact nI_1 j2, by omega, by omega⟩) _ _ hP hD hS _ (lv_sub hl [1, 0] rfl) hF
  exact lp_2 8 z_words 0 (by exact ⟨0, rfl, by omega, by omega⟩) _ _ hP hD hS _ (lv_sub hl [1, 0] rfl) hF
set_option maxHeartbeats 4000000 in
set_option maxRecDepth 100000 in
theorem ct_X0_setWord (l : Launch) (dC : Nat → ClassId) (dI : Nat → Nat → Nat) (cJ cI cB cZ : ClassId) (h0 h_words : Nat) (z_words : Nat → Int64) (v1 : Int32) (v2 : Int64) (sz : Nat) : Met l yX0_setWord wsX0_setWord { frames := 0, cells := 0, slots := 0, locals := 0 } (va_Pc [.ref h0, .int v1, .long v2] (st_B (dC, dI) (ty4 cJ cI cB cZ) [(h0, .inr (0, [.ref h_words])), (h_words, .inl (cJ, 7, .inr (.inl z_words)))] sz)) (va_Qv (fun (u : (Nat → Int64)) => fn_X0_setWord z_words v1 v2 = u) (fun (u : (Nat → Int64)) t => st_W (dC, dI) (ty4 cJ cI cB cZ) [(h0, .inr (0, [.ref h_words])), (h_words, .inl (cJ, 7, .inr (.inl z_words)))] sz [(h0, .inr (0, [.ref h_words])), (h_words, .inl (cJ, 7, .inr (.inl u)))] t) (va_A [(h0, .inr (0, [.ref h_words])), (h_words, .inl (cJ, 7, .inr (.inl z_words)))] sz)) 0 0 (va_A [(h0, .inr (0, [.ref h_words])), (h_words, .inl (cJ, 7, .inr (.inl z_words)))] sz) := by
  refine Met.ofW (cc := cX0_setWord) (maxL := 4) (ret := none) (by decide) rfl ?_
  intro p e s m args below meth c s₁ B hml hv
  obtain ⟨rfl, hsz, hP, hK, hD0, hN⟩ := hv
  have hx := B.exec
  have hb := B.bytes
  have hr := B.returns
  have hts := atoms_spec (ws := wsX0_setWord) B.pre
  have hown : s.vm.findClass RX0 = some m.cls := findClass_of_methodNamed B.named
  have hlocks := B.notSynchronized
  subst hsz
  obtain ⟨A, hAe⟩ : ∃ z, z = va_A [(h0, .inr (0, [.ref h_words])), (h_words, .inl (cJ, 7, .inr (.inl z_words)))] s.heap.size := ⟨_, rfl⟩
  have hD : va_D A [(h0, .inr (0, [.ref h_words])), (h_words, .inl (cJ, 7, .inr (.inl z_words)))] := by rw [hAe]; exact hD0.self
  have hA : ∀ q : Nat, s.heap.size ≤ q → A q := fun q h => by rw [hAe]; exact Or.inr h
  have hS : va_S A s.heap s.heap [] := va_S.rf
  have hP : va_P (dC, dI) vwCl [(h0, .inr (0, [.ref h_words])), (h_words, .inl (cJ, 7, .inr (.inl z_words)))] s.heap := hP
  have hl := lv_entry ([.ref h0, .int v1, .long v2]) (n := 4) (Nat.le_of_ble_eq_true rfl)
  rw [lg_entry_eq]
  generalize (lg_sl ([.ref h0, .int v1, .long v2]) ++ List.replicate (4 - (lg_sl ([.ref h0, .int v1, .long v2])).length) Slot.unset).toArray = ls at hl ⊢
  have hl : lv_has ls 4 [(0, .ref h0), (1, .int v1), (2, .long v2)] := hl
  obtain ⟨FR, hFR⟩ : ∃ z, z = fn_X0_setWord z_words v1 v2 := ⟨_, rfl⟩
  have hF := hFR
  unfold fn_X0_setWord at hF
  refine lv_iload_n hx hb dX0_setWord_0 rfl (lv_at hl 1 rfl) ?_
  refine lv_if_lt (tgt := 17) hx hb dX0_setWord_1 (by decide) (fun c_1 => ?_) (fun c_1 => ?_)
  · have hF := ite_t c_1 hF
    have hP9 := hP.sub (ws' := [(h0, .inr (0, [.ref h_words])), (h_words, .inl (cJ, 7, .inr (.inl z_words)))]) [0, 1] rfl
    have hD9 := hD.sub (ws' := [(h0, .inr (0, [.ref h_words])), (h_words, .inl (cJ, 7, .inr (.inl z_words)))]) [0, 1] (by decide) rfl
    subst hAe
    exact W.vret hx hb hr (fun t ht hW => ⟨⟨(z_words), rfl, hFR.symm.trans hF, by rw [ht]; exact hP9, va_K.moved hW.alike hK, hD9⟩, hS.F ht⟩) hS.2.2 dX0_setWord_17
  · have hF := ite_f c_1 hF
    refine lv_iload_n hx hb dX0_setWord_4 rfl (lv_at hl 1 rfl) ?_
    refine lv_bipush (v := 7) hx hb dX0_setWord_5 (by decide) ?_
    refine lv_icmp_ge (tgt := 17) hx hb dX0_setWord_7 (by decide) (fun c_7 => ?_) (fun c_7 => ?_)
    · have hF := ite_t c_7 hF
      have hP9 := hP.sub (ws' := [(h0, .inr (0, [.ref h_words])), (h_words, .inl (cJ, 7, .inr (.inl z_words)))]) [0, 1] rfl
      have hD9 := hD.sub (ws' := [(h0, .inr (0, [.ref h_words])), (h_words, .inl (cJ, 7, .inr (.inl z_words)))]) [0, 1] (by decide) rfl
      subst hAe
      exact W.vret hx hb hr (fun t ht hW => ⟨⟨(z_words), rfl, hFR.symm.trans hF, by rw [ht]; exact hP9, va_K.moved hW.alike hK, hD9⟩, hS.F ht⟩) hS.2.2 dX0_setWord_17
    · have hF := ite_f c_7 hF
      refine lv_aload_n hx hb dX0_setWord_10 rfl (lv_at hl 0 rfl) ?_
      refine va_get (D := (dC, dI)) (ci := 0) (v := .ref h_words) (C := RX0) (T := TX0) (N := 1) hx hb hts (by decide +kernel) hown hK hP 0 rfl rfl 0 (by decide) (hts (.fieldLink RX0 9 "ShredStore$Body" "words" "[J") (by decide +kernel)) (fun _ h9 => h9) rfl dX0_setWord_11 ?_
      refine lv_iload_n hx hb dX0_setWord_14 rfl (lv_at hl 1 rfl) ?_
      refine lv_lload_n hx hb dX0_setWord_15 rfl (lv_at hl 2 rfl) ?_
      have hr_16 : vp_in v1 7 := by exact q_i2 c_1 c_7 (by decide)
      refine va_last hx hb hK hP hD hS 1 0 rfl rfl hr_16 dX0_setWord_16 (fun H locs hP hD hS => ?_)
      have hP : va_P (dC, dI) vwCl [(h0, .inr (0, [.ref h_words])), (h_words, .inl (cJ, 7, .inr (.inl (vp_updL z_words (v1 : Int32).toNatClampNeg v2))))] H := hP
      have hD : va_D A [(h0, .inr (0, [.ref h_words])), (h_words, .inl (cJ, 7, .inr (.inl (vp_updL z_words (v1 : Int32).toNatClampNeg v2))))] := hD
      have hP9 := hP.sub (ws' := [(h0, .inr (0, [.ref h_words])), (h_words, .inl (cJ, 7, .inr (.inl (vp_updL z_words (v1 : Int32).toNatClampNeg v2))))]) [0, 1] rfl
      have hD9 := hD.sub (ws' := [(h0, .inr (0, [.ref h_words])), (h_words, .inl (cJ, 7, .inr (.inl (vp_updL z_words (v1 : Int32).toNatClampNeg v2))))]) [0, 1] (by decide) rfl
      subst hAe
      exact W.vret hx hb hr (fun t ht hW => ⟨⟨((vp_updL z_words (v1 : Int32).toNatClampNeg v2)), rfl, hFR.symm.trans hF, by rw [ht]; exact hP9, va_K.moved hW.alike hK, hD9⟩, hS.F ht⟩) hS.2.2 dX0_setWord_17
set_option maxHeartbeats 4000000 in
set_option maxRecDepth 100000 in
theorem ct_X0_number (l : Launch) (dC : Nat → ClassId) (dI : Nat → Nat → Nat) (cJ cI cB cZ : ClassId) (h0 h_words : Nat) (z_words : Nat → Int64) (v1 : Int32) (v2 : Int32) (hp0 : 0 ≤ v2.toInt) (hp1 : v2.toInt ≤ 51) (sz : Nat) : Met l yX0_number wsX0_number { frames := 0, cells := 0, slots := 0, locals := 0 } (va_Pc [.ref h0, .int v1, .int v2] (st_B (dC, dI) (ty4 cJ cI cB cZ) [(h0, .inr (0, [.ref h_words])), (h_words, .inl (cJ, 7, .inr (.inl z_words)))] sz)) (va_Ql (fun (r : Int64) (u : Unit) => fn_X0_number z_words v1 v2 = r) (fun (u : Unit) t => st_W (dC, dI) (ty4 cJ cI cB cZ) [(h0, .inr (0, [.ref h_words])), (h_words, .inl (cJ, 7, .inr (.inl z_words)))] sz [(h0, .inr (0, [.ref h_words])), (h_words, .inl (cJ, 7, .inr (.inl z_words)))] t) (va_A [(h0, .inr (0, [.ref h_words])), (h_words, .inl (cJ, 7, .inr (.inl z_words)))] sz)) 0 0 (va_A [(h0, .inr (0, [.ref h_words])), (h_words, .inl (cJ, 7, .inr (.inl z_words)))] sz) := by
  refine Met.ofW (cc := cX0_number) (maxL := 6) (ret := (some .long)) (by decide) rfl ?_
  intro p e s m args below meth c s₁ B hml hv
  obtain ⟨rfl, hsz, hP, hK, hD0, hN⟩ := hv
  have hx := B.exec
  have hb := B.bytes
  have hr := B.returns
  have hts := atoms_spec (ws := wsX0_number) B.pre
  have hown : s.vm.findClass RX0 = some m.cls := findClass_of_methodNamed B.named
  have hlocks := B.notSynchronized
  subst hsz
  obtain ⟨A, hAe⟩ : ∃ z, z = va_A [(h0, .inr (0, [.ref h_words])), (h_words, .inl (cJ, 7, .inr (.inl z_words)))] s.heap.size := ⟨_, rfl⟩
  have hD : va_D A [(h0, .inr (0, [.ref h_words])), (h_words, .inl (cJ, 7, .inr (.inl z_words)))] := by rw [hAe]; exact hD0.self
  have hA : ∀ q : Nat, s.heap.size ≤ q → A q := fun q h => by rw [hAe]; exact Or.inr h
  have hS : va_S A s.heap s.heap [] := va_S.rf
  have hP : va_P (dC, dI) vwCl [(h0, .inr (0, [.ref h_words])), (h_words, .inl (cJ, 7, .inr (.inl z_words)))] s.heap := hP
  have hl := lv_entry ([.ref h0, .int v1, .int v2]) (n := 6) (Nat.le_of_ble_eq_true rfl)
  rw [lg_entry_eq]
  generalize (lg_sl ([.ref h0, .int v1, .int v2]) ++ List.replicate (6 - (lg_sl ([.ref h0, .int v1, .int v2])).length) Slot.unset).toArray = ls at hl ⊢
  have hl : lv_has ls 6 [(0, .ref h0), (1, .int v1), (2, .int v2)] := hl
  obtain ⟨FR, hFR⟩ : ∃ z, z = fn_X0_number z_words v1 v2 := ⟨_, rfl⟩
  have hF := hFR
  unfold fn_X0_number at hF
  refine lv_iload_n hx hb dX0_number_0 rfl (lv_at hl 1 rfl) ?_
  refine lv_if_lt (tgt := 12) hx hb dX0_number_1 (by decide) (fun c_1 => ?_) (fun c_1 => ?_)
  · have hF := ite_t c_1 hF
    refine lv_lconst (v := 0) hx hb dX0_number_12 (by decide) ?_
    have hP9 := hP.sub (ws' := [(h0, .inr (0, [.ref h_words])), (h_words, .inl (cJ, 7, .inr (.inl z_words)))]) [0, 1] rfl
    have hD9 := hD.sub (ws' := [(h0, .inr (0, [.ref h_words])), (h_words, .inl (cJ, 7, .inr (.inl z_words)))]) [0, 1] (by decide) rfl
    subst hAe
    exact W.lret (v := 0) hx hb hr (fun t ht hW => ⟨⟨0, (), rfl, hFR.symm.trans hF, by rw [ht]; exact hP9, va_K.moved hW.alike hK, hD9⟩, hS.F ht⟩) hS.2.2 dX0_number_13
  · have hF := ite_f c_1 hF
    refine lv_iload_n hx hb dX0_number_4 rfl (lv_at hl 1 rfl) ?_
    refine lv_bipush (v := 51) hx hb dX0_number_5 (by decide) ?_
    refine lv_iload_n hx hb dX0_number_7 rfl (lv_at hl 2 rfl) ?_
    refine lv_isub hx hb dX0_number_8 ?_
    refine lv_icmp_le (tgt := 14) hx hb dX0_number_9 (by decide) (fun c_9 => ?_) (fun c_9 => ?_)
    · have hF := ite_t c_9 hF
      have q_s := q_num hp0 hp1 c_1 c_9
      refine lv_lconst (v := 0) hx hb dX0_number_14 (by decide) ?_
      refine lv_lstore_n (lv' := [(3, .long 0), (0, .ref h0), (1, .int v1), (2, .int v2)]) hx hb dX0_number_15 rfl hl (by decide) rfl (fun ls hl => ?_)
      refine lv_iload_n hx hb dX0_number_16 rfl (lv_at hl 2 rfl) ?_
      refine lv_istore (lv' := [(5, .int v1), (3, .long 0), (0, .ref h0), (1, .int v1), (2, .int v2)]) hx hb dX0_number_17 hl (by decide) rfl (fun ls hl => ?_)
      have lp_19 : ∀ (n19 : Nat) (v3_L19 : Int64) (v5_L19 : Int32), (∃ j19 : Nat, v5_L19 = nI j19 ∧ j19 ≤ 51 ∧ 51 < j19 + n19 ∧ True) → ∀ (H : Heap) (locs : List Loc), va_P (dC, dI) vwCl [(h0, .inr (0, [.ref h_words])), (h_words, .inl (cJ, 7, .inr (.inl z_words)))] H → va_D A [(h0, .inr (0, [.ref h_words])), (h_words, .inl (cJ, 7, .inr (.inl z_words)))] → va_S A s.heap H locs → ∀ (ls : Array Slot), lv_has ls 6 [(0, .ref h0), (1, .int v1), (2, .int v2), (3, .long v3_L19), (5, .int v5_L19)] → FR = fn_X0_number_L19 n19 z_words v1 v2 v3_L19 v5_L19 → W p l e (headSpec wsX0_number { frames := 0, cells := 0, slots := 0, locals := 0 }).room s m ([.ref h0, .int v1, .int v2] : List Value).toArray below meth c H locs 0 0 (MQ below (va_Ql (fun (r : Int64) (u : Unit) => fn_X0_number z_words v1 v2 = r) (fun (u : Unit) t => st_W (dC, dI) (ty4 cJ cI cB cZ) [(h0, .inr (0, [.ref h_words])), (h_words, .inl (cJ, 7, .inr (.inl z_words)))] s.heap.size [(h0, .inr (0, [.ref h_words])), (h_words, .inl (cJ, 7, .inr (.inl z_words)))] t) (va_A [(h0, .inr (0, [.ref h_words])), (h_words, .inl (cJ, 7, .inr (.inl z_words)))] s.heap.size)) ([.ref h0, .int v1, .int v2] : List Value).toArray s 0 0 (va_A [(h0, .inr (0, [.ref h_words])), (h_words, .inl (cJ, 7, .inr (.inl z_words)))] s.heap.size)) (F0 m 19 ls []) := by
        intro n19
        induction n19 with
        | zero =>
          intro v3_L19 v5_L19 hI
          exact absurd hI (by rintro ⟨j, -, h1, h2, -⟩; omega)
        | succ n19 ih_19 =>
          intro v3_L19 v5_L19 hI H locs hP hD hS ls hl hF
          rw [fn_X0_number_L19] at hF
          obtain ⟨j19, ev19, hj19, hn19, -⟩ := hI
          refine lv_iload hx hb dX0_number_19 (lv_at hl 4 rfl) ?_
          refine lv_iload_n hx hb dX0_number_21 rfl (lv_at hl 1 rfl) ?_
          refine lv_iload_n hx hb dX0_number_22 rfl (lv_at hl 2 rfl) ?_
          refine lv_iadd hx hb dX0_number_23 ?_
          refine lv_icmp_ge (tgt := 61) hx hb dX0_number_24 (by decide) (fun c_24 => ?_) (fun c_24 => ?_)
          · have hF := ite_t c_24 hF
            refine lv_lload_n hx hb dX0_number_61 rfl (lv_at hl 3 rfl) ?_
            have hP9 := hP.sub (ws' := [(h0, .inr (0, [.ref h_words])), (h_words, .inl (cJ, 7, .inr (.inl z_words)))]) [0, 1] rfl
            have hD9 := hD.sub (ws' := [(h0, .inr (0, [.ref h_words])), (h_words, .inl (cJ, 7, .inr (.inl z_words)))]) [0, 1] (by decide) rfl
            subst hAe
            exact W.lret (v := v3_L19) hx hb hr (fun t ht hW => ⟨⟨v3_L19, (), rfl, hFR.symm.trans hF, by rw [ht]; exact hP9, va_K.moved hW.alike hK, hD9⟩, hS.F ht⟩) hS.2.2 dX0_number_62
          · have hF := ite_f c_24 hF
            have hlt19 : j19 < 51 := (by have q9 := q_nle c_24; rw [ev19, nI_toInt (by omega), q_s.1] at q9; omega)
            refine lv_lload_n hx hb dX0_number_27 rfl (lv_at hl 3 rfl) ?_
            refine lv_bipush (v := 8) hx hb dX0_number_28 (by decide) ?_
            refine lv_lshl (v := (ju_lshl v3_L19 8)) hx hb dX0_number_30 rfl ?_
            refine lv_aload_n hx hb dX0_number_31 rfl (lv_at hl 0 rfl) ?_
            refine va_get (D := (dC, dI)) (ci := 0) (v := .ref h_words) (C := RX0) (T := TX0) (N := 1) hx hb hts (by decide +kernel) hown hK hP 0 rfl rfl 0 (by decide) (hts (.fieldLink RX0 9 "ShredStore$Body" "words" "[J") (by decide +kernel)) (fun _ h9 => h9) rfl dX0_number_32 ?_
            refine lv_iload hx hb dX0_number_35 (lv_at hl 4 rfl) ?_
            refine lv_bipush (v := 8) hx hb dX0_number_37 (by decide) ?_
            refine lv_idiv hx hb dX0_number_39 (by decide) ?_
            have hr_40 : vp_in (v5_L19 / 8) 7 := by rw [ev19]; exact q_d8 (vp_in_nI (N := 51) (by omega) (by decide)) (by decide)
            refine va_lald hx hb hK hP 1 0 rfl rfl hr_40 dX0_number_40 ?_
            refine lv_bipush (v := 8) hx hb dX0_number_41 (by decide) ?_
            refine lv_iload hx hb dX0_number_43 (lv_at hl 4 rfl) ?_
            refine lv_bipush (v := 8) hx hb dX0_number_45 (by decide) ?_
            refine lv_irem hx hb dX0_number_47 (by decide) ?_
            refine lv_imul hx hb dX0_number_48 ?_
            refine lv_lshl (v := (ju_lshl (z_words ((v5_L19 / 8) : Int32).toNatClampNeg) (8 * (v5_L19 - v5_L19 / 8 * 8)))) hx hb dX0_number_49 rfl ?_
            refine lv_bipush (v := 56) hx hb dX0_number_50 (by decide) ?_
            refine lv_lushr (v := (ju_lushr (ju_lshl (z_words ((v5_L19 / 8) : Int32).toNatClampNeg) (8 * (v5_L19 - v5_L19 / 8 * 8))) 56)) hx hb dX0_number_52 rfl ?_
            refine lv_lor hx hb dX0_number_53 ?_
            refine lv_lstore_n (lv' := [(3, .long ((ju_lshl v3_L19 8) ||| (ju_lushr (ju_lshl (z_words ((v5_L19 / 8) : Int32).toNatClampNeg) (8 * (v5_L19 - v5_L19 / 8 * 8))) 56))), (0, .ref h0), (1, .int v1), (2, .int v2), (5, .int v5_L19)]) hx hb dX0_number_54 rfl hl (by decide) rfl (fun ls hl => ?_)
            refine lv_iinc (v := (v5_L19 + 1)) (lv' := [(5, .int (v5_L19 + 1)), (3, .long ((ju_lshl v3_L19 8) ||| (ju_lushr (ju_lshl (z_words ((v5_L19 / 8) : Int32).toNatClampNeg) (8 * (v5_L19 - v5_L19 / 8 * 8))) 56))), (0, .ref h0), (1, .int v1), (2, .int v2)]) hx hb dX0_number_55 hl (k := 4) rfl rfl (by decide) rfl (fun ls hl => ?_)
            refine lv_goto (tgt := 19) hx hb dX0_number_58 (by decide) ?_
            exact ih_19 ((ju_lshl v3_L19 8) ||| (ju_lushr (ju_lshl (z_words ((v5_L19 / 8) : Int32).toNatClampNeg) (8 * (v5_L19 - v5_L19 / 8 * 8))) 56)) (v5_L19 + 1) (by exact ⟨j19 + 1, by rw [ev19]; exact nI_1 j19, by omega, by omega, trivial⟩) _ _ hP hD hS _ (lv_sub hl [2, 3, 4, 1, 0] rfl) hF
      exact lp_19 60 0 v1 (by exact ⟨v1.toInt.toNat, q_nt c_1, by have := q_s.2; omega, by have := q_s.2; omega, trivial⟩) _ _ hP hD hS _ (lv_sub hl [2, 3, 4, 1, 0] rfl) hF
    · have hF := ite_f c_9 hF
      refine lv_lconst (v := 0) hx hb dX0_number_12 (by decide) ?_
      have hP9 := hP.sub (ws' := [(h0, .inr (0, [.ref h_words])), (h_words, .inl (cJ, 7, .inr (.inl z_words)))]) [0, 1] rfl
      have hD9 := hD.sub (ws' := [(h0, .inr (0, [.ref h_words])), (h_words, .inl (cJ, 7, .inr (.inl z_words)))]) [0, 1] (by decide) rfl
      subst hAe
      exact W.lret (v := 0) hx hb hr (fun t ht hW => ⟨⟨0, (), rfl, hFR.symm.trans hF, by rw [ht]; exact hP9, va_K.moved hW.alike hK, hD9⟩, hS.F ht⟩) hS.2.2 dX0_number_13
set_option maxHeartbeats 4000000 in
set_option maxRecDepth 100000 in
theorem ct_X0_entryKey (l : Launch) (dC : Nat → ClassId) (dI : Nat → Nat → Nat) (cJ cI cB cZ : ClassId) (h0 h_words : Nat) (z_words : Nat → Int64) (v1 : Int32) (sz : Nat) : Met l yX0_entryKey wsX0_entryKey { frames := 1, cells := 0, slots := 0, locals := 25 } (va_Pc [.ref h0, .int v1] (st_B (dC, dI) (ty4 cJ cI cB cZ) [(h0, .inr (0, [.ref h_words])), (h_words, .inl (cJ, 7, .inr (.inl z_words)))] sz)) (va_Ql (fun (r : Int64) (u : Unit) => fn_X0_entryKey z_words v1 = r) (fun (u : Unit) t => st_W (dC, dI) (ty4 cJ cI cB cZ) [(h0, .inr (0, [.ref h_words])), (h_words, .inl (cJ, 7, .inr (.inl z_words)))] sz [(h0, .inr (0, [.ref h_words])), (h_words, .inl (cJ, 7, .inr (.inl z_words)))] t) (va_A [(h0, .inr (0, [.ref h_words])), (h_words, .inl (cJ, 7, .inr (.inl z_words)))] sz)) 0 0 (va_A [(h0, .inr (0, [.ref h_words])), (h_words, .inl (cJ, 7, .inr (.inl z_words)))] sz) := by
  refine Met.ofW (cc := cX0_entryKey) (maxL := 2) (ret := (some .long)) (by decide) rfl ?_
  intro p e s m args below meth c s₁ B hml hv
  obtain ⟨rfl, hsz, hP, hK, hD0, hN⟩ := hv
  have hx := B.exec
  have hb := B.bytes
  have hr := B.returns
  have hts := atoms_spec (ws := wsX0_entryKey) B.pre
  have hown : s.vm.findClass RX0 = some m.cls := findClass_of_methodNamed B.named
  have hlocks := B.notSynchronized
  subst hsz
  obtain ⟨A, hAe⟩ : ∃ z, z = va_A [(h0, .inr (0, [.ref h_words])), (h_words, .inl (cJ, 7, .inr (.inl z_words)))] s.heap.size := ⟨_, rfl⟩
  have hD : va_D A [(h0, .inr (0, [.ref h_words])), (h_words, .inl (cJ, 7, .inr (.inl z_words)))] := by rw [hAe]; exact hD0.self
  have hA : ∀ q : Nat, s.heap.size ≤ q → A q := fun q h => by rw [hAe]; exact Or.inr h
  have hS : va_S A s.heap s.heap [] := va_S.rf
  have hP : va_P (dC, dI) vwCl [(h0, .inr (0, [.ref h_words])), (h_words, .inl (cJ, 7, .inr (.inl z_words)))] s.heap := hP
  have hl := lv_entry ([.ref h0, .int v1]) (n := 2) (Nat.le_of_ble_eq_true rfl)
  rw [lg_entry_eq]
  generalize (lg_sl ([.ref h0, .int v1]) ++ List.replicate (2 - (lg_sl ([.ref h0, .int v1])).length) Slot.unset).toArray = ls at hl ⊢
  have hl : lv_has ls 2 [(0, .ref h0), (1, .int v1)] := hl
  obtain ⟨FR, hFR⟩ : ∃ z, z = fn_X0_entryKey z_words v1 := ⟨_, rfl⟩
  have hF := hFR
  unfold fn_X0_entryKey at hF
  refine lv_aload_n hx hb dX0_entryKey_0 rfl (lv_at hl 0 rfl) ?_
  refine lv_iload_n hx hb dX0_entryKey_1 rfl (lv_at hl 1 rfl) ?_
  refine lv_bipush (v := 10) hx hb dX0_entryKey_2 (by decide) ?_
  refine lv_imul hx hb dX0_entryKey_4 ?_
  refine lv_bipush (v := 8) hx hb dX0_entryKey_5 (by decide) ?_
  have hq_7_0 : 0 ≤ (8 : Int32).toInt := by first | assumption | decide
  have hq_7_1 : (8 : Int32).toInt ≤ 51 := by first | assumption | decide
  refine st_calll (wr := []) (va_runV (As := [.int (v1 * 10), .int 8]) (rest := []) ⟨hx, hb, hml, hown, hts⟩ (ct_X0_number l dC dI cJ cI cB cZ h0 h_words z_words (v1 * 10) 8 hq_7_0 hq_7_1 s.heap.size) (cwV 2 hts gX0_entryKey_X0_number rfl rfl rfl (by decide +kernel) ⟨Nat.le_of_ble_eq_true rfl, Nat.le_of_ble_eq_true rfl⟩) (st_preV (ci := 0) (q0 := 0) hK hP hD hN [0, 1] rfl (by decide) rfl rfl rfl) rfl rfl hl.1 rfl (lv_room (Nat.le_of_ble_eq_true rfl)) dX0_entryKey_7 ⟨Nat.le_of_ble_eq_true rfl, Nat.le_of_ble_eq_true rfl⟩) hP hD hS hA [0, 1] [] rfl rfl (by decide) (by decide) (fun r7 u H locs hw hP hD hS => ?_)
  have hP : va_P (dC, dI) vwCl [(h0, .inr (0, [.ref h_words])), (h_words, .inl (cJ, 7, .inr (.inl z_words)))] H := hP
  have hD : va_D A [(h0, .inr (0, [.ref h_words])), (h_words, .inl (cJ, 7, .inr (.inl z_words)))] := hD
  have hF := bnd1_eq hw hF
  have hP9 := hP.sub (ws' := [(h0, .inr (0, [.ref h_words])), (h_words, .inl (cJ, 7, .inr (.inl z_words)))]) [0, 1] rfl
  have hD9 := hD.sub (ws' := [(h0, .inr (0, [.ref h_words])), (h_words, .inl (cJ, 7, .inr (.inl z_words)))]) [0, 1] (by decide) rfl
  subst hAe
  exact W.lret (v := r7) hx hb hr (fun t ht hW => ⟨⟨r7, (), rfl, hFR.symm.trans hF, by rw [ht]; exact hP9, va_K.moved hW.alike hK, hD9⟩, hS.F ht⟩) hS.2.2 dX0_entryKey_10
set_option maxHeartbeats 4000000 in
set_option maxRecDepth 100000 in
theorem ct_X0_entryPage (l : Launch) (dC : Nat → ClassId) (dI : Nat → Nat → Nat) (cJ cI cB cZ : ClassId) (h0 h_words : Nat) (z_words : Nat → Int64) (v1 : Int32) (sz : Nat) : Met l yX0_entryPage wsX0_entryPage { frames := 1, cells := 0, slots := 0, locals := 25 } (va_Pc [.ref h0, .int v1] (st_B (dC, dI) (ty4 cJ cI cB cZ) [(h0, .inr (0, [.ref h_words])), (h_words, .inl (cJ, 7, .inr (.inl z_words)))] sz)) (va_Qi (fun (r : Int32) (u : Unit) => fn_X0_entryPage z_words v1 = r) (fun (u : Unit) t => st_W (dC, dI) (ty4 cJ cI cB cZ) [(h0, .inr (0, [.ref h_words])), (h_words, .inl (cJ, 7, .inr (.inl z_words)))] sz [(h0, .inr (0, [.ref h_words])), (h_words, .inl (cJ, 7, .inr (.inl z_words)))] t) (va_A [(h0, .inr (0, [.ref h_words])), (h_words, .inl (cJ, 7, .inr (.inl z_words)))] sz)) 0 0 (va_A [(h0, .inr (0, [.ref h_words])), (h_words, .inl (cJ, 7, .inr (.inl z_words)))] sz) := by
  refine Met.ofW (cc := cX0_entryPage) (maxL := 2) (ret := (some .int)) (by decide) rfl ?_
  intro p e s m args below meth c s₁ B hml hv
  obtain ⟨rfl, hsz, hP, hK, hD0, hN⟩ := hv
  have hx := B.exec
  have hb := B.bytes
  have hr := B.returns
  have hts := atoms_spec (ws := wsX0_entryPage) B.pre
  have hown : s.vm.findClass RX0 = some m.cls := findClass_of_methodNamed B.named
  have hlocks := B.notSynchronized
  subst hsz
  obtain ⟨A, hAe⟩ : ∃ z, z = va_A [(h0, .inr (0, [.ref h_words])), (h_words, .inl (cJ, 7, .inr (.inl z_words)))] s.heap.size := ⟨_, rfl⟩
  have hD : va_D A [(h0, .inr (0, [.ref h_words])), (h_words, .inl (cJ, 7, .inr (.inl z_words)))] := by rw [hAe]; exact hD0.self
  have hA : ∀ q : Nat, s.heap.size ≤ q → A q := fun q h => by rw [hAe]; exact Or.inr h
  have hS : va_S A s.heap s.heap [] := va_S.rf
  have hP : va_P (dC, dI) vwCl [(h0, .inr (0, [.ref h_words])), (h_words, .inl (cJ, 7, .inr (.inl z_words)))] s.heap := hP
  have hl := lv_entry ([.ref h0, .int v1]) (n := 2) (Nat.le_of_ble_eq_true rfl)
  rw [lg_entry_eq]
  generalize (lg_sl ([.ref h0, .int v1]) ++ List.replicate (2 - (lg_sl ([.ref h0, .int v1])).length) Slot.unset).toArray = ls at hl ⊢
  have hl : lv_has ls 2 [(0, .ref h0), (1, .int v1)] := hl
  obtain ⟨FR, hFR⟩ : ∃ z, z = fn_X0_entryPage z_words v1 := ⟨_, rfl⟩
  have hF := hFR
  unfold fn_X0_entryPage at hF
  refine lv_aload_n hx hb dX0_entryPage_0 rfl (lv_at hl 0 rfl) ?_
  refine lv_iload_n hx hb dX0_entryPage_1 rfl (lv_at hl 1 rfl) ?_
  refine lv_bipush (v := 10) hx hb dX0_entryPage_2 (by decide) ?_
  refine lv_imul hx hb dX0_entryPage_4 ?_
  refine lv_bipush (v := 8) hx hb dX0_entryPage_5 (by decide) ?_
  refine lv_iadd hx hb dX0_entryPage_7 ?_
  refine lv_iconst (v := 2) hx hb dX0_entryPage_8 (by decide) ?_
  have hq_9_0 : 0 ≤ (2 : Int32).toInt := by first | assumption | decide
  have hq_9_1 : (2 : Int32).toInt ≤ 51 := by first | assumption | decide
  refine st_calll (wr := []) (va_runV (As := [.int ((v1 * 10) + 8), .int 2]) (rest := []) ⟨hx, hb, hml, hown, hts⟩ (ct_X0_number l dC dI cJ cI cB cZ h0 h_words z_words ((v1 * 10) + 8) 2 hq_9_0 hq_9_1 s.heap.size) (cwV 2 hts gX0_entryPage_X0_number rfl rfl rfl (by decide +kernel) ⟨Nat.le_of_ble_eq_true rfl, Nat.le_of_ble_eq_true rfl⟩) (st_preV (ci := 0) (q0 := 0) hK hP hD hN [0, 1] rfl (by decide) rfl rfl rfl) rfl rfl hl.1 rfl (lv_room (Nat.le_of_ble_eq_true rfl)) dX0_entryPage_9 ⟨Nat.le_of_ble_eq_true rfl, Nat.le_of_ble_eq_true rfl⟩) hP hD hS hA [0, 1] [] rfl rfl (by decide) (by decide) (fun r9 u H locs hw hP hD hS => ?_)
  have hP : va_P (dC, dI) vwCl [(h0, .inr (0, [.ref h_words])), (h_words, .inl (cJ, 7, .inr (.inl z_words)))] H := hP
  have hD : va_D A [(h0, .inr (0, [.ref h_words])), (h_words, .inl (cJ, 7, .inr (.inl z_words)))] := hD
  have hF := bnd1_eq hw hF
  refine lv_l2i (v := (r9 : Int64).toInt32) hx hb dX0_entryPage_12 rfl ?_
  have hP9 := hP.sub (ws' := [(h0, .inr (0, [.ref h_words])), (h_words, .inl (cJ, 7, .inr (.inl z_words)))]) [0, 1] rfl
  have hD9 := hD.sub (ws' := [(h0, .inr (0, [.ref h_words])), (h_words, .inl (cJ, 7, .inr (.inl z_words)))]) [0, 1] (by decide) rfl
  subst hAe
  exact W.iret (v := (r9 : Int64).toInt32) hx hb hr (fun t ht hW => ⟨⟨(r9 : Int64).toInt32, (), rfl, hFR.symm.trans hF, by rw [ht]; exact hP9, va_K.moved hW.alike hK, hD9⟩, hS.F ht⟩) hS.2.2 dX0_entryPage_13
set_option maxHeartbeats 4000000 in
set_option maxRecDepth 100000 in
theorem ct_X0_nextPage (l : Launch) (dC : Nat → ClassId) (dI : Nat → Nat → Nat) (cJ cI cB cZ : ClassId) (h0 h_words : Nat) (z_words : Nat → Int64) (sz : Nat) : Met l yX0_nextPage wsX0_nextPage { frames := 1, cells := 0, slots := 0, locals := 25 } (va_Pc [.ref h0] (st_B (dC, dI) (ty4 cJ cI cB cZ) [(h0, .inr (0, [.ref h_words])), (h_words, .inl (cJ, 7, .inr (.inl z_words)))] sz)) (va_Qi (fun (r : Int32) (u : Unit) => fn_X0_nextPage z_words = r) (fun (u : Unit) t => st_W (dC, dI) (ty4 cJ cI cB cZ) [(h0, .inr (0, [.ref h_words])), (h_words, .inl (cJ, 7, .inr (.inl z_words)))] sz [(h0, .inr (0, [.ref h_words])), (h_words, .inl (cJ, 7, .inr (.inl z_words)))] t) (va_A [(h0, .inr (0, [.ref h_words])), (h_words, .inl (cJ, 7, .inr (.inl z_words)))] sz)) 0 0 (va_A [(h0, .inr (0, [.ref h_words])), (h_words, .inl (cJ, 7, .inr (.inl z_words)))] sz) := by
  refine Met.ofW (cc := cX0_nextPage) (maxL := 1) (ret := (some .int)) (by decide) rfl ?_
  intro p e s m args below meth c s₁ B hml hv
  obtain ⟨rfl, hsz, hP, hK, hD0, hN⟩ := hv
  have hx := B.exec
  have hb := B.bytes
  have hr := B.returns
  have hts := atoms_spec (ws := wsX0_nextPage) B.pre
  have hown : s.vm.findClass RX0 = some m.cls := findClass_of_methodNamed B.named
  have hlocks := B.notSynchronized
  subst hsz
  obtain ⟨A, hAe⟩ : ∃ z, z = va_A [(h0, .inr (0, [.ref h_words])), (h_words, .inl (cJ, 7, .inr (.inl z_words)))] s.heap.size := ⟨_, rfl⟩
  have hD : va_D A [(h0, .inr (0, [.ref h_words])), (h_words, .inl (cJ, 7, .inr (.inl z_words)))] := by rw [hAe]; exact hD0.self
  have hA : ∀ q : Nat, s.heap.size ≤ q → A q := fun q h => by rw [hAe]; exact Or.inr h
  have hS : va_S A s.heap s.heap [] := va_S.rf
  have hP : va_P (dC, dI) vwCl [(h0, .inr (0, [.ref h_words])), (h_words, .inl (cJ, 7, .inr (.inl z_words)))] s.heap := hP
  have hl := lv_entry ([.ref h0]) (n := 1) (Nat.le_of_ble_eq_true rfl)
  rw [lg_entry_eq]
  generalize (lg_sl ([.ref h0]) ++ List.replicate (1 - (lg_sl ([.ref h0])).length) Slot.unset).toArray = ls at hl ⊢
  have hl : lv_has ls 1 [(0, .ref h0)] := hl
  obtain ⟨FR, hFR⟩ : ∃ z, z = fn_X0_nextPage z_words := ⟨_, rfl⟩
  have hF := hFR
  unfold fn_X0_nextPage at hF
  refine lv_aload_n hx hb dX0_nextPage_0 rfl (lv_at hl 0 rfl) ?_
  refine lv_iconst (v := 0) hx hb dX0_nextPage_1 (by decide) ?_
  refine lv_iconst (v := 2) hx hb dX0_nextPage_2 (by decide) ?_
  have hq_3_0 : 0 ≤ (2 : Int32).toInt := by first | assumption | decide
  have hq_3_1 : (2 : Int32).toInt ≤ 51 := by first | assumption | decide
  refine st_calll (wr := []) (va_runV (As := [.int 0, .int 2]) (rest := []) ⟨hx, hb, hml, hown, hts⟩ (ct_X0_number l dC dI cJ cI cB cZ h0 h_words z_words 0 2 hq_3_0 hq_3_1 s.heap.size) (cwV 2 hts gX0_nextPage_X0_number rfl rfl rfl (by decide +kernel) ⟨Nat.le_of_ble_eq_true rfl, Nat.le_of_ble_eq_true rfl⟩) (st_preV (ci := 0) (q0 := 0) hK hP hD hN [0, 1] rfl (by decide) rfl rfl rfl) rfl rfl hl.1 rfl (lv_room (Nat.le_of_ble_eq_true rfl)) dX0_nextPage_3 ⟨Nat.le_of_ble_eq_true rfl, Nat.le_of_ble_eq_true rfl⟩) hP hD hS hA [0, 1] [] rfl rfl (by decide) (by decide) (fun r3 u H locs hw hP hD hS => ?_)
  have hP : va_P (dC, dI) vwCl [(h0, .inr (0, [.ref h_words])), (h_words, .inl (cJ, 7, .inr (.inl z_words)))] H := hP
  have hD : va_D A [(h0, .inr (0, [.ref h_words])), (h_words, .inl (cJ, 7, .inr (.inl z_words)))] := hD
  have hF := bnd1_eq hw hF
  refine lv_l2i (v := (r3 : Int64).toInt32) hx hb dX0_nextPage_6 rfl ?_
  have hP9 := hP.sub (ws' := [(h0, .inr (0, [.ref h_words])), (h_words, .inl (cJ, 7, .inr (.inl z_words)))]) [0, 1] rfl
  have hD9 := hD.sub (ws' := [(h0, .inr (0, [.ref h_words])), (h_words, .inl (cJ, 7, .inr (.inl z_words)))]) [0, 1] (by decide) rfl
  subst hAe
  exact W.iret (v := (r3 : Int64).toInt32) hx hb hr (fun t ht hW => ⟨⟨(r3 : Int64).toInt32, (), rfl, hFR.symm.trans hF, by rw [ht]; exact hP9, va_K.moved hW.alike hK, hD9⟩, hS.F ht⟩) hS.2.2 dX0_nextPage_7
set_option maxHeartbeats 4000000 in
set_option maxRecDepth 100000 in
theorem ct_X8_dataPages (l : Launch) (dC : Nat → ClassId) (dI : Nat → Nat → Nat) (cJ cI cB cZ : ClassId) (v0 : Int32) (sz : Nat) : Met l yX8_dataPages wsX8_dataPages { frames := 0, cells := 0, slots := 0, locals := 0 } (va_Pc [.int v0] (st_B (dC, dI) (ty4 cJ cI cB cZ) [] sz)) (va_Qi (fun (r : Int32) (u : Unit) => fn_X8_dataPages v0 = r) (fun (u : Unit) t => st_W (dC, dI) (ty4 cJ cI cB cZ) [] sz [] t) (va_A [] sz)) 0 0 (va_A [] sz) := by
  refine Met.ofW (cc := cX8_dataPages) (maxL := 1) (ret := (some .int)) (by decide) rfl ?_
  intro p e s m args below meth c s₁ B hml hv
  obtain ⟨rfl, hsz, hP, hK, hD0, hN⟩ := hv
  have hx := B.exec
  have hb := B.bytes
  have hr := B.returns
  have hts := atoms_spec (ws := wsX8_dataPages) B.pre
  have hown : s.vm.findClass RX8 = some m.cls := findClass_of_methodNamed B.named
  have hlocks := B.notSynchronized
  subst hsz
  obtain ⟨A, hAe⟩ : ∃ z, z = va_A [] s.heap.size := ⟨_, rfl⟩
  have hD : va_D A [] := by rw [hAe]; exact hD0.self
  have hA : ∀ q : Nat, s.heap.size ≤ q → A q := fun q h => by rw [hAe]; exact Or.inr h
  have hS : va_S A s.heap s.heap [] := va_S.rf
  have hP : va_P (dC, dI) vwCl [] s.heap := hP
  have hl := lv_entry ([.int v0]) (n := 1) (Nat.le_of_ble_eq_true rfl)
  rw [lg_entry_eq]
  generalize (lg_sl ([.int v0]) ++ List.replicate (1 - (lg_sl ([.int v0])).length) Slot.unset).toArray = ls at hl ⊢
  have hl : lv_has ls 1 [(0, .int v0)] := hl
  obtain ⟨FR, hFR⟩ : ∃ z, z = fn_X8_dataPages v0 := ⟨_, rfl⟩
  have hF := hFR
  unfold fn_X8_dataPages at hF
  refine lv_iload_n hx hb dX8_dataPages_0 rfl (lv_at hl 0 rfl) ?_
  refine lv_bipush (v := 48) hx hb dX8_dataPages_1 (by decide) ?_
  refine lv_icmp_gt (tgt := 10) hx hb dX8_dataPages_3 (by decide) (fun c_3 => ?_) (fun c_3 => ?_)
  · have hF := ite_t c_3 hF
    refine lv_iload_n hx hb dX8_dataPages_10 rfl (lv_at hl 0 rfl) ?_
    refine lv_bipush (v := 48) hx hb dX8_dataPages_11 (by decide) ?_
    refine lv_iadd hx hb dX8_dataPages_13 ?_
    refine lv_iconst (v := 1) hx hb dX8_dataPages_14 (by decide) ?_
    refine lv_isub hx hb dX8_dataPages_15 ?_
    refine lv_bipush (v := 48) hx hb dX8_dataPages_16 (by decide) ?_
    refine lv_idiv hx hb dX8_dataPages_18 (by decide) ?_
    have hP9 := hP.sub (ws' := []) [] rfl
    have hD9 := hD.sub (ws' := []) [] (by decide) rfl
    subst hAe
    exact W.iret (v := (((v0 + 48) - 1) / 48)) hx hb hr (fun t ht hW => ⟨⟨(((v0 + 48) - 1) / 48), (), rfl, hFR.symm.trans hF, by rw [ht]; exact hP9, va_K.moved hW.alike hK, hD9⟩, hS.F ht⟩) hS.2.2 dX8_dataPages_19
  · have hF := ite_f c_3 hF
    refine lv_iconst (v := 1) hx hb dX8_dataPages_6 (by decide) ?_
    refine lv_goto (tgt := 19) hx hb dX8_dataPages_7 (by decide) ?_
    have hP9 := hP.sub (ws' := []) [] rfl
    have hD9 := hD.sub (ws' := []) [] (by decide) rfl
    subst hAe
    exact W.iret (v := 1) hx hb hr (fun t ht hW => ⟨⟨1, (), rfl, hFR.symm.trans hF, by rw [ht]; exact hP9, va_K.moved hW.alike hK, hD9⟩, hS.F ht⟩) hS.2.2 dX8_dataPages_19
set_option maxHeartbeats 4000000 in
set_option maxRecDepth 100000 in
theorem ct_X2_take (l : Launch) (dC : Nat → ClassId) (dI : Nat → Nat → Nat) (cJ cI cB cZ : ClassId) (h0 h_keys x_remembered : Nat) (z_length : Int32) (z_rememberedLength : Int32) (z_keys : Nat → Int64) (hp0 : z_length.toInt ≤ 40) (sz : Nat) : Met l yX2_take wsX2_take { frames := 1, cells := 0, slots := 0, locals := 26 } (va_Pc [.ref h0] (st_B (dC, dI) (ty4 cJ cI cB cZ) [(h0, .inr (2, [.ref h_keys, .int z_length, .ref x_remembered, .int z_rememberedLength])), (h_keys, .inl (cJ, 40, .inr (.inl z_keys)))] sz)) (va_Ql (fun (r : Int64) (u : Int32 × (Nat → Int64)) => fn_X2_take z_length z_keys = (r, u.1, u.2)) (fun (u : Int32 × (Nat → Int64)) t => st_W (dC, dI) (ty4 cJ cI cB cZ) [(h0, .inr (2, [.ref h_keys, .int z_length, .ref x_remembered, .int z_rememberedLength])), (h_keys, .inl (cJ, 40, .inr (.inl z_keys)))] sz [(h0, .inr (2, [.ref h_keys, .int u.1, .ref x_remembered, .int z_rememberedLength])), (h_keys, .inl (cJ, 40, .inr (.inl u.2)))] t) (va_A [(h0, .inr (2, [.ref h_keys, .int z_length, .ref x_remembered, .int z_rememberedLength])), (h_keys, .inl (cJ, 40, .inr (.inl z_keys)))] sz)) 0 0 (va_A [(h0, .inr (2, [.ref h_keys, .int z_length, .ref x_remembered, .int z_rememberedLength])), (h_keys, .inl (cJ, 40, .inr (.inl z_keys)))] sz) := by
  refine Met.ofW (cc := cX2_take) (maxL := 3) (ret := (some .long)) (by decide) rfl ?_
  intro p e s m args below meth c s₁ B hml hv
  obtain ⟨rfl, hsz, hP, hK, hD0, hN⟩ := hv
  have hx := B.exec
  have hb := B.bytes
  have hr := B.returns
  have hts := atoms_spec (ws := wsX2_take) B.pre
  have hown : s.vm.findClass RX2 = some m.cls := findClass_of_methodNamed B.named
  have hlocks := B.notSynchronized
  subst hsz
  obtain ⟨A, hAe⟩ : ∃ z, z = va_A [(h0, .inr (2, [.ref h_keys, .int z_length, .ref x_remembered, .int z_rememberedLength])), (h_keys, .inl (cJ, 40, .inr (.inl z_keys)))] s.heap.size := ⟨_, rfl⟩
  have hD : va_D A [(h0, .inr (2, [.ref h_keys, .int z_length, .ref x_remembered, .int z_rememberedLength])), (h_keys, .inl (cJ, 40, .inr (.inl z_keys)))] := by rw [hAe]; exact hD0.self
  have hA : ∀ q : Nat, s.heap.size ≤ q → A q := fun q h => by rw [hAe]; exact Or.inr h
  have hS : va_S A s.heap s.heap [] := va_S.rf
  have hP : va_P (dC, dI) vwCl [(h0, .inr (2, [.ref h_keys, .int z_length, .ref x_remembered, .int z_rememberedLength])), (h_keys, .inl (cJ, 40, .inr (.inl z_keys)))] s.heap := hP
  have hl := lv_entry ([.ref h0]) (n := 3) (Nat.le_of_ble_eq_true rfl)
  rw [lg_entry_eq]
  generalize (lg_sl ([.ref h0]) ++ List.replicate (3 - (lg_sl ([.ref h0])).length) Slot.unset).toArray = ls at hl ⊢
  have hl : lv_has ls 3 [(0, .ref h0)] := hl
  obtain ⟨FR, hFR⟩ : ∃ z, z = fn_X2_take z_length z_keys := ⟨_, rfl⟩
  have hF := hFR
  unfold fn_X2_take at hF
  refine lv_aload_n hx hb dX2_take_0 rfl (lv_at hl 0 rfl) ?_
  refine va_get (D := (dC, dI)) (ci := 2) (v := .int z_length) (C := RX2) (T := TX2) (N := 4) hx hb hts (by decide +kernel) hown hK hP 0 rfl rfl 1 (by decide) (hts (.fieldLink RX2 15 "ShredStore$KeyRow" "length" "I") (by decide +kernel)) (fun _ h9 => h9) rfl dX2_take_1 ?_
  refine lv_if_gt (tgt := 9) hx hb dX2_take_4 (by decide) (fun c_4 => ?_) (fun c_4 => ?_)
  · have hF := ite_t c_4 hF
    refine lv_aload_n hx hb dX2_take_9 rfl (lv_at hl 0 rfl) ?_
    refine va_get (D := (dC, dI)) (ci := 2) (v := .ref h_keys) (C := RX2) (T := TX2) (N := 4) hx hb hts (by decide +kernel) hown hK hP 0 rfl rfl 0 (by decide) (hts (.fieldLink RX2 9 "ShredStore$KeyRow" "keys" "[J") (by decide +kernel)) (fun _ h9 => h9) rfl dX2_take_10 ?_
    refine lv_iconst (v := 0) hx hb dX2_take_13 (by decide) ?_
    have hr_14 : vp_in 0 40 := by exact q_z0 (by decide)
    refine va_lald hx hb hK hP 1 0 rfl rfl hr_14 dX2_take_14 ?_
    refine lv_lstore_n (lv' := [(1, .long (z_keys (0 : Int32).toNatClampNeg)), (0, .ref h0)]) hx hb dX2_take_15 rfl hl (by decide) rfl (fun ls hl => ?_)
    refine lv_aload_n hx hb dX2_take_16 rfl (lv_at hl 1 rfl) ?_
    refine lv_dup hx hb dX2_take_17 rfl ?_
    refine va_get (D := (dC, dI)) (ci := 2) (v := .int z_length) (C := RX2) (T := TX2) (N := 4) hx hb hts (by decide +kernel) hown hK hP 0 rfl rfl 1 (by decide) (hts (.fieldLink RX2 15 "ShredStore$KeyRow" "length" "I") (by decide +kernel)) (fun _ h9 => h9) rfl dX2_take_18 ?_
    refine lv_iconst (v := 1) hx hb dX2_take_21 (by decide) ?_
    refine lv_isub hx hb dX2_take_22 ?_
    refine va_put (D := (dC, dI)) (ci := 2) (v := .int (z_length - 1)) (ty := .int) (C := RX2) (T := TX2) (N := 4) hx hb hts (by decide +kernel) tyX2 tyX2_ok nmX2 hown hK hP hD hS 0 rfl rfl 1 (by decide) (hts (.fieldLink RX2 15 "ShredStore$KeyRow" "length" "I") (by decide +kernel)) (fun _ h9 => h9) rfl (by decide +kernel) rfl rfl (Nat.le_of_ble_eq_true rfl) dX2_take_23 (fun H locs hP hD hS => ?_)
    have hP : va_P (dC, dI) vwCl [(h0, .inr (2, [.ref h_keys, .int (z_length - 1), .ref x_remembered, .int z_rememberedLength])), (h_keys, .inl (cJ, 40, .inr (.inl z_keys)))] H := hP
    have hD : va_D A [(h0, .inr (2, [.ref h_keys, .int (z_length - 1), .ref x_remembered, .int z_rememberedLength])), (h_keys, .inl (cJ, 40, .inr (.inl z_keys)))] := hD
    refine lv_aload_n hx hb dX2_take_26 rfl (lv_at hl 1 rfl) ?_
    refine va_get (D := (dC, dI)) (ci := 2) (v := .ref h_keys) (C := RX2) (T := TX2) (N := 4) hx hb hts (by decide +kernel) hown hK hP 0 rfl rfl 0 (by decide) (hts (.fieldLink RX2 9 "ShredStore$KeyRow" "keys" "[J") (by decide +kernel)) (fun _ h9 => h9) rfl dX2_take_27 ?_
    refine lv_iconst (v := 1) hx hb dX2_take_30 (by decide) ?_
    refine lv_aload_n hx hb dX2_take_31 rfl (lv_at hl 1 rfl) ?_
    refine va_get (D := (dC, dI)) (ci := 2) (v := .ref h_keys) (C := RX2) (T := TX2) (N := 4) hx hb hts (by decide +kernel) hown hK hP 0 rfl rfl 0 (by decide) (hts (.fieldLink RX2 9 "ShredStore$KeyRow" "keys" "[J") (by decide +kernel)) (fun _ h9 => h9) rfl dX2_take_32 ?_
    refine lv_iconst (v := 0) hx hb dX2_take_35 (by decide) ?_
    refine lv_aload_n hx hb dX2_take_36 rfl (lv_at hl 1 rfl) ?_
    refine va_get (D := (dC, dI)) (ci := 2) (v := .int (z_length - 1)) (C := RX2) (T := TX2) (N := 4) hx hb hts (by decide +kernel) hown hK hP 0 rfl rfl 1 (by decide) (hts (.fieldLink RX2 15 "ShredStore$KeyRow" "length" "I") (by decide +kernel)) (fun _ h9 => h9) rfl dX2_take_37 ?_
    have h1_40 : ¬ 1 < (0 : Int32) := by decide
    have h2_40 : ¬ 0 < (0 : Int32) := by decide
    have h3_40 : ¬ (z_length - 1) < (0 : Int32) := by exact q_t1 c_4
    have h4_40 : (1 : Int32).toNatClampNeg + ((z_length - 1) : Int32).toNatClampNeg ≤ 40 := by exact q_t2 c_4 hp0
    have h5_40 : (0 : Int32).toNatClampNeg + ((z_length - 1) : Int32).toNatClampNeg ≤ 40 := by exact q_t3 c_4 hp0
    refine va_copyl hx hb (by rw [hml]; exact hl.1.symm) hown (hts (.methodLink RX2 29 arraycopyName) (by decide +kernel)) (hts (.native arraycopyName) (by decide +kernel)) (hts (.static arraycopyName) (by decide +kernel)) (hts (.initialized "java/lang/System") (by decide +kernel)) hK hP hD hS 1 1 0 0 rfl rfl rfl rfl rfl h1_40 h2_40 h3_40 h4_40 h5_40 (fun _ _ => rfl) (Nat.le_of_ble_eq_true rfl) (Nat.le_of_ble_eq_true rfl) dX2_take_40 (fun H locs hP hD hS => ?_)
    have hP : va_P (dC, dI) vwCl [(h0, .inr (2, [.ref h_keys, .int (z_length - 1), .ref x_remembered, .int z_rememberedLength])), (h_keys, .inl (cJ, 40, .inr (.inl (va_cpy z_keys z_keys (1 : Int32).toNatClampNeg (0 : Int32).toNatClampNeg ((z_length - 1) : Int32).toNatClampNeg))))] H := hP
    have hD : va_D A [(h0, .inr (2, [.ref h_keys, .int (z_length - 1), .ref x_remembered, .int z_rememberedLength])), (h_keys, .inl (cJ, 40, .inr (.inl (va_cpy z_keys z_keys (1 : Int32).toNatClampNeg (0 : Int32).toNatClampNeg ((z_length - 1) : Int32).toNatClampNeg))))] := hD
    refine lv_lload_n hx hb dX2_take_43 rfl (lv_at hl 0 rfl) ?_
    have hP9 := hP.sub (ws' := [(h0, .inr (2, [.ref h_keys, .int (z_length - 1), .ref x_remembered, .int z_rememberedLength])), (h_keys, .inl (cJ, 40, .inr (.inl (va_cpy z_keys z_keys (1 : Int32).toNatClampNeg (0 : Int32).toNatClampNeg ((z_length - 1) : Int32).toNatClampNeg))))]) [0, 1] rfl
    have hD9 := hD.sub (ws' := [(h0, .inr (2, [.ref h_keys, .int (z_length - 1), .ref x_remembered, .int z_rememberedLength])), (h_keys, .inl (cJ, 40, .inr (.inl (va_cpy z_keys z_keys (1 : Int32).toNatClampNeg (0 : Int32).toNatClampNeg ((z_length - 1) : Int32).toNatClampNeg))))]) [0, 1] (by decide) rfl
    subst hAe
    exact W.lret (v := (z_keys (0 : Int32).toNatClampNeg)) hx hb hr (fun t ht hW => ⟨⟨(z_keys (0 : Int32).toNatClampNeg), ((z_length - 1), (va_cpy z_keys z_keys (1 : Int32).toNatClampNeg (0 : Int32).toNatClampNeg ((z_length - 1) : Int32).toNatClampNeg)), rfl, hFR.symm.trans hF, by rw [ht]; exact hP9, va_K.moved hW.alike hK, hD9⟩, hS.F ht⟩) hS.2.2 dX2_take_44
  · have hF := ite_f c_4 hF
    refine lv_lconst (v := 0) hx hb dX2_take_7 (by decide) ?_
    have hP9 := hP.sub (ws' := [(h0, .inr (2, [.ref h_keys, .int z_length, .ref x_remembered, .int z_rememberedLength])), (h_keys, .inl (cJ, 40, .inr (.inl z_keys)))]) [0, 1] rfl
    have hD9 := hD.sub (ws' := [(h0, .inr (2, [.ref h_keys, .int z_length, .ref x_remembered, .int z_rememberedLength])), (h_keys, .inl (cJ, 40, .inr (.inl z_keys)))]) [0, 1] (by decide) rfl
    subst hAe
    exact W.lret (v := 0) hx hb hr (fun t ht hW => ⟨⟨0, (z_length, z_keys), rfl, hFR.symm.trans hF, by rw [ht]; exact hP9, va_K.moved hW.alike hK, hD9⟩, hS.F ht⟩) hS.2.2 dX2_take_8
set_option maxHeartbeats 4000000 in
set_option maxRecDepth 100000 in
theorem ct_X0_setByte (l : Launch) (dC : Nat → ClassId) (dI : Nat → Nat → Nat) (cJ cI cB cZ : ClassId) (h0 h_words : Nat) (z_words : Nat → Int64) (v1 : Int32) (v2 : Int64) (sz : Nat) : Met l yX0_setByte wsX0_setByte { frames := 0, cells := 0, slots := 0, locals := 0 } (va_Pc [.ref h0, .int v1, .long v2] (st_B (dC, dI) (ty4 cJ cI cB cZ) [(h0, .inr (0, [.ref h_words])), (h_words, .inl (cJ, 7, .inr (.inl z_words)))] sz)) (va_Qv (fun (u : (Nat → Int64)) => fn_X0_setByte z_words v1 v2 = u) (fun (u : (Nat → Int64)) t => st_W (dC, dI) (ty4 cJ cI cB cZ) [(h0, .inr (0, [.ref h_words])), (h_words, .inl (cJ, 7, .inr (.inl z_words)))] sz [(h0, .inr (0, [.ref h_words])), (h_words, .inl (cJ, 7, .inr (.inl u)))] t) (va_A [(h0, .inr (0, [.ref h_words])), (h_words, .inl (cJ, 7, .inr (.inl z_words)))] sz)) 0 0 (va_A [(h0, .inr (0, [.ref h_words])), (h_words, .inl (cJ, 7, .inr (.inl z_words)))] sz) := by
  refine Met.ofW (cc := cX0_setByte) (maxL := 5) (ret := none) (by decide) rfl ?_
  intro p e s m args below meth c s₁ B hml hv
  obtain ⟨rfl, hsz, hP, hK, hD0, hN⟩ := hv
  have hx := B.exec
  have hb := B.bytes
  have hr := B.returns
  have hts := atoms_spec (ws := wsX0_setByte) B.pre
  have hown : s.vm.findClass RX0 = some m.cls := findClass_of_methodNamed B.named
  have hlocks := B.notSynchronized
  subst hsz
  obtain ⟨A, hAe⟩ : ∃ z, z = va_A [(h0, .inr (0, [.ref h_words])), (h_words, .inl (cJ, 7, .inr (.inl z_words)))] s.heap.size := ⟨_, rfl⟩
  have hD : va_D A [(h0, .inr (0, [.ref h_words])), (h_words, .inl (cJ, 7, .inr (.inl z_words)))] := by rw [hAe]; exact hD0.self
  have hA : ∀ q : Nat, s.heap.size ≤ q → A q := fun q h => by rw [hAe]; exact Or.inr h
  have hS : va_S A s.heap s.heap [] := va_S.rf
  have hP : va_P (dC, dI) vwCl [(h0, .inr (0, [.ref h_words])), (h_words, .inl (cJ, 7, .inr (.inl z_words)))] s.heap := hP
  have hl := lv_entry ([.ref h0, .int v1, .long v2]) (n := 5) (Nat.le_of_ble_eq_true rfl)
  rw [lg_entry_eq]
  generalize (lg_sl ([.ref h0, .int v1, .long v2]) ++ List.replicate (5 - (lg_sl ([.ref h0, .int v1, .long v2])).length) Slot.unset).toArray = ls at hl ⊢
  have hl : lv_has ls 5 [(0, .ref h0), (1, .int v1), (2, .long v2)] := hl
  obtain ⟨FR, hFR⟩ : ∃ z, z = fn_X0_setByte z_words v1 v2 := ⟨_, rfl⟩
  have hF := hFR
  unfold fn_X0_setByte at hF
  refine lv_iload_n hx hb dX0_setByte_0 rfl (lv_at hl 1 rfl) ?_
  refine lv_if_lt (tgt := 10) hx hb dX0_setByte_1 (by decide) (fun c_1 => ?_) (fun c_1 => ?_)
  · have hF := ite_t c_1 hF
    have hP9 := hP.sub (ws' := [(h0, .inr (0, [.ref h_words])), (h_words, .inl (cJ, 7, .inr (.inl z_words)))]) [0, 1] rfl
    have hD9 := hD.sub (ws' := [(h0, .inr (0, [.ref h_words])), (h_words, .inl (cJ, 7, .inr (.inl z_words)))]) [0, 1] (by decide) rfl
    subst hAe
    exact W.vret hx hb hr (fun t ht hW => ⟨⟨(z_words), rfl, hFR.symm.trans hF, by rw [ht]; exact hP9, va_K.moved hW.alike hK, hD9⟩, hS.F ht⟩) hS.2.2 dX0_setByte_10
  · have hF := ite_f c_1 hF
    refine lv_iload_n hx hb dX0_setByte_4 rfl (lv_at hl 1 rfl) ?_
    refine lv_bipush (v := 51) hx hb dX0_setByte_5 (by decide) ?_
    refine lv_icmp_lt (tgt := 11) hx hb dX0_setByte_7 (by decide) (fun c_7 => ?_) (fun c_7 => ?_)
    · have hF := ite_t c_7 hF
      refine lv_bipush (v := 56) hx hb dX0_setByte_11 (by decide) ?_
      refine lv_bipush (v := 8) hx hb dX0_setByte_13 (by decide) ?_
      refine lv_iload_n hx hb dX0_setByte_15 rfl (lv_at hl 1 rfl) ?_
      refine lv_bipush (v := 8) hx hb dX0_setByte_16 (by decide) ?_
      refine lv_irem hx hb dX0_setByte_18 (by decide) ?_
      refine lv_imul hx hb dX0_setByte_19 ?_
      refine lv_isub hx hb dX0_setByte_20 ?_
      refine lv_istore (lv' := [(4, .int (56 - (8 * (v1 - v1 / 8 * 8)))), (0, .ref h0), (1, .int v1), (2, .long v2)]) hx hb dX0_setByte_21 hl (by decide) rfl (fun ls hl => ?_)
      refine lv_aload_n hx hb dX0_setByte_23 rfl (lv_at hl 1 rfl) ?_
      refine va_get (D := (dC, dI)) (ci := 0) (v := .ref h_words) (C := RX0) (T := TX0) (N := 1) hx hb hts (by decide +kernel) hown hK hP 0 rfl rfl 0 (by decide) (hts (.fieldLink RX0 9 "ShredStore$Body" "words" "[J") (by decide +kernel)) (fun _ h9 => h9) rfl dX0_setByte_24 ?_
      refine lv_iload_n hx hb dX0_setByte_27 rfl (lv_at hl 2 rfl) ?_
      refine lv_bipush (v := 8) hx hb dX0_setByte_28 (by decide) ?_
      refine lv_idiv hx hb dX0_setByte_30 (by decide) ?_
      refine lv_aload_n hx hb dX0_setByte_31 rfl (lv_at hl 1 rfl) ?_
      refine va_get (D := (dC, dI)) (ci := 0) (v := .ref h_words) (C := RX0) (T := TX0) (N := 1) hx hb hts (by decide +kernel) hown hK hP 0 rfl rfl 0 (by decide) (hts (.fieldLink RX0 9 "ShredStore$Body" "words" "[J") (by decide +kernel)) (fun _ h9 => h9) rfl dX0_setByte_32 ?_
      refine lv_iload_n hx hb dX0_setByte_35 rfl (lv_at hl 2 rfl) ?_
      refine lv_bipush (v := 8) hx hb dX0_setByte_36 (by decide) ?_
      refine lv_idiv hx hb dX0_setByte_38 (by decide) ?_
      have hr_39 : vp_in (v1 / 8) 7 := by exact q_d8 (q_i1 c_1 c_7 (n := 51) (by decide)) (by decide)
      refine va_lald hx hb hK hP 1 0 rfl rfl hr_39 dX0_setByte_39 ?_
      refine lv_ldc2 (v := 255) hx hb hown (hts (.constantLong RX0 36 255) (by decide +kernel)) dX0_setByte_40 ?_
      refine lv_iload hx hb dX0_setByte_43 (lv_at hl 0 rfl) ?_
      refine lv_lshl (v := (ju_lshl 255 (56 - (8 * (v1 - v1 / 8 * 8))))) hx hb dX0_setByte_45 rfl ?_
      refine lv_ldc2 (v := (-1)) hx hb hown (hts (.constantLong RX0 38 (-1)) (by decide +kernel)) dX0_setByte_46 ?_
      refine lv_lxor hx hb dX0_setByte_49 ?_
      refine lv_land hx hb dX0_setByte_50 ?_
      refine lv_lload_n hx hb dX0_setByte_51 rfl (lv_at hl 3 rfl) ?_
      refine lv_ldc2 (v := 255) hx hb hown (hts (.constantLong RX0 36 255) (by decide +kernel)) dX0_setByte_52 ?_
      refine lv_land hx hb dX0_setByte_55 ?_
      refine lv_iload hx hb dX0_setByte_56 (lv_at hl 0 rfl) ?_
      refine lv_lshl (v := (ju_lshl (v2 &&& 255) (56 - (8 * (v1 - v1 / 8 * 8))))) hx hb dX0_setByte_58 rfl ?_
      refine lv_lor hx hb dX0_setByte_59 ?_
      have hr_60 : vp_in (v1 / 8) 7 := by exact q_d8 (q_i1 c_1 c_7 (n := 51) (by decide)) (by decide)
      refine va_last hx hb hK hP hD hS 1 0 rfl rfl hr_60 dX0_setByte_60 (fun H locs hP hD hS => ?_)
      have hP : va_P (dC, dI) vwCl [(h0, .inr (0, [.ref h_words])), (h_words, .inl (cJ, 7, .inr (.inl (vp_updL z_words ((v1 / 8) : Int32).toNatClampNeg (((z_words ((v1 / 8) : Int32).toNatClampNeg) &&& ((ju_lshl 255 (56 - (8 * (v1 - v1 / 8 * 8)))) ^^^ (-1))) ||| (ju_lshl (v2 &&& 255) (56 - (8 * (v1 - v1 / 8 * 8)))))))))] H := hP
      have hD : va_D A [(h0, .inr (0, [.ref h_words])), (h_words, .inl (cJ, 7, .inr (.inl (vp_updL z_words ((v1 / 8) : Int32).toNatClampNeg (((z_words ((v1 / 8) : Int32).toNatClampNeg) &&& ((ju_lshl 255 (56 - (8 * (v1 - v1 / 8 * 8)))) ^^^ (-1))) ||| (ju_lshl (v2 &&& 255) (56 - (8 * (v1 - v1 / 8 * 8)))))))))] := hD
      have hP9 := hP.sub (ws' := [(h0, .inr (0, [.ref h_words])), (h_words, .inl (cJ, 7, .inr (.inl (vp_updL z_words ((v1 / 8) : Int32).toNatClampNeg (((z_words ((v1 / 8) : Int32).toNatClampNeg) &&& ((ju_lshl 255 (56 - (8 * (v1 - v1 / 8 * 8)))) ^^^ (-1))) ||| (ju_lshl (v2 &&& 255) (56 - (8 * (v1 - v1 / 8 * 8)))))))))]) [0, 1] rfl
      have hD9 := hD.sub (ws' := [(h0, .inr (0, [.ref h_words])), (h_words, .inl (cJ, 7, .inr (.inl (vp_updL z_words ((v1 / 8) : Int32).toNatClampNeg (((z_words ((v1 / 8) : Int32).toNatClampNeg) &&& ((ju_lshl 255 (56 - (8 * (v1 - v1 / 8 * 8)))) ^^^ (-1))) ||| (ju_lshl (v2 &&& 255) (56 - (8 * (v1 - v1 / 8 * 8)))))))))]) [0, 1] (by decide) rfl
      subst hAe
      exact W.vret hx hb hr (fun t ht hW => ⟨⟨((vp_updL z_words ((v1 / 8) : Int32).toNatClampNeg (((z_words ((v1 / 8) : Int32).toNatClampNeg) &&& ((ju_lshl 255 (56 - (8 * (v1 - v1 / 8 * 8)))) ^^^ (-1))) ||| (ju_lshl (v2 &&& 255) (56 - (8 * (v1 - v1 / 8 * 8))))))), rfl, hFR.symm.trans hF, by rw [ht]; exact hP9, va_K.moved hW.alike hK, hD9⟩, hS.F ht⟩) hS.2.2 dX0_setByte_61
    · have hF := ite_f c_7 hF
      have hP9 := hP.sub (ws' := [(h0, .inr (0, [.ref h_words])), (h_words, .inl (cJ, 7, .inr (.inl z_words)))]) [0, 1] rfl
      have hD9 := hD.sub (ws' := [(h0, .inr (0, [.ref h_words])), (h_words, .inl (cJ, 7, .inr (.inl z_words)))]) [0, 1] (by decide) rfl
      subst hAe
      exact W.vret hx hb hr (fun t ht hW => ⟨⟨(z_words), rfl, hFR.symm.trans hF, by rw [ht]; exact hP9, va_K.moved hW.alike hK, hD9⟩, hS.F ht⟩) hS.2.2 dX0_setByte_10
set_option maxHeartbeats 4000000 in
set_option maxRecDepth 100000 in
theorem ct_X0_setNumber (l : Launch) (dC : Nat → ClassId) (dI : Nat → Nat → Nat) (cJ cI cB cZ : ClassId) (h0 h_words : Nat) (z_words : Nat → Int64) (v1 : Int32) (v2 : Int32) (v3 : Int64) (hp0 : 0 ≤ v2.toInt) (hp1 : v2.toInt ≤ 8) (sz : Nat) : Met l yX0_setNumber wsX0_setNumber { frames := 1, cells := 0, slots := 0, locals := 24 } (va_Pc [.ref h0, .int v1, .int v2, .long v3] (st_B (dC, dI) (ty4 cJ cI cB cZ) [(h0, .inr (0, [.ref h_words])), (h_words, .inl (cJ, 7, .inr (.inl z_words)))] sz)) (va_Qv (fun (u : (Nat → Int64)) => fn_X0_setNumber z_words v1 v2 v3 = u) (fun (u : (Nat → Int64)) t => st_W (dC, dI) (ty4 cJ cI cB cZ) [(h0, .inr (0, [.ref h_words])), (h_words, .inl (cJ, 7, .inr (.inl z_words)))] sz [(h0, .inr (0, [.ref h_words])), (h_words, .inl (cJ, 7, .inr (.inl u)))] t) (va_A [(h0, .inr (0, [.ref h_words])), (h_words, .inl (cJ, 7, .inr (.inl z_words)))] sz)) 0 0 (va_A [(h0, .inr (0, [.ref h_words])), (h_words, .inl (cJ, 7, .inr (.inl z_words)))] sz) := by
  refine Met.ofW (cc := cX0_setNumber) (maxL := 6) (ret := none) (by decide) rfl ?_
  intro p e s m args below meth c s₁ B hml hv
  obtain ⟨rfl, hsz, hP, hK, hD0, hN⟩ := hv
  have hx := B.exec
  have hb := B.bytes
  have hr := B.returns
  have hts := atoms_spec (ws := wsX0_setNumber) B.pre
  have hown : s.vm.findClass RX0 = some m.cls := findClass_of_methodNamed B.named
  have hlocks := B.notSynchronized
  subst hsz
  obtain ⟨A, hAe⟩ : ∃ z, z = va_A [(h0, .inr (0, [.ref h_words])), (h_words, .inl (cJ, 7, .inr (.inl z_words)))] s.heap.size := ⟨_, rfl⟩
  have hD : va_D A [(h0, .inr (0, [.ref h_words])), (h_words, .inl (cJ, 7, .inr (.inl z_words)))] := by rw [hAe]; exact hD0.self
  have hA : ∀ q : Nat, s.heap.size ≤ q → A q := fun q h => by rw [hAe]; exact Or.inr h
  have hS : va_S A s.heap s.heap [] := va_S.rf
  have hP : va_P (dC, dI) vwCl [(h0, .inr (0, [.ref h_words])), (h_words, .inl (cJ, 7, .inr (.inl z_words)))] s.heap := hP
  have hl := lv_entry ([.ref h0, .int v1, .int v2, .long v3]) (n := 6) (Nat.le_of_ble_eq_true rfl)
  rw [lg_entry_eq]
  generalize (lg_sl ([.ref h0, .int v1, .int v2, .long v3]) ++ List.replicate (6 - (lg_sl ([.ref h0, .int v1, .int v2, .long v3])).length) Slot.unset).toArray = ls at hl ⊢
  have hl : lv_has ls 6 [(0, .ref h0), (1, .int v1), (2, .int v2), (3, .long v3)] := hl
  obtain ⟨FR, hFR⟩ : ∃ z, z = fn_X0_setNumber z_words v1 v2 v3 := ⟨_, rfl⟩
  have hF := hFR
  unfold fn_X0_setNumber at hF
  refine lv_iconst (v := 0) hx hb dX0_setNumber_0 (by decide) ?_
  refine lv_istore (lv' := [(5, .int 0), (0, .ref h0), (1, .int v1), (2, .int v2), (3, .long v3)]) hx hb dX0_setNumber_1 hl (by decide) rfl (fun ls hl => ?_)
  have lp_3 : ∀ (n3 : Nat) (z_words_L3 : Nat → Int64) (v5_L3 : Int32), (∃ j3 : Nat, v5_L3 = nI j3 ∧ j3 ≤ 8 ∧ 8 < j3 + n3) → ∀ (H : Heap) (locs : List Loc), va_P (dC, dI) vwCl [(h0, .inr (0, [.ref h_words])), (h_words, .inl (cJ, 7, .inr (.inl z_words_L3)))] H → va_D A [(h0, .inr (0, [.ref h_words])), (h_words, .inl (cJ, 7, .inr (.inl z_words_L3)))] → va_S A s.heap H locs → ∀ (ls : Array Slot), lv_has ls 6 [(0, .ref h0), (1, .int v1), (2, .int v2), (3, .long v3), (5, .int v5_L3)] → FR = fn_X0_setNumber_L3 n3 z_words_L3 v1 v2 v3 v5_L3 → W p l e (headSpec wsX0_setNumber { frames := 1, cells := 0, slots := 0, locals := 24 }).room s m ([.ref h0, .int v1, .int v2, .long v3] : List Value).toArray below meth c H locs 0 0 (MQ below (va_Qv (fun (u : (Nat → Int64)) => fn_X0_setNumber z_words v1 v2 v3 = u) (fun (u : (Nat → Int64)) t => st_W (dC, dI) (ty4 cJ cI cB cZ) [(h0, .inr (0, [.ref h_words])), (h_words, .inl (cJ, 7, .inr (.inl z_words)))] s.heap.size [(h0, .inr (0, [.ref h_words])), (h_words, .inl (cJ, 7, .inr (.inl u)))] t) (va_A [(h0, .inr (0, [.ref h_words])), (h_words, .inl (cJ, 7, .inr (.inl z_words)))] s.heap.size)) ([.ref h0, .int v1, .int v2, .long v3] : List Value).toArray s 0 0 (va_A [(h0, .inr (0, [.ref h_words])), (h_words, .inl (cJ, 7, .inr (.inl z_words)))] s.heap.size)) (F0 m 3 ls []) := by
    intro n3
    induction n3 with
    | zero =>
      intro z_words_L3 v5_L3 hI
      exact absurd hI (by rintro ⟨j, -, h1, h2⟩; omega)
    | succ n3 ih_3 =>
      intro z_words_L3 v5_L3 hI H locs hP hD hS ls hl hF
      rw [fn_X0_setNumber_L3] at hF
      obtain ⟨j3, ev3, hj3, hn3⟩ := hI
      refine lv_iload hx hb dX0_setNumber_3 (lv_at hl 4 rfl) ?_
      refine lv_iload_n hx hb dX0_setNumber_5 rfl (lv_at hl 2 rfl) ?_
      refine lv_icmp_ge (tgt := 34) hx hb dX0_setNumber_6 (by decide) (fun c_6 => ?_) (fun c_6 => ?_)
      · have hF := ite_t c_6 hF
        have hP9 := hP.sub (ws' := [(h0, .inr (0, [.ref h_words])), (h_words, .inl (cJ, 7, .inr (.inl z_words_L3)))]) [0, 1] rfl
        have hD9 := hD.sub (ws' := [(h0, .inr (0, [.ref h_words])), (h_words, .inl (cJ, 7, .inr (.inl z_words_L3)))]) [0, 1] (by decide) rfl
        subst hAe
        exact W.vret hx hb hr (fun t ht hW => ⟨⟨(z_words_L3), rfl, hFR.symm.trans hF, by rw [ht]; exact hP9, va_K.moved hW.alike hK, hD9⟩, hS.F ht⟩) hS.2.2 dX0_setNumber_34
      · have hF := ite_f c_6 hF
        have hlt3 : j3 < 8 := (by have q9 := q_nle c_6; rw [ev3, nI_toInt (by omega)] at q9; omega)
        refine lv_aload_n hx hb dX0_setNumber_9 rfl (lv_at hl 0 rfl) ?_
        refine lv_iload_n hx hb dX0_setNumber_10 rfl (lv_at hl 1 rfl) ?_
        refine lv_iload hx hb dX0_setNumber_11 (lv_at hl 4 rfl) ?_
        refine lv_iadd hx hb dX0_setNumber_13 ?_
        refine lv_lload_n hx hb dX0_setNumber_14 rfl (lv_at hl 3 rfl) ?_
        refine lv_bipush (v := 8) hx hb dX0_setNumber_15 (by decide) ?_
        refine lv_iload_n hx hb dX0_setNumber_17 rfl (lv_at hl 2 rfl) ?_
        refine lv_iconst (v := 1) hx hb dX0_setNumber_18 (by decide) ?_
        refine lv_isub hx hb dX0_setNumber_19 ?_
        refine lv_iload hx hb dX0_setNumber_20 (lv_at hl 4 rfl) ?_
        refine lv_isub hx hb dX0_setNumber_22 ?_
        refine lv_imul hx hb dX0_setNumber_23 ?_
        refine lv_lushr (v := (ju_lushr v3 (8 * ((v2 - 1) - v5_L3)))) hx hb dX0_setNumber_24 rfl ?_
        refine st_callv (wr := []) (va_runV (As := [.int (v1 + v5_L3), .long (ju_lushr v3 (8 * ((v2 - 1) - v5_L3)))]) (rest := []) ⟨hx, hb, hml, hown, hts⟩ (ct_X0_setByte l dC dI cJ cI cB cZ h0 h_words z_words_L3 (v1 + v5_L3) (ju_lushr v3 (8 * ((v2 - 1) - v5_L3))) H.size) (cwV 2 hts gX0_setNumber_X0_setByte rfl rfl rfl (by decide +kernel) ⟨Nat.le_of_ble_eq_true rfl, Nat.le_of_ble_eq_true rfl⟩) (st_preV (ci := 0) (q0 := 0) hK hP hD hN [0, 1] rfl (by decide) rfl rfl rfl) rfl rfl hl.1 rfl (lv_room (Nat.le_of_ble_eq_true rfl)) dX0_setNumber_25 ⟨Nat.le_of_ble_eq_true rfl, Nat.le_of_ble_eq_true rfl⟩) hP hD hS hA [0, 1] [] rfl rfl (by decide) (by decide) (fun u H locs hw hP hD hS => ?_)
        obtain ⟨y25_0, hu9⟩ : ∃ z, z = u := ⟨_, rfl⟩
        subst hu9
        have hP : va_P (dC, dI) vwCl [(h0, .inr (0, [.ref h_words])), (h_words, .inl (cJ, 7, .inr (.inl y25_0)))] H := hP
        have hD : va_D A [(h0, .inr (0, [.ref h_words])), (h_words, .inl (cJ, 7, .inr (.inl y25_0)))] := hD
        have hF := bnd1_eq hw hF
        refine lv_iinc (v := (v5_L3 + 1)) (lv' := [(5, .int (v5_L3 + 1)), (0, .ref h0), (1, .int v1), (2, .int v2), (3, .long v3)]) hx hb dX0_setNumber_28 hl (k := 4) rfl rfl (by decide) rfl (fun ls hl => ?_)
        refine lv_goto (tgt := 3) hx hb dX0_setNumber_31 (by decide) ?_
        exact ih_3 y25_0 (v5_L3 + 1) (by exact ⟨j3 + 1, by rw [ev3]; exact nI_1 j3, by omega, by omega⟩) _ _ hP hD hS _ (lv_sub hl [1, 2, 3, 4, 0] rfl) hF
  exact lp_3 9 z_words 0 (by exact ⟨0, rfl, by omega, by omega⟩) _ _ hP hD hS _ (lv_sub hl [1, 2, 3, 4, 0] rfl) hF
set_option maxHeartbeats 4000000 in
set_option maxRecDepth 100000 in
theorem ct_X5_byteAt (l : Launch) (dC : Nat → ClassId) (dI : Nat → Nat → Nat) (cJ cI cB cZ : ClassId) (h0 h_bytes : Nat) (z_length : Int32) (z_bytes : Nat → Int32) (v1 : Int32) (hp0 : z_length.toInt ≤ 96) (sz : Nat) : Met l yX5_byteAt wsX5_byteAt { frames := 0, cells := 0, slots := 0, locals := 0 } (va_Pc [.ref h0, .int v1] (st_B (dC, dI) (ty4 cJ cI cB cZ) [(h0, .inr (5, [.ref h_bytes, .int z_length])), (h_bytes, .inl (cB, 96, .inl z_bytes))] sz)) (va_Qi (fun (r : Int32) (u : Unit) => fn_X5_byteAt z_length z_bytes v1 = r) (fun (u : Unit) t => st_W (dC, dI) (ty4 cJ cI cB cZ) [(h0, .inr (5, [.ref h_bytes, .int z_length])), (h_bytes, .inl (cB, 96, .inl z_bytes))] sz [(h0, .inr (5, [.ref h_bytes, .int z_length])), (h_bytes, .inl (cB, 96, .inl z_bytes))] t) (va_A [(h0, .inr (5, [.ref h_bytes, .int z_length])), (h_bytes, .inl (cB, 96, .inl z_bytes))] sz)) 0 0 (va_A [(h0, .inr (5, [.ref h_bytes, .int z_length])), (h_bytes, .inl (cB, 96, .inl z_bytes))] sz) := by
  refine Met.ofW (cc := cX5_byteAt) (maxL := 2) (ret := (some .int)) (by decide) rfl ?_
  intro p e s m args below meth c s₁ B hml hv
  obtain ⟨rfl, hsz, hP, hK, hD0, hN⟩ := hv
  have hx := B.exec
  have hb := B.bytes
  have hr := B.returns
  have hts := atoms_spec (ws := wsX5_byteAt) B.pre
  have hown : s.vm.findClass RX5 = some m.cls := findClass_of_methodNamed B.named
  have hlocks := B.notSynchronized
  subst hsz
  obtain ⟨A, hAe⟩ : ∃ z, z = va_A [(h0, .inr (5, [.ref h_bytes, .int z_length])), (h_bytes, .inl (cB, 96, .inl z_bytes))] s.heap.size := ⟨_, rfl⟩
  have hD : va_D A [(h0, .inr (5, [.ref h_bytes, .int z_length])), (h_bytes, .inl (cB, 96, .inl z_bytes))] := by rw [hAe]; exact hD0.self
  have hA : ∀ q : Nat, s.heap.size ≤ q → A q := fun q h => by rw [hAe]; exact Or.inr h
  have hS : va_S A s.heap s.heap [] := va_S.rf
  have hP : va_P (dC, dI) vwCl [(h0, .inr (5, [.ref h_bytes, .int z_length])), (h_bytes, .inl (cB, 96, .inl z_bytes))] s.heap := hP
  have hl := lv_entry ([.ref h0, .int v1]) (n := 2) (Nat.le_of_ble_eq_true rfl)
  rw [lg_entry_eq]
  generalize (lg_sl ([.ref h0, .int v1]) ++ List.replicate (2 - (lg_sl ([.ref h0, .int v1])).length) Slot.unset).toArray = ls at hl ⊢
  have hl : lv_has ls 2 [(0, .ref h0), (1, .int v1)] := hl
  obtain ⟨FR, hFR⟩ : ∃ z, z = fn_X5_byteAt z_length z_bytes v1 := ⟨_, rfl⟩
  have hF := hFR
  unfold fn_X5_byteAt at hF
  refine lv_iload_n hx hb dX5_byteAt_0 rfl (lv_at hl 1 rfl) ?_
  refine lv_if_lt (tgt := 12) hx hb dX5_byteAt_1 (by decide) (fun c_1 => ?_) (fun c_1 => ?_)
  · have hF := ite_t c_1 hF
    refine lv_iconst (v := 0) hx hb dX5_byteAt_12 (by decide) ?_
    refine lv_goto (tgt := 26) hx hb dX5_byteAt_13 (by decide) ?_
    have hP9 := hP.sub (ws' := [(h0, .inr (5, [.ref h_bytes, .int z_length])), (h_bytes, .inl (cB, 96, .inl z_bytes))]) [0, 1] rfl
    have hD9 := hD.sub (ws' := [(h0, .inr (5, [.ref h_bytes, .int z_length])), (h_bytes, .inl (cB, 96, .inl z_bytes))]) [0, 1] (by decide) rfl
    subst hAe
    exact W.iret (v := 0) hx hb hr (fun t ht hW => ⟨⟨0, (), rfl, hFR.symm.trans hF, by rw [ht]; exact hP9, va_K.moved hW.alike hK, hD9⟩, hS.F ht⟩) hS.2.2 dX5_byteAt_26
  · have hF := ite_f c_1 hF
    refine lv_iload_n hx hb dX5_byteAt_4 rfl (lv_at hl 1 rfl) ?_
    refine lv_aload_n hx hb dX5_byteAt_5 rfl (lv_at hl 0 rfl) ?_
    refine va_get (D := (dC, dI)) (ci := 5) (v := .int z_length) (C := RX5) (T := TX5) (N := 2) hx hb hts (by decide +kernel) hown hK hP 0 rfl rfl 1 (by decide) (hts (.fieldLink RX5 15 "ShredStore$Tape" "length" "I") (by decide +kernel)) (fun _ h9 => h9) rfl dX5_byteAt_6 ?_
    refine lv_icmp_lt (tgt := 16) hx hb dX5_byteAt_9 (by decide) (fun c_9 => ?_) (fun c_9 => ?_)
    · have hF := ite_t c_9 hF
      refine lv_aload_n hx hb dX5_byteAt_16 rfl (lv_at hl 0 rfl) ?_
      refine va_get (D := (dC, dI)) (ci := 5) (v := .ref h_bytes) (C := RX5) (T := TX5) (N := 2) hx hb hts (by decide +kernel) hown hK hP 0 rfl rfl 0 (by decide) (hts (.fieldLink RX5 9 "ShredStore$Tape" "bytes" "[B") (by decide +kernel)) (fun _ h9 => h9) rfl dX5_byteAt_17 ?_
      refine lv_iload_n hx hb dX5_byteAt_20 rfl (lv_at hl 1 rfl) ?_
      have hr_21 : vp_in v1 96 := by exact q_i5 c_1 c_9 hp0
      refine va_bald hx hb hK hP 1 2 rfl rfl hr_21 dX5_byteAt_21 ?_
      refine lv_sipush (v := 255) hx hb dX5_byteAt_22 (by decide) ?_
      refine lv_iand hx hb dX5_byteAt_25 ?_
      have hP9 := hP.sub (ws' := [(h0, .inr (5, [.ref h_bytes, .int z_length])), (h_bytes, .inl (cB, 96, .inl z_bytes))]) [0, 1] rfl
      have hD9 := hD.sub (ws' := [(h0, .inr (5, [.ref h_bytes, .int z_length])), (h_bytes, .inl (cB, 96, .inl z_bytes))]) [0, 1] (by decide) rfl
      subst hAe
      exact W.iret (v := ((z_bytes (v1 : Int32).toNatClampNeg) &&& 255)) hx hb hr (fun t ht hW => ⟨⟨((z_bytes (v1 : Int32).toNatClampNeg) &&& 255), (), rfl, hFR.symm.trans hF, by rw [ht]; exact hP9, va_K.moved hW.alike hK, hD9⟩, hS.F ht⟩) hS.2.2 dX5_byteAt_26
    · have hF := ite_f c_9 hF
      refine lv_iconst (v := 0) hx hb dX5_byteAt_12 (by decide) ?_
      refine lv_goto (tgt := 26) hx hb dX5_byteAt_13 (by decide) ?_
      have hP9 := hP.sub (ws' := [(h0, .inr (5, [.ref h_bytes, .int z_length])), (h_bytes, .inl (cB, 96, .inl z_bytes))]) [0, 1] rfl
      have hD9 := hD.sub (ws' := [(h0, .inr (5, [.ref h_bytes, .int z_length])), (h_bytes, .inl (cB, 96, .inl z_bytes))]) [0, 1] (by decide) rfl
      subst hAe
      exact W.iret (v := 0) hx hb hr (fun t ht hW => ⟨⟨0, (), rfl, hFR.symm.trans hF, by rw [ht]; exact hP9, va_K.moved hW.alike hK, hD9⟩, hS.F ht⟩) hS.2.2 dX5_byteAt_26
set_option maxHeartbeats 4000000 in
set_option maxRecDepth 100000 in
theorem ct_X0_setData (l : Launch) (dC : Nat → ClassId) (dI : Nat → Nat → Nat) (cJ cI cB cZ : ClassId) (h0 h_words h_a1 h_a1_bytes : Nat) (z_words : Nat → Int64) (z_a1_length : Int32) (z_a1_bytes : Nat → Int32) (v1 : Int32) (v3 : Int32) (v4 : Int32) (hp0 : v4.toInt ≤ 96) (hp1 : z_a1_length.toInt ≤ 96) (sz : Nat) : Met l yX0_setData wsX0_setData { frames := 2, cells := 0, slots := 0, locals := 49 } (va_Pc [.ref h0, .int v1, .ref h_a1, .int v3, .int v4] (st_B (dC, dI) (ty4 cJ cI cB cZ) [(h0, .inr (0, [.ref h_words])), (h_words, .inl (cJ, 7, .inr (.inl z_words))), (h_a1, .inr (5, [.ref h_a1_bytes, .int z_a1_length])), (h_a1_bytes, .inl (cB, 96, .inl z_a1_bytes))] sz)) (va_Qv (fun (u : (Nat → Int64)) => fn_X0_setData z_words z_a1_length z_a1_bytes v1 v3 v4 = u) (fun (u : (Nat → Int64)) t => st_W (dC, dI) (ty4 cJ cI cB cZ) [(h0, .inr (0, [.ref h_words])), (h_words, .inl (cJ, 7, .inr (.inl z_words))), (h_a1, .inr (5, [.ref h_a1_bytes, .int z_a1_length])), (h_a1_bytes, .inl (cB, 96, .inl z_a1_bytes))] sz [(h0, .inr (0, [.ref h_words])), (h_words, .inl (cJ, 7, .inr (.inl u))), (h_a1, .inr (5, [.ref h_a1_bytes, .int z_a1_length])), (h_a1_bytes, .inl (cB, 96, .inl z_a1_bytes))] t) (va_A [(h0, .inr (0, [.ref h_words])), (h_words, .inl (cJ, 7, .inr (.inl z_words))), (h_a1, .inr (5, [.ref h_a1_bytes, .int z_a1_length])), (h_a1_bytes, .inl (cB, 96, .inl z_a1_bytes))] sz)) 0 0 (va_A [(h0, .inr (0, [.ref h_words])), (h_words, .inl (cJ, 7, .inr (.inl z_words))), (h_a1, .inr (5, [.ref h_a1_bytes, .int z_a1_length])), (h_a1_bytes, .inl (cB, 96, .inl z_a1_bytes))] sz) := by
  refine Met.ofW (cc := cX0_setData) (maxL := 6) (ret := none) (by decide) rfl ?_
  intro p e s m args below meth c s₁ B hml hv
  obtain ⟨rfl, hsz, hP, hK, hD0, hN⟩ := hv
  have hx := B.exec
  have hb := B.bytes
  have hr := B.returns
  have hts := atoms_spec (ws := wsX0_setData) B.pre
  have hown : s.vm.findClass RX0 = some m.cls := findClass_of_methodNamed B.named
  have hlocks := B.notSynchronized
  subst hsz
  obtain ⟨A, hAe⟩ : ∃ z, z = va_A [(h0, .inr (0, [.ref h_words])), (h_words, .inl (cJ, 7, .inr (.inl z_words))), (h_a1, .inr (5, [.ref h_a1_bytes, .int z_a1_length])), (h_a1_bytes, .inl (cB, 96, .inl z_a1_bytes))] s.heap.size := ⟨_, rfl⟩
  have hD : va_D A [(h0, .inr (0, [.ref h_words])), (h_words, .inl (cJ, 7, .inr (.inl z_words))), (h_a1, .inr (5, [.ref h_a1_bytes, .int z_a1_length])), (h_a1_bytes, .inl (cB, 96, .inl z_a1_bytes))] := by rw [hAe]; exact hD0.self
  have hA : ∀ q : Nat, s.heap.size ≤ q → A q := fun q h => by rw [hAe]; exact Or.inr h
  have hS : va_S A s.heap s.heap [] := va_S.rf
  have hP : va_P (dC, dI) vwCl [(h0, .inr (0, [.ref h_words])), (h_words, .inl (cJ, 7, .inr (.inl z_words))), (h_a1, .inr (5, [.ref h_a1_bytes, .int z_a1_length])), (h_a1_bytes, .inl (cB, 96, .inl z_a1_bytes))] s.heap := hP
  have hl := lv_entry ([.ref h0, .int v1, .ref h_a1, .int v3, .int v4]) (n := 6) (Nat.le_of_ble_eq_true rfl)
  rw [lg_entry_eq]
  generalize (lg_sl ([.ref h0, .int v1, .ref h_a1, .int v3, .int v4]) ++ List.replicate (6 - (lg_sl ([.ref h0, .int v1, .ref h_a1, .int v3, .int v4])).length) Slot.unset).toArray = ls at hl ⊢
  have hl : lv_has ls 6 [(0, .ref h0), (1, .int v1), (2, .ref h_a1), (3, .int v3), (4, .int v4)] := hl
  obtain ⟨FR, hFR⟩ : ∃ z, z = fn_X0_setData z_words z_a1_length z_a1_bytes v1 v3 v4 := ⟨_, rfl⟩
  have hF := hFR
  unfold fn_X0_setData at hF
  refine lv_aload_n hx hb dX0_setData_0 rfl (lv_at hl 0 rfl) ?_
  refine st_callv (wr := [(h_a1, .inr (5, [.ref h_a1_bytes, .int z_a1_length])), (h_a1_bytes, .inl (cB, 96, .inl z_a1_bytes))]) (va_runV (As := []) (rest := []) ⟨hx, hb, hml, hown, hts⟩ (ct_X0_clear l dC dI cJ cI cB cZ h0 h_words z_words s.heap.size) (cwV 0 hts gX0_setData_X0_clear rfl rfl rfl (by decide +kernel) ⟨Nat.le_of_ble_eq_true rfl, Nat.le_of_ble_eq_true rfl⟩) (st_preV (ci := 0) (q0 := 0) hK hP hD hN [0, 1] rfl (by decide) rfl rfl rfl) rfl rfl hl.1 rfl (lv_room (Nat.le_of_ble_eq_true rfl)) dX0_setData_1 ⟨Nat.le_of_ble_eq_true rfl, Nat.le_of_ble_eq_true rfl⟩) hP hD hS hA [0, 1] [2, 3] rfl rfl (by decide) (by decide) (fun u H locs hw hP hD hS => ?_)
  obtain ⟨y1_0, hu9⟩ : ∃ z, z = u := ⟨_, rfl⟩
  subst hu9
  have hP : va_P (dC, dI) vwCl [(h_a1, .inr (5, [.ref h_a1_bytes, .int z_a1_length])), (h_a1_bytes, .inl (cB, 96, .inl z_a1_bytes)), (h0, .inr (0, [.ref h_words])), (h_words, .inl (cJ, 7, .inr (.inl y1_0)))] H := hP
  have hD : va_D A [(h_a1, .inr (5, [.ref h_a1_bytes, .int z_a1_length])), (h_a1_bytes, .inl (cB, 96, .inl z_a1_bytes)), (h0, .inr (0, [.ref h_words])), (h_words, .inl (cJ, 7, .inr (.inl y1_0)))] := hD
  have hF := bnd1_eq hw hF
  refine lv_aload_n hx hb dX0_setData_4 rfl (lv_at hl 0 rfl) ?_
  refine lv_iconst (v := 0) hx hb dX0_setData_5 (by decide) ?_
  refine lv_iconst (v := 2) hx hb dX0_setData_6 (by decide) ?_
  refine lv_iload_n hx hb dX0_setData_7 rfl (lv_at hl 1 rfl) ?_
  refine lv_i2l (v := (v1 : Int32).toInt64) hx hb dX0_setData_8 rfl ?_
  have hq_9_0 : 0 ≤ (2 : Int32).toInt := by decide
  have hq_9_1 : (2 : Int32).toInt ≤ 8 := by decide
  refine st_callv (wr := [(h_a1, .inr (5, [.ref h_a1_bytes, .int z_a1_length])), (h_a1_bytes, .inl (cB, 96, .inl z_a1_bytes))]) (va_runV (As := [.int 0, .int 2, .long ((v1 : Int32).toInt64)]) (rest := []) ⟨hx, hb, hml, hown, hts⟩ (ct_X0_setNumber l dC dI cJ cI cB cZ h0 h_words y1_0 0 2 ((v1 : Int32).toInt64) hq_9_0 hq_9_1 H.size) (cwV 3 hts gX0_setData_X0_setNumber rfl rfl rfl (by decide +kernel) ⟨Nat.le_of_ble_eq_true rfl, Nat.le_of_ble_eq_true rfl⟩) (st_preV (ci := 0) (q0 := 2) hK hP hD hN [2, 3] rfl (by decide) rfl rfl rfl) rfl rfl hl.1 rfl (lv_room (Nat.le_of_ble_eq_true rfl)) dX0_setData_9 ⟨Nat.le_of_ble_eq_true rfl, Nat.le_of_ble_eq_true rfl⟩) hP hD hS hA [2, 3] [0, 1] rfl rfl (by decide) (by decide) (fun u H locs hw hP hD hS => ?_)
  obtain ⟨y9_0, hu9⟩ : ∃ z, z = u := ⟨_, rfl⟩
  subst hu9
  have hP : va_P (dC, dI) vwCl [(h_a1, .inr (5, [.ref h_a1_bytes, .int z_a1_length])), (h_a1_bytes, .inl (cB, 96, .inl z_a1_bytes)), (h0, .inr (0, [.ref h_words])), (h_words, .inl (cJ, 7, .inr (.inl y9_0)))] H := hP
  have hD : va_D A [(h_a1, .inr (5, [.ref h_a1_bytes, .int z_a1_length])), (h_a1_bytes, .inl (cB, 96, .inl z_a1_bytes)), (h0, .inr (0, [.ref h_words])), (h_words, .inl (cJ, 7, .inr (.inl y9_0)))] := hD
  have hF := bnd1_eq hw hF
  refine lv_aload_n hx hb dX0_setData_12 rfl (lv_at hl 0 rfl) ?_
  refine lv_iconst (v := 2) hx hb dX0_setData_13 (by decide) ?_
  refine lv_iload hx hb dX0_setData_14 (lv_at hl 4 rfl) ?_
  refine lv_i2l (v := (v4 : Int32).toInt64) hx hb dX0_setData_16 rfl ?_
  refine st_callv (wr := [(h_a1, .inr (5, [.ref h_a1_bytes, .int z_a1_length])), (h_a1_bytes, .inl (cB, 96, .inl z_a1_bytes))]) (va_runV (As := [.int 2, .long ((v4 : Int32).toInt64)]) (rest := []) ⟨hx, hb, hml, hown, hts⟩ (ct_X0_setByte l dC dI cJ cI cB cZ h0 h_words y9_0 2 ((v4 : Int32).toInt64) H.size) (cwV 2 hts gX0_setData_X0_setByte rfl rfl rfl (by decide +kernel) ⟨Nat.le_of_ble_eq_true rfl, Nat.le_of_ble_eq_true rfl⟩) (st_preV (ci := 0) (q0 := 2) hK hP hD hN [2, 3] rfl (by decide) rfl rfl rfl) rfl rfl hl.1 rfl (lv_room (Nat.le_of_ble_eq_true rfl)) dX0_setData_17 ⟨Nat.le_of_ble_eq_true rfl, Nat.le_of_ble_eq_true rfl⟩) hP hD hS hA [2, 3] [0, 1] rfl rfl (by decide) (by decide) (fun u H locs hw hP hD hS => ?_)
  obtain ⟨y17_0, hu9⟩ : ∃ z, z = u := ⟨_, rfl⟩
  subst hu9
  have hP : va_P (dC, dI) vwCl [(h_a1, .inr (5, [.ref h_a1_bytes, .int z_a1_length])), (h_a1_bytes, .inl (cB, 96, .inl z_a1_bytes)), (h0, .inr (0, [.ref h_words])), (h_words, .inl (cJ, 7, .inr (.inl y17_0)))] H := hP
  have hD : va_D A [(h_a1, .inr (5, [.ref h_a1_bytes, .int z_a1_length])), (h_a1_bytes, .inl (cB, 96, .inl z_a1_bytes)), (h0, .inr (0, [.ref h_words])), (h_words, .inl (cJ, 7, .inr (.inl y17_0)))] := hD
  have hF := bnd1_eq hw hF
  refine lv_iconst (v := 0) hx hb dX0_setData_20 (by decide) ?_
  refine lv_istore (lv' := [(5, .int 0), (0, .ref h0), (1, .int v1), (2, .ref h_a1), (3, .int v3), (4, .int v4)]) hx hb dX0_setData_21 hl (by decide) rfl (fun ls hl => ?_)
  have lp_23 : ∀ (n23 : Nat) (z_words_L23 : Nat → Int64) (v5_L23 : Int32), (∃ j23 : Nat, v5_L23 = nI j23 ∧ j23 ≤ 96 ∧ 96 < j23 + n23) → ∀ (H : Heap) (locs : List Loc), va_P (dC, dI) vwCl [(h_a1, .inr (5, [.ref h_a1_bytes, .int z_a1_length])), (h_a1_bytes, .inl (cB, 96, .inl z_a1_bytes)), (h0, .inr (0, [.ref h_words])), (h_words, .inl (cJ, 7, .inr (.inl z_words_L23)))] H → va_D A [(h_a1, .inr (5, [.ref h_a1_bytes, .int z_a1_length])), (h_a1_bytes, .inl (cB, 96, .inl z_a1_bytes)), (h0, .inr (0, [.ref h_words])), (h_words, .inl (cJ, 7, .inr (.inl z_words_L23)))] → va_S A s.heap H locs → ∀ (ls : Array Slot), lv_has ls 6 [(0, .ref h0), (2, .ref h_a1), (3, .int v3), (4, .int v4), (5, .int v5_L23)] → FR = fn_X0_setData_L23 n23 z_words_L23 z_a1_length z_a1_bytes v3 v4 v5_L23 → W p l e (headSpec wsX0_setData { frames := 2, cells := 0, slots := 0, locals := 49 }).room s m ([.ref h0, .int v1, .ref h_a1, .int v3, .int v4] : List Value).toArray below meth c H locs 0 0 (MQ below (va_Qv (fun (u : (Nat → Int64)) => fn_X0_setData z_words z_a1_length z_a1_bytes v1 v3 v4 = u) (fun (u : (Nat → Int64)) t => st_W (dC, dI) (ty4 cJ cI cB cZ) [(h0, .inr (0, [.ref h_words])), (h_words, .inl (cJ, 7, .inr (.inl z_words))), (h_a1, .inr (5, [.ref h_a1_bytes, .int z_a1_length])), (h_a1_bytes, .inl (cB, 96, .inl z_a1_bytes))] s.heap.size [(h0, .inr (0, [.ref h_words])), (h_words, .inl (cJ, 7, .inr (.inl u))), (h_a1, .inr (5, [.ref h_a1_bytes, .int z_a1_length])), (h_a1_bytes, .inl (cB, 96, .inl z_a1_bytes))] t) (va_A [(h0, .inr (0, [.ref h_words])), (h_words, .inl (cJ, 7, .inr (.inl z_words))), (h_a1, .inr (5, [.ref h_a1_bytes, .int z_a1_length])), (h_a1_bytes, .inl (cB, 96, .inl z_a1_bytes))] s.heap.size)) ([.ref h0, .int v1, .ref h_a1, .int v3, .int v4] : List Value).toArray s 0 0 (va_A [(h0, .inr (0, [.ref h_words])), (h_words, .inl (cJ, 7, .inr (.inl z_words))), (h_a1, .inr (5, [.ref h_a1_bytes, .int z_a1_length])), (h_a1_bytes, .inl (cB, 96, .inl z_a1_bytes))] s.heap.size)) (F0 m 23 ls []) := by
    intro n23
    induction n23 with
    | zero =>
      intro z_words_L23 v5_L23 hI
      exact absurd hI (by rintro ⟨j, -, h1, h2⟩; omega)
    | succ n23 ih_23 =>
      intro z_words_L23 v5_L23 hI H locs hP hD hS ls hl hF
      rw [fn_X0_setData_L23] at hF
      obtain ⟨j23, ev23, hj23, hn23⟩ := hI
      refine lv_iload hx hb dX0_setData_23 (lv_at hl 4 rfl) ?_
      refine lv_iload hx hb dX0_setData_25 (lv_at hl 3 rfl) ?_
      refine lv_icmp_ge (tgt := 53) hx hb dX0_setData_27 (by decide) (fun c_27 => ?_) (fun c_27 => ?_)
      · have hF := ite_t c_27 hF
        have hP9 := hP.sub (ws' := [(h0, .inr (0, [.ref h_words])), (h_words, .inl (cJ, 7, .inr (.inl z_words_L23))), (h_a1, .inr (5, [.ref h_a1_bytes, .int z_a1_length])), (h_a1_bytes, .inl (cB, 96, .inl z_a1_bytes))]) [2, 3, 0, 1] rfl
        have hD9 := hD.sub (ws' := [(h0, .inr (0, [.ref h_words])), (h_words, .inl (cJ, 7, .inr (.inl z_words_L23))), (h_a1, .inr (5, [.ref h_a1_bytes, .int z_a1_length])), (h_a1_bytes, .inl (cB, 96, .inl z_a1_bytes))]) [2, 3, 0, 1] (by decide) rfl
        subst hAe
        exact W.vret hx hb hr (fun t ht hW => ⟨⟨(z_words_L23), rfl, hFR.symm.trans hF, by rw [ht]; exact hP9, va_K.moved hW.alike hK, hD9⟩, hS.F ht⟩) hS.2.2 dX0_setData_53
      · have hF := ite_f c_27 hF
        have hlt23 : j23 < 96 := (by have q9 := q_nle c_27; rw [ev23, nI_toInt (by omega)] at q9; omega)
        refine lv_aload_n hx hb dX0_setData_30 rfl (lv_at hl 0 rfl) ?_
        refine lv_iconst (v := 3) hx hb dX0_setData_31 (by decide) ?_
        refine lv_iload hx hb dX0_setData_32 (lv_at hl 4 rfl) ?_
        refine lv_iadd hx hb dX0_setData_34 ?_
        refine lv_aload_n hx hb dX0_setData_35 rfl (lv_at hl 1 rfl) ?_
        refine lv_iload_n hx hb dX0_setData_36 rfl (lv_at hl 2 rfl) ?_
        refine lv_iload hx hb dX0_setData_37 (lv_at hl 4 rfl) ?_
        refine lv_iadd hx hb dX0_setData_39 ?_
        have hq_40_0 : z_a1_length.toInt ≤ 96 := by exact hp1
        refine st_calli (wr := [(h0, .inr (0, [.ref h_words])), (h_words, .inl (cJ, 7, .inr (.inl z_words_L23)))]) (va_runV (As := [.int (v3 + v5_L23)]) (rest := [.int (3 + v5_L23), .ref h0]) ⟨hx, hb, hml, hown, hts⟩ (ct_X5_byteAt l dC dI cJ cI cB cZ h_a1 h_a1_bytes z_a1_length z_a1_bytes (v3 + v5_L23) hq_40_0 H.size) (cwV 1 hts gX0_setData_X5_byteAt rfl rfl rfl (by decide +kernel) ⟨Nat.le_of_ble_eq_true rfl, Nat.le_of_ble_eq_true rfl⟩) (st_preV (ci := 5) (q0 := 0) hK hP hD hN [0, 1] rfl (by decide) rfl rfl rfl) rfl rfl hl.1 rfl (lv_room (Nat.le_of_ble_eq_true rfl)) dX0_setData_40 ⟨Nat.le_of_ble_eq_true rfl, Nat.le_of_ble_eq_true rfl⟩) hP hD hS hA [0, 1] [2, 3] rfl rfl (by decide) (by decide) (fun r40 u H locs hw hP hD hS => ?_)
        have hP : va_P (dC, dI) vwCl [(h0, .inr (0, [.ref h_words])), (h_words, .inl (cJ, 7, .inr (.inl z_words_L23))), (h_a1, .inr (5, [.ref h_a1_bytes, .int z_a1_length])), (h_a1_bytes, .inl (cB, 96, .inl z_a1_bytes))] H := hP
        have hD : va_D A [(h0, .inr (0, [.ref h_words])), (h_words, .inl (cJ, 7, .inr (.inl z_words_L23))), (h_a1, .inr (5, [.ref h_a1_bytes, .int z_a1_length])), (h_a1_bytes, .inl (cB, 96, .inl z_a1_bytes))] := hD
        have hF := bnd1_eq hw hF
        refine lv_i2l (v := (r40 : Int32).toInt64) hx hb dX0_setData_43 rfl ?_
        refine st_callv (wr := [(h_a1, .inr (5, [.ref h_a1_bytes, .int z_a1_length])), (h_a1_bytes, .inl (cB, 96, .inl z_a1_bytes))]) (va_runV (As := [.int (3 + v5_L23), .long ((r40 : Int32).toInt64)]) (rest := []) ⟨hx, hb, hml, hown, hts⟩ (ct_X0_setByte l dC dI cJ cI cB cZ h0 h_words z_words_L23 (3 + v5_L23) ((r40 : Int32).toInt64) H.size) (cwV 2 hts gX0_setData_X0_setByte rfl rfl rfl (by decide +kernel) ⟨Nat.le_of_ble_eq_true rfl, Nat.le_of_ble_eq_true rfl⟩) (st_preV (ci := 0) (q0 := 0) hK hP hD hN [0, 1] rfl (by decide) rfl rfl rfl) rfl rfl hl.1 rfl (lv_room (Nat.le_of_ble_eq_true rfl)) dX0_setData_44 ⟨Nat.le_of_ble_eq_true rfl, Nat.le_of_ble_eq_true rfl⟩) hP hD hS hA [0, 1] [2, 3] rfl rfl (by decide) (by decide) (fun u H locs hw hP hD hS => ?_)
        obtain ⟨y44_0, hu9⟩ : ∃ z, z = u := ⟨_, rfl⟩
        subst hu9
        have hP : va_P (dC, dI) vwCl [(h_a1, .inr (5, [.ref h_a1_bytes, .int z_a1_length])), (h_a1_bytes, .inl (cB, 96, .inl z_a1_bytes)), (h0, .inr (0, [.ref h_words])), (h_words, .inl (cJ, 7, .inr (.inl y44_0)))] H := hP
        have hD : va_D A [(h_a1, .inr (5, [.ref h_a1_bytes, .int z_a1_length])), (h_a1_bytes, .inl (cB, 96, .inl z_a1_bytes)), (h0, .inr (0, [.ref h_words])), (h_words, .inl (cJ, 7, .inr (.inl y44_0)))] := hD
        have hF := bnd1_eq hw hF
        refine lv_iinc (v := (v5_L23 + 1)) (lv' := [(5, .int (v5_L23 + 1)), (0, .ref h0), (2, .ref h_a1), (3, .int v3), (4, .int v4)]) hx hb dX0_setData_47 hl (k := 4) rfl rfl (by decide) rfl (fun ls hl => ?_)
        refine lv_goto (tgt := 23) hx hb dX0_setData_50 (by decide) ?_
        exact ih_23 y44_0 (v5_L23 + 1) (by exact ⟨j23 + 1, by rw [ev23]; exact nI_1 j23, by omega, by omega⟩) _ _ hP hD hS _ (lv_sub hl [1, 2, 3, 4, 0] rfl) hF
  exact lp_23 97 y17_0 0 (by exact ⟨0, rfl, by omega, by omega⟩) _ _ hP hD hS _ (lv_sub hl [1, 3, 4, 5, 0] rfl) hF
set_option maxHeartbeats 4000000 in
set_option maxRecDepth 100000 in
theorem ct_X0_word (l : Launch) (dC : Nat → ClassId) (dI : Nat → Nat → Nat) (cJ cI cB cZ : ClassId) (h0 h_words : Nat) (z_words : Nat → Int64) (v1 : Int32) (sz : Nat) : Met l yX0_word wsX0_word { frames := 0, cells := 0, slots := 0, locals := 0 } (va_Pc [.ref h0, .int v1] (st_B (dC, dI) (ty4 cJ cI cB cZ) [(h0, .inr (0, [.ref h_words])), (h_words, .inl (cJ, 7, .inr (.inl z_words)))] sz)) (va_Ql (fun (r : Int64) (u : Unit) => fn_X0_word z_words v1 = r) (fun (u : Unit) t => st_W (dC, dI) (ty4 cJ cI cB cZ) [(h0, .inr (0, [.ref h_words])), (h_words, .inl (cJ, 7, .inr (.inl z_words)))] sz [(h0, .inr (0, [.ref h_words])), (h_words, .inl (cJ, 7, .inr (.inl z_words)))] t) (va_A [(h0, .inr (0, [.ref h_words])), (h_words, .inl (cJ, 7, .inr (.inl z_words)))] sz)) 0 0 (va_A [(h0, .inr (0, [.ref h_words])), (h_words, .inl (cJ, 7, .inr (.inl z_words)))] sz) := by
  refine Met.ofW (cc := cX0_word) (maxL := 2) (ret := (some .long)) (by decide) rfl ?_
  intro p e s m args below meth c s₁ B hml hv
  obtain ⟨rfl, hsz, hP, hK, hD0, hN⟩ := hv
  have hx := B.exec
  have hb := B.bytes
  have hr := B.returns
  have hts := atoms_spec (ws := wsX0_word) B.pre
  have hown : s.vm.findClass RX0 = some m.cls := findClass_of_methodNamed B.named
  have hlocks := B.notSynchronized
  subst hsz
  obtain ⟨A, hAe⟩ : ∃ z, z = va_A [(h0, .inr (0, [.ref h_words])), (h_words, .inl (cJ, 7, .inr (.inl z_words)))] s.heap.size := ⟨_, rfl⟩
  have hD : va_D A [(h0, .inr (0, [.ref h_words])), (h_words, .inl (cJ, 7, .inr (.inl z_words)))] := by rw [hAe]; exact hD0.self
  have hA : ∀ q : Nat, s.heap.size ≤ q → A q := fun q h => by rw [hAe]; exact Or.inr h
  have hS : va_S A s.heap s.heap [] := va_S.rf
  have hP : va_P (dC, dI) vwCl [(h0, .inr (0, [.ref h_words])), (h_words, .inl (cJ, 7, .inr (.inl z_words)))] s.heap := hP
  have hl := lv_entry ([.ref h0, .int v1]) (n := 2) (Nat.le_of_ble_eq_true rfl)
  rw [lg_entry_eq]
  generalize (lg_sl ([.ref h0, .int v1]) ++ List.replicate (2 - (lg_sl ([.ref h0, .int v1])).length) Slot.unset).toArray = ls at hl ⊢
  have hl : lv_has ls 2 [(0, .ref h0), (1, .int v1)] := hl
  obtain ⟨FR, hFR⟩ : ∃ z, z = fn_X0_word z_words v1 := ⟨_, rfl⟩
  have hF := hFR
  unfold fn_X0_word at hF
  refine lv_iload_n hx hb dX0_word_0 rfl (lv_at hl 1 rfl) ?_
  refine lv_if_lt (tgt := 10) hx hb dX0_word_1 (by decide) (fun c_1 => ?_) (fun c_1 => ?_)
  · have hF := ite_t c_1 hF
    refine lv_lconst (v := 0) hx hb dX0_word_10 (by decide) ?_
    refine lv_goto (tgt := 20) hx hb dX0_word_11 (by decide) ?_
    have hP9 := hP.sub (ws' := [(h0, .inr (0, [.ref h_words])), (h_words, .inl (cJ, 7, .inr (.inl z_words)))]) [0, 1] rfl
    have hD9 := hD.sub (ws' := [(h0, .inr (0, [.ref h_words])), (h_words, .inl (cJ, 7, .inr (.inl z_words)))]) [0, 1] (by decide) rfl
    subst hAe
    exact W.lret (v := 0) hx hb hr (fun t ht hW => ⟨⟨0, (), rfl, hFR.symm.trans hF, by rw [ht]; exact hP9, va_K.moved hW.alike hK, hD9⟩, hS.F ht⟩) hS.2.2 dX0_word_20
  · have hF := ite_f c_1 hF
    refine lv_iload_n hx hb dX0_word_4 rfl (lv_at hl 1 rfl) ?_
    refine lv_bipush (v := 7) hx hb dX0_word_5 (by decide) ?_
    refine lv_icmp_lt (tgt := 14) hx hb dX0_word_7 (by decide) (fun c_7 => ?_) (fun c_7 => ?_)
    · have hF := ite_t c_7 hF
      refine lv_aload_n hx hb dX0_word_14 rfl (lv_at hl 0 rfl) ?_
      refine va_get (D := (dC, dI)) (ci := 0) (v := .ref h_words) (C := RX0) (T := TX0) (N := 1) hx hb hts (by decide +kernel) hown hK hP 0 rfl rfl 0 (by decide) (hts (.fieldLink RX0 9 "ShredStore$Body" "words" "[J") (by decide +kernel)) (fun _ h9 => h9) rfl dX0_word_15 ?_
      refine lv_iload_n hx hb dX0_word_18 rfl (lv_at hl 1 rfl) ?_
      have hr_19 : vp_in v1 7 := by exact q_i1 c_1 c_7 (by decide)
      refine va_lald hx hb hK hP 1 0 rfl rfl hr_19 dX0_word_19 ?_
      have hP9 := hP.sub (ws' := [(h0, .inr (0, [.ref h_words])), (h_words, .inl (cJ, 7, .inr (.inl z_words)))]) [0, 1] rfl
      have hD9 := hD.sub (ws' := [(h0, .inr (0, [.ref h_words])), (h_words, .inl (cJ, 7, .inr (.inl z_words)))]) [0, 1] (by decide) rfl
      subst hAe
      exact W.lret (v := (z_words (v1 : Int32).toNatClampNeg)) hx hb hr (fun t ht hW => ⟨⟨(z_words (v1 : Int32).toNatClampNeg), (), rfl, hFR.symm.trans hF, by rw [ht]; exact hP9, va_K.moved hW.alike hK, hD9⟩, hS.F ht⟩) hS.2.2 dX0_word_20
    · have hF := ite_f c_7 hF
      refine lv_lconst (v := 0) hx hb dX0_word_10 (by decide) ?_
      refine lv_goto (tgt := 20) hx hb dX0_word_11 (by decide) ?_
      have hP9 := hP.sub (ws' := [(h0, .inr (0, [.ref h_words])), (h_words, .inl (cJ, 7, .inr (.inl z_words)))]) [0, 1] rfl
      have hD9 := hD.sub (ws' := [(h0, .inr (0, [.ref h_words])), (h_words, .inl (cJ, 7, .inr (.inl z_words)))]) [0, 1] (by decide) rfl
      subst hAe
      exact W.lret (v := 0) hx hb hr (fun t ht hW => ⟨⟨0, (), rfl, hFR.symm.trans hF, by rw [ht]; exact hP9, va_K.moved hW.alike hK, hD9⟩, hS.F ht⟩) hS.2.2 dX0_word_20
set_option maxHeartbeats 4000000 in
set_option maxRecDepth 100000 in
theorem ct_X3_goOff (l : Launch) (dC : Nat → ClassId) (dI : Nat → Nat → Nat) (cJ cI cB cZ : ClassId) (h0 : Nat) (z_on : Int32) (z_stepsLeft : Int32) (sz : Nat) : Met l yX3_goOff wsX3_goOff { frames := 0, cells := 0, slots := 0, locals := 0 } (va_Pc [.ref h0] (st_B (dC, dI) (ty4 cJ cI cB cZ) [(h0, .inr (3, [.int z_on, .int z_stepsLeft]))] sz)) (va_Qv (fun (u : Int32 × Int32) => fn_X3_goOff z_on z_stepsLeft = (u.1, u.2)) (fun (u : Int32 × Int32) t => st_W (dC, dI) (ty4 cJ cI cB cZ) [(h0, .inr (3, [.int z_on, .int z_stepsLeft]))] sz [(h0, .inr (3, [.int u.1, .int u.2]))] t) (va_A [(h0, .inr (3, [.int z_on, .int z_stepsLeft]))] sz)) 0 0 (va_A [(h0, .inr (3, [.int z_on, .int z_stepsLeft]))] sz) := by
  refine Met.ofW (cc := cX3_goOff) (maxL := 1) (ret := none) (by decide) rfl ?_
  intro p e s m args below meth c s₁ B hml hv
  obtain ⟨rfl, hsz, hP, hK, hD0, hN⟩ := hv
  have hx := B.exec
  have hb := B.bytes
  have hr := B.returns
  have hts := atoms_spec (ws := wsX3_goOff) B.pre
  have hown : s.vm.findClass RX3 = some m.cls := findClass_of_methodNamed B.named
  have hlocks := B.notSynchronized
  subst hsz
  obtain ⟨A, hAe⟩ : ∃ z, z = va_A [(h0, .inr (3, [.int z_on, .int z_stepsLeft]))] s.heap.size := ⟨_, rfl⟩
  have hD : va_D A [(h0, .inr (3, [.int z_on, .int z_stepsLeft]))] := by rw [hAe]; exact hD0.self
  have hA : ∀ q : Nat, s.heap.size ≤ q → A q := fun q h => by rw [hAe]; exact Or.inr h
  have hS : va_S A s.heap s.heap [] := va_S.rf
  have hP : va_P (dC, dI) vwCl [(h0, .inr (3, [.int z_on, .int z_stepsLeft]))] s.heap := hP
  have hl := lv_entry ([.ref h0]) (n := 1) (Nat.le_of_ble_eq_true rfl)
  rw [lg_entry_eq]
  generalize (lg_sl ([.ref h0]) ++ List.replicate (1 - (lg_sl ([.ref h0])).length) Slot.unset).toArray = ls at hl ⊢
  have hl : lv_has ls 1 [(0, .ref h0)] := hl
  obtain ⟨FR, hFR⟩ : ∃ z, z = fn_X3_goOff z_on z_stepsLeft := ⟨_, rfl⟩
  have hF := hFR
  unfold fn_X3_goOff at hF
  refine lv_aload_n hx hb dX3_goOff_0 rfl (lv_at hl 0 rfl) ?_
  refine lv_iconst (v := 0) hx hb dX3_goOff_1 (by decide) ?_
  refine va_put (D := (dC, dI)) (ci := 3) (v := .int 0) (ty := .boolean) (C := RX3) (T := TX3) (N := 2) hx hb hts (by decide +kernel) tyX3 tyX3_ok nmX3 hown hK hP hD hS 0 rfl rfl 0 (by decide) (hts (.fieldLink RX3 9 "ShredStore$Power" "on" "Z") (by decide +kernel)) (fun _ h9 => h9) rfl (by decide +kernel) rfl rfl (Nat.le_of_ble_eq_true rfl) dX3_goOff_2 (fun H locs hP hD hS => ?_)
  have hP : va_P (dC, dI) vwCl [(h0, .inr (3, [.int 0, .int z_stepsLeft]))] H := hP
  have hD : va_D A [(h0, .inr (3, [.int 0, .int z_stepsLeft]))] := hD
  refine lv_aload_n hx hb dX3_goOff_5 rfl (lv_at hl 0 rfl) ?_
  refine lv_iconst (v := (-1)) hx hb dX3_goOff_6 (by decide) ?_
  refine va_put (D := (dC, dI)) (ci := 3) (v := .int (-1)) (ty := .int) (C := RX3) (T := TX3) (N := 2) hx hb hts (by decide +kernel) tyX3 tyX3_ok nmX3 hown hK hP hD hS 0 rfl rfl 1 (by decide) (hts (.fieldLink RX3 15 "ShredStore$Power" "stepsLeft" "I") (by decide +kernel)) (fun _ h9 => h9) rfl (by decide +kernel) rfl rfl (Nat.le_of_ble_eq_true rfl) dX3_goOff_7 (fun H locs hP hD hS => ?_)
  have hP : va_P (dC, dI) vwCl [(h0, .inr (3, [.int 0, .int (-1)]))] H := hP
  have hD : va_D A [(h0, .inr (3, [.int 0, .int (-1)]))] := hD
  have hP9 := hP.sub (ws' := [(h0, .inr (3, [.int 0, .int (-1)]))]) [0] rfl
  have hD9 := hD.sub (ws' := [(h0, .inr (3, [.int 0, .int (-1)]))]) [0] (by decide) rfl
  subst hAe
  exact W.vret hx hb hr (fun t ht hW => ⟨⟨(0, (-1)), rfl, hFR.symm.trans hF, by rw [ht]; exact hP9, va_K.moved hW.alike hK, hD9⟩, hS.F ht⟩) hS.2.2 dX3_goOff_10
set_option maxHeartbeats 4000000 in
set_option maxRecDepth 100000 in
theorem ct_X3_lastsForStep (l : Launch) (dC : Nat → ClassId) (dI : Nat → Nat → Nat) (cJ cI cB cZ : ClassId) (h0 : Nat) (z_on : Int32) (z_stepsLeft : Int32) (hp0 : okb z_on) (sz : Nat) : Met l yX3_lastsForStep wsX3_lastsForStep { frames := 1, cells := 0, slots := 0, locals := 20 } (va_Pc [.ref h0] (st_B (dC, dI) (ty4 cJ cI cB cZ) [(h0, .inr (3, [.int z_on, .int z_stepsLeft]))] sz)) (va_Qi (fun (r : Int32) (u : Int32 × Int32) => fn_X3_lastsForStep z_on z_stepsLeft = (r, u.1, u.2) ∧ narrow .boolean (.int r) = .int r) (fun (u : Int32 × Int32) t => st_W (dC, dI) (ty4 cJ cI cB cZ) [(h0, .inr (3, [.int z_on, .int z_stepsLeft]))] sz [(h0, .inr (3, [.int u.1, .int u.2]))] t) (va_A [(h0, .inr (3, [.int z_on, .int z_stepsLeft]))] sz)) 0 0 (va_A [(h0, .inr (3, [.int z_on, .int z_stepsLeft]))] sz) := by
  refine Met.ofW (cc := cX3_lastsForStep) (maxL := 1) (ret := (some .boolean)) (by decide) rfl ?_
  intro p e s m args below meth c s₁ B hml hv
  obtain ⟨rfl, hsz, hP, hK, hD0, hN⟩ := hv
  have hx := B.exec
  have hb := B.bytes
  have hr := B.returns
  have hts := atoms_spec (ws := wsX3_lastsForStep) B.pre
  have hown : s.vm.findClass RX3 = some m.cls := findClass_of_methodNamed B.named
  have hlocks := B.notSynchronized
  subst hsz
  obtain ⟨A, hAe⟩ : ∃ z, z = va_A [(h0, .inr (3, [.int z_on, .int z_stepsLeft]))] s.heap.size := ⟨_, rfl⟩
  have hD : va_D A [(h0, .inr (3, [.int z_on, .int z_stepsLeft]))] := by rw [hAe]; exact hD0.self
  have hA : ∀ q : Nat, s.heap.size ≤ q → A q := fun q h => by rw [hAe]; exact Or.inr h
  have hS : va_S A s.heap s.heap [] := va_S.rf
  have hP : va_P (dC, dI) vwCl [(h0, .inr (3, [.int z_on, .int z_stepsLeft]))] s.heap := hP
  have hl := lv_entry ([.ref h0]) (n := 1) (Nat.le_of_ble_eq_true rfl)
  rw [lg_entry_eq]
  generalize (lg_sl ([.ref h0]) ++ List.replicate (1 - (lg_sl ([.ref h0])).length) Slot.unset).toArray = ls at hl ⊢
  have hl : lv_has ls 1 [(0, .ref h0)] := hl
  obtain ⟨FR, hFR⟩ : ∃ z, z = fn_X3_lastsForStep z_on z_stepsLeft := ⟨_, rfl⟩
  have hF := hFR
  unfold fn_X3_lastsForStep at hF
  refine lv_aload_n hx hb dX3_lastsForStep_0 rfl (lv_at hl 0 rfl) ?_
  refine va_get (D := (dC, dI)) (ci := 3) (v := .int z_stepsLeft) (C := RX3) (T := TX3) (N := 2) hx hb hts (by decide +kernel) hown hK hP 0 rfl rfl 1 (by decide) (hts (.fieldLink RX3 15 "ShredStore$Power" "stepsLeft" "I") (by decide +kernel)) (fun _ h9 => h9) rfl dX3_lastsForStep_1 ?_
  refine lv_if_ne (tgt := 13) hx hb dX3_lastsForStep_4 (by decide) (fun c_4 => ?_) (fun c_4 => ?_)
  · have hF := ite_f c_4 hF
    refine lv_aload_n hx hb dX3_lastsForStep_13 rfl (lv_at hl 0 rfl) ?_
    refine va_get (D := (dC, dI)) (ci := 3) (v := .int z_stepsLeft) (C := RX3) (T := TX3) (N := 2) hx hb hts (by decide +kernel) hown hK hP 0 rfl rfl 1 (by decide) (hts (.fieldLink RX3 15 "ShredStore$Power" "stepsLeft" "I") (by decide +kernel)) (fun _ h9 => h9) rfl dX3_lastsForStep_14 ?_
    refine lv_if_le (tgt := 30) hx hb dX3_lastsForStep_17 (by decide) (fun c_17 => ?_) (fun c_17 => ?_)
    · have hF := ite_t c_17 hF
      refine lv_aload_n hx hb dX3_lastsForStep_30 rfl (lv_at hl 0 rfl) ?_
      refine va_get (D := (dC, dI)) (ci := 3) (v := .int z_on) (C := RX3) (T := TX3) (N := 2) hx hb hts (by decide +kernel) hown hK hP 0 rfl rfl 0 (by decide) (hts (.fieldLink RX3 9 "ShredStore$Power" "on" "Z") (by decide +kernel)) (fun _ h9 => h9) rfl dX3_lastsForStep_31 ?_
      have hP9 := hP.sub (ws' := [(h0, .inr (3, [.int z_on, .int z_stepsLeft]))]) [0] rfl
      have hD9 := hD.sub (ws' := [(h0, .inr (3, [.int z_on, .int z_stepsLeft]))]) [0] (by decide) rfl
      subst hAe
      exact W.zret (v := z_on) (ty := .boolean) hx hb hr (by first | rfl | assumption) (fun t ht hW => ⟨⟨z_on, (z_on, z_stepsLeft), rfl, ⟨hFR.symm.trans hF, (by first | rfl | assumption)⟩, by rw [ht]; exact hP9, va_K.moved hW.alike hK, hD9⟩, hS.F ht⟩) hS.2.2 dX3_lastsForStep_34
    · have hF := ite_f c_17 hF
      refine lv_aload_n hx hb dX3_lastsForStep_20 rfl (lv_at hl 0 rfl) ?_
      refine lv_dup hx hb dX3_lastsForStep_21 rfl ?_
      refine va_get (D := (dC, dI)) (ci := 3) (v := .int z_stepsLeft) (C := RX3) (T := TX3) (N := 2) hx hb hts (by decide +kernel) hown hK hP 0 rfl rfl 1 (by decide) (hts (.fieldLink RX3 15 "ShredStore$Power" "stepsLeft" "I") (by decide +kernel)) (fun _ h9 => h9) rfl dX3_lastsForStep_22 ?_
      refine lv_iconst (v := 1) hx hb dX3_lastsForStep_25 (by decide) ?_
      refine lv_isub hx hb dX3_lastsForStep_26 ?_
      refine va_put (D := (dC, dI)) (ci := 3) (v := .int (z_stepsLeft - 1)) (ty := .int) (C := RX3) (T := TX3) (N := 2) hx hb hts (by decide +kernel) tyX3 tyX3_ok nmX3 hown hK hP hD hS 0 rfl rfl 1 (by decide) (hts (.fieldLink RX3 15 "ShredStore$Power" "stepsLeft" "I") (by decide +kernel)) (fun _ h9 => h9) rfl (by decide +kernel) rfl rfl (Nat.le_of_ble_eq_true rfl) dX3_lastsForStep_27 (fun H locs hP hD hS => ?_)
      have hP : va_P (dC, dI) vwCl [(h0, .inr (3, [.int z_on, .int (z_stepsLeft - 1)]))] H := hP
      have hD : va_D A [(h0, .inr (3, [.int z_on, .int (z_stepsLeft - 1)]))] := hD
      refine lv_aload_n hx hb dX3_lastsForStep_30 rfl (lv_at hl 0 rfl) ?_
      refine va_get (D := (dC, dI)) (ci := 3) (v := .int z_on) (C := RX3) (T := TX3) (N := 2) hx hb hts (by decide +kernel) hown hK hP 0 rfl rfl 0 (by decide) (hts (.fieldLink RX3 9 "ShredStore$Power" "on" "Z") (by decide +kernel)) (fun _ h9 => h9) rfl dX3_lastsForStep_31 ?_
      have hP9 := hP.sub (ws' := [(h0, .inr (3, [.int z_on, .int (z_stepsLeft - 1)]))]) [0] rfl
      have hD9 := hD.sub (ws' := [(h0, .inr (3, [.int z_on, .int (z_stepsLeft - 1)]))]) [0] (by decide) rfl
      subst hAe
      exact W.zret (v := z_on) (ty := .boolean) hx hb hr (by first | rfl | assumption) (fun t ht hW => ⟨⟨z_on, (z_on, (z_stepsLeft - 1)), rfl, ⟨hFR.symm.trans hF, (by first | rfl | assumption)⟩, by rw [ht]; exact hP9, va_K.moved hW.alike hK, hD9⟩, hS.F ht⟩) hS.2.2 dX3_lastsForStep_34
  · have hF := ite_t c_4 hF
    refine lv_aload_n hx hb dX3_lastsForStep_7 rfl (lv_at hl 0 rfl) ?_
    refine st_callv (wr := []) (va_runV (As := []) (rest := []) ⟨hx, hb, hml, hown, hts⟩ (ct_X3_goOff l dC dI cJ cI cB cZ h0 z_on z_stepsLeft s.heap.size) (cwV 0 hts gX3_lastsForStep_X3_goOff rfl rfl rfl (by decide +kernel) ⟨Nat.le_of_ble_eq_true rfl, Nat.le_of_ble_eq_true rfl⟩) (st_preV (ci := 3) (q0 := 0) hK hP hD hN [0] rfl (by decide) rfl rfl rfl) rfl rfl hl.1 rfl (lv_room (Nat.le_of_ble_eq_true rfl)) dX3_lastsForStep_8 ⟨Nat.le_of_ble_eq_true rfl, Nat.le_of_ble_eq_true rfl⟩) hP hD hS hA [0] [] rfl rfl (by decide) (by decide) (fun u H locs hw hP hD hS => ?_)
    obtain ⟨y8_0, y8_1⟩ := u
    have hP : va_P (dC, dI) vwCl [(h0, .inr (3, [.int y8_0, .int y8_1]))] H := hP
    have hD : va_D A [(h0, .inr (3, [.int y8_0, .int y8_1]))] := hD
    have hF := bnd2_eq hw hF
    refine lv_iconst (v := 0) hx hb dX3_lastsForStep_11 (by decide) ?_
    have hP9 := hP.sub (ws' := [(h0, .inr (3, [.int y8_0, .int y8_1]))]) [0] rfl
    have hD9 := hD.sub (ws' := [(h0, .inr (3, [.int y8_0, .int y8_1]))]) [0] (by decide) rfl
    subst hAe
    exact W.zret (v := 0) (ty := .boolean) hx hb hr (by first | rfl | assumption) (fun t ht hW => ⟨⟨0, (y8_0, y8_1), rfl, ⟨hFR.symm.trans hF, (by first | rfl | assumption)⟩, by rw [ht]; exact hP9, va_K.moved hW.alike hK, hD9⟩, hS.F ht⟩) hS.2.2 dX3_lastsForStep_12
set_option maxHeartbeats 4000000 in
set_option maxRecDepth 100000 in
theorem ct_X6_placeOf (l : Launch) (dC : Nat → ClassId) (dI : Nat → Nat → Nat) (cJ cI cB cZ : ClassId) (v0 : Int32) (sz : Nat) : Met l yX6_placeOf wsX6_placeOf { frames := 0, cells := 0, slots := 0, locals := 0 } (va_Pc [.int v0] (st_B (dC, dI) (ty4 cJ cI cB cZ) [] sz)) (va_Qi (fun (r : Int32) (u : Unit) => fn_X6_placeOf v0 = r) (fun (u : Unit) t => st_W (dC, dI) (ty4 cJ cI cB cZ) [] sz [] t) (va_A [] sz)) 0 0 (va_A [] sz) := by
  refine Met.ofW (cc := cX6_placeOf) (maxL := 1) (ret := (some .int)) (by decide) rfl ?_
  intro p e s m args below meth c s₁ B hml hv
  obtain ⟨rfl, hsz, hP, hK, hD0, hN⟩ := hv
  have hx := B.exec
  have hb := B.bytes
  have hr := B.returns
  have hts := atoms_spec (ws := wsX6_placeOf) B.pre
  have hown : s.vm.findClass RX6 = some m.cls := findClass_of_methodNamed B.named
  have hlocks := B.notSynchronized
  subst hsz
  obtain ⟨A, hAe⟩ : ∃ z, z = va_A [] s.heap.size := ⟨_, rfl⟩
  have hD : va_D A [] := by rw [hAe]; exact hD0.self
  have hA : ∀ q : Nat, s.heap.size ≤ q → A q := fun q h => by rw [hAe]; exact Or.inr h
  have hS : va_S A s.heap s.heap [] := va_S.rf
  have hP : va_P (dC, dI) vwCl [] s.heap := hP
  have hl := lv_entry ([.int v0]) (n := 1) (Nat.le_of_ble_eq_true rfl)
  rw [lg_entry_eq]
  generalize (lg_sl ([.int v0]) ++ List.replicate (1 - (lg_sl ([.int v0])).length) Slot.unset).toArray = ls at hl ⊢
  have hl : lv_has ls 1 [(0, .int v0)] := hl
  obtain ⟨FR, hFR⟩ : ∃ z, z = fn_X6_placeOf v0 := ⟨_, rfl⟩
  have hF := hFR
  unfold fn_X6_placeOf at hF
  refine lv_bipush (v := 21) hx hb dX6_placeOf_0 (by decide) ?_
  refine lv_iload_n hx hb dX6_placeOf_2 rfl (lv_at hl 0 rfl) ?_
  refine lv_iadd hx hb dX6_placeOf_3 ?_
  have hP9 := hP.sub (ws' := []) [] rfl
  have hD9 := hD.sub (ws' := []) [] (by decide) rfl
  subst hAe
  exact W.iret (v := (21 + v0)) hx hb hr (fun t ht hW => ⟨⟨(21 + v0), (), rfl, hFR.symm.trans hF, by rw [ht]; exact hP9, va_K.moved hW.alike hK, hD9⟩, hS.F ht⟩) hS.2.2 dX6_placeOf_4
set_option maxHeartbeats 4000000 in
set_option maxRecDepth 100000 in
theorem ct_X0_setEntry (l : Launch) (dC : Nat → ClassId) (dI : Nat → Nat → Nat) (cJ cI cB cZ : ClassId) (h0 h_words : Nat) (z_words : Nat → Int64) (v1 : Int32) (v2 : Int64) (v4 : Int32) (sz : Nat) : Met l yX0_setEntry wsX0_setEntry { frames := 2, cells := 0, slots := 0, locals := 49 } (va_Pc [.ref h0, .int v1, .long v2, .int v4] (st_B (dC, dI) (ty4 cJ cI cB cZ) [(h0, .inr (0, [.ref h_words])), (h_words, .inl (cJ, 7, .inr (.inl z_words)))] sz)) (va_Qv (fun (u : (Nat → Int64)) => fn_X0_setEntry z_words v1 v2 v4 = u) (fun (u : (Nat → Int64)) t => st_W (dC, dI) (ty4 cJ cI cB cZ) [(h0, .inr (0, [.ref h_words])), (h_words, .inl (cJ, 7, .inr (.inl z_words)))] sz [(h0, .inr (0, [.ref h_words])), (h_words, .inl (cJ, 7, .inr (.inl u)))] t) (va_A [(h0, .inr (0, [.ref h_words])), (h_words, .inl (cJ, 7, .inr (.inl z_words)))] sz)) 0 0 (va_A [(h0, .inr (0, [.ref h_words])), (h_words, .inl (cJ, 7, .inr (.inl z_words)))] sz) := by
  refine Met.ofW (cc := cX0_setEntry) (maxL := 5) (ret := none) (by decide) rfl ?_
  intro p e s m args below meth c s₁ B hml hv
  obtain ⟨rfl, hsz, hP, hK, hD0, hN⟩ := hv
  have hx := B.exec
  have hb := B.bytes
  have hr := B.returns
  have hts := atoms_spec (ws := wsX0_setEntry) B.pre
  have hown : s.vm.findClass RX0 = some m.cls := findClass_of_methodNamed B.named
  have hlocks := B.notSynchronized
  subst hsz
  obtain ⟨A, hAe⟩ : ∃ z, z = va_A [(h0, .inr (0, [.ref h_words])), (h_words, .inl (cJ, 7, .inr (.inl z_words)))] s.heap.size := ⟨_, rfl⟩
  have hD : va_D A [(h0, .inr (0, [.ref h_words])), (h_words, .inl (cJ, 7, .inr (.inl z_words)))] := by rw [hAe]; exact hD0.self
  have hA : ∀ q : Nat, s.heap.size ≤ q → A q := fun q h => by rw [hAe]; exact Or.inr h
  have hS : va_S A s.heap s.heap [] := va_S.rf
  have hP : va_P (dC, dI) vwCl [(h0, .inr (0, [.ref h_words])), (h_words, .inl (cJ, 7, .inr (.inl z_words)))] s.heap := hP
  have hl := lv_entry ([.ref h0, .int v1, .long v2, .int v4]) (n := 5) (Nat.le_of_ble_eq_true rfl)
  rw [lg_entry_eq]
  generalize (lg_sl ([.ref h0, .int v1, .long v2, .int v4]) ++ List.replicate (5 - (lg_sl ([.ref h0, .int v1, .long v2, .int v4])).length) Slot.unset).toArray = ls at hl ⊢
  have hl : lv_has ls 5 [(0, .ref h0), (1, .int v1), (2, .long v2), (4, .int v4)] := hl
  obtain ⟨FR, hFR⟩ : ∃ z, z = fn_X0_setEntry z_words v1 v2 v4 := ⟨_, rfl⟩
  have hF := hFR
  unfold fn_X0_setEntry at hF
  refine lv_aload_n hx hb dX0_setEntry_0 rfl (lv_at hl 0 rfl) ?_
  refine lv_iload_n hx hb dX0_setEntry_1 rfl (lv_at hl 1 rfl) ?_
  refine lv_bipush (v := 10) hx hb dX0_setEntry_2 (by decide) ?_
  refine lv_imul hx hb dX0_setEntry_4 ?_
  refine lv_bipush (v := 8) hx hb dX0_setEntry_5 (by decide) ?_
  refine lv_lload_n hx hb dX0_setEntry_7 rfl (lv_at hl 2 rfl) ?_
  have hq_8_0 : 0 ≤ (8 : Int32).toInt := by first | assumption | decide
  have hq_8_1 : (8 : Int32).toInt ≤ 8 := by first | assumption | decide
  refine st_callv (wr := []) (va_runV (As := [.int (v1 * 10), .int 8, .long v2]) (rest := []) ⟨hx, hb, hml, hown, hts⟩ (ct_X0_setNumber l dC dI cJ cI cB cZ h0 h_words z_words (v1 * 10) 8 v2 hq_8_0 hq_8_1 s.heap.size) (cwV 3 hts gX0_setEntry_X0_setNumber rfl rfl rfl (by decide +kernel) ⟨Nat.le_of_ble_eq_true rfl, Nat.le_of_ble_eq_true rfl⟩) (st_preV (ci := 0) (q0 := 0) hK hP hD hN [0, 1] rfl (by decide) rfl rfl rfl) rfl rfl hl.1 rfl (lv_room (Nat.le_of_ble_eq_true rfl)) dX0_setEntry_8 ⟨Nat.le_of_ble_eq_true rfl, Nat.le_of_ble_eq_true rfl⟩) hP hD hS hA [0, 1] [] rfl rfl (by decide) (by decide) (fun u H locs hw hP hD hS => ?_)
  obtain ⟨y8_0, hu9⟩ : ∃ z, z = u := ⟨_, rfl⟩
  subst hu9
  have hP : va_P (dC, dI) vwCl [(h0, .inr (0, [.ref h_words])), (h_words, .inl (cJ, 7, .inr (.inl y8_0)))] H := hP
  have hD : va_D A [(h0, .inr (0, [.ref h_words])), (h_words, .inl (cJ, 7, .inr (.inl y8_0)))] := hD
  have hF := bnd1_eq hw hF
  refine lv_aload_n hx hb dX0_setEntry_11 rfl (lv_at hl 0 rfl) ?_
  refine lv_iload_n hx hb dX0_setEntry_12 rfl (lv_at hl 1 rfl) ?_
  refine lv_bipush (v := 10) hx hb dX0_setEntry_13 (by decide) ?_
  refine lv_imul hx hb dX0_setEntry_15 ?_
  refine lv_bipush (v := 8) hx hb dX0_setEntry_16 (by decide) ?_
  refine lv_iadd hx hb dX0_setEntry_18 ?_
  refine lv_iconst (v := 2) hx hb dX0_setEntry_19 (by decide) ?_
  refine lv_iload hx hb dX0_setEntry_20 (lv_at hl 3 rfl) ?_
  refine lv_i2l (v := (v4 : Int32).toInt64) hx hb dX0_setEntry_22 rfl ?_
  have hq_23_0 : 0 ≤ (2 : Int32).toInt := by first | assumption | decide
  have hq_23_1 : (2 : Int32).toInt ≤ 8 := by first | assumption | decide
  refine st_callv (wr := []) (va_runV (As := [.int ((v1 * 10) + 8), .int 2, .long ((v4 : Int32).toInt64)]) (rest := []) ⟨hx, hb, hml, hown, hts⟩ (ct_X0_setNumber l dC dI cJ cI cB cZ h0 h_words y8_0 ((v1 * 10) + 8) 2 ((v4 : Int32).toInt64) hq_23_0 hq_23_1 H.size) (cwV 3 hts gX0_setEntry_X0_setNumber rfl rfl rfl (by decide +kernel) ⟨Nat.le_of_ble_eq_true rfl, Nat.le_of_ble_eq_true rfl⟩) (st_preV (ci := 0) (q0 := 0) hK hP hD hN [0, 1] rfl (by decide) rfl rfl rfl) rfl rfl hl.1 rfl (lv_room (Nat.le_of_ble_eq_true rfl)) dX0_setEntry_23 ⟨Nat.le_of_ble_eq_true rfl, Nat.le_of_ble_eq_true rfl⟩) hP hD hS hA [0, 1] [] rfl rfl (by decide) (by decide) (fun u H locs hw hP hD hS => ?_)
  obtain ⟨y23_0, hu9⟩ : ∃ z, z = u := ⟨_, rfl⟩
  subst hu9
  have hP : va_P (dC, dI) vwCl [(h0, .inr (0, [.ref h_words])), (h_words, .inl (cJ, 7, .inr (.inl y23_0)))] H := hP
  have hD : va_D A [(h0, .inr (0, [.ref h_words])), (h_words, .inl (cJ, 7, .inr (.inl y23_0)))] := hD
  have hF := bnd1_eq hw hF
  have hP9 := hP.sub (ws' := [(h0, .inr (0, [.ref h_words])), (h_words, .inl (cJ, 7, .inr (.inl y23_0)))]) [0, 1] rfl
  have hD9 := hD.sub (ws' := [(h0, .inr (0, [.ref h_words])), (h_words, .inl (cJ, 7, .inr (.inl y23_0)))]) [0, 1] (by decide) rfl
  subst hAe
  exact W.vret hx hb hr (fun t ht hW => ⟨⟨(y23_0), rfl, hFR.symm.trans hF, by rw [ht]; exact hP9, va_K.moved hW.alike hK, hD9⟩, hS.F ht⟩) hS.2.2 dX0_setEntry_26
set_option maxHeartbeats 4000000 in
set_option maxRecDepth 100000 in
theorem ct_X5_clear (l : Launch) (dC : Nat → ClassId) (dI : Nat → Nat → Nat) (cJ cI cB cZ : ClassId) (h0 x_bytes : Nat) (z_length : Int32) (sz : Nat) : Met l yX5_clear wsX5_clear { frames := 0, cells := 0, slots := 0, locals := 0 } (va_Pc [.ref h0] (st_B (dC, dI) (ty4 cJ cI cB cZ) [(h0, .inr (5, [.ref x_bytes, .int z_length]))] sz)) (va_Qv (fun (u : Int32) => fn_X5_clear z_length = u) (fun (u : Int32) t => st_W (dC, dI) (ty4 cJ cI cB cZ) [(h0, .inr (5, [.ref x_bytes, .int z_length]))] sz [(h0, .inr (5, [.ref x_bytes, .int u]))] t) (va_A [(h0, .inr (5, [.ref x_bytes, .int z_length]))] sz)) 0 0 (va_A [(h0, .inr (5, [.ref x_bytes, .int z_length]))] sz) := by
  refine Met.ofW (cc := cX5_clear) (maxL := 1) (ret := none) (by decide) rfl ?_
  intro p e s m args below meth c s₁ B hml hv
  obtain ⟨rfl, hsz, hP, hK, hD0, hN⟩ := hv
  have hx := B.exec
  have hb := B.bytes
  have hr := B.returns
  have hts := atoms_spec (ws := wsX5_clear) B.pre
  have hown : s.vm.findClass RX5 = some m.cls := findClass_of_methodNamed B.named
  have hlocks := B.notSynchronized
  subst hsz
  obtain ⟨A, hAe⟩ : ∃ z, z = va_A [(h0, .inr (5, [.ref x_bytes, .int z_length]))] s.heap.size := ⟨_, rfl⟩
  have hD : va_D A [(h0, .inr (5, [.ref x_bytes, .int z_length]))] := by rw [hAe]; exact hD0.self
  have hA : ∀ q : Nat, s.heap.size ≤ q → A q := fun q h => by rw [hAe]; exact Or.inr h
  have hS : va_S A s.heap s.heap [] := va_S.rf
  have hP : va_P (dC, dI) vwCl [(h0, .inr (5, [.ref x_bytes, .int z_length]))] s.heap := hP
  have hl := lv_entry ([.ref h0]) (n := 1) (Nat.le_of_ble_eq_true rfl)
  rw [lg_entry_eq]
  generalize (lg_sl ([.ref h0]) ++ List.replicate (1 - (lg_sl ([.ref h0])).length) Slot.unset).toArray = ls at hl ⊢
  have hl : lv_has ls 1 [(0, .ref h0)] := hl
  obtain ⟨FR, hFR⟩ : ∃ z, z = fn_X5_clear z_length := ⟨_, rfl⟩
  have hF := hFR
  unfold fn_X5_clear at hF
  refine lv_aload_n hx hb dX5_clear_0 rfl (lv_at hl 0 rfl) ?_
  refine lv_iconst (v := 0) hx hb dX5_clear_1 (by decide) ?_
  refine va_put (D := (dC, dI)) (ci := 5) (v := .int 0) (ty := .int) (C := RX5) (T := TX5) (N := 2) hx hb hts (by decide +kernel) tyX5 tyX5_ok nmX5 hown hK hP hD hS 0 rfl rfl 1 (by decide) (hts (.fieldLink RX5 15 "ShredStore$Tape" "length" "I") (by decide +kernel)) (fun _ h9 => h9) rfl (by decide +kernel) rfl rfl (Nat.le_of_ble_eq_true rfl) dX5_clear_2 (fun H locs hP hD hS => ?_)
  have hP : va_P (dC, dI) vwCl [(h0, .inr (5, [.ref x_bytes, .int 0]))] H := hP
  have hD : va_D A [(h0, .inr (5, [.ref x_bytes, .int 0]))] := hD
  have hP9 := hP.sub (ws' := [(h0, .inr (5, [.ref x_bytes, .int 0]))]) [0] rfl
  have hD9 := hD.sub (ws' := [(h0, .inr (5, [.ref x_bytes, .int 0]))]) [0] (by decide) rfl
  subst hAe
  exact W.vret hx hb hr (fun t ht hW => ⟨⟨(0), rfl, hFR.symm.trans hF, by rw [ht]; exact hP9, va_K.moved hW.alike hK, hD9⟩, hS.F ht⟩) hS.2.2 dX5_clear_5
set_option maxHeartbeats 4000000 in
set_option maxRecDepth 100000 in
theorem ct_X2_clear (l : Launch) (dC : Nat → ClassId) (dI : Nat → Nat → Nat) (cJ cI cB cZ : ClassId) (h0 x_keys x_remembered : Nat) (z_length : Int32) (z_rememberedLength : Int32) (sz : Nat) : Met l yX2_clear wsX2_clear { frames := 0, cells := 0, slots := 0, locals := 0 } (va_Pc [.ref h0] (st_B (dC, dI) (ty4 cJ cI cB cZ) [(h0, .inr (2, [.ref x_keys, .int z_length, .ref x_remembered, .int z_rememberedLength]))] sz)) (va_Qv (fun (u : Int32) => fn_X2_clear z_length = u) (fun (u : Int32) t => st_W (dC, dI) (ty4 cJ cI cB cZ) [(h0, .inr (2, [.ref x_keys, .int z_length, .ref x_remembered, .int z_rememberedLength]))] sz [(h0, .inr (2, [.ref x_keys, .int u, .ref x_remembered, .int z_rememberedLength]))] t) (va_A [(h0, .inr (2, [.ref x_keys, .int z_length, .ref x_remembered, .int z_rememberedLength]))] sz)) 0 0 (va_A [(h0, .inr (2, [.ref x_keys, .int z_length, .ref x_remembered, .int z_rememberedLength]))] sz) := by
  refine Met.ofW (cc := cX2_clear) (maxL := 1) (ret := none) (by decide) rfl ?_
  intro p e s m args below meth c s₁ B hml hv
  obtain ⟨rfl, hsz, hP, hK, hD0, hN⟩ := hv
  have hx := B.exec
  have hb := B.bytes
  have hr := B.returns
  have hts := atoms_spec (ws := wsX2_clear) B.pre
  have hown : s.vm.findClass RX2 = some m.cls := findClass_of_methodNamed B.named
  have hlocks := B.notSynchronized
  subst hsz
  obtain ⟨A, hAe⟩ : ∃ z, z = va_A [(h0, .inr (2, [.ref x_keys, .int z_length, .ref x_remembered, .int z_rememberedLength]))] s.heap.size := ⟨_, rfl⟩
  have hD : va_D A [(h0, .inr (2, [.ref x_keys, .int z_length, .ref x_remembered, .int z_rememberedLength]))] := by rw [hAe]; exact hD0.self
  have hA : ∀ q : Nat, s.heap.size ≤ q → A q := fun q h => by rw [hAe]; exact Or.inr h
  have hS : va_S A s.heap s.heap [] := va_S.rf
  have hP : va_P (dC, dI) vwCl [(h0, .inr (2, [.ref x_keys, .int z_length, .ref x_remembered, .int z_rememberedLength]))] s.heap := hP
  have hl := lv_entry ([.ref h0]) (n := 1) (Nat.le_of_ble_eq_true rfl)
  rw [lg_entry_eq]
  generalize (lg_sl ([.ref h0]) ++ List.replicate (1 - (lg_sl ([.ref h0])).length) Slot.unset).toArray = ls at hl ⊢
  have hl : lv_has ls 1 [(0, .ref h0)] := hl
  obtain ⟨FR, hFR⟩ : ∃ z, z = fn_X2_clear z_length := ⟨_, rfl⟩
  have hF := hFR
  unfold fn_X2_clear at hF
  refine lv_aload_n hx hb dX2_clear_0 rfl (lv_at hl 0 rfl) ?_
  refine lv_iconst (v := 0) hx hb dX2_clear_1 (by decide) ?_
  refine va_put (D := (dC, dI)) (ci := 2) (v := .int 0) (ty := .int) (C := RX2) (T := TX2) (N := 4) hx hb hts (by decide +kernel) tyX2 tyX2_ok nmX2 hown hK hP hD hS 0 rfl rfl 1 (by decide) (hts (.fieldLink RX2 15 "ShredStore$KeyRow" "length" "I") (by decide +kernel)) (fun _ h9 => h9) rfl (by decide +kernel) rfl rfl (Nat.le_of_ble_eq_true rfl) dX2_clear_2 (fun H locs hP hD hS => ?_)
  have hP : va_P (dC, dI) vwCl [(h0, .inr (2, [.ref x_keys, .int 0, .ref x_remembered, .int z_rememberedLength]))] H := hP
  have hD : va_D A [(h0, .inr (2, [.ref x_keys, .int 0, .ref x_remembered, .int z_rememberedLength]))] := hD
  have hP9 := hP.sub (ws' := [(h0, .inr (2, [.ref x_keys, .int 0, .ref x_remembered, .int z_rememberedLength]))]) [0] rfl
  have hD9 := hD.sub (ws' := [(h0, .inr (2, [.ref x_keys, .int 0, .ref x_remembered, .int z_rememberedLength]))]) [0] (by decide) rfl
  subst hAe
  exact W.vret hx hb hr (fun t ht hW => ⟨⟨(0), rfl, hFR.symm.trans hF, by rw [ht]; exact hP9, va_K.moved hW.alike hK, hD9⟩, hS.F ht⟩) hS.2.2 dX2_clear_5
set_option maxHeartbeats 4000000 in
set_option maxRecDepth 100000 in
theorem ct_X0_dataLength (l : Launch) (dC : Nat → ClassId) (dI : Nat → Nat → Nat) (cJ cI cB cZ : ClassId) (h0 h_words : Nat) (z_words : Nat → Int64) (sz : Nat) : Met l yX0_dataLength wsX0_dataLength { frames := 1, cells := 0, slots := 0, locals := 25 } (va_Pc [.ref h0] (st_B (dC, dI) (ty4 cJ cI cB cZ) [(h0, .inr (0, [.ref h_words])), (h_words, .inl (cJ, 7, .inr (.inl z_words)))] sz)) (va_Qi (fun (r : Int32) (u : Unit) => fn_X0_dataLength z_words = r) (fun (u : Unit) t => st_W (dC, dI) (ty4 cJ cI cB cZ) [(h0, .inr (0, [.ref h_words])), (h_words, .inl (cJ, 7, .inr (.inl z_words)))] sz [(h0, .inr (0, [.ref h_words])), (h_words, .inl (cJ, 7, .inr (.inl z_words)))] t) (va_A [(h0, .inr (0, [.ref h_words])), (h_words, .inl (cJ, 7, .inr (.inl z_words)))] sz)) 0 0 (va_A [(h0, .inr (0, [.ref h_words])), (h_words, .inl (cJ, 7, .inr (.inl z_words)))] sz) := by
  refine Met.ofW (cc := cX0_dataLength) (maxL := 1) (ret := (some .int)) (by decide) rfl ?_
  intro p e s m args below meth c s₁ B hml hv
  obtain ⟨rfl, hsz, hP, hK, hD0, hN⟩ := hv
  have hx := B.exec
  have hb := B.bytes
  have hr := B.returns
  have hts := atoms_spec (ws := wsX0_dataLength) B.pre
  have hown : s.vm.findClass RX0 = some m.cls := findClass_of_methodNamed B.named
  have hlocks := B.notSynchronized
  subst hsz
  obtain ⟨A, hAe⟩ : ∃ z, z = va_A [(h0, .inr (0, [.ref h_words])), (h_words, .inl (cJ, 7, .inr (.inl z_words)))] s.heap.size := ⟨_, rfl⟩
  have hD : va_D A [(h0, .inr (0, [.ref h_words])), (h_words, .inl (cJ, 7, .inr (.inl z_words)))] := by rw [hAe]; exact hD0.self
  have hA : ∀ q : Nat, s.heap.size ≤ q → A q := fun q h => by rw [hAe]; exact Or.inr h
  have hS : va_S A s.heap s.heap [] := va_S.rf
  have hP : va_P (dC, dI) vwCl [(h0, .inr (0, [.ref h_words])), (h_words, .inl (cJ, 7, .inr (.inl z_words)))] s.heap := hP
  have hl := lv_entry ([.ref h0]) (n := 1) (Nat.le_of_ble_eq_true rfl)
  rw [lg_entry_eq]
  generalize (lg_sl ([.ref h0]) ++ List.replicate (1 - (lg_sl ([.ref h0])).length) Slot.unset).toArray = ls at hl ⊢
  have hl : lv_has ls 1 [(0, .ref h0)] := hl
  obtain ⟨FR, hFR⟩ : ∃ z, z = fn_X0_dataLength z_words := ⟨_, rfl⟩
  have hF := hFR
  unfold fn_X0_dataLength at hF
  refine lv_aload_n hx hb dX0_dataLength_0 rfl (lv_at hl 0 rfl) ?_
  refine lv_iconst (v := 2) hx hb dX0_dataLength_1 (by decide) ?_
  refine lv_iconst (v := 1) hx hb dX0_dataLength_2 (by decide) ?_
  have hq_3_0 : 0 ≤ (1 : Int32).toInt := by first | assumption | decide
  have hq_3_1 : (1 : Int32).toInt ≤ 51 := by first | assumption | decide
  refine st_calll (wr := []) (va_runV (As := [.int 2, .int 1]) (rest := []) ⟨hx, hb, hml, hown, hts⟩ (ct_X0_number l dC dI cJ cI cB cZ h0 h_words z_words 2 1 hq_3_0 hq_3_1 s.heap.size) (cwV 2 hts gX0_dataLength_X0_number rfl rfl rfl (by decide +kernel) ⟨Nat.le_of_ble_eq_true rfl, Nat.le_of_ble_eq_true rfl⟩) (st_preV (ci := 0) (q0 := 0) hK hP hD hN [0, 1] rfl (by decide) rfl rfl rfl) rfl rfl hl.1 rfl (lv_room (Nat.le_of_ble_eq_true rfl)) dX0_dataLength_3 ⟨Nat.le_of_ble_eq_true rfl, Nat.le_of_ble_eq_true rfl⟩) hP hD hS hA [0, 1] [] rfl rfl (by decide) (by decide) (fun r3 u H locs hw hP hD hS => ?_)
  have hP : va_P (dC, dI) vwCl [(h0, .inr (0, [.ref h_words])), (h_words, .inl (cJ, 7, .inr (.inl z_words)))] H := hP
  have hD : va_D A [(h0, .inr (0, [.ref h_words])), (h_words, .inl (cJ, 7, .inr (.inl z_words)))] := hD
  have hF := bnd1_eq hw hF
  refine lv_l2i (v := (r3 : Int64).toInt32) hx hb dX0_dataLength_6 rfl ?_
  have hP9 := hP.sub (ws' := [(h0, .inr (0, [.ref h_words])), (h_words, .inl (cJ, 7, .inr (.inl z_words)))]) [0, 1] rfl
  have hD9 := hD.sub (ws' := [(h0, .inr (0, [.ref h_words])), (h_words, .inl (cJ, 7, .inr (.inl z_words)))]) [0, 1] (by decide) rfl
  subst hAe
  exact W.iret (v := (r3 : Int64).toInt32) hx hb hr (fun t ht hW => ⟨⟨(r3 : Int64).toInt32, (), rfl, hFR.symm.trans hF, by rw [ht]; exact hP9, va_K.moved hW.alike hK, hD9⟩, hS.F ht⟩) hS.2.2 dX0_dataLength_7
set_option maxHeartbeats 4000000 in
set_option maxRecDepth 100000 in
theorem ct_X0_dataByte (l : Launch) (dC : Nat → ClassId) (dI : Nat → Nat → Nat) (cJ cI cB cZ : ClassId) (h0 h_words : Nat) (z_words : Nat → Int64) (v1 : Int32) (sz : Nat) : Met l yX0_dataByte wsX0_dataByte { frames := 1, cells := 0, slots := 0, locals := 25 } (va_Pc [.ref h0, .int v1] (st_B (dC, dI) (ty4 cJ cI cB cZ) [(h0, .inr (0, [.ref h_words])), (h_words, .inl (cJ, 7, .inr (.inl z_words)))] sz)) (va_Qi (fun (r : Int32) (u : Unit) => fn_X0_dataByte z_words v1 = r) (fun (u : Unit) t => st_W (dC, dI) (ty4 cJ cI cB cZ) [(h0, .inr (0, [.ref h_words])), (h_words, .inl (cJ, 7, .inr (.inl z_words)))] sz [(h0, .inr (0, [.ref h_words])), (h_words, .inl (cJ, 7, .inr (.inl z_words)))] t) (va_A [(h0, .inr (0, [.ref h_words])), (h_words, .inl (cJ, 7, .inr (.inl z_words)))] sz)) 0 0 (va_A [(h0, .inr (0, [.ref h_words])), (h_words, .inl (cJ, 7, .inr (.inl z_words)))] sz) := by
  refine Met.ofW (cc := cX0_dataByte) (maxL := 2) (ret := (some .int)) (by decide) rfl ?_
  intro p e s m args below meth c s₁ B hml hv
  obtain ⟨rfl, hsz, hP, hK, hD0, hN⟩ := hv
  have hx := B.exec
  have hb := B.bytes
  have hr := B.returns
  have hts := atoms_spec (ws := wsX0_dataByte) B.pre
  have hown : s.vm.findClass RX0 = some m.cls := findClass_of_methodNamed B.named
  have hlocks := B.notSynchronized
  subst hsz
  obtain ⟨A, hAe⟩ : ∃ z, z = va_A [(h0, .inr (0, [.ref h_words])), (h_words, .inl (cJ, 7, .inr (.inl z_words)))] s.heap.size := ⟨_, rfl⟩
  have hD : va_D A [(h0, .inr (0, [.ref h_words])), (h_words, .inl (cJ, 7, .inr (.inl z_words)))] := by rw [hAe]; exact hD0.self
  have hA : ∀ q : Nat, s.heap.size ≤ q → A q := fun q h => by rw [hAe]; exact Or.inr h
  have hS : va_S A s.heap s.heap [] := va_S.rf
  have hP : va_P (dC, dI) vwCl [(h0, .inr (0, [.ref h_words])), (h_words, .inl (cJ, 7, .inr (.inl z_words)))] s.heap := hP
  have hl := lv_entry ([.ref h0, .int v1]) (n := 2) (Nat.le_of_ble_eq_true rfl)
  rw [lg_entry_eq]
  generalize (lg_sl ([.ref h0, .int v1]) ++ List.replicate (2 - (lg_sl ([.ref h0, .int v1])).length) Slot.unset).toArray = ls at hl ⊢
  have hl : lv_has ls 2 [(0, .ref h0), (1, .int v1)] := hl
  obtain ⟨FR, hFR⟩ : ∃ z, z = fn_X0_dataByte z_words v1 := ⟨_, rfl⟩
  have hF := hFR
  unfold fn_X0_dataByte at hF
  refine lv_aload_n hx hb dX0_dataByte_0 rfl (lv_at hl 0 rfl) ?_
  refine lv_iconst (v := 3) hx hb dX0_dataByte_1 (by decide) ?_
  refine lv_iload_n hx hb dX0_dataByte_2 rfl (lv_at hl 1 rfl) ?_
  refine lv_iadd hx hb dX0_dataByte_3 ?_
  refine lv_iconst (v := 1) hx hb dX0_dataByte_4 (by decide) ?_
  have hq_5_0 : 0 ≤ (1 : Int32).toInt := by first | assumption | decide
  have hq_5_1 : (1 : Int32).toInt ≤ 51 := by first | assumption | decide
  refine st_calll (wr := []) (va_runV (As := [.int (3 + v1), .int 1]) (rest := []) ⟨hx, hb, hml, hown, hts⟩ (ct_X0_number l dC dI cJ cI cB cZ h0 h_words z_words (3 + v1) 1 hq_5_0 hq_5_1 s.heap.size) (cwV 2 hts gX0_dataByte_X0_number rfl rfl rfl (by decide +kernel) ⟨Nat.le_of_ble_eq_true rfl, Nat.le_of_ble_eq_true rfl⟩) (st_preV (ci := 0) (q0 := 0) hK hP hD hN [0, 1] rfl (by decide) rfl rfl rfl) rfl rfl hl.1 rfl (lv_room (Nat.le_of_ble_eq_true rfl)) dX0_dataByte_5 ⟨Nat.le_of_ble_eq_true rfl, Nat.le_of_ble_eq_true rfl⟩) hP hD hS hA [0, 1] [] rfl rfl (by decide) (by decide) (fun r5 u H locs hw hP hD hS => ?_)
  have hP : va_P (dC, dI) vwCl [(h0, .inr (0, [.ref h_words])), (h_words, .inl (cJ, 7, .inr (.inl z_words)))] H := hP
  have hD : va_D A [(h0, .inr (0, [.ref h_words])), (h_words, .inl (cJ, 7, .inr (.inl z_words)))] := hD
  have hF := bnd1_eq hw hF
  refine lv_l2i (v := (r5 : Int64).toInt32) hx hb dX0_dataByte_8 rfl ?_
  have hP9 := hP.sub (ws' := [(h0, .inr (0, [.ref h_words])), (h_words, .inl (cJ, 7, .inr (.inl z_words)))]) [0, 1] rfl
  have hD9 := hD.sub (ws' := [(h0, .inr (0, [.ref h_words])), (h_words, .inl (cJ, 7, .inr (.inl z_words)))]) [0, 1] (by decide) rfl
  subst hAe
  exact W.iret (v := (r5 : Int64).toInt32) hx hb hr (fun t ht hW => ⟨⟨(r5 : Int64).toInt32, (), rfl, hFR.symm.trans hF, by rw [ht]; exact hP9, va_K.moved hW.alike hK, hD9⟩, hS.F ht⟩) hS.2.2 dX0_dataByte_9
set_option maxHeartbeats 4000000 in
set_option maxRecDepth 100000 in
theorem ct_X3_armWith (l : Launch) (dC : Nat → ClassId) (dI : Nat → Nat → Nat) (cJ cI cB cZ : ClassId) (h0 : Nat) (z_on : Int32) (z_stepsLeft : Int32) (v1 : Int32) (sz : Nat) : Met l yX3_armWith wsX3_armWith { frames := 0, cells := 0, slots := 0, locals := 0 } (va_Pc [.ref h0, .int v1] (st_B (dC, dI) (ty4 cJ cI cB cZ) [(h0, .inr (3, [.int z_on, .int z_stepsLeft]))] sz)) (va_Qv (fun (u : Int32) => fn_X3_armWith z_stepsLeft v1 = u) (fun (u : Int32) t => st_W (dC, dI) (ty4 cJ cI cB cZ) [(h0, .inr (3, [.int z_on, .int z_stepsLeft]))] sz [(h0, .inr (3, [.int z_on, .int u]))] t) (va_A [(h0, .inr (3, [.int z_on, .int z_stepsLeft]))] sz)) 0 0 (va_A [(h0, .inr (3, [.int z_on, .int z_stepsLeft]))] sz) := by
  refine Met.ofW (cc := cX3_armWith) (maxL := 2) (ret := none) (by decide) rfl ?_
  intro p e s m args below meth c s₁ B hml hv
  obtain ⟨rfl, hsz, hP, hK, hD0, hN⟩ := hv
  have hx := B.exec
  have hb := B.bytes
  have hr := B.returns
  have hts := atoms_spec (ws := wsX3_armWith) B.pre
  have hown : s.vm.findClass RX3 = some m.cls := findClass_of_methodNamed B.named
  have hlocks := B.notSynchronized
  subst hsz
  obtain ⟨A, hAe⟩ : ∃ z, z = va_A [(h0, .inr (3, [.int z_on, .int z_stepsLeft]))] s.heap.size := ⟨_, rfl⟩
  have hD : va_D A [(h0, .inr (3, [.int z_on, .int z_stepsLeft]))] := by rw [hAe]; exact hD0.self
  have hA : ∀ q : Nat, s.heap.size ≤ q → A q := fun q h => by rw [hAe]; exact Or.inr h
  have hS : va_S A s.heap s.heap [] := va_S.rf
  have hP : va_P (dC, dI) vwCl [(h0, .inr (3, [.int z_on, .int z_stepsLeft]))] s.heap := hP
  have hl := lv_entry ([.ref h0, .int v1]) (n := 2) (Nat.le_of_ble_eq_true rfl)
  rw [lg_entry_eq]
  generalize (lg_sl ([.ref h0, .int v1]) ++ List.replicate (2 - (lg_sl ([.ref h0, .int v1])).length) Slot.unset).toArray = ls at hl ⊢
  have hl : lv_has ls 2 [(0, .ref h0), (1, .int v1)] := hl
  obtain ⟨FR, hFR⟩ : ∃ z, z = fn_X3_armWith z_stepsLeft v1 := ⟨_, rfl⟩
  have hF := hFR
  unfold fn_X3_armWith at hF
  refine lv_aload_n hx hb dX3_armWith_0 rfl (lv_at hl 0 rfl) ?_
  refine lv_iload_n hx hb dX3_armWith_1 rfl (lv_at hl 1 rfl) ?_
  refine va_put (D := (dC, dI)) (ci := 3) (v := .int v1) (ty := .int) (C := RX3) (T := TX3) (N := 2) hx hb hts (by decide +kernel) tyX3 tyX3_ok nmX3 hown hK hP hD hS 0 rfl rfl 1 (by decide) (hts (.fieldLink RX3 15 "ShredStore$Power" "stepsLeft" "I") (by decide +kernel)) (fun _ h9 => h9) rfl (by decide +kernel) rfl rfl (Nat.le_of_ble_eq_true rfl) dX3_armWith_2 (fun H locs hP hD hS => ?_)
  have hP : va_P (dC, dI) vwCl [(h0, .inr (3, [.int z_on, .int v1]))] H := hP
  have hD : va_D A [(h0, .inr (3, [.int z_on, .int v1]))] := hD
  have hP9 := hP.sub (ws' := [(h0, .inr (3, [.int z_on, .int v1]))]) [0] rfl
  have hD9 := hD.sub (ws' := [(h0, .inr (3, [.int z_on, .int v1]))]) [0] (by decide) rfl
  subst hAe
  exact W.vret hx hb hr (fun t ht hW => ⟨⟨(v1), rfl, hFR.symm.trans hF, by rw [ht]; exact hP9, va_K.moved hW.alike hK, hD9⟩, hS.F ht⟩) hS.2.2 dX3_armWith_5
set_option maxHeartbeats 4000000 in
set_option maxRecDepth 100000 in
theorem ct_X3_goOn (l : Launch) (dC : Nat → ClassId) (dI : Nat → Nat → Nat) (cJ cI cB cZ : ClassId) (h0 : Nat) (z_on : Int32) (z_stepsLeft : Int32) (sz : Nat) : Met l yX3_goOn wsX3_goOn { frames := 0, cells := 0, slots := 0, locals := 0 } (va_Pc [.ref h0] (st_B (dC, dI) (ty4 cJ cI cB cZ) [(h0, .inr (3, [.int z_on, .int z_stepsLeft]))] sz)) (va_Qv (fun (u : Int32) => fn_X3_goOn z_on = u) (fun (u : Int32) t => st_W (dC, dI) (ty4 cJ cI cB cZ) [(h0, .inr (3, [.int z_on, .int z_stepsLeft]))] sz [(h0, .inr (3, [.int u, .int z_stepsLeft]))] t) (va_A [(h0, .inr (3, [.int z_on, .int z_stepsLeft]))] sz)) 0 0 (va_A [(h0, .inr (3, [.int z_on, .int z_stepsLeft]))] sz) := by
  refine Met.ofW (cc := cX3_goOn) (maxL := 1) (ret := none) (by decide) rfl ?_
  intro p e s m args below meth c s₁ B hml hv
  obtain ⟨rfl, hsz, hP, hK, hD0, hN⟩ := hv
  have hx := B.exec
  have hb := B.bytes
  have hr := B.returns
  have hts := atoms_spec (ws := wsX3_goOn) B.pre
  have hown : s.vm.findClass RX3 = some m.cls := findClass_of_methodNamed B.named
  have hlocks := B.notSynchronized
  subst hsz
  obtain ⟨A, hAe⟩ : ∃ z, z = va_A [(h0, .inr (3, [.int z_on, .int z_stepsLeft]))] s.heap.size := ⟨_, rfl⟩
  have hD : va_D A [(h0, .inr (3, [.int z_on, .int z_stepsLeft]))] := by rw [hAe]; exact hD0.self
  have hA : ∀ q : Nat, s.heap.size ≤ q → A q := fun q h => by rw [hAe]; exact Or.inr h
  have hS : va_S A s.heap s.heap [] := va_S.rf
  have hP : va_P (dC, dI) vwCl [(h0, .inr (3, [.int z_on, .int z_stepsLeft]))] s.heap := hP
  have hl := lv_entry ([.ref h0]) (n := 1) (Nat.le_of_ble_eq_true rfl)
  rw [lg_entry_eq]
  generalize (lg_sl ([.ref h0]) ++ List.replicate (1 - (lg_sl ([.ref h0])).length) Slot.unset).toArray = ls at hl ⊢
  have hl : lv_has ls 1 [(0, .ref h0)] := hl
  obtain ⟨FR, hFR⟩ : ∃ z, z = fn_X3_goOn z_on := ⟨_, rfl⟩
  have hF := hFR
  unfold fn_X3_goOn at hF
  refine lv_aload_n hx hb dX3_goOn_0 rfl (lv_at hl 0 rfl) ?_
  refine lv_iconst (v := 1) hx hb dX3_goOn_1 (by decide) ?_
  refine va_put (D := (dC, dI)) (ci := 3) (v := .int 1) (ty := .boolean) (C := RX3) (T := TX3) (N := 2) hx hb hts (by decide +kernel) tyX3 tyX3_ok nmX3 hown hK hP hD hS 0 rfl rfl 0 (by decide) (hts (.fieldLink RX3 9 "ShredStore$Power" "on" "Z") (by decide +kernel)) (fun _ h9 => h9) rfl (by decide +kernel) rfl rfl (Nat.le_of_ble_eq_true rfl) dX3_goOn_2 (fun H locs hP hD hS => ?_)
  have hP : va_P (dC, dI) vwCl [(h0, .inr (3, [.int 1, .int z_stepsLeft]))] H := hP
  have hD : va_D A [(h0, .inr (3, [.int 1, .int z_stepsLeft]))] := hD
  have hP9 := hP.sub (ws' := [(h0, .inr (3, [.int 1, .int z_stepsLeft]))]) [0] rfl
  have hD9 := hD.sub (ws' := [(h0, .inr (3, [.int 1, .int z_stepsLeft]))]) [0] (by decide) rfl
  subst hAe
  exact W.vret hx hb hr (fun t ht hW => ⟨⟨(1), rfl, hFR.symm.trans hF, by rw [ht]; exact hP9, va_K.moved hW.alike hK, hD9⟩, hS.F ht⟩) hS.2.2 dX3_goOn_5
