set_option maxHeartbeats 4000000 in
set_option maxRecDepth 100000 in
theorem ct_X4_has (l : Launch) (dC : Nat → ClassId) (dI : Nat → Nat → Nat) (cJ cI cB cZ : ClassId) (h0 h_keys x_disk x_body x_tried : Nat) (z_length : Int32) (z_stepsSeen : Int32) (z_keys : Nat → Int64) (v1 : Int64) (hp0 : 0 ≤ z_length.toInt) (hp1 : z_length.toInt ≤ 801) (sz : Nat) : Met l yX4_has wsX4_has { frames := 0, cells := 0, slots := 0, locals := 0 } (va_Pc [.ref h0, .long v1] (st_B (dC, dI) (ty4 cJ cI cB cZ) [(h0, .inr (4, [.ref x_disk, .ref x_body, .ref h_keys, .int z_length, .ref x_tried, .int z_stepsSeen])), (h_keys, .inl (cJ, 801, .inr (.inl z_keys)))] sz)) (va_Qi (fun (r : Int32) (u : Unit) => fn_X4_has z_length z_keys v1 = r ∧ narrow .boolean (.int r) = .int r) (fun (u : Unit) t => st_W (dC, dI) (ty4 cJ cI cB cZ) [(h0, .inr (4, [.ref x_disk, .ref x_body, .ref h_keys, .int z_length, .ref x_tried, .int z_stepsSeen])), (h_keys, .inl (cJ, 801, .inr (.inl z_keys)))] sz [(h0, .inr (4, [.ref x_disk, .ref x_body, .ref h_keys, .int z_length, .ref x_tried, .int z_stepsSeen])), (h_keys, .inl (cJ, 801, .inr (.inl z_keys)))] t) (va_A [(h0, .inr (4, [.ref x_disk, .ref x_body, .ref h_keys, .int z_length, .ref x_tried, .int z_stepsSeen])), (h_keys, .inl (cJ, 801, .inr (.inl z_keys)))] sz)) 0 0 (va_A [(h0, .inr (4, [.ref x_disk, .ref x_body, .ref h_keys, .int z_length, .ref x_tried, .int z_stepsSeen])), (h_keys, .inl (cJ, 801, .inr (.inl z_keys)))] sz) := by
  refine Met.ofW (cc := cX4_has) (maxL := 4) (ret := (some .boolean)) (by decide) rfl ?_
  intro p e s m args below meth c s₁ B hml hv
  obtain ⟨rfl, hsz, hP, hK, hD0, hN⟩ := hv
  have hx := B.exec
  have hb := B.bytes
  have hr := B.returns
  have hts := atoms_spec (ws := wsX4_has) B.pre
  have hown : s.vm.findClass RX4 = some m.cls := findClass_of_methodNamed B.named
  have hlocks := B.notSynchronized
  subst hsz
  obtain ⟨A, hAe⟩ : ∃ z, z = va_A [(h0, .inr (4, [.ref x_disk, .ref x_body, .ref h_keys, .int z_length, .ref x_tried, .int z_stepsSeen])), (h_keys, .inl (cJ, 801, .inr (.inl z_keys)))] s.heap.size := ⟨_, rfl⟩
  have hD : va_D A [(h0, .inr (4, [.ref x_disk, .ref x_body, .ref h_keys, .int z_length, .ref x_tried, .int z_stepsSeen])), (h_keys, .inl (cJ, 801, .inr (.inl z_keys)))] := by rw [hAe]; exact hD0.self
  have hA : ∀ q : Nat, s.heap.size ≤ q → A q := fun q h => by rw [hAe]; exact Or.inr h
  have hS : va_S A s.heap s.heap [] := va_S.rf
  have hP : va_P (dC, dI) vwCl [(h0, .inr (4, [.ref x_disk, .ref x_body, .ref h_keys, .int z_length, .ref x_tried, .int z_stepsSeen])), (h_keys, .inl (cJ, 801, .inr (.inl z_keys)))] s.heap := hP
  have hl := lv_entry ([.ref h0, .long v1]) (n := 4) (Nat.le_of_ble_eq_true rfl)
  rw [lg_entry_eq]
  generalize (lg_sl ([.ref h0, .long v1]) ++ List.replicate (4 - (lg_sl ([.ref h0, .long v1])).length) Slot.unset).toArray = ls at hl ⊢
  have hl : lv_has ls 4 [(0, .ref h0), (1, .long v1)] := hl
  obtain ⟨FR, hFR⟩ : ∃ z, z = fn_X4_has z_length z_keys v1 := ⟨_, rfl⟩
  have hF := hFR
  unfold fn_X4_has at hF
  refine lv_iconst (v := 0) hx hb dX4_has_0 (by decide) ?_
  refine lv_istore_n (lv' := [(3, .int 0), (0, .ref h0), (1, .long v1)]) hx hb dX4_has_1 rfl hl (by decide) rfl (fun ls hl => ?_)
  have lp_2 : ∀ (n2 : Nat) (v3_L2 : Int32), (∃ j2 : Nat, v3_L2 = nI j2 ∧ j2 ≤ 801 ∧ 801 < j2 + n2) → ∀ (H : Heap) (locs : List Loc), va_P (dC, dI) vwCl [(h0, .inr (4, [.ref x_disk, .ref x_body, .ref h_keys, .int z_length, .ref x_tried, .int z_stepsSeen])), (h_keys, .inl (cJ, 801, .inr (.inl z_keys)))] H → va_D A [(h0, .inr (4, [.ref x_disk, .ref x_body, .ref h_keys, .int z_length, .ref x_tried, .int z_stepsSeen])), (h_keys, .inl (cJ, 801, .inr (.inl z_keys)))] → va_S A s.heap H locs → ∀ (ls : Array Slot), lv_has ls 4 [(0, .ref h0), (1, .long v1), (3, .int v3_L2)] → FR = fn_X4_has_L2 n2 z_length z_keys v1 v3_L2 → W p l e (headSpec wsX4_has { frames := 0, cells := 0, slots := 0, locals := 0 }).room s m ([.ref h0, .long v1] : List Value).toArray below meth c H locs 0 0 (MQ below (va_Qi (fun (r : Int32) (u : Unit) => fn_X4_has z_length z_keys v1 = r ∧ narrow .boolean (.int r) = .int r) (fun (u : Unit) t => st_W (dC, dI) (ty4 cJ cI cB cZ) [(h0, .inr (4, [.ref x_disk, .ref x_body, .ref h_keys, .int z_length, .ref x_tried, .int z_stepsSeen])), (h_keys, .inl (cJ, 801, .inr (.inl z_keys)))] s.heap.size [(h0, .inr (4, [.ref x_disk, .ref x_body, .ref h_keys, .int z_length, .ref x_tried, .int z_stepsSeen])), (h_keys, .inl (cJ, 801, .inr (.inl z_keys)))] t) (va_A [(h0, .inr (4, [.ref x_disk, .ref x_body, .ref h_keys, .int z_length, .ref x_tried, .int z_stepsSeen])), (h_keys, .inl (cJ, 801, .inr (.inl z_keys)))] s.heap.size)) ([.ref h0, .long v1] : List Value).toArray s 0 0 (va_A [(h0, .inr (4, [.ref x_disk, .ref x_body, .ref h_keys, .int z_length, .ref x_tried, .int z_stepsSeen])), (h_keys, .inl (cJ, 801, .inr (.inl z_keys)))] s.heap.size)) (F0 m 2 ls []) := by
    intro n2
    induction n2 with
    | zero =>
      intro v3_L2 hI
      exact absurd hI (by rintro ⟨j, -, h1, h2⟩; omega)
    | succ n2 ih_2 =>
      intro v3_L2 hI H locs hP hD hS ls hl hF
      rw [fn_X4_has_L2] at hF
      obtain ⟨j2, ev2, hj2, hn2⟩ := hI
      refine lv_iload_n hx hb dX4_has_2 rfl (lv_at hl 2 rfl) ?_
      refine lv_aload_n hx hb dX4_has_3 rfl (lv_at hl 0 rfl) ?_
      refine va_get (D := (dC, dI)) (ci := 4) (v := .int z_length) (C := RX4) (T := TX4) (N := 6) hx hb hts (by decide +kernel) hown hK hP 0 rfl rfl 3 (by decide) (hts (.fieldLink RX4 22 "ShredStore$Reach" "length" "I") (by decide +kernel)) (fun _ h9 => h9) rfl dX4_has_4 ?_
      refine lv_icmp_ge (tgt := 29) hx hb dX4_has_7 (by decide) (fun c_7 => ?_) (fun c_7 => ?_)
      · have hF := ite_t c_7 hF
        refine lv_iconst (v := 0) hx hb dX4_has_29 (by decide) ?_
        have hP9 := hP.sub (ws' := [(h0, .inr (4, [.ref x_disk, .ref x_body, .ref h_keys, .int z_length, .ref x_tried, .int z_stepsSeen])), (h_keys, .inl (cJ, 801, .inr (.inl z_keys)))]) [0, 1] rfl
        have hD9 := hD.sub (ws' := [(h0, .inr (4, [.ref x_disk, .ref x_body, .ref h_keys, .int z_length, .ref x_tried, .int z_stepsSeen])), (h_keys, .inl (cJ, 801, .inr (.inl z_keys)))]) [0, 1] (by decide) rfl
        subst hAe
        exact W.zret (v := 0) (ty := .boolean) hx hb hr (by first | rfl | assumption) (fun t ht hW => ⟨⟨0, (), rfl, ⟨hFR.symm.trans hF, (by first | rfl | assumption)⟩, by rw [ht]; exact hP9, va_K.moved hW.alike hK, hD9⟩, hS.F ht⟩) hS.2.2 dX4_has_30
      · have hF := ite_f c_7 hF
        have hlt2 : j2 < 801 := (by have q9 := q_nle c_7; rw [ev2, nI_toInt (by omega)] at q9; omega)
        refine lv_aload_n hx hb dX4_has_10 rfl (lv_at hl 0 rfl) ?_
        refine va_get (D := (dC, dI)) (ci := 4) (v := .ref h_keys) (C := RX4) (T := TX4) (N := 6) hx hb hts (by decide +kernel) hown hK hP 0 rfl rfl 2 (by decide) (hts (.fieldLink RX4 18 "ShredStore$Reach" "keys" "[J") (by decide +kernel)) (fun _ h9 => h9) rfl dX4_has_11 ?_
        refine lv_iload_n hx hb dX4_has_14 rfl (lv_at hl 2 rfl) ?_
        have hr_15 : vp_in v3_L2 801 := by rw [ev2]; exact vp_in_nI (by omega) (by decide)
        refine va_lald hx hb hK hP 1 0 rfl rfl hr_15 dX4_has_15 ?_
        refine lv_lload_n hx hb dX4_has_16 rfl (lv_at hl 1 rfl) ?_
        refine W.lcmp hx hb dX4_has_17 ?_
        refine lv_if_ne (tgt := 23) hx hb dX4_has_18 (by decide) (fun c_18 => ?_) (fun c_18 => ?_)
        · have hF := ite_f c_18 hF
          refine lv_iinc (v := (v3_L2 + 1)) (lv' := [(3, .int (v3_L2 + 1)), (0, .ref h0), (1, .long v1)]) hx hb dX4_has_23 hl (k := 2) rfl rfl (by decide) rfl (fun ls hl => ?_)
          refine lv_goto (tgt := 2) hx hb dX4_has_26 (by decide) ?_
          exact ih_2 (v3_L2 + 1) (by exact ⟨j2 + 1, by rw [ev2]; exact nI_1 j2, by omega, by omega⟩) _ _ hP hD hS _ (lv_sub hl [1, 2, 0] rfl) hF
        · have hF := ite_t c_18 hF
          refine lv_iconst (v := 1) hx hb dX4_has_21 (by decide) ?_
          have hP9 := hP.sub (ws' := [(h0, .inr (4, [.ref x_disk, .ref x_body, .ref h_keys, .int z_length, .ref x_tried, .int z_stepsSeen])), (h_keys, .inl (cJ, 801, .inr (.inl z_keys)))]) [0, 1] rfl
          have hD9 := hD.sub (ws' := [(h0, .inr (4, [.ref x_disk, .ref x_body, .ref h_keys, .int z_length, .ref x_tried, .int z_stepsSeen])), (h_keys, .inl (cJ, 801, .inr (.inl z_keys)))]) [0, 1] (by decide) rfl
          subst hAe
          exact W.zret (v := 1) (ty := .boolean) hx hb hr (by first | rfl | assumption) (fun t ht hW => ⟨⟨1, (), rfl, ⟨hFR.symm.trans hF, (by first | rfl | assumption)⟩, by rw [ht]; exact hP9, va_K.moved hW.alike hK, hD9⟩, hS.F ht⟩) hS.2.2 dX4_has_22
  exact lp_2 802 0 (by exact ⟨0, rfl, by omega, by omega⟩) _ _ hP hD hS _ (lv_sub hl [1, 2, 0] rfl) hF
set_option maxHeartbeats 4000000 in
set_option maxRecDepth 100000 in
theorem ct_X4_learn (l : Launch) (dC : Nat → ClassId) (dI : Nat → Nat → Nat) (cJ cI cB cZ : ClassId) (h0 h_keys x_disk x_body x_tried : Nat) (z_length : Int32) (z_stepsSeen : Int32) (z_keys : Nat → Int64) (v1 : Int64) (hp0 : 0 ≤ z_length.toInt) (hp1 : z_length.toInt ≤ 801) (sz : Nat) : Met l yX4_learn wsX4_learn { frames := 1, cells := 0, slots := 0, locals := 23 } (va_Pc [.ref h0, .long v1] (st_B (dC, dI) (ty4 cJ cI cB cZ) [(h0, .inr (4, [.ref x_disk, .ref x_body, .ref h_keys, .int z_length, .ref x_tried, .int z_stepsSeen])), (h_keys, .inl (cJ, 801, .inr (.inl z_keys)))] sz)) (va_Qv (fun (u : Int32 × (Nat → Int64)) => fn_X4_learn z_length z_keys v1 = (u.1, u.2)) (fun (u : Int32 × (Nat → Int64)) t => st_W (dC, dI) (ty4 cJ cI cB cZ) [(h0, .inr (4, [.ref x_disk, .ref x_body, .ref h_keys, .int z_length, .ref x_tried, .int z_stepsSeen])), (h_keys, .inl (cJ, 801, .inr (.inl z_keys)))] sz [(h0, .inr (4, [.ref x_disk, .ref x_body, .ref h_keys, .int u.1, .ref x_tried, .int z_stepsSeen])), (h_keys, .inl (cJ, 801, .inr (.inl u.2)))] t) (va_A [(h0, .inr (4, [.ref x_disk, .ref x_body, .ref h_keys, .int z_length, .ref x_tried, .int z_stepsSeen])), (h_keys, .inl (cJ, 801, .inr (.inl z_keys)))] sz)) 0 0 (va_A [(h0, .inr (4, [.ref x_disk, .ref x_body, .ref h_keys, .int z_length, .ref x_tried, .int z_stepsSeen])), (h_keys, .inl (cJ, 801, .inr (.inl z_keys)))] sz) := by
  refine Met.ofW (cc := cX4_learn) (maxL := 3) (ret := none) (by decide) rfl ?_
  intro p e s m args below meth c s₁ B hml hv
  obtain ⟨rfl, hsz, hP, hK, hD0, hN⟩ := hv
  have hx := B.exec
  have hb := B.bytes
  have hr := B.returns
  have hts := atoms_spec (ws := wsX4_learn) B.pre
  have hown : s.vm.findClass RX4 = some m.cls := findClass_of_methodNamed B.named
  have hlocks := B.notSynchronized
  subst hsz
  obtain ⟨A, hAe⟩ : ∃ z, z = va_A [(h0, .inr (4, [.ref x_disk, .ref x_body, .ref h_keys, .int z_length, .ref x_tried, .int z_stepsSeen])), (h_keys, .inl (cJ, 801, .inr (.inl z_keys)))] s.heap.size := ⟨_, rfl⟩
  have hD : va_D A [(h0, .inr (4, [.ref x_disk, .ref x_body, .ref h_keys, .int z_length, .ref x_tried, .int z_stepsSeen])), (h_keys, .inl (cJ, 801, .inr (.inl z_keys)))] := by rw [hAe]; exact hD0.self
  have hA : ∀ q : Nat, s.heap.size ≤ q → A q := fun q h => by rw [hAe]; exact Or.inr h
  have hS : va_S A s.heap s.heap [] := va_S.rf
  have hP : va_P (dC, dI) vwCl [(h0, .inr (4, [.ref x_disk, .ref x_body, .ref h_keys, .int z_length, .ref x_tried, .int z_stepsSeen])), (h_keys, .inl (cJ, 801, .inr (.inl z_keys)))] s.heap := hP
  have hl := lv_entry ([.ref h0, .long v1]) (n := 3) (Nat.le_of_ble_eq_true rfl)
  rw [lg_entry_eq]
  generalize (lg_sl ([.ref h0, .long v1]) ++ List.replicate (3 - (lg_sl ([.ref h0, .long v1])).length) Slot.unset).toArray = ls at hl ⊢
  have hl : lv_has ls 3 [(0, .ref h0), (1, .long v1)] := hl
  obtain ⟨FR, hFR⟩ : ∃ z, z = fn_X4_learn z_length z_keys v1 := ⟨_, rfl⟩
  have hF := hFR
  unfold fn_X4_learn at hF
  refine lv_lload_n hx hb dX4_learn_0 rfl (lv_at hl 1 rfl) ?_
  refine lv_lconst (v := 0) hx hb dX4_learn_1 (by decide) ?_
  refine W.lcmp hx hb dX4_learn_2 ?_
  refine lv_if_eq (tgt := 44) hx hb dX4_learn_3 (by decide) (fun c_3 => ?_) (fun c_3 => ?_)
  · have hF := ite_t c_3 hF
    have hP9 := hP.sub (ws' := [(h0, .inr (4, [.ref x_disk, .ref x_body, .ref h_keys, .int z_length, .ref x_tried, .int z_stepsSeen])), (h_keys, .inl (cJ, 801, .inr (.inl z_keys)))]) [0, 1] rfl
    have hD9 := hD.sub (ws' := [(h0, .inr (4, [.ref x_disk, .ref x_body, .ref h_keys, .int z_length, .ref x_tried, .int z_stepsSeen])), (h_keys, .inl (cJ, 801, .inr (.inl z_keys)))]) [0, 1] (by decide) rfl
    subst hAe
    exact W.vret hx hb hr (fun t ht hW => ⟨⟨(z_length, z_keys), rfl, hFR.symm.trans hF, by rw [ht]; exact hP9, va_K.moved hW.alike hK, hD9⟩, hS.F ht⟩) hS.2.2 dX4_learn_44
  · have hF := ite_f c_3 hF
    refine lv_aload_n hx hb dX4_learn_6 rfl (lv_at hl 0 rfl) ?_
    refine va_get (D := (dC, dI)) (ci := 4) (v := .int z_length) (C := RX4) (T := TX4) (N := 6) hx hb hts (by decide +kernel) hown hK hP 0 rfl rfl 3 (by decide) (hts (.fieldLink RX4 22 "ShredStore$Reach" "length" "I") (by decide +kernel)) (fun _ h9 => h9) rfl dX4_learn_7 ?_
    refine lv_sipush (v := 801) hx hb dX4_learn_10 (by decide) ?_
    refine lv_icmp_ge (tgt := 44) hx hb dX4_learn_13 (by decide) (fun c_13 => ?_) (fun c_13 => ?_)
    · have hF := ite_t c_13 hF
      have hP9 := hP.sub (ws' := [(h0, .inr (4, [.ref x_disk, .ref x_body, .ref h_keys, .int z_length, .ref x_tried, .int z_stepsSeen])), (h_keys, .inl (cJ, 801, .inr (.inl z_keys)))]) [0, 1] rfl
      have hD9 := hD.sub (ws' := [(h0, .inr (4, [.ref x_disk, .ref x_body, .ref h_keys, .int z_length, .ref x_tried, .int z_stepsSeen])), (h_keys, .inl (cJ, 801, .inr (.inl z_keys)))]) [0, 1] (by decide) rfl
      subst hAe
      exact W.vret hx hb hr (fun t ht hW => ⟨⟨(z_length, z_keys), rfl, hFR.symm.trans hF, by rw [ht]; exact hP9, va_K.moved hW.alike hK, hD9⟩, hS.F ht⟩) hS.2.2 dX4_learn_44
    · have hF := ite_f c_13 hF
      refine lv_aload_n hx hb dX4_learn_16 rfl (lv_at hl 0 rfl) ?_
      refine lv_lload_n hx hb dX4_learn_17 rfl (lv_at hl 1 rfl) ?_
      have hq_18_0 : 0 ≤ z_length.toInt := by exact hp0
      have hq_18_1 : z_length.toInt ≤ 801 := by exact hp1
      refine st_calli (wr := []) (va_runV (As := [.long v1]) (rest := []) ⟨hx, hb, hml, hown, hts⟩ (ct_X4_has l dC dI cJ cI cB cZ h0 h_keys x_disk x_body x_tried z_length z_stepsSeen z_keys v1 hq_18_0 hq_18_1 s.heap.size) (cwV 1 hts gX4_learn_X4_has rfl rfl rfl (by decide +kernel) ⟨Nat.le_of_ble_eq_true rfl, Nat.le_of_ble_eq_true rfl⟩) (st_preV (ci := 4) (q0 := 0) hK hP hD hN [0, 1] rfl (by decide) rfl rfl rfl) rfl rfl hl.1 rfl (lv_room (Nat.le_of_ble_eq_true rfl)) dX4_learn_18 ⟨Nat.le_of_ble_eq_true rfl, Nat.le_of_ble_eq_true rfl⟩) hP hD hS hA [0, 1] [] rfl rfl (by decide) (by decide) (fun r18 u H locs hw hP hD hS => ?_)
      have hP : va_P (dC, dI) vwCl [(h0, .inr (4, [.ref x_disk, .ref x_body, .ref h_keys, .int z_length, .ref x_tried, .int z_stepsSeen])), (h_keys, .inl (cJ, 801, .inr (.inl z_keys)))] H := hP
      have hD : va_D A [(h0, .inr (4, [.ref x_disk, .ref x_body, .ref h_keys, .int z_length, .ref x_tried, .int z_stepsSeen])), (h_keys, .inl (cJ, 801, .inr (.inl z_keys)))] := hD
      obtain ⟨hw, hz_r18⟩ := hw
      have hF := bnd1_eq hw hF
      refine lv_if_ne (tgt := 44) hx hb dX4_learn_21 (by decide) (fun c_21 => ?_) (fun c_21 => ?_)
      · have hF := ite_f c_21 hF
        have hP9 := hP.sub (ws' := [(h0, .inr (4, [.ref x_disk, .ref x_body, .ref h_keys, .int z_length, .ref x_tried, .int z_stepsSeen])), (h_keys, .inl (cJ, 801, .inr (.inl z_keys)))]) [0, 1] rfl
        have hD9 := hD.sub (ws' := [(h0, .inr (4, [.ref x_disk, .ref x_body, .ref h_keys, .int z_length, .ref x_tried, .int z_stepsSeen])), (h_keys, .inl (cJ, 801, .inr (.inl z_keys)))]) [0, 1] (by decide) rfl
        subst hAe
        exact W.vret hx hb hr (fun t ht hW => ⟨⟨(z_length, z_keys), rfl, hFR.symm.trans hF, by rw [ht]; exact hP9, va_K.moved hW.alike hK, hD9⟩, hS.F ht⟩) hS.2.2 dX4_learn_44
      · have hF := ite_t c_21 hF
        refine lv_aload_n hx hb dX4_learn_24 rfl (lv_at hl 0 rfl) ?_
        refine va_get (D := (dC, dI)) (ci := 4) (v := .ref h_keys) (C := RX4) (T := TX4) (N := 6) hx hb hts (by decide +kernel) hown hK hP 0 rfl rfl 2 (by decide) (hts (.fieldLink RX4 18 "ShredStore$Reach" "keys" "[J") (by decide +kernel)) (fun _ h9 => h9) rfl dX4_learn_25 ?_
        refine lv_aload_n hx hb dX4_learn_28 rfl (lv_at hl 0 rfl) ?_
        refine va_get (D := (dC, dI)) (ci := 4) (v := .int z_length) (C := RX4) (T := TX4) (N := 6) hx hb hts (by decide +kernel) hown hK hP 0 rfl rfl 3 (by decide) (hts (.fieldLink RX4 22 "ShredStore$Reach" "length" "I") (by decide +kernel)) (fun _ h9 => h9) rfl dX4_learn_29 ?_
        refine lv_lload_n hx hb dX4_learn_32 rfl (lv_at hl 1 rfl) ?_
        have hr_33 : vp_in z_length 801 := by exact q_i3 hp0 c_13 (by decide)
        refine va_last hx hb hK hP hD hS 1 0 rfl rfl hr_33 dX4_learn_33 (fun H locs hP hD hS => ?_)
        have hP : va_P (dC, dI) vwCl [(h0, .inr (4, [.ref x_disk, .ref x_body, .ref h_keys, .int z_length, .ref x_tried, .int z_stepsSeen])), (h_keys, .inl (cJ, 801, .inr (.inl (vp_updL z_keys (z_length : Int32).toNatClampNeg v1))))] H := hP
        have hD : va_D A [(h0, .inr (4, [.ref x_disk, .ref x_body, .ref h_keys, .int z_length, .ref x_tried, .int z_stepsSeen])), (h_keys, .inl (cJ, 801, .inr (.inl (vp_updL z_keys (z_length : Int32).toNatClampNeg v1))))] := hD
        refine lv_aload_n hx hb dX4_learn_34 rfl (lv_at hl 0 rfl) ?_
        refine lv_dup hx hb dX4_learn_35 rfl ?_
        refine va_get (D := (dC, dI)) (ci := 4) (v := .int z_length) (C := RX4) (T := TX4) (N := 6) hx hb hts (by decide +kernel) hown hK hP 0 rfl rfl 3 (by decide) (hts (.fieldLink RX4 22 "ShredStore$Reach" "length" "I") (by decide +kernel)) (fun _ h9 => h9) rfl dX4_learn_36 ?_
        refine lv_iconst (v := 1) hx hb dX4_learn_39 (by decide) ?_
        refine lv_iadd hx hb dX4_learn_40 ?_
        refine va_put (D := (dC, dI)) (ci := 4) (v := .int (z_length + 1)) (ty := .int) (C := RX4) (T := TX4) (N := 6) hx hb hts (by decide +kernel) tyX4 tyX4_ok nmX4 hown hK hP hD hS 0 rfl rfl 3 (by decide) (hts (.fieldLink RX4 22 "ShredStore$Reach" "length" "I") (by decide +kernel)) (fun _ h9 => h9) rfl (by decide +kernel) rfl rfl (Nat.le_of_ble_eq_true rfl) dX4_learn_41 (fun H locs hP hD hS => ?_)
        have hP : va_P (dC, dI) vwCl [(h0, .inr (4, [.ref x_disk, .ref x_body, .ref h_keys, .int (z_length + 1), .ref x_tried, .int z_stepsSeen])), (h_keys, .inl (cJ, 801, .inr (.inl (vp_updL z_keys (z_length : Int32).toNatClampNeg v1))))] H := hP
        have hD : va_D A [(h0, .inr (4, [.ref x_disk, .ref x_body, .ref h_keys, .int (z_length + 1), .ref x_tried, .int z_stepsSeen])), (h_keys, .inl (cJ, 801, .inr (.inl (vp_updL z_keys (z_length : Int32).toNatClampNeg v1))))] := hD
        have hP9 := hP.sub (ws' := [(h0, .inr (4, [.ref x_disk, .ref x_body, .ref h_keys, .int (z_length + 1), .ref x_tried, .int z_stepsSeen])), (h_keys, .inl (cJ, 801, .inr (.inl (vp_updL z_keys (z_length : Int32).toNatClampNeg v1))))]) [0, 1] rfl
        have hD9 := hD.sub (ws' := [(h0, .inr (4, [.ref x_disk, .ref x_body, .ref h_keys, .int (z_length + 1), .ref x_tried, .int z_stepsSeen])), (h_keys, .inl (cJ, 801, .inr (.inl (vp_updL z_keys (z_length : Int32).toNatClampNeg v1))))]) [0, 1] (by decide) rfl
        subst hAe
        exact W.vret hx hb hr (fun t ht hW => ⟨⟨((z_length + 1), (vp_updL z_keys (z_length : Int32).toNatClampNeg v1)), rfl, hFR.symm.trans hF, by rw [ht]; exact hP9, va_K.moved hW.alike hK, hD9⟩, hS.F ht⟩) hS.2.2 dX4_learn_44
set_option maxHeartbeats 4000000 in
set_option maxRecDepth 100000 in
theorem ct_X4_fittingKey (l : Launch) (dC : Nat → ClassId) (dI : Nat → Nat → Nat) (cJ cI cB cZ : ClassId) (h0 h_disk h_disk_words h_keys h_tried x_body : Nat) (z_length : Int32) (z_stepsSeen : Int32) (z_disk_cellKey : Int64) (z_disk_cellPage : Int32) (z_disk_stepsDone : Int32) (z_disk_words : Nat → Int64) (z_keys : Nat → Int64) (z_tried : Nat → Int32) (v1 : Int32) (hp0 : vp_in v1 200) (hp1 : 0 ≤ z_length.toInt) (hp2 : z_length.toInt ≤ 801) (hp3 : ∀ q, q < 200 → 0 ≤ (z_tried q).toInt) (sz : Nat) : Met l yX4_fittingKey wsX4_fittingKey { frames := 2, cells := 0, slots := 0, locals := 51 } (va_Pc [.ref h0, .int v1] (st_B (dC, dI) (ty4 cJ cI cB cZ) [(h0, .inr (4, [.ref h_disk, .ref x_body, .ref h_keys, .int z_length, .ref h_tried, .int z_stepsSeen])), (h_disk, .inr (1, [.ref h_disk_words, .long z_disk_cellKey, .int z_disk_cellPage, .int z_disk_stepsDone])), (h_disk_words, .inl (cJ, 1600, .inr (.inl z_disk_words))), (h_keys, .inl (cJ, 801, .inr (.inl z_keys))), (h_tried, .inl (cI, 200, .inl z_tried))] sz)) (va_Ql (fun (r : Int64) (u : (Nat → Int32)) => fn_X4_fittingKey z_length z_disk_words z_keys z_tried v1 = (r, u)) (fun (u : (Nat → Int32)) t => st_W (dC, dI) (ty4 cJ cI cB cZ) [(h0, .inr (4, [.ref h_disk, .ref x_body, .ref h_keys, .int z_length, .ref h_tried, .int z_stepsSeen])), (h_disk, .inr (1, [.ref h_disk_words, .long z_disk_cellKey, .int z_disk_cellPage, .int z_disk_stepsDone])), (h_disk_words, .inl (cJ, 1600, .inr (.inl z_disk_words))), (h_keys, .inl (cJ, 801, .inr (.inl z_keys))), (h_tried, .inl (cI, 200, .inl z_tried))] sz [(h0, .inr (4, [.ref h_disk, .ref x_body, .ref h_keys, .int z_length, .ref h_tried, .int z_stepsSeen])), (h_disk, .inr (1, [.ref h_disk_words, .long z_disk_cellKey, .int z_disk_cellPage, .int z_disk_stepsDone])), (h_disk_words, .inl (cJ, 1600, .inr (.inl z_disk_words))), (h_keys, .inl (cJ, 801, .inr (.inl z_keys))), (h_tried, .inl (cI, 200, .inl u))] t) (va_A [(h0, .inr (4, [.ref h_disk, .ref x_body, .ref h_keys, .int z_length, .ref h_tried, .int z_stepsSeen])), (h_disk, .inr (1, [.ref h_disk_words, .long z_disk_cellKey, .int z_disk_cellPage, .int z_disk_stepsDone])), (h_disk_words, .inl (cJ, 1600, .inr (.inl z_disk_words))), (h_keys, .inl (cJ, 801, .inr (.inl z_keys))), (h_tried, .inl (cI, 200, .inl z_tried))] sz)) 0 0 (va_A [(h0, .inr (4, [.ref h_disk, .ref x_body, .ref h_keys, .int z_length, .ref h_tried, .int z_stepsSeen])), (h_disk, .inr (1, [.ref h_disk_words, .long z_disk_cellKey, .int z_disk_cellPage, .int z_disk_stepsDone])), (h_disk_words, .inl (cJ, 1600, .inr (.inl z_disk_words))), (h_keys, .inl (cJ, 801, .inr (.inl z_keys))), (h_tried, .inl (cI, 200, .inl z_tried))] sz) := by
  refine Met.ofW (cc := cX4_fittingKey) (maxL := 3) (ret := (some .long)) (by decide) rfl ?_
  intro p e s m args below meth c s₁ B hml hv
  obtain ⟨rfl, hsz, hP, hK, hD0, hN⟩ := hv
  have hx := B.exec
  have hb := B.bytes
  have hr := B.returns
  have hts := atoms_spec (ws := wsX4_fittingKey) B.pre
  have hown : s.vm.findClass RX4 = some m.cls := findClass_of_methodNamed B.named
  have hlocks := B.notSynchronized
  subst hsz
  obtain ⟨A, hAe⟩ : ∃ z, z = va_A [(h0, .inr (4, [.ref h_disk, .ref x_body, .ref h_keys, .int z_length, .ref h_tried, .int z_stepsSeen])), (h_disk, .inr (1, [.ref h_disk_words, .long z_disk_cellKey, .int z_disk_cellPage, .int z_disk_stepsDone])), (h_disk_words, .inl (cJ, 1600, .inr (.inl z_disk_words))), (h_keys, .inl (cJ, 801, .inr (.inl z_keys))), (h_tried, .inl (cI, 200, .inl z_tried))] s.heap.size := ⟨_, rfl⟩
  have hD : va_D A [(h0, .inr (4, [.ref h_disk, .ref x_body, .ref h_keys, .int z_length, .ref h_tried, .int z_stepsSeen])), (h_disk, .inr (1, [.ref h_disk_words, .long z_disk_cellKey, .int z_disk_cellPage, .int z_disk_stepsDone])), (h_disk_words, .inl (cJ, 1600, .inr (.inl z_disk_words))), (h_keys, .inl (cJ, 801, .inr (.inl z_keys))), (h_tried, .inl (cI, 200, .inl z_tried))] := by rw [hAe]; exact hD0.self
  have hA : ∀ q : Nat, s.heap.size ≤ q → A q := fun q h => by rw [hAe]; exact Or.inr h
  have hS : va_S A s.heap s.heap [] := va_S.rf
  have hP : va_P (dC, dI) vwCl [(h0, .inr (4, [.ref h_disk, .ref x_body, .ref h_keys, .int z_length, .ref h_tried, .int z_stepsSeen])), (h_disk, .inr (1, [.ref h_disk_words, .long z_disk_cellKey, .int z_disk_cellPage, .int z_disk_stepsDone])), (h_disk_words, .inl (cJ, 1600, .inr (.inl z_disk_words))), (h_keys, .inl (cJ, 801, .inr (.inl z_keys))), (h_tried, .inl (cI, 200, .inl z_tried))] s.heap := hP
  have hl := lv_entry ([.ref h0, .int v1]) (n := 3) (Nat.le_of_ble_eq_true rfl)
  rw [lg_entry_eq]
  generalize (lg_sl ([.ref h0, .int v1]) ++ List.replicate (3 - (lg_sl ([.ref h0, .int v1])).length) Slot.unset).toArray = ls at hl ⊢
  have hl : lv_has ls 3 [(0, .ref h0), (1, .int v1)] := hl
  obtain ⟨FR, hFR⟩ : ∃ z, z = fn_X4_fittingKey z_length z_disk_words z_keys z_tried v1 := ⟨_, rfl⟩
  have hF := hFR
  unfold fn_X4_fittingKey at hF
  refine lv_aload_n hx hb dX4_fittingKey_0 rfl (lv_at hl 0 rfl) ?_
  refine va_get (D := (dC, dI)) (ci := 4) (v := .ref h_tried) (C := RX4) (T := TX4) (N := 6) hx hb hts (by decide +kernel) hown hK hP 0 rfl rfl 4 (by decide) (hts (.fieldLink RX4 26 "ShredStore$Reach" "tried" "[I") (by decide +kernel)) (fun _ h9 => h9) rfl dX4_fittingKey_1 ?_
  refine lv_iload_n hx hb dX4_fittingKey_4 rfl (lv_at hl 1 rfl) ?_
  have hr_5 : vp_in v1 200 := by exact hp0
  refine va_iald hx hb hK hP 4 1 rfl rfl hr_5 dX4_fittingKey_5 ?_
  refine lv_istore_n (lv' := [(2, .int (z_tried (v1 : Int32).toNatClampNeg)), (0, .ref h0), (1, .int v1)]) hx hb dX4_fittingKey_6 rfl hl (by decide) rfl (fun ls hl => ?_)
  have lp_7 : ∀ (n7 : Nat) (z_tried_L7 : Nat → Int32) (v2_L7 : Int32), (0 ≤ v2_L7.toInt ∧ 802 ≤ v2_L7.toInt + n7 ∧ 0 < n7) → ∀ (H : Heap) (locs : List Loc), va_P (dC, dI) vwCl [(h0, .inr (4, [.ref h_disk, .ref x_body, .ref h_keys, .int z_length, .ref h_tried, .int z_stepsSeen])), (h_disk, .inr (1, [.ref h_disk_words, .long z_disk_cellKey, .int z_disk_cellPage, .int z_disk_stepsDone])), (h_disk_words, .inl (cJ, 1600, .inr (.inl z_disk_words))), (h_keys, .inl (cJ, 801, .inr (.inl z_keys))), (h_tried, .inl (cI, 200, .inl z_tried_L7))] H → va_D A [(h0, .inr (4, [.ref h_disk, .ref x_body, .ref h_keys, .int z_length, .ref h_tried, .int z_stepsSeen])), (h_disk, .inr (1, [.ref h_disk_words, .long z_disk_cellKey, .int z_disk_cellPage, .int z_disk_stepsDone])), (h_disk_words, .inl (cJ, 1600, .inr (.inl z_disk_words))), (h_keys, .inl (cJ, 801, .inr (.inl z_keys))), (h_tried, .inl (cI, 200, .inl z_tried_L7))] → va_S A s.heap H locs → ∀ (ls : Array Slot), lv_has ls 3 [(0, .ref h0), (1, .int v1), (2, .int v2_L7)] → FR = fn_X4_fittingKey_L7 n7 z_length z_disk_words z_keys z_tried_L7 v1 v2_L7 → W p l e (headSpec wsX4_fittingKey { frames := 2, cells := 0, slots := 0, locals := 51 }).room s m ([.ref h0, .int v1] : List Value).toArray below meth c H locs 0 0 (MQ below (va_Ql (fun (r : Int64) (u : (Nat → Int32)) => fn_X4_fittingKey z_length z_disk_words z_keys z_tried v1 = (r, u)) (fun (u : (Nat → Int32)) t => st_W (dC, dI) (ty4 cJ cI cB cZ) [(h0, .inr (4, [.ref h_disk, .ref x_body, .ref h_keys, .int z_length, .ref h_tried, .int z_stepsSeen])), (h_disk, .inr (1, [.ref h_disk_words, .long z_disk_cellKey, .int z_disk_cellPage, .int z_disk_stepsDone])), (h_disk_words, .inl (cJ, 1600, .inr (.inl z_disk_words))), (h_keys, .inl (cJ, 801, .inr (.inl z_keys))), (h_tried, .inl (cI, 200, .inl z_tried))] s.heap.size [(h0, .inr (4, [.ref h_disk, .ref x_body, .ref h_keys, .int z_length, .ref h_tried, .int z_stepsSeen])), (h_disk, .inr (1, [.ref h_disk_words, .long z_disk_cellKey, .int z_disk_cellPage, .int z_disk_stepsDone])), (h_disk_words, .inl (cJ, 1600, .inr (.inl z_disk_words))), (h_keys, .inl (cJ, 801, .inr (.inl z_keys))), (h_tried, .inl (cI, 200, .inl u))] t) (va_A [(h0, .inr (4, [.ref h_disk, .ref x_body, .ref h_keys, .int z_length, .ref h_tried, .int z_stepsSeen])), (h_disk, .inr (1, [.ref h_disk_words, .long z_disk_cellKey, .int z_disk_cellPage, .int z_disk_stepsDone])), (h_disk_words, .inl (cJ, 1600, .inr (.inl z_disk_words))), (h_keys, .inl (cJ, 801, .inr (.inl z_keys))), (h_tried, .inl (cI, 200, .inl z_tried))] s.heap.size)) ([.ref h0, .int v1] : List Value).toArray s 0 0 (va_A [(h0, .inr (4, [.ref h_disk, .ref x_body, .ref h_keys, .int z_length, .ref h_tried, .int z_stepsSeen])), (h_disk, .inr (1, [.ref h_disk_words, .long z_disk_cellKey, .int z_disk_cellPage, .int z_disk_stepsDone])), (h_disk_words, .inl (cJ, 1600, .inr (.inl z_disk_words))), (h_keys, .inl (cJ, 801, .inr (.inl z_keys))), (h_tried, .inl (cI, 200, .inl z_tried))] s.heap.size)) (F0 m 7 ls []) := by
    intro n7
    induction n7 with
    | zero =>
      intro z_tried_L7 v2_L7 hI
      exact absurd hI (by omega)
    | succ n7 ih_7 =>
      intro z_tried_L7 v2_L7 hI H locs hP hD hS ls hl hF
      rw [fn_X4_fittingKey_L7] at hF
      obtain ⟨hv0, hvn, -⟩ := hI
      refine lv_iload_n hx hb dX4_fittingKey_7 rfl (lv_at hl 2 rfl) ?_
      refine lv_aload_n hx hb dX4_fittingKey_8 rfl (lv_at hl 0 rfl) ?_
      refine va_get (D := (dC, dI)) (ci := 4) (v := .int z_length) (C := RX4) (T := TX4) (N := 6) hx hb hts (by decide +kernel) hown hK hP 0 rfl rfl 3 (by decide) (hts (.fieldLink RX4 22 "ShredStore$Reach" "length" "I") (by decide +kernel)) (fun _ h9 => h9) rfl dX4_fittingKey_9 ?_
      refine lv_icmp_ge (tgt := 55) hx hb dX4_fittingKey_12 (by decide) (fun c_12 => ?_) (fun c_12 => ?_)
      · have hF := ite_t c_12 hF
        refine lv_aload_n hx hb dX4_fittingKey_55 rfl (lv_at hl 0 rfl) ?_
        refine va_get (D := (dC, dI)) (ci := 4) (v := .ref h_tried) (C := RX4) (T := TX4) (N := 6) hx hb hts (by decide +kernel) hown hK hP 0 rfl rfl 4 (by decide) (hts (.fieldLink RX4 26 "ShredStore$Reach" "tried" "[I") (by decide +kernel)) (fun _ h9 => h9) rfl dX4_fittingKey_56 ?_
        refine lv_iload_n hx hb dX4_fittingKey_59 rfl (lv_at hl 1 rfl) ?_
        refine lv_aload_n hx hb dX4_fittingKey_60 rfl (lv_at hl 0 rfl) ?_
        refine va_get (D := (dC, dI)) (ci := 4) (v := .ref h_tried) (C := RX4) (T := TX4) (N := 6) hx hb hts (by decide +kernel) hown hK hP 0 rfl rfl 4 (by decide) (hts (.fieldLink RX4 26 "ShredStore$Reach" "tried" "[I") (by decide +kernel)) (fun _ h9 => h9) rfl dX4_fittingKey_61 ?_
        refine lv_iload_n hx hb dX4_fittingKey_64 rfl (lv_at hl 1 rfl) ?_
        have hr_65 : vp_in v1 200 := by exact hp0
        refine va_iald hx hb hK hP 4 1 rfl rfl hr_65 dX4_fittingKey_65 ?_
        refine lv_aload_n hx hb dX4_fittingKey_66 rfl (lv_at hl 0 rfl) ?_
        refine va_get (D := (dC, dI)) (ci := 4) (v := .int z_length) (C := RX4) (T := TX4) (N := 6) hx hb hts (by decide +kernel) hown hK hP 0 rfl rfl 3 (by decide) (hts (.fieldLink RX4 22 "ShredStore$Reach" "length" "I") (by decide +kernel)) (fun _ h9 => h9) rfl dX4_fittingKey_67 ?_
        refine va_mmax hx hb (by rw [hml]; exact hl.1.symm) hown (hts (.methodLink RX4 67 Lib.Math.max.name) (by decide +kernel)) (hts (.static Lib.Math.max.name) (by decide +kernel)) (hts (.initialized "java/lang/Math") (by decide +kernel)) (hts (.code Lib.Math.max.name Lib.Math.max.code 2 (some .int)) (by decide +kernel)) (Nat.le_of_ble_eq_true rfl) (Nat.le_of_ble_eq_true rfl) (Nat.le_of_ble_eq_true rfl) (Nat.le_of_ble_eq_true rfl) dX4_fittingKey_70 ?_
        have hr_73 : vp_in v1 200 := by exact hp0
        refine va_iast hx hb hK hP hD hS 4 1 rfl rfl hr_73 dX4_fittingKey_73 (fun H locs hP hD hS => ?_)
        have hP : va_P (dC, dI) vwCl [(h0, .inr (4, [.ref h_disk, .ref x_body, .ref h_keys, .int z_length, .ref h_tried, .int z_stepsSeen])), (h_disk, .inr (1, [.ref h_disk_words, .long z_disk_cellKey, .int z_disk_cellPage, .int z_disk_stepsDone])), (h_disk_words, .inl (cJ, 1600, .inr (.inl z_disk_words))), (h_keys, .inl (cJ, 801, .inr (.inl z_keys))), (h_tried, .inl (cI, 200, .inl (upd z_tried_L7 (v1 : Int32).toNatClampNeg (if (z_tried_L7 (v1 : Int32).toNatClampNeg) < z_length then z_length else (z_tried_L7 (v1 : Int32).toNatClampNeg)))))] H := hP
        have hD : va_D A [(h0, .inr (4, [.ref h_disk, .ref x_body, .ref h_keys, .int z_length, .ref h_tried, .int z_stepsSeen])), (h_disk, .inr (1, [.ref h_disk_words, .long z_disk_cellKey, .int z_disk_cellPage, .int z_disk_stepsDone])), (h_disk_words, .inl (cJ, 1600, .inr (.inl z_disk_words))), (h_keys, .inl (cJ, 801, .inr (.inl z_keys))), (h_tried, .inl (cI, 200, .inl (upd z_tried_L7 (v1 : Int32).toNatClampNeg (if (z_tried_L7 (v1 : Int32).toNatClampNeg) < z_length then z_length else (z_tried_L7 (v1 : Int32).toNatClampNeg)))))] := hD
        refine lv_lconst (v := 0) hx hb dX4_fittingKey_74 (by decide) ?_
        have hP9 := hP.sub (ws' := [(h0, .inr (4, [.ref h_disk, .ref x_body, .ref h_keys, .int z_length, .ref h_tried, .int z_stepsSeen])), (h_disk, .inr (1, [.ref h_disk_words, .long z_disk_cellKey, .int z_disk_cellPage, .int z_disk_stepsDone])), (h_disk_words, .inl (cJ, 1600, .inr (.inl z_disk_words))), (h_keys, .inl (cJ, 801, .inr (.inl z_keys))), (h_tried, .inl (cI, 200, .inl (upd z_tried_L7 (v1 : Int32).toNatClampNeg (if (z_tried_L7 (v1 : Int32).toNatClampNeg) < z_length then z_length else (z_tried_L7 (v1 : Int32).toNatClampNeg)))))]) [0, 1, 2, 3, 4] rfl
        have hD9 := hD.sub (ws' := [(h0, .inr (4, [.ref h_disk, .ref x_body, .ref h_keys, .int z_length, .ref h_tried, .int z_stepsSeen])), (h_disk, .inr (1, [.ref h_disk_words, .long z_disk_cellKey, .int z_disk_cellPage, .int z_disk_stepsDone])), (h_disk_words, .inl (cJ, 1600, .inr (.inl z_disk_words))), (h_keys, .inl (cJ, 801, .inr (.inl z_keys))), (h_tried, .inl (cI, 200, .inl (upd z_tried_L7 (v1 : Int32).toNatClampNeg (if (z_tried_L7 (v1 : Int32).toNatClampNeg) < z_length then z_length else (z_tried_L7 (v1 : Int32).toNatClampNeg)))))]) [0, 1, 2, 3, 4] (by decide) rfl
        subst hAe
        exact W.lret (v := 0) hx hb hr (fun t ht hW => ⟨⟨0, ((upd z_tried_L7 (v1 : Int32).toNatClampNeg (if (z_tried_L7 (v1 : Int32).toNatClampNeg) < z_length then z_length else (z_tried_L7 (v1 : Int32).toNatClampNeg)))), rfl, hFR.symm.trans hF, by rw [ht]; exact hP9, va_K.moved hW.alike hK, hD9⟩, hS.F ht⟩) hS.2.2 dX4_fittingKey_75
      · have hF := ite_f c_12 hF
        have q12 := q_nle c_12
        refine lv_aload_n hx hb dX4_fittingKey_15 rfl (lv_at hl 0 rfl) ?_
        refine va_get (D := (dC, dI)) (ci := 4) (v := .ref h_disk) (C := RX4) (T := TX4) (N := 6) hx hb hts (by decide +kernel) hown hK hP 0 rfl rfl 0 (by decide) (hts (.fieldLink RX4 33 "ShredStore$Reach" "disk" "LShredStore$Disk;") (by decide +kernel)) (fun _ h9 => h9) rfl dX4_fittingKey_16 ?_
        refine lv_aload_n hx hb dX4_fittingKey_19 rfl (lv_at hl 0 rfl) ?_
        refine va_get (D := (dC, dI)) (ci := 4) (v := .ref h_keys) (C := RX4) (T := TX4) (N := 6) hx hb hts (by decide +kernel) hown hK hP 0 rfl rfl 2 (by decide) (hts (.fieldLink RX4 18 "ShredStore$Reach" "keys" "[J") (by decide +kernel)) (fun _ h9 => h9) rfl dX4_fittingKey_20 ?_
        refine lv_iload_n hx hb dX4_fittingKey_23 rfl (lv_at hl 2 rfl) ?_
        have hr_24 : vp_in v2_L7 801 := by exact q_in hv0 (by omega)
        refine va_lald hx hb hK hP 3 0 rfl rfl hr_24 dX4_fittingKey_24 ?_
        refine lv_iload_n hx hb dX4_fittingKey_25 rfl (lv_at hl 1 rfl) ?_
        refine lv_iconst (v := 1) hx hb dX4_fittingKey_26 (by decide) ?_
        refine st_calli (wr := [(h0, .inr (4, [.ref h_disk, .ref x_body, .ref h_keys, .int z_length, .ref h_tried, .int z_stepsSeen])), (h_keys, .inl (cJ, 801, .inr (.inl z_keys))), (h_tried, .inl (cI, 200, .inl z_tried_L7))]) (va_runV (As := [.long (z_keys (v2_L7 : Int32).toNatClampNeg), .int v1, .int 1]) (rest := []) ⟨hx, hb, hml, hown, hts⟩ (ct_X1_fits l dC dI cJ cI cB cZ h_disk h_disk_words z_disk_cellKey z_disk_cellPage z_disk_stepsDone z_disk_words (z_keys (v2_L7 : Int32).toNatClampNeg) v1 1 H.size) (cwV 3 hts gX4_fittingKey_X1_fits rfl rfl rfl (by decide +kernel) ⟨Nat.le_of_ble_eq_true rfl, Nat.le_of_ble_eq_true rfl⟩) (st_preV (ci := 1) (q0 := 1) hK hP hD hN [1, 2] rfl (by decide) rfl rfl rfl) rfl rfl hl.1 rfl (lv_room (Nat.le_of_ble_eq_true rfl)) dX4_fittingKey_27 ⟨Nat.le_of_ble_eq_true rfl, Nat.le_of_ble_eq_true rfl⟩) hP hD hS hA [1, 2] [0, 3, 4] rfl rfl (by decide) (by decide) (fun r27 u H locs hw hP hD hS => ?_)
        have hP : va_P (dC, dI) vwCl [(h0, .inr (4, [.ref h_disk, .ref x_body, .ref h_keys, .int z_length, .ref h_tried, .int z_stepsSeen])), (h_keys, .inl (cJ, 801, .inr (.inl z_keys))), (h_tried, .inl (cI, 200, .inl z_tried_L7)), (h_disk, .inr (1, [.ref h_disk_words, .long z_disk_cellKey, .int z_disk_cellPage, .int z_disk_stepsDone])), (h_disk_words, .inl (cJ, 1600, .inr (.inl z_disk_words)))] H := hP
        have hD : va_D A [(h0, .inr (4, [.ref h_disk, .ref x_body, .ref h_keys, .int z_length, .ref h_tried, .int z_stepsSeen])), (h_keys, .inl (cJ, 801, .inr (.inl z_keys))), (h_tried, .inl (cI, 200, .inl z_tried_L7)), (h_disk, .inr (1, [.ref h_disk_words, .long z_disk_cellKey, .int z_disk_cellPage, .int z_disk_stepsDone])), (h_disk_words, .inl (cJ, 1600, .inr (.inl z_disk_words)))] := hD
        obtain ⟨hw, hz_r27⟩ := hw
        have hF := bnd1_eq hw hF
        refine lv_if_eq (tgt := 49) hx hb dX4_fittingKey_30 (by decide) (fun c_30 => ?_) (fun c_30 => ?_)
        · have hF := ite_t c_30 hF
          refine lv_iinc (v := (v2_L7 + 1)) (lv' := [(2, .int (v2_L7 + 1)), (0, .ref h0), (1, .int v1)]) hx hb dX4_fittingKey_49 hl (k := 2) rfl rfl (by decide) rfl (fun ls hl => ?_)
          refine lv_goto (tgt := 7) hx hb dX4_fittingKey_52 (by decide) ?_
          exact ih_7 z_tried_L7 (v2_L7 + 1) (by exact q_fk hv0 (by omega) hvn (by omega)) _ _ (hP.sub [0, 3, 4, 1, 2] rfl) (hD.sub [0, 3, 4, 1, 2] (by decide) rfl) hS _ (lv_sub hl [1, 2, 0] rfl) hF
        · have hF := ite_f c_30 hF
          refine lv_aload_n hx hb dX4_fittingKey_33 rfl (lv_at hl 0 rfl) ?_
          refine va_get (D := (dC, dI)) (ci := 4) (v := .ref h_tried) (C := RX4) (T := TX4) (N := 6) hx hb hts (by decide +kernel) hown hK hP 0 rfl rfl 4 (by decide) (hts (.fieldLink RX4 26 "ShredStore$Reach" "tried" "[I") (by decide +kernel)) (fun _ h9 => h9) rfl dX4_fittingKey_34 ?_
          refine lv_iload_n hx hb dX4_fittingKey_37 rfl (lv_at hl 1 rfl) ?_
          refine lv_sipush (v := 801) hx hb dX4_fittingKey_38 (by decide) ?_
          have hr_41 : vp_in v1 200 := by exact hp0
          refine va_iast hx hb hK hP hD hS 2 1 rfl rfl hr_41 dX4_fittingKey_41 (fun H locs hP hD hS => ?_)
          have hP : va_P (dC, dI) vwCl [(h0, .inr (4, [.ref h_disk, .ref x_body, .ref h_keys, .int z_length, .ref h_tried, .int z_stepsSeen])), (h_keys, .inl (cJ, 801, .inr (.inl z_keys))), (h_tried, .inl (cI, 200, .inl (upd z_tried_L7 (v1 : Int32).toNatClampNeg 801))), (h_disk, .inr (1, [.ref h_disk_words, .long z_disk_cellKey, .int z_disk_cellPage, .int z_disk_stepsDone])), (h_disk_words, .inl (cJ, 1600, .inr (.inl z_disk_words)))] H := hP
          have hD : va_D A [(h0, .inr (4, [.ref h_disk, .ref x_body, .ref h_keys, .int z_length, .ref h_tried, .int z_stepsSeen])), (h_keys, .inl (cJ, 801, .inr (.inl z_keys))), (h_tried, .inl (cI, 200, .inl (upd z_tried_L7 (v1 : Int32).toNatClampNeg 801))), (h_disk, .inr (1, [.ref h_disk_words, .long z_disk_cellKey, .int z_disk_cellPage, .int z_disk_stepsDone])), (h_disk_words, .inl (cJ, 1600, .inr (.inl z_disk_words)))] := hD
          refine lv_aload_n hx hb dX4_fittingKey_42 rfl (lv_at hl 0 rfl) ?_
          refine va_get (D := (dC, dI)) (ci := 4) (v := .ref h_keys) (C := RX4) (T := TX4) (N := 6) hx hb hts (by decide +kernel) hown hK hP 0 rfl rfl 2 (by decide) (hts (.fieldLink RX4 18 "ShredStore$Reach" "keys" "[J") (by decide +kernel)) (fun _ h9 => h9) rfl dX4_fittingKey_43 ?_
          refine lv_iload_n hx hb dX4_fittingKey_46 rfl (lv_at hl 2 rfl) ?_
          have hr_47 : vp_in v2_L7 801 := by exact q_in hv0 (by omega)
          refine va_lald hx hb hK hP 1 0 rfl rfl hr_47 dX4_fittingKey_47 ?_
          have hP9 := hP.sub (ws' := [(h0, .inr (4, [.ref h_disk, .ref x_body, .ref h_keys, .int z_length, .ref h_tried, .int z_stepsSeen])), (h_disk, .inr (1, [.ref h_disk_words, .long z_disk_cellKey, .int z_disk_cellPage, .int z_disk_stepsDone])), (h_disk_words, .inl (cJ, 1600, .inr (.inl z_disk_words))), (h_keys, .inl (cJ, 801, .inr (.inl z_keys))), (h_tried, .inl (cI, 200, .inl (upd z_tried_L7 (v1 : Int32).toNatClampNeg 801)))]) [0, 3, 4, 1, 2] rfl
          have hD9 := hD.sub (ws' := [(h0, .inr (4, [.ref h_disk, .ref x_body, .ref h_keys, .int z_length, .ref h_tried, .int z_stepsSeen])), (h_disk, .inr (1, [.ref h_disk_words, .long z_disk_cellKey, .int z_disk_cellPage, .int z_disk_stepsDone])), (h_disk_words, .inl (cJ, 1600, .inr (.inl z_disk_words))), (h_keys, .inl (cJ, 801, .inr (.inl z_keys))), (h_tried, .inl (cI, 200, .inl (upd z_tried_L7 (v1 : Int32).toNatClampNeg 801)))]) [0, 3, 4, 1, 2] (by decide) rfl
          subst hAe
          exact W.lret (v := (z_keys (v2_L7 : Int32).toNatClampNeg)) hx hb hr (fun t ht hW => ⟨⟨(z_keys (v2_L7 : Int32).toNatClampNeg), ((upd z_tried_L7 (v1 : Int32).toNatClampNeg 801)), rfl, hFR.symm.trans hF, by rw [ht]; exact hP9, va_K.moved hW.alike hK, hD9⟩, hS.F ht⟩) hS.2.2 dX4_fittingKey_48
  exact lp_7 802 z_tried (z_tried (v1 : Int32).toNatClampNeg) (by exact ⟨hp3 _ (q_cl hp0), by have := hp3 _ (q_cl hp0); omega, by omega⟩) _ _ hP hD hS _ (lv_sub hl [1, 2, 0] rfl) hF
set_option maxHeartbeats 4000000 in
set_option maxRecDepth 100000 in
theorem ct_X4_learnEntries (l : Launch) (dC : Nat → ClassId) (dI : Nat → Nat → Nat) (cJ cI cB cZ : ClassId) (h0 h_body h_body_words h_disk h_disk_words h_keys x_tried : Nat) (z_length : Int32) (z_stepsSeen : Int32) (z_body_words : Nat → Int64) (z_disk_cellKey : Int64) (z_disk_cellPage : Int32) (z_disk_stepsDone : Int32) (z_disk_words : Nat → Int64) (z_keys : Nat → Int64) (v1 : Int64) (v3 : Int32) (hp0 : 0 ≤ z_length.toInt) (hp1 : z_length.toInt ≤ 801) (sz : Nat) : Met l yX4_learnEntries wsX4_learnEntries { frames := 2, cells := 0, slots := 0, locals := 54 } (va_Pc [.ref h0, .long v1, .int v3] (st_B (dC, dI) (ty4 cJ cI cB cZ) [(h0, .inr (4, [.ref h_disk, .ref h_body, .ref h_keys, .int z_length, .ref x_tried, .int z_stepsSeen])), (h_body, .inr (0, [.ref h_body_words])), (h_body_words, .inl (cJ, 7, .inr (.inl z_body_words))), (h_disk, .inr (1, [.ref h_disk_words, .long z_disk_cellKey, .int z_disk_cellPage, .int z_disk_stepsDone])), (h_disk_words, .inl (cJ, 1600, .inr (.inl z_disk_words))), (h_keys, .inl (cJ, 801, .inr (.inl z_keys)))] sz)) (va_Qv (fun (u : Int32 × (Nat → Int64) × (Nat → Int64)) => fn_X4_learnEntries z_length z_body_words z_disk_words z_keys v1 v3 = (u.1, u.2.1, u.2.2)) (fun (u : Int32 × (Nat → Int64) × (Nat → Int64)) t => st_W (dC, dI) (ty4 cJ cI cB cZ) [(h0, .inr (4, [.ref h_disk, .ref h_body, .ref h_keys, .int z_length, .ref x_tried, .int z_stepsSeen])), (h_body, .inr (0, [.ref h_body_words])), (h_body_words, .inl (cJ, 7, .inr (.inl z_body_words))), (h_disk, .inr (1, [.ref h_disk_words, .long z_disk_cellKey, .int z_disk_cellPage, .int z_disk_stepsDone])), (h_disk_words, .inl (cJ, 1600, .inr (.inl z_disk_words))), (h_keys, .inl (cJ, 801, .inr (.inl z_keys)))] sz [(h0, .inr (4, [.ref h_disk, .ref h_body, .ref h_keys, .int u.1, .ref x_tried, .int z_stepsSeen])), (h_body, .inr (0, [.ref h_body_words])), (h_body_words, .inl (cJ, 7, .inr (.inl u.2.1))), (h_disk, .inr (1, [.ref h_disk_words, .long z_disk_cellKey, .int z_disk_cellPage, .int z_disk_stepsDone])), (h_disk_words, .inl (cJ, 1600, .inr (.inl z_disk_words))), (h_keys, .inl (cJ, 801, .inr (.inl u.2.2)))] t) (va_A [(h0, .inr (4, [.ref h_disk, .ref h_body, .ref h_keys, .int z_length, .ref x_tried, .int z_stepsSeen])), (h_body, .inr (0, [.ref h_body_words])), (h_body_words, .inl (cJ, 7, .inr (.inl z_body_words))), (h_disk, .inr (1, [.ref h_disk_words, .long z_disk_cellKey, .int z_disk_cellPage, .int z_disk_stepsDone])), (h_disk_words, .inl (cJ, 1600, .inr (.inl z_disk_words))), (h_keys, .inl (cJ, 801, .inr (.inl z_keys)))] sz)) 0 0 (va_A [(h0, .inr (4, [.ref h_disk, .ref h_body, .ref h_keys, .int z_length, .ref x_tried, .int z_stepsSeen])), (h_body, .inr (0, [.ref h_body_words])), (h_body_words, .inl (cJ, 7, .inr (.inl z_body_words))), (h_disk, .inr (1, [.ref h_disk_words, .long z_disk_cellKey, .int z_disk_cellPage, .int z_disk_stepsDone])), (h_disk_words, .inl (cJ, 1600, .inr (.inl z_disk_words))), (h_keys, .inl (cJ, 801, .inr (.inl z_keys)))] sz) := by
  refine Met.ofW (cc := cX4_learnEntries) (maxL := 5) (ret := none) (by decide) rfl ?_
  intro p e s m args below meth c s₁ B hml hv
  obtain ⟨rfl, hsz, hP, hK, hD0, hN⟩ := hv
  have hx := B.exec
  have hb := B.bytes
  have hr := B.returns
  have hts := atoms_spec (ws := wsX4_learnEntries) B.pre
  have hown : s.vm.findClass RX4 = some m.cls := findClass_of_methodNamed B.named
  have hlocks := B.notSynchronized
  subst hsz
  obtain ⟨A, hAe⟩ : ∃ z, z = va_A [(h0, .inr (4, [.ref h_disk, .ref h_body, .ref h_keys, .int z_length, .ref x_tried, .int z_stepsSeen])), (h_body, .inr (0, [.ref h_body_words])), (h_body_words, .inl (cJ, 7, .inr (.inl z_body_words))), (h_disk, .inr (1, [.ref h_disk_words, .long z_disk_cellKey, .int z_disk_cellPage, .int z_disk_stepsDone])), (h_disk_words, .inl (cJ, 1600, .inr (.inl z_disk_words))), (h_keys, .inl (cJ, 801, .inr (.inl z_keys)))] s.heap.size := ⟨_, rfl⟩
  have hD : va_D A [(h0, .inr (4, [.ref h_disk, .ref h_body, .ref h_keys, .int z_length, .ref x_tried, .int z_stepsSeen])), (h_body, .inr (0, [.ref h_body_words])), (h_body_words, .inl (cJ, 7, .inr (.inl z_body_words))), (h_disk, .inr (1, [.ref h_disk_words, .long z_disk_cellKey, .int z_disk_cellPage, .int z_disk_stepsDone])), (h_disk_words, .inl (cJ, 1600, .inr (.inl z_disk_words))), (h_keys, .inl (cJ, 801, .inr (.inl z_keys)))] := by rw [hAe]; exact hD0.self
  have hA : ∀ q : Nat, s.heap.size ≤ q → A q := fun q h => by rw [hAe]; exact Or.inr h
  have hS : va_S A s.heap s.heap [] := va_S.rf
  have hP : va_P (dC, dI) vwCl [(h0, .inr (4, [.ref h_disk, .ref h_body, .ref h_keys, .int z_length, .ref x_tried, .int z_stepsSeen])), (h_body, .inr (0, [.ref h_body_words])), (h_body_words, .inl (cJ, 7, .inr (.inl z_body_words))), (h_disk, .inr (1, [.ref h_disk_words, .long z_disk_cellKey, .int z_disk_cellPage, .int z_disk_stepsDone])), (h_disk_words, .inl (cJ, 1600, .inr (.inl z_disk_words))), (h_keys, .inl (cJ, 801, .inr (.inl z_keys)))] s.heap := hP
  have hl := lv_entry ([.ref h0, .long v1, .int v3]) (n := 5) (Nat.le_of_ble_eq_true rfl)
  rw [lg_entry_eq]
  generalize (lg_sl ([.ref h0, .long v1, .int v3]) ++ List.replicate (5 - (lg_sl ([.ref h0, .long v1, .int v3])).length) Slot.unset).toArray = ls at hl ⊢
  have hl : lv_has ls 5 [(0, .ref h0), (1, .long v1), (3, .int v3)] := hl
  obtain ⟨FR, hFR⟩ : ∃ z, z = fn_X4_learnEntries z_length z_body_words z_disk_words z_keys v1 v3 := ⟨_, rfl⟩
  have hF := hFR
  unfold fn_X4_learnEntries at hF
  refine lv_aload_n hx hb dX4_learnEntries_0 rfl (lv_at hl 0 rfl) ?_
  refine va_get (D := (dC, dI)) (ci := 4) (v := .ref h_disk) (C := RX4) (T := TX4) (N := 6) hx hb hts (by decide +kernel) hown hK hP 0 rfl rfl 0 (by decide) (hts (.fieldLink RX4 33 "ShredStore$Reach" "disk" "LShredStore$Disk;") (by decide +kernel)) (fun _ h9 => h9) rfl dX4_learnEntries_1 ?_
  refine lv_lload_n hx hb dX4_learnEntries_4 rfl (lv_at hl 1 rfl) ?_
  refine lv_iload_n hx hb dX4_learnEntries_5 rfl (lv_at hl 2 rfl) ?_
  refine lv_aload_n hx hb dX4_learnEntries_6 rfl (lv_at hl 0 rfl) ?_
  refine va_get (D := (dC, dI)) (ci := 4) (v := .ref h_body) (C := RX4) (T := TX4) (N := 6) hx hb hts (by decide +kernel) hown hK hP 0 rfl rfl 1 (by decide) (hts (.fieldLink RX4 12 "ShredStore$Reach" "body" "LShredStore$Body;") (by decide +kernel)) (fun _ h9 => h9) rfl dX4_learnEntries_7 ?_
  refine st_callv (wr := [(h0, .inr (4, [.ref h_disk, .ref h_body, .ref h_keys, .int z_length, .ref x_tried, .int z_stepsSeen])), (h_keys, .inl (cJ, 801, .inr (.inl z_keys)))]) (va_runV (As := [.long v1, .int v3, .ref h_body]) (rest := []) ⟨hx, hb, hml, hown, hts⟩ (ct_X1_readBody l dC dI cJ cI cB cZ h_disk h_disk_words h_body h_body_words z_disk_cellKey z_disk_cellPage z_disk_stepsDone z_disk_words z_body_words v1 v3 s.heap.size) (cwV 3 hts gX4_learnEntries_X1_readBody rfl rfl rfl (by decide +kernel) ⟨Nat.le_of_ble_eq_true rfl, Nat.le_of_ble_eq_true rfl⟩) (st_preV (ci := 1) (q0 := 3) hK hP hD hN [3, 4, 1, 2] rfl (by decide) rfl rfl rfl) rfl rfl hl.1 rfl (lv_room (Nat.le_of_ble_eq_true rfl)) dX4_learnEntries_10 ⟨Nat.le_of_ble_eq_true rfl, Nat.le_of_ble_eq_true rfl⟩) hP hD hS hA [3, 4, 1, 2] [0, 5] rfl rfl (by decide) (by decide) (fun u H locs hw hP hD hS => ?_)
  obtain ⟨y10_0, hu9⟩ : ∃ z, z = u := ⟨_, rfl⟩
  subst hu9
  have hP : va_P (dC, dI) vwCl [(h0, .inr (4, [.ref h_disk, .ref h_body, .ref h_keys, .int z_length, .ref x_tried, .int z_stepsSeen])), (h_keys, .inl (cJ, 801, .inr (.inl z_keys))), (h_disk, .inr (1, [.ref h_disk_words, .long z_disk_cellKey, .int z_disk_cellPage, .int z_disk_stepsDone])), (h_disk_words, .inl (cJ, 1600, .inr (.inl z_disk_words))), (h_body, .inr (0, [.ref h_body_words])), (h_body_words, .inl (cJ, 7, .inr (.inl y10_0)))] H := hP
  have hD : va_D A [(h0, .inr (4, [.ref h_disk, .ref h_body, .ref h_keys, .int z_length, .ref x_tried, .int z_stepsSeen])), (h_keys, .inl (cJ, 801, .inr (.inl z_keys))), (h_disk, .inr (1, [.ref h_disk_words, .long z_disk_cellKey, .int z_disk_cellPage, .int z_disk_stepsDone])), (h_disk_words, .inl (cJ, 1600, .inr (.inl z_disk_words))), (h_body, .inr (0, [.ref h_body_words])), (h_body_words, .inl (cJ, 7, .inr (.inl y10_0)))] := hD
  have hF := bnd1_eq hw hF
  refine lv_iconst (v := 0) hx hb dX4_learnEntries_13 (by decide) ?_
  refine lv_istore (lv' := [(4, .int 0), (0, .ref h0), (1, .long v1), (3, .int v3)]) hx hb dX4_learnEntries_14 hl (by decide) rfl (fun ls hl => ?_)
  have lp_16 : ∀ (n16 : Nat) (z_length_L16 : Int32) (z_keys_L16 : Nat → Int64) (v4_L16 : Int32), (∃ j16 : Nat, v4_L16 = nI j16 ∧ j16 ≤ 4 ∧ 4 < j16 + n16 ∧ 0 ≤ z_length_L16.toInt ∧ z_length_L16.toInt ≤ 801) → ∀ (H : Heap) (locs : List Loc), va_P (dC, dI) vwCl [(h0, .inr (4, [.ref h_disk, .ref h_body, .ref h_keys, .int z_length_L16, .ref x_tried, .int z_stepsSeen])), (h_keys, .inl (cJ, 801, .inr (.inl z_keys_L16))), (h_disk, .inr (1, [.ref h_disk_words, .long z_disk_cellKey, .int z_disk_cellPage, .int z_disk_stepsDone])), (h_disk_words, .inl (cJ, 1600, .inr (.inl z_disk_words))), (h_body, .inr (0, [.ref h_body_words])), (h_body_words, .inl (cJ, 7, .inr (.inl y10_0)))] H → va_D A [(h0, .inr (4, [.ref h_disk, .ref h_body, .ref h_keys, .int z_length_L16, .ref x_tried, .int z_stepsSeen])), (h_keys, .inl (cJ, 801, .inr (.inl z_keys_L16))), (h_disk, .inr (1, [.ref h_disk_words, .long z_disk_cellKey, .int z_disk_cellPage, .int z_disk_stepsDone])), (h_disk_words, .inl (cJ, 1600, .inr (.inl z_disk_words))), (h_body, .inr (0, [.ref h_body_words])), (h_body_words, .inl (cJ, 7, .inr (.inl y10_0)))] → va_S A s.heap H locs → ∀ (ls : Array Slot), lv_has ls 5 [(0, .ref h0), (4, .int v4_L16)] → FR = fn_X4_learnEntries_L16 n16 z_length_L16 y10_0 z_disk_words z_keys_L16 v4_L16 → W p l e (headSpec wsX4_learnEntries { frames := 2, cells := 0, slots := 0, locals := 54 }).room s m ([.ref h0, .long v1, .int v3] : List Value).toArray below meth c H locs 0 0 (MQ below (va_Qv (fun (u : Int32 × (Nat → Int64) × (Nat → Int64)) => fn_X4_learnEntries z_length z_body_words z_disk_words z_keys v1 v3 = (u.1, u.2.1, u.2.2)) (fun (u : Int32 × (Nat → Int64) × (Nat → Int64)) t => st_W (dC, dI) (ty4 cJ cI cB cZ) [(h0, .inr (4, [.ref h_disk, .ref h_body, .ref h_keys, .int z_length, .ref x_tried, .int z_stepsSeen])), (h_body, .inr (0, [.ref h_body_words])), (h_body_words, .inl (cJ, 7, .inr (.inl z_body_words))), (h_disk, .inr (1, [.ref h_disk_words, .long z_disk_cellKey, .int z_disk_cellPage, .int z_disk_stepsDone])), (h_disk_words, .inl (cJ, 1600, .inr (.inl z_disk_words))), (h_keys, .inl (cJ, 801, .inr (.inl z_keys)))] s.heap.size [(h0, .inr (4, [.ref h_disk, .ref h_body, .ref h_keys, .int u.1, .ref x_tried, .int z_stepsSeen])), (h_body, .inr (0, [.ref h_body_words])), (h_body_words, .inl (cJ, 7, .inr (.inl u.2.1))), (h_disk, .inr (1, [.ref h_disk_words, .long z_disk_cellKey, .int z_disk_cellPage, .int z_disk_stepsDone])), (h_disk_words, .inl (cJ, 1600, .inr (.inl z_disk_words))), (h_keys, .inl (cJ, 801, .inr (.inl u.2.2)))] t) (va_A [(h0, .inr (4, [.ref h_disk, .ref h_body, .ref h_keys, .int z_length, .ref x_tried, .int z_stepsSeen])), (h_body, .inr (0, [.ref h_body_words])), (h_body_words, .inl (cJ, 7, .inr (.inl z_body_words))), (h_disk, .inr (1, [.ref h_disk_words, .long z_disk_cellKey, .int z_disk_cellPage, .int z_disk_stepsDone])), (h_disk_words, .inl (cJ, 1600, .inr (.inl z_disk_words))), (h_keys, .inl (cJ, 801, .inr (.inl z_keys)))] s.heap.size)) ([.ref h0, .long v1, .int v3] : List Value).toArray s 0 0 (va_A [(h0, .inr (4, [.ref h_disk, .ref h_body, .ref h_keys, .int z_length, .ref x_tried, .int z_stepsSeen])), (h_body, .inr (0, [.ref h_body_words])), (h_body_words, .inl (cJ, 7, .inr (.inl z_body_words))), (h_disk, .inr (1, [.ref h_disk_words, .long z_disk_cellKey, .int z_disk_cellPage, .int z_disk_stepsDone])), (h_disk_words, .inl (cJ, 1600, .inr (.inl z_disk_words))), (h_keys, .inl (cJ, 801, .inr (.inl z_keys)))] s.heap.size)) (F0 m 16 ls []) := by
    intro n16
    induction n16 with
    | zero =>
      intro z_length_L16 z_keys_L16 v4_L16 hI
      exact absurd hI (by rintro ⟨j, -, h1, h2, -⟩; omega)
    | succ n16 ih_16 =>
      intro z_length_L16 z_keys_L16 v4_L16 hI H locs hP hD hS ls hl hF
      rw [fn_X4_learnEntries_L16] at hF
      obtain ⟨j16, ev16, hj16, hn16, hl0, hl1⟩ := hI
      refine lv_iload hx hb dX4_learnEntries_16 (lv_at hl 1 rfl) ?_
      refine lv_iconst (v := 4) hx hb dX4_learnEntries_18 (by decide) ?_
      refine lv_icmp_ge (tgt := 41) hx hb dX4_learnEntries_19 (by decide) (fun c_19 => ?_) (fun c_19 => ?_)
      · have hF := ite_t c_19 hF
        have hP9 := hP.sub (ws' := [(h0, .inr (4, [.ref h_disk, .ref h_body, .ref h_keys, .int z_length_L16, .ref x_tried, .int z_stepsSeen])), (h_body, .inr (0, [.ref h_body_words])), (h_body_words, .inl (cJ, 7, .inr (.inl y10_0))), (h_disk, .inr (1, [.ref h_disk_words, .long z_disk_cellKey, .int z_disk_cellPage, .int z_disk_stepsDone])), (h_disk_words, .inl (cJ, 1600, .inr (.inl z_disk_words))), (h_keys, .inl (cJ, 801, .inr (.inl z_keys_L16)))]) [0, 4, 5, 2, 3, 1] rfl
        have hD9 := hD.sub (ws' := [(h0, .inr (4, [.ref h_disk, .ref h_body, .ref h_keys, .int z_length_L16, .ref x_tried, .int z_stepsSeen])), (h_body, .inr (0, [.ref h_body_words])), (h_body_words, .inl (cJ, 7, .inr (.inl y10_0))), (h_disk, .inr (1, [.ref h_disk_words, .long z_disk_cellKey, .int z_disk_cellPage, .int z_disk_stepsDone])), (h_disk_words, .inl (cJ, 1600, .inr (.inl z_disk_words))), (h_keys, .inl (cJ, 801, .inr (.inl z_keys_L16)))]) [0, 4, 5, 2, 3, 1] (by decide) rfl
        subst hAe
        exact W.vret hx hb hr (fun t ht hW => ⟨⟨(z_length_L16, y10_0, z_keys_L16), rfl, hFR.symm.trans hF, by rw [ht]; exact hP9, va_K.moved hW.alike hK, hD9⟩, hS.F ht⟩) hS.2.2 dX4_learnEntries_41
      · have hF := ite_f c_19 hF
        have hlt16 : j16 < 4 := q_j ev16 (by omega) (by omega) c_19
        refine lv_aload_n hx hb dX4_learnEntries_22 rfl (lv_at hl 0 rfl) ?_
        refine lv_aload_n hx hb dX4_learnEntries_23 rfl (lv_at hl 0 rfl) ?_
        refine va_get (D := (dC, dI)) (ci := 4) (v := .ref h_body) (C := RX4) (T := TX4) (N := 6) hx hb hts (by decide +kernel) hown hK hP 0 rfl rfl 1 (by decide) (hts (.fieldLink RX4 12 "ShredStore$Reach" "body" "LShredStore$Body;") (by decide +kernel)) (fun _ h9 => h9) rfl dX4_learnEntries_24 ?_
        refine lv_iload hx hb dX4_learnEntries_27 (lv_at hl 1 rfl) ?_
        refine st_calll (wr := [(h0, .inr (4, [.ref h_disk, .ref h_body, .ref h_keys, .int z_length_L16, .ref x_tried, .int z_stepsSeen])), (h_keys, .inl (cJ, 801, .inr (.inl z_keys_L16))), (h_disk, .inr (1, [.ref h_disk_words, .long z_disk_cellKey, .int z_disk_cellPage, .int z_disk_stepsDone])), (h_disk_words, .inl (cJ, 1600, .inr (.inl z_disk_words)))]) (va_runV (As := [.int v4_L16]) (rest := [.ref h0]) ⟨hx, hb, hml, hown, hts⟩ (ct_X0_entryKey l dC dI cJ cI cB cZ h_body h_body_words y10_0 v4_L16 H.size) (cwV 1 hts gX4_learnEntries_X0_entryKey rfl rfl rfl (by decide +kernel) ⟨Nat.le_of_ble_eq_true rfl, Nat.le_of_ble_eq_true rfl⟩) (st_preV (ci := 0) (q0 := 4) hK hP hD hN [4, 5] rfl (by decide) rfl rfl rfl) rfl rfl hl.1 rfl (lv_room (Nat.le_of_ble_eq_true rfl)) dX4_learnEntries_29 ⟨Nat.le_of_ble_eq_true rfl, Nat.le_of_ble_eq_true rfl⟩) hP hD hS hA [4, 5] [0, 1, 2, 3] rfl rfl (by decide) (by decide) (fun r29 u H locs hw hP hD hS => ?_)
        have hP : va_P (dC, dI) vwCl [(h0, .inr (4, [.ref h_disk, .ref h_body, .ref h_keys, .int z_length_L16, .ref x_tried, .int z_stepsSeen])), (h_keys, .inl (cJ, 801, .inr (.inl z_keys_L16))), (h_disk, .inr (1, [.ref h_disk_words, .long z_disk_cellKey, .int z_disk_cellPage, .int z_disk_stepsDone])), (h_disk_words, .inl (cJ, 1600, .inr (.inl z_disk_words))), (h_body, .inr (0, [.ref h_body_words])), (h_body_words, .inl (cJ, 7, .inr (.inl y10_0)))] H := hP
        have hD : va_D A [(h0, .inr (4, [.ref h_disk, .ref h_body, .ref h_keys, .int z_length_L16, .ref x_tried, .int z_stepsSeen])), (h_keys, .inl (cJ, 801, .inr (.inl z_keys_L16))), (h_disk, .inr (1, [.ref h_disk_words, .long z_disk_cellKey, .int z_disk_cellPage, .int z_disk_stepsDone])), (h_disk_words, .inl (cJ, 1600, .inr (.inl z_disk_words))), (h_body, .inr (0, [.ref h_body_words])), (h_body_words, .inl (cJ, 7, .inr (.inl y10_0)))] := hD
        have hF := bnd1_eq hw hF
        have hq_32_0 : 0 ≤ z_length_L16.toInt := by exact hl0
        have hq_32_1 : z_length_L16.toInt ≤ 801 := by exact hl1
        refine st_callv (wr := [(h_disk, .inr (1, [.ref h_disk_words, .long z_disk_cellKey, .int z_disk_cellPage, .int z_disk_stepsDone])), (h_disk_words, .inl (cJ, 1600, .inr (.inl z_disk_words))), (h_body, .inr (0, [.ref h_body_words])), (h_body_words, .inl (cJ, 7, .inr (.inl y10_0)))]) (va_runV (As := [.long r29]) (rest := []) ⟨hx, hb, hml, hown, hts⟩ (ct_X4_learn l dC dI cJ cI cB cZ h0 h_keys h_disk h_body x_tried z_length_L16 z_stepsSeen z_keys_L16 r29 hq_32_0 hq_32_1 H.size) (cwV 1 hts gX4_learnEntries_X4_learn rfl rfl rfl (by decide +kernel) ⟨Nat.le_of_ble_eq_true rfl, Nat.le_of_ble_eq_true rfl⟩) (st_preV (ci := 4) (q0 := 0) hK hP hD hN [0, 1] rfl (by decide) rfl rfl rfl) rfl rfl hl.1 rfl (lv_room (Nat.le_of_ble_eq_true rfl)) dX4_learnEntries_32 ⟨Nat.le_of_ble_eq_true rfl, Nat.le_of_ble_eq_true rfl⟩) hP hD hS hA [0, 1] [2, 3, 4, 5] rfl rfl (by decide) (by decide) (fun u H locs hw hP hD hS => ?_)
        obtain ⟨y32_0, y32_1⟩ := u
        have hP : va_P (dC, dI) vwCl [(h_disk, .inr (1, [.ref h_disk_words, .long z_disk_cellKey, .int z_disk_cellPage, .int z_disk_stepsDone])), (h_disk_words, .inl (cJ, 1600, .inr (.inl z_disk_words))), (h_body, .inr (0, [.ref h_body_words])), (h_body_words, .inl (cJ, 7, .inr (.inl y10_0))), (h0, .inr (4, [.ref h_disk, .ref h_body, .ref h_keys, .int y32_0, .ref x_tried, .int z_stepsSeen])), (h_keys, .inl (cJ, 801, .inr (.inl y32_1)))] H := hP
        have hD : va_D A [(h_disk, .inr (1, [.ref h_disk_words, .long z_disk_cellKey, .int z_disk_cellPage, .int z_disk_stepsDone])), (h_disk_words, .inl (cJ, 1600, .inr (.inl z_disk_words))), (h_body, .inr (0, [.ref h_body_words])), (h_body_words, .inl (cJ, 7, .inr (.inl y10_0))), (h0, .inr (4, [.ref h_disk, .ref h_body, .ref h_keys, .int y32_0, .ref x_tried, .int z_stepsSeen])), (h_keys, .inl (cJ, 801, .inr (.inl y32_1)))] := hD
        have hF := bnd2_eq hw hF
        have q32 := lm_learn hl0 hl1 hw
        refine lv_iinc (v := (v4_L16 + 1)) (lv' := [(4, .int (v4_L16 + 1)), (0, .ref h0)]) hx hb dX4_learnEntries_35 hl (k := 1) rfl rfl (by decide) rfl (fun ls hl => ?_)
        refine lv_goto (tgt := 16) hx hb dX4_learnEntries_38 (by decide) ?_
        exact ih_16 y32_0 y32_1 (v4_L16 + 1) (by exact ⟨j16 + 1, by rw [ev16]; exact nI_1 j16, by omega, by omega, q32.1, q32.2⟩) _ _ (hP.sub [4, 5, 0, 1, 2, 3] rfl) (hD.sub [4, 5, 0, 1, 2, 3] (by decide) rfl) hS _ (lv_sub hl [1, 0] rfl) hF
  exact lp_16 5 z_length z_keys 0 (by exact ⟨0, rfl, by omega, by omega, hp0, hp1⟩) _ _ hP hD hS _ (lv_sub hl [1, 0] rfl) hF
set_option maxHeartbeats 4000000 in
set_option maxRecDepth 100000 in
theorem ct_X4_askPages (l : Launch) (dC : Nat → ClassId) (dI : Nat → Nat → Nat) (cJ cI cB cZ : ClassId) (h0 h_body h_body_words h_disk h_disk_words h_keys h_tried : Nat) (z_length : Int32) (z_stepsSeen : Int32) (z_body_words : Nat → Int64) (z_disk_cellKey : Int64) (z_disk_cellPage : Int32) (z_disk_stepsDone : Int32) (z_disk_words : Nat → Int64) (z_keys : Nat → Int64) (z_tried : Nat → Int32) (hp0 : 0 ≤ z_length.toInt) (hp1 : z_length.toInt ≤ 801) (hp2 : ∀ q, q < 200 → 0 ≤ (z_tried q).toInt) (sz : Nat) : Met l yX4_askPages wsX4_askPages { frames := 3, cells := 0, slots := 0, locals := 78 } (va_Pc [.ref h0] (st_B (dC, dI) (ty4 cJ cI cB cZ) [(h0, .inr (4, [.ref h_disk, .ref h_body, .ref h_keys, .int z_length, .ref h_tried, .int z_stepsSeen])), (h_body, .inr (0, [.ref h_body_words])), (h_body_words, .inl (cJ, 7, .inr (.inl z_body_words))), (h_disk, .inr (1, [.ref h_disk_words, .long z_disk_cellKey, .int z_disk_cellPage, .int z_disk_stepsDone])), (h_disk_words, .inl (cJ, 1600, .inr (.inl z_disk_words))), (h_keys, .inl (cJ, 801, .inr (.inl z_keys))), (h_tried, .inl (cI, 200, .inl z_tried))] sz)) (va_Qi (fun (r : Int32) (u : Int32 × (Nat → Int64) × (Nat → Int64) × (Nat → Int32)) => fn_X4_askPages z_length z_body_words z_disk_words z_keys z_tried = (r, u.1, u.2.1, u.2.2.1, u.2.2.2) ∧ narrow .boolean (.int r) = .int r) (fun (u : Int32 × (Nat → Int64) × (Nat → Int64) × (Nat → Int32)) t => st_W (dC, dI) (ty4 cJ cI cB cZ) [(h0, .inr (4, [.ref h_disk, .ref h_body, .ref h_keys, .int z_length, .ref h_tried, .int z_stepsSeen])), (h_body, .inr (0, [.ref h_body_words])), (h_body_words, .inl (cJ, 7, .inr (.inl z_body_words))), (h_disk, .inr (1, [.ref h_disk_words, .long z_disk_cellKey, .int z_disk_cellPage, .int z_disk_stepsDone])), (h_disk_words, .inl (cJ, 1600, .inr (.inl z_disk_words))), (h_keys, .inl (cJ, 801, .inr (.inl z_keys))), (h_tried, .inl (cI, 200, .inl z_tried))] sz [(h0, .inr (4, [.ref h_disk, .ref h_body, .ref h_keys, .int u.1, .ref h_tried, .int z_stepsSeen])), (h_body, .inr (0, [.ref h_body_words])), (h_body_words, .inl (cJ, 7, .inr (.inl u.2.1))), (h_disk, .inr (1, [.ref h_disk_words, .long z_disk_cellKey, .int z_disk_cellPage, .int z_disk_stepsDone])), (h_disk_words, .inl (cJ, 1600, .inr (.inl z_disk_words))), (h_keys, .inl (cJ, 801, .inr (.inl u.2.2.1))), (h_tried, .inl (cI, 200, .inl u.2.2.2))] t) (va_A [(h0, .inr (4, [.ref h_disk, .ref h_body, .ref h_keys, .int z_length, .ref h_tried, .int z_stepsSeen])), (h_body, .inr (0, [.ref h_body_words])), (h_body_words, .inl (cJ, 7, .inr (.inl z_body_words))), (h_disk, .inr (1, [.ref h_disk_words, .long z_disk_cellKey, .int z_disk_cellPage, .int z_disk_stepsDone])), (h_disk_words, .inl (cJ, 1600, .inr (.inl z_disk_words))), (h_keys, .inl (cJ, 801, .inr (.inl z_keys))), (h_tried, .inl (cI, 200, .inl z_tried))] sz)) 0 0 (va_A [(h0, .inr (4, [.ref h_disk, .ref h_body, .ref h_keys, .int z_length, .ref h_tried, .int z_stepsSeen])), (h_body, .inr (0, [.ref h_body_words])), (h_body_words, .inl (cJ, 7, .inr (.inl z_body_words))), (h_disk, .inr (1, [.ref h_disk_words, .long z_disk_cellKey, .int z_disk_cellPage, .int z_disk_stepsDone])), (h_disk_words, .inl (cJ, 1600, .inr (.inl z_disk_words))), (h_keys, .inl (cJ, 801, .inr (.inl z_keys))), (h_tried, .inl (cI, 200, .inl z_tried))] sz) := by
  refine Met.ofW (cc := cX4_askPages) (maxL := 5) (ret := (some .boolean)) (by decide) rfl ?_
  intro p e s m args below meth c s₁ B hml hv
  obtain ⟨rfl, hsz, hP, hK, hD0, hN⟩ := hv
  have hx := B.exec
  have hb := B.bytes
  have hr := B.returns
  have hts := atoms_spec (ws := wsX4_askPages) B.pre
  have hown : s.vm.findClass RX4 = some m.cls := findClass_of_methodNamed B.named
  have hlocks := B.notSynchronized
  subst hsz
  obtain ⟨A, hAe⟩ : ∃ z, z = va_A [(h0, .inr (4, [.ref h_disk, .ref h_body, .ref h_keys, .int z_length, .ref h_tried, .int z_stepsSeen])), (h_body, .inr (0, [.ref h_body_words])), (h_body_words, .inl (cJ, 7, .inr (.inl z_body_words))), (h_disk, .inr (1, [.ref h_disk_words, .long z_disk_cellKey, .int z_disk_cellPage, .int z_disk_stepsDone])), (h_disk_words, .inl (cJ, 1600, .inr (.inl z_disk_words))), (h_keys, .inl (cJ, 801, .inr (.inl z_keys))), (h_tried, .inl (cI, 200, .inl z_tried))] s.heap.size := ⟨_, rfl⟩
  have hD : va_D A [(h0, .inr (4, [.ref h_disk, .ref h_body, .ref h_keys, .int z_length, .ref h_tried, .int z_stepsSeen])), (h_body, .inr (0, [.ref h_body_words])), (h_body_words, .inl (cJ, 7, .inr (.inl z_body_words))), (h_disk, .inr (1, [.ref h_disk_words, .long z_disk_cellKey, .int z_disk_cellPage, .int z_disk_stepsDone])), (h_disk_words, .inl (cJ, 1600, .inr (.inl z_disk_words))), (h_keys, .inl (cJ, 801, .inr (.inl z_keys))), (h_tried, .inl (cI, 200, .inl z_tried))] := by rw [hAe]; exact hD0.self
  have hA : ∀ q : Nat, s.heap.size ≤ q → A q := fun q h => by rw [hAe]; exact Or.inr h
  have hS : va_S A s.heap s.heap [] := va_S.rf
  have hP : va_P (dC, dI) vwCl [(h0, .inr (4, [.ref h_disk, .ref h_body, .ref h_keys, .int z_length, .ref h_tried, .int z_stepsSeen])), (h_body, .inr (0, [.ref h_body_words])), (h_body_words, .inl (cJ, 7, .inr (.inl z_body_words))), (h_disk, .inr (1, [.ref h_disk_words, .long z_disk_cellKey, .int z_disk_cellPage, .int z_disk_stepsDone])), (h_disk_words, .inl (cJ, 1600, .inr (.inl z_disk_words))), (h_keys, .inl (cJ, 801, .inr (.inl z_keys))), (h_tried, .inl (cI, 200, .inl z_tried))] s.heap := hP
  have hl := lv_entry ([.ref h0]) (n := 5) (Nat.le_of_ble_eq_true rfl)
  rw [lg_entry_eq]
  generalize (lg_sl ([.ref h0]) ++ List.replicate (5 - (lg_sl ([.ref h0])).length) Slot.unset).toArray = ls at hl ⊢
  have hl : lv_has ls 5 [(0, .ref h0)] := hl
  obtain ⟨FR, hFR⟩ : ∃ z, z = fn_X4_askPages z_length z_body_words z_disk_words z_keys z_tried := ⟨_, rfl⟩
  have hF := hFR
  unfold fn_X4_askPages at hF
  refine lv_iconst (v := 0) hx hb dX4_askPages_0 (by decide) ?_
  refine lv_istore_n (lv' := [(1, .int 0), (0, .ref h0)]) hx hb dX4_askPages_1 rfl hl (by decide) rfl (fun ls hl => ?_)
  refine lv_iconst (v := 0) hx hb dX4_askPages_2 (by decide) ?_
  refine lv_istore_n (lv' := [(2, .int 0), (1, .int 0), (0, .ref h0)]) hx hb dX4_askPages_3 rfl hl (by decide) rfl (fun ls hl => ?_)
  have lp_4 : ∀ (n4 : Nat) (z_length_L4 : Int32) (z_body_words_L4 : Nat → Int64) (z_keys_L4 : Nat → Int64) (z_tried_L4 : Nat → Int32) (v1_L4 : Int32) (v2_L4 : Int32), (∃ j4 : Nat, v2_L4 = nI j4 ∧ j4 ≤ 200 ∧ 200 < j4 + n4 ∧ okb v1_L4 ∧ 0 ≤ z_length_L4.toInt ∧ z_length_L4.toInt ≤ 801 ∧ (∀ q, q < 200 → 0 ≤ (z_tried_L4 q).toInt)) → ∀ (H : Heap) (locs : List Loc), va_P (dC, dI) vwCl [(h0, .inr (4, [.ref h_disk, .ref h_body, .ref h_keys, .int z_length_L4, .ref h_tried, .int z_stepsSeen])), (h_body, .inr (0, [.ref h_body_words])), (h_body_words, .inl (cJ, 7, .inr (.inl z_body_words_L4))), (h_disk, .inr (1, [.ref h_disk_words, .long z_disk_cellKey, .int z_disk_cellPage, .int z_disk_stepsDone])), (h_disk_words, .inl (cJ, 1600, .inr (.inl z_disk_words))), (h_keys, .inl (cJ, 801, .inr (.inl z_keys_L4))), (h_tried, .inl (cI, 200, .inl z_tried_L4))] H → va_D A [(h0, .inr (4, [.ref h_disk, .ref h_body, .ref h_keys, .int z_length_L4, .ref h_tried, .int z_stepsSeen])), (h_body, .inr (0, [.ref h_body_words])), (h_body_words, .inl (cJ, 7, .inr (.inl z_body_words_L4))), (h_disk, .inr (1, [.ref h_disk_words, .long z_disk_cellKey, .int z_disk_cellPage, .int z_disk_stepsDone])), (h_disk_words, .inl (cJ, 1600, .inr (.inl z_disk_words))), (h_keys, .inl (cJ, 801, .inr (.inl z_keys_L4))), (h_tried, .inl (cI, 200, .inl z_tried_L4))] → va_S A s.heap H locs → ∀ (ls : Array Slot), lv_has ls 5 [(0, .ref h0), (1, .int v1_L4), (2, .int v2_L4)] → FR = fn_X4_askPages_L4 n4 z_length_L4 z_body_words_L4 z_disk_words z_keys_L4 z_tried_L4 v1_L4 v2_L4 → W p l e (headSpec wsX4_askPages { frames := 3, cells := 0, slots := 0, locals := 78 }).room s m ([.ref h0] : List Value).toArray below meth c H locs 0 0 (MQ below (va_Qi (fun (r : Int32) (u : Int32 × (Nat → Int64) × (Nat → Int64) × (Nat → Int32)) => fn_X4_askPages z_length z_body_words z_disk_words z_keys z_tried = (r, u.1, u.2.1, u.2.2.1, u.2.2.2) ∧ narrow .boolean (.int r) = .int r) (fun (u : Int32 × (Nat → Int64) × (Nat → Int64) × (Nat → Int32)) t => st_W (dC, dI) (ty4 cJ cI cB cZ) [(h0, .inr (4, [.ref h_disk, .ref h_body, .ref h_keys, .int z_length, .ref h_tried, .int z_stepsSeen])), (h_body, .inr (0, [.ref h_body_words])), (h_body_words, .inl (cJ, 7, .inr (.inl z_body_words))), (h_disk, .inr (1, [.ref h_disk_words, .long z_disk_cellKey, .int z_disk_cellPage, .int z_disk_stepsDone])), (h_disk_words, .inl (cJ, 1600, .inr (.inl z_disk_words))), (h_keys, .inl (cJ, 801, .inr (.inl z_keys))), (h_tried, .inl (cI, 200, .inl z_tried))] s.heap.size [(h0, .inr (4, [.ref h_disk, .ref h_body, .ref h_keys, .int u.1, .ref h_tried, .int z_stepsSeen])), (h_body, .inr (0, [.ref h_body_words])), (h_body_words, .inl (cJ, 7, .inr (.inl u.2.1))), (h_disk, .inr (1, [.ref h_disk_words, .long z_disk_cellKey, .int z_disk_cellPage, .int z_disk_stepsDone])), (h_disk_words, .inl (cJ, 1600, .inr (.inl z_disk_words))), (h_keys, .inl (cJ, 801, .inr (.inl u.2.2.1))), (h_tried, .inl (cI, 200, .inl u.2.2.2))] t) (va_A [(h0, .inr (4, [.ref h_disk, .ref h_body, .ref h_keys, .int z_length, .ref h_tried, .int z_stepsSeen])), (h_body, .inr (0, [.ref h_body_words])), (h_body_words, .inl (cJ, 7, .inr (.inl z_body_words))), (h_disk, .inr (1, [.ref h_disk_words, .long z_disk_cellKey, .int z_disk_cellPage, .int z_disk_stepsDone])), (h_disk_words, .inl (cJ, 1600, .inr (.inl z_disk_words))), (h_keys, .inl (cJ, 801, .inr (.inl z_keys))), (h_tried, .inl (cI, 200, .inl z_tried))] s.heap.size)) ([.ref h0] : List Value).toArray s 0 0 (va_A [(h0, .inr (4, [.ref h_disk, .ref h_body, .ref h_keys, .int z_length, .ref h_tried, .int z_stepsSeen])), (h_body, .inr (0, [.ref h_body_words])), (h_body_words, .inl (cJ, 7, .inr (.inl z_body_words))), (h_disk, .inr (1, [.ref h_disk_words, .long z_disk_cellKey, .int z_disk_cellPage, .int z_disk_stepsDone])), (h_disk_words, .inl (cJ, 1600, .inr (.inl z_disk_words))), (h_keys, .inl (cJ, 801, .inr (.inl z_keys))), (h_tried, .inl (cI, 200, .inl z_tried))] s.heap.size)) (F0 m 4 ls []) := by
    intro n4
    induction n4 with
    | zero =>
      intro z_length_L4 z_body_words_L4 z_keys_L4 z_tried_L4 v1_L4 v2_L4 hI
      exact absurd hI (by rintro ⟨j, -, h1, h2, -⟩; omega)
    | succ n4 ih_4 =>
      intro z_length_L4 z_body_words_L4 z_keys_L4 z_tried_L4 v1_L4 v2_L4 hI H locs hP hD hS ls hl hF
      rw [fn_X4_askPages_L4] at hF
      obtain ⟨j4, ev4, hj4, hn4, hk1, hl0, hl1, htr⟩ := hI
      refine lv_iload_n hx hb dX4_askPages_4 rfl (lv_at hl 2 rfl) ?_
      refine lv_sipush (v := 200) hx hb dX4_askPages_5 (by decide) ?_
      refine lv_icmp_ge (tgt := 37) hx hb dX4_askPages_8 (by decide) (fun c_8 => ?_) (fun c_8 => ?_)
      · have hF := ite_t c_8 hF
        refine lv_iload_n hx hb dX4_askPages_37 rfl (lv_at hl 1 rfl) ?_
        have hP9 := hP.sub (ws' := [(h0, .inr (4, [.ref h_disk, .ref h_body, .ref h_keys, .int z_length_L4, .ref h_tried, .int z_stepsSeen])), (h_body, .inr (0, [.ref h_body_words])), (h_body_words, .inl (cJ, 7, .inr (.inl z_body_words_L4))), (h_disk, .inr (1, [.ref h_disk_words, .long z_disk_cellKey, .int z_disk_cellPage, .int z_disk_stepsDone])), (h_disk_words, .inl (cJ, 1600, .inr (.inl z_disk_words))), (h_keys, .inl (cJ, 801, .inr (.inl z_keys_L4))), (h_tried, .inl (cI, 200, .inl z_tried_L4))]) [0, 1, 2, 3, 4, 5, 6] rfl
        have hD9 := hD.sub (ws' := [(h0, .inr (4, [.ref h_disk, .ref h_body, .ref h_keys, .int z_length_L4, .ref h_tried, .int z_stepsSeen])), (h_body, .inr (0, [.ref h_body_words])), (h_body_words, .inl (cJ, 7, .inr (.inl z_body_words_L4))), (h_disk, .inr (1, [.ref h_disk_words, .long z_disk_cellKey, .int z_disk_cellPage, .int z_disk_stepsDone])), (h_disk_words, .inl (cJ, 1600, .inr (.inl z_disk_words))), (h_keys, .inl (cJ, 801, .inr (.inl z_keys_L4))), (h_tried, .inl (cI, 200, .inl z_tried_L4))]) [0, 1, 2, 3, 4, 5, 6] (by decide) rfl
        subst hAe
        exact W.zret (v := v1_L4) (ty := .boolean) hx hb hr hk1 (fun t ht hW => ⟨⟨v1_L4, (z_length_L4, z_body_words_L4, z_keys_L4, z_tried_L4), rfl, ⟨hFR.symm.trans hF, hk1⟩, by rw [ht]; exact hP9, va_K.moved hW.alike hK, hD9⟩, hS.F ht⟩) hS.2.2 dX4_askPages_38
      · have hF := ite_f c_8 hF
        have hlt4 : j4 < 200 := q_j ev4 (by omega) (by omega) c_8
        refine lv_aload_n hx hb dX4_askPages_11 rfl (lv_at hl 0 rfl) ?_
        refine lv_iload_n hx hb dX4_askPages_12 rfl (lv_at hl 2 rfl) ?_
        have hq_13_0 : vp_in v2_L4 200 := by rw [ev4]; exact vp_in_nI (by omega) (by decide)
        have hq_13_1 : 0 ≤ z_length_L4.toInt := by exact hl0
        have hq_13_2 : z_length_L4.toInt ≤ 801 := by exact hl1
        have hq_13_3 : ∀ q, q < 200 → 0 ≤ (z_tried_L4 q).toInt := by exact htr
        refine st_calll (wr := [(h_body, .inr (0, [.ref h_body_words])), (h_body_words, .inl (cJ, 7, .inr (.inl z_body_words_L4)))]) (va_runV (As := [.int v2_L4]) (rest := []) ⟨hx, hb, hml, hown, hts⟩ (ct_X4_fittingKey l dC dI cJ cI cB cZ h0 h_disk h_disk_words h_keys h_tried h_body z_length_L4 z_stepsSeen z_disk_cellKey z_disk_cellPage z_disk_stepsDone z_disk_words z_keys_L4 z_tried_L4 v2_L4 hq_13_0 hq_13_1 hq_13_2 hq_13_3 H.size) (cwV 1 hts gX4_askPages_X4_fittingKey rfl rfl rfl (by decide +kernel) ⟨Nat.le_of_ble_eq_true rfl, Nat.le_of_ble_eq_true rfl⟩) (st_preV (ci := 4) (q0 := 0) hK hP hD hN [0, 3, 4, 5, 6] rfl (by decide) rfl rfl rfl) rfl rfl hl.1 rfl (lv_room (Nat.le_of_ble_eq_true rfl)) dX4_askPages_13 ⟨Nat.le_of_ble_eq_true rfl, Nat.le_of_ble_eq_true rfl⟩) hP hD hS hA [0, 3, 4, 5, 6] [1, 2] rfl rfl (by decide) (by decide) (fun r13 u H locs hw hP hD hS => ?_)
        obtain ⟨y13_0, hu9⟩ : ∃ z, z = u := ⟨_, rfl⟩
        subst hu9
        have hP : va_P (dC, dI) vwCl [(h_body, .inr (0, [.ref h_body_words])), (h_body_words, .inl (cJ, 7, .inr (.inl z_body_words_L4))), (h0, .inr (4, [.ref h_disk, .ref h_body, .ref h_keys, .int z_length_L4, .ref h_tried, .int z_stepsSeen])), (h_disk, .inr (1, [.ref h_disk_words, .long z_disk_cellKey, .int z_disk_cellPage, .int z_disk_stepsDone])), (h_disk_words, .inl (cJ, 1600, .inr (.inl z_disk_words))), (h_keys, .inl (cJ, 801, .inr (.inl z_keys_L4))), (h_tried, .inl (cI, 200, .inl y13_0))] H := hP
        have hD : va_D A [(h_body, .inr (0, [.ref h_body_words])), (h_body_words, .inl (cJ, 7, .inr (.inl z_body_words_L4))), (h0, .inr (4, [.ref h_disk, .ref h_body, .ref h_keys, .int z_length_L4, .ref h_tried, .int z_stepsSeen])), (h_disk, .inr (1, [.ref h_disk_words, .long z_disk_cellKey, .int z_disk_cellPage, .int z_disk_stepsDone])), (h_disk_words, .inl (cJ, 1600, .inr (.inl z_disk_words))), (h_keys, .inl (cJ, 801, .inr (.inl z_keys_L4))), (h_tried, .inl (cI, 200, .inl y13_0))] := hD
        have hF := bnd2_eq hw hF
        have q13 := lm_fittingKey hl0 htr hw
        refine lv_lstore_n (lv' := [(3, .long r13), (0, .ref h0), (1, .int v1_L4), (2, .int v2_L4)]) hx hb dX4_askPages_16 rfl hl (by decide) rfl (fun ls hl => ?_)
        refine lv_lload_n hx hb dX4_askPages_17 rfl (lv_at hl 0 rfl) ?_
        refine lv_lconst (v := 0) hx hb dX4_askPages_18 (by decide) ?_
        refine W.lcmp hx hb dX4_askPages_19 ?_
        refine lv_if_eq (tgt := 31) hx hb dX4_askPages_20 (by decide) (fun c_20 => ?_) (fun c_20 => ?_)
        · have hF := ite_t c_20 hF
          refine lv_iinc (v := (v2_L4 + 1)) (lv' := [(2, .int (v2_L4 + 1)), (3, .long r13), (0, .ref h0), (1, .int v1_L4)]) hx hb dX4_askPages_31 hl (k := 3) rfl rfl (by decide) rfl (fun ls hl => ?_)
          refine lv_goto (tgt := 4) hx hb dX4_askPages_34 (by decide) ?_
          exact ih_4 z_length_L4 z_body_words_L4 z_keys_L4 y13_0 v1_L4 (v2_L4 + 1) (by first | exact ⟨j4 + 1, by rw [ev4]; exact nI_1 j4, by omega, by omega, rfl, q26.1, q26.2, q13⟩ | exact ⟨j4 + 1, by rw [ev4]; exact nI_1 j4, by omega, by omega, hk1, hl0, hl1, q13⟩) _ _ (hP.sub [2, 0, 1, 3, 4, 5, 6] rfl) (hD.sub [2, 0, 1, 3, 4, 5, 6] (by decide) rfl) hS _ (lv_sub hl [2, 3, 0] rfl) hF
        · have hF := ite_f c_20 hF
          refine lv_aload_n hx hb dX4_askPages_23 rfl (lv_at hl 1 rfl) ?_
          refine lv_lload_n hx hb dX4_askPages_24 rfl (lv_at hl 0 rfl) ?_
          refine lv_iload_n hx hb dX4_askPages_25 rfl (lv_at hl 3 rfl) ?_
          have hq_26_0 : 0 ≤ z_length_L4.toInt := by exact hl0
          have hq_26_1 : z_length_L4.toInt ≤ 801 := by exact hl1
          refine st_callv (wr := [(h_tried, .inl (cI, 200, .inl y13_0))]) (va_runV (As := [.long r13, .int v2_L4]) (rest := []) ⟨hx, hb, hml, hown, hts⟩ (ct_X4_learnEntries l dC dI cJ cI cB cZ h0 h_body h_body_words h_disk h_disk_words h_keys h_tried z_length_L4 z_stepsSeen z_body_words_L4 z_disk_cellKey z_disk_cellPage z_disk_stepsDone z_disk_words z_keys_L4 r13 v2_L4 hq_26_0 hq_26_1 H.size) (cwV 2 hts gX4_askPages_X4_learnEntries rfl rfl rfl (by decide +kernel) ⟨Nat.le_of_ble_eq_true rfl, Nat.le_of_ble_eq_true rfl⟩) (st_preV (ci := 4) (q0 := 2) hK hP hD hN [2, 0, 1, 3, 4, 5] rfl (by decide) rfl rfl rfl) rfl rfl hl.1 rfl (lv_room (Nat.le_of_ble_eq_true rfl)) dX4_askPages_26 ⟨Nat.le_of_ble_eq_true rfl, Nat.le_of_ble_eq_true rfl⟩) hP hD hS hA [2, 0, 1, 3, 4, 5] [6] rfl rfl (by decide) (by decide) (fun u H locs hw hP hD hS => ?_)
          obtain ⟨y26_0, y26_1, y26_2⟩ := u
          have hP : va_P (dC, dI) vwCl [(h_tried, .inl (cI, 200, .inl y13_0)), (h0, .inr (4, [.ref h_disk, .ref h_body, .ref h_keys, .int y26_0, .ref h_tried, .int z_stepsSeen])), (h_body, .inr (0, [.ref h_body_words])), (h_body_words, .inl (cJ, 7, .inr (.inl y26_1))), (h_disk, .inr (1, [.ref h_disk_words, .long z_disk_cellKey, .int z_disk_cellPage, .int z_disk_stepsDone])), (h_disk_words, .inl (cJ, 1600, .inr (.inl z_disk_words))), (h_keys, .inl (cJ, 801, .inr (.inl y26_2)))] H := hP
          have hD : va_D A [(h_tried, .inl (cI, 200, .inl y13_0)), (h0, .inr (4, [.ref h_disk, .ref h_body, .ref h_keys, .int y26_0, .ref h_tried, .int z_stepsSeen])), (h_body, .inr (0, [.ref h_body_words])), (h_body_words, .inl (cJ, 7, .inr (.inl y26_1))), (h_disk, .inr (1, [.ref h_disk_words, .long z_disk_cellKey, .int z_disk_cellPage, .int z_disk_stepsDone])), (h_disk_words, .inl (cJ, 1600, .inr (.inl z_disk_words))), (h_keys, .inl (cJ, 801, .inr (.inl y26_2)))] := hD
          have hF := bnd3_eq hw hF
          have q26 := lm_learnEntries hl0 hl1 hw
          refine lv_iconst (v := 1) hx hb dX4_askPages_29 (by decide) ?_
          refine lv_istore_n (lv' := [(1, .int 1), (3, .long r13), (0, .ref h0), (2, .int v2_L4)]) hx hb dX4_askPages_30 rfl hl (by decide) rfl (fun ls hl => ?_)
          refine lv_iinc (v := (v2_L4 + 1)) (lv' := [(2, .int (v2_L4 + 1)), (1, .int 1), (3, .long r13), (0, .ref h0)]) hx hb dX4_askPages_31 hl (k := 3) rfl rfl (by decide) rfl (fun ls hl => ?_)
          refine lv_goto (tgt := 4) hx hb dX4_askPages_34 (by decide) ?_
          exact ih_4 y26_0 y26_1 y26_2 y13_0 1 (v2_L4 + 1) (by first | exact ⟨j4 + 1, by rw [ev4]; exact nI_1 j4, by omega, by omega, rfl, q26.1, q26.2, q13⟩ | exact ⟨j4 + 1, by rw [ev4]; exact nI_1 j4, by omega, by omega, hk1, hl0, hl1, q13⟩) _ _ (hP.sub [1, 2, 3, 4, 5, 6, 0] rfl) (hD.sub [1, 2, 3, 4, 5, 6, 0] (by decide) rfl) hS _ (lv_sub hl [3, 1, 0] rfl) hF
  exact lp_4 201 z_length z_body_words z_keys z_tried 0 0 (by exact ⟨0, rfl, by omega, by omega, rfl, hp0, hp1, hp2⟩) _ _ hP hD hS _ (lv_sub hl [2, 1, 0] rfl) hF
set_option maxHeartbeats 4000000 in
set_option maxRecDepth 100000 in
theorem ct_X4_refresh (l : Launch) (dC : Nat → ClassId) (dI : Nat → Nat → Nat) (cJ cI cB cZ : ClassId) (h0 h_body h_body_words h_disk h_disk_words h_keys h_tried : Nat) (z_length : Int32) (z_stepsSeen : Int32) (z_body_words : Nat → Int64) (z_disk_cellKey : Int64) (z_disk_cellPage : Int32) (z_disk_stepsDone : Int32) (z_disk_words : Nat → Int64) (z_keys : Nat → Int64) (z_tried : Nat → Int32) (hp0 : 0 ≤ z_length.toInt) (hp1 : z_length.toInt ≤ 801) (sz : Nat) : Met l yX4_refresh wsX4_refresh { frames := 4, cells := 0, slots := 0, locals := 102 } (va_Pc [.ref h0] (st_B (dC, dI) (ty4 cJ cI cB cZ) [(h0, .inr (4, [.ref h_disk, .ref h_body, .ref h_keys, .int z_length, .ref h_tried, .int z_stepsSeen])), (h_body, .inr (0, [.ref h_body_words])), (h_body_words, .inl (cJ, 7, .inr (.inl z_body_words))), (h_disk, .inr (1, [.ref h_disk_words, .long z_disk_cellKey, .int z_disk_cellPage, .int z_disk_stepsDone])), (h_disk_words, .inl (cJ, 1600, .inr (.inl z_disk_words))), (h_keys, .inl (cJ, 801, .inr (.inl z_keys))), (h_tried, .inl (cI, 200, .inl z_tried))] sz)) (va_Qv (fun (u : Int32 × Int32 × (Nat → Int64) × (Nat → Int64) × (Nat → Int32)) => fn_X4_refresh z_length z_stepsSeen z_body_words z_disk_cellKey z_disk_stepsDone z_disk_words z_keys z_tried = (u.1, u.2.1, u.2.2.1, u.2.2.2.1, u.2.2.2.2)) (fun (u : Int32 × Int32 × (Nat → Int64) × (Nat → Int64) × (Nat → Int32)) t => st_W (dC, dI) (ty4 cJ cI cB cZ) [(h0, .inr (4, [.ref h_disk, .ref h_body, .ref h_keys, .int z_length, .ref h_tried, .int z_stepsSeen])), (h_body, .inr (0, [.ref h_body_words])), (h_body_words, .inl (cJ, 7, .inr (.inl z_body_words))), (h_disk, .inr (1, [.ref h_disk_words, .long z_disk_cellKey, .int z_disk_cellPage, .int z_disk_stepsDone])), (h_disk_words, .inl (cJ, 1600, .inr (.inl z_disk_words))), (h_keys, .inl (cJ, 801, .inr (.inl z_keys))), (h_tried, .inl (cI, 200, .inl z_tried))] sz [(h0, .inr (4, [.ref h_disk, .ref h_body, .ref h_keys, .int u.1, .ref h_tried, .int u.2.1])), (h_body, .inr (0, [.ref h_body_words])), (h_body_words, .inl (cJ, 7, .inr (.inl u.2.2.1))), (h_disk, .inr (1, [.ref h_disk_words, .long z_disk_cellKey, .int z_disk_cellPage, .int z_disk_stepsDone])), (h_disk_words, .inl (cJ, 1600, .inr (.inl z_disk_words))), (h_keys, .inl (cJ, 801, .inr (.inl u.2.2.2.1))), (h_tried, .inl (cI, 200, .inl u.2.2.2.2))] t) (va_A [(h0, .inr (4, [.ref h_disk, .ref h_body, .ref h_keys, .int z_length, .ref h_tried, .int z_stepsSeen])), (h_body, .inr (0, [.ref h_body_words])), (h_body_words, .inl (cJ, 7, .inr (.inl z_body_words))), (h_disk, .inr (1, [.ref h_disk_words, .long z_disk_cellKey, .int z_disk_cellPage, .int z_disk_stepsDone])), (h_disk_words, .inl (cJ, 1600, .inr (.inl z_disk_words))), (h_keys, .inl (cJ, 801, .inr (.inl z_keys))), (h_tried, .inl (cI, 200, .inl z_tried))] sz)) 0 0 (va_A [(h0, .inr (4, [.ref h_disk, .ref h_body, .ref h_keys, .int z_length, .ref h_tried, .int z_stepsSeen])), (h_body, .inr (0, [.ref h_body_words])), (h_body_words, .inl (cJ, 7, .inr (.inl z_body_words))), (h_disk, .inr (1, [.ref h_disk_words, .long z_disk_cellKey, .int z_disk_cellPage, .int z_disk_stepsDone])), (h_disk_words, .inl (cJ, 1600, .inr (.inl z_disk_words))), (h_keys, .inl (cJ, 801, .inr (.inl z_keys))), (h_tried, .inl (cI, 200, .inl z_tried))] sz) := by
  refine Met.ofW (cc := cX4_refresh) (maxL := 3) (ret := none) (by decide) rfl ?_
  intro p e s m args below meth c s₁ B hml hv
  obtain ⟨rfl, hsz, hP, hK, hD0, hN⟩ := hv
  have hx := B.exec
  have hb := B.bytes
  have hr := B.returns
  have hts := atoms_spec (ws := wsX4_refresh) B.pre
  have hown : s.vm.findClass RX4 = some m.cls := findClass_of_methodNamed B.named
  have hlocks := B.notSynchronized
  subst hsz
  obtain ⟨A, hAe⟩ : ∃ z, z = va_A [(h0, .inr (4, [.ref h_disk, .ref h_body, .ref h_keys, .int z_length, .ref h_tried, .int z_stepsSeen])), (h_body, .inr (0, [.ref h_body_words])), (h_body_words, .inl (cJ, 7, .inr (.inl z_body_words))), (h_disk, .inr (1, [.ref h_disk_words, .long z_disk_cellKey, .int z_disk_cellPage, .int z_disk_stepsDone])), (h_disk_words, .inl (cJ, 1600, .inr (.inl z_disk_words))), (h_keys, .inl (cJ, 801, .inr (.inl z_keys))), (h_tried, .inl (cI, 200, .inl z_tried))] s.heap.size := ⟨_, rfl⟩
  have hD : va_D A [(h0, .inr (4, [.ref h_disk, .ref h_body, .ref h_keys, .int z_length, .ref h_tried, .int z_stepsSeen])), (h_body, .inr (0, [.ref h_body_words])), (h_body_words, .inl (cJ, 7, .inr (.inl z_body_words))), (h_disk, .inr (1, [.ref h_disk_words, .long z_disk_cellKey, .int z_disk_cellPage, .int z_disk_stepsDone])), (h_disk_words, .inl (cJ, 1600, .inr (.inl z_disk_words))), (h_keys, .inl (cJ, 801, .inr (.inl z_keys))), (h_tried, .inl (cI, 200, .inl z_tried))] := by rw [hAe]; exact hD0.self
  have hA : ∀ q : Nat, s.heap.size ≤ q → A q := fun q h => by rw [hAe]; exact Or.inr h
  have hS : va_S A s.heap s.heap [] := va_S.rf
  have hP : va_P (dC, dI) vwCl [(h0, .inr (4, [.ref h_disk, .ref h_body, .ref h_keys, .int z_length, .ref h_tried, .int z_stepsSeen])), (h_body, .inr (0, [.ref h_body_words])), (h_body_words, .inl (cJ, 7, .inr (.inl z_body_words))), (h_disk, .inr (1, [.ref h_disk_words, .long z_disk_cellKey, .int z_disk_cellPage, .int z_disk_stepsDone])), (h_disk_words, .inl (cJ, 1600, .inr (.inl z_disk_words))), (h_keys, .inl (cJ, 801, .inr (.inl z_keys))), (h_tried, .inl (cI, 200, .inl z_tried))] s.heap := hP
  have hl := lv_entry ([.ref h0]) (n := 3) (Nat.le_of_ble_eq_true rfl)
  rw [lg_entry_eq]
  generalize (lg_sl ([.ref h0]) ++ List.replicate (3 - (lg_sl ([.ref h0])).length) Slot.unset).toArray = ls at hl ⊢
  have hl : lv_has ls 3 [(0, .ref h0)] := hl
  obtain ⟨FR, hFR⟩ : ∃ z, z = fn_X4_refresh z_length z_stepsSeen z_body_words z_disk_cellKey z_disk_stepsDone z_disk_words z_keys z_tried := ⟨_, rfl⟩
  have hF := hFR
  unfold fn_X4_refresh at hF
  refine lv_aload_n hx hb dX4_refresh_0 rfl (lv_at hl 0 rfl) ?_
  refine va_get (D := (dC, dI)) (ci := 4) (v := .int z_stepsSeen) (C := RX4) (T := TX4) (N := 6) hx hb hts (by decide +kernel) hown hK hP 0 rfl rfl 5 (by decide) (hts (.fieldLink RX4 30 "ShredStore$Reach" "stepsSeen" "I") (by decide +kernel)) (fun _ h9 => h9) rfl dX4_refresh_1 ?_
  refine lv_aload_n hx hb dX4_refresh_4 rfl (lv_at hl 0 rfl) ?_
  refine va_get (D := (dC, dI)) (ci := 4) (v := .ref h_disk) (C := RX4) (T := TX4) (N := 6) hx hb hts (by decide +kernel) hown hK hP 0 rfl rfl 0 (by decide) (hts (.fieldLink RX4 33 "ShredStore$Reach" "disk" "LShredStore$Disk;") (by decide +kernel)) (fun _ h9 => h9) rfl dX4_refresh_5 ?_
  refine st_calli (wr := [(h0, .inr (4, [.ref h_disk, .ref h_body, .ref h_keys, .int z_length, .ref h_tried, .int z_stepsSeen])), (h_body, .inr (0, [.ref h_body_words])), (h_body_words, .inl (cJ, 7, .inr (.inl z_body_words))), (h_disk_words, .inl (cJ, 1600, .inr (.inl z_disk_words))), (h_keys, .inl (cJ, 801, .inr (.inl z_keys))), (h_tried, .inl (cI, 200, .inl z_tried))]) (va_runV (As := []) (rest := [.int z_stepsSeen]) ⟨hx, hb, hml, hown, hts⟩ (ct_X1_stepsDone l dC dI cJ cI cB cZ h_disk h_disk_words z_disk_cellKey z_disk_cellPage z_disk_stepsDone s.heap.size) (cwV 0 hts gX4_refresh_X1_stepsDone rfl rfl rfl (by decide +kernel) ⟨Nat.le_of_ble_eq_true rfl, Nat.le_of_ble_eq_true rfl⟩) (st_preV (ci := 1) (q0 := 3) hK hP hD hN [3] rfl (by decide) rfl rfl rfl) rfl rfl hl.1 rfl (lv_room (Nat.le_of_ble_eq_true rfl)) dX4_refresh_8 ⟨Nat.le_of_ble_eq_true rfl, Nat.le_of_ble_eq_true rfl⟩) hP hD hS hA [3] [0, 1, 2, 4, 5, 6] rfl rfl (by decide) (by decide) (fun r8 u H locs hw hP hD hS => ?_)
  have hP : va_P (dC, dI) vwCl [(h0, .inr (4, [.ref h_disk, .ref h_body, .ref h_keys, .int z_length, .ref h_tried, .int z_stepsSeen])), (h_body, .inr (0, [.ref h_body_words])), (h_body_words, .inl (cJ, 7, .inr (.inl z_body_words))), (h_disk_words, .inl (cJ, 1600, .inr (.inl z_disk_words))), (h_keys, .inl (cJ, 801, .inr (.inl z_keys))), (h_tried, .inl (cI, 200, .inl z_tried)), (h_disk, .inr (1, [.ref h_disk_words, .long z_disk_cellKey, .int z_disk_cellPage, .int z_disk_stepsDone]))] H := hP
  have hD : va_D A [(h0, .inr (4, [.ref h_disk, .ref h_body, .ref h_keys, .int z_length, .ref h_tried, .int z_stepsSeen])), (h_body, .inr (0, [.ref h_body_words])), (h_body_words, .inl (cJ, 7, .inr (.inl z_body_words))), (h_disk_words, .inl (cJ, 1600, .inr (.inl z_disk_words))), (h_keys, .inl (cJ, 801, .inr (.inl z_keys))), (h_tried, .inl (cI, 200, .inl z_tried)), (h_disk, .inr (1, [.ref h_disk_words, .long z_disk_cellKey, .int z_disk_cellPage, .int z_disk_stepsDone]))] := hD
  have hF := bnd1_eq hw hF
  refine lv_icmp_ne (tgt := 15) hx hb dX4_refresh_11 (by decide) (fun c_11 => ?_) (fun c_11 => ?_)
  · have hF := ite_f c_11 hF
    refine lv_aload_n hx hb dX4_refresh_15 rfl (lv_at hl 0 rfl) ?_
    refine lv_aload_n hx hb dX4_refresh_16 rfl (lv_at hl 0 rfl) ?_
    refine va_get (D := (dC, dI)) (ci := 4) (v := .ref h_disk) (C := RX4) (T := TX4) (N := 6) hx hb hts (by decide +kernel) hown hK hP 0 rfl rfl 0 (by decide) (hts (.fieldLink RX4 33 "ShredStore$Reach" "disk" "LShredStore$Disk;") (by decide +kernel)) (fun _ h9 => h9) rfl dX4_refresh_17 ?_
    refine st_calli (wr := [(h0, .inr (4, [.ref h_disk, .ref h_body, .ref h_keys, .int z_length, .ref h_tried, .int z_stepsSeen])), (h_body, .inr (0, [.ref h_body_words])), (h_body_words, .inl (cJ, 7, .inr (.inl z_body_words))), (h_disk_words, .inl (cJ, 1600, .inr (.inl z_disk_words))), (h_keys, .inl (cJ, 801, .inr (.inl z_keys))), (h_tried, .inl (cI, 200, .inl z_tried))]) (va_runV (As := []) (rest := [.ref h0]) ⟨hx, hb, hml, hown, hts⟩ (ct_X1_stepsDone l dC dI cJ cI cB cZ h_disk h_disk_words z_disk_cellKey z_disk_cellPage z_disk_stepsDone H.size) (cwV 0 hts gX4_refresh_X1_stepsDone rfl rfl rfl (by decide +kernel) ⟨Nat.le_of_ble_eq_true rfl, Nat.le_of_ble_eq_true rfl⟩) (st_preV (ci := 1) (q0 := 6) hK hP hD hN [6] rfl (by decide) rfl rfl rfl) rfl rfl hl.1 rfl (lv_room (Nat.le_of_ble_eq_true rfl)) dX4_refresh_20 ⟨Nat.le_of_ble_eq_true rfl, Nat.le_of_ble_eq_true rfl⟩) hP hD hS hA [6] [0, 1, 2, 3, 4, 5] rfl rfl (by decide) (by decide) (fun r20 u H locs hw hP hD hS => ?_)
    have hP : va_P (dC, dI) vwCl [(h0, .inr (4, [.ref h_disk, .ref h_body, .ref h_keys, .int z_length, .ref h_tried, .int z_stepsSeen])), (h_body, .inr (0, [.ref h_body_words])), (h_body_words, .inl (cJ, 7, .inr (.inl z_body_words))), (h_disk_words, .inl (cJ, 1600, .inr (.inl z_disk_words))), (h_keys, .inl (cJ, 801, .inr (.inl z_keys))), (h_tried, .inl (cI, 200, .inl z_tried)), (h_disk, .inr (1, [.ref h_disk_words, .long z_disk_cellKey, .int z_disk_cellPage, .int z_disk_stepsDone]))] H := hP
    have hD : va_D A [(h0, .inr (4, [.ref h_disk, .ref h_body, .ref h_keys, .int z_length, .ref h_tried, .int z_stepsSeen])), (h_body, .inr (0, [.ref h_body_words])), (h_body_words, .inl (cJ, 7, .inr (.inl z_body_words))), (h_disk_words, .inl (cJ, 1600, .inr (.inl z_disk_words))), (h_keys, .inl (cJ, 801, .inr (.inl z_keys))), (h_tried, .inl (cI, 200, .inl z_tried)), (h_disk, .inr (1, [.ref h_disk_words, .long z_disk_cellKey, .int z_disk_cellPage, .int z_disk_stepsDone]))] := hD
    have hF := bnd1_eq hw hF
    refine va_put (D := (dC, dI)) (ci := 4) (v := .int r20) (ty := .int) (C := RX4) (T := TX4) (N := 6) hx hb hts (by decide +kernel) tyX4 tyX4_ok nmX4 hown hK hP hD hS 0 rfl rfl 5 (by decide) (hts (.fieldLink RX4 30 "ShredStore$Reach" "stepsSeen" "I") (by decide +kernel)) (fun _ h9 => h9) rfl (by decide +kernel) rfl rfl (Nat.le_of_ble_eq_true rfl) dX4_refresh_23 (fun H locs hP hD hS => ?_)
    have hP : va_P (dC, dI) vwCl [(h0, .inr (4, [.ref h_disk, .ref h_body, .ref h_keys, .int z_length, .ref h_tried, .int r20])), (h_body, .inr (0, [.ref h_body_words])), (h_body_words, .inl (cJ, 7, .inr (.inl z_body_words))), (h_disk_words, .inl (cJ, 1600, .inr (.inl z_disk_words))), (h_keys, .inl (cJ, 801, .inr (.inl z_keys))), (h_tried, .inl (cI, 200, .inl z_tried)), (h_disk, .inr (1, [.ref h_disk_words, .long z_disk_cellKey, .int z_disk_cellPage, .int z_disk_stepsDone]))] H := hP
    have hD : va_D A [(h0, .inr (4, [.ref h_disk, .ref h_body, .ref h_keys, .int z_length, .ref h_tried, .int r20])), (h_body, .inr (0, [.ref h_body_words])), (h_body_words, .inl (cJ, 7, .inr (.inl z_body_words))), (h_disk_words, .inl (cJ, 1600, .inr (.inl z_disk_words))), (h_keys, .inl (cJ, 801, .inr (.inl z_keys))), (h_tried, .inl (cI, 200, .inl z_tried)), (h_disk, .inr (1, [.ref h_disk_words, .long z_disk_cellKey, .int z_disk_cellPage, .int z_disk_stepsDone]))] := hD
    refine lv_aload_n hx hb dX4_refresh_26 rfl (lv_at hl 0 rfl) ?_
    refine lv_iconst (v := 0) hx hb dX4_refresh_27 (by decide) ?_
    refine va_put (D := (dC, dI)) (ci := 4) (v := .int 0) (ty := .int) (C := RX4) (T := TX4) (N := 6) hx hb hts (by decide +kernel) tyX4 tyX4_ok nmX4 hown hK hP hD hS 0 rfl rfl 3 (by decide) (hts (.fieldLink RX4 22 "ShredStore$Reach" "length" "I") (by decide +kernel)) (fun _ h9 => h9) rfl (by decide +kernel) rfl rfl (Nat.le_of_ble_eq_true rfl) dX4_refresh_28 (fun H locs hP hD hS => ?_)
    have hP : va_P (dC, dI) vwCl [(h0, .inr (4, [.ref h_disk, .ref h_body, .ref h_keys, .int 0, .ref h_tried, .int r20])), (h_body, .inr (0, [.ref h_body_words])), (h_body_words, .inl (cJ, 7, .inr (.inl z_body_words))), (h_disk_words, .inl (cJ, 1600, .inr (.inl z_disk_words))), (h_keys, .inl (cJ, 801, .inr (.inl z_keys))), (h_tried, .inl (cI, 200, .inl z_tried)), (h_disk, .inr (1, [.ref h_disk_words, .long z_disk_cellKey, .int z_disk_cellPage, .int z_disk_stepsDone]))] H := hP
    have hD : va_D A [(h0, .inr (4, [.ref h_disk, .ref h_body, .ref h_keys, .int 0, .ref h_tried, .int r20])), (h_body, .inr (0, [.ref h_body_words])), (h_body_words, .inl (cJ, 7, .inr (.inl z_body_words))), (h_disk_words, .inl (cJ, 1600, .inr (.inl z_disk_words))), (h_keys, .inl (cJ, 801, .inr (.inl z_keys))), (h_tried, .inl (cI, 200, .inl z_tried)), (h_disk, .inr (1, [.ref h_disk_words, .long z_disk_cellKey, .int z_disk_cellPage, .int z_disk_stepsDone]))] := hD
    refine lv_iconst (v := 0) hx hb dX4_refresh_31 (by decide) ?_
    refine lv_istore_n (lv' := [(1, .int 0), (0, .ref h0)]) hx hb dX4_refresh_32 rfl hl (by decide) rfl (fun ls hl => ?_)
    have lp_33 : ∀ (n33 : Nat) (z_tried_L33 : Nat → Int32) (v1_L33 : Int32), (∃ j33 : Nat, v1_L33 = nI j33 ∧ j33 ≤ 200 ∧ 200 < j33 + n33 ∧ (∀ q, q < j33 → 0 ≤ (z_tried_L33 q).toInt)) → ∀ (H : Heap) (locs : List Loc), va_P (dC, dI) vwCl [(h0, .inr (4, [.ref h_disk, .ref h_body, .ref h_keys, .int 0, .ref h_tried, .int r20])), (h_body, .inr (0, [.ref h_body_words])), (h_body_words, .inl (cJ, 7, .inr (.inl z_body_words))), (h_disk_words, .inl (cJ, 1600, .inr (.inl z_disk_words))), (h_keys, .inl (cJ, 801, .inr (.inl z_keys))), (h_tried, .inl (cI, 200, .inl z_tried_L33)), (h_disk, .inr (1, [.ref h_disk_words, .long z_disk_cellKey, .int z_disk_cellPage, .int z_disk_stepsDone]))] H → va_D A [(h0, .inr (4, [.ref h_disk, .ref h_body, .ref h_keys, .int 0, .ref h_tried, .int r20])), (h_body, .inr (0, [.ref h_body_words])), (h_body_words, .inl (cJ, 7, .inr (.inl z_body_words))), (h_disk_words, .inl (cJ, 1600, .inr (.inl z_disk_words))), (h_keys, .inl (cJ, 801, .inr (.inl z_keys))), (h_tried, .inl (cI, 200, .inl z_tried_L33)), (h_disk, .inr (1, [.ref h_disk_words, .long z_disk_cellKey, .int z_disk_cellPage, .int z_disk_stepsDone]))] → va_S A s.heap H locs → ∀ (ls : Array Slot), lv_has ls 3 [(0, .ref h0), (1, .int v1_L33)] → FR = fn_X4_refresh_L33 n33 0 r20 z_body_words z_disk_cellKey z_disk_stepsDone z_disk_words z_keys z_tried_L33 v1_L33 → W p l e (headSpec wsX4_refresh { frames := 4, cells := 0, slots := 0, locals := 102 }).room s m ([.ref h0] : List Value).toArray below meth c H locs 0 0 (MQ below (va_Qv (fun (u : Int32 × Int32 × (Nat → Int64) × (Nat → Int64) × (Nat → Int32)) => fn_X4_refresh z_length z_stepsSeen z_body_words z_disk_cellKey z_disk_stepsDone z_disk_words z_keys z_tried = (u.1, u.2.1, u.2.2.1, u.2.2.2.1, u.2.2.2.2)) (fun (u : Int32 × Int32 × (Nat → Int64) × (Nat → Int64) × (Nat → Int32)) t => st_W (dC, dI) (ty4 cJ cI cB cZ) [(h0, .inr (4, [.ref h_disk, .ref h_body, .ref h_keys, .int z_length, .ref h_tried, .int z_stepsSeen])), (h_body, .inr (0, [.ref h_body_words])), (h_body_words, .inl (cJ, 7, .inr (.inl z_body_words))), (h_disk, .inr (1, [.ref h_disk_words, .long z_disk_cellKey, .int z_disk_cellPage, .int z_disk_stepsDone])), (h_disk_words, .inl (cJ, 1600, .inr (.inl z_disk_words))), (h_keys, .inl (cJ, 801, .inr (.inl z_keys))), (h_tried, .inl (cI, 200, .inl z_tried))] s.heap.size [(h0, .inr (4, [.ref h_disk, .ref h_body, .ref h_keys, .int u.1, .ref h_tried, .int u.2.1])), (h_body, .inr (0, [.ref h_body_words])), (h_body_words, .inl (cJ, 7, .inr (.inl u.2.2.1))), (h_disk, .inr (1, [.ref h_disk_words, .long z_disk_cellKey, .int z_disk_cellPage, .int z_disk_stepsDone])), (h_disk_words, .inl (cJ, 1600, .inr (.inl z_disk_words))), (h_keys, .inl (cJ, 801, .inr (.inl u.2.2.2.1))), (h_tried, .inl (cI, 200, .inl u.2.2.2.2))] t) (va_A [(h0, .inr (4, [.ref h_disk, .ref h_body, .ref h_keys, .int z_length, .ref h_tried, .int z_stepsSeen])), (h_body, .inr (0, [.ref h_body_words])), (h_body_words, .inl (cJ, 7, .inr (.inl z_body_words))), (h_disk, .inr (1, [.ref h_disk_words, .long z_disk_cellKey, .int z_disk_cellPage, .int z_disk_stepsDone])), (h_disk_words, .inl (cJ, 1600, .inr (.inl z_disk_words))), (h_keys, .inl (cJ, 801, .inr (.inl z_keys))), (h_tried, .inl (cI, 200, .inl z_tried))] s.heap.size)) ([.ref h0] : List Value).toArray s 0 0 (va_A [(h0, .inr (4, [.ref h_disk, .ref h_body, .ref h_keys, .int z_length, .ref h_tried, .int z_stepsSeen])), (h_body, .inr (0, [.ref h_body_words])), (h_body_words, .inl (cJ, 7, .inr (.inl z_body_words))), (h_disk, .inr (1, [.ref h_disk_words, .long z_disk_cellKey, .int z_disk_cellPage, .int z_disk_stepsDone])), (h_disk_words, .inl (cJ, 1600, .inr (.inl z_disk_words))), (h_keys, .inl (cJ, 801, .inr (.inl z_keys))), (h_tried, .inl (cI, 200, .inl z_tried))] s.heap.size)) (F0 m 33 ls []) := by
      intro n33
      induction n33 with
      | zero =>
        intro z_tried_L33 v1_L33 hI
        exact absurd hI (by rintro ⟨j, -, h1, h2, -⟩; omega)
      | succ n33 ih_33 =>
        intro z_tried_L33 v1_L33 hI H locs hP hD hS ls hl hF
        rw [fn_X4_refresh_L33] at hF
        obtain ⟨j33, ev33, hj33, hn33, htr⟩ := hI
        refine lv_iload_n hx hb dX4_refresh_33 rfl (lv_at hl 1 rfl) ?_
        refine lv_sipush (v := 200) hx hb dX4_refresh_34 (by decide) ?_
        refine lv_icmp_ge (tgt := 53) hx hb dX4_refresh_37 (by decide) (fun c_37 => ?_) (fun c_37 => ?_)
        · have hF := ite_t c_37 hF
          have hj200 : 200 ≤ j33 := q_jge ev33 (by omega) (by omega) c_37
          refine lv_aload_n hx hb dX4_refresh_53 rfl (lv_at hl 0 rfl) ?_
          refine lv_aload_n hx hb dX4_refresh_54 rfl (lv_at hl 0 rfl) ?_
          refine va_get (D := (dC, dI)) (ci := 4) (v := .ref h_disk) (C := RX4) (T := TX4) (N := 6) hx hb hts (by decide +kernel) hown hK hP 0 rfl rfl 0 (by decide) (hts (.fieldLink RX4 33 "ShredStore$Reach" "disk" "LShredStore$Disk;") (by decide +kernel)) (fun _ h9 => h9) rfl dX4_refresh_55 ?_
          refine st_calll (wr := [(h0, .inr (4, [.ref h_disk, .ref h_body, .ref h_keys, .int 0, .ref h_tried, .int r20])), (h_body, .inr (0, [.ref h_body_words])), (h_body_words, .inl (cJ, 7, .inr (.inl z_body_words))), (h_disk_words, .inl (cJ, 1600, .inr (.inl z_disk_words))), (h_keys, .inl (cJ, 801, .inr (.inl z_keys))), (h_tried, .inl (cI, 200, .inl z_tried_L33))]) (va_runV (As := []) (rest := [.ref h0]) ⟨hx, hb, hml, hown, hts⟩ (ct_X1_cellKey l dC dI cJ cI cB cZ h_disk h_disk_words z_disk_cellKey z_disk_cellPage z_disk_stepsDone H.size) (cwV 0 hts gX4_refresh_X1_cellKey rfl rfl rfl (by decide +kernel) ⟨Nat.le_of_ble_eq_true rfl, Nat.le_of_ble_eq_true rfl⟩) (st_preV (ci := 1) (q0 := 6) hK hP hD hN [6] rfl (by decide) rfl rfl rfl) rfl rfl hl.1 rfl (lv_room (Nat.le_of_ble_eq_true rfl)) dX4_refresh_58 ⟨Nat.le_of_ble_eq_true rfl, Nat.le_of_ble_eq_true rfl⟩) hP hD hS hA [6] [0, 1, 2, 3, 4, 5] rfl rfl (by decide) (by decide) (fun r58 u H locs hw hP hD hS => ?_)
          have hP : va_P (dC, dI) vwCl [(h0, .inr (4, [.ref h_disk, .ref h_body, .ref h_keys, .int 0, .ref h_tried, .int r20])), (h_body, .inr (0, [.ref h_body_words])), (h_body_words, .inl (cJ, 7, .inr (.inl z_body_words))), (h_disk_words, .inl (cJ, 1600, .inr (.inl z_disk_words))), (h_keys, .inl (cJ, 801, .inr (.inl z_keys))), (h_tried, .inl (cI, 200, .inl z_tried_L33)), (h_disk, .inr (1, [.ref h_disk_words, .long z_disk_cellKey, .int z_disk_cellPage, .int z_disk_stepsDone]))] H := hP
          have hD : va_D A [(h0, .inr (4, [.ref h_disk, .ref h_body, .ref h_keys, .int 0, .ref h_tried, .int r20])), (h_body, .inr (0, [.ref h_body_words])), (h_body_words, .inl (cJ, 7, .inr (.inl z_body_words))), (h_disk_words, .inl (cJ, 1600, .inr (.inl z_disk_words))), (h_keys, .inl (cJ, 801, .inr (.inl z_keys))), (h_tried, .inl (cI, 200, .inl z_tried_L33)), (h_disk, .inr (1, [.ref h_disk_words, .long z_disk_cellKey, .int z_disk_cellPage, .int z_disk_stepsDone]))] := hD
          have hF := bnd1_eq hw hF
          have hq_61_0 : 0 ≤ (0 : Int32).toInt := by decide
          have hq_61_1 : (0 : Int32).toInt ≤ 801 := by decide
          refine st_callv (wr := [(h_body, .inr (0, [.ref h_body_words])), (h_body_words, .inl (cJ, 7, .inr (.inl z_body_words))), (h_disk_words, .inl (cJ, 1600, .inr (.inl z_disk_words))), (h_tried, .inl (cI, 200, .inl z_tried_L33)), (h_disk, .inr (1, [.ref h_disk_words, .long z_disk_cellKey, .int z_disk_cellPage, .int z_disk_stepsDone]))]) (va_runV (As := [.long r58]) (rest := []) ⟨hx, hb, hml, hown, hts⟩ (ct_X4_learn l dC dI cJ cI cB cZ h0 h_keys h_disk h_body h_tried 0 r20 z_keys r58 hq_61_0 hq_61_1 H.size) (cwV 1 hts gX4_refresh_X4_learn rfl rfl rfl (by decide +kernel) ⟨Nat.le_of_ble_eq_true rfl, Nat.le_of_ble_eq_true rfl⟩) (st_preV (ci := 4) (q0 := 0) hK hP hD hN [0, 4] rfl (by decide) rfl rfl rfl) rfl rfl hl.1 rfl (lv_room (Nat.le_of_ble_eq_true rfl)) dX4_refresh_61 ⟨Nat.le_of_ble_eq_true rfl, Nat.le_of_ble_eq_true rfl⟩) hP hD hS hA [0, 4] [1, 2, 3, 5, 6] rfl rfl (by decide) (by decide) (fun u H locs hw hP hD hS => ?_)
          obtain ⟨y61_0, y61_1⟩ := u
          have hP : va_P (dC, dI) vwCl [(h_body, .inr (0, [.ref h_body_words])), (h_body_words, .inl (cJ, 7, .inr (.inl z_body_words))), (h_disk_words, .inl (cJ, 1600, .inr (.inl z_disk_words))), (h_tried, .inl (cI, 200, .inl z_tried_L33)), (h_disk, .inr (1, [.ref h_disk_words, .long z_disk_cellKey, .int z_disk_cellPage, .int z_disk_stepsDone])), (h0, .inr (4, [.ref h_disk, .ref h_body, .ref h_keys, .int y61_0, .ref h_tried, .int r20])), (h_keys, .inl (cJ, 801, .inr (.inl y61_1)))] H := hP
          have hD : va_D A [(h_body, .inr (0, [.ref h_body_words])), (h_body_words, .inl (cJ, 7, .inr (.inl z_body_words))), (h_disk_words, .inl (cJ, 1600, .inr (.inl z_disk_words))), (h_tried, .inl (cI, 200, .inl z_tried_L33)), (h_disk, .inr (1, [.ref h_disk_words, .long z_disk_cellKey, .int z_disk_cellPage, .int z_disk_stepsDone])), (h0, .inr (4, [.ref h_disk, .ref h_body, .ref h_keys, .int y61_0, .ref h_tried, .int r20])), (h_keys, .inl (cJ, 801, .inr (.inl y61_1)))] := hD
          have hF := bnd2_eq hw hF
          have q61 := lm_learn (by decide) (by decide) hw
          refine lv_iconst (v := 1) hx hb dX4_refresh_64 (by decide) ?_
          refine lv_istore_n (lv' := [(1, .int 1), (0, .ref h0)]) hx hb dX4_refresh_65 rfl hl (by decide) rfl (fun ls hl => ?_)
          refine lv_iconst (v := 0) hx hb dX4_refresh_66 (by decide) ?_
          refine lv_istore_n (lv' := [(2, .int 0), (1, .int 1), (0, .ref h0)]) hx hb dX4_refresh_67 rfl hl (by decide) rfl (fun ls hl => ?_)
          have lp_68 : ∀ (n68 : Nat) (z_length_L68 : Int32) (z_body_words_L68 : Nat → Int64) (z_keys_L68 : Nat → Int64) (z_tried_L68 : Nat → Int32) (v1_L68 : Int32) (v2_L68 : Int32), (∃ j68 : Nat, v2_L68 = nI j68 ∧ j68 ≤ 201 ∧ 201 < j68 + n68 ∧ okb v1_L68 ∧ 0 ≤ z_length_L68.toInt ∧ z_length_L68.toInt ≤ 801 ∧ (∀ q, q < 200 → 0 ≤ (z_tried_L68 q).toInt)) → ∀ (H : Heap) (locs : List Loc), va_P (dC, dI) vwCl [(h_body, .inr (0, [.ref h_body_words])), (h_body_words, .inl (cJ, 7, .inr (.inl z_body_words_L68))), (h_disk_words, .inl (cJ, 1600, .inr (.inl z_disk_words))), (h_tried, .inl (cI, 200, .inl z_tried_L68)), (h_disk, .inr (1, [.ref h_disk_words, .long z_disk_cellKey, .int z_disk_cellPage, .int z_disk_stepsDone])), (h0, .inr (4, [.ref h_disk, .ref h_body, .ref h_keys, .int z_length_L68, .ref h_tried, .int r20])), (h_keys, .inl (cJ, 801, .inr (.inl z_keys_L68)))] H → va_D A [(h_body, .inr (0, [.ref h_body_words])), (h_body_words, .inl (cJ, 7, .inr (.inl z_body_words_L68))), (h_disk_words, .inl (cJ, 1600, .inr (.inl z_disk_words))), (h_tried, .inl (cI, 200, .inl z_tried_L68)), (h_disk, .inr (1, [.ref h_disk_words, .long z_disk_cellKey, .int z_disk_cellPage, .int z_disk_stepsDone])), (h0, .inr (4, [.ref h_disk, .ref h_body, .ref h_keys, .int z_length_L68, .ref h_tried, .int r20])), (h_keys, .inl (cJ, 801, .inr (.inl z_keys_L68)))] → va_S A s.heap H locs → ∀ (ls : Array Slot), lv_has ls 3 [(0, .ref h0), (1, .int v1_L68), (2, .int v2_L68)] → FR = fn_X4_refresh_L68 n68 z_length_L68 r20 z_body_words_L68 z_disk_cellKey z_disk_stepsDone z_disk_words z_keys_L68 z_tried_L68 v1_L68 v2_L68 → W p l e (headSpec wsX4_refresh { frames := 4, cells := 0, slots := 0, locals := 102 }).room s m ([.ref h0] : List Value).toArray below meth c H locs 0 0 (MQ below (va_Qv (fun (u : Int32 × Int32 × (Nat → Int64) × (Nat → Int64) × (Nat → Int32)) => fn_X4_refresh z_length z_stepsSeen z_body_words z_disk_cellKey z_disk_stepsDone z_disk_words z_keys z_tried = (u.1, u.2.1, u.2.2.1, u.2.2.2.1, u.2.2.2.2)) (fun (u : Int32 × Int32 × (Nat → Int64) × (Nat → Int64) × (Nat → Int32)) t => st_W (dC, dI) (ty4 cJ cI cB cZ) [(h0, .inr (4, [.ref h_disk, .ref h_body, .ref h_keys, .int z_length, .ref h_tried, .int z_stepsSeen])), (h_body, .inr (0, [.ref h_body_words])), (h_body_words, .inl (cJ, 7, .inr (.inl z_body_words))), (h_disk, .inr (1, [.ref h_disk_words, .long z_disk_cellKey, .int z_disk_cellPage, .int z_disk_stepsDone])), (h_disk_words, .inl (cJ, 1600, .inr (.inl z_disk_words))), (h_keys, .inl (cJ, 801, .inr (.inl z_keys))), (h_tried, .inl (cI, 200, .inl z_tried))] s.heap.size [(h0, .inr (4, [.ref h_disk, .ref h_body, .ref h_keys, .int u.1, .ref h_tried, .int u.2.1])), (h_body, .inr (0, [.ref h_body_words])), (h_body_words, .inl (cJ, 7, .inr (.inl u.2.2.1))), (h_disk, .inr (1, [.ref h_disk_words, .long z_disk_cellKey, .int z_disk_cellPage, .int z_disk_stepsDone])), (h_disk_words, .inl (cJ, 1600, .inr (.inl z_disk_words))), (h_keys, .inl (cJ, 801, .inr (.inl u.2.2.2.1))), (h_tried, .inl (cI, 200, .inl u.2.2.2.2))] t) (va_A [(h0, .inr (4, [.ref h_disk, .ref h_body, .ref h_keys, .int z_length, .ref h_tried, .int z_stepsSeen])), (h_body, .inr (0, [.ref h_body_words])), (h_body_words, .inl (cJ, 7, .inr (.inl z_body_words))), (h_disk, .inr (1, [.ref h_disk_words, .long z_disk_cellKey, .int z_disk_cellPage, .int z_disk_stepsDone])), (h_disk_words, .inl (cJ, 1600, .inr (.inl z_disk_words))), (h_keys, .inl (cJ, 801, .inr (.inl z_keys))), (h_tried, .inl (cI, 200, .inl z_tried))] s.heap.size)) ([.ref h0] : List Value).toArray s 0 0 (va_A [(h0, .inr (4, [.ref h_disk, .ref h_body, .ref h_keys, .int z_length, .ref h_tried, .int z_stepsSeen])), (h_body, .inr (0, [.ref h_body_words])), (h_body_words, .inl (cJ, 7, .inr (.inl z_body_words))), (h_disk, .inr (1, [.ref h_disk_words, .long z_disk_cellKey, .int z_disk_cellPage, .int z_disk_stepsDone])), (h_disk_words, .inl (cJ, 1600, .inr (.inl z_disk_words))), (h_keys, .inl (cJ, 801, .inr (.inl z_keys))), (h_tried, .inl (cI, 200, .inl z_tried))] s.heap.size)) (F0 m 68 ls []) := by
            intro n68
            induction n68 with
            | zero =>
              intro z_length_L68 z_body_words_L68 z_keys_L68 z_tried_L68 v1_L68 v2_L68 hI
              exact absurd hI (by rintro ⟨j, -, h1, h2, -⟩; omega)
            | succ n68 ih_68 =>
              intro z_length_L68 z_body_words_L68 z_keys_L68 z_tried_L68 v1_L68 v2_L68 hI H locs hP hD hS ls hl hF
              rw [fn_X4_refresh_L68] at hF
              obtain ⟨j68, ev68, hj68, hn68, hk1, hl0, hl1, htr8⟩ := hI
              refine lv_iload_n hx hb dX4_refresh_68 rfl (lv_at hl 2 rfl) ?_
              refine lv_sipush (v := 200) hx hb dX4_refresh_69 (by decide) ?_
              refine lv_icmp_gt (tgt := 90) hx hb dX4_refresh_72 (by decide) (fun c_72 => ?_) (fun c_72 => ?_)
              · have hF := ite_t c_72 hF
                have hP9 := hP.sub (ws' := [(h0, .inr (4, [.ref h_disk, .ref h_body, .ref h_keys, .int z_length_L68, .ref h_tried, .int r20])), (h_body, .inr (0, [.ref h_body_words])), (h_body_words, .inl (cJ, 7, .inr (.inl z_body_words_L68))), (h_disk, .inr (1, [.ref h_disk_words, .long z_disk_cellKey, .int z_disk_cellPage, .int z_disk_stepsDone])), (h_disk_words, .inl (cJ, 1600, .inr (.inl z_disk_words))), (h_keys, .inl (cJ, 801, .inr (.inl z_keys_L68))), (h_tried, .inl (cI, 200, .inl z_tried_L68))]) [5, 0, 1, 4, 2, 6, 3] rfl
                have hD9 := hD.sub (ws' := [(h0, .inr (4, [.ref h_disk, .ref h_body, .ref h_keys, .int z_length_L68, .ref h_tried, .int r20])), (h_body, .inr (0, [.ref h_body_words])), (h_body_words, .inl (cJ, 7, .inr (.inl z_body_words_L68))), (h_disk, .inr (1, [.ref h_disk_words, .long z_disk_cellKey, .int z_disk_cellPage, .int z_disk_stepsDone])), (h_disk_words, .inl (cJ, 1600, .inr (.inl z_disk_words))), (h_keys, .inl (cJ, 801, .inr (.inl z_keys_L68))), (h_tried, .inl (cI, 200, .inl z_tried_L68))]) [5, 0, 1, 4, 2, 6, 3] (by decide) rfl
                subst hAe
                exact W.vret hx hb hr (fun t ht hW => ⟨⟨(z_length_L68, r20, z_body_words_L68, z_keys_L68, z_tried_L68), rfl, hFR.symm.trans hF, by rw [ht]; exact hP9, va_K.moved hW.alike hK, hD9⟩, hS.F ht⟩) hS.2.2 dX4_refresh_90
              · have hF := ite_f c_72 hF
                have hlt68 : j68 < 201 := q_jgt ev68 (by omega) (by omega) c_72
                refine lv_iload_n hx hb dX4_refresh_75 rfl (lv_at hl 1 rfl) ?_
                refine lv_if_eq (tgt := 90) hx hb dX4_refresh_76 (by decide) (fun c_76 => ?_) (fun c_76 => ?_)
                · have hF := ite_t c_76 hF
                  have hP9 := hP.sub (ws' := [(h0, .inr (4, [.ref h_disk, .ref h_body, .ref h_keys, .int z_length_L68, .ref h_tried, .int r20])), (h_body, .inr (0, [.ref h_body_words])), (h_body_words, .inl (cJ, 7, .inr (.inl z_body_words_L68))), (h_disk, .inr (1, [.ref h_disk_words, .long z_disk_cellKey, .int z_disk_cellPage, .int z_disk_stepsDone])), (h_disk_words, .inl (cJ, 1600, .inr (.inl z_disk_words))), (h_keys, .inl (cJ, 801, .inr (.inl z_keys_L68))), (h_tried, .inl (cI, 200, .inl z_tried_L68))]) [5, 0, 1, 4, 2, 6, 3] rfl
                  have hD9 := hD.sub (ws' := [(h0, .inr (4, [.ref h_disk, .ref h_body, .ref h_keys, .int z_length_L68, .ref h_tried, .int r20])), (h_body, .inr (0, [.ref h_body_words])), (h_body_words, .inl (cJ, 7, .inr (.inl z_body_words_L68))), (h_disk, .inr (1, [.ref h_disk_words, .long z_disk_cellKey, .int z_disk_cellPage, .int z_disk_stepsDone])), (h_disk_words, .inl (cJ, 1600, .inr (.inl z_disk_words))), (h_keys, .inl (cJ, 801, .inr (.inl z_keys_L68))), (h_tried, .inl (cI, 200, .inl z_tried_L68))]) [5, 0, 1, 4, 2, 6, 3] (by decide) rfl
                  subst hAe
                  exact W.vret hx hb hr (fun t ht hW => ⟨⟨(z_length_L68, r20, z_body_words_L68, z_keys_L68, z_tried_L68), rfl, hFR.symm.trans hF, by rw [ht]; exact hP9, va_K.moved hW.alike hK, hD9⟩, hS.F ht⟩) hS.2.2 dX4_refresh_90
                · have hF := ite_f c_76 hF
                  refine lv_aload_n hx hb dX4_refresh_79 rfl (lv_at hl 0 rfl) ?_
                  have hq_80_0 : 0 ≤ z_length_L68.toInt := by exact hl0
                  have hq_80_1 : z_length_L68.toInt ≤ 801 := by exact hl1
                  have hq_80_2 : ∀ q, q < 200 → 0 ≤ (z_tried_L68 q).toInt := by exact htr8
                  refine st_calli (wr := []) (va_runV (As := []) (rest := []) ⟨hx, hb, hml, hown, hts⟩ (ct_X4_askPages l dC dI cJ cI cB cZ h0 h_body h_body_words h_disk h_disk_words h_keys h_tried z_length_L68 r20 z_body_words_L68 z_disk_cellKey z_disk_cellPage z_disk_stepsDone z_disk_words z_keys_L68 z_tried_L68 hq_80_0 hq_80_1 hq_80_2 H.size) (cwV 0 hts gX4_refresh_X4_askPages rfl rfl rfl (by decide +kernel) ⟨Nat.le_of_ble_eq_true rfl, Nat.le_of_ble_eq_true rfl⟩) (st_preV (ci := 4) (q0 := 5) hK hP hD hN [5, 0, 1, 4, 2, 6, 3] rfl (by decide) rfl rfl rfl) rfl rfl hl.1 rfl (lv_room (Nat.le_of_ble_eq_true rfl)) dX4_refresh_80 ⟨Nat.le_of_ble_eq_true rfl, Nat.le_of_ble_eq_true rfl⟩) hP hD hS hA [5, 0, 1, 4, 2, 6, 3] [] rfl rfl (by decide) (by decide) (fun r80 u H locs hw hP hD hS => ?_)
                  obtain ⟨y80_0, y80_1, y80_2, y80_3⟩ := u
                  have hP : va_P (dC, dI) vwCl [(h0, .inr (4, [.ref h_disk, .ref h_body, .ref h_keys, .int y80_0, .ref h_tried, .int r20])), (h_body, .inr (0, [.ref h_body_words])), (h_body_words, .inl (cJ, 7, .inr (.inl y80_1))), (h_disk, .inr (1, [.ref h_disk_words, .long z_disk_cellKey, .int z_disk_cellPage, .int z_disk_stepsDone])), (h_disk_words, .inl (cJ, 1600, .inr (.inl z_disk_words))), (h_keys, .inl (cJ, 801, .inr (.inl y80_2))), (h_tried, .inl (cI, 200, .inl y80_3))] H := hP
                  have hD : va_D A [(h0, .inr (4, [.ref h_disk, .ref h_body, .ref h_keys, .int y80_0, .ref h_tried, .int r20])), (h_body, .inr (0, [.ref h_body_words])), (h_body_words, .inl (cJ, 7, .inr (.inl y80_1))), (h_disk, .inr (1, [.ref h_disk_words, .long z_disk_cellKey, .int z_disk_cellPage, .int z_disk_stepsDone])), (h_disk_words, .inl (cJ, 1600, .inr (.inl z_disk_words))), (h_keys, .inl (cJ, 801, .inr (.inl y80_2))), (h_tried, .inl (cI, 200, .inl y80_3))] := hD
                  obtain ⟨hw, hz_r80⟩ := hw
                  have hF := bnd5_eq hw hF
                  have q80 := lm_askPages hl0 hl1 htr8 hw
                  refine lv_istore_n (lv' := [(1, .int r80), (0, .ref h0), (2, .int v2_L68)]) hx hb dX4_refresh_83 rfl hl (by decide) rfl (fun ls hl => ?_)
                  refine lv_iinc (v := (v2_L68 + 1)) (lv' := [(2, .int (v2_L68 + 1)), (1, .int r80), (0, .ref h0)]) hx hb dX4_refresh_84 hl (k := 2) rfl rfl (by decide) rfl (fun ls hl => ?_)
                  refine lv_goto (tgt := 68) hx hb dX4_refresh_87 (by decide) ?_
                  exact ih_68 y80_0 y80_1 y80_2 y80_3 r80 (v2_L68 + 1) (by exact ⟨j68 + 1, by rw [ev68]; exact nI_1 j68, by omega, by omega, hz_r80, q80.1, q80.2.1, q80.2.2⟩) _ _ (hP.sub [1, 2, 4, 6, 3, 0, 5] rfl) (hD.sub [1, 2, 4, 6, 3, 0, 5] (by decide) rfl) hS _ (lv_sub hl [2, 1, 0] rfl) hF
          exact lp_68 202 y61_0 z_body_words y61_1 z_tried_L33 1 0 (by exact ⟨0, rfl, by omega, by omega, rfl, q61.1, q61.2, fun q h => htr q (by omega)⟩) _ _ hP hD hS _ (lv_sub hl [2, 1, 0] rfl) hF
        · have hF := ite_f c_37 hF
          have hlt33 : j33 < 200 := q_j ev33 (by omega) (by omega) c_37
          refine lv_aload_n hx hb dX4_refresh_40 rfl (lv_at hl 0 rfl) ?_
          refine va_get (D := (dC, dI)) (ci := 4) (v := .ref h_tried) (C := RX4) (T := TX4) (N := 6) hx hb hts (by decide +kernel) hown hK hP 0 rfl rfl 4 (by decide) (hts (.fieldLink RX4 26 "ShredStore$Reach" "tried" "[I") (by decide +kernel)) (fun _ h9 => h9) rfl dX4_refresh_41 ?_
          refine lv_iload_n hx hb dX4_refresh_44 rfl (lv_at hl 1 rfl) ?_
          refine lv_iconst (v := 0) hx hb dX4_refresh_45 (by decide) ?_
          have hr_46 : vp_in v1_L33 200 := by rw [ev33]; exact vp_in_nI (by omega) (by decide)
          refine va_iast hx hb hK hP hD hS 5 1 rfl rfl hr_46 dX4_refresh_46 (fun H locs hP hD hS => ?_)
          have hP : va_P (dC, dI) vwCl [(h0, .inr (4, [.ref h_disk, .ref h_body, .ref h_keys, .int 0, .ref h_tried, .int r20])), (h_body, .inr (0, [.ref h_body_words])), (h_body_words, .inl (cJ, 7, .inr (.inl z_body_words))), (h_disk_words, .inl (cJ, 1600, .inr (.inl z_disk_words))), (h_keys, .inl (cJ, 801, .inr (.inl z_keys))), (h_tried, .inl (cI, 200, .inl (upd z_tried_L33 (v1_L33 : Int32).toNatClampNeg 0))), (h_disk, .inr (1, [.ref h_disk_words, .long z_disk_cellKey, .int z_disk_cellPage, .int z_disk_stepsDone]))] H := hP
          have hD : va_D A [(h0, .inr (4, [.ref h_disk, .ref h_body, .ref h_keys, .int 0, .ref h_tried, .int r20])), (h_body, .inr (0, [.ref h_body_words])), (h_body_words, .inl (cJ, 7, .inr (.inl z_body_words))), (h_disk_words, .inl (cJ, 1600, .inr (.inl z_disk_words))), (h_keys, .inl (cJ, 801, .inr (.inl z_keys))), (h_tried, .inl (cI, 200, .inl (upd z_tried_L33 (v1_L33 : Int32).toNatClampNeg 0))), (h_disk, .inr (1, [.ref h_disk_words, .long z_disk_cellKey, .int z_disk_cellPage, .int z_disk_stepsDone]))] := hD
          refine lv_iinc (v := (v1_L33 + 1)) (lv' := [(1, .int (v1_L33 + 1)), (0, .ref h0)]) hx hb dX4_refresh_47 hl (k := 1) rfl rfl (by decide) rfl (fun ls hl => ?_)
          refine lv_goto (tgt := 33) hx hb dX4_refresh_50 (by decide) ?_
          exact ih_33 (upd z_tried_L33 (v1_L33 : Int32).toNatClampNeg 0) (v1_L33 + 1) (by exact ⟨j33 + 1, by rw [ev33]; exact nI_1 j33, by omega, by omega, q_trz htr ev33 (by omega)⟩) _ _ hP hD hS _ (lv_sub hl [1, 0] rfl) hF
    exact lp_33 201 z_tried 0 (by exact ⟨0, rfl, by omega, by omega, fun q h => absurd h (Nat.not_lt_zero q)⟩) _ _ hP hD hS _ (lv_sub hl [1, 0] rfl) hF
  · have hF := ite_t c_11 hF
    have hP9 := hP.sub (ws' := [(h0, .inr (4, [.ref h_disk, .ref h_body, .ref h_keys, .int z_length, .ref h_tried, .int z_stepsSeen])), (h_body, .inr (0, [.ref h_body_words])), (h_body_words, .inl (cJ, 7, .inr (.inl z_body_words))), (h_disk, .inr (1, [.ref h_disk_words, .long z_disk_cellKey, .int z_disk_cellPage, .int z_disk_stepsDone])), (h_disk_words, .inl (cJ, 1600, .inr (.inl z_disk_words))), (h_keys, .inl (cJ, 801, .inr (.inl z_keys))), (h_tried, .inl (cI, 200, .inl z_tried))]) [0, 1, 2, 6, 3, 4, 5] rfl
    have hD9 := hD.sub (ws' := [(h0, .inr (4, [.ref h_disk, .ref h_body, .ref h_keys, .int z_length, .ref h_tried, .int z_stepsSeen])), (h_body, .inr (0, [.ref h_body_words])), (h_body_words, .inl (cJ, 7, .inr (.inl z_body_words))), (h_disk, .inr (1, [.ref h_disk_words, .long z_disk_cellKey, .int z_disk_cellPage, .int z_disk_stepsDone])), (h_disk_words, .inl (cJ, 1600, .inr (.inl z_disk_words))), (h_keys, .inl (cJ, 801, .inr (.inl z_keys))), (h_tried, .inl (cI, 200, .inl z_tried))]) [0, 1, 2, 6, 3, 4, 5] (by decide) rfl
    subst hAe
    exact W.vret hx hb hr (fun t ht hW => ⟨⟨(z_length, z_stepsSeen, z_body_words, z_keys, z_tried), rfl, hFR.symm.trans hF, by rw [ht]; exact hP9, va_K.moved hW.alike hK, hD9⟩, hS.F ht⟩) hS.2.2 dX4_refresh_14
set_option maxHeartbeats 4000000 in
set_option maxRecDepth 100000 in
theorem ct_X4_keyAt (l : Launch) (dC : Nat → ClassId) (dI : Nat → Nat → Nat) (cJ cI cB cZ : ClassId) (h0 h_keys x_disk x_body x_tried : Nat) (z_length : Int32) (z_stepsSeen : Int32) (z_keys : Nat → Int64) (v1 : Int32) (hp0 : z_length.toInt ≤ 801) (sz : Nat) : Met l yX4_keyAt wsX4_keyAt { frames := 0, cells := 0, slots := 0, locals := 0 } (va_Pc [.ref h0, .int v1] (st_B (dC, dI) (ty4 cJ cI cB cZ) [(h0, .inr (4, [.ref x_disk, .ref x_body, .ref h_keys, .int z_length, .ref x_tried, .int z_stepsSeen])), (h_keys, .inl (cJ, 801, .inr (.inl z_keys)))] sz)) (va_Ql (fun (r : Int64) (u : Unit) => fn_X4_keyAt z_length z_keys v1 = r) (fun (u : Unit) t => st_W (dC, dI) (ty4 cJ cI cB cZ) [(h0, .inr (4, [.ref x_disk, .ref x_body, .ref h_keys, .int z_length, .ref x_tried, .int z_stepsSeen])), (h_keys, .inl (cJ, 801, .inr (.inl z_keys)))] sz [(h0, .inr (4, [.ref x_disk, .ref x_body, .ref h_keys, .int z_length, .ref x_tried, .int z_stepsSeen])), (h_keys, .inl (cJ, 801, .inr (.inl z_keys)))] t) (va_A [(h0, .inr (4, [.ref x_disk, .ref x_body, .ref h_keys, .int z_length, .ref x_tried, .int z_stepsSeen])), (h_keys, .inl (cJ, 801, .inr (.inl z_keys)))] sz)) 0 0 (va_A [(h0, .inr (4, [.ref x_disk, .ref x_body, .ref h_keys, .int z_length, .ref x_tried, .int z_stepsSeen])), (h_keys, .inl (cJ, 801, .inr (.inl z_keys)))] sz) := by
  refine Met.ofW (cc := cX4_keyAt) (maxL := 2) (ret := (some .long)) (by decide) rfl ?_
  intro p e s m args below meth c s₁ B hml hv
  obtain ⟨rfl, hsz, hP, hK, hD0, hN⟩ := hv
  have hx := B.exec
  have hb := B.bytes
  have hr := B.returns
  have hts := atoms_spec (ws := wsX4_keyAt) B.pre
  have hown : s.vm.findClass RX4 = some m.cls := findClass_of_methodNamed B.named
  have hlocks := B.notSynchronized
  subst hsz
  obtain ⟨A, hAe⟩ : ∃ z, z = va_A [(h0, .inr (4, [.ref x_disk, .ref x_body, .ref h_keys, .int z_length, .ref x_tried, .int z_stepsSeen])), (h_keys, .inl (cJ, 801, .inr (.inl z_keys)))] s.heap.size := ⟨_, rfl⟩
  have hD : va_D A [(h0, .inr (4, [.ref x_disk, .ref x_body, .ref h_keys, .int z_length, .ref x_tried, .int z_stepsSeen])), (h_keys, .inl (cJ, 801, .inr (.inl z_keys)))] := by rw [hAe]; exact hD0.self
  have hA : ∀ q : Nat, s.heap.size ≤ q → A q := fun q h => by rw [hAe]; exact Or.inr h
  have hS : va_S A s.heap s.heap [] := va_S.rf
  have hP : va_P (dC, dI) vwCl [(h0, .inr (4, [.ref x_disk, .ref x_body, .ref h_keys, .int z_length, .ref x_tried, .int z_stepsSeen])), (h_keys, .inl (cJ, 801, .inr (.inl z_keys)))] s.heap := hP
  have hl := lv_entry ([.ref h0, .int v1]) (n := 2) (Nat.le_of_ble_eq_true rfl)
  rw [lg_entry_eq]
  generalize (lg_sl ([.ref h0, .int v1]) ++ List.replicate (2 - (lg_sl ([.ref h0, .int v1])).length) Slot.unset).toArray = ls at hl ⊢
  have hl : lv_has ls 2 [(0, .ref h0), (1, .int v1)] := hl
  obtain ⟨FR, hFR⟩ : ∃ z, z = fn_X4_keyAt z_length z_keys v1 := ⟨_, rfl⟩
  have hF := hFR
  unfold fn_X4_keyAt at hF
  refine lv_iload_n hx hb dX4_keyAt_0 rfl (lv_at hl 1 rfl) ?_
  refine lv_if_lt (tgt := 12) hx hb dX4_keyAt_1 (by decide) (fun c_1 => ?_) (fun c_1 => ?_)
  · have hF := ite_t c_1 hF
    refine lv_lconst (v := 0) hx hb dX4_keyAt_12 (by decide) ?_
    refine lv_goto (tgt := 22) hx hb dX4_keyAt_13 (by decide) ?_
    have hP9 := hP.sub (ws' := [(h0, .inr (4, [.ref x_disk, .ref x_body, .ref h_keys, .int z_length, .ref x_tried, .int z_stepsSeen])), (h_keys, .inl (cJ, 801, .inr (.inl z_keys)))]) [0, 1] rfl
    have hD9 := hD.sub (ws' := [(h0, .inr (4, [.ref x_disk, .ref x_body, .ref h_keys, .int z_length, .ref x_tried, .int z_stepsSeen])), (h_keys, .inl (cJ, 801, .inr (.inl z_keys)))]) [0, 1] (by decide) rfl
    subst hAe
    exact W.lret (v := 0) hx hb hr (fun t ht hW => ⟨⟨0, (), rfl, hFR.symm.trans hF, by rw [ht]; exact hP9, va_K.moved hW.alike hK, hD9⟩, hS.F ht⟩) hS.2.2 dX4_keyAt_22
  · have hF := ite_f c_1 hF
    refine lv_iload_n hx hb dX4_keyAt_4 rfl (lv_at hl 1 rfl) ?_
    refine lv_aload_n hx hb dX4_keyAt_5 rfl (lv_at hl 0 rfl) ?_
    refine va_get (D := (dC, dI)) (ci := 4) (v := .int z_length) (C := RX4) (T := TX4) (N := 6) hx hb hts (by decide +kernel) hown hK hP 0 rfl rfl 3 (by decide) (hts (.fieldLink RX4 22 "ShredStore$Reach" "length" "I") (by decide +kernel)) (fun _ h9 => h9) rfl dX4_keyAt_6 ?_
    refine lv_icmp_lt (tgt := 16) hx hb dX4_keyAt_9 (by decide) (fun c_9 => ?_) (fun c_9 => ?_)
    · have hF := ite_t c_9 hF
      refine lv_aload_n hx hb dX4_keyAt_16 rfl (lv_at hl 0 rfl) ?_
      refine va_get (D := (dC, dI)) (ci := 4) (v := .ref h_keys) (C := RX4) (T := TX4) (N := 6) hx hb hts (by decide +kernel) hown hK hP 0 rfl rfl 2 (by decide) (hts (.fieldLink RX4 18 "ShredStore$Reach" "keys" "[J") (by decide +kernel)) (fun _ h9 => h9) rfl dX4_keyAt_17 ?_
      refine lv_iload_n hx hb dX4_keyAt_20 rfl (lv_at hl 1 rfl) ?_
      have hr_21 : vp_in v1 801 := by exact q_i5 c_1 c_9 hp0
      refine va_lald hx hb hK hP 1 0 rfl rfl hr_21 dX4_keyAt_21 ?_
      have hP9 := hP.sub (ws' := [(h0, .inr (4, [.ref x_disk, .ref x_body, .ref h_keys, .int z_length, .ref x_tried, .int z_stepsSeen])), (h_keys, .inl (cJ, 801, .inr (.inl z_keys)))]) [0, 1] rfl
      have hD9 := hD.sub (ws' := [(h0, .inr (4, [.ref x_disk, .ref x_body, .ref h_keys, .int z_length, .ref x_tried, .int z_stepsSeen])), (h_keys, .inl (cJ, 801, .inr (.inl z_keys)))]) [0, 1] (by decide) rfl
      subst hAe
      exact W.lret (v := (z_keys (v1 : Int32).toNatClampNeg)) hx hb hr (fun t ht hW => ⟨⟨(z_keys (v1 : Int32).toNatClampNeg), (), rfl, hFR.symm.trans hF, by rw [ht]; exact hP9, va_K.moved hW.alike hK, hD9⟩, hS.F ht⟩) hS.2.2 dX4_keyAt_22
    · have hF := ite_f c_9 hF
      refine lv_lconst (v := 0) hx hb dX4_keyAt_12 (by decide) ?_
      refine lv_goto (tgt := 22) hx hb dX4_keyAt_13 (by decide) ?_
      have hP9 := hP.sub (ws' := [(h0, .inr (4, [.ref x_disk, .ref x_body, .ref h_keys, .int z_length, .ref x_tried, .int z_stepsSeen])), (h_keys, .inl (cJ, 801, .inr (.inl z_keys)))]) [0, 1] rfl
      have hD9 := hD.sub (ws' := [(h0, .inr (4, [.ref x_disk, .ref x_body, .ref h_keys, .int z_length, .ref x_tried, .int z_stepsSeen])), (h_keys, .inl (cJ, 801, .inr (.inl z_keys)))]) [0, 1] (by decide) rfl
      subst hAe
      exact W.lret (v := 0) hx hb hr (fun t ht hW => ⟨⟨0, (), rfl, hFR.symm.trans hF, by rw [ht]; exact hP9, va_K.moved hW.alike hK, hD9⟩, hS.F ht⟩) hS.2.2 dX4_keyAt_22
set_option maxHeartbeats 4000000 in
set_option maxRecDepth 100000 in
theorem ct_X4_length (l : Launch) (dC : Nat → ClassId) (dI : Nat → Nat → Nat) (cJ cI cB cZ : ClassId) (h0 x_disk x_body x_keys x_tried : Nat) (z_length : Int32) (z_stepsSeen : Int32) (sz : Nat) : Met l yX4_length wsX4_length { frames := 0, cells := 0, slots := 0, locals := 0 } (va_Pc [.ref h0] (st_B (dC, dI) (ty4 cJ cI cB cZ) [(h0, .inr (4, [.ref x_disk, .ref x_body, .ref x_keys, .int z_length, .ref x_tried, .int z_stepsSeen]))] sz)) (va_Qi (fun (r : Int32) (u : Unit) => fn_X4_length z_length = r) (fun (u : Unit) t => st_W (dC, dI) (ty4 cJ cI cB cZ) [(h0, .inr (4, [.ref x_disk, .ref x_body, .ref x_keys, .int z_length, .ref x_tried, .int z_stepsSeen]))] sz [(h0, .inr (4, [.ref x_disk, .ref x_body, .ref x_keys, .int z_length, .ref x_tried, .int z_stepsSeen]))] t) (va_A [(h0, .inr (4, [.ref x_disk, .ref x_body, .ref x_keys, .int z_length, .ref x_tried, .int z_stepsSeen]))] sz)) 0 0 (va_A [(h0, .inr (4, [.ref x_disk, .ref x_body, .ref x_keys, .int z_length, .ref x_tried, .int z_stepsSeen]))] sz) := by
  refine Met.ofW (cc := cX4_length) (maxL := 1) (ret := (some .int)) (by decide) rfl ?_
  intro p e s m args below meth c s₁ B hml hv
  obtain ⟨rfl, hsz, hP, hK, hD0, hN⟩ := hv
  have hx := B.exec
  have hb := B.bytes
  have hr := B.returns
  have hts := atoms_spec (ws := wsX4_length) B.pre
  have hown : s.vm.findClass RX4 = some m.cls := findClass_of_methodNamed B.named
  have hlocks := B.notSynchronized
  subst hsz
  obtain ⟨A, hAe⟩ : ∃ z, z = va_A [(h0, .inr (4, [.ref x_disk, .ref x_body, .ref x_keys, .int z_length, .ref x_tried, .int z_stepsSeen]))] s.heap.size := ⟨_, rfl⟩
  have hD : va_D A [(h0, .inr (4, [.ref x_disk, .ref x_body, .ref x_keys, .int z_length, .ref x_tried, .int z_stepsSeen]))] := by rw [hAe]; exact hD0.self
  have hA : ∀ q : Nat, s.heap.size ≤ q → A q := fun q h => by rw [hAe]; exact Or.inr h
  have hS : va_S A s.heap s.heap [] := va_S.rf
  have hP : va_P (dC, dI) vwCl [(h0, .inr (4, [.ref x_disk, .ref x_body, .ref x_keys, .int z_length, .ref x_tried, .int z_stepsSeen]))] s.heap := hP
  have hl := lv_entry ([.ref h0]) (n := 1) (Nat.le_of_ble_eq_true rfl)
  rw [lg_entry_eq]
  generalize (lg_sl ([.ref h0]) ++ List.replicate (1 - (lg_sl ([.ref h0])).length) Slot.unset).toArray = ls at hl ⊢
  have hl : lv_has ls 1 [(0, .ref h0)] := hl
  obtain ⟨FR, hFR⟩ : ∃ z, z = fn_X4_length z_length := ⟨_, rfl⟩
  have hF := hFR
  unfold fn_X4_length at hF
  refine lv_aload_n hx hb dX4_length_0 rfl (lv_at hl 0 rfl) ?_
  refine va_get (D := (dC, dI)) (ci := 4) (v := .int z_length) (C := RX4) (T := TX4) (N := 6) hx hb hts (by decide +kernel) hown hK hP 0 rfl rfl 3 (by decide) (hts (.fieldLink RX4 22 "ShredStore$Reach" "length" "I") (by decide +kernel)) (fun _ h9 => h9) rfl dX4_length_1 ?_
  have hP9 := hP.sub (ws' := [(h0, .inr (4, [.ref x_disk, .ref x_body, .ref x_keys, .int z_length, .ref x_tried, .int z_stepsSeen]))]) [0] rfl
  have hD9 := hD.sub (ws' := [(h0, .inr (4, [.ref x_disk, .ref x_body, .ref x_keys, .int z_length, .ref x_tried, .int z_stepsSeen]))]) [0] (by decide) rfl
  subst hAe
  exact W.iret (v := z_length) hx hb hr (fun t ht hW => ⟨⟨z_length, (), rfl, hFR.symm.trans hF, by rw [ht]; exact hP9, va_K.moved hW.alike hK, hD9⟩, hS.F ht⟩) hS.2.2 dX4_length_4
