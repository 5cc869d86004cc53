/-! what holds of both sides between two calls -/
def RC (M : Nat → Int32) (ck : Int64) (n : Int32) (ks : Nat → Int64) : Prop := ∃ b, RepL (iterL M (if ck = 0 then [] else [ck]) b) ks n ∧ passL M (iterL M (if ck = 0 then [] else [ck]) b) 200 = iterL M (if ck = 0 then [] else [ck]) b ∧ (iterL M (if ck = 0 then [] else [ck]) b).length ≤ 801
def SIr (rl : Int32) (rk : Nat → Int64) (rml tpl : Int32) : Prop := (∃ n, n ≤ 40 ∧ rl = nI n ∧ ∀ i, i < n → ¬ rk i = 0) ∧ (∃ n, n ≤ 3000 ∧ rml = nI n) ∧ ∃ n, n ≤ 96 ∧ tpl = nI n
def SId (t : Nat) (ck : Int64) (cp sd : Int32) (W : Nat → Int64) (M : Nat → Int32) (lc oc tss : Int32) (tkk : Nat → Int64) (tlk tlv : Nat → Int32) (rln rss : Int32) (rkk : Nat → Int64) : Prop :=
  BR 12800 W M ∧ WB M (5 * t) ∧ (∃ n, n ≤ 21 * t ∧ sd = nI n ∧ tss.toInt ≤ (n : Int) ∧ rss.toInt ≤ (n : Int)) ∧ (∃ (K : Nat → Int64) (L : Nat → Int32), TI M ck cp K L ∧ (tss = sd → TR M K L lc oc tkk tlk tlv)) ∧ (rss = sd → RC M ck rln rkk) ∧ 0 ≤ rln.toInt ∧ rln.toInt ≤ 801
def SIp (on la lm : Int32) : Prop := vp_in la 200 ∧ (lm = (-1) ∨ vp_in lm 200) ∧ (on = 1 → ∃ lc, lc < 200 ∧ la = nI lc ∧ ((lm = (-1) ∧ lc = 199) ∨ lm = nI lc))
def SI (t : Nat) (on rl : Int32) (rk : Nat → Int64) (rml tpl : Int32) (ck : Int64) (cp sd : Int32) (W : Nat → Int64) (M : Nat → Int32) (lc oc tss : Int32) (tkk : Nat → Int64) (tlk tlv : Nat → Int32) (rln rss : Int32) (rkk : Nat → Int64) (la lm : Int32) : Prop :=
  (on = 0 ∨ on = 1) ∧ SIr rl rk rml tpl ∧ SId t ck cp sd W M lc oc tss tkk tlk tlv rln rss rkk ∧ SIp on la lm
section SIS
variable {t : Nat} {on rl : Int32} {rk : Nat → Int64} {rml tpl : Int32} {ck : Int64} {cp sd : Int32} {W : Nat → Int64} {M : Nat → Int32} {lc oc tss : Int32} {tkk : Nat → Int64} {tlk tlv : Nat → Int32} {rln rss : Int32} {rkk : Nat → Int64} {la lm : Int32}
theorem SId.up (h : SId t ck cp sd W M lc oc tss tkk tlk tlv rln rss rkk) : SId (t + 1) ck cp sd W M lc oc tss tkk tlk tlv rln rss rkk := by
  obtain ⟨h1, h2, ⟨n, h3, h4⟩, h5⟩ := h
  exact ⟨h1, fun p hp => Nat.le_trans (h2 p hp) (by omega), ⟨n, by omega, h4⟩, h5⟩
theorem SI.up (h : SI t on rl rk rml tpl ck cp sd W M lc oc tss tkk tlk tlv rln rss rkk la lm) : SI (t + 1) on rl rk rml tpl ck cp sd W M lc oc tss tkk tlk tlv rln rss rkk la lm := ⟨h.1, h.2.1, h.2.2.1.up, h.2.2.2⟩
theorem SId.w (h : SId t ck cp sd W M lc oc tss tkk tlk tlv rln rss rkk) (ht : t ≤ 600) : ∀ p, p < 200 → bt (pWrit M p) 31 = false := fun _ hp => h.2.1.b31 (by omega) hp
/-- supply -/
theorem sup_L {m : Nat} (hm : m ≤ 3000) {rm : Nat → Int64} {v : Int64} : ∀ (n c j : Nat) (x : Int32), x = nI j → j + c = m → c < n → fn_X9_supply_L26 n on rl (nI m) rk rm v x = if fn_X2_wasSupplied_L2 n (nI m) rm v x = 0 then (if 3000 ≤ nI m then (1, (rl + 1), nI m, (vp_updL rk (rl : Int32).toNatClampNeg v), rm) else (1, (rl + 1), (nI m + 1), (vp_updL rk (rl : Int32).toNatClampNeg v), (vp_updL rm (nI m : Int32).toNatClampNeg v))) else (0, rl, nI m, rk, rm) := by
  intro n
  induction n with
  | zero => intro c j x hx hj hc; omega
  | succ n ih =>
    intro c j x hx hj hc
    rw [fn_X9_supply_L26, fn_X2_wasSupplied_L2]
    cases c with
    | zero =>
      have e : nI m ≤ x := by rw [hx]; exact nI_le (by omega) (by omega)
      rw [if_pos e, if_pos e, if_pos rfl]
    | succ c =>
      have e : ¬ nI m ≤ x := by rw [hx]; exact nI_ge (by omega) (by omega)
      rw [if_neg e, if_neg e]
      by_cases a : lg_cmp (rm (x : Int32).toNatClampNeg) v = 0
      · rw [if_pos a, if_pos a, if_neg (show ¬ (1 : Int32) = 0 by decide)]
      · rw [if_neg a, if_neg a]
        exact ih c (j + 1) _ (by rw [hx]; exact nI_1 j) (by omega) (by omega)
theorem si_supply (h : SI t on rl rk rml tpl ck cp sd W M lc oc tss tkk tlk tlv rln rss rkk la lm) (rm : Nat → Int64) (v : Int64) : ∃ (r rl' rml' : Int32) (rk' rm' : Nat → Int64), fn_X8_supply on rl rml rk rm v = (r, rl', rml', rk', rm') ∧ fn_X9_supply on rl rml rk rm v = (r, rl', rml', rk', rm') ∧ SI (t + 1) on rl' rk' rml' tpl ck cp sd W M lc oc tss tkk tlk tlv rln rss rkk la lm := by
  obtain ⟨n, hn, en, hnz⟩ := h.2.1.1
  obtain ⟨m, hm, em⟩ := h.2.1.2.1
  unfold fn_X8_supply fn_X9_supply
  rw [bnd1, show fn_X3_isOn on = on from rfl]
  by_cases ho : on = 0
  · rw [if_pos ho, if_pos ho]
    exact ⟨_, _, _, _, _, rfl, rfl, h.up⟩
  · rw [if_neg ho, if_neg ho, bnd5]
    unfold fn_X2_accept
    by_cases hv : lg_cmp v 0 = 0
    · rw [if_pos hv, if_pos hv, if_pos rfl]
      exact ⟨_, _, _, _, _, rfl, rfl, h.up⟩
    · rw [if_neg hv, if_neg hv]
      by_cases h40 : n = 40
      · rw [if_pos (show 40 ≤ rl by rw [en, h40]; decide), if_pos (show rl = 40 by rw [en, h40]; rfl), if_pos rfl]
        exact ⟨_, _, _, _, _, rfl, rfl, h.up⟩
      · rw [if_neg (show ¬ 40 ≤ rl by rw [en]; exact nI_ge (b := 40) (by omega) (by omega)), if_neg (show ¬ rl = 40 from fun e => h40 ((nI_eq (b := 40) (by omega) (by decide)).mp (en.symm.trans e))), bnd1]
        have e1 := sup_L (on := on) (rl := rl) (rk := rk) (rm := rm) (v := v) hm 3001 m 0 0 rfl (by omega) (by omega)
        rw [em, e1]
        unfold fn_X2_wasSupplied
        have hnew : SIr (rl + 1) (vp_updL rk (rl : Int32).toNatClampNeg v) (nI m) tpl ∧ (m < 3000 → SIr (rl + 1) (vp_updL rk (rl : Int32).toNatClampNeg v) (nI m + 1) tpl) := by
          have q : ∃ n, n ≤ 40 ∧ rl + 1 = nI n ∧ ∀ i, i < n → ¬ vp_updL rk (rl : Int32).toNatClampNeg v i = 0 := by
            refine ⟨n + 1, by omega, by rw [en, nI_1], fun i hi => ?_⟩
            rw [en, nI_clamp (by omega)]
            by_cases a : i = n
            · subst a; rw [pk_uLs]; exact fun e => hv (lgc0.mpr e)
            · rw [pk_uLn a]; exact hnz i (by omega)
          exact ⟨⟨q, ⟨m, hm, rfl⟩, h.2.1.2.2⟩, fun hlt => ⟨q, ⟨m + 1, hlt, nI_1 m⟩, h.2.1.2.2⟩⟩
        by_cases hw : fn_X2_wasSupplied_L2 3001 (nI m) rm v 0 = 0
        · rw [if_pos hw]
          by_cases h3 : 3000 ≤ m
          · rw [if_pos (show 3000 ≤ nI m from nI_le (a := 3000) h3 (by omega)), if_neg (show ¬ (1 : Int32) = 0 by decide)]
            exact ⟨_, _, _, _, _, rfl, rfl, h.1, hnew.1, h.2.2.1.up, h.2.2.2⟩
          · rw [if_neg (show ¬ 3000 ≤ nI m from nI_ge (b := 3000) (by omega) (by omega)), if_neg (show ¬ (1 : Int32) = 0 by decide)]
            exact ⟨_, _, _, _, _, rfl, rfl, h.1, hnew.2 (by omega), h.2.2.1.up, h.2.2.2⟩
        · rw [if_neg hw, if_pos rfl]
          exact ⟨_, _, _, _, _, rfl, rfl, by rw [← em]; exact h.up⟩
/-- feed -/
theorem shr_b (v : Int32) {s : Nat} (hs : s ≤ 24) : ((ju_iushr v (nI s)) : Int32).toInt8.toInt32 = ((v >>> (nI s &&& 31)) : Int32).toInt8.toInt32 := by
  apply b_ext
  intro i hi
  rw [b_i2b _ hi, b_i2b _ hi, b_ushr s (by omega), b_ushr s (by omega), b_sshr s (by omega) _ hi, b_sshr s (by omega) _ (by omega)]
  by_cases a : i < 8
  · rw [if_pos a, if_pos a, if_pos (by omega)]
  · rw [if_neg a, if_neg a, if_pos (by omega)]
theorem feed_L {v : Int32} : ∀ (n j m : Nat) (b : Nat → Int32) (x : Int32), x = nI (8 * j) + (-8) → j ≤ 4 → j < n → m + j ≤ 96 → ∃ b' : Nat → Int32, fn_X5_append_L16 n (nI m) b v x = (1, nI (m + j), b') ∧ fn_X9_feed_L24 n on (nI m) b v x = (nI (m + j), nI (m + j), b') := by
  intro n
  induction n with
  | zero => intro j m b x hx h1 h2; omega
  | succ n ih =>
    intro j m b x hx h1 h2 h3
    rw [fn_X5_append_L16, fn_X9_feed_L24]
    cases j with
    | zero =>
      have e : x < 0 := by rw [hx]; decide
      rw [if_pos e, if_pos e]
      exact ⟨b, rfl, rfl⟩
    | succ j =>
      have ex : x = nI (8 * j) := by
        rw [hx, show 8 * (j + 1) = 8 * j + 8 by omega, ← nI_add, Int32.add_assoc, show nI 8 + (-8) = 0 by decide, show nI (8 * j) + 0 = nI (8 * j) by apply Int32.toBitVec_inj.mp; simp]
      have e : ¬ x < 0 := by rw [ex]; exact nI_pos (by omega)
      rw [if_neg e, if_neg e, ex, shr_b v (by omega), nI_1]
      obtain ⟨b', e1, e2⟩ := ih j (m + 1) (upd b (nI m : Int32).toNatClampNeg (vp_nar .byte (((v >>> (nI (8 * j) &&& 31)) : Int32).toInt8.toInt32))) _ rfl (by omega) (by omega) (by omega)
      rw [show m + 1 + j = m + (j + 1) by omega] at e1 e2
      exact ⟨b', e1, e2⟩
theorem si_feed (h : SI t on rl rk rml tpl ck cp sd W M lc oc tss tkk tlk tlv rln rss rkk la lm) (tb : Nat → Int32) (v : Int32) : ∃ (r tpl' : Int32) (tb' : Nat → Int32), fn_X8_feed on tpl tb v = (r, tpl', tb') ∧ fn_X9_feed on tpl tb v = (r, tpl', tb') ∧ SI (t + 1) on rl rk rml tpl' ck cp sd W M lc oc tss tkk tlk tlv rln rss rkk la lm := by
  obtain ⟨m, hm, em⟩ := h.2.1.2.2
  unfold fn_X8_feed fn_X9_feed
  rw [bnd1, show fn_X3_isOn on = on from rfl]
  by_cases ho : on = 0
  · rw [if_pos ho, if_pos ho]
    exact ⟨_, _, _, rfl, rfl, h.up⟩
  · rw [if_neg ho, if_neg ho, bnd3]
    unfold fn_X5_append
    have e4 : tpl + 4 = nI (m + 4) := by rw [em, show (4 : Int32) = nI 4 from rfl, nI_add]
    by_cases h4 : m + 4 ≤ 96
    · have q : (tpl + 4) ≤ 96 := by rw [e4]; exact nI_le (b := 96) h4 (by omega)
      obtain ⟨b', e1, e2⟩ := feed_L (on := on) (v := v) 6 4 m tb 24 (by decide) (by decide) (by decide) h4
      rw [if_pos q, if_pos q, em, e1, e2, if_neg (show ¬ (1 : Int32) = 0 by decide), bnd1]
      exact ⟨_, _, _, rfl, rfl, h.1, ⟨h.2.1.1, h.2.1.2.1, ⟨m + 4, h4, rfl⟩⟩, h.2.2.1.up, h.2.2.2⟩
    · have q : ¬ (tpl + 4) ≤ 96 := by rw [e4]; exact nI_ge (a := 96) (by omega) (by omega)
      rw [if_neg q, if_neg q, if_pos rfl]
      exact ⟨_, _, _, rfl, rfl, h.up⟩
/-- cut, arm, power, disk, cell -/
theorem SIr_0 (h : SIr rl rk rml tpl) : SIr 0 rk rml 0 := ⟨⟨0, by decide, rfl, fun i hi => absurd hi (Nat.not_lt_zero i)⟩, h.2.1, ⟨0, by decide, rfl⟩⟩
theorem si_cut (h : SI t on rl rk rml tpl ck cp sd W M lc oc tss tkk tlk tlv rln rss rkk la lm) (left : Int32) : ∃ (r on' left' rl' tpl' : Int32), fn_X8_cut on left rl tpl = (r, on', left', rl', tpl') ∧ fn_X9_cut on left rl tpl = (r, on', left', rl', tpl') ∧ SI (t + 1) on' rl' rk rml tpl' ck cp sd W M lc oc tss tkk tlk tlv rln rss rkk la lm := by
  unfold fn_X8_cut fn_X9_cut
  rw [bnd1, show fn_X3_isOn on = on from rfl]
  by_cases ho : on = 0
  · rw [if_pos ho, if_pos ho]
    exact ⟨_, _, _, _, _, rfl, rfl, h.up⟩
  · rw [if_neg ho, if_neg ho]
    exact ⟨1, 0, (-1), 0, 0, rfl, rfl, Or.inl rfl, SIr_0 h.2.1, h.2.2.1.up, h.2.2.2.1, h.2.2.2.2.1, fun e => absurd e (by decide)⟩
theorem si_arm (h : SI t on rl rk rml tpl ck cp sd W M lc oc tss tkk tlk tlv rln rss rkk la lm) (left v : Int32) : ∃ (r left' : Int32), fn_X8_arm on left v = (r, left') ∧ fn_X9_arm on left v = (r, left') ∧ SI (t + 1) on rl rk rml tpl ck cp sd W M lc oc tss tkk tlk tlv rln rss rkk la lm := by
  unfold fn_X8_arm fn_X9_arm
  rw [bnd1, show fn_X3_isOn on = on from rfl]
  by_cases ho : on = 0
  · rw [if_pos ho, if_pos ho]; exact ⟨_, _, rfl, rfl, h.up⟩
  · rw [if_neg ho, if_neg ho]
    by_cases a : v < 0
    · rw [if_pos a, if_pos a]; exact ⟨_, _, rfl, rfl, h.up⟩
    · rw [if_neg a, if_neg a]
      by_cases b : v ≤ 200
      · rw [if_pos b, if_pos b]; exact ⟨_, _, rfl, rfl, h.up⟩
      · rw [if_neg b, if_neg b]; exact ⟨_, _, rfl, rfl, h.up⟩
theorem si_power (h : SI t on rl rk rml tpl ck cp sd W M lc oc tss tkk tlk tlv rln rss rkk la lm) : ∃ (r on' la' lm' : Int32), fn_X8_power on la = (r, on', la') ∧ fn_X9_power on lm = (r, on', lm') ∧ SI (t + 1) on' rl rk rml tpl ck cp sd W M lc oc tss tkk tlk tlv rln rss rkk la' lm' := by
  unfold fn_X8_power fn_X9_power
  rw [bnd1, show fn_X3_isOn on = on from rfl]
  by_cases ho : on = 0
  · rw [if_pos ho, if_pos ho]
    exact ⟨1, 1, 199, -1, rfl, rfl, Or.inr rfl, h.2.1, h.2.2.1.up, vp_in_nI (n := 199) (N := 200) (by decide) (by decide), Or.inl rfl, fun _ => ⟨199, by decide, rfl, Or.inl ⟨rfl, rfl⟩⟩⟩
  · rw [if_neg ho, if_neg ho]
    exact ⟨_, _, _, _, rfl, rfl, h.up⟩
theorem si_disk (h : SI t on rl rk rml tpl ck cp sd W M lc oc tss tkk tlk tlv rln rss rkk la lm) (v : Int32) : fn_X8_disk W v = fn_X9_disk M v := by
  unfold fn_X8_disk fn_X1_byteAt fn_X9_disk
  rw [bnd1]
  by_cases a : v < 0
  · rw [if_pos a, if_pos a]
  · rw [if_neg a, if_neg a]
    obtain ⟨j, hj, ej⟩ := nI_of a
    subst ej
    by_cases b : j < 12800
    · rw [if_pos (show nI j < 12800 from nI_lt (b := 12800) b (by omega)), if_neg (show ¬ 12800 ≤ nI j from nI_ge (b := 12800) b (by omega)), t_clq (by omega), t_rem8 (by omega), show (56 : Int32) = nI 56 from rfl, h.2.2.1.1.byte b, nI_clamp (by omega)]
      apply b_ext
      intro i hi
      rw [b_l2i _ hi, l_byte _ (by omega), b_and, b_255, Bool.and_comm]
    · rw [if_neg (show ¬ nI j < 12800 from nI_nlt (b := 12800) (by omega) (by omega)), if_pos (show 12800 ≤ nI j from nI_le (a := 12800) (by omega) (by omega))]
theorem si_cell (v : Int32) : fn_X8_cell ck cp v = fn_X9_cell ck cp v := rfl
end SIS
