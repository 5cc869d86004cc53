theorem sim_branch {K : Nat → Int64} {L : Nat → Int32} {o : Nat} {tkk : Nat → Int64} {tl : Nat → Int32} {wk : Nat → Int64} {wp : Nat → Int32} {ck : Int64} {cp ta v1 : Int32} (ho : o < 64) (hv1 : v1 = nI o) (hWI : WI K L o wk wp 3) (hTr : ∀ i, i < 85 → tkk i = K i ∧ (¬ K i = 0 → tl i = L i)) : ∀ (c n n' : Nat) (W bo sh row : Nat → Int64) (M tk us pl wr : Nat → Int32) (ek : Nat → Int64) (ep : Nat → Int32) (la lm : Int32) (B rs : Nat) (pw sd left page x9 x10 x8 : Int32) (key : Int64) (K1 : Nat → Int64) (L1 : Nat → Int32), x9 = nI (pathP o c) → x10 = nI (3 - c) → x8 = nI c + (-1) → c ≤ 3 → c < n → c < n' → PHs W M tk us la lm B → B + c < 1073741823 → c ≤ cnt0 us → c ≤ rs → rs ≤ 40 → (∀ i, i < rs → ¬ row i = 0) → TU M us ck cp K L → Up M us K L o c key page K1 L1 →
    ∃ (W' bo' sh' row' : Nat → Int64) (M' tk' us' pl' wr' : Nat → Int32) (ek' : Nat → Int64) (ep' : Nat → Int32) (la' lm' pw' : Int32), FR M M' us ∧ BR 12800 W' M' ∧ WB M' (B + c) ∧ vp_in la' 200 ∧ (lm' = (-1) ∨ vp_in lm' 200) ∧
      ((∃ (s : Nat) (rl' : Int32), s ≤ 4 * c ∧ fn_X7_writeBranch_L16 n la pw bo ck cp sd W 1 left sh tk tkk tl (nI rs) row key page x9 x10 = (0, la', pw', bo', ck, cp, sd + nI s, W', 0, (-1), sh', tk', rl', row') ∧ fn_X9_branch_L10 n' ck cp 1 left (nI rs) ta lm pw sd M ek ep us pl row wk wp wr v1 key page x8 = (0, ck, cp, 0, (-1), 0, 0, lm', pw', sd + nI s, M', ek', ep', us', pl', row', wr') ∧ (s = 0 → M' = M)) ∨
       (∃ (s rs' : Nat) (left' cp' : Int32) (ck' : Int64) (K' : Nat → Int64) (L' : Nat → Int32), 1 ≤ s ∧ s ≤ 4 * c + 1 ∧ fn_X7_writeBranch_L16 n la pw bo ck cp sd W 1 left sh tk tkk tl (nI rs) row key page x9 x10 = (1, la', pw', bo', ck', cp', sd + nI s, W', 1, left', sh', tk', nI rs', row') ∧ fn_X9_branch_L10 n' ck cp 1 left (nI rs) ta lm pw sd M ek ep us pl row wk wp wr v1 key page x8 = (1, ck', cp', 1, left', nI rs', ta, lm', pw', sd + nI s, M', ek', ep', us', pl', row', wr') ∧ rs' ≤ rs ∧ (∀ i, i < rs' → ¬ row' i = 0) ∧ PHs W' M' tk' us' la' lm' (B + c) ∧ TU M' us' ck' cp' K' L')) := by
  intro c
  induction c with
  | zero =>
    intro n n' W bo sh row M tk us pl wr ek ep la lm B rs pw sd left page x9 x10 x8 key K1 L1 h9 h10 h8 hc3 hn hn' hP hB hcu hrs hrs40 hnz hTU hUp
    obtain ⟨n, rfl⟩ : ∃ m, n = m + 1 := ⟨n - 1, by omega⟩
    obtain ⟨n', rfl⟩ : ∃ m, n' = m + 1 := ⟨n' - 1, by omega⟩
    have e8 : x8 < 0 := by rw [h8]; decide
    have e10 : 3 ≤ x10 := by rw [h10]; decide
    obtain ⟨lc, hlc, hla, hlm⟩ := hP.p
    have q1 : vp_in la 200 := by rw [hla]; exact vp_in_nI hlc (by decide)
    have q2 : lm = (-1) ∨ vp_in lm 200 := hlm.elim (fun h => Or.inl h.1) (fun h => Or.inr (by rw [h]; exact vp_in_nI hlc (by decide)))
    rw [fn_X7_writeBranch_L16, if_pos e10, fn_X9_branch_L10, if_pos e8, bnd3, bnd6]
    rcases sim_step left (nI rs) ta sd with ⟨e1, e2⟩ | ⟨l2, e1, e2⟩
    · rw [e1, e2, if_pos rfl, if_pos rfl]
      exact ⟨W, bo, sh, row, M, tk, us, pl, wr, ek, ep, la, lm, pw, FR.refl _ _, hP.r, hP.b, q1, q2, Or.inl ⟨0, nI rs, by omega, by rw [nI_0, show sd + 0 = sd by apply Int32.toBitVec_inj.mp; simp], by rw [nI_0, show sd + 0 = sd by apply Int32.toBitVec_inj.mp; simp], fun _ => rfl⟩⟩
    · rw [e1, e2, if_neg (show ¬ (1 : Int32) = 0 by decide), if_neg (show ¬ (1 : Int32) = 0 by decide), bnd3]
      exact ⟨W, bo, sh, row, M, tk, us, pl, wr, ek, ep, la, lm, pw, FR.refl _ _, hP.r, hP.b, q1, q2, Or.inr ⟨1, rs, l2, page, key, K1, L1, by omega, by omega, rfl, rfl, Nat.le_refl _, hnz, hP, hUp.2.1.1, hUp.2.1.2, fun p hp => hUp.2.2.1 p hp (fun j hj => absurd hj (Nat.not_lt_zero j)), hUp.2.2.2⟩⟩
  | succ c ih =>
    intro n n' W bo sh row M tk us pl wr ek ep la lm B rs pw sd left page x9 x10 x8 key K1 L1 h9 h10 h8 hc3 hn hn' hP hB hcu hrs hrs40 hnz hTU hUp
    obtain ⟨n, rfl⟩ : ∃ m, n = m + 1 := ⟨n - 1, by omega⟩
    obtain ⟨n', rfl⟩ : ∃ m, n' = m + 1 := ⟨n' - 1, by omega⟩
    have hc : c < 3 := by omega
    have hl := path_lt ho hc
    have hp := path_next ho hc
    have hel := ent_lt ho c
    rw [pk_m1] at h8
    have e8 : ¬ x8 < 0 := by rw [h8]; exact nI_pos (by omega)
    have e10 : ¬ 3 ≤ x10 := by rw [h10]; exact nI_ge (b := 3) (by omega) (by omega)
    have e10' : x10 + 1 = nI (3 - c) := by rw [h10, nI_1]; congr 1; omega
    have e9 : (x9 - 1) / 4 = nI (pathP o c) := by
      rw [h9, hp, show 4 * pathP o c + 1 + ent o c = 4 * pathP o c + ent o c + 1 by omega, nI_pred, show (4 : Int32) = nI 4 from rfl, pk_div (by omega) (by decide) (by decide)]
      congr 1; omega
    obtain ⟨f, w, f1, f2, f3, f4⟩ := c_fill (tkk := tkk) (tl := tl) key page bo e9 hl h9 (by rw [hp]; omega)
    obtain ⟨a, b, d, g1⟩ : ∃ a b d, fn_X9_openNode M ek ep pl (wk c) (wp c) = (a, b, d) := ⟨_, _, _, rfl⟩
    have g2 := WI_step (TI_of hTU) ho hc (fun j hj => hWI j (by omega)) g1
    have ge : fn_X9_entryOf v1 x8 = nI (ent o c) := m_entryOf ho hv1 h8 (by omega) rfl
    have hE := fun e he => up_kidm ho hc hUp g2 (e := e) he
    have hC := fun e he => up_kidc ho hc hUp hTr (e := e) he
    have ecl : fn_X7_writeBranch_L16 (n + 1) la pw bo ck cp sd W 1 left sh tk tkk tl (nI rs) row key page x9 x10 = if f = 0 ∧ ¬ c = 0 then fn_X7_writeBranch_L16 n la pw w ck cp sd W 1 left sh tk tkk tl (nI rs) row 0 0 (nI (pathP o c)) (nI (3 - c)) else (bnd3 (fn_X2_take (nI rs) row) (fun r73 y73_0 y73_1 => (bnd9 (fn_X7_writePage la pw w sd W 1 left sh tk 1 r73) (fun r82 y82_0 y82_1 y82_2 y82_3 y82_4 y82_5 y82_6 y82_7 => (if r82 = (-1) then (0, y82_0, y82_1, w, ck, cp, y82_2, y82_3, y82_4, y82_5, y82_6, y82_7, y73_0, y73_1) else fn_X7_writeBranch_L16 n y82_0 y82_1 w ck cp y82_2 y82_3 y82_4 y82_5 y82_6 y82_7 tkk tl y73_0 y73_1 r73 r82 (nI (pathP o c)) (nI (3 - c))))))) := by
      rw [fn_X7_writeBranch_L16, if_neg e10, bnd2, f1, e10', e9]
      by_cases z : f = 0
      · rw [if_pos z]
        by_cases z2 : c = 0
        · rw [if_pos (show nI (pathP o c) = 0 by rw [(path_0 ho hc).mpr z2]; rfl), if_neg (fun h => h.2 z2)]
        · rw [if_neg (show ¬ nI (pathP o c) = 0 from fun e => z2 ((path_0 ho hc).mp ((nI_eq (b := 0) (by omega) (by decide)).mp e))), if_pos ⟨z, z2⟩]
      · rw [if_neg z, if_neg (fun h => z h.1)]
    have eml : fn_X9_branch_L10 (n' + 1) ck cp 1 left (nI rs) ta lm pw sd M ek ep us pl row wk wp wr v1 key page x8 = if (((lg_cmp (vp_updL a (ent o c) key 0) 0) = 0 ∧ (lg_cmp (vp_updL a (ent o c) key 1) 0) = 0 ∧ (lg_cmp (vp_updL a (ent o c) key 2) 0) = 0 ∧ (lg_cmp (vp_updL a (ent o c) key 3) 0) = 0) ∧ ¬ x8 ≤ 0) then fn_X9_branch_L10 n' ck cp 1 left (nI rs) ta lm pw sd M (vp_updL a (ent o c) key) (upd b (ent o c) page) us d row wk wp wr v1 0 0 (x8 + (-1)) else fn_X9_branch_J129 (fn_X9_branch_L10 n') ck cp 1 left (nI rs) ta lm pw sd M (vp_updL a (ent o c) key) (upd b (ent o c) page) us d row wk wp wr v1 x8 := by
      rw [fn_X9_branch_L10, if_neg e8, show (x8 : Int32).toNatClampNeg = c by rw [h8, nI_clamp (by omega)], bnd3, g1, bnd1, ge, nI_clamp (by omega)]
      exact ite5
    have e80 : x8 ≤ 0 ↔ c = 0 := by rw [h8]; exact (nI_leI (b := 0) (by omega) (by decide)).trans ⟨fun h => by omega, fun h => by omega⟩
    have hz : f = 0 ↔ ((lg_cmp (vp_updL a (ent o c) key 0) 0) = 0 ∧ (lg_cmp (vp_updL a (ent o c) key 1) 0) = 0 ∧ (lg_cmp (vp_updL a (ent o c) key 2) 0) = 0 ∧ (lg_cmp (vp_updL a (ent o c) key 3) 0) = 0) := by
      rw [f3, lgc0, lgc0, lgc0, lgc0]
      have sw : ∀ e, e < 4 → (ckOf tkk (pathP o c) (pathP o (c + 1)) key e = 0 ↔ vp_updL a (ent o c) key e = 0) := fun e he => by rw [(hC e he).1, (hE e he).1]
      constructor
      · intro h
        exact ⟨(sw 0 (by decide)).mp (h 0 (by decide)), (sw 1 (by decide)).mp (h 1 (by decide)), (sw 2 (by decide)).mp (h 2 (by decide)), (sw 3 (by decide)).mp (h 3 (by decide))⟩
      · rintro ⟨h0, h1, h2, h3⟩ e he
        match e, he with
        | 0, _ => exact (sw 0 (by decide)).mpr h0
        | 1, _ => exact (sw 1 (by decide)).mpr h1
        | 2, _ => exact (sw 2 (by decide)).mpr h2
        | 3, _ => exact (sw 3 (by decide)).mpr h3
    rw [ecl, eml]
    by_cases hcase : f = 0 ∧ ¬ c = 0
    · rw [if_pos hcase, if_pos ⟨hz.mp hcase.1, fun h => hcase.2 (e80.mp h)⟩]
      have hze : ∀ e, e < 4 → K1 (4 * pathP o c + 1 + e) = 0 := fun e he => by rw [← (hC e he).1]; exact f3.mp hcase.1 e he
      obtain ⟨W', bo', sh', row', M', tk', us', pl', wr', ek', ep', la', lm', pw', i1, i2, i3, i4, i5, i6⟩ := ih n n' W w sh row M tk us d wr (vp_updL a (ent o c) key) (upd b (ent o c) page) la lm B rs pw sd left 0 (nI (pathP o c)) (nI (3 - c)) (x8 + (-1)) 0 _ _ rfl rfl (by rw [h8]) (by omega) (by omega) (by omega) hP (by omega) (by omega) (by omega) hrs40 hnz hTU (up_empty ho hc hUp hze)
      refine ⟨W', bo', sh', row', M', tk', us', pl', wr', ek', ep', la', lm', pw', i1, i2, fun p hp => Nat.le_trans (i3 p hp) (by omega), i4, i5, ?_⟩
      rcases i6 with ⟨s, rl', k1, k2, k3, k4⟩ | ⟨s, rs', left', cp', ck', K', L', k1, k2, k3, k4, k5, k6, k7, k8⟩
      · exact Or.inl ⟨s, rl', by omega, k2, k3, k4⟩
      · exact Or.inr ⟨s, rs', left', cp', ck', K', L', k1, by omega, k3, k4, k5, k6, ⟨k7.r, fun p hp => Nat.le_trans (k7.b p hp) (by omega), k7.p, k7.u⟩, k8⟩
    · rw [if_neg hcase, if_neg (fun h => hcase ⟨hz.mpr h.1, fun z => h.2 (e80.mpr z)⟩)]
      obtain ⟨rs, rfl⟩ : ∃ m, rs = m + 1 := ⟨rs - 1, by omega⟩
      unfold fn_X9_branch_J129
      rw [bnd1, bnd3, bnd3, tk_c (by omega), tk_m (by omega), bnd9, bnd11]
      have hbo : BR 51 w (fn_X9_putEntries (vp_updL a (ent o c) key) (upd b (ent o c) page) d) := fun i hi t ht => by
        refine (f4 i hi t ht).trans ?_
        rw [m_putEntries _ _ _ i hi t ht]
        exact nodeB_cg (fun e he => ⟨((hC e he).1).trans ((hE e he).1).symm, fun hk => ((hC e he).2 (by rw [← (hC e he).1]; exact hk)).trans ((hE e he).2 (by rw [← (hC e he).1]; exact hk)).symm⟩) hi t
      have hpE := m_putEntries (vp_updL a (ent o c) key) (upd b (ent o c) page) d
      generalize fn_X9_putEntries (vp_updL a (ent o c) key) (upd b (ent o c) page) d = pF at hbo hpE ⊢
      obtain ⟨q, W1, M1, sh1, wr1, hq, huq, hF, hR1, g⟩ := pg_write hP (by omega) (sh := sh) (wr := wr) hbo (kd := 1) (Or.inl rfl) (by omega) pw (nI rs) ta sd left (row 0)
      obtain ⟨lc, hlc, hla, -⟩ := hP.p
      rcases g with ⟨s, hs, g1, g2, g3, g4⟩ | ⟨l1, g1, g2, g3, g4, g5, g6⟩
      · rw [g1, g2, if_pos rfl, if_pos rfl]
        exact ⟨W1, w, sh1, va_cpy row row 1 0 rs, M1, tk, upd us q (vp_nar .boolean 1), pF, wr1, vp_updL a (ent o c) key, upd b (ent o c) page, la, nI q, pw, hF, hR1, fun p hp => Nat.le_trans (g4 p hp) (by omega), by rw [hla]; exact vp_in_nI hlc (by decide), Or.inr (vp_in_nI hq (by decide)), Or.inl ⟨s, nI rs, by omega, rfl, rfl, g3⟩⟩
      · have hm1 : ¬ nI q = (-1) := nI_m1 (by omega)
        have hcu1 := cnt0_upd hq huq
        rw [g1, g2, if_neg hm1, if_neg hm1]
        have hUp2 := up_write ho hc hUp hF hq (hnz 0 (by omega)) g4 g5 g6 hpE hE
        obtain ⟨W', bo', sh', row', M', tk', us', pl', wr', ek', ep', la', lm', pw', i1, i2, i3, i4, i5, i6⟩ := ih n n' W1 w sh1 (va_cpy row row 1 0 rs) M1 _ _ pF wr1 (vp_updL a (ent o c) key) (upd b (ent o c) page) _ _ (B + 1) rs (pw + 1) (sd + nI 4) l1 (nI q) (nI (pathP o c)) (nI (3 - c)) (x8 + (-1)) (row 0) _ _ rfl rfl (by rw [h8]) (by omega) (by omega) (by omega) g3 (by omega) (by omega) (by omega) (by omega) (tk_nz hnz) (TU_fr hF (UL_upd us q) hTU) hUp2
        refine ⟨W', bo', sh', row', M', tk', us', pl', wr', ek', ep', la', lm', pw', hF.trans (UL_upd us q) i1, i2, fun p hp => Nat.le_trans (i3 p hp) (by omega), i4, i5, ?_⟩
        rcases i6 with ⟨s, rl', k1, k2, k3, k4⟩ | ⟨s, rs', left', cp', ck', K', L', k1, k2, k3, k4, k5, k6, k7, k8⟩
        · refine Or.inl ⟨4 + s, rl', by omega, ?_, ?_, fun h => by omega⟩
          · rw [← st_add]; exact k2
          · rw [← st_add]; exact k3
        · refine Or.inr ⟨4 + s, rs', left', cp', ck', K', L', by omega, by omega, ?_, ?_, by omega, k6, ⟨k7.r, fun p hp => Nat.le_trans (k7.b p hp) (by omega), k7.p, k7.u⟩, k8⟩
          · rw [← st_add]; exact k3
          · rw [← st_add]; exact k4
