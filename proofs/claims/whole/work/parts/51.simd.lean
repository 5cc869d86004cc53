/-! writing the data on both sides -/
theorem st_add (sd : Int32) (a b : Nat) : sd + nI a + nI b = sd + nI (a + b) := by rw [Int32.add_assoc, nI_add]
theorem sim_data {key : Int64} {N tl : Nat} (hN : N ≤ 96) (hNt : N ≤ tl) (htl : tl ≤ 96) {ck : Int64} {cp ro ta : Int32} {ek : Nat → Int64} {ep : Nat → Int32} {row : Nat → Int64} {tb : Nat → Int32} {wk : Nat → Int64} {wp : Nat → Int32} {v1 : Int32} : ∀ (c n n' d : Nat) (W bo sh : Nat → Int64) (M tk us pl wr : Nat → Int32) (la lm : Int32) (B : Nat) (pw sd left next x : Int32), x = nI c + (-1) → c < n → c < n' → c + d ≤ 2 → 48 * (c - 1) ≤ N → PHs W M tk us la lm B → B + c < 1073741823 → c ≤ cnt0 us → chU M us key d next →
    ∃ (W' bo' sh' : Nat → Int64) (M' tk' us' pl' wr' : Nat → Int32) (la' lm' pw' : Int32), FR M M' us ∧ BR 12800 W' M' ∧ WB M' (B + c) ∧
      ((∃ s, s ≤ 4 * c ∧ fn_X7_writeData_L13 n la pw bo sd W 1 left sh tk (nI tl) tb key (nI N) next x = ((-1), la', pw', bo', sd + nI s, W', 0, (-1), sh', tk') ∧ fn_X9_put_L97 n' ck cp 1 left ro ta lm pw sd M ek ep us pl row tb wk wp wr v1 (nI N) key next x = (0, ck, cp, 0, (-1), 0, 0, lm', pw', sd + nI s, M', ek, ep, us', pl', row, wk, wp, wr') ∧ (s = 0 → M' = M) ∧ vp_in la' 200 ∧ vp_in lm' 200) ∨
       (∃ (left' next' : Int32) (m : Nat), fn_X7_writeData_L13 n la pw bo sd W 1 left sh tk (nI tl) tb key (nI N) next x = (next', la', pw', bo', sd + nI (4 * c), W', 1, left', sh', tk') ∧ fn_X9_put_L97 n' ck cp 1 left ro ta lm pw sd M ek ep us pl row tb wk wp wr v1 (nI N) key next x = fn_X9_put_L97 (m + 1) ck cp 1 left' ro ta lm' pw' (sd + nI (4 * c)) M' ek ep us' pl' row tb wk wp wr' v1 (nI N) key next' (-1) ∧ PHs W' M' tk' us' la' lm' (B + c) ∧ UL us us' ∧ cnt0 us' + c = cnt0 us ∧ chU M' us' key (d + c) next' ∧ (c = 0 → M' = M))) := by
  intro c
  induction c with
  | zero =>
    intro n n' d W bo sh M tk us pl wr la lm B pw sd left next x hx hn hn' hcd hcN hP hB hc hU
    obtain ⟨n, rfl⟩ : ∃ m, n = m + 1 := ⟨n - 1, by omega⟩
    obtain ⟨n', rfl⟩ : ∃ m, n' = m + 1 := ⟨n' - 1, by omega⟩
    have ex : x = (-1) := by rw [hx]; decide
    refine ⟨W, bo, sh, M, tk, us, pl, wr, la, lm, pw, FR.refl _ _, hP.r, hP.b, Or.inr ⟨left, next, n', ?_, ?_, hP, UL.refl _, Nat.add_zero _, hU, fun _ => rfl⟩⟩
    · rw [fn_X7_writeData_L13, ex, if_pos (by decide), nI_0, show sd + 0 = sd by apply Int32.toBitVec_inj.mp; simp]
    · rw [ex, nI_0, show sd + 0 = sd by apply Int32.toBitVec_inj.mp; simp]
  | succ c ih =>
    intro n n' d W bo sh M tk us pl wr la lm B pw sd left next x hx hn hn' hcd hcN hP hB hc hU
    obtain ⟨n, rfl⟩ : ∃ m, n = m + 1 := ⟨n - 1, by omega⟩
    obtain ⟨n', rfl⟩ : ∃ m, n' = m + 1 := ⟨n' - 1, by omega⟩
    rw [pk_m1] at hx
    have hcN' : 48 * c ≤ N := by rw [Nat.add_sub_cancel] at hcN; exact hcN
    -- the length of this part
    obtain ⟨m, hm, hmN, em⟩ : ∃ m, m ≤ 48 ∧ 48 * c + m ≤ N ∧ m = min 48 (N - 48 * c) := ⟨min 48 (N - 48 * c), by omega, by omega, rfl⟩
    have e48 : (nI N - nI (48 * c)) = nI (N - 48 * c) := nI_sub hcN'
    have elc : (if (nI N - (nI c * 48)) < 48 then (nI N - (nI c * 48)) else 48) = nI m := by
      rw [show (nI c * 48 : Int32) = nI (48 * c) from by rw [show (48 : Int32) = nI 48 from rfl, pk_mul, Nat.mul_comm], e48]
      by_cases a : N - 48 * c < 48
      · rw [if_pos (show nI (N - 48 * c) < 48 from nI_lt (b := 48) a (by omega)), show m = N - 48 * c by omega]
      · rw [if_neg (show ¬ nI (N - 48 * c) < 48 from nI_nlt (b := 48) (by omega) (by omega)), show m = 48 by omega]; rfl
    have ecl : fn_X7_writeData_L13 (n + 1) la pw bo sd W 1 left sh tk (nI tl) tb key (nI N) next x = bnd9 (fn_X7_writePage la pw (fn_X0_setData bo (nI tl) tb next (nI (48 * c)) (nI m)) sd W 1 left sh tk 2 key) (fun r50 y50_0 y50_1 y50_2 y50_3 y50_4 y50_5 y50_6 y50_7 => (if r50 = (-1) then ((-1), y50_0, y50_1, (fn_X0_setData bo (nI tl) tb next (nI (48 * c)) (nI m)), y50_2, y50_3, y50_4, y50_5, y50_6, y50_7) else fn_X7_writeData_L13 n y50_0 y50_1 (fn_X0_setData bo (nI tl) tb next (nI (48 * c)) (nI m)) y50_2 y50_3 y50_4 y50_5 y50_6 y50_7 (nI tl) tb key (nI N) r50 (x + (-1)))) := by
      rw [fn_X7_writeData_L13, if_neg (by rw [hx]; exact nI_pos (by omega)), bnd1, hx, elc, show (nI c * 48 : Int32) = nI (48 * c) from by rw [show (48 : Int32) = nI 48 from rfl, pk_mul, Nat.mul_comm]]
    obtain ⟨p1, ep1, hp1⟩ := m_sd131 (K97 := fn_X9_put_L97 n') (ck := ck) (cp := cp) (on := 1) (ar := left) (ro := ro) (ta := ta) (lm := lm) (wh := pw) (st := sd) (M := M) (ek := ek) (ep := ep) (us := us) (row := row) (tb := tb) (wk := wk) (wp := wp) (wr := wr) (v1 := v1) (v2 := nI N) (key := key) (next := next) (m := m) (j := c) (v7 := x) (v8 := nI m) hx rfl hm (by omega) 52 51 0 pl 0 rfl (by decide) (by decide) (fun a h1 h2 => by omega)
    have eml : fn_X9_put_L97 (n' + 1) ck cp 1 left ro ta lm pw sd M ek ep us pl row tb wk wp wr v1 (nI N) key next x = fn_X9_put_L131 52 (fn_X9_put_L97 n') ck cp 1 left ro ta lm pw sd M ek ep us pl row tb wk wp wr v1 (nI N) key next x (nI m) 0 := by
      rw [fn_X9_put_L97, if_neg (by rw [hx]; exact nI_pos (by omega)), hx, show (48 * nI c : Int32) = nI (48 * c) from pk_mul 48 c, e48]
      by_cases a : N - 48 * c ≤ 48
      · rw [if_pos (show nI (N - 48 * c) ≤ 48 from nI_le (b := 48) a (by omega)), show m = N - 48 * c by omega]
      · rw [if_neg (show ¬ nI (N - 48 * c) ≤ 48 from nI_ge (a := 48) (by omega) (by omega)), show m = 48 by omega]; rfl
    have hpF := dataB_head (next := next) (m := m) (f := 48 * c) (tb := tb) (pl := p1) (v8 := nI m) rfl hp1
    rw [ecl, eml, ep1, fn_X9_put_L131, if_pos (by decide)]
    generalize (upd (upd (upd p1 (0 : Int32).toNatClampNeg (vp_nar .byte (((next >>> (8 &&& 31)) : Int32).toInt8.toInt32))) (1 : Int32).toNatClampNeg (vp_nar .byte ((next : Int32).toInt8.toInt32))) (2 : Int32).toNatClampNeg (vp_nar .byte ((nI m : Int32).toInt8.toInt32))) = pF at hpF ⊢
    have hbo : BR 51 (fn_X0_setData bo (nI tl) tb next (nI (48 * c)) (nI m)) pF := fun i hi t ht => (c_setData (next := next) (tb := tb) rfl rfl hm (by omega) htl bo i hi t ht).trans (hpF i hi t ht).symm
    generalize (fn_X0_setData bo (nI tl) tb next (nI (48 * c)) (nI m)) = bF at hbo ⊢
    obtain ⟨q, W1, M1, sh1, wr1, hq, huq, hF, hR1, g⟩ := pg_write hP (by omega) (sh := sh) (wr := wr) hbo (kd := 2) (Or.inr rfl) (by omega) pw ro ta sd left key
    obtain ⟨lc, hlc, hla, -⟩ := hP.p
    rcases g with ⟨s, hs, g1, g2, g3, g4⟩ | ⟨l1, g1, g2, g3, g4, g5, g6⟩
    · refine ⟨W1, bF, sh1, M1, tk, upd us q (vp_nar .boolean 1), pF, wr1, la, nI q, pw, hF, hR1, fun p hp => Nat.le_trans (g4 p hp) (by omega), Or.inl ⟨s, by omega, ?_, ?_, g3, ?_, vp_in_nI hq (by decide)⟩⟩
      · rw [bnd9, g1, if_pos rfl]
      · rw [bnd11, g2, if_pos rfl]
      · rw [hla]; exact vp_in_nI hlc (by decide)
    · -- the next page's number
      obtain ⟨a, ha, en⟩ : ∃ a, a < 65536 ∧ next = nI a := by
        cases d with
        | zero => exact ⟨65535, by decide, hU⟩
        | succ d => obtain ⟨a, e, hd, -⟩ := hU; exact ⟨a, by have := hd.1; omega, e⟩
      have hnew := data_new (tb := tb) (f := 48 * c) hq hm ha g4 g5 g6 (by rw [en] at hpF; exact hpF)
      have hu1 : ¬ upd us q (vp_nar .boolean 1) q = 0 := by rw [pk_us, nar1]; decide
      have hU1 : chU M1 (upd us q (vp_nar .boolean 1)) key (d + 1) (nI q) := ⟨q, rfl, hnew.1, hu1, by rw [hnew.2, ← en]; exact chU_fr hF (UL_upd us q) _ _ hU⟩
      have hcu := cnt0_upd hq huq
      have hm1 : ¬ nI q = (-1) := nI_m1 (by omega)
      obtain ⟨W2, bo2, sh2, M2, tk2, us2, pl2, wr2, la2, lm2, pw2, i1, i2, i3, i4⟩ := ih n n' (d + 1) W1 bF sh1 M1 _ _ pF wr1 _ _ (B + 1) (pw + 1) (sd + nI 4) l1 (nI q) (x + (-1)) (by rw [hx]) (by omega) (by omega) (by omega) (by omega) g3 (by omega) (by omega) hU1
      refine ⟨W2, bo2, sh2, M2, tk2, us2, pl2, wr2, la2, lm2, pw2, hF.trans (UL_upd us q) i1, i2, fun p hp => Nat.le_trans (i3 p hp) (by omega), ?_⟩
      rcases i4 with ⟨s, k1, k2, k3, k4, k5, k6⟩ | ⟨l2, nx2, m2, k1, k2, k3, k4, k5, k6, k7⟩
      · refine Or.inl ⟨4 + s, by omega, ?_, ?_, fun h => by omega, k5, k6⟩
        · rw [bnd9, g1, if_neg hm1, ← st_add]; exact k2
        · rw [bnd11, g2, if_neg hm1, ← st_add]; exact k3
      · refine Or.inr ⟨l2, nx2, m2, ?_, ?_, ?_, (UL_upd us q).trans k4, by omega, ?_, fun h => by omega⟩
        · rw [bnd9, g1, if_neg hm1, show 4 * (c + 1) = 4 + 4 * c by omega, ← st_add]; exact k1
        · rw [bnd11, g2, if_neg hm1, show 4 * (c + 1) = 4 + 4 * c by omega, ← st_add]; exact k2
        · rw [show B + (c + 1) = B + 1 + c by omega]; exact k3
        · rw [show d + (c + 1) = d + 1 + c by omega]; exact k6
