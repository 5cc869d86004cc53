/-! put -/
theorem dp_c {N : Nat} (h : N ≤ 96) : fn_X8_dataPages (nI N) = nI (if 48 < N then 2 else 1) := by
  unfold fn_X8_dataPages
  by_cases a : 48 < N
  · rw [if_pos (show 48 < nI N from nI_lt (a := 48) a (by omega)), if_pos a, show (nI N + 48 : Int32) = nI (N + 47 + 1) from by rw [show (48 : Int32) = nI 48 from rfl, nI_add], nI_pred, show (48 : Int32) = nI 48 from rfl, pk_div (by omega) (by decide) (by decide), show (N + 47) / 48 = 2 by omega]
  · rw [if_neg (show ¬ 48 < nI N from nI_nlt (a := 48) (by omega) (by omega)), if_neg a]; rfl
theorem dp_m {N : Nat} (h : N ≤ 96) (a : 48 < N) : ((nI N + 47) / 48 : Int32) = nI 2 := by
  rw [show (nI N + 47 : Int32) = nI (N + 47) from by rw [show (47 : Int32) = nI 47 from rfl, nI_add], show (48 : Int32) = nI 48 from rfl, pk_div (by omega) (by decide) (by decide), show (N + 47) / 48 = 2 by omega]
section SI4
variable {t : Nat} {on rl : Int32} {rk : Nat → Int64} {rml tpl : Int32} {ck : Int64} {cp sd : Int32} {W : Nat → Int64} {M : Nat → Int32} {lc oc tss : Int32} {tkk : Nat → Int64} {tlk tlv : Nat → Int32} {rln rss : Int32} {rkk : Nat → Int64} {la lm : Int32}
theorem si_put (h : SI t on rl rk rml tpl ck cp sd W M lc oc tss tkk tlk tlv rln rss rkk la lm) (ht : t ≤ 600) (left pw : Int32) (tpb : Nat → Int32) (tbo wbo wsh : Nat → Int64) (wtk : Nat → Int32) (ek : Nat → Int64) (ep us pl : Nat → Int32) (wk : Nat → Int64) (wp wr : Nat → Int32) (v v2 : Int32) : ∃ (r on' left' rl' : Int32) (rk' : Nat → Int64) (ck' : Int64) (cp' sd' : Int32) (W' : Nat → Int64) (tpl' lc' oc' tss' : Int32) (tbo' tkk' : Nat → Int64) (tlk' tlv' : Nat → Int32) (la' pw' : Int32) (wbo' wsh' : Nat → Int64) (wtk' : Nat → Int32) (lm' : Int32) (M' : Nat → Int32) (ek' : Nat → Int64) (ep' us' pl' : Nat → Int32) (wk' : Nat → Int64) (wp' wr' : Nat → Int32), fn_X8_put on left rl rk ck cp sd W tpl tpb lc oc tss tbo tkk tlk tlv la pw wbo wsh wtk v v2 = (r, on', left', rl', rk', ck', cp', sd', W', tpl', lc', oc', tss', tbo', tkk', tlk', tlv', la', pw', wbo', wsh', wtk') ∧ fn_X9_put ck cp on left rl tpl lm pw sd M ek ep us pl rk tpb wk wp wr v v2 = (r, ck', cp', on', left', rl', tpl', lm', pw', sd', M', ek', ep', us', pl', rk', wk', wp', wr') ∧ SI (t + 1) on' rl' rk' rml tpl' ck' cp' sd' W' M' lc' oc' tss' tkk' tlk' tlv' rln rss rkk la' lm' := by
  unfold fn_X8_put fn_X9_put fn_X5_has
  rw [bnd1, show fn_X3_isOn on = on from rfl]
  by_cases ho : on = 0
  · rw [if_pos ho, if_pos ho]; exact ⟨_, _, _, _, _, _, _, _, _, _, _, _, _, _, _, _, _, _, _, _, _, _, _, _, _, _, _, _, _, _, _, rfl, rfl, h.up⟩
  have ho1 : on = 1 := h.1.resolve_left ho
  rw [if_neg ho, if_neg ho, bnd1, bnd1, bnd1, bnd1, show fn_X8_isObject v = fn_X9_isObject v from rfl, show fn_X2_length rl = rl from rfl]
  by_cases hob : fn_X9_isObject v = 0
  · rw [if_pos hob, if_pos hob]; exact ⟨_, _, _, _, _, _, _, _, _, _, _, _, _, _, _, _, _, _, _, _, _, _, _, _, _, _, _, _, _, _, _, rfl, rfl, h.up⟩
  rw [if_neg hob, if_neg hob]
  by_cases hn0 : v2 < 0
  · rw [if_pos hn0, if_pos hn0, if_pos rfl]; exact ⟨_, _, _, _, _, _, _, _, _, _, _, _, _, _, _, _, _, _, _, _, _, _, _, _, _, _, _, _, _, _, _, rfl, rfl, h.up⟩
  rw [if_neg hn0, if_neg hn0]
  by_cases hn1 : tpl < v2
  · rw [if_pos hn1, if_pos hn1, if_pos rfl]; exact ⟨_, _, _, _, _, _, _, _, _, _, _, _, _, _, _, _, _, _, _, _, _, _, _, _, _, _, _, _, _, _, _, rfl, rfl, h.up⟩
  rw [if_neg hn1, if_neg hn1, if_neg (show ¬ (1 : Int32) = 0 by decide)]
  by_cases h4' : ¬ 4 ≤ rl
  · rw [if_neg h4', if_neg h4']; exact ⟨_, _, _, _, _, _, _, _, _, _, _, _, _, _, _, _, _, _, _, _, _, _, _, _, _, _, _, _, _, _, _, rfl, rfl, h.up⟩
  have h4 := Decidable.not_not.mp h4'
  rw [if_pos h4, if_pos h4]
  obtain ⟨o, hoo, eo⟩ := obj_n hob
  obtain ⟨rs, hrs, ers, hnz⟩ := h.2.1.1
  have hrs4 : 4 ≤ rs := by
    rw [ers] at h4
    exact (nI_leI (a := 4) (by decide) (by omega)).mp h4
  obtain ⟨tl, htl, etl⟩ := h.2.1.2.2
  obtain ⟨N, hN', eN⟩ := nI_of hn0
  have hNt : N ≤ tl := by
    rw [etl, eN] at hn1
    have := mt (nI_ltI (a := tl) (b := N) (by omega) hN').mpr hn1
    omega
  have hN : N ≤ 96 := by omega
  obtain ⟨P, hP1, hP2, hP3, eP⟩ : ∃ P, 1 ≤ P ∧ P ≤ 2 ∧ 48 * (P - 1) ≤ N ∧ P = (if 48 < N then 2 else 1) := by
    by_cases a : 48 < N
    · exact ⟨2, by decide, by decide, by omega, by rw [if_pos a]⟩
    · exact ⟨1, by decide, by decide, by omega, by rw [if_neg a]⟩
  obtain ⟨a1, a2, a3, a4, a5, a6, K, L, e1, e2, e3, e4⟩ := si_fresh h.2.2.1 ht tbo
  obtain ⟨b1, b2, b3, b4, b5, b6, f1, f2⟩ := m_live e2 ek ep us pl wk wp
  obtain ⟨d1, d2, d3, d4, d5, g1, g2⟩ := m_findWay e2 hoo eo b1 b2 b4 b5 b6
  have hS : SI (t + 1) on rl rk rml tpl ck cp sd W M a1 a2 sd a4 a5 a6 rln rss rkk la lm := ⟨h.1, h.2.1, e4.up, h.2.2.2⟩
  obtain ⟨hu1, hu2⟩ := used_eq e3.2.2.1 f2 e3.2.1
  have hfp : fn_X6_freePages a1 = nI (cnt0 b3) := by
    unfold fn_X6_freePages
    rw [hu1, show (200 : Int32) = nI 200 from rfl, nI_sub (by omega), show 200 - (200 - cnt0 b3) = cnt0 b3 by omega]
  have hfm : (200 - fn_X9_used b3 : Int32) = nI (cnt0 b3) := by
    rw [m_used, show (200 : Int32) = nI 200 from rfl, nI_sub (by omega), show 200 - (200 - cnt0 b3) = cnt0 b3 by omega]
  have hJ : (if 48 < v2 then fn_X9_put_J55 ck cp on left rl tpl lm pw sd M ek ep us pl rk tpb wk wp wr v v2 ((v2 + 47) / 48) else fn_X9_put_J55 ck cp on left rl tpl lm pw sd M ek ep us pl rk tpb wk wp wr v v2 1) = fn_X9_put_J55 ck cp on left rl tpl lm pw sd M ek ep us pl rk tpb wk wp wr v v2 (nI P) := by
    rw [eN, eP]
    by_cases a : 48 < N
    · rw [if_pos (show 48 < nI N from nI_lt (a := 48) a (by omega)), if_pos a, dp_m hN a]
    · rw [if_neg (show ¬ 48 < nI N from nI_nlt (a := 48) (by omega) (by omega)), if_neg a]; rfl
  have hD : fn_X8_dataPages v2 = nI P := by rw [eN, dp_c hN, eP]
  rw [hJ]
  unfold fn_X9_put_J55
  rw [bnd7, e1, bnd7, f1, bnd1, bnd1, bnd1, bnd1, hD, show fn_X6_freePages (a1, a2, sd, a3, a4, a5, a6).1 = nI (cnt0 b3) from hfp, show (200 - fn_X9_used (nI (ocN K 64), b1, b2, b3, b4, b5, b6).2.2.2.1 : Int32) = nI (cnt0 b3) from hfm, show (nI P + 3 : Int32) = nI (P + 3) from by rw [show (3 : Int32) = nI 3 from rfl, nI_add]]
  by_cases hfr' : ¬ P + 3 ≤ cnt0 b3
  · have q : ¬ nI (P + 3) ≤ nI (cnt0 b3) := nI_ge (by omega) (by omega)
    rw [if_neg q, if_neg q]
    exact ⟨_, _, _, _, _, _, _, _, _, _, _, _, _, _, _, _, _, _, _, _, _, _, _, _, _, _, _, _, _, _, _, rfl, rfl, hS⟩
  have hfr := Decidable.not_not.mp hfr'
  have q : nI (P + 3) ≤ nI (cnt0 b3) := nI_le hfr (by omega)
  obtain ⟨rs, rfl⟩ : ∃ m, rs = m + 1 := ⟨rs - 1, by omega⟩
  rw [if_pos q, if_pos q, bnd5, show fn_X9_findWay ck cp M (nI (ocN K 64), b1, b2, b3, b4, b5, b6).2.1 (nI (ocN K 64), b1, b2, b3, b4, b5, b6).2.2.1 (nI (ocN K 64), b1, b2, b3, b4, b5, b6).2.2.2.2.1 (nI (ocN K 64), b1, b2, b3, b4, b5, b6).2.2.2.2.2.1 (nI (ocN K 64), b1, b2, b3, b4, b5, b6).2.2.2.2.2.2 v = (d1, d2, d3, d4, d5) from g1, bnd3, bnd3, ers, tk_c (by omega), tk_m (by omega)]
  obtain ⟨lcn, hl1, hl2, hl3⟩ := h.2.2.2.2.2 ho1
  have hTU := TU_of e2 (fun r hr hv => (f2 r hr).mpr hv)
  have hPh : PHs W M (fn_X7_begin wtk a6) b3 la lm (5 * t) := ⟨h.2.2.1.1, h.2.2.1.2.1, ⟨lcn, hl1, hl2, hl3⟩, fun r hr => LvS_one (c_begin e3.2.2.1 wtk) f2 hr⟩
  have hx : (nI P - 1 : Int32) = nI P + (-1) := by
    obtain ⟨P', rfl⟩ : ∃ m, P = m + 1 := ⟨P - 1, by omega⟩
    rw [nI_pred, pk_m1]
  obtain ⟨W1, bo1, sh1, M1, tk1, us1, pl1, wr1, la1, lm1, pw1, i1, i2, i3, i4⟩ := sim_data (key := rk 0) hN hNt htl (ck := ck) (cp := cp) (ro := nI rs) (ta := tpl) (ek := d1) (ep := d2) (row := va_cpy rk rk 1 0 rs) (tb := tpb) (wk := d4) (wp := d5) (v1 := v) P 4 4 0 W wbo wsh M (fn_X7_begin wtk a6) b3 d3 wr la lm (5 * t) pw sd left 65535 (nI P - 1) hx (by omega) (by omega) (by omega) hP3 hPh (by omega) (by omega) rfl
  unfold fn_X7_writeData
  rw [bnd10, bnd1, hD, ho1, eN, etl]
  rw [etl] at i4
  rcases i4 with ⟨s, k1, k2, k3, k4, k5, k6⟩ | ⟨l1, nx1, m1, k1, k2, k3, k4, k5, k6, k7⟩
  · rw [show fn_X7_writeData_L13 4 la pw wbo sd W 1 left wsh (fn_X7_begin wtk (a1, a2, sd, a3, a4, a5, a6).2.2.2.2.2.2) (nI tl) tpb (rk 0, nI rs, va_cpy rk rk 1 0 rs).1 (nI N) 65535 (nI P - 1) = _ from k2, show fn_X9_put_L97 4 ck cp 1 left (rk 0, nI rs, va_cpy rk rk 1 0 rs).2.1 (nI tl) lm pw sd M (d1, d2, d3, d4, d5).1 (d1, d2, d3, d4, d5).2.1 (nI (ocN K 64), b1, b2, b3, b4, b5, b6).2.2.2.1 (d1, d2, d3, d4, d5).2.2.1 (rk 0, nI rs, va_cpy rk rk 1 0 rs).2.2 tpb (d1, d2, d3, d4, d5).2.2.2.1 (d1, d2, d3, d4, d5).2.2.2.2 wr v (nI N) (rk 0, nI rs, va_cpy rk rk 1 0 rs).1 65535 (nI P - 1) = _ from k3, if_pos rfl]
    have e4' := SId_fail e4 ht hTU (fun _ => e3) (W' := W1) (M' := M1) (s := s) (by omega) i1 i2 (fun p hp => Nat.le_trans (i3 p hp) (by omega)) k4
    exact ⟨0, 0, (-1), 0, va_cpy rk rk 1 0 rs, ck, cp, sd + nI s, W1, 0, a1, a2, sd, a3, a4, a5, a6, la1, pw1, bo1, sh1, tk1, lm1, M1, d1, d2, us1, pl1, d4, d5, wr1, rfl, rfl, Or.inl rfl, ⟨⟨0, by decide, rfl, fun i hi => absurd hi (Nat.not_lt_zero i)⟩, h.2.1.2.1, ⟨0, by decide, rfl⟩⟩, e4', k5, Or.inr k6, fun e => absurd e (show ¬ (0 : Int32) = 1 by decide)⟩
  · have hnx : ¬ nx1 = (-1) := by
      obtain ⟨P', rfl⟩ : ∃ m, P = m + 1 := ⟨P - 1, by omega⟩
      rw [show 0 + (P' + 1) = P' + 1 by omega] at k6
      obtain ⟨a, e, hd, -⟩ := k6
      rw [e]; exact nI_m1 (by have := hd.1; omega)
    have hch : ¬ rk 0 = 0 → chU M1 us1 (rk 0) 1 nx1 ∨ chU M1 us1 (rk 0) 2 nx1 := fun _ => by
      rw [Nat.zero_add] at k6
      rcases (show P = 1 ∨ P = 2 by omega) with e | e
      · rw [e] at k6; exact Or.inl k6
      · rw [e] at k6; exact Or.inr k6
    have hTU1 := TU_fr i1 k4 hTU
    obtain ⟨W2, bo2, sh2, row2, M2, tk2, us2, pl2, wr2, ek2, ep2, la2, lm2, pw2, j1, j2, j3, j4, j5, j6⟩ := sim_branch (tkk := a4) (tl := a5) (wk := d4) (wp := d5) (ck := ck) (cp := cp) (ta := nI tl) hoo eo g2 e3.1 3 4 5 W1 bo1 sh1 (va_cpy rk rk 1 0 rs) M1 tk1 us1 pl1 wr1 d1 d2 la1 lm1 (5 * t + P) rs pw1 (sd + nI (4 * P)) l1 nx1 (21 + v) 0 2 (rk 0) _ _ (by rw [eo, show (21 : Int32) = nI 21 from rfl, nI_add]; rfl) rfl (by decide) (by decide) (by decide) (by decide) k3 (by omega) (by omega) (by omega) (by omega) (tk_nz hnz) hTU1 (up_start hoo hTU1 hch)
    rw [show fn_X7_writeData_L13 4 la pw wbo sd W 1 left wsh (fn_X7_begin wtk (a1, a2, sd, a3, a4, a5, a6).2.2.2.2.2.2) (nI tl) tpb (rk 0, nI rs, va_cpy rk rk 1 0 rs).1 (nI N) 65535 (nI P - 1) = _ from k1, show fn_X9_put_L97 4 ck cp 1 left (rk 0, nI rs, va_cpy rk rk 1 0 rs).2.1 (nI tl) lm pw sd M (d1, d2, d3, d4, d5).1 (d1, d2, d3, d4, d5).2.1 (nI (ocN K 64), b1, b2, b3, b4, b5, b6).2.2.2.1 (d1, d2, d3, d4, d5).2.2.1 (rk 0, nI rs, va_cpy rk rk 1 0 rs).2.2 tpb (d1, d2, d3, d4, d5).2.2.2.1 (d1, d2, d3, d4, d5).2.2.2.2 wr v (nI N) (rk 0, nI rs, va_cpy rk rk 1 0 rs).1 65535 (nI P - 1) = _ from k2, show (nx1, la1, pw1, bo1, sd + nI (4 * P), W1, (1 : Int32), l1, sh1, tk1).1 = nx1 from rfl, if_neg hnx, fn_X9_put_L97, if_pos (show (-1 : Int32) < 0 by decide), bnd14, bnd17]
    unfold fn_X7_writeBranch fn_X9_branch
    rw [bnd1, show fn_X6_placeOf v = 21 + v from rfl]
    rcases j6 with ⟨s, rl', q1, q2, q3, q4⟩ | ⟨s, rs', left', cp', ck', K', L', q1, q2, q3, q4, q5, q6, q7, q8⟩
    · have hc := q2
      have hm := q3
      refine ⟨0, 0, (-1), 0, row2, ck, cp, sd + nI (4 * P + s), W2, 0, a1, a2, sd, a3, a4, a5, a6, la2, pw2, bo2, sh2, tk2, lm2, M2, ek2, ep2, us2, pl2, d4, d5, wr2, ?_, ?_, Or.inl rfl, ⟨⟨0, by decide, rfl, fun i hi => absurd hi (Nat.not_lt_zero i)⟩, h.2.1.2.1, ⟨0, by decide, rfl⟩⟩, SId_fail e4 ht hTU (fun _ => e3) (W' := W2) (M' := M2) (s := 4 * P + s) (by omega) (i1.trans k4 j1) j2 (fun p hp => Nat.le_trans (j3 p hp) (by omega)) (fun e => by omega), j4, j5, fun e => absurd e (show ¬ (0 : Int32) = 1 by decide)⟩
      · rw [← st_add]
        show (if (fn_X7_writeBranch_L16 4 la1 pw1 bo1 ck cp (sd + nI (4 * P)) W1 1 l1 sh1 tk1 a4 a5 (nI rs) (va_cpy rk rk 1 0 rs) (rk 0) nx1 (21 + v) 0).1 = 0 then _ else _) = _
        rw [hc, if_pos rfl]; rfl
      · rw [← st_add]
        show (if (fn_X9_branch_L10 5 ck cp 1 l1 (nI rs) (nI tl) lm1 pw1 (sd + nI (4 * P)) M1 d1 d2 us1 pl1 (va_cpy rk rk 1 0 rs) d4 d5 wr1 v (rk 0) nx1 2).1 = 0 then _ else _) = _
        rw [hm, if_pos rfl]
    · have hc := q3
      have hm := q4
      refine ⟨1, 1, left', nI rs', row2, ck', cp', sd + nI (4 * P + s), W2, 0, a1, a2, sd, a3, a4, a5, a6, la2, pw2, bo2, sh2, tk2, lm2, M2, ek2, ep2, us2, pl2, d4, d5, wr2, ?_, ?_, Or.inr rfl, ⟨⟨rs', by omega, rfl, q6⟩, h.2.1.2.1, ⟨0, by decide, rfl⟩⟩, SId_ok e4 ht (W' := W2) (M' := M2) (s := 4 * P + s) (by omega) (by omega) j2 (fun p hp => Nat.le_trans (j3 p hp) (by omega)) (TI_of q8), j4, j5, fun _ => q7.p⟩
      · rw [← st_add]
        show (if (fn_X7_writeBranch_L16 4 la1 pw1 bo1 ck cp (sd + nI (4 * P)) W1 1 l1 sh1 tk1 a4 a5 (nI rs) (va_cpy rk rk 1 0 rs) (rk 0) nx1 (21 + v) 0).1 = 0 then _ else _) = _
        rw [hc, if_neg (show ¬ (1 : Int32) = 0 by decide)]; rfl
      · rw [← st_add]
        show (if (fn_X9_branch_L10 5 ck cp 1 l1 (nI rs) (nI tl) lm1 pw1 (sd + nI (4 * P)) M1 d1 d2 us1 pl1 (va_cpy rk rk 1 0 rs) d4 d5 wr1 v (rk 0) nx1 2).1 = 0 then _ else _) = _
        rw [hm, if_neg (show ¬ (1 : Int32) = 0 by decide)]
end SI4
