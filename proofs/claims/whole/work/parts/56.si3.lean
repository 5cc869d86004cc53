/-! put and shred -/
theorem c_bg {live : Nat → Int32} {P : Nat → Prop} (h : LvS live P) : ∀ (n c j : Nat) (tk : Nat → Int32) (x : Int32), x = nI j → j + c = 200 → c < n → (∀ q, q < j → (¬ tk q = 0 ↔ P q)) → LvS (fn_X7_begin_L2 n tk live x) P := by
  intro n
  induction n with
  | zero => intro c j tk x hx hj hc; omega
  | succ n ih =>
    intro c j tk x hx hj hc hI
    rw [fn_X7_begin_L2]
    cases c with
    | zero =>
      rw [if_pos (by rw [hx]; exact nI_le (a := 200) (by omega) (by omega))]
      exact fun q hq => hI q (by omega)
    | succ c =>
      rw [if_neg (by rw [hx]; exact nI_ge (b := 200) (by omega) (by omega)), bnd1, hx]
      unfold fn_X6_isLive
      rw [bnd1, c_isPage (by omega), if_neg (show ¬ (1 : Int32) = 0 by decide), nI_clamp (by omega)]
      refine ih c (j + 1) _ _ (nI_1 j) (by omega) (by omega) (fun q hq => ?_)
      by_cases e : q = j
      · subst e
        rw [pk_us]
        by_cases z : live q = 0
        · rw [if_pos z]
          exact ⟨fun a => absurd rfl a, fun a => absurd z ((h q (by omega)).mpr a)⟩
        · rw [if_neg z, nar1]
          exact ⟨fun _ => (h q (by omega)).mp z, fun _ => by decide⟩
      · rw [pk_un e]; exact hI q (by omega)
theorem c_begin {live : Nat → Int32} {P : Nat → Prop} (h : LvS live P) (tk : Nat → Int32) : LvS (fn_X7_begin tk live) P := c_bg h 201 200 0 tk 0 rfl (by decide) (by decide) (fun q hq => absurd hq (Nat.not_lt_zero q))
theorem up_start {M us : Nat → Int32} {ck : Int64} {cp : Int32} {K : Nat → Int64} {L : Nat → Int32} {o : Nat} (ho : o < 64) (hTU : TU M us ck cp K L) {key : Int64} {page : Int32} (hk : ¬ key = 0 → chU M us key 1 page ∨ chU M us key 2 page) : Up M us K L o 3 key page (fun i => if i = 21 + o then key else K i) (fun i => if i = 21 + o then page else L i) := by
  refine ⟨fun i hi hj => ?_, ⟨if_pos rfl, fun _ => if_pos rfl⟩, fun p hp hj => ?_, fun p h1 h2 => ?_⟩
  · have ne : ¬ i = 21 + o := hj 3 (by omega) (by omega)
    exact ⟨if_neg ne, if_neg ne⟩
  · have ne : ¬ p = 5 + o / 4 := hj 2 (by omega)
    refine OKn_cg (hTU.2.2.1 p hp) ⟨if_neg (by omega), if_neg (by omega)⟩ (fun e he => ⟨if_neg (by omega), if_neg (by omega)⟩)
  · by_cases e : p = 21 + o
    · subst e
      unfold OKd
      show ¬ (if 21 + o = 21 + o then key else K (21 + o)) = 0 → chU M us (if 21 + o = 21 + o then key else K (21 + o)) 1 (if 21 + o = 21 + o then page else L (21 + o)) ∨ chU M us (if 21 + o = 21 + o then key else K (21 + o)) 2 (if 21 + o = 21 + o then page else L (21 + o))
      rw [if_pos rfl, if_pos rfl]
      exact hk
    · exact OKd_cg (hTU.2.2.2 p h1 h2) ⟨if_neg e, if_neg e⟩
section SI3
variable {t : Nat} {on rl : Int32} {rk : Nat → Int64} {rml tpl : Int32} {ck : Int64} {cp sd : Int32} {W : Nat → Int64} {M : Nat → Int32} {lc oc tss : Int32} {tkk : Nat → Int64} {tlk tlv : Nat → Int32} {rln rss : Int32} {rkk : Nat → Int64} {la lm : Int32}
/-- the disk behind a change that the power ended -/
theorem SId_fail (h : SId t ck cp sd W M lc oc tss tkk tlk tlv rln rss rkk) (ht : t ≤ 600) {us : Nat → Int32} {K : Nat → Int64} {L : Nat → Int32} (hTU : TU M us ck cp K L) (hTR : tss = sd → TR M K L lc oc tkk tlk tlv) {W' : Nat → Int64} {M' : Nat → Int32} {s : Nat} (hs : s ≤ 21) (hF : FR M M' us) (hR : BR 12800 W' M') (hB : WB M' (5 * t + 5)) (h0 : s = 0 → M' = M) : SId (t + 1) ck cp (sd + nI s) W' M' lc oc tss tkk tlk tlv rln rss rkk := by
  obtain ⟨n, n1, n2, n3, n4⟩ := h.2.2.1
  have e1 : sd + nI s = nI (n + s) := by rw [n2, nI_add]
  have eqs : ∀ {x : Int32}, x.toInt ≤ (n : Int) → x = sd + nI s → s = 0 := by
    intro x hx e
    rw [e, e1, nI_toInt (by omega)] at hx
    omega
  have z : s = 0 → sd + nI s = sd := fun e => by rw [e1, n2, e, Nat.add_zero]
  refine ⟨hR, hB, ⟨n + s, by omega, e1, by omega, by omega⟩, ⟨K, L, TI_of (TU_fr hF (UL.refl _) hTU), fun e => ?_⟩, fun e => ?_, h.2.2.2.2.2⟩
  · have s0 := eqs n3 e
    rw [h0 s0]
    exact hTR (e.trans (z s0))
  · have s0 := eqs n4 e
    rw [h0 s0]
    exact h.2.2.2.2.1 (e.trans (z s0))
theorem SId_ok (h : SId t ck cp sd W M lc oc tss tkk tlk tlv rln rss rkk) (ht : t ≤ 600) {W' : Nat → Int64} {M' : Nat → Int32} {s : Nat} (hs : s ≤ 21) (hs1 : 1 ≤ s) (hR : BR 12800 W' M') (hB : WB M' (5 * t + 5)) {ck' : Int64} {cp' : Int32} {K' : Nat → Int64} {L' : Nat → Int32} (hT : TI M' ck' cp' K' L') : SId (t + 1) ck' cp' (sd + nI s) W' M' lc oc tss tkk tlk tlv rln rss rkk := by
  obtain ⟨n, n1, n2, n3, n4⟩ := h.2.2.1
  have e1 : sd + nI s = nI (n + s) := by rw [n2, nI_add]
  have eqs : ∀ {x : Int32}, x.toInt ≤ (n : Int) → x = sd + nI s → False := by
    intro x hx e
    rw [e, e1, nI_toInt (by omega)] at hx
    omega
  exact ⟨hR, hB, ⟨n + s, by omega, e1, by omega, by omega⟩, ⟨K', L', hT, fun e => (eqs n3 e).elim⟩, fun e => (eqs n4 e).elim, h.2.2.2.2.2⟩
theorem si_shred (h : SI t on rl rk rml tpl ck cp sd W M lc oc tss tkk tlk tlv rln rss rkk la lm) (ht : t ≤ 600) (left pw : Int32) (tbo wbo wsh : Nat → Int64) (wtk : Nat → Int32) (ek : Nat → Int64) (ep us pl : Nat → Int32) (wk : Nat → Int64) (wp wr : Nat → Int32) (v : Int32) : ∃ (r on' left' rl' : Int32) (rk' : Nat → Int64) (ck' : Int64) (cp' sd' : Int32) (W' : Nat → Int64) (tpl' lc' oc' tss' : Int32) (tbo' tkk' : Nat → Int64) (tlk' tlv' : Nat → Int32) (la' pw' : Int32) (wbo' wsh' : Nat → Int64) (wtk' : Nat → Int32) (lm' : Int32) (M' : Nat → Int32) (ek' : Nat → Int64) (ep' us' pl' : Nat → Int32) (wk' : Nat → Int64) (wp' wr' : Nat → Int32), fn_X8_shred on left rl rk ck cp sd W tpl lc oc tss tbo tkk tlk tlv la pw wbo wsh wtk v = (r, on', left', rl', rk', ck', cp', sd', W', tpl', lc', oc', tss', tbo', tkk', tlk', tlv', la', pw', wbo', wsh', wtk') ∧ fn_X9_shred ck cp on left rl tpl lm pw sd M ek ep us pl rk wk wp wr v = (r, ck', cp', on', left', rl', tpl', lm', pw', sd', M', ek', ep', us', pl', rk', wk', wp', wr') ∧ SI (t + 1) on' rl' rk' rml tpl' ck' cp' sd' W' M' lc' oc' tss' tkk' tlk' tlv' rln rss rkk la' lm' := by
  unfold fn_X8_shred fn_X9_shred
  rw [bnd1, show fn_X3_isOn on = on from rfl]
  by_cases ho : on = 0
  · rw [if_pos ho, if_pos ho]; exact ⟨_, _, _, _, _, _, _, _, _, _, _, _, _, _, _, _, _, _, _, _, _, _, _, _, _, _, _, _, _, _, _, rfl, rfl, h.up⟩
  have ho1 : on = 1 := h.1.resolve_left ho
  rw [if_neg ho, if_neg ho, bnd1, bnd1, bnd1, show fn_X8_isObject v = fn_X9_isObject v from rfl, show fn_X2_length rl = rl from rfl]
  by_cases hob : fn_X9_isObject v = 0
  · rw [if_pos hob, if_pos hob]; exact ⟨_, _, _, _, _, _, _, _, _, _, _, _, _, _, _, _, _, _, _, _, _, _, _, _, _, _, _, _, _, _, _, rfl, rfl, h.up⟩
  rw [if_neg hob, if_neg hob]
  by_cases h3' : ¬ 3 ≤ rl
  · rw [if_neg h3', if_neg h3']; exact ⟨_, _, _, _, _, _, _, _, _, _, _, _, _, _, _, _, _, _, _, _, _, _, _, _, _, _, _, _, _, _, _, rfl, rfl, h.up⟩
  have h3 := Decidable.not_not.mp h3'
  rw [if_pos h3, if_pos h3]
  obtain ⟨o, hoo, eo⟩ := obj_n hob
  obtain ⟨rs, hrs, ers, hnz⟩ := h.2.1.1
  have hrs3 : 3 ≤ rs := by
    rw [ers] at h3
    exact (nI_leI (a := 3) (by decide) (by omega)).mp h3
  obtain ⟨a1, a2, a3, a4, a5, a6, K, L, e1, e2, e3, e4⟩ := si_fresh h.2.2.1 ht tbo
  obtain ⟨b1, b2, b3, b4, b5, b6, f1, f2⟩ := m_live e2 ek ep us pl wk wp
  obtain ⟨d1, d2, d3, d4, d5, g1, g2⟩ := m_findWay e2 hoo eo b1 b2 b4 b5 b6
  obtain ⟨w1, w2⟩ := g2 3 (Nat.le_refl 3)
  have w2' : d5 ((3 : Int32).toNatClampNeg) = pgOf K L (21 + o) := w2
  have hS : SI (t + 1) on rl rk rml tpl ck cp sd W M a1 a2 sd a4 a5 a6 rln rss rkk la lm := ⟨h.1, h.2.1, e4.up, h.2.2.2⟩
  obtain ⟨hu1, hu2⟩ := used_eq e3.2.2.1 f2 e3.2.1
  have hfp : fn_X6_freePages a1 = nI (cnt0 b3) := by
    unfold fn_X6_freePages
    rw [hu1, show (200 : Int32) = nI 200 from rfl, nI_sub (by omega), show 200 - (200 - cnt0 b3) = cnt0 b3 by omega]
  have hfm : (200 - fn_X9_used b3 : Int32) = nI (cnt0 b3) := by
    rw [m_used, show (200 : Int32) = nI 200 from rfl, nI_sub (by omega), show 200 - (200 - cnt0 b3) = cnt0 b3 by omega]
  rw [bnd7, e1, bnd7, f1, bnd5]
  rw [show fn_X9_findWay ck cp M (nI (ocN K 64), b1, b2, b3, b4, b5, b6).2.1 (nI (ocN K 64), b1, b2, b3, b4, b5, b6).2.2.1 (nI (ocN K 64), b1, b2, b3, b4, b5, b6).2.2.2.2.1 (nI (ocN K 64), b1, b2, b3, b4, b5, b6).2.2.2.2.2.1 (nI (ocN K 64), b1, b2, b3, b4, b5, b6).2.2.2.2.2.2 v = (d1, d2, d3, d4, d5) from g1, bnd1, bnd1, bnd1, bnd1]
  rw [show fn_X6_hasObject (a1, a2, sd, a3, a4, a5, a6).2.2.2.2.1 v = (if K (21 + o) = 0 then 0 else 1) from by rw [eo]; exact has_obj hoo e3]
  rw [show (d1, d2, d3, d4, d5).2.2.2.2 ((3 : Int32).toNatClampNeg) = pgOf K L (21 + o) from w2', show fn_X6_freePages (a1, a2, sd, a3, a4, a5, a6).1 = nI (cnt0 b3) from hfp, show (200 - fn_X9_used (nI (ocN K 64), b1, b2, b3, b4, b5, b6).2.2.2.1 : Int32) = nI (cnt0 b3) from hfm]
  by_cases hz : K (21 + o) = 0
  · have hm : pgOf K L (21 + o) = (-1) := by unfold pgOf; rw [if_pos hz]
    rw [if_pos hz, if_pos rfl, hm, if_pos rfl]
    exact ⟨_, _, _, _, _, _, _, _, _, _, _, _, _, _, _, _, _, _, _, _, _, _, _, _, _, _, _, _, _, _, _, rfl, rfl, hS⟩
  have hm : ¬ pgOf K L (21 + o) = (-1) := by
    obtain ⟨q, eL, hq, -⟩ := e2.2.2.2.2 (21 + o) (by omega) (by omega) hz
    unfold pgOf; rw [if_neg hz, eL]; exact nI_m1 (by have := hq.1; omega)
  rw [if_neg hz, if_neg (show ¬ (1 : Int32) = 0 by decide), if_neg hm]
  by_cases hfr' : ¬ 3 ≤ cnt0 b3
  · have q : ¬ 3 ≤ nI (cnt0 b3) := nI_ge (b := 3) (by omega) (by omega)
    rw [if_neg q, if_neg q]
    exact ⟨_, _, _, _, _, _, _, _, _, _, _, _, _, _, _, _, _, _, _, _, _, _, _, _, _, _, _, _, _, _, _, rfl, rfl, hS⟩
  have hfr := Decidable.not_not.mp hfr'
  have q : 3 ≤ nI (cnt0 b3) := nI_le (a := 3) hfr (by omega)
  rw [if_pos q, if_pos q, bnd14, bnd17]
  obtain ⟨lcn, hl1, hl2, hl3⟩ := h.2.2.2.2.2 ho1
  have hTU := TU_of e2 (fun r hr hv => (f2 r hr).mpr hv)
  have hP : PHs W M (fn_X7_begin wtk a6) b3 la lm (5 * t) := ⟨h.2.2.1.1, h.2.2.1.2.1, ⟨lcn, hl1, hl2, hl3⟩, fun r hr => LvS_one (c_begin e3.2.2.1 wtk) f2 hr⟩
  obtain ⟨W', bo', sh', row', M', tk', us', pl', wr', ek', ep', la', lm', pw', i1, i2, i3, i4, i5, i6⟩ := sim_branch (tkk := a4) (tl := a5) (wk := d4) (wp := d5) (ck := ck) (cp := cp) (ta := tpl) hoo eo g2 e3.1 3 4 5 W wbo wsh rk M (fn_X7_begin wtk a6) b3 d3 wr d1 d2 la lm (5 * t) rs pw sd left 0 (21 + v) 0 2 0 _ _ (by rw [eo, show (21 : Int32) = nI 21 from rfl, nI_add]; rfl) rfl (by decide) (by decide) (by decide) (by decide) hP (by omega) hfr hrs3 hrs hnz hTU (up_start hoo hTU (page := 0) (key := 0) (fun e => absurd rfl e))
  unfold fn_X7_writeBranch fn_X9_branch
  rw [bnd1, show fn_X6_placeOf v = 21 + v from rfl]
  rcases i6 with ⟨s, rl', k1, k2, k3, k4⟩ | ⟨s, rs', left', cp', ck', K', L', k1, k2, k3, k4, k5, k6, k7, k8⟩
  · rw [ers, ho1, show fn_X7_writeBranch_L16 4 la pw wbo ck cp sd W 1 left wsh (fn_X7_begin wtk (a1, a2, sd, a3, a4, a5, a6).2.2.2.2.2.2) (a1, a2, sd, a3, a4, a5, a6).2.2.2.2.1 (a1, a2, sd, a3, a4, a5, a6).2.2.2.2.2.1 (nI rs) rk 0 0 (21 + v) 0 = _ from k2, show fn_X9_branch_L10 5 ck cp 1 left (nI rs) tpl lm pw sd M (d1, d2, d3, d4, d5).1 (d1, d2, d3, d4, d5).2.1 (nI (ocN K 64), b1, b2, b3, b4, b5, b6).2.2.2.1 (d1, d2, d3, d4, d5).2.2.1 rk (d1, d2, d3, d4, d5).2.2.2.1 (d1, d2, d3, d4, d5).2.2.2.2 wr v 0 0 2 = _ from k3, bnd3, if_pos rfl]
    have e4' := SId_fail e4 ht hTU (fun _ => e3) (W' := W') (M' := M') (s := s) (by omega) i1 i2 (fun p hp => Nat.le_trans (i3 p hp) (by omega)) k4
    exact ⟨_, _, _, _, _, _, _, _, _, _, _, _, _, _, _, _, _, _, _, _, _, _, _, _, _, _, _, _, _, _, _, rfl, rfl, Or.inl rfl, ⟨⟨0, by decide, rfl, fun i hi => absurd hi (Nat.not_lt_zero i)⟩, h.2.1.2.1, ⟨0, by decide, rfl⟩⟩, e4', i4, i5, fun e => absurd e (show ¬ (0 : Int32) = 1 by decide)⟩
  · rw [ers, ho1, show fn_X7_writeBranch_L16 4 la pw wbo ck cp sd W 1 left wsh (fn_X7_begin wtk (a1, a2, sd, a3, a4, a5, a6).2.2.2.2.2.2) (a1, a2, sd, a3, a4, a5, a6).2.2.2.2.1 (a1, a2, sd, a3, a4, a5, a6).2.2.2.2.2.1 (nI rs) rk 0 0 (21 + v) 0 = _ from k3, show fn_X9_branch_L10 5 ck cp 1 left (nI rs) tpl lm pw sd M (d1, d2, d3, d4, d5).1 (d1, d2, d3, d4, d5).2.1 (nI (ocN K 64), b1, b2, b3, b4, b5, b6).2.2.2.1 (d1, d2, d3, d4, d5).2.2.1 rk (d1, d2, d3, d4, d5).2.2.2.1 (d1, d2, d3, d4, d5).2.2.2.2 wr v 0 0 2 = _ from k4, bnd3, if_neg (show ¬ (1 : Int32) = 0 by decide)]
    have e4' := SId_ok e4 ht (W' := W') (M' := M') (s := s) (by omega) k1 i2 (fun p hp => Nat.le_trans (i3 p hp) (by omega)) (TI_of k8)
    exact ⟨_, _, _, _, _, _, _, _, _, _, _, _, _, _, _, _, _, _, _, _, _, _, _, _, _, _, _, _, _, _, _, rfl, rfl, Or.inr rfl, ⟨⟨rs', by omega, rfl, k6⟩, h.2.1.2.1, h.2.1.2.2⟩, e4', i4, i5, fun _ => k7.p⟩
end SI3
