/-! what the calls that read answer -/
theorem passL_nil (M : Nat → Int32) : ∀ n, passL M [] n = [] := by
  intro n
  induction n with
  | zero => rfl
  | succ n ih => rw [passL, ih]; rfl
theorem iterL_nil (M : Nat → Int32) : ∀ b, iterL M [] b = [] := by
  intro b
  induction b with
  | zero => rfl
  | succ b ih => rw [iterL, ih, passL_nil]
section SI2
variable {t : Nat} {on rl : Int32} {rk : Nat → Int64} {rml tpl : Int32} {ck : Int64} {cp sd : Int32} {W : Nat → Int64} {M : Nat → Int32} {lc oc tss : Int32} {tkk : Nat → Int64} {tlk tlv : Nat → Int32} {rln rss : Int32} {rkk : Nat → Int64} {la lm : Int32}
theorem si_reach (h : SId t ck cp sd W M lc oc tss tkk tlk tlv rln rss rkk) (ht : t ≤ 600) (rbo : Nat → Int64) (rtr : Nat → Int32) (kc : Int32) (ek : Nat → Int64) (ep : Nat → Int32) (kk : Nat → Int64) (pl : Nat → Int32) : ∃ (rln' : Int32) (rbo' rkk' : Nat → Int64) (rtr' : Nat → Int32) (kc' : Int32) (ek' : Nat → Int64) (ep' : Nat → Int32) (kk' : Nat → Int64) (pl' : Nat → Int32) (kl : List Int64), fn_X8_freshReach rln rss rbo rkk rtr ck sd W = (rln', sd, rbo', rkk', rtr') ∧ fn_X9_know ck kc M ek ep kk pl = (kc', ek', ep', kk', pl') ∧ RepL kl rkk' rln' ∧ RepL kl kk' kc' ∧ kl.length ≤ 801 ∧ SId t ck cp sd W M lc oc tss tkk tlk tlv rln' sd rkk' := by
  obtain ⟨rln', rbo', rkk', rtr', e1, b, hb1, hb2, hb3⟩ : ∃ (rln' : Int32) (rbo' rkk' : Nat → Int64) (rtr' : Nat → Int32), fn_X8_freshReach rln rss rbo rkk rtr ck sd W = (rln', sd, rbo', rkk', rtr') ∧ RC M ck rln' rkk' := by
    unfold fn_X8_freshReach
    rw [bnd5]
    by_cases hs : rss = sd
    · refine ⟨rln, rbo, rkk, rtr, ?_, h.2.2.2.2.1 hs⟩
      unfold fn_X4_refresh
      rw [bnd1, show fn_X1_stepsDone sd = sd from rfl, if_pos hs, hs]
    · obtain ⟨b, n', bo', ks', tr', q1, q2, q3, q4⟩ := c_reach h.1 (h.w ht) (n := rln) (ck := ck) (bo := rbo) (ks := rkk) (tr := rtr) hs
      rw [q1]
      exact ⟨n', bo', ks', tr', rfl, b, q2, q3, q4⟩
  obtain ⟨l0, l1, -⟩ := hb1.len hb3
  obtain ⟨n, n1, n2, n3, n4⟩ := h.2.2.1
  have hS : SId t ck cp sd W M lc oc tss tkk tlk tlv rln' sd rkk' := ⟨h.1, h.2.1, ⟨n, n1, n2, n3, by rw [n2, nI_toInt (by omega)]; omega⟩, h.2.2.2.1, fun _ => ⟨b, hb1, hb2, hb3⟩, l0, by
    have := hb1.len hb3
    have := this.2.2
    omega⟩
  by_cases hz : ck = 0
  · subst hz
    rw [if_pos rfl, iterL_nil] at hb1 hb3
    exact ⟨rln', rbo', rkk', rtr', _, _, _, _, _, [], e1, m_know0 kc ek ep kk pl, hb1, ⟨rfl, fun i hi => absurd hi (Nat.not_lt_zero i)⟩, by decide, hS⟩
  · rw [if_neg hz] at hb1 hb2 hb3
    obtain ⟨b2, kc', ek', ep', kk', pl', f1, f2, f3⟩ := m_know (M := M) hz kc ek ep kk pl
    have eq := fix_one hb2 f3
    rw [← eq] at f2
    exact ⟨rln', rbo', rkk', rtr', kc', ek', ep', kk', pl', _, e1, f1, hb1, f2, hb3, hS⟩
theorem si_known (h : SI t on rl rk rml tpl ck cp sd W M lc oc tss tkk tlk tlv rln rss rkk la lm) (ht : t ≤ 600) (rbo : Nat → Int64) (rtr : Nat → Int32) (kc : Int32) (ek : Nat → Int64) (ep : Nat → Int32) (kk : Nat → Int64) (pl : Nat → Int32) (v : Int64) : ∃ (r rln' rss' : Int32) (rbo' rkk' : Nat → Int64) (rtr' : Nat → Int32) (kc' : Int32) (ek' : Nat → Int64) (ep' : Nat → Int32) (kk' : Nat → Int64) (pl' : Nat → Int32), fn_X8_known rln rss rbo rkk rtr ck sd W v = (r, rln', rss', rbo', rkk', rtr') ∧ fn_X9_known ck kc M ek ep kk pl v = (r, kc', ek', ep', kk', pl') ∧ SI (t + 1) on rl rk rml tpl ck cp sd W M lc oc tss tkk tlk tlv rln' rss' rkk' la lm := by
  obtain ⟨a1, a2, a3, a4, a5, a6, a7, a8, a9, kl, e1, e2, e3, e4, e5, e6⟩ := si_reach h.2.2.1 ht rbo rtr kc ek ep kk pl
  unfold fn_X8_known fn_X9_known
  rw [bnd5, bnd5, e1, e2, bnd1, bnd1]
  have q1 := c_has e3 e5 v
  have q2 := m_isKnown e4 e5 v
  have e : fn_X4_has a1 a3 v = fn_X9_isKnown a5 a8 v := by
    by_cases hm : v ∈ kl
    · have w1 : ¬ fn_X4_has a1 a3 v = 0 := fun e => q1.2.mp e hm
      have w2 : ¬ fn_X9_isKnown a5 a8 v = 0 := fun e => q2.2.mp e hm
      rw [q1.1.resolve_left w1, q2.1.resolve_left w2]
    · rw [q1.2.mpr hm, q2.2.mpr hm]
  exact ⟨_, _, _, _, _, _, _, _, _, _, _, rfl, by rw [show fn_X4_has (a1, sd, a2, a3, a4).1 (a1, sd, a2, a3, a4).2.2.2.1 v = _ from e], h.1, h.2.1, e6.up, h.2.2.2⟩
theorem si_knownAt (h : SI t on rl rk rml tpl ck cp sd W M lc oc tss tkk tlk tlv rln rss rkk la lm) (ht : t ≤ 600) (rbo : Nat → Int64) (rtr : Nat → Int32) (kc : Int32) (ek : Nat → Int64) (ep : Nat → Int32) (kk : Nat → Int64) (pl : Nat → Int32) (v : Int32) : ∃ (r : Int64) (rln' rss' : Int32) (rbo' rkk' : Nat → Int64) (rtr' : Nat → Int32) (kc' : Int32) (ek' : Nat → Int64) (ep' : Nat → Int32) (kk' : Nat → Int64) (pl' : Nat → Int32), fn_X8_knownAt rln rss rbo rkk rtr ck sd W v = (r, rln', rss', rbo', rkk', rtr') ∧ fn_X9_knownAt ck kc M ek ep kk pl v = (r, kc', ek', ep', kk', pl') ∧ SI (t + 1) on rl rk rml tpl ck cp sd W M lc oc tss tkk tlk tlv rln' rss' rkk' la lm := by
  obtain ⟨a1, a2, a3, a4, a5, a6, a7, a8, a9, kl, e1, e2, e3, e4, e5, e6⟩ := si_reach h.2.2.1 ht rbo rtr kc ek ep kk pl
  unfold fn_X8_knownAt fn_X9_knownAt fn_X4_keyAt
  rw [bnd5, bnd5, e1, e2, bnd1]
  have hS : SI (t + 1) on rl rk rml tpl ck cp sd W M lc oc tss tkk tlk tlv a1 sd a3 la lm := ⟨h.1, h.2.1, e6.up, h.2.2.2⟩
  by_cases hv : v < 0
  · rw [if_pos hv, if_pos hv]; exact ⟨_, _, _, _, _, _, _, _, _, _, _, rfl, rfl, hS⟩
  · obtain ⟨j, hj, ej⟩ := nI_of hv
    have l1 := e3.1
    have l2 := e4.1
    rw [if_neg hv, if_neg hv]
    by_cases a : j < kl.length
    · have c1 : v < a1 := by rw [ej, l1]; exact nI_lt a (by omega)
      have c2 : ¬ a5 ≤ v := by rw [ej, l2]; exact nI_ge a (by omega)
      have c3 : a3 (v : Int32).toNatClampNeg = a8 (v : Int32).toNatClampNeg := by
        rw [ej, nI_clamp (by omega)]
        exact Option.some.inj ((e3.2 j a).symm.trans (e4.2 j a))
      rw [show (a1, sd, a2, a3, a4).1 = a1 from rfl, if_pos c1, show (a5, a6, a7, a8, a9).1 = a5 from rfl, if_neg c2]
      exact ⟨_, _, _, _, _, _, _, _, _, _, _, rfl, by rw [show (a1, sd, a2, a3, a4).2.2.2.1 (v : Int32).toNatClampNeg = _ from c3], hS⟩
    · have c1 : ¬ v < a1 := by rw [ej, l1]; exact nI_nlt (by omega) (by omega)
      have c2 : a5 ≤ v := by rw [ej, l2]; exact nI_le (by omega) (by omega)
      rw [show (a1, sd, a2, a3, a4).1 = a1 from rfl, if_neg c1, show (a5, a6, a7, a8, a9).1 = a5 from rfl, if_pos c2]
      exact ⟨_, _, _, _, _, _, _, _, _, _, _, rfl, rfl, hS⟩
theorem si_fresh (h : SId t ck cp sd W M lc oc tss tkk tlk tlv rln rss rkk) (ht : t ≤ 600) (tbo : Nat → Int64) : ∃ (lc' oc' : Int32) (tbo' tkk' : Nat → Int64) (tlk' tlv' : Nat → Int32) (K : Nat → Int64) (L : Nat → Int32), fn_X8_freshTree ck cp sd W lc oc tss tbo tkk tlk tlv = (lc', oc', sd, tbo', tkk', tlk', tlv') ∧ TI M ck cp K L ∧ TR M K L lc' oc' tkk' tlk' tlv' ∧ SId t ck cp sd W M lc' oc' sd tkk' tlk' tlv' rln rss rkk := by
  obtain ⟨n, n1, n2, n3, n4⟩ := h.2.2.1
  obtain ⟨K, L, hT, hR⟩ := h.2.2.2.1
  obtain ⟨lc', oc', tbo', tkk', tlk', tlv', e1, e2⟩ : ∃ (lc' oc' : Int32) (tbo' tkk' : Nat → Int64) (tlk' tlv' : Nat → Int32), fn_X8_freshTree ck cp sd W lc oc tss tbo tkk tlk tlv = (lc', oc', sd, tbo', tkk', tlk', tlv') ∧ TR M K L lc' oc' tkk' tlk' tlv' := by
    unfold fn_X8_freshTree
    rw [bnd7]
    by_cases hs : tss = sd
    · refine ⟨lc, oc, tbo, tkk, tlk, tlv, ?_, hR hs⟩
      unfold fn_X6_refresh
      rw [bnd1, show fn_X1_stepsDone sd = sd from rfl, if_pos hs, hs]
    · obtain ⟨a1, a2, a3, a4, a5, a6, q1, q2⟩ := c_tree h.1 (h.w ht) hT hs lc oc tbo tkk tlk tlv
      rw [q1]
      exact ⟨a1, a2, a3, a4, a5, a6, rfl, q2⟩
  exact ⟨lc', oc', tbo', tkk', tlk', tlv', K, L, e1, hT, e2, h.1, h.2.1, ⟨n, n1, n2, by rw [n2, nI_toInt (by omega)]; omega, n4⟩, ⟨K, L, hT, fun _ => e2⟩, h.2.2.2.2⟩
theorem LvS_one {f g : Nat → Int32} {P : Nat → Prop} (h1 : LvS f P) (h2 : LvS g P) {q : Nat} (hq : q < 200) : f q = 0 ↔ g q = 0 := by
  have := (h1 q hq).trans (h2 q hq).symm
  constructor
  · intro a; exact Decidable.byContradiction (fun b => (this.mpr b) a)
  · intro a; exact Decidable.byContradiction (fun b => (this.mp b) a)
theorem used_eq {f g : Nat → Int32} {P : Nat → Prop} {c : Int32} (h1 : LvS f P) (h2 : LvS g P) (hc : LvC f c) : c = nI (200 - cnt0 g) ∧ cnt0 g ≤ 200 := by
  have e := cntB_cg (f := fun q => !decide (f q = 0)) (g := fun q => !decide (g q = 0)) 200 (fun i hi => by
    show (!decide (f i = 0)) = !decide (g i = 0)
    rw [decide_eq_decide.mpr (LvS_one h1 h2 hi)])
  have e2 := cntB_not (fun q => decide (g q = 0)) 200
  unfold LvC at hc
  rw [hc, e]
  have : cntB (fun q => !decide (g q = 0)) 200 = 200 - cnt0 g := by unfold cnt0; omega
  exact ⟨by rw [this], cntB_le _ 200⟩
theorem si_live (h : SI t on rl rk rml tpl ck cp sd W M lc oc tss tkk tlk tlv rln rss rkk la lm) (ht : t ≤ 600) (tbo : Nat → Int64) (ek : Nat → Int64) (ep us pl : Nat → Int32) (wk : Nat → Int64) (wp : Nat → Int32) (v : Int32) : ∃ (r lc' oc' tss' : Int32) (tbo' tkk' : Nat → Int64) (tlk' tlv' : Nat → Int32) (ek' : Nat → Int64) (ep' us' pl' : Nat → Int32) (wk' : Nat → Int64) (wp' : Nat → Int32), fn_X8_live ck cp sd W lc oc tss tbo tkk tlk tlv v = (r, lc', oc', tss', tbo', tkk', tlk', tlv') ∧ fn_X9_live ck cp M ek ep us pl wk wp v = (r, ek', ep', us', pl', wk', wp') ∧ SI (t + 1) on rl rk rml tpl ck cp sd W M lc' oc' tss' tkk' tlk' tlv' rln rss rkk la lm := by
  obtain ⟨a1, a2, a3, a4, a5, a6, K, L, e1, e2, e3, e4⟩ := si_fresh h.2.2.1 ht tbo
  obtain ⟨b1, b2, b3, b4, b5, b6, f1, f2⟩ := m_live e2 ek ep us pl wk wp
  have hS : SI (t + 1) on rl rk rml tpl ck cp sd W M a1 a2 sd a4 a5 a6 rln rss rkk la lm := ⟨h.1, h.2.1, e4.up, h.2.2.2⟩
  unfold fn_X8_live fn_X9_live fn_X6_isLive fn_X8_isPage
  rw [bnd7, bnd7, e1, f1, bnd1, bnd1]
  by_cases hv : v < 0
  · rw [if_pos hv, if_pos hv, if_pos rfl]; exact ⟨_, _, _, _, _, _, _, _, _, _, _, _, _, _, rfl, rfl, hS⟩
  · rw [if_neg hv, if_neg hv]
    by_cases hp : 200 ≤ v
    · rw [if_pos hp, if_pos hp, if_pos rfl]; exact ⟨_, _, _, _, _, _, _, _, _, _, _, _, _, _, rfl, rfl, hS⟩
    · rw [if_neg hp, if_neg hp, if_neg (show ¬ (1 : Int32) = 0 by decide)]
      have hq : (v : Int32).toNatClampNeg < 200 := q_cl (q_i2 hv hp (by decide))
      have hz := LvS_one e3.2.2.1 f2 hq
      by_cases a : a6 (v : Int32).toNatClampNeg = 0
      · rw [show (a1, a2, sd, a3, a4, a5, a6).2.2.2.2.2.2 = a6 from rfl, if_pos a, show (nI (ocN K 64), b1, b2, b3, b4, b5, b6).2.2.2.1 = b3 from rfl, if_pos (hz.mp a)]
        exact ⟨_, _, _, _, _, _, _, _, _, _, _, _, _, _, rfl, rfl, hS⟩
      · rw [show (a1, a2, sd, a3, a4, a5, a6).2.2.2.2.2.2 = a6 from rfl, if_neg a, show (nI (ocN K 64), b1, b2, b3, b4, b5, b6).2.2.2.1 = b3 from rfl, if_neg (fun b => a (hz.mpr b))]
        exact ⟨_, _, _, _, _, _, _, _, _, _, _, _, _, _, rfl, rfl, hS⟩
theorem si_count (h : SI t on rl rk rml tpl ck cp sd W M lc oc tss tkk tlk tlv rln rss rkk la lm) (ht : t ≤ 600) (pw : Int32) (tbo rbo : Nat → Int64) (rtr : Nat → Int32) (kc : Int32) (kk : Nat → Int64) (ek : Nat → Int64) (ep us pl : Nat → Int32) (wk : Nat → Int64) (wp : Nat → Int32) (v : Int32) : ∃ (r rln' rss' : Int32) (rbo' rkk' : Nat → Int64) (rtr' : Nat → Int32) (lc' oc' tss' : Int32) (tbo' tkk' : Nat → Int64) (tlk' tlv' : Nat → Int32) (kc' : Int32) (ek' : Nat → Int64) (ep' us' : Nat → Int32) (kk' : Nat → Int64) (pl' : Nat → Int32) (wk' : Nat → Int64) (wp' : Nat → Int32), fn_X8_count on rln rss rbo rkk rtr rl ck cp sd W tpl lc oc tss tbo tkk tlk tlv pw v = (r, rln', rss', rbo', rkk', rtr', lc', oc', tss', tbo', tkk', tlk', tlv') ∧ fn_X9_count ck cp on rl tpl pw sd kc M ek ep us kk pl wk wp v = (r, kc', ek', ep', us', kk', pl', wk', wp') ∧ SI (t + 1) on rl rk rml tpl ck cp sd W M lc' oc' tss' tkk' tlk' tlv' rln' rss' rkk' la lm := by
  unfold fn_X8_count fn_X9_count
  by_cases h0 : v = 0
  · rw [if_pos h0, if_pos h0, bnd1, show fn_X3_isOn on = on from rfl]
    by_cases ho : on = 0
    · rw [if_pos ho, if_pos ho]; exact ⟨_, _, _, _, _, _, _, _, _, _, _, _, _, _, _, _, _, _, _, _, _, rfl, rfl, h.up⟩
    · rw [if_neg ho, if_neg ho]; exact ⟨_, _, _, _, _, _, _, _, _, _, _, _, _, _, _, _, _, _, _, _, _, rfl, rfl, h.up⟩
  rw [if_neg h0, if_neg h0]
  by_cases h1 : v = 1
  · rw [if_pos h1, if_pos h1, bnd1]; exact ⟨_, _, _, _, _, _, _, _, _, _, _, _, _, _, _, _, _, _, _, _, _, rfl, rfl, h.up⟩
  rw [if_neg h1, if_neg h1]
  by_cases h2 : v = 2
  · rw [if_pos h2, if_pos h2, bnd1]; exact ⟨_, _, _, _, _, _, _, _, _, _, _, _, _, _, _, _, _, _, _, _, _, rfl, rfl, h.up⟩
  rw [if_neg h2, if_neg h2]
  by_cases h3 : v = 3
  · obtain ⟨a1, a2, a3, a4, a5, a6, K, L, e1, e2, e3, e4⟩ := si_fresh h.2.2.1 ht tbo
    obtain ⟨b1, b2, b3, b4, b5, b6, f1, f2⟩ := m_live e2 ek ep us pl wk wp
    have hS : SI (t + 1) on rl rk rml tpl ck cp sd W M a1 a2 sd a4 a5 a6 rln rss rkk la lm := ⟨h.1, h.2.1, e4.up, h.2.2.2⟩
    have hu := used_eq e3.2.2.1 f2 e3.2.1
    rw [if_pos h3, if_pos h3, bnd7, bnd7, e1, f1, bnd1, bnd1, m_used]
    exact ⟨_, _, _, _, _, _, _, _, _, _, _, _, _, _, _, _, _, _, _, _, _, rfl, by rw [show nI (200 - cnt0 (nI (ocN K 64), b1, b2, b3, b4, b5, b6).2.2.2.1) = fn_X6_liveCount (a1, a2, sd, a3, a4, a5, a6).1 from hu.1.symm], hS⟩
  rw [if_neg h3, if_neg h3]
  by_cases h4 : v = 4
  · obtain ⟨a1, a2, a3, a4, a5, a6, K, L, e1, e2, e3, e4⟩ := si_fresh h.2.2.1 ht tbo
    obtain ⟨b1, b2, b3, b4, b5, b6, f1, f2⟩ := m_live e2 ek ep us pl wk wp
    have hS : SI (t + 1) on rl rk rml tpl ck cp sd W M a1 a2 sd a4 a5 a6 rln rss rkk la lm := ⟨h.1, h.2.1, e4.up, h.2.2.2⟩
    rw [if_pos h4, if_pos h4, bnd7, bnd7, e1, f1, bnd1]
    exact ⟨_, _, _, _, _, _, _, _, _, _, _, _, _, _, _, _, _, _, _, _, _, rfl, by rw [show (nI (ocN K 64), b1, b2, b3, b4, b5, b6).1 = fn_X6_objectCount (a1, a2, sd, a3, a4, a5, a6).2.1 from e3.2.2.2.symm], hS⟩
  rw [if_neg h4, if_neg h4]
  by_cases h5 : v = 5
  · rw [if_pos h5, if_pos h5, bnd1]; exact ⟨_, _, _, _, _, _, _, _, _, _, _, _, _, _, _, _, _, _, _, _, _, rfl, rfl, h.up⟩
  rw [if_neg h5, if_neg h5]
  by_cases h6 : v = 6
  · rw [if_pos h6, if_pos h6, bnd1]; exact ⟨_, _, _, _, _, _, _, _, _, _, _, _, _, _, _, _, _, _, _, _, _, rfl, rfl, h.up⟩
  rw [if_neg h6, if_neg h6]
  by_cases h7 : v = 7
  · obtain ⟨a1, a2, a3, a4, a5, a6, a7, a8, a9, kl, e1, e2, e3, e4, e5, e6⟩ := si_reach h.2.2.1 ht rbo rtr kc ek ep kk pl
    have hS : SI (t + 1) on rl rk rml tpl ck cp sd W M lc oc tss tkk tlk tlv a1 sd a3 la lm := ⟨h.1, h.2.1, e6.up, h.2.2.2⟩
    rw [if_pos h7, if_pos h7, bnd5, bnd5, e1, e2, bnd1]
    exact ⟨_, _, _, _, _, _, _, _, _, _, _, _, _, _, _, _, _, _, _, _, _, rfl, by rw [show (a5, a6, a7, a8, a9).1 = fn_X4_length (a1, sd, a2, a3, a4).1 from e4.1.trans e3.1.symm], hS⟩
  rw [if_neg h7, if_neg h7]
  exact ⟨_, _, _, _, _, _, _, _, _, _, _, _, _, _, _, _, _, _, _, _, _, rfl, rfl, h.up⟩
theorem obj_n {v : Int32} (h : ¬ fn_X9_isObject v = 0) : ∃ o, o < 64 ∧ v = nI o := by
  unfold fn_X9_isObject at h
  by_cases a : v < 0
  · rw [if_pos a] at h; exact absurd rfl h
  · rw [if_neg a] at h
    by_cases b : 64 ≤ v
    · rw [if_pos b] at h; exact absurd rfl h
    · obtain ⟨j, hj, ej⟩ := nI_of a
      exact ⟨j, q_j (N := 64) ej (by omega) (by decide) b, ej⟩
theorem obj_1 {o : Nat} (h : o < 64) : fn_X8_isObject (nI o) = 1 := by
  unfold fn_X8_isObject
  rw [if_neg (nI_pos (by omega)), if_neg (show ¬ 64 ≤ nI o from nI_ge (b := 64) h (by omega))]
theorem has_obj {K : Nat → Int64} {L : Nat → Int32} {lc oc : Int32} {tkk : Nat → Int64} {tlk tlv : Nat → Int32} {o : Nat} (ho : o < 64) (hR : TR M K L lc oc tkk tlk tlv) : fn_X6_hasObject tkk (nI o) = if K (21 + o) = 0 then 0 else 1 := by
  unfold fn_X6_hasObject
  rw [bnd1, obj_1 ho, if_neg (show ¬ (1 : Int32) = 0 by decide), show (21 : Int32) = nI 21 from rfl, nI_add, nI_clamp (by omega), (hR.1 (21 + o) (by omega)).1]
  by_cases a : K (21 + o) = 0
  · rw [if_pos (lgc0.mpr a), if_pos a]
  · rw [if_neg (mt lgc0.mp a), if_neg a]
theorem si_size (h : SI t on rl rk rml tpl ck cp sd W M lc oc tss tkk tlk tlv rln rss rkk la lm) (ht : t ≤ 600) (tbo : Nat → Int64) (ek : Nat → Int64) (ep pl : Nat → Int32) (wk : Nat → Int64) (wp : Nat → Int32) (v : Int32) : ∃ (r lc' oc' tss' : Int32) (tbo' tkk' : Nat → Int64) (tlk' tlv' : Nat → Int32) (ek' : Nat → Int64) (ep' pl' : Nat → Int32) (wk' : Nat → Int64) (wp' : Nat → Int32), fn_X8_size on ck cp sd W lc oc tss tbo tkk tlk tlv v = (r, lc', oc', tss', tbo', tkk', tlk', tlv') ∧ fn_X9_size ck cp on M ek ep pl wk wp v = (r, ek', ep', pl', wk', wp') ∧ SI (t + 1) on rl rk rml tpl ck cp sd W M lc' oc' tss' tkk' tlk' tlv' rln rss rkk la lm := by
  unfold fn_X8_size fn_X9_size
  rw [bnd1, show fn_X3_isOn on = on from rfl]
  by_cases ho : on = 0
  · rw [if_pos ho, if_pos ho]; exact ⟨_, _, _, _, _, _, _, _, _, _, _, _, _, rfl, rfl, h.up⟩
  rw [if_neg ho, if_neg ho, bnd1, bnd1, show fn_X8_isObject v = fn_X9_isObject v from rfl]
  by_cases hob : fn_X9_isObject v = 0
  · rw [if_pos hob, if_pos hob]; exact ⟨_, _, _, _, _, _, _, _, _, _, _, _, _, rfl, rfl, h.up⟩
  rw [if_neg hob, if_neg hob]
  obtain ⟨o, hoo, eo⟩ := obj_n hob
  obtain ⟨a1, a2, a3, a4, a5, a6, K, L, e1, e2, e3, e4⟩ := si_fresh h.2.2.1 ht tbo
  have hS : SI (t + 1) on rl rk rml tpl ck cp sd W M a1 a2 sd a4 a5 a6 rln rss rkk la lm := ⟨h.1, h.2.1, e4.up, h.2.2.2⟩
  obtain ⟨b1, b2, b3, b4, b5, f1, f2⟩ := m_findWay e2 hoo eo ek ep pl wk wp
  obtain ⟨w1, w2⟩ := f2 3 (Nat.le_refl 3)
  have w2' : b5 ((3 : Int32).toNatClampNeg) = pgOf K L (21 + o) := w2
  have e21 : (21 + v : Int32) = nI (21 + o) := by rw [eo, show (21 : Int32) = nI 21 from rfl, nI_add]
  rw [bnd7, bnd5, e1, f1, bnd2]
  show ∃ (r lc' oc' tss' : Int32) (tbo' tkk' : Nat → Int64) (tlk' tlv' : Nat → Int32) (ek' : Nat → Int64) (ep' pl' : Nat → Int32) (wk' : Nat → Int64) (wp' : Nat → Int32), ((fn_X6_objectSize a3 W a4 a5 v).1, a1, a2, sd, (fn_X6_objectSize a3 W a4 a5 v).2, a4, a5, a6) = (r, lc', oc', tss', tbo', tkk', tlk', tlv') ∧ (if b5 ((3 : Int32).toNatClampNeg) = (-1) then fn_X9_size_L40 4 ck cp on M b1 b2 b3 b4 b5 (b5 ((3 : Int32).toNatClampNeg)) (-1) else fn_X9_size_L40 4 ck cp on M b1 b2 b3 b4 b5 (b5 ((3 : Int32).toNatClampNeg)) 0) = (r, ek', ep', pl', wk', wp') ∧ _
  rw [w2']
  unfold fn_X6_objectSize
  rw [bnd1, eo, has_obj hoo e3, ← eo]
  by_cases hz : K (21 + o) = 0
  · have hm : pgOf K L (21 + o) = (-1) := by unfold pgOf; rw [if_pos hz]
    rw [if_pos hz, if_pos rfl, hm, if_pos rfl, fn_X9_size_L40, if_pos rfl]
    exact ⟨_, _, _, _, _, _, _, _, _, _, _, _, _, rfl, rfl, hS⟩
  · obtain ⟨q, eL, hq, -⟩ := e2.2.2.2.2 (21 + o) (by omega) (by omega) hz
    have hm : pgOf K L (21 + o) = nI q := by unfold pgOf; rw [if_neg hz, eL]
    have hm1 : ¬ nI q = (-1) := nI_m1 (by have := hq.1; omega)
    have hch := chS_of e2 hoo
    rw [hm] at hch
    rw [if_neg hz, if_neg (show ¬ (1 : Int32) = 0 by decide), hm, if_neg hm1, e21, nI_clamp (by omega), (e3.1 (21 + o) (by omega)).2 hz, eL]
    obtain ⟨r, bo', pl', g1, g2⟩ := sim_size (W := W) (M := M) (k := K (21 + o)) (ck := ck) (cp := cp) (on := on) (links := a5) (v := v) (keys := a4) (ek := b1) (ep := b2) (wk := b4) (wp := b5) h.2.2.1.1 (h.2.2.1.w ht) (by rw [e21, nI_clamp (by omega)]; exact (e3.1 (21 + o) (by omega)).1) w1 2 201 4 0 a3 b3 0 (nI q) (nI q) 0 rfl (by decide) (by decide) (by decide) hch (Or.inl ⟨rfl, hm1⟩)
    rw [g1, g2]
    exact ⟨_, _, _, _, _, _, _, _, _, _, _, _, _, rfl, rfl, hS⟩
theorem si_at (h : SI t on rl rk rml tpl ck cp sd W M lc oc tss tkk tlk tlv rln rss rkk la lm) (ht : t ≤ 600) (tbo : Nat → Int64) (ek : Nat → Int64) (ep pl : Nat → Int32) (wk : Nat → Int64) (wp : Nat → Int32) (v i : Int32) : ∃ (r lc' oc' tss' : Int32) (tbo' tkk' : Nat → Int64) (tlk' tlv' : Nat → Int32) (ek' : Nat → Int64) (ep' pl' : Nat → Int32) (wk' : Nat → Int64) (wp' : Nat → Int32), fn_X8_at on ck cp sd W lc oc tss tbo tkk tlk tlv v i = (r, lc', oc', tss', tbo', tkk', tlk', tlv') ∧ fn_X9_at ck cp on M ek ep pl wk wp v i = (r, ek', ep', pl', wk', wp') ∧ SI (t + 1) on rl rk rml tpl ck cp sd W M lc' oc' tss' tkk' tlk' tlv' rln rss rkk la lm := by
  unfold fn_X8_at fn_X9_at
  rw [bnd1, show fn_X3_isOn on = on from rfl]
  by_cases ho : on = 0
  · rw [if_pos ho, if_pos ho]; exact ⟨_, _, _, _, _, _, _, _, _, _, _, _, _, rfl, rfl, h.up⟩
  rw [if_neg ho, if_neg ho, bnd1, bnd1, show fn_X8_isObject v = fn_X9_isObject v from rfl]
  by_cases hob : fn_X9_isObject v = 0
  · rw [if_pos hob, if_pos hob]; exact ⟨_, _, _, _, _, _, _, _, _, _, _, _, _, rfl, rfl, h.up⟩
  rw [if_neg hob, if_neg hob]
  obtain ⟨o, hoo, eo⟩ := obj_n hob
  obtain ⟨a1, a2, a3, a4, a5, a6, K, L, e1, e2, e3, e4⟩ := si_fresh h.2.2.1 ht tbo
  have hS : SI (t + 1) on rl rk rml tpl ck cp sd W M a1 a2 sd a4 a5 a6 rln rss rkk la lm := ⟨h.1, h.2.1, e4.up, h.2.2.2⟩
  obtain ⟨b1, b2, b3, b4, b5, f1, f2⟩ := m_findWay e2 hoo eo ek ep pl wk wp
  obtain ⟨w1, w2⟩ := f2 3 (Nat.le_refl 3)
  have w2' : b5 ((3 : Int32).toNatClampNeg) = pgOf K L (21 + o) := w2
  have e21 : (21 + v : Int32) = nI (21 + o) := by rw [eo, show (21 : Int32) = nI 21 from rfl, nI_add]
  rw [bnd7, bnd5, e1, f1, bnd2]
  show ∃ (r lc' oc' tss' : Int32) (tbo' tkk' : Nat → Int64) (tlk' tlv' : Nat → Int32) (ek' : Nat → Int64) (ep' pl' : Nat → Int32) (wk' : Nat → Int64) (wp' : Nat → Int32), ((fn_X6_objectByte a3 W a4 a5 v i).1, a1, a2, sd, (fn_X6_objectByte a3 W a4 a5 v i).2, a4, a5, a6) = (r, lc', oc', tss', tbo', tkk', tlk', tlv') ∧ fn_X9_at_L32 4 ck cp on M b1 b2 b3 b4 b5 i (b5 ((3 : Int32).toNatClampNeg)) 0 = (r, ek', ep', pl', wk', wp') ∧ _
  rw [w2']
  unfold fn_X6_objectByte
  rw [bnd1, eo, has_obj hoo e3, ← eo]
  by_cases hz : K (21 + o) = 0
  · have hm : pgOf K L (21 + o) = (-1) := by unfold pgOf; rw [if_pos hz]
    rw [if_pos hz, if_pos rfl, hm, fn_X9_at_L32, if_pos rfl]
    exact ⟨_, _, _, _, _, _, _, _, _, _, _, _, _, rfl, rfl, hS⟩
  · obtain ⟨q, eL, hq, -⟩ := e2.2.2.2.2 (21 + o) (by omega) (by omega) hz
    have hm : pgOf K L (21 + o) = nI q := by unfold pgOf; rw [if_neg hz, eL]
    have hm1 : ¬ nI q = (-1) := nI_m1 (by have := hq.1; omega)
    have hch := chS_of e2 hoo
    rw [hm] at hch
    rw [if_neg hz, if_neg (show ¬ (1 : Int32) = 0 by decide), hm]
    by_cases hi : i < 0
    · have hi' : ¬ 0 ≤ i := fun c => by
        have a := q_le c
        have b := q_lt hi
        omega
      rw [if_neg hi', fn_X9_at_L32, if_neg hm1, if_pos hi]
      exact ⟨_, _, _, _, _, _, _, _, _, _, _, _, _, rfl, rfl, hS⟩
    · have h0 := q_nlt hi
      have e0 : (0 : Int32).toInt = 0 := by decide
      rw [if_pos (Int32.le_iff_toInt_le.mpr h0), e21, nI_clamp (by omega), (e3.1 (21 + o) (by omega)).2 hz, eL]
      obtain ⟨r, bo', pl', g1, g2⟩ := sim_at (W := W) (M := M) (k := K (21 + o)) (ck := ck) (cp := cp) (on := on) (links := a5) (v := v) (keys := a4) (ek := b1) (ep := b2) (wk := b4) (wp := b5) h.2.2.1.1 (h.2.2.1.w ht) (by rw [e21, nI_clamp (by omega)]; exact (e3.1 (21 + o) (by omega)).1) w1 hi 2 201 4 0 a3 b3 i 0 (nI q) (nI q) 0 rfl (by decide) (by decide) (by decide) hch (Or.inl ⟨rfl, hm1⟩) (by rw [e0]; omega) (by rw [e0]; omega) (by omega) (by omega)
      rw [g1, g2]
      exact ⟨_, _, _, _, _, _, _, _, _, _, _, _, _, rfl, rfl, hS⟩
end SI2
