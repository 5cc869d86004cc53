/-! the fresh tree of the class; the reference's marks; sizes and bytes of objects -/
section CT3
variable {W : Nat → Int64} {M : Nat → Int32} {ck : Int64} {cp : Int32} {K : Nat → Int64} {L : Nat → Int32}
theorem c_r58 (h : BR 12800 W M) (hw : ∀ p, p < 200 → bt (pWrit M p) 31 = false) (hT : TI M ck cp K L) {ss sd : Int32} : ∀ (n c j : Nat) (lc oc : Int32) (bo keys : Nat → Int64) (links live : Nat → Int32) (x : Int32), x = nI j → j + c = 21 → c < n → oc = 0 → CI K L keys links j → LvC live lc → LvS live (lvN K L j) → ∃ (lc' oc' : Int32) (bo' keys' : Nat → Int64) (links' live' : Nat → Int32), fn_X6_refresh_L58 n lc oc ss bo ck cp sd W keys links live x = (lc', oc', ss, bo', keys', links', live') ∧ TR M K L lc' oc' keys' links' live' := by
  intro n
  induction n with
  | zero => intro c j lc oc bo keys links live x hx hj hc; omega
  | succ n ih =>
    intro c j lc oc bo keys links live x hx hj hc ho h1 h2 h3
    rw [fn_X6_refresh_L58]
    cases c with
    | zero =>
      rw [if_pos (by rw [hx]; exact nI_le (a := 21) (by omega) (by omega))]
      have e : j = 21 := by omega
      subst e
      have hK : ∀ i, i < 85 → keys i = K i ∧ (¬ K i = 0 → links i = L i) := fun i hi => (h1 i hi).1 (by omega)
      obtain ⟨lc', oc', bo', live', g1, g2, g3, g4⟩ := c_r89 h hw hT (ss := ss) (sd := sd) hK 86 64 0 lc oc bo live 21 rfl (by decide) (by decide) ho h2 (h3.cg (fun q _ => ⟨Or.inl, fun a => a.elim id (fun ⟨p, a1, _⟩ => absurd a1 (Nat.not_lt_zero p))⟩))
      exact ⟨lc', oc', bo', keys, links, live', g1, hK, g3, g4, g2⟩
    | succ c =>
      obtain ⟨ek, el⟩ := (h1 j (by omega)).1 (by omega)
      rw [if_neg (by rw [hx]; exact nI_ge (b := 21) (by omega) (by omega)), hx, nI_clamp (by omega), ek]
      by_cases hz : K j = 0
      · rw [if_pos (lgc0.mpr hz)]
        exact ih c (j + 1) lc oc bo keys links live _ (nI_1 j) (by omega) (by omega) ho (CI_skip hT (by omega) hz h1) h2 (lvN_skip hz h3)
      · rw [if_neg (mt lgc0.mp hz), bnd5]
        obtain ⟨c1, b1, k1, l1, v1, g1, g2, g3, g4⟩ := c_node h hw hT (by omega) hz bo h1 h2 h3
        rw [g1]
        exact ih c (j + 1) c1 oc b1 k1 l1 v1 _ (nI_1 j) (by omega) (by omega) ho g2 g3 g4
theorem c_tree (h : BR 12800 W M) (hw : ∀ p, p < 200 → bt (pWrit M p) 31 = false) (hT : TI M ck cp K L) {ss sd : Int32} (hs : ¬ ss = sd) (lc oc : Int32) (bo keys : Nat → Int64) (links live : Nat → Int32) : ∃ (lc' oc' : Int32) (bo' keys' : Nat → Int64) (links' live' : Nat → Int32), fn_X6_refresh lc oc ss bo ck cp sd W keys links live = (lc', oc', sd, bo', keys', links', live') ∧ TR M K L lc' oc' keys' links' live' := by
  unfold fn_X6_refresh fn_X6_forget
  rw [bnd1, show fn_X1_stepsDone sd = sd from rfl, if_neg hs, bnd1, bnd5]
  obtain ⟨k1, l1, v1, e1, e2, e3⟩ := c_f2 (lc := lc) (oc := oc) 86 85 0 keys links live 0 rfl (by decide) (by decide) (fun i hi => absurd hi (Nat.not_lt_zero i))
  rw [e1, bnd1, bnd1]
  refine c_r58 h hw hT 22 21 0 0 0 bo _ _ v1 0 rfl (by decide) (by decide) rfl (fun i hi => ⟨fun a => ?_, fun a => ?_⟩) (LvC_0 e3) (fun q hq => ⟨fun a => absurd (e3 q hq) a, fun ⟨p, a1, _⟩ => absurd a1 (Nat.not_lt_zero p)⟩)
  · have e : i = (0 : Int32).toNatClampNeg := by show i = 0; omega
    subst e
    rw [pk_uLs, pk_us]
    exact ⟨hT.1.symm, fun a => (hT.2.1 (fun b => a (hT.1.trans b))).symm⟩
  · rw [pk_uLn (show ¬ i = (0 : Int32).toNatClampNeg from fun e => by have : i = 0 := e; omega)]
    exact e2 i hi
/-- the reference's marks along a way -/
theorem m_m39 {K26 : Int64 → Int32 → (Nat → Int32) → (Nat → Int64) → (Nat → Int32) → (Nat → Int32) → (Nat → Int32) → (Nat → Int64) → (Nat → Int32) → Int32 → Int32 → (Int32 × (Nat → Int64) × (Nat → Int32) × (Nat → Int32) × (Nat → Int32) × (Nat → Int64) × (Nat → Int32))} {ek : Nat → Int64} {ep pl : Nat → Int32} {wk : Nat → Int64} {wp : Nat → Int32} {v2 : Int32} {o : Nat} (hT : TI M ck cp K L) (ho : o < 64) (hW : WI K L o wk wp 3) : ∀ (n c j : Nat) (us : Nat → Int32) (P : Nat → Prop) (m : Nat) (v1 x : Int32), x = nI j → j + c = 3 → c < n → v1 = nI m → LvS us P → ∃ (us' pl' : Nat → Int32), fn_X9_markLive_L39 n K26 ck cp M ek ep us pl wk wp v1 v2 x = K26 ck cp M ek ep us' pl' wk wp (nI (m + if K (21 + o) = 0 then 0 else 1)) (v2 + 1) ∧ LvS us' (fun q => (P q ∨ ∃ a, j ≤ a ∧ a < 3 ∧ ¬ K (pathP o a) = 0 ∧ L (pathP o a) = nI q) ∨ (¬ K (21 + o) = 0 ∧ chP M (K (21 + o)) 2 (L (21 + o)) q)) := by
  intro n
  induction n with
  | zero => intro c j us P m v1 x hx hj hc; omega
  | succ n ih =>
    intro c j us P m v1 x hx hj hc hm h2
    rw [fn_X9_markLive_L39]
    cases c with
    | zero =>
      rw [if_pos (by rw [hx]; exact nI_le (a := 3) (by omega) (by omega))]
      obtain ⟨f1, f2⟩ := hW 3 (Nat.le_refl 3)
      have hch := chS_of hT ho
      have f2' : wp ((3 : Int32).toNatClampNeg) = pgOf K L (21 + o) := f2
      rw [f2']
      obtain ⟨u1, p1, g1, g2⟩ := m_md (K26 := K26) (ck := ck) (cp := cp) (ek := ek) (ep := ep) (wp := wp) (v1 := nI (m + if K (21 + o) = 0 then 0 else 1)) (v2 := v2) (M := M) (k := K (21 + o)) f1 2 201 0 us pl P (pgOf K L (21 + o)) 0 rfl (by decide) (by decide) hch h2
      refine ⟨u1, p1, ?_, ?_⟩
      · rw [← g1]
        by_cases hz : K (21 + o) = 0
        · rw [if_pos (show pgOf K L (21 + o) = (-1) by unfold pgOf; rw [if_pos hz]), if_pos hz, hm]
          rw [show nI m + 0 = nI (m + 0) from by rw [show (0 : Int32) = nI 0 from rfl, nI_add]]
        · have hne : ¬ pgOf K L (21 + o) = (-1) := by
            obtain ⟨q, eL, hq, -⟩ := hT.2.2.2.2 (21 + o) (by omega) (by omega) hz
            unfold pgOf; rw [if_neg hz, eL]; exact nI_m1 (by have := hq.1; omega)
          rw [if_neg hne, if_neg hz, hm, nI_1]
      · refine g2.cg (fun q _ => ?_)
        unfold pgOf
        by_cases hz : K (21 + o) = 0
        · rw [if_pos hz]
          exact ⟨fun a => a.elim (fun a => Or.inl (Or.inl a)) (fun a => absurd a chP_m), fun a => a.elim (fun a => a.elim Or.inl (fun ⟨b, b1, b2, _⟩ => by omega)) (fun a => absurd hz a.1)⟩
        · rw [if_neg hz]
          exact ⟨fun a => a.elim (fun a => Or.inl (Or.inl a)) (fun a => Or.inr ⟨hz, a⟩), fun a => a.elim (fun a => a.elim Or.inl (fun ⟨b, b1, b2, _⟩ => by omega)) (fun a => Or.inr a.2)⟩
    | succ c =>
      rw [if_neg (by rw [hx]; exact nI_ge (b := 3) (by omega) (by omega)), bnd1, hx, nI_clamp (by omega), (hW j (by omega)).2]
      unfold pgOf
      by_cases hz : K (pathP o j) = 0
      · rw [if_pos hz, m_mark0]
        obtain ⟨u1, p1, g1, g2⟩ := ih c (j + 1) us P m v1 _ (nI_1 j) (by omega) (by omega) hm h2
        refine ⟨u1, p1, g1, g2.cg (fun q _ => ?_)⟩
        refine or_congr (or_congr Iff.rfl ⟨fun ⟨a, a1, a2⟩ => ⟨a, by omega, a2⟩, fun ⟨a, a1, a2, a3, a4⟩ => ⟨a, ?_, a2, a3, a4⟩⟩) Iff.rfl
        by_cases e : a = j
        · subst e; exact absurd hz a3
        · omega
      · rw [if_neg hz]
        obtain ⟨q0, eL, hq, -⟩ := hT.2.2.1 _ (path_lt ho (by omega)) hz
        rw [eL]
        obtain ⟨u1, p1, g1, g2⟩ := ih c (j + 1) (fn_X9_mark us (nI q0)) _ m v1 _ (nI_1 j) (by omega) (by omega) hm (m_mark hq.1 h2)
        refine ⟨u1, p1, g1, g2.cg (fun q hq2 => ?_)⟩
        refine or_congr ?_ Iff.rfl
        constructor
        · rintro ((a | a) | ⟨a, a1, a2⟩)
          · exact Or.inl a
          · exact Or.inr ⟨j, Nat.le_refl j, by omega, hz, by rw [a]; exact eL⟩
          · exact Or.inr ⟨a, by omega, a2⟩
        · rintro (a | ⟨a, a1, a2, a3, a4⟩)
          · exact Or.inl (Or.inl a)
          · by_cases e : a = j
            · subst e
              exact Or.inl (Or.inr ((nI_eq (a := q) (b := q0) (by omega) (by have := hq.1; omega)).mp (a4.symm.trans eL)))
            · exact Or.inr ⟨a, by omega, a2, a3, a4⟩
/-- pages of the first m objects and of their ways -/
def lvO (M : Nat → Int32) (K : Nat → Int64) (L : Nat → Int32) (m q : Nat) : Prop := (∃ o a, o < m ∧ a < 3 ∧ ¬ K (pathP o a) = 0 ∧ L (pathP o a) = nI q) ∨ lvD M K L m q
theorem m_m26 (hT : TI M ck cp K L) : ∀ (n c o : Nat) (ek : Nat → Int64) (ep us pl : Nat → Int32) (wk : Nat → Int64) (wp : Nat → Int32) (v1 x : Int32), x = nI o → o + c = 64 → c < n → v1 = nI (ocN K o) → LvS us (lvO M K L o) → ∃ (ek' : Nat → Int64) (ep' us' pl' : Nat → Int32) (wk' : Nat → Int64) (wp' : Nat → Int32), fn_X9_markLive_L26 n ck cp M ek ep us pl wk wp v1 x = (nI (ocN K 64), ek', ep', us', pl', wk', wp') ∧ LvS us' (lvO M K L 64) := by
  intro n
  induction n with
  | zero => intro c o ek ep us pl wk wp v1 x hx hj hc; omega
  | succ n ih =>
    intro c o ek ep us pl wk wp v1 x hx hj hc hv h2
    rw [fn_X9_markLive_L26]
    cases c with
    | zero =>
      rw [if_pos (by rw [hx]; exact nI_le (a := 64) (by omega) (by omega))]
      have e : o = 64 := by omega
      subst e
      exact ⟨ek, ep, us, pl, wk, wp, by rw [hv], h2⟩
    | succ c =>
      rw [if_neg (by rw [hx]; exact nI_ge (b := 64) (by omega) (by omega)), bnd5]
      obtain ⟨a1, a2, a3, a4, a5, e1, e2⟩ := m_findWay hT (o := o) (by omega) hx ek ep pl wk wp
      rw [e1]
      obtain ⟨u1, p1, g1, g2⟩ := m_m39 (K26 := fn_X9_markLive_L26 n) (ek := a1) (ep := a2) (pl := a3) (v2 := x) hT (by omega) e2 4 3 0 us (lvO M K L o) (ocN K o) v1 0 rfl (by decide) (by decide) hv h2
      rw [show fn_X9_markLive_L39 4 (fn_X9_markLive_L26 n) ck cp M (a1, a2, a3, a4, a5).1 (a1, a2, a3, a4, a5).2.1 us (a1, a2, a3, a4, a5).2.2.1 (a1, a2, a3, a4, a5).2.2.2.1 (a1, a2, a3, a4, a5).2.2.2.2 v1 x 0 = _ from g1]
      refine ih c (o + 1) _ _ u1 p1 _ _ _ _ (by rw [hx]; exact nI_1 o) (by omega) (by omega) ?_ (g2.cg (fun q _ => ?_))
      · show nI (ocN K o + if K (21 + o) = 0 then 0 else 1) = nI (ocN K (o + 1))
        unfold ocN
        rw [cntB]
        by_cases hz : K (21 + o) = 0
        · rw [if_pos hz]; simp only [hz]; rfl
        · rw [if_neg hz]; simp only [hz]; rfl
      · unfold lvO lvD
        constructor
        · rintro (((⟨b, a, b1, b2⟩ | ⟨b, b1, b2⟩) | ⟨a, b1, b2, b3⟩) | ⟨b1, b2⟩)
          · exact Or.inl ⟨b, a, by omega, b2⟩
          · exact Or.inr ⟨b, by omega, b2⟩
          · exact Or.inl ⟨o, a, by omega, b2, b3⟩
          · exact Or.inr ⟨o, by omega, b1, b2⟩
        · rintro (⟨b, a, b1, b2, b3⟩ | ⟨b, b1, b2, b3⟩)
          · by_cases e : b = o
            · subst e; exact Or.inl (Or.inr ⟨a, Nat.zero_le a, b2, b3⟩)
            · exact Or.inl (Or.inl (Or.inl ⟨b, a, by omega, b2, b3⟩))
          · by_cases e : b = o
            · subst e; exact Or.inr ⟨b2, b3⟩
            · exact Or.inl (Or.inl (Or.inr ⟨b, by omega, b2, b3⟩))
theorem lvO_P (q : Nat) : lvO M K L 64 q ↔ lvP M K L q := by
  unfold lvO lvP
  refine or_congr ⟨fun ⟨o, a, h1, h2, h3, h4⟩ => ⟨pathP o a, path_lt h1 h2, h3, h4⟩, fun ⟨p, h1, h2, h3⟩ => ?_⟩ Iff.rfl
  by_cases a : p = 0
  · exact ⟨0, 0, by decide, by decide, by show ¬ K 0 = 0; rw [← a]; exact h2, by show L 0 = _; rw [← a]; exact h3⟩
  · by_cases b : p < 5
    · have e : pathP (16 * (p - 1)) 1 = p := by show 1 + 16 * (p - 1) / 16 = p; omega
      exact ⟨16 * (p - 1), 1, by omega, by decide, by rw [e]; exact h2, by rw [e]; exact h3⟩
    · have e : pathP (4 * (p - 5)) 2 = p := by show 5 + 4 * (p - 5) / 4 = p; omega
      exact ⟨4 * (p - 5), 2, by omega, by decide, by rw [e]; exact h2, by rw [e]; exact h3⟩
theorem m_m2 (hT : TI M ck cp K L) {ek : Nat → Int64} {ep pl : Nat → Int32} {wk : Nat → Int64} {wp : Nat → Int32} : ∀ (n c j : Nat) (us : Nat → Int32) (x : Int32), x = nI j → j + c = 200 → c < n → (∀ q, q < j → us q = 0) → ∃ (ek' : Nat → Int64) (ep' us' pl' : Nat → Int32) (wk' : Nat → Int64) (wp' : Nat → Int32), fn_X9_markLive_L2 n ck cp M ek ep us pl wk wp x = (nI (ocN K 64), ek', ep', us', pl', wk', wp') ∧ LvS us' (lvP M K L) := by
  intro n
  induction n with
  | zero => intro c j us x hx hj hc; omega
  | succ n ih =>
    intro c j us x hx hj hc h
    rw [fn_X9_markLive_L2]
    cases c with
    | zero =>
      rw [if_pos (by rw [hx]; exact nI_le (a := 200) (by omega) (by omega))]
      obtain ⟨a1, a2, a3, a4, a5, a6, e1, e2⟩ := m_m26 hT 65 64 0 ek ep us pl wk wp 0 0 rfl (by decide) (by decide) rfl (fun q hq => ⟨fun a => absurd (h q (by omega)) a, fun a => a.elim (fun ⟨o, a, h1, _⟩ => absurd h1 (Nat.not_lt_zero o)) (fun ⟨o, h1, _⟩ => absurd h1 (Nat.not_lt_zero o))⟩)
      exact ⟨a1, a2, a3, a4, a5, a6, e1, e2.cg (fun q _ => lvO_P q)⟩
    | succ c =>
      rw [if_neg (by rw [hx]; exact nI_ge (b := 200) (by omega) (by omega)), hx, nI_clamp (by omega)]
      refine ih c (j + 1) _ _ (nI_1 j) (by omega) (by omega) (fun q hq => ?_)
      by_cases e : q = j
      · subst e; rw [pk_us]; rfl
      · rw [pk_un e]; exact h q (by omega)
theorem m_live (hT : TI M ck cp K L) (ek : Nat → Int64) (ep us pl : Nat → Int32) (wk : Nat → Int64) (wp : Nat → Int32) : ∃ (ek' : Nat → Int64) (ep' us' pl' : Nat → Int32) (wk' : Nat → Int64) (wp' : Nat → Int32), fn_X9_markLive ck cp M ek ep us pl wk wp = (nI (ocN K 64), ek', ep', us', pl', wk', wp') ∧ LvS us' (lvP M K L) := by
  unfold fn_X9_markLive
  exact m_m2 hT 201 200 0 us 0 rfl (by decide) (by decide) (fun q hq => absurd hq (Nat.not_lt_zero q))
end CT3
