/-- the live pages -/
def lvN (K : Nat → Int64) (L : Nat → Int32) (j q : Nat) : Prop := ∃ p, p < j ∧ ¬ K p = 0 ∧ L p = nI q
def lvD (M : Nat → Int32) (K : Nat → Int64) (L : Nat → Int32) (j q : Nat) : Prop := ∃ o, o < j ∧ ¬ K (21 + o) = 0 ∧ chP M (K (21 + o)) 2 (L (21 + o)) q
def lvP (M : Nat → Int32) (K : Nat → Int64) (L : Nat → Int32) (q : Nat) : Prop := lvN K L 21 q ∨ lvD M K L 64 q
def ocN (K : Nat → Int64) (n : Nat) : Nat := cntB (fun o => !decide (K (21 + o) = 0)) n
/-- the class's tree is that of the disk -/
def TR (M : Nat → Int32) (K : Nat → Int64) (L : Nat → Int32) (lc oc : Int32) (keys : Nat → Int64) (links live : Nat → Int32) : Prop :=
  (∀ i, i < 85 → keys i = K i ∧ (¬ K i = 0 → links i = L i)) ∧ LvC live lc ∧ LvS live (lvP M K L) ∧ oc = nI (ocN K 64)
theorem cntB_0 {f : Nat → Bool} : ∀ n, (∀ i, i < n → f i = false) → cntB f n = 0 := by
  intro n
  induction n with
  | zero => intro _; rfl
  | succ n ih =>
    intro h
    rw [cntB, ih (fun i hi => h i (by omega)), h n (by omega)]; rfl
theorem LvC_0 {live : Nat → Int32} (h : ∀ q, q < 200 → live q = 0) : LvC live 0 := by
  unfold LvC
  rw [cntB_0 200 (fun i hi => by rw [h i hi]; rfl)]; rfl
theorem c_f30 {lc oc : Int32} {keys : Nat → Int64} {links : Nat → Int32} : ∀ (n c j : Nat) (live : Nat → Int32) (x : Int32), x = nI j → j + c = 200 → c < n → (∀ q, q < j → live q = 0) → ∃ live' : Nat → Int32, fn_X6_forget_L30 n lc oc keys links live x = (0, 0, keys, links, live') ∧ ∀ q, q < 200 → live' q = 0 := by
  intro n
  induction n with
  | zero => intro c j live x hx hj hc; omega
  | succ n ih =>
    intro c j live x hx hj hc h
    rw [fn_X6_forget_L30]
    cases c with
    | zero =>
      rw [if_pos (by rw [hx]; exact nI_le (a := 200) (by omega) (by omega))]
      exact ⟨live, rfl, fun q hq => h q (by omega)⟩
    | succ c =>
      rw [if_neg (by rw [hx]; exact nI_ge (b := 200) (by omega) (by omega)), hx, nI_clamp (by omega)]
      refine ih c (j + 1) _ _ (nI_1 j) (by omega) (by omega) (fun q hq => ?_)
      by_cases e : q = j
      · subst e; rw [pk_us]; rfl
      · rw [pk_un e]; exact h q (by omega)
theorem c_f2 {lc oc : Int32} : ∀ (n c j : Nat) (keys : Nat → Int64) (links live : Nat → Int32) (x : Int32), x = nI j → j + c = 85 → c < n → (∀ i, i < j → keys i = 0) → ∃ (keys' : Nat → Int64) (links' live' : Nat → Int32), fn_X6_forget_L2 n lc oc keys links live x = (0, 0, keys', links', live') ∧ (∀ i, i < 85 → keys' i = 0) ∧ ∀ q, q < 200 → live' q = 0 := by
  intro n
  induction n with
  | zero => intro c j keys links live x hx hj hc; omega
  | succ n ih =>
    intro c j keys links live x hx hj hc h
    rw [fn_X6_forget_L2]
    cases c with
    | zero =>
      rw [if_pos (by rw [hx]; exact nI_le (a := 85) (by omega) (by omega))]
      obtain ⟨l', e1, e2⟩ := c_f30 (lc := lc) (oc := oc) (keys := keys) (links := links) 201 200 0 live 0 rfl (by decide) (by decide) (fun q hq => absurd hq (Nat.not_lt_zero q))
      exact ⟨keys, links, l', e1, fun i hi => h i (by omega), e2⟩
    | succ c =>
      rw [if_neg (by rw [hx]; exact nI_ge (b := 85) (by omega) (by omega)), hx, nI_clamp (by omega)]
      refine ih c (j + 1) _ _ _ _ (nI_1 j) (by omega) (by omega) (fun i hi => ?_)
      by_cases e : i = j
      · subst e; rw [pk_uLs]
      · rw [pk_uLn e]; exact h i (by omega)
section CT2
variable {W : Nat → Int64} {M : Nat → Int32} {ck : Int64} {cp : Int32} {K : Nat → Int64} {L : Nat → Int32}
theorem c_rn59 {lc : Int32} {bo : Nat → Int64} {live b : Nat → Int32} {j : Nat} (hj : j < 21) (hb : BR 51 bo b) : ∀ (n c e : Nat) (keys : Nat → Int64) (links : Nat → Int32) (x : Int32), x = nI e → e + c = 4 → c < n → ∃ (keys' : Nat → Int64) (links' : Nat → Int32), fn_X6_readNode_L59 n lc bo W keys links live (nI j) x = (lc, bo, keys', links', live) ∧ (∀ a, e ≤ a → a < 4 → keys' (4 * j + 1 + a) = sKey b a ∧ links' (4 * j + 1 + a) = sPage b (10 * a + 8)) ∧ ∀ i, ¬ (4 * j + 1 + e ≤ i ∧ i < 4 * j + 5) → keys' i = keys i ∧ links' i = links i := by
  intro n
  induction n with
  | zero => intro c e keys links x hx he hc; omega
  | succ n ih =>
    intro c e keys links x hx he hc
    rw [fn_X6_readNode_L59]
    cases c with
    | zero =>
      rw [if_pos (by rw [hx]; exact nI_le (a := 4) (by omega) (by omega))]
      exact ⟨keys, links, rfl, fun a h1 h2 => by omega, fun i _ => ⟨rfl, rfl⟩⟩
    | succ c =>
      rw [if_neg (by rw [hx]; exact nI_ge (b := 4) (by omega) (by omega)), hx, bnd1, bnd1, c_entryKey hb (by omega), c_entryPage hb (by omega), t_below hj (by omega), nI_clamp (by omega)]
      obtain ⟨k', l', e1, e2, e3⟩ := ih c (e + 1) (vp_updL keys (4 * j + 1 + e) (sKey b e)) (upd links (4 * j + 1 + e) (sPage b (10 * e + 8))) _ (nI_1 e) (by omega) (by omega)
      refine ⟨k', l', e1, fun a h1 h2 => ?_, fun i hi => ?_⟩
      · by_cases ea : a = e
        · subst ea
          obtain ⟨f1, f2⟩ := e3 (4 * j + 1 + a) (by omega)
          rw [f1, f2, pk_uLs, pk_us]; exact ⟨rfl, rfl⟩
        · exact e2 a (by omega) h2
      · obtain ⟨f1, f2⟩ := e3 i (by omega)
        rw [f1, f2, pk_uLn (by omega), pk_un (by omega)]; exact ⟨rfl, rfl⟩
/-- the places before 4 j + 1 are read -/
def CI (K : Nat → Int64) (L : Nat → Int32) (keys : Nat → Int64) (links : Nat → Int32) (j : Nat) : Prop := ∀ i, i < 85 → (i < 4 * j + 1 → keys i = K i ∧ (¬ K i = 0 → links i = L i)) ∧ (4 * j + 1 ≤ i → keys i = 0)
theorem c_node (h : BR 12800 W M) (hw : ∀ p, p < 200 → bt (pWrit M p) 31 = false) (hT : TI M ck cp K L) {j : Nat} (hj : j < 21) (hk : ¬ K j = 0) {lc : Int32} {live : Nat → Int32} {keys : Nat → Int64} {links : Nat → Int32} (bo : Nat → Int64) (h1 : CI K L keys links j) (h2 : LvC live lc) (h3 : LvS live (lvN K L j)) : ∃ (lc' : Int32) (bo' keys' : Nat → Int64) (links' live' : Nat → Int32), fn_X6_readNode lc bo W keys links live (nI j) = (lc', bo', keys', links', live') ∧ CI K L keys' links' (j + 1) ∧ LvC live' lc' ∧ LvS live' (lvN K L (j + 1)) := by
  obtain ⟨q, eL, hq, hE⟩ := hT.2.2.1 j hj hk
  obtain ⟨ek, el⟩ := (h1 j (by omega)).1 (by omega)
  unfold fn_X6_readNode
  rw [nI_clamp (by omega), ek, el hk, eL, bnd1, c_fitsK h hq.1 (hw q hq.1) (K j) 1, if_pos (show pKind M q = 1 ∧ pTag M q = fn_X9_pad (K j) (pWrit M q).toInt64 100 from ⟨hq.2.1, hq.2.2⟩), if_neg (show ¬ (1 : Int32) = 0 by decide), bnd2]
  obtain ⟨c1, l1, f1, f2, f3⟩ := c_mark hq.1 h2 h3
  rw [f1, bnd1]
  obtain ⟨k', l', e1, e2, e3⟩ := c_rn59 (W := W) (lc := c1) (live := l1) hj (c_readBody h hq.1 (hw q hq.1) (K j) bo) 5 4 0 keys links 0 rfl (by decide) (by decide)
  refine ⟨c1, _, k', l', l1, e1, fun i hi => ⟨fun a => ?_, fun a => ?_⟩, f2, f3.cg (fun r hr => ⟨?_, ?_⟩)⟩
  · by_cases b : i < 4 * j + 1
    · obtain ⟨g1, g2⟩ := e3 i (by omega)
      rw [g1, g2]; exact (h1 i hi).1 b
    · obtain ⟨g1, g2⟩ := e2 (i - (4 * j + 1)) (by omega) (by omega)
      obtain ⟨g3, g4⟩ := hE (i - (4 * j + 1)) (by omega)
      rw [show 4 * j + 1 + (i - (4 * j + 1)) = i by omega] at g1 g2 g3 g4
      rw [g1, g2]; exact ⟨g3.symm, fun h => (g4 h).symm⟩
  · obtain ⟨g1, -⟩ := e3 i (by omega)
    rw [g1]; exact (h1 i hi).2 (by omega)
  · rintro (⟨p, a1, a2, a3⟩ | e)
    · exact ⟨p, by omega, a2, a3⟩
    · exact ⟨j, by omega, hk, by rw [e]; exact eL⟩
  · rintro ⟨p, a1, a2, a3⟩
    by_cases e : p = j
    · subst e
      exact Or.inr ((nI_eq (a := r) (b := q) (by omega) (by have := hq.1; omega)).mp (a3.symm.trans eL))
    · exact Or.inl ⟨p, by omega, a2, a3⟩
theorem CI_skip (hT : TI M ck cp K L) {j : Nat} (hj : j < 21) (hk : K j = 0) {keys : Nat → Int64} {links : Nat → Int32} (h1 : CI K L keys links j) : CI K L keys links (j + 1) := by
  intro i hi
  refine ⟨fun a => ?_, fun a => (h1 i hi).2 (by omega)⟩
  by_cases b : i < 4 * j + 1
  · exact (h1 i hi).1 b
  · have q := hT.2.2.2.1 j hj hk (i - (4 * j + 1)) (by omega)
    rw [show 4 * j + 1 + (i - (4 * j + 1)) = i by omega] at q
    rw [(h1 i hi).2 (by omega), q]
    exact ⟨rfl, fun e => absurd rfl e⟩
theorem lvN_skip {j : Nat} (hk : K j = 0) {live : Nat → Int32} (h : LvS live (lvN K L j)) : LvS live (lvN K L (j + 1)) := h.cg (fun r _ => ⟨fun ⟨p, a1, a2, a3⟩ => ⟨p, by omega, a2, a3⟩, fun ⟨p, a1, a2, a3⟩ => ⟨p, by
    by_cases e : p = j
    · subst e; exact absurd hk a2
    · omega, a2, a3⟩⟩)
theorem c_r89 (h : BR 12800 W M) (hw : ∀ p, p < 200 → bt (pWrit M p) 31 = false) (hT : TI M ck cp K L) {ss sd : Int32} {keys : Nat → Int64} {links : Nat → Int32} (hK : ∀ i, i < 85 → keys i = K i ∧ (¬ K i = 0 → links i = L i)) : ∀ (n c o : Nat) (lc oc : Int32) (bo : Nat → Int64) (live : Nat → Int32) (x : Int32), x = nI (21 + o) → o + c = 64 → c < n → oc = nI (ocN K o) → LvC live lc → LvS live (fun q => lvN K L 21 q ∨ lvD M K L o q) → ∃ (lc' oc' : Int32) (bo' : Nat → Int64) (live' : Nat → Int32), fn_X6_refresh_L89 n lc oc ss bo ck cp sd W keys links live x = (lc', oc', ss, bo', keys, links, live') ∧ oc' = nI (ocN K 64) ∧ LvC live' lc' ∧ LvS live' (lvP M K L) := by
  intro n
  induction n with
  | zero => intro c o lc oc bo live x hx hj hc; omega
  | succ n ih =>
    intro c o lc oc bo live x hx hj hc ho h2 h3
    rw [fn_X6_refresh_L89]
    cases c with
    | zero =>
      rw [if_pos (by rw [hx]; exact nI_le (a := 85) (by omega) (by omega))]
      have e : o = 64 := by omega
      subst e
      exact ⟨lc, oc, bo, live, rfl, ho, h2, h3⟩
    | succ c =>
      obtain ⟨ek, el⟩ := hK (21 + o) (by omega)
      rw [if_neg (by rw [hx]; exact nI_ge (b := 85) (by omega) (by omega)), hx, nI_clamp (by omega), ek]
      by_cases hz : K (21 + o) = 0
      · rw [if_pos (lgc0.mpr hz)]
        refine ih c (o + 1) lc oc bo live _ (nI_1 (21 + o)) (by omega) (by omega) ?_ h2 (h3.cg (fun q _ => ⟨fun a => a.elim Or.inl (fun ⟨p, a1, a2, a3⟩ => Or.inr ⟨p, by omega, a2, a3⟩), fun a => a.elim Or.inl (fun ⟨p, a1, a2, a3⟩ => Or.inr ⟨p, ?_, a2, a3⟩)⟩))
        · rw [ho]; unfold ocN; rw [cntB]; simp only [hz]; rfl
        · by_cases e : p = o
          · subst e; exact absurd hz a2
          · omega
      · rw [if_neg (mt lgc0.mp hz), bnd3]
        unfold fn_X6_markData
        rw [nI_clamp (by omega), el hz]
        obtain ⟨q, eL, hq, hc2⟩ := hT.2.2.2.2 (21 + o) (by omega) (by omega) hz
        have hch : chS M (K (21 + o)) 2 (L (21 + o)) := Or.inr ⟨q, eL, hq, hc2⟩
        obtain ⟨c1, b1, l1, g1, g2, g3⟩ := c_md h hw (keys := keys) (links := links) (v := nI (21 + o)) (k := K (21 + o)) (by rw [nI_clamp (by omega), ek]) 2 201 0 lc bo live _ (L (21 + o)) (L (21 + o)) 0 rfl (by decide) (by decide) hch (Or.inl ⟨rfl, by rw [eL]; exact nI_m1 (by have := hq.1; omega)⟩) h2 h3
        rw [g1]
        refine ih c (o + 1) c1 _ b1 l1 _ (nI_1 (21 + o)) (by omega) (by omega) ?_ g2 (g3.cg (fun q _ => ?_))
        · rw [ho]; unfold ocN; rw [cntB]; simp only [hz]; exact nI_1 _
        · constructor
          · rintro ((a | ⟨p, a1, a2, a3⟩) | a)
            · exact Or.inl a
            · exact Or.inr ⟨p, by omega, a2, a3⟩
            · exact Or.inr ⟨o, by omega, hz, a⟩
          · rintro (a | ⟨p, a1, a2, a3⟩)
            · exact Or.inl (Or.inl a)
            · by_cases e : p = o
              · subst e; exact Or.inr a3
              · exact Or.inl (Or.inr ⟨p, by omega, a2, a3⟩)
end CT2
