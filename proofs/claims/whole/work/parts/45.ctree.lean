/-! the class's tree and the reference's marks: the same pages -/
def LvC (live : Nat → Int32) (c : Int32) : Prop := c = nI (cntB (fun q => !decide (live q = 0)) 200)
def LvS (live : Nat → Int32) (P : Nat → Prop) : Prop := ∀ q, q < 200 → (¬ live q = 0 ↔ P q)
theorem LvS.cg {live : Nat → Int32} {P Q : Nat → Prop} (h : LvS live P) (e : ∀ q, q < 200 → (P q ↔ Q q)) : LvS live Q := fun q hq => (h q hq).trans (e q hq)
theorem LvS_upd {live : Nat → Int32} {P : Nat → Prop} {a : Nat} (h2 : LvS live P) : LvS (upd live a (vp_nar .boolean 1)) (fun q => P q ∨ q = a) := by
  intro q hq
  by_cases e : q = a
  · subst e; rw [pk_us, nar1]; exact ⟨fun _ => Or.inr rfl, fun _ => by decide⟩
  · rw [pk_un e]; exact (h2 q hq).trans ⟨Or.inl, fun h => h.elim id (fun h => absurd h e)⟩
theorem c_mark {c : Int32} {live : Nat → Int32} {P : Nat → Prop} {a : Nat} (ha : a < 200) (h1 : LvC live c) (h2 : LvS live P) : ∃ (c' : Int32) (live' : Nat → Int32), fn_X6_mark c live (nI a) = (c', live') ∧ LvC live' c' ∧ LvS live' (fun q => P q ∨ q = a) := by
  unfold fn_X6_mark
  rw [bnd1, c_isPage ha, if_neg (by decide), nI_clamp (by omega)]
  by_cases h : live a = 0
  · rw [if_pos h]
    refine ⟨_, _, rfl, ?_, LvS_upd h2⟩
    unfold LvC at h1 ⊢
    have q1 := cntB_up (f := fun q => !decide (live q = 0)) (g := fun q => !decide (upd live a (vp_nar .boolean 1) q = 0)) (q := a) (by show (!decide (live a = 0)) = false; rw [h]; rfl) (by show (!decide (upd live a (vp_nar .boolean 1) a = 0)) = true; rw [pk_us]; rfl) (fun i hi => by show (!decide (upd live a (vp_nar .boolean 1) i = 0)) = _; rw [pk_un hi]) 200
    rw [if_pos ha] at q1
    rw [h1, nI_1, q1]
  · rw [if_neg h]
    exact ⟨_, _, rfl, h1, h2.cg (fun q hq => ⟨Or.inl, fun h' => h'.elim id (fun e => (h2 q hq).mp (by rw [e]; exact h))⟩)⟩
theorem m_mark {us : Nat → Int32} {P : Nat → Prop} {a : Nat} (ha : a < 200) (h2 : LvS us P) : LvS (fn_X9_mark us (nI a)) (fun q => P q ∨ q = a) := by
  unfold fn_X9_mark
  rw [if_neg (show ¬ nI a < 0 from nI_nlt (b := 0) (by omega) (by omega)), if_neg (show ¬ 200 ≤ nI a from nI_ge (b := 200) (by omega) (by omega)), nI_clamp (by omega)]
  exact LvS_upd h2
theorem m_mark0 (us : Nat → Int32) : fn_X9_mark us (-1) = us := by
  unfold fn_X9_mark
  rw [if_pos (by decide)]
/-- the pages of a chain -/
def chP (M : Nat → Int32) (k : Int64) : Nat → Int32 → Nat → Prop
  | 0, _, _ => False
  | d + 1, p, q => ∃ a, p = nI a ∧ a < 200 ∧ (q = a ∨ chP M k d (nxt M k a) q)
theorem chP_m {M : Nat → Int32} {k : Int64} {d q : Nat} : ¬ chP M k d (-1) q := by
  cases d with
  | zero => exact id
  | succ d => rintro ⟨a, h1, h2, -⟩; exact nI_m1 (by omega) h1.symm
theorem chP_s {M : Nat → Int32} {k : Int64} {d q a : Nat} (ha : a < 200) : chP M k (d + 1) (nI a) q ↔ q = a ∨ chP M k d (nxt M k a) q := by
  constructor
  · rintro ⟨b, h1, h2, h3⟩
    have := (nI_eq (a := a) (b := b) (by omega) (by omega)).mp h1
    subst this
    exact h3
  · intro h; exact ⟨a, rfl, ha, h⟩
/-- the class's page of the chain: 65535 for none -/
def pcR (pc p : Int32) : Prop := (pc = p ∧ ¬ p = (-1)) ∨ (pc = 65535 ∧ p = (-1))
theorem pcR_nx (M : Nat → Int32) (k : Int64) (q : Nat) : pcR (sPage (sPl M k q) 0) (nxt M k q) := by
  unfold nxt
  split
  · exact Or.inr ⟨‹_›, rfl⟩
  · refine Or.inl ⟨rfl, ?_⟩
    obtain ⟨n, hn, e⟩ := sPage_n (sPl M k q) 0
    rw [e]; exact nI_m1 (by omega)
section CT
variable {W : Nat → Int64} {M : Nat → Int32} {k : Int64} {keys : Nat → Int64} {links : Nat → Int32} {v : Int32}
theorem c_open0 (bo : Nat → Int64) : fn_X6_openData bo W keys v 65535 = (0, bo) := by
  unfold fn_X6_openData fn_X1_fits
  rw [bnd1, bnd1, show fn_X8_isPage 65535 = 0 by decide, if_pos rfl, if_pos rfl]
theorem c_open1 (h : BR 12800 W M) (hw : ∀ p, p < 200 → bt (pWrit M p) 31 = false) (hk : keys (v : Int32).toNatClampNeg = k) {q : Nat} (hq : dataAt M k q) (bo : Nat → Int64) : ∃ bo' : Nat → Int64, fn_X6_openData bo W keys v (nI q) = (1, bo') ∧ BR 51 bo' (sPl M k q) := by
  unfold fn_X6_openData
  rw [bnd1, hk, c_fitsK h hq.1 (hw q hq.1) k 2, if_pos (show pKind M q = 2 ∧ pTag M q = fn_X9_pad k (pWrit M q).toInt64 100 from ⟨hq.2.1, hq.2.2.1⟩), if_neg (show ¬ (1 : Int32) = 0 by decide), bnd1]
  exact ⟨_, rfl, c_readBody h hq.1 (hw q hq.1) k bo⟩
theorem c_md (h : BR 12800 W M) (hw : ∀ p, p < 200 → bt (pWrit M p) 31 = false) (hk : keys (v : Int32).toNatClampNeg = k) : ∀ (d n j : Nat) (c : Int32) (bo : Nat → Int64) (live : Nat → Int32) (P : Nat → Prop) (pc p x : Int32), x = nI j → j + d < 200 → d < n → chS M k d p → pcR pc p → LvC live c → LvS live P → ∃ (c' : Int32) (bo' : Nat → Int64) (live' : Nat → Int32), fn_X6_markData_L9 n c bo W keys links live v pc x = (c', bo', live') ∧ LvC live' c' ∧ LvS live' (fun q => P q ∨ chP M k d p q) := by
  have none : ∀ (d n j : Nat) (c : Int32) (bo : Nat → Int64) (live : Nat → Int32) (P : Nat → Prop) (pc p x : Int32), x = nI j → j + d < 200 → d < n → p = (-1) → pcR pc p → LvC live c → LvS live P → ∃ (c' : Int32) (bo' : Nat → Int64) (live' : Nat → Int32), fn_X6_markData_L9 n c bo W keys links live v pc x = (c', bo', live') ∧ LvC live' c' ∧ LvS live' (fun q => P q ∨ chP M k d p q) := by
    intro d n j c bo live P pc p x hx hj hn hp hc h1 h2
    obtain ⟨n, rfl⟩ : ∃ m, n = m + 1 := ⟨n - 1, by omega⟩
    subst hp
    have e : pc = 65535 := hc.elim (fun h => absurd rfl h.2) (fun h => h.1)
    subst e
    rw [fn_X6_markData_L9, if_neg (by rw [hx]; exact nI_ge (b := 200) (by omega) (by omega)), bnd2, c_open0, if_pos rfl]
    exact ⟨c, bo, live, rfl, h1, h2.cg (fun q _ => ⟨Or.inl, fun h => h.elim id (fun h => absurd h chP_m)⟩)⟩
  intro d
  induction d with
  | zero => intro n j c bo live P pc p x hx hj hn hp hc h1 h2; exact none 0 n j c bo live P pc p x hx hj hn hp hc h1 h2
  | succ d ih =>
    intro n j c bo live P pc p x hx hj hn hp hc h1 h2
    rcases hp with hp | ⟨a, ea, ha, hp⟩
    · exact none (d + 1) n j c bo live P pc p x hx hj hn hp hc h1 h2
    · obtain ⟨n, rfl⟩ : ∃ m, n = m + 1 := ⟨n - 1, by omega⟩
      have e : pc = nI a := hc.elim (fun h => h.1.trans ea) (fun h => absurd (ea.symm.trans h.2) (nI_m1 (by have := ha.1; omega)))
      subst e
      subst ea
      obtain ⟨b1, e1, e2⟩ := c_open1 h hw hk ha bo
      rw [fn_X6_markData_L9, if_neg (by rw [hx]; exact nI_ge (b := 200) (by omega) (by omega)), bnd2, e1, if_neg (show ¬ (1 : Int32) = 0 by decide), bnd2]
      obtain ⟨c1, l1, f1, f2, f3⟩ := c_mark ha.1 h1 h2
      rw [f1, bnd1, c_nextPage e2, hx]
      obtain ⟨c2, b2, l2, g1, g2, g3⟩ := ih n (j + 1) c1 b1 l1 _ (sPage (sPl M k a) 0) (nxt M k a) _ (nI_1 j) (by omega) (by omega) hp (pcR_nx M k a) f2 f3
      exact ⟨c2, b2, l2, g1, g2, g3.cg (fun q _ => by rw [chP_s ha.1, or_assoc])⟩
/-- the reference marks a chain -/
theorem m_md {K26 : Int64 → Int32 → (Nat → Int32) → (Nat → Int64) → (Nat → Int32) → (Nat → Int32) → (Nat → Int32) → (Nat → Int64) → (Nat → Int32) → Int32 → Int32 → (Int32 × (Nat → Int64) × (Nat → Int32) × (Nat → Int32) × (Nat → Int32) × (Nat → Int64) × (Nat → Int32))} {ck : Int64} {cp : Int32} {ek : Nat → Int64} {ep : Nat → Int32} {wk : Nat → Int64} {wp : Nat → Int32} {v1 v2 : Int32} (hk : wk 3 = k) : ∀ (d n j : Nat) (us pl : Nat → Int32) (P : Nat → Prop) (p x : Int32), x = nI j → j + d < 200 → d < n → chS M k d p → LvS us P → ∃ us' pl' : Nat → Int32, fn_X9_markLive_L88 n K26 ck cp M ek ep us pl wk wp v1 v2 p x = K26 ck cp M ek ep us' pl' wk wp v1 (v2 + 1) ∧ LvS us' (fun q => P q ∨ chP M k d p q) := by
  have none : ∀ (d n j : Nat) (us pl : Nat → Int32) (P : Nat → Prop) (p x : Int32), x = nI j → j + d < 200 → d < n → p = (-1) → LvS us P → ∃ us' pl' : Nat → Int32, fn_X9_markLive_L88 n K26 ck cp M ek ep us pl wk wp v1 v2 p x = K26 ck cp M ek ep us' pl' wk wp v1 (v2 + 1) ∧ LvS us' (fun q => P q ∨ chP M k d p q) := by
    intro d n j us pl P p x hx hj hn hp h2
    obtain ⟨n, rfl⟩ : ∃ m, n = m + 1 := ⟨n - 1, by omega⟩
    rw [fn_X9_markLive_L88, if_neg (by rw [hx]; exact nI_ge (b := 200) (by omega) (by omega)), if_pos hp]
    subst hp
    exact ⟨us, pl, rfl, h2.cg (fun q _ => ⟨Or.inl, fun h => h.elim id (fun h => absurd h chP_m)⟩)⟩
  intro d
  induction d with
  | zero => intro n j us pl P p x hx hj hn hp h2; exact none 0 n j us pl P p x hx hj hn hp h2
  | succ d ih =>
    intro n j us pl P p x hx hj hn hp h2
    rcases hp with hp | ⟨a, ea, ha, hp⟩
    · exact none (d + 1) n j us pl P p x hx hj hn hp h2
    · obtain ⟨n, rfl⟩ : ∃ m, n = m + 1 := ⟨n - 1, by omega⟩
      subst ea
      have ha' := ha.1
      rw [fn_X9_markLive_L88, if_neg (by rw [hx]; exact nI_ge (b := 200) (by omega) (by omega)), if_neg (nI_m1 (by omega)), bnd1, bnd1, show wk ((3 : Int32).toNatClampNeg) = k from hk, bnd1, m_open_next ha']
      have lt : nxt M k a < 200 := by
        cases d with
        | zero => rw [show nxt M k a = (-1) from hp]; decide
        | succ d =>
          rcases hp with e | ⟨b, e, hb, -⟩
          · rw [e]; decide
          · have := hb.1; rw [e]; exact nI_lt (b := 200) (by omega) (by omega)
      rw [if_pos lt, hx]
      obtain ⟨u2, p2, g1, g2⟩ := ih n (j + 1) (fn_X9_mark us (nI a)) (fn_X9_open M pl k (nI a)) _ (nxt M k a) _ (nI_1 j) (by omega) (by omega) hp (m_mark ha' h2)
      exact ⟨u2, p2, g1, g2.cg (fun q _ => by rw [chP_s ha', or_assoc])⟩
end CT
