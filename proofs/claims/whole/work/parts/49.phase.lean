/-! the tree and the used pages, while pages are written -/
def OKn (M U : Nat → Int32) (K : Nat → Int64) (L : Nat → Int32) (p : Nat) : Prop :=
  (¬ K p = 0 → ∃ q, L p = nI q ∧ ¬ U q = 0 ∧ nodeAt M (K p) q ∧ ∀ e, e < 4 → K (4 * p + 1 + e) = sKey (sPl M (K p) q) e ∧ (¬ K (4 * p + 1 + e) = 0 → L (4 * p + 1 + e) = sPage (sPl M (K p) q) (10 * e + 8))) ∧ (K p = 0 → ∀ e, e < 4 → K (4 * p + 1 + e) = 0)
def chU (M U : Nat → Int32) (k : Int64) : Nat → Int32 → Prop
  | 0, p => p = 65535
  | d + 1, p => ∃ a, p = nI a ∧ dataAt M k a ∧ ¬ U a = 0 ∧ chU M U k d (sPage (sPl M k a) 0)
def OKd (M U : Nat → Int32) (K : Nat → Int64) (L : Nat → Int32) (p : Nat) : Prop := ¬ K p = 0 → chU M U (K p) 1 (L p) ∨ chU M U (K p) 2 (L p)
def TU (M U : Nat → Int32) (ck : Int64) (cp : Int32) (K : Nat → Int64) (L : Nat → Int32) : Prop :=
  K 0 = ck ∧ (¬ ck = 0 → L 0 = cp) ∧ (∀ p, p < 21 → OKn M U K L p) ∧ ∀ o, 21 ≤ o → o < 85 → OKd M U K L o
def FR (M M' U : Nat → Int32) : Prop := ∀ p, p < 200 → ¬ U p = 0 → ∀ i, i < 64 → M' (64 * p + i) = M (64 * p + i)
def UL (U U' : Nat → Int32) : Prop := ∀ p, p < 200 → ¬ U p = 0 → ¬ U' p = 0
theorem UL.refl (U : Nat → Int32) : UL U U := fun _ _ h => h
theorem UL_upd (U : Nat → Int32) (q : Nat) : UL U (upd U q (vp_nar .boolean 1)) := by
  intro p hp h
  by_cases e : p = q
  · subst e; rw [pk_us, nar1]; decide
  · rw [pk_un e]; exact h
theorem UL.trans {U V X : Nat → Int32} (h : UL U V) (g : UL V X) : UL U X := fun p hp a => g p hp (h p hp a)
theorem FR.refl (M U : Nat → Int32) : FR M M U := fun _ _ _ _ _ => rfl
theorem FR.trans {M M' M'' U V : Nat → Int32} (h : FR M M' U) (u : UL U V) (g : FR M' M'' V) : FR M M'' U := fun p hp a i hi => (g p hp (u p hp a) i hi).trans (h p hp a i hi)
theorem nxt_m {M : Nat → Int32} {k : Int64} {q : Nat} : nxt M k q = (-1) ↔ sPage (sPl M k q) 0 = 65535 := by
  unfold nxt
  obtain ⟨n, hn, e⟩ := sPage_n (sPl M k q) 0
  split
  · exact ⟨fun _ => ‹_›, fun _ => rfl⟩
  · exact ⟨fun h => absurd (e.symm.trans h) (nI_m1 (by omega)), fun h => absurd h ‹_›⟩
theorem nxt_n {M : Nat → Int32} {k : Int64} {q r : Nat} (hr : r < 200) : nxt M k q = nI r ↔ sPage (sPl M k q) 0 = nI r := by
  unfold nxt
  split
  · rename_i h
    exact ⟨fun a => absurd a.symm (nI_m1 (by omega)), fun a => absurd (a.symm.trans h) (nI_65535 (by omega))⟩
  · exact Iff.rfl
section PH
variable {M M' U U' : Nat → Int32} {ck : Int64} {cp : Int32} {K : Nat → Int64} {L : Nat → Int32}
theorem TU_of (hT : TI M ck cp K L) (hU : ∀ q, q < 200 → lvP M K L q → ¬ U q = 0) : TU M U ck cp K L := by
  refine ⟨hT.1, hT.2.1, fun p hp => ⟨fun hk => ?_, fun hk => hT.2.2.2.1 p hp hk⟩, fun o h1 h2 hk => ?_⟩
  · obtain ⟨q, e1, hq, e2⟩ := hT.2.2.1 p hp hk
    exact ⟨q, e1, hU q hq.1 (Or.inl ⟨p, hp, hk, e1⟩), hq, e2⟩
  · obtain ⟨q, e1, hq, e2⟩ := hT.2.2.2.2 o h1 h2 hk
    have e21 : 21 + (o - 21) = o := by omega
    have hc : ∀ r, r < 200 → chP M (K o) 2 (L o) r → ¬ U r = 0 := fun r hr a => hU r hr (Or.inr ⟨o - 21, by omega, by rw [e21]; exact hk, by rw [e21]; exact a⟩)
    have u1 := hc q hq.1 (by rw [e1]; exact (chP_s hq.1).mpr (Or.inl rfl))
    rcases e2 with e2 | ⟨r, e2, hr, e3⟩
    · exact Or.inl ⟨q, e1, hq, u1, nxt_m.mp e2⟩
    · have u2 := hc r hr.1 (by rw [e1]; exact (chP_s hq.1).mpr (Or.inr (by rw [e2]; exact (chP_s hr.1).mpr (Or.inl rfl))))
      exact Or.inr ⟨q, e1, hq, u1, r, (nxt_n hr.1).mp e2, hr, u2, nxt_m.mp e3⟩
theorem TI_of (h : TU M U ck cp K L) : TI M ck cp K L := by
  refine ⟨h.1, h.2.1, fun p hp hk => ?_, fun p hp hk => (h.2.2.1 p hp).2 hk, fun o h1 h2 hk => ?_⟩
  · obtain ⟨q, e1, -, hq, e2⟩ := (h.2.2.1 p hp).1 hk
    exact ⟨q, e1, hq, e2⟩
  · rcases h.2.2.2 o h1 h2 hk with ⟨q, e1, hq, -, e2⟩ | ⟨q, e1, hq, -, r, e2, hr, -, e3⟩
    · exact ⟨q, e1, hq, Or.inl (nxt_m.mpr e2)⟩
    · exact ⟨q, e1, hq, Or.inr ⟨r, (nxt_n hr.1).mpr e2, hr, nxt_m.mpr e3⟩⟩
theorem node_fr {k : Int64} {q : Nat} (hF : FR M M' U) (hu : ¬ U q = 0) (h : nodeAt M k q) : nodeAt M' k q ∧ ∀ i, i < 51 → sPl M' k q i = sPl M k q i := by
  obtain ⟨a, b, c, d⟩ := page_frame h.1 (hF q h.1 hu)
  refine ⟨⟨h.1, by rw [a]; exact h.2.1, ?_⟩, d k⟩
  have := h.2.2
  unfold tagOK at this ⊢
  rw [b, c]; exact this
theorem data_fr {k : Int64} {q : Nat} (hF : FR M M' U) (hu : ¬ U q = 0) (h : dataAt M k q) : dataAt M' k q ∧ ∀ i, i < 51 → sPl M' k q i = sPl M k q i := by
  obtain ⟨a, b, c, d⟩ := page_frame h.1 (hF q h.1 hu)
  refine ⟨⟨h.1, by rw [a]; exact h.2.1, ?_, by rw [d k 2 (by decide)]; exact h.2.2.2⟩, d k⟩
  have := h.2.2.1
  unfold tagOK at this ⊢
  rw [b, c]; exact this
theorem OKn_fr {p : Nat} (hF : FR M M' U) (hL : UL U U') (h : OKn M U K L p) : OKn M' U' K L p := by
  refine ⟨fun hk => ?_, h.2⟩
  obtain ⟨q, e1, u, hq, e2⟩ := h.1 hk
  obtain ⟨a, b⟩ := node_fr hF u hq
  refine ⟨q, e1, hL q hq.1 u, a, fun e he => ⟨?_, fun hz => ?_⟩⟩
  · rw [sKey_cg he b]; exact (e2 e he).1
  · rw [sPage_cg (by omega) b]; exact (e2 e he).2 hz
theorem chU_fr {k : Int64} (hF : FR M M' U) (hL : UL U U') : ∀ (d : Nat) (p : Int32), chU M U k d p → chU M' U' k d p := by
  intro d
  induction d with
  | zero => intro p h; exact h
  | succ d ih =>
    intro p h
    obtain ⟨a, e, hd, u, h2⟩ := h
    obtain ⟨f1, f2⟩ := data_fr hF u hd
    refine ⟨a, e, f1, hL a hd.1 u, ?_⟩
    rw [sPage_cg (by decide) f2]
    exact ih _ h2
theorem OKd_fr {p : Nat} (hF : FR M M' U) (hL : UL U U') (h : OKd M U K L p) : OKd M' U' K L p := fun hk => (h hk).elim (fun a => Or.inl (chU_fr hF hL _ _ a)) (fun a => Or.inr (chU_fr hF hL _ _ a))
theorem TU_fr (hF : FR M M' U) (hL : UL U U') (h : TU M U ck cp K L) : TU M' U' ck cp K L := ⟨h.1, h.2.1, fun p hp => OKn_fr hF hL (h.2.2.1 p hp), fun o h1 h2 => OKd_fr hF hL (h.2.2.2 o h1 h2)⟩
end PH
/-- a key is taken -/
theorem m_tk_L {v : Int64} {m : Nat} (hm : m < 100) : ∀ (n c j : Nat) (row : Nat → Int64) (x : Int32), x = nI j → j + c = m → c < n → fn_X9_takeKey_L19 n (nI m) row v x = (v, nI m, fun i => if j ≤ i ∧ i < m then row (i + 1) else row i) := by
  intro n
  induction n with
  | zero => intro c j row x hx hj hc; omega
  | succ n ih =>
    intro c j row x hx hj hc
    rw [fn_X9_takeKey_L19]
    cases c with
    | zero =>
      rw [if_pos (by rw [hx]; exact nI_le (by omega) (by omega))]
      congr 2
      funext i
      rw [if_neg (by omega)]
    | succ c =>
      rw [if_neg (by rw [hx]; exact nI_ge (by omega) (by omega)), hx, nI_1, nI_clamp (by omega), nI_clamp (by omega), ih c (j + 1) _ _ rfl (by omega) (by omega)]
      congr 2
      funext i
      by_cases a : i = j
      · subst a
        rw [if_neg (by omega), if_pos (by omega), pk_uLs]
      · by_cases b : j + 1 ≤ i ∧ i < m
        · rw [if_pos b, if_pos (by omega), pk_uLn (by omega)]
        · rw [if_neg b, if_neg (by omega), pk_uLn a]
theorem tk_m {m : Nat} (h : m < 40) (row : Nat → Int64) : fn_X9_takeKey (nI (m + 1)) row = (row 0, nI m, va_cpy row row 1 0 m) := by
  unfold fn_X9_takeKey
  rw [nI_pred, m_tk_L (by omega) 40 m 0 row 0 rfl (by omega) (by omega)]
  congr 2
  funext i
  unfold va_cpy
  by_cases a : i < m
  · rw [if_pos (by omega), if_pos (by omega), show 1 + (i - 0) = i + 1 by omega]
  · rw [if_neg (by omega), if_neg (by omega)]
theorem tk_c {m : Nat} (h : m < 40) (row : Nat → Int64) : fn_X2_take (nI (m + 1)) row = (row 0, nI m, va_cpy row row 1 0 m) := by
  unfold fn_X2_take
  rw [if_pos (show 0 < nI (m + 1) from nI_lt (a := 0) (by omega) (by omega)), nI_pred, nI_clamp (by omega)]
  rfl
theorem tk_nz {m : Nat} {row : Nat → Int64} (h : ∀ i, i < m + 1 → ¬ row i = 0) : ∀ i, i < m → ¬ va_cpy row row 1 0 m i = 0 := by
  intro i hi
  unfold va_cpy
  rw [if_pos (by omega)]
  exact h _ (by omega)
/-- a step on both sides -/
theorem sim_step (left ro ta st : Int32) : (fn_X3_lastsForStep 1 left = (0, 0, (-1)) ∧ fn_X9_step 1 left ro ta st = (0, 0, (-1), 0, 0, st)) ∨ ∃ l2, fn_X3_lastsForStep 1 left = (1, 1, l2) ∧ fn_X9_step 1 left ro ta st = (1, 1, l2, ro, ta, st + 1) := by
  by_cases hl : left = 0
  · refine Or.inl ⟨?_, ?_⟩
    · unfold fn_X3_lastsForStep; rw [if_pos hl]; rfl
    · unfold fn_X9_step; rw [if_neg (by decide), if_pos hl]; rfl
  · refine Or.inr ?_
    unfold fn_X3_lastsForStep fn_X9_step
    rw [if_neg hl, if_neg (show ¬ (1 : Int32) = 0 by decide), if_neg hl]
    by_cases h0 : left ≤ 0
    · rw [if_pos h0, if_pos h0, sub0]; exact ⟨_, rfl, rfl⟩
    · rw [if_neg h0, if_neg h0]; exact ⟨_, rfl, rfl⟩
/-- both sides between two writings -/
def PHs (W : Nat → Int64) (M tk us : Nat → Int32) (la lm : Int32) (B : Nat) : Prop := BR 12800 W M ∧ WB M B ∧ (∃ lc, lc < 200 ∧ la = nI lc ∧ ((lm = (-1) ∧ lc = 199) ∨ lm = nI lc)) ∧ ∀ q, q < 200 → (tk q = 0 ↔ us q = 0)
theorem PHs.r {W : Nat → Int64} {M tk us : Nat → Int32} {la lm : Int32} {B : Nat} (h : PHs W M tk us la lm B) : BR 12800 W M := h.1
theorem PHs.b {W : Nat → Int64} {M tk us : Nat → Int32} {la lm : Int32} {B : Nat} (h : PHs W M tk us la lm B) : WB M B := h.2.1
theorem PHs.p {W : Nat → Int64} {M tk us : Nat → Int32} {la lm : Int32} {B : Nat} (h : PHs W M tk us la lm B) : ∃ lc, lc < 200 ∧ la = nI lc ∧ ((lm = (-1) ∧ lc = 199) ∨ lm = nI lc) := h.2.2.1
theorem PHs.u {W : Nat → Int64} {M tk us : Nat → Int32} {la lm : Int32} {B : Nat} (h : PHs W M tk us la lm B) : ∀ q, q < 200 → (tk q = 0 ↔ us q = 0) := h.2.2.2
theorem upd_tu {tk us : Nat → Int32} (h : ∀ q, q < 200 → (tk q = 0 ↔ us q = 0)) (a : Nat) : ∀ q, q < 200 → (upd tk a (vp_nar .boolean 1) q = 0 ↔ upd us a (vp_nar .boolean 1) q = 0) := by
  intro q hq
  by_cases e : q = a
  · subst e; rw [pk_us, pk_us]
  · rw [pk_un e, pk_un e]; exact h q hq
theorem pg_write {W : Nat → Int64} {M tk us : Nat → Int32} {la lm : Int32} {B : Nat} (h : PHs W M tk us la lm B) (hB2 : B < 1073741823) {bo sh : Nat → Int64} {pl wr : Nat → Int32} (hbo : BR 51 bo pl) {kd : Int32} (hkd : kd = 1 ∨ kd = 2) (hc : 1 ≤ cnt0 us) (pw ro ta sd left : Int32) (k : Int64) :
    ∃ (q : Nat) (W' : Nat → Int64) (M' : Nat → Int32) (sh' : Nat → Int64) (wr' : Nat → Int32), q < 200 ∧ us q = 0 ∧ FR M M' us ∧ BR 12800 W' M' ∧
      ((∃ s, s < 4 ∧ fn_X7_writePage la pw bo sd W 1 left sh tk kd k = ((-1), la, pw, sd + nI s, W', 0, (-1), sh', tk) ∧ fn_X9_write 1 left ro ta lm pw sd M us pl wr kd k = ((-1), 0, (-1), 0, 0, nI q, pw, sd + nI s, M', upd us q (vp_nar .boolean 1), wr') ∧ (s = 0 → M' = M) ∧ WB M' B) ∨
       (∃ left', fn_X7_writePage la pw bo sd W 1 left sh tk kd k = (nI q, nI q, pw + 1, sd + nI 4, W', 1, left', sh', upd tk q (vp_nar .boolean 1)) ∧ fn_X9_write 1 left ro ta lm pw sd M us pl wr kd k = (nI q, 1, left', ro, ta, nI q, pw + 1, sd + nI 4, M', upd us q (vp_nar .boolean 1), wr') ∧ PHs W' M' (upd tk q (vp_nar .boolean 1)) (upd us q (vp_nar .boolean 1)) (nI q) (nI q) (B + 1) ∧ pKind M' q = kd ∧ tagOK M' k q ∧ ∀ i, i < 51 → sPl M' k q i &&& 255 = pl i &&& 255)) := by
  obtain ⟨lc, hlc, hla, hlm⟩ := h.p
  obtain ⟨q, W', M', sh', wr', hq, huq, htq, hR', g⟩ := sim_write (la := la) (lm := lm) (pw := pw) (wh := pw) (ro := ro) (ta := ta) (sd := sd) (st := sd) (left := left) (sh := sh) (wr := wr) (k := k) h.r h.b hB2 hbo hkd hla hlc hlm h.u (cnt0_ex hc)
  rcases g with ⟨s, hs, e1, e2, e3, e4⟩ | ⟨left', e1, e2, e3, e4⟩
  · refine ⟨q, W', M', sh', wr', hq, huq, fun p hp hu i hi => e4 _ (by
      have : p ≠ q := fun e => hu (by rw [e]; exact huq)
      omega), hR', Or.inl ⟨s, hs, e1, e2, e3, fun p hp => ?_⟩⟩
    by_cases e : p = q
    · subst e
      unfold wN
      rw [(page_head hp (fun i hi => e4 _ (by omega))).2.1]
      exact h.b p hp
    · unfold wN
      rw [(page_frame hp (fun i hi => e4 _ (by omega))).2.1]
      exact h.b p hp
  · have hm := mxW_le h.b 200 (Nat.le_refl 200)
    obtain ⟨n1, n2, n3, n4⟩ := page_new hq (by omega) hkd e4
    refine ⟨q, W', M', sh', wr', hq, huq, fun p hp hu i hi => e3 _ (by
      have : p ≠ q := fun e => hu (by rw [e]; exact huq)
      omega), hR', Or.inr ⟨left', e1, e2, ⟨hR', fun p hp => ?_, ⟨q, hq, rfl, Or.inr rfl⟩, upd_tu h.u q⟩, n1, n3, n4⟩⟩
    by_cases e : p = q
    · subst e
      unfold wN
      rw [n2, show (nI (mxW M 200 + 1)).toBitVec.toNat = mxW M 200 + 1 from by
        show (BitVec.ofNat 32 (mxW M 200 + 1)).toNat = _
        rw [BitVec.toNat_ofNat]; omega]
      omega
    · unfold wN
      rw [(page_frame hp (fun i hi => e3 _ (by omega))).2.1]
      have := h.b p hp
      unfold wN at this
      omega
