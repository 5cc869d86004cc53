/-! one page written by both sides: the same page, the same bytes, the same power -/
theorem c_free_L {lc : Nat} {tk : Nat → Int32} {d : Nat} (hlc : lc < 200) (hd : d < 200) (hu : tk ((lc + 1 + d) % 200) = 0) (hmin : ∀ d', d' < d → ¬ tk ((lc + 1 + d') % 200) = 0) : ∀ (n c : Nat) (x : Int32), c ≤ d → x = nI (1 + (d - c)) → c < n → fn_X7_freePage_L2 n (nI lc) tk x = nI ((lc + 1 + d) % 200) := by
  intro n
  induction n with
  | zero => intro c x hc hx hn; omega
  | succ n ih =>
    intro c x hc hx hn
    have e : ((nI lc + nI (1 + (d - c))) - (nI lc + nI (1 + (d - c))) / 200 * 200) = nI ((lc + 1 + (d - c)) % 200) := by
      rw [nI_add, show (200 : Int32) = nI 200 from rfl, pk_rem (by omega) (by decide) (by decide), Nat.add_assoc]
    have hl : (lc + 1 + (d - c)) % 200 < 200 := Nat.mod_lt _ (by decide)
    rw [fn_X7_freePage_L2, hx, e, nI_clamp (by omega), show (200 : Int32) = nI 200 from rfl, if_neg (nI_nlt (by omega) (by omega))]
    cases c with
    | zero => rw [Nat.sub_zero, if_pos hu]
    | succ c =>
      rw [if_neg (hmin _ (by omega)), nI_1]
      exact ih c _ (by omega) (by congr 1; omega) (by omega)
theorem c_free {lc : Nat} {tk : Nat → Int32} {q : Nat} (hlc : lc < 200) (h : frees tk ((lc + 1) % 200) q) : fn_X7_freePage (nI lc) tk = nI q := by
  obtain ⟨d, hd, hq, hu, hmin⟩ := h
  have e : ∀ d, ((lc + 1) % 200 + d) % 200 = (lc + 1 + d) % 200 := fun d => by omega
  unfold fn_X7_freePage
  rw [c_free_L hlc hd (by rw [← e, ← hq]; exact hu) (fun d' h => by rw [← e]; exact hmin d' h) 202 d 1 (Nat.le_refl d) (by rw [Nat.sub_self]; rfl) (by omega), hq, e]
theorem startM_eq {lm : Int32} {lc : Nat} (hlc : lc < 200) (h : (lm = (-1) ∧ lc = 199) ∨ lm = nI lc) : startM lm = nI ((lc + 1) % 200) := by
  unfold startM
  rcases h with ⟨h, h2⟩ | h
  · rw [if_pos h, h2]; rfl
  · rw [if_neg (by rw [h]; exact nI_m1 (by omega)), q_next h hlc]
theorem kd_ok {kd : Int32} (h : kd = 1 ∨ kd = 2) : bt kd 31 = false ∧ ∀ t, 8 ≤ t → bt kd t = false := by
  have k1 : ∀ t, t < 32 → 8 ≤ t → bt 1 t = false := by decide +kernel
  have k2 : ∀ t, t < 32 → 8 ≤ t → bt 2 t = false := by decide +kernel
  refine ⟨?_, fun t ht => ?_⟩
  · rcases h with rfl | rfl <;> decide
  · rcases Nat.lt_or_ge t 32 with a | a
    · rcases h with rfl | rfl
      · exact k1 t a ht
      · exact k2 t a ht
    · exact b_big a
theorem sim_write {la lm pw wh ro ta sd st left kd : Int32} {bo sh W : Nat → Int64} {tk us pl wr M : Nat → Int32} {k : Int64} {lc B : Nat} (hR : BR 12800 W M) (hB : WB M B) (hB2 : B < 1073741823) (hbo : BR 51 bo pl) (hkd : kd = 1 ∨ kd = 2) (hla : la = nI lc) (hlc : lc < 200) (hlm : (lm = (-1) ∧ lc = 199) ∨ lm = nI lc) (htu : ∀ q, q < 200 → (tk q = 0 ↔ us q = 0)) (hfree : ∃ q, q < 200 ∧ us q = 0) :
    ∃ (q : Nat) (W' : Nat → Int64) (M' : Nat → Int32) (sh' : Nat → Int64) (wr' : Nat → Int32), q < 200 ∧ us q = 0 ∧ tk q = 0 ∧ BR 12800 W' M' ∧
      ((∃ s, s < 4 ∧ fn_X7_writePage la pw bo sd W 1 left sh tk kd k = ((-1), la, pw, sd + nI s, W', 0, (-1), sh', tk) ∧ fn_X9_write 1 left ro ta lm wh st M us pl wr kd k = ((-1), 0, (-1), 0, 0, nI q, wh, st + nI s, M', upd us q (vp_nar .boolean 1), wr') ∧ (s = 0 → M' = M) ∧ ∀ i, ¬ (64 * q + 16 ≤ i ∧ i < 64 * q + 64) → M' i = M i) ∨
       (∃ left', fn_X7_writePage la pw bo sd W 1 left sh tk kd k = (nI q, nI q, pw + 1, sd + nI 4, W', 1, left', sh', upd tk q (vp_nar .boolean 1)) ∧ fn_X9_write 1 left ro ta lm wh st M us pl wr kd k = (nI q, 1, left', ro, ta, nI q, wh + 1, st + nI 4, M', upd us q (vp_nar .boolean 1), wr') ∧ (∀ i, ¬ (64 * q ≤ i ∧ i < 64 * q + 64) → M' i = M i) ∧ ∀ i, i < 64 → ∀ t, t < 8 → bt (M' (64 * q + i)) t = pgB kd k (nI (mxW M 200 + 1)) pl i t)) := by
  have hs : (lc + 1) % 200 < 200 := Nat.mod_lt _ (by decide)
  obtain ⟨q, hf⟩ := frees_ex hs hfree
  obtain ⟨q2, hf2⟩ := frees_ex (f := tk) hs (by obtain ⟨a, ha, hb⟩ := hfree; exact ⟨a, ha, (htu a ha).mpr hb⟩)
  have hq12 := frees_one htu hf2 hf
  subst hq12
  have hq : q2 < 200 := by obtain ⟨d, -, h, -⟩ := hf; rw [h]; exact Nat.mod_lt _ (by decide)
  have huq : us q2 = 0 := by obtain ⟨d, -, -, h, -⟩ := hf; exact h
  have htq : tk q2 = 0 := (htu _ hq).mpr huq
  have hm := mxW_le hB 200 (Nat.le_refl 200)
  obtain ⟨wr', e1, e2⟩ := m_write (on := 1) (ar := left) (ro := ro) (ta := ta) (la := lm) (wh := wh) (st := st) (M := M) (us := us) (pl := pl) (wr := wr) (kd := kd) (k := k) hs (startM_eq hlc hlm) hf hB (by omega)
  have ec : fn_X7_writePage la pw bo sd W 1 left sh tk kd k = fn_X7_writePage_L30 6 la pw bo sd W 1 left (fn_X7_seal bo sh kd k (lN (mxW M 200 + 1))) tk (nI q2) 3 := by
    unfold fn_X7_writePage
    rw [bnd1, hla, c_free hlc hf2, if_neg (nI_m1 (by omega)), bnd1, bnd1, c_next hR hB (by omega)]
  have hsh : BR 64 (fn_X7_seal bo sh kd k (lN (mxW M 200 + 1))) wr' := by
    intro i hi t ht
    rw [c_seal hbo (kd_ok hkd) (by omega) hi ht, e2 i hi t ht]
  obtain ⟨W', M', g0, g1⟩ := sim_parts (la := la) (lm := nI q2) (pw := pw) (wh := wh) (ro := ro) (ta := ta) (bo := bo) (tk := tk) (us := upd us q2 (vp_nar .boolean 1)) (pl := pl) hq hsh 6 6 4 W M sd st left 3 (by decide) (by decide) (by decide) (by decide) hR
  rw [ec, e1]
  refine ⟨q2, W', M', fn_X7_seal bo sh kd k (lN (mxW M 200 + 1)), wr', hq, huq, htq, g0, ?_⟩
  rcases g1 with ⟨s, h1, h2, h3, h4⟩ | ⟨l, h2, h3, h4, h5⟩
  · exact Or.inl ⟨s, h1, h2, h3, h4⟩
  · refine Or.inr ⟨l, h2, h3, h4, fun i hi t ht => ?_⟩
    rw [h5 i (by omega), b_narb _ ht]
    exact e2 i hi t ht
/-! what a page says, behind a writing -/
theorem page_frame {M M' : Nat → Int32} {p : Nat} (hp : p < 200) (h : ∀ i, i < 64 → M' (64 * p + i) = M (64 * p + i)) : pKind M' p = pKind M p ∧ pWrit M' p = pWrit M p ∧ pTag M' p = pTag M p ∧ ∀ k i, i < 51 → sPl M' k p i = sPl M k p i := by
  have hw : pWrit M' p = pWrit M p := by
    apply b_ext
    intro t ht
    rw [m_writ hp ht, m_writ hp ht, h _ (by omega)]
  refine ⟨?_, hw, ?_, fun k i hi => ?_⟩
  · unfold pKind
    rw [show 64 * p = 64 * p + 0 from rfl, h 0 (by decide)]
  · unfold pTag
    exact foldB_cg _ _ _ (fun j h1 h2 => by
      have := h (j - 64 * p) (by omega)
      rw [show 64 * p + (j - 64 * p) = j by omega] at this
      exact this)
  · unfold sPl
    rw [h (13 + i) (by omega), hw]
theorem page_head {M M' : Nat → Int32} {p : Nat} (hp : p < 200) (h : ∀ i, i < 16 → M' (64 * p + i) = M (64 * p + i)) : pKind M' p = pKind M p ∧ pWrit M' p = pWrit M p ∧ pTag M' p = pTag M p := by
  refine ⟨?_, ?_, ?_⟩
  · unfold pKind
    rw [show 64 * p = 64 * p + 0 from rfl, h 0 (by decide)]
  · apply b_ext
    intro t ht
    rw [m_writ hp ht, m_writ hp ht, h _ (by omega)]
  · unfold pTag
    exact foldB_cg _ _ _ (fun j h1 h2 => by
      have := h (j - 64 * p) (by omega)
      rw [show 64 * p + (j - 64 * p) = j by omega] at this
      exact this)
theorem page_new {M' pl : Nat → Int32} {q w : Nat} {kd : Int32} {k : Int64} (hq : q < 200) (hw : w < 2147483648) (hkd : kd = 1 ∨ kd = 2) (h : ∀ i, i < 64 → ∀ t, t < 8 → bt (M' (64 * q + i)) t = pgB kd k (nI w) pl i t) : pKind M' q = kd ∧ pWrit M' q = nI w ∧ tagOK M' k q ∧ ∀ i, i < 51 → sPl M' k q i &&& 255 = pl i &&& 255 := by
  have ew : pWrit M' q = nI w := by
    apply b_ext
    intro t ht
    rw [m_writ hq ht, h _ (by omega) _ (by omega)]
    unfold pgB
    rw [if_neg (by omega), if_pos (by omega)]
    congr 1; omega
  refine ⟨?_, ew, ?_, fun i hi => ?_⟩
  · unfold pKind
    apply b_ext
    intro t ht
    rw [b_and, b_255]
    rcases Nat.lt_or_ge t 8 with a | a
    · have e := h 0 (by decide) t a
      unfold pgB at e
      rw [if_pos rfl] at e
      rw [decide_eq_true a, Bool.and_true]
      exact e
    · rw [decide_eq_false (by omega), Bool.and_false, (kd_ok hkd).2 t a]
  · unfold tagOK pTag
    rw [ew]
    apply l_ext
    intro t ht
    rw [foldB_bit _ _ _ _ ht, if_pos (by omega), Nat.add_assoc, h _ (by omega) _ (by omega)]
    unfold pgB
    rw [if_neg (by omega), if_neg (by omega), if_pos (by omega)]
    congr 1; omega
  · apply b_ext
    intro t ht
    rw [b_and, b_and, b_255]
    rcases Nat.lt_or_ge t 8 with a | a
    · rw [sPl_bit a, h (13 + i) (by omega) t a, ew]
      unfold pgB
      rw [if_neg (by omega), if_neg (by omega), if_neg (by omega), show 13 + i - 13 = i by omega, Bool.xor_assoc, Bool.xor_self, Bool.xor_false]
    · rw [decide_eq_false (by omega), Bool.and_false, Bool.and_false]
