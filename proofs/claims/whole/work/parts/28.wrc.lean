/-! a page being written, by the class; both sides in step -/
theorem c_next_L {W : Nat → Int64} {M : Nat → Int32} (h : BR 12800 W M) {B : Nat} (hB : WB M B) (hB2 : B < 1073741824) : ∀ (n c j : Nat) (x : Int32) (v : Int64), x = nI j → v = lN (mxW M j) → j + c = 200 → c < n → fn_X1_nextWriting_L4 n W v x = lN (mxW M 200 + 1) := by
  intro n
  induction n with
  | zero => intro c j x v hx hv hj hc; omega
  | succ n ih =>
    intro c j x v hx hv hj hc
    rw [fn_X1_nextWriting_L4, hx, hv, show (200 : Int32) = nI 200 from rfl]
    cases c with
    | zero => rw [if_pos (nI_le (by omega) (by omega)), lN_1, show j = 200 by omega]
    | succ c =>
      have hm := mxW_le hB j (by omega)
      have hw := hB j (by omega)
      rw [if_neg (nI_ge (by omega) (by omega)), bnd1, c_writ h (by omega) (hB.b31 (by omega) (by omega)), wN_nI, nI_l (by omega)]
      refine ih c (j + 1) _ _ (nI_1 j) ?_ (by omega) (by omega)
      rw [mxW]
      by_cases q : wN M j ≤ mxW M j
      · rw [if_pos q]
        split
        · rfl
        · rename_i c2
          have := mt (lN_lt (a := wN M j) (b := mxW M j) (by omega) (by omega)).mpr c2
          rw [show wN M j = mxW M j by omega]
      · rw [if_neg q, if_neg (fun c2 => q (Nat.le_of_lt ((lN_lt (a := wN M j) (b := mxW M j) (by omega) (by omega)).mp c2)))]
theorem c_next {W : Nat → Int64} {M : Nat → Int32} (h : BR 12800 W M) {B : Nat} (hB : WB M B) (hB2 : B < 1073741824) : fn_X1_nextWriting W = lN (mxW M 200 + 1) := by
  unfold fn_X1_nextWriting
  exact c_next_L h hB hB2 201 200 0 0 0 rfl rfl (by decide) (by decide)
theorem bl_lN {n t : Nat} (hn : n < 2147483648) (ht : t < 64) : bl (lN n) t = (decide (t < 32) && bt (nI n) t) := by
  rw [← nI_l hn, l_i2l _ ht]
  split
  · rw [decide_eq_true ‹_›, Bool.true_and]
  · rw [decide_eq_false ‹_›, Bool.false_and, bt_nI31 hn]
/-- what the class hides: word j of the body -/
def hid (bo : Nat → Int64) (k w : Int64) (j : Nat) : Int64 := bo j ^^^ fn_X8_padOf k w (nI j).toInt64
theorem c_seal_L {bo : Nat → Int64} {k w : Int64} : ∀ (n c j : Nat) (sh : Nat → Int64) (b : Int64) (x : Int32), x = nI j → j + c = 7 → c < n → ∀ i, fn_X7_seal_L41 n bo sh k w b x i = if j + 1 ≤ i ∧ i ≤ 7 then ((ju_lshl (if i = j + 1 then b else hid bo k w (i - 2)) (nI 24)) ||| (ju_lushr (hid bo k w (i - 1)) (nI 40))) else sh i := by
  intro n
  induction n with
  | zero => intro c j sh b x hx hj hc; omega
  | succ n ih =>
    intro c j sh b x hx hj hc i
    rw [fn_X7_seal_L41, hx, show (7 : Int32) = nI 7 from rfl]
    cases c with
    | zero => rw [if_pos (nI_le (by omega) (by omega)), if_neg (by omega)]
    | succ c =>
      have e : fn_X0_word bo (nI j) = bo j := by
        unfold fn_X0_word
        rw [if_neg (nI_pos (by omega)), show (7 : Int32) = nI 7 from rfl, if_pos (nI_lt (by omega) (by omega)), nI_clamp (by omega)]
      rw [if_neg (nI_ge (by omega) (by omega)), bnd1, bnd1, e, nI_1, nI_clamp (by omega), ih c (j + 1) _ _ _ rfl (by omega) (by omega) i]
      by_cases h1 : j + 1 + 1 ≤ i ∧ i ≤ 7
      · rw [if_pos h1, if_pos (show j + 1 ≤ i ∧ i ≤ 7 by omega), if_neg (show ¬ i = j + 1 by omega)]
        by_cases h2 : i = j + 1 + 1
        · subst h2
          rw [if_pos rfl]
          rfl
        · rw [if_neg h2]
      · rw [if_neg h1]
        by_cases h2 : i = j + 1
        · subst h2
          rw [pk_uLs, if_pos (by omega), if_pos rfl]
          rfl
        · rw [pk_uLn h2, if_neg (by omega)]
theorem hid_bit {bo : Nat → Int64} {pl : Nat → Int32} (h : BR 51 bo pl) {k : Int64} {w i t : Nat} (hw : w < 2147483648) (hi : i < 51) (ht : t < 8) {kd : Int32} : bl (hid bo k (lN w) (i / 8)) (56 - 8 * (i % 8) + t) = pgB kd k (nI w) pl (13 + i) t := by
  unfold hid pgB
  rw [l_xor, h i hi t ht, pad_same, if_neg (by omega), if_neg (by omega), if_neg (by omega), show 13 + i - 13 = i by omega, nI_l hw]
theorem c_seal {bo sh : Nat → Int64} {pl : Nat → Int32} (h : BR 51 bo pl) {kd : Int32} (hkd : bt kd 31 = false ∧ ∀ t, 8 ≤ t → bt kd t = false) {k : Int64} {w : Nat} (hw : w < 2147483648) {i t : Nat} (hi : i < 64) (ht : t < 8) : bl (fn_X7_seal bo sh kd k (lN w) (i / 8)) (56 - 8 * (i % 8) + t) = pgB kd k (nI w) pl i t := by
  unfold fn_X7_seal
  rw [bnd1, c_seal_L 8 7 0 _ _ 0 rfl (by decide) (by decide) (i / 8)]
  have tag : ∀ r t, r < 8 → t < 8 → bl (fn_X8_padOf k (lN w) 100) (56 - 8 * r + t) = pgB kd k (nI w) pl (5 + r) t := by
    intro r t hr ht
    unfold pgB
    rw [if_neg (by omega), if_neg (by omega), if_pos (by omega), pad_same, nI_l hw, show 5 + r - 5 = r by omega]
  rcases Nat.lt_or_ge i 8 with h8 | h8
  · rw [if_neg (by omega), show i / 8 = (0 : Int32).toNatClampNeg from (by show i / 8 = 0; omega), pk_uLs, show i % 8 = i by omega, l_or, l_or, show (56 : Int32) = nI 56 from rfl, show (24 : Int32) = nI 24 from rfl, show (40 : Int32) = nI 40 from rfl, l_shl 56 (by decide) _ (by omega), l_shl 24 (by decide) _ (by omega), l_ushr 40 (by decide), l_and, l_m32]
    rcases Nat.lt_or_ge i 1 with a | a
    · have i0 : i = 0 := by omega
      subst i0
      unfold pgB
      rw [if_pos rfl, l_i2l _ (by omega), if_pos (by omega), l_big (i := 40 + (56 - 8 * 0 + t)) (by omega), decide_eq_false (p := 56 - 8 * 0 + t - 24 < 32) (by omega), decide_eq_true (p := 56 ≤ 56 - 8 * 0 + t) (by omega), show 56 - 8 * 0 + t - 56 = t by omega]
      simp
    · rcases Nat.lt_or_ge i 5 with b | b
      · unfold pgB
        rw [if_neg (by omega), if_pos b, l_big (i := 40 + (56 - 8 * i + t)) (by omega), decide_eq_false (p := 56 ≤ 56 - 8 * i + t) (by omega), decide_eq_true (p := 24 ≤ 56 - 8 * i + t) (by omega), decide_eq_true (p := 56 - 8 * i + t - 24 < 32) (by omega), bl_lN hw (by omega), decide_eq_true (p := 56 - 8 * i + t - 24 < 32) (by omega), show 56 - 8 * i + t - 24 = 8 * (4 - i) + t by omega]
        simp
      · rw [decide_eq_false (p := 56 ≤ 56 - 8 * i + t) (by omega), decide_eq_false (p := 24 ≤ 56 - 8 * i + t) (by omega), Bool.false_and, Bool.false_and, Bool.false_or, Bool.false_or]
        have q := tag (i - 5) t (by omega) ht
        rw [show 5 + (i - 5) = i by omega] at q
        rw [← q]
        congr 1; omega
  · rw [if_pos (by omega), l_or, l_shl 24 (by decide) _ (by omega), l_ushr 40 (by decide)]
    rcases Nat.lt_or_ge (i % 8) 5 with r5 | r5
    · rw [l_big (i := 40 + (56 - 8 * (i % 8) + t)) (by omega), Bool.or_false, decide_eq_true (by omega), Bool.true_and]
      by_cases h1 : i / 8 = 0 + 1
      · rw [if_pos h1]
        have q := tag (i % 8 + 3) t (by omega) ht
        rw [show 5 + (i % 8 + 3) = i by omega] at q
        rw [← q]
        congr 1; omega
      · rw [if_neg h1]
        have q := hid_bit h (k := k) (w := w) (i := i - 13) (t := t) (kd := kd) hw (by omega) ht
        rw [show 13 + (i - 13) = i by omega] at q
        rw [← q]
        congr 1
        · congr 1; omega
        · omega
    · rw [decide_eq_false (p := 24 ≤ 56 - 8 * (i % 8) + t) (by omega), Bool.false_and, Bool.false_or]
      have q := hid_bit h (k := k) (w := w) (i := i - 13) (t := t) (kd := kd) hw (by omega) ht
      rw [show 13 + (i - 13) = i by omega] at q
      rw [← q]
      congr 1
      · congr 1; omega
      · omega
/-- the reference copies 16 bytes -/
theorem m_w287 {K : Int32 → Int32 → Int32 → Int32 → Int32 → Int32 → Int32 → (Nat → Int32) → (Nat → Int32) → (Nat → Int32) → (Nat → Int32) → Int32 → Int32 → (Int32 × Int32 × Int32 × Int32 × Int32 × Int32 × Int32 × Int32 × (Nat → Int32) × (Nat → Int32) × (Nat → Int32))} {on ar ro ta la wh st : Int32} {us pl wr : Nat → Int32} {q pt : Nat} (hq : q < 200) (hpt : pt < 4) : ∀ (n c j : Nat) (M : Nat → Int32) (x : Int32), x = nI (16 * pt + j) → j + c = 16 → c < n → ∃ M' : Nat → Int32, fn_X9_write_L287 n K on ar ro ta la wh st M us pl wr (nI q) (nI pt) x = K on ar ro ta la wh st M' us pl wr (nI q) (nI pt + (-1)) ∧ (∀ i, 64 * q + 16 * pt + j ≤ i → i < 64 * q + 16 * pt + 16 → M' i = vp_nar .byte (wr (i - 64 * q))) ∧ ∀ i, ¬ (64 * q + 16 * pt + j ≤ i ∧ i < 64 * q + 16 * pt + 16) → M' i = M i := by
  intro n
  induction n with
  | zero => intro c j M x hx hj hc; omega
  | succ n ih =>
    intro c j M x hx hj hc
    rw [fn_X9_write_L287, hx, show (16 : Int32) = nI 16 from rfl, pk_mul, nI_add]
    cases c with
    | zero =>
      rw [if_pos (nI_le (by omega) (by omega))]
      exact ⟨M, rfl, fun i h1 h2 => by omega, fun i _ => rfl⟩
    | succ c =>
      rw [if_neg (nI_ge (by omega) (by omega)), show (64 : Int32) = nI 64 from rfl, pk_mul, nI_add, nI_clamp (by omega), nI_clamp (by omega), nI_1]
      obtain ⟨M', e1, e2, e3⟩ := ih c (j + 1) (upd M (64 * q + (16 * pt + j)) (vp_nar .byte (wr (16 * pt + j)))) (nI (16 * pt + j + 1)) (by rw [Nat.add_assoc]) (by omega) (by omega)
      refine ⟨M', e1, fun i h1 h2 => ?_, fun i h => ?_⟩
      · by_cases a : i = 64 * q + (16 * pt + j)
        · subst a
          rw [e3 _ (by omega), pk_us, show 64 * q + (16 * pt + j) - 64 * q = 16 * pt + j by omega]
        · exact e2 i (by omega) h2
      · rw [e3 i (by omega), pk_un (by omega)]
theorem c_part {sd : Int32} {W sh : Nat → Int64} {q pt : Nat} (hq : q < 200) (hpt : pt < 4) : fn_X1_writePart sd W sh (nI q) (nI pt) = (sd + 1, va_cpy sh W (2 * pt) (8 * q + 2 * pt) 2) := by
  unfold fn_X1_writePart
  rw [bnd1, c_isPage hq, if_neg (by decide), if_neg (nI_pos (by omega)), show (4 : Int32) = nI 4 from rfl, if_neg (nI_ge (by omega) (by omega)), show (2 : Int32) = nI 2 from rfl, t_c8, pk_mul, pk_mul, nI_add, nI_clamp (by omega), nI_clamp (by omega), nI_clamp (by omega), Nat.mul_comm pt 2, Nat.mul_comm q 8]
theorem BR_part {W sh : Nat → Int64} {M M' wr : Nat → Int32} {q pt : Nat} (hpt : pt < 4) (h : BR 12800 W M) (hs : BR 64 sh wr) (h1 : ∀ i, 64 * q + 16 * pt ≤ i → i < 64 * q + 16 * pt + 16 → M' i = vp_nar .byte (wr (i - 64 * q))) (h2 : ∀ i, ¬ (64 * q + 16 * pt ≤ i ∧ i < 64 * q + 16 * pt + 16) → M' i = M i) : BR 12800 (va_cpy sh W (2 * pt) (8 * q + 2 * pt) 2) M' := by
  intro i hi t ht
  by_cases a : 64 * q + 16 * pt ≤ i ∧ i < 64 * q + 16 * pt + 16
  · rw [pk_cpy_in (by omega) (by omega), h1 i a.1 a.2, b_narb _ ht]
    have e := hs (i - 64 * q) (by omega) t ht
    rw [← e]
    congr 1
    · congr 1; omega
    · omega
  · rw [pk_cpy_out (by omega), h2 i a]
    exact h i hi t ht
theorem sub0 (x : Int32) : x - 0 = x := by
  apply Int32.toBitVec_inj.mp
  simp
/-- both sides write a page's parts in step -/
theorem sim_parts {la lm pw wh ro ta : Int32} {bo sh : Nat → Int64} {tk us pl wr : Nat → Int32} {q : Nat} (hq : q < 200) (hs : BR 64 sh wr) : ∀ (n n' j : Nat) (W : Nat → Int64) (M : Nat → Int32) (sd st left x : Int32), x = nI j + (-1) → j < n → j < n' → j ≤ 4 → BR 12800 W M → ∃ (W' : Nat → Int64) (M' : Nat → Int32), BR 12800 W' M' ∧
    ((∃ s, s < j ∧ fn_X7_writePage_L30 n la pw bo sd W 1 left sh tk (nI q) x = ((-1), la, pw, sd + nI s, W', 0, (-1), sh, tk) ∧ fn_X9_write_L266 n' 1 left ro ta lm wh st M us pl wr (nI q) x = ((-1), 0, (-1), 0, 0, lm, wh, st + nI s, M', us, wr) ∧ (s = 0 → M' = M) ∧ ∀ i, ¬ (64 * q + 16 ≤ i ∧ i < 64 * q + 64) → M' i = M i) ∨
     (∃ left', fn_X7_writePage_L30 n la pw bo sd W 1 left sh tk (nI q) x = (nI q, nI q, pw + 1, sd + nI j, W', 1, left', sh, upd tk q (vp_nar .boolean 1)) ∧ fn_X9_write_L266 n' 1 left ro ta lm wh st M us pl wr (nI q) x = (nI q, 1, left', ro, ta, lm, wh + 1, st + nI j, M', us, wr) ∧ (∀ i, ¬ (64 * q ≤ i ∧ i < 64 * q + 16 * j) → M' i = M i) ∧ ∀ i, i < 16 * j → M' (64 * q + i) = vp_nar .byte (wr i))) := by
  intro n
  induction n with
  | zero => intro n' j W M sd st left x hx h1; omega
  | succ n ih =>
    intro n' j W M sd st left x hx h1 h2 h4 hR
    obtain ⟨n', rfl⟩ : ∃ m, n' = m + 1 := ⟨n' - 1, by omega⟩
    rw [fn_X7_writePage_L30, fn_X9_write_L266]
    cases j with
    | zero =>
      have e : x < 0 := by rw [hx]; decide
      rw [if_pos e, if_pos e, nI_clamp (by omega)]
      refine ⟨W, M, hR, Or.inr ⟨left, ?_, ?_, fun i _ => rfl, fun i hi => by omega⟩⟩
      · rw [nI_0, show sd + 0 = sd by apply Int32.toBitVec_inj.mp; simp]
      · rw [nI_0, show st + 0 = st by apply Int32.toBitVec_inj.mp; simp]
    | succ j =>
      rw [pk_m1] at hx
      subst hx
      rw [if_neg (nI_pos (by omega)), if_neg (nI_pos (by omega)), bnd3, bnd6]
      by_cases hl : left = 0
      · have e1 : fn_X3_lastsForStep 1 left = (0, 0, (-1)) := by unfold fn_X3_lastsForStep; rw [if_pos hl]; rfl
        have e2 : fn_X9_step 1 left ro ta st = (0, 0, (-1), 0, 0, st) := by unfold fn_X9_step; rw [if_neg (by decide), if_pos hl]; rfl
        rw [e1, e2, if_pos rfl, if_pos rfl]
        refine ⟨W, M, hR, Or.inl ⟨0, by omega, ?_, ?_, fun _ => rfl, fun i _ => rfl⟩⟩
        · rw [nI_0, show sd + 0 = sd by apply Int32.toBitVec_inj.mp; simp]
        · rw [nI_0, show st + 0 = st by apply Int32.toBitVec_inj.mp; simp]
      · obtain ⟨l2, e1, e2⟩ : ∃ l2, fn_X3_lastsForStep 1 left = (1, 1, l2) ∧ fn_X9_step 1 left ro ta st = (1, 1, l2, ro, ta, st + 1) := by
          unfold fn_X3_lastsForStep fn_X9_step
          rw [if_neg hl, if_neg (show ¬ (1 : Int32) = 0 by decide), if_neg hl]
          by_cases h0 : left ≤ 0
          · rw [if_pos h0, if_pos h0, sub0]; exact ⟨_, rfl, rfl⟩
          · rw [if_neg h0, if_neg h0]; exact ⟨_, rfl, rfl⟩
        rw [e1, e2, if_neg (show ¬ (1 : Int32) = 0 by decide), if_neg (show ¬ (1 : Int32) = 0 by decide), bnd2, c_part hq (by omega)]
        obtain ⟨M2, f1, f2, f3⟩ := m_w287 (K := fn_X9_write_L266 n') (on := 1) (ar := l2) (ro := ro) (ta := ta) (la := lm) (wh := wh) (st := st + 1) (us := us) (pl := pl) (wr := wr) (q := q) (pt := j) hq (by omega) 18 16 0 M (16 * nI j) (by rw [show (16 : Int32) = nI 16 from rfl, pk_mul, Nat.add_zero]) (by decide) (by decide)
        rw [Nat.add_zero] at f2 f3
        obtain ⟨W', M', g0, g1 | g1⟩ := ih n' j (va_cpy sh W (2 * j) (8 * q + 2 * j) 2) M2 (sd + 1) (st + 1) l2 _ rfl (by omega) (by omega) (by omega) (BR_part (by omega) hR hs f2 f3)
        · obtain ⟨s, k1, k2, k3, -, k4⟩ := g1
          refine ⟨W', M', g0, Or.inl ⟨s + 1, by omega, ?_, ?_, fun h => absurd h (Nat.succ_ne_zero s), fun i hi => ?_⟩⟩
          · rw [← nI_1, show sd + (nI s + 1) = sd + 1 + nI s by rw [Int32.add_comm (nI s) 1, Int32.add_assoc]]; exact k2
          · rw [← nI_1, show st + (nI s + 1) = st + 1 + nI s by rw [Int32.add_comm (nI s) 1, Int32.add_assoc]]; exact f1.trans k3
          · rw [k4 i hi, f3 i (by omega)]
        · obtain ⟨l3, k2, k3, k4, k5⟩ := g1
          refine ⟨W', M', g0, Or.inr ⟨l3, ?_, ?_, fun i hi => ?_, fun i hi => ?_⟩⟩
          · rw [← nI_1, show sd + (nI j + 1) = sd + 1 + nI j by rw [Int32.add_comm (nI j) 1, Int32.add_assoc]]; exact k2
          · rw [← nI_1, show st + (nI j + 1) = st + 1 + nI j by rw [Int32.add_comm (nI j) 1, Int32.add_assoc]]; exact f1.trans k3
          · rw [k4 i (by omega), f3 i (by omega)]
          · by_cases a : i < 16 * j
            · exact k5 i a
            · rw [k4 _ (by omega), f2 _ (by omega) (by omega), show 64 * q + i - 64 * q = i by omega]
