/-! what is written: nodes and data, on both sides -/
/-- byte i, bit t, of a body's words -/
def bb (w : Nat → Int64) (i t : Nat) : Bool := bl (w (i / 8)) (56 - 8 * (i % 8) + t)
theorem c_setByte {w : Nat → Int64} {v : Int64} {x : Int32} {i : Nat} (hx : x = nI i) (hi : i < 51) : ∀ j, j < 56 → ∀ t, t < 8 → bb (fn_X0_setByte w x v) j t = if j = i then bl v t else bb w j t := by
  intro j hj t ht
  unfold fn_X0_setByte
  rw [hx, if_neg (nI_pos (by omega)), show (51 : Int32) = nI 51 from rfl, if_pos (nI_lt (by omega) (by omega)), t_sh hi, t_clq (by omega)]
  unfold bb
  by_cases h : j / 8 = i / 8
  · rw [h, pk_uLs, l_or, l_and, l_xor, l_m1 _ (by omega), l_shl _ (by omega) _ (by omega), l_shl _ (by omega) _ (by omega), l_255, l_and, l_255]
    by_cases h2 : j = i
    · subst h2
      rw [if_pos rfl, decide_eq_true (show 56 - 8 * (j % 8) ≤ 56 - 8 * (j % 8) + t by omega), show 56 - 8 * (j % 8) + t - (56 - 8 * (j % 8)) = t by omega, decide_eq_true ht]
      simp
    · rw [if_neg h2]
      rcases Nat.lt_or_ge (j % 8) (i % 8) with a | a
      · rw [decide_eq_false (show ¬ 56 - 8 * (j % 8) + t - (56 - 8 * (i % 8)) < 8 by omega)]
        simp
      · rw [decide_eq_false (show ¬ 56 - 8 * (i % 8) ≤ 56 - 8 * (j % 8) + t by omega)]
        simp
  · rw [pk_uLn h, if_neg (fun e => h (by rw [e]))]
theorem c_setNumber_L {w0 : Nat → Int64} {v : Int64} {v1 v2 : Int32} {i m : Nat} (h1 : v1 = nI i) (h2 : v2 = nI m) (hm : i + m ≤ 51) (hm8 : m ≤ 8) : ∀ (n c k : Nat) (w : Nat → Int64) (x : Int32), x = nI k → k + c = m → c < n → ∀ j, j < 56 → ∀ t, t < 8 → bb (fn_X0_setNumber_L3 n w v1 v2 v x) j t = if i + k ≤ j ∧ j < i + m then bl v (8 * (i + m - 1 - j) + t) else bb w j t := by
  intro n
  induction n with
  | zero => intro c k w x hx hk hc; omega
  | succ n ih =>
    intro c k w x hx hk hc j hj t ht
    rw [fn_X0_setNumber_L3, hx, h2]
    cases c with
    | zero => rw [if_pos (nI_le (by omega) (by omega)), if_neg (by omega)]
    | succ c =>
      rw [if_neg (nI_ge (by omega) (by omega)), bnd1, ← h2, ih c (k + 1) _ _ (nI_1 k) (by omega) (by omega) j hj t ht]
      rw [c_setByte (i := i + k) (by rw [h1, nI_add]) (by omega) j hj t ht]
      have e : (8 * ((v2 - 1) - nI k) : Int32) = nI (8 * (m - 1 - k)) := by
        rw [h2, show (1 : Int32) = nI 1 from rfl, pk_sub (by omega), pk_sub (by omega), t_c8, pk_mul]
      by_cases a : i + (k + 1) ≤ j ∧ j < i + m
      · rw [if_pos a, if_pos (by omega)]
      · rw [if_neg a]
        by_cases b : j = i + k
        · rw [if_pos b, if_pos (by omega), e, l_ushr _ (by omega)]
          congr 1; omega
        · rw [if_neg b, if_neg (by omega)]
theorem c_setNumber {w : Nat → Int64} {v : Int64} {v1 v2 : Int32} {i m : Nat} (h1 : v1 = nI i) (h2 : v2 = nI m) (hm : i + m ≤ 51) (hm8 : m ≤ 8) : ∀ j, j < 56 → ∀ t, t < 8 → bb (fn_X0_setNumber w v1 v2 v) j t = if i ≤ j ∧ j < i + m then bl v (8 * (i + m - 1 - j) + t) else bb w j t := by
  intro j hj t ht
  unfold fn_X0_setNumber
  exact c_setNumber_L (w0 := w) h1 h2 hm hm8 9 m 0 w 0 rfl (by omega) (by omega) j hj t ht
theorem c_clear_L : ∀ (n c i : Nat) (w : Nat → Int64) (x : Int32), x = nI i → i + c = 7 → c < n → ∀ j, fn_X0_clear_L2 n w x j = if i ≤ j ∧ j < 7 then 0 else w j := by
  intro n
  induction n with
  | zero => intro c i w x hx hi hc; omega
  | succ n ih =>
    intro c i w x hx hi hc j
    rw [fn_X0_clear_L2, hx, show (7 : Int32) = nI 7 from rfl]
    cases c with
    | zero => rw [if_pos (nI_le (by omega) (by omega)), if_neg (by omega)]
    | succ c =>
      rw [if_neg (nI_ge (by omega) (by omega)), nI_1, nI_clamp (by omega), ih c (i + 1) _ _ rfl (by omega) (by omega) j]
      by_cases a : i + 1 ≤ j ∧ j < 7
      · rw [if_pos a, if_pos (by omega)]
      · rw [if_neg a]
        by_cases b : j = i
        · subst b; rw [pk_uLs, if_pos (by omega)]
        · rw [pk_uLn b, if_neg (by omega)]
theorem c_clear (w : Nat → Int64) {i t : Nat} (hi : i < 56) : bb (fn_X0_clear w) i t = false := by
  unfold bb fn_X0_clear
  rw [c_clear_L 8 7 0 w 0 rfl (by decide) (by decide) (i / 8), if_pos (by omega), l_0]
/-- a node's bytes: keys ck, pages cp of its four entries -/
def nodeB (ck : Nat → Int64) (cp : Nat → Int32) (i t : Nat) : Bool := if 40 ≤ i then false else if ck (i / 10) = 0 then false else if i % 10 < 8 then bl (ck (i / 10)) (56 - 8 * (i % 10) + t) else bt (cp (i / 10)) (8 * (9 - i % 10) + t)
theorem c_setEntry {w : Nat → Int64} {e : Nat} {x : Int32} (hx : x = nI e) (he : e < 4) (k : Int64) (p : Int32) : ∀ j, j < 56 → ∀ t, t < 8 → bb (fn_X0_setEntry w x k p) j t = if j / 10 = e then (if j % 10 < 8 then bl k (56 - 8 * (j % 10) + t) else bt p (8 * (9 - j % 10) + t)) else bb w j t := by
  intro j hj t ht
  unfold fn_X0_setEntry
  rw [bnd1, bnd1, c_setNumber (v1 := (x * 10) + 8) (v2 := 2) (i := 10 * e + 8) (m := 2) (by rw [hx, show (10 : Int32) = nI 10 from rfl, pk_mul, t_c8, nI_add, Nat.mul_comm]) rfl (by omega) (by decide) j hj t ht, c_setNumber (v1 := x * 10) (v2 := 8) (i := 10 * e) (m := 8) (by rw [hx, show (10 : Int32) = nI 10 from rfl, pk_mul, Nat.mul_comm]) rfl (by omega) (by decide) j hj t ht]
  by_cases a : j / 10 = e
  · rw [if_pos a]
    by_cases b : j % 10 < 8
    · rw [if_pos b, if_neg (by omega), if_pos (by omega)]
      congr 1; omega
    · rw [if_neg b, if_pos (by omega), l_i2l _ (by omega), if_pos (by omega)]
      congr 1; omega
  · rw [if_neg a, if_neg (by omega), if_neg (by omega)]
/-- the class fills a node: entries from the tree, but for the changed place -/
def ckOf (K : Nat → Int64) (nd ch : Nat) (k : Int64) (e : Nat) : Int64 := if 4 * nd + 1 + e = ch then k else K (4 * nd + 1 + e)
def cpOf (L : Nat → Int32) (nd ch : Nat) (p : Int32) (e : Nat) : Int32 := if 4 * nd + 1 + e = ch then p else L (4 * nd + 1 + e)
theorem t_below {nd e : Nat} (hn : nd < 21) (he : e < 4) : (((nI nd * 4) + 1) + nI e : Int32) = nI (4 * nd + 1 + e) := by
  rw [show (4 : Int32) = nI 4 from rfl, pk_mul, nI_1, nI_add, Nat.mul_comm]
theorem c_keyAt {tkk : Nat → Int64} {p : Nat} (hp : p < 85) : fn_X6_keyAt tkk (nI p) = tkk p := by
  unfold fn_X6_keyAt
  rw [if_neg (nI_pos (by omega)), show (85 : Int32) = nI 85 from rfl, if_pos (nI_lt (by omega) (by omega)), nI_clamp (by omega)]
theorem c_linkAt {tl : Nat → Int32} {p : Nat} (hp : p < 85) : fn_X6_linkAt tl (nI p) = tl p := by
  unfold fn_X6_linkAt
  rw [if_neg (nI_pos (by omega)), show (85 : Int32) = nI 85 from rfl, if_pos (nI_lt (by omega) (by omega)), nI_clamp (by omega)]
theorem c_fill_L {tkk : Nat → Int64} {tl : Nat → Int32} {nd ch : Nat} {v1 v2 : Int32} {k : Int64} {p : Int32} (h1 : v1 = nI nd) (hn : nd < 21) (h2 : v2 = nI ch) (hch : ch < 85) : ∀ (n c e : Nat) (w : Nat → Int64) (f x : Int32), x = nI e → e + c = 4 → c < n → (∀ j, j < 51 → ∀ t, t < 8 → bb w j t = if j < 10 * e then nodeB (ckOf tkk nd ch k) (cpOf tl nd ch p) j t else false) → (f = 0 ∨ f = 1) → (f = 0 ↔ ∀ a, a < e → ckOf tkk nd ch k a = 0) → ∃ (f' : Int32) (w' : Nat → Int64), fn_X7_fillNode_L13 n w tkk tl v1 v2 k p f x = (f', w') ∧ (f' = 0 ∨ f' = 1) ∧ (f' = 0 ↔ ∀ a, a < 4 → ckOf tkk nd ch k a = 0) ∧ ∀ j, j < 51 → ∀ t, t < 8 → bb w' j t = nodeB (ckOf tkk nd ch k) (cpOf tl nd ch p) j t := by
  intro n
  induction n with
  | zero => intro c e w f x hx he hc; omega
  | succ n ih =>
    intro c e w f x hx he hc hw hf hf2
    rw [fn_X7_fillNode_L13]
    cases c with
    | zero =>
      rw [if_pos (by rw [hx]; exact nI_le (a := 4) (by omega) (by omega))]
      refine ⟨f, w, rfl, hf, by rw [hf2, show e = 4 by omega], fun j hj t ht => ?_⟩
      rw [hw j hj t ht]
      split
      · rfl
      · unfold nodeB
        rw [if_pos (by omega)]
    | succ c =>
      rw [if_neg (by rw [hx]; exact nI_ge (b := 4) (by omega) (by omega))]
      have eb : ((v1 * 4) + 1) + x = nI (4 * nd + 1 + e) := by rw [h1, hx, t_below hn (by omega)]
      have skip : ckOf tkk nd ch k e = 0 → ∀ j, j < 51 → ∀ t, t < 8 → bb w j t = if j < 10 * (e + 1) then nodeB (ckOf tkk nd ch k) (cpOf tl nd ch p) j t else false := by
        intro hk j hj t ht
        rw [hw j hj t ht]
        by_cases a : j < 10 * e
        · rw [if_pos a, if_pos (by omega)]
        · rw [if_neg a]
          split
          · unfold nodeB
            rw [if_neg (by omega), show j / 10 = e by omega, if_pos hk]
          · rfl
      have skipf : ckOf tkk nd ch k e = 0 → (f = 0 ↔ ∀ a, a < e + 1 → ckOf tkk nd ch k a = 0) := by
        intro hk
        rw [hf2]
        constructor
        · intro h a ha
          by_cases b : a = e
          · rw [b]; exact hk
          · exact h a (by omega)
        · intro h a ha; exact h a (by omega)
      have setw : ¬ ckOf tkk nd ch k e = 0 → ∀ j, j < 51 → ∀ t, t < 8 → bb (fn_X0_setEntry w x (ckOf tkk nd ch k e) (cpOf tl nd ch p e)) j t = if j < 10 * (e + 1) then nodeB (ckOf tkk nd ch k) (cpOf tl nd ch p) j t else false := by
        intro hk j hj t ht
        rw [c_setEntry hx (by omega) _ _ j (by omega) t ht, hw j hj t ht]
        by_cases a : j / 10 = e
        · rw [if_pos a, if_pos (show j < 10 * (e + 1) by omega)]
          unfold nodeB
          rw [if_neg (show ¬ 40 ≤ j by omega), a, if_neg hk]
        · rw [if_neg a]
          by_cases b : j < 10 * e
          · rw [if_pos b, if_pos (by omega)]
          · rw [if_neg b, if_neg (by omega)]
      have setf : ¬ ckOf tkk nd ch k e = 0 → ((1 : Int32) = 0 ↔ ∀ a, a < e + 1 → ckOf tkk nd ch k a = 0) := fun hk => ⟨fun h => absurd h (by decide), fun h => absurd (h e (by omega)) hk⟩
      have hcp : ∀ q, 4 * nd + 1 + e = ch → cpOf tl nd ch q e = q := fun q h => by unfold cpOf; rw [if_pos h]
      by_cases hc2 : 4 * nd + 1 + e = ch
      · have hk : ckOf tkk nd ch k e = k := by unfold ckOf; rw [if_pos hc2]
        rw [if_pos (by rw [eb, h2, hc2])]
        by_cases hz : k = 0
        · rw [if_pos (lgc0.mpr hz)]
          exact ih c (e + 1) w f _ (by rw [hx]; exact nI_1 e) (by omega) (by omega) (skip (hk.trans hz)) hf (skipf (hk.trans hz))
        · rw [if_neg (mt lgc0.mp hz), bnd1]
          have q := setw (by rw [hk]; exact hz)
          rw [hk, hcp p hc2] at q
          exact ih c (e + 1) _ 1 _ (by rw [hx]; exact nI_1 e) (by omega) (by omega) q (Or.inr rfl) (setf (by rw [hk]; exact hz))
      · have hk : ckOf tkk nd ch k e = tkk (4 * nd + 1 + e) := by unfold ckOf; rw [if_neg hc2]
        have hl : cpOf tl nd ch p e = tl (4 * nd + 1 + e) := by unfold cpOf; rw [if_neg hc2]
        rw [if_neg (by rw [eb, h2, nI_eq (by omega) (by omega)]; exact hc2), bnd1, eb, c_keyAt (by omega)]
        by_cases hz : tkk (4 * nd + 1 + e) = 0
        · rw [if_pos (lgc0.mpr hz)]
          exact ih c (e + 1) w f _ (by rw [hx]; exact nI_1 e) (by omega) (by omega) (skip (hk.trans hz)) hf (skipf (hk.trans hz))
        · rw [if_neg (mt lgc0.mp hz), bnd1, bnd1, c_linkAt (by omega)]
          have q := setw (by rw [hk]; exact hz)
          rw [hk, hl] at q
          exact ih c (e + 1) _ 1 _ (by rw [hx]; exact nI_1 e) (by omega) (by omega) q (Or.inr rfl) (setf (by rw [hk]; exact hz))
theorem c_fill {tkk : Nat → Int64} {tl : Nat → Int32} {nd ch : Nat} {v1 v2 : Int32} (k : Int64) (p : Int32) (w : Nat → Int64) (h1 : v1 = nI nd) (hn : nd < 21) (h2 : v2 = nI ch) (hch : ch < 85) : ∃ (f' : Int32) (w' : Nat → Int64), fn_X7_fillNode w tkk tl v1 v2 k p = (f', w') ∧ (f' = 0 ∨ f' = 1) ∧ (f' = 0 ↔ ∀ a, a < 4 → ckOf tkk nd ch k a = 0) ∧ ∀ j, j < 51 → ∀ t, t < 8 → bb w' j t = nodeB (ckOf tkk nd ch k) (cpOf tl nd ch p) j t := by
  unfold fn_X7_fillNode
  rw [bnd1]
  refine c_fill_L h1 hn h2 hch 5 4 0 _ 0 0 rfl (by decide) (by decide) (fun j hj t ht => ?_) (Or.inl rfl) ⟨fun _ a ha => by omega, fun _ => rfl⟩
  rw [if_neg (by omega), c_clear w (by omega)]
/-- the reference lays the entries out -/
theorem m_pe41 {ek : Nat → Int64} {ep : Nat → Int32} {e : Nat} (he : e < 4) {K : (Nat → Int64) → (Nat → Int32) → (Nat → Int32) → Int32 → (Nat → Int32)} : ∀ (n c j : Nat) (pl : Nat → Int32) (x : Int32), x = nI j → j + c = 8 → c < n → ∃ pl' : Nat → Int32, fn_X9_putEntries_L41 n K ek ep pl (nI e) x = K ek ep pl' (nI (e + 1)) ∧ (∀ i, 10 * e + j ≤ i → i < 10 * e + 10 → ∀ t, t < 8 → bt (pl' i) t = if i % 10 < 8 then bl (ek e) (56 - 8 * (i % 10) + t) else bt (ep e) (8 * (9 - i % 10) + t)) ∧ ∀ i, ¬ (10 * e + j ≤ i ∧ i < 10 * e + 10) → pl' i = pl i := by
  intro n
  induction n with
  | zero => intro c j pl x hx hj hc; omega
  | succ n ih =>
    intro c j pl x hx hj hc
    rw [fn_X9_putEntries_L41, hx, t_c8]
    cases c with
    | zero =>
      rw [if_pos (nI_le (by omega) (by omega)), nI_1, t_10 he (by decide), show (9 : Int32) = nI 9 from rfl, t_10 he (by decide), nI_clamp (by omega)]
      refine ⟨_, rfl, fun i h1 h2 t ht => ?_, fun i h => ?_⟩
      · by_cases a : i = 10 * e + 9
        · subst a
          rw [pk_us, b_narb _ ht, b_i2b _ (by omega), if_pos ht, if_neg (by omega)]
          congr 1; omega
        · rw [pk_un a, show i = 10 * e + 8 by omega, pk_us, b_narb _ ht, b_i2b _ (by omega), if_pos ht, if_neg (by omega), b_sshr 8 (by decide) _ (by omega), if_pos (by omega)]
          congr 1; omega
      · rw [pk_un (by omega), pk_un (by omega)]
    | succ c =>
      rw [if_neg (nI_ge (by omega) (by omega)), nI_1, t_10 he (by omega), pk_mul, show (56 : Int32) = nI 56 from rfl, pk_sub (by omega), nI_clamp (by omega)]
      obtain ⟨pl', e1, e2, e3⟩ := ih c (j + 1) (upd pl (10 * e + j) (vp_nar .byte ((ju_lushr (ek e) (nI (56 - 8 * j))).toInt32.toInt8.toInt32))) _ rfl (by omega) (by omega)
      refine ⟨pl', e1, fun i h1 h2 t ht => ?_, fun i h => ?_⟩
      · by_cases a : i = 10 * e + j
        · subst a
          rw [e3 _ (by omega), pk_us, b_narb _ ht, b_i2b _ (by omega), if_pos ht, b_l2i _ (by omega), l_ushr _ (by omega), if_pos (by omega)]
          congr 1; omega
        · exact e2 i (by omega) h2 t ht
      · rw [e3 i (by omega), pk_un (by omega)]
theorem m_pe23 {ek : Nat → Int64} {ep : Nat → Int32} : ∀ (n c e : Nat) (pl : Nat → Int32) (x : Int32), x = nI e → e + c = 4 → c < n → (∀ i, i < 51 → ∀ t, t < 8 → bt (pl i) t = if i < 10 * e then nodeB ek ep i t else false) → ∀ i, i < 51 → ∀ t, t < 8 → bt (fn_X9_putEntries_L23 n ek ep pl x i) t = nodeB ek ep i t := by
  intro n
  induction n with
  | zero => intro c e pl x hx he hc; omega
  | succ n ih =>
    intro c e pl x hx he hc h i hi t ht
    rw [fn_X9_putEntries_L23, hx, show (4 : Int32) = nI 4 from rfl]
    cases c with
    | zero =>
      rw [if_pos (nI_le (a := 4) (by omega) (by omega)), h i hi t ht]
      split
      · rfl
      · unfold nodeB
        rw [if_pos (by omega)]
    | succ c =>
      rw [if_neg (nI_ge (b := 4) (by omega) (by omega)), nI_clamp (by omega)]
      by_cases hz : ek e = 0
      · rw [if_pos (lgc0.mpr hz)]
        refine ih c (e + 1) pl _ (nI_1 e) (by omega) (by omega) (fun i hi t ht => ?_) i hi t ht
        rw [h i hi t ht]
        by_cases a : i < 10 * e
        · rw [if_pos a, if_pos (by omega)]
        · rw [if_neg a]
          split
          · unfold nodeB
            rw [if_neg (by omega), show i / 10 = e by omega, if_pos hz]
          · rfl
      · rw [if_neg (mt lgc0.mp hz)]
        obtain ⟨pl', e1, e2, e3⟩ := m_pe41 (ek := ek) (ep := ep) (e := e) (by omega) (K := fn_X9_putEntries_L23 n) 9 8 0 pl 0 rfl (by decide) (by decide)
        rw [e1]
        refine ih c (e + 1) pl' _ rfl (by omega) (by omega) (fun i hi t ht => ?_) i hi t ht
        by_cases a : 10 * e + 0 ≤ i ∧ i < 10 * e + 10
        · rw [e2 i a.1 a.2 t ht, if_pos (show i < 10 * (e + 1) by omega)]
          unfold nodeB
          rw [if_neg (show ¬ 40 ≤ i by omega), show i / 10 = e by omega, if_neg hz]
        · rw [e3 i a, h i hi t ht]
          by_cases b : i < 10 * e
          · rw [if_pos b, if_pos (by omega)]
          · rw [if_neg b, if_neg (by omega)]
theorem m_pe2 {ek : Nat → Int64} {ep : Nat → Int32} : ∀ (n c j : Nat) (pl : Nat → Int32) (x : Int32), x = nI j → j + c = 51 → c < n → (∀ i, i < j → pl i = 0) → ∃ pl' : Nat → Int32, fn_X9_putEntries_L2 n ek ep pl x = fn_X9_putEntries_L23 5 ek ep pl' 0 ∧ ∀ i, i < 51 → pl' i = 0 := by
  intro n
  induction n with
  | zero => intro c j pl x hx hj hc; omega
  | succ n ih =>
    intro c j pl x hx hj hc h
    rw [fn_X9_putEntries_L2, hx, show (51 : Int32) = nI 51 from rfl]
    cases c with
    | zero =>
      rw [if_pos (nI_le (by omega) (by omega))]
      exact ⟨pl, rfl, fun i hi => h i (by omega)⟩
    | succ c =>
      rw [if_neg (nI_ge (by omega) (by omega)), nI_clamp (by omega), nI_1]
      refine ih c (j + 1) _ _ rfl (by omega) (by omega) (fun i hi => ?_)
      by_cases a : i = j
      · subst a; rw [pk_us]; rfl
      · rw [pk_un a]; exact h i (by omega)
theorem m_putEntries (ek : Nat → Int64) (ep pl : Nat → Int32) : ∀ i, i < 51 → ∀ t, t < 8 → bt (fn_X9_putEntries ek ep pl i) t = nodeB ek ep i t := by
  unfold fn_X9_putEntries
  obtain ⟨pl', e1, e2⟩ := m_pe2 (ek := ek) (ep := ep) 52 51 0 pl 0 rfl (by decide) (by decide) (fun i hi => by omega)
  rw [e1]
  refine m_pe23 5 4 0 pl' 0 rfl (by decide) (by decide) (fun i hi t ht => ?_)
  rw [e2 i hi, b_0, if_neg (by omega)]
/-- a node's entries read back -/
theorem nodeB_key {ck : Nat → Int64} {cp b : Nat → Int32} (h : ∀ i, i < 51 → ∀ t, t < 8 → bt (b i) t = nodeB ck cp i t) {e : Nat} (he : e < 4) : sKey b e = ck e := by
  unfold sKey
  apply l_ext
  intro t ht
  rw [foldB_bit _ _ _ _ ht, if_pos (by omega), h _ (by omega) _ (by omega)]
  unfold nodeB
  rw [if_neg (by omega), show (10 * e + (8 - 1 - t / 8)) / 10 = e by omega, show (10 * e + (8 - 1 - t / 8)) % 10 = 7 - t / 8 by omega]
  by_cases hz : ck e = 0
  · rw [if_pos hz, hz, l_0]
  · rw [if_neg hz, if_pos (by omega)]
    congr 1; omega
theorem nodeB_page {ck : Nat → Int64} {cp b : Nat → Int32} (h : ∀ i, i < 51 → ∀ t, t < 8 → bt (b i) t = nodeB ck cp i t) {e q : Nat} (he : e < 4) (hq : cp e = nI q) (hq2 : q < 65536) (hz : ¬ ck e = 0) : sPage b (10 * e + 8) = nI q := by
  unfold sPage
  apply b_ext
  intro t ht
  rw [b_or, t_c8, b_shl 8 (by decide) _ ht, b_and, b_and, b_255, b_255, ← hq]
  rcases Nat.lt_or_ge t 8 with a | a
  · rw [decide_eq_false (show ¬ 8 ≤ t by omega), Bool.false_and, Bool.false_or, decide_eq_true a, Bool.and_true, h _ (by omega) _ a]
    unfold nodeB
    rw [if_neg (by omega), show (10 * e + 8 + 1) / 10 = e by omega, show (10 * e + 8 + 1) % 10 = 9 by omega, if_neg hz, if_neg (by omega)]
    congr 1; omega
  · rw [decide_eq_true a, Bool.true_and, decide_eq_false (show ¬ t < 8 by omega), Bool.and_false, Bool.or_false]
    rcases Nat.lt_or_ge t 16 with b16 | b16
    · rw [decide_eq_true (show t - 8 < 8 by omega), Bool.and_true, h _ (by omega) _ (by omega)]
      unfold nodeB
      rw [if_neg (by omega), show (10 * e + 8) / 10 = e by omega, show (10 * e + 8) % 10 = 8 by omega, if_neg hz, if_neg (by omega)]
      congr 1; omega
    · rw [decide_eq_false (show ¬ t - 8 < 8 by omega), Bool.and_false, hq]
      unfold bt nI
      show false = (BitVec.ofNat 32 q).getLsbD t
      rw [BitVec.getLsbD_ofNat, Nat.testBit_lt_two_pow (Nat.lt_of_lt_of_le hq2 (Nat.pow_le_pow_right (n := 2) (by decide) b16)), Bool.and_false]
theorem nodeB_page0 {ck : Nat → Int64} {cp b : Nat → Int32} (h : ∀ i, i < 51 → ∀ t, t < 8 → bt (b i) t = nodeB ck cp i t) {e : Nat} (he : e < 4) (hz : ck e = 0) : sPage b (10 * e + 8) = 0 := by
  unfold sPage
  apply b_ext
  intro t ht
  rw [b_or, t_c8, b_shl 8 (by decide) _ ht, b_and, b_and, b_255, b_255, b_0]
  have z : ∀ r t, r < 2 → t < 8 → bt (b (10 * e + 8 + r)) t = false := by
    intro r t hr ht
    rw [h _ (by omega) _ ht]
    unfold nodeB
    rw [if_neg (by omega), show (10 * e + 8 + r) / 10 = e by omega, if_pos hz]
  rcases Nat.lt_or_ge t 8 with a | a
  · rw [z 1 t (by decide) a]; simp [show ¬ 8 ≤ t by omega]
  · rcases Nat.lt_or_ge t 16 with b16 | b16
    · have := z 0 (t - 8) (by decide) (by omega)
      rw [Nat.add_zero] at this
      rw [this]; simp [show ¬ t < 8 by omega]
    · simp [show ¬ t < 8 by omega, show ¬ t - 8 < 8 by omega]
