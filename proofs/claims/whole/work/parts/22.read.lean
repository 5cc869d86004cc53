/-! reading: numbers out of bytes; pages read by the class and by the reference -/
theorem t_c8 : (8 : Int32) = nI 8 := rfl
theorem t_clq {i : Nat} (hi : i < 2147483648) : (nI i / 8 : Int32).toNatClampNeg = i / 8 := by
  rw [t_c8, pk_div (by omega) (by decide) (by decide), nI_clamp (by omega)]
theorem t_rem8 {i : Nat} (hi : i < 2147483648) : (8 * (nI i - nI i / 8 * 8) : Int32) = nI (8 * (i % 8)) := by
  rw [t_c8, pk_rem (by omega) (by decide) (by decide), pk_mul]
/-- c bytes from i on, the highest first, behind v -/
def foldB (b : Nat → Int32) : Nat → Nat → Int64 → Int64
  | _, 0, v => v
  | i, c + 1, v => foldB b (i + 1) c ((ju_lshl v 8) ||| (b i &&& 255).toInt64)
theorem l_byte (x : Int32) {t : Nat} (ht : t < 64) : bl (x &&& 255).toInt64 t = (decide (t < 8) && bt x t) := by
  rw [l_i2l _ ht]
  rcases Nat.lt_or_ge t 8 with h | h
  · rw [if_pos (by omega), b_and, b_255, decide_eq_true h, Bool.and_true, Bool.true_and]
  · rw [decide_eq_false (by omega), Bool.false_and]
    split
    · rw [b_and, b_255, decide_eq_false (by omega), Bool.and_false]
    · rw [b_and, b_255, decide_eq_false (by omega), Bool.and_false]
theorem foldB_bit {b : Nat → Int32} : ∀ (c i : Nat) (v : Int64) (t : Nat), t < 64 → bl (foldB b i c v) t = if t < 8 * c then bt (b (i + (c - 1 - t / 8))) (t % 8) else bl v (t - 8 * c) := by
  intro c
  induction c with
  | zero =>
    intro i v t ht
    rw [foldB, if_neg (by omega), Nat.mul_zero, Nat.sub_zero]
  | succ c ih =>
    intro i v t ht
    rw [foldB, ih _ _ _ ht]
    rcases Nat.lt_or_ge t (8 * c) with h | h
    · rw [if_pos h, if_pos (by omega), show i + 1 + (c - 1 - t / 8) = i + (c + 1 - 1 - t / 8) by omega]
    · rw [if_neg (by omega), l_or, l_byte _ (by omega), show (8 : Int32) = nI 8 from rfl, l_shl 8 (by decide) _ (by omega)]
      rcases Nat.lt_or_ge t (8 * (c + 1)) with h2 | h2
      · rw [if_pos h2, decide_eq_false (by omega), decide_eq_true (by omega), Bool.false_and, Bool.false_or, Bool.true_and, show i + (c + 1 - 1 - t / 8) = i by omega, show t % 8 = t - 8 * c by omega]
      · rw [if_neg (by omega), decide_eq_true (by omega), decide_eq_false (by omega), Bool.false_and, Bool.or_false, Bool.true_and, show t - 8 * (c + 1) = t - 8 * c - 8 by omega]
theorem c_number_L {w : Nat → Int64} {b : Nat → Int32} (h : BR 51 w b) : ∀ (n c i : Nat) (v1 v2 : Int32) (v : Int64) (x : Int32), c < n → i + c ≤ 51 → (v1 + v2) = nI (i + c) → x = nI i → fn_X0_number_L19 n w v1 v2 v x = foldB b i c v := by
  intro n
  induction n with
  | zero => intro c i v1 v2 v x hc; omega
  | succ n ih =>
    intro c i v1 v2 v x hc hi hv hx
    rw [fn_X0_number_L19, hv, hx]
    cases c with
    | zero =>
      rw [if_pos (nI_le (by omega) (by omega)), foldB]
    | succ c =>
      rw [if_neg (nI_ge (by omega) (by omega)), foldB, t_clq (by omega), t_rem8 (by omega), show (56 : Int32) = nI 56 from rfl, h.byte (by omega)]
      exact ih c (i + 1) v1 v2 _ _ (by omega) (by omega) (by rw [hv]; congr 1; omega) (nI_1 i)
theorem c_number {w : Nat → Int64} {b : Nat → Int32} (h : BR 51 w b) {i c : Nat} {x y : Int32} (hx : x = nI i) (hy : y = nI c) (hc : i + c ≤ 51) : fn_X0_number w x y = foldB b i c 0 := by
  unfold fn_X0_number
  rw [hx, hy, if_neg (nI_pos (by omega)), show (51 : Int32) = nI 51 from rfl, pk_sub (by omega), if_pos (nI_le (by omega) (by omega))]
  exact c_number_L h 60 c i _ _ 0 _ (by omega) hc (nI_add i c) rfl
theorem c_entryKey {w : Nat → Int64} {b : Nat → Int32} (h : BR 51 w b) {e : Nat} (he : e < 4) : fn_X0_entryKey w (nI e) = foldB b (10 * e) 8 0 := by
  unfold fn_X0_entryKey bnd1
  exact c_number h (by rw [show (10 : Int32) = nI 10 from rfl, pk_mul, Nat.mul_comm]) rfl (by omega)
theorem two_bytes (b : Nat → Int32) (j : Nat) : (foldB b j 2 0).toInt32 = ((b j &&& 255) <<< (8 &&& 31)) ||| (b (j + 1) &&& 255) := by
  apply b_ext
  intro t ht
  rw [b_l2i _ ht, foldB_bit _ _ _ _ (by omega), b_or, show (8 : Int32) = nI 8 from rfl, b_shl 8 (by decide) _ ht, b_and, b_and, b_255, b_255]
  rcases Nat.lt_or_ge t 8 with h | h
  · rw [if_pos (by omega), show j + (2 - 1 - t / 8) = j + 1 by omega, show t % 8 = t by omega]
    simp [h, show ¬ 8 ≤ t by omega]
  · rcases Nat.lt_or_ge t 16 with h2 | h2
    · rw [if_pos (by omega), show j + (2 - 1 - t / 8) = j by omega, show t % 8 = t - 8 by omega]
      simp [h, show ¬ t < 8 by omega, show t - 8 < 8 by omega]
    · rw [if_neg (by omega), l_0]
      simp [show ¬ t < 8 by omega, show ¬ t - 8 < 8 by omega]
theorem one_byte (b : Nat → Int32) (j : Nat) : (foldB b j 1 0).toInt32 = b j &&& 255 := by
  apply b_ext
  intro t ht
  rw [b_l2i _ ht, foldB_bit _ _ _ _ (by omega), b_and, b_255]
  rcases Nat.lt_or_ge t 8 with h | h
  · rw [if_pos (by omega), decide_eq_true (by omega), Bool.and_true, show j + (1 - 1 - t / 8) = j by omega, show t % 8 = t by omega]
  · rw [if_neg (by omega), l_0, decide_eq_false (by omega), Bool.and_false]
/-- what a page's plain bytes say: the key and the page of an entry, the next page, how many bytes -/
def sKey (b : Nat → Int32) (e : Nat) : Int64 := foldB b (10 * e) 8 0
def sPage (b : Nat → Int32) (j : Nat) : Int32 := ((b j &&& 255) <<< (8 &&& 31)) ||| (b (j + 1) &&& 255)
theorem c_entryPage {w : Nat → Int64} {b : Nat → Int32} (h : BR 51 w b) {e : Nat} (he : e < 4) : fn_X0_entryPage w (nI e) = sPage b (10 * e + 8) := by
  unfold fn_X0_entryPage bnd1
  show (fn_X0_number w ((nI e * 10) + 8) 2).toInt32 = _
  rw [c_number h (x := (nI e * 10) + 8) (y := 2) (i := 10 * e + 8) (c := 2) (by rw [show (10 : Int32) = nI 10 from rfl, pk_mul, t_c8, nI_add, Nat.mul_comm]) rfl (by omega)]
  exact two_bytes b _
theorem c_nextPage {w : Nat → Int64} {b : Nat → Int32} (h : BR 51 w b) : fn_X0_nextPage w = sPage b 0 := by
  unfold fn_X0_nextPage bnd1
  show (fn_X0_number w 0 2).toInt32 = _
  rw [c_number h (x := 0) (y := 2) (i := 0) (c := 2) rfl rfl (by omega)]
  exact two_bytes b _
theorem c_dataLength {w : Nat → Int64} {b : Nat → Int32} (h : BR 51 w b) : fn_X0_dataLength w = b 2 &&& 255 := by
  unfold fn_X0_dataLength bnd1
  show (fn_X0_number w 2 1).toInt32 = _
  rw [c_number h (x := 2) (y := 1) (i := 2) (c := 1) rfl rfl (by omega)]
  exact one_byte b _
theorem c_dataByte {w : Nat → Int64} {b : Nat → Int32} (h : BR 51 w b) {i : Nat} (hi : i < 48) : fn_X0_dataByte w (nI i) = b (3 + i) &&& 255 := by
  unfold fn_X0_dataByte bnd1
  show (fn_X0_number w (3 + nI i) 1).toInt32 = _
  rw [c_number h (x := 3 + nI i) (y := 1) (i := 3 + i) (c := 1) (by rw [show (3 : Int32) = nI 3 from rfl, nI_add]) rfl (by omega)]
  exact one_byte b _
/-! a page of the disk -/
theorem t_p8 {p k : Nat} (hp : p < 200) (hk : k < 9) : (((nI p * 8) + nI k : Int32)).toNatClampNeg = 8 * p + k := by
  rw [t_c8, pk_mul, nI_add, nI_clamp (by omega)]; omega
theorem t_p80 {p : Nat} (hp : p < 200) : ((nI p * 8 : Int32)).toNatClampNeg = 8 * p := by
  rw [t_c8, pk_mul, nI_clamp (by omega)]; omega
theorem m_byteAt {M : Nat → Int32} {p k : Nat} (hp : p < 200) (hk : k < 64) : fn_X9_byteAt M (nI p) (nI k) = M (64 * p + k) &&& 255 := by
  unfold fn_X9_byteAt
  rw [show (64 : Int32) = nI 64 from rfl, pk_mul, nI_add, nI_clamp (by omega)]
/-- kind, writing and tag of a page -/
def pKind (M : Nat → Int32) (p : Nat) : Int32 := M (64 * p) &&& 255
def pWrit (M : Nat → Int32) (p : Nat) : Int32 := fn_X9_writingOf M (nI p)
def pTag (M : Nat → Int32) (p : Nat) : Int64 := foldB M (64 * p + 5) 8 0
theorem m_kind {M : Nat → Int32} {p : Nat} (hp : p < 200) : fn_X9_byteAt M (nI p) 0 = pKind M p := m_byteAt (k := 0) hp (by decide)
theorem m_tag_L {M : Nat → Int32} {p : Nat} (hp : p < 200) : ∀ (n c k : Nat) (v : Int64) (x : Int32), x = nI k → k + c = 13 → c < n → fn_X9_tagOf_L5 n M (nI p) v x = foldB M (64 * p + k) c v := by
  intro n
  induction n with
  | zero => intro c k v x hx hk hc; omega
  | succ n ih =>
    intro c k v x hx hk hc
    rw [fn_X9_tagOf_L5, hx, show (12 : Int32) = nI 12 from rfl]
    cases c with
    | zero => rw [if_pos (nI_lt (by omega) (by omega)), foldB]
    | succ c =>
      rw [if_neg (nI_nlt (by omega) (by omega)), foldB]
      unfold bnd1
      rw [m_byteAt hp (by omega)]
      exact ih c (k + 1) _ _ (nI_1 k) (by omega) (by omega)
theorem m_tag {M : Nat → Int32} {p : Nat} (hp : p < 200) : fn_X9_tagOf M (nI p) = pTag M p := by
  unfold fn_X9_tagOf
  exact m_tag_L hp 14 8 5 0 _ rfl rfl (by decide)
theorem m_writ_s (n : Nat) (M : Nat → Int32) (v1 v2 v3 : Int32) (h : ¬ 4 < v3) : fn_X9_writingOf_L4 (n + 1) M v1 v2 v3 = fn_X9_writingOf_L4 n M v1 ((v2 <<< (8 &&& 31)) ||| fn_X9_byteAt M v1 v3) (v3 + 1) := by
  rw [fn_X9_writingOf_L4, if_neg h]; rfl
theorem m_writ_e (n : Nat) (M : Nat → Int32) (v1 v2 v3 : Int32) (h : 4 < v3) : fn_X9_writingOf_L4 (n + 1) M v1 v2 v3 = v2 := by
  rw [fn_X9_writingOf_L4, if_pos h]
theorem m_writ {M : Nat → Int32} {p : Nat} (hp : p < 200) {t : Nat} (ht : t < 32) : bt (pWrit M p) t = bt (M (64 * p + (4 - t / 8))) (t % 8) := by
  unfold pWrit fn_X9_writingOf
  rw [m_writ_s 5 _ _ _ _ (by decide), m_writ_s 4 _ _ _ _ (by decide), m_writ_s 3 _ _ _ _ (by decide), m_writ_s 2 _ _ _ _ (by decide), m_writ_e 1 _ _ _ _ (by decide)]
  rw [show (1 : Int32) = nI 1 from rfl, nI_add, nI_add, nI_add, m_byteAt hp (by decide), m_byteAt hp (by decide), m_byteAt hp (by decide), m_byteAt hp (by decide), show (8 : Int32) = nI 8 from rfl]
  simp only [b_or, b_and, b_255, b_0]
  rcases Nat.lt_or_ge t 8 with h | h
  · rw [b_shl 8 (by decide) _ ht]
    rw [show 4 - t / 8 = 4 by omega, show t % 8 = t by omega]
    simp [h, show ¬ 8 ≤ t by omega]
  · rw [b_shl 8 (by decide) _ ht, b_or, b_and, b_255]
    rcases Nat.lt_or_ge t 16 with h2 | h2
    · rw [b_shl 8 (by decide) _ (by omega)]
      rw [show 4 - t / 8 = 3 by omega, show t % 8 = t - 8 by omega]
      simp [h, show ¬ t < 8 by omega, show t - 8 < 8 by omega, show ¬ 8 ≤ t - 8 by omega]
    · rw [b_shl 8 (by decide) _ (by omega), b_or, b_and, b_255]
      rcases Nat.lt_or_ge t 24 with h3 | h3
      · rw [b_shl 8 (by decide) _ (by omega)]
        rw [show 4 - t / 8 = 2 by omega, show t % 8 = t - 8 - 8 by omega]
        simp [h, show ¬ t < 8 by omega, show ¬ t - 8 < 8 by omega, show 8 ≤ t - 8 by omega, show t - 8 - 8 < 8 by omega, show ¬ 8 ≤ t - 8 - 8 by omega]
      · rw [b_shl 8 (by decide) _ (by omega), b_or, b_and, b_255]
        rw [show 4 - t / 8 = 1 by omega, show t % 8 = t - 8 - 8 - 8 by omega]
        simp [h, show ¬ t < 8 by omega, show ¬ t - 8 < 8 by omega, show 8 ≤ t - 8 by omega, show ¬ t - 8 - 8 < 8 by omega, show 8 ≤ t - 8 - 8 by omega, show t - 8 - 8 - 8 < 8 by omega, b_shl 8 (by decide) _ (show t - 8 - 8 - 8 < 32 by omega), b_0]
theorem c_kind {W : Nat → Int64} {M : Nat → Int32} (h : BR 12800 W M) {p : Nat} (hp : p < 200) : fn_X1_kindOf W (nI p) = pKind M p := by
  unfold fn_X1_kindOf pKind
  rw [t_p80 hp]
  apply b_ext
  intro t ht
  rw [b_l2i _ ht, show (56 : Int32) = nI 56 from rfl, l_ushr 56 (by decide), b_and, b_255]
  rcases Nat.lt_or_ge t 8 with h8 | h8
  · have q := h (64 * p) (by omega) t h8
    rw [show 64 * p / 8 = 8 * p by omega, show 56 - 8 * (64 * p % 8) + t = 56 + t by omega] at q
    rw [q, decide_eq_true h8, Bool.and_true]
  · rw [l_big (by omega), decide_eq_false (by omega), Bool.and_false]
theorem c_writ {W : Nat → Int64} {M : Nat → Int32} (h : BR 12800 W M) {p : Nat} (hp : p < 200) (hw : bt (pWrit M p) 31 = false) : fn_X1_writingOf W (nI p) = (pWrit M p).toInt64 := by
  unfold fn_X1_writingOf
  rw [t_p80 hp]
  apply l_ext
  intro t ht
  rw [l_and, l_m32, show (24 : Int32) = nI 24 from rfl, l_ushr 24 (by decide), l_i2l _ ht]
  rcases Nat.lt_or_ge t 32 with h8 | h8
  · rw [if_pos h8, m_writ hp h8, decide_eq_true h8, Bool.and_true]
    have q := h (64 * p + (4 - t / 8)) (by omega) (t % 8) (by omega)
    rw [← q]
    congr 1
    · congr 1; omega
    · omega
  · rw [if_neg (by omega), hw, decide_eq_false (by omega), Bool.and_false]
theorem c_wbh {W : Nat → Int64} {M : Nat → Int32} (h : BR 12800 W M) {p k r t : Nat} (hp : p < 200) (hk : k < 8) (hr : r < 8) (hi : 8 * k + 5 + r < 64) (ht : t < 8) : bl (fn_X1_wordBehindHead W (nI p) (nI k)) (56 - 8 * r + t) = bt (M (64 * p + (8 * k + 5 + r))) t := by
  have q := h (64 * p + (8 * k + 5 + r)) (by omega) t ht
  rw [← q]
  unfold fn_X1_wordBehindHead
  rw [nI_1, t_p8 hp (by omega), show ((nI p * 8) + nI k + 1 : Int32).toNatClampNeg = 8 * p + k + 1 by rw [t_c8, pk_mul, nI_add, nI_1, nI_clamp (by omega)]; omega, t_c8, show (40 : Int32) = nI 40 from rfl, show (24 : Int32) = nI 24 from rfl]
  rcases Nat.lt_or_ge r 3 with h3 | h3
  · have e : bl (ju_lshl (W (8 * p + k)) (nI 40)) (56 - 8 * r + t) = bl (W ((64 * p + (8 * k + 5 + r)) / 8)) (56 - 8 * ((64 * p + (8 * k + 5 + r)) % 8) + t) := by
      rw [l_shl 40 (by decide) _ (by omega), decide_eq_true (by omega), Bool.true_and]
      congr 1
      · congr 1; omega
      · omega
    split
    · exact e
    · rw [l_or, e, l_ushr 24 (by decide), l_big (i := 24 + (56 - 8 * r + t)) (by omega), Bool.or_false]
  · rw [if_neg (nI_ge (by omega) (by omega)), l_or, l_shl 40 (by decide) _ (by omega), decide_eq_false (by omega), Bool.false_and, Bool.false_or, l_ushr 24 (by decide)]
    congr 1
    · congr 1; omega
    · omega
theorem c_tag {W : Nat → Int64} {M : Nat → Int32} (h : BR 12800 W M) {p : Nat} (hp : p < 200) : fn_X1_wordBehindHead W (nI p) 0 = pTag M p := by
  apply l_ext
  intro t ht
  have q := c_wbh h (k := 0) (r := 7 - t / 8) (t := t % 8) hp (by decide) (by omega) (by omega) (by omega)
  rw [show 56 - 8 * (7 - t / 8) + t % 8 = t by omega] at q
  unfold pTag
  rw [foldB_bit _ _ _ _ ht, if_pos (by omega)]
  exact q.trans (by congr 2; omega)
