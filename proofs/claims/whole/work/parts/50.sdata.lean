/-! data pages on both sides -/
theorem nI_sub {a b : Nat} (h : b ≤ a) : nI a - nI b = nI (a - b) := by
  have e : nI a = nI (a - b) + nI b := by rw [nI_add, Nat.sub_add_cancel h]
  rw [e, Int32.add_sub_cancel]
def dataB (next : Int32) (m : Nat) (tb : Nat → Int32) (f j t : Nat) : Bool := if j < 2 then bt next (8 * (1 - j) + t) else if j = 2 then bt (nI m) t else if j < 3 + m then bt (tb (f + (j - 3))) t else false
theorem c_sd23 {next : Int32} {m f tl : Nat} {tb : Nat → Int32} {v3 v4 : Int32} (h3 : v3 = nI f) (h4 : v4 = nI m) (hm : m ≤ 48) (hf : f + m ≤ tl) (htl : tl ≤ 96) : ∀ (n c i : Nat) (w : Nat → Int64) (x : Int32), x = nI i → i + c = m → c < n → (∀ j, j < 51 → ∀ t, t < 8 → bb w j t = if j < 3 + i then dataB next m tb f j t else false) → ∀ j, j < 51 → ∀ t, t < 8 → bb (fn_X0_setData_L23 n w (nI tl) tb v3 v4 x) j t = dataB next m tb f j t := by
  intro n
  induction n with
  | zero => intro c i w x hx hj hc; omega
  | succ n ih =>
    intro c i w x hx hj hc hI
    rw [fn_X0_setData_L23]
    cases c with
    | zero =>
      rw [if_pos (by rw [hx, h4]; exact nI_le (by omega) (by omega))]
      intro j h1 t ht
      rw [hI j h1 t ht]
      have e : i = m := by omega
      subst e
      by_cases a : j < 3 + i
      · rw [if_pos a]
      · rw [if_neg a]
        unfold dataB
        rw [if_neg (by omega), if_neg (by omega), if_neg a]
    | succ c =>
      have eb : fn_X5_byteAt (nI tl) tb (v3 + x) = tb (f + i) &&& 255 := by
        unfold fn_X5_byteAt
        rw [h3, hx, nI_add, if_neg (nI_pos (by omega)), if_pos (nI_lt (by omega) (by omega)), nI_clamp (by omega)]
      rw [if_neg (by rw [hx, h4]; exact nI_ge (by omega) (by omega)), bnd1, bnd1, eb]
      refine ih c (i + 1) _ _ (by rw [hx]; exact nI_1 i) (by omega) (by omega) (fun j h1 t ht => ?_)
      rw [c_setByte (i := 3 + i) (by rw [hx, show (3 : Int32) = nI 3 from rfl, nI_add]) (by omega) j (by omega) t ht]
      by_cases a : j = 3 + i
      · subst a
        rw [if_pos rfl, if_pos (by omega), l_byte _ (by omega), decide_eq_true ht, Bool.true_and]
        unfold dataB
        rw [if_neg (by omega), if_neg (by omega), if_pos (by omega), show f + (3 + i - 3) = f + i by omega]
      · rw [if_neg a, hI j h1 t ht]
        by_cases b : j < 3 + i
        · rw [if_pos b, if_pos (by omega)]
        · rw [if_neg b, if_neg (by omega)]
theorem c_setData {next : Int32} {m f tl : Nat} {tb : Nat → Int32} {v3 v4 : Int32} (h3 : v3 = nI f) (h4 : v4 = nI m) (hm : m ≤ 48) (hf : f + m ≤ tl) (htl : tl ≤ 96) (w : Nat → Int64) : ∀ j, j < 51 → ∀ t, t < 8 → bb (fn_X0_setData w (nI tl) tb next v3 v4) j t = dataB next m tb f j t := by
  unfold fn_X0_setData
  rw [bnd1, bnd1, bnd1]
  refine c_sd23 h3 h4 hm hf htl 97 m 0 _ 0 rfl (by omega) (by omega) (fun j hj t ht => ?_)
  rw [c_setByte (x := 2) (i := 2) rfl (by decide) j (by omega) t ht, c_setNumber (v1 := 0) (v2 := 2) (i := 0) (m := 2) rfl rfl (by decide) (by decide) j (by omega) t ht, c_clear _ (by omega), h4]
  unfold dataB
  by_cases a : j = 2
  · subst a
    rw [if_pos rfl, if_pos (by omega), if_neg (by omega), if_pos rfl, l_i2l _ (by omega), if_pos (by omega)]
  · rw [if_neg a]
    by_cases b : j < 2
    · rw [if_pos (by omega), if_pos (by omega), if_pos b, l_i2l _ (by omega), if_pos (by omega), show 8 * (0 + 2 - 1 - j) = 8 * (1 - j) by omega]
    · rw [if_neg (by omega), if_neg (by omega)]
section SD
variable {K97 : Int64 → Int32 → Int32 → Int32 → Int32 → Int32 → Int32 → Int32 → Int32 → (Nat → Int32) → (Nat → Int64) → (Nat → Int32) → (Nat → Int32) → (Nat → Int32) → (Nat → Int64) → (Nat → Int32) → (Nat → Int64) → (Nat → Int32) → (Nat → Int32) → Int32 → Int32 → Int64 → Int32 → Int32 → (Int32 × Int64 × Int32 × Int32 × Int32 × Int32 × Int32 × Int32 × Int32 × Int32 × (Nat → Int32) × (Nat → Int64) × (Nat → Int32) × (Nat → Int32) × (Nat → Int32) × (Nat → Int64) × (Nat → Int64) × (Nat → Int32) × (Nat → Int32))}
variable {ck : Int64} {cp on ar ro ta lm wh st : Int32} {M : Nat → Int32} {ek : Nat → Int64} {ep us : Nat → Int32} {row : Nat → Int64} {tb : Nat → Int32} {wk : Nat → Int64} {wp wr : Nat → Int32} {v1 v2 : Int32} {key : Int64} {next : Int32}
theorem m_sd131 {m j : Nat} {v7 v8 : Int32} (h7 : v7 = nI j) (h8 : v8 = nI m) (hm : m ≤ 48) (hj : j ≤ 1) : ∀ (n c i : Nat) (pl : Nat → Int32) (x : Int32), x = nI i → i + c = 51 → c < n → (∀ a, 3 ≤ a → a < i → ∀ t, t < 8 → bt (pl a) t = dataB next m tb (48 * j) a t) → ∃ pl' : Nat → Int32, fn_X9_put_L131 n K97 ck cp on ar ro ta lm wh st M ek ep us pl row tb wk wp wr v1 v2 key next v7 v8 x = fn_X9_put_L131 1 K97 ck cp on ar ro ta lm wh st M ek ep us pl' row tb wk wp wr v1 v2 key next v7 v8 51 ∧ ∀ a, 3 ≤ a → a < 51 → ∀ t, t < 8 → bt (pl' a) t = dataB next m tb (48 * j) a t := by
  intro n
  induction n with
  | zero => intro c i pl x hx hi hc; omega
  | succ n ih =>
    intro c i pl x hx hi hc hI
    cases c with
    | zero =>
      have e : x = 51 := by rw [hx, show i = 51 by omega]; rfl
      subst e
      refine ⟨pl, ?_, fun a h1 h2 => hI a h1 (by omega)⟩
      rw [fn_X9_put_L131, fn_X9_put_L131, if_pos (by decide), if_pos (by decide)]
    | succ c =>
      have nar0 : ∀ t, t < 8 → bt (vp_nar .byte 0) t = false := fun t ht => by rw [b_narb _ ht, b_0]
      have zs : (∀ t, t < 8 → 3 ≤ i → dataB next m tb (48 * j) i t = false) → ∀ a, 3 ≤ a → a < i + 1 → ∀ t, t < 8 → bt (upd pl i (vp_nar .byte 0) a) t = dataB next m tb (48 * j) a t := by
        intro z a h1 h2 t ht
        by_cases e : a = i
        · subst e; rw [pk_us, nar0 t ht, z t ht h1]
        · rw [pk_un e]; exact hI a h1 (by omega) t ht
      rw [fn_X9_put_L131, if_neg (by rw [hx]; exact nI_ge (b := 51) (by omega) (by omega)), hx, nI_1, nI_clamp (by omega)]
      by_cases a3 : i < 3
      · rw [if_pos (show nI i < 3 from nI_lt (b := 3) a3 (by omega))]
        exact ih c (i + 1) _ _ rfl (by omega) (by omega) (zs (fun t ht h => by omega))
      · rw [if_neg (show ¬ nI i < 3 from nI_nlt (b := 3) (by omega) (by omega)), show nI i - 3 = nI (i - 3) from nI_sub (b := 3) (by omega), h8]
        by_cases am : m ≤ i - 3
        · rw [if_pos (nI_le am (by omega))]
          obtain ⟨p', e1, e2⟩ := ih c (i + 1) _ _ rfl (by omega) (by omega) (zs (fun t ht h => by unfold dataB; rw [if_neg (by omega), if_neg (by omega), if_neg (by omega)]))
          exact ⟨p', by rw [← h8]; exact (by rw [h8] at e1; rw [h8]; exact e1), e2⟩
        · rw [if_neg (nI_ge (by omega) (by omega)), h7, show (48 * nI j : Int32) = nI (48 * j) from pk_mul 48 j, nI_add, show nI (48 * j + i) - 3 = nI (48 * j + i - 3) from nI_sub (b := 3) (by omega), nI_clamp (by omega)]
          obtain ⟨p', e1, e2⟩ := ih c (i + 1) (upd pl i (vp_nar .byte (tb (48 * j + i - 3)))) _ rfl (by omega) (by omega) (fun a h1 h2 t ht => by
            by_cases e : a = i
            · subst e
              rw [pk_us, b_narb _ ht]
              unfold dataB
              rw [if_neg (by omega), if_neg (by omega), if_pos (by omega), show 48 * j + (a - 3) = 48 * j + a - 3 by omega]
            · rw [pk_un e]; exact hI a h1 (by omega) t ht)
          exact ⟨p', by rw [h7, h8] at e1; exact e1, e2⟩
end SD
/-- the head of a data page -/
theorem dataB_head {next : Int32} {m f : Nat} {tb pl : Nat → Int32} {v8 : Int32} (h8 : v8 = nI m) (h : ∀ a, 3 ≤ a → a < 51 → ∀ t, t < 8 → bt (pl a) t = dataB next m tb f a t) : ∀ a, a < 51 → ∀ t, t < 8 → bt (upd (upd (upd pl (0 : Int32).toNatClampNeg (vp_nar .byte (((next >>> (8 &&& 31)) : Int32).toInt8.toInt32))) (1 : Int32).toNatClampNeg (vp_nar .byte ((next : Int32).toInt8.toInt32))) (2 : Int32).toNatClampNeg (vp_nar .byte ((v8 : Int32).toInt8.toInt32)) a) t = dataB next m tb f a t := by
  intro a ha t ht
  show bt (upd (upd (upd pl 0 _) 1 _) 2 _ a) t = _
  by_cases e2 : a = 2
  · subst e2
    rw [pk_us, b_narb _ ht, b_i2b _ (by omega), if_pos ht, h8]
    unfold dataB
    rw [if_neg (by decide), if_pos rfl]
  · rw [pk_un e2]
    by_cases e1 : a = 1
    · subst e1
      rw [pk_us, b_narb _ ht, b_i2b _ (by omega), if_pos ht]
      unfold dataB
      rw [if_pos (by decide), show 8 * (1 - 1) + t = t by omega]
    · rw [pk_un e1]
      by_cases e0 : a = 0
      · subst e0
        rw [pk_us, b_narb _ ht, b_i2b _ (by omega), if_pos ht, t_c8, b_sshr 8 (by decide) _ (by omega), if_pos (by omega)]
        unfold dataB
        rw [if_pos (by decide)]
      · rw [pk_un e0]; exact h a (by omega) ha t ht
theorem bt_255 {x y : Int32} (h : x &&& 255 = y &&& 255) {t : Nat} (ht : t < 8) : bt x t = bt y t := by
  have := congrArg (fun z => bt z t) h
  simp only [b_and, b_255, decide_eq_true ht, Bool.and_true] at this
  exact this
theorem and_255 {x : Int32} {m : Nat} (hm : m < 256) (h : ∀ t, t < 8 → bt x t = bt (nI m) t) : x &&& 255 = nI m := by
  apply b_ext
  intro t ht
  rw [b_and, b_255]
  rcases Nat.lt_or_ge t 8 with a | a
  · rw [decide_eq_true a, Bool.and_true, h t a]
  · rw [decide_eq_false (by omega), Bool.and_false]
    unfold bt nI
    show false = (BitVec.ofNat 32 m).getLsbD t
    rw [BitVec.getLsbD_ofNat, Nat.testBit_lt_two_pow (Nat.lt_of_lt_of_le hm (Nat.pow_le_pow_right (n := 2) (i := 8) (by decide) a)), Bool.and_false]
theorem two_sP {b : Nat → Int32} {j a : Nat} (ha : a < 65536) (h0 : ∀ t, t < 8 → bt (b j) t = bt (nI a) (8 + t)) (h1 : ∀ t, t < 8 → bt (b (j + 1)) t = bt (nI a) t) : sPage b j = nI a := by
  unfold sPage
  apply b_ext
  intro t ht
  rw [b_or, t_c8, b_shl 8 (by decide) _ ht, b_and, b_and, b_255, b_255]
  rcases Nat.lt_or_ge t 8 with c | c
  · rw [decide_eq_false (show ¬ 8 ≤ t by omega), Bool.false_and, Bool.false_or, decide_eq_true c, Bool.and_true, h1 t c]
  · rw [decide_eq_true c, Bool.true_and, decide_eq_false (show ¬ t < 8 by omega), Bool.and_false, Bool.or_false]
    rcases Nat.lt_or_ge t 16 with b16 | b16
    · rw [decide_eq_true (show t - 8 < 8 by omega), Bool.and_true, h0 _ (by omega), show 8 + (t - 8) = t by omega]
    · rw [decide_eq_false (show ¬ t - 8 < 8 by omega), Bool.and_false]
      unfold bt nI
      show false = (BitVec.ofNat 32 a).getLsbD t
      rw [BitVec.getLsbD_ofNat, Nat.testBit_lt_two_pow (Nat.lt_of_lt_of_le ha (Nat.pow_le_pow_right (n := 2) (i := 16) (by decide) b16)), Bool.and_false]
/-- a new data page says what was laid out -/
theorem data_new {M' pl tb : Nat → Int32} {k : Int64} {q m f a : Nat} (hq : q < 200) (hm : m ≤ 48) (ha : a < 65536) (h1 : pKind M' q = 2) (h2 : tagOK M' k q) (h3 : ∀ i, i < 51 → sPl M' k q i &&& 255 = pl i &&& 255) (h4 : ∀ i, i < 51 → ∀ t, t < 8 → bt (pl i) t = dataB (nI a) m tb f i t) : dataAt M' k q ∧ sPage (sPl M' k q) 0 = nI a := by
  have hb : ∀ i, i < 51 → ∀ t, t < 8 → bt (sPl M' k q i) t = dataB (nI a) m tb f i t := fun i hi t ht => (bt_255 (h3 i hi) ht).trans (h4 i hi t ht)
  refine ⟨⟨hq, h1, h2, ?_⟩, two_sP ha (fun t ht => ?_) (fun t ht => ?_)⟩
  · rw [and_255 (m := m) (by omega) (fun t ht => by rw [hb 2 (by decide) t ht]; unfold dataB; rw [if_neg (by decide), if_pos rfl]), nI_toInt (by omega)]; omega
  · rw [hb 0 (by decide) t ht]; unfold dataB; rw [if_pos (by decide)]
  · rw [hb (0 + 1) (by decide) t ht]; unfold dataB; rw [if_pos (by decide), show 8 * (1 - (0 + 1)) + t = t by omega]
