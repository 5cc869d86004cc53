/-! a page being written, by the reference -/
/-- bit t of byte i of a page of kind kd under key k at writing w that says pl -/
def pgB (kd : Int32) (k : Int64) (w : Int32) (pl : Nat → Int32) (i t : Nat) : Bool :=
  if i = 0 then bt kd t else if i < 5 then bt w (8 * (4 - i) + t) else if i < 13 then bl (fn_X9_pad k w.toInt64 100) (56 - 8 * (i - 5) + t)
  else (bt (pl (i - 13)) t ^^ bl (fn_X9_pad k w.toInt64 (nI ((i - 13) / 8)).toInt64) (56 - 8 * ((i - 13) % 8) + t))
theorem t_ck {k j : Nat} (h : k + j < 2147483648) : (nI k + nI j : Int32).toNatClampNeg = k + j := by rw [nI_add, nI_clamp (by omega)]
section WRM
variable {on ar ro ta la wh st : Int32} {M us pl : Nat → Int32} {k : Int64} {pg w : Int32}
theorem m_w191 : ∀ (n c j : Nat) (wr : Nat → Int32) (x : Int32), x = nI j → j + c = 51 → c < n → ∃ wr' : Nat → Int32, fn_X9_write_L191 n on ar ro ta la wh st M us pl wr k pg w x = fn_X9_write_L266 6 on ar ro ta pg wh st M (upd us (pg : Int32).toNatClampNeg (vp_nar .boolean 1)) pl wr' pg 3 ∧ (∀ i, i < 13 + j → wr' i = wr i) ∧ ∀ i, 13 + j ≤ i → i < 64 → ∀ t, t < 8 → ∀ kd, bt (wr' i) t = pgB kd k w pl i t := by
  intro n
  induction n with
  | zero => intro c j wr x hx hj hc; omega
  | succ n ih =>
    intro c j wr x hx hj hc
    rw [fn_X9_write_L191, hx, show (51 : Int32) = nI 51 from rfl]
    cases c with
    | zero =>
      rw [if_pos (nI_le (by omega) (by omega))]
      exact ⟨wr, rfl, fun _ _ => rfl, fun i h1 h2 => by omega⟩
    | succ c =>
      rw [if_neg (nI_ge (by omega) (by omega)), bnd1, nI_1, t_sh (by omega), show (13 : Int32) = nI 13 from rfl, t_ck (by omega), nI_clamp (by omega), t_c8, pk_div (by omega) (by decide) (by decide)]
      obtain ⟨wr', e1, e2, e3⟩ := ih c (j + 1) (upd wr (13 + j) (vp_nar .byte (((pl j) ^^^ (ju_lushr (fn_X9_pad k w.toInt64 (nI (j / 8)).toInt64) (nI (56 - 8 * (j % 8)))).toInt32).toInt8.toInt32))) _ rfl (by omega) (by omega)
      refine ⟨wr', e1, fun i hi => ?_, fun i h1 h2 t ht kd => ?_⟩
      · rw [e2 i (by omega), pk_un (by omega)]
      · by_cases h : i = 13 + j
        · subst h
          rw [e2 _ (by omega), pk_us, b_narb _ ht, b_i2b _ (by omega), if_pos ht, b_xor, b_l2i _ (by omega), l_ushr _ (by omega)]
          unfold pgB
          rw [if_neg (by omega), if_neg (by omega), if_neg (by omega), show 13 + j - 13 = j by omega]
        · exact e3 i (by omega) h2 t ht kd
theorem m_w153 {tag : Int64} (htag : tag = fn_X9_pad k w.toInt64 100) : ∀ (n c j : Nat) (wr : Nat → Int32) (x : Int32), x = nI j → j + c = 8 → c < n → ∃ wr' : Nat → Int32, fn_X9_write_L153 n on ar ro ta la wh st M us pl wr k pg w tag x = fn_X9_write_L191 52 on ar ro ta la wh st M us pl wr' k pg w 0 ∧ (∀ i, i < 5 + j → wr' i = wr i) ∧ ∀ i, 5 + j ≤ i → i < 13 → ∀ t, t < 8 → ∀ kd, bt (wr' i) t = pgB kd k w pl i t := by
  intro n
  induction n with
  | zero => intro c j wr x hx hj hc; omega
  | succ n ih =>
    intro c j wr x hx hj hc
    rw [fn_X9_write_L153, hx, t_c8]
    cases c with
    | zero =>
      rw [if_pos (nI_le (by omega) (by omega))]
      exact ⟨wr, rfl, fun _ _ => rfl, fun i h1 h2 => by omega⟩
    | succ c =>
      rw [if_neg (nI_ge (by omega) (by omega)), nI_1, pk_mul, show (56 : Int32) = nI 56 from rfl, pk_sub (by omega), show (5 : Int32) = nI 5 from rfl, t_ck (by omega)]
      obtain ⟨wr', e1, e2, e3⟩ := ih c (j + 1) (upd wr (5 + j) (vp_nar .byte ((ju_lushr tag (nI (56 - 8 * j))).toInt32.toInt8.toInt32))) _ rfl (by omega) (by omega)
      refine ⟨wr', e1, fun i hi => ?_, fun i h1 h2 t ht kd => ?_⟩
      · rw [e2 i (by omega), pk_un (by omega)]
      · by_cases h : i = 5 + j
        · subst h
          rw [e2 _ (by omega), pk_us, b_narb _ ht, b_i2b _ (by omega), if_pos ht, b_l2i _ (by omega), l_ushr _ (by omega), htag]
          unfold pgB
          rw [if_neg (by omega), if_neg (by omega), if_pos (by omega), show 5 + j - 5 = j by omega]
        · exact e3 i (by omega) h2 t ht kd
theorem m_w117 {tag : Int64} : ∀ (n c j : Nat) (wr : Nat → Int32) (x : Int32), x = nI j → j + c = 4 → c < n → ∃ wr' : Nat → Int32, fn_X9_write_L117 n on ar ro ta la wh st M us pl wr k pg w tag x = fn_X9_write_L153 9 on ar ro ta la wh st M us pl wr' k pg w tag 0 ∧ (∀ i, i < 1 + j → wr' i = wr i) ∧ ∀ i, 1 + j ≤ i → i < 5 → ∀ t, t < 8 → ∀ kd, bt (wr' i) t = pgB kd k w pl i t := by
  intro n
  induction n with
  | zero => intro c j wr x hx hj hc; omega
  | succ n ih =>
    intro c j wr x hx hj hc
    rw [fn_X9_write_L117, hx, show (4 : Int32) = nI 4 from rfl]
    cases c with
    | zero =>
      rw [if_pos (nI_le (by omega) (by omega))]
      exact ⟨wr, rfl, fun _ _ => rfl, fun i h1 h2 => by omega⟩
    | succ c =>
      rw [if_neg (nI_ge (by omega) (by omega)), show (1 : Int32) = nI 1 from rfl, t_ck (by omega), nI_add j 1, t_c8, pk_mul, show (24 : Int32) = nI 24 from rfl, pk_sub (by omega)]
      obtain ⟨wr', e1, e2, e3⟩ := ih c (j + 1) (upd wr (1 + j) (vp_nar .byte ((w >>> (nI (24 - 8 * j) &&& 31)).toInt8.toInt32))) _ rfl (by omega) (by omega)
      refine ⟨wr', e1, fun i hi => ?_, fun i h1 h2 t ht kd => ?_⟩
      · rw [e2 i (by omega), pk_un (by omega)]
      · by_cases h : i = 1 + j
        · subst h
          rw [e2 _ (by omega), pk_us, b_narb _ ht, b_i2b _ (by omega), if_pos ht, b_sshr _ (by omega) _ (by omega), if_pos (by omega)]
          unfold pgB
          rw [if_neg (by omega), if_pos (by omega)]
          congr 1; omega
        · exact e3 i (by omega) h2 t ht kd
end WRM
/-- the writings stand below 2^30 -/
def wN (M : Nat → Int32) (p : Nat) : Nat := (pWrit M p).toBitVec.toNat
def WB (M : Nat → Int32) (B : Nat) : Prop := ∀ p, p < 200 → wN M p ≤ B
theorem wN_nI (M : Nat → Int32) (p : Nat) : pWrit M p = nI (wN M p) := by
  apply Int32.toBitVec_inj.mp
  show (pWrit M p).toBitVec = BitVec.ofNat 32 (pWrit M p).toBitVec.toNat
  rw [BitVec.ofNat_toNat, BitVec.setWidth_eq]
theorem bt_nI31 {n : Nat} (h : n < 2147483648) : bt (nI n) 31 = false := by
  unfold bt nI
  show (BitVec.ofNat 32 n).getLsbD 31 = false
  rw [BitVec.getLsbD_ofNat]
  simp
  exact Nat.testBit_lt_two_pow (by omega)
theorem WB.b31 {M : Nat → Int32} {B p : Nat} (h : WB M B) (hB : B < 2147483648) (hp : p < 200) : bt (pWrit M p) 31 = false := by
  rw [wN_nI]; exact bt_nI31 (Nat.lt_of_le_of_lt (h p hp) hB)
/-- the greatest writing of the first n pages -/
def mxW (M : Nat → Int32) : Nat → Nat
  | 0 => 0
  | n + 1 => if wN M n ≤ mxW M n then mxW M n else wN M n
theorem mxW_le {M : Nat → Int32} {B : Nat} (h : WB M B) : ∀ n, n ≤ 200 → mxW M n ≤ B := by
  intro n
  induction n with
  | zero => intro _; exact Nat.zero_le B
  | succ n ih =>
    intro hn
    rw [mxW]
    split
    · exact ih (by omega)
    · exact h n (by omega)
theorem m_w53 {on ar ro ta la wh st : Int32} {M us pl wr : Nat → Int32} {kd : Int32} {k : Int64} {pg : Int32} {B : Nat} (hB : WB M B) (hB2 : B < 1073741824) : ∀ (n c j : Nat) (x y : Int32), x = nI j → y = nI (mxW M j) → j + c = 200 → c < n → fn_X9_write_L53 n on ar ro ta la wh st M us pl wr kd k pg y x = fn_X9_write_L117 5 on ar ro ta la wh st M us pl (upd wr 0 (vp_nar .byte kd.toInt8.toInt32)) k pg (nI (mxW M 200 + 1)) (fn_X9_pad k (nI (mxW M 200 + 1)).toInt64 100) 0 := by
  intro n
  induction n with
  | zero => intro c j x y hx hy hj hc; omega
  | succ n ih =>
    intro c j x y hx hy hj hc
    rw [fn_X9_write_L53, hx, hy, show (200 : Int32) = nI 200 from rfl]
    cases c with
    | zero =>
      rw [if_pos (nI_le (by omega) (by omega)), bnd1, nI_1, show j = 200 by omega]
      rfl
    | succ c =>
      have hm := mxW_le hB j (by omega)
      have hw := hB j (by omega)
      rw [if_neg (nI_ge (by omega) (by omega)), bnd1, show fn_X9_writingOf M (nI j) = nI (wN M j) from wN_nI M j]
      by_cases h : wN M j ≤ mxW M j
      · rw [if_pos (nI_le h (by omega))]
        exact ih c (j + 1) _ _ (nI_1 j) (by rw [mxW, if_pos h]) (by omega) (by omega)
      · rw [if_neg (nI_ge (by omega) (by omega)), bnd1]
        exact ih c (j + 1) _ _ (nI_1 j) (by rw [mxW, if_neg h]) (by omega) (by omega)
/-- the first free page from s on, round the end -/
def frees (f : Nat → Int32) (s q : Nat) : Prop := ∃ d, d < 200 ∧ q = (s + d) % 200 ∧ f q = 0 ∧ ∀ d', d' < d → ¬ f ((s + d') % 200) = 0
theorem frees_one {f g : Nat → Int32} (hfg : ∀ q, q < 200 → (f q = 0 ↔ g q = 0)) {s q q' : Nat} (h : frees f s q) (h' : frees g s q') : q = q' := by
  obtain ⟨d, h1, h2, h3, h4⟩ := h
  obtain ⟨d', h1', h2', h3', h4'⟩ := h'
  have hl : (s + d) % 200 < 200 := Nat.mod_lt _ (by decide)
  have hl' : (s + d') % 200 < 200 := Nat.mod_lt _ (by decide)
  rcases Nat.lt_trichotomy d d' with h | h | h
  · exact absurd ((hfg _ hl).mp (h2 ▸ h3)) (h4' d h)
  · rw [h2, h2', h]
  · exact absurd ((hfg _ hl').mpr (h2' ▸ h3')) (h4 d' h)
theorem m_w24 {on ar ro ta la wh st : Int32} {M us pl wr : Nat → Int32} {kd : Int32} {k : Int64} {s : Nat} (hs : s < 200) {d : Nat} (hd : d < 200) (hu : us ((s + d) % 200) = 0) (hmin : ∀ d', d' < d → ¬ us ((s + d') % 200) = 0) : ∀ (n c : Nat) (x : Int32), c ≤ d → x = nI ((s + (d - c)) % 200) → c < n → fn_X9_write_L24 n on ar ro ta la wh st M us pl wr kd k x = fn_X9_write_L53 201 on ar ro ta la wh st M us pl wr kd k (nI ((s + d) % 200)) 0 0 := by
  intro n
  induction n with
  | zero => intro c x hc hx hn; omega
  | succ n ih =>
    intro c x hc hx hn
    have hl : (s + (d - c)) % 200 < 200 := Nat.mod_lt _ (by decide)
    rw [fn_X9_write_L24, hx, nI_clamp (by omega)]
    cases c with
    | zero => rw [Nat.sub_zero, if_pos hu]
    | succ c =>
      rw [if_neg (hmin _ (by omega)), q_next rfl hl]
      exact ih c _ (by omega) (by congr 1; omega) (by omega)
theorem frees_ex {f : Nat → Int32} {s : Nat} (hs : s < 200) (h : ∃ q, q < 200 ∧ f q = 0) : ∃ q, frees f s q := by
  obtain ⟨q, hq, hf⟩ := h
  obtain ⟨d, hd, hmin⟩ := pk_least (fun d => f ((s + d) % 200) = 0) ⟨(q + 200 - s) % 200, by
    show f ((s + (q + 200 - s) % 200) % 200) = 0
    rw [show (s + (q + 200 - s) % 200) % 200 = q by omega]; exact hf⟩
  have hd2 : d < 200 := by
    rcases Nat.lt_or_ge d 200 with h | h
    · exact h
    · exfalso
      refine hmin (d - 200) (by omega) ?_
      show f ((s + (d - 200)) % 200) = 0
      rw [show (s + (d - 200)) % 200 = (s + d) % 200 by omega]; exact hd
  exact ⟨(s + d) % 200, d, hd2, rfl, hd, hmin⟩
/-- where the search begins, behind the last page -/
def startM (lm : Int32) : Int32 := if lm = (-1) then 0 else ((lm + 1) - (lm + 1) / 200 * 200)
theorem m_write {on ar ro ta la wh st : Int32} {M us pl wr : Nat → Int32} {kd : Int32} {k : Int64} {s q B : Nat} (hs : s < 200) (hst : startM la = nI s) (hf : frees us s q) (hB : WB M B) (hB2 : B < 1073741824) : ∃ wr' : Nat → Int32, fn_X9_write on ar ro ta la wh st M us pl wr kd k = fn_X9_write_L266 6 on ar ro ta (nI q) wh st M (upd us q (vp_nar .boolean 1)) pl wr' (nI q) 3 ∧ ∀ i, i < 64 → ∀ t, t < 8 → bt (wr' i) t = pgB kd k (nI (mxW M 200 + 1)) pl i t := by
  obtain ⟨d, hd, hq, hu, hmin⟩ := hf
  have hq2 : q < 200 := by rw [hq]; exact Nat.mod_lt _ (by decide)
  have e0 : fn_X9_write on ar ro ta la wh st M us pl wr kd k = fn_X9_write_L24 201 on ar ro ta la wh st M us pl wr kd k (startM la) := by
    unfold fn_X9_write startM
    split <;> rfl
  rw [e0, m_w24 hs hd (hq ▸ hu) hmin 201 d _ (Nat.le_refl d) (by rw [hst, Nat.sub_self, Nat.add_zero, Nat.mod_eq_of_lt hs]) (by omega), ← hq, m_w53 hB hB2 201 200 0 0 0 rfl rfl (by decide) (by decide)]
  obtain ⟨w1, f1, f2, f3⟩ := m_w117 (on := on) (ar := ar) (ro := ro) (ta := ta) (la := la) (wh := wh) (st := st) (M := M) (us := us) (pl := pl) (k := k) (pg := nI q) (w := nI (mxW M 200 + 1)) (tag := fn_X9_pad k (nI (mxW M 200 + 1)).toInt64 100) 5 4 0 (upd wr 0 (vp_nar .byte kd.toInt8.toInt32)) 0 rfl (by decide) (by decide)
  obtain ⟨w2, g1, g2, g3⟩ := m_w153 (on := on) (ar := ar) (ro := ro) (ta := ta) (la := la) (wh := wh) (st := st) (M := M) (us := us) (pl := pl) (k := k) (pg := nI q) (w := nI (mxW M 200 + 1)) rfl 9 8 0 w1 0 rfl (by decide) (by decide)
  obtain ⟨w3, h1, h2, h3⟩ := m_w191 (on := on) (ar := ar) (ro := ro) (ta := ta) (la := la) (wh := wh) (st := st) (M := M) (us := us) (pl := pl) (k := k) (pg := nI q) (w := nI (mxW M 200 + 1)) 52 51 0 w2 0 rfl (by decide) (by decide)
  refine ⟨w3, ?_, fun i hi t ht => ?_⟩
  · rw [f1, g1, h1, nI_clamp (by omega)]
  · rcases Nat.lt_or_ge i 13 with a | a
    · rw [h2 i a]
      rcases Nat.lt_or_ge i 5 with b | b
      · rw [g2 i b]
        rcases Nat.lt_or_ge i 1 with c | c
        · rw [f2 i c, show i = 0 by omega, pk_us, b_narb _ ht, b_i2b _ (by omega), if_pos ht]
          unfold pgB
          rw [if_pos rfl]
        · exact f3 i c b t ht kd
      · exact g3 i b a t ht kd
    · exact h3 i a hi t ht kd
