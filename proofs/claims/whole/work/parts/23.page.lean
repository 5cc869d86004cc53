/-! a page's plain bytes, as the reference and the class read them -/
theorem pad_same (k n j : Int64) : fn_X8_padOf k n j = fn_X9_pad k n j := rfl
/-- byte i of the page p under the key k -/
def sPl (M : Nat → Int32) (k : Int64) (p i : Nat) : Int32 := ((M (64 * p + (13 + i)) &&& 255) ^^^ (ju_lushr (fn_X9_pad k (pWrit M p).toInt64 (nI (i / 8)).toInt64) (nI (56 - 8 * (i % 8)))).toInt32).toInt8.toInt32
theorem sPl_bit {M : Nat → Int32} {k : Int64} {p i t : Nat} (ht : t < 8) : bt (sPl M k p i) t = (bt (M (64 * p + (13 + i))) t ^^ bl (fn_X9_pad k (pWrit M p).toInt64 (nI (i / 8)).toInt64) (56 - 8 * (i % 8) + t)) := by
  unfold sPl
  rw [b_i2b _ (by omega), if_pos ht, b_xor, b_and, b_255, decide_eq_true ht, Bool.and_true, b_l2i _ (by omega), l_ushr _ (by omega)]
theorem t_m13 {i : Nat} : (13 + nI i : Int32) = nI (13 + i) := by rw [show (13 : Int32) = nI 13 from rfl, nI_add]
theorem t_sh {i : Nat} (hi : i < 51) : (56 - (8 * (nI i - nI i / 8 * 8)) : Int32) = nI (56 - 8 * (i % 8)) := by
  rw [t_rem8 (by omega), show (56 : Int32) = nI 56 from rfl, pk_sub (by omega)]
theorem m_open_L {M : Nat → Int32} {k : Int64} {p : Nat} (hp : p < 200) : ∀ (n c i : Nat) (pl : Nat → Int32) (x : Int32), x = nI i → i + c = 51 → c < n → ∀ j, fn_X9_open_L11 n M pl k (nI p) (pWrit M p).toInt64 x j = if i ≤ j ∧ j < 51 then sPl M k p j else pl j := by
  intro n
  induction n with
  | zero => intro c i pl x hx hi hc; omega
  | succ n ih =>
    intro c i pl x hx hi hc j
    rw [fn_X9_open_L11, hx, show (51 : Int32) = nI 51 from rfl]
    cases c with
    | zero => rw [if_pos (nI_le (by omega) (by omega)), if_neg (by omega)]
    | succ c =>
      rw [if_neg (nI_ge (by omega) (by omega))]
      rw [bnd1, bnd1, t_m13, m_byteAt hp (by omega), t_sh (by omega), t_c8, pk_div (by omega) (by decide) (by decide), nI_1, ih c (i + 1) _ _ rfl (by omega) (by omega) j, nI_clamp (by omega)]
      by_cases h1 : i + 1 ≤ j ∧ j < 51
      · rw [if_pos h1, if_pos (by omega)]
      · rw [if_neg h1]
        by_cases h2 : j = i
        · subst h2
          rw [pk_us, if_pos (by omega), b_nar]
          rfl
        · rw [pk_un h2, if_neg (by omega)]
theorem m_open {M : Nat → Int32} {k : Int64} {p : Nat} (hp : p < 200) (pl : Nat → Int32) (j : Nat) : fn_X9_open M pl k (nI p) j = if j < 51 then sPl M k p j else pl j := by
  unfold fn_X9_open
  rw [bnd1]
  have q := m_open_L (k := k) (M := M) hp 52 51 0 pl 0 rfl (by decide) (by decide) j
  refine Eq.trans q ?_
  by_cases h : j < 51
  · rw [if_pos ⟨Nat.zero_le j, h⟩, if_pos h]
  · rw [if_neg (fun c => h c.2), if_neg h]
/-- bytes alike in what counts -/
theorem foldB_cg {b d : Nat → Int32} : ∀ (c i : Nat) (v : Int64), (∀ j, i ≤ j → j < i + c → b j = d j) → foldB b i c v = foldB d i c v := by
  intro c
  induction c with
  | zero => intro i v h; rfl
  | succ c ih =>
    intro i v h
    rw [foldB, foldB, h i (by omega) (by omega)]
    exact ih _ _ (fun j h1 h2 => h j (by omega) (by omega))
theorem sKey_cg {b d : Nat → Int32} {e : Nat} (he : e < 4) (h : ∀ j, j < 51 → b j = d j) : sKey b e = sKey d e := foldB_cg _ _ _ (fun j h1 h2 => h j (by omega))
theorem sPage_cg {b d : Nat → Int32} {j : Nat} (hj : j + 1 < 51) (h : ∀ j, j < 51 → b j = d j) : sPage b j = sPage d j := by
  unfold sPage; rw [h j (by omega), h (j + 1) hj]
theorem t_10 {e i : Nat} (h : e < 4) (hi : i < 10) : ((10 * nI e) + nI i : Int32).toNatClampNeg = 10 * e + i := by
  rw [show (10 : Int32) = nI 10 from rfl, pk_mul, nI_add, nI_clamp (by omega)]
theorem m_oN_L26 {M pl : Nat → Int32} {v3 : Int32} (h3 : ¬ v3 = (-1)) {e : Nat} (he : e < 4) {k : (Nat → Int32) → (Nat → Int64) → (Nat → Int32) → (Nat → Int32) → Int32 → Int32 → ((Nat → Int64) × (Nat → Int32) × (Nat → Int32))} {ek : Nat → Int64} {ep : Nat → Int32} : ∀ (n c i : Nat) (v : Int64) (x : Int32), x = nI i → i + c = 8 → c < n → fn_X9_openNode_L26 n k M ek ep pl v3 (nI e) v x = k M (vp_updL ek e (foldB pl (10 * e + i) c v)) (upd ep e (sPage pl (10 * e + 8))) pl v3 (nI (e + 1)) := by
  intro n
  induction n with
  | zero => intro c i v x hx hi hc; omega
  | succ n ih =>
    intro c i v x hx hi hc
    rw [fn_X9_openNode_L26, hx, show (8 : Int32) = nI 8 from rfl]
    cases c with
    | zero =>
      rw [if_pos (nI_le (by omega) (by omega)), if_neg h3, foldB, nI_1, nI_clamp (by omega), t_10 he (by decide), show (9 : Int32) = nI 9 from rfl, t_10 he (by decide)]
      rfl
    | succ c =>
      rw [if_neg (nI_ge (by omega) (by omega)), if_neg h3, foldB, t_10 he (by omega), nI_1]
      exact ih c (i + 1) _ _ rfl (by omega) (by omega)
theorem m_oN_L26z {M pl : Nat → Int32} {e : Nat} (he : e < 4) {k : (Nat → Int32) → (Nat → Int64) → (Nat → Int32) → (Nat → Int32) → Int32 → Int32 → ((Nat → Int64) × (Nat → Int32) × (Nat → Int32))} {ek : Nat → Int64} {ep : Nat → Int32} (v : Int64) : fn_X9_openNode_L26 9 k M ek ep pl (-1) (nI e) v 0 = k M (vp_updL ek e v) (upd ep e 0) pl (-1) (nI (e + 1)) := by
  rw [fn_X9_openNode_L26, if_neg (by decide), if_pos rfl, nI_1, nI_clamp (by omega)]
theorem m_oN_L14 {M pl : Nat → Int32} {v3 : Int32} : ∀ (n c e : Nat) (ek : Nat → Int64) (ep : Nat → Int32) (x : Int32), x = nI e → e + c = 4 → c < n → ∃ (ek' : Nat → Int64) (ep' : Nat → Int32), fn_X9_openNode_L14 n M ek ep pl v3 x = (ek', ep', pl) ∧ (∀ j, j < e → ek' j = ek j ∧ ep' j = ep j) ∧ ∀ j, e ≤ j → j < 4 → ek' j = (if v3 = (-1) then 0 else sKey pl j) ∧ ep' j = (if v3 = (-1) then 0 else sPage pl (10 * j + 8)) := by
  intro n
  induction n with
  | zero => intro c e ek ep x hx he hc; omega
  | succ n ih =>
    intro c e ek ep x hx he hc
    rw [fn_X9_openNode_L14, hx, show (4 : Int32) = nI 4 from rfl]
    cases c with
    | zero =>
      rw [if_pos (nI_le (by omega) (by omega))]
      exact ⟨ek, ep, rfl, fun j _ => ⟨rfl, rfl⟩, fun j h1 h2 => by omega⟩
    | succ c =>
      rw [if_neg (nI_ge (by omega) (by omega))]
      by_cases h3 : v3 = (-1)
      · subst h3
        rw [m_oN_L26z (by omega)]
        obtain ⟨ek', ep', e1, e2, e3⟩ := ih c (e + 1) (vp_updL ek e 0) (upd ep e 0) _ rfl (by omega) (by omega)
        refine ⟨ek', ep', e1, fun j hj => ?_, fun j h1 h2 => ?_⟩
        · obtain ⟨q1, q2⟩ := e2 j (by omega)
          rw [q1, q2, pk_uLn (by omega), pk_un (by omega)]; exact ⟨rfl, rfl⟩
        · by_cases hj : j = e
          · subst hj
            obtain ⟨q1, q2⟩ := e2 j (by omega)
            rw [q1, q2, pk_uLs, pk_us, if_pos rfl, if_pos rfl]; exact ⟨rfl, rfl⟩
          · exact e3 j (by omega) h2
      · rw [m_oN_L26 h3 (by omega) 9 8 0 0 0 rfl rfl (by decide)]
        obtain ⟨ek', ep', e1, e2, e3⟩ := ih c (e + 1) (vp_updL ek e (foldB pl (10 * e + 0) 8 0)) (upd ep e (sPage pl (10 * e + 8))) _ rfl (by omega) (by omega)
        refine ⟨ek', ep', e1, fun j hj => ?_, fun j h1 h2 => ?_⟩
        · obtain ⟨q1, q2⟩ := e2 j (by omega)
          rw [q1, q2, pk_uLn (by omega), pk_un (by omega)]; exact ⟨rfl, rfl⟩
        · by_cases hj : j = e
          · subst hj
            obtain ⟨q1, q2⟩ := e2 j (by omega)
            rw [q1, q2, pk_uLs, pk_us, if_neg h3, if_neg h3]; exact ⟨rfl, rfl⟩
          · exact e3 j (by omega) h2
/-- the reference opens a node -/
theorem m_openNode {M : Nat → Int32} {k : Int64} {p : Nat} (hp : p < 200) (ek : Nat → Int64) (ep pl : Nat → Int32) : ∃ (ek' : Nat → Int64) (ep' pl' : Nat → Int32), fn_X9_openNode M ek ep pl k (nI p) = (ek', ep', pl') ∧ ∀ e, e < 4 → ek' e = sKey (sPl M k p) e ∧ ep' e = sPage (sPl M k p) (10 * e + 8) := by
  have h3 : ¬ nI p = (-1) := fun h => absurd (congrArg Int32.toInt h) (by rw [nI_toInt (by omega), show ((-1 : Int32)).toInt = -1 by decide]; omega)
  unfold fn_X9_openNode
  rw [if_neg h3, bnd1]
  obtain ⟨ek', ep', e1, -, e3⟩ := m_oN_L14 (M := M) (pl := fn_X9_open M pl k (nI p)) (v3 := nI p) 5 4 0 ek ep 0 rfl rfl (by decide)
  refine ⟨ek', ep', _, e1, fun e he => ?_⟩
  obtain ⟨q1, q2⟩ := e3 e (by omega) he
  have hb : ∀ j, j < 51 → fn_X9_open M pl k (nI p) j = sPl M k p j := fun j hj => by rw [m_open hp, if_pos hj]
  rw [q1, q2, if_neg h3, if_neg h3, sKey_cg he hb, sPage_cg (by omega) hb]
  exact ⟨rfl, rfl⟩
theorem m_openNone {M : Nat → Int32} {k : Int64} (ek : Nat → Int64) (ep pl : Nat → Int32) : ∃ (ek' : Nat → Int64) (ep' pl' : Nat → Int32), fn_X9_openNode M ek ep pl k (-1) = (ek', ep', pl') ∧ ∀ e, e < 4 → ek' e = 0 ∧ ep' e = 0 := by
  unfold fn_X9_openNode
  rw [if_pos rfl]
  obtain ⟨ek', ep', e1, -, e3⟩ := m_oN_L14 (M := M) (pl := pl) (v3 := (-1)) 5 4 0 ek ep 0 rfl rfl (by decide)
  refine ⟨ek', ep', _, e1, fun e he => ?_⟩
  obtain ⟨q1, q2⟩ := e3 e (by omega) he
  rw [q1, q2, if_pos rfl, if_pos rfl]
  exact ⟨rfl, rfl⟩
/-- the class reads a body -/
theorem c_isPage {p : Nat} (hp : p < 200) : fn_X8_isPage (nI p) = 1 := by
  unfold fn_X8_isPage
  rw [if_neg (nI_pos (by omega)), show (200 : Int32) = nI 200 from rfl, if_neg (nI_ge (by omega) (by omega))]
theorem c_rb_L {W : Nat → Int64} {k wr : Int64} {p : Nat} : ∀ (n c i : Nat) (a : Nat → Int64) (x : Int32), x = nI i → i + c = 7 → c < n → ∀ j, fn_X1_readBody_L23 n W a k (nI p) wr x j = if i ≤ j ∧ j < 7 then fn_X1_wordBehindHead W (nI p) (nI (j + 1)) ^^^ fn_X8_padOf k wr (nI j).toInt64 else a j := by
  intro n
  induction n with
  | zero => intro c i a x hx hi hc; omega
  | succ n ih =>
    intro c i a x hx hi hc j
    rw [fn_X1_readBody_L23, hx, show (7 : Int32) = nI 7 from rfl]
    cases c with
    | zero => rw [if_pos (nI_le (by omega) (by omega)), if_neg (by omega)]
    | succ c =>
      rw [if_neg (nI_ge (by omega) (by omega))]
      rw [bnd1, bnd1, bnd1, nI_1, ih c (i + 1) _ _ rfl (by omega) (by omega) j]
      unfold fn_X0_setWord
      rw [if_neg (nI_pos (by omega)), show (7 : Int32) = nI 7 from rfl, if_neg (nI_ge (by omega) (by omega)), nI_clamp (by omega)]
      by_cases h1 : i + 1 ≤ j ∧ j < 7
      · rw [if_pos h1, if_pos (by omega)]
      · rw [if_neg h1]
        by_cases h2 : j = i
        · subst h2
          rw [pk_uLs, if_pos (by omega)]
        · rw [pk_uLn h2, if_neg (by omega)]
theorem c_readBody {W : Nat → Int64} {M : Nat → Int32} (h : BR 12800 W M) {p : Nat} (hp : p < 200) (hw : bt (pWrit M p) 31 = false) (k : Int64) (a : Nat → Int64) : BR 51 (fn_X1_readBody W a k (nI p)) (sPl M k p) := by
  intro i hi t ht
  unfold fn_X1_readBody
  rw [bnd1, c_isPage hp, if_neg (by decide), bnd1, c_writ h hp hw, c_rb_L 8 7 0 a 0 rfl (by decide) (by decide) (i / 8), if_pos (by omega), l_xor, sPl_bit ht, pad_same]
  have q := c_wbh h (k := i / 8 + 1) (r := i % 8) (t := t) hp (by omega) (by omega) (by omega) ht
  rw [q, show 8 * (i / 8 + 1) + 5 + i % 8 = 13 + i by omega]
