/-! the reference's known keys: a fixed point of asking all pages again and again -/
theorem askL_pre (M : Nat → Int32) (kl : List Int64) (p : Nat) : ∃ xs, askL M kl p = kl ++ xs := by
  unfold askL
  split
  · exact ⟨[], (List.append_nil kl).symm⟩
  · obtain ⟨xs, e, -⟩ := tellN_pre M kl ‹_› p 4
    exact ⟨xs, e⟩
theorem passL_pre (M : Nat → Int32) (kl : List Int64) : ∀ n, ∃ xs, passL M kl n = kl ++ xs := by
  intro n
  induction n with
  | zero => exact ⟨[], (List.append_nil kl).symm⟩
  | succ n ih =>
    obtain ⟨xs, e⟩ := ih
    obtain ⟨ys, f⟩ := askL_pre M (passL M kl n) n
    exact ⟨xs ++ ys, by rw [passL, f, e, List.append_assoc]⟩
theorem passL_good {M : Nat → Int32} {kl : List Int64} {T : Nat → Bool} (h : GoodT M kl T) : ∀ n, n ≤ 200 → ∃ T', GoodT M (passL M kl n) T' := by
  intro n
  induction n with
  | zero => intro _; exact ⟨T, h⟩
  | succ n ih =>
    intro hn
    obtain ⟨T', h'⟩ := ih (by omega)
    exact ask_good h' (by omega)
theorem iterL_good {M : Nat → Int32} {k : Int64} (h : ¬ k = 0) : ∀ n, ∃ T, GoodT M (iterL M [k] n) T := by
  intro n
  induction n with
  | zero => exact ⟨_, good_one M h⟩
  | succ n ih =>
    obtain ⟨T, h'⟩ := ih
    exact passL_good h' 200 (Nat.le_refl 200)
theorem app_len {kl xs : List Int64} (h : (kl ++ xs).length ≤ kl.length) : kl ++ xs = kl := by
  rw [List.length_append] at h
  have : xs = [] := List.eq_nil_of_length_eq_zero (by omega)
  rw [this, List.append_nil]
/-- two fixed points of the same beginning are one -/
theorem fix_one {M : Nat → Int32} {k : List Int64} {a b : Nat} (ha : passL M (iterL M k a) 200 = iterL M k a) (hb : passL M (iterL M k b) 200 = iterL M k b) : iterL M k a = iterL M k b := by
  have go : ∀ {c} (_ : passL M (iterL M k c) 200 = iterL M k c) d, iterL M k (c + d) = iterL M k c := by
    intro c hc d
    induction d with
    | zero => rfl
    | succ d ih => rw [← Nat.add_assoc, iterL, ih, hc]
  rcases Nat.le_total a b with h | h
  · obtain ⟨d, rfl⟩ := Nat.exists_eq_add_of_le h
    exact (go ha d).symm
  · obtain ⟨d, rfl⟩ := Nat.exists_eq_add_of_le h
    exact go hb d
section MK
variable {M : Nat → Int32} {ck : Int64} {p : Nat} {v1 v2 : Int32} {kl : List Int64} {T : Nat → Bool} {K32 : Int64 → Int32 → (Nat → Int32) → (Nat → Int64) → (Nat → Int32) → (Nat → Int64) → (Nat → Int32) → Int32 → (Int32 × (Nat → Int64) × (Nat → Int32) × (Nat → Int64) × (Nat → Int32))} {K47 : Int64 → Int32 → (Nat → Int32) → (Nat → Int64) → (Nat → Int32) → (Nat → Int64) → (Nat → Int32) → Int32 → Int32 → (Int32 × (Nat → Int64) × (Nat → Int32) × (Nat → Int64) × (Nat → Int32))}
theorem m_k132 {own : Int64} {ek : Nat → Int64} {ep pl : Nat → Int32} (hp : p < 200) (hG : GoodT M kl T) (hf : kl.find? (fitP M p) = some own) (he : ∀ e, e < 4 → ek e = sKey (sPl M own p) e) : ∀ (n c j : Nat) (cnt : Int32) (ks : Nat → Int64) (x : Int32), x = nI j → j + c = 4 → c < n → RepL (tellN M kl own p j) ks cnt → ∃ (cnt' : Int32) (ks' : Nat → Int64), fn_X9_know_L132 n K32 K47 ck cnt M ek ep ks pl v1 v2 x = K47 ck cnt' M ek ep ks' pl v1 (v2 + 1) ∧ RepL (tellN M kl own p 4) ks' cnt' := by
  intro n
  induction n with
  | zero => intro c j cnt ks x hx hj hc; omega
  | succ n ih =>
    intro c j cnt ks x hx hj hc hR
    rw [fn_X9_know_L132]
    cases c with
    | zero =>
      rw [if_pos (by rw [hx]; exact nI_le (a := 4) (by omega) (by omega))]
      exact ⟨cnt, ks, rfl, by rw [show j = 4 by omega] at hR; exact hR⟩
    | succ c =>
      have hl := tellN_len hG hp hf (j := j) (by omega)
      rw [if_neg (by rw [hx]; exact nI_ge (b := 4) (by omega) (by omega)), hx, nI_clamp (by omega), he j (by omega)]
      by_cases hz : sKey (sPl M own p) j = 0
      · rw [if_pos (lgc0.mpr hz)]
        exact ih c (j + 1) _ _ _ (nI_1 j) (by omega) (by omega) (hR.learn0 (Or.inl hz))
      · rw [if_neg (mt lgc0.mp hz), bnd1]
        have q := m_isKnown hR hl (sKey (sPl M own p) j)
        by_cases hk : sKey (sPl M own p) j ∈ tellN M kl own p j
        · rw [if_neg (fun e => (q.2.mp e) hk)]
          exact ih c (j + 1) _ _ _ (nI_1 j) (by omega) (by omega) (hR.learn0 (Or.inr hk))
        · rw [if_pos (q.2.mpr hk)]
          exact ih c (j + 1) _ _ _ (nI_1 j) (by omega) (by omega) (hR.learn1 hl (fun h => h.elim hz hk))
theorem m_k117 {own : Int64} (hp : p < 200) (ev : v2 = nI p) (hG : GoodT M kl T) (hJ : kl.find? (fitP M p) = if own = 0 then none else some own) (ek : Nat → Int64) (ep pl : Nat → Int32) {cnt : Int32} {ks : Nat → Int64} (hR : RepL kl ks cnt) : ∃ (cnt' : Int32) (ek' : Nat → Int64) (ep' : Nat → Int32) (ks' : Nat → Int64) (pl' : Nat → Int32), fn_X9_know_J117 K32 K47 ck cnt M ek ep ks pl v1 v2 own = K47 ck cnt' M ek' ep' ks' pl' v1 (v2 + 1) ∧ RepL (askL M kl p) ks' cnt' := by
  unfold fn_X9_know_J117
  by_cases hz : own = 0
  · rw [if_pos (lgc0.mpr hz)]
    exact ⟨cnt, ek, ep, ks, pl, rfl, by rw [own_none hJ hz]; exact hR⟩
  · rw [if_neg (mt lgc0.mp hz), bnd3]
    have hf := own_some hJ hz
    obtain ⟨a, b, c, e1, e2⟩ := m_openNode (M := M) (k := own) hp ek ep pl
    rw [ev, e1]
    obtain ⟨cnt', ks', f1, f2⟩ := m_k132 (ck := ck) (v1 := v1) (v2 := nI p) (K32 := K32) (K47 := K47) (ep := b) (pl := c) hp hG hf (fun e he => (e2 e he).1) 5 4 0 cnt ks 0 rfl (by decide) (by decide) hR
    exact ⟨cnt', a, b, ks', c, f1, by rw [ask_tell hf]; exact f2⟩
theorem m_k59 (hp : p < 200) (ev : v2 = nI p) (hG : GoodT M kl T) (ek : Nat → Int64) (ep pl : Nat → Int32) {cnt : Int32} {ks : Nat → Int64} (hR : RepL kl ks cnt) : ∀ (n c j : Nat) (own : Int64) (x : Int32), x = nI j → j + c = kl.length → c < n → ownJ M kl p j own → ∃ (cnt' : Int32) (ek' : Nat → Int64) (ep' : Nat → Int32) (ks' : Nat → Int64) (pl' : Nat → Int32), fn_X9_know_L59 n K32 K47 ck cnt M ek ep ks pl v1 v2 own x = K47 ck cnt' M ek' ep' ks' pl' v1 (v2 + 1) ∧ RepL (askL M kl p) ks' cnt' := by
  have hl := good_len hG
  intro n
  induction n with
  | zero => intro c j own x hx hj hc; omega
  | succ n ih =>
    intro c j own x hx hj hc hO
    rw [fn_X9_know_L59]
    cases c with
    | zero =>
      rw [if_pos (by rw [hR.1, hx]; exact nI_le (by omega) (by omega))]
      exact m_k117 hp ev hG (own_end hO (by omega)) ek ep pl hR
    | succ c =>
      rw [if_neg (by rw [hR.1, hx]; exact nI_ge (by omega) (by omega))]
      by_cases hz : own = 0
      · rw [if_pos (lgc0.mpr hz), bnd1]
        by_cases hk : pKind M p = 1
        · have hb : fn_X9_byteAt M v2 0 = 1 := by rw [ev, m_kind hp, hk]
          rw [hb, if_pos rfl, bnd1, hx, nI_clamp (by omega)]
          have q := kn_fit (k := ks j) hp ev hb rfl rfl
          by_cases hr : fn_X9_fits M (ks j) v2 = 0
          · rw [if_pos hr]
            exact ih c (j + 1) 0 _ (nI_1 j) (by omega) (by omega) (own_no hO hz hR (by omega) (q.1 hr))
          · rw [if_neg hr]
            exact ih c (j + 1) _ _ (nI_1 j) (by omega) (by omega) (own_yes hO hz hR hG (by omega) (q.2 hr))
        · rw [if_neg (by rw [ev, m_kind hp]; exact hk)]
          exact m_k117 hp ev hG (own_kind hz hk) ek ep pl hR
      · rw [if_neg (mt lgc0.mp hz)]
        exact m_k117 hp ev hG (own_got hO hz) ek ep pl hR
theorem m_k47 (hG : GoodT M kl T) : ∀ (n c j : Nat) (ek : Nat → Int64) (ep pl : Nat → Int32) (cnt : Int32) (ks : Nat → Int64) (x : Int32), x = nI j → j + c = 200 → c < n → RepL (passL M kl j) ks cnt → ∃ (cnt' : Int32) (ek' : Nat → Int64) (ep' : Nat → Int32) (ks' : Nat → Int64) (pl' : Nat → Int32), fn_X9_know_L47 n K32 ck cnt M ek ep ks pl v1 x = K32 ck cnt' M ek' ep' ks' pl' v1 ∧ RepL (passL M kl 200) ks' cnt' := by
  intro n
  induction n with
  | zero => intro c j ek ep pl cnt ks x hx hj hc; omega
  | succ n ih =>
    intro c j ek ep pl cnt ks x hx hj hc hR
    rw [fn_X9_know_L47]
    cases c with
    | zero =>
      rw [if_pos (by rw [hx]; exact nI_le (a := 200) (by omega) (by omega))]
      exact ⟨cnt, ek, ep, ks, pl, rfl, by rw [show j = 200 by omega] at hR; exact hR⟩
    | succ c =>
      rw [if_neg (by rw [hx]; exact nI_ge (b := 200) (by omega) (by omega))]
      obtain ⟨T', hT⟩ := passL_good hG j (by omega)
      have hl := good_len hT
      obtain ⟨cnt', ek', ep', ks', pl', e1, e2⟩ := m_k59 (ck := ck) (v1 := v1) (K32 := K32) (K47 := fn_X9_know_L47 n K32) (p := j) (by omega) hx hT ek ep pl hR 802 (passL M kl j).length 0 0 0 rfl (by omega) (by omega) own_0
      obtain ⟨cnt2, ek2, ep2, ks2, pl2, f1, f2⟩ := ih c (j + 1) ek' ep' pl' cnt' ks' (x + 1) (by rw [hx]; exact nI_1 j) (by omega) (by omega) e2
      exact ⟨cnt2, ek2, ep2, ks2, pl2, e1.trans f1, f2⟩
end MK
theorem m_k32 {M : Nat → Int32} {ck : Int64} (hck : ¬ ck = 0) : ∀ (n a w : Nat) (ek : Nat → Int64) (ep pl : Nat → Int32) (cnt : Int32) (ks : Nat → Int64) (x : Int32), x = nI w → 802 < w + n → w ≤ 801 → RepL (iterL M [ck] a) ks cnt → ((a = 0 ∧ w = 0) ∨ ∃ b, a = b + 1 ∧ w = (iterL M [ck] b).length) → ∃ (b : Nat) (cnt' : Int32) (ek' : Nat → Int64) (ep' : Nat → Int32) (ks' : Nat → Int64) (pl' : Nat → Int32), fn_X9_know_L32 n ck cnt M ek ep ks pl x = (cnt', ek', ep', ks', pl') ∧ RepL (iterL M [ck] b) ks' cnt' ∧ passL M (iterL M [ck] b) 200 = iterL M [ck] b := by
  intro n
  induction n with
  | zero => intro a w ek ep pl cnt ks x hx h1 h2; omega
  | succ n ih =>
    intro a w ek ep pl cnt ks x hx h1 h2 hR hw
    obtain ⟨T, hG⟩ := iterL_good (M := M) hck a
    have hl := good_len hG
    rw [fn_X9_know_L32]
    by_cases hc : (iterL M [ck] a).length ≤ w
    · rw [if_pos (by rw [hR.1, hx]; exact nI_le hc (by omega))]
      refine ⟨a, _, _, _, _, _, rfl, hR, ?_⟩
      rcases hw with ⟨h, h'⟩ | ⟨b, h, h'⟩
      · subst h; subst h'
        exact absurd hc (Nat.not_le.mpr (Nat.zero_lt_one : 0 < 1))
      · subst h
        obtain ⟨xs, e⟩ := passL_pre M (iterL M [ck] b) 200
        have e2 : iterL M [ck] (b + 1) = iterL M [ck] b := by
          rw [iterL, e] at hc ⊢
          exact app_len (by omega)
        rw [e2]
        exact e2
    · rw [if_neg (by rw [hR.1, hx]; exact nI_ge (by omega) (by omega))]
      obtain ⟨cnt', ek', ep', ks', pl', e1, e2⟩ := m_k47 (ck := ck) (v1 := cnt) (K32 := fn_X9_know_L32 n) hG 201 200 0 ek ep pl cnt ks 0 rfl (by decide) (by decide) hR
      obtain ⟨b, c2, k2, p2, s2, l2, f1, f2, f3⟩ := ih (a + 1) (iterL M [ck] a).length ek' ep' pl' cnt' ks' cnt hR.1 (by omega) (by omega) e2 (Or.inr ⟨a, rfl, rfl⟩)
      exact ⟨b, c2, k2, p2, s2, l2, e1.trans f1, f2, f3⟩
theorem m_know {M : Nat → Int32} {ck : Int64} (hck : ¬ ck = 0) (n : Int32) (ek : Nat → Int64) (ep : Nat → Int32) (ks : Nat → Int64) (pl : Nat → Int32) : ∃ (b : Nat) (cnt' : Int32) (ek' : Nat → Int64) (ep' : Nat → Int32) (ks' : Nat → Int64) (pl' : Nat → Int32), fn_X9_know ck n M ek ep ks pl = (cnt', ek', ep', ks', pl') ∧ RepL (iterL M [ck] b) ks' cnt' ∧ passL M (iterL M [ck] b) 200 = iterL M [ck] b := by
  unfold fn_X9_know
  rw [if_neg (mt lgc0.mp hck)]
  exact m_k32 hck 803 0 0 ek ep pl 1 _ 0 rfl (by decide) (by decide) (RepL_one ck ks) (Or.inl ⟨rfl, rfl⟩)
theorem m_know0 {M : Nat → Int32} (n : Int32) (ek : Nat → Int64) (ep : Nat → Int32) (ks : Nat → Int64) (pl : Nat → Int32) : fn_X9_know 0 n M ek ep ks pl = (0, ek, ep, ks, pl) := by
  unfold fn_X9_know
  rw [if_pos (lgc0.mpr rfl)]
theorem m_know_len {M : Nat → Int32} {ck : Int64} {n : Int32} {ek : Nat → Int64} {ep : Nat → Int32} {ks : Nat → Int64} {pl : Nat → Int32} {n' : Int32} {ek' : Nat → Int64} {ep' : Nat → Int32} {ks' : Nat → Int64} {pl' : Nat → Int32} (h : fn_X9_know ck n M ek ep ks pl = (n', ek', ep', ks', pl')) : 0 ≤ n'.toInt ∧ n'.toInt ≤ 900 := by
  by_cases hck : ck = 0
  · subst hck
    rw [m_know0] at h
    cases h
    decide
  · obtain ⟨b, c, e, p, s, l, f1, f2, -⟩ := m_know (M := M) hck n ek ep ks pl
    rw [f1] at h
    cases h
    obtain ⟨T, hG⟩ := iterL_good (M := M) hck b
    have := f2.len (good_len hG)
    omega
theorem q_i6 {x y : Int32} {n : Nat} (h0 : ¬ x < 0) (h1 : ¬ y ≤ x) (hy : y.toInt ≤ n) : vp_in x n := by
  have a0 := q_nlt h0
  have a1 := q_nle h1
  have z : (0 : Int32).toInt = 0 := by decide
  exact q_in (by omega) (by omega)
