/-! the class's known keys: the same list -/
theorem c_fitsK {W : Nat → Int64} {M : Nat → Int32} (h : BR 12800 W M) {p : Nat} (hp : p < 200) (hw : bt (pWrit M p) 31 = false) (k : Int64) (kd : Int32) : fn_X1_fits W k (nI p) kd = if pKind M p = kd ∧ pTag M p = fn_X9_pad k (pWrit M p).toInt64 100 then 1 else 0 := by
  unfold fn_X1_fits
  rw [bnd1, c_isPage hp, if_neg (by decide), bnd1, c_kind h hp]
  by_cases a : pKind M p = kd
  · rw [if_pos a, bnd1, bnd1, bnd1, c_tag h hp, c_writ h hp hw, pad_same]
    by_cases b : pTag M p = fn_X9_pad k (pWrit M p).toInt64 100
    · rw [if_pos (lgc.mpr b), if_pos ⟨a, b⟩]
    · rw [if_neg (mt lgc.mp b), if_neg (fun c => b c.2)]
  · rw [if_neg a, if_neg (fun c => a c.1)]
theorem c_fits1 {W : Nat → Int64} {M : Nat → Int32} (h : BR 12800 W M) {p : Nat} (hp : p < 200) (hw : bt (pWrit M p) 31 = false) (k : Int64) : fn_X1_fits W k (nI p) 1 = if fitP M p k then 1 else 0 := by
  rw [c_fitsK h hp hw k 1]
  unfold fitP
  by_cases a : pKind M p = 1
  · by_cases b : pTag M p = fn_X9_pad k (pWrit M p).toInt64 100
    · rw [if_pos ⟨a, b⟩, decide_eq_true a, decide_eq_true b]; rfl
    · rw [if_neg (fun c => b c.2), decide_eq_false b, Bool.and_false]; rfl
  · rw [if_neg (fun c => a c.1), decide_eq_false a, Bool.false_and]; rfl
theorem c_has_L {kl : List Int64} {ks : Nat → Int64} {n : Int32} (h : RepL kl ks n) (hl : kl.length ≤ 801) {x : Int64} : ∀ (m c j : Nat) (y : Int32), y = nI j → j + c = kl.length → c < m → (fn_X4_has_L2 m n ks x y = 0 ∨ fn_X4_has_L2 m n ks x y = 1) ∧ (fn_X4_has_L2 m n ks x y = 0 ↔ ∀ i, j ≤ i → i < kl.length → ¬ ks i = x) := by
  intro m
  induction m with
  | zero => intro c j y hy hj hc; omega
  | succ m ih =>
    intro c j y hy hj hc
    rw [fn_X4_has_L2, hy]
    cases c with
    | zero =>
      rw [h.1, if_pos (nI_le (by omega) (by omega))]
      exact ⟨Or.inl rfl, fun _ i h1 h2 => by omega, fun _ => rfl⟩
    | succ c =>
      have hc2 : ¬ n ≤ nI j := by rw [h.1]; exact nI_ge (by omega) (by omega)
      rw [if_neg hc2, nI_clamp (by omega)]
      by_cases a : ks j = x
      · rw [if_pos (lgc.mpr a)]
        exact ⟨Or.inr rfl, fun e => absurd e (by decide), fun e => absurd a (e j (Nat.le_refl j) (by omega))⟩
      · rw [if_neg (mt lgc.mp a)]
        obtain ⟨q1, q2⟩ := ih c (j + 1) _ (nI_1 j) (by omega) (by omega)
        refine ⟨q1, q2.trans ⟨fun e i h1 h2 => ?_, fun e i h1 h2 => e i (by omega) h2⟩⟩
        by_cases b : i = j
        · rw [b]; exact a
        · exact e i (by omega) h2
theorem c_has {kl : List Int64} {ks : Nat → Int64} {n : Int32} (h : RepL kl ks n) (hl : kl.length ≤ 801) (x : Int64) : (fn_X4_has n ks x = 0 ∨ fn_X4_has n ks x = 1) ∧ (fn_X4_has n ks x = 0 ↔ ¬ x ∈ kl) := by
  unfold fn_X4_has
  obtain ⟨q1, q2⟩ := c_has_L h hl (x := x) 802 kl.length 0 0 rfl (by omega) (by omega)
  refine ⟨q1, q2.trans ⟨fun e hx => ?_, fun e i _ h2 h3 => e (h.mem.mpr ⟨i, h2, h3⟩)⟩⟩
  obtain ⟨i, h1, h2⟩ := h.mem.mp hx
  exact e i (Nat.zero_le i) h1 h2
theorem c_learn {kl : List Int64} {ks : Nat → Int64} {n : Int32} (h : RepL kl ks n) {x : Int64} (hl : (learnL kl x).length ≤ 801) : ∃ (n' : Int32) (ks' : Nat → Int64), fn_X4_learn n ks x = (n', ks') ∧ RepL (learnL kl x) ks' n' := by
  have hk : kl.length ≤ 801 := by
    obtain ⟨xs, e, -⟩ := learnL_pre kl x
    rw [e, List.length_append] at hl; omega
  unfold fn_X4_learn
  by_cases hz : x = 0
  · rw [if_pos (lgc0.mpr hz)]
    exact ⟨n, ks, rfl, h.learn0 (Or.inl hz)⟩
  · rw [if_neg (mt lgc0.mp hz)]
    have q := c_has h hk x
    by_cases hm : x ∈ kl
    · by_cases h8 : 801 ≤ n
      · rw [if_pos h8]; exact ⟨n, ks, rfl, h.learn0 (Or.inr hm)⟩
      · rw [if_neg h8, bnd1, if_neg (fun e => (q.2.mp e) hm)]
        exact ⟨n, ks, rfl, h.learn0 (Or.inr hm)⟩
    · have hl2 : kl.length < 801 := by
        unfold learnL at hl
        rw [if_neg (fun c => c.elim hz hm), List.length_append] at hl
        exact hl
      rw [if_neg (by rw [h.1]; exact nI_ge (b := 801) (by omega) (by omega)), bnd1, if_pos (q.2.mpr hm)]
      exact ⟨_, _, rfl, h.learn1 hk (fun c => c.elim hz hm)⟩
theorem c_learnE_L {W bo : Nat → Int64} {M : Nat → Int32} {kl : List Int64} {T : Nat → Bool} {k : Int64} {p : Nat} (hp : p < 200) (hG : GoodT M kl T) (hf : kl.find? (fitP M p) = some k) (hb : BR 51 bo (sPl M k p)) : ∀ (m c j : Nat) (n : Int32) (ks : Nat → Int64) (y : Int32), y = nI j → j + c = 4 → c < m → RepL (tellN M kl k p j) ks n → ∃ (n' : Int32) (ks' : Nat → Int64), fn_X4_learnEntries_L16 m n bo W ks y = (n', bo, ks') ∧ RepL (tellN M kl k p 4) ks' n' := by
  intro m
  induction m with
  | zero => intro c j n ks y hy hj hc; omega
  | succ m ih =>
    intro c j n ks y hy hj hc hR
    rw [fn_X4_learnEntries_L16]
    cases c with
    | zero =>
      rw [if_pos (by rw [hy]; exact nI_le (a := 4) (by omega) (by omega))]
      exact ⟨n, ks, rfl, by rw [show j = 4 by omega] at hR; exact hR⟩
    | succ c =>
      rw [if_neg (by rw [hy]; exact nI_ge (b := 4) (by omega) (by omega)), bnd1, hy, c_entryKey hb (by omega), bnd2]
      obtain ⟨n', ks', e1, e2⟩ := c_learn (x := sKey (sPl M k p) j) hR (tellN_len hG hp hf (j := j + 1) (by omega))
      rw [show foldB (sPl M k p) (10 * j) 8 0 = sKey (sPl M k p) j from rfl, e1]
      exact ih c (j + 1) n' ks' _ (nI_1 j) (by omega) (by omega) e2
theorem c_learnE {W bo : Nat → Int64} {M : Nat → Int32} (h : BR 12800 W M) {kl : List Int64} {T : Nat → Bool} {k : Int64} {p : Nat} (hp : p < 200) (hw : bt (pWrit M p) 31 = false) (hG : GoodT M kl T) (hf : kl.find? (fitP M p) = some k) {n : Int32} {ks : Nat → Int64} (hR : RepL kl ks n) : ∃ (n' : Int32) (bo' ks' : Nat → Int64), fn_X4_learnEntries n bo W ks k (nI p) = (n', bo', ks') ∧ RepL (tellN M kl k p 4) ks' n' := by
  unfold fn_X4_learnEntries
  rw [bnd1]
  obtain ⟨n', ks', e1, e2⟩ := c_learnE_L (W := W) hp hG hf (c_readBody h hp hw k bo) 5 4 0 n ks 0 rfl (by decide) (by decide) hR
  exact ⟨n', _, ks', e1, e2⟩
/-- what the class remembers of each page -/
def TRI (M : Nat → Int32) (kl : List Int64) (tr : Nat → Int32) (T : Nat → Bool) : Prop := ∀ p, p < 200 → (T p = true → tr p = nI 801) ∧ (T p = false → ∃ t, tr p = nI t ∧ t ≤ kl.length ∧ (kl.take t).find? (fitP M p) = none)
theorem c_fit_L {W : Nat → Int64} {M : Nat → Int32} (h : BR 12800 W M) {kl : List Int64} {ks : Nat → Int64} {n : Int32} {T : Nat → Bool} {p : Nat} (hp : p < 200) (hw : bt (pWrit M p) 31 = false) (hG : GoodT M kl T) (hR : RepL kl ks n) {tr : Nat → Int32} : ∀ (m c j : Nat) (y : Int32), y = nI j → j + c = kl.length → c < m → (kl.take j).find? (fitP M p) = none → ∃ r : Int64, fn_X4_fittingKey_L7 m n W ks tr (nI p) y = (r, if r = 0 then upd tr p (if tr p < n then n else tr p) else upd tr p 801) ∧ kl.find? (fitP M p) = if r = 0 then none else some r := by
  have hl := good_len hG
  intro m
  induction m with
  | zero => intro c j y hy hj hc; omega
  | succ m ih =>
    intro c j y hy hj hc hO
    rw [fn_X4_fittingKey_L7, hy, nI_clamp (n := p) (by omega)]
    cases c with
    | zero =>
      rw [if_pos (by rw [hR.1]; exact nI_le (by omega) (by omega))]
      refine ⟨0, by rw [if_pos rfl], ?_⟩
      rw [List.take_of_length_le (by omega)] at hO
      rw [if_pos rfl]; exact hO
    | succ c =>
      rw [if_neg (by rw [hR.1]; exact nI_ge (by omega) (by omega)), bnd1, nI_clamp (n := j) (by omega), c_fits1 h hp hw]
      cases hf : fitP M p (ks j)
      · rw [if_neg (show ¬ false = true from Bool.false_ne_true), if_pos rfl]
        refine ih c (j + 1) _ (nI_1 j) (by omega) (by omega) ?_
        rw [find_take_succ (hR.2 j (by omega)), hO, hf]; rfl
      · have hz : ¬ ks j = 0 := hG.2.1 _ (hR.mem.mpr ⟨j, by omega, rfl⟩)
        rw [if_pos rfl, if_neg (by decide)]
        refine ⟨ks j, by rw [if_neg hz], ?_⟩
        rw [if_neg hz]
        refine find_take_some (j := j + 1) ?_
        rw [find_take_succ (hR.2 j (by omega)), hO, hf]; rfl
theorem c_fitting {W : Nat → Int64} {M : Nat → Int32} (h : BR 12800 W M) {kl : List Int64} {ks : Nat → Int64} {n : Int32} {T : Nat → Bool} {p : Nat} (hp : p < 200) (hw : bt (pWrit M p) 31 = false) (hG : GoodT M kl T) (hR : RepL kl ks n) {tr : Nat → Int32} (hT : TRI M kl tr T) : ∃ (r : Int64) (tr' : Nat → Int32), fn_X4_fittingKey n W ks tr (nI p) = (r, tr') ∧ (∀ q, q ≠ p → tr' q = tr q) ∧ ((T p = true ∧ r = 0 ∧ tr' p = nI 801) ∨ (T p = false ∧ kl.find? (fitP M p) = none ∧ r = 0 ∧ tr' p = nI kl.length) ∨ (T p = false ∧ kl.find? (fitP M p) = some r ∧ ¬ r = 0 ∧ tr' p = nI 801)) := by
  have hl := good_len hG
  unfold fn_X4_fittingKey
  rw [nI_clamp (n := p) (by omega)]
  cases ht : T p
  · obtain ⟨t, e1, e2, e3⟩ := (hT p hp).2 ht
    obtain ⟨r, f1, f2⟩ := c_fit_L h hp hw hG hR (tr := tr) 802 (kl.length - t) t (tr p) e1 (by omega) (by omega) e3
    rw [f1]
    by_cases hz : r = 0
    · rw [if_pos hz] at f2 ⊢
      refine ⟨r, _, rfl, fun q hq => pk_un hq, Or.inr (Or.inl ⟨rfl, f2, hz, ?_⟩)⟩
      rw [pk_us, e1, hR.1]
      split
      · rfl
      · rename_i c
        have := mt (nI_ltI (a := t) (b := kl.length) (by omega) (by omega)).mpr c
        rw [show t = kl.length by omega]
    · rw [if_neg hz] at f2 ⊢
      exact ⟨r, _, rfl, fun q hq => pk_un hq, Or.inr (Or.inr ⟨rfl, f2, hz, by rw [pk_us]; rfl⟩)⟩
  · have e := (hT p hp).1 ht
    rw [fn_X4_fittingKey_L7, if_pos (by rw [hR.1, e]; exact nI_le (by omega) (by omega)), nI_clamp (n := p) (by omega)]
    refine ⟨0, _, rfl, fun q hq => pk_un hq, Or.inl ⟨rfl, rfl, ?_⟩⟩
    rw [pk_us, e, if_neg (by rw [hR.1]; exact nI_nlt (by omega) (by omega))]
theorem tell_goodT {M : Nat → Int32} {kl : List Int64} {T : Nat → Bool} {k : Int64} {p : Nat} (hG : GoodT M kl T) (hp : p < 200) (ht : T p = false) (hk : kl.find? (fitP M p) = some k) : GoodT M (tellN M kl k p 4) (fun i => if i = p then true else T i) := by
  obtain ⟨xs, e1, e2, e3, e4⟩ := tellN_pre M kl k p 4
  have nz : ∀ x, x ∈ kl ++ xs → ¬ x = 0 := fun x hx => (List.mem_append.mp hx).elim (hG.2.1 x) (e3 x)
  rw [e1]
  have ec := cntB_up (f := T) (g := fun i => if i = p then true else T i) (q := p) ht (by simp) (fun i hi => by simp [hi]) 200
  rw [if_pos hp] at ec
  refine ⟨?_, nz, fun q hq hT => ?_⟩
  · rw [List.length_append, ec]
    have := hG.1
    omega
  · by_cases a : q = p
    · subst a
      exact ⟨k, find_app hk, e4⟩
    · obtain ⟨k2, f1, f2⟩ := hG.2.2 q hq (by simpa [a] using hT)
      exact ⟨k2, find_app f1, fun e he => (f2 e he).imp id (fun h => List.mem_append.mpr (Or.inl h))⟩
theorem take_app {f : Int64 → Bool} {kl xs : List Int64} {t : Nat} (ht : t ≤ kl.length) (h : (kl.take t).find? f = none) : ((kl ++ xs).take t).find? f = none := by
  rw [List.take_append_of_le_length ht]; exact h
theorem c_ask_L {W : Nat → Int64} {M : Nat → Int32} (h : BR 12800 W M) (hw : ∀ p, p < 200 → bt (pWrit M p) 31 = false) {k0 : List Int64} : ∀ (m c j : Nat) (T : Nat → Bool) (n : Int32) (bo ks : Nat → Int64) (tr : Nat → Int32) (u y : Int32), y = nI j → j + c = 200 → c < m → RepL (passL M k0 j) ks n → GoodT M (passL M k0 j) T → TRI M (passL M k0 j) tr T → ∃ (T' : Nat → Bool) (u' n' : Int32) (bo' ks' : Nat → Int64) (tr' : Nat → Int32), fn_X4_askPages_L4 m n bo W ks tr u y = (u', n', bo', ks', tr') ∧ RepL (passL M k0 200) ks' n' ∧ GoodT M (passL M k0 200) T' ∧ TRI M (passL M k0 200) tr' T' ∧ cntB T 200 ≤ cntB T' 200 ∧ (u' = 0 → u = 0 ∧ passL M k0 200 = passL M k0 j) ∧ (¬ u' = 0 → ¬ u = 0 ∨ cntB T 200 < cntB T' 200) := by
  intro m
  induction m with
  | zero => intro c j T n bo ks tr u y hy hj hc; omega
  | succ m ih =>
    intro c j T n bo ks tr u y hy hj hc hR hG hT
    rw [fn_X4_askPages_L4]
    cases c with
    | zero =>
      rw [if_pos (by rw [hy]; exact nI_le (a := 200) (by omega) (by omega))]
      have e : j = 200 := by omega
      subst e
      exact ⟨T, u, n, bo, ks, tr, rfl, hR, hG, hT, Nat.le_refl _, fun e => ⟨e, rfl⟩, fun e => Or.inl e⟩
    | succ c =>
      have hj2 : j < 200 := by omega
      rw [if_neg (by rw [hy]; exact nI_ge (b := 200) (by omega) (by omega)), bnd2, hy]
      obtain ⟨r, tr2, e1, e2, e3⟩ := c_fitting h hj2 (hw j hj2) hG hR hT
      rw [e1]
      have keep : ∀ (_ : r = 0) (_ : askL M (passL M k0 j) j = passL M k0 j) (_ : TRI M (passL M k0 j) tr2 T), ∃ (T' : Nat → Bool) (u' n' : Int32) (bo' ks' : Nat → Int64) (tr' : Nat → Int32), (if lg_cmp r 0 = 0 then fn_X4_askPages_L4 m n bo W ks tr2 u (nI j + 1) else bnd3 (fn_X4_learnEntries n bo W ks r (nI j)) (fun y26_0 y26_1 y26_2 => fn_X4_askPages_L4 m y26_0 y26_1 W y26_2 tr2 1 (nI j + 1))) = (u', n', bo', ks', tr') ∧ RepL (passL M k0 200) ks' n' ∧ GoodT M (passL M k0 200) T' ∧ TRI M (passL M k0 200) tr' T' ∧ cntB T 200 ≤ cntB T' 200 ∧ (u' = 0 → u = 0 ∧ passL M k0 200 = passL M k0 j) ∧ (¬ u' = 0 → ¬ u = 0 ∨ cntB T 200 < cntB T' 200) := by
        intro hz ha hT2
        have hp2 : passL M k0 (j + 1) = passL M k0 j := by rw [passL, ha]
        rw [if_pos (lgc0.mpr hz)]
        have q := ih c (j + 1) T n bo ks tr2 u _ (nI_1 j) (by omega) (by omega) (by rw [hp2]; exact hR) (by rw [hp2]; exact hG) (by rw [hp2]; exact hT2)
        rw [hp2] at q
        exact q
      rcases e3 with ⟨a1, a2, a3⟩ | ⟨a1, a2, a3, a4⟩ | ⟨a1, a2, a3, a4⟩
      · refine keep a2 ?_ (fun q hq => ?_)
        · obtain ⟨k2, f1, f2⟩ := hG.2.2 j hj2 a1
          rw [ask_tell f1, tellN_same f2 4 (by decide)]
        · by_cases b : q = j
          · subst b
            exact ⟨fun _ => a3, fun c => absurd (a1.symm.trans c) (by decide)⟩
          · rw [e2 q b]; exact hT q hq
      · refine keep a3 ?_ (fun q hq => ?_)
        · unfold askL; rw [a2]
        · by_cases b : q = j
          · subst b
            refine ⟨fun c => absurd (a1.symm.trans c) (by decide), fun _ => ⟨_, a4, Nat.le_refl _, ?_⟩⟩
            rw [List.take_of_length_le (Nat.le_refl _)]; exact a2
          · rw [e2 q b]; exact hT q hq
      · rw [if_neg (mt lgc0.mp a3), bnd3]
        obtain ⟨n2, bo2, ks2, f1, f2⟩ := c_learnE h (bo := bo) hj2 (hw j hj2) hG a2 hR
        rw [f1]
        have hp2 : passL M k0 (j + 1) = tellN M (passL M k0 j) r j 4 := by rw [passL, ask_tell a2]
        have hG2 := tell_goodT hG hj2 a1 a2
        obtain ⟨xs, g1, -⟩ := tellN_pre M (passL M k0 j) r j 4
        have ec := cntB_up (f := T) (g := fun i => if i = j then true else T i) (q := j) a1 (by simp) (fun i hi => by simp [hi]) 200
        rw [if_pos hj2] at ec
        have hT2 : TRI M (tellN M (passL M k0 j) r j 4) tr2 (fun i => if i = j then true else T i) := by
          intro q hq
          by_cases b : q = j
          · subst b
            exact ⟨fun _ => a4, fun c => absurd c (by simp)⟩
          · refine ⟨fun c => ?_, fun c => ?_⟩
            · rw [e2 q b]; exact (hT q hq).1 (by simpa [b] using c)
            · obtain ⟨t, t1, t2, t3⟩ := (hT q hq).2 (by simpa [b] using c)
              refine ⟨t, by rw [e2 q b]; exact t1, ?_, ?_⟩
              · rw [g1, List.length_append]; omega
              · rw [g1]; exact take_app t2 t3
        obtain ⟨T', u', n', bo', ks', tr', q1, q2, q3, q4, q5, q6, q7⟩ := ih c (j + 1) _ n2 bo2 ks2 tr2 1 _ (nI_1 j) (by omega) (by omega) (by rw [hp2]; exact f2) (by rw [hp2]; exact hG2) (by rw [hp2]; exact hT2)
        refine ⟨T', u', n', bo', ks', tr', q1, q2, q3, q4, by omega, fun e => absurd (q6 e).1 (by decide), fun _ => Or.inr (by omega)⟩
theorem c_ask {W : Nat → Int64} {M : Nat → Int32} (h : BR 12800 W M) (hw : ∀ p, p < 200 → bt (pWrit M p) 31 = false) {kl : List Int64} {T : Nat → Bool} {n : Int32} {bo ks : Nat → Int64} {tr : Nat → Int32} (hR : RepL kl ks n) (hG : GoodT M kl T) (hT : TRI M kl tr T) : ∃ (T' : Nat → Bool) (u' n' : Int32) (bo' ks' : Nat → Int64) (tr' : Nat → Int32), fn_X4_askPages n bo W ks tr = (u', n', bo', ks', tr') ∧ RepL (passL M kl 200) ks' n' ∧ GoodT M (passL M kl 200) T' ∧ TRI M (passL M kl 200) tr' T' ∧ (u' = 0 → passL M kl 200 = kl) ∧ (¬ u' = 0 → cntB T 200 < cntB T' 200) := by
  unfold fn_X4_askPages
  obtain ⟨T', u', n', bo', ks', tr', q1, q2, q3, q4, -, q6, q7⟩ := c_ask_L h hw (k0 := kl) 201 200 0 T n bo ks tr 0 0 rfl (by decide) (by decide) hR hG hT
  exact ⟨T', u', n', bo', ks', tr', q1, q2, q3, q4, fun e => (q6 e).2, fun e => (q7 e).resolve_left (fun c => c rfl)⟩
theorem c_r68 {W : Nat → Int64} {M : Nat → Int32} (h : BR 12800 W M) (hw : ∀ p, p < 200 → bt (pWrit M p) 31 = false) {k0 : List Int64} {ss sd : Int32} {ck : Int64} : ∀ (m c a : Nat) (T : Nat → Bool) (n : Int32) (bo ks : Nat → Int64) (tr : Nat → Int32) (u y : Int32), y = nI a → a + c = 201 → c < m → RepL (iterL M k0 a) ks n → GoodT M (iterL M k0 a) T → TRI M (iterL M k0 a) tr T → (¬ u = 0 → a ≤ cntB T 200) → (u = 0 → passL M (iterL M k0 a) 200 = iterL M k0 a) → ∃ (b : Nat) (n' : Int32) (bo' ks' : Nat → Int64) (tr' : Nat → Int32), fn_X4_refresh_L68 m n ss bo ck sd W ks tr u y = (n', ss, bo', ks', tr') ∧ RepL (iterL M k0 b) ks' n' ∧ passL M (iterL M k0 b) 200 = iterL M k0 b ∧ (iterL M k0 b).length ≤ 801 := by
  intro m
  induction m with
  | zero => intro c a T n bo ks tr u y hy hj hc; omega
  | succ m ih =>
    intro c a T n bo ks tr u y hy hj hc hR hG hT hu1 hu0
    rw [fn_X4_refresh_L68]
    have hcn := cntB_le T 200
    cases c with
    | zero =>
      rw [if_pos (by rw [hy]; exact nI_lt (a := 200) (by omega) (by omega))]
      have hu : u = 0 := Decidable.byContradiction (fun e => by have := hu1 e; omega)
      exact ⟨a, n, bo, ks, tr, rfl, hR, hu0 hu, good_len hG⟩
    | succ c =>
      rw [if_neg (by rw [hy]; exact nI_nlt (a := 200) (by omega) (by omega))]
      by_cases hu : u = 0
      · rw [if_pos hu]
        exact ⟨a, n, bo, ks, tr, rfl, hR, hu0 hu, good_len hG⟩
      · rw [if_neg hu, bnd5]
        obtain ⟨T', u', n', bo', ks', tr', q1, q2, q3, q4, q5, q6⟩ := c_ask h hw (bo := bo) hR hG hT
        rw [q1]
        have ha := hu1 hu
        exact ih c (a + 1) T' n' bo' ks' tr' u' _ (by rw [hy]; exact nI_1 a) (by omega) (by omega) q2 q3 q4 (fun e => by have := q6 e; omega) (fun e => by rw [iterL, q5 e]; exact q5 e)
theorem c_r33 {W : Nat → Int64} {M : Nat → Int32} (h : BR 12800 W M) (hw : ∀ p, p < 200 → bt (pWrit M p) 31 = false) {ss sd : Int32} {ck : Int64} {bo ks : Nat → Int64} : ∀ (m c j : Nat) (tr : Nat → Int32) (y : Int32), y = nI j → j + c = 200 → c < m → (∀ q, q < j → tr q = 0) → ∃ (b : Nat) (n' : Int32) (bo' ks' : Nat → Int64) (tr' : Nat → Int32), fn_X4_refresh_L33 m 0 ss bo ck sd W ks tr y = (n', ss, bo', ks', tr') ∧ RepL (iterL M (if ck = 0 then [] else [ck]) b) ks' n' ∧ passL M (iterL M (if ck = 0 then [] else [ck]) b) 200 = iterL M (if ck = 0 then [] else [ck]) b ∧ (iterL M (if ck = 0 then [] else [ck]) b).length ≤ 801 := by
  intro m
  induction m with
  | zero => intro c j tr y hy hj hc; omega
  | succ m ih =>
    intro c j tr y hy hj hc htr
    rw [fn_X4_refresh_L33]
    cases c with
    | zero =>
      rw [if_pos (by rw [hy]; exact nI_le (a := 200) (by omega) (by omega)), bnd1, bnd2]
      have hR0 : RepL [] ks 0 := ⟨rfl, fun i hi => absurd hi (Nat.not_lt_zero i)⟩
      have el : learnL [] (fn_X1_cellKey ck) = if ck = 0 then [] else [ck] := by
        show learnL [] ck = _
        unfold learnL
        by_cases hz : ck = 0
        · rw [if_pos (Or.inl hz), if_pos hz]
        · rw [if_neg (fun c => c.elim hz (fun d => absurd d List.not_mem_nil)), if_neg hz]; rfl
      have hl1 : (learnL [] (fn_X1_cellKey ck)).length ≤ 801 := by
        obtain ⟨xs, e, e2, -⟩ := learnL_pre [] (fn_X1_cellKey ck)
        rw [e, List.nil_append]; omega
      obtain ⟨n', ks', e1, e2⟩ := c_learn hR0 hl1
      rw [e1]
      rw [el] at e2
      have hG : GoodT M (if ck = 0 then [] else [ck]) (fun _ => false) := by
        split
        · exact ⟨by simp, fun x hx => absurd hx List.not_mem_nil, fun p _ h => absurd h Bool.false_ne_true⟩
        · exact good_one M ‹_›
      have hT : TRI M (if ck = 0 then [] else [ck]) tr (fun _ => false) := fun p hp => ⟨fun e => absurd e Bool.false_ne_true, fun _ => ⟨0, by rw [htr p (by omega)]; rfl, Nat.zero_le _, by simp⟩⟩
      exact c_r68 h hw (k0 := if ck = 0 then [] else [ck]) 202 201 0 (fun _ => false) n' bo ks' tr 1 0 rfl (by decide) (by decide) e2 hG hT (fun _ => Nat.zero_le _) (fun e => absurd e (by decide))
    | succ c =>
      rw [if_neg (by rw [hy]; exact nI_ge (b := 200) (by omega) (by omega)), hy, nI_clamp (by omega)]
      refine ih c (j + 1) _ _ (nI_1 j) (by omega) (by omega) (fun q hq => ?_)
      by_cases a : q = j
      · subst a; rw [pk_us]
      · rw [pk_un a]; exact htr q (by omega)
/-- the class's fresh reading of what can be come to -/
theorem c_reach {W : Nat → Int64} {M : Nat → Int32} (h : BR 12800 W M) (hw : ∀ p, p < 200 → bt (pWrit M p) 31 = false) {n ss sd : Int32} {ck : Int64} {bo ks : Nat → Int64} {tr : Nat → Int32} (hs : ¬ ss = sd) : ∃ (b : Nat) (n' : Int32) (bo' ks' : Nat → Int64) (tr' : Nat → Int32), fn_X4_refresh n ss bo ck sd W ks tr = (n', sd, bo', ks', tr') ∧ RepL (iterL M (if ck = 0 then [] else [ck]) b) ks' n' ∧ passL M (iterL M (if ck = 0 then [] else [ck]) b) 200 = iterL M (if ck = 0 then [] else [ck]) b ∧ (iterL M (if ck = 0 then [] else [ck]) b).length ≤ 801 := by
  unfold fn_X4_refresh
  rw [bnd1, show fn_X1_stepsDone sd = sd from rfl, if_neg hs, bnd1]
  exact c_r33 h hw 201 200 0 tr 0 rfl (by decide) (by decide) (fun q hq => absurd hq (Nat.not_lt_zero q))
