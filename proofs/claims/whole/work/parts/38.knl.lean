/-! the reference's rows of known keys -/
theorem m_fits1 {M : Nat → Int32} {k : Int64} {p : Nat} (hp : p < 200) (hk : pKind M p = 1) : fn_X9_fits M k (nI p) = if fitP M p k then 1 else 0 := by
  unfold fn_X9_fits
  rw [bnd1, m_kind hp, if_pos hk, bnd1, bnd1, bnd1, m_tag hp, show fn_X9_writingOf M (nI p) = pWrit M p from rfl]
  unfold fitP
  rw [decide_eq_true hk, Bool.true_and]
  by_cases h : pTag M p = fn_X9_pad k (pWrit M p).toInt64 100
  · rw [if_pos (lgc.mpr h), if_pos (decide_eq_true h)]
  · rw [if_neg (mt lgc.mp h), if_neg (by rw [decide_eq_false h]; exact Bool.false_ne_true)]
theorem m_isKnown_L {kl : List Int64} {ks : Nat → Int64} {n : Int32} (h : RepL kl ks n) (hl : kl.length ≤ 801) {x : Int64} : ∀ (m c j : Nat) (y z : Int32), y = nI j → j + c = kl.length → c < m → (z = 0 ∨ z = 1) → (fn_X9_isKnown_L5 m n ks x z y = 0 ∨ fn_X9_isKnown_L5 m n ks x z y = 1) ∧ (fn_X9_isKnown_L5 m n ks x z y = 0 ↔ z = 0 ∧ ∀ i, j ≤ i → i < kl.length → ¬ ks i = x) := by
  intro m
  induction m with
  | zero => intro c j y z hy hj hc; omega
  | succ m ih =>
    intro c j y z hy hj hc hz
    rw [fn_X9_isKnown_L5, hy]
    cases c with
    | zero =>
      rw [h.1, if_pos (nI_le (by omega) (by omega))]
      exact ⟨hz, fun e => ⟨e, fun i h1 h2 => by omega⟩, fun e => e.1⟩
    | succ c =>
      have hc2 : ¬ n ≤ nI j := by rw [h.1]; exact nI_ge (by omega) (by omega)
      rw [if_neg hc2, nI_clamp (by omega)]
      by_cases a : ks j = x
      · rw [if_pos (lgc.mpr a)]
        have z1 : z ||| 1 = 1 := by rcases hz with rfl | rfl <;> rfl
        rw [z1]
        obtain ⟨q1, q2⟩ := ih c (j + 1) _ 1 (nI_1 j) (by omega) (by omega) (Or.inr rfl)
        exact ⟨q1, q2.trans ⟨fun e => absurd e.1 (by decide), fun e => absurd a (e.2 j (Nat.le_refl j) (by omega))⟩⟩
      · rw [if_neg (mt lgc.mp a)]
        have z0 : z ||| 0 = z := by rcases hz with rfl | rfl <;> rfl
        rw [z0]
        obtain ⟨q1, q2⟩ := ih c (j + 1) _ z (nI_1 j) (by omega) (by omega) hz
        refine ⟨q1, q2.trans ⟨fun e => ⟨e.1, fun i h1 h2 => ?_⟩, fun e => ⟨e.1, fun i h1 h2 => e.2 i (by omega) h2⟩⟩⟩
        by_cases b : i = j
        · rw [b]; exact a
        · exact e.2 i (by omega) h2
theorem m_isKnown {kl : List Int64} {ks : Nat → Int64} {n : Int32} (h : RepL kl ks n) (hl : kl.length ≤ 801) (x : Int64) : (fn_X9_isKnown n ks x = 0 ∨ fn_X9_isKnown n ks x = 1) ∧ (fn_X9_isKnown n ks x = 0 ↔ ¬ x ∈ kl) := by
  unfold fn_X9_isKnown
  obtain ⟨q1, q2⟩ := m_isKnown_L h hl (x := x) 901 kl.length 0 0 0 rfl (by omega) (by omega) (Or.inl rfl)
  refine ⟨q1, q2.trans ⟨fun e hx => ?_, fun e => ⟨rfl, fun i _ h2 h3 => e (h.mem.mpr ⟨i, h2, h3⟩)⟩⟩⟩
  obtain ⟨i, h1, h2⟩ := h.mem.mp hx
  exact e.2 i (Nat.zero_le i) h1 h2
theorem RepL_one (k : Int64) (ks : Nat → Int64) : RepL [k] (vp_updL ks (0 : Int32).toNatClampNeg k) 1 := by
  refine ⟨rfl, fun i hi => ?_⟩
  have hi : i < 1 := hi
  have e : i = (0 : Int32).toNatClampNeg := by show i = 0; omega
  rw [e, pk_uLs]; rfl
section KNOW
variable {M : Nat → Int32} {kl : List Int64} {T : Nat → Bool} {ks : Nat → Int64} {n : Int32} {p j : Nat} {own : Int64}
/-- which key fits, among the first j -/
def ownJ (M : Nat → Int32) (kl : List Int64) (p j : Nat) (own : Int64) : Prop := (kl.take j).find? (fitP M p) = if own = 0 then none else some own
theorem own_0 : ownJ M kl p 0 0 := by unfold ownJ; simp
theorem own_end (h : ownJ M kl p j own) (hj : kl.length ≤ j) : kl.find? (fitP M p) = if own = 0 then none else some own := by
  unfold ownJ at h
  rwa [List.take_of_length_le hj] at h
theorem own_got (h : ownJ M kl p j own) (hk : ¬ own = 0) : kl.find? (fitP M p) = if own = 0 then none else some own := by
  unfold ownJ at h
  rw [if_neg hk] at h ⊢
  exact find_take_some h
theorem own_kind (h0 : own = 0) (hk : ¬ pKind M p = 1) : kl.find? (fitP M p) = if own = 0 then none else some own := by
  rw [if_pos h0, List.find?_eq_none]
  intro x _
  unfold fitP
  rw [decide_eq_false hk, Bool.false_and]; exact Bool.false_ne_true
theorem own_no (h : ownJ M kl p j own) (h0 : own = 0) (hR : RepL kl ks n) (hj : j < kl.length) (hf : fitP M p (ks j) = false) : ownJ M kl p (j + 1) 0 := by
  unfold ownJ at h ⊢
  rw [find_take_succ (hR.2 j hj), h, if_pos h0, hf, if_pos rfl]; rfl
theorem own_yes (h : ownJ M kl p j own) (h0 : own = 0) (hR : RepL kl ks n) (hG : GoodT M kl T) (hj : j < kl.length) (hf : fitP M p (ks j) = true) : ownJ M kl p (j + 1) (ks j) := by
  have hz : ¬ ks j = 0 := hG.2.1 _ (hR.mem.mpr ⟨j, hj, rfl⟩)
  unfold ownJ at h ⊢
  rw [find_take_succ (hR.2 j hj), h, if_pos h0, hf, if_neg hz]; rfl
theorem own_some (h : kl.find? (fitP M p) = if own = 0 then none else some own) (hk : ¬ own = 0) : kl.find? (fitP M p) = some own := by rwa [if_neg hk] at h
theorem own_none (h : kl.find? (fitP M p) = if own = 0 then none else some own) (hk : own = 0) : askL M kl p = kl := by
  rw [if_pos hk] at h
  unfold askL; rw [h]
theorem ask_tell (h : kl.find? (fitP M p) = some own) : askL M kl p = tellN M kl own p 4 := by
  unfold askL; rw [h]
end KNOW
theorem kn_fit {M : Nat → Int32} {k : Int64} {p : Nat} {v r r0 : Int32} (hp : p < 200) (ev : v = nI p) (h0 : fn_X9_byteAt M v 0 = r0) (hk : r0 = 1) (hw : fn_X9_fits M k v = r) : (r = 0 → fitP M p k = false) ∧ (¬ r = 0 → fitP M p k = true) := by
  rw [ev, m_kind hp] at h0
  rw [ev, m_fits1 hp (h0.trans hk)] at hw
  cases h : fitP M p k
  · rw [h] at hw
    exact ⟨fun _ => rfl, fun c => absurd hw.symm c⟩
  · rw [h] at hw
    exact ⟨fun c => absurd (hw.trans c) (by decide), fun _ => rfl⟩
theorem kn_entries {M : Nat → Int32} {k : Int64} {p : Nat} {v : Int32} (hp : p < 200) (ev : v = nI p) {ek ek' : Nat → Int64} {ep pl ep' pl' : Nat → Int32} (hw : fn_X9_openNode M ek ep pl k v = (ek', ep', pl')) : ∀ e, e < 4 → ek' e = sKey (sPl M k p) e := by
  rw [ev] at hw
  obtain ⟨a, b, c, e1, e2⟩ := m_openNode (M := M) (k := k) hp ek ep pl
  rw [e1] at hw
  cases hw
  exact fun e he => (e2 e he).1
section KNB
variable {M : Nat → Int32} {kl kl0 : List Int64} {T : Nat → Bool} {ks : Nat → Int64} {n v : Int32} {p j m : Nat} {own : Int64}
theorem kn_47 {ks' : Nat → Int64} {n' : Int32} (ev : v = nI p) (hp : p < 200) (hn : 200 < p + (m + 1)) (hG : GoodT M kl T) (hf : kl.find? (fitP M p) = some own) (hl : kl0.length ≤ kl.length) (h4 : 4 ≤ j) (h5 : j ≤ 4) (hR : RepL (tellN M kl own p j) ks' n') : ∃ (i : Nat) (kl' : List Int64) (T' : Nat → Bool), (v + 1) = nI i ∧ i ≤ 200 ∧ 200 < i + m ∧ RepL kl' ks' n' ∧ GoodT M kl' T' ∧ kl0.length ≤ kl'.length := by
  obtain ⟨T', hT⟩ := tell_good hG hp hf
  have e : j = 4 := by omega
  subst e
  obtain ⟨xs, e1, -⟩ := tellN_pre M kl own p 4
  refine ⟨p + 1, tellN M kl own p 4, T', by rw [ev]; exact nI_1 p, by omega, by omega, hR, hT, ?_⟩
  rw [e1, List.length_append]; omega
theorem kn_59 (hO : ownJ M kl p j own) (h0 : own = 0) (hR : RepL kl ks n) (hG : GoodT M kl T) (hj : j < kl.length) (ev : v = nI j) (hn : kl.length < j + (m + 1)) (hl : kl.length ≤ 801) (hf : fitP M p (ks (v : Int32).toNatClampNeg) = true) : ∃ i : Nat, (v + 1) = nI i ∧ i ≤ kl.length ∧ kl.length < i + m ∧ ownJ M kl p i (ks (v : Int32).toNatClampNeg) := by
  have ec : (v : Int32).toNatClampNeg = j := by rw [ev, nI_clamp (by omega)]
  rw [ec] at hf ⊢
  exact ⟨j + 1, by rw [ev]; exact nI_1 j, by omega, by omega, own_yes hO h0 hR hG hj hf⟩
theorem kn_132a {ek : Nat → Int64} (ev : v = nI j) (hj : j < 4) (hn : 4 < j + (m + 1)) (hR : RepL (tellN M kl own p j) ks n) (he : ek j = sKey (sPl M own p) j) (c : ek (v : Int32).toNatClampNeg = 0) : ∃ i : Nat, (v + 1) = nI i ∧ i ≤ 4 ∧ 4 < i + m ∧ RepL (tellN M kl own p i) ks n := by
  rw [ev, nI_clamp (by omega), he] at c
  exact ⟨j + 1, by rw [ev]; exact nI_1 j, by omega, by omega, hR.learn0 (Or.inl c)⟩
theorem kn_132b {r : Int32} (ev : v = nI j) (hj : j < 4) (hn : 4 < j + (m + 1)) (hR : RepL (tellN M kl own p j) ks n) (hq : (fn_X9_isKnown n ks (sKey (sPl M own p) j) = 0 ∨ fn_X9_isKnown n ks (sKey (sPl M own p) j) = 1) ∧ (fn_X9_isKnown n ks (sKey (sPl M own p) j) = 0 ↔ ¬ sKey (sPl M own p) j ∈ tellN M kl own p j)) (er : r = fn_X9_isKnown n ks (sKey (sPl M own p) j)) (c : ¬ r = 0) : ∃ i : Nat, (v + 1) = nI i ∧ i ≤ 4 ∧ 4 < i + m ∧ RepL (tellN M kl own p i) ks n := by
  rw [er, hq.2] at c
  exact ⟨j + 1, by rw [ev]; exact nI_1 j, by omega, by omega, hR.learn0 (Or.inr (Decidable.not_not.mp c))⟩
theorem kn_132c {r : Int32} {ek : Nat → Int64} (ev : v = nI j) (hj : j < 4) (hn : 4 < j + (m + 1)) (hR : RepL (tellN M kl own p j) ks n) (hl : (tellN M kl own p j).length ≤ 801) (he : ek j = sKey (sPl M own p) j) (cz : ¬ ek (v : Int32).toNatClampNeg = 0) (hq : (fn_X9_isKnown n ks (sKey (sPl M own p) j) = 0 ∨ fn_X9_isKnown n ks (sKey (sPl M own p) j) = 1) ∧ (fn_X9_isKnown n ks (sKey (sPl M own p) j) = 0 ↔ ¬ sKey (sPl M own p) j ∈ tellN M kl own p j)) (er : r = fn_X9_isKnown n ks (sKey (sPl M own p) j)) (c : r = 0) : ∃ i : Nat, (v + 1) = nI i ∧ i ≤ 4 ∧ 4 < i + m ∧ RepL (tellN M kl own p i) (vp_updL ks (n : Int32).toNatClampNeg (ek (v : Int32).toNatClampNeg)) (n + 1) := by
  have ec : (v : Int32).toNatClampNeg = j := by rw [ev, nI_clamp (by omega)]
  rw [ec, he] at cz ⊢
  rw [er, hq.2] at c
  exact ⟨j + 1, by rw [ev]; exact nI_1 j, by omega, by omega, hR.learn1 hl (fun h => h.elim cz c)⟩
end KNB
