/-! facts of the reference's writing that its callers' contracts need -/
def cntB (f : Nat → Bool) : Nat → Nat
  | 0 => 0
  | n + 1 => cntB f n + (if f n then 1 else 0)
theorem cntB_le (f : Nat → Bool) : ∀ n, cntB f n ≤ n := by
  intro n
  induction n with
  | zero => exact Nat.le_refl 0
  | succ n ih => rw [cntB]; split <;> omega
theorem cntB_cg {f g : Nat → Bool} : ∀ n, (∀ i, i < n → f i = g i) → cntB f n = cntB g n := by
  intro n
  induction n with
  | zero => intro _; rfl
  | succ n ih => intro h; rw [cntB, cntB, ih (fun i hi => h i (by omega)), h n (by omega)]
theorem cntB_up {f g : Nat → Bool} {q : Nat} (hf : f q = false) (hg : g q = true) (ho : ∀ i, i ≠ q → g i = f i) : ∀ n, cntB g n = cntB f n + (if q < n then 1 else 0) := by
  intro n
  induction n with
  | zero => rfl
  | succ n ih =>
    rw [cntB, cntB, ih]
    by_cases h : n = q
    · subst h
      rw [hf, hg]; simp
    · rw [ho n h]
      by_cases h2 : q < n
      · rw [if_pos h2, if_pos (show q < n + 1 by omega)]; omega
      · rw [if_neg h2, if_neg (show ¬ q < n + 1 by omega)]; omega
theorem cntB_ex {f : Nat → Bool} : ∀ n, 0 < cntB f n → ∃ q, q < n ∧ f q = true := by
  intro n
  induction n with
  | zero => intro h; exact absurd h (Nat.lt_irrefl 0)
  | succ n ih =>
    intro h
    rw [cntB] at h
    by_cases a : f n = true
    · exact ⟨n, by omega, a⟩
    · rw [if_neg a] at h
      obtain ⟨q, h1, h2⟩ := ih h
      exact ⟨q, by omega, h2⟩
theorem cntB_not (f : Nat → Bool) : ∀ n, cntB f n + cntB (fun i => !f i) n = n := by
  intro n
  induction n with
  | zero => rfl
  | succ n ih =>
    rw [cntB, cntB]
    by_cases a : f n = true
    · rw [a]; simp; omega
    · rw [Bool.not_eq_true] at a
      rw [a]; simp; omega
/-- how many pages are free -/
def cnt0 (us : Nat → Int32) : Nat := cntB (fun q => decide (us q = 0)) 200
theorem cnt0_ex {us : Nat → Int32} (h : 1 ≤ cnt0 us) : ∃ q, q < 200 ∧ us q = 0 := by
  obtain ⟨q, h1, h2⟩ := cntB_ex 200 h
  exact ⟨q, h1, of_decide_eq_true h2⟩
theorem nar1 : vp_nar .boolean 1 = 1 := rfl
theorem cnt0_upd {us : Nat → Int32} {q : Nat} (hq : q < 200) (h : us q = 0) : cnt0 (upd us q (vp_nar .boolean 1)) + 1 = cnt0 us := by
  unfold cnt0
  have e := cntB_up (f := fun i => decide (upd us q (vp_nar .boolean 1) i = 0)) (g := fun i => decide (us i = 0)) (q := q) (by rw [pk_us, nar1]; decide) (by rw [h]; decide) (fun i hi => by rw [pk_un hi]) 200
  rw [e, if_pos hq]
theorem m_used_L {us : Nat → Int32} : ∀ (n c j : Nat) (x y : Int32), x = nI j → y = nI (cntB (fun q => !decide (us q = 0)) j) → j + c = 200 → c < n → fn_X9_used_L4 n us y x = nI (cntB (fun q => !decide (us q = 0)) 200) := by
  intro n
  induction n with
  | zero => intro c j x y hx hy hj hc; omega
  | succ n ih =>
    intro c j x y hx hy hj hc
    rw [fn_X9_used_L4, hx, show (200 : Int32) = nI 200 from rfl]
    cases c with
    | zero => rw [if_pos (nI_le (by omega) (by omega)), hy, show j = 200 by omega]
    | succ c =>
      rw [if_neg (nI_ge (by omega) (by omega)), nI_clamp (by omega)]
      by_cases h : us j = 0
      · rw [if_pos h]
        refine ih c (j + 1) _ _ (nI_1 j) ?_ (by omega) (by omega)
        rw [cntB, hy, decide_eq_true h]
        show nI _ + nI 0 = _
        rw [nI_add]; rfl
      · rw [if_neg h]
        refine ih c (j + 1) _ _ (nI_1 j) ?_ (by omega) (by omega)
        rw [cntB, hy, decide_eq_false h]
        show nI _ + nI 1 = _
        rw [nI_add]; rfl
theorem m_used {us : Nat → Int32} : fn_X9_used us = nI (200 - cnt0 us) := by
  unfold fn_X9_used
  rw [m_used_L 201 200 0 0 0 rfl rfl (by decide) (by decide)]
  have h := cntB_not (fun q => decide (us q = 0)) 200
  have e : cntB (fun q => !decide (us q = 0)) 200 = 200 - cnt0 us := by unfold cnt0; omega
  rw [e]
theorem m_w53w {on ar ro ta la wh st : Int32} {M us pl wr : Nat → Int32} {kd : Int32} {k : Int64} {pg : Int32} : ∀ (n c j : Nat) (x y : Int32), x = nI j → j + c = 200 → c < n → ∃ y' : Int32, fn_X9_write_L53 n on ar ro ta la wh st M us pl wr kd k pg y x = fn_X9_write_L117 5 on ar ro ta la wh st M us pl (upd wr 0 (vp_nar .byte kd.toInt8.toInt32)) k pg y' (fn_X9_pad k y'.toInt64 100) 0 := by
  intro n
  induction n with
  | zero => intro c j x y hx hj hc; omega
  | succ n ih =>
    intro c j x y hx hj hc
    rw [fn_X9_write_L53, hx, show (200 : Int32) = nI 200 from rfl]
    cases c with
    | zero =>
      rw [if_pos (nI_le (by omega) (by omega)), bnd1]
      exact ⟨y + 1, rfl⟩
    | succ c =>
      rw [if_neg (nI_ge (by omega) (by omega)), bnd1]
      split
      · exact ih c (j + 1) _ _ (nI_1 j) (by omega) (by omega)
      · rw [bnd1]
        exact ih c (j + 1) _ _ (nI_1 j) (by omega) (by omega)
theorem m_writeW {on ar ro ta la wh st : Int32} {M us pl wr : Nat → Int32} {kd : Int32} {k : Int64} {s q : Nat} (hs : s < 200) (hst : startM la = nI s) (hf : frees us s q) : ∃ wr' : Nat → Int32, fn_X9_write on ar ro ta la wh st M us pl wr kd k = fn_X9_write_L266 6 on ar ro ta (nI q) wh st M (upd us q (vp_nar .boolean 1)) pl wr' (nI q) 3 := by
  obtain ⟨d, hd, hq, hu, hmin⟩ := hf
  have hq2 : q < 200 := by rw [hq]; exact Nat.mod_lt _ (by decide)
  have e0 : fn_X9_write on ar ro ta la wh st M us pl wr kd k = fn_X9_write_L24 201 on ar ro ta la wh st M us pl wr kd k (startM la) := by
    unfold fn_X9_write startM
    split <;> rfl
  obtain ⟨y', ey⟩ := m_w53w (on := on) (ar := ar) (ro := ro) (ta := ta) (la := la) (wh := wh) (st := st) (M := M) (us := us) (pl := pl) (wr := wr) (kd := kd) (k := k) (pg := nI q) 201 200 0 0 0 rfl (by decide) (by decide)
  rw [e0, m_w24 hs hd (hq ▸ hu) hmin 201 d _ (Nat.le_refl d) (by rw [hst, Nat.sub_self, Nat.add_zero, Nat.mod_eq_of_lt hs]) (by omega), ← hq, ey]
  obtain ⟨w1, f1, -, -⟩ := m_w117 (on := on) (ar := ar) (ro := ro) (ta := ta) (la := la) (wh := wh) (st := st) (M := M) (us := us) (pl := pl) (k := k) (pg := nI q) (w := y') (tag := fn_X9_pad k y'.toInt64 100) 5 4 0 (upd wr 0 (vp_nar .byte kd.toInt8.toInt32)) 0 rfl (by decide) (by decide)
  obtain ⟨w2, g1, -, -⟩ := m_w153 (on := on) (ar := ar) (ro := ro) (ta := ta) (la := la) (wh := wh) (st := st) (M := M) (us := us) (pl := pl) (k := k) (pg := nI q) (w := y') rfl 9 8 0 w1 0 rfl (by decide) (by decide)
  obtain ⟨w3, h1, -, -⟩ := m_w191 (on := on) (ar := ar) (ro := ro) (ta := ta) (la := la) (wh := wh) (st := st) (M := M) (us := us) (pl := pl) (k := k) (pg := nI q) (w := y') 52 51 0 w2 0 rfl (by decide) (by decide)
  exact ⟨w3, by rw [f1, g1, h1, nI_clamp (by omega)]⟩
theorem m_266f {la wh : Int32} {us pl wr : Nat → Int32} {q : Nat} (hq : q < 200) : ∀ (n j : Nat) (on ar ro ta st : Int32) (M : Nat → Int32) (x : Int32), x = nI j + (-1) → j < n → j ≤ 4 → ∃ (r on' ar' ro' ta' wh' st' : Int32) (M' : Nat → Int32), fn_X9_write_L266 n on ar ro ta la wh st M us pl wr (nI q) x = (r, on', ar', ro', ta', la, wh', st', M', us, wr) ∧ (r = (-1) ∨ (r = nI q ∧ ro' = ro ∧ ta' = ta)) := by
  intro n
  induction n with
  | zero => intro j on ar ro ta st M x hx h1; omega
  | succ n ih =>
    intro j on ar ro ta st M x hx h1 h4
    rw [fn_X9_write_L266]
    cases j with
    | zero =>
      rw [if_pos (by rw [hx]; decide)]
      exact ⟨_, _, _, _, _, _, _, _, rfl, Or.inr ⟨rfl, rfl, rfl⟩⟩
    | succ j =>
      rw [pk_m1] at hx
      subst hx
      rw [if_neg (nI_pos (by omega)), bnd6]
      obtain ⟨r1, a1, a2, a3, a4, a5, e1⟩ : ∃ r1 a1 a2 a3 a4 a5, fn_X9_step on ar ro ta st = (r1, a1, a2, a3, a4, a5) := ⟨_, _, _, _, _, _, rfl⟩
      rw [e1]
      by_cases hr : r1 = 0
      · rw [if_pos hr]
        exact ⟨_, _, _, _, _, _, _, _, rfl, Or.inl rfl⟩
      · rw [if_neg hr]
        have e2 : a3 = ro ∧ a4 = ta := by
          unfold fn_X9_step at e1
          split at e1
          · cases e1; exact absurd rfl hr
          · split at e1
            · rw [bnd4] at e1; cases e1; exact absurd rfl hr
            · split at e1
              · cases e1; exact ⟨rfl, rfl⟩
              · cases e1; exact ⟨rfl, rfl⟩
        obtain ⟨M2, f1, -, -⟩ := m_w287 (K := fn_X9_write_L266 n) (on := a1) (ar := a2) (ro := a3) (ta := a4) (la := la) (wh := wh) (st := a5) (us := us) (pl := pl) (wr := wr) (q := q) (pt := j) hq (by omega) 18 16 0 M (16 * nI j) (by rw [show (16 : Int32) = nI 16 from rfl, pk_mul, Nat.add_zero]) (by decide) (by decide)
        obtain ⟨r, on', ar', ro', ta', wh', st', M', g1, g2⟩ := ih j a1 a2 a3 a4 a5 M2 _ rfl (by omega) (by omega)
        refine ⟨r, on', ar', ro', ta', wh', st', M', f1.trans g1, ?_⟩
        rw [e2.1, e2.2] at g2
        exact g2
theorem start_ok {la : Int32} (h : la = (-1) ∨ vp_in la 200) : ∃ s, s < 200 ∧ startM la = nI s := by
  unfold startM
  by_cases a : la = (-1)
  · rw [if_pos a]; exact ⟨0, by decide, rfl⟩
  · rw [if_neg a]
    have hv := vp_in_iff.mp (h.resolve_left a)
    obtain ⟨k, hk, e⟩ := q_of hv.1 hv.2 (by decide)
    exact ⟨(k + 1) % 200, Nat.mod_lt _ (by decide), q_next e hk⟩
theorem m_writeF {on ar ro ta la wh st : Int32} {M us pl wr : Nat → Int32} {kd : Int32} {k : Int64} {r on' ar' ro' ta' la' wh' st' : Int32} {M' us' wr' : Nat → Int32} (hla : la = (-1) ∨ vp_in la 200) (hc : 1 ≤ cnt0 us) (hw : fn_X9_write on ar ro ta la wh st M us pl wr kd k = (r, on', ar', ro', ta', la', wh', st', M', us', wr')) : vp_in la' 200 ∧ cnt0 us' + 1 = cnt0 us ∧ (¬ r = (-1) → ro' = ro) := by
  obtain ⟨s, hs, hst⟩ := start_ok hla
  obtain ⟨q, hf⟩ := frees_ex hs (cnt0_ex hc)
  obtain ⟨w2, e1⟩ := m_writeW (on := on) (ar := ar) (ro := ro) (ta := ta) (wh := wh) (st := st) (M := M) (pl := pl) (wr := wr) (kd := kd) (k := k) hs hst hf
  have hq : q < 200 := by obtain ⟨d, -, h, -⟩ := hf; rw [h]; exact Nat.mod_lt _ (by decide)
  have huq : us q = 0 := by obtain ⟨d, -, -, h, -⟩ := hf; exact h
  obtain ⟨r2, b1, b2, b3, b4, b5, b6, b7, g1, g2⟩ := m_266f (la := nI q) (wh := wh) (us := upd us q (vp_nar .boolean 1)) (pl := pl) (wr := w2) hq 6 4 on ar ro ta st M 3 (by decide) (by decide) (by decide)
  rw [e1, g1] at hw
  cases hw
  refine ⟨vp_in_nI hq (by decide), cnt0_upd hq huq, fun h => ?_⟩
  rcases g2 with g2 | g2
  · exact absurd g2 h
  · exact g2.2.1
theorem m_takeKey_L {v : Int64} {rs : Int32} : ∀ (n : Nat) (row : Nat → Int64) (x : Int32) (j : Nat), x = nI j → j ≤ 39 → rs.toInt ≤ 39 → 39 < j + n → ∃ (row' : Nat → Int64), fn_X9_takeKey_L19 n rs row v x = (v, rs, row') := by
  intro n
  induction n with
  | zero => intro row x j hx h1 h2 h3; omega
  | succ n ih =>
    intro row x j hx h1 h2 h3
    rw [fn_X9_takeKey_L19]
    split
    · exact ⟨row, rfl⟩
    · rename_i c
      have a := q_nle c
      rw [hx, nI_toInt (by omega)] at a
      exact ih _ _ (j + 1) (by rw [hx]; exact nI_1 j) (by omega) h2 (by omega)
theorem m_takeKey {rs : Int32} {row : Nat → Int64} (h0 : 1 ≤ rs.toInt) (h1 : rs.toInt ≤ 40) : ∃ row' : Nat → Int64, fn_X9_takeKey rs row = (row 0, rs - 1, row') := by
  unfold fn_X9_takeKey
  have e1 : (1 : Int32).toInt = 1 := by decide
  exact m_takeKey_L 40 row 0 0 rfl (by decide) (by rw [q_sub (by omega) (by omega), e1]; omega) (by decide)
theorem m_takeKeyF {rs rs' : Int32} {row row' : Nat → Int64} {k : Int64} (h0 : 1 ≤ rs.toInt) (h1 : rs.toInt ≤ 40) (hw : fn_X9_takeKey rs row = (k, rs', row')) : rs'.toInt = rs.toInt - 1 := by
  obtain ⟨r2, e⟩ := m_takeKey (row := row) h0 h1
  rw [e] at hw
  cases hw
  have e1 : (1 : Int32).toInt = 1 := by decide
  rw [q_sub (by omega) (by omega), e1]
/-- numbers of the reference's branch and put -/
theorem br_dn {v rs : Int32} {j n : Nat} {a b c d : Prop} (h : 0 ≤ v.toInt) (ev : v.toInt = (j : Int) - 1) (h3 : j ≤ 3) (hn : j < n + 1) (ha : (j : Int) - 1 ≤ rs.toInt) (hb : rs.toInt ≤ 40) {us : Nat → Int32} (hc : j ≤ cnt0 us + 1) {la : Int32} (hl : la = (-1) ∨ vp_in la 200) : ∃ i : Nat, (v + (-1)).toInt = (i : Int) - 1 ∧ i ≤ 3 ∧ i < n ∧ (i : Int) ≤ rs.toInt ∧ rs.toInt ≤ 40 ∧ i ≤ cnt0 us ∧ (la = (-1) ∨ vp_in la 200) := by
  have em : (-1 : Int32).toInt = -1 := by decide
  refine ⟨j - 1, ?_, by omega, by omega, by omega, hb, by omega, hl⟩
  rw [q_add (by omega) (by omega), em]; omega
theorem pg_two {v : Int32} (h0 : ¬ v < 0) (h1 : v.toInt ≤ 96) (c : 48 < v) : ((v + 47) / 48).toInt = 1 ∨ ((v + 47) / 48).toInt = 2 := by
  have a := q_nlt h0
  have b := q_lt c
  have e0 : (0 : Int32).toInt = 0 := by decide
  have e47 : (47 : Int32).toInt = 47 := by decide
  have e48 : (48 : Int32).toInt = 48 := by decide
  have s1 : (v + 47).toInt = v.toInt + 47 := by rw [q_add (by omega) (by omega), e47]
  have hin : vp_in (v + 47) 144 := q_in (by omega) (by omega)
  rw [q_dv (k := 48) hin (by decide) (by decide) (by decide), s1]
  omega
