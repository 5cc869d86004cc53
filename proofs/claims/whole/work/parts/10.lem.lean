/-! facts of the class's pure functions that its contracts need -/
theorem lm_isPage {v r : Int32} (h : fn_X8_isPage v = r) : ¬ r = 0 → vp_in v 200 := by
  intro hr
  subst h
  unfold fn_X8_isPage at hr
  by_cases h0 : v < 0
  · simp [h0] at hr
  · by_cases h1 : 200 ≤ v
    · simp [h0, h1] at hr
    · exact q_i2 h0 h1 (by decide)
theorem lm_isObject {v r : Int32} (h : fn_X8_isObject v = r) : ¬ r = 0 → vp_in v 64 := by
  intro hr
  subst h
  unfold fn_X8_isObject at hr
  by_cases h0 : v < 0
  · simp [h0] at hr
  · by_cases h1 : 64 ≤ v
    · simp [h0, h1] at hr
    · exact q_i2 h0 h1 (by decide)
theorem lm_hasObject {k : Nat → Int64} {v r : Int32} (h : fn_X6_hasObject k v = r) : ¬ r = 0 → vp_in v 64 := by
  intro hr
  subst h
  simp only [fn_X6_hasObject, bnd1] at hr
  by_cases h1 : fn_X8_isObject v = 0
  · simp [h1] at hr
  · exact lm_isObject rfl h1
theorem lm_learn {z z' : Int32} {k k' : Nat → Int64} {v : Int64} (h0 : 0 ≤ z.toInt) (h1 : z.toInt ≤ 801) (h : fn_X4_learn z k v = (z', k')) : 0 ≤ z'.toInt ∧ z'.toInt ≤ 801 := by
  simp only [fn_X4_learn, bnd1] at h
  split at h
  · cases h; exact ⟨h0, h1⟩
  · split at h
    · cases h; exact ⟨h0, h1⟩
    · rename_i c
      have c1 := q_nle c
      have e : (801 : Int32).toInt = 801 := by decide
      have e1 : (1 : Int32).toInt = 1 := by decide
      split at h
      · cases h
        rw [q_add (by omega) (by omega), e1]; omega
      · cases h; exact ⟨h0, h1⟩
theorem lm_learnEntries_L {d : Nat → Int64} : ∀ (n : Nat) (z : Int32) (b k : Nat → Int64) (v : Int32) (z' : Int32) (b' k' : Nat → Int64), 0 ≤ z.toInt → z.toInt ≤ 801 → fn_X4_learnEntries_L16 n z b d k v = (z', b', k') → 0 ≤ z'.toInt ∧ z'.toInt ≤ 801 := by
  intro n
  induction n with
  | zero =>
    intro z b k v z' b' k' h0 h1 h
    rw [fn_X4_learnEntries_L16] at h
    cases h; decide
  | succ n ih =>
    intro z b k v z' b' k' h0 h1 h
    rw [fn_X4_learnEntries_L16] at h
    simp only [bnd1, bnd2] at h
    split at h
    · cases h; exact ⟨h0, h1⟩
    · obtain ⟨q0, q1⟩ := lm_learn (v := fn_X0_entryKey b v) (k := k) h0 h1 rfl
      exact ih _ _ _ _ _ _ _ q0 q1 h
theorem lm_learnEntries {z z' : Int32} {b d k b' k' : Nat → Int64} {u : Int64} {v : Int32} (h0 : 0 ≤ z.toInt) (h1 : z.toInt ≤ 801) (h : fn_X4_learnEntries z b d k u v = (z', b', k')) : 0 ≤ z'.toInt ∧ z'.toInt ≤ 801 := by
  simp only [fn_X4_learnEntries, bnd1] at h
  exact lm_learnEntries_L _ _ _ _ _ _ _ _ h0 h1 h
theorem lm_updp {f : Nat → Int32} {k : Nat} {x : Int32} (h : ∀ q, q < 200 → 0 ≤ (f q).toInt) (hx : 0 ≤ x.toInt) : ∀ q, q < 200 → 0 ≤ (upd f k x q).toInt := by
  intro q hq
  unfold upd
  split
  · exact hx
  · exact h q hq
theorem lm_fittingKey_L {z : Int32} {d k : Nat → Int64} {t : Nat → Int32} {v : Int32} (h0 : 0 ≤ z.toInt) (ht : ∀ q, q < 200 → 0 ≤ (t q).toInt) : ∀ (n : Nat) (u : Int32) (r : Int64) (t' : Nat → Int32), fn_X4_fittingKey_L7 n z d k t v u = (r, t') → ∀ q, q < 200 → 0 ≤ (t' q).toInt := by
  intro n
  induction n with
  | zero =>
    intro u r t' h
    rw [fn_X4_fittingKey_L7] at h
    cases h
    intro q _
    show (0 : Int) ≤ (0 : Int32).toInt
    decide
  | succ n ih =>
    intro u r t' h
    rw [fn_X4_fittingKey_L7] at h
    simp only [bnd1] at h
    split at h
    · cases h
      intro q hq
      unfold upd
      split
      · rename_i e
        subst e
        split
        · exact h0
        · exact ht _ hq
      · exact ht q hq
    · split at h
      · exact ih _ _ _ h
      · cases h
        exact lm_updp ht (by decide)
theorem lm_fittingKey {z : Int32} {d k : Nat → Int64} {t t' : Nat → Int32} {v : Int32} {r : Int64} (h0 : 0 ≤ z.toInt) (ht : ∀ q, q < 200 → 0 ≤ (t q).toInt) (h : fn_X4_fittingKey z d k t v = (r, t')) : ∀ q, q < 200 → 0 ≤ (t' q).toInt := by
  simp only [fn_X4_fittingKey] at h
  exact lm_fittingKey_L h0 ht _ _ _ _ h
theorem lm_askPages_L {d : Nat → Int64} : ∀ (n : Nat) (z : Int32) (b k : Nat → Int64) (t : Nat → Int32) (u v : Int32) (r z' : Int32) (b' k' : Nat → Int64) (t' : Nat → Int32), 0 ≤ z.toInt → z.toInt ≤ 801 → (∀ q, q < 200 → 0 ≤ (t q).toInt) → fn_X4_askPages_L4 n z b d k t u v = (r, z', b', k', t') → 0 ≤ z'.toInt ∧ z'.toInt ≤ 801 ∧ ∀ q, q < 200 → 0 ≤ (t' q).toInt := by
  intro n
  induction n with
  | zero =>
    intro z b k t u v r z' b' k' t' h0 h1 ht h
    rw [fn_X4_askPages_L4] at h
    cases h
    exact ⟨by decide, by decide, fun _ _ => by show (0 : Int) ≤ (0 : Int32).toInt; decide⟩
  | succ n ih =>
    intro z b k t u v r z' b' k' t' h0 h1 ht h
    rw [fn_X4_askPages_L4] at h
    simp only [bnd2, bnd3] at h
    split at h
    · cases h; exact ⟨h0, h1, ht⟩
    · have q := lm_fittingKey (d := d) (k := k) (v := v) h0 ht rfl
      split at h
      · exact ih _ _ _ _ _ _ _ _ _ _ _ h0 h1 q h
      · obtain ⟨q0, q1⟩ := lm_learnEntries (b := b) (d := d) (k := k) (u := (fn_X4_fittingKey z d k t v).1) (v := v) h0 h1 rfl
        exact ih _ _ _ _ _ _ _ _ _ _ _ q0 q1 q h
theorem lm_askPages {z z' : Int32} {b d k b' k' : Nat → Int64} {t t' : Nat → Int32} {r : Int32} (h0 : 0 ≤ z.toInt) (h1 : z.toInt ≤ 801) (ht : ∀ q, q < 200 → 0 ≤ (t q).toInt) (h : fn_X4_askPages z b d k t = (r, z', b', k', t')) : 0 ≤ z'.toInt ∧ z'.toInt ≤ 801 ∧ ∀ q, q < 200 → 0 ≤ (t' q).toInt := by
  unfold fn_X4_askPages at h
  exact lm_askPages_L _ _ _ _ _ _ _ _ _ _ _ _ h0 h1 ht h
theorem lm_freePage_L {z : Int32} {t : Nat → Int32} (hp : vp_in z 200) : ∀ (n j : Nat) (r : Int32), j ≤ 201 → fn_X7_freePage_L2 n z t (nI j) = r → ¬ r = (-1) → vp_in r 200 := by
  intro n
  induction n with
  | zero =>
    intro j r hj h hr
    rw [fn_X7_freePage_L2] at h
    subst h; exact q_z0 (by decide)
  | succ n ih =>
    intro j r hj h hr
    rw [fn_X7_freePage_L2] at h
    split at h
    · exact absurd h.symm hr
    · rename_i c
      have hj2 : j < 201 := q_jgt (N := 200) rfl (by omega) (by decide) c
      split at h
      · subst h; exact q_mod hp hj2
      · rw [nI_1] at h
        exact ih _ _ (by omega) h hr
theorem lm_freePage {z r : Int32} {t : Nat → Int32} (hp : vp_in z 200) (h : fn_X7_freePage z t = r) : ¬ r = (-1) → vp_in r 200 := by
  unfold fn_X7_freePage at h
  exact lm_freePage_L hp 202 1 r (by decide) h
theorem lm_lasts {o s r o' s' : Int32} (hok : okb o) (h : fn_X3_lastsForStep o s = (r, o', s')) : okb o' := by
  simp only [fn_X3_lastsForStep, bnd2, fn_X3_goOff] at h
  split at h
  · cases h; rfl
  · split at h
    · cases h; exact hok
    · cases h; exact hok
theorem lm_writePage_L {pg bo : Nat → Int64} {t : Nat → Int32} {z w pg4 : Int32} (hz : vp_in z 200) (hp : vp_in pg4 200) : ∀ (n : Nat) (sd : Int32) (dw : Nat → Int64) (o s v r z' w' sd' : Int32) (dw' : Nat → Int64) (o' s' : Int32) (sh' : Nat → Int64) (t' : Nat → Int32), okb o → fn_X7_writePage_L30 n z w bo sd dw o s pg t pg4 v = (r, z', w', sd', dw', o', s', sh', t') → vp_in z' 200 ∧ okb o' := by
  intro n
  induction n with
  | zero =>
    intro sd dw o s v r z' w' sd' dw' o' s' sh' t' hok h
    rw [fn_X7_writePage_L30] at h
    cases h
    exact ⟨q_z0 (by decide), rfl⟩
  | succ n ih =>
    intro sd dw o s v r z' w' sd' dw' o' s' sh' t' hok h
    rw [fn_X7_writePage_L30] at h
    simp only [bnd3, bnd2] at h
    split at h
    · cases h; exact ⟨hp, hok⟩
    · have q := lm_lasts (s := s) hok rfl
      split at h
      · cases h; exact ⟨hz, q⟩
      · exact ih _ _ _ _ _ _ _ _ _ _ _ _ _ _ q h
theorem lm_writePage {z w sd o s : Int32} {bo dw sh : Nat → Int64} {t : Nat → Int32} {kd : Int32} {key : Int64} {r z' w' sd' : Int32} {dw' : Nat → Int64} {o' s' : Int32} {sh' : Nat → Int64} {t' : Nat → Int32} (hz : vp_in z 200) (hok : okb o) (h : fn_X7_writePage z w bo sd dw o s sh t kd key = (r, z', w', sd', dw', o', s', sh', t')) : vp_in z' 200 ∧ okb o' := by
  simp only [fn_X7_writePage, bnd1] at h
  split at h
  · cases h; exact ⟨hz, hok⟩
  · rename_i c
    exact lm_writePage_L hz (lm_freePage hz rfl c) _ _ _ _ _ _ _ _ _ _ _ _ _ _ _ hok h
theorem lm_writeData_L {a : Int32} {ab : Nat → Int32} {key : Int64} {nn : Int32} : ∀ (n : Nat) (z w : Int32) (bo : Nat → Int64) (sd : Int32) (dw : Nat → Int64) (o s : Int32) (sh : Nat → Int64) (t : Nat → Int32) (u v : Int32) (r z' w' : Int32) (bo' : Nat → Int64) (sd' : Int32) (dw' : Nat → Int64) (o' s' : Int32) (sh' : Nat → Int64) (t' : Nat → Int32), vp_in z 200 → okb o → fn_X7_writeData_L13 n z w bo sd dw o s sh t a ab key nn u v = (r, z', w', bo', sd', dw', o', s', sh', t') → vp_in z' 200 ∧ okb o' := by
  intro n
  induction n with
  | zero =>
    intro z w bo sd dw o s sh t u v r z' w' bo' sd' dw' o' s' sh' t' hz hok h
    rw [fn_X7_writeData_L13] at h
    cases h
    exact ⟨q_z0 (by decide), rfl⟩
  | succ n ih =>
    intro z w bo sd dw o s sh t u v r z' w' bo' sd' dw' o' s' sh' t' hz hok h
    rw [fn_X7_writeData_L13] at h
    rcases ite_or h.symm with ⟨c, h1⟩ | ⟨c, h1⟩
    · cases h1; exact ⟨hz, hok⟩
    · have h2 := bnd1_eq rfl h1
      have h3 := bnd9_eq rfl h2
      have q := fun bo => lm_writePage (w := w) (sd := sd) (s := s) (bo := bo) (dw := dw) (sh := sh) (t := t) (kd := 2) (key := key) hz hok rfl
      rcases ite_or h3 with ⟨c2, h4⟩ | ⟨c2, h4⟩
      · have e1 := congrArg (fun x => x.2.1) h4
        have e2 := congrArg (fun x => x.2.2.2.2.2.2.1) h4
        dsimp only at e1 e2
        rw [e1, e2]
        exact q _
      · exact ih _ _ _ _ _ _ _ _ _ _ _ _ _ _ _ _ _ _ _ _ _ (q _).1 (q _).2 h4.symm
theorem lm_writeData {z w sd o s : Int32} {bo dw sh : Nat → Int64} {t : Nat → Int32} {a : Int32} {ab : Nat → Int32} {key : Int64} {nn : Int32} {r z' w' : Int32} {bo' : Nat → Int64} {sd' : Int32} {dw' : Nat → Int64} {o' s' : Int32} {sh' : Nat → Int64} {t' : Nat → Int32} (hz : vp_in z 200) (hok : okb o) (h : fn_X7_writeData z w bo sd dw o s sh t a ab key nn = (r, z', w', bo', sd', dw', o', s', sh', t')) : vp_in z' 200 ∧ okb o' := by
  simp only [fn_X7_writeData, bnd1] at h
  exact lm_writeData_L _ _ _ _ _ _ _ _ _ _ _ _ _ _ _ _ _ _ _ _ _ _ hz hok h
theorem lm_take {z z' : Int32} {k k' : Nat → Int64} {r : Int64} (h4 : z.toInt ≤ 40) (h : fn_X2_take z k = (r, z', k')) : z'.toInt ≤ 40 := by
  simp only [fn_X2_take] at h
  split at h
  · rename_i c
    have := q_ts c
    cases h; omega
  · cases h; exact h4
theorem lm_dataPages {v r : Int32} (h0 : 0 ≤ v.toInt) (h1 : v.toInt ≤ 96) (h : fn_X8_dataPages v = r) : r.toInt = 1 ∨ r.toInt = 2 := by
  subst h
  unfold fn_X8_dataPages
  split
  · rename_i c
    have a := q_lt c
    have e48 : (48 : Int32).toInt = 48 := by decide
    have e1 : (1 : Int32).toInt = 1 := by decide
    have s1 : (v + 48).toInt = v.toInt + 48 := by rw [q_add (by omega) (by omega), e48]
    have s2 : ((v + 48) - 1).toInt = v.toInt + 47 := by rw [q_sub (by omega) (by omega), s1, e1]; omega
    have hin : vp_in ((v + 48) - 1) 144 := q_in (by omega) (by omega)
    rw [q_dv (k := 48) hin (by decide) (by decide) (by decide), s2]
    omega
  · left; decide
theorem lm_has {z v r : Int32} (h : fn_X5_has z v = r) : ¬ r = 0 → 0 ≤ v.toInt ∧ v.toInt ≤ z.toInt := by
  intro hr
  subst h
  unfold fn_X5_has at hr
  have e0 : (0 : Int32).toInt = 0 := by decide
  by_cases h0 : v < 0
  · simp [h0] at hr
  · by_cases h1 : z < v
    · simp [h0, h1] at hr
    · have a := q_nlt h0
      have b := q_nlt h1
      omega
theorem lm_reach_L68 {ss : Int32} {ck : Int64} {sd : Int32} {d : Nat → Int64} : ∀ (n : Nat) (z : Int32) (b k : Nat → Int64) (t : Nat → Int32) (u v : Int32) (z' ss' : Int32) (b' k' : Nat → Int64) (t' : Nat → Int32), 0 ≤ z.toInt → z.toInt ≤ 801 → (∀ q, q < 200 → 0 ≤ (t q).toInt) → fn_X4_refresh_L68 n z ss b ck sd d k t u v = (z', ss', b', k', t') → 0 ≤ z'.toInt ∧ z'.toInt ≤ 801 := by
  intro n
  induction n with
  | zero =>
    intro z b k t u v z' ss' b' k' t' h0 h1 ht h
    rw [fn_X4_refresh_L68] at h
    cases h
    exact ⟨by decide, by decide⟩
  | succ n ih =>
    intro z b k t u v z' ss' b' k' t' h0 h1 ht h
    rw [fn_X4_refresh_L68] at h
    simp only [bnd5] at h
    split at h
    · cases h; exact ⟨h0, h1⟩
    · split at h
      · cases h; exact ⟨h0, h1⟩
      · obtain ⟨q0, q1, q2⟩ := lm_askPages (b := b) (d := d) (k := k) h0 h1 ht rfl
        exact ih _ _ _ _ _ _ _ _ _ _ _ q0 q1 q2 h
theorem lm_reach_L33 {ss : Int32} {ck : Int64} {sd : Int32} {d : Nat → Int64} {b k : Nat → Int64} {z : Int32} (h0 : 0 ≤ z.toInt) (h1 : z.toInt ≤ 801) : ∀ (n j : Nat) (v : Int32) (t : Nat → Int32) (z' ss' : Int32) (b' k' : Nat → Int64) (t' : Nat → Int32), v = nI j → j ≤ 200 → (∀ q, q < j → 0 ≤ (t q).toInt) → fn_X4_refresh_L33 n z ss b ck sd d k t v = (z', ss', b', k', t') → 0 ≤ z'.toInt ∧ z'.toInt ≤ 801 := by
  intro n
  induction n with
  | zero =>
    intro j v t z' ss' b' k' t' ev hj ht h
    rw [fn_X4_refresh_L33] at h
    cases h
    exact ⟨by decide, by decide⟩
  | succ n ih =>
    intro j v t z' ss' b' k' t' ev hj ht h
    rw [fn_X4_refresh_L33] at h
    simp only [bnd1, bnd2] at h
    split at h
    · rename_i c
      have hj2 : 200 ≤ j := q_jge (N := 200) ev (by omega) (by decide) c
      obtain ⟨q0, q1⟩ := lm_learn (k := k) (v := fn_X1_cellKey ck) h0 h1 rfl
      exact lm_reach_L68 _ _ _ _ _ _ _ _ _ _ _ _ q0 q1 (fun q hq => ht q (by omega)) h
    · rename_i c
      have hj2 : j < 200 := q_j (N := 200) ev (by omega) (by decide) c
      exact ih (j + 1) _ _ _ _ _ _ _ (by rw [ev]; exact nI_1 j) (by omega) (q_trz ht ev (by omega)) h
theorem lm_reach {ss z : Int32} {ck : Int64} {sd : Int32} {d b k : Nat → Int64} {t : Nat → Int32} {z' ss' : Int32} {b' k' : Nat → Int64} {t' : Nat → Int32} (h0 : 0 ≤ z.toInt) (h1 : z.toInt ≤ 801) (h : fn_X4_refresh z ss b ck sd d k t = (z', ss', b', k', t')) : 0 ≤ z'.toInt ∧ z'.toInt ≤ 801 := by
  have g1 := h.symm
  unfold fn_X4_refresh at g1
  have g2 := bnd1_eq rfl g1
  rcases ite_or g2 with ⟨c, g3⟩ | ⟨c, g3⟩
  · cases g3; exact ⟨h0, h1⟩
  · have g4 := bnd1_eq rfl g3
    exact lm_reach_L33 (by decide) (by decide) 201 0 _ _ _ _ _ _ _ rfl (by decide) (fun q hq => absurd hq (Nat.not_lt_zero q)) g4.symm
theorem lm_freshReach {z ss : Int32} {b k : Nat → Int64} {t : Nat → Int32} {ck : Int64} {sd : Int32} {d : Nat → Int64} {z' ss' : Int32} {b' k' : Nat → Int64} {t' : Nat → Int32} (h0 : 0 ≤ z.toInt) (h1 : z.toInt ≤ 801) (h : fn_X8_freshReach z ss b k t ck sd d = (z', ss', b', k', t')) : 0 ≤ z'.toInt ∧ z'.toInt ≤ 801 := by
  simp only [fn_X8_freshReach, bnd5] at h
  exact lm_reach h0 h1 h
