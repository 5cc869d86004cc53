/-! numbers for the reference's contracts -/
theorem q_ba {p i : Int32} (h : vp_in p 200) (h2 : vp_in i 64) : vp_in ((64 * p) + i) 12800 := by
  rw [vp_in_iff] at h h2 ⊢
  have e64 : (64 : Int32).toInt = 64 := by decide
  have em : (64 * p).toInt = 64 * p.toInt := by rw [Int32.toInt_mul, e64]; exact q_bm (by omega) (by omega)
  rw [q_add (by omega) (by omega), em]; omega
theorem q_13 {j : Nat} (h : j < 51) : vp_in (13 + nI j) 64 := by
  rw [show (13 : Int32) = nI 13 from rfl, nI_add]; exact vp_in_nI (by omega) (by decide)
theorem q_cj {k j : Nat} (h : k + j < 64) : vp_in (nI k + nI j) 64 := by
  rw [nI_add]; exact vp_in_nI h (by decide)
theorem q_10 {e i : Nat} (he : e < 4) (hi : i < 10) : vp_in ((10 * nI e) + nI i) 51 := by
  rw [show (10 : Int32) = nI 10 from rfl, pk_mul, nI_add]; exact vp_in_nI (by omega) (by decide)
theorem q_or {p : Int32} {q : Prop} (h : p = (-1) ∨ q) (c : ¬ p = (-1)) : q := h.resolve_left c
theorem q_z1 {n : Nat} (h : 1 < n) : vp_in 1 n := by
  have z : (1 : Int32).toInt = 1 := by decide
  exact q_in (by omega) (by omega)
theorem q_z2 {n : Nat} (h : 2 < n) : vp_in 2 n := by
  have z : (2 : Int32).toInt = 2 := by decide
  exact q_in (by omega) (by omega)
theorem q_z3 {n : Nat} (h : 3 < n) : vp_in 3 n := by
  have z : (3 : Int32).toInt = 3 := by decide
  exact q_in (by omega) (by omega)
theorem q_tk {z v : Int32} {j : Nat} (h0 : 1 ≤ z.toInt) (h1 : z.toInt ≤ 40) (ev : v = nI j) (hj : j ≤ 39) (c : ¬ (z - 1) ≤ v) : j < 39 := by
  have a := q_nle c
  have e1 : (1 : Int32).toInt = 1 := by decide
  rw [ev, nI_toInt (by omega), q_sub (by omega) (by omega), e1] at a; omega
theorem q_w24a {f : Nat → Int32} (h : ∃ q : Nat, q < 200 ∧ f q = 0) : ∃ j d : Nat, (0 : Int32) = nI j ∧ j < 200 ∧ d < 201 ∧ f ((j + d) % 200) = 0 := by
  obtain ⟨q, hq, hf⟩ := h
  exact ⟨0, q, rfl, by omega, by omega, by rw [Nat.zero_add, Nat.mod_eq_of_lt hq]; exact hf⟩
theorem q_next {z : Int32} {k : Nat} (e : z = nI k) (hk : k < 200) : ((z + 1) - (z + 1) / 200 * 200) = nI ((k + 1) % 200) := by
  rw [e, nI_1, show (200 : Int32) = nI 200 from rfl, pk_rem (by omega) (by decide) (by decide)]
theorem q_w24b {z : Int32} {f : Nat → Int32} (hz : vp_in z 200) (h : ∃ q : Nat, q < 200 ∧ f q = 0) : ∃ j d : Nat, ((z + 1) - (z + 1) / 200 * 200) = nI j ∧ j < 200 ∧ d < 201 ∧ f ((j + d) % 200) = 0 := by
  rw [vp_in_iff] at hz
  obtain ⟨k, hk, e⟩ := q_of hz.1 hz.2 (by decide)
  obtain ⟨q, hq, hf⟩ := h
  have hm := Nat.mod_lt (k + 1) (show 0 < 200 by decide)
  refine ⟨(k + 1) % 200, (q + 200 - (k + 1) % 200) % 200, q_next e hk, hm, by omega, ?_⟩
  rw [show ((k + 1) % 200 + (q + 200 - (k + 1) % 200) % 200) % 200 = q by omega]; exact hf
theorem q_w24c {v : Int32} {f : Nat → Int32} {j d n : Nat} (ev : v = nI j) (hj : j < 200) (hd : d < n + 1) (hu : f ((j + d) % 200) = 0) (c : ¬ f (v : Int32).toNatClampNeg = 0) : ∃ j2 d2 : Nat, ((v + 1) - (v + 1) / 200 * 200) = nI j2 ∧ j2 < 200 ∧ d2 < n ∧ f ((j2 + d2) % 200) = 0 := by
  have hm := Nat.mod_lt (j + 1) (show 0 < 200 by decide)
  rw [ev, nI_clamp (by omega)] at c
  have hd0 : d ≠ 0 := fun h => c (by rw [h, Nat.add_zero, Nat.mod_eq_of_lt hj] at hu; exact hu)
  refine ⟨(j + 1) % 200, d - 1, q_next ev hj, hm, by omega, ?_⟩
  rw [show ((j + 1) % 200 + (d - 1)) % 200 = (j + d) % 200 by omega]; exact hu
theorem q_16 {x : Int32} (h0 : 0 ≤ x.toInt) (h1 : x.toInt ≤ 3) : (16 * x).toInt = 16 * x.toInt := by
  have e : (16 : Int32).toInt = 16 := by decide
  rw [Int32.toInt_mul, e]; exact q_bm (by omega) (by omega)
theorem q_16p {x : Int32} (h0 : 0 ≤ x.toInt) (h1 : x.toInt ≤ 3) : ((16 * x) + 16).toInt = 16 * x.toInt + 16 := by
  have e : (16 : Int32).toInt = 16 := by decide
  have a := q_16 h0 h1
  rw [q_add (by omega) (by omega), a, e]
theorem q_dn4 {v : Int32} {j n : Nat} (h : 0 ≤ v.toInt) (ev : v.toInt = (j : Int) - 1) (h4 : j ≤ 4) (hn : j < n + 1) : ∃ i : Nat, (v + (-1)).toInt = (i : Int) - 1 ∧ i ≤ 4 ∧ i < n := by
  have em : (-1 : Int32).toInt = -1 := by decide
  refine ⟨j - 1, ?_, by omega, by omega⟩
  rw [q_add (by omega) (by omega), em]; omega
theorem q_up16 {v : Int32} {a : Int} {i n : Nat} (ev : v.toInt = 16 * a + (i : Int)) (h1 : i < 16) (h2 : 0 ≤ a ∧ a ≤ 3) (hn : 16 < i + (n + 1)) : ∃ k : Nat, (v + 1).toInt = 16 * a + (k : Int) ∧ k ≤ 16 ∧ 16 < k + n := by
  have e1 : (1 : Int32).toInt = 1 := by decide
  refine ⟨i + 1, ?_, by omega, by omega⟩
  rw [q_add (by omega) (by omega), e1]; omega
theorem q_ne40 {z : Int32} (h0 : 0 ≤ z.toInt) (h1 : z.toInt ≤ 40) (c : ¬ z = 40) : vp_in z 40 := by
  have e : (40 : Int32).toInt = 40 := by decide
  have h : z.toInt ≠ 40 := fun h => c (Int32.toInt_inj.mp (by rw [h, e]))
  exact q_in h0 (by omega)
theorem q_okb {x : Int32} (h : okb x) : x &&& 1 = x := by
  unfold okb at h
  simpa [narrow] using h
theorem q_or1 {x : Int32} (h : okb x) : okb (x ||| 1) := by
  unfold okb
  show Value.int ((x ||| 1) &&& 1) = Value.int (x ||| 1)
  congr 1
  have h1 := q_okb h
  rw [← h1]
  generalize x = y
  apply Int32.toBitVec_inj.mp
  simp only [Int32.toBitVec_and, Int32.toBitVec_or]
  ext i
  simp
  intro a; exact a.elim (fun b => b.2) id
theorem q_or0 {x : Int32} (h : okb x) : okb (x ||| 0) := by
  rw [show x ||| 0 = x by
    apply Int32.toBitVec_inj.mp
    simp]
  exact h
