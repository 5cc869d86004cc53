/-! numbers for the contracts of the reference's put and shred -/
theorem cnt0_le (us : Nat → Int32) : cnt0 us ≤ 200 := cntB_le _ 200
theorem pt_cnt {v r : Int32} {c : Nat} (hv : v.toInt = 1 ∨ v.toInt = 2) (er : r = nI (200 - c)) (hc : c ≤ 200) (h : (v + 3) ≤ (200 - r)) : v.toInt + 3 ≤ (c : Int) := by
  have a := q_le h
  have e3 : (3 : Int32).toInt = 3 := by decide
  rw [q_add (by omega) (by omega), e3, er, show (200 : Int32) = nI 200 from rfl, pk_sub (by omega), nI_toInt (by omega)] at a
  omega
theorem sh_cnt {r : Int32} {c : Nat} (er : r = nI (200 - c)) (hc : c ≤ 200) (h : 3 ≤ (200 - r)) : 3 ≤ c := by
  have a := q_le h
  have e3 : (3 : Int32).toInt = 3 := by decide
  rw [e3, er, show (200 : Int32) = nI 200 from rfl, pk_sub (by omega), nI_toInt (by omega)] at a
  omega
theorem WI_okA {M : Nat → Int32} {ck : Int64} {cp : Int32} {K : Nat → Int64} {L : Nat → Int32} {o : Nat} {wk : Nat → Int64} {wp : Nat → Int32} (hT : TI M ck cp K L) (ho : o < 64) (h : WI K L o wk wp 3) : ∀ a, a < 3 → wp a = (-1) ∨ vp_in (wp a) 200 := fun a ha => WI_ok hT ho ha (fun b hb => h b (by omega))
theorem pt_ent {v : Int32} (hv : v.toInt = 1 ∨ v.toInt = 2) {rs : Int32} (h3 : 3 ≤ rs.toInt) (h4 : rs.toInt ≤ 40) {us : Nat → Int32} (hc : v.toInt + 3 ≤ (cnt0 us : Int)) {la : Int32} (hl : la = (-1) ∨ vp_in la 200) : ∃ j : Nat, (v - 1).toInt = (j : Int) - 1 ∧ j ≤ 2 ∧ j < 4 ∧ 3 ≤ rs.toInt ∧ rs.toInt ≤ 40 ∧ j + 3 ≤ cnt0 us ∧ (la = (-1) ∨ vp_in la 200) := by
  have e1 : (1 : Int32).toInt = 1 := by decide
  refine ⟨v.toInt.toNat, ?_, by omega, by omega, h3, h4, by omega, hl⟩
  rw [q_sub (by omega) (by omega), e1]; omega
theorem pt_48 {x : Int32} (h0 : 0 ≤ x.toInt) (h1 : x.toInt ≤ 1) : (48 * x).toInt = 48 * x.toInt := by
  have e : (48 : Int32).toInt = 48 := by decide
  rw [Int32.toInt_mul, e]; exact q_bm (by omega) (by omega)
theorem pt_m {n x : Int32} (h0 : 0 ≤ x.toInt) (h1 : x.toInt ≤ 1) (hn0 : ¬ n < 0) (hn : n.toInt ≤ 96) : (n - (48 * x)).toInt = n.toInt - 48 * x.toInt := by
  have a := pt_48 h0 h1
  have b := q_nlt hn0
  have e0 : (0 : Int32).toInt = 0 := by decide
  rw [q_sub (by omega) (by omega), a]
theorem pt_m1 {n x : Int32} (h0 : 0 ≤ x.toInt) (h1 : x.toInt ≤ 1) (hn0 : ¬ n < 0) (hn : n.toInt ≤ 96) (c : (n - (48 * x)) ≤ 48) : (n - (48 * x)).toInt ≤ n.toInt - 48 * x.toInt ∧ (n - (48 * x)).toInt ≤ 48 := by
  have a := pt_m h0 h1 hn0 hn
  have b := q_le c
  have e : (48 : Int32).toInt = 48 := by decide
  omega
theorem pt_m2 {n x : Int32} (h0 : 0 ≤ x.toInt) (h1 : x.toInt ≤ 1) (hn0 : ¬ n < 0) (hn : n.toInt ≤ 96) (c : ¬ (n - (48 * x)) ≤ 48) : (48 : Int32).toInt ≤ n.toInt - 48 * x.toInt ∧ (48 : Int32).toInt ≤ 48 := by
  have a := pt_m h0 h1 hn0 hn
  have b : (48 : Int32).toInt < (n - (48 * x)).toInt := by
    rw [Int32.le_iff_toInt_le] at c; omega
  have e : (48 : Int32).toInt = 48 := by decide
  omega
theorem pt_ti {n x w m : Int32} {j : Nat} (h0 : 0 ≤ x.toInt) (h1 : x.toInt ≤ 1) (hn : n.toInt ≤ 96) (ew : w = nI j) (hj : j < 51) (c3 : ¬ w < 3) (cm : ¬ m ≤ (w - 3)) (hm : m.toInt ≤ n.toInt - 48 * x.toInt) : vp_in (((48 * x) + w) - 3) 96 := by
  have a := pt_48 h0 h1
  have b := q_nlt c3
  have d := q_nle cm
  have e3 : (3 : Int32).toInt = 3 := by decide
  have ej : w.toInt = (j : Int) := by rw [ew, nI_toInt (by omega)]
  have s1 : (w - 3).toInt = w.toInt - 3 := by rw [q_sub (by omega) (by omega), e3]
  have s2 : ((48 * x) + w).toInt = 48 * x.toInt + w.toInt := by rw [q_add (by omega) (by omega), a]
  have s3 : (((48 * x) + w) - 3).toInt = 48 * x.toInt + w.toInt - 3 := by rw [q_sub (by omega) (by omega), s2, e3]
  exact q_in (by omega) (by omega)
theorem pt_bk {v : Int32} {j n : Nat} (h : 0 ≤ v.toInt) (ev : v.toInt = (j : Int) - 1) (h2 : j ≤ 2) (hn : j < n + 1) {rs : Int32} (h3 : 3 ≤ rs.toInt) (h4 : rs.toInt ≤ 40) {us : Nat → Int32} (hc : j + 2 ≤ cnt0 us) {la : Int32} (hl : la = (-1) ∨ vp_in la 200) : ∃ i : Nat, (v + (-1)).toInt = (i : Int) - 1 ∧ i ≤ 2 ∧ i < n ∧ 3 ≤ rs.toInt ∧ rs.toInt ≤ 40 ∧ i + 3 ≤ cnt0 us ∧ (la = (-1) ∨ vp_in la 200) := by
  have em : (-1 : Int32).toInt = -1 := by decide
  refine ⟨j - 1, ?_, by omega, by omega, h3, h4, by omega, hl⟩
  rw [q_add (by omega) (by omega), em]; omega
theorem q_k4 {x : Int32} (h : 4 ≤ x) : 4 ≤ x.toInt := by
  have a := q_le h
  have e : (4 : Int32).toInt = 4 := by decide
  omega
theorem q_k3 {x : Int32} (h : 3 ≤ x) : 3 ≤ x.toInt := by
  have a := q_le h
  have e : (3 : Int32).toInt = 3 := by decide
  omega
