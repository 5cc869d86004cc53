/-! sizes and bytes of objects -/
section SZ
variable {W : Nat → Int64} {M : Nat → Int32} {ck : Int64} {cp on : Int32} {k : Int64} {keys : Nat → Int64} {links : Nat → Int32} {v : Int32} {ek : Nat → Int64} {ep : Nat → Int32} {wk : Nat → Int64} {wp : Nat → Int32}
theorem pcR_m {pc p : Int32} (h : pcR pc p) (e : p = (-1)) : pc = 65535 := h.elim (fun h => absurd e h.2) (fun h => h.1)
theorem pcR_n {pc p : Int32} {a : Nat} (h : pcR pc p) (e : p = nI a) (ha : a < 200) : pc = nI a := h.elim (fun h => h.1.trans e) (fun h => absurd (e.symm.trans h.2) (nI_m1 (by omega)))
theorem open_2 {q : Nat} (hq : q < 200) (pl : Nat → Int32) {j : Nat} (hj : j < 51) : fn_X9_open M pl k (nI q) j = sPl M k q j := by rw [m_open hq, if_pos hj]
theorem sim_size (h : BR 12800 W M) (hw : ∀ p, p < 200 → bt (pWrit M p) 31 = false) (hk : keys ((21 + v : Int32)).toNatClampNeg = k) (hk2 : wk 3 = k) : ∀ (d n n' j : Nat) (bo : Nat → Int64) (pl : Nat → Int32) (acc pc p x : Int32), x = nI j → j + d < 200 → d < n → d < n' → chS M k d p → pcR pc p → ∃ (r : Int32) (bo' : Nat → Int64) (pl' : Nat → Int32), fn_X6_objectSize_L25 n bo W keys links v acc pc x = (r, bo') ∧ fn_X9_size_L40 n' ck cp on M ek ep pl wk wp p acc = (r, ek, ep, pl', wk, wp) := by
  have none : ∀ (d n n' j : Nat) (bo : Nat → Int64) (pl : Nat → Int32) (acc pc p x : Int32), x = nI j → j + d < 200 → d < n → d < n' → p = (-1) → pcR pc p → ∃ (r : Int32) (bo' : Nat → Int64) (pl' : Nat → Int32), fn_X6_objectSize_L25 n bo W keys links v acc pc x = (r, bo') ∧ fn_X9_size_L40 n' ck cp on M ek ep pl wk wp p acc = (r, ek, ep, pl', wk, wp) := by
    intro d n n' j bo pl acc pc p x hx hj hn hn' hp hc
    obtain ⟨n, rfl⟩ : ∃ m, n = m + 1 := ⟨n - 1, by omega⟩
    obtain ⟨n', rfl⟩ : ∃ m, n' = m + 1 := ⟨n' - 1, by omega⟩
    rw [pcR_m hc hp, fn_X6_objectSize_L25, fn_X9_size_L40, if_neg (by rw [hx]; exact nI_ge (b := 200) (by omega) (by omega)), bnd2, c_open0, if_pos rfl, if_pos hp]
    exact ⟨acc, bo, pl, rfl, rfl⟩
  intro d
  induction d with
  | zero => intro n n' j bo pl acc pc p x hx hj hn hn' hp hc; exact none 0 n n' j bo pl acc pc p x hx hj hn hn' hp hc
  | succ d ih =>
    intro n n' j bo pl acc pc p x hx hj hn hn' hp hc
    rcases hp with hp | ⟨a, ea, ha, hp⟩
    · exact none (d + 1) n n' j bo pl acc pc p x hx hj hn hn' hp hc
    · obtain ⟨n, rfl⟩ : ∃ m, n = m + 1 := ⟨n - 1, by omega⟩
      obtain ⟨n', rfl⟩ : ∃ m, n' = m + 1 := ⟨n' - 1, by omega⟩
      have ha' := ha.1
      obtain ⟨b1, e1, e2⟩ := c_open1 h hw hk ha bo
      rw [pcR_n hc ea ha', ea, fn_X6_objectSize_L25, fn_X9_size_L40, if_neg (by rw [hx]; exact nI_ge (b := 200) (by omega) (by omega)), bnd2, e1, if_neg (show ¬ (1 : Int32) = 0 by decide), bnd1, bnd1, c_dataLength e2, c_nextPage e2, if_neg (nI_m1 (by omega)), bnd1, bnd1, show wk ((3 : Int32).toNatClampNeg) = k from hk2, m_open_next ha', show fn_X9_open M pl k (nI a) (2 : Int32).toNatClampNeg = sPl M k a 2 from open_2 ha' pl (by decide), hx]
      exact ih n n' (j + 1) b1 _ _ _ _ _ (nI_1 j) (by omega) (by omega) (by omega) hp (pcR_nx M k a)
theorem q_up {x : Int32} {i : Int} (h0 : 0 ≤ i) (h1 : i < 2147483648) (h : x.toInt = i) : x = nI i.toNat := by
  apply Int32.toInt_inj.mp
  rw [nI_toInt (by omega), h]; omega
theorem sim_at (h : BR 12800 W M) (hw : ∀ p, p < 200 → bt (pWrit M p) 31 = false) (hk : keys ((21 + v : Int32)).toNatClampNeg = k) (hk2 : wk 3 = k) {i : Int32} (hi : ¬ i < 0) : ∀ (d n n' j : Nat) (bo : Nat → Int64) (pl : Nat → Int32) (rest fr pc p x : Int32), x = nI j → j + d < 200 → d < n → d < n' → chS M k d p → pcR pc p → 0 ≤ fr.toInt → fr.toInt + 48 * (d : Int) ≤ 96 → fr.toInt ≤ i.toInt → rest.toInt = i.toInt - fr.toInt → ∃ (r : Int32) (bo' : Nat → Int64) (pl' : Nat → Int32), fn_X6_objectByte_L30 n bo W keys links v rest pc x = (r, bo') ∧ fn_X9_at_L32 n' ck cp on M ek ep pl wk wp i p fr = (r, ek, ep, pl', wk, wp) := by
  have none : ∀ (d n n' j : Nat) (bo : Nat → Int64) (pl : Nat → Int32) (rest fr pc p x : Int32), x = nI j → j + d < 200 → d < n → d < n' → p = (-1) → pcR pc p → ∃ (r : Int32) (bo' : Nat → Int64) (pl' : Nat → Int32), fn_X6_objectByte_L30 n bo W keys links v rest pc x = (r, bo') ∧ fn_X9_at_L32 n' ck cp on M ek ep pl wk wp i p fr = (r, ek, ep, pl', wk, wp) := by
    intro d n n' j bo pl rest fr pc p x hx hj hn hn' hp hc
    obtain ⟨n, rfl⟩ : ∃ m, n = m + 1 := ⟨n - 1, by omega⟩
    obtain ⟨n', rfl⟩ : ∃ m, n' = m + 1 := ⟨n' - 1, by omega⟩
    rw [pcR_m hc hp, fn_X6_objectByte_L30, fn_X9_at_L32, if_neg (by rw [hx]; exact nI_ge (b := 200) (by omega) (by omega)), bnd2, c_open0, if_pos rfl, if_pos hp]
    exact ⟨-1, bo, pl, rfl, rfl⟩
  intro d
  induction d with
  | zero => intro n n' j bo pl rest fr pc p x hx hj hn hn' hp hc _ _ _ _; exact none 0 n n' j bo pl rest fr pc p x hx hj hn hn' hp hc
  | succ d ih =>
    intro n n' j bo pl rest fr pc p x hx hj hn hn' hp hc f0 f1 f2 f3
    rcases hp with hp | ⟨a, ea, ha, hp⟩
    · exact none (d + 1) n n' j bo pl rest fr pc p x hx hj hn hn' hp hc
    · obtain ⟨n, rfl⟩ : ∃ m, n = m + 1 := ⟨n - 1, by omega⟩
      obtain ⟨n', rfl⟩ : ∃ m, n' = m + 1 := ⟨n' - 1, by omega⟩
      have ha' := ha.1
      have hl := ha.2.2.2
      have hl0 := sPl_255 (sPl M k a 2)
      obtain ⟨b1, e1, e2⟩ := c_open1 h hw hk ha bo
      have i1 := i.toInt_lt
      have i2 := Int32.le_toInt i
      have i3 := q_nlt hi
      have e0 : (0 : Int32).toInt = 0 := by decide
      have s1 : (fr + (sPl M k a 2 &&& 255)).toInt = fr.toInt + (sPl M k a 2 &&& 255).toInt := q_add (by omega) (by omega)
      rw [pcR_n hc ea ha', ea, fn_X6_objectByte_L30, fn_X9_at_L32, if_neg (by rw [hx]; exact nI_ge (b := 200) (by omega) (by omega)), bnd2, e1, if_neg (show ¬ (1 : Int32) = 0 by decide), bnd1, bnd1, bnd1, bnd1, c_dataLength e2, c_nextPage e2, if_neg (nI_m1 (by omega)), if_neg hi, bnd1, bnd1, show wk ((3 : Int32).toNatClampNeg) = k from hk2, m_open_next ha', show fn_X9_open M pl k (nI a) (2 : Int32).toNatClampNeg = sPl M k a 2 from open_2 ha' pl (by decide), hx]
      by_cases c : (fr + (sPl M k a 2 &&& 255)) ≤ i
      · have c' := q_le c
        have s2 : (rest - (sPl M k a 2 &&& 255)).toInt = rest.toInt - (sPl M k a 2 &&& 255).toInt := q_sub (by omega) (by omega)
        rw [if_pos c, if_pos (Int32.le_iff_toInt_le.mpr (by omega))]
        exact ih n n' (j + 1) b1 _ _ _ _ _ _ (nI_1 j) (by omega) (by omega) (by omega) hp (pcR_nx M k a) (by omega) (by omega) (by omega) (by omega)
      · have c' := q_nle c
        have c2 : ¬ (sPl M k a 2 &&& 255) ≤ rest := fun c2 => by have := q_le c2; omega
        have er : rest = nI rest.toInt.toNat := q_up (by omega) (by omega) rfl
        have e3 : (3 : Int32).toInt = 3 := by decide
        have s3 : (3 + i).toInt = 3 + i.toInt ∨ 2147483645 ≤ i.toInt := by
          by_cases z : i.toInt < 2147483645
          · exact Or.inl (by rw [q_add (by omega) (by omega), e3])
          · exact Or.inr (by omega)
        have s4 : ((3 + i) - fr) = nI (3 + rest.toInt.toNat) := by
          rcases s3 with s3 | s3
          · apply q_up (i := ((3 + rest.toInt.toNat : Nat) : Int)) (by omega) (by omega)
            rw [q_sub (by omega) (by omega), s3]; omega
          · omega
        rw [if_neg c, if_neg c2, er, c_dataByte e2 (by omega), s4, nI_clamp (by omega), open_2 ha' pl (by omega)]
        exact ⟨_, _, _, rfl, rfl⟩
end SZ
