/-! the keys that can be come to: as lists -/
def fitP (M : Nat → Int32) (p : Nat) (k : Int64) : Bool := decide (pKind M p = 1) && decide (pTag M p = fn_X9_pad k (pWrit M p).toInt64 100)
def learnL (kl : List Int64) (x : Int64) : List Int64 := if x = 0 ∨ x ∈ kl then kl else kl ++ [x]
def tellN (M : Nat → Int32) (kl : List Int64) (k : Int64) (p : Nat) : Nat → List Int64
  | 0 => kl
  | e + 1 => learnL (tellN M kl k p e) (sKey (sPl M k p) e)
def askL (M : Nat → Int32) (kl : List Int64) (p : Nat) : List Int64 := match kl.find? (fitP M p) with
  | none => kl
  | some k => tellN M kl k p 4
def passL (M : Nat → Int32) (kl : List Int64) : Nat → List Int64
  | 0 => kl
  | n + 1 => askL M (passL M kl n) n
def iterL (M : Nat → Int32) (kl : List Int64) : Nat → List Int64
  | 0 => kl
  | n + 1 => passL M (iterL M kl n) 200
/-- the arrays hold the list -/
def RepL (kl : List Int64) (ks : Nat → Int64) (n : Int32) : Prop := n = nI kl.length ∧ ∀ i, i < kl.length → kl[i]? = some (ks i)
/-- T: pages that have told; each gives four keys at most -/
def GoodT (M : Nat → Int32) (kl : List Int64) (T : Nat → Bool) : Prop :=
  kl.length ≤ 1 + 4 * cntB T 200 ∧ (∀ x, x ∈ kl → ¬ x = 0) ∧ ∀ p, p < 200 → T p = true → ∃ k, kl.find? (fitP M p) = some k ∧ ∀ e, e < 4 → sKey (sPl M k p) e = 0 ∨ sKey (sPl M k p) e ∈ kl
theorem learnL_pre (kl : List Int64) (x : Int64) : ∃ xs, learnL kl x = kl ++ xs ∧ xs.length ≤ 1 ∧ (∀ y, y ∈ xs → y = x ∧ ¬ x = 0) ∧ (x = 0 ∨ x ∈ kl ++ xs) := by
  unfold learnL
  split
  · rename_i h
    exact ⟨[], (List.append_nil kl).symm, by decide, fun y hy => absurd hy List.not_mem_nil, by rw [List.append_nil]; exact h⟩
  · rename_i h
    refine ⟨[x], rfl, Nat.le_refl 1, fun y hy => ?_, Or.inr (by simp)⟩
    have hy : y = x := by simpa using hy
    exact ⟨hy, fun e => h (Or.inl e)⟩
theorem tellN_pre (M : Nat → Int32) (kl : List Int64) (k : Int64) (p : Nat) : ∀ j, ∃ xs, tellN M kl k p j = kl ++ xs ∧ xs.length ≤ j ∧ (∀ y, y ∈ xs → ¬ y = 0) ∧ ∀ e, e < j → sKey (sPl M k p) e = 0 ∨ sKey (sPl M k p) e ∈ kl ++ xs := by
  intro j
  induction j with
  | zero => exact ⟨[], (List.append_nil kl).symm, by decide, fun y hy => absurd hy List.not_mem_nil, fun e he => by omega⟩
  | succ j ih =>
    obtain ⟨xs, e1, e2, e3, e4⟩ := ih
    obtain ⟨ys, f1, f2, f3, f4⟩ := learnL_pre (tellN M kl k p j) (sKey (sPl M k p) j)
    refine ⟨xs ++ ys, ?_, ?_, ?_, ?_⟩
    · rw [tellN, f1, e1, List.append_assoc]
    · rw [List.length_append]; omega
    · intro y hy
      rcases List.mem_append.mp hy with h | h
      · exact e3 y h
      · rw [(f3 y h).1]; exact (f3 y h).2
    · intro e he
      rw [← List.append_assoc, ← e1]
      by_cases a : e = j
      · subst a; exact f4
      · rcases e4 e (by omega) with h | h
        · exact Or.inl h
        · refine Or.inr (List.mem_append.mpr (Or.inl ?_))
          rw [e1]; exact h
theorem tellN_same {M : Nat → Int32} {kl : List Int64} {k : Int64} {p : Nat} (h : ∀ e, e < 4 → sKey (sPl M k p) e = 0 ∨ sKey (sPl M k p) e ∈ kl) : ∀ j, j ≤ 4 → tellN M kl k p j = kl := by
  intro j
  induction j with
  | zero => intro _; rfl
  | succ j ih =>
    intro hj
    rw [tellN, ih (by omega)]
    unfold learnL
    rw [if_pos (h j (by omega))]
theorem find_app {f : Int64 → Bool} {a b : List Int64} {k : Int64} (h : a.find? f = some k) : (a ++ b).find? f = some k := by
  rw [List.find?_append, h]; rfl
theorem cntB_lt {T : Nat → Bool} {p : Nat} (hp : p < 200) (h : T p = false) : cntB T 200 ≤ 199 := by
  have e := cntB_up (f := T) (g := fun i => if i = p then true else T i) (q := p) h (by simp) (fun i hi => by simp [hi]) 200
  rw [if_pos hp] at e
  have := cntB_le (fun i => if i = p then true else T i) 200
  omega
theorem tellN_len {M : Nat → Int32} {kl : List Int64} {T : Nat → Bool} {k : Int64} {p : Nat} (hG : GoodT M kl T) (hp : p < 200) (hk : kl.find? (fitP M p) = some k) {j : Nat} (hj : j ≤ 4) : (tellN M kl k p j).length ≤ 801 := by
  have hc := cntB_le T 200
  have h1 := hG.1
  by_cases ht : T p = true
  · obtain ⟨k2, e1, e2⟩ := hG.2.2 p hp ht
    rw [hk] at e1
    cases e1
    rw [tellN_same e2 j hj]; omega
  · have h2 := cntB_lt hp (Bool.eq_false_iff.mpr ht)
    obtain ⟨xs, e1, e2, -⟩ := tellN_pre M kl k p j
    rw [e1, List.length_append]; omega
/-- a page tells: the list stays good -/
theorem tell_good {M : Nat → Int32} {kl : List Int64} {T : Nat → Bool} {k : Int64} {p : Nat} (hG : GoodT M kl T) (hp : p < 200) (hk : kl.find? (fitP M p) = some k) : ∃ T', GoodT M (tellN M kl k p 4) T' := by
  obtain ⟨xs, e1, e2, e3, e4⟩ := tellN_pre M kl k p 4
  have grow : ∀ q, q < 200 → T q = true → ∃ k, (kl ++ xs).find? (fitP M q) = some k ∧ ∀ e, e < 4 → sKey (sPl M k q) e = 0 ∨ sKey (sPl M k q) e ∈ kl ++ xs := by
    intro q hq ht
    obtain ⟨k2, f1, f2⟩ := hG.2.2 q hq ht
    exact ⟨k2, find_app f1, fun e he => (f2 e he).imp id (fun h => List.mem_append.mpr (Or.inl h))⟩
  have nz : ∀ x, x ∈ kl ++ xs → ¬ x = 0 := fun x hx => (List.mem_append.mp hx).elim (hG.2.1 x) (e3 x)
  by_cases ht : T p = true
  · refine ⟨T, ?_⟩
    obtain ⟨k2, f1, f2⟩ := hG.2.2 p hp ht
    rw [hk] at f1
    cases f1
    rw [tellN_same f2 4 (by decide)]
    exact hG
  · have htf := Bool.eq_false_iff.mpr ht
    refine ⟨fun i => if i = p then true else T i, ?_⟩
    rw [e1]
    have ec := cntB_up (f := T) (g := fun i => if i = p then true else T i) (q := p) htf (by simp) (fun i hi => by simp [hi]) 200
    rw [if_pos hp] at ec
    refine ⟨?_, nz, fun q hq hT => ?_⟩
    · rw [List.length_append, ec]
      have := hG.1
      omega
    · by_cases a : q = p
      · subst a
        exact ⟨k, find_app hk, e4⟩
      · exact grow q hq (by simpa [a] using hT)
theorem good_one (M : Nat → Int32) {k : Int64} (h : ¬ k = 0) : GoodT M [k] (fun _ => false) := ⟨by simp, fun x hx => by rw [List.mem_singleton.mp hx]; exact h, fun p _ h => absurd h Bool.false_ne_true⟩
theorem good_len {M : Nat → Int32} {kl : List Int64} {T : Nat → Bool} (h : GoodT M kl T) : kl.length ≤ 801 := by
  have := h.1
  have := cntB_le T 200
  omega
theorem ask_good {M : Nat → Int32} {kl : List Int64} {T : Nat → Bool} {p : Nat} (hG : GoodT M kl T) (hp : p < 200) : ∃ T', GoodT M (askL M kl p) T' := by
  unfold askL
  split
  · exact ⟨T, hG⟩
  · rename_i k hk
    exact tell_good hG hp hk
/-- arrays and the list -/
theorem RepL.len {kl : List Int64} {ks : Nat → Int64} {n : Int32} (h : RepL kl ks n) (hl : kl.length ≤ 801) : 0 ≤ n.toInt ∧ n.toInt ≤ 900 ∧ n.toInt = (kl.length : Int) := by
  rw [h.1, nI_toInt (by omega)]; omega
theorem RepL.push {kl : List Int64} {ks : Nat → Int64} {n : Int32} (h : RepL kl ks n) (hl : kl.length ≤ 801) (x : Int64) : RepL (kl ++ [x]) (vp_updL ks (n : Int32).toNatClampNeg x) (n + 1) := by
  refine ⟨by rw [h.1, nI_1, List.length_append]; rfl, fun i hi => ?_⟩
  rw [h.1, nI_clamp (by omega)]
  rw [List.length_append] at hi
  have hi : i < kl.length + 1 := hi
  by_cases a : i = kl.length
  · subst a
    rw [pk_uLs, List.getElem?_append_right (Nat.le_refl _), Nat.sub_self]; rfl
  · rw [pk_uLn a, List.getElem?_append_left (by omega)]
    exact h.2 i (by omega)
theorem RepL.mem {kl : List Int64} {ks : Nat → Int64} {n : Int32} (h : RepL kl ks n) {x : Int64} : x ∈ kl ↔ ∃ i, i < kl.length ∧ ks i = x := by
  constructor
  · intro hx
    obtain ⟨i, hi⟩ := List.getElem?_of_mem hx
    have hl : i < kl.length := by
      rcases Nat.lt_or_ge i kl.length with a | a
      · exact a
      · rw [List.getElem?_eq_none a] at hi; cases hi
    rw [h.2 i hl] at hi
    exact ⟨i, hl, Option.some.inj hi⟩
  · rintro ⟨i, hi, e⟩
    have := h.2 i hi
    rw [e] at this
    exact List.mem_of_getElem? this
theorem RepL.learn0 {kl : List Int64} {ks : Nat → Int64} {n : Int32} (h : RepL kl ks n) {x : Int64} (hx : x = 0 ∨ x ∈ kl) : RepL (learnL kl x) ks n := by
  unfold learnL; rw [if_pos hx]; exact h
theorem RepL.learn1 {kl : List Int64} {ks : Nat → Int64} {n : Int32} (h : RepL kl ks n) (hl : kl.length ≤ 801) {x : Int64} (hx : ¬ (x = 0 ∨ x ∈ kl)) : RepL (learnL kl x) (vp_updL ks (n : Int32).toNatClampNeg x) (n + 1) := by
  unfold learnL; rw [if_neg hx]; exact h.push hl x
theorem find_take_succ {f : Int64 → Bool} {kl : List Int64} {j : Nat} {x : Int64} (hj : kl[j]? = some x) : (kl.take (j + 1)).find? f = ((kl.take j).find? f).or (if f x then some x else none) := by
  rw [List.take_succ, hj, List.find?_append]
  congr 1
  simp [List.find?_cons]
  split <;> rename_i a <;> simp [a]
theorem find_take_some {f : Int64 → Bool} {kl : List Int64} {j : Nat} {x : Int64} (h : (kl.take j).find? f = some x) : kl.find? f = some x := by
  have := find_app (b := kl.drop j) h
  rwa [List.take_append_drop] at this
