/-! the tree on the disk: K the keys, L the pages of its 85 places; what holds of it -/
theorem lgc {x y : Int64} : lg_cmp x y = 0 ↔ x = y := by
  unfold lg_cmp
  constructor
  · intro h
    split at h
    · exact absurd h (by decide)
    · split at h
      · assumption
      · exact absurd h (by decide)
  · intro h
    subst h
    rw [if_neg (by rw [gt_iff_lt, Int64.lt_iff_toInt_lt]; omega), if_pos rfl]
theorem lgc0 {x : Int64} : lg_cmp x 0 = 0 ↔ x = 0 := lgc
theorem nI_m1 {p : Nat} (hp : p < 2147483648) : ¬ nI p = (-1) := fun h => absurd (congrArg Int32.toInt h) (by rw [nI_toInt (by omega), show ((-1 : Int32)).toInt = -1 by decide]; omega)
theorem nI_65535 {p : Nat} (hp : p < 65535) : ¬ nI p = 65535 := fun h => by
  have := (nI_eq (a := p) (b := 65535) (by omega) (by omega)).mp h
  omega
/-- the tag of page q is of key k -/
def tagOK (M : Nat → Int32) (k : Int64) (q : Nat) : Prop := pTag M q = fn_X9_pad k (pWrit M q).toInt64 100
def nodeAt (M : Nat → Int32) (k : Int64) (q : Nat) : Prop := q < 200 ∧ pKind M q = 1 ∧ tagOK M k q
def dataAt (M : Nat → Int32) (k : Int64) (q : Nat) : Prop := q < 200 ∧ pKind M q = 2 ∧ tagOK M k q ∧ (sPl M k q 2 &&& 255).toInt ≤ 48
/-- the next page of data, or none -/
def nxt (M : Nat → Int32) (k : Int64) (q : Nat) : Int32 := if sPage (sPl M k q) 0 = 65535 then (-1) else sPage (sPl M k q) 0
/-- a chain of at most d pages of data -/
def chS (M : Nat → Int32) (k : Int64) : Nat → Int32 → Prop
  | 0, p => p = (-1)
  | d + 1, p => p = (-1) ∨ ∃ q, p = nI q ∧ dataAt M k q ∧ chS M k d (nxt M k q)
def TI (M : Nat → Int32) (ck : Int64) (cp : Int32) (K : Nat → Int64) (L : Nat → Int32) : Prop :=
  K 0 = ck ∧ (¬ ck = 0 → L 0 = cp) ∧
  (∀ p, p < 21 → ¬ K p = 0 → ∃ q, L p = nI q ∧ nodeAt M (K p) q ∧ ∀ e, e < 4 → K (4 * p + 1 + e) = sKey (sPl M (K p) q) e ∧ (¬ K (4 * p + 1 + e) = 0 → L (4 * p + 1 + e) = sPage (sPl M (K p) q) (10 * e + 8))) ∧
  (∀ p, p < 21 → K p = 0 → ∀ e, e < 4 → K (4 * p + 1 + e) = 0) ∧
  (∀ o, 21 ≤ o → o < 85 → ¬ K o = 0 → ∃ q, L o = nI q ∧ dataAt M (K o) q ∧ chS M (K o) 1 (nxt M (K o) q))
/-- the way to object o -/
def pathP (o : Nat) : Nat → Nat
  | 0 => 0
  | 1 => 1 + o / 16
  | 2 => 5 + o / 4
  | _ => 21 + o
def ent (o : Nat) : Nat → Nat
  | 0 => o / 16
  | 1 => o / 4 % 4
  | _ => o % 4
theorem ent_lt {o : Nat} (ho : o < 64) (j : Nat) : ent o j < 4 := by
  match j with
  | 0 => show o / 16 < 4; omega
  | 1 => show o / 4 % 4 < 4; omega
  | _ + 2 => show o % 4 < 4; omega
theorem path_next {o : Nat} (ho : o < 64) {j : Nat} (hj : j < 3) : pathP o (j + 1) = 4 * pathP o j + 1 + ent o j := by
  match j, hj with
  | 0, _ => show 1 + o / 16 = 4 * 0 + 1 + o / 16; omega
  | 1, _ => show 5 + o / 4 = 4 * (1 + o / 16) + 1 + o / 4 % 4; omega
  | 2, _ => show 21 + o = 4 * (5 + o / 4) + 1 + o % 4; omega
theorem path_lt {o : Nat} (ho : o < 64) {j : Nat} (hj : j < 3) : pathP o j < 21 := by
  match j, hj with
  | 0, _ => show 0 < 21; omega
  | 1, _ => show 1 + o / 16 < 21; omega
  | 2, _ => show 5 + o / 4 < 21; omega
def pgOf (K : Nat → Int64) (L : Nat → Int32) (p : Nat) : Int32 := if K p = 0 then (-1) else L p
/-- the way is found up to level j -/
def WI (K : Nat → Int64) (L : Nat → Int32) (o : Nat) (wk : Nat → Int64) (wp : Nat → Int32) (j : Nat) : Prop := ∀ a, a ≤ j → wk a = K (pathP o a) ∧ wp a = pgOf K L (pathP o a)
section TREE
variable {M : Nat → Int32} {ck : Int64} {cp : Int32} {K : Nat → Int64} {L : Nat → Int32} {o : Nat}
theorem WI_0a {wk : Nat → Int64} {wp : Nat → Int32} (hT : TI M ck cp K L) (h : ck = 0) : WI K L o (vp_updL wk (0 : Int32).toNatClampNeg ck) (upd wp (0 : Int32).toNatClampNeg (-1)) 0 := by
  intro a ha
  have e : a = (0 : Int32).toNatClampNeg := Nat.le_zero.mp ha
  rw [e, pk_uLs, pk_us]
  show ck = K 0 ∧ (-1) = pgOf K L 0
  unfold pgOf
  rw [hT.1, if_pos h]
  exact ⟨rfl, rfl⟩
theorem WI_0b {wk : Nat → Int64} {wp : Nat → Int32} (hT : TI M ck cp K L) (h : ¬ ck = 0) : WI K L o (vp_updL wk (0 : Int32).toNatClampNeg ck) (upd wp (0 : Int32).toNatClampNeg cp) 0 := by
  intro a ha
  have e : a = (0 : Int32).toNatClampNeg := Nat.le_zero.mp ha
  rw [e, pk_uLs, pk_us]
  show ck = K 0 ∧ cp = pgOf K L 0
  unfold pgOf
  rw [hT.1, if_neg h, hT.2.1 h]
  exact ⟨rfl, rfl⟩
theorem WI_ok {wk : Nat → Int64} {wp : Nat → Int32} (hT : TI M ck cp K L) (ho : o < 64) {j : Nat} (hj : j < 3) (h : WI K L o wk wp j) : wp j = (-1) ∨ vp_in (wp j) 200 := by
  rw [(h j (Nat.le_refl j)).2]
  unfold pgOf
  by_cases hk : K (pathP o j) = 0
  · rw [if_pos hk]; exact Or.inl rfl
  · rw [if_neg hk]
    obtain ⟨q, e, hq, -⟩ := hT.2.2.1 _ (path_lt ho hj) hk
    rw [e]; exact Or.inr (vp_in_nI hq.1 (by decide))
theorem WI_step {wk : Nat → Int64} {wp : Nat → Int32} (hT : TI M ck cp K L) (ho : o < 64) {j : Nat} (hj : j < 3) (h : WI K L o wk wp j) {ek ek' : Nat → Int64} {ep pl ep' pl' : Nat → Int32} (hw : fn_X9_openNode M ek ep pl (wk j) (wp j) = (ek', ep', pl')) : ∀ e, e < 4 → ek' e = K (4 * pathP o j + 1 + e) ∧ (¬ K (4 * pathP o j + 1 + e) = 0 → ep' e = L (4 * pathP o j + 1 + e)) := by
  obtain ⟨h1, h2⟩ := h j (Nat.le_refl j)
  intro e he
  by_cases hk : K (pathP o j) = 0
  · rw [h2] at hw
    unfold pgOf at hw
    rw [if_pos hk] at hw
    obtain ⟨a, b, c, e1, e2⟩ := m_openNone (M := M) (k := wk j) ek ep pl
    rw [e1] at hw
    cases hw
    have q := hT.2.2.2.1 _ (path_lt ho hj) hk e he
    rw [(e2 e he).1, q]
    exact ⟨rfl, fun h => absurd rfl h⟩
  · obtain ⟨q, e1, hq, e2⟩ := hT.2.2.1 _ (path_lt ho hj) hk
    rw [h2] at hw
    unfold pgOf at hw
    rw [if_neg hk, e1, h1] at hw
    obtain ⟨a, b, c, e3, e4⟩ := m_openNode (M := M) (k := K (pathP o j)) hq.1 ek ep pl
    rw [e3] at hw
    cases hw
    rw [(e4 e he).1, (e4 e he).2]
    exact ⟨(e2 e he).1.symm, fun h => ((e2 e he).2 h).symm⟩
theorem WI_s {wk : Nat → Int64} {wp : Nat → Int32} (ho : o < 64) {j : Nat} (hj : j < 3) (h : WI K L o wk wp j) {k : Int64} {g : Int32} (hk : k = K (4 * pathP o j + 1 + ent o j)) (hg : g = pgOf K L (4 * pathP o j + 1 + ent o j)) {v : Int32} (ev : v = nI j) : WI K L o (vp_updL wk ((v + 1) : Int32).toNatClampNeg k) (upd wp ((v + 1) : Int32).toNatClampNeg g) (j + 1) := by
  intro a ha
  rw [ev, nI_1, nI_clamp (by omega)]
  by_cases e : a = j + 1
  · subst e
    rw [pk_uLs, pk_us, path_next ho hj]
    exact ⟨hk, hg⟩
  · rw [pk_uLn e, pk_un e]
    exact h a (by omega)
theorem WI_sa {wk : Nat → Int64} {wp : Nat → Int32} (hT : TI M ck cp K L) (ho : o < 64) {j : Nat} (hj : j < 3) (h : WI K L o wk wp j) {ek ek' : Nat → Int64} {ep pl ep' pl' : Nat → Int32} {v r : Int32} (hw : fn_X9_openNode M ek ep pl (wk (v : Int32).toNatClampNeg) (wp (v : Int32).toNatClampNeg) = (ek', ep', pl')) (ev : v = nI j) (er : r = nI (ent o j)) (c : ek' (r : Int32).toNatClampNeg = 0) : WI K L o (vp_updL wk ((v + 1) : Int32).toNatClampNeg (ek' (r : Int32).toNatClampNeg)) (upd wp ((v + 1) : Int32).toNatClampNeg (-1)) (j + 1) := by
  have hl := ent_lt ho j
  rw [ev, nI_clamp (by omega)] at hw
  have q := WI_step hT ho hj h hw (ent o j) hl
  rw [er, nI_clamp (by omega)] at c ⊢
  refine WI_s ho hj h q.1 ?_ ev
  unfold pgOf
  rw [if_pos (q.1.symm.trans c)]
theorem WI_sb {wk : Nat → Int64} {wp : Nat → Int32} (hT : TI M ck cp K L) (ho : o < 64) {j : Nat} (hj : j < 3) (h : WI K L o wk wp j) {ek ek' : Nat → Int64} {ep pl ep' pl' : Nat → Int32} {v r : Int32} (hw : fn_X9_openNode M ek ep pl (wk (v : Int32).toNatClampNeg) (wp (v : Int32).toNatClampNeg) = (ek', ep', pl')) (ev : v = nI j) (er : r = nI (ent o j)) (c : ¬ ek' (r : Int32).toNatClampNeg = 0) : WI K L o (vp_updL wk ((v + 1) : Int32).toNatClampNeg (ek' (r : Int32).toNatClampNeg)) (upd wp ((v + 1) : Int32).toNatClampNeg (ep' (r : Int32).toNatClampNeg)) (j + 1) := by
  have hl := ent_lt ho j
  rw [ev, nI_clamp (by omega)] at hw
  have q := WI_step hT ho hj h hw (ent o j) hl
  rw [er, nI_clamp (by omega)] at c ⊢
  have c2 : ¬ K (4 * pathP o j + 1 + ent o j) = 0 := fun h => c (q.1.trans h)
  refine WI_s ho hj h q.1 ?_ ev
  unfold pgOf
  rw [if_neg c2]
  exact q.2 c2
theorem m_entryOf {v w r : Int32} (ho : o < 64) (eo : v = nI o) {j : Nat} (ev : w = nI j) (hj : j ≤ 3) (h : fn_X9_entryOf v w = r) : r = nI (ent o j) := by
  subst h
  unfold fn_X9_entryOf
  rw [eo, ev]
  match j, hj with
  | 0, _ =>
    rw [if_pos (by decide), show (16 : Int32) = nI 16 from rfl, pk_div (by omega) (by decide) (by decide)]
    rfl
  | 1, _ =>
    rw [if_neg (by decide), if_pos (by decide), show (4 : Int32) = nI 4 from rfl, pk_div (by omega) (by decide) (by decide), pk_rem (by omega) (by decide) (by decide)]
    rfl
  | 2, _ =>
    rw [if_neg (by decide), if_neg (by decide), show (4 : Int32) = nI 4 from rfl, pk_rem (by omega) (by decide) (by decide)]
    rfl
  | 3, _ =>
    rw [if_neg (by decide), if_neg (by decide), show (4 : Int32) = nI 4 from rfl, pk_rem (by omega) (by decide) (by decide)]
    rfl
/-- the reference finds the way -/
theorem m_findWay_L (hT : TI M ck cp K L) (ho : o < 64) {v : Int32} (eo : v = nI o) : ∀ (n c j : Nat) (ek : Nat → Int64) (ep pl : Nat → Int32) (wk : Nat → Int64) (wp : Nat → Int32) (x : Int32), x = nI j → j + c = 3 → c < n → WI K L o wk wp j → ∃ (ek' : Nat → Int64) (ep' pl' : Nat → Int32) (wk' : Nat → Int64) (wp' : Nat → Int32), fn_X9_findWay_L35 n ck cp M ek ep pl wk wp v x = (ek', ep', pl', wk', wp') ∧ WI K L o wk' wp' 3 := by
  intro n
  induction n with
  | zero => intro c j ek ep pl wk wp x hx hj hc; omega
  | succ n ih =>
    intro c j ek ep pl wk wp x hx hj hc h
    rw [fn_X9_findWay_L35]
    cases c with
    | zero =>
      rw [if_pos (by rw [hx]; exact nI_le (a := 3) (by omega) (by omega))]
      exact ⟨_, _, _, _, _, rfl, by rw [show j = 3 by omega] at h; exact h⟩
    | succ c =>
      rw [if_neg (by rw [hx]; exact nI_ge (b := 3) (by omega) (by omega)), bnd3]
      obtain ⟨a, b, d, e1⟩ : ∃ a b d, fn_X9_openNode M ek ep pl (wk (x : Int32).toNatClampNeg) (wp (x : Int32).toNatClampNeg) = (a, b, d) := ⟨_, _, _, rfl⟩
      rw [e1, bnd1]
      have e2 := m_entryOf ho eo hx (by omega) rfl
      split
      · rename_i cc
        exact ih c (j + 1) _ _ _ _ _ _ (by rw [hx]; exact nI_1 j) (by omega) (by omega) (WI_sa hT ho (by omega) h e1 hx e2 (lgc0.mp cc))
      · rename_i cc
        exact ih c (j + 1) _ _ _ _ _ _ (by rw [hx]; exact nI_1 j) (by omega) (by omega) (WI_sb hT ho (by omega) h e1 hx e2 (mt lgc0.mpr cc))
theorem m_findWay (hT : TI M ck cp K L) (ho : o < 64) {v : Int32} (eo : v = nI o) (ek : Nat → Int64) (ep pl : Nat → Int32) (wk : Nat → Int64) (wp : Nat → Int32) : ∃ (ek' : Nat → Int64) (ep' pl' : Nat → Int32) (wk' : Nat → Int64) (wp' : Nat → Int32), fn_X9_findWay ck cp M ek ep pl wk wp v = (ek', ep', pl', wk', wp') ∧ WI K L o wk' wp' 3 := by
  unfold fn_X9_findWay
  split
  · rename_i c
    exact m_findWay_L hT ho eo 4 3 0 _ _ _ _ _ _ rfl (by decide) (by decide) (WI_0a hT (lgc0.mp c))
  · rename_i c
    exact m_findWay_L hT ho eo 4 3 0 _ _ _ _ _ _ rfl (by decide) (by decide) (WI_0b hT (mt lgc0.mpr c))
theorem m_findWay_WI (hT : TI M ck cp K L) (ho : o < 64) {v : Int32} (eo : v = nI o) {ek : Nat → Int64} {ep pl : Nat → Int32} {wk : Nat → Int64} {wp : Nat → Int32} {ek' : Nat → Int64} {ep' pl' : Nat → Int32} {wk' : Nat → Int64} {wp' : Nat → Int32} (hw : fn_X9_findWay ck cp M ek ep pl wk wp v = (ek', ep', pl', wk', wp')) : WI K L o wk' wp' 3 := by
  obtain ⟨a, b, c, d, e, h1, h2⟩ := m_findWay hT ho eo ek ep pl wk wp
  rw [h1] at hw
  cases hw
  exact h2
theorem chS_of (hT : TI M ck cp K L) (ho : o < 64) : chS M (K (21 + o)) 2 (pgOf K L (21 + o)) := by
  unfold pgOf
  by_cases h : K (21 + o) = 0
  · rw [if_pos h]; exact Or.inl rfl
  · rw [if_neg h]
    obtain ⟨q, e, h1, h2⟩ := hT.2.2.2.2 (21 + o) (by omega) (by omega) h
    exact Or.inr ⟨q, e, h1, h2⟩
theorem m_findWay_ch (hT : TI M ck cp K L) (ho : o < 64) {v : Int32} (eo : v = nI o) {ek : Nat → Int64} {ep pl : Nat → Int32} {wk : Nat → Int64} {wp : Nat → Int32} {ek' : Nat → Int64} {ep' pl' : Nat → Int32} {wk' : Nat → Int64} {wp' : Nat → Int32} (hw : fn_X9_findWay ck cp M ek ep pl wk wp v = (ek', ep', pl', wk', wp')) : chS M (wk' (3 : Int32).toNatClampNeg) 2 (wp' (3 : Int32).toNatClampNeg) := by
  have q := m_findWay_WI hT ho eo hw 3 (Nat.le_refl 3)
  show chS M (wk' 3) 2 (wp' 3)
  rw [q.1, q.2]
  exact chS_of hT ho
theorem chS_in {k : Int64} {d : Nat} {p : Int32} (h : chS M k d p) (hp : ¬ p = (-1)) : vp_in p 200 := by
  cases d with
  | zero => exact absurd h hp
  | succ d =>
    rcases h with h | ⟨q, e, h1, -⟩
    · exact absurd h hp
    · rw [e]; exact vp_in_nI h1.1 (by decide)
theorem m_findWay_ok (hT : TI M ck cp K L) (ho : o < 64) {v : Int32} (eo : v = nI o) {ek : Nat → Int64} {ep pl : Nat → Int32} {wk : Nat → Int64} {wp : Nat → Int32} {ek' : Nat → Int64} {ep' pl' : Nat → Int32} {wk' : Nat → Int64} {wp' : Nat → Int32} (hw : fn_X9_findWay ck cp M ek ep pl wk wp v = (ek', ep', pl', wk', wp')) : wp' (3 : Int32).toNatClampNeg = (-1) ∨ vp_in (wp' (3 : Int32).toNatClampNeg) 200 := by
  by_cases h : wp' (3 : Int32).toNatClampNeg = (-1)
  · exact Or.inl h
  · exact Or.inr (chS_in (m_findWay_ch hT ho eo hw) h)
theorem sPage_n (b : Nat → Int32) (j : Nat) : ∃ n, n < 65536 ∧ sPage b j = nI n := by
  refine ⟨(sPage b j).toBitVec.toNat, ?_, ?_⟩
  · refine Nat.lt_pow_two_of_testBit (n := 16) _ (fun i hi => ?_)
    show bt (sPage b j) i = false
    rcases Nat.lt_or_ge i 32 with h | h
    · unfold sPage
      rw [b_or, show (8 : Int32) = nI 8 from rfl, b_shl 8 (by decide) _ h, b_and, b_and, b_255, b_255]
      simp [show ¬ i < 8 by omega, show ¬ i - 8 < 8 by omega]
    · exact b_big h
  · apply Int32.toBitVec_inj.mp
    show (sPage b j).toBitVec = BitVec.ofNat 32 (sPage b j).toBitVec.toNat
    rw [BitVec.ofNat_toNat, BitVec.setWidth_eq]
theorem m_nextOf {pl : Nat → Int32} : fn_X9_nextOf pl = if sPage pl 0 = 65535 then (-1) else sPage pl 0 := rfl
theorem m_nextOf_ge {pl : Nat → Int32} {r : Int32} (h : fn_X9_nextOf pl = r) : r = (-1) ∨ 0 ≤ r.toInt := by
  rw [m_nextOf] at h
  split at h
  · exact Or.inl h.symm
  · obtain ⟨n, hn, e⟩ := sPage_n pl 0
    rw [← h, e, nI_toInt (by omega)]; exact Or.inr (by omega)
theorem q_np {r : Int32} (h : r = (-1) ∨ 0 ≤ r.toInt) (c : r < 200) : r = (-1) ∨ vp_in r 200 := by
  rcases h with h | h
  · exact Or.inl h
  · have := q_lt c
    have e : (200 : Int32).toInt = 200 := by decide
    exact Or.inr (q_in h (by omega))
theorem m_open_next {k : Int64} {q : Nat} (hq : q < 200) (pl : Nat → Int32) : fn_X9_nextOf (fn_X9_open M pl k (nI q)) = nxt M k q := by
  have hb : ∀ j, j < 51 → fn_X9_open M pl k (nI q) j = sPl M k q j := fun j hj => by rw [m_open hq, if_pos hj]
  rw [m_nextOf, sPage_cg (by decide) hb]
  rfl
theorem chS_next {k : Int64} {d n : Nat} {p r : Int32} {pl pl' : Nat → Int32} (h : chS M k d p) (hp : ¬ p = (-1)) (hd : d < n + 1) (h1 : fn_X9_open M pl k p = pl') (h2 : fn_X9_nextOf pl' = r) : ∃ d', d' < n ∧ chS M k d' r := by
  cases d with
  | zero => exact absurd h hp
  | succ d =>
    rcases h with h | ⟨q, e, hq, h3⟩
    · exact absurd h hp
    · refine ⟨d, by omega, ?_⟩
      rw [← h2, ← h1, e, m_open_next hq.1]
      exact h3
theorem sPl_255 (x : Int32) : 0 ≤ (x &&& 255).toInt := by
  obtain ⟨j, hj, e⟩ := pk_andE x (m := 255) 8 (by decide)
  rw [e, nI_toInt (by omega)]; omega
theorem chS_len {k : Int64} {d : Nat} {p : Int32} {pl pl' : Nat → Int32} (h : chS M k d p) (hp : ¬ p = (-1)) (h1 : fn_X9_open M pl k p = pl') : 0 ≤ (pl' (2 : Int32).toNatClampNeg &&& 255).toInt ∧ (pl' (2 : Int32).toNatClampNeg &&& 255).toInt ≤ 48 := by
  cases d with
  | zero => exact absurd h hp
  | succ d =>
    rcases h with h | ⟨q, e, hq, h3⟩
    · exact absurd h hp
    · refine ⟨sPl_255 _, ?_⟩
      show (pl' 2 &&& 255).toInt ≤ 48
      rw [← h1, e, m_open hq.1, if_pos (by decide)]
      exact hq.2.2.2
theorem at_s {u v l : Int32} {d : Nat} (h0 : 0 ≤ v.toInt) (h1 : v.toInt + 48 * (d : Int) ≤ 96) (hl : 0 ≤ l.toInt ∧ l.toInt ≤ 48) : (v + l).toInt = v.toInt + l.toInt := q_add (by omega) (by omega)
theorem at_in {u v l : Int32} {d : Nat} (h0 : 0 ≤ v.toInt) (h1 : v.toInt + 48 * (d : Int) ≤ 96) (c : ¬ u < 0) (h2 : ¬ u < 0 → v.toInt ≤ u.toInt) (hl : 0 ≤ l.toInt ∧ l.toInt ≤ 48) (c2 : ¬ (v + l) ≤ u) : vp_in ((3 + u) - v) 51 := by
  have a := q_nle c2
  rw [at_s (u := u) h0 h1 hl] at a
  have b := h2 c
  have e3 : (3 : Int32).toInt = 3 := by decide
  have s1 : (3 + u).toInt = 3 + u.toInt := by rw [q_add (by omega) (by omega), e3]
  have s2 : ((3 + u) - v).toInt = 3 + u.toInt - v.toInt := by rw [q_sub (by omega) (by omega), s1]
  exact q_in (by omega) (by omega)
theorem at_next {k : Int64} {d n : Nat} {p r u v : Int32} {pl pl' : Nat → Int32} (h : chS M k d p) (hp : ¬ p = (-1)) (hd : d < n + 1) (h1 : fn_X9_open M pl k p = pl') (h2 : fn_X9_nextOf pl' = r) (h3 : 0 ≤ v.toInt) (h4 : v.toInt + 48 * (d : Int) ≤ 96) (h5 : ¬ u < 0 → v.toInt ≤ u.toInt) (hl : 0 ≤ (pl' (2 : Int32).toNatClampNeg &&& 255).toInt ∧ (pl' (2 : Int32).toNatClampNeg &&& 255).toInt ≤ 48) (c : ¬ u < 0) (c2 : (v + (pl' (2 : Int32).toNatClampNeg &&& 255)) ≤ u) : ∃ d' : Nat, d' < n ∧ chS M k d' r ∧ 0 ≤ (v + (pl' (2 : Int32).toNatClampNeg &&& 255)).toInt ∧ (v + (pl' (2 : Int32).toNatClampNeg &&& 255)).toInt + 48 * (d' : Int) ≤ 96 ∧ (¬ u < 0 → (v + (pl' (2 : Int32).toNatClampNeg &&& 255)).toInt ≤ u.toInt) := by
  have a := q_le c2
  have e := at_s (u := u) h3 h4 hl
  cases d with
  | zero => exact absurd h hp
  | succ d =>
    rcases h with h | ⟨q, eq, hq, h6⟩
    · exact absurd h hp
    · refine ⟨d, by omega, ?_, by omega, by omega, fun _ => a⟩
      rw [← h2, ← h1, eq, m_open_next hq.1]
      exact h6
end TREE
