/-! writing the branch on both sides -/
theorem ite5 {α : Type} {a b c d e : Prop} [Decidable a] [Decidable b] [Decidable c] [Decidable d] [Decidable e] {x y : α} : (if a then (if b then (if c then (if d then (if e then x else y) else x) else x) else x) else x) = if (a ∧ b ∧ c ∧ d) ∧ ¬ e then y else x := by
  by_cases ha : a
  · by_cases hb : b
    · by_cases hc : c
      · by_cases hd : d
        · by_cases he : e
          · rw [if_pos ha, if_pos hb, if_pos hc, if_pos hd, if_pos he, if_neg (fun h => h.2 he)]
          · rw [if_pos ha, if_pos hb, if_pos hc, if_pos hd, if_neg he, if_pos ⟨⟨ha, hb, hc, hd⟩, he⟩]
        · rw [if_pos ha, if_pos hb, if_pos hc, if_neg hd, if_neg (fun h => hd h.1.2.2.2)]
      · rw [if_pos ha, if_pos hb, if_neg hc, if_neg (fun h => hc h.1.2.2.1)]
    · rw [if_pos ha, if_neg hb, if_neg (fun h => hb h.1.2.1)]
  · rw [if_neg ha, if_neg (fun h => ha h.1.1)]
theorem path_up {o c e j : Nat} (ho : o < 64) (hc : c < 3) (he : e < 4) (hj : c + 1 < j) (hj3 : j ≤ 3) : ¬ 4 * pathP o c + 1 + e = pathP o j := by
  match c, hc, j, hj3 with
  | 0, _, 2, _ => show ¬ 4 * 0 + 1 + e = 5 + o / 4; omega
  | 0, _, 3, _ => show ¬ 4 * 0 + 1 + e = 21 + o; omega
  | 1, _, 3, _ => show ¬ 4 * (1 + o / 16) + 1 + e = 21 + o; omega
  | 0, _, 0, _ => omega
  | 0, _, 1, _ => omega
  | 1, _, 0, _ => omega
  | 1, _, 1, _ => omega
  | 1, _, 2, _ => omega
  | 2, _, 0, _ => omega
  | 2, _, 1, _ => omega
  | 2, _, 2, _ => omega
  | 2, _, 3, _ => omega
theorem path_dn {o c e j : Nat} (ho : o < 64) (hc : c < 3) (hj : j ≤ c) : ¬ 4 * pathP o c + 1 + e = pathP o j := by
  match c, hc, j, hj with
  | 0, _, 0, _ => show ¬ 4 * 0 + 1 + e = 0; omega
  | 1, _, 0, _ => show ¬ 4 * (1 + o / 16) + 1 + e = 0; omega
  | 1, _, 1, _ => show ¬ 4 * (1 + o / 16) + 1 + e = 1 + o / 16; omega
  | 2, _, 0, _ => show ¬ 4 * (5 + o / 4) + 1 + e = 0; omega
  | 2, _, 1, _ => show ¬ 4 * (5 + o / 4) + 1 + e = 1 + o / 16; omega
  | 2, _, 2, _ => show ¬ 4 * (5 + o / 4) + 1 + e = 5 + o / 4; omega
theorem path_0 {o c : Nat} (ho : o < 64) (hc : c < 3) : pathP o c = 0 ↔ c = 0 := by
  match c, hc with
  | 0, _ => exact ⟨fun _ => rfl, fun _ => rfl⟩
  | 1, _ => show 1 + o / 16 = 0 ↔ _; omega
  | 2, _ => show 5 + o / 4 = 0 ↔ _; omega
theorem OKn_cg {M U : Nat → Int32} {K K' : Nat → Int64} {L L' : Nat → Int32} {p : Nat} (h : OKn M U K L p) (e1 : K' p = K p ∧ L' p = L p) (e2 : ∀ e, e < 4 → K' (4 * p + 1 + e) = K (4 * p + 1 + e) ∧ L' (4 * p + 1 + e) = L (4 * p + 1 + e)) : OKn M U K' L' p := by
  unfold OKn
  rw [e1.1, e1.2]
  refine ⟨fun hk => ?_, fun hk e he => by rw [(e2 e he).1]; exact h.2 hk e he⟩
  obtain ⟨q, a1, a2, a3, a4⟩ := h.1 hk
  refine ⟨q, a1, a2, a3, fun e he => ?_⟩
  rw [(e2 e he).1, (e2 e he).2]
  exact a4 e he
theorem OKd_cg {M U : Nat → Int32} {K K' : Nat → Int64} {L L' : Nat → Int32} {p : Nat} (h : OKd M U K L p) (e1 : K' p = K p ∧ L' p = L p) : OKd M U K' L' p := by
  unfold OKd
  rw [e1.1, e1.2]
  exact h
theorem nodeB_cg {ck ck' : Nat → Int64} {cp cp' : Nat → Int32} (h : ∀ e, e < 4 → ck e = ck' e ∧ (¬ ck e = 0 → cp e = cp' e)) {i : Nat} (hi : i < 51) (t : Nat) : nodeB ck cp i t = nodeB ck' cp' i t := by
  unfold nodeB
  by_cases a : 40 ≤ i
  · rw [if_pos a, if_pos a]
  · obtain ⟨e1, e2⟩ := h (i / 10) (by omega)
    rw [if_neg a, if_neg a, ← e1]
    by_cases b : ck (i / 10) = 0
    · rw [if_pos b, if_pos b]
    · rw [if_neg b, if_neg b, e2 b]
/-- what is known on the way up, c levels left -/
def Up (M us : Nat → Int32) (K : Nat → Int64) (L : Nat → Int32) (o c : Nat) (key : Int64) (page : Int32) (K1 : Nat → Int64) (L1 : Nat → Int32) : Prop :=
  (∀ i, i < 85 → (∀ j, c ≤ j → j ≤ 3 → ¬ i = pathP o j) → K1 i = K i ∧ L1 i = L i) ∧ (K1 (pathP o c) = key ∧ (¬ key = 0 → L1 (pathP o c) = page)) ∧ (∀ p, p < 21 → (∀ j, j < c → ¬ p = pathP o j) → OKn M us K1 L1 p) ∧ ∀ p, 21 ≤ p → p < 85 → OKd M us K1 L1 p
section SB
variable {M us : Nat → Int32} {K : Nat → Int64} {L : Nat → Int32} {o c : Nat} {key : Int64} {page : Int32} {K1 : Nat → Int64} {L1 : Nat → Int32} {tkk : Nat → Int64} {tl : Nat → Int32}
theorem up_kid (ho : o < 64) (hc : c < 3) (h : Up M us K L o (c + 1) key page K1 L1) {e : Nat} (he : e < 4) : if e = ent o c then K1 (4 * pathP o c + 1 + e) = key ∧ (¬ key = 0 → L1 (4 * pathP o c + 1 + e) = page) else K1 (4 * pathP o c + 1 + e) = K (4 * pathP o c + 1 + e) ∧ L1 (4 * pathP o c + 1 + e) = L (4 * pathP o c + 1 + e) := by
  have hp := path_next ho hc
  have hl := path_lt ho hc
  by_cases a : e = ent o c
  · rw [if_pos a, a, ← hp]
    exact h.2.1
  · rw [if_neg a]
    refine h.1 _ (by omega) (fun j h1 h2 => ?_)
    by_cases b : j = c + 1
    · subst b; rw [hp]; omega
    · exact path_up ho hc he (by omega) h2
theorem up_kidc (ho : o < 64) (hc : c < 3) (h : Up M us K L o (c + 1) key page K1 L1) (hTr : ∀ i, i < 85 → tkk i = K i ∧ (¬ K i = 0 → tl i = L i)) {e : Nat} (he : e < 4) : ckOf tkk (pathP o c) (pathP o (c + 1)) key e = K1 (4 * pathP o c + 1 + e) ∧ (¬ K1 (4 * pathP o c + 1 + e) = 0 → cpOf tl (pathP o c) (pathP o (c + 1)) page e = L1 (4 * pathP o c + 1 + e)) := by
  have hp := path_next ho hc
  have hl := path_lt ho hc
  have q := up_kid ho hc h he
  unfold ckOf cpOf
  by_cases a : e = ent o c
  · rw [if_pos a] at q
    rw [if_pos (by rw [hp, a]), if_pos (by rw [hp, a])]
    exact ⟨q.1.symm, fun hz => (q.2 (by rw [← q.1]; exact hz)).symm⟩
  · rw [if_neg a] at q
    rw [if_neg (by rw [hp]; omega), if_neg (by rw [hp]; omega), q.1, q.2]
    exact hTr _ (by omega)
theorem up_kidm (ho : o < 64) (hc : c < 3) (h : Up M us K L o (c + 1) key page K1 L1) {a : Nat → Int64} {b : Nat → Int32} (hab : ∀ e, e < 4 → a e = K (4 * pathP o c + 1 + e) ∧ (¬ K (4 * pathP o c + 1 + e) = 0 → b e = L (4 * pathP o c + 1 + e))) {e : Nat} (he : e < 4) : vp_updL a (ent o c) key e = K1 (4 * pathP o c + 1 + e) ∧ (¬ K1 (4 * pathP o c + 1 + e) = 0 → upd b (ent o c) page e = L1 (4 * pathP o c + 1 + e)) := by
  have q := up_kid ho hc h he
  by_cases g : e = ent o c
  · rw [if_pos g] at q
    rw [← g, pk_uLs, pk_us]
    exact ⟨q.1.symm, fun hz => (q.2 (by rw [← q.1]; exact hz)).symm⟩
  · rw [if_neg g] at q
    rw [pk_uLn g, pk_un g, q.1, q.2]
    exact hab e he
theorem up_pg (ho : o < 64) (hc : c < 3) (h : Up M us K L o (c + 1) key page K1 L1) {e : Nat} (he : e < 4) (hk : ¬ K1 (4 * pathP o c + 1 + e) = 0) : ∃ q, L1 (4 * pathP o c + 1 + e) = nI q ∧ q < 65536 := by
  have hl := path_lt ho hc
  by_cases a : 4 * pathP o c + 1 + e < 21
  · obtain ⟨q, e1, -, hq, -⟩ := (h.2.2.1 _ a (fun j hj => path_dn ho hc (by omega))).1 hk
    exact ⟨q, e1, by have := hq.1; omega⟩
  · rcases h.2.2.2 _ (by omega) (by omega) hk with ⟨q, e1, hq, -⟩ | ⟨q, e1, hq, -⟩
    · exact ⟨q, e1, by have := hq.1; omega⟩
    · exact ⟨q, e1, by have := hq.1; omega⟩
/-- one level up -/
theorem up_step (ho : o < 64) (hc : c < 3) (h : Up M us K L o (c + 1) key page K1 L1) {M' us' : Nat → Int32} (hF : FR M M' us) (hL : UL us us') {k2 : Int64} {p2 : Int32} (hn : OKn M' us' (fun i => if i = pathP o c then k2 else K1 i) (fun i => if i = pathP o c then p2 else L1 i) (pathP o c)) : Up M' us' K L o c k2 p2 (fun i => if i = pathP o c then k2 else K1 i) (fun i => if i = pathP o c then p2 else L1 i) := by
  have hl := path_lt ho hc
  refine ⟨fun i hi hj => ?_, ⟨if_pos rfl, fun _ => if_pos rfl⟩, fun p hp hj => ?_, fun p h1 h2 => ?_⟩
  · have ne := hj c (Nat.le_refl c) (by omega)
    show (if i = pathP o c then k2 else K1 i) = _ ∧ (if i = pathP o c then p2 else L1 i) = _
    rw [if_neg ne, if_neg ne]
    exact h.1 i hi (fun j a b => hj j (by omega) b)
  · by_cases e : p = pathP o c
    · subst e; exact hn
    · refine OKn_cg (OKn_fr hF hL (h.2.2.1 p hp (fun j a => ?_))) ⟨if_neg e, if_neg e⟩ (fun f hf => ?_)
      · by_cases b : j = c
        · subst b; exact e
        · exact hj j (by omega)
      · have ne : ¬ 4 * p + 1 + f = pathP o c := by
          cases c with
          | zero => show ¬ _ = 0; omega
          | succ c =>
            have := hj c (by omega)
            rw [path_next ho (by omega)]
            have := ent_lt ho c
            omega
        exact ⟨if_neg ne, if_neg ne⟩
  · have ne : ¬ p = pathP o c := by omega
    exact OKd_cg (OKd_fr hF hL (h.2.2.2 p h1 h2)) ⟨if_neg ne, if_neg ne⟩
theorem up_empty (ho : o < 64) (hc : c < 3) (h : Up M us K L o (c + 1) key page K1 L1) (hz : ∀ e, e < 4 → K1 (4 * pathP o c + 1 + e) = 0) : Up M us K L o c 0 0 (fun i => if i = pathP o c then 0 else K1 i) (fun i => if i = pathP o c then 0 else L1 i) := by
  refine up_step ho hc h (FR.refl _ _) (UL.refl _) ⟨fun hk => absurd (if_pos rfl) hk, fun _ e he => ?_⟩
  show (if 4 * pathP o c + 1 + e = pathP o c then 0 else K1 (4 * pathP o c + 1 + e)) = 0
  rw [if_neg (path_dn ho hc (Nat.le_refl c))]
  exact hz e he
theorem up_write (ho : o < 64) (hc : c < 3) (h : Up M us K L o (c + 1) key page K1 L1) {M' pl : Nat → Int32} {q : Nat} {k2 : Int64} (hF : FR M M' us) (hq : q < 200) (hk2 : ¬ k2 = 0) (n1 : pKind M' q = 1) (n2 : tagOK M' k2 q) (n3 : ∀ i, i < 51 → sPl M' k2 q i &&& 255 = pl i &&& 255) {ek : Nat → Int64} {ep : Nat → Int32} (hpl : ∀ i, i < 51 → ∀ t, t < 8 → bt (pl i) t = nodeB ek ep i t) (hE : ∀ e, e < 4 → ek e = K1 (4 * pathP o c + 1 + e) ∧ (¬ K1 (4 * pathP o c + 1 + e) = 0 → ep e = L1 (4 * pathP o c + 1 + e))) : Up M' (upd us q (vp_nar .boolean 1)) K L o c k2 (nI q) (fun i => if i = pathP o c then k2 else K1 i) (fun i => if i = pathP o c then nI q else L1 i) := by
  have hb : ∀ i, i < 51 → ∀ t, t < 8 → bt (sPl M' k2 q i) t = nodeB ek ep i t := fun i hi t ht => (bt_255 (n3 i hi) ht).trans (hpl i hi t ht)
  refine up_step ho hc h hF (UL_upd us q) ⟨fun _ => ⟨q, if_pos rfl, by rw [pk_us, nar1]; decide, ?_, fun e he => ?_⟩, fun hk => absurd ((if_pos rfl).symm.trans hk) hk2⟩
  · show nodeAt M' (if pathP o c = pathP o c then k2 else _) q
    rw [if_pos rfl]; exact ⟨hq, n1, n2⟩
  · have ne := path_dn (e := e) ho hc (Nat.le_refl c)
    show (if 4 * pathP o c + 1 + e = pathP o c then k2 else K1 (4 * pathP o c + 1 + e)) = sKey (sPl M' (if pathP o c = pathP o c then k2 else _) q) e ∧ (¬ (if 4 * pathP o c + 1 + e = pathP o c then k2 else K1 (4 * pathP o c + 1 + e)) = 0 → (if 4 * pathP o c + 1 + e = pathP o c then nI q else L1 (4 * pathP o c + 1 + e)) = sPage (sPl M' (if pathP o c = pathP o c then k2 else _) q) (10 * e + 8))
    rw [if_neg ne, if_neg ne, if_pos rfl, nodeB_key hb he]
    refine ⟨(hE e he).1.symm, fun hz => ?_⟩
    obtain ⟨r, e1, e2⟩ := up_pg ho hc h he hz
    rw [e1]
    exact (nodeB_page hb he (((hE e he).2 hz).trans e1) e2 (by rw [(hE e he).1]; exact hz)).symm
end SB
