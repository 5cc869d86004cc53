/-! THE CLAIM OUT OF ONE WALK OF THE LAW'S BODY. Your part is whole_start (and what it stands on); all else here is the same for every law, but numbers. -/
def R_law : String := "ShredStoreLaw"
def lw_P (b : Addr) (xs : List Int32) (args : Array Value) (s : State) : Prop := args = #[.ref b] ∧ s.IntsAt b xs ∧ xs.length ≤ 1536 ∧ (Jvm.Cond.and given_1 narrow_1).before args s = true
def lw_Q (_ : Array Value) (s : State) (o : Outcome) (t : State) : Prop := o = .returned (some (.int 1)) ∧ Framed s o t [] 38 23570
def lw_Z (below : List Frame) (a : Array Value) (s : State) : State → Prop := fun t => ∃ o, t.status = .running ∧ Ended t below o ∧ lw_Q a s o t
/-- the law's own end, with 1 on the stack, nothing written that was there before, its room as the claim has it -/
theorem lw_ret {p : Program} {l : Launch} {e : Env} {s : State} {m : MethodId} {below : List Frame} {meth : Method} {c : Code} {b : Nat} (hx : p.tables.exec = Jvm.exec) (hb : c.code = code) (hr : meth.sig.returnType = ret) (hlocks : meth.locks = false) {pc : Nat} {H : Heap} {ls : Array Slot} (hdg : decode code pc = .ok (.ireturn, 1)) : W p l e room_1 s m #[Value.ref b] below meth c H [] 38 23570 (lw_Z below #[Value.ref b] s) (F0 m pc ls [.int 1]) := by
  intro T hT X
  obtain ⟨fs, hret, hrun, hended, hW, hframe⟩ := X.leave (v := some (.int 1)) (hlocks := hlocks) (fun h => by rw [hr] at h; cases h)
  have hmeth' : T.vm.method? m = some meth := X.method'
  refine ⟨T.setFrames fs, ?_, .returned (some (.int 1)), hrun, hended, rfl, ⟨_, rfl⟩, hW, hframe⟩
  jvm_step X.here [X.here.top, hx, hb, hdg, hmeth', hr, ret, narrow_b1]
  (try refine ⟨rfl, ?_⟩); (try refine ⟨rfl, ?_⟩)
  first | (intro acts; rw [hret _ acts rfl rfl rfl]) | rw [hret _ _ rfl rfl rfl]
  exact Steps.refl _
/-- what holds at the law's entry: the machine, the code, the tables' words (any of lw_tbl by 'hts w (by decide +kernel)'), the script of L ints xs at the cell b, what the Statement gives of the start (any of its parts by flat_of_before) -/
def lw_At (p : Program) (s : State) (m : MethodId) (meth : Method) (c : Code) (b L : Nat) (xs : Nat → Int32) : Prop :=
  p.tables.exec = Jvm.exec ∧ c.code = code ∧ meth.sig.returnType = ret ∧ c.maxLocals = 4 ∧ s.vm.findClass R_law = some m.cls ∧ (∀ w ∈ lw_tbl, w.before #[Value.ref b] s = true) ∧ va_X b L xs s s.heap ∧ b < s.heap.size ∧ meth.locks = false ∧ (Jvm.Cond.and given_1 narrow_1).before #[Value.ref b] s = true
/-! what the calls want of the state -/
theorem okb_of {x : Int32} (h : x = 0 ∨ x = 1) : okb x := by rcases h with rfl | rfl <;> rfl
section SIX
variable {t : Nat} {on rl : Int32} {rk : Nat → Int64} {rml tpl : Int32} {ck : Int64} {cp sd : Int32} {W : Nat → Int64} {M : Nat → Int32} {lc oc tss : Int32} {tkk : Nat → Int64} {tlk tlv : Nat → Int32} {rln rss : Int32} {rkk : Nat → Int64} {la lm : Int32}
theorem si_rl0 (h : SI t on rl rk rml tpl ck cp sd W M lc oc tss tkk tlk tlv rln rss rkk la lm) : 0 ≤ rl.toInt := by obtain ⟨n, hn, e, -⟩ := h.2.1.1; rw [e, nI_toInt (by omega)]; omega
theorem si_rl1 (h : SI t on rl rk rml tpl ck cp sd W M lc oc tss tkk tlk tlv rln rss rkk la lm) : rl.toInt ≤ 40 := by obtain ⟨n, hn, e, -⟩ := h.2.1.1; rw [e, nI_toInt (by omega)]; omega
theorem si_rm0 (h : SI t on rl rk rml tpl ck cp sd W M lc oc tss tkk tlk tlv rln rss rkk la lm) : 0 ≤ rml.toInt := by obtain ⟨n, hn, e⟩ := h.2.1.2.1; rw [e, nI_toInt (by omega)]; omega
theorem si_rm1 (h : SI t on rl rk rml tpl ck cp sd W M lc oc tss tkk tlk tlv rln rss rkk la lm) : rml.toInt ≤ 3000 := by obtain ⟨n, hn, e⟩ := h.2.1.2.1; rw [e, nI_toInt (by omega)]; omega
theorem si_tp0 (h : SI t on rl rk rml tpl ck cp sd W M lc oc tss tkk tlk tlv rln rss rkk la lm) : 0 ≤ tpl.toInt := by obtain ⟨n, hn, e⟩ := h.2.1.2.2; rw [e, nI_toInt (by omega)]; omega
theorem si_tp1 (h : SI t on rl rk rml tpl ck cp sd W M lc oc tss tkk tlk tlv rln rss rkk la lm) : tpl.toInt ≤ 96 := by obtain ⟨n, hn, e⟩ := h.2.1.2.2; rw [e, nI_toInt (by omega)]; omega
theorem si_la (h : SI t on rl rk rml tpl ck cp sd W M lc oc tss tkk tlk tlv rln rss rkk la lm) : vp_in la 200 := h.2.2.2.1
theorem si_lm (h : SI t on rl rk rml tpl ck cp sd W M lc oc tss tkk tlk tlv rln rss rkk la lm) : lm = (-1) ∨ vp_in lm 200 := h.2.2.2.2.1
theorem si_ti (h : SI t on rl rk rml tpl ck cp sd W M lc oc tss tkk tlk tlv rln rss rkk la lm) : ∃ (K : Nat → Int64) (L : Nat → Int32), TI M ck cp K L := by obtain ⟨K, L, hT, -⟩ := h.2.2.1.2.2.2.1; exact ⟨K, L, hT⟩
theorem si_rn0 (h : SI t on rl rk rml tpl ck cp sd W M lc oc tss tkk tlk tlv rln rss rkk la lm) : 0 ≤ rln.toInt := h.2.2.1.2.2.2.2.2.1
theorem si_rn1 (h : SI t on rl rk rml tpl ck cp sd W M lc oc tss tkk tlk tlv rln rss rkk la lm) : rln.toInt ≤ 801 := h.2.2.1.2.2.2.2.2.2
end SIX
