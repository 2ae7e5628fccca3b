/-! THE CLAIM OUT OF ONE WALK OF THE LAW'S BODY. Your part is whole_start (and what it stands on); all else here is the same for every law, but numbers. -/
def R_law : String := "OneTimerLaw"
def lw_P (b : Addr) (xs : List Int32) (args : Array Value) (s : State) : Prop := args = #[.ref b] ∧ s.IntsAt b xs ∧ xs.length ≤ 256 ∧ (Jvm.Cond.and given_1 narrow_1).before args s = true
def lw_Q (_ : Array Value) (s : State) (o : Outcome) (t : State) : Prop := o = .returned (some (.int 1)) ∧ Framed s o t [] 600000 7302250
def lw_Z (below : List Frame) (a : Array Value) (s : State) : State → Prop := fun t => ∃ o, t.status = .running ∧ Ended t below o ∧ lw_Q a s o t
/-- the law's own end, with 1 on the stack, nothing written that was there before, its room as the claim has it -/
theorem lw_ret {p : Program} {l : Launch} {e : Env} {s : State} {m : MethodId} {below : List Frame} {meth : Method} {c : Code} {b : Nat} (hx : p.tables.exec = Jvm.exec) (hb : c.code = code) (hr : meth.sig.returnType = ret) (hlocks : meth.locks = false) {pc : Nat} {H : Heap} {ls : Array Slot} (hdg : decode code pc = .ok (.ireturn, 1)) : W p l e room_1 s m #[Value.ref b] below meth c H [] 600000 7302250 (lw_Z below #[Value.ref b] s) (F0 m pc ls [.int 1]) := by
  intro T hT X
  obtain ⟨fs, hret, hrun, hended, hW, hframe⟩ := X.leave (v := some (.int 1)) (hlocks := hlocks) (fun h => by rw [hr] at h; cases h)
  have hmeth' : T.vm.method? m = some meth := X.method'
  refine ⟨T.setFrames fs, ?_, .returned (some (.int 1)), hrun, hended, rfl, ⟨_, rfl⟩, hW, hframe⟩
  jvm_step X.here [X.here.top, hx, hb, hdg, hmeth', hr, ret, narrow_b1]
  (try refine ⟨rfl, ?_⟩); (try refine ⟨rfl, ?_⟩)
  first | (intro acts; rw [hret _ acts rfl rfl rfl]) | rw [hret _ _ rfl rfl rfl]
  exact Steps.refl _
/-- what holds at the law's entry: the machine, the code, the tables' words (any of lw_tbl by 'hts w (by decide +kernel)'), the script of L ints xs at the cell b, what the Statement gives of the start (any of its parts by flat_of_before) -/
def lw_At (p : Program) (s : State) (m : MethodId) (meth : Method) (c : Code) (b L : Nat) (xs : Nat → Int32) : Prop :=
  p.tables.exec = Jvm.exec ∧ c.code = code ∧ meth.sig.returnType = ret ∧ c.maxLocals = 4 ∧ s.vm.findClass R_law = some m.cls ∧ (∀ w ∈ lw_tbl, w.before #[Value.ref b] s = true) ∧ va_X b L xs s s.heap ∧ b < s.heap.size ∧ meth.locks = false ∧ (Jvm.Cond.and given_1 narrow_1).before #[Value.ref b] s = true
section LR
variable {p : Program} {l : Launch} {e : Env} {R : Room} {s : State} {m : MethodId} {args : Array Value} {below : List Frame} {meth : Method} {c : Code} {A : Nat → Prop} {G : zGT} {cc : ByteArray} {nL : Nat} {rt : Option FieldType} {own nm : String} {Ts : List Cond} {Q : State → Prop} {cs ss : Nat} {w : va_W} {lv : List (Nat × Value)} {pc : Nat} {st : List Value} {b L : Nat} {xs : Nat → Int32}
theorem z_sld (C : zC p s m args meth c A G cc nL rt own nm Ts) (hX : va_X b L xs s s.heap) (hbl : b < s.heap.size) (hbA : ¬ A b) {i : Int32} (hin : vp_in i L) (hd : decode cc pc = .ok (.iaload, 1)) (kk : Z p l e R s m args below meth c A G nL Q cs ss w lv (pc + 1) (.int (xs i.toNatClampNeg) :: st)) : Z p l e R s m args below meth c A G nL Q cs ss w lv pc (.int i :: .ref b :: st) := fun H locs ls hP hD hS hl => va_sld C.hx C.hb hX hbl hbA hS hin hd (kk H locs ls hP hD hS hl)
theorem z_slen (C : zC p s m args meth c A G cc nL rt own nm Ts) (hX : va_X b L xs s s.heap) (hbl : b < s.heap.size) (hbA : ¬ A b) (hd : decode cc pc = .ok (.arraylength, 1)) (kk : Z p l e R s m args below meth c A G nL Q cs ss w lv (pc + 1) (.int (nI L) :: st)) : Z p l e R s m args below meth c A G nL Q cs ss w lv pc (.ref b :: st) := fun H locs ls hP hD hS hl => va_slen C.hx C.hb hX hbl hbA hS hd (kk H locs ls hP hD hS hl)
theorem z_arg (C : zC p s m args meth c A G cc nL rt own nm Ts) (hX : va_X b L xs s s.heap) (hbl : b < s.heap.size) (hbA : ¬ A b) {k j : Nat} (hj : 4 * k + j < L) (hL : L ≤ 256) {n : Int} (hn : Int32.ofInt n = nI j) (l0 : lv[0]? = some (0, .ref b)) (l3 : lv[3]? = some (3, .int (nI (4 * k)))) (d1 : decode cc pc = .ok (.aload_n 0, 1)) (d2 : decode cc (pc + 1) = .ok (.iload_n 3, 1)) (d3 : decode cc (pc + 1 + 1) = .ok (.iconst n, 1)) (d4 : decode cc (pc + 1 + 1 + 1) = .ok (.iadd, 1)) (d5 : decode cc (pc + 1 + 1 + 1 + 1) = .ok (.iaload, 1)) (kk : Z p l e R s m args below meth c A G nL Q cs ss w lv (pc + 1 + 1 + 1 + 1 + 1) (.int (xs (4 * k + j)) :: st)) : Z p l e R s m args below meth c A G nL Q cs ss w lv pc st := by
  refine z_aload_n C 0 d1 rfl l0 ?_
  refine z_iload_n C 3 d2 rfl l3 ?_
  refine z_iconst C d3 hn ?_
  refine z_iadd C d4 ?_
  have e1 : nI (4 * k) + nI j = nI (4 * k + j) := nI_add _ _
  rw [e1]
  refine z_sld C hX hbl hbA (vp_in_nI hj (by omega)) d5 ?_
  rw [nI_clamp (by omega)]
  exact kk
end LR
theorem lcmp_self (r : Int64) : lg_cmp r r = 0 := by
  unfold lg_cmp
  simp
theorem andI (a b : Nat) : nI a &&& nI b = nI (a &&& b) := by
  apply Int32.toBitVec_inj.1
  show BitVec.ofNat 32 a &&& BitVec.ofNat 32 b = BitVec.ofNat 32 (a &&& b)
  apply BitVec.eq_of_getLsbD_eq
  intro i hi
  simp [hi]
theorem and31 (x : Int32) : ∃ k : Nat, k < 32 ∧ x &&& 31 = nI k := by
  have hx : x = nI x.toBitVec.toNat := Int32.toBitVec_inj.mp (by show _ = BitVec.ofNat 32 _; simp)
  refine ⟨x.toBitVec.toNat % 32, Nat.mod_lt _ (by decide), ?_⟩
  have e : (31 : Int32) = nI (2 ^ 5 - 1) := rfl
  rw [e]
  conv => lhs; rw [hx]
  rw [andI, Nat.and_two_pow_sub_one_eq_mod]
