/-! THE LAW: what it rests on; its instructions, printed -/
/-! THE CLAIM OUT OF ONE WALK OF THE LAW'S BODY. Your part is whole_start (and what it stands on); all else here is the same for every law, but numbers. -/
def R_law : String := "CaravanZonesLaw"
def lw_P (b : Addr) (xs : List Int32) (args : Array Value) (s : State) : Prop := args = #[.ref b] ∧ s.IntsAt b xs ∧ xs.length ≤ 260 ∧ (Jvm.Cond.and given_1 narrow_1).before args s = true
def lw_Q (_ : Array Value) (s : State) (o : Outcome) (t : State) : Prop := o = .returned (some (.int 1)) ∧ Framed s o t [] 600000 7302250
def lw_Z (below : List Frame) (a : Array Value) (s : State) : State → Prop := fun t => ∃ o, t.status = .running ∧ Ended t below o ∧ lw_Q a s o t
/-- the law's own end, with 1 on the stack, nothing written that was there before, its room as the claim has it -/
theorem lw_ret {p : Program} {l : Launch} {e : Env} {s : State} {m : MethodId} {below : List Frame} {meth : Method} {c : Code} {b : Nat} (hx : p.tables.exec = Jvm.exec) (hb : c.code = code) (hr : meth.sig.returnType = ret) (hlocks : meth.locks = false) {pc : Nat} {H : Heap} {ls : Array Slot} (hdg : decode code pc = .ok (.ireturn, 1)) : W p l e room_1 s m #[Value.ref b] below meth c H [] 600000 7302250 (lw_Z below #[Value.ref b] s) (F0 m pc ls [.int 1]) := by
  intro T hT X
  obtain ⟨fs, hret, hrun, hended, hW, hframe⟩ := X.leave (v := some (.int 1)) (hlocks := hlocks) (fun h => by rw [hr] at h; cases h)
  have hmeth' : T.vm.method? m = some meth := X.method'
  refine ⟨T.setFrames fs, ?_, .returned (some (.int 1)), hrun, hended, rfl, ⟨_, rfl⟩, hW, hframe⟩
  jvm_step X.here [X.here.top, hx, hb, hdg, hmeth', hr, ret, narrow_b1]
  (try refine ⟨rfl, ?_⟩); (try refine ⟨rfl, ?_⟩)
  first | (intro acts; rw [hret _ acts rfl rfl rfl]) | rw [hret _ _ rfl rfl rfl]
  exact Steps.refl _
/-- what holds at the law's entry: the machine, the code, the tables' words (any of lw_tbl by 'hts w (by decide +kernel)'), the script of L ints xs at the cell b, what the Statement gives of the start (any of its parts by flat_of_before) -/
def lw_At (p : Program) (s : State) (m : MethodId) (meth : Method) (c : Code) (b L : Nat) (xs : Nat → Int32) : Prop :=
  p.tables.exec = Jvm.exec ∧ c.code = code ∧ meth.sig.returnType = ret ∧ c.maxLocals = 9 ∧ s.vm.findClass R_law = some m.cls ∧ (∀ w ∈ lw_tbl, w.before #[Value.ref b] s = true) ∧ va_X b L xs s s.heap ∧ b < s.heap.size ∧ meth.locks = false ∧ (Jvm.Cond.and given_1 narrow_1).before #[Value.ref b] s = true
theorem cz_d_0 : decode cL_cell 0 = .ok (.iload_n 1, 1) := by decide +kernel
theorem cz_d_1 : decode cL_cell 1 = .ok (.aload_n 0, 1) := by decide +kernel
theorem cz_d_2 : decode cL_cell 2 = .ok (.arraylength, 1) := by decide +kernel
theorem cz_d_3 : decode cL_cell 3 = .ok (.if_icmp .ge 9, 3) := by decide +kernel
theorem cz_d_6 : decode cL_cell 6 = .ok (.aload_n 0, 1) := by decide +kernel
theorem cz_d_7 : decode cL_cell 7 = .ok (.iload_n 1, 1) := by decide +kernel
theorem cz_d_8 : decode cL_cell 8 = .ok (.iaload, 1) := by decide +kernel
theorem cz_d_9 : decode cL_cell 9 = .ok (.goto 9, 3) := by decide +kernel
theorem cz_d_12 : decode cL_cell 12 = .ok (.ldc 7, 2) := by decide +kernel
theorem cz_d_14 : decode cL_cell 14 = .ok (.iload_n 1, 1) := by decide +kernel
theorem cz_d_15 : decode cL_cell 15 = .ok (.iconst 1, 1) := by decide +kernel
theorem cz_d_16 : decode cL_cell 16 = .ok (.iadd, 1) := by decide +kernel
theorem cz_d_17 : decode cL_cell 17 = .ok (.imul, 1) := by decide +kernel
theorem cz_d_18 : decode cL_cell 18 = .ok (.ireturn, 1) := by decide +kernel
theorem lz_d_0 : decode code 0 = .ok (.new 24, 3) := by decide +kernel
theorem lz_d_3 : decode code 3 = .ok (.dup, 1) := by decide +kernel
theorem lz_d_4 : decode code 4 = .ok (.invokespecial 110, 3) := by decide +kernel
theorem lz_d_7 : decode code 7 = .ok (.astore_n 1, 1) := by decide +kernel
theorem lz_d_8 : decode code 8 = .ok (.bipush 20, 2) := by decide +kernel
theorem lz_d_10 : decode code 10 = .ok (.newarray .int, 2) := by decide +kernel
theorem lz_d_12 : decode code 12 = .ok (.astore_n 2, 1) := by decide +kernel
theorem lz_d_13 : decode code 13 = .ok (.bipush 20, 2) := by decide +kernel
theorem lz_d_15 : decode code 15 = .ok (.newarray .int, 2) := by decide +kernel
theorem lz_d_17 : decode code 17 = .ok (.astore_n 3, 1) := by decide +kernel
theorem lz_d_18 : decode code 18 = .ok (.bipush 48, 2) := by decide +kernel
theorem lz_d_20 : decode code 20 = .ok (.newarray .int, 2) := by decide +kernel
theorem lz_d_22 : decode code 22 = .ok (.astore 4, 2) := by decide +kernel
theorem lz_d_24 : decode code 24 = .ok (.bipush 48, 2) := by decide +kernel
theorem lz_d_26 : decode code 26 = .ok (.newarray .int, 2) := by decide +kernel
theorem lz_d_28 : decode code 28 = .ok (.astore 5, 2) := by decide +kernel
theorem lz_d_30 : decode code 30 = .ok (.aload_n 2, 1) := by decide +kernel
theorem lz_d_31 : decode code 31 = .ok (.iconst 0, 1) := by decide +kernel
theorem lz_d_32 : decode code 32 = .ok (.iconst 4, 1) := by decide +kernel
theorem lz_d_33 : decode code 33 = .ok (.iastore, 1) := by decide +kernel
theorem lz_d_34 : decode code 34 = .ok (.aload_n 2, 1) := by decide +kernel
theorem lz_d_35 : decode code 35 = .ok (.iconst 1, 1) := by decide +kernel
theorem lz_d_36 : decode code 36 = .ok (.bipush 6, 2) := by decide +kernel
theorem lz_d_38 : decode code 38 = .ok (.iastore, 1) := by decide +kernel
theorem lz_d_39 : decode code 39 = .ok (.aload_n 2, 1) := by decide +kernel
theorem lz_d_40 : decode code 40 = .ok (.iconst 3, 1) := by decide +kernel
theorem lz_d_41 : decode code 41 = .ok (.bipush 60, 2) := by decide +kernel
theorem lz_d_43 : decode code 43 = .ok (.iastore, 1) := by decide +kernel
theorem lz_d_44 : decode code 44 = .ok (.aload_n 2, 1) := by decide +kernel
theorem lz_d_45 : decode code 45 = .ok (.iconst 4, 1) := by decide +kernel
theorem lz_d_46 : decode code 46 = .ok (.bipush 60, 2) := by decide +kernel
theorem lz_d_48 : decode code 48 = .ok (.iastore, 1) := by decide +kernel
theorem lz_d_49 : decode code 49 = .ok (.aload_n 2, 1) := by decide +kernel
theorem lz_d_50 : decode code 50 = .ok (.iconst 5, 1) := by decide +kernel
theorem lz_d_51 : decode code 51 = .ok (.iconst 3, 1) := by decide +kernel
theorem lz_d_52 : decode code 52 = .ok (.iastore, 1) := by decide +kernel
theorem lz_d_53 : decode code 53 = .ok (.aload_n 2, 1) := by decide +kernel
theorem lz_d_54 : decode code 54 = .ok (.bipush 6, 2) := by decide +kernel
theorem lz_d_56 : decode code 56 = .ok (.iconst 3, 1) := by decide +kernel
theorem lz_d_57 : decode code 57 = .ok (.iastore, 1) := by decide +kernel
theorem lz_d_58 : decode code 58 = .ok (.aload_n 3, 1) := by decide +kernel
theorem lz_d_59 : decode code 59 = .ok (.iconst 3, 1) := by decide +kernel
theorem lz_d_60 : decode code 60 = .ok (.iconst 1, 1) := by decide +kernel
theorem lz_d_61 : decode code 61 = .ok (.iastore, 1) := by decide +kernel
theorem lz_d_62 : decode code 62 = .ok (.iconst 0, 1) := by decide +kernel
theorem lz_d_63 : decode code 63 = .ok (.istore 6, 2) := by decide +kernel
theorem lz_d_65 : decode code 65 = .ok (.iload 6, 2) := by decide +kernel
theorem lz_d_67 : decode code 67 = .ok (.bipush 56, 2) := by decide +kernel
theorem lz_d_69 : decode code 69 = .ok (.if_icmp .ge 232, 3) := by decide +kernel
