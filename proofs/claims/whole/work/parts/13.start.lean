/-- what holds at the law's entry: the machine, the code, the tables' words (any of lw_tbl by 'hts w (by decide +kernel)'), the script of L ints xs at the cell b, what the Statement gives of the start (any of its parts by flat_of_before) -/
def lw_At (p : Program) (s : State) (m : MethodId) (meth : Method) (c : Code) (b L : Nat) (xs : Nat → Int32) : Prop :=
  p.tables.exec = Jvm.exec ∧ c.code = code ∧ meth.sig.returnType = ret ∧ c.maxLocals = 4 ∧ s.vm.findClass R_law = some m.cls ∧ (∀ w ∈ lw_tbl, w.before #[Value.ref b] s = true) ∧ va_X b L xs s s.heap ∧ b < s.heap.size ∧ meth.locks = false ∧ (Jvm.Cond.and given_1 narrow_1).before #[Value.ref b] s = true
def tmS (i : Nat) : Term := if i = 0 then .string "BowsOwed$Tape" 59 else .string "BowsOwed$Tape" 76
theorem arr_known {s : State} {args : Array Value} {ty : FieldType} (h : (Cond.arrayClass ty).before args s = true) (hp : ∀ C, ty ≠ .object C) : ∃ cA, ArrOfT s cA ty ∧ va_RA s cA ty := by
  obtain ⟨cA, k, comp, h1, h2, h3⟩ := Cond.arrayClass_spec h
  refine ⟨cA, fun n z => ⟨fun k h => (by cases h), k, h2, comp, h3⟩, ?_⟩
  cases ty with
  | object C => exact absurd rfl (hp C)
  | _ => exact h1
theorem row_known {s : State} {args : Array Value} {C : String} (h : (Cond.arrayOver (.object C)).before args s = true) : ∃ cA, ArrOfT s cA (.object C) ∧ va_RA s cA (.object C) := by
  obtain ⟨comp, cA, k, h1, h2, h3, h4, h5⟩ := Cond.arrayOver_spec h
  exact ⟨cA, fun n z => ⟨fun k h => (by cases h), k, h3, comp, h4⟩, k, comp, h3, h4, h1, h5⟩
def elS (i j : Nat) : Cond := Cond.eq (.elem (.field (tmS i) "java/lang/String" "value" "[B") (.int (Int32.ofNat j))) (.int ((strB.getD i []).getD j 0))
set_option maxRecDepth 100000 in
theorem els_0 : ((flatC (Jvm.Cond.and given_1 narrow_1)).drop 39).take 147 = (List.range 147).map (elS 0) := by decide +kernel
set_option maxRecDepth 100000 in
theorem els_1 : ((flatC (Jvm.Cond.and given_1 narrow_1)).drop 190).take 11 = (List.range 11).map (elS 1) := by decide +kernel
theorem els_mem {i p n : Nat} (h : ((flatC (Jvm.Cond.and given_1 narrow_1)).drop p).take n = (List.range n).map (elS i)) {j : Nat} (hj : j < n) : elS i j ∈ flatC (Jvm.Cond.and given_1 narrow_1) := by
  have h1 : elS i j ∈ (List.range n).map (elS i) := List.mem_map.mpr ⟨j, List.mem_range.mpr hj, rfl⟩
  rw [← h] at h1
  exact List.mem_of_mem_drop (List.mem_of_mem_take h1)
set_option maxHeartbeats 4000000 in
set_option maxRecDepth 100000 in
theorem str_known {s : State} {args : Array Value} {A : Nat → Prop} (hgv : (Jvm.Cond.and given_1 narrow_1).before args s = true) (hA : ∀ a : Nat, a < s.heap.size → ¬ A a) :
    ∃ adK adV : Nat → Nat, vk_S 2 strL strB adK adV A s s.heap ∧ ∀ i : Nat, i < 2 → (tmS i).eval args s none [] s = some (.ref (adK i)) := by
  have hs := flat_of_before _ hgv
  refine vk_Sof (tm := tmS) (by decide) (fun i hi => ?_) (fun i hi => ?_) (fun i hi => ?_) (fun i hi => ?_) (fun i hi j hj => ?_) (fun i j hi hj hne => ?_) hA
  · rcases q2 hi with rfl | rfl <;> exact hs _ (by decide +kernel)
  · rcases q2 hi with rfl | rfl <;> exact hs _ (by decide +kernel)
  · rcases q2 hi with rfl | rfl <;> exact hs _ (by decide +kernel)
  · rcases q2 hi with rfl | rfl <;> exact hs _ (by decide +kernel)
  · rcases q2 hi with rfl | rfl
    · exact hs _ (els_mem els_0 hj)
    · exact hs _ (els_mem els_1 hj)
  · rcases q2 hi with rfl | rfl <;> rcases q2 hj with rfl | rfl
    · exact absurd rfl hne
    · exact Or.inl (hs _ (by decide +kernel))
    · exact Or.inr (hs _ (by decide +kernel))
    · exact absurd rfl hne
