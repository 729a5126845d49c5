/-! WHAT IS THERE AT THE LAW'S START: the classes, the arrays' classes, the constants -/
theorem tt1 {w : Cond} (h : w ∈ tables_1_1) : w ∈ lw_tbl := List.mem_append_right _ (show w ∈ tables_1 from List.mem_append_left _ h)
theorem tt2 {w : Cond} (h : w ∈ tables_1_2) : w ∈ lw_tbl := List.mem_append_right _ (show w ∈ tables_1 from List.mem_append_right _ (List.mem_append_left _ h))
theorem tt3 {w : Cond} (h : w ∈ tables_1_3) : w ∈ lw_tbl := List.mem_append_right _ (show w ∈ tables_1 from List.mem_append_right _ (List.mem_append_right _ (List.mem_append_left _ h)))
theorem x_kin : ∀ k : Nat, k < 13 → Cond.instantiable (cR k) (cN k) ∈ lw_u
  | 0, _ => kin_0.1
  | 1, _ => kin_1.1
  | 2, _ => kin_2.1
  | 3, _ => kin_3.1
  | 4, _ => kin_4.1
  | 5, _ => kin_5.1
  | 6, _ => kin_6.1
  | 7, _ => kin_7.1
  | 8, _ => kin_8.1
  | 9, _ => kin_9.1
  | 10, _ => kin_10.1
  | 11, _ => kin_11.1
  | 12, _ => kin_12.1
  | k + 13, h => absurd h (by omega)
theorem x_drop {s s' : State} {L : List Jvm.Loc} {k n : Nat} (h : s.sameButNew s' L k n) (hL : ∀ q ∈ L, s.heap.size ≤ q.base) : s.sameButNew s' [] k n := by
  obtain ⟨h1, h2, h3, h4, h5, h6⟩ := h
  refine ⟨h1, h2, h3, h4, h5, fun a c hc => ?_⟩
  obtain ⟨c', g1, g2, g3, g4⟩ := h6 a c hc
  refine ⟨c', g1, g2, g3, fun i _ => g4 i (fun hm => ?_)⟩
  have h7 : s.heap.size ≤ a := hL _ hm
  have h8 := (Array.getElem?_eq_some_iff.mp hc).1
  exact absurd h8 (Nat.not_lt.mpr h7)
theorem x_len {args : Array Value} {s : State} {t : Term} {v : Value} (h : (Term.length t).eval args s none [] s = some v) : ∃ a cell, t.eval args s none [] s = some (.ref a) ∧ s.arrayAt? a = some cell ∧ cell.slots.size < 2147483648 := by
  simp only [Term.eval, Option.bind_eq_bind] at h
  cases ht : t.eval args s none [] s with
  | none => simp [ht] at h
  | some x =>
    cases x <;> simp [ht] at h
    case ref a =>
      obtain ⟨cell, hcell, h⟩ := Option.bind_eq_some_iff.mp h
      by_cases hn : cell.slots.size < 2147483648
      · exact ⟨a, cell, rfl, hcell, hn⟩
      · rw [if_neg hn] at h; cases h
def x3 (x y z : Int32) : Nat → Int32 := fun j => if j = 0 then x else if j = 1 then y else z
theorem x_arr3 {args : Array Value} {s : State} {tm : Term} {x y z : Int32} (ha : (Cond.arrayOf tm .int).before args s = true) (hl : (Cond.eq (.length tm) (.int 3)).before args s = true) (h0 : (Cond.eq (.elem tm (.int 0)) (.int x)).before args s = true) (h1 : (Cond.eq (.elem tm (.int 1)) (.int y)).before args s = true) (h2 : (Cond.eq (.elem tm (.int 2)) (.int z)).before args s = true) : ∃ t : Nat, tm.eval args s none [] s = some (.ref t) ∧ va_X t 3 (x3 x y z) s s.heap ∧ t < s.heap.size := by
  obtain ⟨t, ht, hT⟩ := va_Tof (N := 3) (f := fun j => .int (x3 x y z j)) (A := fun q => s.heap.size ≤ q) (by decide) ha (va_eqt hl) (fun j hj => by
    obtain rfl | rfl | rfl : j = 0 ∨ j = 1 ∨ j = 2 := by omega
    · exact va_eqt h0
    · exact va_eqt h1
    · exact va_eqt h2) (fun a h => Nat.not_le.mpr h)
  obtain ⟨cell, c1, c2, c3, c4, c5, c6, c7⟩ := hT
  obtain ⟨a, cell2, g1, g2, g4⟩ := x_len (va_eqt hl)
  cases ht.symm.trans g1
  have g5 := (State.arrayAt?_spec g2).1
  cases c1.symm.trans g5
  have hz : cell.slots.size = 3 := by
    have := congrArg Int32.toNatClampNeg c5
    rw [show cell.slots.size.toInt32 = Int32.ofNat cell.slots.size from rfl, Int32.toNatClampNeg_ofNat_of_lt g4, Int32.toNatClampNeg_ofNat_of_lt (by decide)] at this
    exact this
  exact ⟨t, ht, ⟨cell, c1, c2, c3, hz, c6⟩, (Array.getElem?_eq_some_iff.mp c1).1⟩
theorem x_ar {s : State} {args : Array Value} {ty : FieldType} (h : (Cond.arrayClass ty).before args s = true) : ∃ cA : ClassId, ArrOfT s cA ty ∧ s.vm.findClass ("[" ++ ty.toString) = some cA := by
  obtain ⟨c, k, comp, h1, h2, h3⟩ := Cond.arrayClass_spec h
  exact ⟨c, fun n z => ⟨fun k h => (by cases h), k, h2, comp, h3⟩, h1⟩
theorem x_ao {s : State} {args : Array Value} {C : String} (h : (Cond.arrayOver (.object C)).before args s = true) : ∃ cA : ClassId, ArrOfT s cA (.object C) ∧ va_RA s cA (.object C) := by
  obtain ⟨comp, c, k, h1, h2, h3, h4, h5⟩ := Cond.arrayOver_spec h
  exact ⟨c, fun n z => ⟨fun k h => (by cases h), k, h3, comp, h4⟩, k, comp, h3, h4, h1, h5⟩
theorem x_arrs {s : State} {args : Array Value} (hu : ∀ w ∈ lw_u, w.before args s = true) : ∀ t : Nat, t < 6 → ∃ cA : ClassId, ArrOfT s cA (pTy t) ∧ va_RA s cA (pTy t)
  | 0, _ => x_ar (ty := .int) (hu _ kar_int)
  | 1, _ => x_ar (ty := .long) (hu _ kar_long)
  | 2, _ => x_ar (ty := .byte) (hu _ kar_byte)
  | 3, _ => x_ar (ty := .boolean) (hu _ kar_boolean)
  | 4, _ => x_ao (hu _ kao_Kept)
  | 5, _ => x_ao (hu _ kao_Text)
  | k + 6, h => absurd h (by omega)
def xTm : Term := Term.string "JoinRouter$Tokens" 58
theorem x_bytes : ∀ j : Nat, j < 144 → (flatC (Jvm.Cond.and given_1 narrow_1))[51 + j]? = some (Cond.eq (.elem (.field xTm "java/lang/String" "value" "[B") (.int (Int32.ofNat j))) (.int (pBy.getD j 0))) := by decide +kernel
theorem x_by : pBy.length = 144 := by decide +kernel
theorem x_env {s : State} {b : Nat} (hts : ∀ w ∈ lw_tbl, w.before #[Value.ref b] s = true) (hgv : (Jvm.Cond.and given_1 narrow_1).before #[Value.ref b] s = true) : ∃ G : pG, G.1 = s.heap.size ∧ pKn G s ∧ pEnv G s s.heap ∧ (va_X (G.2.2.2.2 0) 3 (x3 1 0 0) s s.heap ∧ G.2.2.2.2 0 < s.heap.size) ∧ va_X (G.2.2.2.2 1) 3 (x3 999 10 9) s s.heap ∧ G.2.2.2.2 1 < s.heap.size := by
  have hs := flat_of_before _ hgv
  have hu : ∀ w ∈ lw_u, w.before #[Value.ref b] s = true := fun w hw => hts w (List.mem_filter.mp hw).1
  have hA : ∀ a : Nat, a < s.heap.size → ¬ (s.heap.size ≤ a) := fun a h => Nat.not_le.mpr h
  obtain ⟨t0, ht0, hX0, hl0⟩ := x_arr3 (args := #[Value.ref b]) (s := s) (tm := Term.static "JoinRouter" "LEAST_TERM" "[I") (x := 1) (y := 0) (z := 0) (hs _ (by decide +kernel)) (hs _ (by decide +kernel)) (hs _ (by decide +kernel)) (hs _ (by decide +kernel)) (hs _ (by decide +kernel))
  obtain ⟨t1, ht1, hX1, hl1⟩ := x_arr3 (args := #[Value.ref b]) (s := s) (tm := Term.static "JoinRouter" "MOST_TERM" "[I") (x := 999) (y := 10) (z := 9) (hs _ (by decide +kernel)) (hs _ (by decide +kernel)) (hs _ (by decide +kernel)) (hs _ (by decide +kernel)) (hs _ (by decide +kernel))
  obtain ⟨adK, adV, hS, hR⟩ := vk_Sof (args := #[Value.ref b]) (s := s) (N := 1) (tm := fun _ => xTm) (len := [144]) (byt := [pBy]) (A := fun q => s.heap.size ≤ q)
    (fun i hi => by obtain rfl : i = 0 := by omega
                    decide +kernel)
    (fun i hi => hs (Cond.exactly xTm "java/lang/String") (by decide +kernel))
    (fun i hi => hs (Cond.eq (.field xTm "java/lang/String" "coder" "B") (.int 0)) (by decide +kernel))
    (fun i hi => hs (Cond.arrayOf (.field xTm "java/lang/String" "value" "[B") .byte) (by decide +kernel))
    (fun i hi => by obtain rfl : i = 0 := by omega
                    exact hs (Cond.eq (.length (.field xTm "java/lang/String" "value" "[B")) (.int (Int32.ofNat 144))) (by decide +kernel))
    (fun i hi j hj => by
      obtain rfl : i = 0 := by omega
      rw [show ([144] : List Nat).getD 0 0 = 144 from rfl] at hj
      have r := hs _ (List.mem_of_getElem? (x_bytes j hj))
      rw [List.getD_cons_zero]
      exact r)
    (fun i j hi hj hn => absurd (show i = j by omega) hn) hA
  have hC : ∀ k : Nat, ∃ q : ClassId × (Nat → Nat), k < 13 → u_Kn s (cR k) (cT k) (cN k) q.1 q.2 := fun k => by
    by_cases hk : k < 13
    · obtain ⟨cC, iS, h⟩ := u_known hu (cl_in k hk) (hu _ (x_kin k hk))
      exact ⟨(cC, iS), fun _ => h⟩
    · exact ⟨(0, fun _ => 0), fun h => absurd h hk⟩
  obtain ⟨q, hq⟩ := Classical.axiomOfChoice hC
  have hD : ∀ t : Nat, ∃ cA : ClassId, t < 6 → ArrOfT s cA (pTy t) ∧ va_RA s cA (pTy t) := fun t => by
    by_cases ht : t < 6
    · obtain ⟨cA, h⟩ := x_arrs hu t ht
      exact ⟨cA, fun _ => h⟩
    · exact ⟨0, fun h => absurd h ht⟩
  obtain ⟨cA, hcA⟩ := Classical.axiomOfChoice hD
  refine ⟨(s.heap.size, fun k => (q k).1, fun k => (q k).2, cA, fun w => if w = 0 then t0 else if w = 1 then t1 else if w = 2 then adK 0 else adV 0), rfl, ⟨hq, hcA⟩, ⟨?_, ?_, ?_, ?_, ?_, ?_⟩, ⟨hX0, hl0⟩, hX1, hl1⟩
  · exact va_Zof (hts _ (tt2 (List.mem_of_getElem? (i := 236) (by decide +kernel)))) (hts _ (tt1 (List.mem_of_getElem? (i := 1) (by decide +kernel)))) ht0 hA
  · exact va_Zof (hts _ (tt2 (List.mem_of_getElem? (i := 238) (by decide +kernel)))) (hts _ (tt1 (List.mem_of_getElem? (i := 1) (by decide +kernel)))) ht1 hA
  · exact va_Zof (hts _ (tt3 (List.mem_of_getElem? (i := 193) (by decide +kernel)))) (hts _ (tt1 (List.mem_of_getElem? (i := 16) (by decide +kernel)))) (va_eqt (hs (Cond.eq (Term.static "java/lang/String" "COMPACT_STRINGS" "Z") (.int 1)) (by decide +kernel))) hA
  · exact va_Zqof (hts _ (tt3 (List.mem_of_getElem? (i := 209) (by decide +kernel)))) (hts _ (tt1 (List.mem_of_getElem? (i := 18) (by decide +kernel)))) (hs (Cond.isRef (Term.static "jdk/internal/util/Preconditions" "SIOOBE_FORMATTER" "Ljava/util/function/BiFunction;")) (by decide +kernel)) hA
  · rw [x_by]
    refine ⟨fun i hi => ?_, fun i j hi hj _ => by omega⟩
    obtain rfl : i = 0 := by omega
    exact hS.1 0 hi
  · exact vk_R.of (hts _ (tt3 (List.mem_of_getElem? (i := 183) (by decide +kernel)))) (hR 0 (by decide))
/-! the memory at the start -/
def xI (v : Option Value) : Int := match v with
  | some (.int i) => i.toInt
  | _ => 0
def xK (N : Nat) (H : Heap) (b t u : Nat) : Int → Nat × Nat := fun x => if x < -1 ∧ ((x + 1 + (N : Int)).toNat = b ∨ (x + 1 + (N : Int)).toNat = t ∨ (x + 1 + (N : Int)).toNat = u) then (20, ((H[(x + 1 + (N : Int)).toNat]?).getD default).slots.size) else (99, 0)
def xE (N : Nat) (H : Heap) : Int → Int → Int := fun x => if x < 0 then (fun j => xI (((H[(x + 1 + (N : Int)).toNat]?).getD default).slots[j.toNat]?)) else fun _ => 0
theorem x_ref {N a : Nat} (h : a < N) : pRef N a < -1 ∧ (pRef N a + 1 + (N : Int)).toNat = a := by
  unfold pRef
  rw [if_neg (by omega)]
  omega
theorem x_k {N : Nat} {s : State} {H : Heap} {b t u a L : Nat} {xs : Nat → Int32} (h : va_X a L xs s H) (ha : a < N) (hm : a = b ∨ a = t ∨ a = u) : xK N H b t u (pRef N a) = (20, L) := by
  obtain ⟨cell, h1, h2, h3, h4, h5⟩ := h
  unfold xK
  rw [(x_ref ha).2, if_pos ⟨(x_ref ha).1, hm⟩, h1, ← h4]
  rfl
theorem x_e {N : Nat} {s : State} {H : Heap} {a L : Nat} {xs : Nat → Int32} (h : va_X a L xs s H) (ha : a < N) (j : Nat) (hj : j < L) : xE N H (pRef N a) (j : Int) = (xs j).toInt := by
  obtain ⟨cell, h1, h2, h3, h4, h5⟩ := h
  unfold xE
  rw [(x_ref ha).2, if_pos (by have := (x_ref ha).1; omega), h1]
  show xI (cell.slots[((j : Nat) : Int).toNat]?) = _
  rw [Int.toNat_natCast, h5 j hj]
  rfl
