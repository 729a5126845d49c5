/-! THE WALK'S OWN WORDS: values with whole numbers, a memory of numbers (kinds K, fields F, elements E), a method's table, and the judgement PW -/
abbrev pV : Type := Nat × Int
abbrev pM : Type := Nat × (Int → Nat × Nat) × (Int → Int → Int) × (Int → Int → Int)
abbrev pG : Type := Nat × (Nat → ClassId) × (Nat → Nat → Nat) × (Nat → ClassId) × (Nat → Nat)
abbrev pMeth : Type := MethodName × ByteArray × Nat × Option FieldType × List (Nat × Instr × Nat)
/-- a reference's number: from 0 on for the cells of the run, below -1 for those that were there -/
def pRef (b a : Nat) : Int := if b ≤ a then (a : Int) - (b : Int) else (a : Int) - (b : Int) - 1
def pAbs (b : Nat) (v : Value) : pV := match v with
  | .int i => (0, i.toInt)
  | .long i => (1, i.toInt)
  | .null => (2, -1)
  | .ref a => (2, pRef b a)
  | _ => (3, 0)
def pTag (ty : FieldType) : Nat := match ty with
  | .long => 1
  | .object _ => 2
  | .array _ => 2
  | _ => 0
/-- the kinds of arrays -/
def pTy (t : Nat) : FieldType := match t with
  | 0 => .int
  | 1 => .long
  | 2 => .byte
  | 3 => .boolean
  | 4 => .object "JoinRouter$Kept"
  | _ => .object "JoinRouter$Text"
def w32 (x : Int) : Int := (x + 2147483648) % 4294967296 - 2147483648
def w64 (x : Int) : Int := (x + 9223372036854775808) % 18446744073709551616 - 9223372036854775808
def w8 (x : Int) : Int := (x + 128) % 256 - 128
theorem bmod32 (x : Int) : x.bmod (2 ^ 32) = w32 x := by unfold w32; rw [Int.bmod_def]; split <;> omega
theorem bmod64 (x : Int) : x.bmod (2 ^ 64) = w64 x := by unfold w64; rw [Int.bmod_def]; split <;> omega
theorem bmod8 (x : Int) : x.bmod (2 ^ 8) = w8 x := by unfold w8; rw [Int.bmod_def]; split <;> omega
theorem w32_id {x : Int} (h1 : -2147483648 ≤ x) (h2 : x < 2147483648) : w32 x = x := by unfold w32; omega
theorem w64_id {x : Int} (h1 : -9223372036854775808 ≤ x) (h2 : x < 9223372036854775808) : w64 x = x := by unfold w64; omega
theorem i32_lo (i : Int32) : -2147483648 ≤ i.toInt := by have := i.le_toInt; omega
theorem i32_hi (i : Int32) : i.toInt < 2147483648 := by have := i.toInt_lt; omega
theorem i64_lo (i : Int64) : -9223372036854775808 ≤ i.toInt := by have := i.le_toInt; omega
theorem i64_hi (i : Int64) : i.toInt < 9223372036854775808 := by have := i.toInt_lt; omega
theorem i32_add (a b : Int32) : (a + b).toInt = w32 (a.toInt + b.toInt) := by rw [Int32.toInt_add, bmod32]
theorem i32_sub (a b : Int32) : (a - b).toInt = w32 (a.toInt - b.toInt) := by rw [Int32.toInt_sub, bmod32]
theorem i32_mul (a b : Int32) : (a * b).toInt = w32 (a.toInt * b.toInt) := by rw [Int32.toInt_mul, bmod32]
theorem i32_neg (a : Int32) : (-a).toInt = w32 (-a.toInt) := by rw [Int32.toInt_neg, bmod32]
theorem i32_div (a b : Int32) : (a / b).toInt = w32 (a.toInt.tdiv b.toInt) := by rw [Int32.toInt_div, bmod32]
theorem i64_add (a b : Int64) : (a + b).toInt = w64 (a.toInt + b.toInt) := by rw [Int64.toInt_add, bmod64]
theorem i64_sub (a b : Int64) : (a - b).toInt = w64 (a.toInt - b.toInt) := by rw [Int64.toInt_sub, bmod64]
theorem i64_mul (a b : Int64) : (a * b).toInt = w64 (a.toInt * b.toInt) := by rw [Int64.toInt_mul, bmod64]
theorem i64_div (a b : Int64) : (a / b).toInt = w64 (a.toInt.tdiv b.toInt) := by rw [Int64.toInt_div, bmod64]
theorem w32_sub_w (a b c : Int) : w32 (a - w32 (w32 b * c)) = w32 (a - b * c) := by
  have h1 : w32 (w32 b * c) = w32 (b * c) := by
    rw [← bmod32, ← bmod32, ← bmod32]; exact Int.bmod_mul_bmod
  rw [h1, ← bmod32, ← bmod32, ← bmod32]; exact Int.sub_bmod_bmod
theorem w64_sub_w (a b c : Int) : w64 (a - w64 (w64 b * c)) = w64 (a - b * c) := by
  have h1 : w64 (w64 b * c) = w64 (b * c) := by
    rw [← bmod64, ← bmod64, ← bmod64]; exact Int.bmod_mul_bmod
  rw [h1, ← bmod64, ← bmod64, ← bmod64]; exact Int.sub_bmod_bmod
theorem i32_rem (a b : Int32) : (a - a / b * b).toInt = a.toInt.tmod b.toInt := by
  rw [i32_sub, i32_mul, i32_div, w32_sub_w]
  have e : a.toInt - a.toInt.tdiv b.toInt * b.toInt = a.toInt.tmod b.toInt := by
    have := Int.tmod_add_mul_tdiv a.toInt b.toInt
    rw [Int.mul_comm] at this; omega
  rw [e]
  have h1 := i32_lo a
  have h2 := i32_hi a
  have h3 : (a.toInt.tmod b.toInt).natAbs ≤ a.toInt.natAbs := by rw [Int.natAbs_tmod]; exact Nat.mod_le _ _
  by_cases h4 : 0 ≤ a.toInt
  · have := Int.tmod_nonneg b.toInt h4
    exact w32_id (by omega) (by omega)
  · have := Int.tmod_nonneg b.toInt (a := -a.toInt) (by omega)
    rw [Int.neg_tmod] at this
    exact w32_id (by omega) (by omega)
theorem i64_rem (a b : Int64) : (a - a / b * b).toInt = a.toInt.tmod b.toInt := by
  rw [i64_sub, i64_mul, i64_div, w64_sub_w]
  have e : a.toInt - a.toInt.tdiv b.toInt * b.toInt = a.toInt.tmod b.toInt := by
    have := Int.tmod_add_mul_tdiv a.toInt b.toInt
    rw [Int.mul_comm] at this; omega
  rw [e]
  have h1 := i64_lo a
  have h2 := i64_hi a
  have h3 : (a.toInt.tmod b.toInt).natAbs ≤ a.toInt.natAbs := by rw [Int.natAbs_tmod]; exact Nat.mod_le _ _
  by_cases h4 : 0 ≤ a.toInt
  · have := Int.tmod_nonneg b.toInt h4
    exact w64_id (by omega) (by omega)
  · have := Int.tmod_nonneg b.toInt (a := -a.toInt) (by omega)
    rw [Int.neg_tmod] at this
    exact w64_id (by omega) (by omega)
theorem i32_clamp (i : Int32) : i.toNatClampNeg = i.toInt.toNat := rfl
theorem i32_of (n : Int) (h1 : -2147483648 ≤ n) (h2 : n < 2147483648) : (Int32.ofInt n).toInt = n := by
  rw [Int32.toInt_ofInt]
  show n.bmod (2 ^ 32) = n
  rw [bmod32]; exact w32_id h1 h2
/-! what a value is, from its picture -/
theorem pAbs_int {b : Nat} {v : Value} {x : Int} (h : pAbs b v = (0, x)) : ∃ i : Int32, v = .int i ∧ i.toInt = x := by
  cases v <;> simp [pAbs] at h
  exact ⟨_, rfl, h⟩
theorem pAbs_long {b : Nat} {v : Value} {x : Int} (h : pAbs b v = (1, x)) : ∃ i : Int64, v = .long i ∧ i.toInt = x := by
  cases v <;> simp [pAbs] at h
  exact ⟨_, rfl, h⟩
theorem pRef_ne (b a : Nat) : pRef b a ≠ -1 := by unfold pRef; split <;> omega
theorem pRef_ge {b a : Nat} (h : 0 ≤ pRef b a) : a = b + (pRef b a).toNat := by
  unfold pRef at *; split at h <;> simp_all <;> omega
theorem pRef_lt {b a : Nat} (h : pRef b a < 0) : a < b := by
  unfold pRef at *; split at h <;> omega
theorem pRef_of (b a : Nat) : pRef b (b + a) = a := by unfold pRef; rw [if_pos (by omega)]; omega
theorem pAbs_ref {b : Nat} {v : Value} {x : Int} (h : pAbs b v = (2, x)) (hx : 0 ≤ x) : v = .ref (b + x.toNat) := by
  cases v <;> simp [pAbs] at h
  · omega
  · subst h; rw [← pRef_ge hx]
theorem pAbs_null {b : Nat} {v : Value} (h : pAbs b v = (2, -1)) : v = .null := by
  cases v <;> simp [pAbs] at h
  · rfl
  · exact absurd h (pRef_ne _ _)
theorem pAbs_refn {b : Nat} {v : Value} {x : Int} (h : pAbs b v = (2, x)) (hx : x ≠ -1) : ∃ a, v = .ref a ∧ pRef b a = x := by
  cases v <;> simp [pAbs] at h
  · exact absurd h.symm hx
  · exact ⟨_, rfl, h⟩
theorem pAbs_isref {b : Nat} {v : Value} {x : Int} (h : pAbs b v = (2, x)) : v = .null ∨ ∃ a, v = .ref a := by
  cases v <;> simp [pAbs] at h
  · exact Or.inl rfl
  · exact Or.inr ⟨_, rfl⟩
theorem pAbs_cat {b : Nat} {v : Value} {t : Nat} {x : Int} (h : pAbs b v = (t, x)) (ht : t < 3) : v.category = if t = 1 then 2 else 1 := by
  cases v <;> simp [pAbs] at h <;> obtain ⟨rfl, -⟩ := h <;> simp_all [Value.category]
/-! what the memory says of the heap -/
def pObj (G : pG) (k a : Nat) (f : Int → Int) (H : Heap) : Prop := ∃ fs : Nat → Value, t_OB (G.1 + a) (G.2.1 k) (cN k) (G.2.2.1 k) H fs ∧ ∀ j : Nat, j < cN k → pAbs G.1 (fs j) = (pTag (cY k j), f j)
def pArr (G : pG) (t n a : Nat) (f : Int → Int) (H : Heap) : Prop := n < 2147483648 ∧ ∃ g : Nat → Value, H[G.1 + a]? = some (arrV (G.2.2.2.1 t) n g) ∧ ∀ j : Nat, j < n → pAbs G.1 (g j) = (pTag (pTy t), f j)
def pCell (G : pG) (κ : Nat × Nat) (a : Nat) (f g : Int → Int) (H : Heap) : Prop := (κ.1 < 13 ∧ pObj G κ.1 a f H) ∨ (20 ≤ κ.1 ∧ κ.1 < 26 ∧ pArr G (κ.1 - 20) κ.2 a g H)
def pRep (G : pG) (μ : pM) (H : Heap) : Prop := H.size = G.1 + μ.1 ∧ (∀ a : Nat, a < μ.1 → pCell G (μ.2.1 a) a (μ.2.2.1 a) (μ.2.2.2 a) H) ∧ (∀ a : Nat, μ.1 ≤ a → (μ.2.1 a).1 = 99) ∧ (μ.2.1 (-1)).1 = 99
/-- int arrays that were there -/
def pExt (G : pG) (U : State) (μ : pM) (H : Heap) : Prop := ∀ a : Nat, a < G.1 → (μ.2.1 (pRef G.1 a)).1 = 99 ∨ ∃ n : Nat, μ.2.1 (pRef G.1 a) = (20, n) ∧ ∃ cell : Cell, H[a]? = some cell ∧ U.isArrayOf cell .int ∧ cell.vm ≠ .unknown ∧ cell.slots.size = n ∧ n < 2147483648 ∧ ∀ j : Nat, j < n → ∃ i : Int32, cell.slots[j]? = some (.int i) ∧ i.toInt = μ.2.2.2 (pRef G.1 a) j
def pKn (G : pG) (s : State) : Prop := (∀ k : Nat, k < 13 → u_Kn s (cR k) (cT k) (cN k) (G.2.1 k) (G.2.2.1 k)) ∧ ∀ t : Nat, t < 6 → ArrOfT s (G.2.2.2.1 t) (pTy t) ∧ va_RA s (G.2.2.2.1 t) (pTy t)
/-- the one String constant: its bytes -/
def pTx : String := "tickets op relation a b size marks mood stamp done latest results operators held costs bars come strike window index with to times if or and not"
def pBy : List Int32 := pTx.toList.map (fun c => Int32.ofNat c.toNat)
def pEnv (G : pG) (U : State) (H : Heap) : Prop :=
  va_Z "JoinRouter" "LEAST_TERM" "[I" (.ref (G.2.2.2.2 0)) (fun q => G.1 ≤ q) U H ∧ va_Z "JoinRouter" "MOST_TERM" "[I" (.ref (G.2.2.2.2 1)) (fun q => G.1 ≤ q) U H ∧
  va_Z "java/lang/String" "COMPACT_STRINGS" "Z" (.int 1) (fun q => G.1 ≤ q) U H ∧ va_Zq "jdk/internal/util/Preconditions" "SIOOBE_FORMATTER" "Ljava/util/function/BiFunction;" (fun q => G.1 ≤ q) U H ∧
  vk_S 1 [pBy.length] [pBy] (fun _ => G.2.2.2.2 2) (fun _ => G.2.2.2.2 3) (fun q => G.1 ≤ q) U H ∧ vk_R "JoinRouter$Tokens" 58 pTx (G.2.2.2.2 2) U
/-- a method as its table has it -/
def pOkD (M : pMeth) : Prop := ∀ e ∈ M.2.2.2.2, decode M.2.1 e.1 = .ok e.2
def pOk (M : pMeth) : Prop := plainName M.1.cls = true ∧ Cond.code M.1 M.2.1 M.2.2.1 M.2.2.2.1 ∈ lw_u ∧ Cond.initialized M.1.cls ∈ lw_u ∧ (M.1.cls ≠ "java/lang/invoke/MethodHandle" ∧ M.1.cls ≠ "java/lang/invoke/VarHandle") ∧ M.2.2.1 ≤ 40 ∧ pOkD M
def pCx (G : pG) (d : Nat) (M : pMeth) (p : Program) (R : Room) (s : State) (m : MethodId) (args : Array Value) (meth : Method) (c : Code) : Prop :=
  p.tables.exec = Jvm.exec ∧ c.code = M.2.1 ∧ c.maxLocals = M.2.2.1 ∧ s.vm.findClass M.1.cls = some m.cls ∧ (∀ w ∈ lw_u, w.before args s = true) ∧ meth.sig.returnType = M.2.2.2.1 ∧ meth.locks = false ∧ meth.name = M.1.name ∧ pKn G s ∧ pEnv G s s.heap ∧ G.1 ≤ s.heap.size ∧ d + 1 ≤ R.frames ∧ 64 * (d + 1) ≤ R.locals
/-- what a state of the walk is -/
def pIn (G : pG) (M : pMeth) (bg : Nat × Nat) (lv : List (Nat × pV)) (st : List pV) (μ : pM) (Q : Option pV → pM → Prop) (R : Room) (s : State) (args : Array Value) (Qc : Array Value → State → Outcome → State → Prop) (mc ms : Nat) (free : Addr → Prop) (H : Heap) (locs : List Loc) (cells slots : Nat) (ls : Array Slot) (lvJ : List (Nat × Value)) (stJ : List Value) : Prop :=
  cells + bg.1 ≤ mc ∧ slots + bg.2 ≤ ms ∧ mc ≤ R.cells ∧ ms ≤ R.slots ∧ pRep G μ H ∧ pExt G s μ s.heap ∧ va_S (fun q => G.1 ≤ q) s.heap H locs ∧ lv_has ls M.2.2.1 lvJ ∧ lvJ.map (fun q => (q.1, pAbs G.1 q.2)) = lv ∧ stJ.map (pAbs G.1) = st ∧ (∀ a : Addr, G.1 ≤ a → free a) ∧
  ∀ (v : Option Value) (μ' : pM) (t : State), Q (v.map (pAbs G.1)) μ' → pRep G μ' t.heap → pExt G s μ' s.heap → s.WarmedH t.vm → va_F (fun q => G.1 ≤ q) s t → Qc args s (.returned v) t
def PW (l : Launch) (G : pG) (d : Nat) (M : pMeth) (bg : Nat × Nat) (pc : Nat) (lv : List (Nat × pV)) (st : List pV) (μ : pM) (Q : Option pV → pM → Prop) : Prop :=
  pOkD M → ∀ (p : Program) (e : Env) (R : Room) (s : State) (m : MethodId) (args : Array Value) (below : List Frame) (meth : Method) (c : Code), pCx G d M p R s m args meth c →
  ∀ (Qc : Array Value → State → Outcome → State → Prop) (mc ms : Nat) (free : Addr → Prop) (H : Heap) (locs : List Loc) (cells slots : Nat) (ls : Array Slot) (lvJ : List (Nat × Value)) (stJ : List Value),
    pIn G M bg lv st μ Q R s args Qc mc ms free H locs cells slots ls lvJ stJ → W p l e R s m args below meth c H locs cells slots (MQ below Qc args s mc ms free) (F0 m pc ls stJ)
/-- the locals with which a method begins -/
def pArgs : Nat → List pV → List (Nat × pV)
  | _, [] => []
  | i, v :: vs => (i, v) :: pArgs (if v.1 = 1 then i + 2 else i + 1) vs
def PC (l : Launch) (G : pG) (d : Nat) (M : pMeth) (bg : Nat × Nat) (as : List pV) (μ : pM) (Q : Option pV → pM → Prop) : Prop := PW l G d M bg 0 (pArgs 0 as) [] μ Q
theorem PW.mono {l : Launch} {G : pG} {d : Nat} {M : pMeth} {bg : Nat × Nat} {pc : Nat} {lv : List (Nat × pV)} {st : List pV} {μ : pM} {Q Q' : Option pV → pM → Prop} (h : PW l G d M bg pc lv st μ Q) (hQ : ∀ r μ', Q r μ' → Q' r μ') : PW l G d M bg pc lv st μ Q' := by
  intro ok p e R s m args below meth c C Qc mc ms free H locs cells slots ls lvJ stJ ⟨h1, h2, h3, h4, h5, h6, h7, h8, h9, h10, h11, h12⟩
  exact h ok p e R s m args below meth c C Qc mc ms free H locs cells slots ls lvJ stJ ⟨h1, h2, h3, h4, h5, h6, h7, h8, h9, h10, h11, fun v μ' t q => h12 v μ' t (hQ _ _ q)⟩
theorem PC.mono {l : Launch} {G : pG} {d : Nat} {M : pMeth} {bg : Nat × Nat} {as : List pV} {μ : pM} {Q Q' : Option pV → pM → Prop} (h : PC l G d M bg as μ Q) (hQ : ∀ r μ', Q r μ' → Q' r μ') : PC l G d M bg as μ Q' := PW.mono h hQ
/-- fewer listed locals, in any order -/
theorem PW.pick {l : Launch} {G : pG} {d : Nat} {M : pMeth} {bg : Nat × Nat} {pc : Nat} {lv lv' : List (Nat × pV)} {st : List pV} {μ : pM} {Q : Option pV → pM → Prop} (ks : List Nat) (hl : ks.filterMap (fun k => lv[k]?) = lv') (h : PW l G d M bg pc lv' st μ Q) : PW l G d M bg pc lv st μ Q := by
  intro ok p e R s m args below meth c C Qc mc ms free H locs cells slots ls lvJ stJ ⟨h1, h2, h3, h4, h5, h6, h7, h8, h9, h10, h11, h12⟩
  refine h ok p e R s m args below meth c C Qc mc ms free H locs cells slots ls (lv_pick lvJ ks) stJ ⟨h1, h2, h3, h4, h5, h6, h7, lv_sub h8 ks rfl, ?_, h10, h11, h12⟩
  rw [← hl, ← h9]
  unfold lv_pick
  rw [List.map_filterMap]
  congr 1
  funext k
  simp
def pFL (own : String) (index ci j : Nat) : Prop := ci < 13 ∧ j < cN ci ∧ Cond.fieldLink own index (cR ci) (cT ci j).2.1 (cT ci j).2.2.1 ∈ lw_u
/-- a method of a table, and how it is called -/
def pStat (N : pMeth) (k : Nat) : Prop := pOk N ∧ Cond.static N.1 ∈ lw_u ∧ (parseMethodDescriptor N.1.desc).map (fun d => d.parameters.length) = some k
def pVirt (N : pMeth) (k ci : Nat) : Prop := pOk N ∧ Cond.instanceMethod N.1 ∈ lw_u ∧ Cond.selects N.1.cls N.1 N.1 ∈ lw_u ∧ ci < 13 ∧ cR ci = N.1.cls ∧ (parseMethodDescriptor N.1.desc).map (fun d => d.parameters.length) = some k
def pCtor (N : pMeth) (k : Nat) : Prop := pOk N ∧ Cond.instanceMethod N.1 ∈ lw_u ∧ N.1.name = "<init>" ∧ N.2.2.2.1 = none ∧ (parseMethodDescriptor N.1.desc).map (fun d => d.parameters.length) = some k
