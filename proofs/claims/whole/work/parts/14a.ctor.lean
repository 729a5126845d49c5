/-! the two constructors: the kinds of all that they make, in its order -/
def kTab : List (Nat × Nat) := [(11, 0), (1, 0), (0, 0), (20, 117), (20, 3), (20, 6), (20, 6), (25, 6), (24, 2), (23, 2), (3, 0), (20, 16), (20, 1872), (3, 0), (20, 16), (20, 1872), (0, 0), (20, 117), (0, 0), (20, 117), (5, 0), (10, 0), (8, 0), (22, 400), (20, 401), (20, 401), (20, 401), (9, 0), (20, 72), (20, 800), (6, 0), (4, 0), (21, 64), (20, 9), (0, 0), (20, 117), (20, 3), (20, 6), (20, 4), (20, 297), (20, 99), (2, 0), (20, 297), (20, 99), (7, 0), (4, 0), (21, 64), (20, 12), (20, 3), (20, 5), (20, 4), (20, 10), (1, 0), (0, 0), (20, 117), (20, 3), (20, 6), (20, 6), (25, 6), (1, 0), (0, 0), (20, 117), (20, 3), (20, 6), (20, 6), (25, 6), (12, 0), (20, 7), (20, 5535), (20, 11070), (23, 2), (20, 2223), (20, 16), (20, 1872), (20, 16), (20, 400), (20, 96), (20, 400), (20, 400), (20, 400), (20, 400), (21, 9), (21, 7), (21, 2), (21, 13), (21, 13), (21, 400), (20, 12), (20, 4), (20, 4), (20, 4), (20, 4), (20, 4), (20, 2), (20, 297), (20, 99), (20, 4), (20, 297), (20, 99), (20, 4), (20, 10), (21, 21), (21, 4), (20, 120), (20, 7)]
def pKt (K : Int → Nat × Nat) (n : Nat) : Int → Nat × Nat := fun a => if 0 ≤ a ∧ a < (n : Int) then kTab.getD a.toNat (99, 0) else K a
theorem pKt_push {K : Int → Nat × Nat} {n : Nat} {κ : Nat × Nat} (h : kTab[n]? = some κ) : pKu (pKt K n) n κ = pKt K (n + 1) := by
  funext a
  unfold pKu pKt
  by_cases h1 : a = (n : Int)
  · rw [if_pos h1, if_pos (by omega), h1, Int.toNat_natCast, List.getD_eq_getElem?_getD, h]
    rfl
  · rw [if_neg h1]
    by_cases h2 : 0 ≤ a ∧ a < (n : Int)
    · rw [if_pos h2, if_pos (by omega)]
    · rw [if_neg h2, if_neg (by omega)]
section NA
variable {l : Launch} {G : pG} {d : Nat} {M : pMeth} {bg : Nat × Nat} {pc q : Nat} {lv : List (Nat × pV)} {st : List pV} {Q : Option pV → pM → Prop} {n : Nat} {K : Int → Nat × Nat} {F E : Int → Int → Int}
theorem n_new {index n' : Nat} {a : Int} (k ci bc bs : Nat) (hf : M.2.2.2.2[k]? = some (pc, .new index, 3)) (hc : ci < 13) (hcl : Cond.classLink M.1.cls index (cR ci) ∈ lw_u) (hins : Cond.instantiable (cR ci) (cN ci) ∈ lw_u) (hini : Cond.initialized (cR ci) ∈ lw_u) (hb : bc + 1 ≤ bg.1 ∧ bs + cN ci ≤ bg.2) (h : PW l G d M (bc, bs) q lv ((2, a) :: st) (n', pKt K n', pRow F a (pDef ci), E) Q) (hq : pc + 3 = q := by rfl) (ha : ((n : Nat) : Int) = a := by rfl) (hn : n + 1 = n' := by rfl) (hk : kTab[n]? = some (ci, 0) := by rfl) : PW l G d M bg pc lv st (n, pKt K n, F, E) Q := by
  subst ha
  subst hn
  exact s_new k ci bc bs hf hc hcl hins hini hb (by rw [pKt_push hk]; exact h) hq
theorem n_newa {n' : Nat} {a z : Int} (k t bc bs : Nat) (hf : M.2.2.2.2[k]? = some (pc, .newarray (pAt t), 2)) (ht : t < 4) (hcl : Cond.arrayClass (newarray.typeOf (pAt t)) ∈ lw_u) (hx : 0 ≤ z ∧ z ≤ 60000000) (hb : bc + 1 ≤ bg.1 ∧ bs + z.toNat ≤ bg.2) (h : PW l G d M (bc, bs) q lv ((2, a) :: st) (n', pKt K n', F, pRow E a (fun _ => 0)) Q) (hq : pc + 2 = q := by rfl) (ha : ((n : Nat) : Int) = a := by rfl) (hn : n + 1 = n' := by rfl) (hk : kTab[n]? = some (20 + t, z.toNat) := by rfl) : PW l G d M bg pc lv ((0, z) :: st) (n, pKt K n, F, E) Q := by
  subst ha
  subst hn
  exact s_newa k t bc bs hf ht hcl hx hb (by rw [pKt_push hk]; exact h) hq
theorem n_newq {index n' : Nat} {a z : Int} (k t bc bs : Nat) (hf : M.2.2.2.2[k]? = some (pc, .anewarray index, 3)) (ht : t = 4 ∨ t = 5) (hcl : Cond.classLink M.1.cls index (if t = 4 then cR 1 else cR 9) ∈ lw_u) (hov : Cond.arrayOver (.object (if t = 4 then cR 1 else cR 9)) ∈ lw_u) (hx : 0 ≤ z ∧ z ≤ 60000000) (hb : bc + 1 ≤ bg.1 ∧ bs + z.toNat ≤ bg.2) (h : PW l G d M (bc, bs) q lv ((2, a) :: st) (n', pKt K n', F, pRow E a (fun _ => -1)) Q) (hq : pc + 3 = q := by rfl) (ha : ((n : Nat) : Int) = a := by rfl) (hn : n + 1 = n' := by rfl) (hk : kTab[n]? = some (20 + t, z.toNat) := by rfl) : PW l G d M bg pc lv ((0, z) :: st) (n, pKt K n, F, E) Q := by
  subst ha
  subst hn
  exact s_newq k t bc bs hf ht hcl hov hx hb (by rw [pKt_push hk]; exact h) hq
end NA
