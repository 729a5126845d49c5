/-! words of the printed rows -/
noncomputable def bI (p : Prop) : Int := @ite Int p (Classical.propDecidable p) 1 0
theorem bI_of {p : Prop} (h : p) : bI p = 1 := by unfold bI; rw [if_pos h]
theorem bI_no {p : Prop} (h : ¬ p) : bI p = 0 := by unfold bI; rw [if_neg h]
theorem bI_f {p : Prop} (h : bI p = 0) : ¬ p := fun q => by rw [bI_of q] at h; cases h
theorem bI_t {p : Prop} (h : ¬ bI p = 0) : p := Classical.not_not.mp fun q => h (bI_no q)
theorem bI_f2 {p : Prop} (h : ¬ ¬ bI p = 0) : ¬ p := bI_f (Classical.not_not.mp h)
theorem bI_01 {p : Prop} : bI p = 0 ∨ bI p = 1 := (Classical.em p).elim (fun h => Or.inr (bI_of h)) (fun h => Or.inl (bI_no h))
theorem bI_iff {p q : Prop} (h : p ↔ q) : bI p = bI q := by rw [propext h]
theorem pUp_s {f : Int → Int → Int} {a k v : Int} : pUp f a k v a k = v := if_pos ⟨rfl, rfl⟩
theorem pUp_k {f : Int → Int → Int} {a k v j : Int} (h : j ≠ k) : pUp f a k v a j = f a j := if_neg fun q => h q.2
theorem pUp_a {f : Int → Int → Int} {a k v b j : Int} (h : b ≠ a) : pUp f a k v b j = f b j := if_neg fun q => h q.1
theorem pUp_an {f : Int → Int → Int} {a k v b : Int} (h : b ≠ a) : pUp f a k v b = f b := funext fun _ => pUp_a h
theorem pUp_K {K : Int → Nat × Nat} {f : Int → Int → Int} {a k v b j : Int} {c1 c2 : Nat} (h1 : (K a).1 = c1) (h2 : (K b).1 = c2) (h : c1 ≠ c2) : pUp f a k v b j = f b j := pUp_a fun q => h (by rw [← h1, ← h2, q])
section NM
variable {l : Launch} {G : pG} {d : Nat} {M : pMeth} {bg : Nat × Nat} {pc : Nat} {lv : List (Nat × pV)} {st : List pV} {Q : Option pV → pM → Prop} {n : Nat} {K : Int → Nat × Nat} {F E : Int → Int → Int}
theorem PW.name {μ : pM} {t : Nat} {x : Int} (h : ∀ y, y = x → PW l G d M bg pc lv ((t, y) :: st) μ Q) : PW l G d M bg pc lv ((t, x) :: st) μ Q := h x rfl
theorem PW.nameF (h : ∀ F', F' = F → PW l G d M bg pc lv st (n, K, F', E) Q) : PW l G d M bg pc lv st (n, K, F, E) Q := h F rfl
theorem PW.nameE (h : ∀ E', E' = E → PW l G d M bg pc lv st (n, K, F, E') Q) : PW l G d M bg pc lv st (n, K, F, E) Q := h E rfl
end NM
def pBnd (v lo hi : Int) : Int := if v < lo then lo else if hi < v then hi else v
def pBinds (o : Int) : Int := if 31 ≤ o then 0 else if o = 30 then 1 else if o = 29 then 2 else if o = 28 then 3 else if 25 ≤ o then 4 else if 22 ≤ o then 6 else 5
theorem lCmp_lt {x y : Int} : lCmp x y < 0 ↔ x < y := by unfold lCmp; (repeat' split) <;> omega
theorem lCmp_gt {x y : Int} : 0 < lCmp x y ↔ y < x := by unfold lCmp; (repeat' split) <;> omega
theorem lCmp_eq {x y : Int} : lCmp x y = 0 ↔ x = y := by unfold lCmp; (repeat' split) <;> omega
theorem lCmp_le {x y : Int} : lCmp x y ≤ 0 ↔ x ≤ y := by unfold lCmp; (repeat' split) <;> omega
theorem lCmp_ge {x y : Int} : 0 ≤ lCmp x y ↔ y ≤ x := by unfold lCmp; (repeat' split) <;> omega
