/-! WHAT HOLDS BETWEEN TWO CALLS OF THE LAW: the class (cells 0 .. 65) and the reference (66 .. 104) beside each other -/
def rUp (r : Int → Int) (k v : Int) : Int → Int := fun j => if j = k then v else r j
def rSh (r : Int → Int) (lo hi d : Int) : Int → Int := fun j => if lo ≤ j ∧ j < hi then r (j + d) else r j
theorem pUp1 {f : Int → Int → Int} {a k v b : Int} : pUp f a k v b = if b = a then rUp (f b) k v else f b := by
  funext j
  unfold pUp rUp
  by_cases h : b = a
  · simp [h]
  · simp [h]
theorem pRow1 {f : Int → Int → Int} {a b : Int} {g : Int → Int} : pRow f a g b = if b = a then g else f b := rfl
theorem rUp_s {r : Int → Int} {k v : Int} : rUp r k v k = v := if_pos rfl
theorem rUp_n {r : Int → Int} {k v j : Int} (h : j ≠ k) : rUp r k v j = r j := if_neg h
theorem pRow_self {E : Int → Int → Int} {a : Int} : pRow E a (E a) = E := by
  funext x
  unfold pRow
  by_cases h : x = a
  · rw [if_pos h, h]
  · rw [if_neg h]
theorem pUp_row {E : Int → Int → Int} {a k v : Int} : pUp E a k v = pRow E a (rUp (E a) k v) := by
  funext x
  rw [pUp1, pRow1]
  by_cases h : x = a
  · rw [if_pos h, if_pos h, h]
  · rw [if_neg h, if_neg h]
theorem pRow_row {E : Int → Int → Int} {a : Int} {g g' : Int → Int} : pRow (pRow E a g) a g' = pRow E a g' := by
  funext x
  unfold pRow
  by_cases h : x = a
  · rw [if_pos h, if_pos h]
  · rw [if_neg h, if_neg h, if_neg h]
/-- the reference's row holds the class's cells, six places on -/
def Rel (f g : Int → Int) : Prop := ∀ k, 0 ≤ k → k < 117 → g (k + 6) = f k
theorem Rel.up {f g : Int → Int} {k v : Int} (h : Rel f g) : Rel (rUp f k v) (rUp g (k + 6) v) := by
  intro j h0 h1
  unfold rUp
  by_cases e : j = k
  · rw [if_pos (by omega), if_pos e]
  · rw [if_neg (by omega), if_neg e]
    exact h j h0 h1
theorem Rel.out {f g : Int → Int} {k v : Int} (h : Rel f g) (hk : k < 6 ∨ 123 ≤ k) : Rel f (rUp g k v) := by
  intro j h0 h1
  unfold rUp
  rw [if_neg (by omega)]
  exact h j h0 h1
theorem Rel.sh {f g : Int → Int} {lo hi d : Int} (h : Rel f g) (h0 : 0 ≤ lo) (hd : 0 ≤ d) (hh : hi + d ≤ 117) : Rel (rSh f lo hi d) (rSh g (lo + 6) (hi + 6) d) := by
  intro j j0 j1
  unfold rSh
  by_cases e : lo ≤ j ∧ j < hi
  · rw [if_pos (by omega), if_pos e, ← h (j + d) (by omega) (by omega)]
    congr 1
    omega
  · rw [if_neg (by omega), if_neg e]
    exact h j j0 j1
/-- one step of a shift, and none -/
theorem rSh_step {r : Int → Int} {lo hi d : Int} (h : lo < hi) (hd : 0 ≤ d) : rSh (rUp r lo (r (lo + d))) (lo + 1) hi d = rSh r lo hi d := by
  funext j
  unfold rSh rUp
  by_cases e : lo + 1 ≤ j ∧ j < hi
  · rw [if_pos e, if_neg (by omega), if_pos (by omega)]
  · rw [if_neg e]
    by_cases e2 : j = lo
    · rw [if_pos e2, if_pos (by omega), e2]
    · rw [if_neg e2, if_neg (by omega)]
theorem rSh_none {r : Int → Int} {lo hi d : Int} (h : hi ≤ lo) : rSh r lo hi d = r := by
  funext j
  unfold rSh
  rw [if_neg (by omega)]
/-- what the cells of a core are -/
def CInv (c : Int → Int) : Prop :=
  (0 ≤ c 0 ∧ c 0 ≤ 4) ∧ (0 ≤ c 1 ∧ c 1 ≤ 999) ∧ (0 ≤ c 2 ∧ c 2 ≤ 20000 * c 1) ∧
  (∀ r, 0 ≤ r → r < 3 → (1 ≤ c (3 + r) ∧ c (3 + r) ≤ 9) ∧ (0 ≤ c (6 + r) ∧ c (6 + r) ≤ 2) ∧ 0 ≤ c (9 + r) ∧ c (9 + r) ≤ c (3 + r)) ∧
  (∀ o, 0 ≤ o → o < c 0 → (0 ≤ c (13 + 6 * o) ∧ c (13 + 6 * o) < 3) ∧ (0 ≤ c (14 + 6 * o) ∧ c (14 + 6 * o) < 2) ∧ (-20000 * c 1 ≤ c (17 + 6 * o) ∧ c (17 + 6 * o) ≤ 20000 * c 1) ∧
    ((c (12 + 6 * o) = 0 ∧ (0 ≤ c (15 + 6 * o) ∧ c (15 + 6 * o) < 3) ∧ c (15 + 6 * o) ≠ c (13 + 6 * o) ∧ 0 ≤ c (16 + 6 * o) ∧ c (16 + 6 * o) < 2) ∨
     (c (12 + 6 * o) = 1 ∧ (0 ≤ c (15 + 6 * o) ∧ c (15 + 6 * o) < 3) ∧ 0 ≤ c (16 + 6 * o) ∧ c (16 + 6 * o) < 10))) ∧
  (∀ r i, 0 ≤ r → r < 3 → 0 ≤ i → i < c (9 + r) → (0 ≤ c (36 + 27 * r + 3 * i) ∧ c (36 + 27 * r + 3 * i) < 10) ∧ (0 ≤ c (37 + 27 * r + 3 * i) ∧ c (37 + 27 * r + 3 * i) < 10) ∧ (1 ≤ c (38 + 27 * r + 3 * i) ∧ c (38 + 27 * r + 3 * i) ≤ c 1) ∧ (i + 1 < c (9 + r) → c (38 + 27 * r + 3 * i) < c (38 + 27 * r + 3 * (i + 1))))
def TInv (t : Int → Int) : Prop := (1 ≤ t 0 ∧ t 0 ≤ 999) ∧ (0 ≤ t 1 ∧ t 1 ≤ 10) ∧ (0 ≤ t 2 ∧ t 2 ≤ 9)
abbrev tLR : Type := Int → (Int → Int) → (Int → Int) → Int → (Int → Int) → Prop
/-- a LAW of the class at t, and the reference's rows of it -/
def LawAt (LR : tLR) (K : Int → Nat × Nat) (F E : Int → Int → Int) (t : Int) (g : Int → Int) : Prop := 105 ≤ t ∧ (K t).1 = 9 ∧ 105 ≤ F t 0 ∧ 105 ≤ F t 1 ∧ K (F t 0) = (20, (6 * F t 2).toNat) ∧ K (F t 1) = (20, (F t 3).toNat) ∧ LR (F t 2) (E (F t 0)) (E (F t 1)) (F t 3) g
/-- all that an IMAGE keeps, and the reference's row of it -/
def KR (LA : Int → (Int → Int) → Prop) (cA cT c1 c2 cL : Int → Int) (s l f : Int) (g : Int → Int) : Prop :=
  (Rel cA g ∧ CInv cA) ∧ ((g 3 = cT 0 ∧ g 4 = cT 1 ∧ g 5 = cT 2) ∧ TInv cT) ∧
  (g 0 = s ∧ 0 ≤ s ∧ s ≤ 6 ∧ ∀ k, 0 ≤ k → k < s → g (123 + 2 * k) = c1 k ∧ g (124 + 2 * k) = c2 k ∧ (0 ≤ c1 k ∧ c1 k ≤ 2) ∧ 0 ≤ c2 k ∧ c2 k ≤ 9) ∧
  (g 1 = l ∧ 0 ≤ l ∧ l ≤ 6 ∧ (∀ i, 0 ≤ i → i < l → LA (cL i) (fun j => g (135 + 900 * i + j))) ∧ ∀ i, 0 ≤ i → i < 6 → cL i = -1 ∨ ∃ r, LA (cL i) r) ∧ (g 2 = f ∧ -1 ≤ f ∧ f < l)
/-- what can be undone -/
def UR (first size : Int) (kd cl : Int → Int) (nu : Int) (un so : Int → Int) : Prop := (0 ≤ first ∧ first < 16) ∧ (0 ≤ size ∧ size ≤ 16) ∧ nu = size ∧
  ∀ i, 0 ≤ i → i < size → so i = kd ((first + i) % 16) ∧ (0 ≤ so i ∧ so i ≤ 4) ∧ (∀ k, 0 ≤ k → k < 117 → un (117 * i + k) = cl ((first + i) % 16 * 117 + k)) ∧ CInv (fun k => un (117 * i + k))
def TpR (len : Int) (by_ : Int → Int) (tl : Int) (tp : Int → Int) : Prop := tl = len ∧ (0 ≤ len ∧ len ≤ 400) ∧ ∀ i, 0 ≤ i → i < len → tp i = bAnd (by_ i) 255 ∧ 0 ≤ tp i ∧ tp i < 256
def LtR (r : Int) (rs : Int → Int) (sc : Int) (sr : Int → Int) (dp nt : Int) (to_ : Int → Int) (ns : Int) (ts : Int → Int) (dd : Int) : Prop := (nt = r ∧ 0 ≤ r ∧ r < 2147483648) ∧ (ns = sc ∧ 0 ≤ sc ∧ sc < 2147483648) ∧ dd = dp ∧ (∀ i, 0 ≤ i → i < 3 * r → i < 297 → to_ i = rs i) ∧ ∀ i, 0 ≤ i → i < sc → i < 99 → ts i = sr i
def RfR (c m : Int → Int) : Prop := m 1 = c 0 ∧ m 2 = c 1 ∧ m 3 = c 2 ∧ m 5 = c 3 ∧ m 6 = c 4
def DrR (has : Int) (c : Int → Int) (dn : Int) (d : Int → Int) : Prop := (has = 0 ∧ dn = -1) ∨ (has = 1 ∧ dn = c 0 ∧ (0 ≤ dn ∧ dn ≤ 4) ∧ (∀ o, 0 ≤ o → o < dn → d o = c (17 + 6 * o)) ∧ ∀ r, 0 ≤ r → r < 3 → d (4 + r) = c (9 + r))
def ImR (LA : Int → (Int → Int) → Prop) (ck : Int) (mk : Int) (cA cT c1 c2 cL : Int → Int) (s l f : Int) (g : Int → Int) : Prop := mk = ck ∧ (ck = 0 ∨ (ck = 1 ∧ KR LA cA cT c1 c2 cL s l f g))
/-- elements that are never written: the images' places, the reference's words -/
def eTab : List (Int × Int × Int) := [(8, 0, 52), (8, 1, 59), (81, 0, 496), (81, 1, 624248366574), (81, 2, 1), (81, 3, 2), (81, 4, 632645), (81, 5, 21780338323), (81, 6, 13683059), (81, 7, 20579760), (81, 8, 441828), (82, 0, 20579760), (82, 1, 146885), (82, 2, 404362868), (82, 3, 19515749011), (82, 4, 17048404639315), (82, 5, 267652), (82, 6, 21780338323), (83, 0, 3657363), (83, 1, 67155), (102, 0, 114085), (102, 1, 659105125), (102, 2, 781652471), (102, 3, 9900216)]
def ES (E : Int → Int → Int) : Prop := ∀ t ∈ eTab, E t.1 t.2.1 = t.2.2
def XS (G : pG) (K : Int → Nat × Nat) (E : Int → Int → Int) : Prop := ∀ w : Nat, w < 2 → pRef G.1 (G.2.2.2.2 w) < 0 ∧ K (pRef G.1 (G.2.2.2.2 w)) = (20, 3) ∧ E (pRef G.1 (G.2.2.2.2 w)) 0 = (if w = 0 then 1 else 999) ∧ E (pRef G.1 (G.2.2.2.2 w)) 1 = (if w = 0 then 0 else 10) ∧ E (pRef G.1 (G.2.2.2.2 w)) 2 = (if w = 0 then 0 else 9)
def Inv (LR : tLR) (G : pG) (n : Nat) (K : Int → Nat × Nat) (F E : Int → Int → Int) : Prop :=
  (KS K ∧ FS F ∧ 105 ≤ n ∧ ES E ∧ XS G K E) ∧
  KR (LawAt LR K F E) (E 3) (E 4) (E 5) (E 6) (E 7) (F 1 4) (F 1 6) (F 1 7) (E 68) ∧
  ImR (LawAt LR K F E) (E 9 0) (E 70 0) (E 54) (E 55) (E 56) (E 57) (E 58) (F 52 4) (F 52 6) (F 52 7) (fun j => E 69 j) ∧
  ImR (LawAt LR K F E) (E 9 1) (E 70 1) (E 61) (E 62) (E 63) (E 64) (E 65) (F 59 4) (F 59 6) (F 59 7) (fun j => E 69 (5535 + j)) ∧
  UR (F 10 2) (F 10 3) (E 11) (E 12) (F 66 8) (E 71) (E 72) ∧
  TpR (F 22 1) (E 23) (F 66 13) (E 75) ∧
  LtR (F 41 1) (E 42) (F 41 3) (E 43) (F 41 4) (F 66 59) (E 97) (F 66 61) (E 98) (F 66 62) ∧
  (F 66 1 = F 0 16 ∧ RfR (E 49) (E 67)) ∧ (F 66 11 = F 0 18 ∧ F 66 18 = F 0 17 ∧ F 66 70 = F 44 5) ∧
  DrR (F 0 7) (E 19) (F 66 74) (E 104) ∧ F 66 20 = 0
def InvM (LR : tLR) (G : pG) (μ : pM) : Prop := Inv LR G μ.1 μ.2.1 μ.2.2.1 μ.2.2.2
theorem XS.up {G : pG} {K : Int → Nat × Nat} {E : Int → Int → Int} {a k v : Int} (h : XS G K E) (ha : 0 ≤ a) : XS G K (pUp E a k v) := by
  intro w hw
  obtain ⟨h1, h2⟩ := h w hw
  rw [pUp_an (by omega)]
  exact ⟨h1, h2⟩
theorem XS.row {G : pG} {K : Int → Nat × Nat} {E : Int → Int → Int} {a : Int} {g : Int → Int} (h : XS G K E) (ha : 0 ≤ a) : XS G K (pRow E a g) := by
  intro w hw
  obtain ⟨h1, h2⟩ := h w hw
  rw [pRow_ne (by omega)]
  exact ⟨h1, h2⟩
theorem ES.up {E : Int → Int → Int} {a k v : Int} (h : ES E) (hn : eTab.all (fun t => !(decide (t.1 = a))) = true) : ES (pUp E a k v) := by
  intro t ht
  have := List.all_eq_true.mp hn t ht
  simp at this
  rw [pUp_an this]
  exact h t ht
theorem ES.row {E : Int → Int → Int} {a : Int} {g : Int → Int} (h : ES E) (hn : eTab.all (fun t => !(decide (t.1 = a))) = true) : ES (pRow E a g) := by
  intro t ht
  have := List.all_eq_true.mp hn t ht
  simp at this
  rw [pRow_ne this]
  exact h t ht
/-- a LAW stays where only cells below 105 are written -/
theorem LawAt.keep {LR : tLR} {K : Int → Nat × Nat} {F E F' E' : Int → Int → Int} {t : Int} {g : Int → Int} (h : LawAt LR K F E t g) (hF : ∀ a, 105 ≤ a → F' a = F a) (hE : ∀ a, 105 ≤ a → E' a = E a) : LawAt LR K F' E' t g := by
  obtain ⟨h1, h2, h3, h4, h5, h6, h7⟩ := h
  unfold LawAt
  rw [hF t h1, hE _ h3, hE _ h4]
  exact ⟨h1, h2, h3, h4, h5, h6, h7⟩
theorem LawAt.keepP {LR : tLR} {K : Int → Nat × Nat} {F E F' E' : Int → Int → Int} (hF : ∀ a, 105 ≤ a → F' a = F a) (hE : ∀ a, 105 ≤ a → E' a = E a) : LawAt LR K F' E' = LawAt LR K F E := by
  funext t g
  exact propext ⟨fun h => h.keep (fun a ha => (hF a ha).symm) (fun a ha => (hE a ha).symm), fun h => h.keep hF hE⟩
