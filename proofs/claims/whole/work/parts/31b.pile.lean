/-! THE PILE of the reference, and how it is settled -/
/-- op, its place, where its left part begins, what that comes to, how high it goes -/
abbrev It : Type := Int × Int × Int × tPhi × Int
def PileM (E : Int → Int → Int) : List It → Prop
  | [] => True
  | x :: L => (E 79 L.length = x.1 ∧ E 80 L.length = x.2.1) ∧ ((20 ≤ x.1 ∧ x.1 ≤ 32) ∧ 0 ≤ x.2.1 ∧ x.2.1 < 400) ∧ PileM E L
def em : List It → Int
  | [] => 0
  | x :: L => (if x.1 < 29 then 1 else 0) + em L
def msm : List It → Int
  | [] => 0
  | x :: L => x.2.2.2.2 + msm L
def cmI (x : It) (f : tPhi) : tPhi := if x.1 < 28 then pBin (x.1 - 14) x.2.2.2.1 f else if x.1 = 28 then pNt f else if x.1 = 29 then pAnd x.2.2.2.1 f else pOr x.2.2.2.1 f
def foI : List It → tPhi → tPhi
  | [], f => f
  | x :: L, f => foI L (cmI x f)
def bsI : List It → Int → Int
  | [], c => c
  | x :: L, _ => bsI L x.2.2.1
def AllB (k : Int) : List It → Prop
  | [] => True
  | x :: L => k ≤ pBinds x.1 ∧ AllB k L
def HdLt (k : Int) : List It → Prop
  | [] => True
  | x :: _ => pBinds x.1 < k
/-- an item whose right part begins at c and comes to f -/
def ItOk (o nw : Int) (op ar : Int → Int) (x : It) (c : Int) (f : tPhi) : Prop :=
  0 ≤ x.2.2.1 ∧ (((20 ≤ x.1 ∧ x.1 < 28) ∧ x.2.2.1 ≤ c ∧ SegR o op ar x.2.2.1 c x.2.2.2.1 x.2.2.2.2 nw ∧ 1 ≤ x.2.2.2.2 ∧ PhOk x.2.2.2.1 nw ∧ PhOk f nw) ∨
  (x.1 = 28 ∧ x.2.2.1 = c ∧ x.2.2.2.2 = 0 ∧ Tst f) ∨
  ((x.1 = 29 ∨ x.1 = 30) ∧ x.2.2.1 ≤ x.2.1 ∧ x.2.1 + 1 = c ∧ SegR o op ar x.2.2.1 x.2.1 x.2.2.2.1 x.2.2.2.2 nw ∧ 1 ≤ x.2.2.2.2 ∧ op x.2.1 = x.1 ∧ Tst f))
def Pend (o nw : Int) (op ar : Int → Int) : List It → Int → tPhi → Prop
  | [], _, _ => True
  | x :: L, c, f => ItOk o nw op ar x c f ∧ Pend o nw op ar L x.2.2.1 (cmI x f)
theorem ItOk.congr {o nw : Int} {op ar op' ar' : Int → Int} {x : It} {c : Int} {f : tPhi} (h : ItOk o nw op ar x c f) (e : ∀ j, j < c → op' j = op j ∧ ar' j = ar j) : ItOk o nw op' ar' x c f := by
  obtain ⟨h0, h⟩ := h
  refine ⟨h0, ?_⟩
  rcases h with ⟨a1, a2, a3, a4⟩ | h | ⟨a1, a2, a3, a4, a5, a6, a7⟩
  · exact Or.inl ⟨a1, a2, a3.congr fun j j0 j1 => e j (by omega), a4⟩
  · exact Or.inr (Or.inl h)
  · exact Or.inr (Or.inr ⟨a1, a2, a3, a4.congr fun j j0 j1 => e j (by omega), a5, by rw [(e x.2.1 (by omega)).1]; exact a6, a7⟩)
theorem ItOk.le {o nw : Int} {op ar : Int → Int} {x : It} {c : Int} {f : tPhi} (h : ItOk o nw op ar x c f) : x.2.2.1 ≤ c ∧ 0 ≤ x.2.2.2.2 := by
  rcases h.2 with h | h | h <;> omega
theorem Pend.congr {o nw : Int} {op ar op' ar' : Int → Int} (L : List It) : ∀ {c : Int} {f : tPhi}, Pend o nw op ar L c f → (∀ j, j < c → op' j = op j ∧ ar' j = ar j) → Pend o nw op' ar' L c f := by
  induction L with
  | nil => intro c f _ _; trivial
  | cons x L ih =>
    intro c f h e
    have := h.1.le
    exact ⟨h.1.congr e, ih h.2 fun j hj => e j (by omega)⟩
theorem Pend.le {o nw : Int} {op ar : Int → Int} (L : List It) : ∀ {c : Int} {f : tPhi}, Pend o nw op ar L c f → bsI L c ≤ c ∧ 0 ≤ msm L := by
  induction L with
  | nil => intro c f _; exact ⟨Int.le_refl _, Int.le_refl _⟩
  | cons x L ih =>
    intro c f h
    have a := h.1.le
    have b := ih h.2
    refine ⟨?_, ?_⟩
    · show bsI L x.2.2.1 ≤ c; omega
    · show 0 ≤ x.2.2.2.2 + msm L; omega
theorem bsI_app {x : It} (L : List It) : ∀ {c : Int}, bsI (L ++ [x]) c = x.2.2.1 := by
  induction L with
  | nil => intro c; rfl
  | cons y L ih => intro c; exact ih
theorem foI_app {x : It} (L : List It) : ∀ {f : tPhi}, foI (L ++ [x]) f = cmI x (foI L f) := by
  induction L with
  | nil => intro f; rfl
  | cons y L ih => intro f; exact ih
theorem msm_app {x : It} (L : List It) : msm (L ++ [x]) = msm L + x.2.2.2.2 := by
  induction L with
  | nil => show x.2.2.2.2 + 0 = 0 + x.2.2.2.2; omega
  | cons y L ih => show y.2.2.2.2 + msm (L ++ [x]) = y.2.2.2.2 + msm L + x.2.2.2.2; omega
theorem em_app (L M : List It) : em (L ++ M) = em L + em M := by
  induction L with
  | nil => show em M = 0 + em M; omega
  | cons y L ih => show (if y.1 < 29 then 1 else 0) + em (L ++ M) = (if y.1 < 29 then 1 else 0) + em L + em M; omega
theorem em_pos (L : List It) : 0 ≤ em L := by
  induction L with
  | nil => exact Int.le_refl _
  | cons y L ih => show 0 ≤ (if y.1 < 29 then 1 else 0) + em L; split <;> omega
theorem AllB.app {k : Int} {x : It} (hx : k ≤ pBinds x.1) (L : List It) : AllB k L → AllB k (L ++ [x]) := by
  induction L with
  | nil => intro _; exact ⟨hx, trivial⟩
  | cons y L ih => intro h; exact ⟨h.1, ih h.2⟩
theorem AllB.mono {k k' : Int} (hk : k' ≤ k) (L : List It) : AllB k L → AllB k' L := by
  induction L with
  | nil => intro _; trivial
  | cons y L ih => intro h; exact ⟨Int.le_trans hk h.1, ih h.2⟩
theorem Pend.app {o nw : Int} {op ar : Int → Int} {x : It} (L : List It) : ∀ {c : Int} {f : tPhi}, Pend o nw op ar L c f → ItOk o nw op ar x (bsI L c) (foI L f) → Pend o nw op ar (L ++ [x]) c f := by
  induction L with
  | nil => intro c f _ h; exact ⟨h, trivial⟩
  | cons y L ih => intro c f h h2; exact ⟨h.1, ih h.2 h2⟩
theorem PileM.congr {E E' : Int → Int → Int} (L : List It) : PileM E L → (∀ j, j < (L.length : Int) → E' 79 j = E 79 j ∧ E' 80 j = E 80 j) → PileM E' L := by
  induction L with
  | nil => intro _ _; trivial
  | cons x L ih =>
    intro h e
    have e1 := e L.length (by show (L.length : Int) < ((L.length + 1 : Nat) : Int); omega)
    exact ⟨by rw [e1.1, e1.2]; exact h.1, h.2.1, ih h.2.2 fun j hj => e j (by show j < ((L.length + 1 : Nat) : Int); omega)⟩
theorem PileM.tail {E : Int → Int → Int} (L M : List It) : PileM E (L ++ M) → PileM E M := by
  induction L with
  | nil => exact id
  | cons x L ih => intro h; exact ih h.2.2
/-- what stands on the pile, and the piece that is open at its end -/
def StI (o nw : Int) (op ar : Int → Int) (k : Int) (I : List It) (c0 e : Int) (f : tPhi) (m : Int) : Prop := ∃ c1 f1 m1, AllB k I ∧ Pend o nw op ar I c1 f1 ∧ SegR o op ar c1 e f1 m1 nw ∧ (c1 < e ∧ 1 ≤ m1 ∧ 0 ≤ c1) ∧ bsI I c1 = c0 ∧ foI I f1 = f ∧ msm I + m1 = m
theorem StI.mono {o nw k k' c0 e m : Int} {op ar : Int → Int} {I : List It} {f : tPhi} (h : StI o nw op ar k I c0 e f m) (hk : k' ≤ k) : StI o nw op ar k' I c0 e f m := by
  obtain ⟨c1, f1, m1, a, b⟩ := h
  exact ⟨c1, f1, m1, a.mono hk, b⟩
theorem StI.le {o nw k c0 e m : Int} {op ar : Int → Int} {I : List It} {f : tPhi} (h : StI o nw op ar k I c0 e f m) : c0 < e ∧ 1 ≤ m := by
  obtain ⟨c1, f1, m1, a, b, c, d, e1, e2, e3⟩ := h
  have := b.le
  omega
theorem StI.congr {o nw k c0 e m : Int} {op ar op' ar' : Int → Int} {I : List It} {f : tPhi} (h : StI o nw op ar k I c0 e f m) (q : ∀ j, j < e → op' j = op j ∧ ar' j = ar j) : StI o nw op' ar' k I c0 e f m := by
  obtain ⟨c1, f1, m1, a, b, c, d, e1⟩ := h
  exact ⟨c1, f1, m1, a, b.congr I fun j hj => q j (by omega), c.congr fun j j0 j1 => q j (by omega), d, e1⟩
theorem StI.one {o nw k c0 e m : Int} {op ar : Int → Int} {f : tPhi} (h : SegR o op ar c0 e f m nw) (d : c0 < e ∧ 1 ≤ m ∧ 0 ≤ c0) : StI o nw op ar k [] c0 e f m := ⟨c0, f, m, trivial, trivial, h, d, rfl, rfl, by show 0 + m = m; omega⟩
theorem StI.app {o nw k c0 e m : Int} {op ar : Int → Int} {I : List It} {f : tPhi} {x : It} (h : StI o nw op ar k I c0 e f m) (hx : ItOk o nw op ar x c0 f) (hb : k ≤ pBinds x.1) : StI o nw op ar k (I ++ [x]) x.2.2.1 e (cmI x f) (x.2.2.2.2 + m) := by
  obtain ⟨c1, f1, m1, a, b, c, d, e1, e2, e3⟩ := h
  refine ⟨c1, f1, m1, a.app hb, b.app I (by rw [e1, e2]; exact hx), c, d, bsI_app I, by rw [foI_app, e2], by rw [msm_app]; omega⟩
theorem pBinds_ge {o : Int} (h : 31 ≤ o) : pBinds o = 0 := by unfold pBinds; rw [if_pos h]
section C
variable {l : Launch} {G : pG} {bg : Nat × Nat} {n : Nat} {K : Int → Nat × Nat} {Q : Option pV → pM → Prop} {k o nw : Int}
/-- the frame of settling -/
def FrS (F E F' E' : Int → Int → Int) : Prop := (∀ r, r ≠ 77 → r ≠ 78 → E' r = E r) ∧ FS F' ∧ (∀ a j, ¬ (a = 66 ∧ (j = 23 ∨ j = 29)) → F' a j = F a j)
theorem FrS.trans {F E F' E' F'' E'' : Int → Int → Int} (h : FrS F E F' E') (h' : FrS F' E' F'' E'') : FrS F E F'' E'' := ⟨fun r a b => (h'.1 r a b).trans (h.1 r a b), h'.2.1, fun a j q => (h'.2.2 a j q).trans (h.2.2 a j q)⟩
theorem FrS.r {F E F' E' : Int → Int → Int} (h : FrS F E F' E') : FrQ F E F' E' := ⟨fun r a b _ _ => h.1 r a b, h.2.1, fun a j q => h.2.2 a j (by omega)⟩
/-- one item is settled -/
theorem r_settle1 {F E : Int → Int → Int} {x : It} {L : List It} (hk : 1 ≤ k) (hK : KS K) (hF : FS F) (hp : PileM E (x :: L)) (h29 : F 66 29 = ((x :: L).length : Int)) (l1 : (L.length : Int) < 400) (e0 : 0 ≤ F 66 23) (e1 : F 66 23 + em (x :: L) ≤ 400) (hb : k ≤ pBinds x.1)
    (h : ∀ F' E', FrS F E F' E' → F' 66 29 = (L.length : Int) → ((20 ≤ x.1 ∧ x.1 < 29 ∧ F' 66 23 = F 66 23 + 1 ∧ E' 77 = rUp (E 77) (F 66 23) x.1 ∧ E' 78 = rUp (E 78) (F 66 23) 0) ∨ ((x.1 = 29 ∨ x.1 = 30) ∧ F' 66 23 = F 66 23 ∧ E' 77 = E 77 ∧ E' 78 = rUp (E 78) x.2.1 (F 66 23))) → PW l G 1 mX12_settle bg 0 [(0, (2, 66)), (1, (0, k))] [] (n, K, F', E') Q) : PW l G 1 mX12_settle bg 0 [(0, (2, 66)), (1, (0, k))] [] (n, K, F, E) Q := by
  obtain ⟨⟨p1, p2⟩, ⟨p3, p4⟩, p5⟩ := hp
  have ln : ((x :: L).length : Int) = L.length + 1 := by show ((L.length + 1 : Nat) : Int) = L.length + 1; omega
  have ee : em (x :: L) = (if x.1 < 29 then 1 else 0) + em L := rfl
  have ep := em_pos L
  have tp : F 66 29 - 1 = L.length := by omega
  have x31 : x.1 < 31 := by
    by_cases z : 31 ≤ x.1
    · rw [pBinds_ge z] at hb; omega
    · omega
  refine vX12_settle_0 66 k ?_
  simp only [hF.f66_27, hF.f66_28, hF.f66_24, hF.f66_25, hK.k66, hK.k79, hK.k80, hK.k77, hK.k78, tp, p1, p2]
  refine ⟨trivial, fun z => absurd z (by omega), fun _ => ⟨by omega, trivial, by omega, fun z => absurd z (by omega), fun _ F1 f1 => ⟨fun z => ⟨trivial, by omega, by decide, trivial, by omega, fun E2 e2 => ?_⟩, fun z => ⟨fun y => ?_, fun y => ⟨trivial, by omega, by decide, trivial, by omega, fun E2 e2 => ?_⟩⟩⟩⟩⟩
  · rw [e2, f1]
    refine h _ _ ⟨fun r a b => by rw [pUp_an b], hF.up (by decide), fun a j q => by unfold pUp; rw [if_neg (by omega)]⟩ pUp_s (Or.inr ⟨Or.inl z, by rw [pUp_k (by decide)], by rw [pUp_an (by decide)], by rw [pUp_row, pRow1, if_pos rfl]⟩)
  · have x29 : x.1 < 29 := by omega
    rw [if_pos x29] at ee
    refine ⟨by decide, trivial, by omega, fun E3 e3 => ⟨by decide, trivial, by omega, fun E4 e4 => ⟨by omega, fun F5 f5 => ?_⟩⟩⟩
    rw [f5, f1, e4, e3]
    refine h _ _ ⟨fun r a b => by rw [pUp_an b, pUp_an a], (hF.up (by decide)).up (by decide), fun a j q => by unfold pUp; rw [if_neg (by omega), if_neg (by omega)]⟩ (by rw [pUp_k (by decide), pUp_s]) (Or.inl ⟨p3.1, x29, pUp_s, by rw [pUp_an (by decide), pUp_row, pRow1, if_pos rfl], by rw [pUp_row, pRow1, if_pos rfl, pUp_an (by decide)]⟩)
  · rw [e2, f1]
    refine h _ _ ⟨fun r a b => by rw [pUp_an b], hF.up (by decide), fun a j q => by unfold pUp; rw [if_neg (by omega)]⟩ pUp_s (Or.inr ⟨Or.inr y, by rw [pUp_k (by decide)], by rw [pUp_an (by decide)], by rw [pUp_row, pRow1, if_pos rfl]⟩)
/-- nothing is left to settle -/
theorem r_settle0 {F E : Int → Int → Int} {S : List It} (hK : KS K) (hF : FS F) (hp : PileM E S) (h29 : F 66 29 = (S.length : Int)) (l1 : (S.length : Int) ≤ 400) (hs : HdLt k S) (h : Q none (n, K, F, E)) : PW l G 1 mX12_settle bg 0 [(0, (2, 66)), (1, (0, k))] [] (n, K, F, E) Q := by
  refine vX12_settle_0 66 k ?_
  cases S with
  | nil =>
    have z : F 66 29 = 0 := h29
    simp only [hK.k66, z]
    exact ⟨trivial, fun _ => h, fun y => absurd (Int.le_refl 0) y⟩
  | cons x S =>
    obtain ⟨⟨p1, p2⟩, ⟨p3, p4⟩, p5⟩ := hp
    have ln : ((x :: S).length : Int) = S.length + 1 := by show ((S.length + 1 : Nat) : Int) = S.length + 1; omega
    have tp : F 66 29 - 1 = S.length := by omega
    have hs' : pBinds x.1 < k := hs
    simp only [hF.f66_27, hK.k66, hK.k79, tp, p1]
    exact ⟨trivial, fun z => absurd z (by omega), fun _ => ⟨by omega, trivial, by omega, fun _ => h, fun z => absurd hs' z⟩⟩
/-- a pile is settled down to what is weaker than k -/
theorem r_settle (hk : 1 ≤ k) (hK : KS K) (I : List It) : ∀ (S : List It) (F E : Int → Int → Int) (c1 m1 : Int) (f1 : tPhi), FS F → PileM E (I ++ S) → F 66 29 = ((I ++ S).length : Int) → ((I ++ S).length : Int) ≤ 400 → 0 ≤ F 66 23 → F 66 23 + em (I ++ S) ≤ 400 → AllB k I → HdLt k S → Pend o nw (E 77) (E 78) I c1 f1 → SegR o (E 77) (E 78) c1 (F 66 23) f1 m1 nw → (c1 ≤ F 66 23 ∧ 1 ≤ m1 ∧ 0 ≤ c1) →
    (∀ F' E', FrS F E F' E' → F' 66 29 = (S.length : Int) → F' 66 23 = F 66 23 + em I → (∀ j, j < bsI I c1 → E' 77 j = E 77 j ∧ E' 78 j = E 78 j) → SegR o (E' 77) (E' 78) (bsI I c1) (F' 66 23) (foI I f1) (msm I + m1) nw → Q none (n, K, F', E')) →
    PW l G 1 mX12_settle bg 0 [(0, (2, 66)), (1, (0, k))] [] (n, K, F, E) Q := by
  induction I with
  | nil =>
    intro S F E c1 m1 f1 hF hp h29 l1 e0 e1 ha hs hpe sg d hQ
    refine r_settle0 hK hF hp h29 l1 hs (hQ F E ⟨fun _ _ _ => rfl, hF, fun _ _ _ => rfl⟩ h29 (by show F 66 23 = F 66 23 + 0; omega) (fun _ _ => ⟨rfl, rfl⟩) ?_)
    show SegR o (E 77) (E 78) c1 (F 66 23) f1 (0 + m1) nw
    rw [show 0 + m1 = m1 by omega]
    exact sg
  | cons x I ih =>
    intro S F E c1 m1 f1 hF hp h29 l1 e0 e1 ha hs hpe sg d hQ
    have ln : ((x :: I ++ S).length : Int) = (I ++ S).length + 1 := by show (((I ++ S).length + 1 : Nat) : Int) = (I ++ S).length + 1; omega
    have ee : em (x :: I ++ S) = (if x.1 < 29 then 1 else 0) + em (I ++ S) := rfl
    have ee2 : em (x :: I) = (if x.1 < 29 then 1 else 0) + em I := rfl
    have ep := em_pos (I ++ S)
    obtain ⟨io, pe⟩ := hpe
    have il := io.le
    have pl := pe.le
    refine r_settle1 (L := I ++ S) hk hK hF hp h29 (by omega) e0 e1 ha.1 fun F1 E1 w g29 cs => ?_
    have pm : PileM E1 (I ++ S) := PileM.congr (I ++ S) hp.2.2 fun j _ => by rw [w.1 79 (by decide) (by decide), w.1 80 (by decide) (by decide)]; exact ⟨rfl, rfl⟩
    rcases cs with ⟨x0, x29, g23, q77, q78⟩ | ⟨x29, g23, q77, q78⟩
    · rw [if_pos x29] at ee ee2
      have ag : ∀ j, j < F 66 23 → E1 77 j = E 77 j ∧ E1 78 j = E 78 j := fun j hj => by rw [q77, q78, rUp_n (by omega), rUp_n (by omega)]; exact ⟨rfl, rfl⟩
      have at_ : E1 77 (F 66 23) = x.1 := by rw [q77, rUp_s]
      have sg1 : SegR o (E1 77) (E1 78) c1 (F 66 23) f1 m1 nw := sg.congr fun j j0 j1 => ag j j1
      have sgn : SegR o (E1 77) (E1 78) x.2.2.1 (F 66 23 + 1) (cmI x f1) (x.2.2.2.2 + m1) nw := by
        rcases io.2 with ⟨a1, a2, a3, a4, a5, a6⟩ | ⟨a1, a2, a3, a4⟩ | ⟨a1, _⟩
        · have := segR_bin (o' := x.1 - 14) a2 d.1 a4 d.2.1 (a3.congr fun j j0 j1 => ag j (by omega)) sg1 a5 a6 (by omega) (by rw [at_]; omega)
          unfold cmI
          rw [if_pos a1.2]
          exact this
        · have := segR_nt d.1 d.2.1 sg1 a4 (by rw [at_]; exact a1)
          unfold cmI
          rw [if_neg (by omega), if_pos a1, a2, a3, show 0 + m1 = m1 by omega]
          exact this
        · omega
      refine ih S F1 E1 x.2.2.1 (x.2.2.2.2 + m1) (cmI x f1) w.2.1 pm g29 (by omega) (by omega) (by omega) ha.2 hs (pe.congr I fun j hj => ag j (by omega)) (by rw [g23]; exact sgn) (by rw [g23]; exact ⟨by omega, by omega, io.1⟩) fun F2 E2 w2 b29 b23 bj bs => ?_
      refine hQ F2 E2 (w.trans w2) b29 (by rw [b23, g23, ee2]; omega) (fun j hj => ?_) ?_
      · have hj' : j < bsI I x.2.2.1 := hj
        have b := bj j hj
        have a := ag j (by omega)
        exact ⟨b.1.trans a.1, b.2.trans a.2⟩
      · show SegR o (E2 77) (E2 78) (bsI I x.2.2.1) (F2 66 23) (foI I (cmI x f1)) (x.2.2.2.2 + msm I + m1) nw
        rw [show x.2.2.2.2 + msm I + m1 = msm I + (x.2.2.2.2 + m1) by omega]
        exact bs
    · have xn : ¬ x.1 < 29 := by omega
      rw [if_neg xn] at ee ee2
      rcases io.2 with ⟨a1, _⟩ | ⟨a1, _⟩ | ⟨a1, a2, a3, a4, a5, a6, a7⟩
      · omega
      · omega
      have ag : ∀ j, j ≠ x.2.1 → E1 77 j = E 77 j ∧ E1 78 j = E 78 j := fun j hj => by rw [q77, q78, rUp_n hj]; exact ⟨rfl, rfl⟩
      have at_ : E1 77 x.2.1 = x.1 := by rw [q77]; exact a6
      have ar_ : E1 78 x.2.1 = F 66 23 := by rw [q78, rUp_s]
      have sg1 : SegR o (E1 77) (E1 78) (x.2.1 + 1) (F 66 23) f1 m1 nw := by rw [a3]; exact sg.congr fun j j0 j1 => ag j (by omega)
      have sg0 : SegR o (E1 77) (E1 78) x.2.2.1 x.2.1 x.2.2.2.1 x.2.2.2.2 nw := a4.congr fun j j0 j1 => ag j (by omega)
      have sgn : SegR o (E1 77) (E1 78) x.2.2.1 (F 66 23) (cmI x f1) (x.2.2.2.2 + m1) nw := by
        unfold cmI
        rw [if_neg (by omega), if_neg (by omega)]
        rcases a1 with a1 | a1
        · rw [if_pos a1]
          exact segR_and a2 (by omega) a5 d.2.1 sg0 sg1 (at_.trans a1) ar_
        · rw [if_neg (by omega)]
          exact segR_or a2 (by omega) a5 d.2.1 sg0 sg1 (at_.trans a1) ar_
      refine ih S F1 E1 x.2.2.1 (x.2.2.2.2 + m1) (cmI x f1) w.2.1 pm g29 (by omega) (by omega) (by omega) ha.2 hs (pe.congr I fun j hj => ag j (by omega)) (by rw [g23]; exact sgn) (by rw [g23]; exact ⟨by omega, by omega, io.1⟩) fun F2 E2 w2 b29 b23 bj bs => ?_
      refine hQ F2 E2 (w.trans w2) b29 (by rw [b23, g23, ee2]; omega) (fun j hj => ?_) ?_
      · have hj' : j < bsI I x.2.2.1 := hj
        have b := bj j hj
        have a := ag j (by omega)
        exact ⟨b.1.trans a.1, b.2.trans a.2⟩
      · show SegR o (E2 77) (E2 78) (bsI I x.2.2.1) (F2 66 23) (foI I (cmI x f1)) (x.2.2.2.2 + msm I + m1) nw
        rw [show x.2.2.2.2 + msm I + m1 = msm I + (x.2.2.2.2 + m1) by omega]
        exact bs
/-- whatever stands on the pile -/
theorem r_settleAny (hk : 1 ≤ k) (hK : KS K) (L : List It) : ∀ (F E : Int → Int → Int), FS F → PileM E L → F 66 29 = (L.length : Int) → (L.length : Int) ≤ 400 → 0 ≤ F 66 23 → F 66 23 + em L ≤ 400 →
    (∀ F' E', FrS F E F' E' → 0 ≤ F' 66 23 → F' 66 23 ≤ 400 → Q none (n, K, F', E')) → PW l G 1 mX12_settle bg 0 [(0, (2, 66)), (1, (0, k))] [] (n, K, F, E) Q := by
  induction L with
  | nil =>
    intro F E hF hp h29 l1 e0 e1 hQ
    have : em [] = 0 := rfl
    exact r_settle0 hK hF hp h29 l1 trivial (hQ F E ⟨fun _ _ _ => rfl, hF, fun _ _ _ => rfl⟩ e0 (by omega))
  | cons x L ih =>
    intro F E hF hp h29 l1 e0 e1 hQ
    have ln : ((x :: L).length : Int) = L.length + 1 := by show ((L.length + 1 : Nat) : Int) = L.length + 1; omega
    have ee : em (x :: L) = (if x.1 < 29 then 1 else 0) + em L := rfl
    have ep := em_pos L
    by_cases hb : k ≤ pBinds x.1
    · refine r_settle1 hk hK hF hp h29 (by omega) e0 e1 hb fun F1 E1 w g29 cs => ?_
      have pm : PileM E1 L := PileM.congr L hp.2.2 fun j _ => by rw [w.1 79 (by decide) (by decide), w.1 80 (by decide) (by decide)]; exact ⟨rfl, rfl⟩
      have g23 : 0 ≤ F1 66 23 ∧ F1 66 23 + em L ≤ 400 := by
        rcases cs with ⟨_, z, c, _⟩ | ⟨z, c, _⟩
        · rw [if_pos z] at ee; omega
        · rw [if_neg (by omega)] at ee; omega
      exact ih F1 E1 w.2.1 pm g29 (by omega) g23.1 g23.2 fun F2 E2 w2 => hQ F2 E2 (w.trans w2)
    · refine r_settle0 hK hF hp h29 l1 (by show pBinds x.1 < k; omega) (hQ F E ⟨fun _ _ _ => rfl, hF, fun _ _ _ => rfl⟩ e0 ?_)
      split at ee <;> omega
end C
