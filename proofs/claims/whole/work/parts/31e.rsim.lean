/-! THE REFERENCE READS as the grammar says: the modes -/
def kM (md : Int) : Int := if md = 0 then 7 else if md ≤ 2 then 6 else if md ≤ 4 then 5 else if md = 5 then 4 else if md = 6 then 3 else if md ≤ 8 then 2 else 1
def hM (md : Int) : Int := if md = 0 then 7 else if md ≤ 2 then 6 else if md ≤ 4 then 5 else if md ≤ 6 then 4 else if md ≤ 8 then 2 else 1
def eT (md : Int) : Int := if md ≤ 4 then 3 else 2
def stT (md s k : Int) : Prop := if md = 0 ∨ md = 1 ∨ md = 3 ∨ md = 5 then (s = 1 ∨ (s = 0 ∧ k ≠ 285 ∧ k ≠ 40)) else if md = 2 ∨ md = 4 then s = 3 else if md = 8 ∨ md = 10 then s = 2 else s = 0
def rst (md : Int) : Prop := md = 2 ∨ md = 4 ∨ md = 8 ∨ md = 10
def cxt (md : Int) (S : List It) (test : Int) : Prop := 5 ≤ md → inn S ≠ 32 ∧ (inn S = -1 → test ≠ 0)
def stc (md k : Int) : Prop := (md = 4 → tO k = 0) ∧ (md = 10 → aO k = 0)
def enc (md k : Int) : Prop := ((md = 1 ∨ md = 2 ∨ md = 3 ∨ md = 4) → tO k = 0) ∧ ((md = 3 ∨ md = 4) → sO k = 0) ∧ (7 ≤ md → aO k = 0) ∧ (9 ≤ md → oO k = 0)
def typ (nw md : Int) (f : tPhi) : Prop := if md ≤ 4 then PhOk f nw else Tst f
abbrev LoopR (l : Launch) (G : pG) (bg : Nat × Nat) (n : Nat) (K : Int → Nat × Nat) (test : Int) (Q : Option pV → pM → Prop) (x : Int) (F E : Int → Int → Int) : Prop := PW l G 6 mX12_readExpression bg 20 [(0, (2, 66)), (1, (0, test)), (2, (0, x))] [] (n, K, F, E) Q
def RS (lw : Bool) (tp : Int → Int) (len : Int) (T : Nat) (kd nm : Int → Int) : tG := fun md d t p fl ok t' p' f =>
  0 ≤ t → t ≤ T → 0 ≤ p → p ≤ 50 → 0 ≤ d → d ≤ 8 → stc md (kd t) → (rst md → typ (nwL lw) md fl) →
  ((t ≤ t' ∧ t' ≤ T) ∧ (ok = true → (p ≤ p' ∧ p' ≤ 50) ∧ enc md (kd t') ∧ typ (nwL lw) md f)) ∧
  ∀ (l : Launch) (G : pG) (bg : Nat × Nat) (n : Nat) (K : Int → Nat × Nat) (F E : Int → Int → Int) (Q : Option pV → pM → Prop) (test s : Int) (S I : List It) (c c0 m0 : Int),
    RSt lw tp len T K F E t p d c (I ++ S) → HdLt (hM md) S → cxt md S test → stT md s (kd t) →
    ((rst md ∧ StI (oL lw) (nwL lw) (E 77) (E 78) (kM md) I c0 c fl m0) ∨ (¬ rst md ∧ I = [] ∧ c0 = c ∧ m0 = 0)) →
    (ok = false → ∀ F' E' x, FlR tp len F E t' F' E' → LoopR l G bg n K test Q x F' E') →
    (ok = true → ∀ F' E' I' c', FrQ F E F' E' → (∀ j, j < c0 → E' 77 j = E 77 j ∧ E' 78 j = E 78 j) → RSt lw tp len T K F' E' t' p' d c' (I' ++ S) → StI (oL lw) (nwL lw) (E' 77) (E' 78) (kM md) I' c0 c' f (m0 + (p' - p)) → LoopR l G bg n K test Q (eT md) F' E') →
    LoopR l G bg n K test Q s F E
theorem HdLt.mono {k k' : Int} {S : List It} (h : HdLt k S) (e : k ≤ k') : HdLt k' S := by
  cases S with
  | nil => trivial
  | cons x S => exact Int.lt_of_lt_of_le h e
def MdOk (a b cc : Int) (op : Int → Int) : Prop := (¬ rst a ∧ ¬ rst b ∧ rst cc) ∧ (∀ s k, stT b s k → stT a s k) ∧ (eT b = eT a ∧ eT cc = eT a) ∧ (∀ s k, stT cc s k ↔ s = eT a) ∧ (kM b = kM cc ∧ kM cc ≤ kM a) ∧ (hM b = hM cc ∧ hM cc ≤ hM a) ∧ ((5 ≤ a ↔ 5 ≤ b) ∧ (5 ≤ cc ↔ 5 ≤ b)) ∧ (∀ k, stc a k ∧ stc b k) ∧ (∀ k, enc a k → stc cc k) ∧ (∀ k, stc cc k → op k = 0 → enc cc k) ∧ (∀ k, enc cc k → enc b k) ∧ (∀ nw f, (typ nw a f ↔ typ nw b f) ∧ (typ nw cc f ↔ typ nw b f)) ∧ op 256 = 0
theorem md_012 : MdOk 0 1 2 tO := by
  unfold MdOk
  refine ⟨by unfold rst; decide, fun s k h => ?_, by decide, fun s k => ?_, by decide, by decide, by decide, fun k => ?_, fun k h => ?_, fun k h e => ?_, fun k h => ?_, fun nw f => ?_, by decide⟩
  · unfold stT at *; rw [if_pos (by decide)] at *; exact h
  · unfold stT; rw [if_neg (by decide), if_pos (by decide)]; exact Iff.rfl
  · unfold stc; omega
  · unfold stc; omega
  · unfold enc; omega
  · unfold enc at *; omega
  · unfold typ; rw [if_pos (by decide), if_pos (by decide), if_pos (by decide)]; exact ⟨Iff.rfl, Iff.rfl⟩
theorem md_134 : MdOk 1 3 4 sO := by
  unfold MdOk
  refine ⟨by unfold rst; decide, fun s k h => ?_, by decide, fun s k => ?_, by decide, by decide, by decide, fun k => ?_, fun k h => ?_, fun k h e => ?_, fun k h => ?_, fun nw f => ?_, by decide⟩
  · unfold stT at *; rw [if_pos (by decide)] at *; exact h
  · unfold stT; rw [if_neg (by decide), if_pos (by decide)]; exact Iff.rfl
  · unfold stc; omega
  · unfold stc enc at *; omega
  · unfold stc enc at *; omega
  · unfold enc at *; omega
  · unfold typ; rw [if_pos (by decide), if_pos (by decide), if_pos (by decide)]; exact ⟨Iff.rfl, Iff.rfl⟩
theorem md_678 : MdOk 6 7 8 aO := by
  unfold MdOk
  refine ⟨by unfold rst; decide, fun s k h => ?_, by decide, fun s k => ?_, by decide, by decide, by decide, fun k => ?_, fun k h => ?_, fun k h e => ?_, fun k h => ?_, fun nw f => ?_, by decide⟩
  · unfold stT at *; rw [if_neg (by decide), if_neg (by decide), if_neg (by decide)] at *; exact h
  · unfold stT; rw [if_neg (by decide), if_neg (by decide), if_pos (by decide)]; exact Iff.rfl
  · unfold stc; omega
  · unfold stc enc at *; omega
  · unfold stc enc at *; omega
  · unfold enc at *; omega
  · unfold typ; rw [if_neg (by decide), if_neg (by decide), if_neg (by decide)]; exact ⟨Iff.rfl, Iff.rfl⟩
theorem md_790 : MdOk 7 9 10 oO := by
  unfold MdOk
  refine ⟨by unfold rst; decide, fun s k h => ?_, by decide, fun s k => ?_, by decide, by decide, by decide, fun k => ?_, fun k h => ?_, fun k h e => ?_, fun k h => ?_, fun nw f => ?_, by decide⟩
  · unfold stT at *; rw [if_neg (by decide), if_neg (by decide), if_neg (by decide)] at *; exact h
  · unfold stT; rw [if_neg (by decide), if_neg (by decide), if_pos (by decide)]; exact Iff.rfl
  · unfold stc; omega
  · unfold stc enc at *; omega
  · unfold stc enc at *; omega
  · unfold enc at *; omega
  · unfold typ; rw [if_neg (by decide), if_neg (by decide), if_neg (by decide)]; exact ⟨Iff.rfl, Iff.rfl⟩
section L
variable {lw : Bool} {tp : Int → Int} {len : Int} {T : Nat} {kd nm : Int → Int} {a b cc : Int} {op : Int → Int} {cmb : Int → tPhi → tPhi → tPhi}
theorem list_app {A : Type} {x : A} (I S : List A) : I ++ x :: S = (I ++ [x]) ++ S := by
  rw [List.append_assoc]; rfl
/-- a row of things -/
theorem rs_L (hE : TkE tp len T kd nm) (hm : MdOk a b cc op) (ht : ∀ o f g, typ (nwL lw) b f → typ (nwL lw) b g → typ (nwL lw) b (cmb o f g))
    (hs : ∀ (l : Launch) (G : pG) (bg : Nat × Nat) (n : Nat) (K : Int → Nat × Nat) (F E : Int → Int → Int) (Q : Option pV → pM → Prop) (test : Int) (S I : List It) (t p d c c0 m0 : Int) (fl : tPhi),
      RSt lw tp len T K F E t p d c (I ++ S) → HdLt (hM cc) S → cxt cc S test → StI (oL lw) (nwL lw) (E 77) (E 78) (kM cc) I c0 c fl m0 → op (kd t) ≠ 0 → stc cc (kd t) → typ (nwL lw) b fl → t < T →
      (∀ F' E' c1 x s', FrQ F E F' E' → (∀ j, j < c0 → E' 77 j = E 77 j ∧ E' 78 j = E 78 j) → RSt lw tp len T K F' E' (t + 1) p d c1 (x :: S) → (∀ g, typ (nwL lw) b g → ItOk (oL lw) (nwL lw) (E' 77) (E' 78) x c1 g) → (x.2.2.1 = c0 ∧ x.2.2.2.2 = m0 ∧ c0 ≤ c1) → (∀ g, cmI x g = cmb (op (kd t)) fl g) → kM cc ≤ pBinds x.1 → pBinds x.1 < hM a → inn (x :: S) = inn S → stT a s' (kd (t + 1)) → LoopR l G bg n K test Q s' F' E') → LoopR l G bg n K test Q (eT a) F E) :
    LRules kd (RS lw tp len T kd nm) a b cc op cmb := by
  obtain ⟨⟨m1, m2, m3⟩, m4, ⟨m5, m6⟩, m7, ⟨m8, m9⟩, ⟨m10, m11⟩, ⟨m12, m13⟩, m14, m15, m16, m17, m18, m19⟩ := hm
  have cxa : ∀ S test, cxt b S test → cxt a S test := fun S test h z => h (m12.mp z)
  have cxc : ∀ S test, cxt b S test → cxt cc S test := fun S test h z => h (m13.mp z)
  have cxd : ∀ S test, cxt cc S test → cxt a S test := fun S test h z => h (m13.mpr (m12.mp z))
  have tya : ∀ f, typ (nwL lw) a f ↔ typ (nwL lw) b f := fun f => (m18 _ f).1
  have tyc : ∀ f, typ (nwL lw) cc f ↔ typ (nwL lw) b f := fun f => (m18 _ f).2
  refine ⟨fun d t p t' p' f ha => ?_, fun d t p t' p' f ok t2 p2 g ha hc => ?_, fun d t p f ho => ?_, fun d t p f t' p' g ho ha => ?_, fun d t p f t' p' g ok t2 p2 h ho ha hc => ?_⟩
  · intro t0 t1 p0 p1 d0 d1 _ _
    obtain ⟨⟨r1, _⟩, r3⟩ := ha t0 t1 p0 p1 d0 d1 (m14 _).1 (fun z => absurd z m1)
    refine ⟨⟨r1, fun z => by cases z⟩, fun l G bg n K F E Q test s S I c c0 m0 st hh cx ss hI hF _ => ?_⟩
    rcases hI with hI | hI
    · exact absurd hI.1 m2
    · exact r3 l G bg n K F E Q test s S I c c0 m0 st (hh.mono (by omega)) (cxa _ _ cx) (m4 _ _ ss) (Or.inr ⟨m1, hI.2⟩) hF (fun z => by cases z)
  · intro t0 t1 p0 p1 d0 d1 _ _
    obtain ⟨⟨r1, r2⟩, r3⟩ := ha t0 t1 p0 p1 d0 d1 (m14 _).1 (fun z => absurd z m1)
    obtain ⟨q1, q2, q3⟩ := r2 rfl
    obtain ⟨⟨u1, u2⟩, u3⟩ := hc (by omega) r1.2 (by omega) q1.2 d0 d1 (m15 _ q2) (fun _ => (tyc f).mpr ((tya f).mp q3))
    refine ⟨⟨⟨by omega, u1.2⟩, fun z => ?_⟩, fun l G bg n K F E Q test s S I c c0 m0 st hh cx ss hI hF hT => ?_⟩
    · obtain ⟨v1, v2, v3⟩ := u2 z
      exact ⟨⟨by omega, v1.2⟩, m17 _ v2, (tyc g).mp v3⟩
    · rcases hI with hI | hI
      · exact absurd hI.1 m2
      obtain ⟨_, e1, e2, e3⟩ := hI
      subst e1
      subst e2
      subst e3
      refine r3 l G bg n K F E Q test s S [] c0 c0 0 st (hh.mono (by omega)) (cxa _ _ cx) (m4 _ _ ss) (Or.inr ⟨m1, rfl, rfl, rfl⟩) (fun z => by cases z) (fun _ F1 E1 I1 c1 w1 ag st1 si => ?_)
      refine u3 l G bg n K F1 E1 Q test (eT a) S I1 c1 c0 (0 + (p' - p)) st1 (by rw [← m10]; exact hh) (cxc _ _ cx) ((m7 _ _).mpr rfl) (Or.inl ⟨m3, si.mono m9⟩) (fun z F2 E2 x fl2 => hF z F2 E2 x (fl2.pre w1)) (fun z F2 E2 I2 c2 w2 ag2 st2 si2 => ?_)
      rw [m6, ← m5]
      refine hT z F2 E2 I2 c2 (w1.trans w2) (fun j hj => ⟨(ag2 j hj).1.trans (ag j hj).1, (ag2 j hj).2.trans (ag j hj).2⟩) st2 ?_
      rw [m8, show 0 + (p2 - p) = 0 + (p' - p) + (p2 - p') by omega]
      exact si2
  · intro t0 t1 p0 p1 d0 d1 sc ty
    refine ⟨⟨⟨by omega, t1⟩, fun _ => ⟨⟨by omega, p1⟩, m16 _ sc ho, ty m3⟩⟩, fun l G bg n K F E Q test s S I c c0 m0 st hh cx ss hI hF hT => ?_⟩
    rcases hI with hI | hI
    · have e : s = eT cc := by rw [m6]; exact (m7 _ _).mp ss
      rw [e]
      refine hT rfl F E I c (FrQ.refl st.1.2.1) (fun _ _ => ⟨rfl, rfl⟩) st ?_
      rw [show m0 + (p - p) = m0 by omega]
      exact hI.2
    · exact absurd m3 hI.1
  · intro t0 t1 p0 p1 d0 d1 sc ty
    have tl : t < T := hE.lt t1 (fun z => ho (by rw [z]; exact m19))
    obtain ⟨⟨r1, _⟩, r3⟩ := ha (by omega) (by omega) p0 p1 d0 d1 (m14 _).1 (fun z => absurd z m1)
    refine ⟨⟨by omega, fun z => by cases z⟩, fun l G bg n K F E Q test s S I c c0 m0 st hh cx ss hI hF _ => ?_⟩
    rcases hI with hI | hI
    · have e : s = eT a := (m7 _ _).mp ss
      rw [e]
      refine hs l G bg n K F E Q test S I t p d c c0 m0 f st hh cx hI.2 ho sc ((tyc f).mp (ty m3)) tl fun F1 E1 c1 x s' w1 ag st1 io xe xc xk xh xi ss' => ?_
      exact r3 l G bg n K F1 E1 Q test s' (x :: S) [] c1 c1 0 st1 xh (fun z => by rw [xi]; exact cxd _ _ cx z) ss' (Or.inr ⟨m1, rfl, rfl, rfl⟩) (fun z F2 E2 y fl2 => hF z F2 E2 y (fl2.pre w1)) (fun z => by cases z)
    · exact absurd m3 hI.1
  · intro t0 t1 p0 p1 d0 d1 sc ty
    have tl : t < T := hE.lt t1 (fun z => ho (by rw [z]; exact m19))
    obtain ⟨⟨r1, r2⟩, r3⟩ := ha (by omega) (by omega) p0 p1 d0 d1 (m14 _).1 (fun z => absurd z m1)
    obtain ⟨q1, q2, q3⟩ := r2 rfl
    have tf := (tyc f).mp (ty m3)
    have tg := (tya g).mp q3
    obtain ⟨⟨u1, u2⟩, u3⟩ := hc (by omega) r1.2 (by omega) q1.2 d0 d1 (m15 _ q2) (fun _ => (tyc _).mpr (ht _ _ _ tf tg))
    refine ⟨⟨by omega, fun z => ?_⟩, fun l G bg n K F E Q test s S I c c0 m0 st hh cx ss hI hF hT => ?_⟩
    · obtain ⟨v1, v2, v3⟩ := u2 z
      exact ⟨⟨by omega, v1.2⟩, v2, v3⟩
    rcases hI with hI | hI
    · have e : s = eT a := (m7 _ _).mp ss
      rw [e]
      refine hs l G bg n K F E Q test S I t p d c c0 m0 f st hh cx hI.2 ho sc tf tl fun F1 E1 c1 x s' w1 ag st1 io xe xc xk xh xi ss' => ?_
      refine r3 l G bg n K F1 E1 Q test s' (x :: S) [] c1 c1 0 st1 xh (fun z => by rw [xi]; exact cxd _ _ cx z) ss' (Or.inr ⟨m1, rfl, rfl, rfl⟩) (fun z => by cases z) (fun _ F2 E2 I2 c2 w2 ag2 st2 si2 => ?_)
      rw [list_app] at st2
      have it2 : ItOk (oL lw) (nwL lw) (E2 77) (E2 78) x c1 g := (io g tg).congr ag2
      have si3 := (si2.mono m9).app it2 xk
      rw [xe.1, xe.2.1, xc g] at si3
      refine u3 l G bg n K F2 E2 Q test (eT a) S (I2 ++ [x]) c2 c0 (m0 + (0 + (p' - p))) st2 hh cx ((m7 _ _).mpr rfl) (Or.inl ⟨m3, si3⟩) (fun z F3 E3 y fl2 => hF z F3 E3 y (fl2.pre (w1.trans w2))) (fun z F3 E3 I3 c3 w3 ag3 st3 si4 => ?_)
      refine hT z F3 E3 I3 c3 ((w1.trans w2).trans w3) (fun j hj => ?_) st3 ?_
      · have a3 := ag3 j hj
        have a2 := ag2 j (by omega)
        have a1 := ag j hj
        exact ⟨a3.1.trans (a2.1.trans a1.1), a3.2.trans (a2.2.trans a1.2)⟩
      · rw [show m0 + (p2 - p) = m0 + (0 + (p' - p)) + (p2 - p') by omega]
        exact si4
    · exact absurd m3 hI.1
end L
