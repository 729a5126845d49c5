/-! THE REFERENCE READS by the rules of the grammar -/
section B
variable {lw : Bool} {tp : Int → Int} {len : Int} {T : Nat} {kd nm : Int → Int}
theorem sg_ok {t : Int} (hE : TkE tp len T kd nm) (t0 : 0 ≤ t) (t1 : t ≤ T) : ((sg lw kd nm t).1 = false → t ≤ (sg lw kd nm t).2.1 ∧ (sg lw kd nm t).2.1 ≤ T) ∧ ((sg lw kd nm t).1 = true → (t ≤ (sg lw kd nm t).2.1 ∧ (sg lw kd nm t).2.1 ≤ T) ∧ PhOk (sg lw kd nm t).2.2 (nwL lw)) := by
  have q : kd t ≠ 256 → t < T := hE.lt t1
  have hn : ∀ s : Int, 0 ≤ s → s < T → 0 ≤ nm s ∧ nm s ≤ 1001 := fun s s0 s1 => by rw [hE.nme s0 s1]; exact tkNum_rng
  refine ⟨?_, ?_⟩
  · unfold sg
    (repeat' split) <;> intro w <;> first | exact absurd (show true = false from w) (by decide) | (dsimp only; omega)
  · unfold sg
    by_cases k1 : kd t = 257
    · have q1 := q (by omega)
      have n1 := hn t t0 q1
      rw [if_pos k1]
      by_cases k2 : nm t ≤ 1000
      · rw [if_pos k2]; exact fun _ => ⟨by dsimp only; omega, phok_num n1.1 n1.2⟩
      · rw [if_neg k2]; exact fun w => absurd (show false = true from w) (by decide)
    · rw [if_neg k1]
      cases lw with
      | true =>
        rw [if_pos rfl]
        by_cases k2 : 259 ≤ kd t ∧ kd t ≤ 267
        · have q1 := q (by omega)
          rw [if_pos k2]; exact fun _ => ⟨by dsimp only; omega, phok_wrd (by omega) (by rw [nwL, if_pos rfl]; omega)⟩
        · rw [if_neg k2]; exact fun w => absurd (show false = true from w) (by decide)
      | false =>
        rw [if_neg (by decide)]
        have n9 : nwL false = 12 := by rw [nwL, if_neg (by decide)]
        rw [n9]
        by_cases k2 : kd t = 272
        · have q1 := q (by omega)
          rw [if_pos k2]
          by_cases k3 : kd (t + 1) = 257 ∧ nm (t + 1) ≤ 2
          · have q2 := hE.lt (t := t + 1) (by omega) (by omega)
            have n1 := hn (t + 1) (by omega) q2
            rw [if_pos k3]; exact fun _ => ⟨by dsimp only; omega, phok_wrd (by omega) (by omega)⟩
          · rw [if_neg k3]; exact fun w => absurd (show false = true from w) (by decide)
        · rw [if_neg k2]
          by_cases k3 : kd t = 259
          · have q1 := q (by omega)
            rw [if_pos k3]
            by_cases k4 : kd (t + 1) = 257 ∧ nm (t + 1) ≤ 3
            · have q2 := hE.lt (t := t + 1) (by omega) (by omega)
              have n1 := hn (t + 1) (by omega) q2
              rw [if_pos k4]; exact fun _ => ⟨by dsimp only; omega, phok_wrd (by omega) (by omega)⟩
            · rw [if_neg k4]; exact fun w => absurd (show false = true from w) (by decide)
          · rw [if_neg k3]
            by_cases k4 : 267 ≤ kd t ∧ kd t < 272
            · have q1 := q (by omega)
              rw [if_pos k4]; exact fun _ => ⟨by dsimp only; omega, phok_wrd (by omega) (by omega)⟩
            · rw [if_neg k4]; exact fun w => absurd (show false = true from w) (by decide)
theorem st_part {md s k : Int} (h : md = 0 ∨ md = 1 ∨ md = 3 ∨ md = 5) : stT md s k ↔ (s = 1 ∨ (s = 0 ∧ k ≠ 285 ∧ k ≠ 40)) := by unfold stT; rw [if_pos h]
theorem st_plain {md s k : Int} (h : md = 6 ∨ md = 7 ∨ md = 9) : stT md s k ↔ s = 0 := by unfold stT; rw [if_neg (by omega), if_neg (by omega), if_neg (by omega)]
theorem rst_no {md : Int} (h : md = 0 ∨ md = 3 ∨ md = 5 ∨ md = 6 ∨ md = 9) : ¬ rst md := by unfold rst; omega
theorem rs_S (hE : TkE tp len T kd nm) : SRules lw kd nm (RS lw tp len T kd nm) := by
  refine ⟨fun d t p z p5 => ?_, fun d t p t' f z p5 e => ?_, fun d t p t' f z p5 e => ?_⟩
  · intro t0 t1 p0 p1 d0 d1 _ _
    refine ⟨⟨⟨by omega, t1⟩, fun z => by cases z⟩, fun l G bg n K F E Q test s S I c c0 m0 st hh cx ss hI hF _ => ?_⟩
    refine turn_part (Pp := fun _ F' E' => FlR tp len F E t F' E') hE st ((st_part (by decide)).mp ss) (fun bg' Qq hq => r_single hE st z (fun v F' E' t' cs fl => ?_) (fun F' E' t' f q _ => absurd q (by omega))) (fun v F' E' q => hF rfl F' E' v q)
    rcases cs with cs | cs
    · rw [cs.2] at fl; exact hq v F' E' fl
    · omega
  · intro t0 t1 p0 p1 d0 d1 _ _
    have so := (sg_ok (lw := lw) hE t0 t1).1
    rw [e] at so
    refine ⟨⟨so rfl, fun z => by cases z⟩, fun l G bg n K F E Q test s S I c c0 m0 st hh cx ss hI hF _ => ?_⟩
    refine turn_part (Pp := fun _ F' E' => FlR tp len F E t' F' E') hE st ((st_part (by decide)).mp ss) (fun bg' Qq hq => r_single hE st z (fun v F' E' u cs fl => ?_) (fun F' E' u g _ q => ?_)) (fun v F' E' q => hF rfl F' E' v q)
    · rcases cs with cs | ⟨_, g, cs⟩
      · omega
      · rw [e] at cs
        injection cs with _ cs
        injection cs with cs _
        rw [← cs] at fl
        exact hq v F' E' fl
    · rw [e] at q
      injection q with q _
      cases q
  · intro t0 t1 p0 p1 d0 d1 _ _
    have so := (sg_ok (lw := lw) hE t0 t1).2
    rw [e] at so
    have so := so rfl
    refine ⟨⟨so.1, fun _ => ⟨by omega, by unfold enc; omega, by unfold typ; rw [if_pos (by decide)]; exact so.2⟩⟩, fun l G bg n K F E Q test s S I c c0 m0 st hh cx ss hI _ hT => ?_⟩
    rcases hI with hI | ⟨_, e1, e2, e3⟩
    · exact absurd hI.1 (rst_no (by decide))
    subst e1
    subst e2
    subst e3
    refine turn_part (Pp := fun v F' E' => v = 3 ∧ FrQ F E F' E' ∧ (∀ j, j < c0 → E' 77 j = E 77 j ∧ E' 78 j = E 78 j) ∧ RSt lw tp len T K F' E' t' (p + 1) d (c0 + 1) S ∧ SegR (oL lw) (E' 77) (E' 78) c0 (c0 + 1) f 1 (nwL lw)) hE st ((st_part (by decide)).mp ss) (fun bg' Qq hq => r_single hE st z (fun v F' E' u cs fl => ?_) (fun F' E' u g _ q w ag st1 sg1 => ?_)) (fun v F' E' q => ?_)
    · rcases cs with cs | ⟨_, g, cs⟩
      · omega
      · rw [e] at cs
        injection cs with cs _
        cases cs
    · rw [e] at q
      injection q with _ q
      injection q with q1 q2
      subst q1
      subst q2
      exact hq 3 F' E' ⟨rfl, w, ag, st1, sg1⟩
    · obtain ⟨q0, w, ag, st1, sg1⟩ := q
      subst q0
      refine hT rfl F' E' [] (c0 + 1) w ag st1 ?_
      rw [show 0 + (p + 1 - p) = 1 by omega]
      have c00 := st.2.2.2.2.2.2.1.1
      exact StI.one sg1 (by omega)
/-- brackets -/
theorem rs_B {a b k1 k2 br : Int} (hE : TkE tp len T kd nm) (hab : (a = 0 ∧ b = 3 ∧ k1 = 91 ∧ k2 = 93 ∧ br = 32) ∨ (a = 6 ∧ b = 9 ∧ k1 = 40 ∧ k2 = 41 ∧ br = 31))
    (hop : ∀ (l : Launch) (G : pG) (bg : Nat × Nat) (n : Nat) (K : Int → Nat × Nat) (F E : Int → Int → Int) (Q : Option pV → pM → Prop) (test s : Int) (S : List It) (t p d c : Int), RSt lw tp len T K F E t p d c S → kd t = k1 → stT a s (kd t) → t < T →
      (8 ≤ d → ∀ F' E' x, FlR tp len F E t F' E' → LoopR l G bg n K test Q x F' E') → (d < 8 → ∀ F' E' x s', FrQ F E F' E' → (E' 77 = E 77 ∧ E' 78 = E 78) → RSt lw tp len T K F' E' (t + 1) p (d + 1) c (x :: S) → x.1 = br → stT b s' (kd (t + 1)) → LoopR l G bg n K test Q s' F' E') → LoopR l G bg n K test Q s F E)
    (hcl : ∀ (l : Launch) (G : pG) (bg : Nat × Nat) (n : Nat) (K : Int → Nat × Nat) (F E : Int → Int → Int) (Q : Option pV → pM → Prop) (test : Int) (S I : List It) (x : It) (t p d c c0 m : Int) (f : tPhi), RSt lw tp len T K F E t p (d + 1) c (I ++ x :: S) → 0 ≤ d → x.1 = br → StI (oL lw) (nwL lw) (E 77) (E 78) (kM b) I c0 c f m → enc b (kd t) →
      (kd t ≠ k2 → ∀ F' E' y, FlR tp len F E t F' E' → LoopR l G bg n K test Q y F' E') → (kd t = k2 → ∀ F' E' c', FrQ F E F' E' → (∀ j, j < c0 → E' 77 j = E 77 j ∧ E' 78 j = E 78 j) → RSt lw tp len T K F' E' (t + 1) p d c' S → SegR (oL lw) (E' 77) (E' 78) c0 c' f m (nwL lw) → (c0 < c' ∧ 1 ≤ m ∧ 0 ≤ c0) → LoopR l G bg n K test Q (eT a) F' E') → LoopR l G bg n K test Q (eT b) F E) :
    BRules kd (RS lw tp len T kd nm) a b k1 k2 := by
  have na : ¬ rst a := rst_no (by omega)
  have nb : ¬ rst b := rst_no (by omega)
  have hb : 1 ≤ hM b := by rcases hab with h | h <;> rw [h.2.1] <;> decide
  have sb : ∀ k, stc b k := fun k => by unfold stc; omega
  have ea : ∀ k, enc a k := fun k => by unfold enc; omega
  have ty : ∀ f, typ (nwL lw) a f ↔ typ (nwL lw) b f := fun f => by
    unfold typ
    rcases hab with h | h <;> rw [h.1, h.2.1]
    · rw [if_pos (by decide), if_pos (by decide)]
    · rw [if_neg (by decide), if_neg (by decide)]
  have cb : ∀ (x : It) (S : List It) test, x.1 = br → cxt b (x :: S) test := fun x S test e z => by
    have i : inn (x :: S) = x.1 := by show (if x.1 < 31 then inn S else x.1) = x.1; rw [if_neg (by omega)]
    rw [i, e]
    rcases hab with h | h
    · omega
    · omega
  have h0 : ∀ (x : It) (S : List It), x.1 = br → HdLt (hM b) (x :: S) := fun x S e => by
    show pBinds x.1 < hM b
    rw [pBinds_ge (by omega)]
    omega
  have ne : k1 ≠ 256 := by omega
  have ne2 : k2 ≠ 256 := by omega
  -- into the bracket
  have go : ∀ (l : Launch) (G : pG) (bg : Nat × Nat) (n : Nat) (K : Int → Nat × Nat) (F E : Int → Int → Int) (Q : Option pV → pM → Prop) (test s : Int) (S I : List It) (t p d c c0 m0 : Int) (ok : Bool) (t' p' : Int) (f : tPhi), 0 ≤ t → t ≤ T → 0 ≤ p → p ≤ 50 → 0 ≤ d → kd t = k1 → d < 8 → RS lw tp len T kd nm b (d + 1) (t + 1) p pZ ok t' p' f → RSt lw tp len T K F E t p d c (I ++ S) → stT a s (kd t) → ((rst a ∧ StI (oL lw) (nwL lw) (E 77) (E 78) (kM a) I c0 c pZ m0) ∨ (¬ rst a ∧ I = [] ∧ c0 = c ∧ m0 = 0)) →
      (ok = false → ∀ F' E' x, FlR tp len F E t' F' E' → LoopR l G bg n K test Q x F' E') →
      (ok = true → ∀ F' E' I' c' x, FrQ F E F' E' → x.1 = br → (∀ j, j < c0 → E' 77 j = E 77 j ∧ E' 78 j = E 78 j) → RSt lw tp len T K F' E' t' p' (d + 1) c' (I' ++ x :: S) → StI (oL lw) (nwL lw) (E' 77) (E' 78) (kM b) I' c0 c' f (m0 + (p' - p)) → LoopR l G bg n K test Q (eT b) F' E') → LoopR l G bg n K test Q s F E := by
    intro l G bg n K F E Q test s S I t p d c c0 m0 ok t' p' f t0 t1 p0 p1 d0 hk d8 hr st ss hI hF hT
    have tl := hE.lt t1 (by rw [hk]; exact ne)
    rcases hI with hI | ⟨_, e1, e2, e3⟩
    · exact absurd hI.1 na
    subst e1
    subst e2
    subst e3
    obtain ⟨_, r3⟩ := hr (by omega) (by omega) p0 p1 (by omega) (by omega) (sb _) (fun z => absurd z nb)
    refine hop l G bg n K F E Q test s S t p d c0 st hk ss tl (fun z => absurd z (by omega)) (fun _ F1 E1 x s' w1 e77 st1 xb ss1 => ?_)
    refine r3 l G bg n K F1 E1 Q test s' (x :: S) [] c0 c0 0 st1 (h0 x S xb) (cb x S test xb) ss1 (Or.inr ⟨nb, rfl, rfl, rfl⟩) (fun z F2 E2 y fl => hF z F2 E2 y (fl.pre w1)) (fun z F2 E2 I2 c2 w2 ag st2 si => ?_)
    refine hT z F2 E2 I2 c2 x (w1.trans w2) xb (fun j hj => ?_) st2 si
    rw [← e77.1, ← e77.2]
    exact ag j hj
  refine ⟨fun d t p hk d8 => ?_, fun d t p t' p' f hk d8 hr => ?_, fun d t p t' p' f hk d8 hr k' => ?_, fun d t p t' p' f hk d8 hr k' => ?_⟩
  · intro t0 t1 p0 p1 d0 d1 _ _
    refine ⟨⟨⟨by omega, t1⟩, fun z => by cases z⟩, fun l G bg n K F E Q test s S I c c0 m0 st hh cx ss hI hF _ => ?_⟩
    rcases hI with hI | ⟨_, e1, e2, e3⟩
    · exact absurd hI.1 na
    subst e1
    exact hop l G bg n K F E Q test s S t p d c st hk ss (hE.lt t1 (by rw [hk]; exact ne)) (fun _ F' E' x fl => hF rfl F' E' x fl) (fun z => absurd z (by omega))
  · intro t0 t1 p0 p1 d0 d1 _ _
    have tl := hE.lt t1 (by rw [hk]; exact ne)
    obtain ⟨⟨r1, r2⟩, _⟩ := hr (by omega) (by omega) p0 p1 (by omega) (by omega) (sb _) (fun z => absurd z nb)
    refine ⟨⟨by omega, fun z => by cases z⟩, fun l G bg n K F E Q test s S I c c0 m0 st hh cx ss hI hF _ => ?_⟩
    refine go l G bg n K F E Q test s S I t p d c c0 m0 false t' p' f t0 t1 p0 p1 d0 hk d8 hr st ss ?_ hF (fun z => by cases z)
    rcases hI with hI | hI
    · exact absurd hI.1 na
    · exact Or.inr hI
  · intro t0 t1 p0 p1 d0 d1 _ _
    have tl := hE.lt t1 (by rw [hk]; exact ne)
    obtain ⟨⟨r1, r2⟩, _⟩ := hr (by omega) (by omega) p0 p1 (by omega) (by omega) (sb _) (fun z => absurd z nb)
    obtain ⟨q1, q2, q3⟩ := r2 rfl
    refine ⟨⟨by omega, fun z => by cases z⟩, fun l G bg n K F E Q test s S I c c0 m0 st hh cx ss hI hF _ => ?_⟩
    refine go l G bg n K F E Q test s S I t p d c c0 m0 true t' p' f t0 t1 p0 p1 d0 hk d8 hr st ss ?_ (fun z => by cases z) (fun _ F1 E1 I1 c1 x w1 xb ag st1 si => ?_)
    · rcases hI with hI | hI
      · exact absurd hI.1 na
      · exact Or.inr hI
    · exact hcl l G bg n K F1 E1 Q test S I1 x t' p' d c1 c0 _ f st1 d0 xb si q2 (fun _ F' E' y fl => hF rfl F' E' y (fl.pre w1)) (fun z => absurd z k')
  · intro t0 t1 p0 p1 d0 d1 _ _
    have tl := hE.lt t1 (by rw [hk]; exact ne)
    obtain ⟨⟨r1, r2⟩, _⟩ := hr (by omega) (by omega) p0 p1 (by omega) (by omega) (sb _) (fun z => absurd z nb)
    obtain ⟨q1, q2, q3⟩ := r2 rfl
    have tl2 := hE.lt r1.2 (by rw [k']; exact ne2)
    refine ⟨⟨by omega, fun _ => ⟨q1, ea _, (ty f).mpr q3⟩⟩, fun l G bg n K F E Q test s S I c c0 m0 st hh cx ss hI hF hT => ?_⟩
    refine go l G bg n K F E Q test s S I t p d c c0 m0 true t' p' f t0 t1 p0 p1 d0 hk d8 hr st ss ?_ (fun z => by cases z) (fun _ F1 E1 I1 c1 x w1 xb ag st1 si => ?_)
    · rcases hI with hI | hI
      · exact absurd hI.1 na
      · exact Or.inr hI
    · refine hcl l G bg n K F1 E1 Q test S I1 x t' p' d c1 c0 _ f st1 d0 xb si q2 (fun z => absurd k' z) (fun _ F2 E2 c2 w2 ag2 st2 sg2 cc2 => ?_)
      exact hT rfl F2 E2 [] c2 (w1.trans w2) (fun j hj => ⟨(ag2 j hj).1.trans (ag j hj).1, (ag2 j hj).2.trans (ag j hj).2⟩) st2 (StI.one sg2 (by omega))
end B
