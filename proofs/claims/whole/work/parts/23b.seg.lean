/-! SUMS AND TESTS: the reference's pieces of code -/
/-- the class's number of a law's word -/
def lix (o : Int) : Int := if o = 6 then 0 else if o = 7 then 6 else if o = 9 then 7 else o
def EnvR (o : Int) (E : Int → Int → Int) (W : Int → Int) : Prop :=
  (o = 0 ∧ ∀ i, 1 ≤ i → i ≤ 9 → E 84 i = W (lix i)) ∨
  (o = 1 ∧ (0 ≤ E 68 6 ∧ E 68 6 ≤ 4) ∧ (∀ i, 1 ≤ i → i < 6 → E 85 i = W (i - 1)) ∧ (∀ r, 0 ≤ r → r < 3 → E 68 (15 + r) = W (5 + r)) ∧ ∀ r, 0 ≤ r → r < 4 → (if 0 ≤ r ∧ r ≤ E 68 6 - 1 then E 68 (18 + 6 * r + 5) else -1000) = W (8 + r))
def CodeR (o : Int) (F E : Int → Int → Int) (op ar : Int → Int) (a b : Int) : Prop := (0 ≤ a ∧ b ≤ 400) ∧
  ((o = 0 ∧ F 66 20 = 0 ∧ (0 ≤ F 66 34 ∧ F 66 34 + 898 ≤ 5535) ∧ ∀ k, a ≤ k → k < b → E 68 (F 66 34 + 98 + 2 * k) = op k ∧ E 68 (F 66 34 + 98 + 2 * k + 1) = ar k) ∨
   (o = 1 ∧ F 66 20 = 1 ∧ ∀ k, a ≤ k → k < b → E 77 k = op k ∧ E 78 k = ar k))
theorem CodeR.sub {o a b a' b' : Int} {F E : Int → Int → Int} {op ar : Int → Int} (h : CodeR o F E op ar a b) (ha : a ≤ a') (hb : b' ≤ b) : CodeR o F E op ar a' b' := by
  obtain ⟨h1, h2⟩ := h
  refine ⟨by omega, ?_⟩
  rcases h2 with ⟨e, e1, e2, e3⟩ | ⟨e, e1, e3⟩
  · exact Or.inl ⟨e, e1, e2, fun k k0 k1 => e3 k (by omega) (by omega)⟩
  · exact Or.inr ⟨e, e1, fun k k0 k1 => e3 k (by omega) (by omega)⟩
theorem CodeR.keep {o a b : Int} {F E E' : Int → Int → Int} {op ar : Int → Int} (h : CodeR o F E op ar a b) (hE : ∀ r, r ≠ 86 → E' r = E r) : CodeR o F E' op ar a b := by
  unfold CodeR
  rw [hE 68 (by decide), hE 77 (by decide), hE 78 (by decide)]
  exact h
theorem EnvR.keep {o : Int} {E E' : Int → Int → Int} {W : Int → Int} (h : EnvR o E W) (hE : ∀ r, r ≠ 86 → E' r = E r) : EnvR o E' W := by
  unfold EnvR
  rw [hE 68 (by decide), hE 84 (by decide), hE 85 (by decide)]
  exact h
section R
variable {l : Launch} {G : pG} {bg : Nat × Nat} {n : Nat} {K : Int → Nat × Nat} {F E : Int → Int → Int} {Q : Option pV → pM → Prop} {o last cnt k a b : Int} {op ar : Int → Int}
theorem r_fetch (hK : KS K) (hF : FS F) (h38 : F 66 38 = 0) (hc : CodeR o F E op ar a b) (k0 : a ≤ k) (k1 : k < b) (k2 : k < last) (h : PW l G 2 mX12_reckonAll bg 95 [(0, (2, 66)), (2, (0, last)), (3, (0, cnt)), (4, (0, k)), (5, (0, op k))] [(0, ar k)] (n, K, F, E) Q) : PW l G 2 mX12_reckonAll bg 10 [(0, (2, 66)), (2, (0, last)), (3, (0, cnt)), (4, (0, k))] [] (n, K, F, E) Q := by
  obtain ⟨c1, c2⟩ := hc
  refine vX12_reckonAll_10 66 last cnt k ⟨fun z => absurd z (by omega), fun _ => ?_⟩
  rcases c2 with ⟨e, e1, e2, e3⟩ | ⟨e, e1, e3⟩
  · obtain ⟨q1, q2⟩ := e3 k k0 k1
    simp only [hF.f66_3, hK.k66, hK.k68, h38, e1]
    refine ⟨trivial, fun z => absurd trivial z, fun _ => ⟨fun _ => ⟨by omega, by omega, by omega, trivial, by omega, vX12_reckonAll_57 66 last cnt k _ ?_⟩, fun z => absurd trivial z⟩⟩
    simp only [hF.f66_3, hK.k66, hK.k68, e1]
    refine ⟨trivial, fun _ => ⟨by omega, by omega, by omega, by omega, trivial, by omega, fun a1 ea => ?_⟩, fun z => absurd trivial z⟩
    rw [ea, q1, q2]
    exact h
  · obtain ⟨q1, q2⟩ := e3 k k0 k1
    simp only [hF.f66_24, hK.k66, hK.k77, h38, e1]
    refine ⟨trivial, fun z => absurd trivial z, fun _ => ⟨fun z => absurd z (by decide), fun _ => ⟨trivial, by omega, vX12_reckonAll_57 66 last cnt k _ ?_⟩⟩⟩
    simp only [hF.f66_25, hK.k66, hK.k78, e1]
    refine ⟨trivial, fun z => absurd z (by decide), fun _ => ⟨trivial, by omega, ?_⟩⟩
    rw [q1, q2]
    exact h
/-- something was broken: it ends -/
theorem r_broken (hK : KS K) (hF : FS F) (h38 : F 66 38 = 1) (h : ∀ u, Q none (n, K, pUp F 66 39 u, E)) : PW l G 2 mX12_reckonAll bg 10 [(0, (2, 66)), (2, (0, last)), (3, (0, cnt)), (4, (0, k))] [] (n, K, F, E) Q := by
  refine vX12_reckonAll_10 66 last cnt k ?_
  simp only [hF.f66_37, hK.k66, hK.k86, h38, Int.reduceEq, not_false_eq_true, true_implies, false_implies, and_true, true_and]
  refine ⟨fun _ => ⟨fun _ F1 e1 => ?_, fun _ => ⟨by decide, by decide, fun F1 e1 => ?_⟩⟩, fun _ => ⟨fun _ F1 e1 => ?_, fun _ => ⟨by decide, by decide, fun F1 e1 => ?_⟩⟩⟩
  all_goals rw [e1]; exact h _
theorem r_lay {v : Int} (hK : KS K) (c0 : 0 ≤ cnt) (c1 : cnt < 400) (h : PW l G 2 mX12_reckonAll bg 10 [(0, (2, 66)), (2, (0, last)), (3, (0, cnt + 1)), (4, (0, k))] [] (n, K, F, pUp E 86 cnt v) Q) : PW l G 2 mX12_reckonAll bg 206 [(0, (2, 66)), (2, (0, last)), (3, (0, cnt)), (4, (0, k))] [(1, v), (0, cnt), (2, 86)] (n, K, F, E) Q := by
  refine vX12_reckonAll_206 66 last cnt k v cnt 86 ?_
  simp only [hK.k86]
  refine ⟨by decide, trivial, by omega, fun E1 e1 => ⟨by omega, ?_⟩⟩
  rw [e1]
  exact h
/-- two numbers are joined -/
theorem r_op {o' x y : Int} (hK : KS K) (hF : FS F) (h38 : F 66 38 = 0) (ho : o' = 6 ∨ o' = 7 ∨ o' = 8 ∨ o' = 9 ∨ o' = 10 ∨ o' = 11 ∨ o' = 12 ∨ o' = 13) (c0 : 0 ≤ cnt) (c1 : cnt + 2 ≤ 400) (k0 : 0 ≤ k) (k1 : k < 400) (ex : E 86 cnt = x) (ey : E 86 (cnt + 1) = y) (hx : -1999999999 ≤ x ∧ x ≤ 1999999999) (hy : -1999999999 ≤ y ∧ y ≤ 1999999999) {s0 : Int}
    (hv : ∀ v, jn o' x y = some v → PW l G 2 mX12_reckonAll bg 10 [(0, (2, 66)), (2, (0, last)), (3, (0, cnt + 1)), (4, (0, k + 1))] [] (n, K, F, pUp E 86 cnt v) Q) (hn : jn o' x y = none → ∀ E' u, (∀ r, r ≠ 86 → E' r = E r) → Q none (n, K, pUp (pUp F 66 38 1) 66 39 u, E')) :
    PW l G 2 mX12_reckonAll bg 95 [(0, (2, 66)), (2, (0, last)), (3, (0, cnt + 1 + 1)), (4, (0, k)), (5, (0, o' + 14))] [(0, s0)] (n, K, F, E) Q := by
  have hF1 : FS (pUp F 66 38 1) := hF.up (by decide +kernel)
  have s1 : pUp F 66 38 0 = F := by rw [← h38]; exact pUp_self
  have hm := mul_le hx.1 hx.2 hy.1 hy.2
  have hd := tdiv_le (y := y) hx.1 hx.2
  have wm : w64 (x * y) = x * y := w64_id hm.1 hm.2
  have wd : w64 (x.tdiv y) = x.tdiv y := w64_id (by omega) (by omega)
  have bad : ∀ z, jn o' x y = none → PW l G 2 mX12_reckonAll bg 250 [(0, (2, 66)), (2, (0, last)), (3, (0, cnt + 1)), (4, (0, k + 1))] [(1, z), (0, cnt), (2, 86)] (n, K, pUp F 66 38 1, E) Q := fun z ej => by
    refine vX12_reckonAll_250 66 last (cnt + 1) (k + 1) z cnt 86 ?_
    simp only [hK.k66, hK.k86, pUp_s, Int.reduceEq, not_false_eq_true, true_implies, false_implies, and_true]
    refine ⟨by decide, trivial, by omega, fun E1 e1 => ⟨trivial, fun F2 e2 => ?_⟩⟩
    rw [e2, pUp_pUp, e1]
    exact r_broken hK hF1 pUp_s (fun u => hn ej _ u (fun r hr => pUp_an hr))
  have good : ∀ z, z = jz o' x y → ¬ ((o' = 9 ∨ o' = 10) ∧ y = 0) → PW l G 2 mX12_reckonAll bg 250 [(0, (2, 66)), (2, (0, last)), (3, (0, cnt + 1)), (4, (0, k + 1))] [(1, z), (0, cnt), (2, 86)] (n, K, F, E) Q := fun z ez nz => by
    refine vX12_reckonAll_250 66 last (cnt + 1) (k + 1) z cnt 86 ?_
    have ec : cnt + 1 - 1 = cnt := by omega
    simp only [hF.f66_37, hK.k66, hK.k86, h38, ec]
    refine ⟨by decide, trivial, by omega, fun E1 e1 => ⟨trivial, fun w => absurd trivial w, fun _ => ⟨by omega, by decide, trivial, by omega, ?_⟩⟩⟩
    rw [e1, pUp_s]
    refine ⟨fun w F3 e3 => ?_, fun w F4 e4 => ?_⟩
    · rw [e3, s1]
      refine hv z ?_
      unfold jn
      rw [if_neg nz, if_neg (by omega), ez]
    · rw [e4]
      refine r_broken hK hF1 pUp_s (fun u => hn ?_ _ u (fun r hr => pUp_an hr))
      unfold jn
      rw [if_neg nz, if_pos (by omega)]
  have key : PC l G 0 mX12_reckon (0, 0) [(2, 66), (0, o' + 14), (1, x), (1, y)] (n, K, F, E) (fun r μ => PW l G 2 mX12_reckonAll bg 250 [(0, (2, 66)), (2, (0, last)), (3, (0, cnt + 1)), (4, (0, k + 1))] (r.toList ++ [(0, cnt), (2, 86)]) μ Q) := by
    refine vX12_reckon_0 66 (o' + 14) x y ?_
    rw [wm, wd]
    rcases ho with e | e | e | e | e | e | e | e <;> subst e <;> simp only [hK.k66, s1, Int.reduceAdd, Int.reduceEq, Int.reduceLT, or_self, or_true, true_or, false_or, or_false, false_implies, true_implies, and_true, true_and, implies_true, forall_eq]
    · exact ⟨by omega, good _ rfl (by omega)⟩
    · exact ⟨by omega, good _ rfl (by omega)⟩
    · exact good _ rfl (by omega)
    · exact ⟨fun z => good _ rfl (by omega), fun z => bad 0 (by unfold jn; rw [if_pos (by omega)])⟩
    · exact ⟨fun z => good _ rfl (by omega), fun z => bad 0 (by unfold jn; rw [if_pos (by omega)])⟩
    · exact ⟨fun z => good 0 (by rw [show jz 11 x y = 0 from if_neg (show ¬ x < y by omega)]) (by omega), fun z => good 1 (by rw [show jz 11 x y = 1 from if_pos (show x < y by omega)]) (by omega)⟩
    · exact ⟨fun z => good 0 (by rw [show jz 12 x y = 0 from if_neg (show ¬ y < x by omega)]) (by omega), fun z => good 1 (by rw [show jz 12 x y = 1 from if_pos (show y < x by omega)]) (by omega)⟩
    · exact ⟨fun z => good 0 (by rw [show jz 13 x y = 0 from if_neg z]) (by omega), fun z => good 1 (by rw [show jz 13 x y = 1 from if_pos z]) (by omega)⟩
  have i1 : cnt + 1 + 1 + (-1) = cnt + 1 := by omega
  have i2 : cnt + 1 - 1 = cnt := by omega
  refine vX12_reckonAll_95 66 last (cnt + 1 + 1) k (o' + 14) s0 ?_
  simp only [hF.f66_37, hK.k66, hK.k86, i1, i2, ex, ey]
  exact ⟨by omega, fun _ => ⟨fun z => absurd z (by omega), fun _ => ⟨by omega, trivial, by omega, by decide, trivial, by omega, by omega, key⟩⟩, fun z => absurd (by omega) z⟩
theorem r_not (hK : KS K) (hF : FS F) (c0 : 0 ≤ cnt) (c1 : cnt + 1 ≤ 400) (k0 : 0 ≤ k) (k1 : k < 400) (hx : -1999999999 ≤ E 86 cnt ∧ E 86 cnt ≤ 1999999999) {s0 : Int} (hv : PW l G 2 mX12_reckonAll bg 10 [(0, (2, 66)), (2, (0, last)), (3, (0, cnt + 1)), (4, (0, k + 1))] [] (n, K, F, pUp E 86 cnt (1 - E 86 cnt)) Q) :
    PW l G 2 mX12_reckonAll bg 95 [(0, (2, 66)), (2, (0, last)), (3, (0, cnt + 1)), (4, (0, k)), (5, (0, 28))] [(0, s0)] (n, K, F, E) Q := by
  have i2 : cnt + 1 - 1 = cnt := by omega
  refine vX12_reckonAll_95 66 last (cnt + 1) k 28 s0 ?_
  simp only [hF.f66_37, hK.k66, hK.k86, i2, Int.reduceLE, Int.reduceEq, not_true_eq_false, not_false_eq_true, false_implies, true_implies, and_true, true_and, implies_true]
  refine ⟨by omega, by omega, by omega, by omega, fun E1 e1 => ?_⟩
  rw [e1]
  exact hv
theorem r_leap {o' c to_ : Int} (hK : KS K) (hF : FS F) (c0 : 0 ≤ cnt) (c1 : cnt + 1 ≤ 400) (k0 : 0 ≤ k) (k1 : k < 400) (ho : (o' = 30 ∧ c = 1) ∨ (o' = 29 ∧ c = 0)) (hy : E 86 cnt = c → PW l G 2 mX12_reckonAll bg 10 [(0, (2, 66)), (2, (0, last)), (3, (0, cnt + 1)), (4, (0, to_))] [] (n, K, F, E) Q) (hn : E 86 cnt ≠ c → PW l G 2 mX12_reckonAll bg 10 [(0, (2, 66)), (2, (0, last)), (3, (0, cnt)), (4, (0, k + 1))] [] (n, K, F, E) Q) :
    PW l G 2 mX12_reckonAll bg 95 [(0, (2, 66)), (2, (0, last)), (3, (0, cnt + 1)), (4, (0, k)), (5, (0, o'))] [(0, to_)] (n, K, F, E) Q := by
  have i2 : cnt + 1 - 1 = cnt := by omega
  have i3 : cnt + 1 + (-1) = cnt := by omega
  refine vX12_reckonAll_95 66 last (cnt + 1) k o' to_ ?_
  rcases ho with ⟨e, ec⟩ | ⟨e, ec⟩ <;> subst e <;> subst ec <;> simp only [hF.f66_37, hK.k66, hK.k86, i2, i3, Int.reduceLE, Int.reduceEq, not_true_eq_false, not_false_eq_true, false_implies, true_implies, and_true, true_and, implies_true]
  · exact ⟨by omega, by omega, by omega, fun z => ⟨by omega, hn z⟩, hy⟩
  · exact ⟨by omega, by omega, by omega, fun z => ⟨by omega, hn z⟩, hy⟩
end R
def SegR (o : Int) (op ar : Int → Int) (a b : Int) (f : tPhi) (m nw : Int) : Prop :=
  ∀ (l : Launch) (G : pG) (bg : Nat × Nat) (n : Nat) (K : Int → Nat × Nat) (F E : Int → Int → Int) (Q : Option pV → pM → Prop) (last cnt : Int) (W : Int → Int),
    KS K → FS F → F 66 38 = 0 → CodeR o F E op ar a b → EnvR o E W → WOk W nw → b ≤ last → 0 ≤ cnt → cnt + m ≤ 400 →
    (∀ v E', f W = some v → (∀ r, r ≠ 86 → E' r = E r) → (∀ j, j < cnt → E' 86 j = E 86 j) → E' 86 cnt = v → PW l G 2 mX12_reckonAll bg 10 [(0, (2, 66)), (2, (0, last)), (3, (0, cnt + 1)), (4, (0, b))] [] (n, K, F, E') Q) →
    (∀ E' u, f W = none → (∀ r, r ≠ 86 → E' r = E r) → Q none (n, K, pUp (pUp F 66 38 1) 66 39 u, E')) →
    PW l G 2 mX12_reckonAll bg 10 [(0, (2, 66)), (2, (0, last)), (3, (0, cnt)), (4, (0, a))] [] (n, K, F, E) Q
theorem CodeR.congr {o a b : Int} {F E : Int → Int → Int} {op ar op' ar' : Int → Int} (h : CodeR o F E op' ar' a b) (e : ∀ k, a ≤ k → k < b → op' k = op k ∧ ar' k = ar k) : CodeR o F E op ar a b := by
  obtain ⟨h1, h2⟩ := h
  refine ⟨h1, h2.imp (fun ⟨q, q1, q2, q3⟩ => ⟨q, q1, q2, fun k k0 k1 => ⟨(q3 k k0 k1).1.trans (e k k0 k1).1, (q3 k k0 k1).2.trans (e k k0 k1).2⟩⟩) (fun ⟨q, q1, q3⟩ => ⟨q, q1, fun k k0 k1 => ⟨(q3 k k0 k1).1.trans (e k k0 k1).1, (q3 k k0 k1).2.trans (e k k0 k1).2⟩⟩)⟩
theorem SegR.congr {o a b m nw : Int} {op ar op' ar' : Int → Int} {f : tPhi} (h : SegR o op ar a b f m nw) (e : ∀ k, a ≤ k → k < b → op' k = op k ∧ ar' k = ar k) : SegR o op' ar' a b f m nw := by
  intro l G bg n K F E Q last cnt W h1 h2 h3 h4 h5 h6 h7 h8 h9 hv hn
  exact h l G bg n K F E Q last cnt W h1 h2 h3 (h4.congr e) h5 h6 h7 h8 h9 hv hn
theorem SegR.wide {o a b m m' nw : Int} {op ar : Int → Int} {f : tPhi} (h : SegR o op ar a b f m nw) (e : m ≤ m') : SegR o op ar a b f m' nw := by
  intro l G bg n K F E Q last cnt W h1 h2 h3 h4 h5 h6 h7 h8 h9 hv hn
  exact h l G bg n K F E Q last cnt W h1 h2 h3 h4 h5 h6 h7 h8 (by omega) hv hn
theorem segR_num {o a v nw : Int} {op ar : Int → Int} (h1 : op a = 0) (h2 : ar a = v) : SegR o op ar a (a + 1) (fun _ => some v) 1 nw := by
  intro l G bg n K F E Q last cnt W hK hF h38 hc he hw hl c0 c1 hv hn
  refine r_fetch hK hF h38 hc (by omega) (by omega) (by omega) ?_
  have := hc.1
  rw [h1, h2]
  refine vX12_reckonAll_95 66 last cnt a 0 v ?_
  simp only [hF.f66_37, hK.k66, Int.reduceLE, Int.reduceEq, not_true_eq_false, not_false_eq_true, false_implies, true_implies, and_true, true_and, implies_true]
  refine ⟨by omega, r_lay hK c0 (by omega) (hv v _ rfl (fun r hr => pUp_an hr) (fun j hj => pUp_k (by omega)) pUp_s)⟩
theorem segR_word {a i nw : Int} {op ar : Int → Int} (h1 : op a = i) (i0 : 1 ≤ i) (i1 : i ≤ 9) : SegR 0 op ar a (a + 1) (fun w => some (w (lix i))) 1 nw := by
  intro l G bg n K F E Q last cnt W hK hF h38 hc he hw hl c0 c1 hv hn
  refine r_fetch hK hF h38 hc (by omega) (by omega) (by omega) ?_
  obtain ⟨c2, c3⟩ := hc
  rcases c3 with ⟨_, e20, _⟩ | ⟨e, _⟩
  · rcases he with ⟨_, he⟩ | ⟨e, _⟩
    · rw [h1]
      refine vX12_reckonAll_95 66 last cnt a i _ ?_
      simp only [hF.f66_37, hF.f66_35, hK.k66, hK.k84, e20]
      refine ⟨by omega, fun z => absurd z (by omega), fun _ => ⟨trivial, fun _ => ⟨fun z => absurd trivial z, fun _ => ⟨by decide, trivial, by omega, ?_⟩⟩, fun z => absurd z (by omega)⟩⟩
      exact r_lay hK c0 (by omega) (hv _ _ rfl (fun r hr => pUp_an hr) (fun j hj => pUp_k (by omega)) (by rw [pUp_s]; exact he i i0 i1))
    · omega
  · omega
/-- a word of orders: the first five, those held, tickets -/
theorem segR_oword {a i r j nw : Int} {op ar : Int → Int} (h1 : op a = i) (h2 : ar a = r) (hi : (1 ≤ i ∧ i < 6 ∧ j = i - 1) ∨ (i = 6 ∧ 0 ≤ r ∧ r < 3 ∧ j = 5 + r) ∨ (i = 7 ∧ 0 ≤ r ∧ r < 4 ∧ j = 8 + r)) : SegR 1 op ar a (a + 1) (fun w => some (w j)) 1 nw := by
  intro l G bg n K F E Q last cnt W hK hF h38 hc he hw hl c0 c1 hv hn
  refine r_fetch hK hF h38 hc (by omega) (by omega) (by omega) ?_
  obtain ⟨c2, c3⟩ := hc
  rcases c3 with ⟨e, _⟩ | ⟨_, e20, _⟩
  · omega
  · rcases he with ⟨e, _⟩ | ⟨_, e6, he1, he2, he3⟩
    · omega
    · rw [h1, h2]
      have go : ∀ v, v = W j → PW l G 2 mX12_reckonAll bg 206 [(0, (2, 66)), (2, (0, last)), (3, (0, cnt)), (4, (0, a + 1))] [(1, v), (0, cnt), (2, 86)] (n, K, F, E) Q := fun v ev => r_lay hK c0 (by omega) (hv _ _ rfl (fun r hr => pUp_an hr) (fun j hj => pUp_k (by omega)) (by rw [pUp_s]; exact ev))
      refine vX12_reckonAll_95 66 last cnt a i r ?_
      simp only [hF.f66_37, hF.f66_36, hF.f66_3, hK.k66, hK.k85, hK.k68, e20]
      refine ⟨by omega, fun z => absurd z (by omega), fun _ => ⟨trivial, fun _ => ⟨fun _ => ⟨fun z => ⟨fun y => ⟨trivial, by decide, by omega, fun x => ?_, fun x => ⟨by omega, by omega, by omega, by omega, ?_⟩⟩, fun y => ⟨by omega, trivial, by omega, ?_⟩⟩, fun z => ⟨by decide, trivial, by omega, ?_⟩⟩, fun z => absurd z (by decide)⟩, fun z => absurd z (by omega)⟩⟩
      · refine go _ ?_
        have := he3 r (by omega) (by omega)
        rw [if_neg x] at this
        rw [this]; congr 1; omega
      · refine go _ ?_
        have := he3 r (by omega) (by omega)
        rw [if_pos x] at this
        rw [this]; congr 1; omega
      · refine go _ ?_
        rw [he2 r (by omega) (by omega)]; congr 1; omega
      · refine go _ ?_
        rw [he1 i (by omega) (by omega)]; congr 1; omega
theorem segR_bin {o a p q o' m1 m2 nw : Int} {op ar : Int → Int} {f g : tPhi} (ap : a ≤ p) (pq : p ≤ q) (m0 : 1 ≤ m1) (m3 : 1 ≤ m2) (h1 : SegR o op ar a p f m1 nw) (h2 : SegR o op ar p q g m2 nw) (o1 : PhOk f nw) (o2 : PhOk g nw) (ho : o' = 6 ∨ o' = 7 ∨ o' = 8 ∨ o' = 9 ∨ o' = 10 ∨ o' = 11 ∨ o' = 12 ∨ o' = 13) (hc : op q = o' + 14) : SegR o op ar a (q + 1) (pBin o' f g) (m1 + m2) nw := by
  intro l G bg n K F E Q last cnt W hK hF h38 hcd he hw hl c0 c1 hv hn
  have b0 := hcd.1
  refine h1 l G bg n K F E Q last cnt W hK hF h38 (hcd.sub (by omega) (by omega)) he hw (by omega) c0 (by omega) (fun v E1 e1 r1 s1 t1 => ?_) (fun E1 u e1 r1 => hn E1 u (by unfold pBin; rw [e1]) r1)
  refine h2 l G bg n K F E1 Q last (cnt + 1) W hK hF h38 ((hcd.keep r1).sub (by omega) (by omega)) (he.keep r1) hw (by omega) (by omega) (by omega) (fun u E2 e2 r2 s2 t2 => ?_) (fun E2 u e2 r2 => hn E2 u (by unfold pBin; rw [e1]; dsimp only; rw [e2]) (fun r hr => by rw [r2 r hr, r1 r hr]))
  have r12 : ∀ r, r ≠ 86 → E2 r = E r := fun r hr => by rw [r2 r hr, r1 r hr]
  have eb : pBin o' f g W = jn o' v u := by unfold pBin; rw [e1]; dsimp only; rw [e2]
  refine r_fetch hK hF h38 (hcd.keep r12) (by omega) (by omega) (by omega) ?_
  rw [hc]
  refine r_op (x := v) (y := u) hK hF h38 ho c0 (by omega) (by omega) (by omega) ((s2 cnt (by omega)).trans t1) t2 (o1 _ v hw e1) (o2 _ u hw e2) (fun z ez => ?_) (fun ez E' u' r' => ?_)
  · refine hv z _ (eb.trans ez) (fun r hr => ?_) (fun j hj => ?_) pUp_s
    · rw [pUp_an hr, r12 r hr]
    · rw [pUp_k (by omega), s2 j (by omega), s1 j hj]
  · exact hn E' u' (eb.trans ez) (fun r hr => by rw [r' r hr, r12 r hr])
theorem segR_nt {o a p m nw : Int} {op ar : Int → Int} {f : tPhi} (ap : a ≤ p) (m0 : 1 ≤ m) (h1 : SegR o op ar a p f m nw) (o1 : Tst f) (hc : op p = 28) : SegR o op ar a (p + 1) (pNt f) m nw := by
  intro l G bg n K F E Q last cnt W hK hF h38 hcd he hw hl c0 c1 hv hn
  have b0 := hcd.1
  refine h1 l G bg n K F E Q last cnt W hK hF h38 (hcd.sub (by omega) (by omega)) he hw (by omega) c0 (by omega) (fun v E1 e1 r1 s1 t1 => ?_) (fun E1 u e1 r1 => hn E1 u (by unfold pNt; rw [e1]) r1)
  refine r_fetch hK hF h38 (hcd.keep r1) (by omega) (by omega) (by omega) ?_
  rw [hc]
  have b := o1 _ v e1
  refine r_not hK hF c0 (by omega) (by omega) (by omega) (by rw [t1]; omega) ?_
  rw [t1]
  refine hv (1 - v) _ (by unfold pNt; rw [e1]) (fun r hr => ?_) (fun j hj => ?_) pUp_s
  · rw [pUp_an hr, r1 r hr]
  · rw [pUp_k (by omega), s1 j hj]
theorem segR_and {o a p q m1 m2 nw : Int} {op ar : Int → Int} {f g : tPhi} (ap : a ≤ p) (pq : p + 1 ≤ q) (m0 : 1 ≤ m1) (m3 : 1 ≤ m2) (h1 : SegR o op ar a p f m1 nw) (h2 : SegR o op ar (p + 1) q g m2 nw) (hc : op p = 29) (hl : ar p = q) : SegR o op ar a q (pAnd f g) (m1 + m2) nw := by
  intro l G bg n K F E Q last cnt W hK hF h38 hcd he hw hla c0 c1 hv hn
  have b0 := hcd.1
  refine h1 l G bg n K F E Q last cnt W hK hF h38 (hcd.sub (by omega) (by omega)) he hw (by omega) c0 (by omega) (fun v E1 e1 r1 s1 t1 => ?_) (fun E1 u e1 r1 => hn E1 u (by unfold pAnd; rw [e1]) r1)
  refine r_fetch hK hF h38 (hcd.keep r1) (by omega) (by omega) (by omega) ?_
  rw [hc, hl]
  refine r_leap (c := 0) hK hF c0 (by omega) (by omega) (by omega) (Or.inr ⟨rfl, rfl⟩) (fun z => ?_) (fun z => ?_)
  · rw [t1] at z
    exact hv 0 E1 (by unfold pAnd; rw [e1]; dsimp only; rw [if_pos z]) r1 s1 (t1.trans z)
  · rw [t1] at z
    have ea : pAnd f g W = g W := by unfold pAnd; rw [e1]; dsimp only; rw [if_neg z]
    refine h2 l G bg n K F E1 Q last cnt W hK hF h38 ((hcd.keep r1).sub (by omega) (by omega)) (he.keep r1) hw (by omega) (by omega) (by omega) (fun u E2 e2 r2 s2 t2 => ?_) (fun E2 u e2 r2 => hn E2 u (ea.trans e2) (fun r hr => by rw [r2 r hr, r1 r hr]))
    exact hv u E2 (ea.trans e2) (fun r hr => by rw [r2 r hr, r1 r hr]) (fun j hj => by rw [s2 j hj, s1 j hj]) t2
theorem segR_or {o a p q m1 m2 nw : Int} {op ar : Int → Int} {f g : tPhi} (ap : a ≤ p) (pq : p + 1 ≤ q) (m0 : 1 ≤ m1) (m3 : 1 ≤ m2) (h1 : SegR o op ar a p f m1 nw) (h2 : SegR o op ar (p + 1) q g m2 nw) (hc : op p = 30) (hl : ar p = q) : SegR o op ar a q (pOr f g) (m1 + m2) nw := by
  intro l G bg n K F E Q last cnt W hK hF h38 hcd he hw hla c0 c1 hv hn
  have b0 := hcd.1
  refine h1 l G bg n K F E Q last cnt W hK hF h38 (hcd.sub (by omega) (by omega)) he hw (by omega) c0 (by omega) (fun v E1 e1 r1 s1 t1 => ?_) (fun E1 u e1 r1 => hn E1 u (by unfold pOr; rw [e1]) r1)
  refine r_fetch hK hF h38 (hcd.keep r1) (by omega) (by omega) (by omega) ?_
  rw [hc, hl]
  refine r_leap (c := 1) hK hF c0 (by omega) (by omega) (by omega) (Or.inl ⟨rfl, rfl⟩) (fun z => ?_) (fun z => ?_)
  · rw [t1] at z
    exact hv 1 E1 (by unfold pOr; rw [e1]; dsimp only; rw [if_pos z]) r1 s1 (t1.trans z)
  · rw [t1] at z
    have ea : pOr f g W = g W := by unfold pOr; rw [e1]; dsimp only; rw [if_neg z]
    refine h2 l G bg n K F E1 Q last cnt W hK hF h38 ((hcd.keep r1).sub (by omega) (by omega)) (he.keep r1) hw (by omega) (by omega) (by omega) (fun u E2 e2 r2 s2 t2 => ?_) (fun E2 u e2 r2 => hn E2 u (ea.trans e2) (fun r hr => by rw [r2 r hr, r1 r hr]))
    exact hv u E2 (ea.trans e2) (fun r hr => by rw [r2 r hr, r1 r hr]) (fun j hj => by rw [s2 j hj, s1 j hj]) t2
/-- all of a piece is reckoned -/
theorem r_reckonAll {l : Launch} {G : pG} {bg : Nat × Nat} {n : Nat} {K : Int → Nat × Nat} {F E : Int → Int → Int} {Q : Option pV → pM → Prop} {o a b m nw : Int} {op ar W : Int → Int} {f : tPhi} (hK : KS K) (hF : FS F) (hs : SegR o op ar a b f m nw) (m1 : m ≤ 400) (hc : CodeR o F E op ar a b) (he : EnvR o E W) (hw : WOk W nw)
    (hQ : ∀ E' u v, (∀ r, r ≠ 86 → E' r = E r) → (f W = some v ∧ u = 0) ∨ (f W = none ∧ u = 1) → Q none (n, K, pUp (pUp F 66 38 u) 66 39 v, E')) : PC l G 2 mX12_reckonAll bg [(2, 66), (0, a), (0, b)] (n, K, F, E) Q := by
  have hF1 : FS (pUp F 66 38 0) := hF.up (by decide +kernel)
  refine vX12_reckonAll_0 66 a b ⟨by rw [hK.k66], fun F1 e1 => ?_⟩
  subst e1
  have hc1 : CodeR o (pUp F 66 38 0) E op ar a b := by
    unfold CodeR
    rw [pUp_k (show (20 : Int) ≠ 38 by decide), pUp_k (show (34 : Int) ≠ 38 by decide)]
    exact hc
  refine hs l G bg n K _ E Q b 0 W hK hF1 pUp_s hc1 he hw (by omega) (by omega) (by omega) (fun v E1 ev r1 s1 t1 => ?_) (fun E1 u ev r1 => ?_)
  · refine vX12_reckonAll_10 66 b (0 + 1) b ⟨fun _ => ⟨fun z => absurd z (by decide), fun _ => ?_⟩, fun z => absurd (by omega) z⟩
    simp only [hF1.f66_37, hK.k66, hK.k86, t1]
    refine ⟨trivial, by decide, trivial, by decide, fun F2 e2 => ?_⟩
    rw [e2]
    exact hQ E1 0 v r1 (Or.inl ⟨ev, rfl⟩)
  · rw [pUp_pUp]
    exact hQ E1 1 u r1 (Or.inr ⟨ev, rfl⟩)
