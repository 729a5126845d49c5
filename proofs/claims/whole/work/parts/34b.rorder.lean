/-! THE REFERENCE READS orders -/
section M
variable {lw : Bool} {kd nm : Int → Int} {L : List (Int × Int)} {t p t' p' : Int} {ok : Bool} {fs : Int → tPhi}
theorem mg_is {j : Int} (h : MG lw kd nm ((0, j) :: L) t p ok t' p' fs) : ∃ o2 t1 p1 f, Gr lw kd nm 3 0 t p pZ o2 t1 p1 f ∧ (o2 = false → ok = false ∧ t' = t1) ∧ (o2 = true → f = fs j ∧ MG lw kd nm L t1 p1 ok t' p' fs) := by
  rcases h with ⟨_, ⟨o, p1, f, g⟩ | ⟨t1, p1, g, m⟩⟩ | ⟨q, _⟩
  · exact ⟨false, t', p1, f, g, fun _ => ⟨o, rfl⟩, fun q => by cases q⟩
  · exact ⟨true, t1, p1, fs j, g, fun q => (by cases q), fun _ => ⟨rfl, m⟩⟩
  · exact absurd (show (0 : Int) = 1 from q) (by decide)
theorem mg_iw {w : Int} (h : MG lw kd nm ((1, w) :: L) t p ok t' p' fs) : (kd t ≠ w ∧ ok = false ∧ t' = t) ∨ (kd t = w ∧ MG lw kd nm L (t + 1) p ok t' p' fs) := by
  rcases h with ⟨q, _⟩ | ⟨_, h⟩
  · exact absurd (show (1 : Int) = 0 from q) (by decide)
  · exact h
theorem mg_ib {w j : Int} (h : MG lw kd nm ((1, w) :: (0, j) :: L) t p ok t' p' fs) : ∃ o2 t1 p1 f, (kd t = w → Gr lw kd nm 3 0 (t + 1) p pZ o2 t1 p1 f) ∧ (kd t ≠ w → ok = false ∧ t' = t) ∧ (kd t = w → o2 = false → ok = false ∧ t' = t1) ∧ (kd t = w → o2 = true → f = fs j ∧ MG lw kd nm L t1 p1 ok t' p' fs) := by
  rcases mg_iw h with ⟨k, o, e⟩ | ⟨k, m⟩
  · exact ⟨false, t, p, pZ, fun q => absurd q k, fun _ => ⟨o, e⟩, fun q => absurd q k, fun q => absurd q k⟩
  · obtain ⟨o2, t1, p1, f, g, h0, h1⟩ := mg_is m
    exact ⟨o2, t1, p1, f, fun _ => g, fun q => absurd k q, fun _ => h0, fun _ => h1⟩
end M
section B
variable {l : Launch} {G : pG} {bg : Nat × Nat} {n : Nat} {K : Int → Nat × Nat} {F E : Int → Int → Int} {Q : Option pV → pM → Prop} {tp : Int → Int} {len : Int} {T : Nat} {kd nm : Int → Int} {t p c : Int}
/-- where it can't be any more -/
theorem r_ordBad {F' E' : Int → Int → Int} {x v : Int} (x0 : 0 ≤ x) (x1 : x + 10 ≤ 120) (hK : KS K) (hF : FS F') (h19 : F' 66 19 = 1) (hQ : ∀ E2, (∀ r, r ≠ 103 → E2 r = E' r) → Q none (n, K, F', E2)) :
    PW l G 9 mX12_readOrder bg 160 [(0, (2, 66)), (2, (0, x))] [] (n, K, F', E') Q ∧ (v < 2 → PW l G 9 mX12_readOrder bg 145 [(0, (2, 66)), (1, (0, v)), (2, (0, x))] [] (n, K, F', E') Q) := by
  have z := r_ordTB (l := l) (G := G) (bg := bg) (n := n) (Q := Q) (E := E') x0 x1 hK hF h19 hQ
  exact ⟨vX12_readOrder_160 66 x z, fun v2 => vX12_readOrder_145 66 v x ⟨fun _ => z, fun y => absurd v2 y⟩⟩
theorem r_ordBad2 {F' E' : Int → Int → Int} {x v : Int} (x0 : 0 ≤ x) (x1 : x + 10 ≤ 120) (hK : KS K) (hF : FS F') (h19 : F' 66 19 = 1) (hQ : ∀ E2, (∀ r, r ≠ 103 → E2 r = E' r) → Q none (n, K, F', E2)) :
    (v < 2 → PW l G 9 mX12_readOrder bg 134 [(0, (2, 66)), (1, (0, v)), (2, (0, x))] [] (n, K, F', E') Q) ∧ PW l G 9 mX12_readOrder bg 120 [(0, (2, 66)), (1, (0, v)), (2, (0, x))] [] (n, K, F', E') Q := by
  have k66 : (K 66).1 = 12 := by rw [hK.k66]
  have s1 : ∀ E1 : Int → Int → Int, (∀ r, r ≠ 103 → E1 r = E' r) → v < 2 → PW l G 9 mX12_readOrder bg 134 [(0, (2, 66)), (1, (0, v)), (2, (0, x))] [] (n, K, F', E1) Q := fun E1 e1 v2 =>
    vX12_readOrder_134 66 v x ⟨by omega, k66, r_behindB (by omega) (by omega) hK hF h19 fun E2 e2 => (r_ordBad (v := v) x0 x1 hK hF h19 fun E3 e3 => hQ E3 fun r hr => by rw [e3 r hr, e2 r hr, e1 r hr]).2 v2⟩
  refine ⟨s1 E' (fun _ _ => rfl), vX12_readOrder_120 66 v x ⟨fun z => ⟨fun _ => r_ordTB x0 x1 hK hF h19 hQ, fun y => ⟨by omega, k66, r_behindB (by omega) (by omega) hK hF h19 fun E2 e2 => (r_ordBad (v := v) x0 x1 hK hF h19 fun E3 e3 => hQ E3 fun r hr => by rw [e3 r hr, e2 r hr]).1⟩⟩, fun z => ⟨by omega, k66, r_behindB (by omega) (by omega) hK hF h19 fun E2 e2 => s1 E2 e2 (by omega)⟩⟩⟩
theorem r_zero85 {v x : Int} (x0 : 0 ≤ x) (x1 : x + 10 ≤ 120) (hK : KS K) (hF : FS F) (m : Nat) : ∀ (i : Int) (E1 : Int → Int → Int), i + m = 10 → 0 ≤ i → (∀ r, r ≠ 103 → E1 r = E r) → (∀ j, j < x → E1 103 j = E 103 j) → (∀ j, x ≤ j → j < x + i → E1 103 j = 0) → (∀ E', (∀ r, r ≠ 103 → E' r = E r) → (∀ j, j < x → E' 103 j = E 103 j) → (∀ j, x ≤ j → j < x + 10 → E' 103 j = 0) → PW l G 9 mX12_readOrder bg 85 [(0, (2, 66)), (1, (0, v)), (2, (0, x)), (3, (0, 10))] [] (n, K, F, E') Q) → PW l G 9 mX12_readOrder bg 85 [(0, (2, 66)), (1, (0, v)), (2, (0, x)), (3, (0, i))] [] (n, K, F, E1) Q := by
  induction m with
  | zero =>
    intro i E1 e i0 r1 r2 r3 hQ
    have : i = 10 := by omega
    subst this
    exact hQ E1 r1 r2 r3
  | succ m ih =>
    intro i E1 e i0 r1 r2 r3 hQ
    refine vX12_readOrder_85 66 v x i ⟨fun z => absurd z (by omega), fun _ => ?_⟩
    simp only [hF.f66_67, hK.k66, hK.k103]
    refine ⟨trivial, by omega, by decide, trivial, by omega, fun E2 e2 => ⟨by omega, ih (i + 1) E2 (by omega) (by omega) (fun r hr => by rw [e2, pUp_an hr]; exact r1 r hr) (fun j hj => by rw [e2, pUp_k (by omega)]; exact r2 j hj) (fun j j0 j1 => ?_) hQ⟩⟩
    by_cases z : j = x + i
    · rw [e2, z, pUp_s]
    · rw [e2, pUp_k z]; exact r3 j j0 (by omega)
/-- an order under way: its first m sums -/
def OSm (tp : Int → Int) (len : Int) (T : Nat) (K : Int → Nat × Nat) (F E : Int → Int → Int) (N : Nat) (k m : Int) (fs : Int → tPhi) (c0 t0 : Int) (F' E' : Int → Int → Int) (t p c : Int) : Prop :=
  FrBk F E F' E' ∧ RBs false tp len T K F' E' t p c ∧ F' 66 21 = (N : Int) + 1 ∧ (∀ j, j < 10 * (N : Int) → E' 103 j = E 103 j) ∧ (∀ j, j < c0 → E' 77 j = E 77 j ∧ E' 78 j = E 78 j) ∧ (c0 ≤ c ∧ t0 ≤ t) ∧ E' 103 (10 * (N : Int)) = k ∧
  ∀ i, 0 ≤ i → i < 3 → (i < m → (0 ≤ E' 103 (10 * (N : Int) + sA i) ∧ E' 103 (10 * (N : Int) + sA i) < E' 103 (10 * (N : Int) + sA i + 1) ∧ E' 103 (10 * (N : Int) + sA i + 1) ≤ c) ∧ SegR 1 (E' 77) (E' 78) (E' 103 (10 * (N : Int) + sA i)) (E' 103 (10 * (N : Int) + sA i + 1)) (fs i) 60 12) ∧ (m ≤ i → E' 103 (10 * (N : Int) + sA i) = E' 103 (10 * (N : Int) + sA i + 1))
theorem sA_inj {i j : Int} (i0 : 0 ≤ i) (i3 : i < 3) (j0 : 0 ≤ j) (j3 : j < 3) (h : i ≠ j) : sA i ≠ sA j ∧ sA i ≠ sA j + 1 ∧ sA i + 1 ≠ sA j ∧ sA i + 1 ≠ sA j + 1 := by
  unfold sA
  (repeat' split) <;> omega
theorem OSm.next {F1 E1 F' E' : Int → Int → Int} {N : Nat} {k m c0 t0 t' p' c' : Int} {fs : Int → tPhi} (m0 : 0 ≤ m) (m3 : m < 3) (h : OSm tp len T K F E N k m fs c0 t0 F1 E1 t p c) (w : FrBk F1 E1 F' E') (e : E' 103 = rUp (rUp (E1 103) (10 * (N : Int) + sA m) c) (10 * (N : Int) + sA m + 1) c') (ag : ∀ j, j < c → E' 77 j = E1 77 j ∧ E' 78 j = E1 78 j) (e21 : F' 66 21 = F1 66 21) (hb : RBs false tp len T K F' E' t' p' c') (sg : SegR 1 (E' 77) (E' 78) c c' (fs m) 60 12) (cc : c < c') (tt : t ≤ t') : OSm tp len T K F E N k (m + 1) fs c0 t0 F' E' t' p' c' := by
  obtain ⟨h1, h2, h3, h4, h5, h6, h7, h8⟩ := h
  have cp := h2.2.2.2.2.2.2
  have s := sA_rng (i := m)
  refine ⟨h1.trans w, hb, e21.trans h3, fun j hj => ?_, fun j hj => ?_, by omega, ?_, fun i i0 i3 => ?_⟩
  · rw [e, rUp_n (by omega), rUp_n (by omega)]; exact h4 j hj
  · have a := ag j (by omega)
    have b := h5 j hj
    exact ⟨a.1.trans b.1, a.2.trans b.2⟩
  · rw [e, rUp_n (by omega), rUp_n (by omega)]; exact h7
  · by_cases q : i = m
    · subst q
      rw [e, rUp_n (by omega), rUp_s, rUp_s]
      exact ⟨fun _ => ⟨by omega, sg⟩, fun y => absurd y (by omega)⟩
    · have v := sA_inj i0 i3 m0 m3 q
      rw [e, rUp_n (by omega), rUp_n (by omega), rUp_n (by omega), rUp_n (by omega)]
      refine ⟨fun y => ?_, fun y => (h8 i i0 i3).2 (by omega)⟩
      have u := (h8 i i0 i3).1 (by omega)
      exact ⟨by omega, u.2.low u.1.2.2 ag⟩
theorem r_readOrder {N : Nat} {t' p' : Int} {ok : Bool} {x : tKl} (hE : TkE tp len T kd nm) (h : RBs false tp len T K F E t p c) (h21 : F 66 21 = (N : Int)) (n12 : N ≤ 12) (hg : N < 12 → ClG false kd nm t p ok t' p' x)
    (hF : (N = 12 ∨ ok = false) → ∀ F' E', BdR tp len F E (if N = 12 then t else t') F' E' → Q none (n, K, F', E'))
    (hT : N < 12 → ok = true → ∀ F' E' c', FrBk F E F' E' → F' 66 21 = (N : Int) + 1 → (∀ j, j < 10 * (N : Int) → E' 103 j = E 103 j) → (∀ j, j < c → E' 77 j = E 77 j ∧ E' 78 j = E 78 j) → RBs false tp len T K F' E' t' p' c' → c ≤ c' → t ≤ t' → KlO (E' 103) (E' 77) (E' 78) c' N x → Q none (n, K, F', E')) : PC l G 9 mX12_readOrder bg [(2, 66)] (n, K, F, E) Q := by
  obtain ⟨⟨a1, a2, a3⟩, ⟨a4, a5⟩, a6, a7, ⟨a8, a9⟩, ⟨b1, b2⟩, b3⟩ := id h
  have k66 : (K 66).1 = 12 := h.k66
  have hl := hE.1
  have hTT := hE.2.2.1.2
  have wk : ∀ j, 0 ≤ j → j < 4 → ((F 66 16 = 1 ∧ F 66 17 = E 102 j) ↔ kd t = 275 + j) := by
    intro j j0 j1
    have q : j = 0 ∨ j = 1 ∨ j = 2 ∨ j = 3 := by omega
    rcases q with e | e | e | e <;> subst e
    · rw [show E 102 0 = 114085 from a3 (102, 0, 114085) (by decide)]; exact at_word 16 (by decide) rfl hE a6 a7.1 a7.2
    · rw [show E 102 1 = 659105125 from a3 (102, 1, 659105125) (by decide)]; exact at_word 17 (by decide) rfl hE a6 a7.1 a7.2
    · rw [show E 102 2 = 781652471 from a3 (102, 2, 781652471) (by decide)]; exact at_word 18 (by decide) rfl hE a6 a7.1 a7.2
    · rw [show E 102 3 = 9900216 from a3 (102, 3, 9900216) (by decide)]; exact at_word 19 (by decide) rfl hE a6 a7.1 a7.2
  have f19 : ¬ pUp (pUp F 66 19 1) 66 18 (F 66 14) 66 19 = 0 := by rw [pUp_k (by decide), pUp_s]; decide
  have no : ∀ v, (N = 12 ∨ ¬ (275 ≤ kd t ∧ kd t ≤ 278)) → PC l G 2 mX12_must (0, 0) [(2, 66), (0, 0)] (n, K, F, E) (fun r μ => PW l G 9 mX12_readOrder bg 57 [(0, (2, 66)), (1, (0, v))] (r.toList ++ []) μ Q) := by
    intro v hv
    refine r_mustF a1 a8 (vX12_readOrder_57 66 v ⟨k66, fun y => absurd y f19, fun _ => ?_⟩)
    by_cases q : N = 12
    · have := hF (Or.inl q) _ _ (by rw [if_pos q]; exact h.bad)
      exact this
    · rcases hg (by omega) with ⟨z1, z2, z3⟩ | ⟨z1, _⟩
      · refine hF (Or.inr z2) _ _ ?_
        rw [if_neg q, z3]
        exact h.bad
      · rw [hdl_f, lal_f] at z1
        omega
  have yes : ∀ v, N < 12 → v = kd t - 275 → 0 ≤ v → v ≤ 3 → PC l G 2 mX12_must (0, 0) [(2, 66), (0, 1)] (n, K, F, E) (fun r μ => PW l G 9 mX12_readOrder bg 57 [(0, (2, 66)), (1, (0, v))] (r.toList ++ []) μ Q) := by
    intro v nl ev v0 v1
    have nn : ¬ N = 12 := by omega
    have tl := hE.lt a7.2 (by omega)
    rcases hg nl with ⟨z1, _⟩ | ⟨_, xv, hg⟩
    · rw [hdl_f, lal_f] at z1; omega
    rw [hdl_f] at xv hg
    rw [← ev] at xv hg
    have hm : ∃ om tm pm fs, MG false kd nm (mvL false v) (t + 1) p om tm pm fs ∧ (om = false → ok = false ∧ t' = tm) ∧ (om = true → fs = x.2.2.2 ∧ ((ok = false ∧ ∃ n', TmG false kd nm tm false t' n') ∨ ∃ t2, TmG false kd nm tm true t2 x.2.1 ∧ IfG false kd nm t2 pm ok t' p' x.2.2.1)) := by
      rcases hg with ⟨o, p1, fs, m⟩ | ⟨t1, p1, m, hg⟩
      · exact ⟨false, t', p1, fs, m, fun _ => ⟨o, rfl⟩, fun q => by cases q⟩
      · exact ⟨true, t1, p1, x.2.2.2, m, fun q => (by cases q), fun _ => ⟨rfl, hg⟩⟩
    obtain ⟨om, tm, pm, fs, mg, hm0, hm1⟩ := hm
    have bq : ∀ F' E' u, BdR tp len F E u F' E' → ok = false → t' = u → ∀ E2, (∀ r, r ≠ 103 → E2 r = E' r) → Q none (n, K, F', E2) := fun F' E' u bd o e E2 e2 => by
      refine hF (Or.inr o) F' E2 ?_
      rw [if_neg nn, e]
      exact ⟨⟨fun r a b => (e2 r b).trans (bd.1.1 r a b), bd.1.2.1, bd.1.2.2⟩, bd.2.1, bd.2.2⟩
    refine r_mustB (by decide) hE h tl fun F1 w1 h1 => vX12_readOrder_57 66 v ?_
    have g : ∀ k, (k < 14 ∨ 17 < k) → F1 66 k = F 66 k := fun k hk => w1.2 66 k (by omega)
    have hF1 := w1.1
    rw [g 21 (by omega), h21]
    refine ⟨k66, fun _ => ⟨by omega, by omega, fun F2 f2 => ?_⟩, fun y => absurd h1.2.2.2.2.1.1 y⟩
    have hF2 : FS F2 := by rw [f2]; exact hF1.up (by decide)
    refine r_zero85 (E := E) (by omega) (by omega) a1 hF2 10 0 E (by decide) (by decide) (fun _ _ => rfl) (fun _ _ => rfl) (fun j j0 j1 => absurd j1 (by omega)) fun E8 r1 r2 r3 => ?_
    obtain ⟨_, _, e6, e7, ⟨e8, _⟩, ⟨g1, g2⟩, g3⟩ := id h1
    have k2 : ∀ k, k ≠ 21 → F2 66 k = F1 66 k := fun k q => by rw [f2, pUp_k q]
    refine vX12_readOrder_85 66 v (10 * (N : Int)) 10 ⟨fun _ => ?_, fun z => absurd (by decide) z⟩
    simp only [hF2.f66_67, a1.k66, a1.k103]
    refine ⟨trivial, by decide, trivial, by omega, fun E9 e9 => ⟨by omega, ?_⟩⟩
    have w9 : FrBk F E F2 E9 := by
      rw [f2, e9]
      exact (((FrQ.v w1.r).trans ⟨fun r a b => r1 r b, hF1, fun _ _ _ => rfl⟩).row (Or.inr rfl)).cl
    have h9 : RBs false tp len T K F2 E9 (t + 1) p c := h.mk' w9 (e6.keep ⟨k2 14 (by decide), k2 15 (by decide), k2 16 (by decide), k2 17 (by decide), k2 18 (by decide)⟩) e7 (by rw [k2 19 (by decide)]; exact e8) ⟨by rw [k2 23 (by decide)]; exact g1, by rw [k2 26 (by decide)]; exact g2⟩ g3
    have q9 : E9 103 = rUp (E8 103) (10 * (N : Int)) v := by rw [e9, pUp_row, pRow1, if_pos rfl]
    have o9 : ∀ r, r ≠ 103 → E9 r = E r := fun r hr => by rw [e9, pUp_an hr]; exact r1 r hr
    have os0 : OSm tp len T K F E N v 0 fs c t F2 E9 (t + 1) p c := by
      refine ⟨w9, h9, by rw [f2, pUp_s], fun j hj => ?_, fun j hj => ?_, by omega, by rw [q9, rUp_s], fun i i0 i3 => ⟨fun y => absurd y (by omega), fun _ => ?_⟩⟩
      · rw [q9, rUp_n (by omega)]; exact r2 j hj
      · rw [o9 77 (by decide), o9 78 (by decide)]; exact ⟨rfl, rfl⟩
      · have s := sA_rng (i := i)
        rw [q9, rUp_n (by omega), rUp_n (by omega), r3 _ (by omega) (by omega), r3 _ (by omega) (by omega)]
    -- the end of it
    have fin : ∀ F3 E3 t3 p3 c3, OSm tp len T K F E N v (nSm false v) fs c t F3 E3 t3 p3 c3 → om = true → tm = t3 → pm = p3 → OrdT l G bg n K F3 E3 Q (10 * (N : Int)) := by
      intro F3 E3 t3 p3 c3 os o1 e1 e2
      obtain ⟨fe, hr⟩ := hm1 o1
      subst e1
      subst e2
      obtain ⟨u1, u2, u3, u4, u5, u6, u7, u8⟩ := os
      refine r_ordT (by omega) (by omega) hE u2 hr (fun o F4 E4 bd => bq F4 E4 t' (bd.pre u1) o rfl E4 (fun _ _ => rfl)) (fun o F4 E4 c4 en => ?_)
      obtain ⟨v1', ⟨v2, v3, v4, v5⟩, v6, v7, v8, v9, v10⟩ := en
      have c44 := v8.2.2.2.2.2.2
      have t44 := v8.2.2.2.1
      refine hT nl o F4 E4 c4 (u1.trans v1') (v7.trans u3) (fun j hj => by rw [v5 j (by omega) (by omega) (by omega)]; exact u4 j hj) (fun j hj => ?_) v8 (by omega) (by omega) ⟨?_, v2, ?_, ?_, fun i i0 i3 => ?_⟩
      · have a := v6 j (by omega)
        have b := u5 j hj
        exact ⟨a.1.trans b.1, a.2.trans b.2⟩
      · rw [v5 _ (by omega) (by omega) (by omega), u7, xv]
      · rw [v4]; omega
      · rw [v3, v4]; exact v10
      · have s := sA_rng (i := i)
        rw [v5 (10 * (N : Int) + sA i) (by omega) (by omega) (by omega), v5 (10 * (N : Int) + sA i + 1) (by omega) (by omega) (by omega), xv, ← fe]
        refine ⟨fun y => ?_, (u8 i i0 i3).2⟩
        have u := (u8 i i0 i3).1 y
        exact ⟨by omega, u.2.low u.1.2.2 v6⟩
    have q : v = 0 ∨ v = 1 ∨ v = 2 ∨ v = 3 := by omega
    have hd : ∃ L, mvL false v = (0, 0) :: L := by
      rcases q with e | e | e | e <;> rw [e] <;> exact ⟨_, rfl⟩
    obtain ⟨L, hL⟩ := hd
    have mg' := mg
    rw [hL] at mg'
    obtain ⟨o2, t1, p1, f, gr, z0, z1⟩ := mg_is mg'
    refine r_readSum (x := 10 * (N : Int) + 1) (by omega) (by omega) hE h9 gr (fun o F3 E3 bd => ?_) (fun o F3 E3 c3 w3 q3 ag e21 h3 sg cc tt => ?_)
    · obtain ⟨y1, y2⟩ := z0 o
      obtain ⟨y3, y4⟩ := hm0 y1
      exact (r_ordBad2 (v := v) (by omega) (by omega) a1 bd.1.2.1 bd.2.1 (bq F3 E3 t1 (bd.pre w9) y3 (by omega))).2
    · obtain ⟨fe, mg1⟩ := z1 o
      have os1 : OSm tp len T K F E N v (0 + 1) fs c t F3 E3 t1 p1 c3 := os0.next (by decide) (by decide) w3 (by rw [show sA 0 = 1 by decide]; exact q3) ag e21 h3 (by rw [← fe]; exact sg) cc tt
      have bq3 : ∀ F' E' u, BdR tp len F3 E3 u F' E' → om = false → tm = u → ∀ E2, (∀ r, r ≠ 103 → E2 r = E' r) → Q none (n, K, F', E2) := fun F' E' u bd o e => by
        obtain ⟨y3, y4⟩ := hm0 o
        exact bq F' E' u (bd.pre os1.1) y3 (by omega)
      -- one more sum
      refine vX12_readOrder_120 66 v (10 * (N : Int)) ⟨fun v0' => ⟨fun v2 => ?_, fun v2 => ⟨by omega, k66, ?_⟩⟩, fun v0' => ⟨by omega, k66, ?_⟩⟩
      · have e1 : v = 1 := by omega
        have eL : L = [] := by rw [e1] at hL; have := hL.symm.trans mvL1; injection this
        rw [eL] at mg1
        obtain ⟨m1, m2, m3⟩ := mg1
        refine fin F3 E3 t1 p1 c3 ?_ m1 m2 m3
        rw [show nSm false v = 0 + 1 by rw [e1]; decide]
        exact os1
      · have e2 : v = 2 ∨ v = 3 := by omega
        have eL : L = [(1, 280), (0, 1)] := by have := hL.symm.trans (mvL2 e2); injection this
        rw [eL] at mg1
        obtain ⟨o3, t3, p3, f3, gr3, s0, s1, s2⟩ := mg_ib mg1
        refine r_behind (i := 21) (by decide) rfl (by omega) (by omega) hE h3 gr3 (fun y F4 E4 bd1 bd2 => ?_) (fun k y F4 E4 c4 w4 q4 ag4 e4 h4 sg4 cc4 tt4 => ?_)
        · by_cases k : kd t1 = 280
          · have o4 : o3 = false := by rcases y with y | y; exact absurd k y; exact y
            obtain ⟨y3, y4⟩ := s1 k o4
            have bd := bd2 k
            exact (r_ordBad (v := 0) (by omega) (by omega) a1 bd.1.2.1 bd.2.1 (bq3 F4 E4 t3 bd y3 y4)).1
          · obtain ⟨y3, y4⟩ := s0 k
            have bd := bd1 k
            exact (r_ordBad (v := 0) (by omega) (by omega) a1 bd.1.2.1 bd.2.1 (bq3 F4 E4 t1 bd y3 y4)).1
        · obtain ⟨fe3, m1, m2, m3⟩ := s2 k y
          have os2 : OSm tp len T K F E N v (0 + 1 + 1) fs c t F4 E4 t3 p3 c4 := os1.next (by decide) (by decide) w4 (by rw [show sA (0 + 1) = 3 by decide]; exact q4) ag4 e4 h4 (by rw [show (0 : Int) + 1 = 1 by decide, ← fe3]; exact sg4) cc4 tt4
          refine vX12_readOrder_160 66 _ (fin F4 E4 t3 p3 c4 ?_ m1 m2 m3)
          rw [show nSm false v = 0 + 1 + 1 by rcases e2 with e | e <;> rw [e] <;> decide]
          exact os2
      · have eL : L = [(1, 279), (0, 1), (1, 284), (0, 2)] := by rw [v0'] at hL; have := hL.symm.trans mvL0; injection this
        rw [eL] at mg1
        obtain ⟨o3, t3, p3, f3, gr3, s0, s1, s2⟩ := mg_ib mg1
        refine r_behind (i := 20) (by decide) rfl (by omega) (by omega) hE h3 gr3 (fun y F4 E4 bd1 bd2 => ?_) (fun k y F4 E4 c4 w4 q4 ag4 e4 h4 sg4 cc4 tt4 => ?_)
        · by_cases k : kd t1 = 279
          · have o4 : o3 = false := by rcases y with y | y; exact absurd k y; exact y
            obtain ⟨y3, y4⟩ := s1 k o4
            have bd := bd2 k
            exact (r_ordBad2 (v := v) (by omega) (by omega) a1 bd.1.2.1 bd.2.1 (bq3 F4 E4 t3 bd y3 y4)).1 (by omega)
          · obtain ⟨y3, y4⟩ := s0 k
            have bd := bd1 k
            exact (r_ordBad2 (v := v) (by omega) (by omega) a1 bd.1.2.1 bd.2.1 (bq3 F4 E4 t1 bd y3 y4)).1 (by omega)
        · obtain ⟨fe3, mg3⟩ := s2 k y
          have os2 : OSm tp len T K F E N v (0 + 1 + 1) fs c t F4 E4 t3 p3 c4 := os1.next (by decide) (by decide) w4 (by rw [show sA (0 + 1) = 3 by decide]; exact q4) ag4 e4 h4 (by rw [show (0 : Int) + 1 = 1 by decide, ← fe3]; exact sg4) cc4 tt4
          have bq4 : ∀ F' E' u, BdR tp len F4 E4 u F' E' → om = false → tm = u → ∀ E2, (∀ r, r ≠ 103 → E2 r = E' r) → Q none (n, K, F', E2) := fun F' E' u bd o e => by
            obtain ⟨y3, y4⟩ := hm0 o
            exact bq F' E' u (bd.pre os2.1) y3 (by omega)
          obtain ⟨o5, t5, p5, f5, gr5, r0', r1', r2'⟩ := mg_ib mg3
          refine vX12_readOrder_134 66 v _ ⟨by omega, k66, r_behind (i := 25) (by decide) rfl (by omega) (by omega) hE h4 gr5 (fun y F5 E5 bd1 bd2 => ?_) (fun k y F5 E5 c5 w5 q5 ag5 e5 h5 sg5 cc5 tt5 => ?_)⟩
          · by_cases k : kd t3 = 284
            · have o4 : o5 = false := by rcases y with y | y; exact absurd k y; exact y
              obtain ⟨y3, y4⟩ := r1' k o4
              have bd := bd2 k
              exact (r_ordBad (v := v) (by omega) (by omega) a1 bd.1.2.1 bd.2.1 (bq4 F5 E5 t5 bd y3 y4)).2 (by omega)
            · obtain ⟨y3, y4⟩ := r0' k
              have bd := bd1 k
              exact (r_ordBad (v := v) (by omega) (by omega) a1 bd.1.2.1 bd.2.1 (bq4 F5 E5 t3 bd y3 y4)).2 (by omega)
          · obtain ⟨fe5, m1, m2, m3⟩ := r2' k y
            have os3 : OSm tp len T K F E N v (0 + 1 + 1 + 1) fs c t F5 E5 t5 p5 c5 := os2.next (by decide) (by decide) w5 (by rw [show sA (0 + 1 + 1) = 8 by decide]; exact q5) ag5 e5 h5 (by rw [show (0 : Int) + 1 + 1 = 2 by decide, ← fe5]; exact sg5) cc5 tt5
            refine vX12_readOrder_145 66 v _ ⟨fun _ => fin F5 E5 t5 p5 c5 ?_ m1 m2 m3, fun y => absurd (by omega) y⟩
            rw [show nSm false v = 0 + 1 + 1 + 1 by rw [v0']; decide]
            exact os3
  -- which act
  have s4 : ∀ v, ((v = -1 ∧ ¬ (275 ≤ kd t ∧ kd t ≤ 278)) ∨ (v = kd t - 275 ∧ 0 ≤ v ∧ v ≤ 3)) → PW l G 9 mX12_readOrder bg 4 [(0, (2, 66)), (1, (0, v)), (2, (0, 4))] [] (n, K, F, E) Q := by
    intro v hv
    refine vX12_readOrder_4 66 v 4 ⟨fun _ => ⟨fun z => ⟨k66, no v (Or.inr ?_)⟩, fun z => ⟨k66, fun y => no v (Or.inl ?_), fun y => yes v ?_ ?_ ?_ ?_⟩⟩, fun z => absurd (by decide) z⟩
    · omega
    · omega
    · omega
    · omega
    · omega
    · omega
  have st : ∀ (m : Nat) (i v : Int), i + m = 4 → 0 ≤ i → ((v = -1 ∧ ¬ (275 ≤ kd t ∧ kd t < 275 + i)) ∨ (v = kd t - 275 ∧ 0 ≤ v ∧ v < i)) → PW l G 9 mX12_readOrder bg 4 [(0, (2, 66)), (1, (0, v)), (2, (0, i))] [] (n, K, F, E) Q := by
    intro m
    induction m with
    | zero =>
      intro i v e i0 hv
      have : i = 4 := by omega
      subst this
      exact s4 v (by omega)
    | succ m ih =>
      intro i v e i0 hv
      have wi := wk i i0 (by omega)
      refine vX12_readOrder_4 66 v i ⟨fun z => absurd z (by omega), fun _ => ?_⟩
      simp only [a2.f66_66, a1.k66, a1.k102]
      exact ⟨trivial, by decide, trivial, by omega, fun z => ⟨by omega, ih (i + 1) v (by omega) (by omega) (by have : kd t ≠ 275 + i := fun q => z (wi.mpr q); omega)⟩, fun z => ⟨by omega, ih (i + 1) i (by omega) (by omega) (by have := wi.mp z; omega)⟩⟩
  exact vX12_readOrder_0 66 (st 4 0 (-1) (by decide) (by decide) (Or.inl ⟨rfl, by omega⟩))
theorem r_ordCl {k N M : Nat} {ok : Bool} {t' : Int} {C : Nat → tKl} (hE : TkE tp len T kd nm) (h : RBs false tp len T K F E t p c) (h21 : F 66 21 = (N : Int)) (nk : N + k = 12) (hC : ∀ c' : Nat, c' < N → KlO (E 103) (E 77) (E 78) c c' (C c')) (tx : TxG false kd nm k N t p ok t' C M)
    (hF : ok = false → ∀ F' E', BdR tp len F E t' F' E' → Q none (n, K, F', E'))
    (hT : ∀ F' E' t1 p1 c1 (k' : Nat), k = k' + 1 → FrBk F E F' E' → RBs false tp len T K F' E' t1 p1 c1 → F' 66 21 = ((N + 1 : Nat) : Int) → (∀ c' : Nat, c' < N + 1 → KlO (E' 103) (E' 77) (E' 78) c1 c' (C c')) → Rst false kd nm k' (N + 1) t1 p1 ok t' C M → Q none (n, K, F', E')) : PC l G 9 mX12_readOrder bg [(2, 66)] (n, K, F, E) Q := by
  have hl := hE.1
  have hTT := hE.2.2.1.2
  cases k with
  | zero =>
    obtain ⟨z1, z2⟩ := tx
    have n12 : N = 12 := by omega
    refine r_readOrder (ok := false) (t' := t) (p' := p) (x := C 0) hE h h21 (by omega) (fun q => absurd q (by omega)) (fun _ F' E' bd => hF z1 F' E' ?_) (fun q => absurd q (by omega))
    rw [if_pos n12] at bd
    rw [z2]
    exact bd
  | succ k =>
    have nn : ¬ N = 12 := by omega
    rcases tx with ⟨o1, p1, x, cl⟩ | ⟨t1, p1, cl, rs⟩
    · refine r_readOrder hE h h21 (by omega) (fun _ => cl) (fun _ F' E' bd => hF o1 F' E' ?_) (fun _ q => by cases q)
      rw [if_neg nn] at bd
      exact bd
    · refine r_readOrder hE h h21 (by omega) (fun _ => cl) (fun q => ?_) (fun _ _ F' E' c1 w e21 e76 ag h1 cc tt kl => ?_)
      · rcases q with q | q
        · exact absurd q nn
        · cases q
      · have t4 := h1.2.2.2.1
        have c4 := h1.2.2.2.2.2.2
        refine hT F' E' t1 p1 c1 k rfl w h1 (by rw [e21]; omega) (fun c' hc => ?_) rs
        by_cases q : c' = N
        · subst q; exact kl
        · exact (hC c' (by omega)).grow (fun j j0 j1 => e76 j (by omega)) ag cc (by omega)
theorem r_orders_19 {ok : Bool} {t' : Int} {C : Nat → tKl} {M : Nat} (hE : TkE tp len T kd nm) (k : Nat) : ∀ (N : Nat) (t p c : Int) (F E : Int → Int → Int), N + k = 12 → RBs false tp len T K F E t p c → F 66 21 = (N : Int) → (∀ c' : Nat, c' < N → KlO (E 103) (E 77) (E 78) c c' (C c')) → Rst false kd nm k N t p ok t' C M →
    (ok = false → ∀ F' E', FrEd F E F' E' → F' 66 19 = 1 → F' 66 18 = tB tp len t' → F' 66 13 = 0 → F' 66 20 = 0 → PW l G 10 mX12_orders bg 50 [(0, (2, 66))] [] (n, K, F', E') Q) →
    (ok = true → ∀ F' E', FrEd F E F' E' → F' 66 19 = 0 → F' 66 18 = -1 → F' 66 13 = 0 → F' 66 20 = 0 → F' 66 21 = (M : Int) → M ≤ 12 → (0 ≤ F' 66 23 ∧ F' 66 23 ≤ 400) → (∀ c' : Nat, c' < M → KlO (E' 103) (E' 77) (E' 78) (F' 66 23) c' (C c')) → PW l G 10 mX12_orders bg 50 [(0, (2, 66))] [] (n, K, F', E') Q) →
    PW l G 10 mX12_orders bg 19 [(0, (2, 66))] [] (n, K, F, E) Q := by
  have hl := hE.1
  have hTT := hE.2.2.1.2
  induction k with
  | zero =>
    intro N t p c F E nk h h21 hC rs hF hT
    have sgn := at_sign (s := 59) hE h.2.2.1 h.2.2.2.1.1 h.2.2.2.1.2 (by decide)
    have h19 := h.2.2.2.2.1.1
    refine vX12_orders_19 66 ⟨h.k66, fun z => absurd h19 z, fun _ => ⟨fun z => ?_, fun z => ?_⟩⟩
    · have k59 : kd t ≠ 59 := fun q => z (sgn.mpr q)
      rcases rs with ⟨r1, r2, r3, r4⟩ | ⟨r1, _, r3, r4⟩ | ⟨q, _⟩
      · subst r4
        refine r_endT hE h r1 (hT r2 _ _ (FrBk.refl h.1.2.1).ed.fin ?_ ?_ pUp_s ?_ ?_ (by omega) ?_ ?_)
        · rw [pUp_k (by decide), pUp_k (by decide)]; exact h19
        · rw [pUp_k (by decide), pUp_k (by decide)]; exact h.2.2.1.2.2.2.2
        · rw [pUp_k (by decide), pUp_s]
        · rw [pUp_k (by decide), pUp_k (by decide)]; exact h21
        · rw [pUp_k (by decide), pUp_k (by decide), h.2.2.2.2.2.1.1]
          have := h.2.2.2.2.2.2; have := h.2.2.2.1; omega
        · rw [pUp_k (by decide), pUp_k (by decide), h.2.2.2.2.2.1.1]; exact hC
      · refine r_endF hE h r1 fun F' f' => ?_
        have bd := h.bad
        rw [← f'] at bd
        rw [← r4] at bd
        refine hF r3 _ _ bd.1.ed.fin ?_ ?_ pUp_s ?_
        · rw [pUp_k (by decide), pUp_k (by decide)]; exact bd.2.1
        · rw [pUp_k (by decide), pUp_k (by decide)]; exact bd.2.2
        · rw [pUp_k (by decide), pUp_s]
      · exact absurd q k59
    · have k59 := sgn.mp z
      rcases rs with ⟨r1, _⟩ | ⟨_, r1, _⟩ | ⟨_, tx⟩
      · omega
      · exact absurd k59 r1
      refine r_nextB hE h (hE.lt h.2.2.2.1.2 (by omega)) fun F1 w1 h1 => vX12_orders_39 66 ⟨h.k66, ?_⟩
      refine r_ordCl (N := N) hE h1 (by rw [w1.2 66 21 (by omega)]; exact h21) nk hC tx (fun o F2 E2 bd => vX12_orders_43 66 (vX12_orders_19 66 ⟨h.k66, fun _ => r_endB h.1.1 bd.2.1 ?_, fun q => absurd q (by rw [bd.2.1]; decide)⟩)) (fun F2 E2 t1 p1 c1 k' e => by cases e)
      refine hF o _ _ (((FrQ.v w1.r).trans bd.1).ed.fin) ?_ ?_ pUp_s ?_
      · rw [pUp_k (by decide), pUp_k (by decide)]; exact bd.2.1
      · rw [pUp_k (by decide), pUp_k (by decide)]; exact bd.2.2
      · rw [pUp_k (by decide), pUp_s]
  | succ k ih =>
    intro N t p c F E nk h h21 hC rs hF hT
    have sgn := at_sign (s := 59) hE h.2.2.1 h.2.2.2.1.1 h.2.2.2.1.2 (by decide)
    have h19 := h.2.2.2.2.1.1
    refine vX12_orders_19 66 ⟨h.k66, fun z => absurd h19 z, fun _ => ⟨fun z => ?_, fun z => ?_⟩⟩
    · have k59 : kd t ≠ 59 := fun q => z (sgn.mpr q)
      rcases rs with ⟨r1, r2, r3, r4⟩ | ⟨r1, _, r3, r4⟩ | ⟨q, _⟩
      · subst r4
        refine r_endT hE h r1 (hT r2 _ _ (FrBk.refl h.1.2.1).ed.fin ?_ ?_ pUp_s ?_ ?_ (by omega) ?_ ?_)
        · rw [pUp_k (by decide), pUp_k (by decide)]; exact h19
        · rw [pUp_k (by decide), pUp_k (by decide)]; exact h.2.2.1.2.2.2.2
        · rw [pUp_k (by decide), pUp_s]
        · rw [pUp_k (by decide), pUp_k (by decide)]; exact h21
        · rw [pUp_k (by decide), pUp_k (by decide), h.2.2.2.2.2.1.1]
          have := h.2.2.2.2.2.2; have := h.2.2.2.1; omega
        · rw [pUp_k (by decide), pUp_k (by decide), h.2.2.2.2.2.1.1]; exact hC
      · refine r_endF hE h r1 fun F' f' => ?_
        have bd := h.bad
        rw [← f'] at bd
        rw [← r4] at bd
        refine hF r3 _ _ bd.1.ed.fin ?_ ?_ pUp_s ?_
        · rw [pUp_k (by decide), pUp_k (by decide)]; exact bd.2.1
        · rw [pUp_k (by decide), pUp_k (by decide)]; exact bd.2.2
        · rw [pUp_k (by decide), pUp_s]
      · exact absurd q k59
    · have k59 := sgn.mp z
      rcases rs with ⟨r1, _⟩ | ⟨_, r1, _⟩ | ⟨_, tx⟩
      · omega
      · exact absurd k59 r1
      refine r_nextB hE h (hE.lt h.2.2.2.1.2 (by omega)) fun F1 w1 h1 => vX12_orders_39 66 ⟨h.k66, ?_⟩
      refine r_ordCl (N := N) hE h1 (by rw [w1.2 66 21 (by omega)]; exact h21) nk hC tx (fun o F2 E2 bd => vX12_orders_43 66 (vX12_orders_19 66 ⟨h.k66, fun _ => r_endB h.1.1 bd.2.1 ?_, fun q => absurd q (by rw [bd.2.1]; decide)⟩)) (fun F2 E2 t1 p1 c1 k' e w2 h2 e21 hC2 rs2 => vX12_orders_43 66 ?_)
      · refine hF o _ _ (((FrQ.v w1.r).trans bd.1).ed.fin) ?_ ?_ pUp_s ?_
        · rw [pUp_k (by decide), pUp_k (by decide)]; exact bd.2.1
        · rw [pUp_k (by decide), pUp_k (by decide)]; exact bd.2.2
        · rw [pUp_k (by decide), pUp_s]
      · have e' : k = k' := by omega
        subst e'
        have we := ((FrQ.v w1.r).trans w2).ed
        exact ih (N + 1) t1 p1 c1 F2 E2 (by omega) h2 e21 hC2 rs2 (fun o F' E' w a1 a2 a3 a4 => hF o F' E' (we.trans w) a1 a2 a3 a4) (fun o F' E' w a1 a2 a3 a4 a5 a6 a7 a8 => hT o F' E' (we.trans w) a1 a2 a3 a4 a5 a6 a7 a8)
/-- the whole text of orders, from its first clause on -/
theorem r_orders_15 {ok : Bool} {t' : Int} {C : Nat → tKl} {M : Nat} (hE : TkE tp len T kd nm) (h : RBs false tp len T K F E 0 0 0) (h21 : F 66 21 = 0) (tx : TxG false kd nm 12 0 0 0 ok t' C M)
    (hF : ok = false → ∀ F' E', FrEd F E F' E' → F' 66 19 = 1 → F' 66 18 = tB tp len t' → F' 66 13 = 0 → F' 66 20 = 0 → PW l G 10 mX12_orders bg 50 [(0, (2, 66))] [] (n, K, F', E') Q)
    (hT : ok = true → ∀ F' E', FrEd F E F' E' → F' 66 19 = 0 → F' 66 18 = -1 → F' 66 13 = 0 → F' 66 20 = 0 → F' 66 21 = (M : Int) → M ≤ 12 → (0 ≤ F' 66 23 ∧ F' 66 23 ≤ 400) → (∀ c' : Nat, c' < M → KlO (E' 103) (E' 77) (E' 78) (F' 66 23) c' (C c')) → PW l G 10 mX12_orders bg 50 [(0, (2, 66))] [] (n, K, F', E') Q) : PW l G 10 mX12_orders bg 15 [(0, (2, 66))] [] (n, K, F, E) Q := by
  refine vX12_orders_15 66 ⟨h.k66, ?_⟩
  refine r_ordCl (N := 0) hE h h21 (by decide) (fun c' q => absurd q (by omega)) tx (fun o F2 E2 bd => vX12_orders_19 66 ⟨h.k66, fun _ => r_endB h.1.1 bd.2.1 ?_, fun q => absurd q (by rw [bd.2.1]; decide)⟩) (fun F2 E2 t1 p1 c1 k' e w2 h2 e21 hC2 rs2 => ?_)
  · refine hF o _ _ (bd.1.ed.fin) ?_ ?_ pUp_s ?_
    · rw [pUp_k (by decide), pUp_k (by decide)]; exact bd.2.1
    · rw [pUp_k (by decide), pUp_k (by decide)]; exact bd.2.2
    · rw [pUp_k (by decide), pUp_s]
  · have e' : k' = 11 := by omega
    subst e'
    exact r_orders_19 hE 11 1 t1 p1 c1 F2 E2 (by decide) h2 e21 hC2 rs2 (fun o F' E' w a1 a2 a3 a4 => hF o F' E' (w2.ed.trans w) a1 a2 a3 a4) (fun o F' E' w a1 a2 a3 a4 a5 a6 a7 a8 => hT o F' E' (w2.ed.trans w) a1 a2 a3 a4 a5 a6 a7 a8)
end B
