/-! THE WAY OF ONE TUPLE in the reference: what it looks at -/
def CtxR (K : Int → Nat × Nat) (F E : Int → Int → Int) (c : Int → Int) (L : Option tLaw) (og : Int → Int) (fx : Bool) (B : Int → Int) (r0 a0 b0 : Int) : Prop :=
  (KS K ∧ FS F) ∧ (cz (sh6 (E 68)) = c ∧ CInv c) ∧ (F 66 20 = 0 ∧ LawF (E 68) L ∧ LwOk L) ∧ (OgOk c og fx ∧ ((fx = false ∧ F 66 56 = 0) ∨ (fx = true ∧ F 66 56 = 1 ∧ ∀ i, 0 ≤ i → i < c 0 → E 96 i = og i))) ∧
  (F 66 47 = r0 ∧ F 66 49 = c 1 + 1 ∧ E 93 0 = a0 ∧ E 93 1 = b0) ∧ ((0 ≤ r0 ∧ r0 < 3) ∧ (0 ≤ a0 ∧ a0 < 10) ∧ (0 ≤ b0 ∧ b0 < 10)) ∧ (BOk B ∧ B 2 = r0 ∧ B 3 = a0 ∧ B 4 = b0 ∧ B 7 = E 68 5 ∧ B 8 = c 1 + 1)
/-- a partial: where its tuples come from -/
def StOk (c : Int → Int) (r0 a0 b0 : Int) (st fd : Int → Int) : Prop := 0 < st r0 ∧ ∀ r, 0 ≤ r → r < 3 → 0 ≤ st r ∧ (0 < st r → (r = r0 ∧ st r = c 1 + 1 ∧ fd (r * 2 + 0) = a0 ∧ fd (r * 2 + 1) = b0) ∨ (r ≠ r0 ∧ ∃ i, (0 ≤ i ∧ i < c (9 + r)) ∧ st r = c (36 + (r * 9 + i) * 3 + 2) ∧ fd (r * 2 + 0) = c (36 + (r * 9 + i) * 3 + 0) ∧ fd (r * 2 + 1) = c (36 + (r * 9 + i) * 3 + 1)))
theorem StOk.pt {c st fd : Int → Int} {r0 a0 b0 : Int} (h : StOk c r0 a0 b0 st fd) (hC : CInv c) (ha : 0 ≤ a0 ∧ a0 < 10) (hb : 0 ≤ b0 ∧ b0 < 10) : PtOk st fd := by
  intro r q0 q1
  obtain ⟨h1, h2⟩ := h.2 r q0 q1
  refine ⟨h1, fun p f f0 f1 => ?_⟩
  rcases h2 p with ⟨e, e1, e2, e3⟩ | ⟨_, i, ⟨i0, i1⟩, e1, e2, e3⟩
  · rcases (show f = 0 ∨ f = 1 by omega) with e | e <;> subst e
    · rw [e2]; exact ha
    · rw [e3]; exact hb
  · have ct := hC.2.2.2.2.2 r i q0 q1 i0 i1
    rcases (show f = 0 ∨ f = 1 by omega) with e | e <;> subst e
    · rw [e2, show 36 + (r * 9 + i) * 3 + 0 = 36 + 27 * r + 3 * i by omega]; exact ct.1
    · rw [e3, show 36 + (r * 9 + i) * 3 + 1 = 37 + 27 * r + 3 * i by omega]; exact ct.2.1
theorem st_mono {c : Int → Int} {r : Int} (hC : CInv c) (q0 : 0 ≤ r) (q1 : r < 3) (w : Nat) : ∀ i, 0 ≤ i → i + w + 1 < c (9 + r) → c (36 + (r * 9 + i) * 3 + 2) < c (36 + (r * 9 + (i + w + 1)) * 3 + 2) := by
  have one : ∀ i, 0 ≤ i → i + 1 < c (9 + r) → c (36 + (r * 9 + i) * 3 + 2) < c (36 + (r * 9 + (i + 1)) * 3 + 2) := fun i i0 i1 => by
    have := (hC.2.2.2.2.2 r i q0 q1 i0 (by omega)).2.2.2 i1
    rw [show 36 + (r * 9 + i) * 3 + 2 = 38 + 27 * r + 3 * i by omega, show 36 + (r * 9 + (i + 1)) * 3 + 2 = 38 + 27 * r + 3 * (i + 1) by omega]
    exact this
  induction w with
  | zero => intro i i0 i1; rw [show i + ((0 : Nat) : Int) + 1 = i + 1 by omega]; exact one i i0 (by omega)
  | succ w ih =>
    intro i i0 i1
    have a := ih i i0 (by omega)
    have b := one (i + w + 1) (by omega) (by omega)
    rw [show i + ((w + 1 : Nat) : Int) + 1 = i + w + 1 + 1 by omega]
    omega
theorem st_inj {c : Int → Int} {r i j : Int} (hC : CInv c) (q0 : 0 ≤ r) (q1 : r < 3) (i0 : 0 ≤ i) (i1 : i < c (9 + r)) (j0 : 0 ≤ j) (j1 : j < c (9 + r)) (e : c (36 + (r * 9 + i) * 3 + 2) = c (36 + (r * 9 + j) * 3 + 2)) : i = j := by
  by_cases h : i < j
  · have := st_mono hC q0 q1 (j - i - 1).toNat i i0 (by omega)
    rw [show i + ((j - i - 1).toNat : Int) + 1 = j by omega] at this
    omega
  · by_cases h2 : j < i
    · have := st_mono hC q0 q1 (i - j - 1).toNat j j0 (by omega)
      rw [show j + ((i - j - 1).toNat : Int) + 1 = i by omega] at this
      omega
    · omega
section R
variable {l : Launch} {G : pG} {bg : Nat × Nat} {n : Nat} {K : Int → Nat × Nat} {F E : Int → Int → Int} {Q : Option pV → pM → Prop} {c : Int → Int} {L : Option tLaw} {og : Int → Int} {fx : Bool} {B : Int → Int} {r0 a0 b0 : Int} {st fd tk : Int → Int} {f : Int}
theorem CtxR.rd (h : CtxR K F E c L og fx B r0 a0 b0) {k j : Int} (k0 : 0 ≤ k) (k1 : k < 117) (e : j = k + 6) : E 68 j = c k := by
  rw [← h.2.1.1, czs_at k0 k1 e]
theorem r_fieldOf_42 {r fl j v : Int} (h : CtxR K F E c L og fx B r0 a0 b0) (q0 : 0 ≤ r) (q1 : r < 3) (f0 : 0 ≤ fl) (f1 : fl < 2) (j0 : 0 ≤ j) (j1 : j < c (9 + r)) (ev : v = c (36 + (r * 9 + j) * 3 + fl)) (hQ : Q (some (0, v)) (n, K, F, E)) (w : Nat) : ∀ i z, 0 ≤ i → i + w = c (9 + r) → (z = if j < i then v else -1) → PW l G 1 mX12_fieldOf bg 42 [(0, (2, 66)), (2, (0, r)), (3, (0, fl)), (4, (0, c (36 + (r * 9 + j) * 3 + 2))), (5, (0, z)), (6, (0, i))] [] (n, K, F, E) Q := by
  have rd := fun k j k0 k1 e => h.rd (k := k) (j := j) k0 k1 e
  obtain ⟨⟨hK, hF⟩, ⟨_, hC⟩, _⟩ := h
  have b9 := hC.2.2.2.1 r q0 q1
  have r9 := rd (9 + r) (15 + r) (by omega) (by omega) (by omega)
  induction w with
  | zero =>
    intro i z i0 e ez
    refine vX12_fieldOf_42 66 r fl _ z i ?_
    simp only [hF.f66_3, hK.k66, hK.k68, r9]
    refine ⟨trivial, by omega, trivial, by omega, fun _ => ?_, fun q => absurd (by omega) q⟩
    rw [ez, if_pos (by omega)]
    exact hQ
  | succ w ih =>
    intro i z i0 e ez
    have r2 := rd (36 + (r * 9 + i) * 3 + 2) (42 + 27 * r + 3 * i + 2) (by omega) (by omega) (by omega)
    have rf := rd (36 + (r * 9 + i) * 3 + fl) (42 + 27 * r + 3 * i + fl) (by omega) (by omega) (by omega)
    refine vX12_fieldOf_42 66 r fl _ z i ?_
    simp only [hF.f66_3, hK.k66, hK.k68, r9, r2, rf]
    refine ⟨trivial, by omega, trivial, by omega, fun q => absurd q (by omega), fun _ => ⟨by omega, by omega, by omega, by omega, by omega, by omega, fun a1 e1 => ⟨fun u => ⟨by omega, ih (i + 1) z (by omega) (by omega) ?_⟩, fun u => ⟨by omega, by omega, fun a2 e2 => ⟨by omega, ih (i + 1) a2 (by omega) (by omega) ?_⟩⟩⟩⟩⟩
    · rw [ez]
      have ne : i ≠ j := fun q => u (by rw [e1, q])
      by_cases q : j < i
      · rw [if_pos q, if_pos (by omega)]
      · rw [if_neg q, if_neg (by omega)]
    · have q := st_inj hC q0 q1 i0 (by omega) j0 j1 (e1.symm.trans u)
      rw [if_pos (by omega), e2, ev, q]
theorem r_fieldOf {r fl : Int} (h : CtxR K F E c L og fx B r0 a0 b0) (hs : StOk c r0 a0 b0 st fd) (hf : ∀ r, 0 ≤ r → r < 3 → E 87 (3 * f + r) = st r) (g0 : 0 ≤ f) (g1 : f < 4) (q0 : 0 ≤ r) (q1 : r < 3) (f0 : 0 ≤ fl) (f1 : fl < 2) (p : 0 < st r) (hQ : Q (some (0, fd (r * 2 + fl))) (n, K, F, E)) : PC l G 1 mX12_fieldOf bg [(2, 66), (0, f), (0, r), (0, fl)] (n, K, F, E) Q := by
  have h' := h
  obtain ⟨⟨hK, hF⟩, ⟨_, hC⟩, _, _, ⟨e47, e49, e930, e931⟩, _⟩ := h'
  have es := hf r q0 q1
  have b9 := hC.2.2.2.1 r q0 q1
  refine vX12_fieldOf_0 66 f r fl ?_
  simp only [hF.f66_41, hF.f66_48, hK.k66, hK.k87, hK.k93, es, e47, e49]
  rcases (hs.2 r q0 q1).2 p with ⟨er, e1, e2, e3⟩ | ⟨nr, i, ⟨i0, i1⟩, e1, e2, e3⟩
  · refine ⟨trivial, by omega, by omega, trivial, by omega, fun z => absurd er z, fun _ => ⟨fun z => absurd e1 z, fun _ => ⟨trivial, by omega, ?_⟩⟩⟩
    rcases (show fl = 0 ∨ fl = 1 by omega) with e | e <;> subst e
    · rw [e930, ← e2]; exact hQ
    · rw [e931, ← e3]; exact hQ
  · refine ⟨trivial, by omega, by omega, trivial, by omega, fun _ => ?_, fun z => absurd z nr⟩
    rw [e1]
    refine r_fieldOf_42 (j := i) (v := fd (r * 2 + fl)) h q0 q1 f0 f1 i0 i1 ?_ hQ (c (9 + r)).toNat 0 (-1) (by decide) (by omega) (by rw [if_neg (by omega)])
    rcases (show fl = 0 ∨ fl = 1 by omega) with e | e <;> subst e
    · exact e2
    · exact e3
theorem r_isOpenTo {o m : Int} (h : CtxR K F E c L og fx B r0 a0 b0) (hf : ∀ r, 0 ≤ r → r < 3 → E 87 (3 * f + r) = st r) (hm : E 88 f = m) (g0 : 0 ≤ f) (g1 : f < 4) (o0 : 0 ≤ o) (o1 : o < c 0) (hQ : ∀ v, (opnP c st m o ∧ v = 1) ∨ (¬ opnP c st m o ∧ v = 0) → Q (some (0, v)) (n, K, F, E)) : PC l G 1 mX12_isOpenTo bg [(2, 66), (0, f), (0, o)] (n, K, F, E) Q := by
  have rd := fun k j k0 k1 e => h.rd (k := k) (j := j) k0 k1 e
  obtain ⟨⟨hK, hF⟩, ⟨_, hC⟩, _⟩ := h
  obtain ⟨q1, q2, q3, q4, q5⟩ := op_rng hC o0 o1
  have t0 := rd (12 + o * 6 + 0) (18 + 6 * o + 0) (by omega) (by omega) (by omega)
  have t1 := rd (12 + o * 6 + 1) (18 + 6 * o + 1) (by omega) (by omega) (by omega)
  have t3 := rd (12 + o * 6 + 3) (18 + 6 * o + 3) (by omega) (by omega) (by omega)
  have s1 := hf _ q2.1 q2.2
  have s3 := hf _ q4.1 q4.2
  have beh : ∀ s0, (hasM m o ∧ s0 = 1) ∨ (¬ hasM m o ∧ s0 = 0) → PW l G 1 mX12_isOpenTo bg 15 [(0, (2, 66)), (1, (0, f)), (3, (0, 18 + 6 * o))] [(0, s0)] (n, K, F, E) Q := by
    intro s0 hs0
    refine vX12_isOpenTo_15 66 f (18 + 6 * o) s0 ?_
    simp only [hF.f66_3, hF.f66_41, hK.k66, hK.k68, hK.k87, t0, t1, t3, s1, s3]
    refine ⟨fun z => hQ 0 (Or.inr ⟨fun w => w.1 (by omega), rfl⟩), fun z => ⟨trivial, by omega, trivial, by omega, by omega, by omega, trivial, by omega, fun w => hQ 1 (Or.inl ⟨⟨by omega, Or.inl w⟩, rfl⟩), fun w => ⟨by omega, by omega, fun u => hQ 0 (Or.inr ⟨?_, rfl⟩), fun u => ⟨by omega, by omega, by omega, by omega, fun t => hQ 0 (Or.inr ⟨?_, rfl⟩), fun t => hQ 1 (Or.inl ⟨⟨by omega, Or.inr ⟨u, t⟩⟩, rfl⟩)⟩⟩⟩⟩
    · rintro ⟨_, t | t⟩
      · exact w t
      · exact u t.1
    · rintro ⟨_, t' | t'⟩
      · exact w t'
      · exact t t'.2
  refine vX12_isOpenTo_0 66 f o ?_
  simp only [hF.f66_42, hK.k66, hK.k88, hm]
  refine ⟨by omega, by omega, trivial, trivial, by omega, vX12_is_0 m o ⟨fun z => beh 0 (Or.inr ⟨z, rfl⟩), fun z => beh 1 (Or.inl ⟨z, rfl⟩)⟩⟩
theorem r_taker_4 {m : Int} (h : CtxR K F E c L og fx B r0 a0 b0) (hf : ∀ r, 0 ≤ r → r < 3 → E 87 (3 * f + r) = st r) (hm : E 88 f = m) (ht : ∀ o, 0 ≤ o → o < c 0 → E 92 o = tk o) (g0 : 0 ≤ f) (g1 : f < 4) (k : Nat) : ∀ i b, 0 ≤ i → i + k = c 0 → (b = -1 ∨ (0 ≤ b ∧ b < c 0)) → Q (some (0, chS c st tk og m fx k i b)) (n, K, F, E) → PW l G 2 mX12_taker bg 4 [(0, (2, 66)), (1, (0, f)), (2, (0, b)), (3, (0, i))] [] (n, K, F, E) Q := by
  have h' := h
  have rd := fun k j k0 k1 e => h.rd (k := k) (j := j) k0 k1 e
  obtain ⟨⟨hK, hF⟩, ⟨_, hC⟩, _, ⟨hog, hox⟩, _⟩ := h'
  have c0 := rd 0 6 (by decide) (by decide) (by decide)
  have b0 := hC.1
  induction k with
  | zero =>
    intro i b i0 e hb q
    refine vX12_taker_4 66 f b i ?_
    simp only [hF.f66_3, hK.k66, hK.k68, c0]
    exact ⟨trivial, trivial, by decide, fun _ => q, fun z => absurd (by omega) z⟩
  | succ k ih =>
    intro i b i0 e hb q
    unfold chS at q
    have oi := hog.1 i i0 (by omega)
    have step : ∀ b', (b' = -1 ∨ (0 ≤ b' ∧ b' < c 0)) → b' = (if opnP c st m (og i) ∧ (b = -1 ∨ (fx = false ∧ tk b < tk (og i))) then og i else b) → PW l G 2 mX12_taker bg 4 [(0, (2, 66)), (1, (0, f)), (2, (0, b')), (3, (0, i + 1))] [] (n, K, F, E) Q := fun b' hb' eb => ih (i + 1) b' (by omega) (by omega) hb' (by rw [eb]; exact q)
    have opn : (b = -1 ∨ (fx = false ∧ tk b < tk (og i))) → PC l G 1 mX12_isOpenTo (0, 0) [(2, 66), (0, f), (0, og i)] (n, K, F, E) (fun r μ => PW l G 2 mX12_taker bg 81 [(0, (2, 66)), (1, (0, f)), (2, (0, b)), (3, (0, i)), (4, (0, og i))] (r.toList ++ []) μ Q) := fun so => by
      refine r_isOpenTo h hf hm g0 g1 oi.1 oi.2 fun v hv => ?_
      refine vX12_taker_81 66 f b i (og i) v ⟨fun z => ⟨by omega, step b hb ?_⟩, fun z => ⟨by omega, step (og i) (Or.inr oi) ?_⟩⟩
      · rcases hv with hv | hv
        · omega
        · rw [if_neg (fun t => hv.1 t.1)]
      · rcases hv with hv | hv
        · rw [if_pos ⟨hv.1, so⟩]
        · omega
    refine vX12_taker_4 66 f b i ?_
    rcases hox with ⟨f1, e56⟩ | ⟨f1, e56, e96⟩
    · have eo := hog.2 f1 i
      rw [eo] at opn oi step
      simp only [hF.f66_3, hF.f66_46, hK.k66, hK.k68, hK.k92, c0, e56]
      refine ⟨trivial, trivial, by decide, fun z => absurd z (by omega), fun _ => ⟨fun _ => ⟨fun w => opn (Or.inl w), fun w => ⟨fun z => absurd trivial z, fun _ => ⟨trivial, by omega, by omega, ?_⟩⟩⟩, fun z => absurd trivial z⟩⟩
      rw [ht i oi.1 oi.2, ht b (by omega) (by omega)]
      refine ⟨fun u => ⟨by omega, step b hb ?_⟩, fun u => opn (Or.inr ⟨f1, by omega⟩)⟩
      rw [if_neg (fun t => t.2.elim w (fun s => by omega))]
    · have eo := e96 i i0 (by omega)
      simp only [hF.f66_3, hF.f66_57, hK.k66, hK.k68, hK.k96, c0, e56, eo]
      refine ⟨trivial, trivial, by decide, fun z => absurd z (by omega), fun _ => ⟨fun z => absurd z (by decide), fun _ => ⟨trivial, by omega, fun w => opn (Or.inl w), fun w => ⟨fun _ => ⟨by omega, step b hb ?_⟩, fun z => absurd z (by decide)⟩⟩⟩⟩
      rw [if_neg (fun t => t.2.elim w (fun s => by rw [f1] at s; cases s.1))]
theorem r_taker {m : Int} (h : CtxR K F E c L og fx B r0 a0 b0) (hf : ∀ r, 0 ≤ r → r < 3 → E 87 (3 * f + r) = st r) (hm : E 88 f = m) (ht : ∀ o, 0 ≤ o → o < c 0 → E 92 o = tk o) (g0 : 0 ≤ f) (g1 : f < 4) (hQ : Q (some (0, chS c st tk og m fx (c 0).toNat 0 (-1))) (n, K, F, E)) : PC l G 2 mX12_taker bg [(2, 66), (0, f)] (n, K, F, E) Q := by
  have b0 := h.2.1.2.1
  exact vX12_taker_0 66 f (r_taker_4 h hf hm ht g0 g1 (c 0).toNat 0 (-1) (by decide) (by omega) (Or.inl rfl) hQ)
theorem r_missing {o : Int} (h : CtxR K F E c L og fx B r0 a0 b0) (hs : ∀ r, 0 ≤ r → r < 3 → 0 ≤ st r) (hf : ∀ r, 0 ≤ r → r < 3 → E 87 (3 * f + r) = st r) (g0 : 0 ≤ f) (g1 : f < 4) (o0 : 0 ≤ o) (o1 : o < c 0) (hQ : Q (some (0, toOp c st o)) (n, K, F, E)) : PC l G 1 mX12_missing bg [(2, 66), (0, f), (0, o)] (n, K, F, E) Q := by
  have rd := fun k j k0 k1 e => h.rd (k := k) (j := j) k0 k1 e
  obtain ⟨⟨hK, hF⟩, ⟨_, hC⟩, _⟩ := h
  obtain ⟨q1, q2, q3, q4, q5⟩ := op_rng hC o0 o1
  have t0 := rd (12 + o * 6 + 0) (18 + 6 * o + 0) (by omega) (by omega) (by omega)
  have t1 := rd (12 + o * 6 + 1) (18 + 6 * o + 1) (by omega) (by omega) (by omega)
  have t3 := rd (12 + o * 6 + 3) (18 + 6 * o + 3) (by omega) (by omega) (by omega)
  have s1 := hf _ q2.1 q2.2
  have s3 := hf _ q4.1 q4.2
  have p1 := hs _ q2.1 q2.2
  have p3 := hs _ q4.1 q4.2
  unfold toOp at hQ
  refine vX12_missing_0 66 f o ?_
  simp only [hF.f66_3, hF.f66_41, hK.k66, hK.k68, hK.k87, t0, t1, t3, s1, s3]
  refine ⟨by omega, by omega, trivial, by omega, trivial, by omega, fun z => ⟨by omega, by omega, by omega, by omega, trivial, by omega, fun w => ⟨by omega, by omega, by omega, by omega, fun u => ?_, fun u => ?_⟩, fun w => ?_⟩, fun z => ?_⟩
  · rw [if_neg z, if_neg (by omega), if_neg (by omega)] at hQ; exact hQ
  · rw [if_neg z, if_neg (by omega), if_pos (by omega)] at hQ; exact hQ
  · rw [if_neg z, if_pos (by omega)] at hQ; exact hQ
  · rw [if_pos z] at hQ; exact hQ
theorem r_fieldIn {o r : Int} (h : CtxR K F E c L og fx B r0 a0 b0) (o0 : 0 ≤ o) (o1 : o < c 0) (hQ : Q (some (0, fIn c o r)) (n, K, F, E)) : PC l G 1 mX12_fieldIn bg [(2, 66), (0, o), (0, r)] (n, K, F, E) Q := by
  have rd := fun k j k0 k1 e => h.rd (k := k) (j := j) k0 k1 e
  obtain ⟨⟨hK, hF⟩, ⟨_, hC⟩, _⟩ := h
  obtain ⟨q1, q2, q3, q4, q5⟩ := op_rng hC o0 o1
  have t1 := rd (12 + o * 6 + 1) (18 + 6 * o + 1) (by omega) (by omega) (by omega)
  have t2 := rd (12 + o * 6 + 2) (18 + 6 * o + 2) (by omega) (by omega) (by omega)
  have t4 := rd (12 + o * 6 + 4) (18 + 6 * o + 4) (by omega) (by omega) (by omega)
  unfold fIn at hQ
  refine vX12_fieldIn_0 66 o r ?_
  simp only [hF.f66_3, hK.k66, hK.k68, t1, t2, t4]
  refine ⟨by omega, by omega, trivial, by omega, trivial, by omega, fun z => ⟨by omega, by omega, ?_⟩, fun z => ⟨by omega, by omega, ?_⟩⟩
  · rw [if_neg z] at hQ; exact hQ
  · rw [if_pos z] at hQ; exact hQ
/-- the relation of a join that isn't r -/
def othR (c : Int → Int) (o r : Int) : Int := if c (12 + o * 6 + 1) = r then c (12 + o * 6 + 3) else c (12 + o * 6 + 1)
theorem r_otherThan {o r : Int} (h : CtxR K F E c L og fx B r0 a0 b0) (o0 : 0 ≤ o) (o1 : o < c 0) (hQ : Q (some (0, othR c o r)) (n, K, F, E)) : PC l G 1 mX12_otherThan bg [(2, 66), (0, o), (0, r)] (n, K, F, E) Q := by
  have rd := fun k j k0 k1 e => h.rd (k := k) (j := j) k0 k1 e
  obtain ⟨⟨hK, hF⟩, ⟨_, hC⟩, _⟩ := h
  obtain ⟨q1, q2, q3, q4, q5⟩ := op_rng hC o0 o1
  have t1 := rd (12 + o * 6 + 1) (18 + 6 * o + 1) (by omega) (by omega) (by omega)
  have t3 := rd (12 + o * 6 + 3) (18 + 6 * o + 3) (by omega) (by omega) (by omega)
  unfold othR at hQ
  refine vX12_otherThan_0 66 o r ?_
  simp only [hF.f66_3, hK.k66, hK.k68, t1, t3]
  refine ⟨by omega, by omega, trivial, by omega, trivial, by omega, fun z => ?_, fun z => ⟨by omega, by omega, ?_⟩⟩
  · rw [if_neg z] at hQ; exact hQ
  · rw [if_pos z] at hQ; exact hQ
theorem r_wanted {o r : Int} (h : CtxR K F E c L og fx B r0 a0 b0) (hs : StOk c r0 a0 b0 st fd) (hf : ∀ r, 0 ≤ r → r < 3 → E 87 (3 * f + r) = st r) (g0 : 0 ≤ f) (g1 : f < 4) (o0 : 0 ≤ o) (o1 : o < c 0) (j : c (12 + o * 6 + 0) = 0) (er : r = c (12 + o * 6 + 1) ∨ r = c (12 + o * 6 + 3)) (p : 0 < st (othR c o r)) (hQ : Q (some (0, vTh c fd o r)) (n, K, F, E)) : PC l G 2 mX12_wanted bg [(2, 66), (0, f), (0, o), (0, r)] (n, K, F, E) Q := by
  have hK := h.1.1
  obtain ⟨q1, q2, q3, q4, q5⟩ := op_rng h.2.1.2 o0 o1
  refine vX12_wanted_0 66 f o r ⟨by rw [hK.k66], r_otherThan h o0 o1 ?_⟩
  refine vX12_wanted_6 66 f o _ ⟨by rw [hK.k66], r_fieldIn h o0 o1 ?_⟩
  have orr : 0 ≤ othR c o r ∧ othR c o r < 3 := by unfold othR; split <;> omega
  have frr : 0 ≤ fIn c o (othR c o r) ∧ fIn c o (othR c o r) < 2 := by unfold fIn; split <;> omega
  refine vX12_wanted_19 _ _ f 66 ⟨by rw [hK.k66], r_fieldOf h hs hf g0 g1 orr.1 orr.2 frr.1 frr.2 p ?_⟩
  refine vX12_wanted_22 _ ?_
  have e : fd (othR c o r * 2 + fIn c o (othR c o r)) = vTh c fd o r := by
    unfold vTh othR fIn
    by_cases z : c (12 + o * 6 + 1) = r
    · rw [if_pos z, if_pos z, if_neg (by omega)]
    · rw [if_neg z, if_neg z, if_pos rfl]
  rw [e]
  exact hQ
theorem r_sizeFor_45 {o r fl : Int} (h : CtxR K F E c L og fx B r0 a0 b0) (hs : StOk c r0 a0 b0 st fd) (hf : ∀ r, 0 ≤ r → r < 3 → E 87 (3 * f + r) = st r) (g0 : 0 ≤ f) (g1 : f < 4) (o0 : 0 ≤ o) (o1 : o < c 0) (j : c (12 + o * 6 + 0) = 0) (er : r = c (12 + o * 6 + 1) ∨ r = c (12 + o * 6 + 3)) (q0 : 0 ≤ r) (q1 : r < 3) (p : 0 < st (othR c o r)) (f0 : 0 ≤ fl) (f1 : fl < 2) (vr : 0 ≤ vTh c fd o r ∧ vTh c fd o r < 10) (k : Nat) : ∀ i z, 0 ≤ i → i + k = c (9 + r) → 0 ≤ z → z ≤ i → Q (some (0, lkC c r fl (bkt (vTh c fd o r)) k i z)) (n, K, F, E) → PW l G 3 mX12_sizeFor bg 45 [(0, (2, 66)), (1, (0, f)), (2, (0, o)), (3, (0, r)), (4, (0, fl)), (5, (0, z)), (6, (0, i))] [] (n, K, F, E) Q := by
  have h' := h
  have rd := fun k j k0 k1 e => h.rd (k := k) (j := j) k0 k1 e
  obtain ⟨⟨hK, hF⟩, ⟨_, hC⟩, _⟩ := h'
  have b9 := hC.2.2.2.1 r q0 q1
  have r9 := rd (9 + r) (15 + r) (by omega) (by omega) (by omega)
  have sv := fd_rng vr.1 vr.2
  induction k with
  | zero =>
    intro i z i0 e z0 z1 q
    refine vX12_sizeFor_45 66 f o r fl z i ?_
    simp only [hF.f66_3, hK.k66, hK.k68, r9]
    exact ⟨trivial, by omega, trivial, by omega, fun _ => q, fun w => absurd (by omega) w⟩
  | succ k ih =>
    intro i z i0 e z0 z1 q
    unfold lkC at q
    have rf := rd (36 + (r * 9 + i) * 3 + fl) (42 + 27 * r + 3 * i + fl) (by omega) (by omega) (by omega)
    have cr : 0 ≤ c (36 + (r * 9 + i) * 3 + fl) ∧ c (36 + (r * 9 + i) * 3 + fl) < 10 := by
      have := hC.2.2.2.2.2 r i q0 q1 i0 (by omega)
      rcases (show fl = 0 ∨ fl = 1 by omega) with e | e <;> subst e
      · rw [show 36 + (r * 9 + i) * 3 + 0 = 36 + 27 * r + 3 * i by omega]; exact this.1
      · rw [show 36 + (r * 9 + i) * 3 + 1 = 37 + 27 * r + 3 * i by omega]; exact this.2.1
    have sq := fd_rng cr.1 cr.2
    refine vX12_sizeFor_45 66 f o r fl z i ?_
    simp only [hF.f66_3, hK.k66, hK.k68, r9, rf]
    refine ⟨trivial, by omega, trivial, by omega, fun w => absurd w (by omega), fun _ => ⟨by omega, by omega, by omega, by omega, by omega, by omega, fun a1 e1 => ?_⟩⟩
    rw [e1]
    refine ⟨by omega, by omega, by omega, r_wanted h hs hf g0 g1 o0 o1 j er p ?_⟩
    refine vX12_sizeFor_85 66 f o r fl i _ _ z ⟨by omega, by omega, by omega, fun w => ⟨by omega, by omega, ih (i + 1) (z + 0) (by omega) (by omega) (by omega) (by omega) ?_⟩, fun w => ⟨by omega, by omega, ih (i + 1) (z + 1) (by omega) (by omega) (by omega) (by omega) ?_⟩⟩
    · rw [if_neg (show ¬ bkt _ = bkt _ from w)] at q
      rw [show z + 0 = z by omega]; exact q
    · rw [if_pos (show bkt _ = bkt _ from w)] at q; exact q
theorem r_sizeFor {o m : Int} (h : CtxR K F E c L og fx B r0 a0 b0) (hs : StOk c r0 a0 b0 st fd) (hf : ∀ r, 0 ≤ r → r < 3 → E 87 (3 * f + r) = st r) (g0 : 0 ≤ f) (g1 : f < 4) (o0 : 0 ≤ o) (o1 : o < c 0) (ho : opnP c st m o) (hQ : Q (some (0, szS c st fd o)) (n, K, F, E)) : PC l G 3 mX12_sizeFor bg [(2, 66), (0, f), (0, o), (0, toOp c st o)] (n, K, F, E) Q := by
  have h' := h
  have rd := fun k j k0 k1 e => h.rd (k := k) (j := j) k0 k1 e
  obtain ⟨⟨hK, hF⟩, ⟨_, hC⟩, _, _, _, ⟨_, ha, hb⟩, _⟩ := h'
  have hp := hs.pt hC ha hb
  unfold szS at hQ
  refine vX12_sizeFor_0 66 f o _ ⟨fun z => ⟨by rw [hK.k66], r_fieldIn h o0 o1 ?_⟩, fun z => ?_⟩
  · rw [if_neg z] at hQ
    obtain ⟨t1, t2, t3, t4, t5⟩ := toOp_yes hC o0 o1 (fun r a b => (hp r a b).1) ho z
    have rg := op_rng hC o0 o1
    generalize toOp c st o = r at *
    have b9 := hC.2.2.2.1 r t2.1 t2.2
    have r6 := rd (6 + r) (12 + r) (by omega) (by omega) (by omega)
    have r9 := rd (9 + r) (15 + r) (by omega) (by omega) (by omega)
    have fr : 0 ≤ fIn c o r ∧ fIn c o r < 2 := by unfold fIn; split <;> omega
    obtain ⟨o1', o2'⟩ := t5 (othR c o r) rfl
    have vr : 0 ≤ vTh c fd o r ∧ vTh c fd o r < 10 := by
      unfold vTh
      unfold othR at o1' o2'
      split
      · rename_i w
        rw [if_pos w] at o1' o2'
        exact (hp _ o1'.1 o1'.2).2 o2' _ (by omega) (by omega)
      · rename_i w
        rw [if_neg w] at o1' o2'
        exact (hp _ o1'.1 o1'.2).2 o2' _ (by omega) (by omega)
    unfold lkS at hQ
    refine vX12_sizeFor_13 66 f o r _ ?_
    simp only [hF.f66_3, hK.k66, hK.k68, r6, r9]
    refine ⟨trivial, by omega, trivial, by omega, fun w => ?_, fun w => ⟨by omega, by omega, ?_⟩⟩
    · rw [if_pos w] at hQ
      exact r_sizeFor_45 h hs hf g0 g1 o0 o1 t1 t4 t2.1 t2.2 o2' fr.1 fr.2 vr (c (9 + r)).toNat 0 0 (by decide) (by omega) (by decide) (by decide) hQ
    · rw [if_neg w] at hQ; exact hQ
  · rw [if_pos z] at hQ; exact hQ
theorem r_holds {o : Int} (h : CtxR K F E c L og fx B r0 a0 b0) (hs : StOk c r0 a0 b0 st fd) (hf : ∀ r, 0 ≤ r → r < 3 → E 87 (3 * f + r) = st r) (g0 : 0 ≤ f) (g1 : f < 4) (o0 : 0 ≤ o) (o1 : o < c 0) (p1 : 0 < st (c (12 + o * 6 + 1))) (p3 : c (12 + o * 6 + 0) = 0 → 0 < st (c (12 + o * 6 + 3))) (hQ : ∀ v, (soS c fd o ∧ v = 1) ∨ (¬ soS c fd o ∧ v = 0) → Q (some (0, v)) (n, K, F, E)) : PC l G 2 mX12_holds bg [(2, 66), (0, f), (0, o)] (n, K, F, E) Q := by
  have h' := h
  have rd := fun k j k0 k1 e => h.rd (k := k) (j := j) k0 k1 e
  obtain ⟨⟨hK, hF⟩, ⟨_, hC⟩, _⟩ := h'
  obtain ⟨q1, q2, q3, q4, q5⟩ := op_rng hC o0 o1
  have t0 := rd (12 + o * 6 + 0) (18 + 6 * o + 0) (by omega) (by omega) (by omega)
  have t1 := rd (12 + o * 6 + 1) (18 + 6 * o + 1) (by omega) (by omega) (by omega)
  have t2 := rd (12 + o * 6 + 2) (18 + 6 * o + 2) (by omega) (by omega) (by omega)
  have t3 := rd (12 + o * 6 + 3) (18 + 6 * o + 3) (by omega) (by omega) (by omega)
  have t4 := rd (12 + o * 6 + 4) (18 + 6 * o + 4) (by omega) (by omega) (by omega)
  unfold soS at hQ
  refine vX12_holds_0 66 f o ?_
  simp only [hF.f66_3, hK.k66, hK.k68, t1, t2]
  refine ⟨by omega, by omega, trivial, by omega, trivial, by omega, by omega, by omega, r_fieldOf h hs hf g0 g1 q2.1 q2.2 q3.1 q3.2 p1 ?_⟩
  refine vX12_holds_26 66 f (18 + 6 * o) _ ?_
  simp only [hF.f66_3, hK.k66, hK.k68, t0, t3, t4]
  refine ⟨trivial, by omega, trivial, by omega, fun z => ⟨by omega, by omega, by omega, by omega, fun w => ⟨fun u => ⟨fun t => hQ 0 (Or.inr ⟨?_, rfl⟩), fun t => hQ 1 (Or.inl ⟨?_, rfl⟩)⟩, fun u => ⟨fun t => hQ 0 (Or.inr ⟨?_, rfl⟩), fun t => hQ 1 (Or.inl ⟨?_, rfl⟩)⟩⟩, fun w => ⟨fun t => hQ 0 (Or.inr ⟨?_, rfl⟩), fun t => hQ 1 (Or.inl ⟨?_, rfl⟩)⟩⟩, fun z => ⟨by omega, by omega, by omega, by omega, ?_⟩⟩
  · rw [if_neg z, if_neg w, if_neg u]; omega
  · rw [if_neg z, if_neg w, if_neg u]; omega
  · rw [if_neg z, if_neg w, if_pos u]; exact t
  · rw [if_neg z, if_neg w, if_pos u]; exact t
  · rw [if_neg z, if_pos w]; omega
  · rw [if_neg z, if_pos w]; omega
  · refine r_fieldOf h hs hf g0 g1 q4.1 q4.2 (by omega) (by omega) (p3 z) ?_
    refine vX12_holds_62 _ _ ⟨fun t => hQ 0 (Or.inr ⟨?_, rfl⟩), fun t => hQ 1 (Or.inl ⟨?_, rfl⟩)⟩
    · rw [if_pos z]; exact t
    · rw [if_pos z]; exact t
theorem bit_rng {m o : Int} (m0 : 0 ≤ m) (m1 : m < 16) (o0 : 0 ≤ o) (o1 : o < 4) : 0 ≤ bAnd (bShr m o) 1 ∧ bAnd (bShr m o) 1 ≤ 1 := fin_m (p := fun m o => 0 ≤ bAnd (bShr m o) 1 ∧ bAnd (bShr m o) 1 ≤ 1) (by decide +kernel) m0 m1 o0 o1
theorem r_many {m : Int} (m0 : 0 ≤ m) (m1 : m < 16) (hQ : Q (some (0, manyM m)) (n, K, F, E)) : PC l G 0 mX12_many bg [(0, m)] (n, K, F, E) Q := by
  have b0 := bit_rng m0 m1 (show (0 : Int) ≤ 0 by decide) (by decide)
  have b1 := bit_rng m0 m1 (show (0 : Int) ≤ 1 by decide) (by decide)
  have b2 := bit_rng m0 m1 (show (0 : Int) ≤ 2 by decide) (by decide)
  have b3 := bit_rng m0 m1 (show (0 : Int) ≤ 3 by decide) (by decide)
  refine vX12_many_0 m ?_
  refine vX12_many_4 m _ 0 ⟨fun z => absurd z (by decide), fun _ => ⟨by omega, by decide, ?_⟩⟩
  refine vX12_many_4 m _ (0 + 1) ⟨fun z => absurd z (by decide), fun _ => ⟨by simp only [Int.reduceAdd]; omega, by decide, ?_⟩⟩
  refine vX12_many_4 m _ (0 + 1 + 1) ⟨fun z => absurd z (by decide), fun _ => ⟨by simp only [Int.reduceAdd]; omega, by decide, ?_⟩⟩
  refine vX12_many_4 m _ (0 + 1 + 1 + 1) ⟨fun z => absurd z (by decide), fun _ => ⟨by simp only [Int.reduceAdd]; omega, by decide, ?_⟩⟩
  exact vX12_many_4 m _ (0 + 1 + 1 + 1 + 1) ⟨fun _ => hQ, fun z => absurd (by decide) z⟩
end R
