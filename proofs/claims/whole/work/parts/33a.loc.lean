/-! WHAT A TEXT COMES TO looks only at the words that there are -/
section B
variable {lw : Bool} {tp : Int → Int} {len : Int} {T : Nat} {kd nm : Int → Int}
def LcP (lw : Bool) (T : Nat) : tG := fun md _ t _ fl ok t' _ f => 0 ≤ t → t ≤ T → (rst md → Loc fl (nwL lw)) → (t ≤ t' ∧ t' ≤ T) ∧ (ok = true → Loc f (nwL lw))
theorem lp_L {a b cc : Int} {op : Int → Int} {cmb : Int → tPhi → tPhi → tPhi} (hE : TkE tp len T kd nm) (h0 : op 256 = 0) (ha : ¬ rst a) (hc : rst cc) (hl : ∀ o f g, Loc f (nwL lw) → Loc g (nwL lw) → Loc (cmb o f g) (nwL lw)) : LRules kd (LcP lw T) a b cc op cmb := by
  refine ⟨fun d t p t' p' f h t0 t1 _ => ?_, fun d t p t' p' f ok t2 p2 g h h2 t0 t1 _ => ?_, fun d t p f e t0 t1 hf => ?_, fun d t p f t' p' g e h t0 t1 hf => ?_, fun d t p f t' p' g ok t2 p2 h' e h h2 t0 t1 hf => ?_⟩
  · have q := h t0 t1 (fun z => absurd z ha)
    exact ⟨q.1, fun z => by cases z⟩
  · have q := h t0 t1 (fun z => absurd z ha)
    have r := h2 (by omega) q.1.2 (fun _ => q.2 rfl)
    exact ⟨by omega, r.2⟩
  · exact ⟨by omega, fun _ => hf hc⟩
  · have tl := hE.lt t1 (fun z => e (by rw [z]; exact h0))
    have q := h (by omega) (by omega) (fun z => absurd z ha)
    exact ⟨by omega, fun z => by cases z⟩
  · have tl := hE.lt t1 (fun z => e (by rw [z]; exact h0))
    have q := h (by omega) (by omega) (fun z => absurd z ha)
    have r := h2 (by omega) q.1.2 (fun _ => hl _ _ _ (hf hc) (q.2 rfl))
    exact ⟨by omega, r.2⟩
theorem lp_B {a b k1 k2 : Int} (hE : TkE tp len T kd nm) (h1 : k1 ≠ 256) (h2 : k2 ≠ 256) (hb : ¬ rst b) : BRules kd (LcP lw T) a b k1 k2 := by
  refine ⟨fun d t p e _ t0 t1 _ => ⟨by omega, fun z => by cases z⟩, fun d t p t' p' f e _ h t0 t1 _ => ?_, fun d t p t' p' f e _ h _ t0 t1 _ => ?_, fun d t p t' p' f e _ h k t0 t1 _ => ?_⟩
  · have tl := hE.lt t1 (by rw [e]; exact h1)
    have q := h (by omega) (by omega) (fun z => absurd z hb)
    exact ⟨by omega, fun z => by cases z⟩
  · have tl := hE.lt t1 (by rw [e]; exact h1)
    have q := h (by omega) (by omega) (fun z => absurd z hb)
    exact ⟨by omega, fun z => by cases z⟩
  · have tl := hE.lt t1 (by rw [e]; exact h1)
    have q := h (by omega) (by omega) (fun z => absurd z hb)
    have tl2 := hE.lt q.1.2 (by rw [k]; exact h2)
    exact ⟨by omega, fun _ => q.2 rfl⟩
theorem sg_loc {t : Int} (hE : TkE tp len T kd nm) (t0 : 0 ≤ t) (t1 : t ≤ T) : (sg lw kd nm t).1 = true → Loc (sg lw kd nm t).2.2 (nwL lw) := by
  have q : kd t ≠ 256 → t < T := hE.lt t1
  have hn : ∀ s : Int, 0 ≤ s → s < T → 0 ≤ nm s ∧ nm s ≤ 1001 := fun s s0 s1 => by rw [hE.nme s0 s1]; exact tkNum_rng
  unfold sg
  by_cases k1 : kd t = 257
  · rw [if_pos k1]
    by_cases k2 : nm t ≤ 1000
    · rw [if_pos k2]; exact fun _ => Loc.num
    · rw [if_neg k2]; exact fun w => absurd (show false = true from w) (by decide)
  · rw [if_neg k1]
    cases lw with
    | true =>
      rw [if_pos rfl]
      by_cases k2 : 259 ≤ kd t ∧ kd t ≤ 267
      · rw [if_pos k2]; exact fun _ => Loc.word (by omega) (by rw [nwL, if_pos rfl]; omega)
      · rw [if_neg k2]; exact fun w => absurd (show false = true from w) (by decide)
    | false =>
      rw [if_neg (by decide)]
      have n9 : nwL false = 12 := by rw [nwL, if_neg (by decide)]
      rw [n9]
      by_cases k2 : kd t = 272
      · rw [if_pos k2]
        have q1 := q (by omega)
        by_cases k3 : kd (t + 1) = 257 ∧ nm (t + 1) ≤ 2
        · have q2 := hE.lt (t := t + 1) (by omega) (by omega)
          have n1 := hn (t + 1) (by omega) q2
          rw [if_pos k3]; exact fun _ => Loc.word (by omega) (by omega)
        · rw [if_neg k3]; exact fun w => absurd (show false = true from w) (by decide)
      · rw [if_neg k2]
        by_cases k3 : kd t = 259
        · rw [if_pos k3]
          have q1 := q (by omega)
          by_cases k4 : kd (t + 1) = 257 ∧ nm (t + 1) ≤ 3
          · have q2 := hE.lt (t := t + 1) (by omega) (by omega)
            have n1 := hn (t + 1) (by omega) q2
            rw [if_pos k4]; exact fun _ => Loc.word (by omega) (by omega)
          · rw [if_neg k4]; exact fun w => absurd (show false = true from w) (by decide)
        · rw [if_neg k3]
          by_cases k4 : 267 ≤ kd t ∧ kd t < 272
          · rw [if_pos k4]; exact fun _ => Loc.word (by omega) (by omega)
          · rw [if_neg k4]; exact fun w => absurd (show false = true from w) (by decide)
theorem lp_all (hE : TkE tp len T kd nm) : Rules lw kd nm (LcP lw T) := by
  have r0 : ∀ md, (md = 0 ∨ md = 1 ∨ md = 3 ∨ md = 5 ∨ md = 6 ∨ md = 7 ∨ md = 9) → ¬ rst md := fun md h => by unfold rst; omega
  refine ⟨lp_B hE (by decide) (by decide) (r0 3 (by decide)), ?_, lp_L hE (by decide) (r0 0 (by decide)) (by unfold rst; decide) (fun _ _ _ => Loc.bin), lp_L hE (by decide) (r0 1 (by decide)) (by unfold rst; decide) (fun _ _ _ => Loc.bin), ?_, lp_B hE (by decide) (by decide) (r0 9 (by decide)), ?_, lp_L hE (by decide) (r0 6 (by decide)) (by unfold rst; decide) (fun _ _ _ => Loc.and), lp_L hE (by decide) (r0 7 (by decide)) (by unfold rst; decide) (fun _ _ _ => Loc.or)⟩
  · refine ⟨fun d t p _ _ t0 t1 _ => ⟨by omega, fun z => by cases z⟩, fun d t p t' f _ _ e t0 t1 _ => ?_, fun d t p t' f _ _ e t0 t1 _ => ?_⟩
    · have q := (sg_ok (lw := lw) hE t0 t1).1
      rw [e] at q
      exact ⟨q rfl, fun z => by cases z⟩
    · have q := (sg_ok (lw := lw) hE t0 t1).2
      have r := sg_loc (lw := lw) hE t0 t1
      rw [e] at q r
      exact ⟨(q rfl).1, fun _ => r rfl⟩
  · have n3 := r0 3 (by decide)
    refine ⟨fun d t p t' p' f h t0 t1 _ => ?_, fun d t p t' p' f h _ t0 t1 _ => ?_, fun d t p t' p' f t2 p2 g h k h2 t0 t1 _ => ?_, fun d t p t' p' f t2 p2 g h k h2 t0 t1 _ => ?_⟩
    · exact ⟨(h t0 t1 (fun z => absurd z n3)).1, fun z => by cases z⟩
    · exact ⟨(h t0 t1 (fun z => absurd z n3)).1, fun z => by cases z⟩
    · have q := h t0 t1 (fun z => absurd z n3)
      have tl := hE.lt q.1.2 (fun z => k (by rw [z]; decide))
      have r := h2 (by omega) (by omega) (fun z => absurd z n3)
      exact ⟨by omega, fun z => by cases z⟩
    · have q := h t0 t1 (fun z => absurd z n3)
      have tl := hE.lt q.1.2 (fun z => k (by rw [z]; decide))
      have r := h2 (by omega) (by omega) (fun z => absurd z n3)
      exact ⟨by omega, fun _ => Loc.bin (q.2 rfl) (r.2 rfl)⟩
  · have n6 := r0 6 (by decide)
    have n5 := r0 5 (by decide)
    refine ⟨fun d t p t' p' f k h t0 t1 _ => ?_, fun d t p t' p' f k h t0 t1 _ => ?_, fun d t p ok t' p' f _ _ h t0 t1 _ => ?_⟩
    · have tl := hE.lt t1 (by omega)
      have q := h (by omega) (by omega) (fun z => absurd z n6)
      exact ⟨by omega, fun z => by cases z⟩
    · have tl := hE.lt t1 (by omega)
      have q := h (by omega) (by omega) (fun z => absurd z n6)
      exact ⟨by omega, fun _ => Loc.nt (q.2 rfl)⟩
    · exact h t0 t1 (fun z => absurd z n5)
theorem gr_loc {md d t p t' p' : Int} {ok : Bool} {f : tPhi} (hE : TkE tp len T kd nm) (hm : md = 3 ∨ md = 9) (h : Gr lw kd nm md d t p pZ ok t' p' f) (t0 : 0 ≤ t) (t1 : t ≤ T) : (t ≤ t' ∧ t' ≤ T) ∧ (ok = true → Loc f (nwL lw)) := h _ (lp_all hE) t0 t1 (fun z => absurd z (by unfold rst; omega))
/-- what a clause is -/
def KOk (lw : Bool) (x : tKl) : Prop := (0 ≤ x.1 ∧ x.1 ≤ laL lw) ∧ (1 ≤ x.2.1 ∧ x.2.1 ≤ 20) ∧ (∀ f, x.2.2.1 = some f → Loc f (nwL lw)) ∧ ∀ i, 0 ≤ i → i < nSm lw x.1 → Loc (x.2.2.2 i) (nwL lw)
theorem mg_loc {fs : Int → tPhi} (hE : TkE tp len T kd nm) (L : List (Int × Int)) : ∀ {t p t' p' : Int}, (∀ x ∈ L, x.1 = 1 → x.2 ≠ 256) → MG lw kd nm L t p true t' p' fs → 0 ≤ t → t ≤ T → (t ≤ t' ∧ t' ≤ T) ∧ ∀ i, (0, i) ∈ L → Loc (fs i) (nwL lw) := by
  induction L with
  | nil =>
    intro t p t' p' _ h t0 t1
    obtain ⟨_, h2, _⟩ := h
    exact ⟨by omega, fun i q => by cases q⟩
  | cons x L ih =>
    intro t p t' p' hx h t0 t1
    have hx' : ∀ y ∈ L, y.1 = 1 → y.2 ≠ 256 := fun y hy => hx y (List.mem_cons_of_mem _ hy)
    rcases h with ⟨x0, h⟩ | ⟨x1, h⟩
    · rcases h with ⟨q, _⟩ | ⟨u, p1, g, h⟩
      · cases q
      · have a := gr_loc hE (Or.inl rfl) g t0 t1
        have b := ih hx' h (by omega) a.1.2
        refine ⟨by omega, fun i hi => ?_⟩
        rcases List.mem_cons.mp hi with e | e
        · rw [← e] at a; exact a.2 rfl
        · exact b.2 i e
    · rcases h with ⟨_, q, _⟩ | ⟨k, h⟩
      · cases q
      · have tl := hE.lt t1 (by rw [k]; exact hx x (List.mem_cons_self) x1)
        have b := ih hx' h (by omega) (by omega)
        refine ⟨by omega, fun i hi => ?_⟩
        rcases List.mem_cons.mp hi with e | e
        · rw [← e] at x1; exact absurd (show (0 : Int) = 1 from x1) (by decide)
        · exact b.2 i e
theorem mv_ok {k : Int} (k0 : 0 ≤ k) (k1 : k ≤ laL lw) : (∀ x ∈ mvL lw k, x.1 = 1 → x.2 ≠ 256) ∧ ∀ i, 0 ≤ i → i < nSm lw k → (0, i) ∈ mvL lw k := by
  cases lw with
  | true =>
    rw [lal_t] at k1
    have e : k = 0 ∨ k = 1 := by omega
    rcases e with e | e <;> subst e
    · refine ⟨by decide, fun i i0 i1 => ?_⟩
      have : nSm true 0 = 1 := by decide
      rw [show i = 0 by omega]; decide
    · refine ⟨by decide, fun i i0 i1 => ?_⟩
      have : nSm true 1 = 0 := by decide
      omega
  | false =>
    rw [lal_f] at k1
    have e : k = 0 ∨ k = 1 ∨ k = 2 ∨ k = 3 := by omega
    rcases e with e | e | e | e <;> subst e
    · refine ⟨by decide, fun i i0 i1 => ?_⟩
      have : nSm false 0 = 3 := by decide
      have : i = 0 ∨ i = 1 ∨ i = 2 := by omega
      rcases this with e | e | e <;> subst e <;> decide
    · refine ⟨by decide, fun i i0 i1 => ?_⟩
      have : nSm false 1 = 1 := by decide
      rw [show i = 0 by omega]; decide
    · refine ⟨by decide, fun i i0 i1 => ?_⟩
      have : nSm false 2 = 2 := by decide
      have : i = 0 ∨ i = 1 := by omega
      rcases this with e | e <;> subst e <;> decide
    · refine ⟨by decide, fun i i0 i1 => ?_⟩
      have : nSm false 3 = 2 := by decide
      have : i = 0 ∨ i = 1 := by omega
      rcases this with e | e <;> subst e <;> decide
theorem clg_ok {t p t' p' : Int} {x : tKl} (hE : TkE tp len T kd nm) (h : ClG lw kd nm t p true t' p' x) (t0 : 0 ≤ t) (t1 : t ≤ T) : (t ≤ t' ∧ t' ≤ T) ∧ KOk lw x := by
  rcases h with ⟨_, q, _⟩ | ⟨hk, xk, h⟩
  · cases q
  rcases h with ⟨q, _⟩ | ⟨u, p1, m, h⟩
  · cases q
  have tl := hE.lt t1 (fun z => by
    rw [z] at hk
    cases lw with
    | true => rw [hdl_t] at hk; omega
    | false => rw [hdl_f] at hk; omega)
  have mo := mv_ok (lw := lw) hk.1 hk.2
  have a := mg_loc hE _ mo.1 m (by omega) (by omega)
  rcases h with ⟨q, _⟩ | ⟨t2, tm, h⟩
  · cases q
  have b : (u ≤ t2 ∧ t2 ≤ T) ∧ (1 ≤ x.2.1 ∧ x.2.1 ≤ 20) := by
    rcases tm with ⟨_, _, q1, q2⟩ | ⟨_, k1, ⟨_, q1, q2, q3, q4⟩ | ⟨q, _⟩⟩
    · omega
    · have s1 := hE.lt a.1.2 (by omega)
      have s2 := hE.lt (t := u + 1) (by omega) (by omega)
      omega
    · cases q
  have c : (t2 ≤ t' ∧ t' ≤ T) ∧ ∀ f, x.2.2.1 = some f → Loc f (nwL lw) := by
    rcases h with ⟨_, _, q1, _, q2⟩ | ⟨k1, ⟨q, _⟩ | ⟨_, f, g, e⟩⟩
    · exact ⟨by omega, fun f e => by rw [q2] at e; cases e⟩
    · cases q
    · have s1 := hE.lt b.1.2 (by omega)
      have r := gr_loc hE (Or.inr rfl) g (by omega) (by omega)
      refine ⟨by omega, fun f' e' => ?_⟩
      rw [e] at e'
      injection e' with e'
      rw [← e']
      exact r.2 rfl
  refine ⟨by omega, by rw [xk]; exact hk, b.2, c.2, fun i i0 i1 => a.2 i ?_⟩
  rw [xk] at i1
  exact mo.2 i i0 i1
theorem txg_ok {C : Nat → tKl} {N : Nat} (hE : TkE tp len T kd nm) (k : Nat) : ∀ (c : Nat) {t p t' : Int}, TxG lw kd nm k c t p true t' C N → 0 ≤ t → t ≤ T → c < N ∧ ∀ c', c ≤ c' → c' < N → KOk lw (C c') := by
  induction k with
  | zero => intro c t p t' h; cases h.1
  | succ k ih =>
    intro c t p t' h t0 t1
    rcases h with ⟨q, _⟩ | ⟨u, p1, cl, h⟩
    · cases q
    have a := clg_ok hE cl t0 t1
    rcases h with ⟨_, _, _, e⟩ | ⟨_, _, q, _⟩ | ⟨k1, h⟩
    · refine ⟨by omega, fun c' h1 h2 => ?_⟩
      rw [show c' = c by omega]
      exact a.2
    · cases q
    · have s1 := hE.lt a.1.2 (by omega)
      have b := ih (c + 1) h (by omega) (by omega)
      refine ⟨by omega, fun c' h1 h2 => ?_⟩
      by_cases e : c' = c
      · rw [e]; exact a.2
      · exact b.2 c' (by omega) h2
end B
