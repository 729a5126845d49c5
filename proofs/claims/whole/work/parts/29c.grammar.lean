/-! THE GRAMMAR AS RULES: P md d t p fl ok t' p' f: in the mode md, d brackets open, from the token t with p parts before it (behind what comes to fl, in a mode that goes on): whether it can be; the token behind, or the one that can't be; the parts; what it comes to -/
abbrev tG : Type := Int → Int → Int → Int → tPhi → Bool → Int → Int → tPhi → Prop
def tO (k : Int) : Int := if k = 42 then 8 else if k = 47 then 9 else if k = 37 then 10 else 0
def sO (k : Int) : Int := if k = 43 then 6 else if k = 45 then 7 else 0
def cO (k : Int) : Int := if k = 60 then 11 else if k = 62 then 12 else if k = 61 then 13 else 0
def aO (k : Int) : Int := if k = 284 then 1 else 0
def oO (k : Int) : Int := if k = 283 then 1 else 0
/-- a row of things of the mode a -/
def LRules (kd : Int → Int) (P : tG) (a b c : Int) (op : Int → Int) (cmb : Int → tPhi → tPhi → tPhi) : Prop :=
  (∀ d t p t' p' f, P a d t p pZ false t' p' f → P b d t p pZ false t' p' pZ) ∧
  (∀ d t p t' p' f ok t2 p2 g, P a d t p pZ true t' p' f → P c d t' p' f ok t2 p2 g → P b d t p pZ ok t2 p2 g) ∧
  (∀ d t p f, op (kd t) = 0 → P c d t p f true t p f) ∧
  (∀ d t p f t' p' g, op (kd t) ≠ 0 → P a d (t + 1) p pZ false t' p' g → P c d t p f false t' p' pZ) ∧
  (∀ d t p f t' p' g ok t2 p2 h, op (kd t) ≠ 0 → P a d (t + 1) p pZ true t' p' g → P c d t' p' (cmb (op (kd t)) f g) ok t2 p2 h → P c d t p f ok t2 p2 h)
/-- a bracket k1 .. k2 around the mode b, in the mode a -/
def BRules (kd : Int → Int) (P : tG) (a b k1 k2 : Int) : Prop :=
  (∀ d t p, kd t = k1 → 8 ≤ d → P a d t p pZ false t p pZ) ∧
  (∀ d t p t' p' f, kd t = k1 → d < 8 → P b (d + 1) (t + 1) p pZ false t' p' f → P a d t p pZ false t' p' pZ) ∧
  (∀ d t p t' p' f, kd t = k1 → d < 8 → P b (d + 1) (t + 1) p pZ true t' p' f → kd t' ≠ k2 → P a d t p pZ false t' p' pZ) ∧
  (∀ d t p t' p' f, kd t = k1 → d < 8 → P b (d + 1) (t + 1) p pZ true t' p' f → kd t' = k2 → P a d t p pZ true (t' + 1) p' f)
def SRules (lw : Bool) (kd nm : Int → Int) (P : tG) : Prop :=
  (∀ d t p, kd t ≠ 91 → 50 ≤ p → P 0 d t p pZ false t p pZ) ∧
  (∀ d t p t' f, kd t ≠ 91 → p < 50 → sg lw kd nm t = (false, t', f) → P 0 d t p pZ false t' p pZ) ∧
  (∀ d t p t' f, kd t ≠ 91 → p < 50 → sg lw kd nm t = (true, t', f) → P 0 d t p pZ true t' (p + 1) f)
def CRules (kd : Int → Int) (P : tG) : Prop :=
  (∀ d t p t' p' f, P 3 d t p pZ false t' p' f → P 5 d t p pZ false t' p' pZ) ∧
  (∀ d t p t' p' f, P 3 d t p pZ true t' p' f → cO (kd t') = 0 → P 5 d t p pZ false t' p' pZ) ∧
  (∀ d t p t' p' f t2 p2 g, P 3 d t p pZ true t' p' f → cO (kd t') ≠ 0 → P 3 d (t' + 1) p' pZ false t2 p2 g → P 5 d t p pZ false t2 p2 pZ) ∧
  (∀ d t p t' p' f t2 p2 g, P 3 d t p pZ true t' p' f → cO (kd t') ≠ 0 → P 3 d (t' + 1) p' pZ true t2 p2 g → P 5 d t p pZ true t2 p2 (pBin (cO (kd t')) f g))
def NRules (kd : Int → Int) (P : tG) : Prop :=
  (∀ d t p t' p' f, kd t = 285 → P 6 d (t + 1) p pZ false t' p' f → P 6 d t p pZ false t' p' pZ) ∧
  (∀ d t p t' p' f, kd t = 285 → P 6 d (t + 1) p pZ true t' p' f → P 6 d t p pZ true t' p' (pNt f)) ∧
  (∀ d t p ok t' p' f, kd t ≠ 285 → kd t ≠ 40 → P 5 d t p pZ ok t' p' f → P 6 d t p pZ ok t' p' f)
def Rules (lw : Bool) (kd nm : Int → Int) (P : tG) : Prop :=
  BRules kd P 0 3 91 93 ∧ SRules lw kd nm P ∧ LRules kd P 0 1 2 tO pBin ∧ LRules kd P 1 3 4 sO pBin ∧ CRules kd P ∧ BRules kd P 6 9 40 41 ∧ NRules kd P ∧ LRules kd P 6 7 8 aO (fun _ => pAnd) ∧ LRules kd P 7 9 10 oO (fun _ => pOr)
/-- what the rules give -/
def Gr (lw : Bool) (kd nm : Int → Int) : tG := fun md d t p fl ok t' p' f => ∀ P : tG, Rules lw kd nm P → P md d t p fl ok t' p' f
theorem gr_rules {lw : Bool} {kd nm : Int → Int} : Rules lw kd nm (Gr lw kd nm) := by
  have L : ∀ (a b c : Int) (op : Int → Int) (cmb : Int → tPhi → tPhi → tPhi), (∀ P, Rules lw kd nm P → LRules kd P a b c op cmb) → LRules kd (Gr lw kd nm) a b c op cmb := fun a b c op cmb h =>
    ⟨fun d t p t' p' f q P r => (h P r).1 d t p t' p' f (q P r), fun d t p t' p' f ok t2 p2 g q q2 P r => (h P r).2.1 d t p t' p' f ok t2 p2 g (q P r) (q2 P r), fun d t p f e P r => (h P r).2.2.1 d t p f e, fun d t p f t' p' g e q P r => (h P r).2.2.2.1 d t p f t' p' g e (q P r), fun d t p f t' p' g ok t2 p2 h' e q q2 P r => (h P r).2.2.2.2 d t p f t' p' g ok t2 p2 h' e (q P r) (q2 P r)⟩
  have B : ∀ (a b k1 k2 : Int), (∀ P, Rules lw kd nm P → BRules kd P a b k1 k2) → BRules kd (Gr lw kd nm) a b k1 k2 := fun a b k1 k2 h =>
    ⟨fun d t p e1 e2 P r => (h P r).1 d t p e1 e2, fun d t p t' p' f e1 e2 q P r => (h P r).2.1 d t p t' p' f e1 e2 (q P r), fun d t p t' p' f e1 e2 q e3 P r => (h P r).2.2.1 d t p t' p' f e1 e2 (q P r) e3, fun d t p t' p' f e1 e2 q e3 P r => (h P r).2.2.2 d t p t' p' f e1 e2 (q P r) e3⟩
  refine ⟨B _ _ _ _ fun P r => r.1, ?_, L _ _ _ _ _ fun P r => r.2.2.1, L _ _ _ _ _ fun P r => r.2.2.2.1, ?_, B _ _ _ _ fun P r => r.2.2.2.2.2.1, ?_, L _ _ _ _ _ fun P r => r.2.2.2.2.2.2.2.1, L _ _ _ _ _ fun P r => r.2.2.2.2.2.2.2.2⟩
  · exact ⟨fun d t p e1 e2 P r => r.2.1.1 d t p e1 e2, fun d t p t' f e1 e2 e3 P r => r.2.1.2.1 d t p t' f e1 e2 e3, fun d t p t' f e1 e2 e3 P r => r.2.1.2.2 d t p t' f e1 e2 e3⟩
  · exact ⟨fun d t p t' p' f q P r => r.2.2.2.2.1.1 d t p t' p' f (q P r), fun d t p t' p' f q e P r => r.2.2.2.2.1.2.1 d t p t' p' f (q P r) e, fun d t p t' p' f t2 p2 g q e q2 P r => r.2.2.2.2.1.2.2.1 d t p t' p' f t2 p2 g (q P r) e (q2 P r), fun d t p t' p' f t2 p2 g q e q2 P r => r.2.2.2.2.1.2.2.2 d t p t' p' f t2 p2 g (q P r) e (q2 P r)⟩
  · exact ⟨fun d t p t' p' f e q P r => r.2.2.2.2.2.2.1.1 d t p t' p' f e (q P r), fun d t p t' p' f e q P r => r.2.2.2.2.2.2.1.2.1 d t p t' p' f e (q P r), fun d t p ok t' p' f e1 e2 q P r => r.2.2.2.2.2.2.1.2.2 d t p ok t' p' f e1 e2 (q P r)⟩
