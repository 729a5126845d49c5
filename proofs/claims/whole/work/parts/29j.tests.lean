/-! TESTS in the class, at all depths -/
theorem c_tests {l : Launch} {G : pG} {lw : Bool} (k : Nat) : ∀ (dd : Int) (d : Nat), dd + k = 8 → 0 ≤ dd → 20 + 6 * k ≤ d → CT lw l G 9 dd d mX5_readTest := by
  induction k with
  | zero =>
    intro dd d e d0 hd
    exact c_readTest (e := d - 1) (by omega) (by omega) (c_readBoth (e := d - 2) (by omega) (by omega) (c_readPlain (e := d - 3) d0 (by omega) (by omega) (by omega) (c_readCompared (e := d - 4) (by omega) (by omega) (c_sums 0 dd (d - 4) (by omega) d0 (by omega))) (fun z => absurd z (by omega))))
  | succ k ih =>
    intro dd d e d0 hd
    exact c_readTest (e := d - 1) (by omega) (by omega) (c_readBoth (e := d - 2) (by omega) (by omega) (c_readPlain (e := d - 3) d0 (by omega) (by omega) (by omega) (c_readCompared (e := d - 4) (by omega) (by omega) (c_sums (k + 1) dd (d - 4) (by omega) d0 (by omega))) (fun _ => ih (dd + 1) (d - 3) (by omega) (by omega) (by omega))))
