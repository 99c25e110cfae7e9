/-! the model's axiom, of every kind -/
theorem c_X4_axiom_bad (l : Launch) (D : va_G) (cI cJ cZ : ClassId) (p : Nat → Nat) (n : Nat) (cnt : Nat) (kn : Bool) (rd : Nat) (md : Int32) (fo : Nat) (ps : Nat) (th : Int32) (Ax : Nat → Int32) (k0 : Int32) (a0 : Int32) (b0 : Int32) (c0 : Int32) (hi : isAx n k0 a0 b0 c0 = false) : MI l yX4_axiom wsX4_axiom { frames := 2, cells := 0, slots := 0, locals := 43 } D (tyL cI cJ cZ) [.ref (p 0), .int k0, .int a0, .int b0, .int c0] [(p 0, .inr (5, [.int (nI n), .ref (p 1), .int (nI cnt), .int (bI (kn)), .ref (p 2), .ref (p 3), .ref (p 4), .ref (p 5), .int (nI rd), .int md, .ref (p 6), .int (nI fo), .ref (p 7), .int (nI ps), .int th, .ref (p 8)])), (p 1, .inl (cI, 320, .inl Ax))] [(p 0, .inr (5, [.int (nI n), .ref (p 1), .int (nI cnt), .int (bI (kn)), .ref (p 2), .ref (p 3), .ref (p 4), .ref (p 5), .int (nI rd), .int md, .ref (p 6), .int (nI fo), .ref (p 7), .int (nI ps), .int (nI 0), .ref (p 8)])), (p 1, .inl (cI, 320, .inl Ax))] (-1) := by
  by_cases h1 : k0 = nI 1
  · subst h1
    exact c_X4_axiom_bad_1 l D cI cJ cZ p n cnt kn rd md fo ps th Ax a0 b0 c0 hi
  by_cases h2 : k0 = nI 2
  · subst h2
    exact c_X4_axiom_bad_2 l D cI cJ cZ p n cnt kn rd md fo ps th Ax a0 b0 c0 hi
  by_cases h3 : k0 = nI 3
  · subst h3
    exact c_X4_axiom_bad_3 l D cI cJ cZ p n cnt kn rd md fo ps th Ax a0 b0 c0 hi
  by_cases h4 : k0 = nI 4
  · subst h4
    exact c_X4_axiom_bad_4 l D cI cJ cZ p n cnt kn rd md fo ps th Ax a0 b0 c0 hi
  by_cases h5 : k0 = nI 5
  · subst h5
    exact c_X4_axiom_bad_5 l D cI cJ cZ p n cnt kn rd md fo ps th Ax a0 b0 c0 hi
  by_cases h6 : k0 = nI 6
  · subst h6
    exact c_X4_axiom_bad_6 l D cI cJ cZ p n cnt kn rd md fo ps th Ax a0 b0 c0 hi
  by_cases h7 : k0 = nI 7
  · subst h7
    exact c_X4_axiom_bad_7 l D cI cJ cZ p n cnt kn rd md fo ps th Ax a0 b0 c0 hi
  refine c_X4_axiom_out l D cI cJ cZ p n cnt kn rd md fo ps th Ax k0 a0 b0 c0 ?_
  have q1 := sw_ne h1 (by decide)
  have q2 := sw_ne h2 (by decide)
  have q3 := sw_ne h3 (by decide)
  have q4 := sw_ne h4 (by decide)
  have q5 := sw_ne h5 (by decide)
  have q6 := sw_ne h6 (by decide)
  have q7 := sw_ne h7 (by decide)
  rw [Int32.lt_iff_toInt_lt, Int32.lt_iff_toInt_lt, nI_toInt (by decide), nI_toInt (by decide)]
  omega

theorem c_X4_axiom_full (l : Launch) (D : va_G) (cI cJ cZ : ClassId) (p : Nat → Nat) (n : Nat) (cnt : Nat) (kn : Bool) (rd : Nat) (md : Int32) (fo : Nat) (ps : Nat) (th : Int32) (Ax : Nat → Int32) (k0 : Int32) (a0 : Int32) (b0 : Int32) (c0 : Int32) (hi : isAx n k0 a0 b0 c0 = true) (hc : cnt = 80) : MI l yX4_axiom wsX4_axiom { frames := 2, cells := 0, slots := 0, locals := 43 } D (tyL cI cJ cZ) [.ref (p 0), .int k0, .int a0, .int b0, .int c0] [(p 0, .inr (5, [.int (nI n), .ref (p 1), .int (nI cnt), .int (bI (kn)), .ref (p 2), .ref (p 3), .ref (p 4), .ref (p 5), .int (nI rd), .int md, .ref (p 6), .int (nI fo), .ref (p 7), .int (nI ps), .int th, .ref (p 8)])), (p 1, .inl (cI, 320, .inl Ax))] [(p 0, .inr (5, [.int (nI n), .ref (p 1), .int (nI cnt), .int (bI (kn)), .ref (p 2), .ref (p 3), .ref (p 4), .ref (p 5), .int (nI rd), .int md, .ref (p 6), .int (nI fo), .ref (p 7), .int (nI ps), .int (nI 0), .ref (p 8)])), (p 1, .inl (cI, 320, .inl Ax))] (-2) := by
  by_cases h1 : k0 = nI 1
  · subst h1
    exact c_X4_axiom_full_1 l D cI cJ cZ p n cnt kn rd md fo ps th Ax a0 b0 c0 hi hc
  by_cases h2 : k0 = nI 2
  · subst h2
    exact c_X4_axiom_full_2 l D cI cJ cZ p n cnt kn rd md fo ps th Ax a0 b0 c0 hi hc
  by_cases h3 : k0 = nI 3
  · subst h3
    exact c_X4_axiom_full_3 l D cI cJ cZ p n cnt kn rd md fo ps th Ax a0 b0 c0 hi hc
  by_cases h4 : k0 = nI 4
  · subst h4
    exact c_X4_axiom_full_4 l D cI cJ cZ p n cnt kn rd md fo ps th Ax a0 b0 c0 hi hc
  by_cases h5 : k0 = nI 5
  · subst h5
    exact c_X4_axiom_full_5 l D cI cJ cZ p n cnt kn rd md fo ps th Ax a0 b0 c0 hi hc
  by_cases h6 : k0 = nI 6
  · subst h6
    exact c_X4_axiom_full_6 l D cI cJ cZ p n cnt kn rd md fo ps th Ax a0 b0 c0 hi hc
  by_cases h7 : k0 = nI 7
  · subst h7
    exact c_X4_axiom_full_7 l D cI cJ cZ p n cnt kn rd md fo ps th Ax a0 b0 c0 hi hc
  rw [isAx_n h1 h2 h3 h4 h5 h6 h7] at hi
  exact absurd hi (by decide)

theorem c_X4_axiom_ok (l : Launch) (D : va_G) (cI cJ cZ : ClassId) (p : Nat → Nat) (n : Nat) (cnt : Nat) (kn : Bool) (rd : Nat) (md : Int32) (fo : Nat) (ps : Nat) (th : Int32) (Ax : Nat → Int32) (k0 : Int32) (a0 : Int32) (b0 : Int32) (c0 : Int32) (hi : isAx n k0 a0 b0 c0 = true) (hc : cnt < 80) : MI l yX4_axiom wsX4_axiom { frames := 2, cells := 0, slots := 0, locals := 43 } D (tyL cI cJ cZ) [.ref (p 0), .int k0, .int a0, .int b0, .int c0] [(p 0, .inr (5, [.int (nI n), .ref (p 1), .int (nI cnt), .int (bI (kn)), .ref (p 2), .ref (p 3), .ref (p 4), .ref (p 5), .int (nI rd), .int md, .ref (p 6), .int (nI fo), .ref (p 7), .int (nI ps), .int th, .ref (p 8)])), (p 1, .inl (cI, 320, .inl Ax))] [(p 0, .inr (5, [.int (nI n), .ref (p 1), .int (nI (cnt + 1)), .int (bI (false)), .ref (p 2), .ref (p 3), .ref (p 4), .ref (p 5), .int (nI rd), .int md, .ref (p 6), .int (nI fo), .ref (p 7), .int (nI ps), .int (nI 0), .ref (p 8)])), (p 1, .inl (cI, 320, .inl (upd (upd (upd (upd Ax (4 * cnt) k0) (4 * cnt + 1) a0) (4 * cnt + 2) b0) (4 * cnt + 3) c0)))] (nI cnt) := by
  by_cases h1 : k0 = nI 1
  · subst h1
    exact c_X4_axiom_ok_1 l D cI cJ cZ p n cnt kn rd md fo ps th Ax a0 b0 c0 hi hc
  by_cases h2 : k0 = nI 2
  · subst h2
    exact c_X4_axiom_ok_2 l D cI cJ cZ p n cnt kn rd md fo ps th Ax a0 b0 c0 hi hc
  by_cases h3 : k0 = nI 3
  · subst h3
    exact c_X4_axiom_ok_3 l D cI cJ cZ p n cnt kn rd md fo ps th Ax a0 b0 c0 hi hc
  by_cases h4 : k0 = nI 4
  · subst h4
    exact c_X4_axiom_ok_4 l D cI cJ cZ p n cnt kn rd md fo ps th Ax a0 b0 c0 hi hc
  by_cases h5 : k0 = nI 5
  · subst h5
    exact c_X4_axiom_ok_5 l D cI cJ cZ p n cnt kn rd md fo ps th Ax a0 b0 c0 hi hc
  by_cases h6 : k0 = nI 6
  · subst h6
    exact c_X4_axiom_ok_6 l D cI cJ cZ p n cnt kn rd md fo ps th Ax a0 b0 c0 hi hc
  by_cases h7 : k0 = nI 7
  · subst h7
    exact c_X4_axiom_ok_7 l D cI cJ cZ p n cnt kn rd md fo ps th Ax a0 b0 c0 hi hc
  rw [isAx_n h1 h2 h3 h4 h5 h6 h7] at hi
  exact absurd hi (by decide)
