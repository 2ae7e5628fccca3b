section RE
variable {P : XP} {S : XS} {c : Nat → Int32} {sz : Nat} {fu : Nat}
def RdW (c : Nat → Int32) (sz n : Nat) : Prop := 2 ≤ n ∧ n ≤ 4 ∧ sz = 4 * n + 3 ∧ (∀ j, j < n → pOK c j) ∧ c (4 * n - 1) = 59 ∧ (48 ≤ c (4 * n) ∧ c (4 * n) ≤ 54) ∧ ¬ f_X3_fitsSecondDigit (c (4 * n)) (c (4 * n + 1)) 54 = 0 ∧ (49 ≤ c (4 * n + 2) ∧ c (4 * n + 2) ≤ 52)
def RdR (c : Nat → Int32) (sz : Nat) (T : MS) (r : Nat) (T2 : MS) : Prop := r ≤ sz ∧ (∀ j, j ≠ 20 → j ≠ 21 → mI T2 j = mI T j) ∧ (∀ j, mA T2 j = mA T j) ∧ ((mI T2 20 = 0 ∧ ∀ e, sz = e + 4 → c e = 59 → r ≠ sz) ∨ (mI T2 20 = 1 ∧ r = sz ∧ ∃ n, mI T2 21 = nI n ∧ RdW c sz n))
theorem rd_stop {T : MS} {r : Nat} {v : Int32} (h20 : mI T 20 = 0) (hr : r ≤ sz) (he : ∀ e, sz = e + 4 → c e = 59 → r ≠ sz) : RdR c sz T r (msI T 21 v) := ⟨hr, fun j _ h2 => by rw [mI_msI, if_neg h2], fun j => rfl, Or.inl ⟨by rw [mI_msI, if_neg (by decide)]; exact h20, he⟩⟩
theorem rd_stop0 {T : MS} {r : Nat} (h20 : mI T 20 = 0) (hr : r ≤ sz) (he : ∀ e, sz = e + 4 → c e = 59 → r ≠ sz) : RdR c sz T r T := ⟨hr, fun j _ h2 => rfl, fun j => rfl, Or.inl ⟨h20, he⟩⟩
theorem rt_3 {a b : Nat} (h : nI a = nI b) (ha : a < 1000) (hb : b < 1000) : a = b := (nI_eq (by omega) (by omega)).mp h
theorem rd_rest {T T0 : MS} (hp : Pg P S T c sz) {n m : Nat} (hm : 1 ≤ m) (hm3 : m ≤ 3) (h20 : mI T 20 = 0) (h21 : mI T 21 = nI (m + 1)) (hf : ∀ j, j ≠ 20 → j ≠ 21 → mI T j = mI T0 j) (hfa : ∀ j, mA T j = mA T0 j) (hj : ∀ j, j < m + 1 → pOK c j) (h59 : c (4 * m + 3) = 59) (hlt : 4 * m + 3 < sz) : ∃ r T2, f_X10_readRest T (nI (4 * m + 4)) = some (nI r, T2) ∧ f_X3_faultPlace_L4 fu P (n + 5) (nI (4 * m + 3)) (nI (4 * m + 4)) S = some (nI r) ∧ RdR c sz T0 r T2 := by
  obtain ⟨p1, p2, p3, p4, p5, p6⟩ := hp
  have hp : Pg P S T c sz := ⟨p1, p2, p3, p4, p5, p6⟩
  have pm := pOK59 (hj m (by omega))
  have s0 : ∀ r, r ≤ sz → (∀ e, sz = e + 4 → c e = 59 → r ≠ sz) → RdR c sz T0 r T := fun r a b => ⟨a, hf, hfa, Or.inl ⟨h20, b⟩⟩
  have n1 : nI (4 * m + 4) + 2 = nI (4 * m + 6) := nI_add (4 * m + 4) 2
  have n2 : nI (4 * m + 6) + 1 = nI (4 * m + 7) := nI_1 (4 * m + 6)
  unfold f_X10_readRest
  rw [rt_eq p3 p1 p5 (k := 4 * m + 4) (by omega) (M := 60) (hi := 54) (Or.inr ⟨rfl, rfl⟩), Option.bind_some, n1]
  by_cases q1 : 4 * m + 4 < sz
  · rw [xe_1 hp (e := 4 * m + 3) (by omega) q1]
    by_cases q2 : 48 ≤ c (4 * m + 4) ∧ c (4 * m + 4) ≤ 54
    · rw [if_pos (show 4 * m + 4 < sz ∧ 48 ≤ c (4 * m + 4) ∧ c (4 * m + 4) ≤ 54 from ⟨q1, q2⟩), if_pos (show 48 ≤ c (4 * m + 3 + 1) ∧ c (4 * m + 3 + 1) ≤ 54 from q2)]
      by_cases q3 : 4 * m + 5 < sz
      · rw [xe_2 hp (e := 4 * m + 3) (by omega) q3]
        by_cases q4 : f_X3_fitsSecondDigit (c (4 * m + 4)) (c (4 * m + 5)) 54 = 0
        · rw [if_neg (show ¬ (4 * m + 4 + 1 < sz ∧ ¬ f_X3_fitsSecondDigit (c (4 * m + 4)) (c (4 * m + 4 + 1)) 54 = 0) from fun z => z.2 q4), if_neg (nI_dec (by omega) (by omega) (by omega)), if_pos (show f_X3_fitsSecondDigit (c (4 * m + 3 + 1)) (c (4 * m + 3 + 2)) 54 = 0 from q4)]
          exact ⟨4 * m + 5, T, rfl, rfl, s0 _ (by omega) (fun e _ _ => by omega)⟩
        · rw [if_pos (show 4 * m + 4 + 1 < sz ∧ ¬ f_X3_fitsSecondDigit (c (4 * m + 4)) (c (4 * m + 4 + 1)) 54 = 0 from ⟨q3, q4⟩), if_pos rfl, if_neg (show ¬ f_X3_fitsSecondDigit (c (4 * m + 3 + 1)) (c (4 * m + 3 + 2)) 54 = 0 from q4)]
          by_cases q5 : 4 * m + 6 < sz
          · rw [show 4 * m + 4 + 2 = 4 * m + 6 from rfl, fig_in p3 p1 p5 q5, Option.bind_some, Option.bind_some, xe_3 hp (e := 4 * m + 3) (by omega) q5, n2, p3]
            by_cases q6 : 49 ≤ c (4 * m + 6) ∧ c (4 * m + 6) ≤ 52
            · rw [if_pos (show 49 ≤ c (4 * m + 3 + 3) ∧ c (4 * m + 3 + 3) ≤ 52 from q6), if_pos (show 48 ≤ c (4 * m + 6) ∧ c (4 * m + 6) ≤ 57 by grind), if_neg (by grind), if_pos (show c (4 * m + 6) - 48 ≤ 4 by grind)]
              by_cases q7 : 4 * m + 7 < sz
              · rw [if_neg (nI_dec (by omega) (by omega) (by omega)), xe_4 hp (e := 4 * m + 3) (by omega) q7]
                exact ⟨4 * m + 7, msI T 20 0, rfl, rfl, by omega, fun j a b => by rw [mI_msI, if_neg a]; exact hf j a b, hfa, Or.inl ⟨rfl, fun e _ _ => by omega⟩⟩
              · have e7 : sz = 4 * m + 7 := by omega
                rw [e7, if_pos rfl, xf_out hp (p := 4 * m + 3 + 4) (by omega) (by omega)]
                refine ⟨4 * m + 7, msI T 20 1, rfl, by rw [e7], by omega, fun j a b => by rw [mI_msI, if_neg a]; exact hf j a b, hfa, Or.inr ⟨rfl, rfl, m + 1, h21, by omega, by omega, by omega, hj, ?_, ?_, ?_, ?_⟩⟩
                · exact h59
                · exact q2
                · exact q4
                · exact q6
            · rw [if_neg (show ¬ (49 ≤ c (4 * m + 3 + 3) ∧ c (4 * m + 3 + 3) ≤ 52) from q6)]
              have : ∀ x : Option (Int32 × MS), (if (if 48 ≤ c (4 * m + 6) ∧ c (4 * m + 6) ≤ 57 then c (4 * m + 6) - 48 else -1) < 1 then some (nI (4 * m + 6), T) else if (if 48 ≤ c (4 * m + 6) ∧ c (4 * m + 6) ≤ 57 then c (4 * m + 6) - 48 else -1) ≤ 4 then x else some (nI (4 * m + 6), T)) = some (nI (4 * m + 6), T) := by
                intro x
                by_cases z : 48 ≤ c (4 * m + 6) ∧ c (4 * m + 6) ≤ 57
                · rw [if_pos z]
                  by_cases z2 : c (4 * m + 6) - 48 < 1
                  · rw [if_pos z2]
                  · rw [if_neg z2, if_neg (by grind)]
                · rw [if_neg z, if_pos (by decide)]
              rw [this]
              exact ⟨4 * m + 6, T, rfl, rfl, s0 _ (by omega) (fun e _ _ => by omega)⟩
          · have e7 : sz = 4 * m + 6 := by omega
            rw [show 4 * m + 4 + 2 = 4 * m + 6 from rfl, fig_out p3 p1 (by omega) (by omega), Option.bind_some, if_pos (by decide), xf_out hp (p := 4 * m + 3 + 3) (by omega) (by omega), e7]
            exact ⟨4 * m + 6, T, rfl, rfl, by rw [← e7]; exact s0 _ (by omega) (fun e a b => absurd b (by rw [show e = 4 * m + 2 by omega]; exact pm.2.2))⟩
      · have e7 : sz = 4 * m + 5 := by omega
        rw [if_neg (show ¬ (4 * m + 4 + 1 < sz ∧ ¬ f_X3_fitsSecondDigit (c (4 * m + 4)) (c (4 * m + 4 + 1)) 54 = 0) from fun z => q3 z.1), if_neg (nI_dec (by omega) (by omega) (by omega)), xf_out hp (p := 4 * m + 3 + 2) (by omega) (by omega), e7]
        exact ⟨4 * m + 5, T, rfl, rfl, by rw [← e7]; exact s0 _ (by omega) (fun e a b => absurd b (by rw [show e = 4 * m + 1 by omega]; exact pm.2.1))⟩
    · rw [if_neg (show ¬ (4 * m + 4 < sz ∧ 48 ≤ c (4 * m + 4) ∧ c (4 * m + 4) ≤ 54) from fun z => q2 z.2), if_neg (show ¬ (48 ≤ c (4 * m + 3 + 1) ∧ c (4 * m + 3 + 1) ≤ 54) from q2), if_neg (nI_dec (by omega) (by omega) (by omega))]
      exact ⟨4 * m + 4, T, rfl, rfl, s0 _ (by omega) (fun e _ _ => by omega)⟩
  · have e7 : sz = 4 * m + 4 := by omega
    rw [if_neg (show ¬ (4 * m + 4 < sz ∧ 48 ≤ c (4 * m + 4) ∧ c (4 * m + 4) ≤ 54) from fun z => q1 z.1), if_neg (nI_dec (by omega) (by omega) (by omega)), xf_out hp (p := 4 * m + 4) (by omega) (by omega), e7]
    exact ⟨4 * m + 4, T, rfl, rfl, by rw [← e7]; exact s0 _ (by omega) (fun e a b => absurd b (by rw [show e = 4 * m by omega]; exact pm.1))⟩
theorem rd_loop : ∀ (d m nM nX : Nat) (T : MS), m + d = 3 → Pg P S T c sz → mI T 21 = nI m → mI T 20 = 0 → (∀ j, j < m → pOK c j ∧ c (4 * j + 3) = 44) → 4 * m ≤ sz → ∃ r T2, f_X10_read_L12 fu (nM + d + 1) (nI (4 * m)) T = some (nI r, T2) ∧ f_X3_faultPlace_L4 fu P (nX + 4 * d + 10) (-1) (nI (4 * m)) S = some (nI r) ∧ RdR c sz T r T2 := by
  intro d
  induction d with
  | zero =>
    intro m nM nX T hmd hp h21 h20 hj hle
    obtain ⟨p1, p2, p3, p4, p5, p6⟩ := hp
    have hp : Pg P S T c sz := ⟨p1, p2, p3, p4, p5, p6⟩
    have n1 : nI (4 * m) + 1 = nI (4 * m + 1) := nI_1 (4 * m)
    have n3 : nI (4 * m) + 3 = nI (4 * m + 3) := nI_add (4 * m) 3
    have n4 : nI (4 * m + 3) + 1 = nI (4 * m + 4) := nI_1 (4 * m + 3)
    have nm : nI m + 1 = nI (m + 1) := nI_1 m
    have a4 : ¬ (4 : Int32) ≤ nI m := nI_ge (b := 4) (by omega) (by omega)
    have kb : ∀ x, f_X10_kindBy x = f_X3_kindOf x := fun x => rfl
    have pj : ∀ e, e < 4 * m → c e = 59 → False := by
      intro e he hc
      have g := hj (e / 4) (by omega)
      have g2 := pOK59 g.1
      have : e = 4 * (e / 4) ∨ e = 4 * (e / 4) + 1 ∨ e = 4 * (e / 4) + 2 ∨ e = 4 * (e / 4) + 3 := by omega
      rcases this with z | z | z | z
      · exact g2.1 (by rw [← z]; exact hc)
      · exact g2.2.1 (by rw [← z]; exact hc)
      · exact g2.2.2 (by rw [← z]; exact hc)
      · have := g.2
        rw [← z, hc] at this
        exact absurd this (by decide)
    rw [f_X10_read_L12, h21, p3, if_neg a4]
    by_cases b0 : 4 * m < sz
    · have hin : vp_in (nI (4 * m)) 21 := vp_in_nI (by omega) (by decide)
      rw [if_neg (nI_dec (by omega) (by omega) (by omega)), gd_in hin, nI_clamp (by omega), p5, kb, xf_0 hp (by omega) b0]
      by_cases b1 : f_X3_kindOf (c (4 * m)) = -1
      · rw [if_pos b1, if_pos b1]
        exact ⟨4 * m, T, rfl, rfl, rd_stop0 h20 (by omega) (fun e _ _ => by omega)⟩
      · rw [if_neg b1, if_neg b1, n1, n3, nm, rt_eq p3 p1 p5 (k := 4 * m + 1) (by omega) (M := 40) (hi := 52) (Or.inl ⟨rfl, rfl⟩), Option.bind_some]
        by_cases b2 : 4 * m + 1 < sz
        · rw [xf_1 hp (by omega) b2]
          by_cases b3 : 48 ≤ c (4 * m + 1) ∧ c (4 * m + 1) ≤ 52
          · rw [if_pos (show 4 * m + 1 < sz ∧ 48 ≤ c (4 * m + 1) ∧ c (4 * m + 1) ≤ 52 from ⟨b2, b3⟩), if_pos b3]
            by_cases b4 : 4 * m + 2 < sz
            · rw [xf_2 hp (by omega) b4]
              by_cases b5 : f_X3_fitsSecondDigit (c (4 * m + 1)) (c (4 * m + 2)) 52 = 0
              · rw [if_neg (show ¬ (4 * m + 1 + 1 < sz ∧ ¬ f_X3_fitsSecondDigit (c (4 * m + 1)) (c (4 * m + 1 + 1)) 52 = 0) from fun z => z.2 b5), if_pos b5, if_neg (nI_dec (by omega) (by omega) (by omega))]
                exact ⟨4 * m + 2, T, rfl, rfl, rd_stop0 h20 (by omega) (fun e _ _ => by omega)⟩
              · rw [if_pos (show 4 * m + 1 + 1 < sz ∧ ¬ f_X3_fitsSecondDigit (c (4 * m + 1)) (c (4 * m + 1 + 1)) 52 = 0 from ⟨b4, b5⟩), if_neg b5, show 4 * m + 1 + 2 = 4 * m + 3 from rfl, if_pos rfl, n4]
                have pm : pOK c m := ⟨b1, b3, b5⟩
                have m18 : mI (msI T 21 (nI (m + 1))) 18 = nI sz := p3
                have m21 : mI (msI T 21 (nI (m + 1))) 21 = nI (m + 1) := rfl
                rw [m18, m21]
                by_cases b6 : 4 * m + 3 < sz
                · have hin2 : vp_in (nI (4 * m + 3)) 21 := vp_in_nI (by omega) (by decide)
                  have ec : mA (msI T 21 (nI (m + 1))) 19 (nI (4 * m + 3)).toNatClampNeg = c (4 * m + 3) := by
                    rw [nI_clamp (by omega)]
                    exact p5 _
                  rw [if_neg (show ¬ nI sz ≤ nI (4 * m + 3) from nI_ge b6 (by omega)), if_neg (show ¬ nI (4 * m + 3) = nI sz from nI_dec (by omega) (by omega) (by omega)), gd_in hin2, gd_in hin2, ec, xf_3 hp (by omega) b6]
                  by_cases b7 : c (4 * m + 3) = 59
                  · have b8 : ¬ c (4 * m + 3) = 44 := by rw [b7]; decide
                    rw [if_pos b7, if_neg (show ¬ (c (4 * m + 3) = 44 ∧ m < 3) from fun z => b8 z.1), if_neg b8]
                    by_cases b9 : 1 ≤ m
                    · rw [if_neg (show ¬ nI (m + 1) ≤ 1 from nI_ge (b := m + 1) (a := 1) (by omega) (by omega)), if_pos (show c (4 * m + 3) = 59 ∧ 1 ≤ m from ⟨b7, b9⟩)]
                      obtain ⟨r, T2, w1, w2, w3⟩ := rd_rest (fu := fu) (T := msI T 21 (nI (m + 1))) (T0 := T) (n := nX + 1) (P := P) (S := S) ⟨p1, p2, p3, p4, p5, p6⟩ b9 (by omega) h20 rfl (fun j _ b => by rw [mI_msI, if_neg b]) (fun j => rfl) (fun j a => if z : j < m then (hj j z).1 else by rw [show j = m by omega]; exact pm) b7 b6
                      refine ⟨r, T2, ?_, w2, w3⟩
                      rw [w1, Option.bind_some]
                    · rw [if_pos (show nI (m + 1) ≤ 1 by rw [show m = 0 by omega]; decide), if_neg (show ¬ (c (4 * m + 3) = 59 ∧ 1 ≤ m) from fun z => b9 z.2)]
                      refine ⟨4 * m + 3, msI T 21 (nI (m + 1)), ?_, rfl, rd_stop h20 (by omega) (fun e _ _ => by omega)⟩
                      split <;> rfl
                  · rw [if_neg b7, if_neg (show ¬ (c (4 * m + 3) = 59 ∧ 1 ≤ m) from fun z => b7 z.1)]
                    by_cases b8 : c (4 * m + 3) = 44
                    · have b9 : ¬ m < 3 := by omega
                      rw [if_pos (show nI (m + 1) = 4 by rw [show m = 3 by omega]; rfl), if_neg (show ¬ (c (4 * m + 3) = 44 ∧ m < 3) from fun z => b9 z.2)]
                      exact ⟨4 * m + 3, msI T 21 (nI (m + 1)), rfl, rfl, rd_stop h20 (by omega) (fun e _ _ => by omega)⟩
                    · rw [if_neg b8, if_neg (show ¬ (c (4 * m + 3) = 44 ∧ m < 3) from fun z => b8 z.1)]
                      refine ⟨4 * m + 3, msI T 21 (nI (m + 1)), ?_, rfl, rd_stop h20 (by omega) (fun e _ _ => by omega)⟩
                      split <;> rfl
                · have e7 : sz = 4 * m + 3 := by omega
                  rw [xf_out hp (p := 4 * m + 3) (by omega) (by omega), e7, if_pos (show nI (4 * m + 3) ≤ nI (4 * m + 3) from nI_le (Nat.le_refl _) (by omega)), if_pos rfl]
                  exact ⟨4 * m + 3, _, rfl, rfl, by rw [← e7]; exact rd_stop h20 (by omega) (fun e a b => (pj e (by omega) b).elim)⟩
            · have e7 : sz = 4 * m + 2 := by omega
              rw [if_neg (show ¬ (4 * m + 1 + 1 < sz ∧ ¬ f_X3_fitsSecondDigit (c (4 * m + 1)) (c (4 * m + 1 + 1)) 52 = 0) from fun z => b4 z.1), if_neg (nI_dec (by omega) (by omega) (by omega)), xf_out hp (p := 4 * m + 2) (by omega) (by omega), e7]
              exact ⟨4 * m + 2, _, rfl, rfl, by rw [← e7]; exact rd_stop0 h20 (by omega) (fun e a b => (pj e (by omega) b).elim)⟩
          · rw [if_neg (show ¬ (4 * m + 1 < sz ∧ 48 ≤ c (4 * m + 1) ∧ c (4 * m + 1) ≤ 52) from fun z => b3 z.2), if_neg b3, if_neg (nI_dec (by omega) (by omega) (by omega))]
            exact ⟨4 * m + 1, T, rfl, rfl, rd_stop0 h20 (by omega) (fun e _ _ => by omega)⟩
        · have e7 : sz = 4 * m + 1 := by omega
          rw [if_neg (show ¬ (4 * m + 1 < sz ∧ 48 ≤ c (4 * m + 1) ∧ c (4 * m + 1) ≤ 52) from fun z => b2 z.1), if_neg (nI_dec (by omega) (by omega) (by omega)), xf_out hp (p := 4 * m + 1) (by omega) (by omega), e7]
          exact ⟨4 * m + 1, _, rfl, rfl, by rw [← e7]; exact rd_stop0 h20 (by omega) (fun e a b => (pj e (by omega) b).elim)⟩
    · have e7 : sz = 4 * m := by omega
      rw [xf_out hp (p := 4 * m) (by omega) (by omega), e7, if_pos rfl]
      exact ⟨4 * m, _, rfl, rfl, by rw [← e7]; exact rd_stop0 h20 (by omega) (fun e a b => (pj e (by omega) b).elim)⟩
  | succ d ih =>
    intro m nM nX T hmd hp h21 h20 hj hle
    obtain ⟨p1, p2, p3, p4, p5, p6⟩ := hp
    have hp : Pg P S T c sz := ⟨p1, p2, p3, p4, p5, p6⟩
    have n1 : nI (4 * m) + 1 = nI (4 * m + 1) := nI_1 (4 * m)
    have n3 : nI (4 * m) + 3 = nI (4 * m + 3) := nI_add (4 * m) 3
    have n4 : nI (4 * m + 3) + 1 = nI (4 * m + 4) := nI_1 (4 * m + 3)
    have nm : nI m + 1 = nI (m + 1) := nI_1 m
    have a4 : ¬ (4 : Int32) ≤ nI m := nI_ge (b := 4) (by omega) (by omega)
    have kb : ∀ x, f_X10_kindBy x = f_X3_kindOf x := fun x => rfl
    have pj : ∀ e, e < 4 * m → c e = 59 → False := by
      intro e he hc
      have g := hj (e / 4) (by omega)
      have g2 := pOK59 g.1
      have : e = 4 * (e / 4) ∨ e = 4 * (e / 4) + 1 ∨ e = 4 * (e / 4) + 2 ∨ e = 4 * (e / 4) + 3 := by omega
      rcases this with z | z | z | z
      · exact g2.1 (by rw [← z]; exact hc)
      · exact g2.2.1 (by rw [← z]; exact hc)
      · exact g2.2.2 (by rw [← z]; exact hc)
      · have := g.2
        rw [← z, hc] at this
        exact absurd this (by decide)
    rw [f_X10_read_L12, h21, p3, if_neg a4]
    by_cases b0 : 4 * m < sz
    · have hin : vp_in (nI (4 * m)) 21 := vp_in_nI (by omega) (by decide)
      rw [if_neg (nI_dec (by omega) (by omega) (by omega)), gd_in hin, nI_clamp (by omega), p5, kb, xf_0 hp (by omega) b0]
      by_cases b1 : f_X3_kindOf (c (4 * m)) = -1
      · rw [if_pos b1, if_pos b1]
        exact ⟨4 * m, T, rfl, rfl, rd_stop0 h20 (by omega) (fun e _ _ => by omega)⟩
      · rw [if_neg b1, if_neg b1, n1, n3, nm, rt_eq p3 p1 p5 (k := 4 * m + 1) (by omega) (M := 40) (hi := 52) (Or.inl ⟨rfl, rfl⟩), Option.bind_some]
        by_cases b2 : 4 * m + 1 < sz
        · rw [xf_1 hp (by omega) b2]
          by_cases b3 : 48 ≤ c (4 * m + 1) ∧ c (4 * m + 1) ≤ 52
          · rw [if_pos (show 4 * m + 1 < sz ∧ 48 ≤ c (4 * m + 1) ∧ c (4 * m + 1) ≤ 52 from ⟨b2, b3⟩), if_pos b3]
            by_cases b4 : 4 * m + 2 < sz
            · rw [xf_2 hp (by omega) b4]
              by_cases b5 : f_X3_fitsSecondDigit (c (4 * m + 1)) (c (4 * m + 2)) 52 = 0
              · rw [if_neg (show ¬ (4 * m + 1 + 1 < sz ∧ ¬ f_X3_fitsSecondDigit (c (4 * m + 1)) (c (4 * m + 1 + 1)) 52 = 0) from fun z => z.2 b5), if_pos b5, if_neg (nI_dec (by omega) (by omega) (by omega))]
                exact ⟨4 * m + 2, T, rfl, rfl, rd_stop0 h20 (by omega) (fun e _ _ => by omega)⟩
              · rw [if_pos (show 4 * m + 1 + 1 < sz ∧ ¬ f_X3_fitsSecondDigit (c (4 * m + 1)) (c (4 * m + 1 + 1)) 52 = 0 from ⟨b4, b5⟩), if_neg b5, show 4 * m + 1 + 2 = 4 * m + 3 from rfl, if_pos rfl, n4]
                have pm : pOK c m := ⟨b1, b3, b5⟩
                have m18 : mI (msI T 21 (nI (m + 1))) 18 = nI sz := p3
                have m21 : mI (msI T 21 (nI (m + 1))) 21 = nI (m + 1) := rfl
                rw [m18, m21]
                by_cases b6 : 4 * m + 3 < sz
                · have hin2 : vp_in (nI (4 * m + 3)) 21 := vp_in_nI (by omega) (by decide)
                  have ec : mA (msI T 21 (nI (m + 1))) 19 (nI (4 * m + 3)).toNatClampNeg = c (4 * m + 3) := by
                    rw [nI_clamp (by omega)]
                    exact p5 _
                  rw [if_neg (show ¬ nI sz ≤ nI (4 * m + 3) from nI_ge b6 (by omega)), if_neg (show ¬ nI (4 * m + 3) = nI sz from nI_dec (by omega) (by omega) (by omega)), gd_in hin2, gd_in hin2, ec, xf_3 hp (by omega) b6]
                  by_cases b7 : c (4 * m + 3) = 59
                  · have b8 : ¬ c (4 * m + 3) = 44 := by rw [b7]; decide
                    rw [if_pos b7, if_neg (show ¬ (c (4 * m + 3) = 44 ∧ m < 3) from fun z => b8 z.1), if_neg b8]
                    by_cases b9 : 1 ≤ m
                    · rw [if_neg (show ¬ nI (m + 1) ≤ 1 from nI_ge (b := m + 1) (a := 1) (by omega) (by omega)), if_pos (show c (4 * m + 3) = 59 ∧ 1 ≤ m from ⟨b7, b9⟩)]
                      obtain ⟨r, T2, w1, w2, w3⟩ := rd_rest (fu := fu) (T := msI T 21 (nI (m + 1))) (T0 := T) (n := nX + 4 * d + 5) (P := P) (S := S) ⟨p1, p2, p3, p4, p5, p6⟩ b9 (by omega) h20 rfl (fun j _ b => by rw [mI_msI, if_neg b]) (fun j => rfl) (fun j a => if z : j < m then (hj j z).1 else by rw [show j = m by omega]; exact pm) b7 b6
                      refine ⟨r, T2, ?_, w2, w3⟩
                      rw [w1, Option.bind_some]
                    · rw [if_pos (show nI (m + 1) ≤ 1 by rw [show m = 0 by omega]; decide), if_neg (show ¬ (c (4 * m + 3) = 59 ∧ 1 ≤ m) from fun z => b9 z.2)]
                      refine ⟨4 * m + 3, msI T 21 (nI (m + 1)), ?_, rfl, rd_stop h20 (by omega) (fun e _ _ => by omega)⟩
                      split <;> rfl
                  · rw [if_neg b7, if_neg (show ¬ (c (4 * m + 3) = 59 ∧ 1 ≤ m) from fun z => b7 z.1)]
                    by_cases b8 : c (4 * m + 3) = 44
                    · have b9 : m < 3 := by omega
                      rw [if_neg (show ¬ nI (m + 1) = 4 from nI_dec (b := 4) (by omega) (by omega) (by omega)), if_pos b8, if_pos (show c (4 * m + 3) = 44 ∧ m < 3 from ⟨b8, b9⟩)]
                      obtain ⟨r, T2, w1, w2, w3⟩ := ih (m + 1) nM nX (msI T 21 (nI (m + 1))) (by omega) ⟨p1, p2, p3, p4, p5, p6⟩ rfl h20 (fun j a => if z : j < m then hj j z else by rw [show j = m by omega]; exact ⟨pm, b8⟩) (by omega)
                      refine ⟨r, T2, w1, w2, w3.1, fun j a b => ?_, w3.2.2.1, w3.2.2.2⟩
                      rw [w3.2.1 j a b, mI_msI, if_neg b]
                    · rw [if_neg b8, if_neg (show ¬ (c (4 * m + 3) = 44 ∧ m < 3) from fun z => b8 z.1)]
                      refine ⟨4 * m + 3, msI T 21 (nI (m + 1)), ?_, rfl, rd_stop h20 (by omega) (fun e _ _ => by omega)⟩
                      split <;> rfl
                · have e7 : sz = 4 * m + 3 := by omega
                  rw [xf_out hp (p := 4 * m + 3) (by omega) (by omega), e7, if_pos (show nI (4 * m + 3) ≤ nI (4 * m + 3) from nI_le (Nat.le_refl _) (by omega)), if_pos rfl]
                  exact ⟨4 * m + 3, _, rfl, rfl, by rw [← e7]; exact rd_stop h20 (by omega) (fun e a b => (pj e (by omega) b).elim)⟩
            · have e7 : sz = 4 * m + 2 := by omega
              rw [if_neg (show ¬ (4 * m + 1 + 1 < sz ∧ ¬ f_X3_fitsSecondDigit (c (4 * m + 1)) (c (4 * m + 1 + 1)) 52 = 0) from fun z => b4 z.1), if_neg (nI_dec (by omega) (by omega) (by omega)), xf_out hp (p := 4 * m + 2) (by omega) (by omega), e7]
              exact ⟨4 * m + 2, _, rfl, rfl, by rw [← e7]; exact rd_stop0 h20 (by omega) (fun e a b => (pj e (by omega) b).elim)⟩
          · rw [if_neg (show ¬ (4 * m + 1 < sz ∧ 48 ≤ c (4 * m + 1) ∧ c (4 * m + 1) ≤ 52) from fun z => b3 z.2), if_neg b3, if_neg (nI_dec (by omega) (by omega) (by omega))]
            exact ⟨4 * m + 1, T, rfl, rfl, rd_stop0 h20 (by omega) (fun e _ _ => by omega)⟩
        · have e7 : sz = 4 * m + 1 := by omega
          rw [if_neg (show ¬ (4 * m + 1 < sz ∧ 48 ≤ c (4 * m + 1) ∧ c (4 * m + 1) ≤ 52) from fun z => b2 z.1), if_neg (nI_dec (by omega) (by omega) (by omega)), xf_out hp (p := 4 * m + 1) (by omega) (by omega), e7]
          exact ⟨4 * m + 1, _, rfl, rfl, by rw [← e7]; exact rd_stop0 h20 (by omega) (fun e a b => (pj e (by omega) b).elim)⟩
    · have e7 : sz = 4 * m := by omega
      rw [xf_out hp (p := 4 * m) (by omega) (by omega), e7, if_pos rfl]
      exact ⟨4 * m, _, rfl, rfl, by rw [← e7]; exact rd_stop0 h20 (by omega) (fun e a b => (pj e (by omega) b).elim)⟩
end RE
