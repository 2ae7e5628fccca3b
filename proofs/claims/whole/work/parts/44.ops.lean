theorem ti1 {m : Int32} (h0 : 0 ≤ m) (h1 : m ≤ 1000000) : (m + 1).toInt = m.toInt + 1 := by
  have a := Int32.le_iff_toInt_le.mp h0
  have b := Int32.le_iff_toInt_le.mp h1
  have a2 : (0 : Int32).toInt = 0 := rfl
  have b2 : (1000000 : Int32).toInt = 1000000 := rfl
  have c2 : (1 : Int32).toInt = 1 := rfl
  rw [Int32.toInt_add, c2]
  show (m.toInt + 1).bmod 4294967296 = _
  rw [Int.bmod_def]
  split <;> omega
theorem best_loop {P : XP} {S : XS} {T : MS} (hok : xOK P) (hk : Rk P S T) (hm : Rm S T) (hp : Rp P S T) {j : Nat} (hj : j < P.1) (h4 : j < 4) (q : ¬ mA T 9 j = -1) {fu : Nat} (hfu : 4 ≤ fu) : ∀ (n : Nat) (b m : Int32), 1 ≤ b → b ≤ 60 → 2 ≤ m → m ≤ 61 → (62 : Int) ≤ m.toInt + n → ∃ r, (∃ s m1, f_X9_bestWinding_L16 fu P j n b (f_X5_sureAt P S j (xI S 9 + b)) m S = some (r, s, m1)) ∧ (∃ m2, f_X10_bestNow_L4 fu (nI j) n b m T = some (r, m2)) := by
  intro n
  have hs := hk.2.2.2.2.2.1
  induction n with
  | zero =>
    intro b m h1 h2 h3 h5 h6
    have z := Int32.le_iff_toInt_le.mp h5
    have z2 : (61 : Int32).toInt = 61 := rfl
    omega
  | succ n ih =>
    intro b m h1 h2 h3 h5 h6
    rw [f_X9_bestWinding_L16, f_X10_bestNow_L4, hk.2.2.2.1]
    by_cases c1 : mI T 2 < m
    · rw [if_pos c1, if_pos c1]
      exact ⟨b, ⟨_, _, rfl⟩, ⟨_, rfl⟩⟩
    · rw [if_neg c1, if_neg c1, sure_eq hok hm hp hj h4 q (by grind) (by grind) fu hfu, sure_eq hok hm hp hj h4 q h1 h2 fu hfu, Option.bind_some, Option.bind_some]
      have t1 := ti1 (m := m) (by grind) (by grind)
      by_cases c2 : f_X5_sureAt P S j (xI S 9 + m) ≤ f_X5_sureAt P S j (xI S 9 + b)
      · rw [if_pos c2, if_pos c2]
        exact ih b (m + 1) h1 h2 (by grind) (by grind) (by omega)
      · rw [if_neg c2, if_neg c2]
        exact ih m (m + 1) (by grind) (by grind) (by grind) (by grind) (by omega)
theorem best_eq {P : XP} {S : XS} {T : MS} (hok : xOK P) (hk : Rk P S T) (hm : Rm S T) (hp : Rp P S T) {j : Nat} (hj : j < P.1) (h4 : j < 4) (q : ¬ mA T 9 j = -1) {fu : Nat} (hfu : 2000 ≤ fu) : ∃ r, f_X9_bestWinding fu P S j = some r ∧ f_X10_bestNow fu T (nI j) = some r := by
  have t2 : (2 : Int32).toInt = 2 := rfl
  obtain ⟨r, ⟨s, m1, e1⟩, ⟨m2, e2⟩⟩ := best_loop hok hk hm hp hj h4 q (fu := fu) (by omega) fu 1 2 (by decide) (by decide) (by decide) (by decide) (by omega)
  refine ⟨r, ?_, ?_⟩
  · unfold f_X9_bestWinding
    rw [e1]
    rfl
  · unfold f_X10_bestNow
    rw [e2]
    rfl
theorem op_best {c : Nat} {P : XP} {S : XS} {T : MS} (h : RR c P S T) (a : Int32) {fu : Nat} (hfu : 2000 ≤ fu) : ∃ r, f_X9_best fu P S a = some r ∧ f_X10_best fu T a = some r := by
  obtain ⟨hok, hk, hm, hg, ht, hi, hc, hp⟩ := id h
  unfold f_X10_best f_X9_best
  rcases pot_cases hk a with ⟨e1, e2⟩ | ⟨j, hj, h4, rfl, e1, e2⟩
  · rw [e1, if_pos e2]
    exact ⟨_, rfl, rfl⟩
  rw [e1, if_neg e2, mp_boils h4]
  unfold pm
  dsimp only
  rw [xb_eq hp hj]
  by_cases q : mA T 9 j = -1
  · rw [if_pos q, if_pos q, Option.bind_some, if_pos rfl, if_pos rfl]
    exact ⟨_, rfl, rfl⟩
  · obtain ⟨r, e3, e4⟩ := best_eq hok hk hm hp hj h4 q hfu
    rw [if_neg q, if_neg q, Option.bind_some, if_neg (by decide), if_neg (by decide), e3, e4]
    exact ⟨r, rfl, rfl⟩
/-! ===== what is told ===== -/
def okT (S : XS) (m : Int32) (j : Nat) : Bool := decide (f_X9_outBy (m - xA S 5 j) (xA S 6 j) = xA S 7 j)
def allT (S : XS) (m : Int32) : Nat → Nat → Bool
  | 0, _ => true
  | d + 1, j => okT S m j && allT S m d (j + 1)
theorem gd6 {α : Type} {j : Nat} (h : j < 6) (k : Option α) : gd (nI j) 6 k = k := gd_in (vp_in_nI h (by decide))
theorem nIc6 {j : Nat} (h : j < 6) : (nI j).toNatClampNeg = j := nI_clamp (by omega)
theorem fits_loop {P : XP} {S : XS} {m : Int32} {sz : Nat} (hsz : sz ≤ 6) (e : xI S 21 = nI sz) {fu : Nat} : ∀ (d j n : Nat), j + d = sz → d < n → f_X8_fits_L2 fu P m n (nI j) S = some (if allT S m d j then 1 else 0) := by
  intro d
  induction d with
  | zero =>
    intro j n h1 h2
    obtain ⟨k, rfl⟩ : ∃ k, n = k + 1 := ⟨n - 1, by omega⟩
    rw [f_X8_fits_L2, e, if_pos (nI_le (by omega) (by omega))]
    rfl
  | succ d ih =>
    intro j n h1 h2
    obtain ⟨k, rfl⟩ : ∃ k, n = k + 1 := ⟨n - 1, by omega⟩
    rw [f_X8_fits_L2, e, if_neg (nI_ge (by omega) (by omega)), if_neg (show ¬ (6 : Int32) ≤ nI j from nI_ge (a := j) (b := 6) (by omega) (by omega)), gd6 (by omega), gd6 (by omega), gd6 (by omega), nIc6 (by omega)]
    unfold allT okT
    by_cases c1 : f_X9_outBy (m - xA S 5 j) (xA S 6 j) = xA S 7 j
    · rw [if_pos c1, nI_1, ih (j + 1) k (by omega) (by omega)]
      simp [c1]
    · rw [if_neg c1]
      simp [c1]
theorem told_ok {S : XS} {T : MS} (ht : Rt S T) {m : Int32} (m0 : 1 ≤ m) (m1 : m ≤ 60) (j : Nat) : (f_X10_out (mA T 13 j + m) (mA T 14 j) (mA T 15 j) = mA T 16 j) ↔ okT S m j = true := by
  obtain ⟨u1, u2, u3, u4, u5, u6⟩ := ht.2.2 j
  unfold okT
  rw [decide_eq_true_eq, u1, u2, u3, out_eq (by grind) (by grind) (by grind) (by grind) (by grind) (by grind)]
  have e : mA T 13 j + m - mA T 14 j = m - (mA T 14 j - mA T 13 j) := by grind
  rw [e]
theorem could_loop {S : XS} {T : MS} (ht : Rt S T) {m : Int32} (m0 : 1 ≤ m) (m1 : m ≤ 60) {sz : Nat} (hsz : sz ≤ 6) (e : mI T 12 = nI sz) {fu : Nat} : ∀ (d j n : Nat) (f : Bool), j + d = sz → d < n → f_X10_couldBe_L4 fu m n (if f then 1 else 0) (nI j) T = some ((if f && allT S m d j then 1 else 0), nI sz) := by
  intro d
  induction d with
  | zero =>
    intro j n f h1 h2
    obtain ⟨k, rfl⟩ : ∃ k, n = k + 1 := ⟨n - 1, by omega⟩
    rw [f_X10_couldBe_L4, e, if_pos (nI_le (by omega) (by omega)), show j = sz by omega]
    simp [allT]
  | succ d ih =>
    intro j n f h1 h2
    obtain ⟨k, rfl⟩ : ∃ k, n = k + 1 := ⟨n - 1, by omega⟩
    rw [f_X10_couldBe_L4, e, if_neg (nI_ge (by omega) (by omega)), nI_1]
    cases f with
    | false =>
      rw [if_pos (by decide)]
      have := ih (j + 1) k false (by omega) (by omega)
      simpa using this
    | true =>
      rw [if_neg (by decide), gd6 (by omega), gd6 (by omega), gd6 (by omega), gd6 (by omega), nIc6 (by omega)]
      by_cases c1 : okT S m j = true
      · rw [if_pos ((told_ok ht m0 m1 j).mpr c1)]
        have := ih (j + 1) k true (by omega) (by omega)
        simpa [allT, c1] using this
      · rw [if_neg (fun z => c1 ((told_ok ht m0 m1 j).mp z))]
        have := ih (j + 1) k false (by omega) (by omega)
        simpa [allT, c1] using this
/-- does all that is told fit so many minutes -/
def fitB (S : XS) (m : Nat) : Bool := allT S (nI m) (xI S 21).toNatClampNeg 0
theorem told_sz {S : XS} {T : MS} (ht : Rt S T) : ∃ sz : Nat, sz ≤ 6 ∧ mI T 12 = nI sz ∧ xI S 21 = nI sz ∧ (xI S 21).toNatClampNeg = sz := by
  obtain ⟨sz, h1, h2⟩ := nI_of2 (x := mI T 12) (M := 6) (n := 6) rfl (by have := ht.2.1.1; grind) ht.2.1.2
  refine ⟨sz, h1, h2, ht.1.trans h2, ?_⟩
  rw [ht.1, h2]
  exact nI_clamp (by omega)
theorem fits_eq {P : XP} {S : XS} {T : MS} (ht : Rt S T) (m : Nat) {fu : Nat} (hfu : 2000 ≤ fu) : f_X8_fits fu P S (nI m) = some (if fitB S m then 1 else 0) := by
  obtain ⟨sz, h1, h2, h3, h5⟩ := told_sz ht
  unfold f_X8_fits fitB
  rw [h5]
  exact fits_loop h1 h3 sz 0 fu (by omega) (by omega)
theorem could_eq {S : XS} {T : MS} (ht : Rt S T) (m : Nat) (m0 : 1 ≤ m) (m1 : m ≤ 60) {fu : Nat} (hfu : 2000 ≤ fu) : f_X10_couldBe fu T (nI m) = some (if fitB S m then 1 else 0) := by
  obtain ⟨sz, h1, h2, h3, h5⟩ := told_sz ht
  unfold f_X10_couldBe fitB
  rw [h5]
  have := could_loop ht (m := nI m) (nI_le (a := 1) m0 (by omega)) (nI_le (b := 60) m1 (by decide)) h1 h2 (fu := fu) sz 0 fu true (by omega) (by omega)
  rw [show f_X10_couldBe_L4 fu (nI m) fu 1 0 T = _ from this, Option.bind_some]
  cases allT S (nI m) sz 0 <;> rfl
/-- how many of 1 to m fit; the least above m that fits, d more being left -/
def cntF (F : Nat → Bool) : Nat → Nat
  | 0 => 0
  | m + 1 => cntF F m + if F (m + 1) then 1 else 0
def lstF (F : Nat → Bool) : Nat → Nat → Int32
  | 0, _ => -1
  | d + 1, m => if F (m + 1) then nI (m + 1) else lstF F d (m + 1)
theorem cntF_le (F : Nat → Bool) : ∀ m, cntF F m ≤ m
  | 0 => Nat.le_refl 0
  | m + 1 => by
    have := cntF_le F m
    unfold cntF
    split <;> omega
theorem wtf_loop {P : XP} {S : XS} {T : MS} (ht : Rt S T) {sp : Nat} (hsp : sp ≤ 60) (e : xI S 7 = nI sp) {fu : Nat} (hfu : 2000 ≤ fu) : ∀ (d m n : Nat), m + d = sp → d < n → ∃ z, f_X9_windingsThatFit_L4 fu P n (nI (cntF (fitB S) m)) (nI (m + 1)) S = some (nI (cntF (fitB S) sp), z) := by
  intro d
  induction d with
  | zero =>
    intro m n h1 h2
    obtain ⟨k, rfl⟩ : ∃ k, n = k + 1 := ⟨n - 1, by omega⟩
    rw [f_X9_windingsThatFit_L4, e, if_pos (nI_lt (by omega) (by omega)), show m = sp by omega]
    exact ⟨_, rfl⟩
  | succ d ih =>
    intro m n h1 h2
    obtain ⟨k, rfl⟩ : ∃ k, n = k + 1 := ⟨n - 1, by omega⟩
    rw [f_X9_windingsThatFit_L4, e, if_neg (nI_nlt (by omega) (by omega)), fits_eq ht (m + 1) hfu, Option.bind_some, nI_1]
    obtain ⟨z, hz⟩ := ih (m + 1) k (by omega) (by omega)
    by_cases c1 : fitB S (m + 1) = true
    · rw [if_pos c1, if_neg (by decide), nI_1]
      refine ⟨z, ?_⟩
      rw [← hz]
      simp [cntF, c1]
    · rw [if_neg c1, if_pos rfl]
      refine ⟨z, ?_⟩
      rw [← hz]
      simp [cntF, c1]
theorem ltf_loop {P : XP} {S : XS} {T : MS} (ht : Rt S T) {sp : Nat} (hsp : sp ≤ 60) (e : xI S 7 = nI sp) {fu : Nat} (hfu : 2000 ≤ fu) : ∀ (d m n : Nat), m + d = sp → d < n → f_X9_leastThatFits_L2 fu P n (nI (m + 1)) S = some (lstF (fitB S) d m) := by
  intro d
  induction d with
  | zero =>
    intro m n h1 h2
    obtain ⟨k, rfl⟩ : ∃ k, n = k + 1 := ⟨n - 1, by omega⟩
    rw [f_X9_leastThatFits_L2, e, if_pos (nI_lt (by omega) (by omega))]
    rfl
  | succ d ih =>
    intro m n h1 h2
    obtain ⟨k, rfl⟩ : ∃ k, n = k + 1 := ⟨n - 1, by omega⟩
    rw [f_X9_leastThatFits_L2, e, if_neg (nI_nlt (by omega) (by omega)), fits_eq ht (m + 1) hfu, Option.bind_some, nI_1]
    unfold lstF
    by_cases c1 : fitB S (m + 1) = true
    · rw [if_pos c1, if_neg (by decide), if_pos c1]
    · rw [if_neg c1, if_pos rfl, if_neg c1]
      exact ih (m + 1) k (by omega) (by omega)
theorem wn_loop {S : XS} {T : MS} (ht : Rt S T) {sp : Nat} (hsp : sp ≤ 60) {fu : Nat} (hfu : 2000 ≤ fu) (w : Int32) : ∀ (m n : Nat), m ≤ sp → m < n → ∀ many : Nat, many + cntF (fitB S) m = cntF (fitB S) sp → ∃ z, f_X10_woundNow_L10 fu w n (nI many) (lstF (fitB S) (sp - m) m) (nI m) T = some (nI (cntF (fitB S) sp), lstF (fitB S) sp 0, z) := by
  intro m
  induction m with
  | zero =>
    intro n h1 h2 many h3
    obtain ⟨k, rfl⟩ : ∃ k, n = k + 1 := ⟨n - 1, by omega⟩
    rw [f_X10_woundNow_L10, if_pos (by decide)]
    have : many = cntF (fitB S) sp := by
      have e : cntF (fitB S) 0 = 0 := rfl
      omega
    rw [this]
    exact ⟨_, rfl⟩
  | succ m ih =>
    intro n h1 h2 many h3
    obtain ⟨k, rfl⟩ : ∃ k, n = k + 1 := ⟨n - 1, by omega⟩
    rw [f_X10_woundNow_L10, if_neg (nI_nle (by omega) (by omega)), could_eq ht (m + 1) (by omega) (by omega) hfu, Option.bind_some, pk_m1]
    have el : lstF (fitB S) (sp - m) m = if fitB S (m + 1) then nI (m + 1) else lstF (fitB S) (sp - (m + 1)) (m + 1) := by
      rw [show sp - m = (sp - (m + 1)) + 1 by omega]
      rfl
    have ec : cntF (fitB S) (m + 1) = cntF (fitB S) m + if fitB S (m + 1) then 1 else 0 := rfl
    by_cases c1 : fitB S (m + 1) = true
    · rw [if_pos c1, if_neg (by decide), if_neg (by decide), nI_1]
      rw [if_pos c1] at el ec
      rw [← el]
      exact ih k (by omega) (by omega) (many + 1) (by omega)
    · rw [if_neg c1, if_pos rfl, if_pos rfl]
      rw [if_neg c1] at el ec
      rw [← el, show nI many + 0 = nI many by grind]
      exact ih k (by omega) (by omega) many (by omega)
theorem spr {P : XP} {S : XS} {T : MS} (hk : Rk P S T) : ∃ sp : Nat, sp ≤ 60 ∧ mI T 2 = nI sp ∧ xI S 7 = nI sp := by
  obtain ⟨sp, h1, h2⟩ := nI_of2 (x := mI T 2) (M := 60) (n := 60) rfl (by have := hk.2.2.2.2.2.1.1; grind) hk.2.2.2.2.2.1.2
  exact ⟨sp, h1, h2, hk.2.2.2.1.trans h2⟩
theorem woundNow_eq {P : XP} {S : XS} {T : MS} (hk : Rk P S T) (ht : Rt S T) {fu : Nat} (hfu : 2000 ≤ fu) : ∃ r0 r1, f_X9_windingsThatFit fu P S = some r0 ∧ f_X9_leastThatFits fu P S = some r1 ∧ ∀ w, f_X10_woundNow fu T w = some (if w = 0 then r0 else r1) := by
  obtain ⟨sp, h1, h2, h3⟩ := spr hk
  obtain ⟨z, hz⟩ := wtf_loop (P := P) ht h1 h3 hfu sp 0 fu (by omega) (by omega)
  have hl := ltf_loop (P := P) ht h1 h3 hfu sp 0 fu (by omega) (by omega)
  refine ⟨nI (cntF (fitB S) sp), lstF (fitB S) sp 0, ?_, hl, fun w => ?_⟩
  · unfold f_X9_windingsThatFit
    rw [show f_X9_windingsThatFit_L4 fu P fu 0 1 S = _ from hz]
    rfl
  · unfold f_X10_woundNow
    obtain ⟨z2, hz2⟩ := wn_loop ht h1 hfu w sp fu (by omega) (by omega) 0 (by omega)
    rw [Nat.sub_self] at hz2
    have hz3 : f_X10_woundNow_L10 fu w fu 0 (-1) (nI sp) T = some (nI (cntF (fitB S) sp), lstF (fitB S) sp 0, z2) := hz2
    rw [h2, hz3, Option.bind_some]
    split <;> rfl
theorem op_wound {c : Nat} {P : XP} {S : XS} {T : MS} (h : RR c P S T) (a : Int32) {fu : Nat} (hfu : 2000 ≤ fu) : ∃ r, f_X9_wound fu P S a = some r ∧ f_X10_wound fu T a = some r := by
  obtain ⟨hok, hk, hm, hg, ht, hi, hc, hp⟩ := id h
  obtain ⟨r0, r1, e0, e1, e2⟩ := woundNow_eq hk ht hfu
  obtain ⟨q1, q2, q3⟩ := hasK hk
  unfold f_X9_wound f_X10_wound
  rw [e0, e1, e2]
  by_cases c1 : a < 0
  · rw [if_pos c1, if_pos (within_0.mpr (by grind))]
    exact ⟨_, rfl, rfl⟩
  rw [if_neg c1]
  by_cases c2 : a ≤ 1
  · rw [if_pos c2, if_neg (fun z => within_0.mp z (by grind))]
    by_cases n0 : P.1 = 0
    · rw [if_pos (q1.mpr n0), if_pos (q2.mpr n0)]
      exact ⟨_, rfl, rfl⟩
    · rw [if_neg (fun z => n0 (q1.mp z)), if_neg (fun z => n0 (q2.mp z))]
      by_cases c3 : a = 0
      · rw [if_pos c3, if_pos c3]
        exact ⟨_, rfl, rfl⟩
      · rw [if_neg c3, if_neg c3]
        exact ⟨_, rfl, rfl⟩
  · rw [if_neg c2, if_pos (within_0.mpr (by grind))]
    exact ⟨_, rfl, rfl⟩
