section KVL40
theorem kv_4i (i : Nat) : (4 : Int32) * nI i = nI (4 * i) := pk_mul 4 i
theorem kv_6i (i : Nat) : (6 : Int32) * nI i = nI (6 * i) := pk_mul 6 i
theorem kv_2i (i : Nat) : (2 : Int32) * nI i = nI (2 * i) := pk_mul 2 i
theorem kv_a2 (i : Nat) : nI i + 2 = nI (i + 2) := nI_add i 2
theorem kv_a3 (i : Nat) : nI i + 3 = nI (i + 3) := nI_add i 3
theorem kv_a4 (i : Nat) : nI i + 4 = nI (i + 4) := nI_add i 4
theorem kv_a5 (i : Nat) : nI i + 5 = nI (i + 5) := nI_add i 5
theorem kv_ge5 {i : Nat} (h : i ≤ 5) : (5 : Int32) ≤ nI i ↔ 5 ≤ i := nI_leI (a := 5) (by decide) (by omega)
theorem kv_ge32 {i : Nat} (h : i ≤ 32) : (32 : Int32) ≤ nI i ↔ 32 ≤ i := nI_leI (a := 32) (by decide) (by omega)
/-- the bit S of a number -/
def kv_bt (x : Int32) (S : Nat) : Bool := x.toBitVec.getLsbD S
theorem kv_bt_or (x y : Int32) (S : Nat) : kv_bt (x ||| y) S = (kv_bt x S || kv_bt y S) := by
  unfold kv_bt
  rw [Int32.toBitVec_or, BitVec.getLsbD_or]
theorem kv_bt_0 (S : Nat) : kv_bt 0 S = false := BitVec.getLsbD_zero
theorem kv_bt_1 : ∀ S, S < 32 → kv_bt 1 S = decide (S = 0) := by decide +kernel
theorem kv_bt_shl : ∀ m, m < 32 → ∀ S, S < 32 → kv_bt (1 <<< (nI m &&& 31)) S = decide (S = m) := by decide +kernel
theorem kv_sm32 : ∀ m, m < 32 → ((nI m &&& 31).toBitVec.smod 32).toNat = m := by decide +kernel
theorem kv_and1b (y : Int32) : (y &&& 1 = 1) ↔ kv_bt y 0 = true := by
  have e : (y &&& 1).toBitVec = BitVec.setWidth 32 (BitVec.ofBool (y.toBitVec.getLsbD 0)) := by
    rw [Int32.toBitVec_and]
    exact BitVec.and_one_eq_setWidth_ofBool_getLsbD
  unfold kv_bt
  cases hb : y.toBitVec.getLsbD 0 with
  | false =>
    rw [hb] at e
    refine ⟨fun h => ?_, fun h => (by cases h)⟩
    rw [h] at e
    exact absurd e (by decide)
  | true =>
    rw [hb] at e
    exact ⟨fun _ => rfl, fun _ => Int32.toBitVec_inj.mp (e.trans (by decide))⟩
theorem kv_shr1 (x : Int32) {m : Nat} (hm : m < 32) : ((x >>> (nI m &&& 31)) &&& 1 = 1) ↔ kv_bt x m = true := by
  rw [kv_and1b]
  unfold kv_bt
  have e : (x >>> (nI m &&& 31)).toBitVec = x.toBitVec.sshiftRight ((nI m &&& 31).toBitVec.smod 32).toNat := rfl
  rw [e, kv_sm32 m hm, BitVec.getLsbD_sshiftRight]
  simp [hm]
theorem u_low (v : Int32) {n : Nat} (h0 : 0 < n) (hn : n < 2 ^ 31) : ∃ a : Nat, a < n ∧ pf_L_low v (nI n) = some (nI a) := by
  obtain ⟨j, hj, e⟩ := pk_andE v (m := 2147483647) 31 (by decide)
  refine ⟨j % n, Nat.mod_lt _ h0, ?_⟩
  unfold pf_L_low kv_Z
  rw [if_neg (fun c => by have := (nI_eq (b := 0) hn (by decide)).mp c; omega), e, pk_rem hj h0 hn]
/-- is it a host -/
theorem u_host (lm : Nat → Int32) (p0 : Int32) : ∀ (k f i : Nat) (b : Bool), i + k = 5 → k < f → pf_L_host_4 lm p0 f (if b = true then 1 else 0) (nI i) = some (if (b || kv_any (fun j => decide (lm (4 * j + 1) = p0)) i k) = true then 1 else 0) := by
  intro k
  induction k with
  | zero =>
    intro f i b hi hf
    obtain ⟨f, rfl⟩ : ∃ z, f = z + 1 := ⟨f - 1, by omega⟩
    rw [pf_L_host_4.eq_2]
    unfold pf_L_host_4b
    rw [if_pos ((kv_ge5 (by omega)).mpr (by omega))]
    cases b <;> rfl
  | succ k ih =>
    intro f i b hi hf
    obtain ⟨f, rfl⟩ : ∃ z, f = z + 1 := ⟨f - 1, by omega⟩
    rw [pf_L_host_4.eq_2]
    unfold pf_L_host_4b kv_T pf_L_host_29
    rw [if_neg (fun c => by have := (kv_ge5 (by omega)).mp c; omega), kv_4i, nI_1, kv_gN (show 4 * i + 1 < 20 by omega) (by omega), nI_clamp (show 4 * i + 1 < 2 ^ 31 by omega), nI_1]
    have iT := ih f (i + 1) true (by omega) (by omega)
    have iF := ih f (i + 1) false (by omega) (by omega)
    rw [if_pos rfl] at iT
    rw [if_neg (by decide)] at iF
    cases b with
    | true => rw [if_pos rfl, if_neg (by decide), iT]; simp
    | false =>
      rw [if_neg (show ¬ (false = true) by decide), if_pos rfl]
      by_cases h : lm (4 * i + 1) = p0
      · simp only [if_pos h]; rw [iT]; simp [kv_any, h]
      · simp only [if_neg h]; rw [iF]; simp [kv_any, h]
def kv_cd (x : Nat) : Int32 := if x = 0 then 0 else if x = 2 then -2002 else -2003
theorem kv_any_split (f : Nat → Bool) : ∀ (k i m : Nat), kv_any f i (k + m) = (kv_any f i k || kv_any f (i + k) m) := by
  intro k
  induction k with
  | zero => intro i m; rw [Nat.zero_add]; simp [kv_any]
  | succ k ih =>
    intro i m
    rw [show k + 1 + m = (k + m) + 1 by omega]
    show (f i || kv_any f (i + 1) (k + m)) = ((f i || kv_any f (i + 1) k) || kv_any f (i + (k + 1)) m)
    rw [ih, Bool.or_assoc, show i + 1 + k = i + (k + 1) by omega]
theorem kv_any_no {f : Nat → Bool} : ∀ (k i : Nat), (∀ j, i ≤ j → j < i + k → f j = false) → kv_any f i k = false := by
  intro k
  induction k with
  | zero => intro i _; rfl
  | succ k ih =>
    intro i h
    show (f i || kv_any f (i + 1) k) = false
    rw [h i (Nat.le_refl i) (by omega), ih (i + 1) (fun j a b => h j (by omega) (by omega))]
    rfl
theorem kv_nIm1 {x : Nat} (h : x < 2 ^ 30) : ¬ nI x = -1 := fun c => by
  have := congrArg Int32.toInt c
  rw [nI_toInt (by omega), kv_in1] at this
  omega
/-- the host that a drawn number tells: none, or one of the five -/
theorem u_to {b : Nat} (hb : b < 6) : (b = 0 ∧ nI b - 1 = -1) ∨ (∃ c, b = c + 1 ∧ c < 5 ∧ nI b - 1 = nI c) := by
  match b with
  | 0 => exact Or.inl ⟨rfl, by decide⟩
  | c + 1 => exact Or.inr ⟨c, rfl, by omega, by rw [show (1 : Int32) = nI 1 from rfl, pk_sub (by omega)]; rfl⟩
theorem u_ref (lm kh : Nat → Int32) (a : Nat) (p1 : Int32) (ha : a < 5) (hp : p1 = -1 ∨ ∃ c, c < 5 ∧ p1 = nI c) (hh : ∀ j, j < 5 → lm (4 * j + 1) = kh j ∧ -1 ≤ kh j) (h5 : ∀ j, 5 ≤ j → j < 8 → kh j = -1) : pf_L_refuses lm (nI a) p1 = some (kv_cd (kv_mv kh (nI a) p1)) ∧ ¬ kv_mv kh (nI a) p1 = 1 := by
  have c1 : kv_iv (nI a) 0 7 = true := kv_ivN (by omega)
  unfold pf_L_refuses kv_mv pf_L_refuses_33
  rcases hp with rfl | ⟨c, hc, rfl⟩
  · rw [if_neg (kv_nIm1 (by omega)), if_pos (by decide), if_pos c1, if_pos rfl]
    exact ⟨rfl, by decide⟩
  · have hH := u_host lm (nI a) 5 kv_F 0 false (by omega) (by decide)
    rw [if_neg (show ¬ (false = true) by decide), nI_0] at hH
    have hH2 : pf_L_host lm (nI a) = some (if kv_any (fun j => decide (kh j = nI a)) 0 8 = true then 1 else 0) := by
      have hk : kv_any (fun j => decide (kh j = nI a)) 0 8 = kv_any (fun j => decide (lm (4 * j + 1) = nI a)) 0 5 := by
        rw [show (8 : Nat) = 5 + 3 from rfl, kv_any_split, kv_any_no 3 (0 + 5) (fun j h1 h2 => by rw [h5 j (by omega) (by omega)]; exact decide_eq_false (fun q => kv_nIm1 (x := a) (by omega) q.symm)), Bool.or_false]
        exact kv_any_c 5 0 (fun j _ hj => by rw [(hh j (by omega)).1])
      rw [hk]
      rw [Bool.false_or] at hH
      exact hH
    have c3 : kv_iv (nI c) 0 7 = true := kv_ivN (by omega)
    rw [if_pos c1, if_neg (kv_nIm1 (x := c) (by omega)), if_pos c3]
    by_cases e : nI a = nI c
    · rw [if_pos e, if_pos e]; exact ⟨rfl, by decide⟩
    · rw [if_neg e, if_neg e, if_neg (fun q => by rw [Int32.lt_iff_toInt_lt, nI_toInt (by omega), kv_i0] at q; omega), hH2, kv_q1_s]
      cases c5 : kv_any (fun j => decide (kh j = nI a)) 0 8 with
      | true =>
        rw [if_pos rfl, if_neg (show ¬ ((1 : Int32) = 0) by decide), if_pos rfl]
        exact ⟨rfl, by decide⟩
      | false =>
        rw [if_neg (show ¬ (false = true) by decide), if_pos rfl, if_neg (show ¬ (false = true) by decide), kv_4i, nI_1, kv_gN (show 4 * c + 1 < 20 by omega) (by omega), nI_clamp (show 4 * c + 1 < 2 ^ 31 by omega), nI_clamp (show c < 2 ^ 31 by omega), kv_T_s, (hh c hc).1]
        have hle := (hh c hc).2
        by_cases g : kh c = -1
        · rw [g, if_pos (show (-1 : Int32) < 0 by decide), if_pos rfl]; exact ⟨rfl, by decide⟩
        · have g2 : ¬ kh c < 0 := fun q => g (by
            rw [Int32.lt_iff_toInt_lt, kv_i0] at q
            rw [Int32.le_iff_toInt_le, kv_in1] at hle
            exact Int32.toInt_inj.mp (by rw [kv_in1]; omega))
          rw [if_neg g2, if_neg g]; exact ⟨rfl, by decide⟩
theorem kv_or_split (b : Nat → Bool) : ∀ (k i m x : Nat), kv_or b i (k + m) x = kv_or b (i + k) m (kv_or b i k x) := by
  intro k
  induction k with
  | zero => intro i m x; rw [Nat.zero_add]; rfl
  | succ k ih =>
    intro i m x
    rw [show k + 1 + m = (k + m) + 1 by omega]
    show kv_or b (i + 1) (k + m) _ = kv_or b (i + (k + 1)) m (kv_or b (i + 1) k _)
    rw [ih, show i + 1 + k = i + (k + 1) by omega]
theorem kv_or_no {b : Nat → Bool} : ∀ (k i x : Nat), (∀ j, i ≤ j → j < i + k → b j = false) → kv_or b i k x = x := by
  intro k
  induction k with
  | zero => intro i x _; rfl
  | succ k ih =>
    intro i x h
    show kv_or b (i + 1) k (if b i = true then x ||| 2 ^ i else x) = x
    rw [h i (Nat.le_refl i) (by omega), if_neg (by decide)]
    exact ih (i + 1) x (fun j a b => h j (by omega) (by omega))
theorem kv_or_lt2 (b : Nat → Bool) (n : Nat) : ∀ (k i x : Nat), i + k ≤ n → x < 2 ^ n → kv_or b i k x < 2 ^ n := by
  intro k
  induction k with
  | zero => intro i x _ hx; exact hx
  | succ k ih =>
    intro i x hi hx
    refine ih (i + 1) _ (by omega) ?_
    split
    · exact Nat.or_lt_two_pow hx (Nat.pow_lt_pow_right (a := 2) (by decide) (by omega))
    · exact hx
theorem kv_or_bit (b : Nat → Bool) (j : Nat) : ∀ (k i x : Nat), (kv_or b i k x).testBit j = (x.testBit j || (decide (i ≤ j) && decide (j < i + k) && b j)) := by
  intro k
  induction k with
  | zero =>
    intro i x
    show x.testBit j = _
    by_cases h : i ≤ j
    · rw [decide_eq_false (show ¬ j < i + 0 by omega), Bool.and_false, Bool.false_and, Bool.or_false]
    · rw [decide_eq_false h, Bool.false_and, Bool.false_and, Bool.or_false]
  | succ k ih =>
    intro i x
    show (kv_or b (i + 1) k (if b i = true then x ||| 2 ^ i else x)).testBit j = _
    rw [ih]
    by_cases e : i = j
    · subst e
      cases hb : b i with
      | true => simp [Nat.testBit_or, Nat.testBit_two_pow_self]
      | false => simp
    · cases hb : b i with
      | true =>
        rw [if_pos rfl, Nat.testBit_or, Nat.testBit_two_pow_of_ne e, Bool.or_false]
        by_cases h1 : i ≤ j
        · rw [decide_eq_true h1, decide_eq_true (show i + 1 ≤ j by omega)]
          by_cases h2 : j < i + (k + 1)
          · rw [decide_eq_true h2, decide_eq_true (show j < i + 1 + k by omega)]
          · rw [decide_eq_false h2, decide_eq_false (show ¬ j < i + 1 + k by omega)]
        · rw [decide_eq_false h1, decide_eq_false (show ¬ i + 1 ≤ j by omega), Bool.false_and, Bool.false_and, Bool.false_and, Bool.false_and]
      | false =>
        rw [if_neg (by decide)]
        by_cases h1 : i ≤ j
        · rw [decide_eq_true h1, decide_eq_true (show i + 1 ≤ j by omega)]
          by_cases h2 : j < i + (k + 1)
          · rw [decide_eq_true h2, decide_eq_true (show j < i + 1 + k by omega)]
          · rw [decide_eq_false h2, decide_eq_false (show ¬ j < i + 1 + k by omega)]
        · rw [decide_eq_false h1, decide_eq_false (show ¬ i + 1 ≤ j by omega), Bool.false_and, Bool.false_and, Bool.false_and, Bool.false_and]
theorem kv_pl {x i : Nat} (h : x < 2 ^ i) : x + 2 ^ i = x ||| 2 ^ i := by
  have e := Nat.two_pow_add_eq_or_of_lt h 1
  rw [Nat.mul_one] at e
  rw [Nat.add_comm, e, Nat.or_comm]
theorem kv_pl_lt {x i : Nat} (h : x < 2 ^ i) : x ||| 2 ^ i < 2 ^ (i + 1) := by
  rw [← kv_pl h, Nat.pow_succ]
  omega
/-- what a right covers from a machine, in the law's own words -/
theorem u_c64 (lm lr : Nat → Int32) (p1 : Int32) (r x i : Nat) (v q : Int32) (b : Bool) (k6 : Int32 → Int32 → Option Int32) (hr : r < 10) (hi : i < 5) (hx : x < 2 ^ i) (e4 : lr (6 * r + 4) = q) : pf_L_covers_64 lm lr (nI r) p1 k6 (nI x) (nI i) v (if b = true then 1 else 0) = k6 (nI (if (b && (!decide (v ≤ 0) && !decide (q < v))) = true then x ||| 2 ^ i else x)) (nI (i + 1)) := by
  have hp : 2 ^ i < 32 := Nat.pow_lt_pow_right (a := 2) (by decide) (show i < 5 from hi)
  have hz : nI x + 0 = nI x := by rw [← nI_0, nI_add, Nat.add_zero]
  unfold pf_L_covers_64 pf_L_covers_99 kv_T
  rw [kv_6i, kv_a4, kv_gN (show 6 * r + 4 < 60 by omega) (by omega), nI_clamp (show 6 * r + 4 < 2 ^ 31 by omega), e4, nI_1, hz, kv_bit (by omega), nI_add, kv_pl hx]
  cases b with
  | false => rw [if_neg (show ¬ (false = true) by decide), if_pos rfl]; rfl
  | true =>
    rw [if_pos rfl, if_neg (show ¬ ((1 : Int32) = 0) by decide)]
    by_cases c1 : v ≤ 0
    · rw [if_pos c1, decide_eq_true c1]; rfl
    · rw [if_neg c1, decide_eq_false c1]
      by_cases c2 : q < v
      · simp only [if_pos c2, decide_eq_true c2]; rfl
      · simp only [if_neg c2, decide_eq_false c2]; rfl
theorem u_cov6 (lm lr : Nat → Int32) (fo : Nat → Nat → Int32) (qp qm qv hs : Nat → Int32) (r p j : Nat) (hr : r < 10) (hp : p < 2) (e0 : lr (6 * r) = nI p) (e1 : lr (6 * r + 1) = qm r) (e4 : lr (6 * r + 4) = qv r) (eq : qp r = nI p) (hh : ∀ i, i < 5 → lm (4 * i + 1) = hs i) (hf : ∀ i, i < 5 → lm (4 * i + 2 + p) = fo i p) : ∀ (k f i x : Nat), i + k = 5 → k < f → x < 2 ^ i → pf_L_covers_6 lm lr (nI r) (nI j) f (nI x) (nI i) = some (nI (kv_or (kv_cb fo qp qm qv hs r (nI j)) i k x)) := by
  intro k
  induction k with
  | zero =>
    intro f i x hi hf hx
    obtain ⟨f, rfl⟩ : ∃ z, f = z + 1 := ⟨f - 1, by omega⟩
    rw [pf_L_covers_6.eq_2]
    unfold pf_L_covers_6b
    rw [if_pos ((kv_ge5 (by omega)).mpr (by omega))]
    rfl
  | succ k ih =>
    intro f i x hi hf2 hx
    obtain ⟨f, rfl⟩ : ∃ z, f = z + 1 := ⟨f - 1, by omega⟩
    have hi5 : i < 5 := by omega
    have key : ∀ b : Bool, (b = (decide (nI i = nI j) || (decide (qm r = 1) && decide (hs i = nI j)))) → pf_L_covers_64 lm lr (nI r) (nI j) (pf_L_covers_6 lm lr (nI r) (nI j) f) (nI x) (nI i) (fo i p) (if b = true then 1 else 0) = some (nI (kv_or (kv_cb fo qp qm qv hs r (nI j)) i (k + 1) x)) := by
      intro b hb
      rw [u_c64 lm lr (nI j) r x i (fo i p) (qv r) b _ hr hi5 hx e4]
      have hcb : (b && (!decide (fo i p ≤ 0) && !decide (qv r < fo i p))) = kv_cb fo qp qm qv hs r (nI j) i := by
        unfold kv_cb
        rw [eq, nI_clamp (show p < 2 ^ 31 by omega), hb]
      rw [hcb]
      show pf_L_covers_6 lm lr (nI r) (nI j) f _ (nI (i + 1)) = some (nI (kv_or (kv_cb fo qp qm qv hs r (nI j)) (i + 1) k (if kv_cb fo qp qm qv hs r (nI j) i = true then x ||| 2 ^ i else x)))
      refine ih f (i + 1) _ (by omega) (by omega) ?_
      split
      · exact kv_pl_lt hx
      · exact Nat.lt_trans hx (Nat.pow_lt_pow_right (a := 2) (by decide) (by omega))
    have kT := key true
    have kF := key false
    rw [if_pos rfl] at kT
    rw [if_neg (by decide)] at kF
    rw [pf_L_covers_6.eq_2]
    unfold pf_L_covers_6b
    rw [if_neg (fun c => by have := (kv_ge5 (by omega)).mp c; omega), kv_6i, kv_gN (show 6 * r < 60 by omega) (by omega), kv_T_s, nI_clamp (show 6 * r < 2 ^ 31 by omega), e0, kv_4i, kv_a2, nI_1, nI_add, kv_gN (show 4 * i + 2 + p < 20 by omega) (by omega), kv_T_s, nI_clamp (show 4 * i + 2 + p < 2 ^ 31 by omega), hf i hi5]
    by_cases c1 : nI i = nI j
    · rw [if_pos c1]
      exact kT (by rw [decide_eq_true c1]; rfl)
    · rw [if_neg c1, kv_gN (show 6 * r + 1 < 60 by omega) (by omega), kv_T_s, nI_1, kv_gN (show 4 * i + 1 < 20 by omega) (by omega), kv_T_s, nI_clamp (show 6 * r + 1 < 2 ^ 31 by omega), nI_clamp (show 4 * i + 1 < 2 ^ 31 by omega), e1, hh i hi5]
      by_cases c2 : qm r = 1
      · rw [if_pos c2]
        by_cases c3 : hs i = nI j
        · rw [if_pos c3]
          exact kT (by rw [decide_eq_true c2, decide_eq_true c3, Bool.and_true, Bool.or_true])
        · rw [if_neg c3]
          exact kF (by rw [decide_eq_false c1, decide_eq_false c3]; simp)
      · rw [if_neg c2]
        exact kF (by rw [decide_eq_false c1, decide_eq_false c2]; rfl)
theorem kv_cv5 {fo : Nat → Nat → Int32} {qp qm qv hs : Nat → Int32} {r p : Nat} {j : Int32} (hp : p < 2) (eq : qp r = nI p) (h5 : ∀ i, 5 ≤ i → i < 8 → fo i p = 0) : kv_cv fo qp qm qv hs r j = kv_or (kv_cb fo qp qm qv hs r j) 0 5 0 := by
  show kv_or (kv_cb fo qp qm qv hs r j) 0 (5 + 3) 0 = _
  rw [kv_or_split]
  refine kv_or_no 3 _ _ (fun i h1 h2 => ?_)
  unfold kv_cb
  rw [eq, nI_clamp (show p < 2 ^ 31 by omega), h5 i (by omega) (by omega), decide_eq_true (Int32.le_refl 0)]
  simp
theorem kv_cv32 {fo : Nat → Nat → Int32} {qp qm qv hs : Nat → Int32} {r p : Nat} {j : Int32} (hp : p < 2) (eq : qp r = nI p) (h5 : ∀ i, 5 ≤ i → i < 8 → fo i p = 0) : kv_cv fo qp qm qv hs r j < 32 := by
  rw [kv_cv5 hp eq h5]
  exact kv_or_lt2 _ 5 5 0 0 (by omega) (by decide)
theorem u_cov (lm lr : Nat → Int32) (fo : Nat → Nat → Int32) (qp qm qv hs : Nat → Int32) (r p j : Nat) (hr : r < 10) (hp : p < 2) (e0 : lr (6 * r) = nI p) (e1 : lr (6 * r + 1) = qm r) (e4 : lr (6 * r + 4) = qv r) (eq : qp r = nI p) (hh : ∀ i, i < 5 → lm (4 * i + 1) = hs i) (hf : ∀ i, i < 5 → lm (4 * i + 2 + p) = fo i p) (h5 : ∀ i, 5 ≤ i → i < 8 → fo i p = 0) : pf_L_covers lm lr (nI r) (nI j) = some (nI (kv_cv fo qp qm qv hs r (nI j))) := by
  rw [kv_cv5 hp eq h5]
  have h := u_cov6 lm lr fo qp qm qv hs r p j hr hp e0 e1 e4 eq hh hf 5 kv_F 0 0 (by omega) (by decide) (by decide)
  rw [nI_0] at h
  exact h
end KVL40
