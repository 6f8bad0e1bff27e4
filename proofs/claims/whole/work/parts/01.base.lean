theorem pk_us {f : Nat → Int32} {k : Nat} {x : Int32} : upd f k x k = x := if_pos rfl
theorem pk_un {f : Nat → Int32} {k j : Nat} {x : Int32} (h : j ≠ k) : upd f k x j = f j := if_neg h
theorem pk_sub {a b : Nat} (h : b ≤ a) : nI a - nI b = nI (a - b) := by
  obtain ⟨c, rfl⟩ : ∃ c, a = c + b := ⟨a - b, by omega⟩
  rw [← nI_add, Int32.add_sub_cancel, Nat.add_sub_cancel]
theorem pk_mul (a b : Nat) : nI a * nI b = nI (a * b) := (Int32.ofNat_mul a b).symm
theorem pk_div {a d : Nat} (ha : a < 2 ^ 31) (h0 : 0 < d) (hd : d < 2 ^ 31) : nI a / nI d = nI (a / d) := by
  apply Int32.toInt_inj.mp
  rw [lg_idiv_nonneg (by rw [nI_toInt ha]; omega) (by rw [nI_toInt hd]; omega), nI_toInt ha, nI_toInt hd, nI_toInt (Nat.lt_of_le_of_lt (Nat.div_le_self a d) ha)]
  first | rfl | exact (Int.natCast_ediv _ _).symm
theorem pk_rem {a d : Nat} (ha : a < 2 ^ 31) (h0 : 0 < d) (hd : d < 2 ^ 31) : nI a - nI a / nI d * nI d = nI (a % d) := by
  rw [pk_div ha h0 hd, pk_mul, pk_sub (Nat.div_mul_le_self a d)]
  exact congrArg nI (by have := Nat.div_add_mod' a d; omega)
theorem pk_ix (x : Int32) {n : Nat} (hn : n < 2 ^ 31) : x < 0 ∨ nI n ≤ x ∨ ∃ j : Nat, j < n ∧ x = nI j := by
  by_cases h : x < 0
  · exact Or.inl h
  · obtain ⟨j, hj, rfl⟩ := nI_of h
    by_cases h2 : j < n
    · exact Or.inr (Or.inr ⟨j, h2, rfl⟩)
    · exact Or.inr (Or.inl (nI_le (by omega) hj))
theorem pk_in {x : Int32} (n N : Nat) (h : n < N) (hx : x = nI n := by rfl) (hN : N < 2 ^ 31 := by omega) : vp_in x N := by
  subst hx
  exact vp_in_nI h hN
theorem pk_cl {x : Int32} (n : Nat) (hx : x = nI n := by rfl) (h : n < 2 ^ 31 := by omega) : x.toNatClampNeg = n := by
  subst hx
  exact nI_clamp h
theorem pk_and (x : Int32) {m : Int32} (k : Nat) (hm : m.toBitVec.toNat = 2 ^ k - 1) : x &&& m = nI (x.toBitVec.toNat % 2 ^ k) := by
  apply Int32.toBitVec_inj.mp
  apply BitVec.eq_of_toNat_eq
  rw [Int32.toBitVec_and, BitVec.toNat_and, hm, Nat.and_two_pow_sub_one_eq_mod]
  show _ = (BitVec.ofNat 32 _).toNat
  rw [BitVec.toNat_ofNat]
  exact (Nat.mod_eq_of_lt (Nat.lt_of_le_of_lt (Nat.mod_le _ _) x.toBitVec.isLt)).symm
theorem pk_andE (x : Int32) {m : Int32} (k : Nat) (hm : m.toBitVec.toNat = 2 ^ k - 1) : ∃ j : Nat, j < 2 ^ k ∧ x &&& m = nI j := ⟨_, Nat.mod_lt _ (Nat.two_pow_pos k), pk_and x k hm⟩

theorem om_10 : ¬ (1 : Int32) = 0 := by decide
theorem om_30 : ¬ (3 : Int32) = 0 := by decide
theorem om_40 : ¬ (4 : Int32) = 0 := by decide
theorem om_l2 : (2 : Int32) = nI 2 := by decide
theorem om_l3 : (3 : Int32) = nI 3 := by decide
theorem om_l4 : (4 : Int32) = nI 4 := by decide
theorem om_l8 : (8 : Int32) = nI 8 := by decide
theorem om_l12 : (12 : Int32) = nI 12 := by decide
theorem om_l32 : (32 : Int32) = nI 32 := by decide
theorem om_i8 (p q : Nat) : nI p * 8 + nI q = nI (p * 8 + q) := by rw [om_l8, pk_mul, nI_add]
theorem om_ip (p f i : Nat) : nI p * 8 + nI f + nI i = nI (p * 8 + f + i) := by rw [om_i8, nI_add]
theorem om_i32 (p q : Nat) : nI p * 32 + nI q = nI (p * 32 + q) := by rw [om_l32, pk_mul, nI_add]
theorem om_w (p q : Nat) : nI p * 32 + nI q * 4 = nI (p * 32 + q * 4) := by rw [om_l4, pk_mul, om_i32]
theorem om_iw (p q i : Nat) : nI p * 32 + nI q * 4 + nI i = nI (p * 32 + q * 4 + i) := by rw [om_w, nI_add]
theorem om_m4 (q : Nat) : nI q * 4 = nI (q * 4) := by rw [om_l4, pk_mul]
theorem om_m12 (q : Nat) : nI q * 12 = nI (q * 12) := by rw [om_l12, pk_mul]
theorem om_m3 (q : Nat) : nI q * 3 = nI (q * 3) := by rw [om_l3, pk_mul]
theorem om_m8 (q : Nat) : nI q * 8 = nI (q * 8) := by rw [om_l8, pk_mul]
theorem om_m32 (q : Nat) : nI q * 32 = nI (q * 32) := by rw [om_l32, pk_mul]
theorem om_i12 (m i : Nat) : nI m * 12 + nI i = nI (m * 12 + i) := by rw [om_m12, nI_add]
theorem om_i12b (m i : Nat) : nI m * 12 + 12 + nI i = nI (m * 12 + 12 + i) := by rw [om_m12, om_l12, nI_add, nI_add]
theorem om_e8 (p : Nat) : nI p * 8 + 8 = nI (p * 8 + 8) := by rw [om_m8, om_l8, nI_add]
theorem om_e32 (p : Nat) : nI p * 32 + 32 = nI (p * 32 + 32) := by rw [om_m32, om_l32, nI_add]
theorem om_e3 (p : Nat) : nI p * 3 + 2 = nI (p * 3 + 2) := by rw [om_m3, om_l2, nI_add]
theorem om_d4 {a : Nat} (h : a < 32) : nI a / 4 = nI (a / 4) := by rw [om_l4]; exact pk_div (by omega) (by omega) (by omega)
theorem om_r3 {a : Nat} (h : a < 100) : nI a - nI a / 3 * 3 = nI (a % 3) := by rw [om_l3]; exact pk_rem (by omega) (by omega) (by omega)
theorem om_leE {x y : Int32} {a b : Nat} (hx : x = nI a) (hy : y = nI b) (h : a ≤ b) (hb : b < 2 ^ 31) : x ≤ y := by
  subst hx hy; exact nI_le h hb
theorem om_gtE {x y : Int32} {a b : Nat} (hx : x = nI a) (hy : y = nI b) (h : b < a) (ha : a < 2 ^ 31) : ¬ x ≤ y := by
  subst hx hy; exact nI_ge h ha
theorem om_big {x : Int32} {n : Nat} (hn : n + 1 < 2 ^ 31) (h : nI (n + 1) ≤ x) : ¬ x < 0 ∧ ¬ x ≤ nI n ∧ nI n < x := by
  have h0 : ¬ x < 0 := fun h1 => nI_pos hn (Int32.lt_of_le_of_lt h h1)
  obtain ⟨j, hj, rfl⟩ := nI_of h0
  rw [nI_leI hn hj] at h
  refine ⟨h0, fun h2 => ?_, nI_lt (by omega) hj⟩
  rw [nI_leI hj (by omega)] at h2
  omega
theorem om_ix (x : Int32) {n : Nat} (hn : n < 2 ^ 31) : (x < 0 ∨ nI n ≤ x) ∨ ∃ j : Nat, j < n ∧ x = nI j := by
  rcases pk_ix x hn with h | h | h
  · exact Or.inl (Or.inl h)
  · exact Or.inl (Or.inr h)
  · exact Or.inr h
theorem om_at {a : Nat → Int32} {x v : Int32} {n : Nat} (hx : x = nI n) (hn : n < 2 ^ 31) (h : a n = v) : a x.toNatClampNeg = v := by
  rw [pk_cl n hx hn]; exact h
theorem om_nt {a : Nat → Int32} {x v : Int32} {n : Nat} (hx : x = nI n) (hn : n < 2 ^ 31) (h : ¬ a n = v) : ¬ a x.toNatClampNeg = v := by
  rw [pk_cl n hx hn]; exact h
theorem om_u {a : Nat → Int32} {x v w : Int32} {n : Nat} (hx : x = nI n) (hn : n < 2 ^ 31) (hv : v = w) : upd a x.toNatClampNeg v = upd a n w := by
  rw [pk_cl n hx hn, hv]
/-- d steps of a loop over an array, from the counter i on -/
def om_it (f : Nat → (Nat → Int32) → Nat → Int32) : Nat → Nat → (Nat → Int32) → Nat → Int32
  | 0, _, a => a
  | d + 1, i, a => om_it f d (i + 1) (f i a)
/-- how many of d cells from b on are not 0 -/
def om_cnt (a : Nat → Int32) : Nat → Nat → Nat
  | 0, _ => 0
  | d + 1, b => (if a b = 0 then 0 else 1) + om_cnt a d (b + 1)
theorem om_cz {a : Nat → Int32} {d b : Nat} (h : a b = 0) : om_cnt a (d + 1) b = om_cnt a d (b + 1) := by
  show (if a b = 0 then 0 else 1) + om_cnt a d (b + 1) = _
  rw [if_pos h, Nat.zero_add]
theorem om_cs {a : Nat → Int32} {d b : Nat} (h : ¬ a b = 0) : om_cnt a (d + 1) b = 1 + om_cnt a d (b + 1) := by
  show (if a b = 0 then 0 else 1) + om_cnt a d (b + 1) = _
  rw [if_neg h]
theorem om_cle (a : Nat → Int32) : ∀ d b, om_cnt a d b ≤ d := by
  intro d
  induction d with
  | zero => intro b; exact Nat.le_refl _
  | succ d ih =>
    intro b
    have := ih (b + 1)
    by_cases h : a b = 0
    · rw [om_cz h]; omega
    · rw [om_cs h]; omega
theorem om_itc {f g : Nat → (Nat → Int32) → Nat → Int32} : ∀ d i a, (∀ k, i ≤ k → k < i + d → f k = g k) → om_it f d i a = om_it g d i a := by
  intro d
  induction d with
  | zero => intro i a _; rfl
  | succ d ih =>
    intro i a h
    show om_it f d (i + 1) (f i a) = om_it g d (i + 1) (g i a)
    rw [h i (by omega) (by omega)]
    exact ih (i + 1) _ (fun k h1 h2 => h k (by omega) (by omega))
theorem om_itf (g : Nat → Int32) (t : Nat) : ∀ d i a j, om_it (fun i a => upd a (t + i) (g i)) d i a j = if t + i ≤ j ∧ j < t + i + d then g (j - t) else a j := by
  intro d
  induction d with
  | zero => intro i a j; rw [if_neg (by omega)]; rfl
  | succ d ih =>
    intro i a j
    show om_it _ d (i + 1) (upd a (t + i) (g i)) j = _
    rw [ih]
    by_cases h1 : j = t + i
    · subst h1
      rw [if_neg (by omega), if_pos (by omega), pk_us, show t + i - t = i from by omega]
    · rw [pk_un h1]
      by_cases h2 : t + (i + 1) ≤ j ∧ j < t + (i + 1) + d
      · rw [if_pos h2, if_pos (by omega)]
      · rw [if_neg h2, if_neg (by omega)]
theorem om_its (t : Nat) : ∀ d i a j, i + d ≤ 12 → om_it (fun i a => upd a (t + i) (a (t + 12 + i))) d i a j = if t + i ≤ j ∧ j < t + i + d then a (j + 12) else a j := by
  intro d
  induction d with
  | zero => intro i a j _; rw [if_neg (by omega)]; rfl
  | succ d ih =>
    intro i a j hd
    show om_it _ d (i + 1) (upd a (t + i) (a (t + 12 + i))) j = _
    rw [ih _ _ _ (by omega)]
    by_cases h1 : j = t + i
    · subst h1
      rw [if_neg (by omega), if_pos (by omega), pk_us, show t + i + 12 = t + 12 + i from by omega]
    · rw [pk_un h1]
      by_cases h2 : t + (i + 1) ≤ j ∧ j < t + (i + 1) + d
      · rw [if_pos h2, if_pos (by omega), pk_un (show j + 12 ≠ t + i from by omega)]
      · rw [if_neg h2, if_neg (by omega)]
