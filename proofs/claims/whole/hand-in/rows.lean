section
theorem pk_us {f : Nat → Int32} {k : Nat} {x : Int32} : upd f k x k = x := if_pos rfl
theorem pk_un {f : Nat → Int32} {k j : Nat} {x : Int32} (h : j ≠ k) : upd f k x j = f j := if_neg h
theorem pk_sub {a b : Nat} (h : b ≤ a) : nI a - nI b = nI (a - b) := by
  obtain ⟨c, rfl⟩ : ∃ c, a = c + b := ⟨a - b, by omega⟩
  rw [← nI_add, Int32.add_sub_cancel, Nat.add_sub_cancel]
theorem pk_mul (a b : Nat) : nI a * nI b = nI (a * b) := (Int32.ofNat_mul a b).symm
theorem pk_div {a d : Nat} (ha : a < 2 ^ 31) (h0 : 0 < d) (hd : d < 2 ^ 31) : nI a / nI d = nI (a / d) := by
  apply Int32.toInt_inj.mp
  rw [lg_idiv_nonneg (by rw [nI_toInt ha]; omega) (by rw [nI_toInt hd]; omega), nI_toInt ha, nI_toInt hd, nI_toInt (Nat.lt_of_le_of_lt (Nat.div_le_self a d) ha)]
  first | rfl | exact (Int.natCast_ediv _ _).symm
theorem pk_rem {a d : Nat} (ha : a < 2 ^ 31) (h0 : 0 < d) (hd : d < 2 ^ 31) : nI a - nI a / nI d * nI d = nI (a % d) := by
  rw [pk_div ha h0 hd, pk_mul, pk_sub (Nat.div_mul_le_self a d)]
  exact congrArg nI (by have := Nat.div_add_mod' a d; omega)
theorem pk_ix (x : Int32) {n : Nat} (hn : n < 2 ^ 31) : x < 0 ∨ nI n ≤ x ∨ ∃ j : Nat, j < n ∧ x = nI j := by
  by_cases h : x < 0
  · exact Or.inl h
  · obtain ⟨j, hj, rfl⟩ := nI_of h
    by_cases h2 : j < n
    · exact Or.inr (Or.inr ⟨j, h2, rfl⟩)
    · exact Or.inr (Or.inl (nI_le (by omega) hj))
theorem pk_in {x : Int32} (n N : Nat) (h : n < N) (hx : x = nI n := by rfl) (hN : N < 2 ^ 31 := by omega) : vp_in x N := by
  subst hx
  exact vp_in_nI h hN
theorem pk_cl {x : Int32} (n : Nat) (hx : x = nI n := by rfl) (h : n < 2 ^ 31 := by omega) : x.toNatClampNeg = n := by
  subst hx
  exact nI_clamp h
theorem pk_and (x : Int32) {m : Int32} (k : Nat) (hm : m.toBitVec.toNat = 2 ^ k - 1) : x &&& m = nI (x.toBitVec.toNat % 2 ^ k) := by
  apply Int32.toBitVec_inj.mp
  apply BitVec.eq_of_toNat_eq
  rw [Int32.toBitVec_and, BitVec.toNat_and, hm, Nat.and_two_pow_sub_one_eq_mod]
  show _ = (BitVec.ofNat 32 _).toNat
  rw [BitVec.toNat_ofNat]
  exact (Nat.mod_eq_of_lt (Nat.lt_of_le_of_lt (Nat.mod_le _ _) x.toBitVec.isLt)).symm
theorem pk_andE (x : Int32) {m : Int32} (k : Nat) (hm : m.toBitVec.toNat = 2 ^ k - 1) : ∃ j : Nat, j < 2 ^ k ∧ x &&& m = nI j := ⟨_, Nat.mod_lt _ (Nat.two_pow_pos k), pk_and x k hm⟩

theorem om_10 : ¬ (1 : Int32) = 0 := by decide
theorem om_30 : ¬ (3 : Int32) = 0 := by decide
theorem om_40 : ¬ (4 : Int32) = 0 := by decide
theorem om_l2 : (2 : Int32) = nI 2 := by decide
theorem om_l3 : (3 : Int32) = nI 3 := by decide
theorem om_l4 : (4 : Int32) = nI 4 := by decide
theorem om_l8 : (8 : Int32) = nI 8 := by decide
theorem om_l12 : (12 : Int32) = nI 12 := by decide
theorem om_l32 : (32 : Int32) = nI 32 := by decide
theorem om_i8 (p q : Nat) : nI p * 8 + nI q = nI (p * 8 + q) := by rw [om_l8, pk_mul, nI_add]
theorem om_ip (p f i : Nat) : nI p * 8 + nI f + nI i = nI (p * 8 + f + i) := by rw [om_i8, nI_add]
theorem om_i32 (p q : Nat) : nI p * 32 + nI q = nI (p * 32 + q) := by rw [om_l32, pk_mul, nI_add]
theorem om_w (p q : Nat) : nI p * 32 + nI q * 4 = nI (p * 32 + q * 4) := by rw [om_l4, pk_mul, om_i32]
theorem om_iw (p q i : Nat) : nI p * 32 + nI q * 4 + nI i = nI (p * 32 + q * 4 + i) := by rw [om_w, nI_add]
theorem om_m4 (q : Nat) : nI q * 4 = nI (q * 4) := by rw [om_l4, pk_mul]
theorem om_m12 (q : Nat) : nI q * 12 = nI (q * 12) := by rw [om_l12, pk_mul]
theorem om_m3 (q : Nat) : nI q * 3 = nI (q * 3) := by rw [om_l3, pk_mul]
theorem om_m8 (q : Nat) : nI q * 8 = nI (q * 8) := by rw [om_l8, pk_mul]
theorem om_m32 (q : Nat) : nI q * 32 = nI (q * 32) := by rw [om_l32, pk_mul]
theorem om_i12 (m i : Nat) : nI m * 12 + nI i = nI (m * 12 + i) := by rw [om_m12, nI_add]
theorem om_i12b (m i : Nat) : nI m * 12 + 12 + nI i = nI (m * 12 + 12 + i) := by rw [om_m12, om_l12, nI_add, nI_add]
theorem om_e8 (p : Nat) : nI p * 8 + 8 = nI (p * 8 + 8) := by rw [om_m8, om_l8, nI_add]
theorem om_e32 (p : Nat) : nI p * 32 + 32 = nI (p * 32 + 32) := by rw [om_m32, om_l32, nI_add]
theorem om_e3 (p : Nat) : nI p * 3 + 2 = nI (p * 3 + 2) := by rw [om_m3, om_l2, nI_add]
theorem om_d4 {a : Nat} (h : a < 32) : nI a / 4 = nI (a / 4) := by rw [om_l4]; exact pk_div (by omega) (by omega) (by omega)
theorem om_r3 {a : Nat} (h : a < 100) : nI a - nI a / 3 * 3 = nI (a % 3) := by rw [om_l3]; exact pk_rem (by omega) (by omega) (by omega)
theorem om_leE {x y : Int32} {a b : Nat} (hx : x = nI a) (hy : y = nI b) (h : a ≤ b) (hb : b < 2 ^ 31) : x ≤ y := by
  subst hx hy; exact nI_le h hb
theorem om_gtE {x y : Int32} {a b : Nat} (hx : x = nI a) (hy : y = nI b) (h : b < a) (ha : a < 2 ^ 31) : ¬ x ≤ y := by
  subst hx hy; exact nI_ge h ha
theorem om_big {x : Int32} {n : Nat} (hn : n + 1 < 2 ^ 31) (h : nI (n + 1) ≤ x) : ¬ x < 0 ∧ ¬ x ≤ nI n ∧ nI n < x := by
  have h0 : ¬ x < 0 := fun h1 => nI_pos hn (Int32.lt_of_le_of_lt h h1)
  obtain ⟨j, hj, rfl⟩ := nI_of h0
  rw [nI_leI hn hj] at h
  refine ⟨h0, fun h2 => ?_, nI_lt (by omega) hj⟩
  rw [nI_leI hj (by omega)] at h2
  omega
theorem om_ix (x : Int32) {n : Nat} (hn : n < 2 ^ 31) : (x < 0 ∨ nI n ≤ x) ∨ ∃ j : Nat, j < n ∧ x = nI j := by
  rcases pk_ix x hn with h | h | h
  · exact Or.inl (Or.inl h)
  · exact Or.inl (Or.inr h)
  · exact Or.inr h
theorem om_at {a : Nat → Int32} {x v : Int32} {n : Nat} (hx : x = nI n) (hn : n < 2 ^ 31) (h : a n = v) : a x.toNatClampNeg = v := by
  rw [pk_cl n hx hn]; exact h
theorem om_nt {a : Nat → Int32} {x v : Int32} {n : Nat} (hx : x = nI n) (hn : n < 2 ^ 31) (h : ¬ a n = v) : ¬ a x.toNatClampNeg = v := by
  rw [pk_cl n hx hn]; exact h
theorem om_u {a : Nat → Int32} {x v w : Int32} {n : Nat} (hx : x = nI n) (hn : n < 2 ^ 31) (hv : v = w) : upd a x.toNatClampNeg v = upd a n w := by
  rw [pk_cl n hx hn, hv]
/-- d steps of a loop over an array, from the counter i on -/
def om_it (f : Nat → (Nat → Int32) → Nat → Int32) : Nat → Nat → (Nat → Int32) → Nat → Int32
  | 0, _, a => a
  | d + 1, i, a => om_it f d (i + 1) (f i a)
/-- how many of d cells from b on are not 0 -/
def om_cnt (a : Nat → Int32) : Nat → Nat → Nat
  | 0, _ => 0
  | d + 1, b => (if a b = 0 then 0 else 1) + om_cnt a d (b + 1)
theorem om_cz {a : Nat → Int32} {d b : Nat} (h : a b = 0) : om_cnt a (d + 1) b = om_cnt a d (b + 1) := by
  show (if a b = 0 then 0 else 1) + om_cnt a d (b + 1) = _
  rw [if_pos h, Nat.zero_add]
theorem om_cs {a : Nat → Int32} {d b : Nat} (h : ¬ a b = 0) : om_cnt a (d + 1) b = 1 + om_cnt a d (b + 1) := by
  show (if a b = 0 then 0 else 1) + om_cnt a d (b + 1) = _
  rw [if_neg h]
theorem om_cle (a : Nat → Int32) : ∀ d b, om_cnt a d b ≤ d := by
  intro d
  induction d with
  | zero => intro b; exact Nat.le_refl _
  | succ d ih =>
    intro b
    have := ih (b + 1)
    by_cases h : a b = 0
    · rw [om_cz h]; omega
    · rw [om_cs h]; omega
theorem om_itc {f g : Nat → (Nat → Int32) → Nat → Int32} : ∀ d i a, (∀ k, i ≤ k → k < i + d → f k = g k) → om_it f d i a = om_it g d i a := by
  intro d
  induction d with
  | zero => intro i a _; rfl
  | succ d ih =>
    intro i a h
    show om_it f d (i + 1) (f i a) = om_it g d (i + 1) (g i a)
    rw [h i (by omega) (by omega)]
    exact ih (i + 1) _ (fun k h1 h2 => h k (by omega) (by omega))
theorem om_itf (g : Nat → Int32) (t : Nat) : ∀ d i a j, om_it (fun i a => upd a (t + i) (g i)) d i a j = if t + i ≤ j ∧ j < t + i + d then g (j - t) else a j := by
  intro d
  induction d with
  | zero => intro i a j; rw [if_neg (by omega)]; rfl
  | succ d ih =>
    intro i a j
    show om_it _ d (i + 1) (upd a (t + i) (g i)) j = _
    rw [ih]
    by_cases h1 : j = t + i
    · subst h1
      rw [if_neg (by omega), if_pos (by omega), pk_us, show t + i - t = i from by omega]
    · rw [pk_un h1]
      by_cases h2 : t + (i + 1) ≤ j ∧ j < t + (i + 1) + d
      · rw [if_pos h2, if_pos (by omega)]
      · rw [if_neg h2, if_neg (by omega)]
theorem om_its (t : Nat) : ∀ d i a j, i + d ≤ 12 → om_it (fun i a => upd a (t + i) (a (t + 12 + i))) d i a j = if t + i ≤ j ∧ j < t + i + d then a (j + 12) else a j := by
  intro d
  induction d with
  | zero => intro i a j _; rw [if_neg (by omega)]; rfl
  | succ d ih =>
    intro i a j hd
    show om_it _ d (i + 1) (upd a (t + i) (a (t + 12 + i))) j = _
    rw [ih _ _ _ (by omega)]
    by_cases h1 : j = t + i
    · subst h1
      rw [if_neg (by omega), if_pos (by omega), pk_us, show t + i + 12 = t + 12 + i from by omega]
    · rw [pk_un h1]
      by_cases h2 : t + (i + 1) ≤ j ∧ j < t + (i + 1) + d
      · rw [if_pos h2, if_pos (by omega), pk_un (show j + 12 ≠ t + i from by omega)]
      · rw [if_neg h2, if_neg (by omega)]
end
section
section
variable {P W L T SM SW O C IX PX MX IY PY MY : Nat → Int32}

theorem om_xp {post : Int32 → Prop} {p : Nat} (hp : p < 3) (h : post 1) : wpX_isProcess post (nI p) :=
  br_f (nI_pos (by omega)) (br_f (nI_ge (b := 3) hp (by decide)) h)
theorem om_xpB {post : Int32 → Prop} {x : Int32} (hx : x < 0 ∨ nI 3 ≤ x) (h : post 0) : wpX_isProcess post x :=
  br_c (fun _ => h) (fun h0 => br_t (hx.resolve_left h0) h)
theorem om_xo {post : Int32 → Prop} {p : Nat} (hp : p < 3) (h : post 1) : wpX_isPort post (nI p) :=
  br_f (nI_pos (by omega)) (br_f (nI_ge (b := 3) hp (by decide)) h)
theorem om_xoB {post : Int32 → Prop} {x : Int32} (hx : x < 0 ∨ nI 3 ≤ x) (h : post 0) : wpX_isPort post x :=
  br_c (fun _ => h) (fun h0 => br_t (hx.resolve_left h0) h)
theorem om_xg {post : Int32 → Prop} {p : Nat} (hp : p < 8) (h : post 1) : wpX_isPage post (nI p) :=
  br_f (nI_pos (by omega)) (br_f (nI_ge (b := 8) hp (by decide)) h)
theorem om_xgB {post : Int32 → Prop} {x : Int32} (hx : x < 0 ∨ nI 8 ≤ x) (h : post 0) : wpX_isPage post x :=
  br_c (fun _ => h) (fun h0 => br_t (hx.resolve_left h0) h)
theorem om_xa {post : Int32 → Prop} {p : Nat} (hp : p < 32) (h : post 1) : wpX_isAddress post (nI p) :=
  br_f (nI_pos (by omega)) (br_f (nI_ge (b := 32) hp (by decide)) h)
theorem om_xaB {post : Int32 → Prop} {x : Int32} (hx : x < 0 ∨ nI 32 ≤ x) (h : post 0) : wpX_isAddress post x :=
  br_c (fun _ => h) (fun h0 => br_t (hx.resolve_left h0) h)
theorem om_xi {post : Int32 → Prop} {x y : Int32} {p q : Nat} (hx : x = nI p) (hy : y = nI q) (h : post (nI (p * 8 + q))) : wpX_pageIndex post x y := by
  subst hx hy
  unfold wpX_pageIndex
  rw [om_i8]
  exact h
theorem om_xw {post : Int32 → Prop} {x y : Int32} {p q : Nat} (hx : x = nI p) (hy : y = nI q) (h : post (nI (p * 32 + q * 4))) : wpX_wordIndex post x y := by
  subst hx hy
  unfold wpX_wordIndex
  rw [om_w]
  exact h
theorem om_xs {post : Int32 → Prop} {x : Int32} {p o c : Nat} (hp : p < 3) (ho : O p = nI o) (hc : x = nI c) (ho3 : o < 3) (hc3 : c ≤ 3) (h : post (nI (p * 3 + (o + c) % 3))) : wpX_slotIndex post (P, W, L, T, SM, SW, O, C, IX, PX, MX) (nI p) x := by
  subst hc
  unfold wpX_slotIndex
  refine ⟨vp_in_nI hp (by omega), om_30, ?_⟩
  rw [nI_clamp (show p < 2 ^ 31 by omega), ho, nI_add, om_r3 (by omega), om_m3, nI_add]
  exact h
theorem om_xclL {post : SX → Prop} {b : Nat} (hb : b + 4 ≤ 96) : ∀ (d i : Nat) (W : Nat → Int32), i + d = 4 → post (P, om_it (fun i a => upd a (b + i) 0) d i W, L, T, SM, SW, O, C, IX, PX, MX) → wX_clearPage_9 post (nI b) (d + 1) (nI i) P W L T SM SW O C IX PX MX := by
  intro d
  induction d with
  | zero =>
    intro i W e h
    obtain rfl : i = 4 := by omega
    exact br_t (nI_le (a := 4) (b := 4) (by omega) (by omega)) h
  | succ d ih =>
    intro i W e h
    exact br_f (nI_ge (b := 4) (by omega) (by omega)) ⟨pk_in (b + i) 96 (by omega) (nI_add b i), nm_r (om_u (nI_add b i) (by omega) rfl) (nm_r (nI_1 i) (ih (i + 1) _ (by omega) h))⟩
theorem om_xcl {post : SX → Prop} {p q : Nat} (hp : p < 3) (hq : q < 8) (h : post (P, om_it (fun i a => upd a (p * 32 + q * 4 + i) 0) 4 0 W, L, T, SM, SW, O, C, IX, PX, MX)) : wpX_clearPage post (P, W, L, T, SM, SW, O, C, IX, PX, MX) (nI p) (nI q) := by
  unfold wpX_clearPage
  exact om_xw rfl rfl ⟨5, om_xclL (by omega) 4 0 W rfl h⟩
theorem om_xcfL {post : Int32 → Prop} {p f q : Nat} (hp : p < 3) (hf : f + q ≤ 8) : ∀ (d i c : Nat), i + d = q → post (nI (c + om_cnt P d (p * 8 + f + i))) → wX_countMappedFrom_6 post (nI p) (nI f) (nI q) P W L T SM SW O C IX PX MX (d + 1) (nI c) (nI (f + i)) := by
  intro d
  induction d with
  | zero =>
    intro i c e h
    obtain rfl : i = q := by omega
    exact br_t (om_leE (nI_add f i) rfl (by omega) (by omega)) h
  | succ d ih =>
    intro i c e h
    refine br_f (om_gtE (nI_add f q) rfl (by omega) (by omega)) (om_xi rfl rfl ⟨vp_in_nI (by omega) (by omega), ?_⟩)
    by_cases z : P (p * 8 + (f + i)) = 0
    · refine br_t (om_at rfl (by omega) z) (nm_r (nI_1 (f + i)) (ih (i + 1) c (by omega) ?_))
      rw [om_cz (by rw [show p * 8 + f + i = p * 8 + (f + i) from by omega]; exact z)] at h
      exact h
    · refine br_f (om_nt rfl (by omega) z) (nm_r (nI_1 c) (nm_r (nI_1 (f + i)) (ih (i + 1) (c + 1) (by omega) ?_)))
      rw [om_cs (by rw [show p * 8 + f + i = p * 8 + (f + i) from by omega]; exact z)] at h
      rw [Nat.add_assoc c 1]
      exact h
theorem om_xcf {post : Int32 → Prop} {p f q : Nat} (hp : p < 3) (hf : f + q ≤ 8) (h : post (nI (om_cnt P q (p * 8 + f)))) : wpX_countMappedFrom post (P, W, L, T, SM, SW, O, C, IX, PX, MX) (nI p) (nI f) (nI q) :=
  ⟨q + 1, om_xcfL hp hf q 0 0 (by omega) (by rw [Nat.zero_add]; exact h)⟩
theorem om_xc {post : Int32 → Prop} {p : Nat} (hp : p < 3) (h : post (nI (om_cnt P 8 (p * 8)))) : wpX_countMapped post (P, W, L, T, SM, SW, O, C, IX, PX, MX) (nI p) :=
  om_xcf (f := 0) (q := 8) hp (by omega) h
theorem om_xmpL {post : SX → Prop} {p f q : Nat} (hp : p < 3) (hf : f + q ≤ 8) : ∀ (d i : Nat) (P : Nat → Int32), i + d = q → post (om_it (fun i a => upd a (p * 8 + f + i) (vp_nar .boolean 1)) d i P, W, L, T, SM, SW, O, C, IX, PX, MX) → wX_mapPages_3 post (nI p) (nI f) (nI q) (d + 1) (nI (f + i)) P W L T SM SW O C IX PX MX := by
  intro d
  induction d with
  | zero =>
    intro i P e h
    obtain rfl : i = q := by omega
    exact br_t (om_leE (nI_add f i) rfl (by omega) (by omega)) h
  | succ d ih =>
    intro i P e h
    exact br_f (om_gtE (nI_add f q) rfl (by omega) (by omega)) (om_xi rfl rfl ⟨vp_in_nI (by omega) (by omega), nm_r (om_u (n := p * 8 + f + i) (congrArg nI (by omega)) (by omega) rfl) (nm_r (nI_1 (f + i)) (ih (i + 1) _ (by omega) h))⟩)
theorem om_xmp {post : SX → Prop} {p f q : Nat} (hp : p < 3) (hf : f + q ≤ 8) (h : post (om_it (fun i a => upd a (p * 8 + f + i) (vp_nar .boolean 1)) q 0 P, W, L, T, SM, SW, O, C, IX, PX, MX)) : wpX_mapPages post (P, W, L, T, SM, SW, O, C, IX, PX, MX) (nI p) (nI f) (nI q) :=
  ⟨q + 1, om_xmpL hp hf q 0 P (by omega) h⟩
theorem om_xuaL {post : SX → Prop} {p : Nat} (hp : p < 3) : ∀ (d i : Nat) (P : Nat → Int32), i + d = 8 → post (om_it (fun i a => upd a (p * 8 + i) (vp_nar .boolean 0)) d i P, W, L, T, SM, SW, O, C, IX, PX, MX) → wX_unmapAll_2 post (nI p) (d + 1) (nI i) P W L T SM SW O C IX PX MX := by
  intro d
  induction d with
  | zero =>
    intro i P e h
    obtain rfl : i = 8 := by omega
    exact br_t (nI_le (a := 8) (b := 8) (by omega) (by omega)) h
  | succ d ih =>
    intro i P e h
    exact br_f (nI_ge (b := 8) (by omega) (by omega)) (om_xi rfl rfl ⟨vp_in_nI (by omega) (by omega), nm_r (om_u rfl (by omega) rfl) (nm_r (nI_1 i) (ih (i + 1) _ (by omega) h))⟩)
theorem om_xua {post : SX → Prop} {p : Nat} (hp : p < 3) (h : post (om_it (fun i a => upd a (p * 8 + i) (vp_nar .boolean 0)) 8 0 P, W, L, T, SM, SW, O, C, IX, PX, MX)) : wpX_unmapAll post (P, W, L, T, SM, SW, O, C, IX, PX, MX) (nI p) :=
  ⟨9, om_xuaL hp 8 0 P rfl h⟩
theorem om_xdo {post : SX → Prop} {p o c : Nat} (hp : p < 3) (ho : O p = nI o) (ho3 : o < 3) (hc : C p = nI (c + 1)) (h : post (P, W, L, T, SM, SW, upd O p (nI ((o + 1) % 3)), upd C p (nI c), IX, PX, MX)) : wpX_dropOldest post (P, W, L, T, SM, SW, O, C, IX, PX, MX) (nI p) := by
  have hi : vp_in (nI p) 3 := vp_in_nI hp (by omega)
  have e : (nI p).toNatClampNeg = p := nI_clamp (by omega)
  unfold wpX_dropOldest
  refine ⟨hi, om_30, hi, nm_r (e' := upd O p (nI ((o + 1) % 3))) ?_ ⟨hi, hi, nm_r (e' := upd C p (nI c)) ?_ h⟩⟩
  · rw [e, ho, nI_1, om_r3 (by omega)]
  · rw [e, hc, nI_pred]

theorem om_cw_words_wordsL {post : SX → Prop} {s t n : Nat} (hs : s + n ≤ 96) (ht : t + n ≤ 96) : ∀ (d i : Nat) (W : Nat → Int32), i + d = n → post (P, om_it (fun i a => upd a (t + i) (a (s + i))) d i W, L, T, SM, SW, O, C, IX, PX, MX) → wX_copyWords__words_words_3 post (nI s) (nI t) (nI n) (d + 1) (nI i) P W L T SM SW O C IX PX MX := by
  intro d
  induction d with
  | zero =>
    intro i W e h
    obtain rfl : i = n := by omega
    exact br_t (nI_le (by omega) (by omega)) h
  | succ d ih =>
    intro i W e h
    exact br_f (nI_ge (by omega) (by omega)) ⟨pk_in (s + i) 96 (by omega) (nI_add s i), pk_in (t + i) 96 (by omega) (nI_add t i), nm_r (om_u (nI_add t i) (by omega) (om_at (nI_add s i) (by omega) rfl)) (nm_r (nI_1 i) (ih (i + 1) _ (by omega) h))⟩
theorem om_cw_words_words {post : SX → Prop} {x y z : Int32} {s t n : Nat} (hx : x = nI s) (hy : y = nI t) (hz : z = nI n) (hs : s + n ≤ 96) (ht : t + n ≤ 96) (h : post (P, om_it (fun i a => upd a (t + i) (a (s + i))) n 0 W, L, T, SM, SW, O, C, IX, PX, MX)) : wpX_copyWords__words_words post (P, W, L, T, SM, SW, O, C, IX, PX, MX) x y z := by
  subst hx hy hz
  exact ⟨n + 1, om_cw_words_wordsL hs ht n 0 W (by omega) h⟩

theorem om_cw_words_messageWordsL {post : SX → Prop} {s t n : Nat} (hs : s + n ≤ 96) (ht : t + n ≤ 108) : ∀ (d i : Nat) (MX : Nat → Int32), i + d = n → post (P, W, L, T, SM, SW, O, C, IX, PX, om_it (fun i a => upd a (t + i) (W (s + i))) d i MX) → wX_copyWords__words_messageWords_3 post (nI s) (nI t) (nI n) (d + 1) (nI i) P W L T SM SW O C IX PX MX := by
  intro d
  induction d with
  | zero =>
    intro i MX e h
    obtain rfl : i = n := by omega
    exact br_t (nI_le (by omega) (by omega)) h
  | succ d ih =>
    intro i MX e h
    exact br_f (nI_ge (by omega) (by omega)) ⟨pk_in (s + i) 96 (by omega) (nI_add s i), pk_in (t + i) 108 (by omega) (nI_add t i), nm_r (om_u (nI_add t i) (by omega) (om_at (nI_add s i) (by omega) rfl)) (nm_r (nI_1 i) (ih (i + 1) _ (by omega) h))⟩
theorem om_cw_words_messageWords {post : SX → Prop} {x y z : Int32} {s t n : Nat} (hx : x = nI s) (hy : y = nI t) (hz : z = nI n) (hs : s + n ≤ 96) (ht : t + n ≤ 108) (h : post (P, W, L, T, SM, SW, O, C, IX, PX, om_it (fun i a => upd a (t + i) (W (s + i))) n 0 MX)) : wpX_copyWords__words_messageWords post (P, W, L, T, SM, SW, O, C, IX, PX, MX) x y z := by
  subst hx hy hz
  exact ⟨n + 1, om_cw_words_messageWordsL hs ht n 0 MX (by omega) h⟩

theorem om_cw_messageWords_wordsL {post : SX → Prop} {s t n : Nat} (hs : s + n ≤ 108) (ht : t + n ≤ 96) : ∀ (d i : Nat) (W : Nat → Int32), i + d = n → post (P, om_it (fun i a => upd a (t + i) (MX (s + i))) d i W, L, T, SM, SW, O, C, IX, PX, MX) → wX_copyWords__messageWords_words_3 post (nI s) (nI t) (nI n) (d + 1) (nI i) P W L T SM SW O C IX PX MX := by
  intro d
  induction d with
  | zero =>
    intro i W e h
    obtain rfl : i = n := by omega
    exact br_t (nI_le (by omega) (by omega)) h
  | succ d ih =>
    intro i W e h
    exact br_f (nI_ge (by omega) (by omega)) ⟨pk_in (s + i) 108 (by omega) (nI_add s i), pk_in (t + i) 96 (by omega) (nI_add t i), nm_r (om_u (nI_add t i) (by omega) (om_at (nI_add s i) (by omega) rfl)) (nm_r (nI_1 i) (ih (i + 1) _ (by omega) h))⟩
theorem om_cw_messageWords_words {post : SX → Prop} {x y z : Int32} {s t n : Nat} (hx : x = nI s) (hy : y = nI t) (hz : z = nI n) (hs : s + n ≤ 108) (ht : t + n ≤ 96) (h : post (P, om_it (fun i a => upd a (t + i) (MX (s + i))) n 0 W, L, T, SM, SW, O, C, IX, PX, MX)) : wpX_copyWords__messageWords_words post (P, W, L, T, SM, SW, O, C, IX, PX, MX) x y z := by
  subst hx hy hz
  exact ⟨n + 1, om_cw_messageWords_wordsL hs ht n 0 W (by omega) h⟩

theorem om_cw_words_snapshotWordsL {post : SX → Prop} {s t n : Nat} (hs : s + n ≤ 96) (ht : t + n ≤ 96) : ∀ (d i : Nat) (SW : Nat → Int32), i + d = n → post (P, W, L, T, SM, om_it (fun i a => upd a (t + i) (W (s + i))) d i SW, O, C, IX, PX, MX) → wX_copyWords__words_snapshotWords_3 post (nI s) (nI t) (nI n) (d + 1) (nI i) P W L T SM SW O C IX PX MX := by
  intro d
  induction d with
  | zero =>
    intro i SW e h
    obtain rfl : i = n := by omega
    exact br_t (nI_le (by omega) (by omega)) h
  | succ d ih =>
    intro i SW e h
    exact br_f (nI_ge (by omega) (by omega)) ⟨pk_in (s + i) 96 (by omega) (nI_add s i), pk_in (t + i) 96 (by omega) (nI_add t i), nm_r (om_u (nI_add t i) (by omega) (om_at (nI_add s i) (by omega) rfl)) (nm_r (nI_1 i) (ih (i + 1) _ (by omega) h))⟩
theorem om_cw_words_snapshotWords {post : SX → Prop} {x y z : Int32} {s t n : Nat} (hx : x = nI s) (hy : y = nI t) (hz : z = nI n) (hs : s + n ≤ 96) (ht : t + n ≤ 96) (h : post (P, W, L, T, SM, om_it (fun i a => upd a (t + i) (W (s + i))) n 0 SW, O, C, IX, PX, MX)) : wpX_copyWords__words_snapshotWords post (P, W, L, T, SM, SW, O, C, IX, PX, MX) x y z := by
  subst hx hy hz
  exact ⟨n + 1, om_cw_words_snapshotWordsL hs ht n 0 SW (by omega) h⟩

theorem om_cw_snapshotWords_wordsL {post : SX → Prop} {s t n : Nat} (hs : s + n ≤ 96) (ht : t + n ≤ 96) : ∀ (d i : Nat) (W : Nat → Int32), i + d = n → post (P, om_it (fun i a => upd a (t + i) (SW (s + i))) d i W, L, T, SM, SW, O, C, IX, PX, MX) → wX_copyWords__snapshotWords_words_3 post (nI s) (nI t) (nI n) (d + 1) (nI i) P W L T SM SW O C IX PX MX := by
  intro d
  induction d with
  | zero =>
    intro i W e h
    obtain rfl : i = n := by omega
    exact br_t (nI_le (by omega) (by omega)) h
  | succ d ih =>
    intro i W e h
    exact br_f (nI_ge (by omega) (by omega)) ⟨pk_in (s + i) 96 (by omega) (nI_add s i), pk_in (t + i) 96 (by omega) (nI_add t i), nm_r (om_u (nI_add t i) (by omega) (om_at (nI_add s i) (by omega) rfl)) (nm_r (nI_1 i) (ih (i + 1) _ (by omega) h))⟩
theorem om_cw_snapshotWords_words {post : SX → Prop} {x y z : Int32} {s t n : Nat} (hx : x = nI s) (hy : y = nI t) (hz : z = nI n) (hs : s + n ≤ 96) (ht : t + n ≤ 96) (h : post (P, om_it (fun i a => upd a (t + i) (SW (s + i))) n 0 W, L, T, SM, SW, O, C, IX, PX, MX)) : wpX_copyWords__snapshotWords_words post (P, W, L, T, SM, SW, O, C, IX, PX, MX) x y z := by
  subst hx hy hz
  exact ⟨n + 1, om_cw_snapshotWords_wordsL hs ht n 0 W (by omega) h⟩

theorem om_cm_pageMapped_words_snapshotMapped_snapshotWordsL {post : SX → Prop} {p : Nat} (hp : p < 3) : ∀ (d i : Nat) (SM : Nat → Int32), i + d = 8 → post (P, W, L, T, om_it (fun i a => upd a (p * 8 + i) (vp_nar .boolean (P (p * 8 + i)))) d i SM, om_it (fun i a => upd a (p * 32 + i) (W (p * 32 + i))) 32 0 SW, O, C, IX, PX, MX) → wX_copyMemory__pageMapped_words_snapshotMapped_snapshotWords_3 post (nI p) (d + 1) (nI i) P W L T SM SW O C IX PX MX := by
  intro d
  induction d with
  | zero =>
    intro i SM e h
    obtain rfl : i = 8 := by omega
    refine br_t (nI_le (a := 8) (b := 8) (by omega) (by omega)) (om_xw (q := 0) rfl rfl ?_)
    exact om_cw_words_snapshotWords (s := p * 32) (t := p * 32) (n := 32) rfl rfl rfl (by omega) (by omega) h
  | succ d ih =>
    intro i SM e h
    exact br_f (nI_ge (b := 8) (by omega) (by omega)) (om_xi rfl rfl ⟨vp_in_nI (by omega) (by omega), vp_in_nI (by omega) (by omega), nm_r (om_u rfl (by omega) (congrArg (vp_nar .boolean) (om_at rfl (by omega) rfl))) (nm_r (nI_1 i) (ih (i + 1) _ (by omega) h))⟩)
theorem om_cm_pageMapped_words_snapshotMapped_snapshotWords {post : SX → Prop} {p : Nat} (hp : p < 3) (h : post (P, W, L, T, om_it (fun i a => upd a (p * 8 + i) (vp_nar .boolean (P (p * 8 + i)))) 8 0 SM, om_it (fun i a => upd a (p * 32 + i) (W (p * 32 + i))) 32 0 SW, O, C, IX, PX, MX)) : wpX_copyMemory__pageMapped_words_snapshotMapped_snapshotWords post (P, W, L, T, SM, SW, O, C, IX, PX, MX) (nI p) :=
  ⟨9, om_cm_pageMapped_words_snapshotMapped_snapshotWordsL hp 8 0 SM rfl h⟩

theorem om_cm_snapshotMapped_snapshotWords_pageMapped_wordsL {post : SX → Prop} {p : Nat} (hp : p < 3) : ∀ (d i : Nat) (P : Nat → Int32), i + d = 8 → post (om_it (fun i a => upd a (p * 8 + i) (vp_nar .boolean (SM (p * 8 + i)))) d i P, om_it (fun i a => upd a (p * 32 + i) (SW (p * 32 + i))) 32 0 W, L, T, SM, SW, O, C, IX, PX, MX) → wX_copyMemory__snapshotMapped_snapshotWords_pageMapped_words_3 post (nI p) (d + 1) (nI i) P W L T SM SW O C IX PX MX := by
  intro d
  induction d with
  | zero =>
    intro i P e h
    obtain rfl : i = 8 := by omega
    refine br_t (nI_le (a := 8) (b := 8) (by omega) (by omega)) (om_xw (q := 0) rfl rfl ?_)
    exact om_cw_snapshotWords_words (s := p * 32) (t := p * 32) (n := 32) rfl rfl rfl (by omega) (by omega) h
  | succ d ih =>
    intro i P e h
    exact br_f (nI_ge (b := 8) (by omega) (by omega)) (om_xi rfl rfl ⟨vp_in_nI (by omega) (by omega), vp_in_nI (by omega) (by omega), nm_r (om_u rfl (by omega) (congrArg (vp_nar .boolean) (om_at rfl (by omega) rfl))) (nm_r (nI_1 i) (ih (i + 1) _ (by omega) h))⟩)
theorem om_cm_snapshotMapped_snapshotWords_pageMapped_words {post : SX → Prop} {p : Nat} (hp : p < 3) (h : post (om_it (fun i a => upd a (p * 8 + i) (vp_nar .boolean (SM (p * 8 + i)))) 8 0 P, om_it (fun i a => upd a (p * 32 + i) (SW (p * 32 + i))) 32 0 W, L, T, SM, SW, O, C, IX, PX, MX)) : wpX_copyMemory__snapshotMapped_snapshotWords_pageMapped_words post (P, W, L, T, SM, SW, O, C, IX, PX, MX) (nI p) :=
  ⟨9, om_cm_snapshotMapped_snapshotWords_pageMapped_wordsL hp 8 0 P rfl h⟩
end
end
section
section
variable {P W L T SM SW O C IX PX MX IY PY MY : Nat → Int32}

theorem om_yb {post : Int32 → Prop} {p : Nat} (hp : p < 3) (h : post 0) : wpY_bad post (P, W, L, T, SM, SW, C, IY, PY, MY) (nI p) :=
  br_f (nI_pos (by omega)) (br_t (nI_le (b := 2) (by omega) (by decide)) h)
theorem om_ybB {post : Int32 → Prop} {x : Int32} (hx : x < 0 ∨ nI 3 ≤ x) (h : post 1) : wpY_bad post (P, W, L, T, SM, SW, C, IY, PY, MY) x :=
  br_c (fun _ => h) (fun h0 => br_f (om_big (n := 2) (by decide) (hx.resolve_left h0)).2.1 h)
theorem om_yg {post : Int32 → Prop} {p : Nat} (hp : p < 8) (h : post 0) : wpY_badPage post (P, W, L, T, SM, SW, C, IY, PY, MY) (nI p) :=
  br_f (nI_pos (by omega)) (br_t (nI_le (b := 7) (by omega) (by decide)) h)
theorem om_ygB {post : Int32 → Prop} {x : Int32} (hx : x < 0 ∨ nI 8 ≤ x) (h : post 1) : wpY_badPage post (P, W, L, T, SM, SW, C, IY, PY, MY) x :=
  br_c (fun _ => h) (fun h0 => br_f (om_big (n := 7) (by decide) (hx.resolve_left h0)).2.1 h)
theorem om_ycL {post : Int32 → Prop} {p : Nat} (hp : p < 3) : ∀ (d i c : Nat), i + d = 8 → post (nI (c + om_cnt P d (p * 8 + i))) → wY_count_4 post (nI p) P W L T SM SW C IY PY MY (d + 1) (nI c) (nI i) := by
  intro d
  induction d with
  | zero =>
    intro i c e h
    obtain rfl : i = 8 := by omega
    exact br_t (nI_le (a := 8) (b := 8) (by omega) (by omega)) h
  | succ d ih =>
    intro i c e h
    refine br_f (nI_ge (b := 8) (by omega) (by omega)) ⟨pk_in (p * 8 + i) 24 (by omega) (om_i8 p i), ?_⟩
    by_cases z : P (p * 8 + i) = 0
    · refine br_t (om_at (om_i8 p i) (by omega) z) (nm_r (nI_1 i) (ih (i + 1) c (by omega) ?_))
      rw [om_cz z] at h
      exact h
    · refine br_f (om_nt (om_i8 p i) (by omega) z) (nm_r (nI_1 c) (nm_r (nI_1 i) (ih (i + 1) (c + 1) (by omega) ?_)))
      rw [om_cs z] at h
      rw [Nat.add_assoc c 1]
      exact h
theorem om_yc {post : Int32 → Prop} {p : Nat} (hp : p < 3) (h : post (nI (om_cnt P 8 (p * 8)))) : wpY_count post (P, W, L, T, SM, SW, C, IY, PY, MY) (nI p) :=
  ⟨9, om_ycL hp 8 0 0 rfl (by rw [Nat.zero_add]; exact h)⟩
theorem om_ymL {post : Int32 → SY → Prop} {p q : Nat} (hp : p < 3) (hq : q < 8) : ∀ (d i : Nat) (W : Nat → Int32), i + d = 4 → post (nI (om_cnt P 8 (p * 8))) (P, om_it (fun i a => upd a (p * 32 + q * 4 + i) 0) d i W, L, T, SM, SW, C, IY, PY, MY) → wY_map_52 post (nI p) (nI q) (d + 1) (nI i) P W L T SM SW C IY PY MY := by
  intro d
  induction d with
  | zero =>
    intro i W e h
    obtain rfl : i = 4 := by omega
    exact br_t (nI_le (a := 4) (b := 4) (by omega) (by omega)) (om_yc hp h)
  | succ d ih =>
    intro i W e h
    exact br_f (nI_ge (b := 4) (by omega) (by omega)) ⟨pk_in (p * 32 + q * 4 + i) 96 (by omega) (om_iw p q i), nm_r (om_u (om_iw p q i) (by omega) rfl) (nm_r (nI_1 i) (ih (i + 1) _ (by omega) h))⟩
theorem om_ycpL {post : Int32 → SY → Prop} {p f q : Nat} (hp : p < 3) (hf : f < 8) (hq : q < 8) : ∀ (d i : Nat) (W : Nat → Int32), i + d = 4 → post (nI (om_cnt P 8 (p * 8))) (P, om_it (fun i a => upd a (p * 32 + q * 4 + i) (a (p * 32 + f * 4 + i))) d i W, L, T, SM, SW, C, IY, PY, MY) → wY_copy_61 post (nI p) (nI f) (nI q) (d + 1) (nI i) P W L T SM SW C IY PY MY := by
  intro d
  induction d with
  | zero =>
    intro i W e h
    obtain rfl : i = 4 := by omega
    exact br_t (nI_le (a := 4) (b := 4) (by omega) (by omega)) (om_yc hp h)
  | succ d ih =>
    intro i W e h
    exact br_f (nI_ge (b := 4) (by omega) (by omega)) ⟨pk_in (p * 32 + f * 4 + i) 96 (by omega) (om_iw p f i), pk_in (p * 32 + q * 4 + i) 96 (by omega) (om_iw p q i), nm_r (om_u (om_iw p q i) (by omega) (om_at (om_iw p f i) (by omega) rfl)) (nm_r (nI_1 i) (ih (i + 1) _ (by omega) h))⟩
theorem om_ys2L {post : Int32 → SY → Prop} {p r c f q m : Nat} (hp : p < 3) (hr : r < 3) (hf : f + q ≤ 8) (hq : q ≤ 3) (hm : m < 9) : ∀ (d i : Nat) (MY : Nat → Int32), i + d = q * 4 → post (nI (c + 1)) (P, W, L, T, SM, SW, upd C r (nI (c + 1)), IY, PY, om_it (fun i a => upd a (m * 12 + i) (W (p * 32 + f * 4 + i))) d i MY) → wY_send_128 post (nI p) (nI r) (nI c) (nI f) (nI q) (nI m) (d + 1) (nI i) P W L T SM SW C IY PY MY := by
  intro d
  induction d with
  | zero =>
    intro i MY e h
    obtain rfl : i = q * 4 := by omega
    refine br_t (om_leE (om_m4 q) rfl (by omega) (by omega)) ⟨vp_in_nI hr (by omega), nm_r (om_u rfl (by omega) (nI_1 c)) ?_⟩
    rw [nI_1]
    exact h
  | succ d ih =>
    intro i MY e h
    exact br_f (om_gtE (om_m4 q) rfl (by omega) (by omega)) ⟨pk_in (p * 32 + f * 4 + i) 96 (by omega) (om_iw p f i), pk_in (m * 12 + i) 108 (by omega) (om_i12 m i), nm_r (om_u (om_i12 m i) (by omega) (om_at (om_iw p f i) (by omega) rfl)) (nm_r (nI_1 i) (ih (i + 1) _ (by omega) h))⟩
theorem om_ys1L {post : Int32 → SY → Prop} {p r c f q : Nat} {w : Int32} (hp : p < 3) (hf : f + q ≤ 8) : ∀ (d i : Nat), i + d = q → (om_cnt P d (p * 8 + f + i) = d → ∀ n, wY_send_66 post (nI p) (nI r) w (nI c) (nI f) (nI q) P W L T SM SW C IY PY MY (n + 1) (nI q)) → (om_cnt P d (p * 8 + f + i) ≠ d → post (-4) (P, W, L, T, SM, SW, C, IY, PY, MY)) → wY_send_66 post (nI p) (nI r) w (nI c) (nI f) (nI q) P W L T SM SW C IY PY MY (d + 1) (nI i) := by
  intro d
  induction d with
  | zero =>
    intro i e h1 h2
    obtain rfl : i = q := by omega
    exact h1 rfl 0
  | succ d ih =>
    intro i e h1 h2
    refine br_f (nI_ge (by omega) (by omega)) ⟨pk_in (p * 8 + f + i) 24 (by omega) (om_ip p f i), ?_⟩
    have hl := om_cle P d (p * 8 + f + i + 1)
    by_cases z : P (p * 8 + f + i) = 0
    · rw [om_cz z] at h1 h2
      exact br_t (om_at (om_ip p f i) (by omega) z) (h2 (by omega))
    · rw [om_cs z] at h1 h2
      exact br_f (om_nt (om_ip p f i) (by omega) z) (nm_r (nI_1 i) (ih (i + 1) (by omega) (fun k => h1 (by rw [show p * 8 + f + i + 1 = p * 8 + f + (i + 1) from rfl, k]; omega)) (fun k => h2 (fun k' => k (by rw [show p * 8 + f + i + 1 = p * 8 + f + (i + 1) from rfl] at k'; omega)))))
theorem om_yfL {post : SY → Prop} {J : Int32 → (Nat → Int32) → (Nat → Int32) → (Nat → Int32) → (Nat → Int32) → (Nat → Int32) → (Nat → Int32) → (Nat → Int32) → (Nat → Int32) → (Nat → Int32) → (Nat → Int32) → Prop} {x : Int32} {m : Nat} (hm : m < 8) : ∀ (d i : Nat) (MY : Nat → Int32), i + d = 12 → J (nI (m + 1)) P W L T SM SW C IY PY (om_it (fun i a => upd a (m * 12 + i) (a (m * 12 + 12 + i))) d i MY) → wY_forward_43 post J x (nI m) (d + 1) (nI i) P W L T SM SW C IY PY MY := by
  intro d
  induction d with
  | zero =>
    intro i MY e h
    obtain rfl : i = 12 := by omega
    exact br_t (nI_le (a := 12) (b := 12) (by omega) (by omega)) (nm_r (nI_1 m) h)
  | succ d ih =>
    intro i MY e h
    exact br_f (nI_ge (b := 12) (by omega) (by omega)) ⟨pk_in (m * 12 + 12 + i) 108 (by omega) (om_i12b m i), pk_in (m * 12 + i) 108 (by omega) (om_i12 m i), nm_r (om_u (om_i12 m i) (by omega) (om_at (om_i12b m i) (by omega) rfl)) (nm_r (nI_1 i) (ih (i + 1) _ (by omega) h))⟩
/-- the cell m takes the cell behind it -/
def om_sh (a : Nat → Int32) (m : Nat) : Nat → Int32 := upd a m (a (m + 1))
/-- the twelve words of slot m take those of the slot behind it -/
def om_sw (a : Nat → Int32) (m : Nat) : Nat → Int32 := om_it (fun i a => upd a (m * 12 + i) (a (m * 12 + 12 + i))) 12 0 a
theorem om_yf1 {post : SY → Prop} {p m n : Nat} (hp : p < 3) (hm : m < p * 3 + 2) (h : wY_forward_4 post (nI p) n (nI (m + 1)) P W L T SM SW C (om_sh IY m) (om_sh PY m) (om_sw MY m)) : wY_forward_4 post (nI p) (n + 1) (nI m) P W L T SM SW C IY PY MY :=
  br_f (om_gtE (om_e3 p) rfl (by omega) (by omega)) ⟨pk_in (m + 1) 9 (by omega) (nI_1 m), vp_in_nI (by omega) (by omega), nm_r (om_u rfl (by omega) (om_at (nI_1 m) (by omega) rfl)) ⟨pk_in (m + 1) 9 (by omega) (nI_1 m), vp_in_nI (by omega) (by omega), nm_r (om_u rfl (by omega) (om_at (nI_1 m) (by omega) rfl)) ⟨13, om_yfL (by omega) 12 0 MY rfl h⟩⟩⟩
theorem om_yf0 {post : SY → Prop} {p n c : Nat} (hp : p < 3) (hc : C p = nI (c + 1)) (h : post (P, W, L, T, SM, SW, upd C p (nI c), IY, PY, MY)) : wY_forward_4 post (nI p) (n + 1) (nI (p * 3 + 2)) P W L T SM SW C IY PY MY := by
  refine br_t (om_leE (om_e3 p) rfl (by omega) (by omega)) ⟨vp_in_nI (by omega) (by omega), vp_in_nI (by omega) (by omega), nm_r (e' := upd C p (nI c)) ?_ h⟩
  rw [nI_clamp (by omega), hc, nI_pred]
theorem om_yf {post : SY → Prop} {p c : Nat} (hp : p < 3) (hc : C p = nI (c + 1)) (h : post (P, W, L, T, SM, SW, upd C p (nI c), om_sh (om_sh IY (p * 3)) (p * 3 + 1), om_sh (om_sh PY (p * 3)) (p * 3 + 1), om_sw (om_sw MY (p * 3)) (p * 3 + 1))) : wpY_forward post (P, W, L, T, SM, SW, C, IY, PY, MY) (nI p) := by
  unfold wpY_forward
  exact nm_r (om_m3 p) ⟨3, om_yf1 hp (by omega) (om_yf1 hp (by omega) (om_yf0 hp hc h))⟩
theorem om_yr3L {post : Int32 → SY → Prop} {p r c f q m : Nat} (hp : p < 3) (hr : r < 3) (hf : f + q ≤ 8) (hq : q ≤ 3) (hm : m < 9) (hc : C r = nI (c + 1)) : ∀ (d i : Nat) (W : Nat → Int32), i + d = q * 4 → post (nI q) (P, om_it (fun i a => upd a (p * 32 + f * 4 + i) (MY (m * 12 + i))) d i W, L, T, SM, SW, upd C r (nI c), om_sh (om_sh IY (r * 3)) (r * 3 + 1), om_sh (om_sh PY (r * 3)) (r * 3 + 1), om_sw (om_sw MY (r * 3)) (r * 3 + 1)) → wY_receive_147 post (nI p) (nI r) (nI f) (nI m) (nI q) (d + 1) (nI i) P W L T SM SW C IY PY MY := by
  intro d
  induction d with
  | zero =>
    intro i W e h
    obtain rfl : i = q * 4 := by omega
    exact br_t (om_leE (om_m4 q) rfl (by omega) (by omega)) (om_yf hr hc h)
  | succ d ih =>
    intro i W e h
    exact br_f (om_gtE (om_m4 q) rfl (by omega) (by omega)) ⟨pk_in (m * 12 + i) 108 (by omega) (om_i12 m i), pk_in (p * 32 + f * 4 + i) 96 (by omega) (om_iw p f i), nm_r (om_u (om_iw p f i) (by omega) (om_at (om_i12 m i) (by omega) rfl)) (nm_r (nI_1 i) (ih (i + 1) _ (by omega) h))⟩
theorem om_yr2L {post : Int32 → SY → Prop} {p r c f q m : Nat} (hp : p < 3) (hr : r < 3) (hf : f + q ≤ 8) (hq : q ≤ 3) (hm : m < 9) (hc : C r = nI (c + 1)) : ∀ (d i : Nat) (P : Nat → Int32), i + d = q → post (nI q) (om_it (fun i a => upd a (p * 8 + f + i) (vp_nar .boolean 1)) d i P, om_it (fun i a => upd a (p * 32 + f * 4 + i) (MY (m * 12 + i))) (q * 4) 0 W, L, T, SM, SW, upd C r (nI c), om_sh (om_sh IY (r * 3)) (r * 3 + 1), om_sh (om_sh PY (r * 3)) (r * 3 + 1), om_sw (om_sw MY (r * 3)) (r * 3 + 1)) → wY_receive_116 post (nI p) (nI r) (nI f) (nI m) (nI q) (d + 1) (nI i) P W L T SM SW C IY PY MY := by
  intro d
  induction d with
  | zero =>
    intro i P e h
    obtain rfl : i = q := by omega
    exact br_t (nI_le (by omega) (by omega)) ⟨i * 4 + 1, om_yr3L hp hr hf hq hm hc (i * 4) 0 W (by omega) h⟩
  | succ d ih =>
    intro i P e h
    exact br_f (nI_ge (by omega) (by omega)) ⟨pk_in (p * 8 + f + i) 24 (by omega) (om_ip p f i), nm_r (om_u (om_ip p f i) (by omega) rfl) (nm_r (nI_1 i) (ih (i + 1) _ (by omega) h))⟩
theorem om_yr1L {post : Int32 → SY → Prop} {p f q : Nat} {x m : Int32} (hp : p < 3) (hf : f + q ≤ 8) : ∀ (d i : Nat), i + d = q → (om_cnt P d (p * 8 + f + i) = 0 → ∀ n, wY_receive_67 post (nI p) x (nI f) m (nI q) P W L T SM SW C IY PY MY (n + 1) (nI q)) → (om_cnt P d (p * 8 + f + i) ≠ 0 → post (-3) (P, W, L, T, SM, SW, C, IY, PY, MY)) → wY_receive_67 post (nI p) x (nI f) m (nI q) P W L T SM SW C IY PY MY (d + 1) (nI i) := by
  intro d
  induction d with
  | zero =>
    intro i e h1 h2
    obtain rfl : i = q := by omega
    exact h1 rfl 0
  | succ d ih =>
    intro i e h1 h2
    refine br_f (nI_ge (by omega) (by omega)) ⟨pk_in (p * 8 + f + i) 24 (by omega) (om_ip p f i), ?_⟩
    by_cases z : P (p * 8 + f + i) = 0
    · rw [om_cz z] at h1 h2
      exact br_t (om_at (om_ip p f i) (by omega) z) (nm_r (nI_1 i) (ih (i + 1) (by omega) h1 h2))
    · rw [om_cs z] at h2
      exact br_f (om_nt (om_ip p f i) (by omega) z) (h2 (by omega))

theorem om_ysnapshot2 {post : Int32 → SY → Prop} {p : Nat} (hp : p < 3) : ∀ (d i : Nat) (SW : Nat → Int32), i + d = 32 → post (nI (om_cnt P 8 (p * 8))) (P, W, L, T, SM, om_it (fun i a => upd a (p * 32 + i) (W (p * 32 + i))) d i SW, C, IY, PY, MY) → wY_snapshot_56 post (nI p) (d + 1) (nI (p * 32 + i)) P W L T SM SW C IY PY MY := by
  intro d
  induction d with
  | zero =>
    intro i SW e h
    obtain rfl : i = 32 := by omega
    exact br_t (om_leE (om_e32 p) rfl (by omega) (by omega)) (om_yc hp h)
  | succ d ih =>
    intro i SW e h
    exact br_f (om_gtE (om_e32 p) rfl (by omega) (by omega)) ⟨vp_in_nI (by omega) (by omega), vp_in_nI (by omega) (by omega), nm_r (om_u rfl (by omega) (om_at rfl (by omega) rfl)) (nm_r (nI_1 (p * 32 + i)) (ih (i + 1) _ (by omega) h))⟩
theorem om_ysnapshot1 {post : Int32 → SY → Prop} {p : Nat} (hp : p < 3) : ∀ (d i : Nat) (SM : Nat → Int32), i + d = 8 → post (nI (om_cnt P 8 (p * 8))) (P, W, L, T, om_it (fun i a => upd a (p * 8 + i) (vp_nar .boolean (P (p * 8 + i)))) d i SM, om_it (fun i a => upd a (p * 32 + i) (W (p * 32 + i))) 32 0 SW, C, IY, PY, MY) → wY_snapshot_22 post (nI p) (d + 1) (nI (p * 8 + i)) P W L T SM SW C IY PY MY := by
  intro d
  induction d with
  | zero =>
    intro i SM e h
    obtain rfl : i = 8 := by omega
    exact br_t (om_leE (om_e8 p) rfl (by omega) (by omega)) (nm_r (om_m32 p) ⟨33, om_ysnapshot2 hp 32 0 SW rfl h⟩)
  | succ d ih =>
    intro i SM e h
    exact br_f (om_gtE (om_e8 p) rfl (by omega) (by omega)) ⟨vp_in_nI (by omega) (by omega), vp_in_nI (by omega) (by omega), nm_r (om_u rfl (by omega) (congrArg (vp_nar .boolean) (om_at rfl (by omega) rfl))) (nm_r (nI_1 (p * 8 + i)) (ih (i + 1) _ (by omega) h))⟩

theorem om_yrollBack2 {post : Int32 → SY → Prop} {p : Nat} (hp : p < 3) : ∀ (d i : Nat) (W : Nat → Int32), i + d = 32 → post (nI (om_cnt P 8 (p * 8))) (P, om_it (fun i a => upd a (p * 32 + i) (SW (p * 32 + i))) d i W, L, T, SM, SW, C, IY, PY, MY) → wY_rollBack_61 post (nI p) (d + 1) (nI (p * 32 + i)) P W L T SM SW C IY PY MY := by
  intro d
  induction d with
  | zero =>
    intro i W e h
    obtain rfl : i = 32 := by omega
    exact br_t (om_leE (om_e32 p) rfl (by omega) (by omega)) (om_yc hp h)
  | succ d ih =>
    intro i W e h
    exact br_f (om_gtE (om_e32 p) rfl (by omega) (by omega)) ⟨vp_in_nI (by omega) (by omega), vp_in_nI (by omega) (by omega), nm_r (om_u rfl (by omega) (om_at rfl (by omega) rfl)) (nm_r (nI_1 (p * 32 + i)) (ih (i + 1) _ (by omega) h))⟩
theorem om_yrollBack1 {post : Int32 → SY → Prop} {p : Nat} (hp : p < 3) : ∀ (d i : Nat) (P : Nat → Int32), i + d = 8 → post (nI (om_cnt (om_it (fun i a => upd a (p * 8 + i) (vp_nar .boolean (SM (p * 8 + i)))) d i P) 8 (p * 8))) (om_it (fun i a => upd a (p * 8 + i) (vp_nar .boolean (SM (p * 8 + i)))) d i P, om_it (fun i a => upd a (p * 32 + i) (SW (p * 32 + i))) 32 0 W, L, T, SM, SW, C, IY, PY, MY) → wY_rollBack_27 post (nI p) (d + 1) (nI (p * 8 + i)) P W L T SM SW C IY PY MY := by
  intro d
  induction d with
  | zero =>
    intro i P e h
    obtain rfl : i = 8 := by omega
    exact br_t (om_leE (om_e8 p) rfl (by omega) (by omega)) (nm_r (om_m32 p) ⟨33, om_yrollBack2 hp 32 0 W rfl h⟩)
  | succ d ih =>
    intro i P e h
    exact br_f (om_gtE (om_e8 p) rfl (by omega) (by omega)) ⟨vp_in_nI (by omega) (by omega), vp_in_nI (by omega) (by omega), nm_r (om_u rfl (by omega) (congrArg (vp_nar .boolean) (om_at rfl (by omega) rfl))) (nm_r (nI_1 (p * 8 + i)) (ih (i + 1) _ (by omega) h))⟩

theorem om_yeL {post : Int32 → SY → Prop} {p : Nat} {x : Int32} (hp : p < 3) : ∀ (d i : Nat) (P : Nat → Int32), i + d = 8 → post x (om_it (fun i a => upd a (p * 8 + i) (vp_nar .boolean 0)) d i P, W, upd L p 0, upd T p (vp_nar .boolean 0), SM, SW, C, IY, PY, MY) → wY_exit_21 post (nI p) x (d + 1) (nI (p * 8 + i)) P W L T SM SW C IY PY MY := by
  intro d
  induction d with
  | zero =>
    intro i P e h
    obtain rfl : i = 8 := by omega
    exact br_t (om_leE (om_e8 p) rfl (by omega) (by omega)) ⟨vp_in_nI (by omega) (by omega), nm_r (om_u rfl (by omega) rfl) ⟨vp_in_nI (by omega) (by omega), nm_r (om_u rfl (by omega) rfl) h⟩⟩
  | succ d ih =>
    intro i P e h
    exact br_f (om_gtE (om_e8 p) rfl (by omega) (by omega)) ⟨vp_in_nI (by omega) (by omega), nm_r (om_u rfl (by omega) rfl) (nm_r (nI_1 (p * 8 + i)) (ih (i + 1) _ (by omega) h))⟩
end
end
section
/-- port p: its first is slot o, c messages wait; the component's ring against the reference's row -/
def om_QP (o c p : Nat) (IX PX MX IY PY MY : Nat → Int32) : Prop :=
  ∀ j, j < c → ∃ q, q ≤ 3 ∧ PX (p * 3 + (o + j) % 3) = nI q ∧ PY (p * 3 + j) = nI q ∧ IX (p * 3 + (o + j) % 3) = IY (p * 3 + j) ∧ ∀ w, w < q * 4 → MX ((p * 3 + (o + j) % 3) * 12 + w) = MY ((p * 3 + j) * 12 + w)
def om_Q (O C IX PX MX IY PY MY : Nat → Int32) : Prop :=
  ∀ p, p < 3 → ∃ o c, o < 3 ∧ c ≤ 3 ∧ O p = nI o ∧ C p = nI c ∧ om_QP o c p IX PX MX IY PY MY
/-- both memories and snapshots are the same; the ports agree by om_Q -/
def i_Rel (k : Nat) (u : SX) (v : SY) : Prop :=
  ∃ P W L T SM SW O C IX PX MX IY PY MY : Nat → Int32, u = (P, W, L, T, SM, SW, O, C, IX, PX, MX) ∧ v = (P, W, L, T, SM, SW, C, IY, PY, MY) ∧ om_Q O C IX PX MX IY PY MY
theorem i_up {k : Nat} {u : SX} {v : SY} (h : i_Rel k u v) : i_Rel (k + 5) u v := h
theorem om_Q0 : om_Q (fun _ => 0) (fun _ => 0) (fun _ => 0) (fun _ => 0) (fun _ => 0) (fun _ => 0) (fun _ => 0) (fun _ => 0) :=
  fun _ _ => ⟨0, 0, by omega, by omega, rfl, rfl, fun j hj => absurd hj (by omega)⟩
theorem i_vc0 : wpX_init (fun u => wpY_init (fun v => i_Rel 0 u v)) :=
  ⟨_, _, _, _, _, _, _, _, _, _, _, _, _, _, rfl, rfl, om_Q0⟩
section
variable {P W L T SM SW O C IX PX MX IY PY MY : Nat → Int32}
theorem om_R {k : Nat} (R : om_Q O C IX PX MX IY PY MY) : i_Rel k (P, W, L, T, SM, SW, O, C, IX, PX, MX) (P, W, L, T, SM, SW, C, IY, PY, MY) :=
  ⟨_, _, _, _, _, _, _, _, _, _, _, _, _, _, rfl, rfl, R⟩
theorem om_R2 {k : Nat} {W' L' : Nat → Int32} (eW : W = W') (eL : L = L') (R : om_Q O C IX PX MX IY PY MY) : i_Rel k (P, W, L, T, SM, SW, O, C, IX, PX, MX) (P, W', L', T, SM, SW, C, IY, PY, MY) := by
  subst eW eL
  exact om_R R
theorem om_QPm {IX' PX' MX' IY' PY' MY' : Nat → Int32} {o c p : Nat} (hc : c ≤ 3) (hIX : ∀ s, p * 3 ≤ s → s < p * 3 + 3 → IX' s = IX s) (hPX : ∀ s, p * 3 ≤ s → s < p * 3 + 3 → PX' s = PX s) (hMX : ∀ s, p * 36 ≤ s → s < p * 36 + 36 → MX' s = MX s) (hIY : ∀ s, p * 3 ≤ s → s < p * 3 + 3 → IY' s = IY s) (hPY : ∀ s, p * 3 ≤ s → s < p * 3 + 3 → PY' s = PY s) (hMY : ∀ s, p * 36 ≤ s → s < p * 36 + 36 → MY' s = MY s) (h : om_QP o c p IX PX MX IY PY MY) : om_QP o c p IX' PX' MX' IY' PY' MY' := by
  intro j hj
  obtain ⟨q, hq, h1, h2, h3, h4⟩ := h j hj
  refine ⟨q, hq, ?_, ?_, ?_, fun w hw => ?_⟩
  · rw [hPX _ (by omega) (by omega)]; exact h1
  · rw [hPY _ (by omega) (by omega)]; exact h2
  · rw [hIX _ (by omega) (by omega), hIY _ (by omega) (by omega)]; exact h3
  · rw [hMX _ (by omega) (by omega), hMY _ (by omega) (by omega)]; exact h4 w hw
theorem om_shp (a : Nat → Int32) (m k : Nat) : om_sh (om_sh a m) (m + 1) k = if m ≤ k ∧ k < m + 2 then a (k + 1) else a k := by
  unfold om_sh
  by_cases h1 : k = m + 1
  · subst h1
    rw [pk_us, pk_un (by omega), if_pos (by omega)]
  · rw [pk_un h1]
    by_cases h2 : k = m
    · subst h2
      rw [pk_us, if_pos (by omega)]
    · rw [pk_un h2, if_neg (by omega)]
theorem om_swq (a : Nat → Int32) (m k : Nat) : om_sw a m k = if m * 12 ≤ k ∧ k < m * 12 + 12 then a (k + 12) else a k := by
  unfold om_sw
  rw [om_its (m * 12) 12 0 a k (by omega)]
  rfl
theorem om_swp (a : Nat → Int32) (m k : Nat) : om_sw (om_sw a m) (m + 1) k = if m * 12 ≤ k ∧ k < m * 12 + 24 then a (k + 12) else a k := by
  rw [om_swq, om_swq, om_swq]
  by_cases h1 : (m + 1) * 12 ≤ k ∧ k < (m + 1) * 12 + 12
  · rw [if_pos h1, if_neg (by omega), if_pos (by omega)]
  · rw [if_neg h1]
    by_cases h2 : m * 12 ≤ k ∧ k < m * 12 + 12
    · rw [if_pos h2, if_pos (by omega)]
    · rw [if_neg h2, if_neg (by omega)]
theorem om_Qsend (g : Nat → Int32) {r o c q : Nat} {w : Int32} (R : om_Q O C IX PX MX IY PY MY) (hr : r < 3) (ho3 : o < 3) (hc3 : c < 3) (hq : q ≤ 3) (ho : O r = nI o) (hJ : om_QP o c r IX PX MX IY PY MY) : om_Q O (upd C r (nI (c + 1))) (upd IX (r * 3 + (o + c) % 3) w) (upd PX (r * 3 + (o + c) % 3) (nI q)) (om_it (fun i a => upd a ((r * 3 + (o + c) % 3) * 12 + i) (g i)) (q * 4) 0 MX) (upd IY (r * 3 + c) w) (upd PY (r * 3 + c) (nI q)) (om_it (fun i a => upd a ((r * 3 + c) * 12 + i) (g i)) (q * 4) 0 MY) := by
  intro p hp
  by_cases e : p = r
  · subst e
    refine ⟨o, c + 1, ho3, by omega, ho, pk_us, fun j hj => ?_⟩
    by_cases e2 : j = c
    · subst e2
      refine ⟨q, hq, pk_us, pk_us, by rw [pk_us, pk_us], fun v hv => ?_⟩
      rw [om_itf g, om_itf g, if_pos (by omega), if_pos (by omega)]
      exact congrArg g (by omega)
    · obtain ⟨q', hq', h1, h2, h3, h4⟩ := hJ j (by omega)
      refine ⟨q', hq', ?_, ?_, ?_, fun v hv => ?_⟩
      · rw [pk_un (by omega)]; exact h1
      · rw [pk_un (by omega)]; exact h2
      · rw [pk_un (by omega), pk_un (by omega)]; exact h3
      · rw [om_itf g, om_itf g, if_neg (by omega), if_neg (by omega)]; exact h4 v hv
  · obtain ⟨o', c', h1, h2, h3, h4, h5⟩ := R p hp
    refine ⟨o', c', h1, h2, h3, by rw [pk_un e]; exact h4, om_QPm h2 ?_ ?_ ?_ ?_ ?_ ?_ h5⟩
    · intro s _ _; exact pk_un (by omega)
    · intro s _ _; exact pk_un (by omega)
    · intro s _ _; rw [om_itf g, if_neg (by omega)]
    · intro s _ _; exact pk_un (by omega)
    · intro s _ _; exact pk_un (by omega)
    · intro s _ _; rw [om_itf g, if_neg (by omega)]
theorem om_Qrecv {r o c : Nat} (R : om_Q O C IX PX MX IY PY MY) (hr : r < 3) (ho3 : o < 3) (hc3 : c + 1 ≤ 3) (hJ : om_QP o (c + 1) r IX PX MX IY PY MY) : om_Q (upd O r (nI ((o + 1) % 3))) (upd C r (nI c)) IX PX MX (om_sh (om_sh IY (r * 3)) (r * 3 + 1)) (om_sh (om_sh PY (r * 3)) (r * 3 + 1)) (om_sw (om_sw MY (r * 3)) (r * 3 + 1)) := by
  intro p hp
  by_cases e : p = r
  · subst e
    refine ⟨(o + 1) % 3, c, by omega, by omega, pk_us, pk_us, fun j hj => ?_⟩
    obtain ⟨q, hq, h1, h2, h3, h4⟩ := hJ (j + 1) (by omega)
    have es : ((o + 1) % 3 + j) % 3 = (o + (j + 1)) % 3 := by omega
    rw [es]
    refine ⟨q, hq, h1, ?_, ?_, fun v hv => ?_⟩
    · rw [om_shp, if_pos (by omega)]; exact h2
    · rw [om_shp, if_pos (by omega)]; exact h3
    · rw [om_swp, if_pos (by omega), h4 v hv]; exact congrArg MY (by omega)
  · obtain ⟨o', c', h1, h2, h3, h4, h5⟩ := R p hp
    refine ⟨o', c', h1, h2, by rw [pk_un e]; exact h3, by rw [pk_un e]; exact h4, om_QPm h2 (fun _ _ _ => rfl) (fun _ _ _ => rfl) (fun _ _ _ => rfl) ?_ ?_ ?_ h5⟩
    · intro s _ _; rw [om_shp, if_neg (by omega)]
    · intro s _ _; rw [om_shp, if_neg (by omega)]
    · intro s _ _; rw [om_swp, if_neg (by omega)]
theorem om_Qdrain {r : Nat} (R : om_Q O C IX PX MX IY PY MY) (hr : r < 3) : om_Q O (upd C r 0) IX PX MX IY PY MY := by
  intro p hp
  obtain ⟨o', c', h1, h2, h3, h4, h5⟩ := R p hp
  by_cases e : p = r
  · subst e
    exact ⟨o', 0, h1, by omega, h3, pk_us.trans nI_0.symm, fun j hj => absurd hj (by omega)⟩
  · exact ⟨o', c', h1, h2, h3, by rw [pk_un e]; exact h4, h5⟩
end
end
section
section
variable {P W L T SM SW O C IX PX MX IY PY MY : Nat → Int32}
theorem om_xmap1 {post : Int32 → SX → Prop} {x y : Int32} (h1 : (x < 0 ∨ nI 3 ≤ x)) (h : post (-1) (P, W, L, T, SM, SW, O, C, IX, PX, MX)) : wpX_map post (P, W, L, T, SM, SW, O, C, IX, PX, MX) x y := by
  unfold wpX_map
  exact om_xpB h1 (br_t rfl h)
theorem om_xmap2 {post : Int32 → SX → Prop} {p : Nat} {y : Int32} (hp : p < 3) (h2 : (y < 0 ∨ nI 8 ≤ y)) (h : post (-2) (P, W, L, T, SM, SW, O, C, IX, PX, MX)) : wpX_map post (P, W, L, T, SM, SW, O, C, IX, PX, MX) (nI p) y := by
  unfold wpX_map
  exact om_xp hp (br_f om_10 (om_xgB h2 (br_t rfl h)))
theorem om_xunmap1 {post : Int32 → SX → Prop} {x y : Int32} (h1 : (x < 0 ∨ nI 3 ≤ x)) (h : post (-1) (P, W, L, T, SM, SW, O, C, IX, PX, MX)) : wpX_unmap post (P, W, L, T, SM, SW, O, C, IX, PX, MX) x y := by
  unfold wpX_unmap
  exact om_xpB h1 (br_t rfl h)
theorem om_xunmap2 {post : Int32 → SX → Prop} {p : Nat} {y : Int32} (hp : p < 3) (h2 : (y < 0 ∨ nI 8 ≤ y)) (h : post (-2) (P, W, L, T, SM, SW, O, C, IX, PX, MX)) : wpX_unmap post (P, W, L, T, SM, SW, O, C, IX, PX, MX) (nI p) y := by
  unfold wpX_unmap
  exact om_xp hp (br_f om_10 (om_xgB h2 (br_t rfl h)))
theorem om_xmap3 {post : Int32 → SX → Prop} {p q : Nat} (hp : p < 3) (hq : q < 8) (z : ¬ P (p * 8 + q) = 0) (h : post (-3) (P, W, L, T, SM, SW, O, C, IX, PX, MX)) : wpX_map post (P, W, L, T, SM, SW, O, C, IX, PX, MX) (nI p) (nI q) := by
  unfold wpX_map
  exact om_xp hp (br_f om_10 (om_xg hq (br_f om_10 (om_xi rfl rfl ⟨vp_in_nI (by omega) (by omega), br_f (om_nt rfl (by omega) z) h⟩))))
theorem om_xmap4 {post : Int32 → SX → Prop} {p q : Nat} (hp : p < 3) (hq : q < 8) (z : P (p * 8 + q) = 0) (h : post (nI (om_cnt (upd P (p * 8 + q) (vp_nar .boolean 1)) 8 (p * 8))) (upd P (p * 8 + q) (vp_nar .boolean 1), om_it (fun i a => upd a (p * 32 + q * 4 + i) 0) 4 0 W, L, T, SM, SW, O, C, IX, PX, MX)) : wpX_map post (P, W, L, T, SM, SW, O, C, IX, PX, MX) (nI p) (nI q) := by
  unfold wpX_map
  exact om_xp hp (br_f om_10 (om_xg hq (br_f om_10 (om_xi rfl rfl ⟨vp_in_nI (by omega) (by omega), br_t (om_at rfl (by omega) z) (om_xi rfl rfl ⟨vp_in_nI (by omega) (by omega), nm_r (om_u rfl (by omega) rfl) (om_xcl hp hq (om_xc hp h))⟩)⟩))))
theorem om_xunmap3 {post : Int32 → SX → Prop} {p q : Nat} (hp : p < 3) (hq : q < 8) (z : P (p * 8 + q) = 0) (h : post (-4) (P, W, L, T, SM, SW, O, C, IX, PX, MX)) : wpX_unmap post (P, W, L, T, SM, SW, O, C, IX, PX, MX) (nI p) (nI q) := by
  unfold wpX_unmap
  exact om_xp hp (br_f om_10 (om_xg hq (br_f om_10 (om_xi rfl rfl ⟨vp_in_nI (by omega) (by omega), br_t (om_at rfl (by omega) z) h⟩))))
theorem om_xunmap4 {post : Int32 → SX → Prop} {p q : Nat} (hp : p < 3) (hq : q < 8) (z : ¬ P (p * 8 + q) = 0) (h : post (nI (om_cnt (upd P (p * 8 + q) (vp_nar .boolean 0)) 8 (p * 8))) (upd P (p * 8 + q) (vp_nar .boolean 0), W, L, T, SM, SW, O, C, IX, PX, MX)) : wpX_unmap post (P, W, L, T, SM, SW, O, C, IX, PX, MX) (nI p) (nI q) := by
  unfold wpX_unmap
  exact om_xp hp (br_f om_10 (om_xg hq (br_f om_10 (om_xi rfl rfl ⟨vp_in_nI (by omega) (by omega), br_f (om_nt rfl (by omega) z) (om_xi rfl rfl ⟨vp_in_nI (by omega) (by omega), nm_r (om_u rfl (by omega) rfl) (om_xc hp h)⟩)⟩))))
theorem om_xwrite1 {post : Int32 → SX → Prop} {x y w : Int32} (h1 : (x < 0 ∨ nI 3 ≤ x)) (h : post (-1) (P, W, L, T, SM, SW, O, C, IX, PX, MX)) : wpX_write post (P, W, L, T, SM, SW, O, C, IX, PX, MX) x y w := by
  unfold wpX_write
  exact om_xpB h1 (br_t rfl h)
theorem om_xwrite2 {post : Int32 → SX → Prop} {p : Nat} {y w : Int32} (hp : p < 3) (h2 : (y < 0 ∨ nI 32 ≤ y)) (h : post (-2) (P, W, L, T, SM, SW, O, C, IX, PX, MX)) : wpX_write post (P, W, L, T, SM, SW, O, C, IX, PX, MX) (nI p) y w := by
  unfold wpX_write
  exact om_xp hp (br_f om_10 (om_xaB h2 (br_t rfl h)))
theorem om_xwrite3 {post : Int32 → SX → Prop} {p a : Nat} {w : Int32} (hp : p < 3) (ha : a < 32) (z : P (p * 8 + a / 4) = 0) (h : post (-4) (P, W, L, T, SM, SW, O, C, IX, PX, MX)) : wpX_write post (P, W, L, T, SM, SW, O, C, IX, PX, MX) (nI p) (nI a) w := by
  unfold wpX_write
  exact om_xp hp (br_f om_10 (om_xa ha (br_f om_10 ⟨om_40, nm_r (om_d4 ha) (om_xi rfl rfl ⟨vp_in_nI (by omega) (by omega), br_t (om_at rfl (by omega) z) h⟩)⟩)))
theorem om_xwrite4 {post : Int32 → SX → Prop} {p a : Nat} {w : Int32} (hp : p < 3) (ha : a < 32) (z : ¬ P (p * 8 + a / 4) = 0) (h : post (nI (a / 4)) (P, upd W (p * 32 + a) w, L, T, SM, SW, O, C, IX, PX, MX)) : wpX_write post (P, W, L, T, SM, SW, O, C, IX, PX, MX) (nI p) (nI a) w := by
  unfold wpX_write
  exact om_xp hp (br_f om_10 (om_xa ha (br_f om_10 ⟨om_40, nm_r (om_d4 ha) (om_xi rfl rfl ⟨vp_in_nI (by omega) (by omega), br_f (om_nt rfl (by omega) z) ⟨pk_in (p * 32 + a) 96 (by omega) (om_i32 p a), nm_r (om_u (om_i32 p a) (by omega) rfl) h⟩⟩)⟩)))
theorem om_xcopy1 {post : Int32 → SX → Prop} {x y w : Int32} (h1 : (x < 0 ∨ nI 3 ≤ x)) (h : post (-1) (P, W, L, T, SM, SW, O, C, IX, PX, MX)) : wpX_copy post (P, W, L, T, SM, SW, O, C, IX, PX, MX) x y w := by
  unfold wpX_copy
  exact om_xpB h1 (br_t rfl h)
theorem om_xcopy2 {post : Int32 → SX → Prop} {p : Nat} {y w : Int32} (hp : p < 3) (h2 : (y < 0 ∨ nI 8 ≤ y)) (h : post (-2) (P, W, L, T, SM, SW, O, C, IX, PX, MX)) : wpX_copy post (P, W, L, T, SM, SW, O, C, IX, PX, MX) (nI p) y w := by
  unfold wpX_copy
  exact om_xp hp (br_f om_10 (om_xgB h2 (br_t rfl h)))
theorem om_xcopy3 {post : Int32 → SX → Prop} {p f : Nat} {w : Int32} (hp : p < 3) (hf : f < 8) (h2 : (w < 0 ∨ nI 8 ≤ w)) (h : post (-2) (P, W, L, T, SM, SW, O, C, IX, PX, MX)) : wpX_copy post (P, W, L, T, SM, SW, O, C, IX, PX, MX) (nI p) (nI f) w := by
  unfold wpX_copy
  exact om_xp hp (br_f om_10 (om_xg hf (br_f om_10 (om_xgB h2 (br_t rfl h)))))
theorem om_xcopy4 {post : Int32 → SX → Prop} {p f q : Nat} (hp : p < 3) (hf : f < 8) (hq : q < 8) (z : P (p * 8 + f) = 0) (h : post (-4) (P, W, L, T, SM, SW, O, C, IX, PX, MX)) : wpX_copy post (P, W, L, T, SM, SW, O, C, IX, PX, MX) (nI p) (nI f) (nI q) := by
  unfold wpX_copy
  exact om_xp hp (br_f om_10 (om_xg hf (br_f om_10 (om_xg hq (br_f om_10 (om_xi rfl rfl ⟨vp_in_nI (by omega) (by omega), br_t (om_at rfl (by omega) z) h⟩))))))
theorem om_xcopy5 {post : Int32 → SX → Prop} {p f q : Nat} (hp : p < 3) (hf : f < 8) (hq : q < 8) (z : ¬ P (p * 8 + f) = 0) (h : post (nI (om_cnt (upd P (p * 8 + q) (vp_nar .boolean 1)) 8 (p * 8))) (upd P (p * 8 + q) (vp_nar .boolean 1), om_it (fun i a => upd a (p * 32 + q * 4 + i) (a (p * 32 + f * 4 + i))) 4 0 W, L, T, SM, SW, O, C, IX, PX, MX)) : wpX_copy post (P, W, L, T, SM, SW, O, C, IX, PX, MX) (nI p) (nI f) (nI q) := by
  unfold wpX_copy
  exact om_xp hp (br_f om_10 (om_xg hf (br_f om_10 (om_xg hq (br_f om_10 (om_xi rfl rfl ⟨vp_in_nI (by omega) (by omega), br_f (om_nt rfl (by omega) z) (om_xw rfl rfl (om_xw rfl rfl (om_cw_words_words (n := 4) rfl rfl rfl (by omega) (by omega) (om_xi rfl rfl ⟨vp_in_nI (by omega) (by omega), nm_r (om_u rfl (by omega) rfl) (om_xc hp h)⟩))))⟩))))))
theorem om_xsend1 {post : Int32 → SX → Prop} {x y w v : Int32} (h1 : (x < 0 ∨ nI 3 ≤ x)) (h : post (-1) (P, W, L, T, SM, SW, O, C, IX, PX, MX)) : wpX_send post (P, W, L, T, SM, SW, O, C, IX, PX, MX) x y w v := by
  unfold wpX_send
  exact om_xpB h1 (br_t rfl h)
theorem om_xsend2 {post : Int32 → SX → Prop} {p : Nat} {y w v : Int32} (hp : p < 3) (h2 : (y < 0 ∨ nI 3 ≤ y)) (h : post (-1) (P, W, L, T, SM, SW, O, C, IX, PX, MX)) : wpX_send post (P, W, L, T, SM, SW, O, C, IX, PX, MX) (nI p) y w v := by
  unfold wpX_send
  exact om_xp hp (br_f om_10 (om_xoB h2 (br_t rfl h)))
theorem om_lt3 {r c : Nat} (hr : r < 3) (hc : C r = nI c) (hc3 : c < 3) : C (nI r).toNatClampNeg < 3 := by
  rw [nI_clamp (by omega), hc]
  exact nI_lt (b := 3) hc3 (by decide)
theorem om_nl3 {r c : Nat} (hr : r < 3) (hc : C r = nI c) (hc3 : c = 3) : ¬ C (nI r).toNatClampNeg < 3 := by
  rw [nI_clamp (by omega), hc, hc3]
  exact nI_nlt (b := 3) (by omega) (by decide)
theorem om_xsend3 {post : Int32 → SX → Prop} {p r : Nat} {w v : Int32} (hp : p < 3) (hr : r < 3) {c : Nat} (hc : C r = nI c) (hc3 : c = 3) (h : post (-5) (P, W, L, T, SM, SW, O, C, IX, PX, MX)) : wpX_send post (P, W, L, T, SM, SW, O, C, IX, PX, MX) (nI p) (nI r) w v := by
  unfold wpX_send
  exact om_xp hp (br_f om_10 (om_xo hr (br_f om_10 ⟨vp_in_nI (by omega) (by omega), br_f (om_nl3 hr hc hc3) h⟩)))
theorem om_xsend4 {post : Int32 → SX → Prop} {p r c f q : Nat} {w v : Int32} (hp : p < 3) (hr : r < 3) (hc : C r = nI c) (hc3 : c < 3) (hf : v &&& 7 = nI f) (hq : (v >>> ((3 : Int32) &&& 31)) &&& 3 = nI q) (hf8 : f < 8) (hq4 : q < 4) (hg : 8 < f + q) (h : post (-2) (P, W, L, T, SM, SW, O, C, IX, PX, MX)) : wpX_send post (P, W, L, T, SM, SW, O, C, IX, PX, MX) (nI p) (nI r) w v := by
  unfold wpX_send
  exact om_xp hp (br_f om_10 (om_xo hr (br_f om_10 ⟨vp_in_nI (by omega) (by omega), br_t (om_lt3 hr hc hc3) (nm_r hf (nm_r hq (br_f (om_gtE (nI_add f q) om_l8 hg (by omega)) h)))⟩)))
theorem om_xsend5 {post : Int32 → SX → Prop} {p r c f q : Nat} {w v : Int32} (hp : p < 3) (hr : r < 3) (hc : C r = nI c) (hc3 : c < 3) (hf : v &&& 7 = nI f) (hq : (v >>> ((3 : Int32) &&& 31)) &&& 3 = nI q) (hf8 : f < 8) (hq4 : q < 4) (hg : f + q ≤ 8) (hn : om_cnt P q (p * 8 + f) ≠ q) (h : post (-4) (P, W, L, T, SM, SW, O, C, IX, PX, MX)) : wpX_send post (P, W, L, T, SM, SW, O, C, IX, PX, MX) (nI p) (nI r) w v := by
  unfold wpX_send
  exact om_xp hp (br_f om_10 (om_xo hr (br_f om_10 ⟨vp_in_nI (by omega) (by omega), br_t (om_lt3 hr hc hc3) (nm_r hf (nm_r hq (br_t (om_leE (nI_add f q) om_l8 hg (by omega)) (om_xcf hp hg (br_f (fun k => hn ((nI_eq (Nat.lt_of_le_of_lt (om_cle P q (p * 8 + f)) (by omega)) (by omega)).mp k)) h)))))⟩)))
theorem om_xsend6 {post : Int32 → SX → Prop} {p r c f q o : Nat} {w v : Int32} (hp : p < 3) (hr : r < 3) (hc : C r = nI c) (hc3 : c < 3) (hf : v &&& 7 = nI f) (hq : (v >>> ((3 : Int32) &&& 31)) &&& 3 = nI q) (hf8 : f < 8) (hq4 : q < 4) (ho : O r = nI o) (ho3 : o < 3) (hg : f + q ≤ 8) (hn : om_cnt P q (p * 8 + f) = q) (h : post (nI (c + 1)) (P, W, L, T, SM, SW, O, upd C r (nI (c + 1)), upd IX (r * 3 + (o + c) % 3) w, upd PX (r * 3 + (o + c) % 3) (nI q), om_it (fun i a => upd a ((r * 3 + (o + c) % 3) * 12 + i) (W (p * 32 + f * 4 + i))) (q * 4) 0 MX)) : wpX_send post (P, W, L, T, SM, SW, O, C, IX, PX, MX) (nI p) (nI r) w v := by
  unfold wpX_send
  refine om_xp hp (br_f om_10 (om_xo hr (br_f om_10 ⟨vp_in_nI (by omega) (by omega), br_t (om_lt3 hr hc hc3) (nm_r hf (nm_r hq (br_t (om_leE (nI_add f q) om_l8 hg (by omega)) (om_xcf hp hg (br_t (congrArg nI hn) ⟨vp_in_nI (by omega) (by omega), om_xs hr ho (om_at rfl (by omega) hc) ho3 (by omega) (om_xw rfl rfl (om_cw_words_messageWords (s := p * 32 + f * 4) (t := (r * 3 + (o + c) % 3) * 12) (n := q * 4) rfl (om_m12 _) (om_m4 q) (by omega) (by omega) ⟨vp_in_nI (by omega) (by omega), nm_r (om_u rfl (by omega) rfl) ⟨vp_in_nI (by omega) (by omega), nm_r (om_u rfl (by omega) rfl) ⟨vp_in_nI (by omega) (by omega), vp_in_nI (by omega) (by omega), nm_r (e' := upd C r (nI (c + 1))) (om_u rfl (by omega) ?_) ⟨vp_in_nI (by omega) (by omega), ?_⟩⟩⟩⟩))⟩)))))⟩)))
  · rw [nI_clamp (by omega), hc, nI_1]
  · rw [nI_clamp (show r < 2 ^ 31 by omega), pk_us]
    exact h
theorem om_xreceive1 {post : Int32 → SX → Prop} {x y w : Int32} (h1 : (x < 0 ∨ nI 3 ≤ x)) (h : post (-1) (P, W, L, T, SM, SW, O, C, IX, PX, MX)) : wpX_receive post (P, W, L, T, SM, SW, O, C, IX, PX, MX) x y w := by
  unfold wpX_receive
  exact om_xpB h1 (br_t rfl h)
theorem om_xreceive2 {post : Int32 → SX → Prop} {p : Nat} {y w : Int32} (hp : p < 3) (h2 : (y < 0 ∨ nI 3 ≤ y)) (h : post (-1) (P, W, L, T, SM, SW, O, C, IX, PX, MX)) : wpX_receive post (P, W, L, T, SM, SW, O, C, IX, PX, MX) (nI p) y w := by
  unfold wpX_receive
  exact om_xp hp (br_f om_10 (om_xoB h2 (br_t rfl h)))
theorem om_xreceive3 {post : Int32 → SX → Prop} {p r : Nat} {w : Int32} (hp : p < 3) (hr : r < 3) (hc : C r = 0) (h : post (-6) (P, W, L, T, SM, SW, O, C, IX, PX, MX)) : wpX_receive post (P, W, L, T, SM, SW, O, C, IX, PX, MX) (nI p) (nI r) w := by
  unfold wpX_receive
  exact om_xp hp (br_f om_10 (om_xo hr (br_f om_10 ⟨vp_in_nI (by omega) (by omega), br_t (om_at rfl (by omega) hc) h⟩)))
theorem om_ne0 {r c : Nat} (hr : r < 3) (hc : C r = nI (c + 1)) (hc3 : c + 1 ≤ 3) : ¬ C (nI r).toNatClampNeg = 0 := by
  rw [nI_clamp (by omega), hc]
  exact nI_ne0 (by omega) (by omega)
theorem om_xreceive4 {post : Int32 → SX → Prop} {p r c o q : Nat} (hp : p < 3) (hr : r < 3) (hc : C r = nI (c + 1)) (hc3 : c + 1 ≤ 3) (ho : O r = nI o) (ho3 : o < 3) (hq : q ≤ 3) (hP : PX (r * 3 + (o + 0) % 3) = nI q) {w : Int32} (h2 : (w < 0 ∨ nI 8 ≤ w)) (h : post (-2) (P, W, L, T, SM, SW, O, C, IX, PX, MX)) : wpX_receive post (P, W, L, T, SM, SW, O, C, IX, PX, MX) (nI p) (nI r) w := by
  unfold wpX_receive
  exact om_xp hp (br_f om_10 (om_xo hr (br_f om_10 ⟨vp_in_nI (by omega) (by omega), br_f (om_ne0 hr hc hc3) (om_xs (c := 0) hr ho rfl ho3 (by omega) ⟨vp_in_nI (by omega) (by omega), nm_r (om_at rfl (by omega) hP) (om_xgB h2 (br_t rfl h))⟩)⟩)))
theorem om_xreceive5 {post : Int32 → SX → Prop} {p r c o q : Nat} (hp : p < 3) (hr : r < 3) (hc : C r = nI (c + 1)) (hc3 : c + 1 ≤ 3) (ho : O r = nI o) (ho3 : o < 3) (hq : q ≤ 3) (hP : PX (r * 3 + (o + 0) % 3) = nI q) {f : Nat} (hf : f < 8) (hg : 8 < f + q) (h : post (-2) (P, W, L, T, SM, SW, O, C, IX, PX, MX)) : wpX_receive post (P, W, L, T, SM, SW, O, C, IX, PX, MX) (nI p) (nI r) (nI f) := by
  unfold wpX_receive
  exact om_xp hp (br_f om_10 (om_xo hr (br_f om_10 ⟨vp_in_nI (by omega) (by omega), br_f (om_ne0 hr hc hc3) (om_xs (c := 0) hr ho rfl ho3 (by omega) ⟨vp_in_nI (by omega) (by omega), nm_r (om_at rfl (by omega) hP) (om_xg hf (br_f om_10 (br_f (om_gtE (nI_add f q) om_l8 hg (by omega)) h)))⟩)⟩)))
theorem om_xreceive6 {post : Int32 → SX → Prop} {p r c o q : Nat} (hp : p < 3) (hr : r < 3) (hc : C r = nI (c + 1)) (hc3 : c + 1 ≤ 3) (ho : O r = nI o) (ho3 : o < 3) (hq : q ≤ 3) (hP : PX (r * 3 + (o + 0) % 3) = nI q) {f : Nat} (hf : f < 8) (hg : f + q ≤ 8) (hn : om_cnt P q (p * 8 + f) ≠ 0) (h : post (-3) (P, W, L, T, SM, SW, O, C, IX, PX, MX)) : wpX_receive post (P, W, L, T, SM, SW, O, C, IX, PX, MX) (nI p) (nI r) (nI f) := by
  unfold wpX_receive
  exact om_xp hp (br_f om_10 (om_xo hr (br_f om_10 ⟨vp_in_nI (by omega) (by omega), br_f (om_ne0 hr hc hc3) (om_xs (c := 0) hr ho rfl ho3 (by omega) ⟨vp_in_nI (by omega) (by omega), nm_r (om_at rfl (by omega) hP) (om_xg hf (br_f om_10 (br_t (om_leE (nI_add f q) om_l8 hg (by omega)) (om_xcf hp hg (br_f (nI_ne0 (Nat.pos_of_ne_zero hn) (Nat.lt_of_le_of_lt (om_cle P q (p * 8 + f)) (by omega))) h)))))⟩)⟩)))
theorem om_xreceive7 {post : Int32 → SX → Prop} {p r c o q : Nat} (hp : p < 3) (hr : r < 3) (hc : C r = nI (c + 1)) (hc3 : c + 1 ≤ 3) (ho : O r = nI o) (ho3 : o < 3) (hq : q ≤ 3) (hP : PX (r * 3 + (o + 0) % 3) = nI q) {f : Nat} (hf : f < 8) (hg : f + q ≤ 8) (hn : om_cnt P q (p * 8 + f) = 0) (h : post (nI q) (om_it (fun i a => upd a (p * 8 + f + i) (vp_nar .boolean 1)) q 0 P, om_it (fun i a => upd a (p * 32 + f * 4 + i) (MX ((r * 3 + (o + 0) % 3) * 12 + i))) (q * 4) 0 W, upd L p (IX (r * 3 + (o + 0) % 3)), T, SM, SW, upd O r (nI ((o + 1) % 3)), upd C r (nI c), IX, PX, MX)) : wpX_receive post (P, W, L, T, SM, SW, O, C, IX, PX, MX) (nI p) (nI r) (nI f) := by
  unfold wpX_receive
  exact om_xp hp (br_f om_10 (om_xo hr (br_f om_10 ⟨vp_in_nI (by omega) (by omega), br_f (om_ne0 hr hc hc3) (om_xs (c := 0) hr ho rfl ho3 (by omega) ⟨vp_in_nI (by omega) (by omega), nm_r (om_at rfl (by omega) hP) (om_xg hf (br_f om_10 (br_t (om_leE (nI_add f q) om_l8 hg (by omega)) (om_xcf hp hg (br_t (congrArg nI hn) (om_xw rfl rfl (om_cw_messageWords_words (s := (r * 3 + (o + 0) % 3) * 12) (t := p * 32 + f * 4) (n := q * 4) (om_m12 _) rfl (om_m4 q) (by omega) (by omega) (om_xmp hp hg ⟨vp_in_nI (by omega) (by omega), vp_in_nI (by omega) (by omega), nm_r (om_u rfl (by omega) (om_at rfl (by omega) rfl)) (om_xdo hr ho ho3 hc h)⟩))))))))⟩)⟩)))
theorem om_xdrain1 {post : Int32 → SX → Prop} {x : Int32} (h1 : (x < 0 ∨ nI 3 ≤ x)) (h : post (-1) (P, W, L, T, SM, SW, O, C, IX, PX, MX)) : wpX_drain post (P, W, L, T, SM, SW, O, C, IX, PX, MX) x := by
  unfold wpX_drain
  exact om_xoB h1 (br_t rfl h)
theorem om_xdrain2 {post : Int32 → SX → Prop} {r : Nat} (hr : r < 3) (h : post (C r) (P, W, L, T, SM, SW, O, upd C r 0, IX, PX, MX)) : wpX_drain post (P, W, L, T, SM, SW, O, C, IX, PX, MX) (nI r) := by
  unfold wpX_drain
  exact om_xo hr (br_f om_10 ⟨vp_in_nI (by omega) (by omega), nm_r (om_at rfl (by omega) rfl) ⟨vp_in_nI (by omega) (by omega), nm_r (om_u rfl (by omega) rfl) h⟩⟩)
theorem om_xsnapshot1 {post : Int32 → SX → Prop} {x : Int32} (h1 : (x < 0 ∨ nI 3 ≤ x)) (h : post (-1) (P, W, L, T, SM, SW, O, C, IX, PX, MX)) : wpX_snapshot post (P, W, L, T, SM, SW, O, C, IX, PX, MX) x := by
  unfold wpX_snapshot
  exact om_xpB h1 (br_t rfl h)
theorem om_xrollBack1 {post : Int32 → SX → Prop} {x : Int32} (h1 : (x < 0 ∨ nI 3 ≤ x)) (h : post (-1) (P, W, L, T, SM, SW, O, C, IX, PX, MX)) : wpX_rollBack post (P, W, L, T, SM, SW, O, C, IX, PX, MX) x := by
  unfold wpX_rollBack
  exact om_xpB h1 (br_t rfl h)
theorem om_xexit1 {post : Int32 → SX → Prop} {x : Int32} (h1 : (x < 0 ∨ nI 3 ≤ x)) (h : post (-1) (P, W, L, T, SM, SW, O, C, IX, PX, MX)) : wpX_exit post (P, W, L, T, SM, SW, O, C, IX, PX, MX) x := by
  unfold wpX_exit
  exact om_xpB h1 (br_t rfl h)
theorem om_xsnapshot2 {post : Int32 → SX → Prop} {p : Nat} (hp : p < 3) (h : post (nI (om_cnt P 8 (p * 8))) (P, W, L, upd T p (vp_nar .boolean 1), om_it (fun i a => upd a (p * 8 + i) (vp_nar .boolean (P (p * 8 + i)))) 8 0 SM, om_it (fun i a => upd a (p * 32 + i) (W (p * 32 + i))) 32 0 SW, O, C, IX, PX, MX)) : wpX_snapshot post (P, W, L, T, SM, SW, O, C, IX, PX, MX) (nI p) := by
  unfold wpX_snapshot
  exact om_xp hp (br_f om_10 (om_cm_pageMapped_words_snapshotMapped_snapshotWords hp ⟨vp_in_nI (by omega) (by omega), nm_r (om_u rfl (by omega) rfl) (om_xc hp h)⟩))
theorem om_xrollBack2 {post : Int32 → SX → Prop} {p : Nat} (hp : p < 3) (z : T p = 0) (h : post (-7) (P, W, L, T, SM, SW, O, C, IX, PX, MX)) : wpX_rollBack post (P, W, L, T, SM, SW, O, C, IX, PX, MX) (nI p) := by
  unfold wpX_rollBack
  exact om_xp hp (br_f om_10 ⟨vp_in_nI (by omega) (by omega), br_t (om_at rfl (by omega) z) h⟩)
theorem om_xrollBack3 {post : Int32 → SX → Prop} {p : Nat} (hp : p < 3) (z : ¬ T p = 0) (h : post (nI (om_cnt (om_it (fun i a => upd a (p * 8 + i) (vp_nar .boolean (SM (p * 8 + i)))) 8 0 P) 8 (p * 8))) (om_it (fun i a => upd a (p * 8 + i) (vp_nar .boolean (SM (p * 8 + i)))) 8 0 P, om_it (fun i a => upd a (p * 32 + i) (SW (p * 32 + i))) 32 0 W, L, T, SM, SW, O, C, IX, PX, MX)) : wpX_rollBack post (P, W, L, T, SM, SW, O, C, IX, PX, MX) (nI p) := by
  unfold wpX_rollBack
  exact om_xp hp (br_f om_10 ⟨vp_in_nI (by omega) (by omega), br_f (om_nt rfl (by omega) z) (om_cm_snapshotMapped_snapshotWords_pageMapped_words hp (om_xc hp h))⟩)
theorem om_xexit2 {post : Int32 → SX → Prop} {p : Nat} (hp : p < 3) (h : post (nI (om_cnt P 8 (p * 8))) (om_it (fun i a => upd a (p * 8 + i) (vp_nar .boolean 0)) 8 0 P, W, upd L p 0, upd T p (vp_nar .boolean 0), SM, SW, O, C, IX, PX, MX)) : wpX_exit post (P, W, L, T, SM, SW, O, C, IX, PX, MX) (nI p) := by
  unfold wpX_exit
  exact om_xp hp (br_f om_10 (om_xc hp (om_xua hp ⟨vp_in_nI (by omega) (by omega), nm_r (om_u rfl (by omega) rfl) ⟨vp_in_nI (by omega) (by omega), nm_r (om_u rfl (by omega) rfl) h⟩⟩)))
theorem om_xread1 {post : Int32 → Prop} {x y : Int32} (h1 : (x < 0 ∨ nI 3 ≤ x)) (h : post (0)) : wpX_read post (P, W, L, T, SM, SW, O, C, IX, PX, MX) x y := by
  unfold wpX_read
  exact om_xpB h1 (br_t rfl h)
theorem om_xread2 {post : Int32 → Prop} {p : Nat} {y : Int32} (hp : p < 3) (h2 : (y < 0 ∨ nI 32 ≤ y)) (h : post (0)) : wpX_read post (P, W, L, T, SM, SW, O, C, IX, PX, MX) (nI p) y := by
  unfold wpX_read
  exact om_xp hp (br_f om_10 (om_xaB h2 (br_t rfl h)))
theorem om_xread3 {post : Int32 → Prop} {p a : Nat} (hp : p < 3) (ha : a < 32) (z : P (p * 8 + a / 4) = 0) (h : post (0)) : wpX_read post (P, W, L, T, SM, SW, O, C, IX, PX, MX) (nI p) (nI a) := by
  unfold wpX_read
  exact om_xp hp (br_f om_10 (om_xa ha (br_f om_10 ⟨om_40, om_xi rfl (om_d4 ha) ⟨vp_in_nI (by omega) (by omega), br_t (om_at rfl (by omega) z) h⟩⟩)))
theorem om_xread4 {post : Int32 → Prop} {p a : Nat} (hp : p < 3) (ha : a < 32) (z : ¬ P (p * 8 + a / 4) = 0) (h : post (W (p * 32 + a))) : wpX_read post (P, W, L, T, SM, SW, O, C, IX, PX, MX) (nI p) (nI a) := by
  unfold wpX_read
  refine om_xp hp (br_f om_10 (om_xa ha (br_f om_10 ⟨om_40, om_xi rfl (om_d4 ha) ⟨vp_in_nI (by omega) (by omega), br_f (om_nt rfl (by omega) z) ⟨pk_in (p * 32 + a) 96 (by omega) (om_i32 p a), ?_⟩⟩⟩)))
  rw [om_i32, nI_clamp (by omega)]
  exact h
theorem om_xmapped1 {post : Int32 → Prop} {x y : Int32} (h1 : (x < 0 ∨ nI 3 ≤ x)) (h : post (0)) : wpX_mapped post (P, W, L, T, SM, SW, O, C, IX, PX, MX) x y := by
  unfold wpX_mapped
  exact om_xpB h1 (br_t rfl h)
theorem om_xmapped2 {post : Int32 → Prop} {p : Nat} {y : Int32} (hp : p < 3) (h2 : (y < 0 ∨ nI 8 ≤ y)) (h : post (0)) : wpX_mapped post (P, W, L, T, SM, SW, O, C, IX, PX, MX) (nI p) y := by
  unfold wpX_mapped
  exact om_xp hp (br_f om_10 (om_xgB h2 (br_t rfl h)))
theorem om_xmapped3 {post : Int32 → Prop} {p q : Nat} (hp : p < 3) (hq : q < 8) (z : P (p * 8 + q) = 0) (h : post (0)) : wpX_mapped post (P, W, L, T, SM, SW, O, C, IX, PX, MX) (nI p) (nI q) := by
  unfold wpX_mapped
  exact om_xp hp (br_f om_10 (om_xg hq (br_f om_10 (om_xi rfl rfl ⟨vp_in_nI (by omega) (by omega), br_t (om_at rfl (by omega) z) h⟩))))
theorem om_xmapped4 {post : Int32 → Prop} {p q : Nat} (hp : p < 3) (hq : q < 8) (z : ¬ P (p * 8 + q) = 0) (h : post (1)) : wpX_mapped post (P, W, L, T, SM, SW, O, C, IX, PX, MX) (nI p) (nI q) := by
  unfold wpX_mapped
  exact om_xp hp (br_f om_10 (om_xg hq (br_f om_10 (om_xi rfl rfl ⟨vp_in_nI (by omega) (by omega), br_f (om_nt rfl (by omega) z) h⟩))))
theorem om_xlastWord1 {post : Int32 → Prop} {x : Int32} (h1 : (x < 0 ∨ nI 3 ≤ x)) (h : post (0)) : wpX_lastWord post (P, W, L, T, SM, SW, O, C, IX, PX, MX) x := by
  unfold wpX_lastWord
  exact om_xpB h1 (br_t rfl h)
theorem om_xlastWord2 {post : Int32 → Prop} {p : Nat} (hp : p < 3) (h : post (L p)) : wpX_lastWord post (P, W, L, T, SM, SW, O, C, IX, PX, MX) (nI p) := by
  unfold wpX_lastWord
  refine om_xp hp (br_f om_10 ⟨vp_in_nI (by omega) (by omega), ?_⟩)
  rw [nI_clamp (by omega)]
  exact h
theorem om_xwaiting1 {post : Int32 → Prop} {x : Int32} (h1 : (x < 0 ∨ nI 3 ≤ x)) (h : post (-1)) : wpX_waiting post (P, W, L, T, SM, SW, O, C, IX, PX, MX) x := by
  unfold wpX_waiting
  exact om_xoB h1 (br_t rfl h)
theorem om_xwaiting2 {post : Int32 → Prop} {p : Nat} (hp : p < 3) (h : post (C p)) : wpX_waiting post (P, W, L, T, SM, SW, O, C, IX, PX, MX) (nI p) := by
  unfold wpX_waiting
  refine om_xo hp (br_f om_10 ⟨vp_in_nI (by omega) (by omega), ?_⟩)
  rw [nI_clamp (by omega)]
  exact h
end
end
section
section
variable {P W L T SM SW O C IX PX MX IY PY MY : Nat → Int32}
theorem om_ymap1 {post : Int32 → SY → Prop} {x y : Int32} (h1 : (x < 0 ∨ nI 3 ≤ x)) (h : post (-1) (P, W, L, T, SM, SW, C, IY, PY, MY)) : wpY_map post (P, W, L, T, SM, SW, C, IY, PY, MY) x y := by
  unfold wpY_map
  exact om_ybB h1 (br_f om_10 h)
theorem om_ymap2 {post : Int32 → SY → Prop} {p : Nat} {y : Int32} (hp : p < 3) (h2 : (y < 0 ∨ nI 8 ≤ y)) (h : post (-2) (P, W, L, T, SM, SW, C, IY, PY, MY)) : wpY_map post (P, W, L, T, SM, SW, C, IY, PY, MY) (nI p) y := by
  unfold wpY_map
  exact om_yb hp (br_t rfl (om_ygB h2 (br_f om_10 h)))
theorem om_yunmap1 {post : Int32 → SY → Prop} {x y : Int32} (h1 : (x < 0 ∨ nI 3 ≤ x)) (h : post (-1) (P, W, L, T, SM, SW, C, IY, PY, MY)) : wpY_unmap post (P, W, L, T, SM, SW, C, IY, PY, MY) x y := by
  unfold wpY_unmap
  exact om_ybB h1 (br_f om_10 h)
theorem om_yunmap2 {post : Int32 → SY → Prop} {p : Nat} {y : Int32} (hp : p < 3) (h2 : (y < 0 ∨ nI 8 ≤ y)) (h : post (-2) (P, W, L, T, SM, SW, C, IY, PY, MY)) : wpY_unmap post (P, W, L, T, SM, SW, C, IY, PY, MY) (nI p) y := by
  unfold wpY_unmap
  exact om_yb hp (br_t rfl (om_ygB h2 (br_f om_10 h)))
theorem om_ymap3 {post : Int32 → SY → Prop} {p q : Nat} (hp : p < 3) (hq : q < 8) (z : ¬ P (p * 8 + q) = 0) (h : post (-3) (P, W, L, T, SM, SW, C, IY, PY, MY)) : wpY_map post (P, W, L, T, SM, SW, C, IY, PY, MY) (nI p) (nI q) := by
  unfold wpY_map
  exact om_yb hp (br_t rfl (om_yg hq (br_t rfl ⟨pk_in (p * 8 + q) 24 (by omega) (om_i8 p q), br_f (om_nt (om_i8 p q) (by omega) z) h⟩)))
theorem om_ymap4 {post : Int32 → SY → Prop} {p q : Nat} (hp : p < 3) (hq : q < 8) (z : P (p * 8 + q) = 0) (h : post (nI (om_cnt (upd P (p * 8 + q) (vp_nar .boolean 1)) 8 (p * 8))) (upd P (p * 8 + q) (vp_nar .boolean 1), om_it (fun i a => upd a (p * 32 + q * 4 + i) 0) 4 0 W, L, T, SM, SW, C, IY, PY, MY)) : wpY_map post (P, W, L, T, SM, SW, C, IY, PY, MY) (nI p) (nI q) := by
  unfold wpY_map
  exact om_yb hp (br_t rfl (om_yg hq (br_t rfl ⟨pk_in (p * 8 + q) 24 (by omega) (om_i8 p q), br_t (om_at (om_i8 p q) (by omega) z) ⟨pk_in (p * 8 + q) 24 (by omega) (om_i8 p q), nm_r (om_u (om_i8 p q) (by omega) rfl) ⟨5, om_ymL hp hq 4 0 W rfl h⟩⟩⟩)))
theorem om_yunmap3 {post : Int32 → SY → Prop} {p q : Nat} (hp : p < 3) (hq : q < 8) (z : P (p * 8 + q) = 0) (h : post (-4) (P, W, L, T, SM, SW, C, IY, PY, MY)) : wpY_unmap post (P, W, L, T, SM, SW, C, IY, PY, MY) (nI p) (nI q) := by
  unfold wpY_unmap
  exact om_yb hp (br_t rfl (om_yg hq (br_t rfl ⟨pk_in (p * 8 + q) 24 (by omega) (om_i8 p q), br_t (om_at (om_i8 p q) (by omega) z) h⟩)))
theorem om_yunmap4 {post : Int32 → SY → Prop} {p q : Nat} (hp : p < 3) (hq : q < 8) (z : ¬ P (p * 8 + q) = 0) (h : post (nI (om_cnt (upd P (p * 8 + q) (vp_nar .boolean 0)) 8 (p * 8))) (upd P (p * 8 + q) (vp_nar .boolean 0), W, L, T, SM, SW, C, IY, PY, MY)) : wpY_unmap post (P, W, L, T, SM, SW, C, IY, PY, MY) (nI p) (nI q) := by
  unfold wpY_unmap
  exact om_yb hp (br_t rfl (om_yg hq (br_t rfl ⟨pk_in (p * 8 + q) 24 (by omega) (om_i8 p q), br_f (om_nt (om_i8 p q) (by omega) z) ⟨pk_in (p * 8 + q) 24 (by omega) (om_i8 p q), nm_r (om_u (om_i8 p q) (by omega) rfl) (om_yc hp h)⟩⟩)))
theorem om_i84 {a : Nat} (p : Nat) (ha : a < 32) : nI p * 8 + nI a / 4 = nI (p * 8 + a / 4) := by rw [om_d4 ha, om_i8]
theorem om_ywrite1 {post : Int32 → SY → Prop} {x y w : Int32} (h1 : (x < 0 ∨ nI 3 ≤ x)) (h : post (-1) (P, W, L, T, SM, SW, C, IY, PY, MY)) : wpY_write post (P, W, L, T, SM, SW, C, IY, PY, MY) x y w := by
  unfold wpY_write
  exact om_ybB h1 (br_f om_10 h)
theorem om_ywrite2 {post : Int32 → SY → Prop} {p : Nat} {y w : Int32} (hp : p < 3) (h2 : (y < 0 ∨ nI 32 ≤ y)) (h : post (-2) (P, W, L, T, SM, SW, C, IY, PY, MY)) : wpY_write post (P, W, L, T, SM, SW, C, IY, PY, MY) (nI p) y w := by
  unfold wpY_write
  exact om_yb hp (br_t rfl (br_c (fun _ => h) (fun h0 => br_f (om_big (n := 31) (by decide) (h2.resolve_left h0)).2.1 h)))
theorem om_ywrite3 {post : Int32 → SY → Prop} {p a : Nat} {w : Int32} (hp : p < 3) (ha : a < 32) (z : P (p * 8 + a / 4) = 0) (h : post (-4) (P, W, L, T, SM, SW, C, IY, PY, MY)) : wpY_write post (P, W, L, T, SM, SW, C, IY, PY, MY) (nI p) (nI a) w := by
  unfold wpY_write
  exact om_yb hp (br_t rfl (br_f (nI_pos (by omega)) (br_t (nI_le (b := 31) (by omega) (by decide)) ⟨om_40, pk_in (p * 8 + a / 4) 24 (by omega) (om_i84 p ha), br_t (om_at (om_i84 p ha) (by omega) z) h⟩)))
theorem om_ywrite4 {post : Int32 → SY → Prop} {p a : Nat} {w : Int32} (hp : p < 3) (ha : a < 32) (z : ¬ P (p * 8 + a / 4) = 0) (h : post (nI (a / 4)) (P, upd W (p * 32 + a) w, L, T, SM, SW, C, IY, PY, MY)) : wpY_write post (P, W, L, T, SM, SW, C, IY, PY, MY) (nI p) (nI a) w := by
  unfold wpY_write
  refine om_yb hp (br_t rfl (br_f (nI_pos (by omega)) (br_t (nI_le (b := 31) (by omega) (by decide)) ⟨om_40, pk_in (p * 8 + a / 4) 24 (by omega) (om_i84 p ha), br_f (om_nt (om_i84 p ha) (by omega) z) ⟨pk_in (p * 32 + a) 96 (by omega) (om_i32 p a), nm_r (om_u (om_i32 p a) (by omega) rfl) ⟨om_40, ?_⟩⟩⟩)))
  rw [om_d4 ha]
  exact h
theorem om_ycopy1 {post : Int32 → SY → Prop} {x y w : Int32} (h1 : (x < 0 ∨ nI 3 ≤ x)) (h : post (-1) (P, W, L, T, SM, SW, C, IY, PY, MY)) : wpY_copy post (P, W, L, T, SM, SW, C, IY, PY, MY) x y w := by
  unfold wpY_copy
  exact om_ybB h1 (br_f om_10 h)
theorem om_ycopy2 {post : Int32 → SY → Prop} {p : Nat} {y w : Int32} (hp : p < 3) (h2 : (y < 0 ∨ nI 8 ≤ y)) (h : post (-2) (P, W, L, T, SM, SW, C, IY, PY, MY)) : wpY_copy post (P, W, L, T, SM, SW, C, IY, PY, MY) (nI p) y w := by
  unfold wpY_copy
  exact om_yb hp (br_t rfl (om_ygB h2 (br_f om_10 h)))
theorem om_ycopy3 {post : Int32 → SY → Prop} {p f : Nat} {w : Int32} (hp : p < 3) (hf : f < 8) (h2 : (w < 0 ∨ nI 8 ≤ w)) (h : post (-2) (P, W, L, T, SM, SW, C, IY, PY, MY)) : wpY_copy post (P, W, L, T, SM, SW, C, IY, PY, MY) (nI p) (nI f) w := by
  unfold wpY_copy
  exact om_yb hp (br_t rfl (om_yg hf (br_t rfl (om_ygB h2 (br_f om_10 h)))))
theorem om_ycopy4 {post : Int32 → SY → Prop} {p f q : Nat} (hp : p < 3) (hf : f < 8) (hq : q < 8) (z : P (p * 8 + f) = 0) (h : post (-4) (P, W, L, T, SM, SW, C, IY, PY, MY)) : wpY_copy post (P, W, L, T, SM, SW, C, IY, PY, MY) (nI p) (nI f) (nI q) := by
  unfold wpY_copy
  exact om_yb hp (br_t rfl (om_yg hf (br_t rfl (om_yg hq (br_t rfl ⟨pk_in (p * 8 + f) 24 (by omega) (om_i8 p f), br_t (om_at (om_i8 p f) (by omega) z) h⟩)))))
theorem om_ycopy5 {post : Int32 → SY → Prop} {p f q : Nat} (hp : p < 3) (hf : f < 8) (hq : q < 8) (z : ¬ P (p * 8 + f) = 0) (h : post (nI (om_cnt (upd P (p * 8 + q) (vp_nar .boolean 1)) 8 (p * 8))) (upd P (p * 8 + q) (vp_nar .boolean 1), om_it (fun i a => upd a (p * 32 + q * 4 + i) (a (p * 32 + f * 4 + i))) 4 0 W, L, T, SM, SW, C, IY, PY, MY)) : wpY_copy post (P, W, L, T, SM, SW, C, IY, PY, MY) (nI p) (nI f) (nI q) := by
  unfold wpY_copy
  exact om_yb hp (br_t rfl (om_yg hf (br_t rfl (om_yg hq (br_t rfl ⟨pk_in (p * 8 + f) 24 (by omega) (om_i8 p f), br_f (om_nt (om_i8 p f) (by omega) z) ⟨pk_in (p * 8 + q) 24 (by omega) (om_i8 p q), nm_r (om_u (om_i8 p q) (by omega) rfl) ⟨5, om_ycpL hp hf hq 4 0 W rfl h⟩⟩⟩)))))
theorem om_ysend1 {post : Int32 → SY → Prop} {x y w v : Int32} (h1 : (x < 0 ∨ nI 3 ≤ x)) (h : post (-1) (P, W, L, T, SM, SW, C, IY, PY, MY)) : wpY_send post (P, W, L, T, SM, SW, C, IY, PY, MY) x y w v := by
  unfold wpY_send
  exact om_ybB h1 (br_f om_10 h)
theorem om_ysend2 {post : Int32 → SY → Prop} {p : Nat} {y w v : Int32} (hp : p < 3) (h2 : (y < 0 ∨ nI 3 ≤ y)) (h : post (-1) (P, W, L, T, SM, SW, C, IY, PY, MY)) : wpY_send post (P, W, L, T, SM, SW, C, IY, PY, MY) (nI p) y w v := by
  unfold wpY_send
  exact om_yb hp (br_t rfl (om_ybB h2 (br_f om_10 h)))
theorem om_ysend3 {post : Int32 → SY → Prop} {p r c : Nat} {w v : Int32} (hp : p < 3) (hr : r < 3) (hc : C r = nI c) (hc3 : c = 3) (h : post (-5) (P, W, L, T, SM, SW, C, IY, PY, MY)) : wpY_send post (P, W, L, T, SM, SW, C, IY, PY, MY) (nI p) (nI r) w v := by
  unfold wpY_send
  exact om_yb hp (br_t rfl (om_yb hr (br_t rfl ⟨vp_in_nI (by omega) (by omega), nm_r (om_at rfl (by omega) hc) (br_f (nI_nlt (b := 3) (by omega) (by omega)) h)⟩)))
theorem om_ysend4 {post : Int32 → SY → Prop} {p r c f q : Nat} {w v : Int32} (hp : p < 3) (hr : r < 3) (hc : C r = nI c) (hc3 : c < 3) (hf : v &&& 7 = nI f) (hq : (v >>> ((3 : Int32) &&& 31)) &&& 3 = nI q) (hf8 : f < 8) (hq4 : q < 4) (hg : 8 < f + q) (h : post (-2) (P, W, L, T, SM, SW, C, IY, PY, MY)) : wpY_send post (P, W, L, T, SM, SW, C, IY, PY, MY) (nI p) (nI r) w v := by
  unfold wpY_send
  exact om_yb hp (br_t rfl (om_yb hr (br_t rfl ⟨vp_in_nI (by omega) (by omega), nm_r (om_at rfl (by omega) hc) (br_t (nI_lt (b := 3) hc3 (by decide)) (nm_r hf (nm_r hq (br_f (om_gtE (nI_add f q) om_l8 hg (by omega)) h))))⟩)))
theorem om_ysend5 {post : Int32 → SY → Prop} {p r c f q : Nat} {w v : Int32} (hp : p < 3) (hr : r < 3) (hc : C r = nI c) (hc3 : c < 3) (hf : v &&& 7 = nI f) (hq : (v >>> ((3 : Int32) &&& 31)) &&& 3 = nI q) (hf8 : f < 8) (hq4 : q < 4) (hg : f + q ≤ 8) (hn : om_cnt P q (p * 8 + f) ≠ q) (h : post (-4) (P, W, L, T, SM, SW, C, IY, PY, MY)) : wpY_send post (P, W, L, T, SM, SW, C, IY, PY, MY) (nI p) (nI r) w v := by
  unfold wpY_send
  exact om_yb hp (br_t rfl (om_yb hr (br_t rfl ⟨vp_in_nI (by omega) (by omega), nm_r (om_at rfl (by omega) hc) (br_t (nI_lt (b := 3) hc3 (by decide)) (nm_r hf (nm_r hq (br_t (om_leE (nI_add f q) om_l8 hg (by omega)) ⟨q + 1, om_ys1L hp hg q 0 (by omega) (fun k => absurd k hn) (fun _ => h)⟩))))⟩)))
theorem om_i3 (r c : Nat) : nI r * 3 + nI c = nI (r * 3 + c) := by rw [om_m3, nI_add]
theorem om_ysend6a {post : Int32 → SY → Prop} {p r c f q n : Nat} {w : Int32} (hp : p < 3) (hr : r < 3) (hc3 : c < 3) (hq4 : q < 4) (hg : f + q ≤ 8) (h : post (nI (c + 1)) (P, W, L, T, SM, SW, upd C r (nI (c + 1)), upd IY (r * 3 + c) w, upd PY (r * 3 + c) (nI q), om_it (fun i a => upd a ((r * 3 + c) * 12 + i) (W (p * 32 + f * 4 + i))) (q * 4) 0 MY)) : wY_send_66 post (nI p) (nI r) w (nI c) (nI f) (nI q) P W L T SM SW C IY PY MY (n + 1) (nI q) :=
  br_t (nI_le (by omega) (by omega)) (nm_r (om_i3 r c) ⟨vp_in_nI (by omega) (by omega), nm_r (om_u rfl (by omega) rfl) ⟨vp_in_nI (by omega) (by omega), nm_r (om_u rfl (by omega) rfl) ⟨q * 4 + 1, om_ys2L hp hr hg (by omega) (by omega) (q * 4) 0 MY (by omega) h⟩⟩⟩)
theorem om_ysend6 {post : Int32 → SY → Prop} {p r c f q : Nat} {w v : Int32} (hp : p < 3) (hr : r < 3) (hc : C r = nI c) (hc3 : c < 3) (hf : v &&& 7 = nI f) (hq : (v >>> ((3 : Int32) &&& 31)) &&& 3 = nI q) (hf8 : f < 8) (hq4 : q < 4) (hg : f + q ≤ 8) (hn : om_cnt P q (p * 8 + f) = q) (h : post (nI (c + 1)) (P, W, L, T, SM, SW, upd C r (nI (c + 1)), upd IY (r * 3 + c) w, upd PY (r * 3 + c) (nI q), om_it (fun i a => upd a ((r * 3 + c) * 12 + i) (W (p * 32 + f * 4 + i))) (q * 4) 0 MY)) : wpY_send post (P, W, L, T, SM, SW, C, IY, PY, MY) (nI p) (nI r) w v := by
  unfold wpY_send
  exact om_yb hp (br_t rfl (om_yb hr (br_t rfl ⟨vp_in_nI (by omega) (by omega), nm_r (om_at rfl (by omega) hc) (br_t (nI_lt (b := 3) hc3 (by decide)) (nm_r hf (nm_r hq (br_t (om_leE (nI_add f q) om_l8 hg (by omega)) ⟨q + 1, om_ys1L hp hg q 0 (by omega) (fun _ _ => om_ysend6a hp hr hc3 hq4 hg h) (fun k => absurd hn k)⟩))))⟩)))
theorem om_yreceive1 {post : Int32 → SY → Prop} {x y w : Int32} (h1 : (x < 0 ∨ nI 3 ≤ x)) (h : post (-1) (P, W, L, T, SM, SW, C, IY, PY, MY)) : wpY_receive post (P, W, L, T, SM, SW, C, IY, PY, MY) x y w := by
  unfold wpY_receive
  exact om_ybB h1 (br_f om_10 h)
theorem om_yreceive2 {post : Int32 → SY → Prop} {p : Nat} {y w : Int32} (hp : p < 3) (h2 : (y < 0 ∨ nI 3 ≤ y)) (h : post (-1) (P, W, L, T, SM, SW, C, IY, PY, MY)) : wpY_receive post (P, W, L, T, SM, SW, C, IY, PY, MY) (nI p) y w := by
  unfold wpY_receive
  exact om_yb hp (br_t rfl (om_ybB h2 (br_f om_10 h)))
theorem om_yreceive3 {post : Int32 → SY → Prop} {p r : Nat} {w : Int32} (hp : p < 3) (hr : r < 3) (hc : C r = 0) (h : post (-6) (P, W, L, T, SM, SW, C, IY, PY, MY)) : wpY_receive post (P, W, L, T, SM, SW, C, IY, PY, MY) (nI p) (nI r) w := by
  unfold wpY_receive
  exact om_yb hp (br_t rfl (om_yb hr (br_t rfl ⟨vp_in_nI (by omega) (by omega), br_t (om_at rfl (by omega) hc) h⟩)))
theorem om_yreceive4 {post : Int32 → SY → Prop} {p r c q : Nat} (hp : p < 3) (hr : r < 3) (hc : C r = nI (c + 1)) (hc3 : c + 1 ≤ 3) (hq : q ≤ 3) (hP : PY (r * 3) = nI q) {w : Int32} (h2 : (w < 0 ∨ nI 8 ≤ w)) (h : post (-2) (P, W, L, T, SM, SW, C, IY, PY, MY)) : wpY_receive post (P, W, L, T, SM, SW, C, IY, PY, MY) (nI p) (nI r) w := by
  unfold wpY_receive
  exact om_yb hp (br_t rfl (om_yb hr (br_t rfl ⟨vp_in_nI (by omega) (by omega), br_f (om_ne0 hr hc hc3) (nm_r (om_m3 r) ⟨vp_in_nI (by omega) (by omega), nm_r (om_at rfl (by omega) hP) (om_ygB h2 (br_f om_10 h))⟩)⟩)))
theorem om_yreceive5 {post : Int32 → SY → Prop} {p r c q : Nat} (hp : p < 3) (hr : r < 3) (hc : C r = nI (c + 1)) (hc3 : c + 1 ≤ 3) (hq : q ≤ 3) (hP : PY (r * 3) = nI q) {f : Nat} (hf : f < 8) (hg : 8 < f + q) (h : post (-2) (P, W, L, T, SM, SW, C, IY, PY, MY)) : wpY_receive post (P, W, L, T, SM, SW, C, IY, PY, MY) (nI p) (nI r) (nI f) := by
  unfold wpY_receive
  exact om_yb hp (br_t rfl (om_yb hr (br_t rfl ⟨vp_in_nI (by omega) (by omega), br_f (om_ne0 hr hc hc3) (nm_r (om_m3 r) ⟨vp_in_nI (by omega) (by omega), nm_r (om_at rfl (by omega) hP) (om_yg hf (br_t rfl (br_f (om_gtE (nI_add f q) om_l8 hg (by omega)) h)))⟩)⟩)))
theorem om_yreceive6 {post : Int32 → SY → Prop} {p r c q : Nat} (hp : p < 3) (hr : r < 3) (hc : C r = nI (c + 1)) (hc3 : c + 1 ≤ 3) (hq : q ≤ 3) (hP : PY (r * 3) = nI q) {f : Nat} (hf : f < 8) (hg : f + q ≤ 8) (hn : om_cnt P q (p * 8 + f) ≠ 0) (h : post (-3) (P, W, L, T, SM, SW, C, IY, PY, MY)) : wpY_receive post (P, W, L, T, SM, SW, C, IY, PY, MY) (nI p) (nI r) (nI f) := by
  unfold wpY_receive
  exact om_yb hp (br_t rfl (om_yb hr (br_t rfl ⟨vp_in_nI (by omega) (by omega), br_f (om_ne0 hr hc hc3) (nm_r (om_m3 r) ⟨vp_in_nI (by omega) (by omega), nm_r (om_at rfl (by omega) hP) (om_yg hf (br_t rfl (br_t (om_leE (nI_add f q) om_l8 hg (by omega)) ⟨q + 1, om_yr1L hp hg q 0 (by omega) (fun k => absurd k hn) (fun _ => h)⟩)))⟩)⟩)))
theorem om_yreceive7a {post : Int32 → SY → Prop} {p r c f q n : Nat} (hp : p < 3) (hr : r < 3) (hc : C r = nI (c + 1)) (hq : q ≤ 3) (hg : f + q ≤ 8) (h : post (nI q) (om_it (fun i a => upd a (p * 8 + f + i) (vp_nar .boolean 1)) q 0 P, om_it (fun i a => upd a (p * 32 + f * 4 + i) (MY (r * 3 * 12 + i))) (q * 4) 0 W, upd L p (IY (r * 3)), T, SM, SW, upd C r (nI c), om_sh (om_sh IY (r * 3)) (r * 3 + 1), om_sh (om_sh PY (r * 3)) (r * 3 + 1), om_sw (om_sw MY (r * 3)) (r * 3 + 1))) : wY_receive_67 post (nI p) (nI r) (nI f) (nI (r * 3)) (nI q) P W L T SM SW C IY PY MY (n + 1) (nI q) :=
  br_t (nI_le (by omega) (by omega)) ⟨vp_in_nI (by omega) (by omega), vp_in_nI (by omega) (by omega), nm_r (om_u rfl (by omega) (om_at rfl (by omega) rfl)) ⟨q + 1, om_yr2L hp hr hg hq (by omega) hc q 0 P (by omega) h⟩⟩
theorem om_yreceive7 {post : Int32 → SY → Prop} {p r c q : Nat} (hp : p < 3) (hr : r < 3) (hc : C r = nI (c + 1)) (hc3 : c + 1 ≤ 3) (hq : q ≤ 3) (hP : PY (r * 3) = nI q) {f : Nat} (hf : f < 8) (hg : f + q ≤ 8) (hn : om_cnt P q (p * 8 + f) = 0) (h : post (nI q) (om_it (fun i a => upd a (p * 8 + f + i) (vp_nar .boolean 1)) q 0 P, om_it (fun i a => upd a (p * 32 + f * 4 + i) (MY (r * 3 * 12 + i))) (q * 4) 0 W, upd L p (IY (r * 3)), T, SM, SW, upd C r (nI c), om_sh (om_sh IY (r * 3)) (r * 3 + 1), om_sh (om_sh PY (r * 3)) (r * 3 + 1), om_sw (om_sw MY (r * 3)) (r * 3 + 1))) : wpY_receive post (P, W, L, T, SM, SW, C, IY, PY, MY) (nI p) (nI r) (nI f) := by
  unfold wpY_receive
  exact om_yb hp (br_t rfl (om_yb hr (br_t rfl ⟨vp_in_nI (by omega) (by omega), br_f (om_ne0 hr hc hc3) (nm_r (om_m3 r) ⟨vp_in_nI (by omega) (by omega), nm_r (om_at rfl (by omega) hP) (om_yg hf (br_t rfl (br_t (om_leE (nI_add f q) om_l8 hg (by omega)) ⟨q + 1, om_yr1L hp hg q 0 (by omega) (fun _ _ => om_yreceive7a hp hr hc hq hg h) (fun k => absurd hn k)⟩)))⟩)⟩)))
theorem om_ydrain1 {post : Int32 → SY → Prop} {x : Int32} (h1 : (x < 0 ∨ nI 3 ≤ x)) (h : post (-1) (P, W, L, T, SM, SW, C, IY, PY, MY)) : wpY_drain post (P, W, L, T, SM, SW, C, IY, PY, MY) x := by
  unfold wpY_drain
  exact om_ybB h1 (br_f om_10 h)
theorem om_ydrain2 {post : Int32 → SY → Prop} {r : Nat} (hr : r < 3) (h : post (C r) (P, W, L, T, SM, SW, upd C r 0, IY, PY, MY)) : wpY_drain post (P, W, L, T, SM, SW, C, IY, PY, MY) (nI r) := by
  unfold wpY_drain
  exact om_yb hr (br_t rfl ⟨vp_in_nI (by omega) (by omega), nm_r (om_at rfl (by omega) rfl) ⟨vp_in_nI (by omega) (by omega), nm_r (om_u rfl (by omega) rfl) h⟩⟩)
theorem om_ysnapshotB {post : Int32 → SY → Prop} {x : Int32} (h1 : (x < 0 ∨ nI 3 ≤ x)) (h : post (-1) (P, W, L, T, SM, SW, C, IY, PY, MY)) : wpY_snapshot post (P, W, L, T, SM, SW, C, IY, PY, MY) x := by
  unfold wpY_snapshot
  exact om_ybB h1 (br_f om_10 h)
theorem om_yrollBackB {post : Int32 → SY → Prop} {x : Int32} (h1 : (x < 0 ∨ nI 3 ≤ x)) (h : post (-1) (P, W, L, T, SM, SW, C, IY, PY, MY)) : wpY_rollBack post (P, W, L, T, SM, SW, C, IY, PY, MY) x := by
  unfold wpY_rollBack
  exact om_ybB h1 (br_f om_10 h)
theorem om_yexitB {post : Int32 → SY → Prop} {x : Int32} (h1 : (x < 0 ∨ nI 3 ≤ x)) (h : post (-1) (P, W, L, T, SM, SW, C, IY, PY, MY)) : wpY_exit post (P, W, L, T, SM, SW, C, IY, PY, MY) x := by
  unfold wpY_exit
  exact om_ybB h1 (br_f om_10 h)
theorem om_ysnapshotR {post : Int32 → SY → Prop} {p : Nat} (hp : p < 3) (h : post (nI (om_cnt P 8 (p * 8))) (P, W, L, upd T p (vp_nar .boolean 1), om_it (fun i a => upd a (p * 8 + i) (vp_nar .boolean (P (p * 8 + i)))) 8 0 SM, om_it (fun i a => upd a (p * 32 + i) (W (p * 32 + i))) 32 0 SW, C, IY, PY, MY)) : wpY_snapshot post (P, W, L, T, SM, SW, C, IY, PY, MY) (nI p) := by
  unfold wpY_snapshot
  exact om_yb hp (br_t rfl ⟨vp_in_nI (by omega) (by omega), nm_r (om_u rfl (by omega) rfl) (nm_r (om_m8 p) ⟨9, om_ysnapshot1 hp 8 0 SM rfl h⟩)⟩)
theorem om_yrollBackN {post : Int32 → SY → Prop} {p : Nat} (hp : p < 3) (z : T p = 0) (h : post (-7) (P, W, L, T, SM, SW, C, IY, PY, MY)) : wpY_rollBack post (P, W, L, T, SM, SW, C, IY, PY, MY) (nI p) := by
  unfold wpY_rollBack
  exact om_yb hp (br_t rfl ⟨vp_in_nI (by omega) (by omega), br_t (om_at rfl (by omega) z) h⟩)
theorem om_yrollBackR {post : Int32 → SY → Prop} {p : Nat} (hp : p < 3) (z : ¬ T p = 0) (h : post (nI (om_cnt (om_it (fun i a => upd a (p * 8 + i) (vp_nar .boolean (SM (p * 8 + i)))) 8 0 P) 8 (p * 8))) (om_it (fun i a => upd a (p * 8 + i) (vp_nar .boolean (SM (p * 8 + i)))) 8 0 P, om_it (fun i a => upd a (p * 32 + i) (SW (p * 32 + i))) 32 0 W, L, T, SM, SW, C, IY, PY, MY)) : wpY_rollBack post (P, W, L, T, SM, SW, C, IY, PY, MY) (nI p) := by
  unfold wpY_rollBack
  exact om_yb hp (br_t rfl ⟨vp_in_nI (by omega) (by omega), br_f (om_nt rfl (by omega) z) (nm_r (om_m8 p) ⟨9, om_yrollBack1 hp 8 0 P rfl h⟩)⟩)
theorem om_yexitR {post : Int32 → SY → Prop} {p : Nat} (hp : p < 3) (h : post (nI (om_cnt P 8 (p * 8))) (om_it (fun i a => upd a (p * 8 + i) (vp_nar .boolean 0)) 8 0 P, W, upd L p 0, upd T p (vp_nar .boolean 0), SM, SW, C, IY, PY, MY)) : wpY_exit post (P, W, L, T, SM, SW, C, IY, PY, MY) (nI p) := by
  unfold wpY_exit
  exact om_yb hp (br_t rfl (om_yc hp (nm_r (om_m8 p) ⟨9, om_yeL hp 8 0 P rfl h⟩)))
theorem om_yread1 {post : Int32 → Prop} {x y : Int32} (h1 : (x < 0 ∨ nI 3 ≤ x)) (h : post (0)) : wpY_read post (P, W, L, T, SM, SW, C, IY, PY, MY) x y := by
  unfold wpY_read
  exact om_ybB h1 (br_f om_10 h)
theorem om_yread2 {post : Int32 → Prop} {p : Nat} {y : Int32} (hp : p < 3) (h2 : (y < 0 ∨ nI 32 ≤ y)) (h : post (0)) : wpY_read post (P, W, L, T, SM, SW, C, IY, PY, MY) (nI p) y := by
  unfold wpY_read
  exact om_yb hp (br_t rfl (br_c (fun _ => h) (fun h0 => br_t (om_big (n := 31) (by decide) (h2.resolve_left h0)).2.2 h)))
theorem om_yread3 {post : Int32 → Prop} {p a : Nat} (hp : p < 3) (ha : a < 32) (z : P (p * 8 + a / 4) = 0) (h : post (0)) : wpY_read post (P, W, L, T, SM, SW, C, IY, PY, MY) (nI p) (nI a) := by
  unfold wpY_read
  exact om_yb hp (br_t rfl (br_f (nI_pos (by omega)) (br_f (nI_nlt (a := 31) (by omega) (by decide)) ⟨om_40, pk_in (p * 8 + a / 4) 24 (by omega) (om_i84 p ha), br_t (om_at (om_i84 p ha) (by omega) z) h⟩)))
theorem om_yread4 {post : Int32 → Prop} {p a : Nat} (hp : p < 3) (ha : a < 32) (z : ¬ P (p * 8 + a / 4) = 0) (h : post (W (p * 32 + a))) : wpY_read post (P, W, L, T, SM, SW, C, IY, PY, MY) (nI p) (nI a) := by
  unfold wpY_read
  refine om_yb hp (br_t rfl (br_f (nI_pos (by omega)) (br_f (nI_nlt (a := 31) (by omega) (by decide)) ⟨om_40, pk_in (p * 8 + a / 4) 24 (by omega) (om_i84 p ha), br_f (om_nt (om_i84 p ha) (by omega) z) ⟨pk_in (p * 32 + a) 96 (by omega) (om_i32 p a), ?_⟩⟩)))
  rw [om_i32, nI_clamp (by omega)]
  exact h
theorem om_ymapped1 {post : Int32 → Prop} {x y : Int32} (h1 : (x < 0 ∨ nI 3 ≤ x)) (h : post (0)) : wpY_mapped post (P, W, L, T, SM, SW, C, IY, PY, MY) x y := by
  unfold wpY_mapped
  exact om_ybB h1 (br_f om_10 h)
theorem om_ymapped2 {post : Int32 → Prop} {p : Nat} {y : Int32} (hp : p < 3) (h2 : (y < 0 ∨ nI 8 ≤ y)) (h : post (0)) : wpY_mapped post (P, W, L, T, SM, SW, C, IY, PY, MY) (nI p) y := by
  unfold wpY_mapped
  exact om_yb hp (br_t rfl (om_ygB h2 (br_f om_10 h)))
theorem om_ymapped3 {post : Int32 → Prop} {p q : Nat} (hp : p < 3) (hq : q < 8) (z : P (p * 8 + q) = 0) (h : post (0)) : wpY_mapped post (P, W, L, T, SM, SW, C, IY, PY, MY) (nI p) (nI q) := by
  unfold wpY_mapped
  exact om_yb hp (br_t rfl (om_yg hq (br_t rfl ⟨pk_in (p * 8 + q) 24 (by omega) (om_i8 p q), br_t (om_at (om_i8 p q) (by omega) z) h⟩)))
theorem om_ymapped4 {post : Int32 → Prop} {p q : Nat} (hp : p < 3) (hq : q < 8) (z : ¬ P (p * 8 + q) = 0) (h : post (1)) : wpY_mapped post (P, W, L, T, SM, SW, C, IY, PY, MY) (nI p) (nI q) := by
  unfold wpY_mapped
  exact om_yb hp (br_t rfl (om_yg hq (br_t rfl ⟨pk_in (p * 8 + q) 24 (by omega) (om_i8 p q), br_f (om_nt (om_i8 p q) (by omega) z) h⟩)))
theorem om_ylastWord1 {post : Int32 → Prop} {x : Int32} (h1 : (x < 0 ∨ nI 3 ≤ x)) (h : post (0)) : wpY_lastWord post (P, W, L, T, SM, SW, C, IY, PY, MY) x := by
  unfold wpY_lastWord
  exact om_ybB h1 (br_f om_10 h)
theorem om_ylastWord2 {post : Int32 → Prop} {p : Nat} (hp : p < 3) (h : post (L p)) : wpY_lastWord post (P, W, L, T, SM, SW, C, IY, PY, MY) (nI p) := by
  unfold wpY_lastWord
  refine om_yb hp (br_t rfl ⟨vp_in_nI (by omega) (by omega), ?_⟩)
  rw [nI_clamp (by omega)]
  exact h
theorem om_ywaiting1 {post : Int32 → Prop} {x : Int32} (h1 : (x < 0 ∨ nI 3 ≤ x)) (h : post (-1)) : wpY_waiting post (P, W, L, T, SM, SW, C, IY, PY, MY) x := by
  unfold wpY_waiting
  exact om_ybB h1 (br_f om_10 h)
theorem om_ywaiting2 {post : Int32 → Prop} {p : Nat} (hp : p < 3) (h : post (C p)) : wpY_waiting post (P, W, L, T, SM, SW, C, IY, PY, MY) (nI p) := by
  unfold wpY_waiting
  refine om_yb hp (br_t rfl ⟨vp_in_nI (by omega) (by omega), ?_⟩)
  rw [nI_clamp (by omega)]
  exact h
end
end
section
theorem i_vc_map {k : Nat} {u : SX} {v : SY} (I : i_Rel k u v) (hk : k + 5 ≤ 2560) (v1 : Int32) (v2 : Int32) : wpX_map (fun r u' => wpY_map (fun r' v' => r' = r ∧ i_Rel (k + 5) u' v') v v1 v2) u v1 v2 := by
  obtain ⟨P, W, L, T, SM, SW, O, C, IX, PX, MX, IY, PY, MY, rfl, rfl, R⟩ := I
  rcases om_ix v1 (n := 3) (by decide) with h1 | ⟨p, hp, rfl⟩
  · exact om_xmap1 h1 (om_ymap1 h1 ⟨rfl, om_R R⟩)
  rcases om_ix v2 (n := 8) (by decide) with h2 | ⟨q, hq, rfl⟩
  · exact om_xmap2 hp h2 (om_ymap2 hp h2 ⟨rfl, om_R R⟩)
  by_cases z : P (p * 8 + q) = 0
  · exact om_xmap4 hp hq z (om_ymap4 hp hq z ⟨rfl, om_R R⟩)
  · exact om_xmap3 hp hq z (om_ymap3 hp hq z ⟨rfl, om_R R⟩)
theorem i_vc_unmap {k : Nat} {u : SX} {v : SY} (I : i_Rel k u v) (hk : k + 5 ≤ 2560) (v1 : Int32) (v2 : Int32) : wpX_unmap (fun r u' => wpY_unmap (fun r' v' => r' = r ∧ i_Rel (k + 5) u' v') v v1 v2) u v1 v2 := by
  obtain ⟨P, W, L, T, SM, SW, O, C, IX, PX, MX, IY, PY, MY, rfl, rfl, R⟩ := I
  rcases om_ix v1 (n := 3) (by decide) with h1 | ⟨p, hp, rfl⟩
  · exact om_xunmap1 h1 (om_yunmap1 h1 ⟨rfl, om_R R⟩)
  rcases om_ix v2 (n := 8) (by decide) with h2 | ⟨q, hq, rfl⟩
  · exact om_xunmap2 hp h2 (om_yunmap2 hp h2 ⟨rfl, om_R R⟩)
  by_cases z : P (p * 8 + q) = 0
  · exact om_xunmap3 hp hq z (om_yunmap3 hp hq z ⟨rfl, om_R R⟩)
  · exact om_xunmap4 hp hq z (om_yunmap4 hp hq z ⟨rfl, om_R R⟩)
theorem i_vc_write {k : Nat} {u : SX} {v : SY} (I : i_Rel k u v) (hk : k + 5 ≤ 2560) (v1 : Int32) (v2 : Int32) (v3 : Int32) : wpX_write (fun r u' => wpY_write (fun r' v' => r' = r ∧ i_Rel (k + 5) u' v') v v1 v2 v3) u v1 v2 v3 := by
  obtain ⟨P, W, L, T, SM, SW, O, C, IX, PX, MX, IY, PY, MY, rfl, rfl, R⟩ := I
  rcases om_ix v1 (n := 3) (by decide) with h1 | ⟨p, hp, rfl⟩
  · exact om_xwrite1 h1 (om_ywrite1 h1 ⟨rfl, om_R R⟩)
  rcases om_ix v2 (n := 32) (by decide) with h2 | ⟨q, hq, rfl⟩
  · exact om_xwrite2 hp h2 (om_ywrite2 hp h2 ⟨rfl, om_R R⟩)
  by_cases z : P (p * 8 + q / 4) = 0
  · exact om_xwrite3 hp hq z (om_ywrite3 hp hq z ⟨rfl, om_R R⟩)
  · exact om_xwrite4 hp hq z (om_ywrite4 hp hq z ⟨rfl, om_R R⟩)
theorem i_vc_copy {k : Nat} {u : SX} {v : SY} (I : i_Rel k u v) (hk : k + 5 ≤ 2560) (v1 : Int32) (v2 : Int32) (v3 : Int32) : wpX_copy (fun r u' => wpY_copy (fun r' v' => r' = r ∧ i_Rel (k + 5) u' v') v v1 v2 v3) u v1 v2 v3 := by
  obtain ⟨P, W, L, T, SM, SW, O, C, IX, PX, MX, IY, PY, MY, rfl, rfl, R⟩ := I
  rcases om_ix v1 (n := 3) (by decide) with h1 | ⟨p, hp, rfl⟩
  · exact om_xcopy1 h1 (om_ycopy1 h1 ⟨rfl, om_R R⟩)
  rcases om_ix v2 (n := 8) (by decide) with h2 | ⟨q, hq, rfl⟩
  · exact om_xcopy2 hp h2 (om_ycopy2 hp h2 ⟨rfl, om_R R⟩)
  rcases om_ix v3 (n := 8) (by decide) with h3 | ⟨t, ht, rfl⟩
  · exact om_xcopy3 hp hq h3 (om_ycopy3 hp hq h3 ⟨rfl, om_R R⟩)
  by_cases z : P (p * 8 + q) = 0
  · exact om_xcopy4 hp hq ht z (om_ycopy4 hp hq ht z ⟨rfl, om_R R⟩)
  · exact om_xcopy5 hp hq ht z (om_ycopy5 hp hq ht z ⟨rfl, om_R R⟩)
theorem i_vc_send {k : Nat} {u : SX} {v : SY} (I : i_Rel k u v) (hk : k + 5 ≤ 2560) (v1 : Int32) (v2 : Int32) (v3 : Int32) (v4 : Int32) : wpX_send (fun r u' => wpY_send (fun r' v' => r' = r ∧ i_Rel (k + 5) u' v') v v1 v2 v3 v4) u v1 v2 v3 v4 := by
  obtain ⟨P, W, L, T, SM, SW, O, C, IX, PX, MX, IY, PY, MY, rfl, rfl, R⟩ := I
  rcases om_ix v1 (n := 3) (by decide) with h1 | ⟨p, hp, rfl⟩
  · exact om_xsend1 h1 (om_ysend1 h1 ⟨rfl, om_R R⟩)
  rcases om_ix v2 (n := 3) (by decide) with h2 | ⟨q, hq, rfl⟩
  · exact om_xsend2 hp h2 (om_ysend2 hp h2 ⟨rfl, om_R R⟩)
  obtain ⟨o, c, ho3, hc3, ho, hc, hJ⟩ := R q hq
  by_cases e3 : c = 3
  · exact om_xsend3 hp hq hc e3 (om_ysend3 hp hq hc e3 ⟨rfl, om_R R⟩)
  have hc' : c < 3 := by omega
  obtain ⟨f, hf8, hf⟩ := pk_andE v4 (m := 7) 3 (by decide)
  obtain ⟨n, hn4, hn⟩ := pk_andE (v4 >>> ((3 : Int32) &&& 31)) (m := 3) 2 (by decide)
  by_cases hg : f + n ≤ 8
  · by_cases hz : om_cnt P n (p * 8 + f) = n
    · exact om_xsend6 hp hq hc hc' hf hn hf8 hn4 ho ho3 hg hz (om_ysend6 hp hq hc hc' hf hn hf8 hn4 hg hz ⟨rfl, om_R (om_Qsend (fun i => W (p * 32 + f * 4 + i)) R hq ho3 hc' (by omega) ho hJ)⟩)
    · exact om_xsend5 hp hq hc hc' hf hn hf8 hn4 hg hz (om_ysend5 hp hq hc hc' hf hn hf8 hn4 hg hz ⟨rfl, om_R R⟩)
  · exact om_xsend4 hp hq hc hc' hf hn hf8 hn4 (by omega) (om_ysend4 hp hq hc hc' hf hn hf8 hn4 (by omega) ⟨rfl, om_R R⟩)
theorem i_vc_receive {k : Nat} {u : SX} {v : SY} (I : i_Rel k u v) (hk : k + 5 ≤ 2560) (v1 : Int32) (v2 : Int32) (v3 : Int32) : wpX_receive (fun r u' => wpY_receive (fun r' v' => r' = r ∧ i_Rel (k + 5) u' v') v v1 v2 v3) u v1 v2 v3 := by
  obtain ⟨P, W, L, T, SM, SW, O, C, IX, PX, MX, IY, PY, MY, rfl, rfl, R⟩ := I
  rcases om_ix v1 (n := 3) (by decide) with h1 | ⟨p, hp, rfl⟩
  · exact om_xreceive1 h1 (om_yreceive1 h1 ⟨rfl, om_R R⟩)
  rcases om_ix v2 (n := 3) (by decide) with h2 | ⟨q, hq, rfl⟩
  · exact om_xreceive2 hp h2 (om_yreceive2 hp h2 ⟨rfl, om_R R⟩)
  obtain ⟨o, c, ho3, hc3, ho, hc, hJ⟩ := R q hq
  match c, hc3, hc, hJ with
  | 0, _, hc, _ => exact om_xreceive3 hp hq hc (om_yreceive3 hp hq hc ⟨rfl, om_R R⟩)
  | c + 1, hc3, hc, hJ =>
    obtain ⟨n, hn3, hPX, hPY, hI, hM⟩ := hJ 0 (by omega)
    rcases om_ix v3 (n := 8) (by decide) with h3 | ⟨f, hf, rfl⟩
    · exact om_xreceive4 hp hq hc hc3 ho ho3 hn3 hPX h3 (om_yreceive4 hp hq hc hc3 hn3 hPY h3 ⟨rfl, om_R R⟩)
    by_cases hg : f + n ≤ 8
    · by_cases hz : om_cnt P n (p * 8 + f) = 0
      · refine om_xreceive7 hp hq hc hc3 ho ho3 hn3 hPX hf hg hz (om_yreceive7 hp hq hc hc3 hn3 hPY hf hg hz ⟨rfl, om_R2 ?_ ?_ (om_Qrecv R hq ho3 hc3 hJ)⟩)
        · refine om_itc _ _ _ (fun k _ hk => funext fun a => ?_)
          show upd a _ _ = upd a _ _
          rw [hM k (by omega)]
          rfl
        · rw [hI]
          rfl
      · exact om_xreceive6 hp hq hc hc3 ho ho3 hn3 hPX hf hg hz (om_yreceive6 hp hq hc hc3 hn3 hPY hf hg hz ⟨rfl, om_R R⟩)
    · exact om_xreceive5 hp hq hc hc3 ho ho3 hn3 hPX hf (by omega) (om_yreceive5 hp hq hc hc3 hn3 hPY hf (by omega) ⟨rfl, om_R R⟩)
theorem i_vc_drain {k : Nat} {u : SX} {v : SY} (I : i_Rel k u v) (hk : k + 5 ≤ 2560) (v1 : Int32) : wpX_drain (fun r u' => wpY_drain (fun r' v' => r' = r ∧ i_Rel (k + 5) u' v') v v1) u v1 := by
  obtain ⟨P, W, L, T, SM, SW, O, C, IX, PX, MX, IY, PY, MY, rfl, rfl, R⟩ := I
  rcases om_ix v1 (n := 3) (by decide) with h1 | ⟨p, hp, rfl⟩
  · exact om_xdrain1 h1 (om_ydrain1 h1 ⟨rfl, om_R R⟩)
  · exact om_xdrain2 hp (om_ydrain2 hp ⟨rfl, om_R (om_Qdrain R hp)⟩)
theorem i_vc_snapshot {k : Nat} {u : SX} {v : SY} (I : i_Rel k u v) (hk : k + 5 ≤ 2560) (v1 : Int32) : wpX_snapshot (fun r u' => wpY_snapshot (fun r' v' => r' = r ∧ i_Rel (k + 5) u' v') v v1) u v1 := by
  obtain ⟨P, W, L, T, SM, SW, O, C, IX, PX, MX, IY, PY, MY, rfl, rfl, R⟩ := I
  rcases om_ix v1 (n := 3) (by decide) with h1 | ⟨p, hp, rfl⟩
  · exact om_xsnapshot1 h1 (om_ysnapshotB h1 ⟨rfl, om_R R⟩)
  · exact om_xsnapshot2 hp (om_ysnapshotR hp ⟨rfl, om_R R⟩)
theorem i_vc_rollBack {k : Nat} {u : SX} {v : SY} (I : i_Rel k u v) (hk : k + 5 ≤ 2560) (v1 : Int32) : wpX_rollBack (fun r u' => wpY_rollBack (fun r' v' => r' = r ∧ i_Rel (k + 5) u' v') v v1) u v1 := by
  obtain ⟨P, W, L, T, SM, SW, O, C, IX, PX, MX, IY, PY, MY, rfl, rfl, R⟩ := I
  rcases om_ix v1 (n := 3) (by decide) with h1 | ⟨p, hp, rfl⟩
  · exact om_xrollBack1 h1 (om_yrollBackB h1 ⟨rfl, om_R R⟩)
  by_cases z : T p = 0
  · exact om_xrollBack2 hp z (om_yrollBackN hp z ⟨rfl, om_R R⟩)
  · exact om_xrollBack3 hp z (om_yrollBackR hp z ⟨rfl, om_R R⟩)
theorem i_vc_exit {k : Nat} {u : SX} {v : SY} (I : i_Rel k u v) (hk : k + 5 ≤ 2560) (v1 : Int32) : wpX_exit (fun r u' => wpY_exit (fun r' v' => r' = r ∧ i_Rel (k + 5) u' v') v v1) u v1 := by
  obtain ⟨P, W, L, T, SM, SW, O, C, IX, PX, MX, IY, PY, MY, rfl, rfl, R⟩ := I
  rcases om_ix v1 (n := 3) (by decide) with h1 | ⟨p, hp, rfl⟩
  · exact om_xexit1 h1 (om_yexitB h1 ⟨rfl, om_R R⟩)
  · exact om_xexit2 hp (om_yexitR hp ⟨rfl, om_R R⟩)
theorem i_vc_read {k : Nat} {u : SX} {v : SY} (I : i_Rel k u v) (hk : k + 5 ≤ 2560) (v1 : Int32) (v2 : Int32) : wpX_read (fun r => wpY_read (fun r' => r' = r ∧ i_Rel (k + 5) u v) v v1 v2) u v1 v2 := by
  obtain ⟨P, W, L, T, SM, SW, O, C, IX, PX, MX, IY, PY, MY, rfl, rfl, R⟩ := I
  rcases om_ix v1 (n := 3) (by decide) with h1 | ⟨p, hp, rfl⟩
  · exact om_xread1 h1 (om_yread1 h1 ⟨rfl, om_R R⟩)
  rcases om_ix v2 (n := 32) (by decide) with h2 | ⟨q, hq, rfl⟩
  · exact om_xread2 hp h2 (om_yread2 hp h2 ⟨rfl, om_R R⟩)
  by_cases z : P (p * 8 + q / 4) = 0
  · exact om_xread3 hp hq z (om_yread3 hp hq z ⟨rfl, om_R R⟩)
  · exact om_xread4 hp hq z (om_yread4 hp hq z ⟨rfl, om_R R⟩)
theorem i_vc_mapped {k : Nat} {u : SX} {v : SY} (I : i_Rel k u v) (hk : k + 5 ≤ 2560) (v1 : Int32) (v2 : Int32) : wpX_mapped (fun r => wpY_mapped (fun r' => r' = r ∧ i_Rel (k + 5) u v) v v1 v2) u v1 v2 := by
  obtain ⟨P, W, L, T, SM, SW, O, C, IX, PX, MX, IY, PY, MY, rfl, rfl, R⟩ := I
  rcases om_ix v1 (n := 3) (by decide) with h1 | ⟨p, hp, rfl⟩
  · exact om_xmapped1 h1 (om_ymapped1 h1 ⟨rfl, om_R R⟩)
  rcases om_ix v2 (n := 8) (by decide) with h2 | ⟨q, hq, rfl⟩
  · exact om_xmapped2 hp h2 (om_ymapped2 hp h2 ⟨rfl, om_R R⟩)
  by_cases z : P (p * 8 + q) = 0
  · exact om_xmapped3 hp hq z (om_ymapped3 hp hq z ⟨rfl, om_R R⟩)
  · exact om_xmapped4 hp hq z (om_ymapped4 hp hq z ⟨rfl, om_R R⟩)
theorem i_vc_lastWord {k : Nat} {u : SX} {v : SY} (I : i_Rel k u v) (hk : k + 5 ≤ 2560) (v1 : Int32) : wpX_lastWord (fun r => wpY_lastWord (fun r' => r' = r ∧ i_Rel (k + 5) u v) v v1) u v1 := by
  obtain ⟨P, W, L, T, SM, SW, O, C, IX, PX, MX, IY, PY, MY, rfl, rfl, R⟩ := I
  rcases om_ix v1 (n := 3) (by decide) with h1 | ⟨p, hp, rfl⟩
  · exact om_xlastWord1 h1 (om_ylastWord1 h1 ⟨rfl, om_R R⟩)
  · exact om_xlastWord2 hp (om_ylastWord2 hp ⟨rfl, om_R R⟩)
theorem i_vc_waiting {k : Nat} {u : SX} {v : SY} (I : i_Rel k u v) (hk : k + 5 ≤ 2560) (v1 : Int32) : wpX_waiting (fun r => wpY_waiting (fun r' => r' = r ∧ i_Rel (k + 5) u v) v v1) u v1 := by
  obtain ⟨P, W, L, T, SM, SW, O, C, IX, PX, MX, IY, PY, MY, rfl, rfl, R⟩ := I
  rcases om_ix v1 (n := 3) (by decide) with h1 | ⟨p, hp, rfl⟩
  · exact om_xwaiting1 h1 (om_ywaiting1 h1 ⟨rfl, om_R R⟩)
  · exact om_xwaiting2 hp (om_ywaiting2 hp ⟨rfl, om_R R⟩)
end
