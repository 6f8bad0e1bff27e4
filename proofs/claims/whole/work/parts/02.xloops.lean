section
variable {P W L T SM SW O C IX PX MX IY PY MY : Nat → Int32}

theorem om_xp {post : Int32 → Prop} {p : Nat} (hp : p < 3) (h : post 1) : wpX_isProcess post (nI p) :=
  br_f (nI_pos (by omega)) (br_f (nI_ge (b := 3) hp (by decide)) h)
theorem om_xpB {post : Int32 → Prop} {x : Int32} (hx : x < 0 ∨ nI 3 ≤ x) (h : post 0) : wpX_isProcess post x :=
  br_c (fun _ => h) (fun h0 => br_t (hx.resolve_left h0) h)
theorem om_xo {post : Int32 → Prop} {p : Nat} (hp : p < 3) (h : post 1) : wpX_isPort post (nI p) :=
  br_f (nI_pos (by omega)) (br_f (nI_ge (b := 3) hp (by decide)) h)
theorem om_xoB {post : Int32 → Prop} {x : Int32} (hx : x < 0 ∨ nI 3 ≤ x) (h : post 0) : wpX_isPort post x :=
  br_c (fun _ => h) (fun h0 => br_t (hx.resolve_left h0) h)
theorem om_xg {post : Int32 → Prop} {p : Nat} (hp : p < 8) (h : post 1) : wpX_isPage post (nI p) :=
  br_f (nI_pos (by omega)) (br_f (nI_ge (b := 8) hp (by decide)) h)
theorem om_xgB {post : Int32 → Prop} {x : Int32} (hx : x < 0 ∨ nI 8 ≤ x) (h : post 0) : wpX_isPage post x :=
  br_c (fun _ => h) (fun h0 => br_t (hx.resolve_left h0) h)
theorem om_xa {post : Int32 → Prop} {p : Nat} (hp : p < 32) (h : post 1) : wpX_isAddress post (nI p) :=
  br_f (nI_pos (by omega)) (br_f (nI_ge (b := 32) hp (by decide)) h)
theorem om_xaB {post : Int32 → Prop} {x : Int32} (hx : x < 0 ∨ nI 32 ≤ x) (h : post 0) : wpX_isAddress post x :=
  br_c (fun _ => h) (fun h0 => br_t (hx.resolve_left h0) h)
theorem om_xi {post : Int32 → Prop} {x y : Int32} {p q : Nat} (hx : x = nI p) (hy : y = nI q) (h : post (nI (p * 8 + q))) : wpX_pageIndex post x y := by
  subst hx hy
  unfold wpX_pageIndex
  rw [om_i8]
  exact h
theorem om_xw {post : Int32 → Prop} {x y : Int32} {p q : Nat} (hx : x = nI p) (hy : y = nI q) (h : post (nI (p * 32 + q * 4))) : wpX_wordIndex post x y := by
  subst hx hy
  unfold wpX_wordIndex
  rw [om_w]
  exact h
theorem om_xs {post : Int32 → Prop} {x : Int32} {p o c : Nat} (hp : p < 3) (ho : O p = nI o) (hc : x = nI c) (ho3 : o < 3) (hc3 : c ≤ 3) (h : post (nI (p * 3 + (o + c) % 3))) : wpX_slotIndex post (P, W, L, T, SM, SW, O, C, IX, PX, MX) (nI p) x := by
  subst hc
  unfold wpX_slotIndex
  refine ⟨vp_in_nI hp (by omega), om_30, ?_⟩
  rw [nI_clamp (show p < 2 ^ 31 by omega), ho, nI_add, om_r3 (by omega), om_m3, nI_add]
  exact h
theorem om_xclL {post : SX → Prop} {b : Nat} (hb : b + 4 ≤ 96) : ∀ (d i : Nat) (W : Nat → Int32), i + d = 4 → post (P, om_it (fun i a => upd a (b + i) 0) d i W, L, T, SM, SW, O, C, IX, PX, MX) → wX_clearPage_9 post (nI b) (d + 1) (nI i) P W L T SM SW O C IX PX MX := by
  intro d
  induction d with
  | zero =>
    intro i W e h
    obtain rfl : i = 4 := by omega
    exact br_t (nI_le (a := 4) (b := 4) (by omega) (by omega)) h
  | succ d ih =>
    intro i W e h
    exact br_f (nI_ge (b := 4) (by omega) (by omega)) ⟨pk_in (b + i) 96 (by omega) (nI_add b i), nm_r (om_u (nI_add b i) (by omega) rfl) (nm_r (nI_1 i) (ih (i + 1) _ (by omega) h))⟩
theorem om_xcl {post : SX → Prop} {p q : Nat} (hp : p < 3) (hq : q < 8) (h : post (P, om_it (fun i a => upd a (p * 32 + q * 4 + i) 0) 4 0 W, L, T, SM, SW, O, C, IX, PX, MX)) : wpX_clearPage post (P, W, L, T, SM, SW, O, C, IX, PX, MX) (nI p) (nI q) := by
  unfold wpX_clearPage
  exact om_xw rfl rfl ⟨5, om_xclL (by omega) 4 0 W rfl h⟩
theorem om_xcfL {post : Int32 → Prop} {p f q : Nat} (hp : p < 3) (hf : f + q ≤ 8) : ∀ (d i c : Nat), i + d = q → post (nI (c + om_cnt P d (p * 8 + f + i))) → wX_countMappedFrom_6 post (nI p) (nI f) (nI q) P W L T SM SW O C IX PX MX (d + 1) (nI c) (nI (f + i)) := by
  intro d
  induction d with
  | zero =>
    intro i c e h
    obtain rfl : i = q := by omega
    exact br_t (om_leE (nI_add f i) rfl (by omega) (by omega)) h
  | succ d ih =>
    intro i c e h
    refine br_f (om_gtE (nI_add f q) rfl (by omega) (by omega)) (om_xi rfl rfl ⟨vp_in_nI (by omega) (by omega), ?_⟩)
    by_cases z : P (p * 8 + (f + i)) = 0
    · refine br_t (om_at rfl (by omega) z) (nm_r (nI_1 (f + i)) (ih (i + 1) c (by omega) ?_))
      rw [om_cz (by rw [show p * 8 + f + i = p * 8 + (f + i) from by omega]; exact z)] at h
      exact h
    · refine br_f (om_nt rfl (by omega) z) (nm_r (nI_1 c) (nm_r (nI_1 (f + i)) (ih (i + 1) (c + 1) (by omega) ?_)))
      rw [om_cs (by rw [show p * 8 + f + i = p * 8 + (f + i) from by omega]; exact z)] at h
      rw [Nat.add_assoc c 1]
      exact h
theorem om_xcf {post : Int32 → Prop} {p f q : Nat} (hp : p < 3) (hf : f + q ≤ 8) (h : post (nI (om_cnt P q (p * 8 + f)))) : wpX_countMappedFrom post (P, W, L, T, SM, SW, O, C, IX, PX, MX) (nI p) (nI f) (nI q) :=
  ⟨q + 1, om_xcfL hp hf q 0 0 (by omega) (by rw [Nat.zero_add]; exact h)⟩
theorem om_xc {post : Int32 → Prop} {p : Nat} (hp : p < 3) (h : post (nI (om_cnt P 8 (p * 8)))) : wpX_countMapped post (P, W, L, T, SM, SW, O, C, IX, PX, MX) (nI p) :=
  om_xcf (f := 0) (q := 8) hp (by omega) h
theorem om_xmpL {post : SX → Prop} {p f q : Nat} (hp : p < 3) (hf : f + q ≤ 8) : ∀ (d i : Nat) (P : Nat → Int32), i + d = q → post (om_it (fun i a => upd a (p * 8 + f + i) (vp_nar .boolean 1)) d i P, W, L, T, SM, SW, O, C, IX, PX, MX) → wX_mapPages_3 post (nI p) (nI f) (nI q) (d + 1) (nI (f + i)) P W L T SM SW O C IX PX MX := by
  intro d
  induction d with
  | zero =>
    intro i P e h
    obtain rfl : i = q := by omega
    exact br_t (om_leE (nI_add f i) rfl (by omega) (by omega)) h
  | succ d ih =>
    intro i P e h
    exact br_f (om_gtE (nI_add f q) rfl (by omega) (by omega)) (om_xi rfl rfl ⟨vp_in_nI (by omega) (by omega), nm_r (om_u (n := p * 8 + f + i) (congrArg nI (by omega)) (by omega) rfl) (nm_r (nI_1 (f + i)) (ih (i + 1) _ (by omega) h))⟩)
theorem om_xmp {post : SX → Prop} {p f q : Nat} (hp : p < 3) (hf : f + q ≤ 8) (h : post (om_it (fun i a => upd a (p * 8 + f + i) (vp_nar .boolean 1)) q 0 P, W, L, T, SM, SW, O, C, IX, PX, MX)) : wpX_mapPages post (P, W, L, T, SM, SW, O, C, IX, PX, MX) (nI p) (nI f) (nI q) :=
  ⟨q + 1, om_xmpL hp hf q 0 P (by omega) h⟩
theorem om_xuaL {post : SX → Prop} {p : Nat} (hp : p < 3) : ∀ (d i : Nat) (P : Nat → Int32), i + d = 8 → post (om_it (fun i a => upd a (p * 8 + i) (vp_nar .boolean 0)) d i P, W, L, T, SM, SW, O, C, IX, PX, MX) → wX_unmapAll_2 post (nI p) (d + 1) (nI i) P W L T SM SW O C IX PX MX := by
  intro d
  induction d with
  | zero =>
    intro i P e h
    obtain rfl : i = 8 := by omega
    exact br_t (nI_le (a := 8) (b := 8) (by omega) (by omega)) h
  | succ d ih =>
    intro i P e h
    exact br_f (nI_ge (b := 8) (by omega) (by omega)) (om_xi rfl rfl ⟨vp_in_nI (by omega) (by omega), nm_r (om_u rfl (by omega) rfl) (nm_r (nI_1 i) (ih (i + 1) _ (by omega) h))⟩)
theorem om_xua {post : SX → Prop} {p : Nat} (hp : p < 3) (h : post (om_it (fun i a => upd a (p * 8 + i) (vp_nar .boolean 0)) 8 0 P, W, L, T, SM, SW, O, C, IX, PX, MX)) : wpX_unmapAll post (P, W, L, T, SM, SW, O, C, IX, PX, MX) (nI p) :=
  ⟨9, om_xuaL hp 8 0 P rfl h⟩
theorem om_xdo {post : SX → Prop} {p o c : Nat} (hp : p < 3) (ho : O p = nI o) (ho3 : o < 3) (hc : C p = nI (c + 1)) (h : post (P, W, L, T, SM, SW, upd O p (nI ((o + 1) % 3)), upd C p (nI c), IX, PX, MX)) : wpX_dropOldest post (P, W, L, T, SM, SW, O, C, IX, PX, MX) (nI p) := by
  have hi : vp_in (nI p) 3 := vp_in_nI hp (by omega)
  have e : (nI p).toNatClampNeg = p := nI_clamp (by omega)
  unfold wpX_dropOldest
  refine ⟨hi, om_30, hi, nm_r (e' := upd O p (nI ((o + 1) % 3))) ?_ ⟨hi, hi, nm_r (e' := upd C p (nI c)) ?_ h⟩⟩
  · rw [e, ho, nI_1, om_r3 (by omega)]
  · rw [e, hc, nI_pred]

theorem om_cw_words_wordsL {post : SX → Prop} {s t n : Nat} (hs : s + n ≤ 96) (ht : t + n ≤ 96) : ∀ (d i : Nat) (W : Nat → Int32), i + d = n → post (P, om_it (fun i a => upd a (t + i) (a (s + i))) d i W, L, T, SM, SW, O, C, IX, PX, MX) → wX_copyWords__words_words_3 post (nI s) (nI t) (nI n) (d + 1) (nI i) P W L T SM SW O C IX PX MX := by
  intro d
  induction d with
  | zero =>
    intro i W e h
    obtain rfl : i = n := by omega
    exact br_t (nI_le (by omega) (by omega)) h
  | succ d ih =>
    intro i W e h
    exact br_f (nI_ge (by omega) (by omega)) ⟨pk_in (s + i) 96 (by omega) (nI_add s i), pk_in (t + i) 96 (by omega) (nI_add t i), nm_r (om_u (nI_add t i) (by omega) (om_at (nI_add s i) (by omega) rfl)) (nm_r (nI_1 i) (ih (i + 1) _ (by omega) h))⟩
theorem om_cw_words_words {post : SX → Prop} {x y z : Int32} {s t n : Nat} (hx : x = nI s) (hy : y = nI t) (hz : z = nI n) (hs : s + n ≤ 96) (ht : t + n ≤ 96) (h : post (P, om_it (fun i a => upd a (t + i) (a (s + i))) n 0 W, L, T, SM, SW, O, C, IX, PX, MX)) : wpX_copyWords__words_words post (P, W, L, T, SM, SW, O, C, IX, PX, MX) x y z := by
  subst hx hy hz
  exact ⟨n + 1, om_cw_words_wordsL hs ht n 0 W (by omega) h⟩

theorem om_cw_words_messageWordsL {post : SX → Prop} {s t n : Nat} (hs : s + n ≤ 96) (ht : t + n ≤ 108) : ∀ (d i : Nat) (MX : Nat → Int32), i + d = n → post (P, W, L, T, SM, SW, O, C, IX, PX, om_it (fun i a => upd a (t + i) (W (s + i))) d i MX) → wX_copyWords__words_messageWords_3 post (nI s) (nI t) (nI n) (d + 1) (nI i) P W L T SM SW O C IX PX MX := by
  intro d
  induction d with
  | zero =>
    intro i MX e h
    obtain rfl : i = n := by omega
    exact br_t (nI_le (by omega) (by omega)) h
  | succ d ih =>
    intro i MX e h
    exact br_f (nI_ge (by omega) (by omega)) ⟨pk_in (s + i) 96 (by omega) (nI_add s i), pk_in (t + i) 108 (by omega) (nI_add t i), nm_r (om_u (nI_add t i) (by omega) (om_at (nI_add s i) (by omega) rfl)) (nm_r (nI_1 i) (ih (i + 1) _ (by omega) h))⟩
theorem om_cw_words_messageWords {post : SX → Prop} {x y z : Int32} {s t n : Nat} (hx : x = nI s) (hy : y = nI t) (hz : z = nI n) (hs : s + n ≤ 96) (ht : t + n ≤ 108) (h : post (P, W, L, T, SM, SW, O, C, IX, PX, om_it (fun i a => upd a (t + i) (W (s + i))) n 0 MX)) : wpX_copyWords__words_messageWords post (P, W, L, T, SM, SW, O, C, IX, PX, MX) x y z := by
  subst hx hy hz
  exact ⟨n + 1, om_cw_words_messageWordsL hs ht n 0 MX (by omega) h⟩

theorem om_cw_messageWords_wordsL {post : SX → Prop} {s t n : Nat} (hs : s + n ≤ 108) (ht : t + n ≤ 96) : ∀ (d i : Nat) (W : Nat → Int32), i + d = n → post (P, om_it (fun i a => upd a (t + i) (MX (s + i))) d i W, L, T, SM, SW, O, C, IX, PX, MX) → wX_copyWords__messageWords_words_3 post (nI s) (nI t) (nI n) (d + 1) (nI i) P W L T SM SW O C IX PX MX := by
  intro d
  induction d with
  | zero =>
    intro i W e h
    obtain rfl : i = n := by omega
    exact br_t (nI_le (by omega) (by omega)) h
  | succ d ih =>
    intro i W e h
    exact br_f (nI_ge (by omega) (by omega)) ⟨pk_in (s + i) 108 (by omega) (nI_add s i), pk_in (t + i) 96 (by omega) (nI_add t i), nm_r (om_u (nI_add t i) (by omega) (om_at (nI_add s i) (by omega) rfl)) (nm_r (nI_1 i) (ih (i + 1) _ (by omega) h))⟩
theorem om_cw_messageWords_words {post : SX → Prop} {x y z : Int32} {s t n : Nat} (hx : x = nI s) (hy : y = nI t) (hz : z = nI n) (hs : s + n ≤ 108) (ht : t + n ≤ 96) (h : post (P, om_it (fun i a => upd a (t + i) (MX (s + i))) n 0 W, L, T, SM, SW, O, C, IX, PX, MX)) : wpX_copyWords__messageWords_words post (P, W, L, T, SM, SW, O, C, IX, PX, MX) x y z := by
  subst hx hy hz
  exact ⟨n + 1, om_cw_messageWords_wordsL hs ht n 0 W (by omega) h⟩

theorem om_cw_words_snapshotWordsL {post : SX → Prop} {s t n : Nat} (hs : s + n ≤ 96) (ht : t + n ≤ 96) : ∀ (d i : Nat) (SW : Nat → Int32), i + d = n → post (P, W, L, T, SM, om_it (fun i a => upd a (t + i) (W (s + i))) d i SW, O, C, IX, PX, MX) → wX_copyWords__words_snapshotWords_3 post (nI s) (nI t) (nI n) (d + 1) (nI i) P W L T SM SW O C IX PX MX := by
  intro d
  induction d with
  | zero =>
    intro i SW e h
    obtain rfl : i = n := by omega
    exact br_t (nI_le (by omega) (by omega)) h
  | succ d ih =>
    intro i SW e h
    exact br_f (nI_ge (by omega) (by omega)) ⟨pk_in (s + i) 96 (by omega) (nI_add s i), pk_in (t + i) 96 (by omega) (nI_add t i), nm_r (om_u (nI_add t i) (by omega) (om_at (nI_add s i) (by omega) rfl)) (nm_r (nI_1 i) (ih (i + 1) _ (by omega) h))⟩
theorem om_cw_words_snapshotWords {post : SX → Prop} {x y z : Int32} {s t n : Nat} (hx : x = nI s) (hy : y = nI t) (hz : z = nI n) (hs : s + n ≤ 96) (ht : t + n ≤ 96) (h : post (P, W, L, T, SM, om_it (fun i a => upd a (t + i) (W (s + i))) n 0 SW, O, C, IX, PX, MX)) : wpX_copyWords__words_snapshotWords post (P, W, L, T, SM, SW, O, C, IX, PX, MX) x y z := by
  subst hx hy hz
  exact ⟨n + 1, om_cw_words_snapshotWordsL hs ht n 0 SW (by omega) h⟩

theorem om_cw_snapshotWords_wordsL {post : SX → Prop} {s t n : Nat} (hs : s + n ≤ 96) (ht : t + n ≤ 96) : ∀ (d i : Nat) (W : Nat → Int32), i + d = n → post (P, om_it (fun i a => upd a (t + i) (SW (s + i))) d i W, L, T, SM, SW, O, C, IX, PX, MX) → wX_copyWords__snapshotWords_words_3 post (nI s) (nI t) (nI n) (d + 1) (nI i) P W L T SM SW O C IX PX MX := by
  intro d
  induction d with
  | zero =>
    intro i W e h
    obtain rfl : i = n := by omega
    exact br_t (nI_le (by omega) (by omega)) h
  | succ d ih =>
    intro i W e h
    exact br_f (nI_ge (by omega) (by omega)) ⟨pk_in (s + i) 96 (by omega) (nI_add s i), pk_in (t + i) 96 (by omega) (nI_add t i), nm_r (om_u (nI_add t i) (by omega) (om_at (nI_add s i) (by omega) rfl)) (nm_r (nI_1 i) (ih (i + 1) _ (by omega) h))⟩
theorem om_cw_snapshotWords_words {post : SX → Prop} {x y z : Int32} {s t n : Nat} (hx : x = nI s) (hy : y = nI t) (hz : z = nI n) (hs : s + n ≤ 96) (ht : t + n ≤ 96) (h : post (P, om_it (fun i a => upd a (t + i) (SW (s + i))) n 0 W, L, T, SM, SW, O, C, IX, PX, MX)) : wpX_copyWords__snapshotWords_words post (P, W, L, T, SM, SW, O, C, IX, PX, MX) x y z := by
  subst hx hy hz
  exact ⟨n + 1, om_cw_snapshotWords_wordsL hs ht n 0 W (by omega) h⟩

theorem om_cm_pageMapped_words_snapshotMapped_snapshotWordsL {post : SX → Prop} {p : Nat} (hp : p < 3) : ∀ (d i : Nat) (SM : Nat → Int32), i + d = 8 → post (P, W, L, T, om_it (fun i a => upd a (p * 8 + i) (vp_nar .boolean (P (p * 8 + i)))) d i SM, om_it (fun i a => upd a (p * 32 + i) (W (p * 32 + i))) 32 0 SW, O, C, IX, PX, MX) → wX_copyMemory__pageMapped_words_snapshotMapped_snapshotWords_3 post (nI p) (d + 1) (nI i) P W L T SM SW O C IX PX MX := by
  intro d
  induction d with
  | zero =>
    intro i SM e h
    obtain rfl : i = 8 := by omega
    refine br_t (nI_le (a := 8) (b := 8) (by omega) (by omega)) (om_xw (q := 0) rfl rfl ?_)
    exact om_cw_words_snapshotWords (s := p * 32) (t := p * 32) (n := 32) rfl rfl rfl (by omega) (by omega) h
  | succ d ih =>
    intro i SM e h
    exact br_f (nI_ge (b := 8) (by omega) (by omega)) (om_xi rfl rfl ⟨vp_in_nI (by omega) (by omega), vp_in_nI (by omega) (by omega), nm_r (om_u rfl (by omega) (congrArg (vp_nar .boolean) (om_at rfl (by omega) rfl))) (nm_r (nI_1 i) (ih (i + 1) _ (by omega) h))⟩)
theorem om_cm_pageMapped_words_snapshotMapped_snapshotWords {post : SX → Prop} {p : Nat} (hp : p < 3) (h : post (P, W, L, T, om_it (fun i a => upd a (p * 8 + i) (vp_nar .boolean (P (p * 8 + i)))) 8 0 SM, om_it (fun i a => upd a (p * 32 + i) (W (p * 32 + i))) 32 0 SW, O, C, IX, PX, MX)) : wpX_copyMemory__pageMapped_words_snapshotMapped_snapshotWords post (P, W, L, T, SM, SW, O, C, IX, PX, MX) (nI p) :=
  ⟨9, om_cm_pageMapped_words_snapshotMapped_snapshotWordsL hp 8 0 SM rfl h⟩

theorem om_cm_snapshotMapped_snapshotWords_pageMapped_wordsL {post : SX → Prop} {p : Nat} (hp : p < 3) : ∀ (d i : Nat) (P : Nat → Int32), i + d = 8 → post (om_it (fun i a => upd a (p * 8 + i) (vp_nar .boolean (SM (p * 8 + i)))) d i P, om_it (fun i a => upd a (p * 32 + i) (SW (p * 32 + i))) 32 0 W, L, T, SM, SW, O, C, IX, PX, MX) → wX_copyMemory__snapshotMapped_snapshotWords_pageMapped_words_3 post (nI p) (d + 1) (nI i) P W L T SM SW O C IX PX MX := by
  intro d
  induction d with
  | zero =>
    intro i P e h
    obtain rfl : i = 8 := by omega
    refine br_t (nI_le (a := 8) (b := 8) (by omega) (by omega)) (om_xw (q := 0) rfl rfl ?_)
    exact om_cw_snapshotWords_words (s := p * 32) (t := p * 32) (n := 32) rfl rfl rfl (by omega) (by omega) h
  | succ d ih =>
    intro i P e h
    exact br_f (nI_ge (b := 8) (by omega) (by omega)) (om_xi rfl rfl ⟨vp_in_nI (by omega) (by omega), vp_in_nI (by omega) (by omega), nm_r (om_u rfl (by omega) (congrArg (vp_nar .boolean) (om_at rfl (by omega) rfl))) (nm_r (nI_1 i) (ih (i + 1) _ (by omega) h))⟩)
theorem om_cm_snapshotMapped_snapshotWords_pageMapped_words {post : SX → Prop} {p : Nat} (hp : p < 3) (h : post (om_it (fun i a => upd a (p * 8 + i) (vp_nar .boolean (SM (p * 8 + i)))) 8 0 P, om_it (fun i a => upd a (p * 32 + i) (SW (p * 32 + i))) 32 0 W, L, T, SM, SW, O, C, IX, PX, MX)) : wpX_copyMemory__snapshotMapped_snapshotWords_pageMapped_words post (P, W, L, T, SM, SW, O, C, IX, PX, MX) (nI p) :=
  ⟨9, om_cm_snapshotMapped_snapshotWords_pageMapped_wordsL hp 8 0 P rfl h⟩
end
