section
variable {P W L T SM SW O C IX PX MX IY PY MY : Nat → Int32}
theorem om_xmap1 {post : Int32 → SX → Prop} {x y : Int32} (h1 : (x < 0 ∨ nI 3 ≤ x)) (h : post (-1) (P, W, L, T, SM, SW, O, C, IX, PX, MX)) : wpX_map post (P, W, L, T, SM, SW, O, C, IX, PX, MX) x y := by
  unfold wpX_map
  exact om_xpB h1 (br_t rfl h)
theorem om_xmap2 {post : Int32 → SX → Prop} {p : Nat} {y : Int32} (hp : p < 3) (h2 : (y < 0 ∨ nI 8 ≤ y)) (h : post (-2) (P, W, L, T, SM, SW, O, C, IX, PX, MX)) : wpX_map post (P, W, L, T, SM, SW, O, C, IX, PX, MX) (nI p) y := by
  unfold wpX_map
  exact om_xp hp (br_f om_10 (om_xgB h2 (br_t rfl h)))
theorem om_xunmap1 {post : Int32 → SX → Prop} {x y : Int32} (h1 : (x < 0 ∨ nI 3 ≤ x)) (h : post (-1) (P, W, L, T, SM, SW, O, C, IX, PX, MX)) : wpX_unmap post (P, W, L, T, SM, SW, O, C, IX, PX, MX) x y := by
  unfold wpX_unmap
  exact om_xpB h1 (br_t rfl h)
theorem om_xunmap2 {post : Int32 → SX → Prop} {p : Nat} {y : Int32} (hp : p < 3) (h2 : (y < 0 ∨ nI 8 ≤ y)) (h : post (-2) (P, W, L, T, SM, SW, O, C, IX, PX, MX)) : wpX_unmap post (P, W, L, T, SM, SW, O, C, IX, PX, MX) (nI p) y := by
  unfold wpX_unmap
  exact om_xp hp (br_f om_10 (om_xgB h2 (br_t rfl h)))
theorem om_xmap3 {post : Int32 → SX → Prop} {p q : Nat} (hp : p < 3) (hq : q < 8) (z : ¬ P (p * 8 + q) = 0) (h : post (-3) (P, W, L, T, SM, SW, O, C, IX, PX, MX)) : wpX_map post (P, W, L, T, SM, SW, O, C, IX, PX, MX) (nI p) (nI q) := by
  unfold wpX_map
  exact om_xp hp (br_f om_10 (om_xg hq (br_f om_10 (om_xi rfl rfl ⟨vp_in_nI (by omega) (by omega), br_f (om_nt rfl (by omega) z) h⟩))))
theorem om_xmap4 {post : Int32 → SX → Prop} {p q : Nat} (hp : p < 3) (hq : q < 8) (z : P (p * 8 + q) = 0) (h : post (nI (om_cnt (upd P (p * 8 + q) (vp_nar .boolean 1)) 8 (p * 8))) (upd P (p * 8 + q) (vp_nar .boolean 1), om_it (fun i a => upd a (p * 32 + q * 4 + i) 0) 4 0 W, L, T, SM, SW, O, C, IX, PX, MX)) : wpX_map post (P, W, L, T, SM, SW, O, C, IX, PX, MX) (nI p) (nI q) := by
  unfold wpX_map
  exact om_xp hp (br_f om_10 (om_xg hq (br_f om_10 (om_xi rfl rfl ⟨vp_in_nI (by omega) (by omega), br_t (om_at rfl (by omega) z) (om_xi rfl rfl ⟨vp_in_nI (by omega) (by omega), nm_r (om_u rfl (by omega) rfl) (om_xcl hp hq (om_xc hp h))⟩)⟩))))
theorem om_xunmap3 {post : Int32 → SX → Prop} {p q : Nat} (hp : p < 3) (hq : q < 8) (z : P (p * 8 + q) = 0) (h : post (-4) (P, W, L, T, SM, SW, O, C, IX, PX, MX)) : wpX_unmap post (P, W, L, T, SM, SW, O, C, IX, PX, MX) (nI p) (nI q) := by
  unfold wpX_unmap
  exact om_xp hp (br_f om_10 (om_xg hq (br_f om_10 (om_xi rfl rfl ⟨vp_in_nI (by omega) (by omega), br_t (om_at rfl (by omega) z) h⟩))))
theorem om_xunmap4 {post : Int32 → SX → Prop} {p q : Nat} (hp : p < 3) (hq : q < 8) (z : ¬ P (p * 8 + q) = 0) (h : post (nI (om_cnt (upd P (p * 8 + q) (vp_nar .boolean 0)) 8 (p * 8))) (upd P (p * 8 + q) (vp_nar .boolean 0), W, L, T, SM, SW, O, C, IX, PX, MX)) : wpX_unmap post (P, W, L, T, SM, SW, O, C, IX, PX, MX) (nI p) (nI q) := by
  unfold wpX_unmap
  exact om_xp hp (br_f om_10 (om_xg hq (br_f om_10 (om_xi rfl rfl ⟨vp_in_nI (by omega) (by omega), br_f (om_nt rfl (by omega) z) (om_xi rfl rfl ⟨vp_in_nI (by omega) (by omega), nm_r (om_u rfl (by omega) rfl) (om_xc hp h)⟩)⟩))))
theorem om_xwrite1 {post : Int32 → SX → Prop} {x y w : Int32} (h1 : (x < 0 ∨ nI 3 ≤ x)) (h : post (-1) (P, W, L, T, SM, SW, O, C, IX, PX, MX)) : wpX_write post (P, W, L, T, SM, SW, O, C, IX, PX, MX) x y w := by
  unfold wpX_write
  exact om_xpB h1 (br_t rfl h)
theorem om_xwrite2 {post : Int32 → SX → Prop} {p : Nat} {y w : Int32} (hp : p < 3) (h2 : (y < 0 ∨ nI 32 ≤ y)) (h : post (-2) (P, W, L, T, SM, SW, O, C, IX, PX, MX)) : wpX_write post (P, W, L, T, SM, SW, O, C, IX, PX, MX) (nI p) y w := by
  unfold wpX_write
  exact om_xp hp (br_f om_10 (om_xaB h2 (br_t rfl h)))
theorem om_xwrite3 {post : Int32 → SX → Prop} {p a : Nat} {w : Int32} (hp : p < 3) (ha : a < 32) (z : P (p * 8 + a / 4) = 0) (h : post (-4) (P, W, L, T, SM, SW, O, C, IX, PX, MX)) : wpX_write post (P, W, L, T, SM, SW, O, C, IX, PX, MX) (nI p) (nI a) w := by
  unfold wpX_write
  exact om_xp hp (br_f om_10 (om_xa ha (br_f om_10 ⟨om_40, nm_r (om_d4 ha) (om_xi rfl rfl ⟨vp_in_nI (by omega) (by omega), br_t (om_at rfl (by omega) z) h⟩)⟩)))
theorem om_xwrite4 {post : Int32 → SX → Prop} {p a : Nat} {w : Int32} (hp : p < 3) (ha : a < 32) (z : ¬ P (p * 8 + a / 4) = 0) (h : post (nI (a / 4)) (P, upd W (p * 32 + a) w, L, T, SM, SW, O, C, IX, PX, MX)) : wpX_write post (P, W, L, T, SM, SW, O, C, IX, PX, MX) (nI p) (nI a) w := by
  unfold wpX_write
  exact om_xp hp (br_f om_10 (om_xa ha (br_f om_10 ⟨om_40, nm_r (om_d4 ha) (om_xi rfl rfl ⟨vp_in_nI (by omega) (by omega), br_f (om_nt rfl (by omega) z) ⟨pk_in (p * 32 + a) 96 (by omega) (om_i32 p a), nm_r (om_u (om_i32 p a) (by omega) rfl) h⟩⟩)⟩)))
theorem om_xcopy1 {post : Int32 → SX → Prop} {x y w : Int32} (h1 : (x < 0 ∨ nI 3 ≤ x)) (h : post (-1) (P, W, L, T, SM, SW, O, C, IX, PX, MX)) : wpX_copy post (P, W, L, T, SM, SW, O, C, IX, PX, MX) x y w := by
  unfold wpX_copy
  exact om_xpB h1 (br_t rfl h)
theorem om_xcopy2 {post : Int32 → SX → Prop} {p : Nat} {y w : Int32} (hp : p < 3) (h2 : (y < 0 ∨ nI 8 ≤ y)) (h : post (-2) (P, W, L, T, SM, SW, O, C, IX, PX, MX)) : wpX_copy post (P, W, L, T, SM, SW, O, C, IX, PX, MX) (nI p) y w := by
  unfold wpX_copy
  exact om_xp hp (br_f om_10 (om_xgB h2 (br_t rfl h)))
theorem om_xcopy3 {post : Int32 → SX → Prop} {p f : Nat} {w : Int32} (hp : p < 3) (hf : f < 8) (h2 : (w < 0 ∨ nI 8 ≤ w)) (h : post (-2) (P, W, L, T, SM, SW, O, C, IX, PX, MX)) : wpX_copy post (P, W, L, T, SM, SW, O, C, IX, PX, MX) (nI p) (nI f) w := by
  unfold wpX_copy
  exact om_xp hp (br_f om_10 (om_xg hf (br_f om_10 (om_xgB h2 (br_t rfl h)))))
theorem om_xcopy4 {post : Int32 → SX → Prop} {p f q : Nat} (hp : p < 3) (hf : f < 8) (hq : q < 8) (z : P (p * 8 + f) = 0) (h : post (-4) (P, W, L, T, SM, SW, O, C, IX, PX, MX)) : wpX_copy post (P, W, L, T, SM, SW, O, C, IX, PX, MX) (nI p) (nI f) (nI q) := by
  unfold wpX_copy
  exact om_xp hp (br_f om_10 (om_xg hf (br_f om_10 (om_xg hq (br_f om_10 (om_xi rfl rfl ⟨vp_in_nI (by omega) (by omega), br_t (om_at rfl (by omega) z) h⟩))))))
theorem om_xcopy5 {post : Int32 → SX → Prop} {p f q : Nat} (hp : p < 3) (hf : f < 8) (hq : q < 8) (z : ¬ P (p * 8 + f) = 0) (h : post (nI (om_cnt (upd P (p * 8 + q) (vp_nar .boolean 1)) 8 (p * 8))) (upd P (p * 8 + q) (vp_nar .boolean 1), om_it (fun i a => upd a (p * 32 + q * 4 + i) (a (p * 32 + f * 4 + i))) 4 0 W, L, T, SM, SW, O, C, IX, PX, MX)) : wpX_copy post (P, W, L, T, SM, SW, O, C, IX, PX, MX) (nI p) (nI f) (nI q) := by
  unfold wpX_copy
  exact om_xp hp (br_f om_10 (om_xg hf (br_f om_10 (om_xg hq (br_f om_10 (om_xi rfl rfl ⟨vp_in_nI (by omega) (by omega), br_f (om_nt rfl (by omega) z) (om_xw rfl rfl (om_xw rfl rfl (om_cw_words_words (n := 4) rfl rfl rfl (by omega) (by omega) (om_xi rfl rfl ⟨vp_in_nI (by omega) (by omega), nm_r (om_u rfl (by omega) rfl) (om_xc hp h)⟩))))⟩))))))
theorem om_xsend1 {post : Int32 → SX → Prop} {x y w v : Int32} (h1 : (x < 0 ∨ nI 3 ≤ x)) (h : post (-1) (P, W, L, T, SM, SW, O, C, IX, PX, MX)) : wpX_send post (P, W, L, T, SM, SW, O, C, IX, PX, MX) x y w v := by
  unfold wpX_send
  exact om_xpB h1 (br_t rfl h)
theorem om_xsend2 {post : Int32 → SX → Prop} {p : Nat} {y w v : Int32} (hp : p < 3) (h2 : (y < 0 ∨ nI 3 ≤ y)) (h : post (-1) (P, W, L, T, SM, SW, O, C, IX, PX, MX)) : wpX_send post (P, W, L, T, SM, SW, O, C, IX, PX, MX) (nI p) y w v := by
  unfold wpX_send
  exact om_xp hp (br_f om_10 (om_xoB h2 (br_t rfl h)))
theorem om_lt3 {r c : Nat} (hr : r < 3) (hc : C r = nI c) (hc3 : c < 3) : C (nI r).toNatClampNeg < 3 := by
  rw [nI_clamp (by omega), hc]
  exact nI_lt (b := 3) hc3 (by decide)
theorem om_nl3 {r c : Nat} (hr : r < 3) (hc : C r = nI c) (hc3 : c = 3) : ¬ C (nI r).toNatClampNeg < 3 := by
  rw [nI_clamp (by omega), hc, hc3]
  exact nI_nlt (b := 3) (by omega) (by decide)
theorem om_xsend3 {post : Int32 → SX → Prop} {p r : Nat} {w v : Int32} (hp : p < 3) (hr : r < 3) {c : Nat} (hc : C r = nI c) (hc3 : c = 3) (h : post (-5) (P, W, L, T, SM, SW, O, C, IX, PX, MX)) : wpX_send post (P, W, L, T, SM, SW, O, C, IX, PX, MX) (nI p) (nI r) w v := by
  unfold wpX_send
  exact om_xp hp (br_f om_10 (om_xo hr (br_f om_10 ⟨vp_in_nI (by omega) (by omega), br_f (om_nl3 hr hc hc3) h⟩)))
theorem om_xsend4 {post : Int32 → SX → Prop} {p r c f q : Nat} {w v : Int32} (hp : p < 3) (hr : r < 3) (hc : C r = nI c) (hc3 : c < 3) (hf : v &&& 7 = nI f) (hq : (v >>> ((3 : Int32) &&& 31)) &&& 3 = nI q) (hf8 : f < 8) (hq4 : q < 4) (hg : 8 < f + q) (h : post (-2) (P, W, L, T, SM, SW, O, C, IX, PX, MX)) : wpX_send post (P, W, L, T, SM, SW, O, C, IX, PX, MX) (nI p) (nI r) w v := by
  unfold wpX_send
  exact om_xp hp (br_f om_10 (om_xo hr (br_f om_10 ⟨vp_in_nI (by omega) (by omega), br_t (om_lt3 hr hc hc3) (nm_r hf (nm_r hq (br_f (om_gtE (nI_add f q) om_l8 hg (by omega)) h)))⟩)))
theorem om_xsend5 {post : Int32 → SX → Prop} {p r c f q : Nat} {w v : Int32} (hp : p < 3) (hr : r < 3) (hc : C r = nI c) (hc3 : c < 3) (hf : v &&& 7 = nI f) (hq : (v >>> ((3 : Int32) &&& 31)) &&& 3 = nI q) (hf8 : f < 8) (hq4 : q < 4) (hg : f + q ≤ 8) (hn : om_cnt P q (p * 8 + f) ≠ q) (h : post (-4) (P, W, L, T, SM, SW, O, C, IX, PX, MX)) : wpX_send post (P, W, L, T, SM, SW, O, C, IX, PX, MX) (nI p) (nI r) w v := by
  unfold wpX_send
  exact om_xp hp (br_f om_10 (om_xo hr (br_f om_10 ⟨vp_in_nI (by omega) (by omega), br_t (om_lt3 hr hc hc3) (nm_r hf (nm_r hq (br_t (om_leE (nI_add f q) om_l8 hg (by omega)) (om_xcf hp hg (br_f (fun k => hn ((nI_eq (Nat.lt_of_le_of_lt (om_cle P q (p * 8 + f)) (by omega)) (by omega)).mp k)) h)))))⟩)))
theorem om_xsend6 {post : Int32 → SX → Prop} {p r c f q o : Nat} {w v : Int32} (hp : p < 3) (hr : r < 3) (hc : C r = nI c) (hc3 : c < 3) (hf : v &&& 7 = nI f) (hq : (v >>> ((3 : Int32) &&& 31)) &&& 3 = nI q) (hf8 : f < 8) (hq4 : q < 4) (ho : O r = nI o) (ho3 : o < 3) (hg : f + q ≤ 8) (hn : om_cnt P q (p * 8 + f) = q) (h : post (nI (c + 1)) (P, W, L, T, SM, SW, O, upd C r (nI (c + 1)), upd IX (r * 3 + (o + c) % 3) w, upd PX (r * 3 + (o + c) % 3) (nI q), om_it (fun i a => upd a ((r * 3 + (o + c) % 3) * 12 + i) (W (p * 32 + f * 4 + i))) (q * 4) 0 MX)) : wpX_send post (P, W, L, T, SM, SW, O, C, IX, PX, MX) (nI p) (nI r) w v := by
  unfold wpX_send
  refine om_xp hp (br_f om_10 (om_xo hr (br_f om_10 ⟨vp_in_nI (by omega) (by omega), br_t (om_lt3 hr hc hc3) (nm_r hf (nm_r hq (br_t (om_leE (nI_add f q) om_l8 hg (by omega)) (om_xcf hp hg (br_t (congrArg nI hn) ⟨vp_in_nI (by omega) (by omega), om_xs hr ho (om_at rfl (by omega) hc) ho3 (by omega) (om_xw rfl rfl (om_cw_words_messageWords (s := p * 32 + f * 4) (t := (r * 3 + (o + c) % 3) * 12) (n := q * 4) rfl (om_m12 _) (om_m4 q) (by omega) (by omega) ⟨vp_in_nI (by omega) (by omega), nm_r (om_u rfl (by omega) rfl) ⟨vp_in_nI (by omega) (by omega), nm_r (om_u rfl (by omega) rfl) ⟨vp_in_nI (by omega) (by omega), vp_in_nI (by omega) (by omega), nm_r (e' := upd C r (nI (c + 1))) (om_u rfl (by omega) ?_) ⟨vp_in_nI (by omega) (by omega), ?_⟩⟩⟩⟩))⟩)))))⟩)))
  · rw [nI_clamp (by omega), hc, nI_1]
  · rw [nI_clamp (show r < 2 ^ 31 by omega), pk_us]
    exact h
theorem om_xreceive1 {post : Int32 → SX → Prop} {x y w : Int32} (h1 : (x < 0 ∨ nI 3 ≤ x)) (h : post (-1) (P, W, L, T, SM, SW, O, C, IX, PX, MX)) : wpX_receive post (P, W, L, T, SM, SW, O, C, IX, PX, MX) x y w := by
  unfold wpX_receive
  exact om_xpB h1 (br_t rfl h)
theorem om_xreceive2 {post : Int32 → SX → Prop} {p : Nat} {y w : Int32} (hp : p < 3) (h2 : (y < 0 ∨ nI 3 ≤ y)) (h : post (-1) (P, W, L, T, SM, SW, O, C, IX, PX, MX)) : wpX_receive post (P, W, L, T, SM, SW, O, C, IX, PX, MX) (nI p) y w := by
  unfold wpX_receive
  exact om_xp hp (br_f om_10 (om_xoB h2 (br_t rfl h)))
theorem om_xreceive3 {post : Int32 → SX → Prop} {p r : Nat} {w : Int32} (hp : p < 3) (hr : r < 3) (hc : C r = 0) (h : post (-6) (P, W, L, T, SM, SW, O, C, IX, PX, MX)) : wpX_receive post (P, W, L, T, SM, SW, O, C, IX, PX, MX) (nI p) (nI r) w := by
  unfold wpX_receive
  exact om_xp hp (br_f om_10 (om_xo hr (br_f om_10 ⟨vp_in_nI (by omega) (by omega), br_t (om_at rfl (by omega) hc) h⟩)))
theorem om_ne0 {r c : Nat} (hr : r < 3) (hc : C r = nI (c + 1)) (hc3 : c + 1 ≤ 3) : ¬ C (nI r).toNatClampNeg = 0 := by
  rw [nI_clamp (by omega), hc]
  exact nI_ne0 (by omega) (by omega)
theorem om_xreceive4 {post : Int32 → SX → Prop} {p r c o q : Nat} (hp : p < 3) (hr : r < 3) (hc : C r = nI (c + 1)) (hc3 : c + 1 ≤ 3) (ho : O r = nI o) (ho3 : o < 3) (hq : q ≤ 3) (hP : PX (r * 3 + (o + 0) % 3) = nI q) {w : Int32} (h2 : (w < 0 ∨ nI 8 ≤ w)) (h : post (-2) (P, W, L, T, SM, SW, O, C, IX, PX, MX)) : wpX_receive post (P, W, L, T, SM, SW, O, C, IX, PX, MX) (nI p) (nI r) w := by
  unfold wpX_receive
  exact om_xp hp (br_f om_10 (om_xo hr (br_f om_10 ⟨vp_in_nI (by omega) (by omega), br_f (om_ne0 hr hc hc3) (om_xs (c := 0) hr ho rfl ho3 (by omega) ⟨vp_in_nI (by omega) (by omega), nm_r (om_at rfl (by omega) hP) (om_xgB h2 (br_t rfl h))⟩)⟩)))
theorem om_xreceive5 {post : Int32 → SX → Prop} {p r c o q : Nat} (hp : p < 3) (hr : r < 3) (hc : C r = nI (c + 1)) (hc3 : c + 1 ≤ 3) (ho : O r = nI o) (ho3 : o < 3) (hq : q ≤ 3) (hP : PX (r * 3 + (o + 0) % 3) = nI q) {f : Nat} (hf : f < 8) (hg : 8 < f + q) (h : post (-2) (P, W, L, T, SM, SW, O, C, IX, PX, MX)) : wpX_receive post (P, W, L, T, SM, SW, O, C, IX, PX, MX) (nI p) (nI r) (nI f) := by
  unfold wpX_receive
  exact om_xp hp (br_f om_10 (om_xo hr (br_f om_10 ⟨vp_in_nI (by omega) (by omega), br_f (om_ne0 hr hc hc3) (om_xs (c := 0) hr ho rfl ho3 (by omega) ⟨vp_in_nI (by omega) (by omega), nm_r (om_at rfl (by omega) hP) (om_xg hf (br_f om_10 (br_f (om_gtE (nI_add f q) om_l8 hg (by omega)) h)))⟩)⟩)))
theorem om_xreceive6 {post : Int32 → SX → Prop} {p r c o q : Nat} (hp : p < 3) (hr : r < 3) (hc : C r = nI (c + 1)) (hc3 : c + 1 ≤ 3) (ho : O r = nI o) (ho3 : o < 3) (hq : q ≤ 3) (hP : PX (r * 3 + (o + 0) % 3) = nI q) {f : Nat} (hf : f < 8) (hg : f + q ≤ 8) (hn : om_cnt P q (p * 8 + f) ≠ 0) (h : post (-3) (P, W, L, T, SM, SW, O, C, IX, PX, MX)) : wpX_receive post (P, W, L, T, SM, SW, O, C, IX, PX, MX) (nI p) (nI r) (nI f) := by
  unfold wpX_receive
  exact om_xp hp (br_f om_10 (om_xo hr (br_f om_10 ⟨vp_in_nI (by omega) (by omega), br_f (om_ne0 hr hc hc3) (om_xs (c := 0) hr ho rfl ho3 (by omega) ⟨vp_in_nI (by omega) (by omega), nm_r (om_at rfl (by omega) hP) (om_xg hf (br_f om_10 (br_t (om_leE (nI_add f q) om_l8 hg (by omega)) (om_xcf hp hg (br_f (nI_ne0 (Nat.pos_of_ne_zero hn) (Nat.lt_of_le_of_lt (om_cle P q (p * 8 + f)) (by omega))) h)))))⟩)⟩)))
theorem om_xreceive7 {post : Int32 → SX → Prop} {p r c o q : Nat} (hp : p < 3) (hr : r < 3) (hc : C r = nI (c + 1)) (hc3 : c + 1 ≤ 3) (ho : O r = nI o) (ho3 : o < 3) (hq : q ≤ 3) (hP : PX (r * 3 + (o + 0) % 3) = nI q) {f : Nat} (hf : f < 8) (hg : f + q ≤ 8) (hn : om_cnt P q (p * 8 + f) = 0) (h : post (nI q) (om_it (fun i a => upd a (p * 8 + f + i) (vp_nar .boolean 1)) q 0 P, om_it (fun i a => upd a (p * 32 + f * 4 + i) (MX ((r * 3 + (o + 0) % 3) * 12 + i))) (q * 4) 0 W, upd L p (IX (r * 3 + (o + 0) % 3)), T, SM, SW, upd O r (nI ((o + 1) % 3)), upd C r (nI c), IX, PX, MX)) : wpX_receive post (P, W, L, T, SM, SW, O, C, IX, PX, MX) (nI p) (nI r) (nI f) := by
  unfold wpX_receive
  exact om_xp hp (br_f om_10 (om_xo hr (br_f om_10 ⟨vp_in_nI (by omega) (by omega), br_f (om_ne0 hr hc hc3) (om_xs (c := 0) hr ho rfl ho3 (by omega) ⟨vp_in_nI (by omega) (by omega), nm_r (om_at rfl (by omega) hP) (om_xg hf (br_f om_10 (br_t (om_leE (nI_add f q) om_l8 hg (by omega)) (om_xcf hp hg (br_t (congrArg nI hn) (om_xw rfl rfl (om_cw_messageWords_words (s := (r * 3 + (o + 0) % 3) * 12) (t := p * 32 + f * 4) (n := q * 4) (om_m12 _) rfl (om_m4 q) (by omega) (by omega) (om_xmp hp hg ⟨vp_in_nI (by omega) (by omega), vp_in_nI (by omega) (by omega), nm_r (om_u rfl (by omega) (om_at rfl (by omega) rfl)) (om_xdo hr ho ho3 hc h)⟩))))))))⟩)⟩)))
theorem om_xdrain1 {post : Int32 → SX → Prop} {x : Int32} (h1 : (x < 0 ∨ nI 3 ≤ x)) (h : post (-1) (P, W, L, T, SM, SW, O, C, IX, PX, MX)) : wpX_drain post (P, W, L, T, SM, SW, O, C, IX, PX, MX) x := by
  unfold wpX_drain
  exact om_xoB h1 (br_t rfl h)
theorem om_xdrain2 {post : Int32 → SX → Prop} {r : Nat} (hr : r < 3) (h : post (C r) (P, W, L, T, SM, SW, O, upd C r 0, IX, PX, MX)) : wpX_drain post (P, W, L, T, SM, SW, O, C, IX, PX, MX) (nI r) := by
  unfold wpX_drain
  exact om_xo hr (br_f om_10 ⟨vp_in_nI (by omega) (by omega), nm_r (om_at rfl (by omega) rfl) ⟨vp_in_nI (by omega) (by omega), nm_r (om_u rfl (by omega) rfl) h⟩⟩)
theorem om_xsnapshot1 {post : Int32 → SX → Prop} {x : Int32} (h1 : (x < 0 ∨ nI 3 ≤ x)) (h : post (-1) (P, W, L, T, SM, SW, O, C, IX, PX, MX)) : wpX_snapshot post (P, W, L, T, SM, SW, O, C, IX, PX, MX) x := by
  unfold wpX_snapshot
  exact om_xpB h1 (br_t rfl h)
theorem om_xrollBack1 {post : Int32 → SX → Prop} {x : Int32} (h1 : (x < 0 ∨ nI 3 ≤ x)) (h : post (-1) (P, W, L, T, SM, SW, O, C, IX, PX, MX)) : wpX_rollBack post (P, W, L, T, SM, SW, O, C, IX, PX, MX) x := by
  unfold wpX_rollBack
  exact om_xpB h1 (br_t rfl h)
theorem om_xexit1 {post : Int32 → SX → Prop} {x : Int32} (h1 : (x < 0 ∨ nI 3 ≤ x)) (h : post (-1) (P, W, L, T, SM, SW, O, C, IX, PX, MX)) : wpX_exit post (P, W, L, T, SM, SW, O, C, IX, PX, MX) x := by
  unfold wpX_exit
  exact om_xpB h1 (br_t rfl h)
theorem om_xsnapshot2 {post : Int32 → SX → Prop} {p : Nat} (hp : p < 3) (h : post (nI (om_cnt P 8 (p * 8))) (P, W, L, upd T p (vp_nar .boolean 1), om_it (fun i a => upd a (p * 8 + i) (vp_nar .boolean (P (p * 8 + i)))) 8 0 SM, om_it (fun i a => upd a (p * 32 + i) (W (p * 32 + i))) 32 0 SW, O, C, IX, PX, MX)) : wpX_snapshot post (P, W, L, T, SM, SW, O, C, IX, PX, MX) (nI p) := by
  unfold wpX_snapshot
  exact om_xp hp (br_f om_10 (om_cm_pageMapped_words_snapshotMapped_snapshotWords hp ⟨vp_in_nI (by omega) (by omega), nm_r (om_u rfl (by omega) rfl) (om_xc hp h)⟩))
theorem om_xrollBack2 {post : Int32 → SX → Prop} {p : Nat} (hp : p < 3) (z : T p = 0) (h : post (-7) (P, W, L, T, SM, SW, O, C, IX, PX, MX)) : wpX_rollBack post (P, W, L, T, SM, SW, O, C, IX, PX, MX) (nI p) := by
  unfold wpX_rollBack
  exact om_xp hp (br_f om_10 ⟨vp_in_nI (by omega) (by omega), br_t (om_at rfl (by omega) z) h⟩)
theorem om_xrollBack3 {post : Int32 → SX → Prop} {p : Nat} (hp : p < 3) (z : ¬ T p = 0) (h : post (nI (om_cnt (om_it (fun i a => upd a (p * 8 + i) (vp_nar .boolean (SM (p * 8 + i)))) 8 0 P) 8 (p * 8))) (om_it (fun i a => upd a (p * 8 + i) (vp_nar .boolean (SM (p * 8 + i)))) 8 0 P, om_it (fun i a => upd a (p * 32 + i) (SW (p * 32 + i))) 32 0 W, L, T, SM, SW, O, C, IX, PX, MX)) : wpX_rollBack post (P, W, L, T, SM, SW, O, C, IX, PX, MX) (nI p) := by
  unfold wpX_rollBack
  exact om_xp hp (br_f om_10 ⟨vp_in_nI (by omega) (by omega), br_f (om_nt rfl (by omega) z) (om_cm_snapshotMapped_snapshotWords_pageMapped_words hp (om_xc hp h))⟩)
theorem om_xexit2 {post : Int32 → SX → Prop} {p : Nat} (hp : p < 3) (h : post (nI (om_cnt P 8 (p * 8))) (om_it (fun i a => upd a (p * 8 + i) (vp_nar .boolean 0)) 8 0 P, W, upd L p 0, upd T p (vp_nar .boolean 0), SM, SW, O, C, IX, PX, MX)) : wpX_exit post (P, W, L, T, SM, SW, O, C, IX, PX, MX) (nI p) := by
  unfold wpX_exit
  exact om_xp hp (br_f om_10 (om_xc hp (om_xua hp ⟨vp_in_nI (by omega) (by omega), nm_r (om_u rfl (by omega) rfl) ⟨vp_in_nI (by omega) (by omega), nm_r (om_u rfl (by omega) rfl) h⟩⟩)))
theorem om_xread1 {post : Int32 → Prop} {x y : Int32} (h1 : (x < 0 ∨ nI 3 ≤ x)) (h : post (0)) : wpX_read post (P, W, L, T, SM, SW, O, C, IX, PX, MX) x y := by
  unfold wpX_read
  exact om_xpB h1 (br_t rfl h)
theorem om_xread2 {post : Int32 → Prop} {p : Nat} {y : Int32} (hp : p < 3) (h2 : (y < 0 ∨ nI 32 ≤ y)) (h : post (0)) : wpX_read post (P, W, L, T, SM, SW, O, C, IX, PX, MX) (nI p) y := by
  unfold wpX_read
  exact om_xp hp (br_f om_10 (om_xaB h2 (br_t rfl h)))
theorem om_xread3 {post : Int32 → Prop} {p a : Nat} (hp : p < 3) (ha : a < 32) (z : P (p * 8 + a / 4) = 0) (h : post (0)) : wpX_read post (P, W, L, T, SM, SW, O, C, IX, PX, MX) (nI p) (nI a) := by
  unfold wpX_read
  exact om_xp hp (br_f om_10 (om_xa ha (br_f om_10 ⟨om_40, om_xi rfl (om_d4 ha) ⟨vp_in_nI (by omega) (by omega), br_t (om_at rfl (by omega) z) h⟩⟩)))
theorem om_xread4 {post : Int32 → Prop} {p a : Nat} (hp : p < 3) (ha : a < 32) (z : ¬ P (p * 8 + a / 4) = 0) (h : post (W (p * 32 + a))) : wpX_read post (P, W, L, T, SM, SW, O, C, IX, PX, MX) (nI p) (nI a) := by
  unfold wpX_read
  refine om_xp hp (br_f om_10 (om_xa ha (br_f om_10 ⟨om_40, om_xi rfl (om_d4 ha) ⟨vp_in_nI (by omega) (by omega), br_f (om_nt rfl (by omega) z) ⟨pk_in (p * 32 + a) 96 (by omega) (om_i32 p a), ?_⟩⟩⟩)))
  rw [om_i32, nI_clamp (by omega)]
  exact h
theorem om_xmapped1 {post : Int32 → Prop} {x y : Int32} (h1 : (x < 0 ∨ nI 3 ≤ x)) (h : post (0)) : wpX_mapped post (P, W, L, T, SM, SW, O, C, IX, PX, MX) x y := by
  unfold wpX_mapped
  exact om_xpB h1 (br_t rfl h)
theorem om_xmapped2 {post : Int32 → Prop} {p : Nat} {y : Int32} (hp : p < 3) (h2 : (y < 0 ∨ nI 8 ≤ y)) (h : post (0)) : wpX_mapped post (P, W, L, T, SM, SW, O, C, IX, PX, MX) (nI p) y := by
  unfold wpX_mapped
  exact om_xp hp (br_f om_10 (om_xgB h2 (br_t rfl h)))
theorem om_xmapped3 {post : Int32 → Prop} {p q : Nat} (hp : p < 3) (hq : q < 8) (z : P (p * 8 + q) = 0) (h : post (0)) : wpX_mapped post (P, W, L, T, SM, SW, O, C, IX, PX, MX) (nI p) (nI q) := by
  unfold wpX_mapped
  exact om_xp hp (br_f om_10 (om_xg hq (br_f om_10 (om_xi rfl rfl ⟨vp_in_nI (by omega) (by omega), br_t (om_at rfl (by omega) z) h⟩))))
theorem om_xmapped4 {post : Int32 → Prop} {p q : Nat} (hp : p < 3) (hq : q < 8) (z : ¬ P (p * 8 + q) = 0) (h : post (1)) : wpX_mapped post (P, W, L, T, SM, SW, O, C, IX, PX, MX) (nI p) (nI q) := by
  unfold wpX_mapped
  exact om_xp hp (br_f om_10 (om_xg hq (br_f om_10 (om_xi rfl rfl ⟨vp_in_nI (by omega) (by omega), br_f (om_nt rfl (by omega) z) h⟩))))
theorem om_xlastWord1 {post : Int32 → Prop} {x : Int32} (h1 : (x < 0 ∨ nI 3 ≤ x)) (h : post (0)) : wpX_lastWord post (P, W, L, T, SM, SW, O, C, IX, PX, MX) x := by
  unfold wpX_lastWord
  exact om_xpB h1 (br_t rfl h)
theorem om_xlastWord2 {post : Int32 → Prop} {p : Nat} (hp : p < 3) (h : post (L p)) : wpX_lastWord post (P, W, L, T, SM, SW, O, C, IX, PX, MX) (nI p) := by
  unfold wpX_lastWord
  refine om_xp hp (br_f om_10 ⟨vp_in_nI (by omega) (by omega), ?_⟩)
  rw [nI_clamp (by omega)]
  exact h
theorem om_xwaiting1 {post : Int32 → Prop} {x : Int32} (h1 : (x < 0 ∨ nI 3 ≤ x)) (h : post (-1)) : wpX_waiting post (P, W, L, T, SM, SW, O, C, IX, PX, MX) x := by
  unfold wpX_waiting
  exact om_xoB h1 (br_t rfl h)
theorem om_xwaiting2 {post : Int32 → Prop} {p : Nat} (hp : p < 3) (h : post (C p)) : wpX_waiting post (P, W, L, T, SM, SW, O, C, IX, PX, MX) (nI p) := by
  unfold wpX_waiting
  refine om_xo hp (br_f om_10 ⟨vp_in_nI (by omega) (by omega), ?_⟩)
  rw [nI_clamp (by omega)]
  exact h
end
