theorem i_vc_map {k : Nat} {u : SX} {v : SY} (I : i_Rel k u v) (hk : k + 5 ≤ 2560) (v1 : Int32) (v2 : Int32) : wpX_map (fun r u' => wpY_map (fun r' v' => r' = r ∧ i_Rel (k + 5) u' v') v v1 v2) u v1 v2 := by
  obtain ⟨P, W, L, T, SM, SW, O, C, IX, PX, MX, IY, PY, MY, rfl, rfl, R⟩ := I
  rcases om_ix v1 (n := 3) (by decide) with h1 | ⟨p, hp, rfl⟩
  · exact om_xmap1 h1 (om_ymap1 h1 ⟨rfl, om_R R⟩)
  rcases om_ix v2 (n := 8) (by decide) with h2 | ⟨q, hq, rfl⟩
  · exact om_xmap2 hp h2 (om_ymap2 hp h2 ⟨rfl, om_R R⟩)
  by_cases z : P (p * 8 + q) = 0
  · exact om_xmap4 hp hq z (om_ymap4 hp hq z ⟨rfl, om_R R⟩)
  · exact om_xmap3 hp hq z (om_ymap3 hp hq z ⟨rfl, om_R R⟩)
theorem i_vc_unmap {k : Nat} {u : SX} {v : SY} (I : i_Rel k u v) (hk : k + 5 ≤ 2560) (v1 : Int32) (v2 : Int32) : wpX_unmap (fun r u' => wpY_unmap (fun r' v' => r' = r ∧ i_Rel (k + 5) u' v') v v1 v2) u v1 v2 := by
  obtain ⟨P, W, L, T, SM, SW, O, C, IX, PX, MX, IY, PY, MY, rfl, rfl, R⟩ := I
  rcases om_ix v1 (n := 3) (by decide) with h1 | ⟨p, hp, rfl⟩
  · exact om_xunmap1 h1 (om_yunmap1 h1 ⟨rfl, om_R R⟩)
  rcases om_ix v2 (n := 8) (by decide) with h2 | ⟨q, hq, rfl⟩
  · exact om_xunmap2 hp h2 (om_yunmap2 hp h2 ⟨rfl, om_R R⟩)
  by_cases z : P (p * 8 + q) = 0
  · exact om_xunmap3 hp hq z (om_yunmap3 hp hq z ⟨rfl, om_R R⟩)
  · exact om_xunmap4 hp hq z (om_yunmap4 hp hq z ⟨rfl, om_R R⟩)
theorem i_vc_write {k : Nat} {u : SX} {v : SY} (I : i_Rel k u v) (hk : k + 5 ≤ 2560) (v1 : Int32) (v2 : Int32) (v3 : Int32) : wpX_write (fun r u' => wpY_write (fun r' v' => r' = r ∧ i_Rel (k + 5) u' v') v v1 v2 v3) u v1 v2 v3 := by
  obtain ⟨P, W, L, T, SM, SW, O, C, IX, PX, MX, IY, PY, MY, rfl, rfl, R⟩ := I
  rcases om_ix v1 (n := 3) (by decide) with h1 | ⟨p, hp, rfl⟩
  · exact om_xwrite1 h1 (om_ywrite1 h1 ⟨rfl, om_R R⟩)
  rcases om_ix v2 (n := 32) (by decide) with h2 | ⟨q, hq, rfl⟩
  · exact om_xwrite2 hp h2 (om_ywrite2 hp h2 ⟨rfl, om_R R⟩)
  by_cases z : P (p * 8 + q / 4) = 0
  · exact om_xwrite3 hp hq z (om_ywrite3 hp hq z ⟨rfl, om_R R⟩)
  · exact om_xwrite4 hp hq z (om_ywrite4 hp hq z ⟨rfl, om_R R⟩)
theorem i_vc_copy {k : Nat} {u : SX} {v : SY} (I : i_Rel k u v) (hk : k + 5 ≤ 2560) (v1 : Int32) (v2 : Int32) (v3 : Int32) : wpX_copy (fun r u' => wpY_copy (fun r' v' => r' = r ∧ i_Rel (k + 5) u' v') v v1 v2 v3) u v1 v2 v3 := by
  obtain ⟨P, W, L, T, SM, SW, O, C, IX, PX, MX, IY, PY, MY, rfl, rfl, R⟩ := I
  rcases om_ix v1 (n := 3) (by decide) with h1 | ⟨p, hp, rfl⟩
  · exact om_xcopy1 h1 (om_ycopy1 h1 ⟨rfl, om_R R⟩)
  rcases om_ix v2 (n := 8) (by decide) with h2 | ⟨q, hq, rfl⟩
  · exact om_xcopy2 hp h2 (om_ycopy2 hp h2 ⟨rfl, om_R R⟩)
  rcases om_ix v3 (n := 8) (by decide) with h3 | ⟨t, ht, rfl⟩
  · exact om_xcopy3 hp hq h3 (om_ycopy3 hp hq h3 ⟨rfl, om_R R⟩)
  by_cases z : P (p * 8 + q) = 0
  · exact om_xcopy4 hp hq ht z (om_ycopy4 hp hq ht z ⟨rfl, om_R R⟩)
  · exact om_xcopy5 hp hq ht z (om_ycopy5 hp hq ht z ⟨rfl, om_R R⟩)
theorem i_vc_send {k : Nat} {u : SX} {v : SY} (I : i_Rel k u v) (hk : k + 5 ≤ 2560) (v1 : Int32) (v2 : Int32) (v3 : Int32) (v4 : Int32) : wpX_send (fun r u' => wpY_send (fun r' v' => r' = r ∧ i_Rel (k + 5) u' v') v v1 v2 v3 v4) u v1 v2 v3 v4 := by
  obtain ⟨P, W, L, T, SM, SW, O, C, IX, PX, MX, IY, PY, MY, rfl, rfl, R⟩ := I
  rcases om_ix v1 (n := 3) (by decide) with h1 | ⟨p, hp, rfl⟩
  · exact om_xsend1 h1 (om_ysend1 h1 ⟨rfl, om_R R⟩)
  rcases om_ix v2 (n := 3) (by decide) with h2 | ⟨q, hq, rfl⟩
  · exact om_xsend2 hp h2 (om_ysend2 hp h2 ⟨rfl, om_R R⟩)
  obtain ⟨o, c, ho3, hc3, ho, hc, hJ⟩ := R q hq
  by_cases e3 : c = 3
  · exact om_xsend3 hp hq hc e3 (om_ysend3 hp hq hc e3 ⟨rfl, om_R R⟩)
  have hc' : c < 3 := by omega
  obtain ⟨f, hf8, hf⟩ := pk_andE v4 (m := 7) 3 (by decide)
  obtain ⟨n, hn4, hn⟩ := pk_andE (v4 >>> ((3 : Int32) &&& 31)) (m := 3) 2 (by decide)
  by_cases hg : f + n ≤ 8
  · by_cases hz : om_cnt P n (p * 8 + f) = n
    · exact om_xsend6 hp hq hc hc' hf hn hf8 hn4 ho ho3 hg hz (om_ysend6 hp hq hc hc' hf hn hf8 hn4 hg hz ⟨rfl, om_R (om_Qsend (fun i => W (p * 32 + f * 4 + i)) R hq ho3 hc' (by omega) ho hJ)⟩)
    · exact om_xsend5 hp hq hc hc' hf hn hf8 hn4 hg hz (om_ysend5 hp hq hc hc' hf hn hf8 hn4 hg hz ⟨rfl, om_R R⟩)
  · exact om_xsend4 hp hq hc hc' hf hn hf8 hn4 (by omega) (om_ysend4 hp hq hc hc' hf hn hf8 hn4 (by omega) ⟨rfl, om_R R⟩)
theorem i_vc_receive {k : Nat} {u : SX} {v : SY} (I : i_Rel k u v) (hk : k + 5 ≤ 2560) (v1 : Int32) (v2 : Int32) (v3 : Int32) : wpX_receive (fun r u' => wpY_receive (fun r' v' => r' = r ∧ i_Rel (k + 5) u' v') v v1 v2 v3) u v1 v2 v3 := by
  obtain ⟨P, W, L, T, SM, SW, O, C, IX, PX, MX, IY, PY, MY, rfl, rfl, R⟩ := I
  rcases om_ix v1 (n := 3) (by decide) with h1 | ⟨p, hp, rfl⟩
  · exact om_xreceive1 h1 (om_yreceive1 h1 ⟨rfl, om_R R⟩)
  rcases om_ix v2 (n := 3) (by decide) with h2 | ⟨q, hq, rfl⟩
  · exact om_xreceive2 hp h2 (om_yreceive2 hp h2 ⟨rfl, om_R R⟩)
  obtain ⟨o, c, ho3, hc3, ho, hc, hJ⟩ := R q hq
  match c, hc3, hc, hJ with
  | 0, _, hc, _ => exact om_xreceive3 hp hq hc (om_yreceive3 hp hq hc ⟨rfl, om_R R⟩)
  | c + 1, hc3, hc, hJ =>
    obtain ⟨n, hn3, hPX, hPY, hI, hM⟩ := hJ 0 (by omega)
    rcases om_ix v3 (n := 8) (by decide) with h3 | ⟨f, hf, rfl⟩
    · exact om_xreceive4 hp hq hc hc3 ho ho3 hn3 hPX h3 (om_yreceive4 hp hq hc hc3 hn3 hPY h3 ⟨rfl, om_R R⟩)
    by_cases hg : f + n ≤ 8
    · by_cases hz : om_cnt P n (p * 8 + f) = 0
      · refine om_xreceive7 hp hq hc hc3 ho ho3 hn3 hPX hf hg hz (om_yreceive7 hp hq hc hc3 hn3 hPY hf hg hz ⟨rfl, om_R2 ?_ ?_ (om_Qrecv R hq ho3 hc3 hJ)⟩)
        · refine om_itc _ _ _ (fun k _ hk => funext fun a => ?_)
          show upd a _ _ = upd a _ _
          rw [hM k (by omega)]
          rfl
        · rw [hI]
          rfl
      · exact om_xreceive6 hp hq hc hc3 ho ho3 hn3 hPX hf hg hz (om_yreceive6 hp hq hc hc3 hn3 hPY hf hg hz ⟨rfl, om_R R⟩)
    · exact om_xreceive5 hp hq hc hc3 ho ho3 hn3 hPX hf (by omega) (om_yreceive5 hp hq hc hc3 hn3 hPY hf (by omega) ⟨rfl, om_R R⟩)
theorem i_vc_drain {k : Nat} {u : SX} {v : SY} (I : i_Rel k u v) (hk : k + 5 ≤ 2560) (v1 : Int32) : wpX_drain (fun r u' => wpY_drain (fun r' v' => r' = r ∧ i_Rel (k + 5) u' v') v v1) u v1 := by
  obtain ⟨P, W, L, T, SM, SW, O, C, IX, PX, MX, IY, PY, MY, rfl, rfl, R⟩ := I
  rcases om_ix v1 (n := 3) (by decide) with h1 | ⟨p, hp, rfl⟩
  · exact om_xdrain1 h1 (om_ydrain1 h1 ⟨rfl, om_R R⟩)
  · exact om_xdrain2 hp (om_ydrain2 hp ⟨rfl, om_R (om_Qdrain R hp)⟩)
theorem i_vc_snapshot {k : Nat} {u : SX} {v : SY} (I : i_Rel k u v) (hk : k + 5 ≤ 2560) (v1 : Int32) : wpX_snapshot (fun r u' => wpY_snapshot (fun r' v' => r' = r ∧ i_Rel (k + 5) u' v') v v1) u v1 := by
  obtain ⟨P, W, L, T, SM, SW, O, C, IX, PX, MX, IY, PY, MY, rfl, rfl, R⟩ := I
  rcases om_ix v1 (n := 3) (by decide) with h1 | ⟨p, hp, rfl⟩
  · exact om_xsnapshot1 h1 (om_ysnapshotB h1 ⟨rfl, om_R R⟩)
  · exact om_xsnapshot2 hp (om_ysnapshotR hp ⟨rfl, om_R R⟩)
theorem i_vc_rollBack {k : Nat} {u : SX} {v : SY} (I : i_Rel k u v) (hk : k + 5 ≤ 2560) (v1 : Int32) : wpX_rollBack (fun r u' => wpY_rollBack (fun r' v' => r' = r ∧ i_Rel (k + 5) u' v') v v1) u v1 := by
  obtain ⟨P, W, L, T, SM, SW, O, C, IX, PX, MX, IY, PY, MY, rfl, rfl, R⟩ := I
  rcases om_ix v1 (n := 3) (by decide) with h1 | ⟨p, hp, rfl⟩
  · exact om_xrollBack1 h1 (om_yrollBackB h1 ⟨rfl, om_R R⟩)
  by_cases z : T p = 0
  · exact om_xrollBack2 hp z (om_yrollBackN hp z ⟨rfl, om_R R⟩)
  · exact om_xrollBack3 hp z (om_yrollBackR hp z ⟨rfl, om_R R⟩)
theorem i_vc_exit {k : Nat} {u : SX} {v : SY} (I : i_Rel k u v) (hk : k + 5 ≤ 2560) (v1 : Int32) : wpX_exit (fun r u' => wpY_exit (fun r' v' => r' = r ∧ i_Rel (k + 5) u' v') v v1) u v1 := by
  obtain ⟨P, W, L, T, SM, SW, O, C, IX, PX, MX, IY, PY, MY, rfl, rfl, R⟩ := I
  rcases om_ix v1 (n := 3) (by decide) with h1 | ⟨p, hp, rfl⟩
  · exact om_xexit1 h1 (om_yexitB h1 ⟨rfl, om_R R⟩)
  · exact om_xexit2 hp (om_yexitR hp ⟨rfl, om_R R⟩)
theorem i_vc_read {k : Nat} {u : SX} {v : SY} (I : i_Rel k u v) (hk : k + 5 ≤ 2560) (v1 : Int32) (v2 : Int32) : wpX_read (fun r => wpY_read (fun r' => r' = r ∧ i_Rel (k + 5) u v) v v1 v2) u v1 v2 := by
  obtain ⟨P, W, L, T, SM, SW, O, C, IX, PX, MX, IY, PY, MY, rfl, rfl, R⟩ := I
  rcases om_ix v1 (n := 3) (by decide) with h1 | ⟨p, hp, rfl⟩
  · exact om_xread1 h1 (om_yread1 h1 ⟨rfl, om_R R⟩)
  rcases om_ix v2 (n := 32) (by decide) with h2 | ⟨q, hq, rfl⟩
  · exact om_xread2 hp h2 (om_yread2 hp h2 ⟨rfl, om_R R⟩)
  by_cases z : P (p * 8 + q / 4) = 0
  · exact om_xread3 hp hq z (om_yread3 hp hq z ⟨rfl, om_R R⟩)
  · exact om_xread4 hp hq z (om_yread4 hp hq z ⟨rfl, om_R R⟩)
theorem i_vc_mapped {k : Nat} {u : SX} {v : SY} (I : i_Rel k u v) (hk : k + 5 ≤ 2560) (v1 : Int32) (v2 : Int32) : wpX_mapped (fun r => wpY_mapped (fun r' => r' = r ∧ i_Rel (k + 5) u v) v v1 v2) u v1 v2 := by
  obtain ⟨P, W, L, T, SM, SW, O, C, IX, PX, MX, IY, PY, MY, rfl, rfl, R⟩ := I
  rcases om_ix v1 (n := 3) (by decide) with h1 | ⟨p, hp, rfl⟩
  · exact om_xmapped1 h1 (om_ymapped1 h1 ⟨rfl, om_R R⟩)
  rcases om_ix v2 (n := 8) (by decide) with h2 | ⟨q, hq, rfl⟩
  · exact om_xmapped2 hp h2 (om_ymapped2 hp h2 ⟨rfl, om_R R⟩)
  by_cases z : P (p * 8 + q) = 0
  · exact om_xmapped3 hp hq z (om_ymapped3 hp hq z ⟨rfl, om_R R⟩)
  · exact om_xmapped4 hp hq z (om_ymapped4 hp hq z ⟨rfl, om_R R⟩)
theorem i_vc_lastWord {k : Nat} {u : SX} {v : SY} (I : i_Rel k u v) (hk : k + 5 ≤ 2560) (v1 : Int32) : wpX_lastWord (fun r => wpY_lastWord (fun r' => r' = r ∧ i_Rel (k + 5) u v) v v1) u v1 := by
  obtain ⟨P, W, L, T, SM, SW, O, C, IX, PX, MX, IY, PY, MY, rfl, rfl, R⟩ := I
  rcases om_ix v1 (n := 3) (by decide) with h1 | ⟨p, hp, rfl⟩
  · exact om_xlastWord1 h1 (om_ylastWord1 h1 ⟨rfl, om_R R⟩)
  · exact om_xlastWord2 hp (om_ylastWord2 hp ⟨rfl, om_R R⟩)
theorem i_vc_waiting {k : Nat} {u : SX} {v : SY} (I : i_Rel k u v) (hk : k + 5 ≤ 2560) (v1 : Int32) : wpX_waiting (fun r => wpY_waiting (fun r' => r' = r ∧ i_Rel (k + 5) u v) v v1) u v1 := by
  obtain ⟨P, W, L, T, SM, SW, O, C, IX, PX, MX, IY, PY, MY, rfl, rfl, R⟩ := I
  rcases om_ix v1 (n := 3) (by decide) with h1 | ⟨p, hp, rfl⟩
  · exact om_xwaiting1 h1 (om_ywaiting1 h1 ⟨rfl, om_R R⟩)
  · exact om_xwaiting2 hp (om_ywaiting2 hp ⟨rfl, om_R R⟩)
