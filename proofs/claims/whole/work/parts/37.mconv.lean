/-! LAYER 2: convert of the model. -/
/-- text t's signs are hs -/
def sgW (m : Nat → Nat → Int32) (t n : Nat) (hs : Nat → Int32) : Nat → Nat → Int32 := fun c k => if c = 1 ∧ 60 * t ≤ k ∧ k < 60 * t + n then hs (k - 60 * t) else m c k
theorem sgW_o {m : Nat → Nat → Int32} {t n c : Nat} {hs : Nat → Int32} (hc : c ≠ 1) (k : Nat) : sgW m t n hs c k = m c k := if_neg (fun q => hc q.1)
theorem sgW_i {m : Nat → Nat → Int32} {t n q : Nat} {hs : Nat → Int32} (hq : q < n) : sgW m t n hs 1 (60 * t + q) = hs q := by
  unfold sgW
  rw [if_pos ⟨rfl, by omega, by omega⟩, Nat.add_sub_cancel_left]
theorem sgW_u {m : Nat → Nat → Int32} {t n q : Nat} {hs : Nat → Int32} {v : Int32} (hq : q < n) : u2 (sgW m t n hs) 1 (60 * t + q) v = sgW m t n (u1 hs q v) := by
  funext c k
  unfold u2 sgW u1
  by_cases hc : c = 1
  · by_cases hk : k = 60 * t + q
    · have h1 : 60 * t ≤ k ∧ k < 60 * t + n := by omega
      have h2 : k - 60 * t = q := by omega
      rw [if_pos ⟨hc, hk⟩, if_pos ⟨hc, h1⟩, if_pos h2]
    · by_cases h1 : 60 * t ≤ k ∧ k < 60 * t + n
      · have h2 : ¬ k - 60 * t = q := by omega
        rw [if_neg (fun z => hk z.2), if_pos ⟨hc, h1⟩, if_pos ⟨hc, h1⟩, if_neg h2]
      · rw [if_neg (fun z => hk z.2), if_neg (fun z => h1 z.2), if_neg (fun z => h1 z.2)]
  · rw [if_neg (fun z => hc z.1), if_neg (fun z => hc z.1), if_neg (fun z => hc z.1)]
theorem sgW_s {m : Nat → Nat → Int32} {t n : Nat} {hs : Nat → Int32} (h : ∀ k, k < n → m 1 (60 * t + k) = hs k) : sgW m t n hs = m := by
  funext c k
  unfold sgW
  by_cases hc : c = 1 ∧ 60 * t ≤ k ∧ k < 60 * t + n
  · rw [if_pos hc, ← h (k - 60 * t) (by omega), hc.1, show 60 * t + (k - 60 * t) = k by omega]
  · rw [if_neg hc]
theorem rmb_2 (m : Nat → Nat → Int32) {k : Nat} (h : k < 2400) : rmb m 2400 2 k = m 1 k := if_pos ⟨rfl, h⟩
theorem rmb_o {m : Nat → Nat → Int32} {c : Nat} (h : c ≠ 2) (k : Nat) : rmb m 2400 c k = m c k := if_neg (fun q => h q.1)
theorem mX_rmb {m : Nat → Nat → Int32} {i n : Nat} {f : Nat → Int32} (h : mX m 1 i n f) : mX (rmb m 2400) 2 i n f :=
  ⟨h.1, by rw [rmb_o (by decide)]; exact h.2.1, h.2.2.1, fun k hk => by rw [rmb_2 m (by have := h.1; have := h.2.2.1; omega)]; exact h.2.2.2 k hk⟩
theorem mX_sgW {m : Nat → Nat → Int32} {t n i n' : Nat} {hs g : Nat → Int32} (h : mX m 2 i n' g) : mX (sgW m t n hs) 2 i n' g :=
  ⟨h.1, by rw [sgW_o (by decide)]; exact h.2.1, h.2.2.1, fun k hk => by rw [sgW_o (by decide)]; exact h.2.2.2 k hk⟩
/-- places one after the other: a sign that is among gf becomes gt's -/
noncomputable def cvt (f gf gt : Nat → Int32) (mf : Nat) : Nat → Nat → (Nat → Int32) → Nat → Nat × (Nat → Int32)
  | 0, _, hs, c => (c, hs)
  | d + 1, q, hs, c => if lf (fun j => gf j = f q) mf 0 = mf then cvt f gf gt mf d (q + 1) hs c else cvt f gf gt mf d (q + 1) (u1 hs q (gt (lf (fun j => gf j = f q) mf 0))) (c + 1)
theorem cvt_b (f gf gt : Nat → Int32) (mf : Nat) : ∀ d q hs c, (cvt f gf gt mf d q hs c).1 ≤ c + d
  | 0, q, hs, c => Nat.le_refl _
  | d + 1, q, hs, c => by
    unfold cvt
    split
    · have := cvt_b f gf gt mf d (q + 1) hs c
      omega
    · have := cvt_b f gf gt mf d (q + 1) (u1 hs q (gt (lf (fun j => gf j = f q) mf 0))) (c + 1)
      omega
/-- a search from the back: the next place -/
theorem lf_b {P : Nat → Prop} {n i : Nat} (h : i < n) : lf P (n - i) i = @ite _ (P i) (Classical.propDecidable _) i (lf P (n - (i + 1)) (i + 1)) := by
  have e : n - i = (n - (i + 1)) + 1 := by omega
  rw [e]
  rfl
def cvOk (N : Nat) (z : Nat → Nat) (x y w : Int32) : Prop := ∃ t i j, (t < N ∧ x = nI t) ∧ (i < N ∧ y = nI i) ∧ (j < N ∧ w = nI j) ∧ z i = z j
section MC
variable {σ : iS} {M : Nat} {s : Nat → Int32} {m : Nat → Nat → Int32} {Q : iO → iS → Prop} {N : Nat} {z : Nat → Nat}
theorem m_convert1 (hm : mS σ M) (hz : mZ s m N z) {x y w : Int32} (hx : ¬ cvOk N z x y w) (h : Q (.inl (some (vi 0))) (mw σ M (u1 s 320 1) m)) : ca J_M_convert [vr M, vi x, vi y, vi w] (mw σ M s m) Q := by
  have hN := hz.2.1
  have bad : wp J_M_convert 40 [vr M, vi x, vi y, vi w, vl 0, vl 0, vl 0, vl 0, vl 0, vl 0] [vr M] (mw σ M s m) Q := b_M_convert_40 (b_M_convert_45 ⟨hm.1, m_fails1 hm (by decide) ⟨fun c => c_10 c, fun _ => h⟩⟩)
  refine b_M_convert_0 ⟨hm.1, m_isText hm hz.1 hN ⟨fun _ => bad, fun c1 => ⟨hm.1, m_isText hm hz.1 hN ⟨fun _ => bad, fun c2 => ⟨hm.1, m_isText hm hz.1 hN ⟨fun _ => bad, fun c3 => ⟨hm.1, ?_⟩⟩⟩⟩⟩⟩⟩
  rw [bP_0] at c1 c2 c3
  obtain ⟨t, ht, rfl⟩ := Classical.not_not.mp c1
  obtain ⟨i, hi, rfl⟩ := Classical.not_not.mp c2
  obtain ⟨j, hj, rfl⟩ := Classical.not_not.mp c3
  rw [r_323 hm, k_323 hm, n_323 hm, a_323, a_323, nI_clamp (by omega), nI_clamp (by omega), (hz.2.2 i hi).1, (hz.2.2 j hj).1]
  have z1 := (hz.2.2 i hi).2
  have z2 := (hz.2.2 j hj).2
  rw [n_eq (by omega) (by omega)]
  exact ⟨⟨rfl, n_in (by omega) (by decide)⟩, hm.1, ⟨rfl, n_in (by omega) (by decide)⟩, fun e => absurd ⟨t, i, j, ⟨ht, rfl⟩, ⟨hi, rfl⟩, ⟨hj, rfl⟩, e⟩ hx, fun _ => bad⟩
variable {t i j n mf : Nat} {f gf gt : Nat → Int32}
theorem m_convL (hm : mS σ M) (ht : mX m 2 t n f) (hi : mX m 2 i mf gf) (hj : mX m 2 j mf gt) {b e : Nat} (he : e ≤ n) {x4 : Int32} {l8 l9 : iV} : ∀ d q hs c, d = e - q → c ≤ q → q ≤ 60 → Q (.inl (some (vi (nI (cvt f gf gt mf d q hs c).1)))) (mw σ M s (sgW m t n (cvt f gf gt mf d q hs c).2)) → ∀ l8 l9 : iV, wp J_M_convert 97 [vr M, vi (nI t), vi (nI i), vi (nI j), vi x4, vi (nI e), vi (nI c), vi (nI q), l8, l9] [] (mw σ M s (sgW m t n hs)) Q := by
  obtain ⟨t1, t2, t3, t4⟩ := id ht
  obtain ⟨i1, i2, i3, i4⟩ := id hi
  obtain ⟨j1, j2, j3, j4⟩ := id hj
  intro d
  induction d with
  | zero =>
    intro q hs c hd hc hq h l8 l9
    refine b_M_convert_97 ⟨fun _ => h, fun c => ?_⟩
    rw [n_le (by omega) (by omega)] at c
    omega
  | succ d ih =>
    intro q hs c hd hc hq h l8 l9
    refine b_M_convert_97 ⟨fun c => ?_, fun _ => ⟨hm.1, ?_⟩⟩
    · rw [n_le (by omega) (by omega)] at c
      omega
    · rw [r_323 hm, k_323 hm, n_323 hm, a_323, nI_clamp (by omega), sgW_o (by decide), i2]
      refine ⟨⟨rfl, n_in (by omega) (by decide)⟩, ?_⟩
      have back : ∀ k, k ≤ mf → wp J_M_convert 117 [vr M, vi (nI t), vi (nI i), vi (nI j), vi x4, vi (nI e), vi (nI c), vi (nI q), vi (en mf (lf (fun j => gf j = f q) (mf - k) k)), vi (nI k - 1)] [] (mw σ M s (sgW m t n hs)) Q := by
        intro k
        induction k with
        | zero =>
          intro _
          rw [show nI 0 - 1 = -1 by decide +kernel, Nat.sub_zero]
          refine b_M_convert_117 ⟨fun _ => ⟨fun c2 => ⟨hm.1, hm.1, ?_⟩, fun c2 => b_M_convert_200 ?_⟩, fun c => absurd (by decide) c⟩
          · have hl := lf_le (fun j => gf j = f q) mf 0
            by_cases e1 : lf (fun j => gf j = f q) mf 0 = mf
            · rw [e1, en_N] at c2; exact absurd rfl c2
            · rw [en_r e1, r_322 hm, k_322 hm, n_322 hm, r_321 hm, k_321 hm, n_321 hm, lit_60, n_mul, n_mul, nI_add, nI_add, nI_clamp (by omega), nI_clamp (by omega), a_322, sgW_o (by decide), j4 _ (by omega), w_321, sgW_u (by omega), n_s1]
              refine ⟨⟨rfl, n_in (by omega) (by decide)⟩, ⟨rfl, n_in (by omega) (by decide)⟩, fun σ3 h3 => b_M_convert_200 ?_⟩
              subst h3
              rw [n_s1]
              refine ih (q + 1) _ (c + 1) (by omega) (by omega) (by omega) ?_ _ _
              unfold cvt at h
              rw [if_neg e1] at h
              exact h
          · have hl := lf_le (fun j => gf j = f q) mf 0
            by_cases e1 : lf (fun j => gf j = f q) mf 0 = mf
            · rw [n_s1]
              refine ih (q + 1) _ c (by omega) (by omega) (by omega) ?_ _ _
              unfold cvt at h
              rw [if_pos e1] at h
              exact h
            · rw [en_r e1] at c2
              exact absurd (n_m1 (by omega)) c2
        | succ k ihk =>
          intro hk
          have hb := ihk (by omega)
          rw [nI_pred]
          refine b_M_convert_117 ⟨fun c2 => absurd c2 (nI_pos (by omega)), fun _ => ⟨hm.1, ?_⟩⟩
          rw [r_322 hm, k_322 hm, n_322 hm, lit_60, n_mul, n_mul, nI_add, nI_add, nI_clamp (by omega), nI_clamp (by omega), a_322, a_322, sgW_o (by decide), sgW_o (by decide), i4 k (by omega), t4 q (by omega)]
          refine ⟨⟨rfl, n_in (by omega) (by decide)⟩, hm.1, ⟨rfl, n_in (by omega) (by decide)⟩, fun c2 => b_M_convert_156 ?_, fun c2 => b_M_convert_156 ?_⟩
          · rw [lf_b (by omega), if_neg c2] at hb
            rw [show nI k + (-1 : Int32) = nI k - 1 by rw [Int32.sub_eq_add_neg]]
            exact hb
          · rw [lf_b (by omega), if_pos (Classical.not_not.mp c2), en_r (by omega)] at hb
            rw [show nI k + (-1 : Int32) = nI k - 1 by rw [Int32.sub_eq_add_neg]]
            exact hb
      have h0 := back mf (Nat.le_refl _)
      rw [Nat.sub_self, lf_0, en_N] at h0
      exact h0
variable {oa ob : Bool} {na nb : Nat} {ga gb : Nat → Int32}
theorem m_convert0 (hm : mS σ M) (hz : mZ s m N z) (ht : t < N) (hi : i < N) (hj : j < N) (he : z i = z j) (hft : mX m 1 t n f) (hfi : mX m 1 i mf gf) (hfj : mX m 1 j mf gt) (ha : mO' (rmb m 2400) 2 (s 325) oa na ga) (hb : mO' (rmb m 2400) 2 (s 326) ob nb gb)
    (h : Q (.inl (some (vi (nI (cvt f gf gt mf (re f n ob gb nb - rb f n oa ga na) (rb f n oa ga na) f 0).1)))) (mw σ M (u1 (u1 (u1 s 320 0) 325 (-1)) 326 (-1)) (sgW (rmb m 2400) t n (cvt f gf gt mf (re f n ob gb nb - rb f n oa ga na) (rb f n oa ga na) f 0).2))) : ca J_M_convert [vr M, vi (nI t), vi (nI i), vi (nI j)] (mw σ M s m) Q := by
  have hN := hz.2.1
  have yes : ∀ a, a < N → ∀ {P : Prop}, bP (∃ j, j < N ∧ nI a = nI j) = 0 → P := fun a ha P c => by
    rw [bP_t ⟨a, ha, rfl⟩] at c
    exact c_10 c
  refine b_M_convert_0 ⟨hm.1, m_isText hm hz.1 hN ⟨fun c => yes t ht c, fun _ => ⟨hm.1, m_isText hm hz.1 hN ⟨fun c => yes i hi c, fun _ => ⟨hm.1, m_isText hm hz.1 hN ⟨fun c => yes j hj c, fun _ => ⟨hm.1, ?_⟩⟩⟩⟩⟩⟩⟩
  have z1 := (hz.2.2 i hi).2
  have z2 := (hz.2.2 j hj).2
  rw [r_323 hm, k_323 hm, n_323 hm, a_323, a_323, nI_clamp (by omega), nI_clamp (by omega), (hz.2.2 i hi).1, (hz.2.2 j hj).1, n_eq (by omega) (by omega)]
  refine ⟨⟨rfl, n_in (by omega) (by decide)⟩, hm.1, ⟨rfl, n_in (by omega) (by decide)⟩, fun _ => ?_, fun c => absurd he c⟩
  refine b_M_convert_45 ⟨hm.1, m_fails0 hm ⟨fun _ => ⟨hm.1, m_remember hm ⟨hm.1, hm.1, ?_⟩⟩, fun c => absurd rfl c⟩⟩
  have e1 : (u1 s 320 0) 325 = s 325 := u1_o (by decide)
  have e2 : (u1 s 320 0) 326 = s 326 := u1_o (by decide)
  rw [mw_i, e1]
  refine m_beginOf hm (mX_rmb hft) ha ⟨hm.1, hm.1, ?_⟩
  rw [mw_i, e2]
  refine m_endOf hm (mX_rmb hft) hb ⟨hm.1, fun σ6 h6 => ?_⟩
  subst h6
  rw [mw_wi]
  refine ⟨hm.1, fun σ7 h7 => ?_⟩
  subst h7
  rw [mw_wi]
  have hr := rb_le f n oa ga na
  have hr2 := re_le f n ob gb nb
  have hn := hft.2.2.1
  have hst : sgW (rmb m 2400) t n f = rmb m 2400 := sgW_s (fun k hk => by rw [rmb_o (by decide)]; exact hft.2.2.2 k hk)
  have h0 := m_convL (s := u1 (u1 (u1 s 320 0) 325 (-1)) 326 (-1)) (Q := Q) (b := 0) (x4 := nI (rb f n oa ga na)) (l8 := vl 0) (l9 := vl 0) hm (mX_rmb hft) (mX_rmb hfi) (mX_rmb hfj) hr2 (re f n ob gb nb - rb f n oa ga na) (rb f n oa ga na) f 0 rfl (Nat.zero_le _) (by omega) h (vl 0) (vl 0)
  rw [hst] at h0
  exact h0
end MC
