/-! the law's cases: what holds behind both calls -/
theorem xAt.kept {cJ cS : ClassId} {ws w : va_W} {b : Nat} {A : Nat → Nat} {N : Nat} {sf : Nat → Option Nat} {K B : Nat → Nat → Int64} {E : Nat → Int32} {Km Bm : Nat → Int64} {Em : Int32} {Lf Tr nu ne : Nat → Int64} {ct : Int32} {x y : Nat} (h : xAt cJ cS ws b A N sf K B E Km Bm Em Lf Tr nu ne ct) (hf : gF x y ws w) (ho : b + 53 ≤ x ∨ y ≤ b) : xAt cJ cS w b A N sf K B E Km Bm Em Lf Tr nu ne ct := by
  obtain ⟨h1, h2, h3, h4, h5, h6, h7, h8, h9⟩ := h
  exact ⟨hf.at h1 (by omega), hf.at h2 (by omega), h3, h4.kept hf (by omega), h5.kept hf (by omega), h6.kept hf (by omega), h7.kept hf (by omega), hf.at h8 (by omega), hf.at h9 (by omega)⟩
theorem mS.obj {cJ cI cZ : ClassId} {w : va_W} {b N nm : Nat} {A : Nat → Nat} {th : Int32} {R Pt nC : Nat → Int64} {Em nA nB : Nat → Int32} (h : mS cJ cI cZ w b A N th nm R Em Pt nA nB nC) : w[b]? = some (mObj A N th nm) := by
  obtain ⟨D, O, Md, Lf, h⟩ := h
  exact h.1
def LX (cJ cI cZ cS : ClassId) (A A2 : Nat → Nat) (o N : Nat) (sf : Nat → Option Nat) (w : va_W) (K B : Nat → Nat → Int64) (E : Nat → Int32) (Km Bm : Nat → Int64) (Em : Int32) (Lf Tr nu ne : Nat → Int64) (m1 : Nat) (th : Int32) (R : Nat → Int64) (EM : Nat → Int32) (Pt : Nat → Int64) (nA nB : Nat → Int32) (nC : Nat → Int64) : Prop := xAt cJ cS w 0 A N sf K B E Km Bm Em Lf Tr nu ne (nI m1) ∧ mS cJ cI cZ w 53 A2 N th m1 R EM Pt nA nB nC ∧ (∃ f, w[64]? = some (o, .inl (cJ, 1, .inr (.inl f)))) ∧ iv_A N K B E R EM ∧ iv_P N nu Pt ∧ iv_N m1 ne nA nB nC ∧ (Em = 0 ∨ Em = 1) ∧ m1 ≤ 2 * (N * N)
def LI (cJ cI cZ cS : ClassId) (A A2 : Nat → Nat) (o N : Nat) (sf : Nat → Option Nat) (w : va_W) : Prop := ∃ (K B : Nat → Nat → Int64) (E : Nat → Int32) (Km Bm : Nat → Int64) (Em : Int32) (Lf Tr nu ne : Nat → Int64) (m1 : Nat) (th : Int32) (R : Nat → Int64) (EM : Nat → Int32) (Pt : Nat → Int64) (nA nB : Nat → Int32) (nC : Nat → Int64), LX cJ cI cZ cS A A2 o N sf w K B E Km Bm Em Lf Tr nu ne m1 th R EM Pt nA nB nC
def LQ0 (cJ cI cZ cS : ClassId) (A A2 : Nat → Nat) (o N : Nat) (sf : Nat → Option Nat) (w : va_W) (r : Int32) : Prop := (∃ nm, w[53]? = some (mObj A2 N r nm)) ∧ LI cJ cI cZ cS A A2 o N sf w
def LQ (cJ cI cZ cS : ClassId) (A A2 : Nat → Nat) (o N : Nat) (sf : Nat → Option Nat) (w : va_W) (r : Int32) (v : Int64) : Prop := LQ0 cJ cI cZ cS A A2 o N sf w r ∧ ∃ f, w[64]? = some (o, .inl (cJ, 1, .inr (.inl f))) ∧ (r = nI 0 → f 0 = v)
section LQs
variable {cJ cI cZ cS : ClassId} {A A2 : Nat → Nat} {o N : Nat} {sf : Nat → Option Nat} {w1 w2 : va_W} {r th' : Int32} {K B : Nat → Nat → Int64} {E : Nat → Int32} {Km Bm : Nat → Int64} {Em : Int32} {Lf Tr nu ne : Nat → Int64} {m1 : Nat} {R : Nat → Int64} {EM : Nat → Int32} {Pt : Nat → Int64} {nA nB : Nat → Int32} {nC : Nat → Int64} {f : Nat → Int64} {v : Int64}
theorem lq0_of (hx : xAt cJ cS w1 0 A N sf K B E Km Bm Em Lf Tr nu ne (nI m1)) (hM : mS cJ cI cZ w2 53 A2 N th' m1 R EM Pt nA nB nC) (ho : w1[64]? = some (o, .inl (cJ, 1, .inr (.inl f)))) (hf : gF 53 (53 + 11) w1 w2) (hA : iv_A N K B E R EM) (hP : iv_P N nu Pt) (hNe : iv_N m1 ne nA nB nC) (hEm : Em = 0 ∨ Em = 1) (hm : m1 ≤ 2 * (N * N)) (hr : th' = r) : LQ0 cJ cI cZ cS A A2 o N sf w2 r :=
  ⟨⟨m1, by rw [← hr]; exact hM.obj⟩, K, B, E, Km, Bm, Em, Lf, Tr, nu, ne, m1, th', R, EM, Pt, nA, nB, nC, hx.kept hf (by omega), hM, ⟨f, hf.at ho (by omega)⟩, hA, hP, hNe, hEm, hm⟩
theorem lq_of (hx : xAt cJ cS w1 0 A N sf K B E Km Bm Em Lf Tr nu ne (nI m1)) (hM : mS cJ cI cZ w2 53 A2 N th' m1 R EM Pt nA nB nC) (ho : w1[64]? = some (o, .inl (cJ, 1, .inr (.inl f)))) (hf : gF 53 (53 + 11) w1 w2) (hA : iv_A N K B E R EM) (hP : iv_P N nu Pt) (hNe : iv_N m1 ne nA nB nC) (hEm : Em = 0 ∨ Em = 1) (hm : m1 ≤ 2 * (N * N)) (hr : th' = r) (hv : r = nI 0 → f 0 = v) : LQ cJ cI cZ cS A A2 o N sf w2 r v :=
  ⟨lq0_of hx hM ho hf hA hP hNe hEm hm hr, f, hf.at ho (by omega), hv⟩
end LQs
theorem cd1 : cd_1 xIOOB = nI 1 := if_pos rfl
theorem cd12a : cd_12 xIOOB = nI 1 := if_pos rfl
theorem cd12b : cd_12 xIAE = nI 2 := if_neg (by decide)
theorem cd13a : cd_13 xIOOB = nI 1 := if_pos rfl
theorem cd13b : cd_13 xARI = nI 2 := if_neg (by decide)
theorem cd123a : cd_123 xIOOB = nI 1 := if_pos rfl
theorem cd123b : cd_123 xIAE = nI 2 := (if_neg (by decide)).trans (if_pos rfl)
theorem cd123c : cd_123 xARI = nI 3 := (if_neg (by decide)).trans (if_neg (by decide))
theorem n10 : ¬ nI 1 = nI 0 := by decide
theorem n20 : ¬ nI 2 = nI 0 := by decide
theorem n30 : ¬ nI 3 = nI 0 := by decide
theorem lr_clO_ex {K B : Nat → Int64} {n : Nat} {E : Int32} : ∃ K1 B1 E1, lr_clO K B n E K1 B1 E1 := by
  by_cases h : lr_okA (lr_copy K B (n * n)) n
  · exact ⟨_, _, _, Or.inl ⟨h, rfl, rfl, rfl⟩⟩
  · exact ⟨_, lr_allB B n, _, Or.inr ⟨h, rfl, ⟨B, rfl⟩, rfl⟩⟩
theorem lr_kbO_ex {K B : Nat → Int64} {n : Nat} {E : Int32} : ∃ K1, lr_kbO K B n E K1 := by
  by_cases h : E = 0
  · exact ⟨_, Or.inr ⟨h, rfl⟩⟩
  · exact ⟨_, Or.inl ⟨h, rfl⟩⟩
theorem lr_meetO_ex {K B B2 B3 : Nat → Int64} {n : Nat} {E2 E3 : Int32} : ∃ K1 B1 E1, lr_meetO K B n B2 E2 B3 E3 K1 B1 E1 := by
  by_cases h2 : E2 = 0
  · by_cases h3 : E3 = 0
    · obtain ⟨K0, B1, E1, h⟩ := lr_clO_ex (K := lr_symO (lr_gM B2 B3 n) n n (lr_all K n)) (B := lr_allB B n) (n := n) (E := nI 0)
      obtain ⟨K1, hk⟩ := lr_kbO_ex (K := K0) (B := B1) (n := n) (E := E1)
      exact ⟨K1, B1, E1, Or.inr ⟨h2, h3, K0, h, hk⟩⟩
    · exact ⟨_, _, _, Or.inl ⟨Or.inr h3, rfl, rfl, rfl⟩⟩
  · exact ⟨_, _, _, Or.inl ⟨Or.inl h2, rfl, rfl, rfl⟩⟩
theorem lr_joinO_ex {K B K2 B2 K3 B3 : Nat → Int64} {n : Nat} {E2 E3 : Int32} : ∃ K1 B1 E1, lr_joinO K B n K2 B2 E2 K3 B3 E3 K1 B1 E1 := by
  by_cases h2 : E2 = 0
  · by_cases h3 : E3 = 0
    · obtain ⟨K1, hk⟩ := lr_kbO_ex (K := lr_all K n) (B := lr_symO (lr_gJ B2 B3 n) n n (lr_allB B n)) (n := n) (E := nI 0)
      exact ⟨K1, _, _, Or.inr (Or.inr ⟨h2, h3, rfl, rfl, hk⟩)⟩
    · obtain ⟨K1, hk⟩ := lr_kbO_ex (K := lr_copy K2 K (n * n)) (B := lr_copy B2 B (n * n)) (n := n) (E := E2)
      exact ⟨K1, _, _, Or.inr (Or.inl ⟨h2, h3, _, ⟨rfl, rfl, rfl⟩, hk⟩)⟩
  · obtain ⟨K1, hk⟩ := lr_kbO_ex (K := lr_copy K3 K (n * n)) (B := lr_copy B3 B (n * n)) (n := n) (E := E3)
    exact ⟨K1, _, _, Or.inl ⟨h2, _, ⟨rfl, rfl, rfl⟩, hk⟩⟩
theorem lr_widO_ex {K B K2 B2 K3 B3 : Nat → Int64} {n : Nat} {E2 E3 : Int32} : ∃ K1 B1 E1, lr_widO K B n K2 B2 E2 K3 B3 E3 K1 B1 E1 := by
  by_cases h2 : E2 = 0
  · by_cases h3 : E3 = 0
    · obtain ⟨K1, B1, E1, h⟩ := lr_clO_ex (K := lr_symO (lr_gW K2 B3 n) n n (lr_all K n)) (B := lr_allB B n) (n := n) (E := nI 0)
      exact ⟨K1, B1, E1, Or.inr (Or.inr ⟨h2, h3, h⟩)⟩
    · exact ⟨_, _, _, Or.inr (Or.inl ⟨h2, h3, rfl, rfl, rfl⟩)⟩
  · exact ⟨_, _, _, Or.inl ⟨h2, rfl, rfl, rfl⟩⟩
theorem lr_narO_ex {K B K2 B2 B3 : Nat → Int64} {n : Nat} {E2 E3 : Int32} : ∃ K1 B1 E1, lr_narO K B n K2 B2 E2 B3 E3 K1 B1 E1 := by
  by_cases h2 : E2 = 0
  · by_cases h3 : E3 = 0
    · obtain ⟨K1, B1, E1, h⟩ := lr_clO_ex (K := lr_symO (lr_gN K2 B2 B3 n) n n (lr_all K n)) (B := lr_allB B n) (n := n) (E := nI 0)
      exact ⟨K1, B1, E1, Or.inr ⟨h2, h3, h⟩⟩
    · exact ⟨_, _, _, Or.inl ⟨Or.inr h3, rfl, rfl, rfl⟩⟩
  · exact ⟨_, _, _, Or.inl ⟨Or.inl h2, rfl, rfl, rfl⟩⟩
theorem lr_tkO_E {n : Nat} {Km Bm K B K1 B1 : Nat → Int64} {Em E1 r : Int32} (h : lr_tkO n Km Bm Em K B K1 B1 E1 r) : E1 = Em := h.2.1.2.2
theorem xAt.E01 {cJ cS : ClassId} {ws : va_W} {b : Nat} {A : Nat → Nat} {N : Nat} {sf : Nat → Option Nat} {K B : Nat → Nat → Int64} {E : Nat → Int32} {Km Bm : Nat → Int64} {Em : Int32} {Lf Tr nu ne : Nat → Int64} {ct : Int32} (h : xAt cJ cS ws b A N sf K B E Km Bm Em Lf Tr nu ne ct) {k : Nat} (hk : k < 8) : E k = 0 ∨ E k = 1 := (h.2.2.2.1 k hk).2
theorem lo_N {N k : Nat} (h1 : 1 ≤ k) (hk : k ≤ N) (hN : N ≤ 5) : okN N (nI k) := ⟨fun w => by
  have := (nI_ltI (a := k) (b := 1) (by omega) (by omega)).mp w; omega, (nI_leI (by omega) (by omega)).mpr hk⟩
theorem lo_A {N k k1 k2 : Nat} {x y z : Int32} (hk : k < 8) (a1 : 1 ≤ k1) (a2 : k1 ≤ N) (b1 : 1 ≤ k2) (b2 : k2 ≤ N) (hN : N ≤ 5) (e : x = nI k) (e1 : y = nI k1) (e2 : z = nI k2) (hne : ¬ k1 = k2) : okS x ∧ okN N y ∧ okN N z ∧ ¬ y = z := by
  rw [e, e1, e2]
  exact ⟨iv_S hk, lo_N a1 a2 hN, lo_N b1 b2 hN, fun w => hne (iv_8 (by omega) (by omega) w)⟩
set_option maxHeartbeats 1000000 in
theorem lo_all {cJ cI cZ cS : ClassId} {A A2 : Nat → Nat} {o N : Nat} {sf : Nat → Option Nat} {ws w1 : va_W} {r th : Int32} {K B : Nat → Nat → Int64} {E : Nat → Int32} {Km Bm : Nat → Int64} {Em : Int32} {Lf Tr nu ne : Nat → Int64} {m1 : Nat} {R : Nat → Int64} {EM : Nat → Int32} {Pt : Nat → Int64} {nA nB : Nat → Int32} {nC : Nat → Int64} {x : Int32} (hN1 : 1 ≤ N) (hN5 : N ≤ 5) (h : LX cJ cI cZ cS A A2 o N sf ws K B E Km Bm Em Lf Tr nu ne m1 th R EM Pt nA nB nC) (hw : (hq_v (fun w => okS x ∧ ∃ k, k < 8 ∧ x = nI k ∧ xAt cJ cS w 0 A N sf (va_up K k (lr_all (K k) (2 * N))) (va_up B k (lr_allB (B k) (2 * N))) (va_up E k (nI 0)) Km Bm Em Lf Tr nu ne (nI m1) ∧ gF 0 (0 + 53) ws w) (fun Z w => Z = xIOOB ∧ ¬ (okS x) ∧ w = ws) cd_1) r w1) : mS cJ cI cZ w1 53 A2 N th m1 R EM Pt nA nB nC ∧ ∀ w2, (fun w => (∃ th' R' E', ((¬ okS x ∧ th' = nI 1 ∧ R' = R ∧ E' = EM) ∨ (∃ k, k < 8 ∧ x = nI k ∧ th' = nI 0 ∧ R' = lm_none R k ∧ E' = upd (upd EM k (nI 1)) k (nI 0))) ∧ mS cJ cI cZ w 53 A2 N th' m1 R' E' Pt nA nB nC) ∧ gF 53 (53 + 11) w1 w) w2 → LQ0 cJ cI cZ cS A A2 o N sf w2 r := by
  obtain ⟨hx0, hM, ⟨f, ho⟩, hA, hP, hNe, hEm, hm⟩ := h
  rcases hw with ⟨rfl, hcp⟩ | ⟨Z, ⟨rfl, n1, rfl⟩, rfl⟩
  · obtain ⟨_, k, hk, rfl, h3, h4⟩ := hcp
    refine ⟨hM.kept h4 (by omega), fun w2 hp => ?_⟩
    obtain ⟨⟨th', R', E', q1, q2⟩, q3⟩ := hp
    rcases q1 with ⟨n1, _⟩ | ⟨k', hk', e, rfl, rfl, rfl⟩
    · exact absurd (iv_S hk) n1
    · rw [← iv_8 hk hk' e] at q2
      exact lq0_of h3 q2 (h4.at ho (by omega)) q3 (iv_all hA) hP hNe hEm hm rfl
  · refine ⟨hM, fun w2 hp => ?_⟩
    obtain ⟨⟨th', R', E', q1, q2⟩, q3⟩ := hp
    rcases q1 with ⟨_, rfl, rfl, rfl⟩ | ⟨k', hk', e, _⟩
    · exact lq0_of hx0 q2 ho q3 hA hP hNe hEm hm cd1.symm
    · exact absurd (by rw [e]; exact iv_S hk') n1
set_option maxHeartbeats 1000000 in
theorem lo_row {cJ cI cZ cS : ClassId} {A A2 : Nat → Nat} {o N : Nat} {sf : Nat → Option Nat} {ws w1 : va_W} {r th : Int32} {K B : Nat → Nat → Int64} {E : Nat → Int32} {Km Bm : Nat → Int64} {Em : Int32} {Lf Tr nu ne : Nat → Int64} {m1 : Nat} {R : Nat → Int64} {EM : Nat → Int32} {Pt : Nat → Int64} {nA nB : Nat → Int32} {nC : Nat → Int64} {x : Int32} {y : Int32} {z : Int32} {v : Int64} (hN1 : 1 ≤ N) (hN5 : N ≤ 5) (h : LX cJ cI cZ cS A A2 o N sf ws K B E Km Bm Em Lf Tr nu ne m1 th R EM Pt nA nB nC) (hw : (hq_i cJ 64 o (fun r : Int32 => r.toInt64) (fun r w => (okS x ∧ okT N y ∧ okT N z) ∧ okG v ∧ ∃ k, k < 8 ∧ x = nI k ∧ ∃ K1 B1 E1 K2 B2 E2, (lr_addO (lr_copy (K k) Km (2 * N * (2 * N))) (lr_copy (B k) Bm (2 * N * (2 * N))) (2 * N) (E k) y z v K1 B1 E1) ∧ lr_tkO (2 * N) K1 B1 E1 (K k) (B k) K2 B2 E2 r ∧ xAt cJ cS w 0 A N sf (va_up K k K2) (va_up B k B2) (va_up E k E2) K1 B1 E1 Lf Tr nu ne (nI m1) ∧ gF 0 (0 + 53) ws w) (fun Z w => (Z = xIOOB ∧ ¬ (okS x ∧ okT N y ∧ okT N z) ∧ w = ws) ∨ (Z = xIAE ∧ (okS x ∧ okT N y ∧ okT N z) ∧ ¬ okG v ∧ w = ws) ∨ (Z = xARI ∧ (okS x ∧ okT N y ∧ okT N z) ∧ okG v ∧ ∃ k, k < 8 ∧ x = nI k ∧ ∃ K1 B1 E1, (lr_addO (lr_copy (K k) Km (2 * N * (2 * N))) (lr_copy (B k) Bm (2 * N * (2 * N))) (2 * N) (E k) y z v K1 B1 E1) ∧ (E1 = 0 ∧ lr_tooFar B1 (2 * N)) ∧ xAt cJ cS w 0 A N sf K B E K1 B1 E1 Lf Tr nu ne (nI m1) ∧ gF 0 (0 + 53) ws w)) cd_123) r w1) : ∃ o' : Option (Nat → Nat → Int64), (∀ k, k < 8 → x = nI k → EM k = 0 → okT N y → okT N z → okG v → ¬ y = -z → lm_Cl N (lm_mx (lm_rowR R k y z v) k) o') ∧ mS cJ cI cZ w1 53 A2 N th m1 R EM Pt nA nB nC ∧ ∀ (r' : Int32) w2, (fun r w => (∃ th' R' E', lm_rowO N R EM x y z v o' th' r R' E' ∧ mS cJ cI cZ w 53 A2 N th' m1 R' E' Pt nA nB nC) ∧ gF 53 (53 + 11) w1 w) r' w2 → LQ cJ cI cZ cS A A2 o N sf w2 r (r'.toInt64) := by
  obtain ⟨hx0, hM, ⟨f, ho⟩, hA, hP, hNe, hEm, hm⟩ := h
  rcases hw with ⟨rfl, r1, w0, f0, hcp, hout, hf⟩ | ⟨Z, hxp, rfl⟩
  · obtain ⟨⟨_, hy, hz⟩, hv, k, hk, rfl, K1, B1, E1, K2, B2, E2, h1, h2, h3, h4⟩ := hcp
    obtain ⟨o', c1, c2, _⟩ := iv_row hN5 hA hk hy hz hv h1
    refine ⟨o', c1, (hM.kept h4 (by omega)).kept hf (by omega), fun r' w2 hp => ?_⟩
    obtain ⟨⟨th', R', E', q1, q2⟩, q3⟩ := hp
    obtain ⟨rfl, rfl, t3⟩ := c2 _ _ _ _ _ _ _ _ h2 q1
    exact lq_of (h3.kept hf (by omega)) q2 hout q3 t3 hP hNe (lr_addO_E h1 (hx0.E01 hk)) hm rfl (fun _ => vl_eq _ _ _)
  · rcases hxp with ⟨rfl, n1, rfl⟩ | ⟨rfl, n1, n2, rfl⟩ | ⟨rfl, ⟨_, hy, hz⟩, hv, k, hk, rfl, K1, B1, E1, h1, ⟨e1, e2⟩, h3, h4⟩
    · refine ⟨none, fun k hk e _ hy hz _ _ => absurd ⟨by rw [e]; exact iv_S hk, hy, hz⟩ n1, hM, fun r' w2 hp => ?_⟩
      obtain ⟨⟨th', R', E', q1, q2⟩, q3⟩ := hp
      rcases q1 with ⟨_, rfl, rfl, rfl⟩ | ⟨n2, _⟩ | ⟨k, hk, e, hy, hz, _⟩
      · exact lq_of hx0 q2 ho q3 hA hP hNe hEm hm cd123a.symm (fun z => absurd (cd123a.symm.trans z) n10)
      · exact absurd n2 n1
      · exact absurd ⟨by rw [e]; exact iv_S hk, hy, hz⟩ n1
    · refine ⟨none, fun k hk e _ _ _ hv _ => absurd hv n2, hM, fun r' w2 hp => ?_⟩
      obtain ⟨⟨th', R', E', q1, q2⟩, q3⟩ := hp
      rcases q1 with ⟨n3, _⟩ | ⟨_, _, rfl, rfl, rfl⟩ | ⟨k, hk, e, hy, hz, hv, _⟩
      · exact absurd n1 n3
      · exact lq_of hx0 q2 ho q3 hA hP hNe hEm hm cd123b.symm (fun z => absurd (cd123b.symm.trans z) n20)
      · exact absurd hv n2
    · obtain ⟨o', c1, _, c3⟩ := iv_row hN5 hA hk hy hz hv h1
      refine ⟨o', c1, hM.kept h4 (by omega), fun r' w2 hp => ?_⟩
      obtain ⟨⟨th', R', E', q1, q2⟩, q3⟩ := hp
      obtain ⟨t1, t3⟩ := c3 _ _ _ _ e1 e2 q1
      exact lq_of h3 q2 (h4.at ho (by omega)) q3 t3 hP hNe (Or.inl e1) hm (t1.trans cd123c.symm) (fun z => absurd (cd123c.symm.trans z) n30)
set_option maxHeartbeats 1000000 in
theorem lo_bound {cJ cI cZ cS : ClassId} {A A2 : Nat → Nat} {o N : Nat} {sf : Nat → Option Nat} {ws w1 : va_W} {r th : Int32} {K B : Nat → Nat → Int64} {E : Nat → Int32} {Km Bm : Nat → Int64} {Em : Int32} {Lf Tr nu ne : Nat → Int64} {m1 : Nat} {R : Nat → Int64} {EM : Nat → Int32} {Pt : Nat → Int64} {nA nB : Nat → Int32} {nC : Nat → Int64} {x : Int32} {y : Int32} {z : Int32} (hN1 : 1 ≤ N) (hN5 : N ≤ 5) (h : LX cJ cI cZ cS A A2 o N sf ws K B E Km Bm Em Lf Tr nu ne m1 th R EM Pt nA nB nC) (hw : (hq_i cJ 64 o (fun r : Int64 => r) (fun r w => ((okS x ∧ okT N y ∧ okT N z) ∧ ∃ k, k < 8 ∧ x = nI k ∧ r = lr_gr (B k) (2 * N) (E k) y z) ∧ w = ws) (fun Z w => Z = xIOOB ∧ ¬ (okS x ∧ okT N y ∧ okT N z) ∧ w = ws) cd_1) r w1) : mS cJ cI cZ w1 53 A2 N th m1 R EM Pt nA nB nC ∧ ∀ (r' : Int64) w2, (fun r w => (∃ th', ((¬ (okS x ∧ okT N y ∧ okT N z) ∧ th' = nI 1) ∨ (∃ k, k < 8 ∧ x = nI k ∧ okT N y ∧ okT N z ∧ th' = nI 0 ∧ ((EM k = 0 ∧ r = lm_bd ((fun k => iv_mat N (B k)) k) y z) ∨ (¬ EM k = 0 ∧ r = -4611686018427387904)))) ∧ mS cJ cI cZ w 53 A2 N th' m1 R EM Pt nA nB nC) ∧ gF 53 (53 + 11) w1 w) r' w2 → LQ cJ cI cZ cS A A2 o N sf w2 r (r') := by
  obtain ⟨hx0, hM, ⟨f, ho⟩, hA, hP, hNe, hEm, hm⟩ := h
  rcases hw with ⟨rfl, r1, w0, f0, ⟨⟨⟨_, hy, hz⟩, k, hk, rfl, rfl⟩, rfl⟩, hout, hf⟩ | ⟨Z, ⟨rfl, n1, rfl⟩, rfl⟩
  · refine ⟨hM.kept hf (by omega), fun r' w2 hp => ?_⟩
    obtain ⟨⟨th', q1, q2⟩, q3⟩ := hp
    rcases q1 with ⟨n1, _⟩ | ⟨k', hk', e, _, _, rfl, q1⟩
    · exact absurd ⟨iv_S hk, hy, hz⟩ n1
    · have := iv_8 hk hk' e
      subst this
      refine lq_of (hx0.kept hf (by omega)) q2 hout q3 hA hP hNe hEm hm rfl (fun _ => ?_)
      rw [vl_eq]
      rw [(hA k hk).2.2] at q1
      rcases q1 with ⟨e0, rfl⟩ | ⟨e0, rfl⟩
      · rw [e0]; exact iv_bd
      · unfold lr_gr; rw [if_neg e0]
  · refine ⟨hM, fun r' w2 hp => ?_⟩
    obtain ⟨⟨th', q1, q2⟩, q3⟩ := hp
    rcases q1 with ⟨_, rfl⟩ | ⟨k', hk', e, hy, hz, _⟩
    · exact lq_of hx0 q2 ho q3 hA hP hNe hEm hm cd1.symm (fun z => absurd (cd1.symm.trans z) n10)
    · exact absurd ⟨by rw [e]; exact iv_S hk', hy, hz⟩ n1
set_option maxHeartbeats 1000000 in
theorem lo_kept {cJ cI cZ cS : ClassId} {A A2 : Nat → Nat} {o N : Nat} {sf : Nat → Option Nat} {ws w1 : va_W} {r th : Int32} {K B : Nat → Nat → Int64} {E : Nat → Int32} {Km Bm : Nat → Int64} {Em : Int32} {Lf Tr nu ne : Nat → Int64} {m1 : Nat} {R : Nat → Int64} {EM : Nat → Int32} {Pt : Nat → Int64} {nA nB : Nat → Int32} {nC : Nat → Int64} {x : Int32} {y : Int32} {z : Int32} (hN1 : 1 ≤ N) (hN5 : N ≤ 5) (h : LX cJ cI cZ cS A A2 o N sf ws K B E Km Bm Em Lf Tr nu ne m1 th R EM Pt nA nB nC) (hw : (hq_i cJ 64 o (fun r : Int64 => r) (fun r w => ((okS x ∧ okT N y ∧ okT N z) ∧ ∃ k, k < 8 ∧ x = nI k ∧ ((y = z ∨ y = -z) ∧ r = lr_E ∨ (¬ (y = z ∨ y = -z) ∧ r = lr_ofT (K k) (2 * N) y z))) ∧ w = ws) (fun Z w => Z = xIOOB ∧ ¬ (okS x ∧ okT N y ∧ okT N z) ∧ w = ws) cd_1) r w1) : mS cJ cI cZ w1 53 A2 N th m1 R EM Pt nA nB nC ∧ ∀ (r' : Int64) w2, (fun r w => (∃ th', ((¬ (okS x ∧ okT N y ∧ okT N z) ∧ th' = nI 1) ∨ (∃ k, k < 8 ∧ x = nI k ∧ okT N y ∧ okT N z ∧ th' = nI 0 ∧ r = lm_kv R k y z)) ∧ mS cJ cI cZ w 53 A2 N th' m1 R EM Pt nA nB nC) ∧ gF 53 (53 + 11) w1 w) r' w2 → LQ cJ cI cZ cS A A2 o N sf w2 r (r') := by
  obtain ⟨hx0, hM, ⟨f, ho⟩, hA, hP, hNe, hEm, hm⟩ := h
  rcases hw with ⟨rfl, r1, w0, f0, ⟨⟨⟨_, hy, hz⟩, k, hk, rfl, hv⟩, rfl⟩, hout, hf⟩ | ⟨Z, ⟨rfl, n1, rfl⟩, rfl⟩
  · refine ⟨hM.kept hf (by omega), fun r' w2 hp => ?_⟩
    obtain ⟨⟨th', q1, q2⟩, q3⟩ := hp
    rcases q1 with ⟨n1, _⟩ | ⟨k', hk', e, _, _, rfl, rfl⟩
    · exact absurd ⟨iv_S hk, hy, hz⟩ n1
    · have := iv_8 hk hk' e
      subst this
      refine lq_of (hx0.kept hf (by omega)) q2 hout q3 hA hP hNe hEm hm rfl (fun _ => ?_)
      rw [vl_eq]
      rcases hv with ⟨hv, rfl⟩ | ⟨hv, rfl⟩
      · unfold lm_kv
        rcases hv with hv | hv
        · rw [if_pos hv]
        · by_cases h9 : y = z
          · rw [if_pos h9]
          · rw [if_neg h9, if_pos hv]
      · exact iv_kept hN5 (hA k hk).1.1 (hA k hk).2.1 hy hz hv
  · refine ⟨hM, fun r' w2 hp => ?_⟩
    obtain ⟨⟨th', q1, q2⟩, q3⟩ := hp
    rcases q1 with ⟨_, rfl⟩ | ⟨k', hk', e, hy, hz, _⟩
    · exact lq_of hx0 q2 ho q3 hA hP hNe hEm hm cd1.symm (fun z => absurd (cd1.symm.trans z) n10)
    · exact absurd ⟨by rw [e]; exact iv_S hk', hy, hz⟩ n1
set_option maxHeartbeats 1000000 in
theorem lo_meet {cJ cI cZ cS : ClassId} {A A2 : Nat → Nat} {o N : Nat} {sf : Nat → Option Nat} {ws w1 : va_W} {r th : Int32} {K B : Nat → Nat → Int64} {E : Nat → Int32} {Km Bm : Nat → Int64} {Em : Int32} {Lf Tr nu ne : Nat → Int64} {m1 : Nat} {R : Nat → Int64} {EM : Nat → Int32} {Pt : Nat → Int64} {nA nB : Nat → Int32} {nC : Nat → Int64} {x : Int32} {y : Int32} {z : Int32} (hN1 : 1 ≤ N) (hN5 : N ≤ 5) (h : LX cJ cI cZ cS A A2 o N sf ws K B E Km Bm Em Lf Tr nu ne m1 th R EM Pt nA nB nC) (hw : (hq_i cJ 64 o (fun r : Int32 => r.toInt64) (fun r w => (okS x ∧ okS y ∧ okS z) ∧ ∃ k, k < 8 ∧ x = nI k ∧ ∃ k2, k2 < 8 ∧ y = nI k2 ∧ ∃ k3, k3 < 8 ∧ z = nI k3 ∧ ∃ K1 B1 E1 K2 B2 E2, (lr_meetO Km Bm (2 * N) (B k2) (E k2) (B k3) (E k3) K1 B1 E1) ∧ lr_tkO (2 * N) K1 B1 E1 (K k) (B k) K2 B2 E2 r ∧ xAt cJ cS w 0 A N sf (va_up K k K2) (va_up B k B2) (va_up E k E2) K1 B1 E1 Lf Tr nu ne (nI m1) ∧ gF 0 (0 + 53) ws w) (fun Z w => (Z = xIOOB ∧ ¬ (okS x ∧ okS y ∧ okS z) ∧ w = ws) ∨ (Z = xARI ∧ (okS x ∧ okS y ∧ okS z) ∧ ∃ k, k < 8 ∧ x = nI k ∧ ∃ k2, k2 < 8 ∧ y = nI k2 ∧ ∃ k3, k3 < 8 ∧ z = nI k3 ∧ ∃ K1 B1 E1, (lr_meetO Km Bm (2 * N) (B k2) (E k2) (B k3) (E k3) K1 B1 E1) ∧ (E1 = 0 ∧ lr_tooFar B1 (2 * N)) ∧ xAt cJ cS w 0 A N sf K B E K1 B1 E1 Lf Tr nu ne (nI m1) ∧ gF 0 (0 + 53) ws w)) cd_13) r w1) : ∃ o' : Option (Nat → Nat → Int64), (∀ k2 k3, k2 < 8 → k3 < 8 → y = nI k2 → z = nI k3 → EM k2 = 0 → EM k3 = 0 → lm_Cl N (lm_mnM (iv_mat N (B k2)) (iv_mat N (B k3))) o') ∧ mS cJ cI cZ w1 53 A2 N th m1 R EM Pt nA nB nC ∧ ∀ (r' : Int32) w2, (fun r w => (∃ th' R' E', lm_meetO N R EM x y z o' th' r R' E' ∧ mS cJ cI cZ w 53 A2 N th' m1 R' E' Pt nA nB nC) ∧ gF 53 (53 + 11) w1 w) r' w2 → LQ cJ cI cZ cS A A2 o N sf w2 r (r'.toInt64) := by
  obtain ⟨hx0, hM, ⟨f, ho⟩, hA, hP, hNe, hEm, hm⟩ := h
  rcases hw with ⟨rfl, r1, w0, f0, hcp, hout, hf⟩ | ⟨Z, hxp, rfl⟩
  · obtain ⟨_, k, hk, rfl, k2, hk2, rfl, k3, hk3, rfl, K1, B1, E1, K2, B2, E2, h1, h2, h3, h4⟩ := hcp
    obtain ⟨o', c1, c2⟩ := iv_meet hN5 hA hk hk2 hk3 h1
    refine ⟨o', c1, (hM.kept h4 (by omega)).kept hf (by omega), fun r' w2 hp => ?_⟩
    obtain ⟨⟨th', R', E', q1, q2⟩, q3⟩ := hp
    obtain ⟨rfl, rfl, t3⟩ := (c2 _ _ _ _ q1).1 _ _ _ _ h2
    exact lq_of (h3.kept hf (by omega)) q2 hout q3 t3 hP hNe (lr_meetO_E h1) hm rfl (fun _ => vl_eq _ _ _)
  · rcases hxp with ⟨rfl, n1, rfl⟩ | ⟨rfl, _, k, hk, rfl, k2, hk2, rfl, k3, hk3, rfl, K1, B1, E1, h1, ⟨e1, e2⟩, h3, h4⟩
    · have hex : ∃ o' : Option (Nat → Nat → Int64), ∀ k2 k3, k2 < 8 → k3 < 8 → y = nI k2 → z = nI k3 → EM k2 = 0 → EM k3 = 0 → lm_Cl N (lm_mnM (iv_mat N (B k2)) (iv_mat N (B k3))) o' := by
        by_cases hy : okS y ∧ okS z
        · obtain ⟨k2, hk2, rfl⟩ := hy.1.k
          obtain ⟨k3, hk3, rfl⟩ := hy.2.k
          obtain ⟨K1, B1, E1, h1⟩ := lr_meetO_ex (K := Km) (B := Bm) (n := 2 * N) (B2 := B k2) (E2 := E k2) (B3 := B k3) (E3 := E k3)
          obtain ⟨o', c1, _⟩ := iv_meet (k := 0) hN5 hA (by omega) hk2 hk3 h1
          exact ⟨o', c1⟩
        · exact ⟨none, fun k2 k3 hk2 hk3 e2 e3 => absurd ⟨by rw [e2]; exact iv_S hk2, by rw [e3]; exact iv_S hk3⟩ hy⟩
      obtain ⟨o', c1⟩ := hex
      refine ⟨o', c1, hM, fun r' w2 hp => ?_⟩
      obtain ⟨⟨th', R', E', q1, q2⟩, q3⟩ := hp
      rcases q1 with ⟨_, rfl, rfl, rfl⟩ | ⟨k, k2, k3, ⟨hk, hk2, hk3, e1, e2, e3⟩, _⟩
      · exact lq_of hx0 q2 ho q3 hA hP hNe hEm hm cd13a.symm (fun z => absurd (cd13a.symm.trans z) n10)
      · exact absurd ⟨by rw [e1]; exact iv_S hk, by rw [e2]; exact iv_S hk2, by rw [e3]; exact iv_S hk3⟩ n1
    · obtain ⟨o', c1, c2⟩ := iv_meet hN5 hA hk hk2 hk3 h1
      refine ⟨o', c1, hM.kept h4 (by omega), fun r' w2 hp => ?_⟩
      obtain ⟨⟨th', R', E', q1, q2⟩, q3⟩ := hp
      obtain ⟨t1, t3⟩ := (c2 _ _ _ _ q1).2 e1 e2
      exact lq_of h3 q2 (h4.at ho (by omega)) q3 t3 hP hNe (Or.inl e1) hm (t1.trans cd13b.symm) (fun z => absurd (cd13b.symm.trans z) n20)
set_option maxHeartbeats 1000000 in
theorem lo_join {cJ cI cZ cS : ClassId} {A A2 : Nat → Nat} {o N : Nat} {sf : Nat → Option Nat} {ws w1 : va_W} {r th : Int32} {K B : Nat → Nat → Int64} {E : Nat → Int32} {Km Bm : Nat → Int64} {Em : Int32} {Lf Tr nu ne : Nat → Int64} {m1 : Nat} {R : Nat → Int64} {EM : Nat → Int32} {Pt : Nat → Int64} {nA nB : Nat → Int32} {nC : Nat → Int64} {x : Int32} {y : Int32} {z : Int32} (hN1 : 1 ≤ N) (hN5 : N ≤ 5) (h : LX cJ cI cZ cS A A2 o N sf ws K B E Km Bm Em Lf Tr nu ne m1 th R EM Pt nA nB nC) (hw : (hq_i cJ 64 o (fun r : Int32 => r.toInt64) (fun r w => (okS x ∧ okS y ∧ okS z) ∧ ∃ k, k < 8 ∧ x = nI k ∧ ∃ k2, k2 < 8 ∧ y = nI k2 ∧ ∃ k3, k3 < 8 ∧ z = nI k3 ∧ ∃ K1 B1 E1 K2 B2 E2, (lr_joinO Km Bm (2 * N) (K k2) (B k2) (E k2) (K k3) (B k3) (E k3) K1 B1 E1) ∧ lr_tkO (2 * N) K1 B1 E1 (K k) (B k) K2 B2 E2 r ∧ xAt cJ cS w 0 A N sf (va_up K k K2) (va_up B k B2) (va_up E k E2) K1 B1 E1 Lf Tr nu ne (nI m1) ∧ gF 0 (0 + 53) ws w) (fun Z w => (Z = xIOOB ∧ ¬ (okS x ∧ okS y ∧ okS z) ∧ w = ws) ∨ (Z = xARI ∧ (okS x ∧ okS y ∧ okS z) ∧ ∃ k, k < 8 ∧ x = nI k ∧ ∃ k2, k2 < 8 ∧ y = nI k2 ∧ ∃ k3, k3 < 8 ∧ z = nI k3 ∧ ∃ K1 B1 E1, (lr_joinO Km Bm (2 * N) (K k2) (B k2) (E k2) (K k3) (B k3) (E k3) K1 B1 E1) ∧ (E1 = 0 ∧ lr_tooFar B1 (2 * N)) ∧ xAt cJ cS w 0 A N sf K B E K1 B1 E1 Lf Tr nu ne (nI m1) ∧ gF 0 (0 + 53) ws w)) cd_1) r w1) : ∃ o' : Option (Nat → Nat → Int64), (∀ k2 k3, k2 < 8 → k3 < 8 → y = nI k2 → z = nI k3 → (EM k2 = 0 ∨ EM k3 = 0) → lm_Cl N (lm_jX EM (fun k => iv_mat N (B k)) k2 k3) o') ∧ mS cJ cI cZ w1 53 A2 N th m1 R EM Pt nA nB nC ∧ ∀ (r' : Int32) w2, (fun r w => (∃ th' R' E', lm_joinO N R EM x y z o' th' r R' E' ∧ mS cJ cI cZ w 53 A2 N th' m1 R' E' Pt nA nB nC) ∧ gF 53 (53 + 11) w1 w) r' w2 → LQ cJ cI cZ cS A A2 o N sf w2 r (r'.toInt64) := by
  obtain ⟨hx0, hM, ⟨f, ho⟩, hA, hP, hNe, hEm, hm⟩ := h
  rcases hw with ⟨rfl, r1, w0, f0, hcp, hout, hf⟩ | ⟨Z, hxp, rfl⟩
  · obtain ⟨_, k, hk, rfl, k2, hk2, rfl, k3, hk3, rfl, K1, B1, E1, K2, B2, E2, h1, h2, h3, h4⟩ := hcp
    obtain ⟨o', c1, c2⟩ := iv_join hN5 hA hk hk2 hk3 h1
    refine ⟨o', c1, (hM.kept h4 (by omega)).kept hf (by omega), fun r' w2 hp => ?_⟩
    obtain ⟨⟨th', R', E', q1, q2⟩, q3⟩ := hp
    obtain ⟨rfl, rfl, t3⟩ := (c2 _ _ _ _ q1).1 _ _ _ _ h2
    exact lq_of (h3.kept hf (by omega)) q2 hout q3 t3 hP hNe (lr_joinO_E h1 (hx0.E01 hk2) (hx0.E01 hk3)) hm rfl (fun _ => vl_eq _ _ _)
  · rcases hxp with ⟨rfl, n1, rfl⟩ | ⟨rfl, _, k, hk, rfl, k2, hk2, rfl, k3, hk3, rfl, K1, B1, E1, h1, ⟨e1, e2⟩, h3, h4⟩
    · have hex : ∃ o' : Option (Nat → Nat → Int64), ∀ k2 k3, k2 < 8 → k3 < 8 → y = nI k2 → z = nI k3 → (EM k2 = 0 ∨ EM k3 = 0) → lm_Cl N (lm_jX EM (fun k => iv_mat N (B k)) k2 k3) o' := by
        by_cases hy : okS y ∧ okS z
        · obtain ⟨k2, hk2, rfl⟩ := hy.1.k
          obtain ⟨k3, hk3, rfl⟩ := hy.2.k
          obtain ⟨K1, B1, E1, h1⟩ := lr_joinO_ex (K := Km) (B := Bm) (n := 2 * N) (K2 := K k2) (B2 := B k2) (E2 := E k2) (K3 := K k3) (B3 := B k3) (E3 := E k3)
          obtain ⟨o', c1, _⟩ := iv_join (k := 0) hN5 hA (by omega) hk2 hk3 h1
          exact ⟨o', c1⟩
        · exact ⟨none, fun k2 k3 hk2 hk3 e2 e3 => absurd ⟨by rw [e2]; exact iv_S hk2, by rw [e3]; exact iv_S hk3⟩ hy⟩
      obtain ⟨o', c1⟩ := hex
      refine ⟨o', c1, hM, fun r' w2 hp => ?_⟩
      obtain ⟨⟨th', R', E', q1, q2⟩, q3⟩ := hp
      rcases q1 with ⟨_, rfl, rfl, rfl⟩ | ⟨k, k2, k3, ⟨hk, hk2, hk3, e1, e2, e3⟩, _⟩
      · exact lq_of hx0 q2 ho q3 hA hP hNe hEm hm cd1.symm (fun z => absurd (cd1.symm.trans z) n10)
      · exact absurd ⟨by rw [e1]; exact iv_S hk, by rw [e2]; exact iv_S hk2, by rw [e3]; exact iv_S hk3⟩ n1
    · obtain ⟨o', c1, c2⟩ := iv_join hN5 hA hk hk2 hk3 h1
      refine ⟨o', c1, hM.kept h4 (by omega), fun r' w2 hp => ?_⟩
      obtain ⟨⟨th', R', E', q1, q2⟩, q3⟩ := hp
      exact absurd e2 ((c2 _ _ _ _ q1).2 e1)
set_option maxHeartbeats 1000000 in
theorem lo_widen {cJ cI cZ cS : ClassId} {A A2 : Nat → Nat} {o N : Nat} {sf : Nat → Option Nat} {ws w1 : va_W} {r th : Int32} {K B : Nat → Nat → Int64} {E : Nat → Int32} {Km Bm : Nat → Int64} {Em : Int32} {Lf Tr nu ne : Nat → Int64} {m1 : Nat} {R : Nat → Int64} {EM : Nat → Int32} {Pt : Nat → Int64} {nA nB : Nat → Int32} {nC : Nat → Int64} {x : Int32} {y : Int32} {z : Int32} (hN1 : 1 ≤ N) (hN5 : N ≤ 5) (h : LX cJ cI cZ cS A A2 o N sf ws K B E Km Bm Em Lf Tr nu ne m1 th R EM Pt nA nB nC) (hw : (hq_i cJ 64 o (fun r : Int32 => r.toInt64) (fun r w => (okS x ∧ okS y ∧ okS z) ∧ ∃ k, k < 8 ∧ x = nI k ∧ ∃ k2, k2 < 8 ∧ y = nI k2 ∧ ∃ k3, k3 < 8 ∧ z = nI k3 ∧ ∃ K1 B1 E1 K2 B2 E2, (lr_widO Km Bm (2 * N) (K k2) (B k2) (E k2) (K k3) (B k3) (E k3) K1 B1 E1) ∧ lr_tkO (2 * N) K1 B1 E1 (K k) (B k) K2 B2 E2 r ∧ xAt cJ cS w 0 A N sf (va_up K k K2) (va_up B k B2) (va_up E k E2) K1 B1 E1 Lf Tr nu ne (nI m1) ∧ gF 0 (0 + 53) ws w) (fun Z w => (Z = xIOOB ∧ ¬ (okS x ∧ okS y ∧ okS z) ∧ w = ws) ∨ (Z = xARI ∧ (okS x ∧ okS y ∧ okS z) ∧ ∃ k, k < 8 ∧ x = nI k ∧ ∃ k2, k2 < 8 ∧ y = nI k2 ∧ ∃ k3, k3 < 8 ∧ z = nI k3 ∧ ∃ K1 B1 E1, (lr_widO Km Bm (2 * N) (K k2) (B k2) (E k2) (K k3) (B k3) (E k3) K1 B1 E1) ∧ (E1 = 0 ∧ lr_tooFar B1 (2 * N)) ∧ xAt cJ cS w 0 A N sf K B E K1 B1 E1 Lf Tr nu ne (nI m1) ∧ gF 0 (0 + 53) ws w)) cd_13) r w1) : ∃ Y : Nat → Nat → Int64, (∀ k2 k3, k2 < 8 → k3 < 8 → y = nI k2 → z = nI k3 → EM k2 = 0 → EM k3 = 0 → lm_Cl N (fun i k => lm_db i k (lm_wM (iv_mat N (B k3)) R k2 i k)) (some Y)) ∧ mS cJ cI cZ w1 53 A2 N th m1 R EM Pt nA nB nC ∧ ∀ (r' : Int32) w2, (fun r w => (∃ th' R' E', lm_widO N R EM (fun k => iv_mat N (B k)) x y z Y th' r R' E' ∧ mS cJ cI cZ w 53 A2 N th' m1 R' E' Pt nA nB nC) ∧ gF 53 (53 + 11) w1 w) r' w2 → LQ cJ cI cZ cS A A2 o N sf w2 r (r'.toInt64) := by
  obtain ⟨hx0, hM, ⟨f, ho⟩, hA, hP, hNe, hEm, hm⟩ := h
  rcases hw with ⟨rfl, r1, w0, f0, hcp, hout, hf⟩ | ⟨Z, hxp, rfl⟩
  · obtain ⟨_, k, hk, rfl, k2, hk2, rfl, k3, hk3, rfl, K1, B1, E1, K2, B2, E2, h1, h2, h3, h4⟩ := hcp
    obtain ⟨o', c1, c2⟩ := iv_widen hN5 hA hk hk2 hk3 h1
    refine ⟨o', c1, (hM.kept h4 (by omega)).kept hf (by omega), fun r' w2 hp => ?_⟩
    obtain ⟨⟨th', R', E', q1, q2⟩, q3⟩ := hp
    obtain ⟨rfl, rfl, t3⟩ := (c2 _ _ _ _ q1).1 _ _ _ _ h2
    exact lq_of (h3.kept hf (by omega)) q2 hout q3 t3 hP hNe (lr_widO_E h1 (hx0.E01 hk2) (hx0.E01 hk3)) hm rfl (fun _ => vl_eq _ _ _)
  · rcases hxp with ⟨rfl, n1, rfl⟩ | ⟨rfl, _, k, hk, rfl, k2, hk2, rfl, k3, hk3, rfl, K1, B1, E1, h1, ⟨e1, e2⟩, h3, h4⟩
    · have hex : ∃ o' : Nat → Nat → Int64, ∀ k2 k3, k2 < 8 → k3 < 8 → y = nI k2 → z = nI k3 → EM k2 = 0 → EM k3 = 0 → lm_Cl N (fun i k => lm_db i k (lm_wM (iv_mat N (B k3)) R k2 i k)) (some o') := by
        by_cases hy : okS y ∧ okS z
        · obtain ⟨k2, hk2, rfl⟩ := hy.1.k
          obtain ⟨k3, hk3, rfl⟩ := hy.2.k
          obtain ⟨K1, B1, E1, h1⟩ := lr_widO_ex (K := Km) (B := Bm) (n := 2 * N) (K2 := K k2) (B2 := B k2) (E2 := E k2) (K3 := K k3) (B3 := B k3) (E3 := E k3)
          obtain ⟨o', c1, _⟩ := iv_widen (k := 0) hN5 hA (by omega) hk2 hk3 h1
          exact ⟨o', c1⟩
        · exact ⟨fun _ _ => 0, fun k2 k3 hk2 hk3 e2 e3 => absurd ⟨by rw [e2]; exact iv_S hk2, by rw [e3]; exact iv_S hk3⟩ hy⟩
      obtain ⟨o', c1⟩ := hex
      refine ⟨o', c1, hM, fun r' w2 hp => ?_⟩
      obtain ⟨⟨th', R', E', q1, q2⟩, q3⟩ := hp
      rcases q1 with ⟨_, rfl, rfl, rfl⟩ | ⟨k, k2, k3, ⟨hk, hk2, hk3, e1, e2, e3⟩, _⟩
      · exact lq_of hx0 q2 ho q3 hA hP hNe hEm hm cd13a.symm (fun z => absurd (cd13a.symm.trans z) n10)
      · exact absurd ⟨by rw [e1]; exact iv_S hk, by rw [e2]; exact iv_S hk2, by rw [e3]; exact iv_S hk3⟩ n1
    · obtain ⟨o', c1, c2⟩ := iv_widen hN5 hA hk hk2 hk3 h1
      refine ⟨o', c1, hM.kept h4 (by omega), fun r' w2 hp => ?_⟩
      obtain ⟨⟨th', R', E', q1, q2⟩, q3⟩ := hp
      obtain ⟨t1, t3⟩ := (c2 _ _ _ _ q1).2 e1 e2
      exact lq_of h3 q2 (h4.at ho (by omega)) q3 t3 hP hNe (Or.inl e1) hm (t1.trans cd13b.symm) (fun z => absurd (cd13b.symm.trans z) n20)
set_option maxHeartbeats 1000000 in
theorem lo_narrow {cJ cI cZ cS : ClassId} {A A2 : Nat → Nat} {o N : Nat} {sf : Nat → Option Nat} {ws w1 : va_W} {r th : Int32} {K B : Nat → Nat → Int64} {E : Nat → Int32} {Km Bm : Nat → Int64} {Em : Int32} {Lf Tr nu ne : Nat → Int64} {m1 : Nat} {R : Nat → Int64} {EM : Nat → Int32} {Pt : Nat → Int64} {nA nB : Nat → Int32} {nC : Nat → Int64} {x : Int32} {y : Int32} {z : Int32} (hN1 : 1 ≤ N) (hN5 : N ≤ 5) (h : LX cJ cI cZ cS A A2 o N sf ws K B E Km Bm Em Lf Tr nu ne m1 th R EM Pt nA nB nC) (hw : (hq_i cJ 64 o (fun r : Int32 => r.toInt64) (fun r w => (okS x ∧ okS y ∧ okS z) ∧ ∃ k, k < 8 ∧ x = nI k ∧ ∃ k2, k2 < 8 ∧ y = nI k2 ∧ ∃ k3, k3 < 8 ∧ z = nI k3 ∧ ∃ K1 B1 E1 K2 B2 E2, (lr_narO Km Bm (2 * N) (K k2) (B k2) (E k2) (B k3) (E k3) K1 B1 E1) ∧ lr_tkO (2 * N) K1 B1 E1 (K k) (B k) K2 B2 E2 r ∧ xAt cJ cS w 0 A N sf (va_up K k K2) (va_up B k B2) (va_up E k E2) K1 B1 E1 Lf Tr nu ne (nI m1) ∧ gF 0 (0 + 53) ws w) (fun Z w => (Z = xIOOB ∧ ¬ (okS x ∧ okS y ∧ okS z) ∧ w = ws) ∨ (Z = xARI ∧ (okS x ∧ okS y ∧ okS z) ∧ ∃ k, k < 8 ∧ x = nI k ∧ ∃ k2, k2 < 8 ∧ y = nI k2 ∧ ∃ k3, k3 < 8 ∧ z = nI k3 ∧ ∃ K1 B1 E1, (lr_narO Km Bm (2 * N) (K k2) (B k2) (E k2) (B k3) (E k3) K1 B1 E1) ∧ (E1 = 0 ∧ lr_tooFar B1 (2 * N)) ∧ xAt cJ cS w 0 A N sf K B E K1 B1 E1 Lf Tr nu ne (nI m1) ∧ gF 0 (0 + 53) ws w)) cd_13) r w1) : ∃ o' : Option (Nat → Nat → Int64), (∀ k2 k3, k2 < 8 → k3 < 8 → y = nI k2 → z = nI k3 → EM k2 = 0 → EM k3 = 0 → lm_Cl N (fun i k => lm_db i k (lm_nM (iv_mat N (B k2)) (iv_mat N (B k3)) R k2 i k)) o') ∧ mS cJ cI cZ w1 53 A2 N th m1 R EM Pt nA nB nC ∧ ∀ (r' : Int32) w2, (fun r w => (∃ th' R' E', lm_narO N R EM (fun k => iv_mat N (B k)) x y z o' th' r R' E' ∧ mS cJ cI cZ w 53 A2 N th' m1 R' E' Pt nA nB nC) ∧ gF 53 (53 + 11) w1 w) r' w2 → LQ cJ cI cZ cS A A2 o N sf w2 r (r'.toInt64) := by
  obtain ⟨hx0, hM, ⟨f, ho⟩, hA, hP, hNe, hEm, hm⟩ := h
  rcases hw with ⟨rfl, r1, w0, f0, hcp, hout, hf⟩ | ⟨Z, hxp, rfl⟩
  · obtain ⟨_, k, hk, rfl, k2, hk2, rfl, k3, hk3, rfl, K1, B1, E1, K2, B2, E2, h1, h2, h3, h4⟩ := hcp
    obtain ⟨o', c1, c2⟩ := iv_narrow hN5 hA hk hk2 hk3 h1
    refine ⟨o', c1, (hM.kept h4 (by omega)).kept hf (by omega), fun r' w2 hp => ?_⟩
    obtain ⟨⟨th', R', E', q1, q2⟩, q3⟩ := hp
    obtain ⟨rfl, rfl, t3⟩ := (c2 _ _ _ _ q1).1 _ _ _ _ h2
    exact lq_of (h3.kept hf (by omega)) q2 hout q3 t3 hP hNe (lr_narO_E h1) hm rfl (fun _ => vl_eq _ _ _)
  · rcases hxp with ⟨rfl, n1, rfl⟩ | ⟨rfl, _, k, hk, rfl, k2, hk2, rfl, k3, hk3, rfl, K1, B1, E1, h1, ⟨e1, e2⟩, h3, h4⟩
    · have hex : ∃ o' : Option (Nat → Nat → Int64), ∀ k2 k3, k2 < 8 → k3 < 8 → y = nI k2 → z = nI k3 → EM k2 = 0 → EM k3 = 0 → lm_Cl N (fun i k => lm_db i k (lm_nM (iv_mat N (B k2)) (iv_mat N (B k3)) R k2 i k)) o' := by
        by_cases hy : okS y ∧ okS z
        · obtain ⟨k2, hk2, rfl⟩ := hy.1.k
          obtain ⟨k3, hk3, rfl⟩ := hy.2.k
          obtain ⟨K1, B1, E1, h1⟩ := lr_narO_ex (K := Km) (B := Bm) (n := 2 * N) (K2 := K k2) (B2 := B k2) (E2 := E k2) (B3 := B k3) (E3 := E k3)
          obtain ⟨o', c1, _⟩ := iv_narrow (k := 0) hN5 hA (by omega) hk2 hk3 h1
          exact ⟨o', c1⟩
        · exact ⟨none, fun k2 k3 hk2 hk3 e2 e3 => absurd ⟨by rw [e2]; exact iv_S hk2, by rw [e3]; exact iv_S hk3⟩ hy⟩
      obtain ⟨o', c1⟩ := hex
      refine ⟨o', c1, hM, fun r' w2 hp => ?_⟩
      obtain ⟨⟨th', R', E', q1, q2⟩, q3⟩ := hp
      rcases q1 with ⟨_, rfl, rfl, rfl⟩ | ⟨k, k2, k3, ⟨hk, hk2, hk3, e1, e2, e3⟩, _⟩
      · exact lq_of hx0 q2 ho q3 hA hP hNe hEm hm cd13a.symm (fun z => absurd (cd13a.symm.trans z) n10)
      · exact absurd ⟨by rw [e1]; exact iv_S hk, by rw [e2]; exact iv_S hk2, by rw [e3]; exact iv_S hk3⟩ n1
    · obtain ⟨o', c1, c2⟩ := iv_narrow hN5 hA hk hk2 hk3 h1
      refine ⟨o', c1, hM.kept h4 (by omega), fun r' w2 hp => ?_⟩
      obtain ⟨⟨th', R', E', q1, q2⟩, q3⟩ := hp
      obtain ⟨t1, t3⟩ := (c2 _ _ _ _ q1).2 e1 e2
      exact lq_of h3 q2 (h4.at ho (by omega)) q3 t3 hP hNe (Or.inl e1) hm (t1.trans cd13b.symm) (fun z => absurd (cd13b.symm.trans z) n20)
set_option maxHeartbeats 1000000 in
theorem lo_copy {cJ cI cZ cS : ClassId} {A A2 : Nat → Nat} {o N : Nat} {sf : Nat → Option Nat} {ws w1 : va_W} {r th : Int32} {K B : Nat → Nat → Int64} {E : Nat → Int32} {Km Bm : Nat → Int64} {Em : Int32} {Lf Tr nu ne : Nat → Int64} {m1 : Nat} {R : Nat → Int64} {EM : Nat → Int32} {Pt : Nat → Int64} {nA nB : Nat → Int32} {nC : Nat → Int64} {x : Int32} {y : Int32} (hN1 : 1 ≤ N) (hN5 : N ≤ 5) (h : LX cJ cI cZ cS A A2 o N sf ws K B E Km Bm Em Lf Tr nu ne m1 th R EM Pt nA nB nC) (hw : (hq_v (fun w => (okS x ∧ okS y) ∧ ∃ k, k < 8 ∧ x = nI k ∧ ∃ k2, k2 < 8 ∧ y = nI k2 ∧ xAt cJ cS w 0 A N sf (va_up K k (lr_copy (K k2) (K k) (2 * N * (2 * N)))) (va_up B k (lr_copy (B k2) (B k) (2 * N * (2 * N)))) (va_up E k (E k2)) Km Bm Em Lf Tr nu ne (nI m1) ∧ gF 0 (0 + 53) ws w) (fun Z w => Z = xIOOB ∧ ¬ (okS x ∧ okS y) ∧ w = ws) cd_1) r w1) : mS cJ cI cZ w1 53 A2 N th m1 R EM Pt nA nB nC ∧ ∀ w2, (fun w => (∃ th' R' E', ((¬ (okS x ∧ okS y) ∧ th' = nI 1 ∧ R' = R ∧ E' = EM) ∨ (∃ k1 k2, k1 < 8 ∧ k2 < 8 ∧ x = nI k1 ∧ y = nI k2 ∧ th' = nI 0 ∧ R' = lm_cpR R k1 k2 ∧ E' = upd EM k1 (EM k2))) ∧ mS cJ cI cZ w 53 A2 N th' m1 R' E' Pt nA nB nC) ∧ gF 53 (53 + 11) w1 w) w2 → LQ0 cJ cI cZ cS A A2 o N sf w2 r := by
  obtain ⟨hx0, hM, ⟨f, ho⟩, hA, hP, hNe, hEm, hm⟩ := h
  rcases hw with ⟨rfl, hcp⟩ | ⟨Z, ⟨rfl, n1, rfl⟩, rfl⟩
  · obtain ⟨_, k, hk, rfl, k2, hk2, rfl, h3, h4⟩ := hcp
    refine ⟨hM.kept h4 (by omega), fun w2 hp => ?_⟩
    obtain ⟨⟨th', R', E', q1, q2⟩, q3⟩ := hp
    rcases q1 with ⟨n1, _⟩ | ⟨k', k2', hk', hk2', e, e2, rfl, rfl, rfl⟩
    · exact absurd ⟨iv_S hk, iv_S hk2⟩ n1
    · rw [← iv_8 hk hk' e, ← iv_8 hk2 hk2' e2] at q2
      exact lq0_of h3 q2 (h4.at ho (by omega)) q3 (iv_copy hA hk2) hP hNe hEm hm rfl
  · refine ⟨hM, fun w2 hp => ?_⟩
    obtain ⟨⟨th', R', E', q1, q2⟩, q3⟩ := hp
    rcases q1 with ⟨_, rfl, rfl, rfl⟩ | ⟨k', k2', hk', hk2', e, e2, _⟩
    · exact lq0_of hx0 q2 ho q3 hA hP hNe hEm hm cd1.symm
    · exact absurd ⟨by rw [e]; exact iv_S hk', by rw [e2]; exact iv_S hk2'⟩ n1
set_option maxHeartbeats 1000000 in
theorem lo_set {cJ cI cZ cS : ClassId} {A A2 : Nat → Nat} {o N : Nat} {sf : Nat → Option Nat} {ws w1 : va_W} {r th : Int32} {K B : Nat → Nat → Int64} {E : Nat → Int32} {Km Bm : Nat → Int64} {Em : Int32} {Lf Tr nu ne : Nat → Int64} {m1 : Nat} {R : Nat → Int64} {EM : Nat → Int32} {Pt : Nat → Int64} {nA nB : Nat → Int32} {nC : Nat → Int64} {x : Int32} {y : Int32} {z : Int32} {v : Int64} (hN1 : 1 ≤ N) (hN5 : N ≤ 5) (h : LX cJ cI cZ cS A A2 o N sf ws K B E Km Bm Em Lf Tr nu ne m1 th R EM Pt nA nB nC) (hw : (hq_i cJ 64 o (fun r : Int32 => r.toInt64) (fun r w => (okS x ∧ okN N y ∧ okT N z) ∧ okG v ∧ ∃ k, k < 8 ∧ x = nI k ∧ ∃ K1 B1 E1 K2 B2 E2, (lr_asgO Km Bm (2 * N) (B k) (E k) y z v K1 B1 E1) ∧ lr_tkO (2 * N) K1 B1 E1 (K k) (B k) K2 B2 E2 r ∧ xAt cJ cS w 0 A N sf (va_up K k K2) (va_up B k B2) (va_up E k E2) K1 B1 E1 Lf Tr nu ne (nI m1) ∧ gF 0 (0 + 53) ws w) (fun Z w => (Z = xIOOB ∧ ¬ (okS x ∧ okN N y ∧ okT N z) ∧ w = ws) ∨ (Z = xIAE ∧ (okS x ∧ okN N y ∧ okT N z) ∧ ¬ okG v ∧ w = ws) ∨ (Z = xARI ∧ (okS x ∧ okN N y ∧ okT N z) ∧ okG v ∧ ∃ k, k < 8 ∧ x = nI k ∧ ∃ K1 B1 E1, (lr_asgO Km Bm (2 * N) (B k) (E k) y z v K1 B1 E1) ∧ (E1 = 0 ∧ lr_tooFar B1 (2 * N)) ∧ xAt cJ cS w 0 A N sf K B E K1 B1 E1 Lf Tr nu ne (nI m1) ∧ gF 0 (0 + 53) ws w)) cd_123) r w1) : ∃ o' : Option (Nat → Nat → Int64), (∀ k k1, k < 8 → x = nI k → 1 ≤ k1 → k1 ≤ N → y = nI k1 → okT N z → okG v → EM k = 0 → lm_Cl N (lm_setM (iv_mat N (B k)) k1 z v) o') ∧ mS cJ cI cZ w1 53 A2 N th m1 R EM Pt nA nB nC ∧ ∀ (r' : Int32) w2, (fun r w => (∃ th' R' E', lm_setO N R EM x y z v o' th' r R' E' ∧ mS cJ cI cZ w 53 A2 N th' m1 R' E' Pt nA nB nC) ∧ gF 53 (53 + 11) w1 w) r' w2 → LQ cJ cI cZ cS A A2 o N sf w2 r (r'.toInt64) := by
  obtain ⟨hx0, hM, ⟨f, ho⟩, hA, hP, hNe, hEm, hm⟩ := h
  rcases hw with ⟨rfl, r1, w0, f0, hcp, hout, hf⟩ | ⟨Z, hxp, rfl⟩
  · obtain ⟨⟨_, hy, hz⟩, hv, k, hk, rfl, K1, B1, E1, K2, B2, E2, h1, h2, h3, h4⟩ := hcp
    obtain ⟨k1, hk1, hk1', rfl⟩ := hy.k hN5
    obtain ⟨o', c1, c2⟩ := iv_set hN5 hA hk hk1 hk1' hz hv h1
    refine ⟨o', c1, (hM.kept h4 (by omega)).kept hf (by omega), fun r' w2 hp => ?_⟩
    obtain ⟨⟨th', R', E', q1, q2⟩, q3⟩ := hp
    obtain ⟨rfl, rfl, t3⟩ := (c2 _ _ _ _ q1).1 _ _ _ _ h2
    exact lq_of (h3.kept hf (by omega)) q2 hout q3 t3 hP hNe (lr_asgO_E h1) hm rfl (fun _ => vl_eq _ _ _)
  · rcases hxp with ⟨rfl, n1, rfl⟩ | ⟨rfl, n1, n2, rfl⟩ | ⟨rfl, ⟨_, hy, hz⟩, hv, k, hk, rfl, K1, B1, E1, h1, ⟨e1, e2⟩, h3, h4⟩
    · refine ⟨none, fun k k1 hk e a1 a2 ey hz _ _ => absurd ⟨by rw [e]; exact iv_S hk, by rw [ey]; exact lo_N a1 a2 hN5, hz⟩ n1, hM, fun r' w2 hp => ?_⟩
      obtain ⟨⟨th', R', E', q1, q2⟩, q3⟩ := hp
      rcases q1 with ⟨_, rfl, rfl, rfl⟩ | ⟨n2, _⟩ | ⟨k, k1, hk, e, a1, a2, ey, hz, _⟩
      · exact lq_of hx0 q2 ho q3 hA hP hNe hEm hm cd123a.symm (fun z => absurd (cd123a.symm.trans z) n10)
      · exact absurd n2 n1
      · exact absurd ⟨by rw [e]; exact iv_S hk, by rw [ey]; exact lo_N a1 a2 hN5, hz⟩ n1
    · refine ⟨none, fun k k1 hk e _ _ _ _ hv _ => absurd hv n2, hM, fun r' w2 hp => ?_⟩
      obtain ⟨⟨th', R', E', q1, q2⟩, q3⟩ := hp
      rcases q1 with ⟨n3, _⟩ | ⟨_, _, rfl, rfl, rfl⟩ | ⟨k, k1, hk, e, a1, a2, ey, hz, hv, _⟩
      · exact absurd n1 n3
      · exact lq_of hx0 q2 ho q3 hA hP hNe hEm hm cd123b.symm (fun z => absurd (cd123b.symm.trans z) n20)
      · exact absurd hv n2
    · obtain ⟨k1, hk1, hk1', rfl⟩ := hy.k hN5
      obtain ⟨o', c1, c2⟩ := iv_set hN5 hA hk hk1 hk1' hz hv h1
      refine ⟨o', c1, hM.kept h4 (by omega), fun r' w2 hp => ?_⟩
      obtain ⟨⟨th', R', E', q1, q2⟩, q3⟩ := hp
      obtain ⟨t1, t3⟩ := (c2 _ _ _ _ q1).2 e1 e2
      exact lq_of h3 q2 (h4.at ho (by omega)) q3 t3 hP hNe (Or.inl e1) hm (t1.trans cd123c.symm) (fun z => absurd (cd123c.symm.trans z) n30)
set_option maxHeartbeats 1000000 in
theorem lo_forget {cJ cI cZ cS : ClassId} {A A2 : Nat → Nat} {o N : Nat} {sf : Nat → Option Nat} {ws w1 : va_W} {r th : Int32} {K B : Nat → Nat → Int64} {E : Nat → Int32} {Km Bm : Nat → Int64} {Em : Int32} {Lf Tr nu ne : Nat → Int64} {m1 : Nat} {R : Nat → Int64} {EM : Nat → Int32} {Pt : Nat → Int64} {nA nB : Nat → Int32} {nC : Nat → Int64} {x : Int32} {y : Int32} (hN1 : 1 ≤ N) (hN5 : N ≤ 5) (h : LX cJ cI cZ cS A A2 o N sf ws K B E Km Bm Em Lf Tr nu ne m1 th R EM Pt nA nB nC) (hw : (hq_i cJ 64 o (fun r : Int32 => r.toInt64) (fun r w => (okS x ∧ okN N y) ∧ ∃ k, k < 8 ∧ x = nI k ∧ ∃ K1 B1 E1 K2 B2 E2, (lr_freeO Km Bm (2 * N) (K k) (B k) (E k) y K1 B1 E1) ∧ lr_tkO (2 * N) K1 B1 E1 (K k) (B k) K2 B2 E2 r ∧ xAt cJ cS w 0 A N sf (va_up K k K2) (va_up B k B2) (va_up E k E2) K1 B1 E1 Lf Tr nu ne (nI m1) ∧ gF 0 (0 + 53) ws w) (fun Z w => (Z = xIOOB ∧ ¬ (okS x ∧ okN N y) ∧ w = ws) ∨ (Z = xARI ∧ (okS x ∧ okN N y) ∧ ∃ k, k < 8 ∧ x = nI k ∧ ∃ K1 B1 E1, (lr_freeO Km Bm (2 * N) (K k) (B k) (E k) y K1 B1 E1) ∧ (E1 = 0 ∧ lr_tooFar B1 (2 * N)) ∧ xAt cJ cS w 0 A N sf K B E K1 B1 E1 Lf Tr nu ne (nI m1) ∧ gF 0 (0 + 53) ws w)) cd_1) r w1) : ∃ o' : Option (Nat → Nat → Int64), (∀ k k1, k < 8 → x = nI k → 1 ≤ k1 → k1 ≤ N → y = nI k1 → EM k = 0 → lm_Cl N (lm_dropM (iv_mat N (B k)) k1) o') ∧ mS cJ cI cZ w1 53 A2 N th m1 R EM Pt nA nB nC ∧ ∀ (r' : Int32) w2, (fun r w => (∃ th' R' E', lm_forO N R EM x y o' th' r R' E' ∧ mS cJ cI cZ w 53 A2 N th' m1 R' E' Pt nA nB nC) ∧ gF 53 (53 + 11) w1 w) r' w2 → LQ cJ cI cZ cS A A2 o N sf w2 r (r'.toInt64) := by
  obtain ⟨hx0, hM, ⟨f, ho⟩, hA, hP, hNe, hEm, hm⟩ := h
  rcases hw with ⟨rfl, r1, w0, f0, hcp, hout, hf⟩ | ⟨Z, hxp, rfl⟩
  · obtain ⟨⟨_, hy⟩, k, hk, rfl, K1, B1, E1, K2, B2, E2, h1, h2, h3, h4⟩ := hcp
    obtain ⟨k1, hk1, hk1', rfl⟩ := hy.k hN5
    obtain ⟨o', c1, c2⟩ := iv_forget hN5 hA hk hk1 hk1' h1
    refine ⟨o', c1, (hM.kept h4 (by omega)).kept hf (by omega), fun r' w2 hp => ?_⟩
    obtain ⟨⟨th', R', E', q1, q2⟩, q3⟩ := hp
    obtain ⟨rfl, rfl, t3⟩ := (c2 _ _ _ _ q1).1 _ _ _ _ h2
    exact lq_of (h3.kept hf (by omega)) q2 hout q3 t3 hP hNe (lr_freeO_E h1 (hx0.E01 hk)) hm rfl (fun _ => vl_eq _ _ _)
  · rcases hxp with ⟨rfl, n1, rfl⟩ | ⟨rfl, ⟨_, hy⟩, k, hk, rfl, K1, B1, E1, h1, ⟨e1, e2⟩, h3, h4⟩
    · refine ⟨none, fun k k1 hk e a1 a2 ey _ => absurd ⟨by rw [e]; exact iv_S hk, by rw [ey]; exact lo_N a1 a2 hN5⟩ n1, hM, fun r' w2 hp => ?_⟩
      obtain ⟨⟨th', R', E', q1, q2⟩, q3⟩ := hp
      rcases q1 with ⟨_, rfl, rfl, rfl⟩ | ⟨k, k1, hk, e, a1, a2, ey, _⟩
      · exact lq_of hx0 q2 ho q3 hA hP hNe hEm hm cd1.symm (fun z => absurd (cd1.symm.trans z) n10)
      · exact absurd ⟨by rw [e]; exact iv_S hk, by rw [ey]; exact lo_N a1 a2 hN5⟩ n1
    · obtain ⟨k1, hk1, hk1', rfl⟩ := hy.k hN5
      obtain ⟨o', c1, c2⟩ := iv_forget hN5 hA hk hk1 hk1' h1
      refine ⟨o', c1, hM.kept h4 (by omega), fun r' w2 hp => ?_⟩
      obtain ⟨⟨th', R', E', q1, q2⟩, q3⟩ := hp
      exact absurd e2 ((c2 _ _ _ _ q1).2 e1)
set_option maxHeartbeats 1000000 in
theorem lo_within {cJ cI cZ cS : ClassId} {A A2 : Nat → Nat} {o N : Nat} {sf : Nat → Option Nat} {ws w1 : va_W} {r th : Int32} {K B : Nat → Nat → Int64} {E : Nat → Int32} {Km Bm : Nat → Int64} {Em : Int32} {Lf Tr nu ne : Nat → Int64} {m1 : Nat} {R : Nat → Int64} {EM : Nat → Int32} {Pt : Nat → Int64} {nA nB : Nat → Int32} {nC : Nat → Int64} {x : Int32} {y : Int32} (hN1 : 1 ≤ N) (hN5 : N ≤ 5) (h : LX cJ cI cZ cS A A2 o N sf ws K B E Km Bm Em Lf Tr nu ne m1 th R EM Pt nA nB nC) (hw : (hq_i cJ 64 o hb_z (fun r w => ((okS x ∧ okS y) ∧ ∃ k, k < 8 ∧ x = nI k ∧ ∃ k2, k2 < 8 ∧ y = nI k2 ∧ ((¬ E k = 0 ∧ r = nI 1) ∨ (E k = 0 ∧ ¬ E k2 = 0 ∧ r = nI 0) ∨ (E k = 0 ∧ E k2 = 0 ∧ ((r = nI 1 ∧ ∀ i, i < 2 * N → ∀ t, t < 2 * N - i → B k (i * (2 * N) + (i + t)) ≤ B k2 (i * (2 * N) + (i + t))) ∨ (r = nI 0 ∧ ¬ ∀ i, i < 2 * N → ∀ t, t < 2 * N - i → B k (i * (2 * N) + (i + t)) ≤ B k2 (i * (2 * N) + (i + t))))))) ∧ w = ws) (fun Z w => Z = xIOOB ∧ ¬ (okS x ∧ okS y) ∧ w = ws) cd_1) r w1) : mS cJ cI cZ w1 53 A2 N th m1 R EM Pt nA nB nC ∧ ∀ (r' : Int32) w2, (fun r w => (∃ th', ((¬ (okS x ∧ okS y) ∧ th' = nI 1) ∨ (∃ k1 k2, k1 < 8 ∧ k2 < 8 ∧ x = nI k1 ∧ y = nI k2 ∧ th' = nI 0 ∧ ((¬ EM k1 = 0 ∧ r = nI 1) ∨ (EM k1 = 0 ∧ ∃ F z, lm_ag N F ((fun k => iv_mat N (B k)) k1) ∧ ((EM k2 = 0 ∧ z = nI 1) ∨ (¬ EM k2 = 0 ∧ z = nI 0)) ∧ r = lm_wtO F R k2 (2 * N) (2 * N) z)))) ∧ mS cJ cI cZ w 53 A2 N th' m1 R EM Pt nA nB nC) ∧ gF 53 (53 + 11) w1 w) r' w2 → LQ cJ cI cZ cS A A2 o N sf w2 r (hb_z r') := by
  obtain ⟨hx0, hM, ⟨f, ho⟩, hA, hP, hNe, hEm, hm⟩ := h
  rcases hw with ⟨rfl, r1, w0, f0, ⟨⟨_, k, hk, rfl, k2, hk2, rfl, hv⟩, rfl⟩, hout, hf⟩ | ⟨Z, ⟨rfl, n1, rfl⟩, rfl⟩
  · refine ⟨hM.kept hf (by omega), fun r' w2 hp => ?_⟩
    obtain ⟨⟨th', q1, q2⟩, q3⟩ := hp
    rcases q1 with ⟨n1, _⟩ | ⟨k', k2', hk', hk2', e, e2, rfl, q1⟩
    · exact absurd ⟨iv_S hk, iv_S hk2⟩ n1
    · have g1 := iv_8 hk hk' e
      subst g1
      have g2 := iv_8 hk2 hk2' e2
      subst g2
      refine lq_of (hx0.kept hf (by omega)) q2 hout q3 hA hP hNe hEm hm rfl (fun _ => ?_)
      rw [vl_eq]
      rw [(hA k hk).2.2, (hA k2 hk2).2.2] at q1
      congr 1
      rcases hv with ⟨e0, rfl⟩ | ⟨e0, e9, rfl⟩ | ⟨e0, e9, hv⟩
      · rcases q1 with ⟨_, rfl⟩ | ⟨n0, _⟩
        · rfl
        · exact absurd n0 e0
      · rcases q1 with ⟨n0, _⟩ | ⟨_, F, z, hag, hz, rfl⟩
        · exact absurd e0 n0
        · rcases hz with ⟨n0, _⟩ | ⟨_, rfl⟩
          · exact absurd n0 e9
          · rcases iv_wt2 (P := fun i j => lm_db i j (R (100 * k2 + 10 * i + j)) < F (10 * i + j)) (n := 2 * N) (m := 2 * N) (z := nI 0) (Or.inl rfl) with ⟨_, n0, _⟩ | ⟨a, _⟩
            · exact absurd n0 (by decide)
            · exact a.symm
      · rcases q1 with ⟨n0, _⟩ | ⟨_, F, z, hag, hz, rfl⟩
        · exact absurd e0 n0
        · rcases hz with ⟨_, rfl⟩ | ⟨n0, _⟩
          · rcases iv_within hN5 hA hk hk2 e0 e9 hag with ⟨a, b⟩ | ⟨a, b⟩
            · rcases hv with ⟨rfl, _⟩ | ⟨_, hv⟩
              · exact a.symm
              · exact absurd b hv
            · rcases hv with ⟨_, hv⟩ | ⟨rfl, _⟩
              · exact absurd hv b
              · exact a.symm
          · exact absurd e9 n0
  · refine ⟨hM, fun r' w2 hp => ?_⟩
    obtain ⟨⟨th', q1, q2⟩, q3⟩ := hp
    rcases q1 with ⟨_, rfl⟩ | ⟨k', k2', hk', hk2', e, e2, _⟩
    · exact lq_of hx0 q2 ho q3 hA hP hNe hEm hm cd1.symm (fun z => absurd (cd1.symm.trans z) n10)
    · exact absurd ⟨by rw [e]; exact iv_S hk', by rw [e2]; exact iv_S hk2'⟩ n1
set_option maxHeartbeats 1000000 in
theorem lo_put {cJ cI cZ cS : ClassId} {A A2 : Nat → Nat} {o N : Nat} {sf : Nat → Option Nat} {ws w1 : va_W} {r th : Int32} {K B : Nat → Nat → Int64} {E : Nat → Int32} {Km Bm : Nat → Int64} {Em : Int32} {Lf Tr nu ne : Nat → Int64} {m1 : Nat} {R : Nat → Int64} {EM : Nat → Int32} {Pt : Nat → Int64} {nA nB : Nat → Int32} {nC : Nat → Int64} {x : Int32} {v : Int64} (hN1 : 1 ≤ N) (hN5 : N ≤ 5) (h : LX cJ cI cZ cS A A2 o N sf ws K B E Km Bm Em Lf Tr nu ne m1 th R EM Pt nA nB nC) (hw : (hq_i cJ 64 o (fun r : Int64 => r) (fun r w => okN N x ∧ okG v ∧ ∃ k, 1 ≤ k ∧ k ≤ N ∧ x = nI k ∧ r = nu (k - 1) ∧ xAt cJ cS w 0 A N sf K B E Km Bm Em Lf Tr (vp_updL nu (k - 1) v) ne (nI m1) ∧ gF 0 (0 + 53) ws w) (fun Z w => (Z = xIOOB ∧ ¬ okN N x ∧ w = ws) ∨ (Z = xIAE ∧ okN N x ∧ ¬ okG v ∧ w = ws)) cd_12) r w1) : mS cJ cI cZ w1 53 A2 N th m1 R EM Pt nA nB nC ∧ ∀ (r' : Int64) w2, (fun r w => (∃ th' P', ((¬ okN N x ∧ th' = nI 1 ∧ P' = Pt) ∨ (okN N x ∧ ¬ okG v ∧ th' = nI 2 ∧ P' = Pt) ∨ (∃ k, 1 ≤ k ∧ k ≤ N ∧ x = nI k ∧ okG v ∧ th' = nI 0 ∧ r = Pt k ∧ P' = vp_updL Pt k v)) ∧ mS cJ cI cZ w 53 A2 N th' m1 R EM P' nA nB nC) ∧ gF 53 (53 + 11) w1 w) r' w2 → LQ cJ cI cZ cS A A2 o N sf w2 r (r') := by
  obtain ⟨hx0, hM, ⟨f, ho⟩, hA, hP, hNe, hEm, hm⟩ := h
  rcases hw with ⟨rfl, r1, w0, f0, ⟨_, hv, k, h1, h2, rfl, rfl, h3, h4⟩, hout, hf⟩ | ⟨Z, hxp, rfl⟩
  · refine ⟨(hM.kept h4 (by omega)).kept hf (by omega), fun r' w2 hp => ?_⟩
    obtain ⟨⟨th', P', q1, q2⟩, q3⟩ := hp
    rcases q1 with ⟨n1, _⟩ | ⟨_, n2, _⟩ | ⟨k', h1', h2', e, _, rfl, rfl, rfl⟩
    · exact absurd (lo_N h1 h2 hN5) n1
    · exact absurd hv n2
    · have := iv_8 (show k < 8 by omega) (show k' < 8 by omega) e
      subst this
      obtain ⟨p1, p2⟩ := iv_put hP h1 h2 hv
      exact lq_of (h3.kept hf (by omega)) q2 hout q3 hA p2 hNe hEm hm rfl (fun _ => (vl_eq _ _ _).trans p1.symm)
  · rcases hxp with ⟨rfl, n1, rfl⟩ | ⟨rfl, n1, n2, rfl⟩
    · refine ⟨hM, fun r' w2 hp => ?_⟩
      obtain ⟨⟨th', P', q1, q2⟩, q3⟩ := hp
      rcases q1 with ⟨_, rfl, rfl⟩ | ⟨n2, _⟩ | ⟨k', h1', h2', e, _⟩
      · exact lq_of hx0 q2 ho q3 hA hP hNe hEm hm cd12a.symm (fun z => absurd (cd12a.symm.trans z) n10)
      · exact absurd n2 n1
      · exact absurd (by rw [e]; exact lo_N h1' h2' hN5) n1
    · refine ⟨hM, fun r' w2 hp => ?_⟩
      obtain ⟨⟨th', P', q1, q2⟩, q3⟩ := hp
      rcases q1 with ⟨n3, _⟩ | ⟨_, _, rfl, rfl⟩ | ⟨k', h1', h2', e, hv, _⟩
      · exact absurd n1 n3
      · exact lq_of hx0 q2 ho q3 hA hP hNe hEm hm cd12b.symm (fun z => absurd (cd12b.symm.trans z) n20)
      · exact absurd hv n2
set_option maxHeartbeats 1000000 in
theorem lo_point {cJ cI cZ cS : ClassId} {A A2 : Nat → Nat} {o N : Nat} {sf : Nat → Option Nat} {ws w1 : va_W} {r th : Int32} {K B : Nat → Nat → Int64} {E : Nat → Int32} {Km Bm : Nat → Int64} {Em : Int32} {Lf Tr nu ne : Nat → Int64} {m1 : Nat} {R : Nat → Int64} {EM : Nat → Int32} {Pt : Nat → Int64} {nA nB : Nat → Int32} {nC : Nat → Int64} {x : Int32} (hN1 : 1 ≤ N) (hN5 : N ≤ 5) (h : LX cJ cI cZ cS A A2 o N sf ws K B E Km Bm Em Lf Tr nu ne m1 th R EM Pt nA nB nC) (hw : (hq_i cJ 64 o (fun r : Int64 => r) (fun r w => (okN N x ∧ ∃ k, 1 ≤ k ∧ k ≤ N ∧ x = nI k ∧ r = nu (k - 1)) ∧ w = ws) (fun Z w => Z = xIOOB ∧ ¬ (okN N x) ∧ w = ws) cd_1) r w1) : mS cJ cI cZ w1 53 A2 N th m1 R EM Pt nA nB nC ∧ ∀ (r' : Int64) w2, (fun r w => (∃ th', ((¬ okN N x ∧ th' = nI 1) ∨ (∃ k, 1 ≤ k ∧ k ≤ N ∧ x = nI k ∧ th' = nI 0 ∧ r = Pt k)) ∧ mS cJ cI cZ w 53 A2 N th' m1 R EM Pt nA nB nC) ∧ gF 53 (53 + 11) w1 w) r' w2 → LQ cJ cI cZ cS A A2 o N sf w2 r (r') := by
  obtain ⟨hx0, hM, ⟨f, ho⟩, hA, hP, hNe, hEm, hm⟩ := h
  rcases hw with ⟨rfl, r1, w0, f0, ⟨⟨_, k, h1, h2, rfl, rfl⟩, rfl⟩, hout, hf⟩ | ⟨Z, ⟨rfl, n1, rfl⟩, rfl⟩
  · refine ⟨hM.kept hf (by omega), fun r' w2 hp => ?_⟩
    obtain ⟨⟨th', q1, q2⟩, q3⟩ := hp
    rcases q1 with ⟨n1, _⟩ | ⟨k', h1', h2', e, rfl, rfl⟩
    · exact absurd (lo_N h1 h2 hN5) n1
    · have := iv_8 (show k < 8 by omega) (show k' < 8 by omega) e
      subst this
      refine lq_of (hx0.kept hf (by omega)) q2 hout q3 hA hP hNe hEm hm rfl (fun _ => (vl_eq _ _ _).trans ?_)
      have := (hP (k - 1) (by omega)).1
      rw [show k - 1 + 1 = k by omega] at this
      exact this.symm
  · refine ⟨hM, fun r' w2 hp => ?_⟩
    obtain ⟨⟨th', q1, q2⟩, q3⟩ := hp
    rcases q1 with ⟨_, rfl⟩ | ⟨k', h1', h2', e, _⟩
    · exact lq_of hx0 q2 ho q3 hA hP hNe hEm hm cd1.symm (fun z => absurd (cd1.symm.trans z) n10)
    · exact absurd (by rw [e]; exact lo_N h1' h2' hN5) n1
set_option maxHeartbeats 1000000 in
theorem lo_has {cJ cI cZ cS : ClassId} {A A2 : Nat → Nat} {o N : Nat} {sf : Nat → Option Nat} {ws w1 : va_W} {r th : Int32} {K B : Nat → Nat → Int64} {E : Nat → Int32} {Km Bm : Nat → Int64} {Em : Int32} {Lf Tr nu ne : Nat → Int64} {m1 : Nat} {R : Nat → Int64} {EM : Nat → Int32} {Pt : Nat → Int64} {nA nB : Nat → Int32} {nC : Nat → Int64} {x : Int32} (hN1 : 1 ≤ N) (hN5 : N ≤ 5) (h : LX cJ cI cZ cS A A2 o N sf ws K B E Km Bm Em Lf Tr nu ne m1 th R EM Pt nA nB nC) (hw : (hq_i cJ 64 o hb_z (fun r w => (okS x ∧ ∃ k, k < 8 ∧ x = nI k ∧ ((¬ E k = 0 ∧ r = nI 0) ∨ (E k = 0 ∧ ((r = nI 1 ∧ ∀ i, i < 2 * N → ∀ t, t < 2 * N - i → lr_num nu i + lr_num nu (i + t) ≤ B k (i * (2 * N) + (i + t))) ∨ (r = nI 0 ∧ ¬ ∀ i, i < 2 * N → ∀ t, t < 2 * N - i → lr_num nu i + lr_num nu (i + t) ≤ B k (i * (2 * N) + (i + t))))))) ∧ w = ws) (fun Z w => Z = xIOOB ∧ ¬ (okS x) ∧ w = ws) cd_1) r w1) : mS cJ cI cZ w1 53 A2 N th m1 R EM Pt nA nB nC ∧ ∀ (r' : Int32) w2, (fun r w => (∃ th', ((¬ okS x ∧ th' = nI 1) ∨ (∃ k, k < 8 ∧ x = nI k ∧ th' = nI 0 ∧ ((¬ EM k = 0 ∧ r = nI 0) ∨ (EM k = 0 ∧ r = lm_hsO Pt R k (2 * N) (2 * N) (nI 1))))) ∧ mS cJ cI cZ w 53 A2 N th' m1 R EM Pt nA nB nC) ∧ gF 53 (53 + 11) w1 w) r' w2 → LQ cJ cI cZ cS A A2 o N sf w2 r (hb_z r') := by
  obtain ⟨hx0, hM, ⟨f, ho⟩, hA, hP, hNe, hEm, hm⟩ := h
  rcases hw with ⟨rfl, r1, w0, f0, ⟨⟨_, k, hk, rfl, hv⟩, rfl⟩, hout, hf⟩ | ⟨Z, ⟨rfl, n1, rfl⟩, rfl⟩
  · refine ⟨hM.kept hf (by omega), fun r' w2 hp => ?_⟩
    obtain ⟨⟨th', q1, q2⟩, q3⟩ := hp
    rcases q1 with ⟨n1, _⟩ | ⟨k', hk', e, rfl, q1⟩
    · exact absurd (iv_S hk) n1
    · have := iv_8 hk hk' e
      subst this
      refine lq_of (hx0.kept hf (by omega)) q2 hout q3 hA hP hNe hEm hm rfl (fun _ => ?_)
      rw [vl_eq]
      rw [(hA k hk).2.2] at q1
      congr 1
      rcases hv with ⟨e0, rfl⟩ | ⟨e0, hv⟩
      · rcases q1 with ⟨_, rfl⟩ | ⟨n0, _⟩
        · rfl
        · exact absurd n0 e0
      · rcases q1 with ⟨n0, _⟩ | ⟨_, rfl⟩
        · exact absurd e0 n0
        · rcases iv_has hN5 hA hk e0 hP with ⟨a, b⟩ | ⟨a, b⟩
          · rcases hv with ⟨rfl, _⟩ | ⟨_, hv⟩
            · exact a.symm
            · exact absurd b hv
          · rcases hv with ⟨_, hv⟩ | ⟨rfl, _⟩
            · exact absurd hv b
            · exact a.symm
  · refine ⟨hM, fun r' w2 hp => ?_⟩
    obtain ⟨⟨th', q1, q2⟩, q3⟩ := hp
    rcases q1 with ⟨_, rfl⟩ | ⟨k', hk', e, _⟩
    · exact lq_of hx0 q2 ho q3 hA hP hNe hEm hm cd1.symm (fun z => absurd (cd1.symm.trans z) n10)
    · exact absurd (by rw [e]; exact iv_S hk') n1
set_option maxHeartbeats 1000000 in
theorem lo_sample {cJ cI cZ cS : ClassId} {A A2 : Nat → Nat} {o N : Nat} {sf : Nat → Option Nat} {ws w1 : va_W} {r th : Int32} {K B : Nat → Nat → Int64} {E : Nat → Int32} {Km Bm : Nat → Int64} {Em : Int32} {Lf Tr nu ne : Nat → Int64} {m1 : Nat} {R : Nat → Int64} {EM : Nat → Int32} {Pt : Nat → Int64} {nA nB : Nat → Int32} {nC : Nat → Int64} {x : Int32} (hN1 : 1 ≤ N) (hN5 : N ≤ 5) (h : LX cJ cI cZ cS A A2 o N sf ws K B E Km Bm Em Lf Tr nu ne m1 th R EM Pt nA nB nC) (hw : (hq_i cJ 64 o hb_z (fun r w => okS x ∧ ∃ k, k < 8 ∧ x = nI k ∧ ∃ nu2, ((¬ E k = 0 ∧ r = nI 0 ∧ nu2 = nu) ∨ (E k = 0 ∧ r = nI 1 ∧ nu2 = lr_smpI (B k) nu (2 * N) N)) ∧ xAt cJ cS w 0 A N sf K B E Km Bm Em Lf Tr nu2 ne (nI m1) ∧ gF 0 (0 + 53) ws w) (fun Z w => Z = xIOOB ∧ ¬ (okS x) ∧ w = ws) cd_1) r w1) : ∃ YS : Nat → Nat → Nat → Int64, (∀ k, k < 8 → x = nI k → EM k = 0 → YS 0 = iv_mat N (B k) ∧ ∀ t, t < N → lm_Cl N (lm_smM (YS t) (1 + t)) (some (YS (t + 1)))) ∧ mS cJ cI cZ w1 53 A2 N th m1 R EM Pt nA nB nC ∧ ∀ (r' : Int32) w2, (fun r w => (∃ th' P', ((¬ okS x ∧ th' = nI 1 ∧ P' = Pt) ∨ (∃ k, k < 8 ∧ x = nI k ∧ th' = nI 0 ∧ ((¬ EM k = 0 ∧ r = nI 0 ∧ P' = Pt) ∨ (EM k = 0 ∧ r = nI 1 ∧ P' = lm_smP YS N Pt)))) ∧ mS cJ cI cZ w 53 A2 N th' m1 R EM P' nA nB nC) ∧ gF 53 (53 + 11) w1 w) r' w2 → LQ cJ cI cZ cS A A2 o N sf w2 r (hb_z r') := by
  obtain ⟨hx0, hM, ⟨f, ho⟩, hA, hP, hNe, hEm, hm⟩ := h
  rcases hw with ⟨rfl, r1, w0, f0, ⟨_, k, hk, rfl, nu2, hv, h3, h4⟩, hout, hf⟩ | ⟨Z, ⟨rfl, n1, rfl⟩, rfl⟩
  · have hm0 := (hA k hk).2.2
    rcases hv with ⟨e0, rfl, rfl⟩ | ⟨e0, rfl, rfl⟩
    · refine ⟨fun _ _ _ => 0, fun k' hk' e w => ?_, (hM.kept h4 (by omega)).kept hf (by omega), fun r' w2 hp => ?_⟩
      · rw [← iv_8 hk hk' e, hm0] at w; exact absurd w e0
      · obtain ⟨⟨th', P', q1, q2⟩, q3⟩ := hp
        rcases q1 with ⟨n1, _⟩ | ⟨k', hk', e, rfl, q1⟩
        · exact absurd (iv_S hk) n1
        · rw [← iv_8 hk hk' e, hm0] at q1
          rcases q1 with ⟨_, rfl, rfl⟩ | ⟨n0, _⟩
          · exact lq_of (h3.kept hf (by omega)) q2 hout q3 hA hP hNe hEm hm rfl (fun _ => vl_eq _ _ _)
          · exact absurd n0 e0
    · obtain ⟨s1, s2⟩ := iv_sample hN5 hA hk e0 hP
      refine ⟨lg_Y N (B k) nu, s1, (hM.kept h4 (by omega)).kept hf (by omega), fun r' w2 hp => ?_⟩
      obtain ⟨⟨th', P', q1, q2⟩, q3⟩ := hp
      rcases q1 with ⟨n1, _⟩ | ⟨k', hk', e, rfl, q1⟩
      · exact absurd (iv_S hk) n1
      · rw [← iv_8 hk hk' e, hm0] at q1
        rcases q1 with ⟨n0, _⟩ | ⟨_, rfl, rfl⟩
        · exact absurd e0 n0
        · exact lq_of (h3.kept hf (by omega)) q2 hout q3 hA s2 hNe hEm hm rfl (fun _ => vl_eq _ _ _)
  · refine ⟨fun _ _ _ => 0, fun k' hk' e _ => absurd (by rw [e]; exact iv_S hk') n1, hM, fun r' w2 hp => ?_⟩
    obtain ⟨⟨th', P', q1, q2⟩, q3⟩ := hp
    rcases q1 with ⟨_, rfl, rfl⟩ | ⟨k', hk', e, _⟩
    · exact lq_of hx0 q2 ho q3 hA hP hNe hEm hm cd1.symm (fun z => absurd (cd1.symm.trans z) n10)
    · exact absurd (by rw [e]; exact iv_S hk') n1
set_option maxHeartbeats 1000000 in
theorem lo_needed {cJ cI cZ cS : ClassId} {A A2 : Nat → Nat} {o N : Nat} {sf : Nat → Option Nat} {ws w1 : va_W} {r th : Int32} {K B : Nat → Nat → Int64} {E : Nat → Int32} {Km Bm : Nat → Int64} {Em : Int32} {Lf Tr nu ne : Nat → Int64} {m1 : Nat} {R : Nat → Int64} {EM : Nat → Int32} {Pt : Nat → Int64} {nA nB : Nat → Int32} {nC : Nat → Int64} {x : Int32} (hN1 : 1 ≤ N) (hN5 : N ≤ 5) (h : LX cJ cI cZ cS A A2 o N sf ws K B E Km Bm Em Lf Tr nu ne m1 th R EM Pt nA nB nC) (hw : (hq_i cJ 64 o (fun r : Int32 => r.toInt64) (fun r w => okS x ∧ ∃ k, k < 8 ∧ x = nI k ∧ ∃ m2 ne2 L2 T2, lr_ndO (B k) (E k) (2 * N) Lf ne m2 ne2 ∧ m2 ≤ 2 * (N * N) ∧ r = nI m2 ∧ xAt cJ cS w 0 A N sf K B E Km Bm Em L2 T2 nu ne2 (nI m2) ∧ gF 0 (0 + 53) ws w) (fun Z w => Z = xIOOB ∧ ¬ (okS x) ∧ w = ws) cd_1) r w1) : ∃ YS : Nat → Nat → Nat → Int64, (∀ k, k < 8 → x = nI k → EM k = 0 → ∀ Lf t, t < (lm_lst (iv_mat N (B k)) N nA nB nC Lf).1 → lm_Cl N (lm_bld (lm_lst (iv_mat N (B k)) N nA nB nC Lf) (upd (lm_el (lm_lst (iv_mat N (B k)) N nA nB nC Lf) YS t) ((lm_lst (iv_mat N (B k)) N nA nB nC Lf).1 - (t + 1)) (nI 0)) (lm_lst (iv_mat N (B k)) N nA nB nC Lf).1) (some (YS ((lm_lst (iv_mat N (B k)) N nA nB nC Lf).1 - (t + 1))))) ∧ mS cJ cI cZ w1 53 A2 N th m1 R EM Pt nA nB nC ∧ ∀ (r' : Int32) w2, (fun r w => (∃ th' n' a' b' c', ((¬ okS x ∧ th' = nI 1 ∧ n' = m1 ∧ a' = nA ∧ b' = nB ∧ c' = nC) ∨ (∃ k, k < 8 ∧ x = nI k ∧ th' = nI 0 ∧ r = nI n' ∧ n' ≤ 60 ∧ ((¬ EM k = 0 ∧ n' = 1 ∧ a' = upd nA 0 (nI 0) ∧ b' = upd nB 0 (nI 0) ∧ c' = vp_updL nC 0 (-1)) ∨ (EM k = 0 ∧ ∃ Lf, (n', a', b', c') = lm_ndF (lm_lst ((fun k => iv_mat N (B k)) k) N nA nB nC Lf) YS)))) ∧ mS cJ cI cZ w 53 A2 N th' n' R EM Pt a' b' c') ∧ gF 53 (53 + 11) w1 w) r' w2 → LQ cJ cI cZ cS A A2 o N sf w2 r (r'.toInt64) := by
  obtain ⟨hx0, hM, ⟨f, ho⟩, hA, hP, hNe, hEm, hm⟩ := h
  rcases hw with ⟨rfl, r1, w0, f0, ⟨_, k, hk, rfl, m2, ne2, L2, T2, hv, hm2, rfl, h3, h4⟩, hout, hf⟩ | ⟨Z, ⟨rfl, n1, rfl⟩, rfl⟩
  · have hm0 := (hA k hk).2.2
    rcases hv with ⟨e0, rfl, rfl⟩ | ⟨e0, L3, L4, v1, v2, v3⟩
    · refine ⟨fun _ _ _ => 0, fun k' hk' e w => ?_, (hM.kept h4 (by omega)).kept hf (by omega), fun r' w2 hp => ?_⟩
      · rw [← iv_8 hk hk' e, hm0] at w; exact absurd w e0
      · obtain ⟨⟨th', n', a', b', c', q1, q2⟩, q3⟩ := hp
        rcases q1 with ⟨n1, _⟩ | ⟨k', hk', e, rfl, rfl, _, q1⟩
        · exact absurd (iv_S hk) n1
        · rw [← iv_8 hk hk' e, hm0] at q1
          rcases q1 with ⟨_, rfl, rfl, rfl, rfl⟩ | ⟨n0, _⟩
          · refine lq_of (h3.kept hf (by omega)) q2 hout q3 hA hP (fun q hq => ?_) hEm hm2 rfl (fun _ => vl_eq _ _ _)
            have : q = 0 := by omega
            subst this
            unfold lr_tell
            rw [vl_ne (by omega), vl_ne (by omega), vl_eq, vl_ne (by omega), vl_eq, vl_eq, lm_upd_k, lm_upd_k, vl_eq]
            exact ⟨rfl, rfl, rfl⟩
          · exact absurd n0 e0
    · obtain ⟨s1, s2⟩ := iv_needed (nA := nA) (nB := nB) (nC := nC) hN5 hA hk e0 v1 v2 v3
      refine ⟨nd_Y N (B k), s1, (hM.kept h4 (by omega)).kept hf (by omega), fun r' w2 hp => ?_⟩
      obtain ⟨⟨th', n', a', b', c', q1, q2⟩, q3⟩ := hp
      rcases q1 with ⟨n1, _⟩ | ⟨k', hk', e, rfl, rfl, _, q1⟩
      · exact absurd (iv_S hk) n1
      · have := iv_8 hk hk' e
        subst this
        rw [hm0] at q1
        rcases q1 with ⟨n0, _⟩ | ⟨_, Lf0, q1⟩
        · exact absurd e0 n0
        · obtain ⟨rfl, s3⟩ := s2 _ _ _ _ _ q1
          exact lq_of (h3.kept hf (by omega)) q2 hout q3 hA hP s3 hEm hm2 rfl (fun _ => vl_eq _ _ _)
  · refine ⟨fun _ _ _ => 0, fun k' hk' e _ => absurd (by rw [e]; exact iv_S hk') n1, hM, fun r' w2 hp => ?_⟩
    obtain ⟨⟨th', n', a', b', c', q1, q2⟩, q3⟩ := hp
    rcases q1 with ⟨_, rfl, rfl, rfl, rfl, rfl⟩ | ⟨k', hk', e, _⟩
    · exact lq_of hx0 q2 ho q3 hA hP hNe hEm hm cd1.symm (fun z => absurd (cd1.symm.trans z) n10)
    · exact absurd (by rw [e]; exact iv_S hk') n1
set_option maxHeartbeats 1000000 in
theorem lo_needs {cJ cI cZ cS : ClassId} {A A2 : Nat → Nat} {o N : Nat} {sf : Nat → Option Nat} {ws w1 : va_W} {r th : Int32} {K B : Nat → Nat → Int64} {E : Nat → Int32} {Km Bm : Nat → Int64} {Em : Int32} {Lf Tr nu ne : Nat → Int64} {m1 : Nat} {R : Nat → Int64} {EM : Nat → Int32} {Pt : Nat → Int64} {nA nB : Nat → Int32} {nC : Nat → Int64} {x : Int32} {y : Int32} (hN1 : 1 ≤ N) (hN5 : N ≤ 5) (h : LX cJ cI cZ cS A A2 o N sf ws K B E Km Bm Em Lf Tr nu ne m1 th R EM Pt nA nB nC) (hw : (hq_i cJ 64 o (fun r : Int64 => r) (fun r w => (okK m1 x y ∧ ∃ k, k < m1 ∧ x = nI k ∧ ∃ q, q < 3 ∧ y = nI q ∧ r = ne (3 * k + q)) ∧ w = ws) (fun Z w => Z = xIOOB ∧ ¬ (okK m1 x y) ∧ w = ws) cd_1) r w1) : mS cJ cI cZ w1 53 A2 N th m1 R EM Pt nA nB nC ∧ ∀ (r' : Int64) w2, (fun r w => (∃ th', ((¬ lm_okK m1 x y ∧ th' = nI 1) ∨ (∃ k q, k < m1 ∧ q < 3 ∧ x = nI k ∧ y = nI q ∧ th' = nI 0 ∧ r = if q = 0 then (nA k).toInt64 else if q = 1 then (nB k).toInt64 else nC k)) ∧ mS cJ cI cZ w 53 A2 N th' m1 R EM Pt nA nB nC) ∧ gF 53 (53 + 11) w1 w) r' w2 → LQ cJ cI cZ cS A A2 o N sf w2 r (r') := by
  obtain ⟨hx0, hM, ⟨f, ho⟩, hA, hP, hNe, hEm, hm⟩ := h
  have h50 : m1 ≤ 50 := by have := lr_nn hN5; omega
  have hok : okK m1 x y ↔ lm_okK m1 x y := by
    constructor
    · intro h
      obtain ⟨k, hk, rfl, q, hq, rfl⟩ := h.k (by omega)
      exact ⟨h.1, h.2.1, fun w => by have := (nI_ltI (a := 2) (b := q) (by omega) (by omega)).mp w; omega⟩
    · intro h
      obtain ⟨k, hk, rfl, q, hq, rfl⟩ := h.k (by omega)
      exact ⟨h.1, h.2.1, (nI_ltI (a := q) (b := 3) (by omega) (by omega)).mpr hq⟩
  rcases hw with ⟨rfl, r1, w0, f0, ⟨⟨h1, k, hk, rfl, q, hq, rfl, rfl⟩, rfl⟩, hout, hf⟩ | ⟨Z, ⟨rfl, n1, rfl⟩, rfl⟩
  · refine ⟨hM.kept hf (by omega), fun r' w2 hp => ?_⟩
    obtain ⟨⟨th', q1, q2⟩, q3⟩ := hp
    rcases q1 with ⟨n1, _⟩ | ⟨k', q', hk', hq', e, e2, rfl, rfl⟩
    · exact absurd (hok.mp h1) n1
    · have g1 := (nI_eq (a := k) (b := k') (by omega) (by omega)).mp e
      subst g1
      have g2 := (nI_eq (a := q) (b := q') (by omega) (by omega)).mp e2
      subst g2
      refine lq_of (hx0.kept hf (by omega)) q2 hout q3 hA hP hNe hEm hm rfl (fun _ => (vl_eq _ _ _).trans ?_)
      obtain ⟨a, b, d⟩ := hNe k hk
      rcases (show q = 0 ∨ q = 1 ∨ q = 2 by omega) with rfl | rfl | rfl
      · rw [if_pos rfl]; exact a
      · rw [if_neg (by omega), if_pos rfl]; exact b
      · rw [if_neg (by omega), if_neg (by omega)]; exact d
  · refine ⟨hM, fun r' w2 hp => ?_⟩
    obtain ⟨⟨th', q1, q2⟩, q3⟩ := hp
    rcases q1 with ⟨_, rfl⟩ | ⟨k', q', hk', hq', rfl, rfl, _⟩
    · exact lq_of hx0 q2 ho q3 hA hP hNe hEm hm cd1.symm (fun z => absurd (cd1.symm.trans z) n10)
    · exact absurd ⟨⟨nI_pos (by omega), fun w => by have := (nI_leI (a := m1) (b := k') (by omega) (by omega)).mp w; omega⟩, nI_pos (by omega), (nI_ltI (a := q') (b := 3) (by omega) (by omega)).mpr hq'⟩ n1
set_option maxHeartbeats 1000000 in
theorem lo_fits {cJ cI cZ cS : ClassId} {A A2 : Nat → Nat} {o N : Nat} {sf : Nat → Option Nat} {ws w1 : va_W} {r th : Int32} {K B : Nat → Nat → Int64} {E : Nat → Int32} {Km Bm : Nat → Int64} {Em : Int32} {Lf Tr nu ne : Nat → Int64} {m1 : Nat} {R : Nat → Int64} {EM : Nat → Int32} {Pt : Nat → Int64} {nA nB : Nat → Int32} {nC : Nat → Int64} {x : Int32} {y : Int32} {z : Int32} (hN1 : 1 ≤ N) (hN5 : N ≤ 5) (h : LX cJ cI cZ cS A A2 o N sf ws K B E Km Bm Em Lf Tr nu ne m1 th R EM Pt nA nB nC) (hw : (hq_i cJ 64 o hb_z (fun r w => ((okS x ∧ okT N y) ∧ okB z ∧ ∃ k, k < 8 ∧ x = nI k ∧ ((r = nI 1 ∧ (lr_gr (B k) (2 * N) (E k) y (nI 0) ≤ ((1 : Int64) <<< ((z - nI 1).toInt64 &&& 63)) - 1 ∧ lr_gr (B k) (2 * N) (E k) (-y) (nI 0) ≤ (1 : Int64) <<< ((z - nI 1).toInt64 &&& 63))) ∨ (r = nI 0 ∧ ¬ (lr_gr (B k) (2 * N) (E k) y (nI 0) ≤ ((1 : Int64) <<< ((z - nI 1).toInt64 &&& 63)) - 1 ∧ lr_gr (B k) (2 * N) (E k) (-y) (nI 0) ≤ (1 : Int64) <<< ((z - nI 1).toInt64 &&& 63))))) ∧ w = ws) (fun Z w => (Z = xIOOB ∧ ¬ (okS x ∧ okT N y) ∧ w = ws) ∨ (Z = xIAE ∧ (okS x ∧ okT N y) ∧ ¬ okB z ∧ w = ws)) cd_12) r w1) : mS cJ cI cZ w1 53 A2 N th m1 R EM Pt nA nB nC ∧ ∀ (r' : Int32) w2, (fun r w => (∃ th', ((¬ (okS x ∧ okT N y) ∧ th' = nI 1) ∨ ((okS x ∧ okT N y) ∧ ¬ okB z ∧ th' = nI 2) ∨ (∃ k, k < 8 ∧ x = nI k ∧ okT N y ∧ okB z ∧ th' = nI 0 ∧ ((¬ EM k = 0 ∧ r = nI 1) ∨ (EM k = 0 ∧ (((lm_bd ((fun k => iv_mat N (B k)) k) y (nI 0) ≤ ((1 : Int64) <<< ((z - nI 1).toInt64 &&& 63)) - 1 ∧ lm_bd ((fun k => iv_mat N (B k)) k) (-y) (nI 0) ≤ ((1 : Int64) <<< ((z - nI 1).toInt64 &&& 63))) ∧ r = nI 1) ∨ (¬ (lm_bd ((fun k => iv_mat N (B k)) k) y (nI 0) ≤ ((1 : Int64) <<< ((z - nI 1).toInt64 &&& 63)) - 1 ∧ lm_bd ((fun k => iv_mat N (B k)) k) (-y) (nI 0) ≤ ((1 : Int64) <<< ((z - nI 1).toInt64 &&& 63))) ∧ r = nI 0)))))) ∧ mS cJ cI cZ w 53 A2 N th' m1 R EM Pt nA nB nC) ∧ gF 53 (53 + 11) w1 w) r' w2 → LQ cJ cI cZ cS A A2 o N sf w2 r (hb_z r') := by
  obtain ⟨hx0, hM, ⟨f, ho⟩, hA, hP, hNe, hEm, hm⟩ := h
  rcases hw with ⟨rfl, r1, w0, f0, ⟨⟨⟨_, hy⟩, hz, k, hk, rfl, hv⟩, rfl⟩, hout, hf⟩ | ⟨Z, hxp, rfl⟩
  · refine ⟨hM.kept hf (by omega), fun r' w2 hp => ?_⟩
    obtain ⟨⟨th', q1, q2⟩, q3⟩ := hp
    rcases q1 with ⟨n1, _⟩ | ⟨_, n2, _⟩ | ⟨k', hk', e, _, _, rfl, q1⟩
    · exact absurd ⟨iv_S hk, hy⟩ n1
    · exact absurd hz n2
    · have := iv_8 hk hk' e
      subst this
      refine lq_of (hx0.kept hf (by omega)) q2 hout q3 hA hP hNe hEm hm rfl (fun _ => ?_)
      rw [vl_eq]
      rw [(hA k hk).2.2] at q1
      congr 1
      rcases q1 with ⟨e0, rfl⟩ | ⟨e0, q1⟩
      · have g : ∀ u, lr_gr (B k) (2 * N) (E k) u (nI 0) = -4611686018427387904 := fun u => by unfold lr_gr; rw [if_neg e0]
        rw [g, g] at hv
        rcases hv with ⟨h, _⟩ | ⟨_, h⟩
        · exact h
        · exact absurd (iv_fitE hz) h
      · have g : ∀ u, lr_gr (B k) (2 * N) (E k) u (nI 0) = lm_bd (iv_mat N (B k)) u (nI 0) := fun u => by rw [e0]; exact iv_bd
        rw [g, g] at hv
        rcases hv with ⟨rfl, h⟩ | ⟨rfl, h⟩
        · rcases q1 with ⟨_, rfl⟩ | ⟨n0, _⟩
          · rfl
          · exact absurd h n0
        · rcases q1 with ⟨n0, _⟩ | ⟨_, rfl⟩
          · exact absurd n0 h
          · rfl
  · rcases hxp with ⟨rfl, n1, rfl⟩ | ⟨rfl, n1, n2, rfl⟩
    · refine ⟨hM, fun r' w2 hp => ?_⟩
      obtain ⟨⟨th', q1, q2⟩, q3⟩ := hp
      rcases q1 with ⟨_, rfl⟩ | ⟨n2, _⟩ | ⟨k', hk', e, hy, _⟩
      · exact lq_of hx0 q2 ho q3 hA hP hNe hEm hm cd12a.symm (fun z => absurd (cd12a.symm.trans z) n10)
      · exact absurd n2 n1
      · exact absurd ⟨by rw [e]; exact iv_S hk', hy⟩ n1
    · refine ⟨hM, fun r' w2 hp => ?_⟩
      obtain ⟨⟨th', q1, q2⟩, q3⟩ := hp
      rcases q1 with ⟨n3, _⟩ | ⟨_, _, rfl⟩ | ⟨k', hk', e, hy, hz, _⟩
      · exact absurd n1 n3
      · exact lq_of hx0 q2 ho q3 hA hP hNe hEm hm cd12b.symm (fun z => absurd (cd12b.symm.trans z) n20)
      · exact absurd hz n2
set_option maxHeartbeats 1000000 in
theorem lo_array {cJ cI cZ cS : ClassId} {A A2 : Nat → Nat} {o N : Nat} {sf : Nat → Option Nat} {ws w1 : va_W} {r th : Int32} {K B : Nat → Nat → Int64} {E : Nat → Int32} {Km Bm : Nat → Int64} {Em : Int32} {Lf Tr nu ne : Nat → Int64} {m1 : Nat} {R : Nat → Int64} {EM : Nat → Int32} {Pt : Nat → Int64} {nA nB : Nat → Int32} {nC : Nat → Int64} {x : Int32} {y : Int32} {z : Int32} (hN1 : 1 ≤ N) (hN5 : N ≤ 5) (h : LX cJ cI cZ cS A A2 o N sf ws K B E Km Bm Em Lf Tr nu ne m1 th R EM Pt nA nB nC) (hw : (hq_i cJ 64 o (fun r : Int32 => r.toInt64) (fun r w => (okS x ∧ okN N y ∧ okN N z ∧ ¬ y = z) ∧ ∃ k, k < 8 ∧ x = nI k ∧ ∃ Tr2, lr_arO (B k) (E k) Tr (2 * N) y z r ∧ xAt cJ cS w 0 A N sf K B E Km Bm Em Lf Tr2 nu ne (nI m1) ∧ gF 0 (0 + 53) ws w) (fun Z w => Z = xIOOB ∧ ¬ (okS x ∧ okN N y ∧ okN N z ∧ ¬ y = z) ∧ w = ws) cd_1) r w1) : ∃ o' : Option (Nat → Nat → Int64), (∀ k k1 k2, k < 8 → x = nI k → 1 ≤ k1 → k1 ≤ N → y = nI k1 → 1 ≤ k2 → k2 ≤ N → z = nI k2 → ¬ k1 = k2 → EM k = 0 → lm_Cl N (lm_arX (iv_mat N (B k)) k1 k2) o') ∧ mS cJ cI cZ w1 53 A2 N th m1 R EM Pt nA nB nC ∧ ∀ (r' : Int32) w2, (fun r w => (∃ th', ((¬ (okS x ∧ okN N y ∧ okN N z ∧ ¬ y = z) ∧ th' = nI 1) ∨ (∃ k k1 k2, k < 8 ∧ x = nI k ∧ 1 ≤ k1 ∧ k1 ≤ N ∧ y = nI k1 ∧ 1 ≤ k2 ∧ k2 ≤ N ∧ z = nI k2 ∧ ¬ k1 = k2 ∧ th' = nI 0 ∧ ((¬ EM k = 0 ∧ r = nI 1) ∨ (EM k = 0 ∧ (((lm_bd ((fun k => iv_mat N (B k)) k) (-nI k1) (nI 0) ≤ 0 ∧ lm_bd ((fun k => iv_mat N (B k)) k) (nI k1) (-nI k2) ≤ -1) ∧ r = nI 1) ∨ (¬ (lm_bd ((fun k => iv_mat N (B k)) k) (-nI k1) (nI 0) ≤ 0 ∧ lm_bd ((fun k => iv_mat N (B k)) k) (nI k1) (-nI k2) ≤ -1) ∧ (((∃ Y, o' = some Y) ∧ r = nI 0) ∨ (o' = none ∧ r = -1)))))))) ∧ mS cJ cI cZ w 53 A2 N th' m1 R EM Pt nA nB nC) ∧ gF 53 (53 + 11) w1 w) r' w2 → LQ cJ cI cZ cS A A2 o N sf w2 r (r'.toInt64) := by
  obtain ⟨hx0, hM, ⟨f, ho⟩, hA, hP, hNe, hEm, hm⟩ := h
  rcases hw with ⟨rfl, r1, w0, f0, ⟨⟨_, hy, hz, hyz⟩, k, hk, rfl, Tr2, hv, h3, h4⟩, hout, hf⟩ | ⟨Z, ⟨rfl, n1, rfl⟩, rfl⟩
  · obtain ⟨k1, a1, a2, rfl⟩ := hy.k hN5
    obtain ⟨k2, b1, b2, rfl⟩ := hz.k hN5
    have hne : ¬ k1 = k2 := fun e => hyz (by rw [e])
    have hm0 := (hA k hk).2.2
    by_cases e0 : E k = 0
    · obtain ⟨o', c1, c2⟩ := iv_array (Tr := Tr) hN5 hA hk a1 a2 b1 b2 hne e0
      refine ⟨o', c1, (hM.kept h4 (by omega)).kept hf (by omega), fun r' w2 hp => ?_⟩
      obtain ⟨⟨th', q1, q2⟩, q3⟩ := hp
      rcases q1 with ⟨n1, _⟩ | ⟨k', k1', k2', hk', e, a1', a2', e1, b1', b2', e2, _, rfl, q1⟩
      · exact absurd ⟨iv_S hk, hy, hz, hyz⟩ n1
      · have g1 := iv_8 hk hk' e
        subst g1
        have g2 := iv_8 (show k1 < 8 by omega) (show k1' < 8 by omega) e1
        subst g2
        have g3 := iv_8 (show k2 < 8 by omega) (show k2' < 8 by omega) e2
        subst g3
        refine lq_of (h3.kept hf (by omega)) q2 hout q3 hA hP hNe hEm hm rfl (fun _ => ?_)
        rw [vl_eq]
        rw [hm0] at q1
        congr 1
        have g : ∀ u v, lr_gr (B k) (2 * N) (E k) u v = lm_bd (iv_mat N (B k)) u v := fun u v => by rw [e0]; exact iv_bd
        unfold lr_arO at hv
        rw [g, g] at hv
        rcases q1 with ⟨n0, _⟩ | ⟨_, q1⟩
        · exact absurd e0 n0
        · rcases hv with ⟨h, rfl⟩ | ⟨h, hv⟩
          · rcases q1 with ⟨_, rfl⟩ | ⟨n0, _⟩
            · rfl
            · exact absurd h n0
          · rcases q1 with ⟨n0, _⟩ | ⟨_, q1⟩
            · exact absurd n0 h
            · rcases c2 with ⟨d1, Y, d2⟩ | ⟨d1, d2⟩
              · rcases hv with ⟨_, rfl⟩ | ⟨n0, _⟩
                · rcases q1 with ⟨_, rfl⟩ | ⟨n0, _⟩
                  · rfl
                  · rw [d2] at n0; exact absurd n0 (by simp)
                · exact absurd d1 n0
              · rcases hv with ⟨n0, _⟩ | ⟨_, rfl⟩
                · exact absurd n0 d1
                · rcases q1 with ⟨⟨Y, n0⟩, _⟩ | ⟨_, rfl⟩
                  · rw [d2] at n0; exact absurd n0 (by simp)
                  · rfl
    · refine ⟨none, fun k' _ _ hk' e _ _ _ _ _ _ _ w => by rw [← iv_8 hk hk' e, hm0] at w; exact absurd w e0, (hM.kept h4 (by omega)).kept hf (by omega), fun r' w2 hp => ?_⟩
      obtain ⟨⟨th', q1, q2⟩, q3⟩ := hp
      rcases q1 with ⟨n1, _⟩ | ⟨k', k1', k2', hk', e, a1', a2', e1, b1', b2', e2, _, rfl, q1⟩
      · exact absurd ⟨iv_S hk, hy, hz, hyz⟩ n1
      · rw [← iv_8 hk hk' e, hm0] at q1
        refine lq_of (h3.kept hf (by omega)) q2 hout q3 hA hP hNe hEm hm rfl (fun _ => ?_)
        rw [vl_eq]
        congr 1
        rcases q1 with ⟨_, rfl⟩ | ⟨n0, _⟩
        · have g : ∀ u v, lr_gr (B k) (2 * N) (E k) u v = -4611686018427387904 := fun u v => by unfold lr_gr; rw [if_neg e0]
          unfold lr_arO at hv
          rw [g, g] at hv
          rcases hv with ⟨_, h⟩ | ⟨h, _⟩
          · exact h
          · exact absurd ⟨by decide, by decide⟩ h
        · exact absurd n0 e0
  · refine ⟨none, fun k k1 k2 hk e a1 a2 e1 b1 b2 e2 hne _ => absurd (lo_A hk a1 a2 b1 b2 hN5 e e1 e2 hne) n1, hM, fun r' w2 hp => ?_⟩
    obtain ⟨⟨th', q1, q2⟩, q3⟩ := hp
    rcases q1 with ⟨_, rfl⟩ | ⟨k', k1', k2', hk', e, a1', a2', e1, b1', b2', e2, hne, _⟩
    · exact lq_of hx0 q2 ho q3 hA hP hNe hEm hm cd1.symm (fun z => absurd (cd1.symm.trans z) n10)
    · exact absurd (lo_A hk' a1' a2' b1' b2' hN5 e e1 e2 hne) n1
set_option maxHeartbeats 1000000 in
theorem lo_told {cJ cI cZ cS : ClassId} {A A2 : Nat → Nat} {o N : Nat} {sf : Nat → Option Nat} {ws w1 : va_W} {r th : Int32} {K B : Nat → Nat → Int64} {E : Nat → Int32} {Km Bm : Nat → Int64} {Em : Int32} {Lf Tr nu ne : Nat → Int64} {m1 : Nat} {R : Nat → Int64} {EM : Nat → Int32} {Pt : Nat → Int64} {nA nB : Nat → Int32} {nC : Nat → Int64} {x : Int32} (hN1 : 1 ≤ N) (hN5 : N ≤ 5) (h : LX cJ cI cZ cS A A2 o N sf ws K B E Km Bm Em Lf Tr nu ne m1 th R EM Pt nA nB nC) (hw : (hq_i cJ 64 o (fun r : Int32 => r.toInt64) (fun r w => (okW x ∧ ∃ q, q ≤ 9 ∧ x = nI q ∧ ((q = 0 ∧ r = nI N) ∨ (q = 9 ∧ r = nI (lr_cntE E 8)) ∨ (q ≠ 0 ∧ q ≠ 9 ∧ r = nI (lr_count (K (q - 1)) (2 * N))))) ∧ w = ws) (fun Z w => Z = xIOOB ∧ ¬ (okW x) ∧ w = ws) cd_1) r w1) : mS cJ cI cZ w1 53 A2 N th m1 R EM Pt nA nB nC ∧ ∀ (r' : Int32) w2, (fun r w => (∃ th', ((¬ okW x ∧ th' = nI 1) ∨ (∃ q, q ≤ 9 ∧ x = nI q ∧ th' = nI 0 ∧ ((q = 0 ∧ r = nI N) ∨ (q = 9 ∧ r = nI (lm_cntZ EM 8)) ∨ (1 ≤ q ∧ q ≤ 8 ∧ r = nI (lm_cntR R (q - 1) 10))))) ∧ mS cJ cI cZ w 53 A2 N th' m1 R EM Pt nA nB nC) ∧ gF 53 (53 + 11) w1 w) r' w2 → LQ cJ cI cZ cS A A2 o N sf w2 r (r'.toInt64) := by
  obtain ⟨hx0, hM, ⟨f, ho⟩, hA, hP, hNe, hEm, hm⟩ := h
  rcases hw with ⟨rfl, r1, w0, f0, ⟨⟨h1, q, hq, rfl, hv⟩, rfl⟩, hout, hf⟩ | ⟨Z, ⟨rfl, n1, rfl⟩, rfl⟩
  · refine ⟨hM.kept hf (by omega), fun r' w2 hp => ?_⟩
    obtain ⟨⟨th', q1, q2⟩, q3⟩ := hp
    rcases q1 with ⟨n1, _⟩ | ⟨q', hq', e, rfl, q1⟩
    · exact absurd h1 n1
    · have := (nI_eq (a := q) (b := q') (by omega) (by omega)).mp e
      subst this
      refine lq_of (hx0.kept hf (by omega)) q2 hout q3 hA hP hNe hEm hm rfl (fun _ => ?_)
      rw [vl_eq]
      congr 1
      rcases hv with ⟨e0, rfl⟩ | ⟨e0, rfl⟩ | ⟨e0, e9, rfl⟩
      · rcases q1 with ⟨_, rfl⟩ | ⟨n0, _⟩ | ⟨n0, _⟩
        · rfl
        · omega
        · omega
      · rcases q1 with ⟨n0, _⟩ | ⟨_, rfl⟩ | ⟨_, n0, _⟩
        · omega
        · rw [iv_cntE (fun k hk => (hA k hk).2.2)]
        · omega
      · rcases q1 with ⟨n0, _⟩ | ⟨n0, _⟩ | ⟨_, _, rfl⟩
        · omega
        · omega
        · have hk : q - 1 < 8 := by omega
          rw [iv_cntR hN5 (hA (q - 1) hk).1.1 (hA (q - 1) hk).2.1]
  · refine ⟨hM, fun r' w2 hp => ?_⟩
    obtain ⟨⟨th', q1, q2⟩, q3⟩ := hp
    rcases q1 with ⟨_, rfl⟩ | ⟨q', hq', e, _⟩
    · exact lq_of hx0 q2 ho q3 hA hP hNe hEm hm cd1.symm (fun z => absurd (cd1.symm.trans z) n10)
    · exact absurd (by rw [e]; exact ⟨nI_pos (by omega), (nI_leI (by omega) (by decide)).mpr hq'⟩) n1
