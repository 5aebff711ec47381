/-! what class and reference have in common between two calls -/
abbrev ns (a : Nat) : Prop := a ≠ 3 ∧ a ≠ 86 ∧ a ≠ 29 ∧ a ≠ 30 ∧ a ≠ 42 ∧ a ≠ 43 ∧ a ≠ 44 ∧ a ≠ 62 ∧ a ≠ 65 ∧ a ≠ 76 ∧ a ≠ 93 ∧ a ≠ 94 ∧ a ≠ 97 ∧ a ≠ 100 ∧ a ≠ 101 ∧ a ≠ 102 ∧ a ≠ 103 ∧ a ≠ 104 ∧ a ≠ 105 ∧ a ≠ 106
def k_nth : List Int → Nat → Int
  | [], _ => 0
  | x :: _, 0 => x
  | _ :: l, n + 1 => k_nth l n
def k_cat (j : Int) : Int := k_nth [1, 1, 2, 5, 14, 42, 132, 429, 1430, 4862, 16796] j.toNat
def k_wt (j : Int) : Int := k_nth [1, 1, -1, 2, -5, 14, -42, 132, -429, 1430, -4862] j.toNat
/-- ways to go on: left points to come, opened blocks open -/
def k_ways : Nat → Nat → Int
  | 0, _ => 1
  | l + 1, o => (List.range (o + 1)).foldl (fun s t => s + k_ways l (t + 1)) 0
def iv_sh (V : am_V) : Prop := ∀ s, 0 ≤ s → s < 8 → ((V 14 s = -1 ∧ V 87 s = -1) ∨ ((0 ≤ V 14 s ∧ V 14 s ≤ 40) ∧ V 88 s = V 14 s ∧ (0 ≤ V 13 s ∧ V 13 s ≤ 2) ∧ V 87 s = V 13 s))
def iv_it (V : am_V) : Prop := ∀ s, 0 ≤ s → s < 8 → ∀ i, 0 ≤ i → i < 40 → am_in64 (V 4 (64 * s + i)) ∧ V 89 (40 * s + i) = V 4 (64 * s + i)
/-- a Thing of n points at a, and the same at place k of the reference -/
def iv_th (V : am_V) (T : Nat) (k : Int) (a : Nat) (n : Int) : Prop := th_pl a ∧ a + 2 ≤ T ∧ th_ok V a n ∧ V 90 k = V a 4 ∧ V 91 k = n ∧ ∀ j, 0 ≤ j → j < n → V 92 (10 * k + j) = V (a + 1) j
def iv_tg (V : am_V) (sh : Int → Option Nat) (T : Nat) : Prop := th_pl T ∧ ∀ k, 0 ≤ k → k < 10 → ((sh k = none ∧ V 90 k = -1) ∨ (∃ a n, sh k = some a ∧ iv_th V T k a n))
def iv_tr (V : am_V) : Prop := (0 ≤ V 3 8 ∧ V 3 8 ≤ 16) ∧ V 86 12 = V 3 8 ∧ ∀ j, 0 ≤ j → j < V 3 8 → (0 ≤ V 31 j ∧ V 31 j ≤ 100) ∧ V 95 j = V 31 j
def iv_se (V : am_V) (p : Int) : Prop := ∀ s, 0 ≤ s → s < 8 → (1 ≤ V 41 s ∧ V 41 s ≤ 8) ∧ V 98 s = V 41 s ∧ V 32 (64 * s) = 1 ∧ ∀ k, 1 ≤ k → k ≤ 8 → (0 ≤ V 99 (9 * s + k) ∧ V 99 (9 * s + k) < p) ∧ (k ≤ V 41 s → V 32 (64 * s + k) = V 99 (9 * s + k))
def iv_st (V : am_V) : Prop := V 86 1 = V 3 17 ∧ 0 ≤ V 3 17 ∧ V 3 17 ≤ 5
def iv_p (V : am_V) (p : Int) : Prop := V 3 0 = p ∧ V 86 2 = p ∧ V 63 0 = p ∧ V 64 0 = p ∧ V 75 0 = p ∧ 101 ≤ p ∧ p ≤ 2000000000
def iv_k (V : am_V) : Prop := (∀ j, 0 ≤ j → j ≤ 10 → V 1 j = k_cat j ∧ V 96 j = k_cat j ∧ V 2 j = k_wt j) ∧ (∀ l o, 0 ≤ l → 0 ≤ o → l + o ≤ 10 → V 17 (64 * l + o) = k_ways l.toNat o.toNat) ∧ (∀ j, 0 ≤ j → j ≤ 8 → V 65 j = (if j = 0 then 1 else 0) ∧ V 76 j = (if j = 0 then 1 else 0))
/-- the pairings by handles -/
def k_pr (h g : Int) : Int := k_nth [1, 0, 0, 0, 0, 0, 1, 0, 0, 0, 0, 0, 2, 1, 0, 0, 0, 0, 5, 10, 0, 0, 0, 0, 14, 70, 21, 0, 0, 0, 42, 420, 483, 0, 0, 0, 132, 2310, 6468, 1485, 0, 0, 429, 12012, 66066, 56628, 0, 0, 1430, 60060, 570570, 1169740, 225225, 0, 4862, 291720, 4390386, 17454580, 12317877, 0, 16796, 1385670, 31039008, 211083730, 351683046, 59520825] (6 * h + g).toNat
def iv_q (V : am_V) : Prop := ∀ h g, 0 ≤ h → h ≤ 10 → 0 ≤ g → g ≤ 5 → V 50 (64 * h + g) = k_pr h g
def IJ (V : am_V) (sh : Int → Option Nat) (T : Nat) (p : Int) (f0 : Int → Int) : Prop := V 0 = f0 ∧ iv_sh V ∧ iv_it V ∧ iv_tg V sh T ∧ iv_tr V ∧ iv_se V p ∧ iv_p V p ∧ iv_k V ∧ iv_q V
def II (V : am_V) (sh : Int → Option Nat) (T : Nat) (p : Int) (f0 : Int → Int) : Prop := IJ V sh T p f0 ∧ iv_st V
theorem iv_sh_eq {V V' : am_V} (h : iv_sh V) (e1 : V' 13 = V 13) (e2 : V' 14 = V 14) (e3 : V' 87 = V 87) (e4 : V' 88 = V 88) : iv_sh V' := by
  intro s a b
  rw [e1, e2, e3, e4]
  exact h s a b
theorem iv_it_eq {V V' : am_V} (h : iv_it V) (e1 : V' 4 = V 4) (e2 : V' 89 = V 89) : iv_it V' := by
  intro s a b i c d
  rw [e1, e2]
  exact h s a b i c d
theorem iv_th_eq {V V' : am_V} {T T' : Nat} {k n : Int} {a : Nat} (h : iv_th V T k a n) (e1 : V' 90 k = V 90 k) (e2 : V' 91 k = V 91 k) (e3 : ∀ j, 0 ≤ j → j < n → V' 92 (10 * k + j) = V 92 (10 * k + j)) (eT : ∀ a, 107 ≤ a → a < T → V' a = V a) (hT : T ≤ T') : iv_th V' T' k a n := by
  obtain ⟨h1, h2, h3, h4, h5, h6⟩ := h
  have f1 := eT a h1.1 (by omega)
  have f2 := eT (a + 1) (by have := h1.1; omega) (by omega)
  refine ⟨h1, by omega, th_ok_eq h3 f1 f2, ?_, ?_, fun j a1 a2 => ?_⟩
  · rw [e1, f1]; exact h4
  · rw [e2]; exact h5
  · rw [e3 j a1 a2, f2]; exact h6 j a1 a2
theorem iv_tg_eq {V V' : am_V} {sh : Int → Option Nat} {T T' : Nat} (h : iv_tg V sh T) (e1 : V' 90 = V 90) (e2 : V' 91 = V 91) (e3 : V' 92 = V 92) (eT : ∀ a, 107 ≤ a → a < T → V' a = V a) (hT : T ≤ T') (hp : th_pl T') : iv_tg V' sh T' := by
  refine ⟨hp, fun k a b => ?_⟩
  rcases h.2 k a b with ⟨q1, q2⟩ | ⟨c, n, q1, q2⟩
  · exact Or.inl ⟨q1, by rw [e1]; exact q2⟩
  · exact Or.inr ⟨c, n, q1, iv_th_eq q2 (by rw [e1]) (by rw [e2]) (fun j _ _ => by rw [e3]) eT hT⟩
theorem iv_tr_eq {V V' : am_V} (h : iv_tr V) (e1 : V' 3 8 = V 3 8) (e2 : V' 86 12 = V 86 12) (e3 : V' 31 = V 31) (e4 : V' 95 = V 95) : iv_tr V' := by
  unfold iv_tr
  rw [e1, e2, e3, e4]
  exact h
theorem iv_se_eq {V V' : am_V} {p : Int} (h : iv_se V p) (e1 : V' 41 = V 41) (e2 : V' 32 = V 32) (e3 : V' 98 = V 98) (e4 : V' 99 = V 99) : iv_se V' p := by
  unfold iv_se
  rw [e1, e2, e3, e4]
  exact h
theorem iv_p_eq {V V' : am_V} {p : Int} (h : iv_p V p) (e1 : V' 3 0 = V 3 0) (e2 : V' 86 2 = V 86 2) (e3 : V' 63 = V 63) (e4 : V' 64 = V 64) (e5 : V' 75 = V 75) : iv_p V' p := by
  unfold iv_p
  rw [e1, e2, e3, e4, e5]
  exact h
theorem iv_k_eq {V V' : am_V} (h : iv_k V) (e1 : V' 1 = V 1) (e2 : V' 2 = V 2) (e3 : V' 96 = V 96) (e4 : V' 17 = V 17) (e5 : ∀ j, 0 ≤ j → j ≤ 8 → V' 65 j = V 65 j ∧ V' 76 j = V 76 j) : iv_k V' := by
  refine ⟨?_, ?_, fun j a b => ?_⟩
  · rw [e1, e2, e3]; exact h.1
  · rw [e4]; exact h.2.1
  · rw [(e5 j a b).1, (e5 j a b).2]; exact h.2.2 j a b
theorem iv_q_eq {V V' : am_V} (h : iv_q V) (e1 : V' 50 = V 50) : iv_q V' := by
  unfold iv_q
  rw [e1]
  exact h
/-- nothing but the status changed, and scratch -/
theorem IJ_ro {V V' : am_V} {sh : Int → Option Nat} {T T' : Nat} {p : Int} {f0 : Int → Int} (h : IJ V sh T p f0) (F : ∀ a, ns a → a < T → V' a = V a) (F3 : ∀ j, j ≠ 17 → V' 3 j = V 3 j) (F86 : ∀ j, j ≠ 0 → j ≠ 1 → V' 86 j = V 86 j) (F65 : ∀ j, 0 ≤ j → j ≤ 8 → V' 65 j = V 65 j ∧ V' 76 j = V 76 j) (hT : T ≤ T') (hp : th_pl T') : IJ V' sh T' p f0 := by
  obtain ⟨h0, h1, h2, h3, h4, h5, h7, h8, h9⟩ := h
  have t := h3.1.1
  refine ⟨by rw [F 0 (by decide) (by omega)]; exact h0, iv_sh_eq h1 (F 13 (by decide) (by omega)) (F 14 (by decide) (by omega)) (F 87 (by decide) (by omega)) (F 88 (by decide) (by omega)), iv_it_eq h2 (F 4 (by decide) (by omega)) (F 89 (by decide) (by omega)), iv_tg_eq h3 (F 90 (by decide) (by omega)) (F 91 (by decide) (by omega)) (F 92 (by decide) (by omega)) (fun a q q2 => F a (by omega) q2) hT hp, iv_tr_eq h4 (F3 8 (by decide)) (F86 12 (by decide) (by decide)) (F 31 (by decide) (by omega)) (F 95 (by decide) (by omega)), iv_se_eq h5 (F 41 (by decide) (by omega)) (F 32 (by decide) (by omega)) (F 98 (by decide) (by omega)) (F 99 (by decide) (by omega)), iv_p_eq h7 (F3 0 (by decide)) (F86 2 (by decide) (by decide)) (F 63 (by decide) (by omega)) (F 64 (by decide) (by omega)) (F 75 (by decide) (by omega)), iv_k_eq h8 (F 1 (by decide) (by omega)) (F 2 (by decide) (by omega)) (F 96 (by decide) (by omega)) (F 17 (by decide) (by omega)) F65, iv_q_eq h9 (F 50 (by decide) (by omega))⟩
/-- sheets changed -/
theorem IJ_sh {V V' : am_V} {sh : Int → Option Nat} {T : Nat} {p : Int} {f0 : Int → Int} (h : IJ V sh T p f0) (F : ∀ a, ns a → a ≠ 4 → a ≠ 13 → a ≠ 14 → a ≠ 87 → a ≠ 88 → a ≠ 89 → V' a = V a) (F3 : ∀ j, j ≠ 17 → V' 3 j = V 3 j) (F86 : ∀ j, j ≠ 0 → j ≠ 1 → V' 86 j = V 86 j) (F65 : V' 65 = V 65 ∧ V' 76 = V 76) (k1 : iv_sh V') (k2 : iv_it V') : IJ V' sh T p f0 := by
  obtain ⟨h0, h1, h2, h3, h4, h5, h7, h8, h9⟩ := h
  have t := h3.1.1
  refine ⟨by rw [F 0 (by decide) (by decide) (by decide) (by decide) (by decide) (by decide) (by decide)]; exact h0, k1, k2, iv_tg_eq h3 (F 90 (by decide) (by decide) (by decide) (by decide) (by decide) (by decide) (by decide)) (F 91 (by decide) (by decide) (by decide) (by decide) (by decide) (by decide) (by decide)) (F 92 (by decide) (by decide) (by decide) (by decide) (by decide) (by decide) (by decide)) (fun a q q2 => F a (by omega) (by omega) (by omega) (by omega) (by omega) (by omega) (by omega)) (Nat.le_refl _) h3.1, iv_tr_eq h4 (F3 8 (by decide)) (F86 12 (by decide) (by decide)) (F 31 (by decide) (by decide) (by decide) (by decide) (by decide) (by decide) (by decide)) (F 95 (by decide) (by decide) (by decide) (by decide) (by decide) (by decide) (by decide)), iv_se_eq h5 (F 41 (by decide) (by decide) (by decide) (by decide) (by decide) (by decide) (by decide)) (F 32 (by decide) (by decide) (by decide) (by decide) (by decide) (by decide) (by decide)) (F 98 (by decide) (by decide) (by decide) (by decide) (by decide) (by decide) (by decide)) (F 99 (by decide) (by decide) (by decide) (by decide) (by decide) (by decide) (by decide)), iv_p_eq h7 (F3 0 (by decide)) (F86 2 (by decide) (by decide)) (F 63 (by decide) (by decide) (by decide) (by decide) (by decide) (by decide) (by decide)) (F 64 (by decide) (by decide) (by decide) (by decide) (by decide) (by decide) (by decide)) (F 75 (by decide) (by decide) (by decide) (by decide) (by decide) (by decide) (by decide)), iv_k_eq h8 (F 1 (by decide) (by decide) (by decide) (by decide) (by decide) (by decide) (by decide)) (F 2 (by decide) (by decide) (by decide) (by decide) (by decide) (by decide) (by decide)) (F 96 (by decide) (by decide) (by decide) (by decide) (by decide) (by decide) (by decide)) (F 17 (by decide) (by decide) (by decide) (by decide) (by decide) (by decide) (by decide)) (fun j _ _ => by rw [F65.1, F65.2]; exact ⟨rfl, rfl⟩), iv_q_eq h9 (F 50 (by decide) (by decide) (by decide) (by decide) (by decide) (by decide) (by decide))⟩
/-- the status alone -/
theorem IJ_s {V V' : am_V} {sh : Int → Option Nat} {T : Nat} {p : Int} {f0 : Int → Int} (h : IJ V sh T p f0) (F : ∀ a, a ≠ 3 → a ≠ 86 → V' a = V a) (F3 : ∀ j, j ≠ 17 → V' 3 j = V 3 j) (F86 : ∀ j, j ≠ 0 → j ≠ 1 → V' 86 j = V 86 j) : IJ V' sh T p f0 :=
  IJ_ro h (fun a q _ => F a (by omega) (by omega)) F3 F86 (fun j _ _ => by rw [F 65 (by decide) (by decide), F 76 (by decide) (by decide)]; exact ⟨rfl, rfl⟩) (Nat.le_refl _) h.2.2.2.1.1
theorem IJ_3 {V : am_V} {sh : Int → Option Nat} {T : Nat} {p x : Int} {f0 : Int → Int} (h : IJ V sh T p f0) : IJ (am_up V 3 17 x) sh T p f0 :=
  IJ_s h (fun a q1 q2 => am_up_ne q1) (fun j q => by rw [am_up_at, if_neg q]) (fun j q1 q2 => by rw [am_up_ne (by decide)])
theorem IJ_86 {V : am_V} {sh : Int → Option Nat} {T : Nat} {p x k : Int} {f0 : Int → Int} (h : IJ V sh T p f0) (hk : k = 0 ∨ k = 1) : IJ (am_up V 86 k x) sh T p f0 :=
  IJ_s h (fun a q1 q2 => am_up_ne q2) (fun j q => by rw [am_up_ne (by decide)]) (fun j q1 q2 => by rw [am_up_at, if_neg (by omega)])
/-- what both answer -/
def pr_end (p : Int) (f0 : Int → Int) (r : Option AV) : Option AV → am_V → am_T → Nat → Prop := fun r' V2 R2 T2 => r' = r ∧ ∃ sh2, R2 = am_RF sh2 ∧ II V2 sh2 T2 p f0
def pr_int (G : am_G) (d ix : Nat) (as : List AV) (p : Int) (f0 : Int → Int) : Option AV → am_V → am_T → Nat → Prop := fun r V1 R1 T1 => ∃ z sh1, r = some (vI z) ∧ am_in32 z ∧ R1 = am_RF sh1 ∧ V1 0 = f0 ∧ am_Calls G d ix as V1 (am_RF sh1) T1 (pr_end p f0 r)
def pr_long (G : am_G) (d ix : Nat) (as : List AV) (p : Int) (f0 : Int → Int) : Option AV → am_V → am_T → Nat → Prop := fun r V1 R1 T1 => ∃ z sh1, r = some (vJ z) ∧ am_in64 z ∧ R1 = am_RF sh1 ∧ V1 0 = f0 ∧ am_Calls G d ix as V1 (am_RF sh1) T1 (pr_end p f0 r)
theorem pr_i {G : am_G} {d ix : Nat} {as : List AV} {p : Int} {f0 : Int → Int} {z : Int} {sh : Int → Option Nat} {V : am_V} {T : Nat} (hz : am_in32 z) (h0 : V 0 = f0) (h : am_Calls G d ix as V (am_RF sh) T (pr_end p f0 (some (vI z)))) : pr_int G d ix as p f0 (some (vI z)) V (am_RF sh) T := ⟨z, sh, rfl, hz, rfl, h0, h⟩
theorem pr_j {G : am_G} {d ix : Nat} {as : List AV} {p : Int} {f0 : Int → Int} {z : Int} {sh : Int → Option Nat} {V : am_V} {T : Nat} (hz : am_in64 z) (h0 : V 0 = f0) (h : am_Calls G d ix as V (am_RF sh) T (pr_end p f0 (some (vJ z)))) : pr_long G d ix as p f0 (some (vJ z)) V (am_RF sh) T := ⟨z, sh, rfl, hz, rfl, h0, h⟩
theorem pr_e {p : Int} {f0 : Int → Int} {r : Option AV} {sh : Int → Option Nat} {V : am_V} {T : Nat} (h : IJ V sh T p f0) (hs : V 86 1 = V 3 17 ∧ 0 ≤ V 3 17 ∧ V 3 17 ≤ 5) : pr_end p f0 r r V (am_RF sh) T := ⟨rfl, sh, rfl, h, hs⟩
