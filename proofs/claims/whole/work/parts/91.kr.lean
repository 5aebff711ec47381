/-! the complement: what is together in it -/
theorem m_ah_ex {g : Int → Int} {n x : Int} (hx : 0 ≤ x ∧ x < n) : ∃ r, m_ah g n x r := by
  have : ∀ (jj : Nat) (s at_ : Int), 0 ≤ s → s ≤ n → n - s < jj → m_ahI g n x s at_ → ∃ r, m_ah g n x r := by
    intro jj
    induction jj with
    | zero => intro s at_ a1 a2 a3; omega
    | succ jj ih =>
      intro s at_ a1 a2 a3 w
      by_cases hs : s = n
      · exfalso
        rcases w with ⟨z1, -⟩ | ⟨-, z2, -, z4⟩
        · omega
        · exact z4 x (by omega) hx.2 rfl
      · by_cases hg : g (if 0 < at_ then at_ - 1 else n - 1) = g x
        · exact ⟨_, m_ahI_yes hx ⟨a1, by omega⟩ w rfl hg⟩
        · exact ih (s + 1) _ (by omega) (by omega) (by omega) (m_ahI_no hx ⟨a1, by omega⟩ w rfl hg)
  exact this (n + 1).toNat 0 x (by omega) (by omega) (by omega) (Or.inl ⟨by omega, by omega, fun y y1 y2 => absurd y2 (by omega)⟩)
theorem ob_C_ex {g : Int → Int} {n x : Int} (hx : 0 ≤ x ∧ x < n) : ∃ y, ob_C g n x y := by
  obtain ⟨r, h⟩ := m_ah_ex (g := g) (n := n) (x := if x + 1 < n then x + 1 else 0) (by split <;> omega)
  exact ⟨r, hx, h⟩
theorem m_cl_refl (g : Int → Int) (n k : Int) : m_cl g n k k := fun x y a b _ _ _ => by omega
theorem m_cl_sub1 {g : Int → Int} {n i j k : Int} (h0 : 0 ≤ i) (h1 : i ≤ j) (h2 : j ≤ k) (h3 : k < n) (a : m_cl g n i k) (b : m_cl g n i j) : m_cl g n j k := by
  intro x y c1 c2 c3 c4 c5 e
  by_cases q : i < y ∧ y ≤ j
  · exact b y x q.1 q.2 (by omega) (by omega) (by omega) e.symm
  · exact a x y (by omega) c2 c3 c4 (by omega) e
theorem m_cl_sub2 {g : Int → Int} {n i j k : Int} (h0 : 0 ≤ i) (h1 : i ≤ j) (h2 : j ≤ k) (h3 : k < n) (a : m_cl g n i k) (b : m_cl g n j k) : m_cl g n i j := by
  intro x y c1 c2 c3 c4 c5 e
  by_cases q : j < y ∧ y ≤ k
  · exact b y x q.1 q.2 (by omega) (by omega) (by omega) e.symm
  · exact a x y c1 (by omega) c3 c4 (by omega) e
/-- together in the complement -/
def m_kr (g : Int → Int) (n x y : Int) : Prop := (x ≤ y ∧ m_cl g n x y) ∨ (y ≤ x ∧ m_cl g n y x)
theorem m_kr_refl (g : Int → Int) (n x : Int) : m_kr g n x x := Or.inl ⟨Int.le_refl _, m_cl_refl g n x⟩
theorem m_kr_symm {g : Int → Int} {n x y : Int} (h : m_kr g n x y) : m_kr g n y x := h.elim Or.inr Or.inl
theorem m_kr_trans {g : Int → Int} {n x y z : Int} (hx : 0 ≤ x ∧ x < n) (hy : 0 ≤ y ∧ y < n) (hz : 0 ≤ z ∧ z < n) (h : m_kr g n x y) (h' : m_kr g n y z) : m_kr g n x z := by
  rcases h with ⟨a, b⟩ | ⟨a, b⟩ <;> rcases h' with ⟨c, e⟩ | ⟨c, e⟩
  · exact Or.inl ⟨by omega, m_cl_trans a c b e⟩
  · by_cases q : x ≤ z
    · exact Or.inl ⟨q, m_cl_sub2 hx.1 q c hy.2 b e⟩
    · exact Or.inr ⟨by omega, m_cl_sub2 hz.1 (by omega) a hy.2 e b⟩
  · by_cases q : x ≤ z
    · exact Or.inl ⟨q, m_cl_sub1 hy.1 a q hz.2 e b⟩
    · exact Or.inr ⟨by omega, m_cl_sub1 hy.1 c (by omega) hx.2 b e⟩
  · exact Or.inr ⟨by omega, m_cl_trans c a e b⟩
/-- the reference's row says it -/
theorem m_cp_cl {g : Int → Int} {n k v : Int} (h : m_cp g n k v) : m_cl g n v k := by
  rcases h.2.2.1 with e | e
  · rw [e]; exact m_cl_refl g n k
  · exact e
theorem m_cp_lt {g : Int → Int} {n x y u v : Int} (hx : 0 ≤ x) (hxy : x ≤ y) (hy : y < n) (hu : m_cp g n x u) (hv : m_cp g n y v) (h : m_cl g n x y) : u = v := by
  have cu := m_cp_cl hu
  have cv := m_cp_cl hv
  obtain ⟨u0, u1, u2, u3⟩ := hu
  obtain ⟨v0, v1, v2, v3⟩ := hv
  have a1 := m_cl_trans u1 hxy cu h
  have a2 : v ≤ u := by
    by_cases q : v ≤ u
    · exact q
    · exact absurd a1 (v3 u u0 (by omega))
  have a3 := m_cl_sub2 v0 (by omega) hxy hy cv h
  have a4 : u ≤ v := by
    by_cases q : u ≤ v
    · exact q
    · exact absurd a3 (u3 v v0 (by omega))
  omega
theorem m_cp_kr {g : Int → Int} {n x y u v : Int} (hx : 0 ≤ x ∧ x < n) (hy : 0 ≤ y ∧ y < n) (hu : m_cp g n x u) (hv : m_cp g n y v) : u = v ↔ m_kr g n x y := by
  constructor
  · intro e
    have cu := m_cp_cl hu
    have cv := m_cp_cl hv
    have u0 := hu.1
    have u1 := hu.2.1
    have v0 := hv.1
    have v1 := hv.2.1
    rw [← e] at cv v1
    exact m_kr_trans hx ⟨u0, by omega⟩ hy (Or.inr ⟨u1, cu⟩) (Or.inl ⟨v1, cv⟩)
  · rintro (⟨a, b⟩ | ⟨a, b⟩)
    · exact m_cp_lt hx.1 a hy.2 hu hv b
    · exact (m_cp_lt hy.1 a hx.2 hv hu b).symm
/-- the class's way stays together -/
theorem ob_C_kr {g : Int → Int} {n x y : Int} (hF : ¬ m_Cr g n) (h : ob_C g n x y) : m_kr g n x y := by
  obtain ⟨hx, h0, h1, h2⟩ := h
  by_cases q : x + 1 < n
  · rw [if_pos q] at h1 h2
    rcases h2 with ⟨c1, c2⟩ | ⟨c1, c2, c3⟩
    · refine Or.inr ⟨by omega, fun u v u1 u2 v1 v2 v3 e => ?_⟩
      have nu := c2 u u1 (by omega)
      by_cases w : v ≤ y
      · have : v ≠ y := fun z => nu (by rw [e, z]; exact h1)
        exact hF ⟨v, y, u, x + 1, v1, by omega, by omega, by omega, q, h1, nu, e.symm⟩
      · have : v ≠ x + 1 := fun z => nu (by rw [e, z])
        exact hF ⟨y, u, x + 1, v, by omega, by omega, by omega, by omega, v2, e, fun z => nu (by rw [e]; exact z.symm), h1⟩
    · refine Or.inl ⟨by omega, fun u v u1 u2 v1 v2 v3 e => ?_⟩
      have nv : g v ≠ g (x + 1) := by
        rcases v3 with v3 | v3
        · exact c2 v v1 (by omega)
        · exact c3 v v3 v2
      have nu : g u ≠ g (x + 1) := by rw [e]; exact nv
      have z1 : u ≠ x + 1 := fun z => nu (by rw [z])
      have z2 : u ≠ y := fun z => nu (by rw [z]; exact h1)
      rcases v3 with v3 | v3
      · exact hF ⟨v, x + 1, u, y, v1, by omega, by omega, by omega, h0.2, h1.symm, fun z => nu (z.trans h1), e.symm⟩
      · exact hF ⟨x + 1, u, y, v, by omega, by omega, by omega, v3, v2, e, fun z => nv (z.symm.trans h1), h1.symm⟩
  · rw [if_neg q] at h1 h2
    rcases h2 with ⟨c1, c2⟩ | ⟨c1, c2, c3⟩
    · omega
    · refine Or.inr ⟨by omega, fun u v u1 u2 v1 v2 v3 e => ?_⟩
      have nu := c3 u u1 (by omega)
      have nv : g v ≠ g 0 := by rw [← e]; exact nu
      have z1 : v ≠ 0 := fun z => nv (by rw [z])
      have z2 : v ≠ y := fun z => nv (by rw [z]; exact h1)
      exact hF ⟨0, v, y, u, by omega, by omega, by omega, u1, by omega, e.symm, fun z => nu (z.symm.trans h1), h1.symm⟩
theorem ob_kr {g L : Int → Int} {n r : Int} (hF : ¬ m_Cr g n) (o : ob_out (ob_C g n) n L n r) {x y : Int} (hx : 0 ≤ x ∧ x < n) (hy : 0 ≤ y ∧ y < n) : L x = L y ↔ m_kr g n x y := by
  obtain ⟨o0, o1, o2, o3, o4, o5⟩ := o
  constructor
  · intro e
    have := o5 (fun x y => x = y ∨ ((0 ≤ x ∧ x < n) ∧ (0 ≤ y ∧ y < n) ∧ m_kr g n x y)) ⟨fun x => Or.inl rfl, fun x y h => h.elim (fun e => Or.inl e.symm) (fun h => Or.inr ⟨h.2.1, h.1, m_kr_symm h.2.2⟩), fun x y z h h' => by
      rcases h with h | h
      · rw [h]; exact h'
      · rcases h' with h' | h'
        · rw [← h']; exact Or.inr h
        · exact Or.inr ⟨h.1, h'.2.1, m_kr_trans h.1 h.2.1 h'.2.1 h.2.2 h'.2.2⟩, fun x y c => Or.inr ⟨c.1, c.2.1, ob_C_kr hF c⟩⟩ x y hx.1 hx.2 hy.1 hy.2 e (o3 x hx.1 hx.2)
    rcases this with h | h
    · rw [h]; exact m_kr_refl g n y
    · exact h.2.2
  · have up : ∀ (jj : Nat) (x y : Int), y - x ≤ jj → 0 ≤ x → x ≤ y → y < n → m_cl g n x y → L x = L y := by
      intro jj
      induction jj with
      | zero => intro x y a1 a2 a3 a4 c; rw [show x = y by omega]
      | succ jj ih =>
        intro x y a1 a2 a3 a4 c
        by_cases q : x = y
        · rw [q]
        · obtain ⟨z, hz⟩ := ob_C_ex (g := g) (n := n) (x := x) ⟨a2, by omega⟩
          have kz := ob_C_kr hF hz
          have lz := o2 _ _ hz
          obtain ⟨-, h0, h1, h2⟩ := hz
          rw [if_pos (by omega)] at h1 h2
          have zr : x < z ∧ z ≤ y := by
            by_cases w : x < z ∧ z ≤ y
            · exact w
            · exact absurd h1.symm (c (x + 1) z (by omega) (by omega) h0.1 h0.2 (by omega))
          have cz : m_cl g n x z := by
            rcases kz with k | k
            · exact k.2
            · omega
          rw [← lz]
          exact ih z y (by omega) (by omega) zr.2 a4 (m_cl_sub1 a2 (by omega) zr.2 a4 c cz)
    rintro (⟨a, b⟩ | ⟨a, b⟩)
    · exact up (y - x).toNat x y (by omega) hx.1 a hy.2 b
    · exact (up (x - y).toNat y x (by omega) hy.1 a hx.2 b).symm
theorem s_T_labelRings {G : am_G} {d : Nat} {sh : Int → Option Nat} {V : am_V} {T : Nat} {Q : Option AV → am_V → am_T → Nat → Prop} {a : Nat} {n : Int} (ha : th_pl a) (hn : 1 ≤ n ∧ n ≤ 10) (ea : V a 0 = n) (hg : ∀ i, 0 ≤ i → i < n → am_in32 (V (a + 1) i))
    (hQ : ∀ V' r, (∀ x, x ≠ 30 → V' x = V x) → ob_out (ob_C (V (a + 1)) n) n (V' 30) n r → Q (some (vI r)) V' (am_RF sh) T) : am_Calls G (d + 3) 164 [vR a, vR 30] V (am_RF sh) T Q := by
  have a_0 : 107 ≤ a := ha.1
  have a_l := th_lay ha
  have a_b := th_ble ha
  have a_q := th_beq ha
  have a_m := th_lay1 ha
  have a_c := th_ble1 ha
  have a_r := th_beq1 ha
  have a_R : am_RF sh a 2 = some (a + 1) := th_RF ha
  have a_z : Nat.beq (a + 1) 0 = false := rfl
  have a_3 : Nat.ble 3 (a + 1) = true := th_ble3 ha
  have a_i : ∀ r, am_isr 3 (vR a :: r) = true := th_isr ha
  have a30 : a ≠ 30 := by omega
  have a31 : a + 1 ≠ 30 := by omega
  refine am_enter mt_T_labelRings ok_T_labelRings rfl ?_
  have loop : ∀ (jj : Nat) (k r : Int) (W : am_V), 0 ≤ k → k ≤ n → n - k < jj → (∀ x, x ≠ 30 → W x = V x) → ob_out (ob_C (V (a + 1)) n) n (W 30) k r → am_Sem G (d + 2) 164 V T Q 9 [some (vR a), some (vR 30), some (vI r), some (vI k)] [] W (am_RF sh) T 0 0 := by
    intro jj
    induction jj with
    | zero => intro k r W a1 a2 a3; omega
    | succ jj ih =>
      intro k r W a1 a2 a3 w o
      have eW : W a 0 = n := by rw [w a a30]; exact ea
      have w1 : W (a + 1) = V (a + 1) := w (a + 1) a31
      have r0 := o.1
      by_cases hk : k = n
      · subst hk
        have q := hQ W r w o
        clear ih
        refine am_run 400 mt_T_labelRings ok_T_labelRings (fun K S hK hS => ?_)
        iterate 30 (all_goals (first
          | (refine And.intro (by omega) ?_)
          | (refine And.intro (by decide) ?_)
          | (refine And.intro (fun hb => absurd hb (by omega)) (fun hb => ?_))
          | (refine And.intro (fun hb => ?_) (fun hb => absurd hb (by omega)))
          | (refine And.intro (fun hb => ?_) (fun hb => ?_))
          | (intro hb)
          | (refine am_if_mk (a_i _) ?_)
          | (simp only [a_l, a_b, a_q, a_m, a_c, a_r, a_R, a_z, a_3, eW])
          | (conv => whnf)))
        exact q
      · have rM : am_in32 (W 30 k) := by
          have h2 := o.2.1 k a1 (by omega)
          constructor <;> omega
        by_cases hm : W 30 k = -1
        · have nx := fun r' W' => ih (k + 1) r' W' (by omega) (by omega) (by omega)
          clear ih
          refine am_run 400 mt_T_labelRings ok_T_labelRings (fun K S hK hS => ?_)
          iterate 30 (all_goals (first
            | (refine And.intro (by omega) ?_)
            | (refine And.intro (by decide) ?_)
            | (refine And.intro (rM) ?_)
            | (refine And.intro (fun hb => absurd hb (by omega)) (fun hb => ?_))
            | (refine And.intro (fun hb => ?_) (fun hb => absurd hb (by omega)))
            | (refine And.intro (fun hb => ?_) (fun hb => ?_))
            | (intro hb)
            | (refine am_if_mk (a_i _) ?_)
            | (simp only [a_l, a_b, a_q, a_m, a_c, a_r, a_R, a_z, a_3, eW])
            | (conv => whnf)))
          refine hK (s_T_labelRing ha hn eW (by rw [w1]; exact hg) (by omega) hm (by rw [w1]; exact o) (fun W' v1 v2 => ?_))
          rw [w1] at v2
          iterate 30 (all_goals (first
            | (refine And.intro (by omega) ?_)
            | (refine And.intro (fun hb => absurd hb (by omega)) (fun hb => ?_))
            | (refine And.intro (fun hb => ?_) (fun hb => absurd hb (by omega)))
            | (refine And.intro (fun hb => ?_) (fun hb => ?_))
            | (intro hb)
            | (conv => whnf)))
          exact hS (nx (r + 1) W' (fun x hx => by rw [v1 x hx, w x hx]) v2)
        · have nx := ih (k + 1) r W (by omega) (by omega) (by omega) w (ob_skip o hm)
          clear ih
          refine am_run 400 mt_T_labelRings ok_T_labelRings (fun K S hK hS => ?_)
          iterate 30 (all_goals (first
            | (refine And.intro (by omega) ?_)
            | (refine And.intro (by decide) ?_)
            | (refine And.intro (rM) ?_)
            | (refine And.intro (fun hb => absurd hb (by omega)) (fun hb => ?_))
            | (refine And.intro (fun hb => ?_) (fun hb => absurd hb (by omega)))
            | (refine And.intro (fun hb => ?_) (fun hb => ?_))
            | (intro hb)
            | (refine am_if_mk (a_i _) ?_)
            | (simp only [a_l, a_b, a_q, a_m, a_c, a_r, a_R, a_z, a_3, eW])
            | (conv => whnf)))
          exact hS nx
  refine am_run 400 mt_T_labelRings ok_T_labelRings (fun K S hK hS => ?_)
  iterate 30 (all_goals (first
    | (refine And.intro (by omega) ?_)
    | (refine And.intro (fun hb => absurd hb (by omega)) (fun hb => ?_))
    | (refine And.intro (fun hb => ?_) (fun hb => absurd hb (by omega)))
    | (refine And.intro (fun hb => ?_) (fun hb => ?_))
    | (intro hb)
    | (conv => whnf)))
  refine hK (s_JA_fillI30 (fun W w1 w2 w3 => ?_))
  iterate 30 (all_goals (first
    | (refine And.intro (by omega) ?_)
    | (refine And.intro (fun hb => absurd hb (by omega)) (fun hb => ?_))
    | (refine And.intro (fun hb => ?_) (fun hb => absurd hb (by omega)))
    | (refine And.intro (fun hb => ?_) (fun hb => ?_))
    | (intro hb)
    | (conv => whnf)))
  exact hS (loop (n + 1).toNat 0 0 W (by omega) (by omega) (by omega) w1 (ob_zero (ob_C_fn _ _) (fun x x0 x1 => w2 x x0 (by omega))))
theorem s_F_complementOf {G : am_G} {d : Nat} {sh : Int → Option Nat} {V : am_V} {T : Nat} {Q : Option AV → am_V → am_T → Nat → Prop} {a : Nat} {n : Int} (ha : th_pl a) (h1 : 1 ≤ n ∧ n ≤ 10) (hT : th_pl T) (haT : a + 2 ≤ T) (ea : V a 0 = n) (ra : ∀ i, 0 ≤ i → i < n → 0 ≤ V (a + 1) i ∧ V (a + 1) i < 10) (hF : ¬ m_Cr (V (a + 1)) n) (hQ : ∀ V', (∀ x, x ≠ 30 → x ≠ T → x ≠ T + 1 → V' x = V x) → th_ok V' T n → (∀ i j, 0 ≤ i → i < n → 0 ≤ j → j < n → (V' (T + 1) i = V' (T + 1) j ↔ m_kr (V (a + 1)) n i j)) → Q (some (vR T)) V' (am_RF sh) (T + 2)) : am_Calls G (d + 5) 44 [vR 3, vR a] V (am_RF sh) T Q := by
  have a_0 : 107 ≤ a := ha.1
  have a_l := th_lay ha
  have a_b := th_ble ha
  have a_q := th_beq ha
  have a_m := th_lay1 ha
  have a_c := th_ble1 ha
  have a_r := th_beq1 ha
  have a_R : am_RF sh a 2 = some (a + 1) := th_RF ha
  have a_z : Nat.beq (a + 1) 0 = false := rfl
  have a_3 : Nat.ble 3 (a + 1) = true := th_ble3 ha
  have a_i : ∀ r, am_isr 3 (vR a :: r) = true := th_isr ha
  have T_0 : 107 ≤ T := hT.1
  have T_l := th_lay hT
  have T_b := th_ble hT
  have T_q := th_beq hT
  have T_m := th_lay1 hT
  have T_c := th_ble1 hT
  have T_r := th_beq1 hT
  have T_R : am_RF sh T 2 = some (T + 1) := th_RF hT
  have T_z : Nat.beq (T + 1) 0 = false := rfl
  have T_3 : Nat.ble 3 (T + 1) = true := th_ble3 hT
  have T_i : ∀ r, am_isr 3 (vR T :: r) = true := th_isr hT
  have hz : am_zeroR (am_RF sh) T 3 6 = some 30 := by rw [am_zeroR_ne (by omega)]; rfl
  refine am_enter mt_F_complementOf ok_F_complementOf rfl ?_
  refine am_run 400 mt_F_complementOf ok_F_complementOf (fun K S hK hS => ?_)
  iterate 30 (all_goals (first
    | (refine And.intro (by omega) ?_)
    | (refine And.intro (by decide) ?_)
    | (refine And.intro (fun hb => absurd hb (by omega)) (fun hb => ?_))
    | (refine And.intro (fun hb => ?_) (fun hb => absurd hb (by omega)))
    | (refine And.intro (fun hb => ?_) (fun hb => ?_))
    | (intro hb)
    | (refine am_if_mk (a_i _) ?_)
    | (simp only [a_l, a_b, a_q, a_m, a_c, a_r, a_R, a_z, a_3])
    | (conv => whnf)))
  refine hK (s_T_labelRings ha h1 ea (fun i z0 z1 => by have := ra i z0 z1; constructor <;> omega) (fun W r w1 o => ?_))
  have e0 : W a 0 = n := by rw [w1 a (by omega), ea]
  have ez : am_zero W T a 0 = n := by rw [am_zero_ne (by omega), e0]
  iterate 30 (all_goals (first
    | (refine And.intro (by omega) ?_)
    | (refine And.intro (by decide) ?_)
    | (refine And.intro (fun hb => absurd hb (by omega)) (fun hb => ?_))
    | (refine And.intro (fun hb => ?_) (fun hb => absurd hb (by omega)))
    | (refine And.intro (fun hb => ?_) (fun hb => ?_))
    | (intro hb)
    | (refine am_if_mk (a_i _) ?_)
    | (refine am_if_mk (T_i _) ?_)
    | (simp only [a_l, a_b, a_q, a_m, a_c, a_r, a_R, a_z, a_3, T_l, T_b, T_q, T_m, T_c, T_r, T_R, T_z, T_3, e0, ez, hz])
    | (conv => whnf)))
  refine hK (s_T_init hT h1 (fun i i1 i2 => ?_) (fun W' v1 v2 v3 => ?_))
  · rw [am_zero_ne (by omega)]
    have h3 := o.1
    have h2 := o.2.1 i i1 i2
    constructor <;> omega
  · iterate 30 (all_goals (first
      | (refine And.intro (by omega) ?_)
      | (refine And.intro (by decide) ?_)
      | (refine And.intro (fun hb => absurd hb (by omega)) (fun hb => ?_))
      | (refine And.intro (fun hb => ?_) (fun hb => absurd hb (by omega)))
      | (refine And.intro (fun hb => ?_) (fun hb => ?_))
      | (intro hb)
      | (refine am_if_mk (T_i _) ?_)
      | (simp only [T_l, T_b, T_q, T_m, T_c, T_r, T_R, T_z, T_3])
      | (conv => whnf)))
    refine hQ W' (fun x x1 x2 x3 => by rw [v1 x x2 x3, am_zero_ne x2, w1 x x1]) v2 (fun i j i1 i2 j1 j2 => ?_)
    have := v3 i j i1 i2 j1 j2
    rw [am_zero_ne (by omega)] at this
    rw [this, ob_kr hF o ⟨i1, i2⟩ ⟨j1, j2⟩]
