/-! pairs: partners, rings, how many -/
theorem m_cg_ex {g : Int → Int} {b : Int} : ∀ n : Nat, 1 ≤ m_cg g b n → ∃ i : Int, 0 ≤ i ∧ i < n ∧ g i = b
  | 0, h => by have : m_cg g b 0 = 0 := rfl; omega
  | n + 1, h => by
    by_cases q : g n = b
    · exact ⟨n, by omega, by omega, q⟩
    · rw [m_cg, if_neg q] at h
      obtain ⟨i, i0, i1, i2⟩ := m_cg_ex (g := g) (b := b) n (by omega)
      exact ⟨i, i0, by omega, i2⟩
/-- P gives the partner -/
def m_P (g : Int → Int) (n : Int) (P : Int → Int) : Prop := ∀ x, 0 ≤ x → x < n → (0 ≤ P x ∧ P x < n) ∧ P x ≠ x ∧ g (P x) = g x ∧ ∀ y, 0 ≤ y → y < n → y ≠ x → g y = g x → y = P x
theorem m_P_x {g : Int → Int} {n x : Int} (h : m_prs g n) (h0 : 0 ≤ x) (h1 : x < n) : ∃ z, (0 ≤ z ∧ z < n) ∧ z ≠ x ∧ g z = g x ∧ ∀ y, 0 ≤ y → y < n → y ≠ x → g y = g x → y = z := by
  have c := h x h0 h1
  obtain ⟨u, hu⟩ : ∃ u : Int → Int, ∀ j, u j = if j = x then g x + 1 else g j := ⟨_, fun j => rfl⟩
  have cu := m_cg_up (g := g) (h := u) h0 rfl (show g x + 1 ≠ g x by omega) hu n.toNat
  rw [if_pos (by omega)] at cu
  obtain ⟨z, z0, z1, z2⟩ := m_cg_ex (g := u) (b := g x) n.toNat (by omega)
  have zx : z ≠ x := fun q => by rw [hu, if_pos q] at z2; omega
  have z3 : g z = g x := by rw [hu, if_neg zx] at z2; exact z2
  obtain ⟨v, hv⟩ : ∃ v : Int → Int, ∀ j, v j = if j = z then g x + 1 else u j := ⟨_, fun j => rfl⟩
  have cv := m_cg_up (g := u) (h := v) z0 z2 (show g x + 1 ≠ g x by omega) hv n.toNat
  rw [if_pos (by omega)] at cv
  refine ⟨z, by omega, zx, z3, fun y y0 y1 y2 y3 => ?_⟩
  by_cases q : y = z
  · exact q
  · exfalso
    have := m_cg_pos (g := v) (b := g x) y0 y1 (by rw [hv, if_neg q, hu, if_neg y2]; exact y3)
    omega
theorem m_P_ex {g : Int → Int} {n : Int} (h : m_prs g n) : ∃ P, m_P g n P := by
  have : ∀ x : Int, ∃ z, 0 ≤ x → x < n → (0 ≤ z ∧ z < n) ∧ z ≠ x ∧ g z = g x ∧ ∀ y, 0 ≤ y → y < n → y ≠ x → g y = g x → y = z := fun x => by
    by_cases q : 0 ≤ x ∧ x < n
    · obtain ⟨z, hz⟩ := m_P_x h q.1 q.2
      exact ⟨z, fun _ _ => hz⟩
    · exact ⟨0, fun a b => absurd ⟨a, b⟩ q⟩
  exact ⟨fun x => (this x).choose, fun x a b => (this x).choose_spec a b⟩
theorem m_P_P {g : Int → Int} {n : Int} {P : Int → Int} (h : m_P g n P) {x : Int} (h0 : 0 ≤ x) (h1 : x < n) : P (P x) = x := by
  obtain ⟨a, b, c, e⟩ := h x h0 h1
  exact ((h (P x) a.1 a.2).2.2.2 x h0 h1 (fun q => b q.symm) c.symm).symm
theorem m_P_eq {g g' : Int → Int} {n : Int} {P : Int → Int} (h : m_P g n P) (e : ∀ x, 0 ≤ x → x < n → g x = g' x) : m_P g' n P := by
  intro x a b
  obtain ⟨h1, h2, h3, h4⟩ := h x a b
  refine ⟨h1, h2, by rw [← e _ h1.1 h1.2, ← e x a b]; exact h3, fun y c1 c2 c3 c4 => h4 y c1 c2 c3 (by rw [e y c1 c2, e x a b]; exact c4)⟩
abbrev m_s (n x : Int) : Int := if x + 1 < n then x + 1 else 0
theorem ob_C_P {g : Int → Int} {n : Int} {P : Int → Int} (h : m_P g n P) {x y : Int} : ob_C g n x y ↔ (0 ≤ x ∧ x < n) ∧ y = P (m_s n x) := by
  have key : ∀ x y, ob_C g n x y → y = P (m_s n x) := fun x y c => by
    obtain ⟨hx, h0, h1, h2⟩ := c
    have hs : 0 ≤ m_s n x ∧ m_s n x < n := by unfold m_s; split <;> omega
    obtain ⟨p1, p2, p3, p4⟩ := h (m_s n x) hs.1 hs.2
    refine p4 y h0.1 h0.2 (fun q => ?_) h1
    rcases h2 with ⟨c1, c2⟩ | ⟨c1, c2, c3⟩
    · have : y < m_s n x := c1
      omega
    · by_cases w : P (m_s n x) < m_s n x
      · exact c2 _ p1.1 w p3
      · exact c3 (P (m_s n x)) (by omega) p1.2 p3
  constructor
  · intro c
    exact ⟨c.1, key x y c⟩
  · rintro ⟨hx, e⟩
    obtain ⟨z, hz⟩ := ob_C_ex (g := g) hx
    rw [e, ← key x z hz]
    exact hz
/-- the reference's way -/
def ob_D (P : Int → Int) (n x y : Int) : Prop := (0 ≤ x ∧ x < n) ∧ y = m_s n (P x)
theorem ob_D_fn {g : Int → Int} {n : Int} {P : Int → Int} (h : m_P g n P) : ob_fn (ob_D P n) n := by
  refine ⟨fun x y c => ⟨c.1, ?_⟩, fun x y y' c c' => by rw [c.2, c'.2], fun x x' y c c' => ?_⟩
  · have := (h x c.1.1 c.1.2).1
    rw [c.2]; unfold m_s; split <;> omega
  · have a := (h x c.1.1 c.1.2).1
    have b := (h x' c'.1.1 c'.1.2).1
    have e : m_s n (P x) = m_s n (P x') := by rw [← c.2, ← c'.2]
    have : P x = P x' := by unfold m_s at e; split at e <;> split at e <;> omega
    rw [← m_P_P h c.1.1 c.1.2, ← m_P_P h c'.1.1 c'.1.2, this]
theorem ob_le {C C' : Int → Int → Prop} {n r r' : Int} {L L' P : Int → Int} (o : ob_out C n L n r) (o' : ob_out C' n L' n r') (hP : ∀ x, 0 ≤ x → x < n → 0 ≤ P x ∧ P x < n) (h : ∀ x y, 0 ≤ x → x < n → 0 ≤ y → y < n → L' (P x) = L' (P y) → L x = L y) : r ≤ r' := by
  obtain ⟨o0, o1, o2, o3, o4, o5⟩ := o
  obtain ⟨q0, q1, q2, q3, q4, q5⟩ := o'
  have : ∀ b : Int, ∃ x, 0 ≤ b → b < r → (0 ≤ x ∧ x < n) ∧ L x = b := fun b => by
    by_cases q : 0 ≤ b ∧ b < r
    · obtain ⟨x, x0, x1, x2⟩ := o4 b q.1 q.2
      exact ⟨x, fun _ _ => ⟨⟨x0, x1⟩, x2⟩⟩
    · exact ⟨0, fun a b => absurd ⟨a, b⟩ q⟩
  have fx : ∀ b, 0 ≤ b → b < r → (0 ≤ (this b).choose ∧ (this b).choose < n) ∧ L (this b).choose = b := fun b a c => (this b).choose_spec a c
  have := ob_pig r'.toNat r (fun b => L' (P (this b).choose)) (fun b a c => by
    have f := (fx b a c).1
    have p := hP _ f.1 f.2
    have a1 := q1 _ p.1 p.2
    have a2 := q3 _ p.1 p.2
    show 0 ≤ L' (P (this b).choose) ∧ L' (P (this b).choose) < r'.toNat
    omega) (fun b b' a c a' c' e => by
    have f := fx b a c
    have f' := fx b' a' c'
    have := h _ _ f.1.1 f.1.2 f'.1.1 f'.1.2 e
    rw [f.2, f'.2] at this
    exact this)
  omega
theorem ob_two {g : Int → Int} {n r r' : Int} {P L L' : Int → Int} (h : m_P g n P) (o : ob_out (ob_C g n) n L n r) (o' : ob_out (ob_D P n) n L' n r') : r = r' := by
  have hP : ∀ x, 0 ≤ x → x < n → 0 ≤ P x ∧ P x < n := fun x a b => (h x a b).1
  have hs : ∀ x, 0 ≤ x → x < n → 0 ≤ m_s n x ∧ m_s n x < n := fun x a b => by unfold m_s; split <;> omega
  have a1 : ∀ x y, 0 ≤ x → x < n → 0 ≤ y → y < n → L x = L y → L' (P x) = L' (P y) := fun x y x0 x1 y0 y1 e => by
    have := o.2.2.2.2.2 (fun x y => L' (P x) = L' (P y)) ⟨fun x => rfl, fun x y e => e.symm, fun x y z e e' => e.trans e', fun x y c => by
      rw [ob_C_P h] at c
      have s1 := hs x c.1.1 c.1.2
      have p1 := hP x c.1.1 c.1.2
      rw [c.2, m_P_P h s1.1 s1.2]
      have := o'.2.2.1 (P x) (m_s n x) ⟨p1, by rw [m_P_P h c.1.1 c.1.2]⟩
      exact this.symm⟩ x y x0 x1 y0 y1 e (o.2.2.2.1 x x0 x1)
    exact this
  have a2 : ∀ x y, 0 ≤ x → x < n → 0 ≤ y → y < n → L' x = L' y → L (P x) = L (P y) := fun x y x0 x1 y0 y1 e => by
    have := o'.2.2.2.2.2 (fun x y => L (P x) = L (P y)) ⟨fun x => rfl, fun x y e => e.symm, fun x y z e e' => e.trans e', fun x y c => by
      have p1 := hP x c.1.1 c.1.2
      have := o.2.2.1 (P x) (P y) ((ob_C_P h).mpr ⟨p1, by rw [c.2]⟩)
      exact this.symm⟩ x y x0 x1 y0 y1 e (o'.2.2.2.1 x x0 x1)
    exact this
  have b1 := ob_le o o' hP (fun x y x0 x1 y0 y1 e => by
    have p1 := hP x x0 x1
    have p2 := hP y y0 y1
    have := a2 _ _ p1.1 p1.2 p2.1 p2.2 e
    rw [m_P_P h x0 x1, m_P_P h y0 y1] at this
    exact this)
  have b2 := ob_le o' o hP (fun x y x0 x1 y0 y1 e => by
    have p1 := hP x x0 x1
    have p2 := hP y y0 y1
    have := a1 _ _ p1.1 p1.2 p2.1 p2.2 e
    rw [m_P_P h x0 x1, m_P_P h y0 y1] at this
    exact this)
  omega
theorem m_least {A : Int → Prop} : ∀ (m : Nat) (x : Int), 0 ≤ x → x < m → A x → ∃ y, (0 ≤ y ∧ y ≤ x) ∧ A y ∧ ∀ z, 0 ≤ z → z < y → ¬ A z
  | 0, x, h0, h1, _ => by omega
  | m + 1, x, h0, h1, hA => by
    by_cases q : ∃ z, 0 ≤ z ∧ z < x ∧ A z
    · obtain ⟨z, z0, z1, z2⟩ := q
      obtain ⟨y, y0, y1, y2⟩ := m_least m z z0 (by omega) z2
      exact ⟨y, by omega, y1, y2⟩
    · exact ⟨x, ⟨h0, Int.le_refl _⟩, hA, fun z z0 z1 z2 => q ⟨z, z0, z1, z2⟩⟩
/-- no more rings than pairs and one -/
theorem ob_bnd {g : Int → Int} {n r : Int} {P L : Int → Int} (hn : 1 ≤ n) (h : m_P g n P) (o : ob_out (ob_C g n) n L n r) : r ≤ n / 2 + 1 := by
  obtain ⟨o0, o1, o2, o3, o4, o5⟩ := o
  have : ∀ b : Int, ∃ x, 0 ≤ b → b < r → ((0 ≤ x ∧ x < n) ∧ L x = b) ∧ (x < P x ∨ P x = 0) := fun b => by
    by_cases q : 0 ≤ b ∧ b < r
    · obtain ⟨x', x0', x1', x2'⟩ := o4 b q.1 q.2
      obtain ⟨x, x0, x1, x2⟩ := m_least (A := fun x => L x = b) n.toNat x' x0' (by omega) x2'
      refine ⟨x, fun _ _ => ⟨⟨⟨x0.1, by omega⟩, x1⟩, ?_⟩⟩
      have p := h x x0.1 (by omega)
      by_cases w : x < P x ∨ P x = 0
      · exact w
      · exfalso
        have c : ob_C g n (P x - 1) x := (ob_C_P h).mpr ⟨by omega, by
          unfold m_s
          rw [if_pos (by omega), show P x - 1 + 1 = P x by omega, m_P_P h x0.1 (by omega)]⟩
        have := o2 _ _ c
        exact x2 (P x - 1) (by omega) (by omega) (by rw [← this]; exact x1)
    · exact ⟨0, fun a b => absurd ⟨a, b⟩ q⟩
  obtain ⟨f, fx⟩ : ∃ f : Int → Int, ∀ b, 0 ≤ b → b < r → ((0 ≤ f b ∧ f b < n) ∧ L (f b) = b) ∧ (f b < P (f b) ∨ P (f b) = 0) := ⟨fun b => (this b).choose, fun b a c => (this b).choose_spec a c⟩
  obtain ⟨F, hF⟩ : ∃ F : Int → Int, ∀ b, F b = if b < r then (if P (f b) = 0 then n else f b) else (if P (f (b - r)) = 0 then n + 1 else P (f (b - r))) := ⟨_, fun b => rfl⟩
  have F1 : ∀ b, 0 ≤ b → b < r → (P (f b) = 0 ∧ F b = n) ∨ (P (f b) ≠ 0 ∧ F b = f b ∧ f b < P (f b)) := fun b a c => by
    have e := (fx b a c).2
    rw [hF, if_pos c]
    by_cases q : P (f b) = 0
    · rw [if_pos q]; exact Or.inl ⟨q, rfl⟩
    · rw [if_neg q]; exact Or.inr ⟨q, rfl, by omega⟩
  have F2 : ∀ b, r ≤ b → b < r + r → (P (f (b - r)) = 0 ∧ F b = n + 1) ∨ (P (f (b - r)) ≠ 0 ∧ F b = P (f (b - r)) ∧ f (b - r) < P (f (b - r))) := fun b a c => by
    have e := (fx (b - r) (by omega) (by omega)).2
    rw [hF, if_neg (by omega)]
    by_cases q : P (f (b - r)) = 0
    · rw [if_pos q]; exact Or.inl ⟨q, rfl⟩
    · rw [if_neg q]; exact Or.inr ⟨q, rfl, by omega⟩
  have inj : ∀ b b', 0 ≤ b → b < r → 0 ≤ b' → b' < r → P (f b) = P (f b') → b = b' := fun b b' a c a' c' e => by
    have z := fx b a c
    have z' := fx b' a' c'
    rw [← z.1.2, ← z'.1.2, ← m_P_P h z.1.1.1 z.1.1.2, e, m_P_P h z'.1.1.1 z'.1.1.2]
  have mix : ∀ b b', 0 ≤ b → b < r → r ≤ b' → b' < r + r → F b ≠ F b' := fun b b' a c a' c' e => by
    have z := fx b a c
    have z' := fx (b' - r) (by omega) (by omega)
    have p' := (h _ z'.1.1.1 z'.1.1.2).1
    rcases F1 b a c with ⟨w1, w2⟩ | ⟨w1, w2, w3⟩ <;> rcases F2 b' a' c' with ⟨v1, v2⟩ | ⟨v1, v2, v3⟩
    · omega
    · omega
    · omega
    · have e2 : f b = P (f (b' - r)) := by omega
      have := m_P_P h z'.1.1.1 z'.1.1.2
      rw [← e2] at this
      omega
  have := ob_pig (n + 2).toNat (r + r) F (fun b a c => by
    by_cases q : b < r
    · have z := fx b a q
      rcases F1 b a q with w | w <;> omega
    · have z := fx (b - r) (by omega) (by omega)
      have p := (h _ z.1.1.1 z.1.1.2).1
      rcases F2 b (by omega) (by omega) with w | w <;> omega) (fun b b' a c a' c' e => by
    by_cases q : b < r <;> by_cases q' : b' < r
    · have z := fx b a q
      have z' := fx b' a' q'
      rcases F1 b a q with ⟨w1, w2⟩ | ⟨w1, w2, w3⟩ <;> rcases F1 b' a' q' with ⟨v1, v2⟩ | ⟨v1, v2, v3⟩
      · exact inj b b' a q a' q' (by omega)
      · omega
      · omega
      · rw [← z.1.2, ← z'.1.2]; congr 1; omega
    · exact absurd e (mix b b' a q (by omega) c')
    · exact absurd e.symm (mix b' b a' q' (by omega) c)
    · have z := fx (b - r) (by omega) (by omega)
      have z' := fx (b' - r) (by omega) (by omega)
      have p := (h _ z.1.1.1 z.1.1.2).1
      have p' := (h _ z'.1.1.1 z'.1.1.2).1
      have : b - r = b' - r := by
        rcases F2 b (by omega) c with ⟨w1, w2⟩ | ⟨w1, w2, w3⟩ <;> rcases F2 b' (by omega) c' with ⟨v1, v2⟩ | ⟨v1, v2, v3⟩
        · exact inj _ _ (by omega) (by omega) (by omega) (by omega) (by omega)
        · omega
        · omega
        · exact inj _ _ (by omega) (by omega) (by omega) (by omega) (by omega)
      omega)
  omega
theorem s_F_handlesOf {G : am_G} {d : Nat} {sh : Int → Option Nat} {V : am_V} {T : Nat} {Q : Option AV → am_V → am_T → Nat → Prop} {a : Nat} {n : Int} {P : Int → Int} (ha : th_pl a) (h1 : 1 ≤ n ∧ n ≤ 10) (ea : V a 0 = n) (ra : ∀ i, 0 ≤ i → i < n → 0 ≤ V (a + 1) i ∧ V (a + 1) i < 10) (hP : m_P (V (a + 1)) n P) (hQ : ∀ V' r L, (∀ x, x ≠ 30 → V' x = V x) → ob_out (ob_C (V (a + 1)) n) n L n r → 0 ≤ r → r ≤ n / 2 + 1 → Q (some (vI ((n / 2 + 1 - r) / 2))) V' (am_RF sh) T) : am_Calls G (d + 4) 45 [vR 3, vR a] V (am_RF sh) T Q := by
  have a_0 : 107 ≤ a := ha.1
  have a_l := th_lay ha
  have a_b := th_ble ha
  have a_q := th_beq ha
  have a_m := th_lay1 ha
  have a_c := th_ble1 ha
  have a_r := th_beq1 ha
  have a_R : am_RF sh a 2 = some (a + 1) := th_RF ha
  have a_z : Nat.beq (a + 1) 0 = false := rfl
  have a_3 : Nat.ble 3 (a + 1) = true := th_ble3 ha
  have a_i : ∀ r, am_isr 3 (vR a :: r) = true := th_isr ha
  refine am_enter mt_F_handlesOf ok_F_handlesOf rfl ?_
  refine am_run 400 mt_F_handlesOf ok_F_handlesOf (fun K S hK hS => ?_)
  iterate 30 (all_goals (first
    | (refine And.intro (by omega) ?_)
    | (refine And.intro (by decide) ?_)
    | (refine And.intro (fun hb => absurd hb (by omega)) (fun hb => ?_))
    | (refine And.intro (fun hb => ?_) (fun hb => absurd hb (by omega)))
    | (refine And.intro (fun hb => ?_) (fun hb => ?_))
    | (intro hb)
    | (refine am_if_mk (a_i _) ?_)
    | (simp only [a_l, a_b, a_q, a_m, a_c, a_r, a_R, a_z, a_3])
    | (conv => whnf)))
  refine hK (s_T_labelRings ha h1 ea (fun i z0 z1 => by have := ra i z0 z1; constructor <;> omega) (fun W r w1 o => ?_))
  have e0 : W a 0 = n := by rw [w1 a (by omega), ea]
  have o1 := o.1
  have o2 := ob_bnd h1.1 hP o
  iterate 30 (all_goals (first
    | (refine And.intro (by omega) ?_)
    | (refine And.intro (by decide) ?_)
    | (refine And.intro (fun hb => absurd hb (by omega)) (fun hb => ?_))
    | (refine And.intro (fun hb => ?_) (fun hb => absurd hb (by omega)))
    | (refine And.intro (fun hb => ?_) (fun hb => ?_))
    | (intro hb)
    | (refine am_if_mk (a_i _) ?_)
    | (simp only [a_l, a_b, a_q, a_m, a_c, a_r, a_R, a_z, a_3, e0])
    | (conv => whnf)))
  exact hQ W r _ w1 o o1.1 o2
theorem m_ah_eq {g g' : Int → Int} {n x y : Int} (hx : 0 ≤ x ∧ x < n) (e : ∀ x, 0 ≤ x → x < n → g x = g' x) (h : m_ah g n x y) : m_ah g' n x y := by
  obtain ⟨a, b, c⟩ := h
  refine ⟨a, by rw [← e y a.1 a.2, ← e x hx.1 hx.2]; exact b, ?_⟩
  rcases c with ⟨c1, c2⟩ | ⟨c1, c2, c3⟩
  · exact Or.inl ⟨c1, fun z z0 z1 => by rw [← e z (by omega) (by omega), ← e x hx.1 hx.2]; exact c2 z z0 z1⟩
  · exact Or.inr ⟨c1, fun z z0 z1 => by rw [← e z (by omega) (by omega), ← e x hx.1 hx.2]; exact c2 z z0 z1, fun z z0 z1 => by rw [← e z (by omega) (by omega), ← e x hx.1 hx.2]; exact c3 z z0 z1⟩
theorem ob_out_eq {g g' L : Int → Int} {n k r : Int} (e : ∀ x, 0 ≤ x → x < n → g x = g' x) (o : ob_out (ob_C g n) n L k r) : ob_out (ob_C g' n) n L k r := by
  have c : ob_C g n = ob_C g' n := by
    funext x y
    apply propext
    constructor
    · intro h
      exact ⟨h.1, m_ah_eq (by have := h.1; split <;> omega) e h.2⟩
    · intro h
      exact ⟨h.1, m_ah_eq (by have := h.1; split <;> omega) (fun x a b => (e x a b).symm) h.2⟩
  rw [← c]
  exact o
