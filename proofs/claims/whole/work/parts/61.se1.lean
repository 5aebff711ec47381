/-! series: the numbers, as both sides find them -/
theorem m_tm {a b : Int} (h : 0 ≤ a) : Int.tmod a b = a % b := Int.tmod_eq_emod_of_nonneg h
theorem m_mulr {a b p : Int} (h1 : 0 ≤ a) (h2 : a < p) (h3 : 0 ≤ b) (h4 : b < p) (hp : p ≤ 2000000000) : 0 ≤ a * b ∧ a * b ≤ 4000000000000000000 := by
  refine ⟨Int.mul_nonneg h1 h3, ?_⟩
  have : a * b ≤ 2000000000 * 2000000000 := Int.mul_le_mul (by omega) (by omega) h3 (by omega)
  omega
theorem m_modr {a p : Int} (hp : 0 < p) : 0 ≤ a % p ∧ a % p < p := ⟨Int.emod_nonneg _ (by omega), Int.emod_lt_of_pos _ hp⟩
/-- a partial sum of a product of two rows -/
def sr_cv (p : Int) (f g : Int → Int) (k : Int) : Nat → Int
  | 0 => 0
  | j + 1 => (sr_cv p f g k j + f j * g (k - j)) % p
/-- number k of a row's power -/
def sr_pw (p : Int) (m : Int → Int) : Nat → Int → Int
  | 0, k => if k = 0 then 1 else 0
  | e + 1, k => sr_cv p (sr_pw p m e) m k (k + 1).toNat
def sr_ch (n : Int) : Nat → Int
  | 0 => 1
  | t + 1 => sr_ch n t * (n - t) / (t + 1)
def sr_ot (p : Int) (m : Int → Int) (sort n s : Int) : Int := if sort = 1 then sr_pw p m s.toNat (n - s) else m (n - s) * (if sort = 0 then sr_ch (n - 1) (s - 1).toNat else 1) % p
def sr_ls (p : Int) (m c : Int → Int) (sort n : Int) : Nat → Int
  | 0 => 0
  | j + 1 => (sr_ls p m c sort n j + c (j + 1) * sr_ot p m sort n (j + 1)) % p
/-- the moments from 0 to 8 -/
def sr_rg (p : Int) (m : Int → Int) (n : Int) : Prop := m 0 = 1 ∧ ∀ k, 1 ≤ k → k ≤ n → 0 ≤ m k ∧ m k < p
theorem sr_cv_rg {p : Int} {f g : Int → Int} {k : Int} (hp : 0 < p) : ∀ j, 0 ≤ sr_cv p f g k j ∧ sr_cv p f g k j < p
  | 0 => ⟨Int.le_refl _, hp⟩
  | j + 1 => m_modr hp
theorem sr_pw_rg {p : Int} {m : Int → Int} (hp : 1 < p) : ∀ e k, 0 ≤ sr_pw p m e k ∧ sr_pw p m e k < p
  | 0, k => by unfold sr_pw; split <;> omega
  | e + 1, k => by unfold sr_pw; exact sr_cv_rg (by omega) _
theorem sr_cv_eq {p : Int} {f g f' g' : Int → Int} {k : Int} : ∀ j : Nat, (∀ i : Int, 0 ≤ i → i < j → f i = f' i ∧ g (k - i) = g' (k - i)) → sr_cv p f g k j = sr_cv p f' g' k j
  | 0, _ => rfl
  | j + 1, e => by
    unfold sr_cv
    rw [sr_cv_eq j (fun i a b => e i a (by omega)), (e j (by omega) (by omega)).1, (e j (by omega) (by omega)).2]
theorem sr_pw_eq {p : Int} {m m' : Int → Int} : ∀ (e : Nat) (k : Int), (∀ j, 0 ≤ j → j ≤ k → m j = m' j) → sr_pw p m e k = sr_pw p m' e k
  | 0, _, _ => rfl
  | e + 1, k, h => by
    unfold sr_pw
    exact sr_cv_eq _ (fun i a b => ⟨sr_pw_eq e i (fun j c1 c2 => h j c1 (by omega)), h _ (by omega) (by omega)⟩)
theorem sr_ot_eq {p : Int} {m m' : Int → Int} {sort n s : Int} (h1 : 1 ≤ s) (h2 : s ≤ n) (h : ∀ j, 0 ≤ j → j < n → m j = m' j) : sr_ot p m sort n s = sr_ot p m' sort n s := by
  unfold sr_ot
  split
  · exact sr_pw_eq _ _ (fun j a b => h j a (by omega))
  · rw [h (n - s) (by omega) (by omega)]
theorem sr_ls_eq {p : Int} {m m' c c' : Int → Int} {sort n : Int} (h : ∀ j, 0 ≤ j → j < n → m j = m' j) : ∀ j : Nat, j < n → (∀ i : Int, 1 ≤ i → i ≤ j → c i = c' i) → sr_ls p m c sort n j = sr_ls p m' c' sort n j
  | 0, _, _ => rfl
  | j + 1, hj, e => by
    unfold sr_ls
    rw [sr_ls_eq h j (by omega) (fun i a b => e i a (by omega)), e (j + 1) (by omega) (by omega), sr_ot_eq (by omega) (by omega) h]
theorem sr_ls_rg {p : Int} {m c : Int → Int} {sort n : Int} (hp : 0 < p) : ∀ j, 0 ≤ sr_ls p m c sort n j ∧ sr_ls p m c sort n j < p
  | 0 => ⟨Int.le_refl _, hp⟩
  | j + 1 => m_modr hp
/-- the first power is the row itself -/
theorem sr_cv1 {p : Int} {m : Int → Int} {k : Int} (hp : 1 < p) (hm : 0 ≤ m k ∧ m k < p) : ∀ j : Nat, sr_cv p (sr_pw p m 0) m k (j + 1) = m k
  | 0 => by
    unfold sr_cv sr_cv sr_pw
    show (0 + (1 : Int) * m (k - 0)) % p = m k
    rw [Int.zero_add, Int.one_mul, Int.sub_zero]
    exact Int.emod_eq_of_lt hm.1 hm.2
  | j + 1 => by
    rw [sr_cv, sr_cv1 hp hm j]
    show (m k + (if ((j + 1 : Nat) : Int) = 0 then 1 else 0) * m (k - ((j + 1 : Nat) : Int))) % p = m k
    rw [if_neg (by omega), Int.zero_mul, Int.add_zero]
    exact Int.emod_eq_of_lt hm.1 hm.2
theorem sr_pw1 {p : Int} {m : Int → Int} {k : Int} (hp : 1 < p) (hk : 0 ≤ k) (hm : 0 ≤ m k ∧ m k < p) : sr_pw p m 1 k = m k := by
  show sr_cv p (sr_pw p m 0) m k (k + 1).toNat = m k
  rw [show (k + 1).toNat = k.toNat + 1 by omega]
  exact sr_cv1 hp hm _
theorem sr_pw00 {p : Int} {m : Int → Int} (hp : 1 < p) (hm : m 0 = 1) : ∀ e, sr_pw p m e 0 = 1
  | 0 => by unfold sr_pw; rw [if_pos rfl]
  | e + 1 => by
    show sr_cv p (sr_pw p m e) m 0 1 = 1
    unfold sr_cv sr_cv
    show (0 + sr_pw p m e 0 * m (0 - 0)) % p = 1
    rw [sr_pw00 hp hm e, Int.sub_zero, hm]
    exact Int.emod_eq_of_lt (by omega) (by omega)
theorem sr_ch_rg : ∀ n : Fin 8, ∀ t : Fin 8, 0 ≤ sr_ch ((n : Nat) : Int) t ∧ sr_ch ((n : Nat) : Int) t ≤ 100 := by decide +kernel
theorem sr_ch_b {n : Int} {t : Nat} (h0 : 0 ≤ n) (h1 : n < 8) (h2 : t < 8) : 0 ≤ sr_ch n t ∧ sr_ch n t ≤ 100 := by
  have := sr_ch_rg ⟨n.toNat, by omega⟩ ⟨t, h2⟩
  rw [show (((⟨n.toNat, by omega⟩ : Fin 8) : Nat) : Int) = n from Int.toNat_of_nonneg h0] at this
  exact this
/-- the powers as far as number k are kept -/
def sr_kp (V : am_V) (p : Int) (m : Int → Int) (k : Int) : Prop := ∀ e j, 1 ≤ e → e ≤ 8 → 0 ≤ j → j ≤ k → V 65 (64 * e + j) = sr_pw p m e.toNat j
theorem s_P_begin64 {G : am_G} {d : Nat} {sh : Int → Option Nat} {V : am_V} {T : Nat} {Q : Option AV → am_V → am_T → Nat → Prop} {v : Int} (hQ : ∀ V', (∀ a, a ≠ 65 → V' a = V a) → (∀ e, 1 ≤ e → e ≤ 8 → V' 65 (64 * e) = v) → (∀ j, (∀ e, 1 ≤ e → e ≤ 8 → j ≠ 64 * e) → V' 65 j = V 65 j) → Q none V' (am_RF sh) T) : am_Calls G (d + 1) 149 [vR 64, vJ v] V (am_RF sh) T Q := by
  refine am_enter mt_P_begin ok_P_begin rfl ?_
  have loop : ∀ (jj : Nat) (e : Int) (W : am_V), 1 ≤ e → e ≤ 9 → 9 - e < jj → (∀ a, a ≠ 65 → W a = V a) → (∀ i, 1 ≤ i → i < e → W 65 (64 * i) = v) → (∀ j, (∀ i, 1 ≤ i → i ≤ 8 → j ≠ 64 * i) → W 65 j = V 65 j) → am_Sem G d 149 V T Q 2 [some (vR 64), some (vJ v), none, some (vI e)] [] W (am_RF sh) T 0 0 := by
    intro jj
    induction jj with
    | zero => intro e W a b c; omega
    | succ jj ih =>
      intro e W a b c w1 w2 w3
      by_cases he : e = 9
      · subst he
        refine am_run 400 mt_P_begin ok_P_begin (fun K S hK hS => ?_)
        iterate 30 (all_goals (first
          | (refine And.intro (by omega) ?_)
          | (refine And.intro (fun hb => absurd hb (by omega)) (fun hb => ?_))
          | (refine And.intro (fun hb => ?_) (fun hb => absurd hb (by omega)))
          | (refine And.intro (fun hb => ?_) (fun hb => ?_))
          | (intro hb)
          | (conv => whnf)))
        exact hQ W w1 (fun i a b => w2 i a (by omega)) w3
      · refine am_run 400 mt_P_begin ok_P_begin (fun K S hK hS => ?_)
        iterate 30 (all_goals (first
          | (refine And.intro (by omega) ?_)
          | (refine And.intro (fun hb => absurd hb (by omega)) (fun hb => ?_))
          | (refine And.intro (fun hb => ?_) (fun hb => absurd hb (by omega)))
          | (refine And.intro (fun hb => ?_) (fun hb => ?_))
          | (intro hb)
          | (conv => whnf)))
        refine hS (ih (e + 1) _ (by omega) (by omega) (by omega) (fun x hx => by rw [am_up_ne hx, w1 x hx]) (fun i a1 a2 => ?_) (fun j hj => ?_))
        · rw [am_up_at]
          by_cases q : i = e
          · rw [if_pos (by omega)]
          · rw [if_neg (by omega), w2 i a1 (by omega)]
        · have := hj e a (by omega)
          rw [am_up_at, if_neg (by omega), w3 j hj]
  refine am_run 400 mt_P_begin ok_P_begin (fun K S hK hS => ?_)
  iterate 30 (all_goals (first
    | (refine And.intro (by omega) ?_)
    | (refine And.intro (fun hb => absurd hb (by omega)) (fun hb => ?_))
    | (refine And.intro (fun hb => ?_) (fun hb => absurd hb (by omega)))
    | (refine And.intro (fun hb => ?_) (fun hb => ?_))
    | (intro hb)
    | (conv => whnf)))
  exact hS (loop 9 1 V (by omega) (by omega) (by omega) (fun _ _ => rfl) (fun i a b => absurd b (by omega)) (fun _ _ => rfl))
theorem s_P_add64 {G : am_G} {d : Nat} {sh : Int → Option Nat} {V : am_V} {T : Nat} {Q : Option AV → am_V → am_T → Nat → Prop} {p k v : Int} {m : Int → Int} (hp : 1 < p ∧ p ≤ 2000000000) (e0 : V 64 0 = p) (hk : 1 ≤ k ∧ k ≤ 8) (hv : 0 ≤ v ∧ v < p) (hm : sr_rg p m k) (hmk : m k = v) (hkp : sr_kp V p m (k - 1)) (hQ : ∀ V', (∀ a, a ≠ 65 → V' a = V a) → (∀ j, 0 ≤ j → j < 64 → V' 65 j = V 65 j) → sr_kp V' p m k → Q none V' (am_RF sh) T) : am_Calls G (d + 1) 150 [vR 64, vI k, vJ v] V (am_RF sh) T Q := by
  refine am_enter mt_P_add ok_P_add rfl ?_
  have hmr : ∀ j, 0 ≤ j → j ≤ k → 0 ≤ m j ∧ m j < p := fun j a b => by
    by_cases q : j = 0
    · rw [q, hm.1]; omega
    · exact hm.2 j (by omega) b
  have loop : ∀ (jj : Nat) (e : Int) (x5 x7 : Option AV) (W : am_V), 2 ≤ e → e ≤ 9 → 9 - e < jj → (∀ a, a ≠ 65 → W a = V a) → (∀ j, 0 ≤ j → j < 64 → W 65 j = V 65 j) → (∀ i j, 1 ≤ i → i ≤ 8 → 0 ≤ j → j ≤ k → (j < k ∨ i < e) → W 65 (64 * i + j) = sr_pw p m i.toNat j) → am_Sem G d 150 V T Q 12 [some (vR 64), some (vI k), some (vJ v), none, some (vI e), x5, none, x7] [] W (am_RF sh) T 0 0 := by
    intro jj
    induction jj with
    | zero => intro e x5 x7 W a b c; omega
    | succ jj ih =>
      intro e x5 x7 W a b c w1 w2 w3
      by_cases he : e = 9
      · subst he
        refine am_run 400 mt_P_add ok_P_add (fun K S hK hS => ?_)
        iterate 30 (all_goals (first
          | (refine And.intro (by omega) ?_)
          | (refine And.intro (fun hb => absurd hb (by omega)) (fun hb => ?_))
          | (refine And.intro (fun hb => ?_) (fun hb => absurd hb (by omega)))
          | (refine And.intro (fun hb => ?_) (fun hb => ?_))
          | (intro hb)
          | (conv => whnf)))
        exact hQ W w1 w2 (fun i j a1 a2 a3 a4 => w3 i j a1 a2 a3 a4 (by omega))
      · have inner : ∀ (j2 : Nat) (i : Int), 0 ≤ i → i ≤ k + 1 → k + 1 - i < j2 → am_Sem G d 150 V T Q 25 [some (vR 64), some (vI k), some (vJ v), none, some (vI e), some (vJ (sr_cv p (sr_pw p m (e - 1).toNat) m k i.toNat)), none, some (vI i)] [] W (am_RF sh) T 0 0 := by
          intro j2
          induction j2 with
          | zero => intro i b1 b2 b3; omega
          | succ j2 ih2 =>
            intro i b1 b2 b3
            have e64 : W 64 0 = p := by rw [w1 64 (by decide)]; exact e0
            have rs := sr_cv_rg (p := p) (f := sr_pw p m (e - 1).toNat) (g := m) (k := k) (by omega) i.toNat
            by_cases hi : i = k + 1
            · subst hi
              have es : sr_cv p (sr_pw p m (e - 1).toNat) m k (k + 1).toNat = sr_pw p m e.toNat k := by
                rw [show e.toNat = (e - 1).toNat + 1 by omega]; rfl
              rw [es]
              refine am_run 400 mt_P_add ok_P_add (fun K S hK hS => ?_)
              iterate 30 (all_goals (first
                | (refine And.intro (by omega) ?_)
                | (refine And.intro (fun hb => absurd hb (by omega)) (fun hb => ?_))
                | (refine And.intro (fun hb => ?_) (fun hb => absurd hb (by omega)))
                | (refine And.intro (fun hb => ?_) (fun hb => ?_))
                | (intro hb)
                | (conv => whnf)))
              refine hS (ih (e + 1) _ _ _ (by omega) (by omega) (by omega) (fun x hx => by rw [am_up_ne hx, w1 x hx]) (fun j j1 j2 => by rw [am_up_at, if_neg (by omega), w2 j j1 j2]) (fun i j a1 a2 a3 a4 a5 => ?_))
              rw [am_up_at]
              by_cases q : i = e ∧ j = k
              · rw [if_pos (by omega), q.1, q.2]
              · rw [if_neg (by omega), w3 i j a1 a2 a3 a4 (by omega)]
            · have f1 : W 65 (64 * (e - 1) + i) = sr_pw p m (e - 1).toNat i := w3 (e - 1) i (by omega) (by omega) b1 (by omega) (by omega)
              have f2 : W 65 (64 * 1 + (k - i)) = m (k - i) := by
                rw [w3 1 (k - i) (by omega) (by omega) (by omega) (by omega) (by omega)]
                exact sr_pw1 (by omega) (by omega) (hmr _ (by omega) (by omega))
              have r1 := sr_pw_rg (p := p) (m := m) (by omega) (e - 1).toNat i
              have r2 := hmr (k - i) (by omega) (by omega)
              have rm := m_mulr r1.1 r1.2 r2.1 r2.2 hp.2
              have es : Int.tmod (sr_cv p (sr_pw p m (e - 1).toNat) m k i.toNat + sr_pw p m (e - 1).toNat i * m (k - i)) p = sr_cv p (sr_pw p m (e - 1).toNat) m k (i + 1).toNat := by
                rw [m_tm (by omega), show (i + 1).toNat = i.toNat + 1 by omega, sr_cv, show ((i.toNat : Nat) : Int) = i by omega]
              refine am_run 400 mt_P_add ok_P_add (fun K S hK hS => ?_)
              iterate 30 (all_goals (first
                | (refine And.intro (by omega) ?_)
                | (refine And.intro (by decide) ?_)
                | (refine And.intro (fun hb => absurd hb (by omega)) (fun hb => ?_))
                | (refine And.intro (fun hb => ?_) (fun hb => absurd hb (by omega)))
                | (refine And.intro (fun hb => ?_) (fun hb => ?_))
                | (intro hb)
                | (simp only [f1, f2, e64, es])
                | (conv => whnf)))
              exact hS (ih2 (i + 1) (by omega) (by omega) (by omega))
        refine am_run 400 mt_P_add ok_P_add (fun K S hK hS => ?_)
        iterate 30 (all_goals (first
          | (refine And.intro (by omega) ?_)
          | (refine And.intro (fun hb => absurd hb (by omega)) (fun hb => ?_))
          | (refine And.intro (fun hb => ?_) (fun hb => absurd hb (by omega)))
          | (refine And.intro (fun hb => ?_) (fun hb => ?_))
          | (intro hb)
          | (conv => whnf)))
        exact hS (inner (k + 2).toNat 0 (by omega) (by omega) (by omega))
  refine am_run 400 mt_P_add ok_P_add (fun K S hK hS => ?_)
  iterate 30 (all_goals (first
    | (refine And.intro (by omega) ?_)
    | (refine And.intro (fun hb => absurd hb (by omega)) (fun hb => ?_))
    | (refine And.intro (fun hb => ?_) (fun hb => absurd hb (by omega)))
    | (refine And.intro (fun hb => ?_) (fun hb => ?_))
    | (intro hb)
    | (conv => whnf)))
  refine hS (loop 8 2 _ _ _ (by omega) (by omega) (by omega) (fun x hx => by rw [am_up_ne hx]) (fun j j1 j2 => by rw [am_up_at, if_neg (by omega)]) (fun i j a1 a2 a3 a4 a5 => ?_))
  rw [am_up_at]
  by_cases q : i = 1 ∧ j = k
  · rw [if_pos (by omega), q.1, q.2, ← hmk]
    exact (sr_pw1 (by omega) (by omega) (hmr k (by omega) (by omega))).symm
  · rw [if_neg (by omega)]
    exact hkp i j a1 a2 a3 (by omega)
