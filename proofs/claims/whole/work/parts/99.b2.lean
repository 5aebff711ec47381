/-! both, how 1 (join): the reference -/
def jw (V W : am_V) (a b n : Int) : Prop := (∀ x, x ≠ 93 → W x = am_up V 86 0 0 x) ∧ ∀ j, 0 ≤ j → j < n → W 93 (0 + j) = V 92 (10 * a + j) ∧ W 93 (10 + j) = V 92 (10 * b + j)
def jp (V W : am_V) (a b n : Int) (jj : Nat) (mo x y : Int) : Prop := (mo = 1 ∧ jl (fun i => W 93 (20 + i)) n < (jj : Int)) ∨ (mo = 0 ∧ ∀ x' y', 0 ≤ x' → x' < y' → y' < n → (x' < x ∨ (x' = x ∧ y' < y)) → (V 92 (10 * a + x') = V 92 (10 * a + y') ∨ V 92 (10 * b + x') = V 92 (10 * b + y') ∨ m_xg (fun i => W 93 (20 + i)) n (W 93 (20 + x')) (W 93 (20 + y'))) → W 93 (20 + x') = W 93 (20 + y'))
theorem s_M_both1M {G : am_G} {d : Nat} {sh : Int → Option Nat} {V : am_V} {T : Nat} {Q : Option AV → am_V → am_T → Nat → Prop} {q a b n : Int} {M : Int → Int}
    (hM : ((0 ≤ q ∧ q < 10) ∧ (0 ≤ a ∧ a < 10) ∧ (0 ≤ b ∧ b < 10)) → (1 ≤ V 90 a ∧ V 90 a ≤ 3) → (1 ≤ V 90 b ∧ V 90 b ≤ 3) → n = V 91 b → jm (fun j => V 92 (10 * a + j)) (fun j => V 92 (10 * b + j)) M (n))
    (hQ : ((0 ≤ q ∧ q < 10) ∧ (0 ≤ a ∧ a < 10) ∧ (0 ≤ b ∧ b < 10)) → (1 ≤ V 90 a ∧ V 90 a ≤ 3) → (1 ≤ V 90 b ∧ V 90 b ≤ 3) → n = V 91 b → ∀ (V' : am_V) (r : Int) (g : Int → Int), m_rgs g (n) → (∀ x y, 0 ≤ x → x < n → 0 ≤ y → y < n → (g x = g y ↔ jn M (n) x y)) → m_kd g (n) r → V' 90 q = r → (∀ j, j ≠ q → V' 90 j = V 90 j) → V' 91 q = n → (∀ j, j ≠ q → V' 91 j = V 91 j) → (∀ j, 0 ≤ j → j < n → V' 92 (10 * q + j) = g j) → (∀ j, ¬ (10 * q ≤ j ∧ j < 10 * q + n) → V' 92 j = V 92 j) → V' 86 1 = 0 → (∀ j, j ≠ 0 → j ≠ 1 → V' 86 j = V 86 j) → (∀ a, a ≠ 86 → a ≠ 90 → a ≠ 91 → a ≠ 92 → a ≠ 93 → a ≠ 94 → V' a = V a) → Q (some (vI r)) V' (am_RF sh) T) : ((0 ≤ q ∧ q < 10) ∧ (0 ≤ a ∧ a < 10) ∧ (0 ≤ b ∧ b < 10)) → (1 ≤ V 90 a ∧ V 90 a ≤ 3) → (1 ≤ V 90 b ∧ V 90 b ≤ 3) → n = V 91 b → 1 ≤ n ∧ n ≤ 10 → (∀ j, 0 ≤ j → j < n → (0 ≤ V 92 (10 * a + j) ∧ V 92 (10 * a + j) < 10) ∧ (0 ≤ V 92 (10 * b + j) ∧ V 92 (10 * b + j) < 10)) → ∀ (y5 : Int), (∀ (jj : Nat) (mo : Int) (x8 x9 x10 : Option AV) (W : am_V), jw V W a b n → jt M (fun i => W 93 (20 + i)) n → jl (fun i => W 93 (20 + i)) n < jj → (mo = 1 ∨ (mo = 0 ∧ ∀ x y, 0 ≤ x → x < y → y < n → (V 92 (10 * a + x) = V 92 (10 * a + y) ∨ V 92 (10 * b + x) = V 92 (10 * b + y) ∨ m_xg (fun i => W 93 (20 + i)) n (W 93 (20 + x)) (W 93 (20 + y))) → W 93 (20 + x) = W 93 (20 + y))) → am_Sem G (d + 5) 93 V T Q 208 [some (vR 86), some (vI q), some (vI a), some (vI b), some (vI 1), some (vI y5), some (vI n), some (vI mo), x8, x9, x10] [] W (am_RF sh) T 0 0) := by
  intro hc ka kb hnb hn1 hr y5 jj
  have hM := hM hc ka kb hnb
  have last : ∀ (mo : Int) (x8 x9 x10 : Option AV) (W : am_V), jw V W a b n → jt M (fun i => W 93 (20 + i)) n → mo = 0 → (∀ x y, 0 ≤ x → x < y → y < n → (V 92 (10 * a + x) = V 92 (10 * a + y) ∨ V 92 (10 * b + x) = V 92 (10 * b + y) ∨ m_xg (fun i => W 93 (20 + i)) n (W 93 (20 + x)) (W 93 (20 + y))) → W 93 (20 + x) = W 93 (20 + y)) → am_Sem G (d + 5) 93 V T Q 208 [some (vR 86), some (vI q), some (vI a), some (vI b), some (vI 1), some (vI y5), some (vI n), some (vI mo), x8, x9, x10] [] W (am_RF sh) T 0 0 := by
    intro mo x8 x9 x10 W w h hm st
    have w1 := w.1
    have hres : ∀ x y, 0 ≤ x → x < n → 0 ≤ y → y < n → (W 93 (20 + x) = W 93 (20 + y) ↔ jn M n x y) := fun x y x0 x1 y0 y1 => jt_done hM h st ⟨x0, x1⟩ ⟨y0, y1⟩
    have hrg : ∀ x, 0 ≤ x → x < n → 0 ≤ W 93 (20 + x) ∧ W 93 (20 + x) < n := fun x x0 x1 => (h.1 x x0 x1).1
    clear st
    refine am_run 400 mt_M_both ok_M_both (fun K S hK hS => ?_)
    iterate 30 (all_goals (first
      | (refine And.intro (by omega) ?_)
      | (refine And.intro (fun hb => absurd hb (by omega)) (fun hb => ?_))
      | (refine And.intro (fun hb => ?_) (fun hb => absurd hb (by omega)))
      | (refine And.intro (fun hb => ?_) (fun hb => ?_))
      | (intro hb)
      | (conv => whnf)))
    refine hK (s_M_lay hc.1 (by omega) hn1 (by omega) (fun j b1 b2 => ?_) (fun V' r g e1 e2 e3 e4 e5 e6 e7 e8 e9 e10 e11 e12 => ?_))
    · have := hrg (j - 20) (by omega) (by omega)
      rw [show 20 + (j - 20) = j by omega] at this
      constructor <;> omega
    · iterate 30 (all_goals (first
        | (refine And.intro (by omega) ?_)
        | (refine And.intro (fun hb => absurd hb (by omega)) (fun hb => ?_))
        | (refine And.intro (fun hb => ?_) (fun hb => absurd hb (by omega)))
        | (refine And.intro (fun hb => ?_) (fun hb => ?_))
        | (intro hb)
        | (conv => whnf)))
      exact hQ hc ka kb hnb V' r g e1 (fun x y x0 x1 y0 y1 => by rw [e2 x y x0 x1 y0 y1]; exact hres x y x0 x1 y0 y1) e3 e4 (fun j z => by rw [e5 j z, w1 90 (by decide), am_up_ne (by decide)]) e6 (fun j z => by rw [e7 j z, w1 91 (by decide), am_up_ne (by decide)]) e8 (fun j z => by rw [e9 j z, w1 92 (by decide), am_up_ne (by decide)]) e10 (fun j z1 z2 => by rw [e11 j z2, w1 86 (by decide), am_up_at, if_neg z1]) (fun a z1 z2 z3 z4 z5 z6 => by rw [e12 a z1 z2 z3 z4 z5 z6, w1 a z5, am_up_ne z1])
  clear hQ
  induction jj with
  | zero =>
    intro mo x8 x9 x10 W w h a3
    have := (m_cg_le (fun k => W 93 (20 + k) - k) 0 n.toNat).1
    have a3 : m_cg (fun k => W 93 (20 + k) - k) 0 n.toNat < ((0 : Nat) : Int) := a3
    omega
  | succ jj ih =>
    intro mo x8 x9 x10 W w h a3 hmo
    by_cases hm : mo = 0
    · exact last mo x8 x9 x10 W w h hm (hmo.elim (fun z => absurd hm (by omega)) (fun z => z.2))
    · have hmo1 : mo = 1 := hmo.elim id (fun z => absurd z.1 hm)
      clear hmo
      have loopX : ∀ (jx : Nat) (x mo : Int) (x9 x10 : Option AV) (W : am_V), 0 ≤ x → x ≤ n → n - x < jx → jw V W a b n → jt M (fun i => W 93 (20 + i)) n → jl (fun i => W 93 (20 + i)) n < ((jj + 1 : Nat) : Int) → jp V W a b n jj mo x (x + 1) → am_Sem G (d + 5) 93 V T Q 219 [some (vR 86), some (vI q), some (vI a), some (vI b), some (vI 1), some (vI y5), some (vI n), some (vI mo), some (vI x), x9, x10] [] W (am_RF sh) T 0 0 := by
        intro jx
        induction jx with
        | zero => intro x mo x9 x10 W a1 a2 a3; omega
        | succ jx ihx =>
          intro x mo x9 x10 W a1 a2 a3 w h a4 hp
          by_cases hxn : x = n
          · have p1 : (mo = 1 ∧ jl (fun i => W 93 (20 + i)) n < (jj : Int)) ∨ (mo = 0 ∧ ∀ x y, 0 ≤ x → x < y → y < n → (V 92 (10 * a + x) = V 92 (10 * a + y) ∨ V 92 (10 * b + x) = V 92 (10 * b + y) ∨ m_xg (fun i => W 93 (20 + i)) n (W 93 (20 + x)) (W 93 (20 + y))) → W 93 (20 + x) = W 93 (20 + y)) := by
              rcases hp with z | ⟨z1, z2⟩
              · exact Or.inl z
              · exact Or.inr ⟨z1, fun x' y' b1 b2 b3 => z2 x' y' b1 b2 b3 (by omega)⟩
            rcases p1 with ⟨z1, z2⟩ | ⟨z1, z2⟩
            · have nx := ih mo (some (vI x)) x9 x10 W w h z2 (Or.inl z1)
              clear ih ihx hp h w
              refine am_run 400 mt_M_both ok_M_both (fun K S hK hS => ?_)
              iterate 30 (all_goals (first
                | (refine And.intro (by omega) ?_)
                | (refine And.intro (fun hb => absurd hb (by omega)) (fun hb => ?_))
                | (refine And.intro (fun hb => ?_) (fun hb => absurd hb (by omega)))
                | (refine And.intro (fun hb => ?_) (fun hb => ?_))
                | (intro hb)
                | (conv => whnf)))
              exact hS nx
            · have nx : am_Sem G (d + 5) 93 V T Q 208 [some (vR 86), some (vI q), some (vI a), some (vI b), some (vI 1), some (vI y5), some (vI n), some (vI mo), some (vI x), x9, x10] [] W (am_RF sh) T 0 0 := last mo (some (vI x)) x9 x10 W w h z1 z2
              clear ih ihx hp h w
              refine am_run 400 mt_M_both ok_M_both (fun K S hK hS => ?_)
              iterate 30 (all_goals (first
                | (refine And.intro (by omega) ?_)
                | (refine And.intro (fun hb => absurd hb (by omega)) (fun hb => ?_))
                | (refine And.intro (fun hb => ?_) (fun hb => absurd hb (by omega)))
                | (refine And.intro (fun hb => ?_) (fun hb => ?_))
                | (intro hb)
                | (conv => whnf)))
              exact hS nx
          · have loopY : ∀ (jy : Nat) (y mo : Int) (x10 : Option AV) (W : am_V), x < y → y ≤ n → n - y < jy → jw V W a b n → jt M (fun i => W 93 (20 + i)) n → jl (fun i => W 93 (20 + i)) n < ((jj + 1 : Nat) : Int) → jp V W a b n jj mo x y → am_Sem G (d + 5) 93 V T Q 232 [some (vR 86), some (vI q), some (vI a), some (vI b), some (vI 1), some (vI y5), some (vI n), some (vI mo), some (vI x), some (vI y), x10] [] W (am_RF sh) T 0 0 := by
              intro jy
              induction jy with
              | zero => intro y mo x10 W b1 b2 b3; omega
              | succ jy ihy =>
                intro y mo x10 W b1 b2 b3 w h b4 hp
                by_cases hyn : y = n
                · have nx := ihx (x + 1) mo (some (vI y)) x10 W (by omega) (by omega) (by omega) w h b4 (by
                    rcases hp with z | ⟨z1, z2⟩
                    · exact Or.inl z
                    · exact Or.inr ⟨z1, fun x' y' c1 c2 c3 c4 => z2 x' y' c1 c2 c3 (by omega)⟩)
                  clear ih ihx ihy hp h w
                  refine am_run 400 mt_M_both ok_M_both (fun K S hK hS => ?_)
                  iterate 30 (all_goals (first
                    | (refine And.intro (by omega) ?_)
                    | (refine And.intro (fun hb => absurd hb (by omega)) (fun hb => ?_))
                    | (refine And.intro (fun hb => ?_) (fun hb => absurd hb (by omega)))
                    | (refine And.intro (fun hb => ?_) (fun hb => ?_))
                    | (intro hb)
                    | (conv => whnf)))
                  exact hS nx
                · have tx := h.1 x a1 (by omega)
                  have ty := h.1 y (by omega) (by omega)
                  have rx := hr x a1 (by omega)
                  have ry := hr y (by omega) (by omega)
                  have f1 := (w.2 x a1 (by omega)).1
                  have f2 := (w.2 y (by omega) (by omega)).1
                  have f3 := (w.2 x a1 (by omega)).2
                  have f4 := (w.2 y (by omega) (by omega)).2
                  have m01 : mo = 0 ∨ mo = 1 := hp.elim (fun z => Or.inr z.1) (fun z => Or.inl z.1)
                  have keep : (W 93 (20 + x) = W 93 (20 + y) ∨ ¬ (V 92 (10 * a + x) = V 92 (10 * a + y) ∨ V 92 (10 * b + x) = V 92 (10 * b + y) ∨ m_xg (fun i => W 93 (20 + i)) n (W 93 (20 + x)) (W 93 (20 + y)))) → ∀ x10, am_Sem G (d + 5) 93 V T Q 232 [some (vR 86), some (vI q), some (vI a), some (vI b), some (vI 1), some (vI y5), some (vI n), some (vI mo), some (vI x), some (vI (y + 1)), x10] [] W (am_RF sh) T 0 0 := fun hk x10 => ihy (y + 1) mo x10 W (by omega) (by omega) (by omega) w h b4 (by
                    rcases hp with z | ⟨z1, z2⟩
                    · exact Or.inl z
                    · refine Or.inr ⟨z1, fun x' y' c1 c2 c3 c4 c5 => ?_⟩
                      by_cases e : x' = x ∧ y' = y
                      · obtain ⟨e1, e2⟩ := e
                        subst e1; subst e2
                        exact hk.elim id (fun z => absurd c5 z)
                      · exact z2 x' y' c1 c2 c3 (by omega) c5)
                  have mixd : jn M n x y → W 93 (20 + x) ≠ W 93 (20 + y) → ∀ W', (∀ x, x ≠ 93 → W' x = W x) → (∀ j, ¬ (20 ≤ j ∧ j < 20 + n) → W' 93 j = W 93 j) → (∀ j, 0 ≤ j → j < n → W' 93 (20 + j) = if W 93 (20 + j) = W 93 (20 + y) then W 93 (20 + x) else W 93 (20 + j)) → ∀ x10, am_Sem G (d + 5) 93 V T Q 232 [some (vR 86), some (vI q), some (vI a), some (vI b), some (vI 1), some (vI y5), some (vI n), some (vI 1), some (vI x), some (vI (y + 1)), x10] [] W' (am_RF sh) T 0 0 := fun hj ne W' v1 v2 v3 x10 => by
                    have mx := jt_mix (t' := fun i => W' 93 (20 + i)) h ⟨a1, by omega⟩ ⟨by omega, by omega⟩ hj ne v3
                    have b4' : jl (fun i => W 93 (20 + i)) n < (jj : Int) + 1 := b4
                    have mx2 := mx.2
                    exact ihy (y + 1) 1 x10 W' (by omega) (by omega) (by omega) ⟨fun z hz => by rw [v1 z hz, w.1 z hz], fun j j0 j1 => by rw [v2 _ (by omega), v2 _ (by omega)]; exact w.2 j j0 j1⟩ mx.1 (by show jl (fun i => W' 93 (20 + i)) n < (jj : Int) + 1; omega) (Or.inl ⟨rfl, by omega⟩)
                  have hr32 : ∀ i, 0 ≤ i → i < n → am_in32 (W 93 (20 + i)) := fun i z0 z1 => by have : 0 ≤ W 93 (20 + i) ∧ W 93 (20 + i) < n := (h.1 i z0 z1).1; constructor <;> omega
                  have hr10 : ∀ i, 0 ≤ i → i < n → 0 ≤ W 93 (20 + i) ∧ W 93 (20 + i) < 1000 := fun i z0 z1 => by have : 0 ≤ W 93 (20 + i) ∧ W 93 (20 + i) < n := (h.1 i z0 z1).1; constructor <;> omega
                  have j1 : V 92 (10 * a + x) = V 92 (10 * a + y) → jn M n x y := fun e => jn_in (A := fun j => V 92 (10 * a + j)) (fun u v u0 u1 v0 v1 z => ((hM u v u0 u1 v0 v1).mp z).1) a1 b1 (by omega) e
                  have j2 : V 92 (10 * b + x) = V 92 (10 * b + y) → jn M n x y := fun e => jn_in (A := fun j => V 92 (10 * b + j)) (fun u v u0 u1 v0 v1 z => ((hM u v u0 u1 v0 v1).mp z).2) a1 b1 (by omega) e
                  have j3 : m_xg (fun i => W 93 (20 + i)) n (W 93 (20 + x)) (W 93 (20 + y)) → jn M n x y := fun e => jt_cross h ⟨a1, by omega⟩ ⟨by omega, by omega⟩ e
                  have tx1 : 0 ≤ W 93 (20 + x) ∧ W 93 (20 + x) < n := tx.1
                  have ty1 : 0 ≤ W 93 (20 + y) ∧ W 93 (20 + y) < n := ty.1
                  clear ih ihx ihy h w hp b4 tx ty hM a4 last
                  by_cases eA : V 92 (10 * a + x) = V 92 (10 * a + y)
                  · by_cases et : W 93 (20 + x) = W 93 (20 + y)
                    · have nx := keep (Or.inl et)
                      clear keep mixd j1 j2 j3 hr32 hr10 hr
                      refine am_run 400 mt_M_both ok_M_both (fun K S hK hS => ?_)
                      iterate 60 (all_goals (first
                        | (refine And.intro (by omega) ?_)
                        | (refine And.intro (by decide) ?_)
                        | (refine And.intro (fun hb => absurd hb (by omega)) (fun hb => ?_))
                        | (refine And.intro (fun hb => ?_) (fun hb => absurd hb (by omega)))
                        | (refine And.intro (fun hb => ?_) (fun hb => ?_))
                        | (intro hb)
                        | (simp only [f1, f2, f3, f4])
                        | (conv => whnf)))
                      exact hS (nx _)
                    · have nx := mixd (j1 eA) et
                      clear keep mixd j1 j2 j3 hr10 hr
                      refine am_run 400 mt_M_both ok_M_both (fun K S hK hS => ?_)
                      iterate 60 (all_goals (first
                        | (refine And.intro (by omega) ?_)
                        | (refine And.intro (by decide) ?_)
                        | (refine And.intro (fun hb => absurd hb (by omega)) (fun hb => ?_))
                        | (refine And.intro (fun hb => ?_) (fun hb => absurd hb (by omega)))
                        | (refine And.intro (fun hb => ?_) (fun hb => ?_))
                        | (intro hb)
                        | (simp only [f1, f2, f3, f4])
                        | (conv => whnf)))
                      refine hK (s_M_mix (by omega) (by omega) hr32 (fun W' v1 v2 v3 => ?_))
                      iterate 30 (all_goals (first
                        | (refine And.intro (by omega) ?_)
                        | (refine And.intro (fun hb => absurd hb (by omega)) (fun hb => ?_))
                        | (refine And.intro (fun hb => ?_) (fun hb => absurd hb (by omega)))
                        | (refine And.intro (fun hb => ?_) (fun hb => ?_))
                        | (intro hb)
                        | (conv => whnf)))
                      exact hS (nx W' v1 v2 v3 _)
                  · by_cases eB : V 92 (10 * b + x) = V 92 (10 * b + y)
                    · by_cases et : W 93 (20 + x) = W 93 (20 + y)
                      · have nx := keep (Or.inl et)
                        clear keep mixd j1 j2 j3 hr32 hr10 hr
                        refine am_run 400 mt_M_both ok_M_both (fun K S hK hS => ?_)
                        iterate 60 (all_goals (first
                          | (refine And.intro (by omega) ?_)
                          | (refine And.intro (by decide) ?_)
                          | (refine And.intro (fun hb => absurd hb (by omega)) (fun hb => ?_))
                          | (refine And.intro (fun hb => ?_) (fun hb => absurd hb (by omega)))
                          | (refine And.intro (fun hb => ?_) (fun hb => ?_))
                          | (intro hb)
                          | (simp only [f1, f2, f3, f4])
                          | (conv => whnf)))
                        exact hS (nx _)
                      · have nx := mixd (j2 eB) et
                        clear keep mixd j1 j2 j3 hr10 hr
                        refine am_run 400 mt_M_both ok_M_both (fun K S hK hS => ?_)
                        iterate 60 (all_goals (first
                          | (refine And.intro (by omega) ?_)
                          | (refine And.intro (by decide) ?_)
                          | (refine And.intro (fun hb => absurd hb (by omega)) (fun hb => ?_))
                          | (refine And.intro (fun hb => ?_) (fun hb => absurd hb (by omega)))
                          | (refine And.intro (fun hb => ?_) (fun hb => ?_))
                          | (intro hb)
                          | (simp only [f1, f2, f3, f4])
                          | (conv => whnf)))
                        refine hK (s_M_mix (by omega) (by omega) hr32 (fun W' v1 v2 v3 => ?_))
                        iterate 30 (all_goals (first
                          | (refine And.intro (by omega) ?_)
                          | (refine And.intro (fun hb => absurd hb (by omega)) (fun hb => ?_))
                          | (refine And.intro (fun hb => ?_) (fun hb => absurd hb (by omega)))
                          | (refine And.intro (fun hb => ?_) (fun hb => ?_))
                          | (intro hb)
                          | (conv => whnf)))
                        exact hS (nx W' v1 v2 v3 _)
                    · refine am_run 400 mt_M_both ok_M_both (fun K S hK hS => ?_)
                      iterate 60 (all_goals (first
                        | (refine And.intro (by omega) ?_)
                        | (refine And.intro (by decide) ?_)
                        | (refine And.intro (fun hb => absurd hb (by omega)) (fun hb => ?_))
                        | (refine And.intro (fun hb => ?_) (fun hb => absurd hb (by omega)))
                        | (refine And.intro (fun hb => ?_) (fun hb => ?_))
                        | (intro hb)
                        | (simp only [f1, f2, f3, f4])
                        | (conv => whnf)))
                      refine hK (s_M_crossing ⟨a1, by omega⟩ ⟨by omega, by omega⟩ (by omega) hr10 (fun et => ?_) (fun ne cr => ?_) (fun ne cr => ?_))
                      · have nx := keep (Or.inl et)
                        clear keep mixd j1 j2 j3 hr32 hr10 hr
                        iterate 60 (all_goals (first
                          | (refine And.intro (by omega) ?_)
                          | (refine And.intro (fun hb => absurd hb (by omega)) (fun hb => ?_))
                          | (refine And.intro (fun hb => ?_) (fun hb => absurd hb (by omega)))
                          | (refine And.intro (fun hb => ?_) (fun hb => ?_))
                          | (intro hb)
                          | (conv => whnf)))
                        exact hS (nx _)
                      · have nx := mixd (j3 cr) ne
                        clear keep mixd j1 j2 j3 hr10 hr
                        iterate 60 (all_goals (first
                          | (refine And.intro (by omega) ?_)
                          | (refine And.intro (fun hb => absurd hb (by omega)) (fun hb => ?_))
                          | (refine And.intro (fun hb => ?_) (fun hb => absurd hb (by omega)))
                          | (refine And.intro (fun hb => ?_) (fun hb => ?_))
                          | (intro hb)
                          | (conv => whnf)))
                        refine hK (s_M_mix (by omega) (by omega) hr32 (fun W' v1 v2 v3 => ?_))
                        iterate 30 (all_goals (first
                          | (refine And.intro (by omega) ?_)
                          | (refine And.intro (fun hb => absurd hb (by omega)) (fun hb => ?_))
                          | (refine And.intro (fun hb => ?_) (fun hb => absurd hb (by omega)))
                          | (refine And.intro (fun hb => ?_) (fun hb => ?_))
                          | (intro hb)
                          | (conv => whnf)))
                        exact hS (nx W' v1 v2 v3 _)
                      · have nx := keep (Or.inr (fun z => z.elim eA (fun z => z.elim eB cr)))
                        clear keep mixd j1 j2 j3 hr32 hr10 hr
                        iterate 60 (all_goals (first
                          | (refine And.intro (by omega) ?_)
                          | (refine And.intro (fun hb => absurd hb (by omega)) (fun hb => ?_))
                          | (refine And.intro (fun hb => ?_) (fun hb => absurd hb (by omega)))
                          | (refine And.intro (fun hb => ?_) (fun hb => ?_))
                          | (intro hb)
                          | (conv => whnf)))
                        exact hS (nx _)
            have nx := fun x10 => loopY (n + 1).toNat (x + 1) mo x10 W (by omega) (by omega) (by omega) w h a4 hp
            clear ih ihx loopY h w hp a4 hM last
            refine am_run 400 mt_M_both ok_M_both (fun K S hK hS => ?_)
            iterate 30 (all_goals (first
              | (refine And.intro (by omega) ?_)
              | (refine And.intro (fun hb => absurd hb (by omega)) (fun hb => ?_))
              | (refine And.intro (fun hb => ?_) (fun hb => absurd hb (by omega)))
              | (refine And.intro (fun hb => ?_) (fun hb => ?_))
              | (intro hb)
              | (conv => whnf)))
            exact hS (nx _)
      have nx := fun x9 x10 => loopX (n + 1).toNat 0 0 x9 x10 W (by omega) (by omega) (by omega) w h a3 (Or.inr ⟨rfl, fun x' y' c1 c2 c3 c4 => by omega⟩)
      clear ih loopX h w hM hm last
      refine am_run 400 mt_M_both ok_M_both (fun K S hK hS => ?_)
      iterate 30 (all_goals (first
        | (refine And.intro (by omega) ?_)
        | (refine And.intro (fun hb => absurd hb (by omega)) (fun hb => ?_))
        | (refine And.intro (fun hb => ?_) (fun hb => absurd hb (by omega)))
        | (refine And.intro (fun hb => ?_) (fun hb => ?_))
        | (intro hb)
        | (conv => whnf)))
      exact hS (nx _ _)
theorem s_M_both1L {G : am_G} {d : Nat} {sh : Int → Option Nat} {V : am_V} {T : Nat} {Q : Option AV → am_V → am_T → Nat → Prop} {q a b n : Int} {M : Int → Int}
    (hM : ((0 ≤ q ∧ q < 10) ∧ (0 ≤ a ∧ a < 10) ∧ (0 ≤ b ∧ b < 10)) → (1 ≤ V 90 a ∧ V 90 a ≤ 3) → (1 ≤ V 90 b ∧ V 90 b ≤ 3) → n = V 91 b → jm (fun j => V 92 (10 * a + j)) (fun j => V 92 (10 * b + j)) M (n))
    (hQ : ((0 ≤ q ∧ q < 10) ∧ (0 ≤ a ∧ a < 10) ∧ (0 ≤ b ∧ b < 10)) → (1 ≤ V 90 a ∧ V 90 a ≤ 3) → (1 ≤ V 90 b ∧ V 90 b ≤ 3) → n = V 91 b → ∀ (V' : am_V) (r : Int) (g : Int → Int), m_rgs g (n) → (∀ x y, 0 ≤ x → x < n → 0 ≤ y → y < n → (g x = g y ↔ jn M (n) x y)) → m_kd g (n) r → V' 90 q = r → (∀ j, j ≠ q → V' 90 j = V 90 j) → V' 91 q = n → (∀ j, j ≠ q → V' 91 j = V 91 j) → (∀ j, 0 ≤ j → j < n → V' 92 (10 * q + j) = g j) → (∀ j, ¬ (10 * q ≤ j ∧ j < 10 * q + n) → V' 92 j = V 92 j) → V' 86 1 = 0 → (∀ j, j ≠ 0 → j ≠ 1 → V' 86 j = V 86 j) → (∀ a, a ≠ 86 → a ≠ 90 → a ≠ 91 → a ≠ 92 → a ≠ 93 → a ≠ 94 → V' a = V a) → Q (some (vI r)) V' (am_RF sh) T) : ((0 ≤ q ∧ q < 10) ∧ (0 ≤ a ∧ a < 10) ∧ (0 ≤ b ∧ b < 10)) → (1 ≤ V 90 a ∧ V 90 a ≤ 3) → (1 ≤ V 90 b ∧ V 90 b ≤ 3) → n = V 91 b → 1 ≤ n ∧ n ≤ 10 → (∀ j, 0 ≤ j → j < n → (0 ≤ V 92 (10 * a + j) ∧ V 92 (10 * a + j) < 10) ∧ (0 ≤ V 92 (10 * b + j) ∧ V 92 (10 * b + j) < 10)) → ∀ (y5 : Int) (jj : Nat) (i : Int) (W : am_V), 0 ≤ i → i ≤ n → n - i < jj → (∀ x, x ≠ 93 → W x = am_up V 86 0 0 x) → (∀ j, 0 ≤ j → j < n → W 93 (0 + j) = V 92 (10 * a + j) ∧ W 93 (10 + j) = V 92 (10 * b + j)) → (∀ j, 0 ≤ j → j < i → W 93 (20 + j) = j) → am_Sem G (d + 5) 93 V T Q 180 [some (vR 86), some (vI q), some (vI a), some (vI b), some (vI 1), some (vI y5), some (vI n), some (vI i), none, none, none] [] W (am_RF sh) T 0 0 := by
  intro hc ka kb hnb hn1 hr y5 jj
  have main := s_M_both1M (G := G) (d := d) (T := T) (Q := Q) (sh := sh) hM hQ hc ka kb hnb hn1 hr y5
  induction jj with
  | zero => intro i W a1 a2 a3; omega
  | succ jj ih =>
    intro i W a1 a2 a3 w1 w2 w3
    by_cases hi : i = n
    · have lt : jl (fun i => W 93 (20 + i)) n < ((n + 1).toNat : Int) := by
        have := (m_cg_le (fun k => W 93 (20 + k) - k) 0 n.toNat).2
        show m_cg (fun k => W 93 (20 + k) - k) 0 n.toNat < _
        omega
      have nx := fun x8 x9 x10 => main (n + 1).toNat 1 x8 x9 x10 W ⟨w1, w2⟩ ⟨fun x x0 x1 => by
        have e := w3 x x0 (by omega)
        show (0 ≤ W 93 (20 + x) ∧ W 93 (20 + x) < n) ∧ W 93 (20 + W 93 (20 + x)) = W 93 (20 + x)
        rw [e]; exact ⟨⟨x0, x1⟩, e⟩, fun x y x0 x1 y0 y1 e => by
        have e : W 93 (20 + x) = W 93 (20 + y) := e
        rw [w3 x x0 (by omega), w3 y y0 (by omega)] at e
        rw [e]; exact m_kr_refl _ _ _⟩ lt (Or.inl rfl)
      clear ih main w1 w2 w3  hM hQ
      refine am_run 400 mt_M_both ok_M_both (fun K S hK hS => ?_)
      iterate 30 (all_goals (first
        | (refine And.intro (by omega) ?_)
        | (refine And.intro (fun hb => absurd hb (by omega)) (fun hb => ?_))
        | (refine And.intro (fun hb => ?_) (fun hb => absurd hb (by omega)))
        | (refine And.intro (fun hb => ?_) (fun hb => ?_))
        | (intro hb)
        | (conv => whnf)))
      exact hS (nx _ _ _)
    · have nx := ih (i + 1) (am_up W 93 (20 + i) i) (by omega) (by omega) (by omega) (fun x hx => by rw [am_up_ne hx, w1 x hx]) (fun j j0 j1 => by rw [am_up_at, if_neg (by omega), am_up_at, if_neg (by omega)]; exact w2 j j0 j1) (fun j j0 j1 => by
        rw [am_up_at]
        by_cases z : j = i
        · rw [if_pos (by omega), z]
        · rw [if_neg (by omega), w3 j j0 (by omega)])
      clear ih w3 main  hM hQ
      refine am_run 400 mt_M_both ok_M_both (fun K S hK hS => ?_)
      iterate 40 (all_goals (first
        | (refine And.intro (by omega) ?_)
        | (refine And.intro (fun hb => absurd hb (by omega)) (fun hb => ?_))
        | (refine And.intro (fun hb => ?_) (fun hb => absurd hb (by omega)))
        | (refine And.intro (fun hb => ?_) (fun hb => ?_))
        | (intro hb)
        | (conv => whnf)))
      exact hS nx
theorem s_M_both1 {G : am_G} {d : Nat} {sh : Int → Option Nat} {V : am_V} {T : Nat} {Q : Option AV → am_V → am_T → Nat → Prop} {q a b : Int} {M : Int → Int} (h0 : am_in32 q) (h1 : am_in32 a) (h2 : am_in32 b)
    (hV : ∀ k, 0 ≤ k → k < 10 → (V 90 k = -1 ∨ (0 ≤ V 90 k ∧ V 90 k ≤ 4 ∧ 1 ≤ V 91 k ∧ V 91 k ≤ 10 ∧ ∀ j, 0 ≤ j → j < V 91 k → 0 ≤ V 92 (10 * k + j) ∧ V 92 (10 * k + j) < 10)))
    (hB : ¬ ((0 ≤ q ∧ q < 10) ∧ (0 ≤ a ∧ a < 10) ∧ (0 ≤ b ∧ b < 10)) → Q (some (vI (-1000001))) (am_up V 86 0 0) (am_RF sh) T)
    (hF : ∀ c, ((0 ≤ q ∧ q < 10) ∧ (0 ≤ a ∧ a < 10) ∧ (0 ≤ b ∧ b < 10)) → ((c = 1 ∧ V 90 a < 0) ∨ (c = 3 ∧ (V 90 a = 0 ∨ V 90 a = 4)) ∨ ((1 ≤ V 90 a ∧ V 90 a ≤ 3) ∧ ((c = 1 ∧ V 90 b < 0) ∨ (c = 3 ∧ (V 90 b = 0 ∨ V 90 b = 4))))) → Q (some (vI (-1000010 - c))) (am_up (am_up V 86 0 0) 86 1 c) (am_RF sh) T)
    (hB2 : ((0 ≤ q ∧ q < 10) ∧ (0 ≤ a ∧ a < 10) ∧ (0 ≤ b ∧ b < 10)) → (1 ≤ V 90 a ∧ V 90 a ≤ 3) → (1 ≤ V 90 b ∧ V 90 b ≤ 3) → V 91 a ≠ V 91 b → Q (some (vI (-1000001))) (am_up V 86 0 0) (am_RF sh) T)
    (hM : ((0 ≤ q ∧ q < 10) ∧ (0 ≤ a ∧ a < 10) ∧ (0 ≤ b ∧ b < 10)) → (1 ≤ V 90 a ∧ V 90 a ≤ 3) → (1 ≤ V 90 b ∧ V 90 b ≤ 3) → V 91 a = V 91 b → jm (fun j => V 92 (10 * a + j)) (fun j => V 92 (10 * b + j)) M (V 91 a))
    (hQ : ((0 ≤ q ∧ q < 10) ∧ (0 ≤ a ∧ a < 10) ∧ (0 ≤ b ∧ b < 10)) → (1 ≤ V 90 a ∧ V 90 a ≤ 3) → (1 ≤ V 90 b ∧ V 90 b ≤ 3) → V 91 a = V 91 b → ∀ (V' : am_V) (r : Int) (g : Int → Int), m_rgs g (V 91 a) → (∀ x y, 0 ≤ x → x < V 91 a → 0 ≤ y → y < V 91 a → (g x = g y ↔ jn M (V 91 a) x y)) → m_kd g (V 91 a) r → V' 90 q = r → (∀ j, j ≠ q → V' 90 j = V 90 j) → V' 91 q = V 91 a → (∀ j, j ≠ q → V' 91 j = V 91 j) → (∀ j, 0 ≤ j → j < V 91 a → V' 92 (10 * q + j) = g j) → (∀ j, ¬ (10 * q ≤ j ∧ j < 10 * q + V 91 a) → V' 92 j = V 92 j) → V' 86 1 = 0 → (∀ j, j ≠ 0 → j ≠ 1 → V' 86 j = V 86 j) → (∀ a, a ≠ 86 → a ≠ 90 → a ≠ 91 → a ≠ 92 → a ≠ 93 → a ≠ 94 → V' a = V a) → Q (some (vI r)) V' (am_RF sh) T) : am_Calls G (d + 6) 93 [vR 86, vI q, vI a, vI b, vI 1] V (am_RF sh) T Q := by
  refine am_enter mt_M_both ok_M_both rfl ?_
  obtain ⟨n, hn⟩ : ∃ n, n = V 91 a := ⟨_, rfl⟩
  rw [← hn] at hQ hB2 hM
  have loop := s_M_both1L (G := G) (d := d) (T := T) (Q := Q) (sh := sh) (q := q) (a := a) (b := b) (n := n) hM hQ
  have e90 : ∀ k, am_up V 86 0 0 90 k = V 90 k := fun k => by rw [am_up_ne (by decide)]
  have e91 : ∀ k, am_up V 86 0 0 91 k = V 91 k := fun k => by rw [am_up_ne (by decide)]
  refine am_run 400 mt_M_both ok_M_both (fun K S hK hS => ?_)
  iterate 30 (all_goals (first
    | (refine And.intro (by omega) ?_)
    | (refine And.intro (fun hb => absurd hb (by omega)) (fun hb => ?_))
    | (refine And.intro (fun hb => ?_) (fun hb => absurd hb (by omega)))
    | (refine And.intro (fun hb => ?_) (fun hb => ?_))
    | (intro hb)
    | (conv => whnf)))
  refine hK (s_M_isPlace h0 (fun r hr => ?_))
  iterate 30 (all_goals (first
    | (refine And.intro (by omega) ?_)
    | (refine And.intro (fun hb => absurd hb (by omega)) (fun hb => ?_))
    | (refine And.intro (fun hb => ?_) (fun hb => absurd hb (by omega)))
    | (refine And.intro (fun hb => ?_) (fun hb => ?_))
    | (intro hb)
    | (conv => whnf)))
  · exact hB (by omega)
  refine hK (s_M_isPlace h1 (fun r2 hr2 => ?_))
  iterate 30 (all_goals (first
    | (refine And.intro (by omega) ?_)
    | (refine And.intro (fun hb => absurd hb (by omega)) (fun hb => ?_))
    | (refine And.intro (fun hb => ?_) (fun hb => absurd hb (by omega)))
    | (refine And.intro (fun hb => ?_) (fun hb => ?_))
    | (intro hb)
    | (conv => whnf)))
  · exact hB (by omega)
  refine hK (s_M_isPlace h2 (fun r3 hr3 => ?_))
  iterate 30 (all_goals (first
    | (refine And.intro (by omega) ?_)
    | (refine And.intro (fun hb => absurd hb (by omega)) (fun hb => ?_))
    | (refine And.intro (fun hb => ?_) (fun hb => absurd hb (by omega)))
    | (refine And.intro (fun hb => ?_) (fun hb => ?_))
    | (intro hb)
    | (conv => whnf)))
  · exact hB (by omega)
  refine hK (s_M_in (by omega) (by omega) (by omega) (fun r4 hr4 => ?_))
  by_cases hc : (0 ≤ q ∧ q < 10) ∧ (0 ≤ a ∧ a < 10) ∧ (0 ≤ b ∧ b < 10)
  · have va := hV a hc.2.1.1 hc.2.1.2
    have vb := hV b hc.2.2.1 hc.2.2.2
    have va1 : V 90 a = -1 ∨ (0 ≤ V 90 a ∧ V 90 a ≤ 4) := va.elim Or.inl (fun z => Or.inr ⟨z.1, z.2.1⟩)
    have vb1 : V 90 b = -1 ∨ (0 ≤ V 90 b ∧ V 90 b ≤ 4) := vb.elim Or.inl (fun z => Or.inr ⟨z.1, z.2.1⟩)
    have va2 : 0 ≤ V 90 a → 1 ≤ V 91 a ∧ V 91 a ≤ 10 := fun z => va.elim (fun e => absurd z (by omega)) (fun e => ⟨e.2.2.1, e.2.2.2.1⟩)
    have vb2 : 0 ≤ V 90 b → 1 ≤ V 91 b ∧ V 91 b ≤ 10 := fun z => vb.elim (fun e => absurd z (by omega)) (fun e => ⟨e.2.2.1, e.2.2.2.1⟩)
    have va3 : 0 ≤ V 90 a → ∀ j, 0 ≤ j → j < V 91 a → 0 ≤ V 92 (10 * a + j) ∧ V 92 (10 * a + j) < 10 := fun z => va.elim (fun e => absurd z (by omega)) (fun e => e.2.2.2.2)
    have vb3 : 0 ≤ V 90 b → ∀ j, 0 ≤ j → j < V 91 b → 0 ≤ V 92 (10 * b + j) ∧ V 92 (10 * b + j) < 10 := fun z => vb.elim (fun e => absurd z (by omega)) (fun e => e.2.2.2.2)
    clear va vb
    iterate 30 (all_goals (first
      | (refine And.intro (by omega) ?_)
      | (refine And.intro (fun hb => absurd hb (by omega)) (fun hb => ?_))
      | (refine And.intro (fun hb => ?_) (fun hb => absurd hb (by omega)))
      | (refine And.intro (fun hb => ?_) (fun hb => ?_))
      | (intro hb)
      | (conv => whnf)))
    refine hK (s_M_asked hc.2.1 (by rw [e90]; omega) (by omega) (fun r5 hr5 => ?_))
    rw [e90] at hr5
    by_cases ka : 1 ≤ V 90 a ∧ V 90 a ≤ 3
    · obtain rfl : r5 = 0 := by omega
      iterate 30 (all_goals (first
        | (refine And.intro (by omega) ?_)
        | (refine And.intro (fun hb => absurd hb (by omega)) (fun hb => ?_))
        | (refine And.intro (fun hb => ?_) (fun hb => absurd hb (by omega)))
        | (refine And.intro (fun hb => ?_) (fun hb => ?_))
        | (intro hb)
        | (conv => whnf)))
      refine hK (s_M_asked hc.2.2 (by rw [e90]; omega) (by omega) (fun r6 hr6 => ?_))
      rw [e90] at hr6
      by_cases kb : 1 ≤ V 90 b ∧ V 90 b ≤ 3
      · obtain rfl : r6 = 0 := by omega
        have na := va2 (by omega)
        have nb := vb2 (by omega)
        by_cases hnb : n = V 91 b
        · iterate 60 (all_goals (first
            | (refine And.intro (by omega) ?_)
            | (refine And.intro (by decide) ?_)
            | (refine And.intro (fun hb => absurd hb (by omega)) (fun hb => ?_))
            | (refine And.intro (fun hb => ?_) (fun hb => absurd hb (by omega)))
            | (refine And.intro (fun hb => ?_) (fun hb => ?_))
            | (intro hb)
            | (simp only [e91])
            | (conv => whnf)))
          refine hK (s_M_load (n := n) hc.2.1 (by omega) (by rw [e91]; exact hn.symm) (by omega) (fun W w1 w2 w3 => ?_))
          have wV : ∀ x, x ≠ 93 → x ≠ 86 → W x = V x := fun x z1 z2 => by rw [w1 x z1, am_up_ne z2]
          iterate 30 (all_goals (first
            | (refine And.intro (by omega) ?_)
            | (refine And.intro (fun hb => absurd hb (by omega)) (fun hb => ?_))
            | (refine And.intro (fun hb => ?_) (fun hb => absurd hb (by omega)))
            | (refine And.intro (fun hb => ?_) (fun hb => ?_))
            | (intro hb)
            | (conv => whnf)))
          refine hK (s_M_load (n := n) hc.2.2 (by omega) (by rw [wV 91 (by decide) (by decide)]; exact hnb.symm) (by omega) (fun U u1 u2 u3 => ?_))
          rw [← hn]
          iterate 40 (all_goals (first
            | (refine And.intro (by omega) ?_)
            | (refine And.intro (fun hb => absurd hb (by omega)) (fun hb => ?_))
            | (refine And.intro (fun hb => ?_) (fun hb => absurd hb (by omega)))
            | (refine And.intro (fun hb => ?_) (fun hb => ?_))
            | (intro hb)
            | (conv => whnf)))
          refine hS (loop hc ka kb hnb (by omega) (fun j j0 j1 => ⟨va3 (by omega) j j0 (by omega), vb3 (by omega) j j0 (by omega)⟩) _ (n + 1).toNat 0 U (by omega) (by omega) (by omega) (fun x hx => by rw [u1 x hx, w1 x hx]) (fun j j0 j1 => ⟨?_, ?_⟩) (fun j j0 j1 => absurd j1 (by omega)))
          · rw [u3 _ (by omega), w2 j j0 j1, am_up_ne (by decide)]
          · rw [u2 j j0 j1, wV 92 (by decide) (by decide)]
        · iterate 60 (all_goals (first
            | (refine And.intro (by omega) ?_)
            | (refine And.intro (by decide) ?_)
            | (refine And.intro (fun hb => absurd hb (by omega)) (fun hb => ?_))
            | (refine And.intro (fun hb => ?_) (fun hb => absurd hb (by omega)))
            | (refine And.intro (fun hb => ?_) (fun hb => ?_))
            | (intro hb)
            | (simp only [e91])
            | (conv => whnf)))
          exact hB2 hc ka kb hnb
      · iterate 40 (all_goals (first
          | (refine And.intro (by omega) ?_)
          | (refine And.intro (fun hb => absurd hb (by omega)) (fun hb => ?_))
          | (refine And.intro (fun hb => ?_) (fun hb => absurd hb (by omega)))
          | (refine And.intro (fun hb => ?_) (fun hb => ?_))
          | (intro hb)
          | (conv => whnf)))
        refine hK (s_M_found (hF r6 hc (by omega)))
    · iterate 40 (all_goals (first
        | (refine And.intro (by omega) ?_)
        | (refine And.intro (fun hb => absurd hb (by omega)) (fun hb => ?_))
        | (refine And.intro (fun hb => ?_) (fun hb => absurd hb (by omega)))
        | (refine And.intro (fun hb => ?_) (fun hb => ?_))
        | (intro hb)
        | (conv => whnf)))
      refine hK (s_M_found (hF r5 hc (by omega)))
  · iterate 30 (all_goals (first
      | (refine And.intro (by omega) ?_)
      | (refine And.intro (fun hb => absurd hb (by omega)) (fun hb => ?_))
      | (refine And.intro (fun hb => ?_) (fun hb => absurd hb (by omega)))
      | (refine And.intro (fun hb => ?_) (fun hb => ?_))
      | (intro hb)
      | (conv => whnf)))
    exact hB (by omega)
