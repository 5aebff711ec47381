/-! join, how 3: the number k of the product -/
def y_mx (p : Int) (x y : Int → Int) (k : Int) : Int := y_ep (y_a x y) (y_PN.getD k.toNat []) % p
theorem y_mx_rg {p k : Int} {x y : Int → Int} (hp : 0 < p) : 0 ≤ y_mx p x y k ∧ y_mx p x y k < p := m_modr hp
theorem y_vars : ∀ k : Fin 8, (y_PN.getD (k + 1) []).all (fun q => q.1.all (fun v => (Nat.ble 1 v && Nat.ble v (k + 1)) || (Nat.ble 10 v && Nat.ble v (k + 10)))) = true := by decide +kernel
theorem y_em_eq {a a' : Nat → Int} : ∀ l : List Nat, (∀ v, v ∈ l → a v = a' v) → y_em a l = y_em a' l
  | [], _ => rfl
  | x :: l, h => by rw [y_em, y_em, h x List.mem_cons_self, y_em_eq l (fun v hv => h v (List.mem_cons_of_mem _ hv))]
theorem y_ep_eq {a a' : Nat → Int} : ∀ P : List (List Nat × Nat), (∀ q, q ∈ P → ∀ v, v ∈ q.1 → a v = a' v) → y_ep a P = y_ep a' P
  | [], _ => rfl
  | q :: P, h => by rw [y_ep, y_ep, y_em_eq q.1 (h q List.mem_cons_self), y_ep_eq P (fun q' hq => h q' (List.mem_cons_of_mem _ hq))]
theorem y_mx_eq {p k : Int} {x y x' y' : Int → Int} (h1 : 1 ≤ k) (h8 : k ≤ 8) (h : ∀ s, 1 ≤ s → s ≤ k → x s = x' s ∧ y s = y' s) : y_mx p x y k = y_mx p x' y' k := by
  have hv := y_vars ⟨k.toNat - 1, by omega⟩
  rw [show ((⟨k.toNat - 1, by omega⟩ : Fin 8) : Nat) = k.toNat - 1 from rfl] at hv
  unfold y_mx
  rw [y_ep_eq (a := y_a x y) (a' := y_a x' y') (y_PN.getD k.toNat []) (fun q hq v hv' => ?_)]
  rw [show k.toNat - 1 + 1 = k.toNat by omega] at hv
  have z := List.all_eq_true.mp (List.all_eq_true.mp hv q hq) v hv'
  unfold y_a
  rcases Bool.or_eq_true_iff.mp z with z | z
  · have z := Bool.and_eq_true_iff.mp z
    have z1 := Nat.le_of_ble_eq_true z.1
    have z2 := Nat.le_of_ble_eq_true z.2
    rw [if_pos (by omega), if_pos (by omega)]
    exact (h v (by omega) (by omega)).1
  · have z := Bool.and_eq_true_iff.mp z
    have z1 := Nat.le_of_ble_eq_true z.1
    have z2 := Nat.le_of_ble_eq_true z.2
    rw [if_neg (by omega), if_neg (by omega)]
    exact (h ((v : Int) - 9) (by omega) (by omega)).2
/-! join: the product, the reference -/
theorem s_M_join3 {G : am_G} {d : Nat} {sh : Int → Option Nat} {V : am_V} {T : Nat} {Q : Option AV → am_V → am_T → Nat → Prop} {q a b p : Int} (h0 : am_in32 q) (h1 : am_in32 a) (h2 : am_in32 b) (hp : 1 < p ∧ p ≤ 2000000000) (e0 : V 86 2 = p) (hz : ∀ s, 0 ≤ s → s < 8 → 1 ≤ V 98 s ∧ V 98 s ≤ 8) (hm : ∀ s, 0 ≤ s → s < 8 → sr_rg p (sr_m V s) 8)
    (hB : ¬ ((0 ≤ q ∧ q < 8) ∧ (0 ≤ a ∧ a < 8) ∧ (0 ≤ b ∧ b < 8)) → Q (some (vI (-1000001))) (am_up V 86 0 0) (am_RF sh) T)
    (hQ : ((0 ≤ q ∧ q < 8) ∧ (0 ≤ a ∧ a < 8) ∧ (0 ≤ b ∧ b < 8)) → ∀ n, ((n = V 98 a ∧ V 98 a ≤ V 98 b) ∨ (n = V 98 b ∧ V 98 b ≤ V 98 a)) → ∀ V' (x y : Int → Int), (∀ z, z ≠ 93 → z ≠ 94 → z ≠ 98 → z ≠ 99 → z ≠ 100 → z ≠ 102 → V' z = am_up V 86 0 0 z) → (∀ j, V' 98 j = if j = q then n else V 98 j) → (∀ j, ¬ (9 * q + 1 ≤ j ∧ j ≤ 9 * q + n) → V' 99 j = V 99 j) → sr_rg p (sr_m V' q) 8 → (∀ k, 1 ≤ k → k ≤ n → x k = (sr_m V a k + p - sr_ls p (sr_m V a) x 1 k (k - 1).toNat) % p) → (∀ k, 1 ≤ k → k ≤ n → y k = (sr_m V b k + p - sr_ls p (sr_m V b) y 1 k (k - 1).toNat) % p) → (∀ k, 1 ≤ k → k ≤ n → sr_m V' q k = (sr_ls p (sr_m V' q) (y_mx p x y) 1 k (k - 1).toNat + y_mx p x y k) % p) → Q (some (vI n)) V' (am_RF sh) T) : am_Calls G (d + 6) 127 [vR 86, vI q, vI a, vI b, vI 3] V (am_RF sh) T Q := by
  have mW : ∀ W : am_V, W 99 = V 99 → ∀ s, sr_m W s = sr_m V s := fun W z s => by unfold sr_m; rw [z]
  refine am_enter mt_M_join ok_M_join rfl ?_
  have loop : ((0 ≤ q ∧ q < 8) ∧ (0 ≤ a ∧ a < 8) ∧ (0 ≤ b ∧ b < 8)) → ∀ n, 1 ≤ n ∧ n ≤ 8 → ((n = V 98 a ∧ V 98 a ≤ V 98 b) ∨ (n = V 98 b ∧ V 98 b ≤ V 98 a)) → ∀ (x y : Int → Int), (∀ k, 1 ≤ k → k ≤ n → (0 ≤ x k ∧ x k < p) ∧ (0 ≤ y k ∧ y k < p)) → (∀ k, 1 ≤ k → k ≤ n → x k = (sr_m V a k + p - sr_ls p (sr_m V a) x 1 k (k - 1).toNat) % p) → (∀ k, 1 ≤ k → k ≤ n → y k = (sr_m V b k + p - sr_ls p (sr_m V b) y 1 k (k - 1).toNat) % p) → ∀ (jj : Nat) (k : Int) (W : am_V), 1 ≤ k → k ≤ n + 1 → n + 1 - k < jj → (∀ z, z ≠ 93 → z ≠ 94 → z ≠ 100 → z ≠ 102 → W z = am_up V 86 0 0 z) → (∀ j, 1 ≤ j → j ≤ n → W 100 (9 + j) = x j ∧ W 100 (18 + j) = y j) → (∀ j, 1 ≤ j → j < k → W 100 (0 + j) = y_mx p x y j) → am_Sem G (d + 5) 127 V T Q 109 [some (vR 86), some (vI q), some (vI a), some (vI b), some (vI 3), some (vI n), some (vI 1), some (vI k)] [] W (am_RF sh) T 0 0 := by
    intro hc n hn hnn x y hxy hx hy jj
    induction jj with
    | zero => intro k W a1 a2 a3; omega
    | succ jj ih =>
      intro k W a1 a2 a3 w1 w2 w3
      by_cases hk : k = n + 1
      · have emq := mW W (by rw [w1 99 (by decide) (by decide) (by decide) (by decide), am_up_ne (by decide)])
        refine am_run 400 mt_M_join ok_M_join (fun K S hK hS => ?_)
        iterate 30 (all_goals (first
          | (refine And.intro (by omega) ?_)
          | (refine And.intro (fun hb => absurd hb (by omega)) (fun hb => ?_))
          | (refine And.intro (fun hb => ?_) (fun hb => absurd hb (by omega)))
          | (refine And.intro (fun hb => ?_) (fun hb => ?_))
          | (intro hb)
          | (conv => whnf)))
        refine hK (s_M_findMoments (p := p) hp (by rw [w1 86 (by decide) (by decide) (by decide) (by decide)]; simp +decide [am_up_ne, am_up_at, reduceIte]; exact e0) hc.1 (by omega) (by omega) hn (by rw [emq]; exact hm q hc.1.1 hc.1.2) (fun j j1 j2 => by rw [w3 j j1 (by omega)]; exact y_mx_rg (by omega)) (fun U u1 u2 u3 u4 u5 => ?_))
        iterate 30 (all_goals (first
          | (refine And.intro (by omega) ?_)
          | (refine And.intro (fun hb => absurd hb (by omega)) (fun hb => ?_))
          | (refine And.intro (fun hb => ?_) (fun hb => absurd hb (by omega)))
          | (refine And.intro (fun hb => ?_) (fun hb => ?_))
          | (intro hb)
          | (conv => whnf)))
        refine hQ hc n hnn U x y (fun z z5 z6 z1 z2 z3 z4 => by rw [u1 z z1 z2 z4, w1 z z5 z6 z3 z4]) (fun j => by rw [u2 j, w1 98 (by decide) (by decide) (by decide) (by decide), am_up_ne (by decide)]) (fun j z => by rw [u3 j z, w1 99 (by decide) (by decide) (by decide) (by decide), am_up_ne (by decide)]) u4 hx hy (fun j j1 j2 => ?_)
        rw [u5 j j1 j2, w3 j j1 (by omega), sr_ls_eq (c := fun j => W 100 (0 + j)) (c' := y_mx p x y) (fun _ _ _ => rfl) _ (by omega) (fun i i1 i2 => w3 i i1 (by omega))]
      · have f86 : W 86 2 = p := by rw [w1 86 (by decide) (by decide) (by decide) (by decide)]; simp +decide [am_up_ne, am_up_at, reduceIte]; exact e0
        have hcc : ∀ s, 1 ≤ s → s ≤ k → (0 ≤ W 100 (9 + s) ∧ W 100 (9 + s) < p) ∧ 0 ≤ W 100 (18 + s) ∧ W 100 (18 + s) < p := fun s s1 s2 => by
          rw [(w2 s s1 (by omega)).1, (w2 s s1 (by omega)).2]
          exact hxy s s1 (by omega)
        have eq : y_mx p (fun s => W 100 (9 + s)) (fun s => W 100 (18 + s)) k = y_mx p x y k := y_mx_eq (by omega) (by omega) (fun s s1 s2 => w2 s s1 (by omega))
        have nx := fun (X : am_V) (x1 : ∀ a, a ≠ 93 → a ≠ 94 → X a = W a) => ih (k + 1) (am_up X 100 (0 + k) (y_mx p x y k)) (by omega) (by omega) (by omega) (fun z z5 z6 z1 z2 => by rw [am_up_ne z1, x1 z z5 z6, w1 z z5 z6 z1 z2]) (fun j j1 j2 => by rw [am_up_at, if_neg (by omega), am_up_at, if_neg (by omega), x1 100 (by decide) (by decide)]; exact w2 j j1 j2) (fun j j1 j2 => by
          rw [am_up_at]
          by_cases z : j = k
          · rw [if_pos (by omega), z]
          · rw [if_neg (by omega), x1 100 (by decide) (by decide), w3 j j1 (by omega)])
        clear ih hQ
        refine am_run 400 mt_M_join ok_M_join (fun K S hK hS => ?_)
        iterate 40 (all_goals (first
          | (refine And.intro (by omega) ?_)
          | (refine And.intro (fun hb => absurd hb (by omega)) (fun hb => ?_))
          | (refine And.intro (fun hb => ?_) (fun hb => absurd hb (by omega)))
          | (refine And.intro (fun hb => ?_) (fun hb => ?_))
          | (intro hb)
          | (conv => whnf)))
        refine hK (s_M_mixed (p := p) hp f86 (by omega) hcc (fun X x1 => ?_))
        have nx := nx X x1
        rw [← eq] at nx
        iterate 40 (all_goals (first
          | (refine And.intro (by omega) ?_)
          | (refine And.intro (fun hb => absurd hb (by omega)) (fun hb => ?_))
          | (refine And.intro (fun hb => ?_) (fun hb => absurd hb (by omega)))
          | (refine And.intro (fun hb => ?_) (fun hb => ?_))
          | (intro hb)
          | (conv => whnf)))
        exact hS nx
  have e98 : ∀ s, am_up V 86 0 0 98 s = V 98 s := fun s => by rw [am_up_ne (by decide)]
  have e86 : am_up V 86 0 0 86 2 = p := by simp +decide [am_up_ne, am_up_at, reduceIte]; exact e0
  have emq0 : ∀ s, sr_m (am_up V 86 0 0) s = sr_m V s := mW _ (am_up_ne (by decide))
  refine am_run 400 mt_M_join ok_M_join (fun K S hK hS => ?_)
  iterate 30 (all_goals (first
    | (refine And.intro (by omega) ?_)
    | (refine And.intro (fun hb => absurd hb (by omega)) (fun hb => ?_))
    | (refine And.intro (fun hb => ?_) (fun hb => absurd hb (by omega)))
    | (refine And.intro (fun hb => ?_) (fun hb => ?_))
    | (intro hb)
    | (conv => whnf)))
  refine hK (s_M_isSeries h0 (fun r hr => ?_))
  iterate 30 (all_goals (first
    | (refine And.intro (by omega) ?_)
    | (refine And.intro (fun hb => absurd hb (by omega)) (fun hb => ?_))
    | (refine And.intro (fun hb => ?_) (fun hb => absurd hb (by omega)))
    | (refine And.intro (fun hb => ?_) (fun hb => ?_))
    | (intro hb)
    | (conv => whnf)))
  · exact hB (by omega)
  refine hK (s_M_isSeries h1 (fun r2 hr2 => ?_))
  iterate 30 (all_goals (first
    | (refine And.intro (by omega) ?_)
    | (refine And.intro (fun hb => absurd hb (by omega)) (fun hb => ?_))
    | (refine And.intro (fun hb => ?_) (fun hb => absurd hb (by omega)))
    | (refine And.intro (fun hb => ?_) (fun hb => ?_))
    | (intro hb)
    | (conv => whnf)))
  · exact hB (by omega)
  refine hK (s_M_isSeries h2 (fun r3 hr3 => ?_))
  iterate 30 (all_goals (first
    | (refine And.intro (by omega) ?_)
    | (refine And.intro (fun hb => absurd hb (by omega)) (fun hb => ?_))
    | (refine And.intro (fun hb => ?_) (fun hb => absurd hb (by omega)))
    | (refine And.intro (fun hb => ?_) (fun hb => ?_))
    | (intro hb)
    | (conv => whnf)))
  · exact hB (by omega)
  refine hK (s_M_in (by omega) (by omega) (by omega) (fun r4 hr4 => ?_))
  by_cases hc : (0 ≤ q ∧ q < 8) ∧ (0 ≤ a ∧ a < 8) ∧ (0 ≤ b ∧ b < 8)
  · have za := hz a hc.2.1.1 hc.2.1.2
    have zb := hz b hc.2.2.1 hc.2.2.2
    have cont : ∀ n, 1 ≤ n ∧ n ≤ 8 → ((n = V 98 a ∧ V 98 a ≤ V 98 b) ∨ (n = V 98 b ∧ V 98 b ≤ V 98 a)) → ∀ (W U : am_V), (∀ z, z ≠ 100 → z ≠ 102 → W z = am_up V 86 0 0 z) → (∀ k, 1 ≤ k → k ≤ V 98 a → 0 ≤ W 100 (9 + k) ∧ W 100 (9 + k) < p) → (∀ k, 1 ≤ k → k ≤ V 98 a → W 100 (9 + k) = (sr_m V a k + p - sr_ls p (sr_m V a) (fun j => W 100 (9 + j)) 1 k (k - 1).toNat) % p) → (∀ z, z ≠ 100 → z ≠ 102 → U z = W z) → (∀ j, ¬ (18 + 1 ≤ j ∧ j ≤ 18 + V 98 b) → U 100 j = W 100 j) → (∀ k, 1 ≤ k → k ≤ V 98 b → 0 ≤ U 100 (18 + k) ∧ U 100 (18 + k) < p) → (∀ k, 1 ≤ k → k ≤ V 98 b → U 100 (18 + k) = (sr_m V b k + p - sr_ls p (sr_m V b) (fun j => U 100 (18 + j)) 1 k (k - 1).toNat) % p) → am_Sem G (d + 5) 127 V T Q 109 [some (vR 86), some (vI q), some (vI a), some (vI b), some (vI 3), some (vI n), some (vI 1), some (vI 1)] [] U (am_RF sh) T 0 0 := fun n hn hnn W U w1 w2 w3 u1 u2 u3 u4 => by
      have ex : ∀ k, 1 ≤ k → k ≤ 8 → U 100 (9 + k) = W 100 (9 + k) := fun k k1 k2 => u2 _ (by omega)
      refine loop hc n hn hnn (fun j => W 100 (9 + j)) (fun j => U 100 (18 + j)) (fun k k1 k2 => ⟨w2 k k1 (by omega), u3 k k1 (by omega)⟩) (fun k k1 k2 => w3 k k1 (by omega)) (fun k k1 k2 => u4 k k1 (by omega)) (n + 1).toNat 1 U (by omega) (by omega) (by omega) (fun z _ _ z1 z2 => by rw [u1 z z1 z2, w1 z z1 z2]) (fun j j1 j2 => ⟨ex j j1 (by omega), rfl⟩) (fun j j1 j2 => absurd j2 (by omega))
    clear loop
    iterate 60 (all_goals (first
      | (refine And.intro (by omega) ?_)
      | (refine And.intro (by decide) ?_)
      | (refine And.intro (fun hb => absurd hb (by omega)) (fun hb => ?_))
      | (refine And.intro (fun hb => ?_) (fun hb => absurd hb (by omega)))
      | (refine And.intro (fun hb => ?_) (fun hb => ?_))
      | (intro hb)
      | (simp only [e98])
      | (conv => whnf)))
    all_goals (refine hK (s_M_findCumulants (p := p) hp e86 hc.2.1 (by omega) (by omega) (e98 a) za (by rw [emq0]; exact hm a hc.2.1.1 hc.2.1.2) (fun W w1 w2 w3 w4 => ?_)))
    all_goals (rw [emq0] at w4)
    all_goals (have emW := mW W (by rw [w1 99 (by decide) (by decide), am_up_ne (by decide)]))
    iterate 60 (all_goals (first
      | (refine And.intro (by omega) ?_)
      | (refine And.intro (fun hb => absurd hb (by omega)) (fun hb => ?_))
      | (refine And.intro (fun hb => ?_) (fun hb => absurd hb (by omega)))
      | (refine And.intro (fun hb => ?_) (fun hb => ?_))
      | (intro hb)
      | (conv => whnf)))
    all_goals (refine hK (s_M_findCumulants (p := p) hp (by rw [w1 86 (by decide) (by decide)]; exact e86) hc.2.2 (by omega) (by omega) (by rw [w1 98 (by decide) (by decide), e98]) zb (by rw [emW]; exact hm b hc.2.2.1 hc.2.2.2) (fun U u1 u2 u3 u4 => ?_)))
    all_goals (rw [emW] at u4)
    iterate 60 (all_goals (first
      | (refine And.intro (by omega) ?_)
      | (refine And.intro (fun hb => absurd hb (by omega)) (fun hb => ?_))
      | (refine And.intro (fun hb => ?_) (fun hb => absurd hb (by omega)))
      | (refine And.intro (fun hb => ?_) (fun hb => ?_))
      | (intro hb)
      | (conv => whnf)))
    all_goals exact hS (cont _ (by omega) (by omega) W U w1 w3 w4 u1 u2 u3 u4)
  · iterate 30 (all_goals (first
      | (refine And.intro (by omega) ?_)
      | (refine And.intro (fun hb => absurd hb (by omega)) (fun hb => ?_))
      | (refine And.intro (fun hb => ?_) (fun hb => absurd hb (by omega)))
      | (refine And.intro (fun hb => ?_) (fun hb => ?_))
      | (intro hb)
      | (conv => whnf)))
    exact hB (by omega)
