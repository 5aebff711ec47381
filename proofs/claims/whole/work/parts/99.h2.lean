/-! the claim -/
set_option maxHeartbeats 4000000 in
theorem lw_walk (l : Launch) (hflags : l.flags = flags0) (b : Addr) (xs : List Int32) : MetFree l x (headSpec (Jvm.Cond.code x code maxLocals ret :: tables_1) room_1) (lw_P b xs) (fun _ _ _ _ _ => True) lw_Q := by
  intro p e ha hc hk s m args below hf happ hP _
  obtain ⟨rfl, hx, hbd, hgv⟩ := hP
  obtain ⟨a1, a2, a3, a4, a5, a6, a7, a8⟩ := (Spec.appliesLoose_iff hf).mp happ
  have hts0 : ∀ c ∈ (Jvm.Cond.code x code maxLocals ret :: tables_1), c.before #[Value.ref b] s = true := atoms_spec (ws := Jvm.Cond.code x code maxLocals ret :: tables_1) a8
  have hts : ∀ w ∈ lw_tbl, w.before #[Value.ref b] s = true := k2_hts_sels lw_privs (fun w hw => hts0 w (List.mem_cons_of_mem _ hw)) lw_privs_ok
  obtain ⟨G, gl, gb, gx, hK⟩ := w_K (l := l) hx hbd hgv hts
  have eL : w_V xs 0 (-1) = (xs.length : Int) := rfl
  have hcall := s_L_law (G := G) (V0 := w_V xs) (fun j => by
    unfold w_V
    rw [if_pos rfl]
    by_cases q : j = -1
    · rw [if_pos q]; omega
    · rw [if_neg q]; exact w_32 _) (by rw [eL]; omega) (fun j _ _ => ⟨rfl, rfl⟩)
  obtain ⟨μ, hμ, hM⟩ := hcall
  cases mt_L_law.symm.trans hμ
  rw [gl] at hM
  have hroom : s.hasRoom e.platform (am_room0 10 600000 7302250) = true := by
    have a7 : s.hasRoom e.platform room_1 = true := a7
    unfold State.hasRoom at a7 ⊢
    simp only [Bool.and_eq_true] at a7 ⊢
    obtain ⟨⟨⟨⟨z1, z2⟩, z3⟩, z4⟩, z5⟩ := a7
    have z1 := of_decide_eq_true z1
    have z2 := of_decide_eq_true z2
    have r1 : room_1.locals = 366 := rfl
    have r2 : (am_room0 10 600000 7302250).locals = 360 := rfl
    rw [r1] at z1 z2
    refine ⟨⟨⟨⟨decide_eq_true ?_, decide_eq_true ?_⟩, z3⟩, z4⟩, z5⟩
    · rw [r2]; omega
    · rw [r2]
      obtain ⟨y1, y2, y3, y4, y5⟩ := z2
      exact ⟨y1, y2, by omega, by omega, y5⟩
  have happ' : (headSpec (am_words (RL, x, code, 4, ret, 600000, 7302250, cd_L_law)) (am_room0 10 600000 7302250)).appliesLoose x e.platform s = true := by
    refine (Spec.appliesLoose_iff hf).mpr ⟨a1, a2, a3, a4, a5, a6, hroom, atoms_intro fun w hw => ?_⟩
    rcases List.mem_cons.mp hw with h | h
    · rw [h]
      exact hts0 _ List.mem_cons_self
    · exact hts w (List.mem_filter.mp h).1
  have hargs : #[Value.ref b] = ([vR 0].map (am_cv G)).toArray := by
    show #[Value.ref b] = #[Value.ref (am_ad G 0)]
    rw [show am_ad G 0 = am_G.ex G 0 from rfl, gx]
  have hPc : am_Pc G [vR 0] (w_V xs) r0 3 #[Value.ref b] s := by
    refine ⟨hargs, by rw [gb]; rfl, Nat.le_refl _, fun k q hq => ?_, ⟨fun a k c hac hr => ?_, fun a hac hl => ?_⟩, fun v hv => ?_, hK⟩
    · simp [am_ws] at hq
    · exfalso
      rcases (by omega : a = 0 ∨ a = 1 ∨ a = 2) with rfl | rfl | rfl <;> cases hr
    · exfalso
      rcases (by omega : a = 0 ∨ a = 1 ∨ a = 2) with rfl | rfl | rfl <;> (rcases hl with hl | hl <;> cases hl)
    · obtain rfl := List.mem_singleton.mp hv
      show 0 < 3
      omega
  obtain ⟨n, o, h1, h2, h3, ⟨⟨v, V', R', T', e1, e2, -⟩, -⟩, Lc, hF, hLc⟩ := hM p e ha hc hk s m _ below hf happ' hPc trivial
  refine ⟨n, o, h1, h2, h3, ?_, hF.1, hF.2.1, ?_⟩
  · rw [e1, e2]
    rfl
  · exact State.sameButNew.drop_fresh (L := []) (J := Lc) hF.2.2 (fun q hq => by rw [← gb]; exact hLc q hq)
theorem lw_pre_spec {args : Array Value} {s : State} (h : (Jvm.Cond.and given_1 narrow_1).before args s = true) (hr : rest_1_c.before args s = true) : ∃ (b : Addr) (xs : List Int32), lw_P b xs args s := by
  have hs := flat_of_before _ h
  have hq := flat_of_before _ hr
  have hc : (Cond.count 1).before args s = true := hs _ (by decide +kernel)
  have harr : (Cond.arrayOf (.arg 0) .int).before args s = true := hs _ (by decide +kernel)
  have hle : (Cond.le (.length (.arg 0)) (.int 3073)).before args s = true := hs _ (by decide +kernel)
  have hlen : (Cond.isInt (.length (.arg 0))).before args s = true := hq _ (by decide +kernel)
  have hall : (Cond.all (.arg 0) (.isInt (.elem (.arg 0) (.index 0)))).before args s = true := hq _ (by decide +kernel)
  obtain ⟨b, xs, hb, hx⟩ := State.ints_of_pre rfl harr hlen hall
  have hsm : xs.length < 2 ^ 31 := hx.choose_spec.2.2.2
  have hev : (Term.length (.arg 0)).eval args s none [] s = some (.int xs.length.toInt32) := hx.length_eval hb
  have hv := Cond.le_ints hev (show (Term.int 3073).eval args s none [] s = some (.int 3073) from rfl)
  have hd : xs.length.toInt32 ≤ 3073 := by
    simpa [Cond.before, Cond.holds, hv] using hle
  have hN : xs.length ≤ 3073 := (Int32.ofNat_le_ofNat hsm (by decide)).mp (show Int32.ofNat xs.length ≤ Int32.ofNat 3073 from hd)
  exact ⟨b, xs, Cond.one_arg hc (show args[0]? = some (.ref b) from hb), hx, hN, h⟩
theorem lw_comes (l : Launch) (hflags : l.flags = flags0) : Comes l x (Jvm.Cond.code x code maxLocals ret :: tables_1) room_1 (fun tb e args s => Calls_1 tb e args s ∧ rest_1 tb e args s ∧ Pre_1 tb e args s)
    (fun _ _ args s o t => lw_Q args s o t) := by
  intro p e ha hc hk s m args below hf hfit hheap happ hpre
  obtain ⟨b, xs, hP⟩ := lw_pre_spec hpre.2.2 hpre.2.1
  obtain ⟨k, o, h1, h2, h3, hQ⟩ := lw_walk l hflags b xs p e ha hc hk s m args below hf ((Spec.applies_iff_loose hf).mp happ).1 hP trivial
  exact ⟨k, o, h1, h2, h3, hQ⟩
theorem lw_frame {s t : State} {o : Outcome} {args : Array Value} (h : Framed s o t [] 600000 7302250) :
    Framed s o t (fieldLocs frame_1_writes args s ++ arrayLocs frame_1_arrays args s ++ staticLocs frame_1_statics s) 600000 7302250 := h
theorem lw_limb (L : Cond) (hL : ∀ (args : Array Value) (s t : State), L.after args s (.returned (some (.int 1))) t = true) :
    ArmFor flags0 classFile x code maxLocals ret World_1 tables_1 room_1 Calls_1 rest_1 Pre_1
      (fun tb e a s o t => postC L tb e a s o t ∧ Framed s o t (fieldLocs frame_1_writes a s ++ arrayLocs frame_1_arrays a s ++ staticLocs frame_1_statics s) 600000 7302250) := by
  intro l hflags _ _ p e ha hc hk s m args below hf hfit hheap happ hpre
  obtain ⟨k, o, h1, h2, h3, rfl, hF⟩ := lw_comes l hflags p e ha hc hk s m args below hf hfit hheap happ hpre
  exact ⟨k, _, h1, h2, h3, hL args s _, lw_frame hF⟩
theorem i_vc : Claimed_1_1 ∧ Claimed_1_2 := ⟨lw_limb limb_1_1 (fun args s t => by simp [limb_1_1, Cond.after, Cond.holds, Cond.value]), lw_limb limb_1_2 (fun args s t => Cond.after_iff.mpr (by
  first | (rw [show limb_1_2 = Cond.eq .result (.int 1) from rfl, Cond.eq_ints (x := 1) (y := 1) rfl rfl]; simp; done) | (simp [limb_1_2, Cond.value, Term.eval]; done)))⟩
