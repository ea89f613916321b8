def kx_X : String := "java/lang/IndexOutOfBoundsException"
abbrev kx_N : List String := ["java/lang/RuntimeException", "java/lang/Exception"]
abbrev kx_L : List Cond := Cond.classLink RX10 105 "java/lang/IndexOutOfBoundsException" :: Cond.initialized "java/lang/IndexOutOfBoundsException" :: vx_atS RX10 109 "java/lang/IndexOutOfBoundsException" kx_N
abbrev kx_B : List Cond := [.castable "java/lang/IndexOutOfBoundsException" "java/lang/IndexOutOfBoundsException", .declares ⟨"java/lang/RuntimeException", "<init>", "(Ljava/lang/String;)V"⟩, .declares ⟨"java/lang/Exception", "<init>", "(Ljava/lang/String;)V"⟩, .declares ⟨"java/lang/Throwable", "<init>", "(Ljava/lang/String;)V"⟩]
theorem kx_ot : ∀ w ∈ kx_L, vx_ot w = true := by decide +kernel
theorem kx_gd : ∀ w ∈ (vx_atS RX10 109 "java/lang/IndexOutOfBoundsException" kx_N).filter goodWord, w ∈ kk_ws := by decide +kernel
theorem kx_bd : ∀ w ∈ (vx_atS RX10 109 "java/lang/IndexOutOfBoundsException" kx_N).filter (fun w => !goodWord w), w ∈ kx_B := by decide +kernel
/-- what a throw of the class asks beside the words that stay -/
def kx_E (sa : Nat) (A : Nat → Prop) (U : State) (H : Heap) : Prop :=
  vk_R RX10 107 "no such KEY" sa U ∧ va_Nw (.castable "java/lang/IndexOutOfBoundsException" "java/lang/IndexOutOfBoundsException") U ∧ va_Nw (.declares ⟨"java/lang/RuntimeException", "<init>", "(Ljava/lang/String;)V"⟩) U ∧ va_Nw (.declares ⟨"java/lang/Exception", "<init>", "(Ljava/lang/String;)V"⟩) U ∧ va_Nw (.declares ⟨"java/lang/Throwable", "<init>", "(Ljava/lang/String;)V"⟩) U ∧
  vx_Zq Bundle.tN "UNASSIGNED_STACK" Bundle.steD A U H ∧ vx_Zq Bundle.tN "SUPPRESSED_SENTINEL" Bundle.listD A U H
theorem kx_E.warm {sa : Nat} {A : Nat → Prop} {s U : State} {H : Heap} (hW : s.WarmedH U.vm) (h : kx_E sa A s H) : kx_E sa A U H :=
  ⟨vk_R.warm hW h.1, va_Nw.warmC hW h.2.1, va_Nw.warmD hW h.2.2.1, va_Nw.warmD hW h.2.2.2.1, va_Nw.warmD hW h.2.2.2.2.1, vx_Zq.moved hW.alike h.2.2.2.2.2.1, vx_Zq.moved hW.alike h.2.2.2.2.2.2⟩
theorem kx_E.kept {sa : Nat} {A : Nat → Prop} {U : State} {H H1 : Heap} (h : kx_E sa A U H) (hq : ∀ a : Nat, a < H.size → ¬ A a → H1[a]? = H[a]?) : kx_E sa A U H1 :=
  ⟨h.1, h.2.1, h.2.2.1, h.2.2.2.1, h.2.2.2.2.1, h.2.2.2.2.2.1.kept hq, h.2.2.2.2.2.2.kept hq⟩
theorem kx_E.call {sa : Nat} {A : Nat → Prop} {U : State} {H : Heap} {g : JFrame} {mk : MethodId} {a : Array Value} (h : kx_E sa A U H) : kx_E sa A (U.calling g mk a) H :=
  ⟨vk_R.same (u := U) (U := U.calling g mk a) rfl h.1, va_Nw.same (u := U) (U := U.calling g mk a) rfl rfl h.2.1, va_Nw.same (u := U) (U := U.calling g mk a) rfl rfl h.2.2.1, va_Nw.same (u := U) (U := U.calling g mk a) rfl rfl h.2.2.2.1, va_Nw.same (u := U) (U := U.calling g mk a) rfl rfl h.2.2.2.2.1, vx_Zq.moved (u := U) (U := U.calling g mk a) (Vm.Alike.refl U.vm) h.2.2.2.2.2.1, vx_Zq.moved (u := U) (U := U.calling g mk a) (Vm.Alike.refl U.vm) h.2.2.2.2.2.2⟩
def kx_pre (D : va_G) (cB cI cJ cD : ClassId) (ws : va_W) (sz sa : Nat) (A : Nat → Prop) (U : State) : Prop := kk_pre D cB cI cJ cD ws sz U ∧ kx_E sa A U U.heap
theorem kx_blind {av : List Value} {D : va_G} {cB cI cJ cD : ClassId} {ws : va_W} {sz sa : Nat} {A : Nat → Prop} : FrameBlind (va_Pc av (kx_pre D cB cI cJ cD ws sz sa A)) := fun a U g mk q => ⟨q.1, ⟨q.2.1.1, q.2.1.2.1, q.2.1.2.2.1, kk_E.call q.2.1.2.2.2⟩, kx_E.call q.2.2⟩
abbrev kx_Q (v : Option Int32) : Array Value → State → Outcome → State → Prop := va_Qi (fun r (_ : Unit) => some r = v) (fun _ _ => True) (fun _ => False)
abbrev kx_XC (E0 : Option String) : String → State → State → Prop := vx_X (fun _ : Unit => True) (fun E _ _ => some E = E0) (fun _ => False)
abbrev kx_w (h0 h1 h2 h3 h4 z0 z1 z2 z3 z4 z5 z6 z7 z8 z9 z10 z11 z12 z13 z14 z15 z16 : Nat) : va_W := [kO h0 9 [.ref z0, .ref z1, .ref h1, .ref z2, .int 0, .ref z3, .ref z4], kO h1 2 [.ref h2, .ref z5, .int 0], kO h2 0 [.ref h3, .ref z6, .ref z7, .int 0, .int (-1)], kO h3 8 [.ref h4, .ref z8, .ref z9, .int 0, .int 0, .int 0, .int 0, .int 0], kO h4 6 [.int 0, .ref z10, .ref z11, .ref z12, .ref z13, .ref z14, .ref z15, .ref z16]]
set_option maxHeartbeats 4000000 in
set_option maxRecDepth 100000 in
theorem c_X10_key (l : Launch) (hl0 : l.stackTraces = false) (D : va_G) (cB cI cJ cD : ClassId) (h0 h1 h2 h3 h4 z0 z1 z2 z3 z4 z5 z6 z7 z8 z9 z10 z11 z12 z13 z14 z15 z16 : Nat) (p0 p1 : Int32) (sz sa : Nat) (A : Nat → Prop) : vx_Met l yX10_key (kk_W yX10_key cX10_key 4 (some .int)) ({ frames := 8, cells := 1, slots := 6, locals := 200 }) (va_Pc [.ref h0, .int p0, .int p1] (kx_pre D cB cI cJ cD (kx_w h0 h1 h2 h3 h4 z0 z1 z2 z3 z4 z5 z6 z7 z8 z9 z10 z11 z12 z13 z14 z15 z16) sz sa A)) (kx_Q none) (kx_XC (some "java/lang/IndexOutOfBoundsException")) 1 6 (fun _ => False) := by
  refine vx_ofW (cc := cX10_key) (maxL := 4) (ret := some .int) (by decide) rfl ?_
  intro p e s m args below meth c s₁ B hml htab hv
  obtain ⟨rfl, ⟨hsz, hP, hD0, hE⟩, hK⟩ := hv
  have hts1 := atoms_spec (ws := kk_W yX10_key cX10_key 4 (some .int)) B.pre
  have hts : ∀ w ∈ kk_ws, w.before [.ref h0, .int p0, .int p1].toArray s = true := fun w h => hts1 w (List.mem_cons_of_mem _ h)
  have hl := lv_entry [.ref h0, .int p0, .int p1] (n := 4) (Nat.le_of_ble_eq_true rfl)
  rw [lg_entry_eq]
  have hown : s.vm.findClass RX10 = some m.cls := findClass_of_methodNamed B.named
  have hx := B.exec
  have hb := B.bytes
  have hl : lv_has _ 4 [(0, .ref h0), (1, .int p0), (2, .int p1)] := hl
  refine lv_aload_n hx hb dX10_key_0 rfl (lv_at hl 0 rfl) ?_
  refine va_get (D := D) (ci := 9) (v := .ref h1) (C := RX10) (T := TX10) (N := 7) hx hb hts u_X10 hown hE.1 hP 0 rfl rfl 2 (by decide) (hts _ w_491) (fun _ h9 => h9) rfl dX10_key_1 ?_
  refine va_get (D := D) (ci := 2) (v := .ref h2) (C := RX2) (T := TX2) (N := 3) hx hb hts u_X2 hown hE.1 hP 1 rfl rfl 0 (by decide) (hts _ w_474) (fun _ h9 => h9) rfl dX10_key_4 ?_
  refine va_get (D := D) (ci := 0) (v := .ref h3) (C := RX0) (T := TX0) (N := 5) hx hb hts u_X0 hown hE.1 hP 2 rfl rfl 0 (by decide) (hts _ w_420) (fun _ h9 => h9) rfl dX10_key_7 ?_
  refine va_get (D := D) (ci := 8) (v := .ref h4) (C := RX9) (T := TX9) (N := 8) hx hb hts u_X9 hown hE.1 hP 3 rfl rfl 0 (by decide) (hts _ w_385) (fun _ h9 => h9) rfl dX10_key_10 ?_
  refine lv_astore_n (lv' := [(3, .ref h4), (0, .ref h0), (1, .int p0), (2, .int p1)]) hx hb dX10_key_13 rfl hl (by decide) rfl (fun ls hl => ?_)
  have hat : ∀ w ∈ vx_atS RX10 109 "java/lang/IndexOutOfBoundsException" kx_N, w.before [Value.ref h0, .int p0, .int p1].toArray s = true := vx_hat (fun w h => hts w (kx_gd w h)) kx_bd (vx_c (va_Nw.use rfl hK.2.1) (vx_c (va_Nw.use rfl hK.2.2.1) (vx_c (va_Nw.use rfl hK.2.2.2.1) (vx_c (va_Nw.use rfl hK.2.2.2.2.1) vx_n))))
  have hthrow : W p l e (headSpec (kk_W yX10_key cX10_key 4 (some .int)) { frames := 8, cells := 1, slots := 6, locals := 200 }).room s m [Value.ref h0, .int p0, .int p1].toArray below meth c s.heap [] 0 0 (vx_MQ below (kx_Q none) (kx_XC (some "java/lang/IndexOutOfBoundsException")) [Value.ref h0, .int p0, .int p1].toArray s 1 6 (fun _ => False)) (F0 m 26 ls []) :=
    vx_throwS (A := A) (names := kx_N) hx hb hl0 hown (by decide +kernel) (by decide +kernel) (hts _ w_1166) (hts _ w_128) hK.1 hat kx_ot hK.2.2.2.2.2.1 hK.2.2.2.2.2.2 va_S.rf (hl.1.trans hml.symm) dX10_key_26 dX10_key_29 dX10_key_30 dX10_key_32 dX10_key_35 (fun x h => (htab x h).elim) (Nat.le_of_ble_eq_true rfl) (Nat.le_of_ble_eq_true rfl) (Nat.le_of_ble_eq_true rfl) (Nat.le_of_ble_eq_true rfl) B.notSynchronized (fun t _ h1 h2 => ⟨(), trivial, rfl, h1, fun q hq _ => h2 q hq⟩) (fun z hz => absurd hz List.not_mem_nil) (Nat.le_refl _) (Nat.le_refl _)
  refine lv_iload_n hx hb dX10_key_14 rfl (lv_at hl 2 rfl) ?_
  refine lv_if_lt (tgt := 26) hx hb dX10_key_15 (by decide) (fun _ => hthrow) (fun c_1 => ?_)
  refine lv_iload_n hx hb dX10_key_18 rfl (lv_at hl 2 rfl) ?_
  refine lv_aload_n hx hb dX10_key_19 rfl (lv_at hl 0 rfl) ?_
  refine va_get (D := D) (ci := 6) (v := .int 0) (C := RX7) (T := TX7) (N := 8) hx hb hts u_X7 hown hE.1 hP 4 rfl rfl 0 (by decide) (hts _ w_159) (fun _ h9 => h9) rfl dX10_key_20 ?_
  exact lv_icmp_lt (tgt := 36) hx hb dX10_key_23 (by decide) (fun c_2 => absurd c_2 c_1) (fun _ => hthrow)
abbrev kx_hh : List (Nat × Nat × Nat × Nat) := [(0, 10, 13, 13), (0, 10, 17, 15)]
abbrev kx_WH : List Cond := Cond.codeWith yL_key cL_key 5 (some .int) kx_hh :: kk_ws
set_option maxHeartbeats 4000000 in
set_option maxRecDepth 100000 in
theorem c_L_key (l : Launch) (hl0 : l.stackTraces = false) (D : va_G) (cB cI cJ cD : ClassId) (h0 h1 h2 h3 h4 z0 z1 z2 z3 z4 z5 z6 z7 z8 z9 z10 z11 z12 z13 z14 z15 z16 o0 : Nat) (p0 p1 : Int32) (sz sa : Nat) (A : Nat → Prop) : vx_Met l yL_key kx_WH ({ frames := 12, cells := 1, slots := 6, locals := 400 }) (va_Pc [.ref h0, .int p0, .int p1, .ref o0] (kx_pre D cB cI cJ cD (kx_w h0 h1 h2 h3 h4 z0 z1 z2 z3 z4 z5 z6 z7 z8 z9 z10 z11 z12 z13 z14 z15 z16) sz sa A)) (kx_Q (some 1)) (kx_XC none) 1 6 (fun _ => False) := by
  refine vx_ofWH (cc := cL_key) (maxL := 5) (ret := some .int) (hh := kx_hh) (by decide) rfl ?_
  intro p e s m args below meth c s₁ B hml hv
  obtain ⟨rfl, ⟨hsz, hP, hD0, hE⟩, hK⟩ := hv
  subst hsz
  have hts1 := atoms_spec (ws := kx_WH) B.pre
  have hts : ∀ w ∈ kk_ws, w.before [.ref h0, .int p0, .int p1, .ref o0].toArray s = true := fun w h => hts1 w (List.mem_cons_of_mem _ h)
  have htab := vx_table (x := yL_key) B (hts1 _ List.mem_cons_self)
  have hl := lv_entry [.ref h0, .int p0, .int p1, .ref o0] (n := 5) (Nat.le_of_ble_eq_true rfl)
  rw [lg_entry_eq]
  have hown : s.vm.findClass RL = some m.cls := findClass_of_methodNamed B.named
  have hx := B.exec
  have hb := B.bytes
  have hl : lv_has _ 5 [(0, .ref h0), (1, .int p0), (2, .int p1), (3, .ref o0)] := hl
  refine lv_aload_n hx hb dL_key_0 rfl (lv_at hl 3 rfl) ?_
  refine lv_iconst (v := 0) hx hb dL_key_1 (by decide) ?_
  refine lv_aload_n hx hb dL_key_2 rfl (lv_at hl 0 rfl) ?_
  refine lv_iload_n hx hb dL_key_3 rfl (lv_at hl 1 rfl) ?_
  refine lv_iload_n hx hb dL_key_4 rfl (lv_at hl 2 rfl) ?_
  obtain ⟨m1, m2, m3, m4, m5⟩ := m_X10_key
  refine vx_calli (A0 := fun _ => False) (H0 := s.heap) (rest := [.int 0, .ref o0]) (vx_runV (As := [.int p0, .int p1]) (b := h0) (Ts := kk_ws) (own := RL) (C := RX10) (n := 2) (bytes := cX10_key) (maxL := 4) (ret := some .int) ⟨hx, hb, hml, hown, hts⟩ (c_X10_key l hl0 D cB cI cJ cD h0 h1 h2 h3 h4 z0 z1 z2 z3 z4 z5 z6 z7 z8 z9 z10 z11 z12 z13 z14 z15 z16 p0 p1 s.heap.size sa A) ⟨callB_of 2 hts (kk_gW m4) rfl rfl rfl (hts _ m3) (hts _ w_1162) m5 ⟨Nat.le_of_ble_eq_true rfl, Nat.le_of_ble_eq_true rfl⟩, hts _ m1, hts _ m2⟩ ⟨kx_blind, va_recv hE.1 hP (ci := 9) (q0 := 0) rfl rfl, fun U hU hW => ⟨rfl, ⟨by rw [hU], by rw [hU]; exact hP, hD0, kk_E.warm hW hE⟩, by rw [hU]; exact kx_E.warm hW hK⟩⟩ rfl rfl hl.1 rfl (lv_room (Nat.le_of_ble_eq_true rfl)) dL_key_5 ⟨Nat.le_of_ble_eq_true rfl, Nat.le_of_ble_eq_true rfl⟩) va_S.rf (fun _ _ h => h) (fun _ h => h) (fun _ _ h => h) ?_ ?_
  · intro E ce q9 u t H1 locs1 ht hvm hp hBX hz hk hS1 hce hcv hcl
    obtain rfl : E = "java/lang/IndexOutOfBoundsException" := Option.some.inj hBX
    refine vx_catch (own := RL) (name := "java/lang/IndexOutOfBoundsException") hown [] ⟨0, 10, 13, 13⟩ [⟨0, 10, 17, 15⟩] htab (fun z hz => nomatch hz) (by decide) (by decide) (hts _ w_1160) (va_Nw.use rfl hK.2.1) hce hcv hcl ?_
    refine lv_astore (lv' := [(4, .ref q9), (0, .ref h0), (1, .int p0), (2, .int p1), (3, .ref o0)]) hx hb dL_key_13 hl (by decide) rfl (fun ls hl => ?_)
    refine lv_iconst (v := 1) hx hb dL_key_15 (by decide) ?_
    exact vx_ret (W.iret (v := 1) hx hb B.returns (fun t ht hW => ⟨⟨1, (), rfl, rfl, trivial⟩, hS1.F ht⟩) hS1.2.2 dL_key_16)
  · intro r u t H1 locs1 ht hvm hp
    exact absurd hp (fun h => nomatch h)
theorem kx_gT : GoodIn kk_ws (va_wsS RL 39 yL_key kx_WH) := fun w h => kk_good w (by
  unfold va_wsS at h
  rcases List.mem_append.mp h with h | h
  · rcases List.mem_cons.mp h with rfl | h
    · exact w_1157
    · rcases List.mem_cons.mp h with rfl | h
      · exact w_1158
      · rcases List.mem_cons.mp h with rfl | h
        · decide +kernel
        · exact nomatch h
  · rcases List.mem_cons.mp h with rfl | h
    · decide +kernel
    · exact h)
set_option maxHeartbeats 4000000 in
set_option maxRecDepth 100000 in
theorem c_X11_thrown1 (l : Launch) (D : va_G) (cB cI cJ cD : ClassId) (h0 : Nat) (y0 : Value) (i0 : Int32) (y1 : Value) (i1 : Int32) (i2 : Int32) (i3 : Int32) (i4 : Int32) (i5 : Int32) (i6 : Int32) (i7 : Int32) (i8 : Int32) (i9 : Int32) (i10 : Int32) (i11 : Int32) (i12 : Int32) (i13 : Int32) (i14 : Int32) (y2 : Value) (y3 : Value) (y4 : Value) (y5 : Value) (y6 : Value) (y7 : Value) (y8 : Value) (y9 : Value) (i15 : Int32) (y10 : Value) (i16 : Int32) (i17 : Int32) (y11 : Value) (y12 : Value) (y13 : Value) (y14 : Value) (i18 : Int32) (i19 : Int32) (i20 : Int32) (y15 : Value) (i21 : Int32) (i22 : Int32) (i23 : Int32) (i24 : Int32) (y16 : Value) (y17 : Value) (i25 : Int64) (y18 : Value) (sz : Nat) : Met l yX11_thrown (kk_W yX11_thrown cX11_thrown 1 (some .int)) ({ frames := 0, cells := 0, slots := 0, locals := 0 }) (va_Pc [.ref h0] (kk_pre D cB cI cJ cD [kO h0 10 [y0, .int i0, .int 1, y1, .int i1, .int i2, .int i3, .int i4, .int i5, .int i6, .int i7, .int i8, .int i9, .int i10, .int i11, .int i12, .int i13, .int i14, y2, y3, y4, y5, y6, y7, y8, y9, .int i15, y10, .int i16, .int i17, y11, y12, y13, y14, .int i18, .int i19, .int i20, y15, .int i21, .int i22, .int i23, .int i24, y16, y17, .long i25, y18]] sz)) (vp_Si (fun r => r = 1)) 0 0 (fun _ => False) := by
  refine kk_pstart (y := yX11_thrown) (maxL := 1) (av := [.ref h0]) (by decide) (Nat.le_of_ble_eq_true rfl) ?_
  intro p e s m below meth c ls hx hb hr hml hown hts hE hlocks hsz hP hD hl
  have hown : s.vm.findClass RX11 = some m.cls := hown
  have hl : lv_has ls 1 [(0, .ref h0)] := hl
  refine lv_aload_n hx hb dX11_thrown_0 rfl (lv_at hl 0 rfl) ?_
  refine va_get (D := D) (ci := 10) (v := .int 1) (C := RX11) (T := TX11) (N := 46) hx hb hts u_X11 hown hE.1 hP 0 rfl rfl 2 (by decide) (hts _ w_1303) (fun _ h9 => h9) rfl dX11_thrown_1 ?_
  exact kk_pret_i hx hb hr hlocks rfl dX11_thrown_4
set_option maxHeartbeats 4000000 in
set_option maxRecDepth 100000 in
theorem lc_4 {p : Program} {l : Launch} {e : Env} {s : State} {m : MethodId} {below : List Frame} {meth : Method} {c : Code} {Q : State → Prop} {D : va_G} {cB cI cJ cD : ClassId} {b : Nat} {xs : Nat → Int32} {A : Nat → Prop} {H : Heap} {locs : List Loc} {ls : Array Slot} (o0 x0 x1 x18 x54 x55 x56 x57 x58 x59 x60 x61 x62 x63 x64 x65 x76 x78 x79 x80 x81 x82 x97 y0 y1 y2 y3 y4 y5 y6 y7 y8 y9 y10 y11 y12 y13 y14 y15 y16 y17 y18 y19 : Nat) (fa : Nat → Int32) (hfa : kz 0 fa) (hts0 : ∀ w ∈ lw_tbl, w.before #[Value.ref b] s = true) (hflags : l.flags = flags0) (hgv : (Jvm.Cond.and given_1 narrow_1).before #[Value.ref b] s = true) (hAs : ∀ q : Nat, q < s.heap.size → ¬ A q) (hx : p.tables.exec = Jvm.exec) (hb : c.code = code) (hml : c.maxLocals = 7) (hown : s.vm.findClass RL = some m.cls) (hts : ∀ w ∈ kk_ws, w.before #[Value.ref b] s = true) (hE : kk_E D cB cI cJ cD s) (hX : va_X b 6 xs s s.heap) (hbl : b < s.heap.size) (hbA : ¬ A b) (hA : ∀ q : Nat, s.heap.size ≤ q → A q) (hP : va_P D vwCl [kO x0 9 [.ref x1, .ref x18, .ref x54, .ref x81, .int 0, .ref x82, .ref x97], kO x54 2 [.ref x55, .ref x80, .int 0], kO x55 0 [.ref x56, .ref x78, .ref x79, .int 0, .int (-1)], kO x56 8 [.ref x57, .ref x65, .ref x76, .int 0, .int 0, .int 0, .int 0, .int 0], kO x57 6 [.int 0, .ref x58, .ref x59, .ref x60, .ref x61, .ref x62, .ref x63, .ref x64], kO y0 10 [.ref y1, .int 0, .int 0, .ref y2, .int 0, .int (-1), .int 0, .int 0, .int 0, .int 0, .int 0, .int 0, .int 0, .int 0, .int 0, .int 0, .int 0, .int 0, .ref y10, .ref y11, .ref y12, .ref y13, .ref y14, .ref y15, .ref y16, .ref y17, .int 0, .ref y18, .int 0, .int 0, .ref y3, .ref y4, .ref y5, .ref y6, .int 0, .int 0, .int 0, .ref y19, .int 0, .int 0, .int 0, .int 0, .ref y7, .ref y8, .long 0, .ref y9], kI cI y18 5760 fa, kJ cJ o0 1 (fun _ => 0)] H) (hD : va_D A [kO x0 9 [.ref x1, .ref x18, .ref x54, .ref x81, .int 0, .ref x82, .ref x97], kO x54 2 [.ref x55, .ref x80, .int 0], kO x55 0 [.ref x56, .ref x78, .ref x79, .int 0, .int (-1)], kO x56 8 [.ref x57, .ref x65, .ref x76, .int 0, .int 0, .int 0, .int 0, .int 0], kO x57 6 [.int 0, .ref x58, .ref x59, .ref x60, .ref x61, .ref x62, .ref x63, .ref x64], kO y0 10 [.ref y1, .int 0, .int 0, .ref y2, .int 0, .int (-1), .int 0, .int 0, .int 0, .int 0, .int 0, .int 0, .int 0, .int 0, .int 0, .int 0, .int 0, .int 0, .ref y10, .ref y11, .ref y12, .ref y13, .ref y14, .ref y15, .ref y16, .ref y17, .int 0, .ref y18, .int 0, .int 0, .ref y3, .ref y4, .ref y5, .ref y6, .int 0, .int 0, .int 0, .ref y19, .int 0, .int 0, .int 0, .int 0, .ref y7, .ref y8, .long 0, .ref y9], kI cI y18 5760 fa, kJ cJ o0 1 (fun _ => 0)]) (hS : va_S A s.heap H locs) (hl : lv_has ls 7 [(4, .int 0), (3, .ref o0), (2, .ref y0), (1, .ref x0), (0, .ref b)])
    (hfin : ∀ (H : Heap) (locs : List Loc) (ls : Array Slot) (cells slots : Nat), va_S A s.heap H locs → cells ≤ 600000 → slots ≤ 7000000 → lv_has ls 7 [(0, .ref b), (4, .int 0)] → W p l e room_1 s m #[Value.ref b] below meth c H locs cells slots Q (F0 m 1863 ls [])) : W p l e room_1 s m #[Value.ref b] below meth c H locs 200 20000 Q (F0 m 396 ls []) := by
  have hl0 : l.stackTraces = false := by unfold Launch.stackTraces; rw [hflags]; decide +kernel
  have hg := flat_of_before _ hgv
  have hK : ∃ sa : Nat, kx_E sa A s s.heap := by
    have hstr : (Cond.stringRef RX10 107 "no such KEY").before #[Value.ref b] s = true := hts0 _ (by decide +kernel)
    obtain ⟨mk9, hn9⟩ := Cond.code_named (hts _ w_1165)
    obtain ⟨k9, cf9, i9, sa, -, -, -, -, -, hev⟩ := Cond.stringRef_spec (findClass_of_methodNamed hn9) hstr
    exact ⟨sa, vk_R.of hstr hev, va_Nw.of rfl (hts0 _ (by decide +kernel)), va_Nw.of rfl (hts0 _ (by decide +kernel)), va_Nw.of rfl (hts0 _ (by decide +kernel)), va_Nw.of rfl (hts0 _ (by decide +kernel)), vx_Zqof (hts0 _ (by decide +kernel)) (hts0 _ (by decide +kernel)) (hg _ (by decide +kernel)) hAs, vx_Zqof (hts0 _ (by decide +kernel)) (hts0 _ (by decide +kernel)) (hg _ (by decide +kernel)) hAs⟩
  obtain ⟨sa, hK⟩ := hK
  refine lv_aload_n hx hb dL_law_396 rfl (lv_at hl 3 rfl) ?_
  refine lv_aload_n hx hb dL_law_397 rfl (lv_at hl 4 rfl) ?_
  refine lv_iload hx hb dL_law_398 (lv_at hl 0 rfl) ?_
  refine lv_iconst (v := 1) hx hb dL_law_400 (by decide) ?_
  refine lv_iadd hx hb dL_law_401 ?_
  refine lv_topi (fun v1 e_v1 => ?_)
  obtain rfl : v1 = 1 := e_v1.trans (by decide)
  refine va_sld hx hb hX hbl hbA hS (kk_ix _ _ (by decide)) dL_law_402 ?_
  refine lv_aload_n hx hb dL_law_403 rfl (lv_at hl 4 rfl) ?_
  refine lv_iload hx hb dL_law_404 (lv_at hl 0 rfl) ?_
  refine lv_iconst (v := 2) hx hb dL_law_406 (by decide) ?_
  refine lv_iadd hx hb dL_law_407 ?_
  refine lv_topi (fun v2 e_v2 => ?_)
  obtain rfl : v2 = 2 := e_v2.trans (by decide)
  refine va_sld hx hb hX hbl hbA hS (kk_ix _ _ (by decide)) dL_law_408 ?_
  refine lv_aload_n hx hb dL_law_409 rfl (lv_at hl 1 rfl) ?_
  refine vx_calli (A0 := A) (H0 := s.heap) (rest := []) (vx_runSX (As := [.ref x0, .int (xs (Int32.toNatClampNeg 1)), .int (xs (Int32.toNatClampNeg 2)), .ref o0]) (Ts := kk_ws) (own := RL) (hh := kx_hh) (n := 4) (bytes := cL_key) (maxL := 5) (ret := some .int) ⟨hx, hb, hml, hown, hts⟩ (c_L_key l hl0 D cB cI cJ cD x0 x54 x55 x56 x57 x1 x18 x81 x82 x97 x80 x78 x79 x65 x76 x58 x59 x60 x61 x62 x63 x64 o0 (xs (Int32.toNatClampNeg 1)) (xs (Int32.toNatClampNeg 2)) H.size sa A) (vx_cwSW 4 hts kx_gT rfl rfl rfl (by decide +kernel) ⟨Nat.le_of_ble_eq_true rfl, Nat.le_of_ble_eq_true rfl⟩) ⟨kx_blind, fun U hU hW => ⟨rfl, ⟨by rw [hU], by rw [hU]; exact hP.sub [0, 1, 2, 3, 4] rfl, (hD.sub [0, 1, 2, 3, 4] (by decide +kernel) rfl).weaken (fun _ _ _ _ => trivial), kk_E.warm hW hE⟩, by rw [hU]; exact (kx_E.warm hW hK).kept hS.2.1⟩⟩ rfl rfl hl.1 rfl (lv_room (Nat.le_of_ble_eq_true rfl)) dL_law_410 ⟨Nat.le_of_ble_eq_true rfl, Nat.le_of_ble_eq_true rfl⟩) hS (fun _ _ h => h.elim) (fun _ h => h.elim) (fun _ _ h => h.elim) ?_ ?_
  · intro E ce q9 u t H1 locs1 ht hvm hp hBX
    exact absurd hBX (fun h => nomatch h)
  · have hF := va_free (wc := []) hD hS hA [] rfl
    intro r u t H1 locs1 ht hvm hp hB hz hk hS
    obtain rfl : r = 1 := Option.some.inj hp
    obtain ⟨hP, hD⟩ := va_join (wr := [kO x0 9 [.ref x1, .ref x18, .ref x54, .ref x81, .int 0, .ref x82, .ref x97], kO x54 2 [.ref x55, .ref x80, .int 0], kO x55 0 [.ref x56, .ref x78, .ref x79, .int 0, .int (-1)], kO x56 8 [.ref x57, .ref x65, .ref x76, .int 0, .int 0, .int 0, .int 0, .int 0], kO x57 6 [.int 0, .ref x58, .ref x59, .ref x60, .ref x61, .ref x62, .ref x63, .ref x64], kO y0 10 [.ref y1, .int 0, .int 0, .ref y2, .int 0, .int (-1), .int 0, .int 0, .int 0, .int 0, .int 0, .int 0, .int 0, .int 0, .int 0, .int 0, .int 0, .int 0, .ref y10, .ref y11, .ref y12, .ref y13, .ref y14, .ref y15, .ref y16, .ref y17, .int 0, .ref y18, .int 0, .int 0, .ref y3, .ref y4, .ref y5, .ref y6, .int 0, .int 0, .int 0, .ref y19, .int 0, .int 0, .int 0, .int 0, .ref y7, .ref y8, .long 0, .ref y9], kI cI y18 5760 fa, kJ cJ o0 1 (fun _ => 0)]) (w1 := []) hP hD [] [0, 1, 2, 3, 4, 5, 6, 7] rfl rfl rfl (fun _ _ h => nomatch h) (fun q h1 _ => hk q h1 (fun h => h)) hF kk_P0 kk_D0
    have hP : va_P D vwCl [kO x0 9 [.ref x1, .ref x18, .ref x54, .ref x81, .int 0, .ref x82, .ref x97], kO x54 2 [.ref x55, .ref x80, .int 0], kO x55 0 [.ref x56, .ref x78, .ref x79, .int 0, .int (-1)], kO x56 8 [.ref x57, .ref x65, .ref x76, .int 0, .int 0, .int 0, .int 0, .int 0], kO x57 6 [.int 0, .ref x58, .ref x59, .ref x60, .ref x61, .ref x62, .ref x63, .ref x64], kO y0 10 [.ref y1, .int 0, .int 0, .ref y2, .int 0, .int (-1), .int 0, .int 0, .int 0, .int 0, .int 0, .int 0, .int 0, .int 0, .int 0, .int 0, .int 0, .int 0, .ref y10, .ref y11, .ref y12, .ref y13, .ref y14, .ref y15, .ref y16, .ref y17, .int 0, .ref y18, .int 0, .int 0, .ref y3, .ref y4, .ref y5, .ref y6, .int 0, .int 0, .int 0, .ref y19, .int 0, .int 0, .int 0, .int 0, .ref y7, .ref y8, .long 0, .ref y9], kI cI y18 5760 fa, kJ cJ o0 1 (fun _ => 0)] H1 := hP
    have hD : va_D A [kO x0 9 [.ref x1, .ref x18, .ref x54, .ref x81, .int 0, .ref x82, .ref x97], kO x54 2 [.ref x55, .ref x80, .int 0], kO x55 0 [.ref x56, .ref x78, .ref x79, .int 0, .int (-1)], kO x56 8 [.ref x57, .ref x65, .ref x76, .int 0, .int 0, .int 0, .int 0, .int 0], kO x57 6 [.int 0, .ref x58, .ref x59, .ref x60, .ref x61, .ref x62, .ref x63, .ref x64], kO y0 10 [.ref y1, .int 0, .int 0, .ref y2, .int 0, .int (-1), .int 0, .int 0, .int 0, .int 0, .int 0, .int 0, .int 0, .int 0, .int 0, .int 0, .int 0, .int 0, .ref y10, .ref y11, .ref y12, .ref y13, .ref y14, .ref y15, .ref y16, .ref y17, .int 0, .ref y18, .int 0, .int 0, .ref y3, .ref y4, .ref y5, .ref y6, .int 0, .int 0, .int 0, .ref y19, .int 0, .int 0, .int 0, .int 0, .ref y7, .ref y8, .long 0, .ref y9], kI cI y18 5760 fa, kJ cJ o0 1 (fun _ => 0)] := hD
    refine lv_istore (lv' := [(5, .int 1), (4, .int 0), (3, .ref o0), (2, .ref y0), (1, .ref x0), (0, .ref b)]) hx hb dL_law_413 hl (by decide) rfl (fun ls hl => ?_)
    refine lv_aload_n hx hb dL_law_415 rfl (lv_at hl 3 rfl) ?_
    refine lv_aload_n hx hb dL_law_416 rfl (lv_at hl 5 rfl) ?_
    refine lv_iload hx hb dL_law_417 (lv_at hl 1 rfl) ?_
    refine lv_iconst (v := 1) hx hb dL_law_419 (by decide) ?_
    refine lv_iadd hx hb dL_law_420 ?_
    refine lv_topi (fun v3 e_v3 => ?_)
    obtain rfl : v3 = 1 := e_v3.trans (by decide)
    refine va_sld hx hb hX hbl hbA hS (kk_ix _ _ (by decide)) dL_law_421 ?_
    refine lv_aload_n hx hb dL_law_422 rfl (lv_at hl 5 rfl) ?_
    refine lv_iload hx hb dL_law_423 (lv_at hl 1 rfl) ?_
    refine lv_iconst (v := 2) hx hb dL_law_425 (by decide) ?_
    refine lv_iadd hx hb dL_law_426 ?_
    refine lv_topi (fun v4 e_v4 => ?_)
    obtain rfl : v4 = 2 := e_v4.trans (by decide)
    refine va_sld hx hb hX hbl hbA hS (kk_ix _ _ (by decide)) dL_law_427 ?_
    refine kk_ci (wr := [kO x0 9 [.ref x1, .ref x18, .ref x54, .ref x81, .int 0, .ref x82, .ref x97], kO x54 2 [.ref x55, .ref x80, .int 0], kO x55 0 [.ref x56, .ref x78, .ref x79, .int 0, .int (-1)], kO x56 8 [.ref x57, .ref x65, .ref x76, .int 0, .int 0, .int 0, .int 0, .int 0], kO x57 6 [.int 0, .ref x58, .ref x59, .ref x60, .ref x61, .ref x62, .ref x63, .ref x64], kJ cJ o0 1 (fun _ => 0)]) (kk_runV (w1 := [kO y0 10 [.ref y1, .int 0, .int 0, .ref y2, .int 0, .int (-1), .int 0, .int 0, .int 0, .int 0, .int 0, .int 0, .int 0, .int 0, .int 0, .int 0, .int 0, .int 0, .ref y10, .ref y11, .ref y12, .ref y13, .ref y14, .ref y15, .ref y16, .ref y17, .int 0, .ref y18, .int 0, .int 0, .ref y3, .ref y4, .ref y5, .ref y6, .int 0, .int 0, .int 0, .ref y19, .int 0, .int 0, .int 0, .int 0, .ref y7, .ref y8, .long 0, .ref y9], kI cI y18 5760 fa]) (As := [.int (xs (Int32.toNatClampNeg 1)), .int (xs (Int32.toNatClampNeg 2))]) (rest := []) hx hb hml hown hts hE (c_X11_key l D cB cI cJ cD y0 y18 (.ref y1) 0 0 (.ref y2) 0 (-1) 0 0 0 0 0 0 0 0 0 0 0 0 (.ref y10) (.ref y11) (.ref y12) (.ref y13) (.ref y14) (.ref y15) (.ref y16) (.ref y17) 0 0 (.ref y3) (.ref y4) (.ref y5) (.ref y6) 0 0 0 (.ref y19) 0 0 0 0 (.ref y7) (.ref y8) 0 (.ref y9) fa (xs (Int32.toNatClampNeg 1)) (xs (Int32.toNatClampNeg 2)) H1.size hfa) m_X11_key w_1550 ⟨rfl, rfl, Nat.le_of_ble_eq_true rfl, Nat.le_of_ble_eq_true rfl⟩ (hP.sub [5, 6] rfl) (hD.sub [5, 6] (by decide +kernel) rfl) 0 10 rfl rfl rfl hl.1 (Nat.le_of_ble_eq_true rfl) dL_law_428 ⟨Nat.le_of_ble_eq_true rfl, Nat.le_of_ble_eq_true rfl⟩) hP hD hS hA [5, 6] [0, 1, 2, 3, 4, 7] rfl rfl rfl (by decide +kernel) (fun r_5 u_5 H locs p_5 hP hD hS => ?_)
    obtain rfl : r_5 = 0 := p_5
    have hP : va_P D vwCl [kO x0 9 [.ref x1, .ref x18, .ref x54, .ref x81, .int 0, .ref x82, .ref x97], kO x54 2 [.ref x55, .ref x80, .int 0], kO x55 0 [.ref x56, .ref x78, .ref x79, .int 0, .int (-1)], kO x56 8 [.ref x57, .ref x65, .ref x76, .int 0, .int 0, .int 0, .int 0, .int 0], kO x57 6 [.int 0, .ref x58, .ref x59, .ref x60, .ref x61, .ref x62, .ref x63, .ref x64], kJ cJ o0 1 (fun _ => 0), kO y0 10 [.ref y1, .int 0, .int 1, .ref y2, .int 0, .int (-1), .int 0, .int 0, .int 0, .int 0, .int 0, .int 0, .int 0, .int 0, .int 0, .int 0, .int 0, .int 0, .ref y10, .ref y11, .ref y12, .ref y13, .ref y14, .ref y15, .ref y16, .ref y17, .int 0, .ref y18, .int 0, .int 0, .ref y3, .ref y4, .ref y5, .ref y6, .int 0, .int 0, .int 0, .ref y19, .int 0, .int 0, .int 0, .int 0, .ref y7, .ref y8, .long 0, .ref y9], kI cI y18 5760 fa] H := hP
    have hD : va_D A [kO x0 9 [.ref x1, .ref x18, .ref x54, .ref x81, .int 0, .ref x82, .ref x97], kO x54 2 [.ref x55, .ref x80, .int 0], kO x55 0 [.ref x56, .ref x78, .ref x79, .int 0, .int (-1)], kO x56 8 [.ref x57, .ref x65, .ref x76, .int 0, .int 0, .int 0, .int 0, .int 0], kO x57 6 [.int 0, .ref x58, .ref x59, .ref x60, .ref x61, .ref x62, .ref x63, .ref x64], kJ cJ o0 1 (fun _ => 0), kO y0 10 [.ref y1, .int 0, .int 1, .ref y2, .int 0, .int (-1), .int 0, .int 0, .int 0, .int 0, .int 0, .int 0, .int 0, .int 0, .int 0, .int 0, .int 0, .int 0, .ref y10, .ref y11, .ref y12, .ref y13, .ref y14, .ref y15, .ref y16, .ref y17, .int 0, .ref y18, .int 0, .int 0, .ref y3, .ref y4, .ref y5, .ref y6, .int 0, .int 0, .int 0, .ref y19, .int 0, .int 0, .int 0, .int 0, .ref y7, .ref y8, .long 0, .ref y9], kI cI y18 5760 fa] := hD
    refine lv_istore (lv' := [(6, .int 0), (5, .int 1), (4, .int 0), (3, .ref o0), (2, .ref y0), (1, .ref x0), (0, .ref b)]) hx hb dL_law_431 hl (by decide) rfl (fun ls hl => ?_)
    refine lv_aload_n hx hb dL_law_433 rfl (lv_at hl 4 rfl) ?_
    refine kk_pi (kk_runV (w1 := [kO y0 10 [.ref y1, .int 0, .int 1, .ref y2, .int 0, .int (-1), .int 0, .int 0, .int 0, .int 0, .int 0, .int 0, .int 0, .int 0, .int 0, .int 0, .int 0, .int 0, .ref y10, .ref y11, .ref y12, .ref y13, .ref y14, .ref y15, .ref y16, .ref y17, .int 0, .ref y18, .int 0, .int 0, .ref y3, .ref y4, .ref y5, .ref y6, .int 0, .int 0, .int 0, .ref y19, .int 0, .int 0, .int 0, .int 0, .ref y7, .ref y8, .long 0, .ref y9]]) (As := []) (rest := []) hx hb hml hown hts hE (c_X11_thrown1 l D cB cI cJ cD y0 (.ref y1) 0 (.ref y2) 0 (-1) 0 0 0 0 0 0 0 0 0 0 0 0 (.ref y10) (.ref y11) (.ref y12) (.ref y13) (.ref y14) (.ref y15) (.ref y16) (.ref y17) 0 (.ref y18) 0 0 (.ref y3) (.ref y4) (.ref y5) (.ref y6) 0 0 0 (.ref y19) 0 0 0 0 (.ref y7) (.ref y8) 0 (.ref y9) H.size) m_X11_thrown w_1440 ⟨rfl, rfl, Nat.le_of_ble_eq_true rfl, Nat.le_of_ble_eq_true rfl⟩ (hP.sub [6] rfl) (hD.sub [6] (by decide +kernel) rfl) 0 10 rfl rfl rfl hl.1 (Nat.le_of_ble_eq_true rfl) dL_law_434 ⟨Nat.le_of_ble_eq_true rfl, Nat.le_of_ble_eq_true rfl⟩) (fun r_6 p_6 => ?_)
    obtain rfl : r_6 = 1 := p_6
    refine lv_iload hx hb dL_law_437 (lv_at hl 1 rfl) ?_
    refine lv_icmp_eq (tgt := 444) hx hb dL_law_439 (by decide) (fun _ => ?_) (fun c_7 => absurd rfl c_7)
    refine lv_iload hx hb dL_law_444 (lv_at hl 1 rfl) ?_
    refine lv_if_ne (tgt := 461) hx hb dL_law_446 (by decide) (fun _ => ?_) (fun c_8 => absurd c_8 (by decide))
    refine lv_goto (tgt := 1863) hx hb dL_law_461 (by decide) ?_
    exact hfin _ _ _ _ _ hS (Nat.le_of_ble_eq_true rfl) (Nat.le_of_ble_eq_true rfl) (lv_sub hl [6, 2] rfl)
