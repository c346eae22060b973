theorem zev_ret : ∀ (n : Nat) {m pc : Nat} {L st : List zV} {h : zH} {o : Option zV × zH}, zev n m pc L st h = some o → o.1 = none ∨ ∃ a, o.1 = some (vI a) := by
  intro n
  induction n with
  | zero => intro m pc L st h o e; cases e
  | succ n ih =>
    intro m pc L st h o e
    cases hd : decode (zb m) pc with
    | error z => rw [zev, hd] at e; cases e
    | ok q =>
      obtain ⟨i, len⟩ := q
      rw [zev_step hd] at e
      cases ha : zact m i pc len L st h with
      | inl q =>
        obtain ⟨pc', L', st', h'⟩ := q
        rw [ha] at e
        exact ih e
      | inr q =>
        cases q with
        | inl q =>
          obtain ⟨c, as, pc', st'⟩ := q
          rw [ha] at e
          simp only at e
          cases hc : zev n c 0 (zin0 c as) [] h with
          | none => rw [hc] at e; cases e
          | some r =>
            rw [hc] at e
            exact ih e
        | inr q =>
          rw [ha] at e
          cases q with
          | inl r =>
            cases e
            rcases zac0_ret (zact_inv (by simp) ha).2 with ⟨_, _, _, e1⟩ | ⟨_, a, _, _, e1, _⟩
            · exact Or.inl e1
            · exact Or.inr ⟨a, e1⟩
          | inr _ => cases e
theorem zon_cn : ∀ ci : Nat, ci < 12 → zon ci = zCn ci := by decide +kernel
theorem zRO.frame {A : Nat → Prop} {ad : Nat → Nat} {sv : Value} {s U : State} {HH : Heap} {h : zH} (hv : U.vm = s.vm) (r : zRO A ad sv s HH h) : zRO A ad sv U HH h := by
  have ha : s.vm.Alike U.vm := by rw [hv]; exact Vm.Alike.refl _
  obtain ⟨r1, r2, r3, r4, r5, r6, r7, r8, r9⟩ := r
  refine ⟨r1.moved ha, fun k hk => ⟨(r2 k hk).1.moved ha, (r2 k hk).2.moved ha⟩, r3.moved ha, r4.moved ha, fun k hk => ?_, fun w hw => ?_, r7.moved ha, r8.moved ha, ?_⟩
  · obtain ⟨a1, a2, a3, a4, a5, a6⟩ := r5 k hk
    exact ⟨va_O.moved ha a1, va_OF.moved ha a2, va_OF.moved ha a3, a4.moved ha, a5, a6.same hv⟩
  · have hz := r6 w hw
    have h2 := (List.mem_filter.mp hw).2
    cases w <;> first | (cases h2; done) | exact va_Nw.same rfl hv.symm hz
  · obtain ⟨cell, a1, a2, a3, a4, a5⟩ := r9
    exact ⟨cell, a1, a2, a3, by rw [hv]; exact a4, a5⟩
section ZM
variable {l : Launch}
set_option maxHeartbeats 1000000 in
theorem zs_call {n : Nat} (ih : zSnd l n) {p : Program} {e : Env} {R : Room} {s : State} {mi : MethodId} {args : Array Value} {below : List Frame} {meth : Method} {c : Code} {Q : State → Prop} {D : va_G} {cs : Nat → ClassId} {A : Nat → Prop} {sv : Value} {m n0 : Nat} {ad0 : Nat → Nat} {pc len : Nat} {L st : List zV} {h hf : zH} {i : Instr} (cx : zCx p R s mi args meth c D cs A sv m n0 hf.2.2.1)
    (hd : decode (zb m) pc = .ok (i, len)) (hlen : ziln i = 0 ∨ ziln i = len) {d pc' : Nat} {as st' : List zV} (ha : zac0 m i pc len L st h = .inr (.inl (d, as, pc', st'))) {r1 : Option zV} {h1 : zH} (hc : zev n d 0 (zin0 d as) [] h = some (r1, h1)) (hk2 : h.2.2.1 ≤ zNP → h1.2.2.1 ≤ hf.2.2.1) (K : zG p l e R s mi args below meth c Q D cs A sv m n0 ad0 pc' L (zpush r1 st') h1) : zG p l e R s mi args below meth c Q D cs A sv m n0 ad0 pc L st h := by
  obtain ⟨idx, k1, k2, hz, hi⟩ := zac0_call ha
  obtain ⟨k, hml, hkk, c1, c2, c3, c4, c5, c6, c7, has, hpc, hst', hrec⟩ := zcall_call hz
  have hl3 : len = 3 := by rcases hi with ⟨rfl, _⟩ | ⟨rfl, _⟩ | ⟨rfl, _⟩ <;> simp only [ziln] at hlen <;> omega
  subst hl3
  intro ad H locs ls hw hl hL hvo hnl hso hn0 had
  have hNP : zNP = 103 := rfl
  obtain ⟨hP, hD, hS, hI, hR, hn, hro⟩ := hw
  obtain ⟨hx, hb, hmx, hown, hts, hlocks, hname, hfr, hlo, hcl, hsl, hK, hsv, hA⟩ := id cx
  have hsvc := zsvc cx
  have kp : zkp h h1 := zev_kp n hn hc
  have hk3 := hk2 hn
  obtain ⟨m1, m2, m3, m4, m5, m6, m7⟩ := zm_ok c2
  have hmem : ∀ v ∈ as, v ∈ st := fun v hv => by rw [has] at hv; exact List.mem_of_mem_take (List.mem_reverse.mp hv)
  have hs : ∀ v ∈ as, v.isSome = true ∧ zvo h.2.2.1 v := fun v hv => hso v (hmem v hv)
  have hnla : zhl d = false → ∀ v ∈ as, znl v = true := fun z v hv => by
    have hv' : v ∈ st.take (zna d) := by rw [has] at hv; exact List.mem_reverse.mp hv
    have h2 := List.all_eq_true.mp c6 v hv'
    simp only [Bool.and_eq_true, Bool.or_eq_true] at h2
    rcases h2.2 with h3 | h3
    · rw [z] at h3; cases h3
    · exact h3
  have met := zmet ih hc c2 D cs sv hsv ad H.size hs hnla c7 hI hR hn
  have hFree : ∀ q, va_A (zws cs ad h) H.size q → A q := by
    rintro q (⟨k, y, hk⟩ | hq)
    · exact hD.2 k (q, y) hk
    · exact hA q (Nat.le_trans hS.1 hq)
  have hroH : zRO (va_A (zws cs ad h) H.size) ad sv s H h := (hro.kept hS.2.1).narrow hFree
  have hblind : FrameBlind (zPc D cs sv ad H.size as h) := fun a U g mk q => by
    obtain ⟨q0, q1, qP, qK, qD, qR⟩ := q
    have qR2 : zRO (va_A (zws cs ad h) H.size) ad sv (U.calling g mk a) U.heap h := zRO.frame (s := U) (U := U.calling g mk a) rfl qR
    exact ⟨q0, q1, qP, va_K.moved (u := U) (U := U.calling g mk a) (Vm.Alike.refl U.vm) qK, qD, qR2⟩
  have hpre : ∀ U : State, U.heap = H → s.WarmedH U.vm → zPc D cs sv ad H.size as h (as.map (zcv ad sv)).toArray U := fun U hU hW =>
    ⟨rfl, by rw [hU], by rw [hU]; exact hP, va_K.moved hW.alike hK, hD.weaken (fun _ _ _ _ => trivial), by rw [hU]; exact hroH.moved hW⟩
  have hG : GoodIn zgt (Cond.code (zy d) (zb d) (zL d) (zret d) :: zgt) := fun w hw => (List.mem_cons.mp hw).elim (fun z => z ▸ zgt_good _ m1) (zgt_good w)
  have hsum : 2 * (F0 mi pc ls (st.map (zcv ad sv))).monitorRoom + ((st'.map (zcv ad sv)).map fun v => v.category).sum ≤ 8 := lv_room (by rw [zcat_sum hsvc, hst']; exact c5)
  have hsp : st = as.reverse ++ st' := by rw [has, hst', List.reverse_reverse, List.take_append_drop]
  have hal : as.length = zna d := by rw [has, List.length_reverse, List.length_take]; omega
  have hroom : h.2.2.1 - n0 + (h1.2.2.1 - h.2.2.1) ≤ R.cells ∧ zsl h.2.2.1 - zsl n0 + (zsl h1.2.2.1 - zsl h.2.2.1) ≤ R.slots := by
    have a1 := zsl_mono hn0
    have a2 := zsl_mono kp.1
    have a3 := zsl_mono hk3
    have a4 := kp.1
    omega
  have hfix : CallFix p mi c (zb m) (zL m) s args zgt (zon (zo m)) := ⟨hx, hb, hmx, hown, hts⟩
  have hlsz : ls.size = zL m := by rw [← hL]; exact hl.1
  have hR2 : (zrm d h h1).frames + 1 ≤ R.frames ∧ 8 + (zL d + 11) + (zrm d h h1).locals ≤ R.locals := ⟨Nat.le_trans c3 hfr, Nat.le_trans c4 hlo⟩
  obtain ⟨y, ey, hy⟩ := zml_in hml
  -- the call
  have run : va_Run p l e R s mi args below meth c H locs (h.2.2.1 - n0) (zsl h.2.2.1 - zsl n0) (h1.2.2.1 - h.2.2.1) (zsl h1.2.2.1 - zsl h.2.2.1) (F0 mi pc ls (st.map (zcv ad sv))) (st'.map (zcv ad sv)) (zQc D cs ad H.size h h1 r1 (as.map (zcv ad sv)).toArray) (va_A (zws cs ad h) H.size) := by
    have recvx : ∀ x rest0, as = vR x :: rest0 → x ≠ 0 ∧ x ≠ 1200 → as.map (zcv ad sv) = .ref (ad x) :: rest0.map (zcv ad sv) ∧ st.map (zcv ad sv) = (rest0.map (zcv ad sv)).reverse ++ .ref (ad x) :: st'.map (zcv ad sv) ∧ (rest0.map (zcv ad sv)).length = zna d - 1 := by
      intro x rest0 e0 hx0
      have e1 : as.map (zcv ad sv) = .ref (ad x) :: rest0.map (zcv ad sv) := by
        rw [e0]
        show zcv ad sv (vR x) :: _ = _
        rw [zcv_p hx0.1 hx0.2]
      refine ⟨e1, ?_, ?_⟩
      · rw [hsp, List.map_append, List.map_reverse, e1, List.reverse_cons, List.append_assoc]
        rfl
      · rw [List.length_map, ← hal, e0]
        rfl
    rcases hi with ⟨rfl, rfl, rfl⟩ | ⟨rfl, rfl, rfl⟩ | ⟨rfl, rfl, rfl⟩
    · have k0 : k = 0 := by omega
      subst k0
      unfold zmlR at hy
      rw [ey] at hy
      simp only [if_true, Bool.and_eq_true, decide_eq_true_eq] at hy
      obtain ⟨⟨⟨⟨⟨w1, w2⟩, w3⟩, _⟩, w4⟩, w5⟩ := hy
      obtain ⟨x, rest0, e0, hrc⟩ := hrec (by decide)
      have hx0 : x ≠ 0 ∧ x ≠ 1200 := by
        rcases hrc with ⟨g1, g2⟩ | ⟨g1, g2⟩
        · exact ⟨fun z => by (rw [z, zkd_0] at g1; cases g1), by omega⟩
        · refine ⟨fun z => by (rw [z, zkd_0] at g2; cases g2), fun z => ?_⟩
          rw [z] at g2
          exact absurd g2 (by decide +kernel)
      obtain ⟨e1, e2, e3⟩ := recvx x rest0 e0 hx0
      have hrv : ∃ cellB : Cell, H[ad x]? = some cellB ∧ cellB.vm.isStatics = false ∧ s.vm.findClass (zy d).cls = some cellB.cls := by
        rcases hrc with ⟨g1, g2⟩ | ⟨g1, g2⟩
        · have hci := zkd_lo x (by omega) (by rw [g1])
          rw [g1] at hci
          have he := zws_at cs ad (h := h) (p := x) (by omega) g2
          rw [zcell_o g1] at he
          have := va_recv hK hP (zcls hci).1 he
          rw [← m6, zon_cn _ hci]
          exact this
        · have hx : ∃ j, j < 6 ∧ x = 1000 + j := by
            by_cases hxl : x ≤ 103
            · have := zkd_lo x hxl (by rw [g2])
              rw [g2] at this
              exact absurd this (by decide)
            · rcases zkd_hi (p := x) (by omega) with z | ⟨_, z⟩ | ⟨_, z⟩ | ⟨j, hj, e1, _⟩ | ⟨j, _, _, z⟩
              · rw [z] at g2; cases g2
              · rw [z] at g2; cases g2
              · rw [z] at g2; cases g2
              · exact ⟨j, hj, e1⟩
              · rw [z] at g2; cases g2
          obtain ⟨j, hj, rfl⟩ := hx
          obtain ⟨cell, b1, b2, b3, b4⟩ := (hro.2.2.2.2.1 j hj).1.kept hS.2.1
          refine ⟨cell, b1, b2, ?_⟩
          rw [← m6, g1]
          exact b3
      have r := va_runV (As := rest0.map (zcv ad sv)) (rest := st'.map (zcv ad sv)) (b := ad x) (C := (zy d).cls) (locs := locs) (cells := h.2.2.1 - n0) (slots := zsl h.2.2.1 - zsl n0) (below := below) (e := e) (meth := meth) (g := F0 mi pc ls (st.map (zcv ad sv))) hfix met ⟨callB_of (zna d - 1) hts hG rfl rfl rfl (hts _ m2) (hts _ (zwq_in w1)) ⟨m3, m4, w4⟩ hR2, hts _ (zwq_in w2), hts _ (zwq_in w3)⟩ ⟨hblind, hrv, fun U hU hW => by rw [← e1]; exact hpre U hU hW⟩ rfl e3 hlsz e2 hsum hd hroom
      rw [← e1] at r
      exact r
    · have k0 : k = 1 := by omega
      subst k0
      unfold zmlR at hy
      rw [ey] at hy
      simp only [show ¬ (1 : Nat) = 0 by decide, if_false, if_true, Bool.and_eq_true, decide_eq_true_eq] at hy
      obtain ⟨⟨⟨w1, w2⟩, _⟩, w4⟩ := hy
      refine va_runS hfix met ⟨callB_of (zna d) hts hG rfl rfl rfl (hts _ m2) (hts _ (zwq_in w1)) ⟨m3, m4, w4⟩ hR2, hts _ (zwq_in w2)⟩ ⟨hblind, hpre⟩ rfl (by rw [List.length_map]; exact hal) hlsz ?_ hsum hd hroom
      show st.map (zcv ad sv) = (as.map (zcv ad sv)).reverse ++ st'.map (zcv ad sv)
      rw [hsp, List.map_append, List.map_reverse]
    · have k0 : k = 2 ∨ k = 3 := hkk
      obtain ⟨x, rest0, e0, hrc⟩ := hrec (by omega)
      have hx0 : x ≠ 0 ∧ x ≠ 1200 := by
        rcases hrc with ⟨g1, g2⟩ | ⟨g1, g2⟩
        · exact ⟨fun z => by (rw [z, zkd_0] at g1; cases g1), by omega⟩
        · refine ⟨fun z => by (rw [z, zkd_0] at g2; cases g2), fun z => ?_⟩
          rw [z] at g2
          exact absurd g2 (by decide +kernel)
      obtain ⟨e1, e2, e3⟩ := recvx x rest0 e0 hx0
      rcases k0 with rfl | rfl
      · unfold zmlR at hy
        rw [ey] at hy
        simp only [show ¬ (2 : Nat) = 0 by decide, show ¬ (2 : Nat) = 1 by decide, if_false, if_true, Bool.and_eq_true, decide_eq_true_eq] at hy
        obtain ⟨⟨⟨⟨⟨⟨w1, w2⟩, _⟩, w4⟩, _⟩, w6⟩, w7⟩ := hy
        have r := va_runI (As := rest0.map (zcv ad sv)) (rest := st'.map (zcv ad sv)) (b := ad x) (locs := locs) (cells := h.2.2.1 - n0) (slots := zsl h.2.2.1 - zsl n0) (below := below) (e := e) (meth := meth) (g := F0 mi pc ls (st.map (zcv ad sv))) hfix met ⟨callB_of (zna d - 1) hts hG (by rw [w7]) rfl rfl (hts _ m2) (hts _ (zwq_in w1)) ⟨m3, m4, w4⟩ hR2, w6, hts _ (zwq_in w2)⟩ ⟨hblind, fun U hU hW => by rw [← e1]; exact hpre U hU hW⟩ rfl e3 hlsz e2 hsum hd hroom
        rw [← e1] at r
        exact r
      · unfold zmlR at hy
        rw [ey] at hy
        simp only [show ¬ (3 : Nat) = 0 by decide, show ¬ (3 : Nat) = 1 by decide, show ¬ (3 : Nat) = 2 by decide, if_false, if_true, Bool.and_eq_true, decide_eq_true_eq] at hy
        obtain ⟨⟨⟨⟨⟨⟨w1, w2⟩, _⟩, w4⟩, _⟩, w6⟩, w7⟩ := hy
        unfold znw at w1
        rw [Bool.and_eq_true, decide_eq_true_eq] at w1
        have hnw := hro.2.2.2.2.2.1 _ (List.mem_filter.mpr ⟨List.mem_of_getElem? w1.1, rfl⟩)
        have r := va_runIN (As := rest0.map (zcv ad sv)) (rest := st'.map (zcv ad sv)) (b := ad x) (locs := locs) (cells := h.2.2.1 - n0) (slots := zsl h.2.2.1 - zsl n0) (below := below) (e := e) (meth := meth) (g := F0 mi pc ls (st.map (zcv ad sv))) hfix met ⟨va_cnB (zna d - 1) hts hG (by rw [w7]) rfl rfl hnw (hts _ m2) ⟨m3, m4, w4⟩ hR2, w6, hts _ (zwq_in w2)⟩ ⟨hblind, fun U hU hW => by rw [← e1]; exact hpre U hU hW⟩ rfl e3 hlsz e2 hsum hd hroom
        rw [← e1] at r
        exact r
  -- behind it
  have cont : ∀ (u : Nat → Nat) (t : State) (H1 : Heap) (locs1 : List Loc), t.heap = H1 → s.vm.Alike t.vm → zPo ad h h1 u → zB D cs (va_A (zws cs ad h) H.size) h1 u t → va_S A s.heap H1 locs1 → (∀ v ∈ zpush r1 st', v.isSome = true ∧ zvo h1.2.2.1 v) → W p l e R s mi args below meth c H1 locs1 (h.2.2.1 - n0 + (h1.2.2.1 - h.2.2.1)) (zsl h.2.2.1 - zsl n0 + (zsl h1.2.2.1 - zsl h.2.2.1)) Q (F0 mi (pc + 3) ls ((zpush r1 st').map (zcv u sv))) := by
    intro u t H1 locs1 ht hvm hpo hB hS1 hst
    have a1 := zsl_mono hn0
    have a2 := zsl_mono kp.1
    have a4 := kp.1
    rw [show h.2.2.1 - n0 + (h1.2.2.1 - h.2.2.1) = h1.2.2.1 - n0 by omega, show zsl h.2.2.1 - zsl n0 + (zsl h1.2.2.1 - zsl h.2.2.1) = zsl h1.2.2.1 - zsl n0 by omega, ← hpc]
    refine K u H1 locs1 ls ⟨by rw [← ht]; exact hB.1, hB.2.2.weaken (fun _ _ _ z => hFree _ z), hS1, hpo.2.1, hpo.2.2, kp.2.1, zRO.same (h := h) (ad := ad) (fun x hx => (kp.2.2.2 x hx).1) (fun x hx => (kp.2.2.2 x hx).2) kp.2.2.1 (fun x hx => hpo.1 x (Or.inr hx)) hro⟩ ⟨hl.1, hl.2.1, fun k w hk => ?_⟩ hL (fun v hv => zvo_mono kp.1 (hvo v hv)) hnl hst (by omega) (fun x hx => by rw [hpo.1 x (by omega)]; exact had x hx)
    rw [zcv_ext hpo.1 (hvo _ (List.mem_of_getElem? hk))]
    exact hl.2.2 k w hk
  have hst1 : ∀ v ∈ st', v.isSome = true ∧ zvo h1.2.2.1 v := fun v hv => by
    have h2 := hso v (by rw [hst'] at hv; exact List.mem_of_mem_drop hv)
    exact ⟨h2.1, zvo_mono kp.1 h2.2⟩
  have hmap : ∀ u, (∀ q, q ≤ h.2.2.1 ∨ 899 ≤ q → u q = ad q) → st'.map (zcv u sv) = st'.map (zcv ad sv) := fun u hu => List.map_congr_left (fun v hv => zcv_ext hu (hso v (by rw [hst'] at hv; exact List.mem_of_mem_drop hv)).2)
  rcases zev_ret n hc with e1 | ⟨a, e1⟩
  · have e1 : r1 = none := e1
    subst e1
    refine va_callv (a := (as.map (zcv ad sv)).toArray) (S := Nat → Nat) (post := fun u => zPo ad h h1 u) (B := zB D cs (va_A (zws cs ad h) H.size) h1) run hS (fun q _ h => hFree q h) hFree (fun u t H1 locs1 ht hvm hpo hB _ _ hS1 => ?_)
    have k := cont u t H1 locs1 ht hvm hpo hB hS1 hst1
    have k' : W p l e R s mi args below meth c H1 locs1 (h.2.2.1 - n0 + (h1.2.2.1 - h.2.2.1)) (zsl h.2.2.1 - zsl n0 + (zsl h1.2.2.1 - zsl h.2.2.1)) Q (F0 mi (pc + 3) ls (st'.map (zcv u sv))) := k
    rw [hmap u hpo.1] at k'
    exact k'
  · have e1 : r1 = some (vI a) := e1
    subst e1
    refine va_calli (a := (as.map (zcv ad sv)).toArray) (S := Nat → Nat) (post := fun x u => x = Int32.ofInt a ∧ zPo ad h h1 u ∧ zRI a) (B := zB D cs (va_A (zws cs ad h) H.size) h1) run hS (fun q _ h => hFree q h) hFree (fun x u t H1 locs1 ht hvm hpo hB _ _ hS1 => ?_)
    obtain ⟨rfl, hpo, ra⟩ := hpo
    have k := cont u t H1 locs1 ht hvm hpo hB hS1 (zcons ⟨rfl, ra⟩ hst1)
    have k' : W p l e R s mi args below meth c H1 locs1 (h.2.2.1 - n0 + (h1.2.2.1 - h.2.2.1)) (zsl h.2.2.1 - zsl n0 + (zsl h1.2.2.1 - zsl h.2.2.1)) Q (F0 mi (pc + 3) ls (.int (Int32.ofInt a) :: st'.map (zcv u sv))) := k
    rw [hmap u hpo.1] at k'
    exact k'
set_option maxHeartbeats 1000000 in
theorem zs_all {p : Program} {e : Env} {R : Room} {s : State} {mi : MethodId} {args : Array Value} {below : List Frame} {meth : Method} {c : Code} {Q : State → Prop} {D : va_G} {cs : Nat → ClassId} {A : Nat → Prop} {sv : Value} {m n0 nf : Nat} {ad0 : Nat → Nat} {pc len : Nat} {L st : List zV} {h : zH} {q : Nat × List zV × List zV × zH} {i : Instr} (cx : zCx p R s mi args meth c D cs A sv m n0 nf) (hd : decode (zb m) pc = .ok (i, len)) (hlen : ziln i = 0 ∨ ziln i = len) (ha : zac0 m i pc len L st h = .inl q) (hnf : q.2.2.2.2.2.1 ≤ nf) (K : zG p l e R s mi args below meth c Q D cs A sv m n0 ad0 q.1 q.2.1 q.2.2.1 q.2.2.2) : zG p l e R s mi args below meth c Q D cs A sv m n0 ad0 pc L st h := by
  cases i
  case iconst => exact zs_iconst cx hd hlen ha K
  case bipush => exact zs_bipush cx hd hlen ha K
  case sipush => exact zs_sipush cx hd hlen ha K
  case lconst => exact zs_lconst cx hd hlen ha K
  case aconst_null => exact zs_null cx hd hlen ha K
  case ldc => exact zs_ldc cx hd hlen ha K
  case ldc_w => exact zs_ldcw cx hd hlen ha K
  case ldc2_w => exact zs_ldc2 cx hd hlen ha K
  case getstatic => exact zs_getstatic cx hd hlen ha K
  case iload => exact zs_iload cx hd hlen ha K
  case iload_n => exact zs_iload_n cx hd hlen ha K
  case lload => exact zs_lload cx hd hlen ha K
  case lload_n => exact zs_lload_n cx hd hlen ha K
  case aload => exact zs_aload cx hd hlen ha K
  case aload_n => exact zs_aload_n cx hd hlen ha K
  case istore => exact zs_istore cx hd hlen ha K
  case istore_n => exact zs_istore_n cx hd hlen ha K
  case astore => exact zs_astore cx hd hlen ha K
  case astore_n => exact zs_astore_n cx hd hlen ha K
  case lstore => exact zs_lstore cx hd hlen ha K
  case iinc => exact zs_iinc cx hd hlen ha K
  case iadd => exact zs_iadd cx hd hlen ha K
  case isub => exact zs_isub cx hd hlen ha K
  case imul => exact zs_imul cx hd hlen ha K
  case idiv => exact zs_idiv cx hd hlen ha K
  case irem => exact zs_irem cx hd hlen ha K
  case iand => exact zs_iand cx hd hlen ha K
  case ior => exact zs_ior cx hd hlen ha K
  case ixor => exact zs_ixor cx hd hlen ha K
  case ishl => exact zs_ishl cx hd hlen ha K
  case ishr => exact zs_ishr cx hd hlen ha K
  case iushr => exact zs_iushr cx hd hlen ha K
  case i2l => exact zs_i2l cx hd hlen ha K
  case l2i => exact zs_l2i cx hd hlen ha K
  case i2b => exact zs_i2b cx hd hlen ha K
  case i2c => exact zs_i2c cx hd hlen ha K
  case ladd => exact zs_ladd cx hd hlen ha K
  case lcmp => exact zs_lcmp cx hd hlen ha K
  case dup => exact zs_dup cx hd hlen ha K (zsvc cx)
  case dup2 => exact zs_dup2 cx hd hlen ha K (zsvc cx)
  case pop => exact zs_pop cx hd hlen ha K (zsvc cx)
  case goto => exact zs_goto cx hd hlen ha K
  case ifCond => exact zs_if cx hd hlen ha K
  case if_icmp => exact zs_icmp cx hd hlen ha K
  case ifnull => exact zs_ifnull cx hd hlen ha K
  case tableswitch => exact zs_tab cx hd ha K
  case lookupswitch => exact zs_look cx hd ha K
  case getfield => exact zs_getfield cx hd hlen ha K
  case putfield => exact zs_putfield cx hd hlen ha K
  case iaload => exact zs_iaload cx hd hlen ha K
  case baload => exact zs_baload cx hd hlen ha K
  case laload => exact zs_laload cx hd hlen ha K
  case aaload => exact zs_aaload cx hd hlen ha K
  case iastore => exact zs_iastore cx hd hlen ha K
  case bastore => exact zs_bastore cx hd hlen ha K
  case lastore => exact zs_lastore cx hd hlen ha K
  case aastore => exact zs_aastore cx hd hlen ha K
  case arraylength => exact zs_alen cx hd hlen ha K
  case new => exact zs_new cx hd hlen ha hnf K
  case newarray => exact zs_newarray cx hd hlen ha hnf K
  case anewarray => exact zs_anewarray cx hd hlen ha hnf K
  case checkcast => exact zs_checkcast cx hd hlen ha K
  case invokevirtual a =>
    obtain rfl := zl3 rfl hlen
    obtain ⟨k, d, hm, ⟨_, z, _⟩ | ⟨_, z, _⟩ | ⟨rfl, _, s1, rfl, hc, rfl⟩⟩ := zcall_go (show zcall m (zo m) a (pc + 3) 0 0 L st h = .inl q from ha)
    · cases z
    · cases z
    · exact zs_clone cx hd hm hc hnf K
  case invokestatic a =>
    obtain rfl := zl3 rfl hlen
    obtain ⟨k, d, hm, ⟨_, z, _⟩ | ⟨rfl, _, n, dp, x, sp, y, s1, rfl, hc, rfl⟩ | ⟨_, z, _⟩⟩ := zcall_go (show zcall m (zo m) a (pc + 3) 1 1 L st h = .inl q from ha)
    · cases z
    · exact zs_acopy cx hd hm hc K
    · cases z
  case invokespecial a =>
    obtain rfl := zl3 rfl hlen
    obtain ⟨k, d, hm, ⟨rfl, _, x, s1, rfl, hc, rfl⟩ | ⟨_, z, _⟩ | ⟨_, z, _⟩⟩ := zcall_go (show zcall m (zo m) a (pc + 3) 2 3 L st h = .inl q from ha)
    · exact zs_objinit cx hd hm hc K
    · cases z
    · cases z
  case ireturn =>
    exfalso
    simp only [zac0, zrt] at ha
    repeat' split at ha
    all_goals (cases ha; done)
  case return_ =>
    exfalso
    simp only [zac0] at ha
    split at ha
    all_goals (cases ha; done)
  all_goals (exfalso; simp only [zac0] at ha; cases ha; done)
/-- SOUNDNESS: what the abstract machine comes to, the JVM comes to -/
theorem zsound (l : Launch) : ∀ n, zSnd l n := by
  intro n
  induction n with
  | zero => intro m pc L st h r hf e; cases e
  | succ n ih =>
    intro m pc L st h r hf ev p e R s mi args below meth c Q D cs A sv n0 ad0 cx fin
    cases hd : decode (zb m) pc with
    | error z => rw [zev, hd] at ev; cases ev
    | ok q =>
      obtain ⟨i, len⟩ := q
      rw [zev_step hd] at ev
      refine zG_np (fun hnp => ?_)
      cases ha : zact m i pc len L st h with
      | inl q =>
        rw [ha] at ev
        obtain ⟨hlen, ha⟩ := zact_inv (by simp) ha
        have kp1 := zac0_kp hnp ha
        obtain ⟨pc', L', st', h'⟩ := q
        have kp2 := zev_kp n kp1.2.1 ev
        exact zs_all cx hd hlen ha kp2.1 (ih m pc' L' st' h' r hf ev p e R s mi args below meth c Q D cs A sv n0 ad0 cx fin)
      | inr q =>
        cases q with
        | inl q =>
          obtain ⟨d, as, pc', st'⟩ := q
          rw [ha] at ev
          simp only at ev
          obtain ⟨hlen, ha⟩ := zact_inv (by simp) ha
          cases hc : zev n d 0 (zin0 d as) [] h with
          | none => rw [hc] at ev; cases ev
          | some x =>
            rw [hc] at ev
            obtain ⟨r1, h1⟩ := x
            exact zs_call ih cx hd hlen ha hc (fun hn => (zev_kp n (zev_kp n hn hc).2.1 ev).1) (ih m pc' L (zpush r1 st') h1 r hf ev p e R s mi args below meth c Q D cs A sv n0 ad0 cx fin)
        | inr q =>
          rw [ha] at ev
          cases q with
          | inl r' =>
            obtain ⟨hlen, ha⟩ := zact_inv (by simp) ha
            cases ev
            intro ad H locs ls hw hl hL hvo hnl hso hn0 had
            rcases zac0_ret ha with ⟨rfl, rfl, e3, rfl⟩ | ⟨rfl, a, ty, rfl, rfl, e3, e4⟩
            · obtain rfl := zl1 rfl hlen
              exact fin pc _ ad H locs ls hd (Or.inl ⟨rfl, e3, rfl⟩) hw hn0 had
            · obtain rfl := zl1 rfl hlen
              have ra : zRI a := (hso _ List.mem_cons_self).2
              exact fin pc _ ad H locs ls hd (Or.inr ⟨rfl, a, ty, rfl, e3, ra, e4 ra⟩) hw hn0 had
          | inr _ => cases ev
end ZM
