/-! ===== new cells, what the library does itself ===== -/
theorem zml_in {o i k d : Nat} (hc : zml o i = some (k, d)) : ∃ x, x.1 = (o, i, k, d) ∧ zmlR x = true := by
  have h1 := zfind hc
  rw [← zmlQ_eq] at h1
  obtain ⟨x, hx, e⟩ := List.mem_map.mp h1
  refine ⟨x, e, ?_⟩
  obtain ⟨j, hj⟩ := List.getElem?_of_mem hx
  have hl : j < 253 := by
    have := (List.getElem?_eq_some_iff.mp hj).1
    rw [zmlQ_len] at this
    exact this
  have seg : ∀ b, b ≤ j → j < b + 40 → x ∈ (zmlQ.drop b).take 40 := fun b h1 h2 => by
    refine List.mem_of_getElem? (i := j - b) ?_
    rw [List.getElem?_take, if_pos (by omega), List.getElem?_drop, show b + (j - b) = j by omega]
    exact hj
  have hd : j < 40 ∨ (40 ≤ j ∧ j < 80) ∨ (80 ≤ j ∧ j < 120) ∨ (120 ≤ j ∧ j < 160) ∨ (160 ≤ j ∧ j < 200) ∨ (200 ≤ j ∧ j < 240) ∨ (240 ≤ j ∧ j < 280) := by omega
  rcases hd with z | z | z | z | z | z | z
  · exact List.all_eq_true.mp zmlQ_ok0 x (seg 0 (by omega) (by omega))
  · exact List.all_eq_true.mp zmlQ_ok1 x (seg 40 (by omega) (by omega))
  · exact List.all_eq_true.mp zmlQ_ok2 x (seg 80 (by omega) (by omega))
  · exact List.all_eq_true.mp zmlQ_ok3 x (seg 120 (by omega) (by omega))
  · exact List.all_eq_true.mp zmlQ_ok4 x (seg 160 (by omega) (by omega))
  · exact List.all_eq_true.mp zmlQ_ok5 x (seg 200 (by omega) (by omega))
  · exact List.all_eq_true.mp zmlQ_ok6 x (seg 240 (by omega) (by omega))
theorem zcn_ok {o i ci : Nat} (hc : zcn o i = some ci) : if ci = 30 then Cond.classLink (zon o) i "[I" ∈ zgt else ci < 12 ∧ Cond.classLink (zon o) i (zCn ci) ∈ zgt ∧ Cond.instantiable (zCn ci) (znF ci) ∈ zgt := by
  have h1 := zfind hc
  rw [← zcnQ_eq] at h1
  obtain ⟨x, hx, e⟩ := List.mem_map.mp h1
  have h2 := List.all_eq_true.mp zcnQ_ok x hx
  rw [e] at h2
  by_cases h3 : ci = 30
  · rw [if_pos h3]
    simp only [h3, if_true] at h2
    exact zwq_in h2
  · rw [if_neg h3]
    simp only [if_neg h3, Bool.and_eq_true, decide_eq_true_eq] at h2
    exact ⟨h2.1.1, zwq_in h2.1.2, zwq_in h2.2⟩
theorem zmOk_all {d : Nat} (hd : d < 217) : zmOk d = true := by
  have seg : ∀ b n, (List.range n).all (fun j => zmOk (b + j)) = true → b ≤ d → d < b + n → zmOk d = true := fun b n h h1 h2 => by
    have := List.all_eq_true.mp h (d - b) (List.mem_range.mpr (by omega))
    rw [show b + (d - b) = d by omega] at this
    exact this
  have hs : d < 31 ∨ (31 ≤ d ∧ d < 62) ∨ (62 ≤ d ∧ d < 93) ∨ (93 ≤ d ∧ d < 124) ∨ (124 ≤ d ∧ d < 155) ∨ (155 ≤ d ∧ d < 186) ∨ (186 ≤ d ∧ d < 217) := by omega
  rcases hs with z | z | z | z | z | z | z
  · exact seg 0 31 zmOk_0 (by omega) (by omega)
  · exact seg 31 31 zmOk_1 (by omega) (by omega)
  · exact seg 62 31 zmOk_2 (by omega) (by omega)
  · exact seg 93 31 zmOk_3 (by omega) (by omega)
  · exact seg 124 31 zmOk_4 (by omega) (by omega)
  · exact seg 155 31 zmOk_5 (by omega) (by omega)
  · exact seg 186 31 zmOk_6 (by omega) (by omega)
theorem zm_ok {d : Nat} (hd : d < 217) : Cond.code (zy d) (zb d) (zL d) (zret d) ∈ zgt ∧ Cond.initialized (zy d).cls ∈ zgt ∧ (zy d).cls ≠ "java/lang/invoke/MethodHandle" ∧ (zy d).cls ≠ "java/lang/invoke/VarHandle" ∧ plainFor (zy d) = true ∧ zon (zo d) = (zy d).cls ∧ (zin d = true → (zy d).name = "<init>") := by
  have h := zmOk_all hd
  unfold zmOk at h
  simp only [Bool.and_eq_true, decide_eq_true_eq] at h
  obtain ⟨⟨⟨⟨⟨⟨h1, h2⟩, h3⟩, h4⟩, h5⟩, h6⟩, h7⟩ := h
  refine ⟨zwq_in h1, zwq_in h2, h3, h4, h5, h6, fun z => ?_⟩
  rw [z] at h7
  simpa using h7
section ZS6
variable {p : Program} {l : Launch} {e : Env} {R : Room} {s : State} {mi : MethodId} {args : Array Value} {below : List Frame} {meth : Method} {c : Code} {Q : State → Prop} {D : va_G} {cs : Nat → ClassId} {A : Nat → Prop} {sv : Value} {m n0 nf : Nat} {ad0 : Nat → Nat}
variable {pc len : Nat} {L st : List zV} {h : zH} {q : Nat × List zV × List zV × zH}
def zad (ad : Nat → Nat) (n a : Nat) : Nat → Nat := fun x => if x = n then a else ad x
/-- a step that makes a cell -/
theorem zG_mk {pc' : Nat} {s1 : List zV} {h' : zH} {e0 : va_E} (cx : zCx p R s mi args meth c D cs A sv m n0 nf) (hnf : h'.2.2.1 ≤ nf) (K : zG p l e R s mi args below meth c Q D cs A sv m n0 ad0 pc' L (vR (h.2.2.1 + 1) :: s1) h') (hlt : h.2.2.1 < zNP) (hn : h'.2.2.1 = h.2.2.1 + 1) (hL' : h'.2.2.2 = h.2.2.2) (hI : zokI h → zokI h') (hR : zokR h → zokR h')
    (e1 : ∀ x, x ≠ h.2.2.1 + 1 → h'.1 x = h.1 x) (e2 : ∀ x, x ≠ h.2.2.1 + 1 → h'.2.1 x = h.2.1 x) (he0 : ∀ ad, zRO A ad sv s s.heap h → ∀ a, e0 = zcell cs (zad ad (h.2.2.1 + 1) a) h' (h.2.2.1 + 1))
    (hst : (∀ v ∈ st, v.isSome = true ∧ zvo h.2.2.1 v) → ∀ v ∈ s1, v.isSome = true ∧ zvo h.2.2.1 v)
    (T : ∀ (ad : Nat → Nat) (H : Heap) (locs : List Loc) (ls : Array Slot) (cells slots : Nat), zWd D cs A s sv H locs ad h → zlr ad sv L ls → L.length = zL m → (∀ v ∈ st, v.isSome = true ∧ zvo h.2.2.1 v) → cells + 1 ≤ R.cells → slots + zsz (h.2.2.1 + 1) ≤ R.slots → (∀ (a : Nat) (H1 : Heap), va_P D vwCl (zws cs ad h ++ [(a, e0)]) H1 → va_D A (zws cs ad h ++ [(a, e0)]) → va_S A s.heap H1 locs → W p l e R s mi args below meth c H1 locs (cells + 1) (slots + zsz (h.2.2.1 + 1)) Q (F0 mi pc' ls (.ref a :: s1.map (zcv ad sv)))) → W p l e R s mi args below meth c H locs cells slots Q (F0 mi pc ls (st.map (zcv ad sv)))) : zG p l e R s mi args below meth c Q D cs A sv m n0 ad0 pc L st h := by
  intro ad H locs ls hw hl hL hvo hnl hso hn0 had
  have hNP : zNP = 103 := rfl
  have c1 := cx.2.2.2.2.2.2.2.2.2.1
  have c2 := cx.2.2.2.2.2.2.2.2.2.2.1
  have m1 := zsl_mono hn0
  have m2 := zsl_mono (a := h.2.2.1 + 1) (b := nf) (by omega)
  have m3 : zsl (h.2.2.1 + 1) = zsl h.2.2.1 + zsz (h.2.2.1 + 1) := rfl
  refine T ad H locs ls _ _ hw hl hL hso (by omega) (by omega) (fun a H1 hP hD hS => ?_)
  have hz : ∀ x, x ≤ h.2.2.1 → zad ad (h.2.2.1 + 1) a x = ad x := fun x hx => by unfold zad; rw [if_neg (by omega)]
  have hz9 : ∀ x, 899 ≤ x → zad ad (h.2.2.1 + 1) a x = ad x := fun x hx => by unfold zad; rw [if_neg (by omega)]
  have hza : zad ad (h.2.2.1 + 1) a (h.2.2.1 + 1) = a := by unfold zad; rw [if_pos rfl]
  have hcell : ∀ x, 1 ≤ x → x ≤ h.2.2.1 → zcell cs (zad ad (h.2.2.1 + 1) a) h' x = zcell cs ad h x := by
    intro x _ hx
    have g1 : ∀ j, h'.1 x j = h.1 x j := fun j => by rw [e1 x (by omega)]
    have g2 : ∀ j, h'.2.1 x j = h.2.1 x j := fun j => by rw [e2 x (by omega)]
    have g3 : ∀ j, zrfo (zad ad (h.2.2.1 + 1) a) (h.2.1 x j) = zrfo ad (h.2.1 x j) := fun j => by unfold zrfo; rw [hz _ (hw.2.2.2.2.1.1 x j hx)]
    unfold zcell zfv
    simp only [g1, g2, g3]
  have hpush := zws_push (cs := cs) (ad := ad) (ad' := zad ad (h.2.2.1 + 1) a) (h := h) (h' := h') hn (fun x _ hx => hz x hx) hcell (e := e0) (a := a) hza.symm (he0 ad hw.2.2.2.2.2.2 a)
  rw [hpush] at hP hD
  have hext : ∀ x, x ≤ h.2.2.1 ∨ 899 ≤ x → zad ad (h.2.2.1 + 1) a x = ad x := fun x hx => hx.elim (hz x) (hz9 x)
  have hlr : zlr (zad ad (h.2.2.1 + 1) a) sv L ls := ⟨hl.1, hl.2.1, fun k w hk => by rw [zcv_ext hext (hvo _ (List.mem_of_getElem? hk))]; exact hl.2.2 k w hk⟩
  have k := K (zad ad (h.2.2.1 + 1) a) H1 locs ls ⟨hP, hD, hS, hI hw.2.2.2.1, hR hw.2.2.2.2.1, by omega, zRO.same (h := h) (ad := ad) (fun x hx => e1 x (by omega)) (fun x hx => e2 x (by omega)) hL' (fun x hx => hz9 x hx) hw.2.2.2.2.2.2⟩ hlr hL (fun v hv => zvo_mono (by omega) (hvo v hv)) hnl
    (zcons ⟨rfl, Or.inl (by omega)⟩ (fun v hv => ⟨(hst hso v hv).1, zvo_mono (by omega) (hst hso v hv).2⟩)) (by omega) (fun x hx => by rw [hext x (by omega)]; exact had x hx)
  have es : s1.map (zcv (zad ad (h.2.2.1 + 1) a) sv) = s1.map (zcv ad sv) := List.map_congr_left (fun v hv => zcv_ext hext (hst hso v hv).2)
  rw [hn] at k
  have k' : W p l e R s mi args below meth c H1 locs (h.2.2.1 + 1 - n0) (zsl (h.2.2.1 + 1) - zsl n0) Q (F0 mi pc' ls (zcv (zad ad (h.2.2.1 + 1) a) sv (vR (h.2.2.1 + 1)) :: s1.map (zcv (zad ad (h.2.2.1 + 1) a) sv))) := k
  rw [es, zcv_p (by omega) (by omega), hza] at k'
  rw [show h.2.2.1 - n0 + 1 = h.2.2.1 + 1 - n0 by omega, show zsl h.2.2.1 - zsl n0 + zsz (h.2.2.1 + 1) = zsl (h.2.2.1 + 1) - zsl n0 by omega]
  exact k'
theorem zmk_I (i : zokI h) : zokI (zmk h) := fun x j => by
  show zRI (zfill h.1 (h.2.2.1 + 1) x j)
  unfold zfill
  split
  · exact zR0
  · exact i x j
theorem zmk_R (hlt : h.2.2.1 < zNP) (r : zokR h) : zokR (zmk h) := by
  have hNP : zNP = 103 := rfl
  refine ⟨fun x j hx => ?_, fun j hj => ?_⟩
  · show zfilR h.2.1 (h.2.2.1 + 1) x j ≤ h.2.2.1 + 1
    unfold zfilR
    split
    · omega
    · rename_i hne
      have hx' : x ≤ h.2.2.1 + 1 := hx
      have := r.1 x j (by omega)
      omega
  · show zfilR h.2.1 (h.2.2.1 + 1) (1000 + j) 0 = 1100 + j
    unfold zfilR
    rw [if_neg (by omega)]
    exact r.2 j hj
theorem zmk_1 {x : Nat} (hx : x ≠ h.2.2.1 + 1) : (zmk h).1 x = h.1 x := by
  funext j
  show zfill h.1 (h.2.2.1 + 1) x j = h.1 x j
  unfold zfill
  rw [if_neg hx]
theorem zmk_2 {x : Nat} (hx : x ≠ h.2.2.1 + 1) : (zmk h).2.1 x = h.2.1 x := by
  funext j
  show zfilR h.2.1 (h.2.2.1 + 1) x j = h.2.1 x j
  unfold zfilR
  rw [if_neg hx]
theorem zmk_n1 (j : Int) : (zmk h).1 (h.2.2.1 + 1) j = 0 := by
  show zfill h.1 (h.2.2.1 + 1) (h.2.2.1 + 1) j = 0
  unfold zfill
  rw [if_pos rfl]
theorem zmk_n2 (j : Int) : (zmk h).2.1 (h.2.2.1 + 1) j = 0 := by
  show zfilR h.2.1 (h.2.2.1 + 1) (h.2.2.1 + 1) j = 0
  unfold zfilR
  rw [if_pos rfl]
theorem zs_new {a : Nat} (cx : zCx p R s mi args meth c D cs A sv m n0 nf) (hd : decode (zb m) pc = .ok (.new a, len)) (hlen : ziln (.new a) = 0 ∨ ziln (.new a) = len) (ha : zac0 m (.new a) pc len L st h = .inl q) (hnf : q.2.2.2.2.2.1 ≤ nf) (K : zG p l e R s mi args below meth c Q D cs A sv m n0 ad0 q.1 q.2.1 q.2.2.1 q.2.2.2) : zG p l e R s mi args below meth c Q D cs A sv m n0 ad0 pc L st h := by
  obtain rfl := zl3 rfl hlen
  simp only [zac0, znew] at ha
  split at ha
  · rename_i ci hc
    split at ha
    · rename_i hk
      cases Sum.inl.inj ha
      have hcn := zcn_ok hc
      have hci : ci < 12 := by
        have := zkd_lo (h.2.2.1 + 1) (by have : zNP = 103 := rfl; omega) (by rw [hk.1])
        rw [hk.1] at this
        exact this
      rw [if_neg (by omega)] at hcn
      obtain ⟨hvc, hu⟩ := zcls hci
      obtain ⟨ty, hty, htc⟩ := zty hci
      refine zG_mk (e0 := .inr (ci, (List.range (znF ci)).map (fun k => if zft ci k = 2 then Value.null else .int 0))) cx hnf K hk.2 rfl rfl zmk_I (zmk_R hk.2) (fun x hx => zmk_1 hx) (fun x hx => zmk_2 hx) (fun ad _ a => ?_) (fun hs => hs) (fun ad H locs ls cells slots hw hl hL hs hc1 hc2 kk => ?_)
      · rw [zcell_o hk.1]
        congr 2
        apply List.map_congr_left
        intro k _
        unfold zfv
        rw [zmk_n1, zmk_n2]
        rfl
      · have hsz : zsz (h.2.2.1 + 1) = znF ci := by unfold zsz; rw [hk.1, if_pos rfl]
        rw [hsz] at hc2 kk
        refine va_new cx.1 cx.2.1 cx.2.2.2.2.1 hu ty hty cx.2.2.2.1 (cx.2.2.2.2.1 _ hcn.2.1) (cx.2.2.2.2.1 _ hcn.2.2) ?_ cx.2.2.2.2.2.2.2.2.2.2.2.1 hw.1 hw.2.1 hw.2.2.1 cx.2.2.2.2.2.2.2.2.2.2.2.2.2 hvc (fun j hj => ?_) hc1 hc2 hd (fun x H1 hP hD hS => kk x H1 hP hD hS)
        · have hz : (List.range 12).all (fun ci => decide (Cond.initialized (zCn ci) ∈ tables_1) && goodWord (Cond.initialized (zCn ci))) = true := by decide +kernel
          have h2 := List.all_eq_true.mp hz ci (List.mem_range.mpr hci)
          simp only [Bool.and_eq_true, decide_eq_true_eq] at h2
          exact cx.2.2.2.2.1 _ (List.mem_filter.mpr ⟨List.mem_append_right _ h2.1, h2.2⟩)
        · unfold vp_V
          rw [List.getD_eq_getElem?_getD, List.getElem?_map, List.getElem?_range hj]
          show defaultValue (ty j) = if zft ci j = 2 then Value.null else .int 0
          rcases htc j hj with ⟨z1, z2⟩ | ⟨z1, z2⟩ | ⟨z1, ⟨n, z2⟩ | ⟨n, z2⟩⟩ <;> rw [z1, z2] <;> rfl
    · cases ha
  · cases ha
end ZS6
